def RX0 : String := "DepotCharge$Bus"
def TX0 : u_T := fun k => match k with
  | 0 => ("DepotCharge$Bus", "size", "I", false)
  | 1 => ("DepotCharge$Bus", "charge", "I", false)
  | 2 => ("DepotCharge$Bus", "need", "I", false)
  | 3 => ("DepotCharge$Bus", "leaves", "I", false)
  | 4 => ("DepotCharge$Bus", "back", "I", false)
  | 5 => ("DepotCharge$Bus", "wear", "I", false)
  | 6 => ("DepotCharge$Bus", "out", "Z", false)
  | 7 => ("DepotCharge$Bus", "rank", "I", false)
  | 8 => ("DepotCharge$Bus", "atCharger", "I", false)
  | _ => ("DepotCharge$Bus", "units", "I", false)
def tyX0 : Nat → FieldType := fun k => match k with
  | 0 => .int
  | 1 => .int
  | 2 => .int
  | 3 => .int
  | 4 => .int
  | 5 => .int
  | 6 => .boolean
  | 7 => .int
  | 8 => .int
  | _ => .int
theorem nmX0 : ∀ a, a < 10 → ∀ b, b < 10 → a ≠ b → (TX0 a).2.1 ≠ (TX0 b).2.1 := by decide +kernel
theorem tyX0_ok : ∀ k, k < 10 → parseFieldDescriptor (TX0 k).2.2.1 = some (tyX0 k) := by decide +kernel
abbrev cX0_init : ByteArray := prog_2_method_1_code
def yX0_init : MethodName := ⟨RX0, "<init>", "()V"⟩
abbrev cX0_becomeLike : ByteArray := prog_2_method_2_code
def yX0_becomeLike : MethodName := ⟨RX0, "becomeLike", "(LDepotCharge$Bus;)V"⟩
abbrev cX0_giveRoute : ByteArray := prog_2_method_3_code
def yX0_giveRoute : MethodName := ⟨RX0, "giveRoute", "(III)V"⟩
abbrev cX0_giveBattery : ByteArray := prog_2_method_4_code
def yX0_giveBattery : MethodName := ⟨RX0, "giveBattery", "(I)V"⟩
abbrev cX0_isLow : ByteArray := prog_2_method_5_code
def yX0_isLow : MethodName := ⟨RX0, "isLow", "()Z"⟩
abbrev cX0_word : ByteArray := prog_2_method_6_code
def yX0_word : MethodName := ⟨RX0, "word", "()Ljava/lang/String;"⟩
abbrev cX0_goOut : ByteArray := prog_2_method_7_code
def yX0_goOut : MethodName := ⟨RX0, "goOut", "(II)V"⟩
abbrev cX0_wearOfRoute : ByteArray := prog_2_method_8_code
def yX0_wearOfRoute : MethodName := ⟨RX0, "wearOfRoute", "()I"⟩
def RX1 : String := "DepotCharge$Depot"
def TX1 : u_T := fun k => match k with
  | 0 => ("DepotCharge$Depot", "buses", "[LDepotCharge$Bus;", true)
  | 1 => ("DepotCharge$Depot", "powers", "[I", true)
  | 2 => ("DepotCharge$Depot", "order", "[I", true)
  | 3 => ("DepotCharge$Depot", "settings", "[I", true)
  | 4 => ("DepotCharge$Depot", "busCount", "I", false)
  | 5 => ("DepotCharge$Depot", "chargerCount", "I", false)
  | 6 => ("DepotCharge$Depot", "hour", "I", false)
  | 7 => ("DepotCharge$Depot", "paid", "I", false)
  | 8 => ("DepotCharge$Depot", "charged", "I", false)
  | 9 => ("DepotCharge$Depot", "missed", "I", false)
  | _ => ("DepotCharge$Depot", "gone", "I", false)
def tyX1 : Nat → FieldType := fun k => match k with
  | 0 => .array (.object "DepotCharge$Bus")
  | 1 => .array .int
  | 2 => .array .int
  | 3 => .array .int
  | 4 => .int
  | 5 => .int
  | 6 => .int
  | 7 => .int
  | 8 => .int
  | 9 => .int
  | _ => .int
theorem nmX1 : ∀ a, a < 11 → ∀ b, b < 11 → a ≠ b → (TX1 a).2.1 ≠ (TX1 b).2.1 := by decide +kernel
theorem tyX1_ok : ∀ k, k < 11 → parseFieldDescriptor (TX1 k).2.2.1 = some (tyX1 k) := by decide +kernel
abbrev cX1_init : ByteArray := prog_3_method_1_code
def yX1_init : MethodName := ⟨RX1, "<init>", "()V"⟩
abbrev cX1_becomeNew : ByteArray := prog_3_method_2_code
def yX1_becomeNew : MethodName := ⟨RX1, "becomeNew", "()V"⟩
abbrev cX1_becomeLike : ByteArray := prog_3_method_3_code
def yX1_becomeLike : MethodName := ⟨RX1, "becomeLike", "(LDepotCharge$Depot;)V"⟩
abbrev cX1_isFullOfBuses : ByteArray := prog_3_method_4_code
def yX1_isFullOfBuses : MethodName := ⟨RX1, "isFullOfBuses", "()Z"⟩
abbrev cX1_isFullOfChargers : ByteArray := prog_3_method_5_code
def yX1_isFullOfChargers : MethodName := ⟨RX1, "isFullOfChargers", "()Z"⟩
abbrev cX1_busAt : ByteArray := prog_3_method_6_code
def yX1_busAt : MethodName := ⟨RX1, "busAt", "(I)LDepotCharge$Bus;"⟩
abbrev cX1_hasCharger : ByteArray := prog_3_method_7_code
def yX1_hasCharger : MethodName := ⟨RX1, "hasCharger", "(I)Z"⟩
abbrev cX1_powerOf : ByteArray := prog_3_method_8_code
def yX1_powerOf : MethodName := ⟨RX1, "powerOf", "(I)I"⟩
abbrev cX1_placeOf : ByteArray := prog_3_method_9_code
def yX1_placeOf : MethodName := ⟨RX1, "placeOf", "(I)I"⟩
abbrev cX1_settingOf : ByteArray := prog_3_method_10_code
def yX1_settingOf : MethodName := ⟨RX1, "settingOf", "(I)I"⟩
abbrev cX1_countOut : ByteArray := prog_3_method_11_code
def yX1_countOut : MethodName := ⟨RX1, "countOut", "()I"⟩
abbrev cX1_countLow : ByteArray := prog_3_method_12_code
def yX1_countLow : MethodName := ⟨RX1, "countLow", "()I"⟩
abbrev cX1_sumOfCharges : ByteArray := prog_3_method_13_code
def yX1_sumOfCharges : MethodName := ⟨RX1, "sumOfCharges", "()I"⟩
abbrev cX1_isOut : ByteArray := prog_3_method_14_code
def yX1_isOut : MethodName := ⟨RX1, "isOut", "(I)Z"⟩
abbrev cX1_hasCharge : ByteArray := prog_3_method_15_code
def yX1_hasCharge : MethodName := ⟨RX1, "hasCharge", "(II)Z"⟩
abbrev cX1_hourOfDay : ByteArray := prog_3_method_16_code
def yX1_hourOfDay : MethodName := ⟨RX1, "hourOfDay", "()I"⟩
abbrev cX1_isNight : ByteArray := prog_3_method_17_code
def yX1_isNight : MethodName := ⟨RX1, "isNight", "()Z"⟩
abbrev cX1_hoursUntilLeaving : ByteArray := prog_3_method_18_code
def yX1_hoursUntilLeaving : MethodName := ⟨RX1, "hoursUntilLeaving", "(LDepotCharge$Bus;)I"⟩
abbrev cX1_isMissedNow : ByteArray := prog_3_method_19_code
def yX1_isMissedNow : MethodName := ⟨RX1, "isMissedNow", "(I)Z"⟩
abbrev cX1_putBus : ByteArray := prog_3_method_20_code
def yX1_putBus : MethodName := ⟨RX1, "putBus", "(IIIII)I"⟩
abbrev cX1_putCharger : ByteArray := prog_3_method_21_code
def yX1_putCharger : MethodName := ⟨RX1, "putCharger", "(I)I"⟩
abbrev cX1_change : ByteArray := prog_3_method_22_code
def yX1_change : MethodName := ⟨RX1, "change", "(II)V"⟩
abbrev cX1_tryPutBus : ByteArray := prog_3_method_23_code
def yX1_tryPutBus : MethodName := ⟨RX1, "tryPutBus", "(IIIII)Z"⟩
abbrev cX1_tryPutCharger : ByteArray := prog_3_method_24_code
def yX1_tryPutCharger : MethodName := ⟨RX1, "tryPutCharger", "(I)Z"⟩
abbrev cX1_tryGiveRoute : ByteArray := prog_3_method_25_code
def yX1_tryGiveRoute : MethodName := ⟨RX1, "tryGiveRoute", "(IIII)Z"⟩
abbrev cX1_tryGiveBattery : ByteArray := prog_3_method_26_code
def yX1_tryGiveBattery : MethodName := ⟨RX1, "tryGiveBattery", "(II)Z"⟩
abbrev cX1_tryChange : ByteArray := prog_3_method_27_code
def yX1_tryChange : MethodName := ⟨RX1, "tryChange", "(II)Z"⟩
abbrev cX1_tryPassHours : ByteArray := prog_3_method_28_code
def yX1_tryPassHours : MethodName := ⟨RX1, "tryPassHours", "(I)Z"⟩
abbrev cX1_passHours : ByteArray := prog_3_method_29_code
def yX1_passHours : MethodName := ⟨RX1, "passHours", "(I)V"⟩
abbrev cX1_moveBuses : ByteArray := prog_3_method_30_code
def yX1_moveBuses : MethodName := ⟨RX1, "moveBuses", "()V"⟩
abbrev cX1_isDue : ByteArray := prog_3_method_31_code
def yX1_isDue : MethodName := ⟨RX1, "isDue", "(LDepotCharge$Bus;)Z"⟩
abbrev cX1_sendOut : ByteArray := prog_3_method_32_code
def yX1_sendOut : MethodName := ⟨RX1, "sendOut", "(LDepotCharge$Bus;)V"⟩
abbrev cX1_lineUp : ByteArray := prog_3_method_33_code
def yX1_lineUp : MethodName := ⟨RX1, "lineUp", "()V"⟩
abbrev cX1_plugIn : ByteArray := prog_3_method_34_code
def yX1_plugIn : MethodName := ⟨RX1, "plugIn", "()V"⟩
abbrev cX1_rankOf : ByteArray := prog_3_method_35_code
def yX1_rankOf : MethodName := ⟨RX1, "rankOf", "(LDepotCharge$Bus;Z)I"⟩
abbrev cX1_firstInLine : ByteArray := prog_3_method_36_code
def yX1_firstInLine : MethodName := ⟨RX1, "firstInLine", "()I"⟩
abbrev cX1_chargeBuses : ByteArray := prog_3_method_37_code
def yX1_chargeBuses : MethodName := ⟨RX1, "chargeBuses", "()V"⟩
abbrev cX1_unitsOf : ByteArray := prog_3_method_38_code
def yX1_unitsOf : MethodName := ⟨RX1, "unitsOf", "(I)I"⟩
abbrev cX1_chargerOf : ByteArray := prog_3_method_39_code
def yX1_chargerOf : MethodName := ⟨RX1, "chargerOf", "(I)I"⟩
abbrev cX1_busAtCharger : ByteArray := prog_3_method_40_code
def yX1_busAtCharger : MethodName := ⟨RX1, "busAtCharger", "(I)I"⟩
def RX2 : String := "DepotCharge$History"
def TX2 : u_T := fun k => match k with
  | 0 => ("DepotCharge$History", "states", "[LDepotCharge$Depot;", true)
  | _ => ("DepotCharge$History", "count", "I", false)
def tyX2 : Nat → FieldType := fun k => match k with
  | 0 => .array (.object "DepotCharge$Depot")
  | _ => .int
theorem nmX2 : ∀ a, a < 2 → ∀ b, b < 2 → a ≠ b → (TX2 a).2.1 ≠ (TX2 b).2.1 := by decide +kernel
theorem tyX2_ok : ∀ k, k < 2 → parseFieldDescriptor (TX2 k).2.2.1 = some (tyX2 k) := by decide +kernel
abbrev cX2_init : ByteArray := prog_4_method_1_code
def yX2_init : MethodName := ⟨RX2, "<init>", "()V"⟩
abbrev cX2_isEmpty : ByteArray := prog_4_method_2_code
def yX2_isEmpty : MethodName := ⟨RX2, "isEmpty", "()Z"⟩
abbrev cX2_remember : ByteArray := prog_4_method_3_code
def yX2_remember : MethodName := ⟨RX2, "remember", "(LDepotCharge$Depot;)V"⟩
abbrev cX2_forgetOldest : ByteArray := prog_4_method_4_code
def yX2_forgetOldest : MethodName := ⟨RX2, "forgetOldest", "()V"⟩
abbrev cX2_takeBack : ByteArray := prog_4_method_5_code
def yX2_takeBack : MethodName := ⟨RX2, "takeBack", "(LDepotCharge$Depot;)I"⟩
abbrev cX2_forgetAll : ByteArray := prog_4_method_6_code
def yX2_forgetAll : MethodName := ⟨RX2, "forgetAll", "()V"⟩
def RX3 : String := "DepotCharge$Text"
def TX3 : u_T := fun k => match k with
  | 0 => ("DepotCharge$Text", "signs", "[C", true)
  | 1 => ("DepotCharge$Text", "length", "I", false)
  | 2 => ("DepotCharge$Text", "at", "I", false)
  | 3 => ("DepotCharge$Text", "firstLetter", "I", false)
  | _ => ("DepotCharge$Text", "numbers", "[I", true)
def tyX3 : Nat → FieldType := fun k => match k with
  | 0 => .array .char
  | 1 => .int
  | 2 => .int
  | 3 => .int
  | _ => .array .int
theorem nmX3 : ∀ a, a < 5 → ∀ b, b < 5 → a ≠ b → (TX3 a).2.1 ≠ (TX3 b).2.1 := by decide +kernel
theorem tyX3_ok : ∀ k, k < 5 → parseFieldDescriptor (TX3 k).2.2.1 = some (tyX3 k) := by decide +kernel
abbrev cX3_init : ByteArray := prog_5_method_1_code
def yX3_init : MethodName := ⟨RX3, "<init>", "()V"⟩
abbrev cX3_isFull : ByteArray := prog_5_method_2_code
def yX3_isFull : MethodName := ⟨RX3, "isFull", "()Z"⟩
abbrev cX3_put : ByteArray := prog_5_method_3_code
def yX3_put : MethodName := ⟨RX3, "put", "(C)I"⟩
abbrev cX3_empty : ByteArray := prog_5_method_4_code
def yX3_empty : MethodName := ⟨RX3, "empty", "()I"⟩
abbrev cX3_findError : ByteArray := prog_5_method_5_code
def yX3_findError : MethodName := ⟨RX3, "findError", "()I"⟩
abbrev cX3_doAllIn : ByteArray := prog_5_method_6_code
def yX3_doAllIn : MethodName := ⟨RX3, "doAllIn", "(LDepotCharge$Depot;)I"⟩
abbrev cX3_doIn : ByteArray := prog_5_method_7_code
def yX3_doIn : MethodName := ⟨RX3, "doIn", "(LDepotCharge$Depot;)Z"⟩
abbrev cX3_readCommand : ByteArray := prog_5_method_8_code
def yX3_readCommand : MethodName := ⟨RX3, "readCommand", "()Z"⟩
abbrev cX3_readWord : ByteArray := prog_5_method_9_code
def yX3_readWord : MethodName := ⟨RX3, "readWord", "(Ljava/lang/String;)Z"⟩
abbrev cX3_readNumber : ByteArray := prog_5_method_10_code
def yX3_readNumber : MethodName := ⟨RX3, "readNumber", "(III)Z"⟩
abbrev cX3_readDigit : ByteArray := prog_5_method_11_code
def yX3_readDigit : MethodName := ⟨RX3, "readDigit", "(III)Z"⟩
abbrev cX3_beginsNumber : ByteArray := prog_5_method_12_code
def yX3_beginsNumber : MethodName := ⟨RX3, "beginsNumber", "(III)Z"⟩
abbrev cX3_readSign : ByteArray := prog_5_method_13_code
def yX3_readSign : MethodName := ⟨RX3, "readSign", "(I)Z"⟩
abbrev cX3_digitAt : ByteArray := prog_5_method_14_code
def yX3_digitAt : MethodName := ⟨RX3, "digitAt", "(I)I"⟩
abbrev cX3_signAt : ByteArray := prog_5_method_15_code
def yX3_signAt : MethodName := ⟨RX3, "signAt", "(I)I"⟩
def RX4 : String := "DepotCharge"
def TX4 : u_T := fun k => match k with
  | 0 => ("DepotCharge", "text", "LDepotCharge$Text;", true)
  | 1 => ("DepotCharge", "now", "LDepotCharge$Depot;", true)
  | 2 => ("DepotCharge", "history", "LDepotCharge$History;", true)
  | 3 => ("DepotCharge", "slots", "[LDepotCharge$Depot;", true)
  | 4 => ("DepotCharge", "filled", "[Z", true)
  | 5 => ("DepotCharge", "trial", "LDepotCharge$Depot;", true)
  | _ => ("DepotCharge", "preview", "LDepotCharge$Depot;", true)
def tyX4 : Nat → FieldType := fun k => match k with
  | 0 => .object "DepotCharge$Text"
  | 1 => .object "DepotCharge$Depot"
  | 2 => .object "DepotCharge$History"
  | 3 => .array (.object "DepotCharge$Depot")
  | 4 => .array .boolean
  | 5 => .object "DepotCharge$Depot"
  | _ => .object "DepotCharge$Depot"
theorem nmX4 : ∀ a, a < 7 → ∀ b, b < 7 → a ≠ b → (TX4 a).2.1 ≠ (TX4 b).2.1 := by decide +kernel
theorem tyX4_ok : ∀ k, k < 7 → parseFieldDescriptor (TX4 k).2.2.1 = some (tyX4 k) := by decide +kernel
abbrev cX4_init : ByteArray := prog_1_method_1_code
def yX4_init : MethodName := ⟨RX4, "<init>", "()V"⟩
abbrev cX4_append : ByteArray := prog_1_method_2_code
def yX4_append : MethodName := ⟨RX4, "append", "(I)I"⟩
abbrev cX4_clearText : ByteArray := prog_1_method_3_code
def yX4_clearText : MethodName := ⟨RX4, "clearText", "()I"⟩
abbrev cX4_errorPosition : ByteArray := prog_1_method_4_code
def yX4_errorPosition : MethodName := ⟨RX4, "errorPosition", "()I"⟩
abbrev cX4_load : ByteArray := prog_1_method_5_code
def yX4_load : MethodName := ⟨RX4, "load", "()I"⟩
abbrev cX4_about : ByteArray := prog_1_method_6_code
def yX4_about : MethodName := ⟨RX4, "about", "(I)I"⟩
abbrev cX4_bus : ByteArray := prog_1_method_7_code
def yX4_bus : MethodName := ⟨RX4, "bus", "(II)I"⟩
abbrev cX4_charger : ByteArray := prog_1_method_8_code
def yX4_charger : MethodName := ⟨RX4, "charger", "(II)I"⟩
abbrev cX4_sign : ByteArray := prog_1_method_9_code
def yX4_sign : MethodName := ⟨RX4, "sign", "(II)I"⟩
abbrev cX4_setting : ByteArray := prog_1_method_10_code
def yX4_setting : MethodName := ⟨RX4, "setting", "(I)I"⟩
abbrev cX4_addBus : ByteArray := prog_1_method_11_code
def yX4_addBus : MethodName := ⟨RX4, "addBus", "(IIIII)I"⟩
abbrev cX4_addCharger : ByteArray := prog_1_method_12_code
def yX4_addCharger : MethodName := ⟨RX4, "addCharger", "(I)I"⟩
abbrev cX4_route : ByteArray := prog_1_method_13_code
def yX4_route : MethodName := ⟨RX4, "route", "(IIII)I"⟩
abbrev cX4_battery : ByteArray := prog_1_method_14_code
def yX4_battery : MethodName := ⟨RX4, "battery", "(II)I"⟩
abbrev cX4_run : ByteArray := prog_1_method_15_code
def yX4_run : MethodName := ⟨RX4, "run", "(I)I"⟩
abbrev cX4_set : ByteArray := prog_1_method_16_code
def yX4_set : MethodName := ⟨RX4, "set", "(II)I"⟩
abbrev cX4_undo : ByteArray := prog_1_method_17_code
def yX4_undo : MethodName := ⟨RX4, "undo", "()I"⟩
abbrev cX4_coming : ByteArray := prog_1_method_18_code
def yX4_coming : MethodName := ⟨RX4, "coming", "(II)I"⟩
abbrev cX4_firstMissed : ByteArray := prog_1_method_19_code
def yX4_firstMissed : MethodName := ⟨RX4, "firstMissed", "(I)I"⟩
abbrev cX4_leastLimit : ByteArray := prog_1_method_20_code
def yX4_leastLimit : MethodName := ⟨RX4, "leastLimit", "(I)I"⟩
abbrev cX4_bestNight : ByteArray := prog_1_method_21_code
def yX4_bestNight : MethodName := ⟨RX4, "bestNight", "(I)I"⟩
abbrev cX4_ifPlugged : ByteArray := prog_1_method_22_code
def yX4_ifPlugged : MethodName := ⟨RX4, "ifPlugged", "(II)I"⟩
abbrev cX4_runScript : ByteArray := prog_1_method_23_code
def yX4_runScript : MethodName := ⟨RX4, "runScript", "(IJ)I"⟩
abbrev cX4_simulate : ByteArray := prog_1_method_24_code
def yX4_simulate : MethodName := ⟨RX4, "simulate", "(JI)I"⟩
abbrev cX4_save : ByteArray := prog_1_method_25_code
def yX4_save : MethodName := ⟨RX4, "save", "(I)I"⟩
abbrev cX4_restore : ByteArray := prog_1_method_26_code
def yX4_restore : MethodName := ⟨RX4, "restore", "(I)I"⟩
abbrev cX4_requireWithin : ByteArray := prog_1_method_27_code
def yX4_requireWithin : MethodName := ⟨RX4, "requireWithin", "(III)V"⟩
abbrev cX4_requireBus : ByteArray := prog_1_method_28_code
def yX4_requireBus : MethodName := ⟨RX4, "requireBus", "(I)LDepotCharge$Bus;"⟩
abbrev cX4_requireInDepot : ByteArray := prog_1_method_29_code
def yX4_requireInDepot : MethodName := ⟨RX4, "requireInDepot", "(LDepotCharge$Bus;)V"⟩
abbrev cX4_requireRoomForCharger : ByteArray := prog_1_method_30_code
def yX4_requireRoomForCharger : MethodName := ⟨RX4, "requireRoomForCharger", "()V"⟩
abbrev cX4_requireSlot : ByteArray := prog_1_method_31_code
def yX4_requireSlot : MethodName := ⟨RX4, "requireSlot", "(I)V"⟩
abbrev cX4_isWithin : ByteArray := prog_1_method_32_code
def yX4_isWithin : MethodName := ⟨RX4, "isWithin", "(III)Z"⟩
abbrev cX4_isRoute : ByteArray := prog_1_method_33_code
def yX4_isRoute : MethodName := ⟨RX4, "isRoute", "(III)Z"⟩
abbrev cX4_isBus : ByteArray := prog_1_method_34_code
def yX4_isBus : MethodName := ⟨RX4, "isBus", "(IIIII)Z"⟩
abbrev cX4_isSetting : ByteArray := prog_1_method_35_code
def yX4_isSetting : MethodName := ⟨RX4, "isSetting", "(II)Z"⟩
abbrev cX4_previewOf : ByteArray := prog_1_method_36_code
def yX4_previewOf : MethodName := ⟨RX4, "previewOf", "(LDepotCharge$Depot;)LDepotCharge$Depot;"⟩
abbrev cX4_signOf : ByteArray := prog_1_method_37_code
def yX4_signOf : MethodName := ⟨RX4, "signOf", "(ILDepotCharge$Bus;)Ljava/lang/StringBuilder;"⟩
abbrev cX4_wouldDo : ByteArray := prog_1_method_38_code
def yX4_wouldDo : MethodName := ⟨RX4, "wouldDo", "(II)Z"⟩
abbrev cX4_costOfNight : ByteArray := prog_1_method_39_code
def yX4_costOfNight : MethodName := ⟨RX4, "costOfNight", "(II)I"⟩
abbrev cX4_groupsFrom : ByteArray := prog_1_method_40_code
def yX4_groupsFrom : MethodName := ⟨RX4, "groupsFrom", "(JI)J"⟩
abbrev cX4_succeeds : ByteArray := prog_1_method_41_code
def yX4_succeeds : MethodName := ⟨RX4, "succeeds", "(I)Z"⟩
abbrev cX4_simulateTurn : ByteArray := prog_1_method_42_code
def yX4_simulateTurn : MethodName := ⟨RX4, "simulateTurn", "(I)V"⟩
def RX5 : String := "DepotChargeModel"
def TX5 : u_T := fun k => match k with
  | _ => ("", "", "", false)
def tyX5 : Nat → FieldType := fun k => match k with
  | _ => .int
theorem nmX5 : ∀ a, a < 0 → ∀ b, b < 0 → a ≠ b → (TX5 a).2.1 ≠ (TX5 b).2.1 := by decide +kernel
theorem tyX5_ok : ∀ k, k < 0 → parseFieldDescriptor (TX5 k).2.2.1 = some (tyX5 k) := by decide +kernel
def RJ5 : String := "java/lang/AbstractStringBuilder"
def TJ5 : u_T := fun k => match k with
  | _ => ("", "", "", false)
def tyJ5 : Nat → FieldType := fun k => match k with
  | _ => .int
theorem nmJ5 : ∀ a, a < 0 → ∀ b, b < 0 → a ≠ b → (TJ5 a).2.1 ≠ (TJ5 b).2.1 := by decide +kernel
theorem tyJ5_ok : ∀ k, k < 0 → parseFieldDescriptor (TJ5 k).2.2.1 = some (tyJ5 k) := by decide +kernel
abbrev cJ5_init_d00df : ByteArray := prog_8_method_2_code
def yJ5_init_d00df : MethodName := ⟨RJ5, "<init>", "(I)V"⟩
abbrev cJ5_length_8abf5 : ByteArray := prog_8_method_6_code
def yJ5_length_8abf5 : MethodName := ⟨RJ5, "length", "()I"⟩
abbrev cJ5_ensureCapacityInternal_d00df : ByteArray := prog_8_method_9_code
def yJ5_ensureCapacityInternal_d00df : MethodName := ⟨RJ5, "ensureCapacityInternal", "(I)V"⟩
abbrev cJ5_newCapacity_0f7a4 : ByteArray := prog_8_method_10_code
def yJ5_newCapacity_0f7a4 : MethodName := ⟨RJ5, "newCapacity", "(I)I"⟩
abbrev cJ5_inflate_da8c8 : ByteArray := prog_8_method_11_code
def yJ5_inflate_da8c8 : MethodName := ⟨RJ5, "inflate", "()V"⟩
abbrev cJ5_charAt_5068e : ByteArray := prog_8_method_14_code
def yJ5_charAt_5068e : MethodName := ⟨RJ5, "charAt", "(I)C"⟩
abbrev cJ5_append_cf1ce : ByteArray := prog_8_method_22_code
def yJ5_append_cf1ce : MethodName := ⟨RJ5, "append", "(Ljava/lang/String;)Ljava/lang/AbstractStringBuilder;"⟩
abbrev cJ5_appendNull_278bc : ByteArray := prog_8_method_26_code
def yJ5_appendNull_278bc : MethodName := ⟨RJ5, "appendNull", "()Ljava/lang/AbstractStringBuilder;"⟩
abbrev cJ5_append_3fe6f : ByteArray := prog_8_method_31_code
def yJ5_append_3fe6f : MethodName := ⟨RJ5, "append", "(C)Ljava/lang/AbstractStringBuilder;"⟩
abbrev cJ5_append_c97b9 : ByteArray := prog_8_method_32_code
def yJ5_append_c97b9 : MethodName := ⟨RJ5, "append", "(I)Ljava/lang/AbstractStringBuilder;"⟩
abbrev cJ5_isLatin1_aae02 : ByteArray := prog_8_method_68_code
def yJ5_isLatin1_aae02 : MethodName := ⟨RJ5, "isLatin1", "()Z"⟩
abbrev cJ5_inflateIfNeededFor_a7421 : ByteArray := prog_8_method_71_code
def yJ5_inflateIfNeededFor_a7421 : MethodName := ⟨RJ5, "inflateIfNeededFor", "(Ljava/lang/String;)V"⟩
abbrev cJ5_putStringAt_47b60 : ByteArray := prog_8_method_73_code
def yJ5_putStringAt_47b60 : MethodName := ⟨RJ5, "putStringAt", "(ILjava/lang/String;)V"⟩
def RJx8e188 : String := "java/lang/Cloneable"
def TJx8e188 : u_T := fun k => match k with
  | _ => ("", "", "", false)
def tyJx8e188 : Nat → FieldType := fun k => match k with
  | _ => .int
theorem nmJx8e188 : ∀ a, a < 0 → ∀ b, b < 0 → a ≠ b → (TJx8e188 a).2.1 ≠ (TJx8e188 b).2.1 := by decide +kernel
theorem tyJx8e188_ok : ∀ k, k < 0 → parseFieldDescriptor (TJx8e188 k).2.2.1 = some (tyJx8e188 k) := by decide +kernel
def RJ6 : String := "java/lang/Integer"
def TJ6 : u_T := fun k => match k with
  | _ => ("", "", "", false)
def tyJ6 : Nat → FieldType := fun k => match k with
  | _ => .int
theorem nmJ6 : ∀ a, a < 0 → ∀ b, b < 0 → a ≠ b → (TJ6 a).2.1 ≠ (TJ6 b).2.1 := by decide +kernel
theorem tyJ6_ok : ∀ k, k < 0 → parseFieldDescriptor (TJ6 k).2.2.1 = some (tyJ6 k) := by decide +kernel
abbrev cJ6_getChars_ba4f3 : ByteArray := prog_14_method_12_code
def yJ6_getChars_ba4f3 : MethodName := ⟨RJ6, "getChars", "(II[B)I"⟩
abbrev cJ6_stringSize_0f7a4 : ByteArray := prog_14_method_13_code
def yJ6_stringSize_0f7a4 : MethodName := ⟨RJ6, "stringSize", "(I)I"⟩
def RJ9 : String := "java/lang/Math"
def TJ9 : u_T := fun k => match k with
  | _ => ("", "", "", false)
def tyJ9 : Nat → FieldType := fun k => match k with
  | _ => .int
theorem nmJ9 : ∀ a, a < 0 → ∀ b, b < 0 → a ≠ b → (TJ9 a).2.1 ≠ (TJ9 b).2.1 := by decide +kernel
theorem tyJ9_ok : ∀ k, k < 0 → parseFieldDescriptor (TJ9 k).2.2.1 = some (tyJ9 k) := by decide +kernel
abbrev cJ9_floorMod_7cf53 : ByteArray := prog_15_method_50_code
def yJ9_floorMod_7cf53 : MethodName := ⟨RJ9, "floorMod", "(II)I"⟩
abbrev cJ9_max_7cf53 : ByteArray := prog_15_method_65_code
def yJ9_max_7cf53 : MethodName := ⟨RJ9, "max", "(II)I"⟩
abbrev cJ9_min_7cf53 : ByteArray := prog_15_method_69_code
def yJ9_min_7cf53 : MethodName := ⟨RJ9, "min", "(II)I"⟩
def RJ0 : String := "java/lang/String"
def TJ0 : u_T := fun k => match k with
  | _ => ("", "", "", false)
def tyJ0 : Nat → FieldType := fun k => match k with
  | _ => .int
theorem nmJ0 : ∀ a, a < 0 → ∀ b, b < 0 → a ≠ b → (TJ0 a).2.1 ≠ (TJ0 b).2.1 := by decide +kernel
theorem tyJ0_ok : ∀ k, k < 0 → parseFieldDescriptor (TJ0 k).2.2.1 = some (tyJ0 k) := by decide +kernel
abbrev cJ0_length_8abf5 : ByteArray := prog_17_method_54_code
def yJ0_length_8abf5 : MethodName := ⟨RJ0, "length", "()I"⟩
abbrev cJ0_charAt_5068e : ByteArray := prog_17_method_56_code
def yJ0_charAt_5068e : MethodName := ⟨RJ0, "charAt", "(I)C"⟩
abbrev cJ0_getBytes_840e7 : ByteArray := prog_17_method_147_code
def yJ0_getBytes_840e7 : MethodName := ⟨RJ0, "getBytes", "([BIB)V"⟩
abbrev cJ0_coder_7d493 : ByteArray := prog_17_method_152_code
def yJ0_coder_7d493 : MethodName := ⟨RJ0, "coder", "()B"⟩
abbrev cJ0_isLatin1_aae02 : ByteArray := prog_17_method_154_code
def yJ0_isLatin1_aae02 : MethodName := ⟨RJ0, "isLatin1", "()Z"⟩
abbrev cJ0_checkIndex_df160 : ByteArray := prog_17_method_155_code
def yJ0_checkIndex_df160 : MethodName := ⟨RJ0, "checkIndex", "(II)V"⟩
abbrev cJ0_checkBoundsOffCount_cabcc : ByteArray := prog_17_method_157_code
def yJ0_checkBoundsOffCount_cabcc : MethodName := ⟨RJ0, "checkBoundsOffCount", "(III)I"⟩
abbrev cJ0_checkBoundsBeginEnd_23922 : ByteArray := prog_17_method_158_code
def yJ0_checkBoundsBeginEnd_23922 : MethodName := ⟨RJ0, "checkBoundsBeginEnd", "(III)V"⟩
def RJ4 : String := "java/lang/StringBuilder"
def TJ4 : u_T := fun k => match k with
  | 0 => ("java/lang/AbstractStringBuilder", "value", "[B", false)
  | 1 => ("java/lang/AbstractStringBuilder", "coder", "B", false)
  | 2 => ("java/lang/AbstractStringBuilder", "maybeLatin1", "Z", false)
  | _ => ("java/lang/AbstractStringBuilder", "count", "I", false)
def tyJ4 : Nat → FieldType := fun k => match k with
  | 0 => .array .byte
  | 1 => .byte
  | 2 => .boolean
  | _ => .int
theorem nmJ4 : ∀ a, a < 4 → ∀ b, b < 4 → a ≠ b → (TJ4 a).2.1 ≠ (TJ4 b).2.1 := by decide +kernel
theorem tyJ4_ok : ∀ k, k < 4 → parseFieldDescriptor (TJ4 k).2.2.1 = some (tyJ4 k) := by decide +kernel
abbrev cJ4_init_da8c8 : ByteArray := prog_18_method_1_code
def yJ4_init_da8c8 : MethodName := ⟨RJ4, "<init>", "()V"⟩
abbrev cJ4_append_15ec4 : ByteArray := prog_18_method_7_code
def yJ4_append_15ec4 : MethodName := ⟨RJ4, "append", "(Ljava/lang/String;)Ljava/lang/StringBuilder;"⟩
abbrev cJ4_append_cf468 : ByteArray := prog_18_method_14_code
def yJ4_append_cf468 : MethodName := ⟨RJ4, "append", "(C)Ljava/lang/StringBuilder;"⟩
abbrev cJ4_append_bf812 : ByteArray := prog_18_method_15_code
def yJ4_append_bf812 : MethodName := ⟨RJ4, "append", "(I)Ljava/lang/StringBuilder;"⟩
abbrev cJ4_charAt_5068e : ByteArray := prog_18_method_88_code
def yJ4_charAt_5068e : MethodName := ⟨RJ4, "charAt", "(I)C"⟩
abbrev cJ4_length_8abf5 : ByteArray := prog_18_method_93_code
def yJ4_length_8abf5 : MethodName := ⟨RJ4, "length", "()I"⟩
def RJ1 : String := "java/lang/StringLatin1"
def TJ1 : u_T := fun k => match k with
  | _ => ("", "", "", false)
def tyJ1 : Nat → FieldType := fun k => match k with
  | _ => .int
theorem nmJ1 : ∀ a, a < 0 → ∀ b, b < 0 → a ≠ b → (TJ1 a).2.1 ≠ (TJ1 b).2.1 := by decide +kernel
theorem tyJ1_ok : ∀ k, k < 0 → parseFieldDescriptor (TJ1 k).2.2.1 = some (tyJ1 k) := by decide +kernel
abbrev cJ1_charAt_3b067 : ByteArray := prog_19_method_2_code
def yJ1_charAt_3b067 : MethodName := ⟨RJ1, "charAt", "([BI)C"⟩
abbrev cJ1_canEncode_fc78d : ByteArray := prog_19_method_3_code
def yJ1_canEncode_fc78d : MethodName := ⟨RJ1, "canEncode", "(C)Z"⟩
abbrev cJ1_inflate_0e8fd : ByteArray := prog_19_method_50_code
def yJ1_inflate_0e8fd : MethodName := ⟨RJ1, "inflate", "([BI[BII)V"⟩
def RJ2 : String := "java/lang/StringUTF16"
def TJ2 : u_T := fun k => match k with
  | _ => ("", "", "", false)
def tyJ2 : Nat → FieldType := fun k => match k with
  | _ => .int
theorem nmJ2 : ∀ a, a < 0 → ∀ b, b < 0 → a ≠ b → (TJ2 a).2.1 ≠ (TJ2 b).2.1 := by decide +kernel
theorem tyJ2_ok : ∀ k, k < 0 → parseFieldDescriptor (TJ2 k).2.2.1 = some (tyJ2 k) := by decide +kernel
abbrev cJ2_newBytesFor_77867 : ByteArray := prog_20_method_2_code
def yJ2_newBytesFor_77867 : MethodName := ⟨RJ2, "newBytesFor", "(I)[B"⟩
abbrev cJ2_newBytesLength_0f7a4 : ByteArray := prog_20_method_3_code
def yJ2_newBytesLength_0f7a4 : MethodName := ⟨RJ2, "newBytesLength", "(I)I"⟩
abbrev cJ2_putChar_b72d1 : ByteArray := prog_20_method_4_code
def yJ2_putChar_b72d1 : MethodName := ⟨RJ2, "putChar", "([BII)V"⟩
abbrev cJ2_getChar_3b067 : ByteArray := prog_20_method_5_code
def yJ2_getChar_3b067 : MethodName := ⟨RJ2, "getChar", "([BI)C"⟩
abbrev cJ2_length_9d52b : ByteArray := prog_20_method_6_code
def yJ2_length_9d52b : MethodName := ⟨RJ2, "length", "([B)I"⟩
abbrev cJ2_putCharSB_b72d1 : ByteArray := prog_20_method_71_code
def yJ2_putCharSB_b72d1 : MethodName := ⟨RJ2, "putCharSB", "([BII)V"⟩
abbrev cJ2_getChars_46870 : ByteArray := prog_20_method_77_code
def yJ2_getChars_46870 : MethodName := ⟨RJ2, "getChars", "(III[B)I"⟩
abbrev cJ2_putCharsAt_cd4e5 : ByteArray := prog_20_method_81_code
def yJ2_putCharsAt_cd4e5 : MethodName := ⟨RJ2, "putCharsAt", "([BICCCC)I"⟩
abbrev cJ2_charAt_3b067 : ByteArray := prog_20_method_83_code
def yJ2_charAt_3b067 : MethodName := ⟨RJ2, "charAt", "([BI)C"⟩
abbrev cJ2_inflate_0e8fd : ByteArray := prog_20_method_86_code
def yJ2_inflate_0e8fd : MethodName := ⟨RJ2, "inflate", "([BI[BII)V"⟩
abbrev cJ2_getChars_ba4f3 : ByteArray := prog_20_method_89_code
def yJ2_getChars_ba4f3 : MethodName := ⟨RJ2, "getChars", "(II[B)I"⟩
abbrev cJ2_checkIndex_2214a : ByteArray := prog_20_method_91_code
def yJ2_checkIndex_2214a : MethodName := ⟨RJ2, "checkIndex", "(I[B)V"⟩
abbrev cJ2_checkBoundsBeginEnd_d044e : ByteArray := prog_20_method_93_code
def yJ2_checkBoundsBeginEnd_d044e : MethodName := ⟨RJ2, "checkBoundsBeginEnd", "(II[B)V"⟩
abbrev cJ2_checkBoundsOffCount_d044e : ByteArray := prog_20_method_94_code
def yJ2_checkBoundsOffCount_d044e : MethodName := ⟨RJ2, "checkBoundsOffCount", "(II[B)V"⟩
def RJ10 : String := "java/lang/System"
def TJ10 : u_T := fun k => match k with
  | _ => ("", "", "", false)
def tyJ10 : Nat → FieldType := fun k => match k with
  | _ => .int
theorem nmJ10 : ∀ a, a < 0 → ∀ b, b < 0 → a ≠ b → (TJ10 a).2.1 ≠ (TJ10 b).2.1 := by decide +kernel
theorem tyJ10_ok : ∀ k, k < 0 → parseFieldDescriptor (TJ10 k).2.2.1 = some (tyJ10 k) := by decide +kernel
def RJ7 : String := "java/util/Arrays"
def TJ7 : u_T := fun k => match k with
  | _ => ("", "", "", false)
def tyJ7 : Nat → FieldType := fun k => match k with
  | _ => .int
theorem nmJ7 : ∀ a, a < 0 → ∀ b, b < 0 → a ≠ b → (TJ7 a).2.1 ≠ (TJ7 b).2.1 := by decide +kernel
theorem tyJ7_ok : ∀ k, k < 0 → parseFieldDescriptor (TJ7 k).2.2.1 = some (tyJ7 k) := by decide +kernel
abbrev cJ7_copyOf_9075b : ByteArray := prog_23_method_121_code
def yJ7_copyOf_9075b : MethodName := ⟨RJ7, "copyOf", "([BI)[B"⟩
def RJ8 : String := "jdk/internal/util/ArraysSupport"
def TJ8 : u_T := fun k => match k with
  | _ => ("", "", "", false)
def tyJ8 : Nat → FieldType := fun k => match k with
  | _ => .int
theorem nmJ8 : ∀ a, a < 0 → ∀ b, b < 0 → a ≠ b → (TJ8 a).2.1 ≠ (TJ8 b).2.1 := by decide +kernel
theorem tyJ8_ok : ∀ k, k < 0 → parseFieldDescriptor (TJ8 k).2.2.1 = some (tyJ8 k) := by decide +kernel
abbrev cJ8_newLength_cabcc : ByteArray := prog_24_method_27_code
def yJ8_newLength_cabcc : MethodName := ⟨RJ8, "newLength", "(III)I"⟩
abbrev cJ8_hugeLength_7cf53 : ByteArray := prog_24_method_28_code
def yJ8_hugeLength_7cf53 : MethodName := ⟨RJ8, "hugeLength", "(II)I"⟩
def RJ3 : String := "jdk/internal/util/Preconditions"
def TJ3 : u_T := fun k => match k with
  | _ => ("", "", "", false)
def tyJ3 : Nat → FieldType := fun k => match k with
  | _ => .int
theorem nmJ3 : ∀ a, a < 0 → ∀ b, b < 0 → a ≠ b → (TJ3 a).2.1 ≠ (TJ3 b).2.1 := by decide +kernel
theorem tyJ3_ok : ∀ k, k < 0 → parseFieldDescriptor (TJ3 k).2.2.1 = some (tyJ3 k) := by decide +kernel
abbrev cJ3_checkIndex_8e157 : ByteArray := prog_25_method_11_code
def yJ3_checkIndex_8e157 : MethodName := ⟨RJ3, "checkIndex", "(IILjava/util/function/BiFunction;)I"⟩
abbrev cJ3_checkFromToIndex_8c36e : ByteArray := prog_25_method_12_code
def yJ3_checkFromToIndex_8c36e : MethodName := ⟨RJ3, "checkFromToIndex", "(IIILjava/util/function/BiFunction;)I"⟩
abbrev cJ3_checkFromIndexSize_8c36e : ByteArray := prog_25_method_13_code
def yJ3_checkFromIndexSize_8c36e : MethodName := ⟨RJ3, "checkFromIndexSize", "(IIILjava/util/function/BiFunction;)I"⟩
def RL : String := "DepotChargeLaw"
abbrev cL_draw : ByteArray := method_2_code
def yL_draw : MethodName := ⟨RL, "draw", "([II)I"⟩
abbrev cL_in : ByteArray := method_3_code
def yL_in : MethodName := ⟨RL, "in", "(JJJ)Z"⟩
abbrev cL_append : ByteArray := method_4_code
def yL_append : MethodName := ⟨RL, "append", "(LDepotCharge;I)J"⟩
abbrev cL_load : ByteArray := method_5_code
def yL_load : MethodName := ⟨RL, "load", "(LDepotCharge;)J"⟩
abbrev cL_about : ByteArray := method_6_code
def yL_about : MethodName := ⟨RL, "about", "(LDepotCharge;I)J"⟩
abbrev cL_bus : ByteArray := method_7_code
def yL_bus : MethodName := ⟨RL, "bus", "(LDepotCharge;II)J"⟩
abbrev cL_charger : ByteArray := method_8_code
def yL_charger : MethodName := ⟨RL, "charger", "(LDepotCharge;II)J"⟩
abbrev cL_sign : ByteArray := method_9_code
def yL_sign : MethodName := ⟨RL, "sign", "(LDepotCharge;II)J"⟩
abbrev cL_setting : ByteArray := method_10_code
def yL_setting : MethodName := ⟨RL, "setting", "(LDepotCharge;I)J"⟩
abbrev cL_addBus : ByteArray := method_11_code
def yL_addBus : MethodName := ⟨RL, "addBus", "(LDepotCharge;IIIII)J"⟩
abbrev cL_addCharger : ByteArray := method_12_code
def yL_addCharger : MethodName := ⟨RL, "addCharger", "(LDepotCharge;I)J"⟩
abbrev cL_route : ByteArray := method_13_code
def yL_route : MethodName := ⟨RL, "route", "(LDepotCharge;IIII)J"⟩
abbrev cL_battery : ByteArray := method_14_code
def yL_battery : MethodName := ⟨RL, "battery", "(LDepotCharge;II)J"⟩
abbrev cL_run : ByteArray := method_15_code
def yL_run : MethodName := ⟨RL, "run", "(LDepotCharge;I)J"⟩
abbrev cL_set : ByteArray := method_16_code
def yL_set : MethodName := ⟨RL, "set", "(LDepotCharge;II)J"⟩
abbrev cL_undo : ByteArray := method_17_code
def yL_undo : MethodName := ⟨RL, "undo", "(LDepotCharge;)J"⟩
abbrev cL_coming : ByteArray := method_18_code
def yL_coming : MethodName := ⟨RL, "coming", "(LDepotCharge;II)J"⟩
abbrev cL_firstMissed : ByteArray := method_19_code
def yL_firstMissed : MethodName := ⟨RL, "firstMissed", "(LDepotCharge;I)J"⟩
abbrev cL_leastLimit : ByteArray := method_20_code
def yL_leastLimit : MethodName := ⟨RL, "leastLimit", "(LDepotCharge;I)J"⟩
abbrev cL_bestNight : ByteArray := method_21_code
def yL_bestNight : MethodName := ⟨RL, "bestNight", "(LDepotCharge;I)J"⟩
abbrev cL_ifPlugged : ByteArray := method_22_code
def yL_ifPlugged : MethodName := ⟨RL, "ifPlugged", "(LDepotCharge;II)J"⟩
abbrev cL_script : ByteArray := method_23_code
def yL_script : MethodName := ⟨RL, "script", "(LDepotCharge;IJ)J"⟩
abbrev cL_simulate : ByteArray := method_24_code
def yL_simulate : MethodName := ⟨RL, "simulate", "(LDepotCharge;JI)J"⟩
abbrev cL_save : ByteArray := method_25_code
def yL_save : MethodName := ⟨RL, "save", "(LDepotCharge;I)J"⟩
abbrev cL_restore : ByteArray := method_26_code
def yL_restore : MethodName := ⟨RL, "restore", "(LDepotCharge;I)J"⟩
abbrev cL_now : ByteArray := method_27_code
def yL_now : MethodName := ⟨RL, "now", "(LDepotCharge;)J"⟩
abbrev cL_errors : ByteArray := method_28_code
def yL_errors : MethodName := ⟨RL, "errors", "(LDepotCharge;)Z"⟩
abbrev cL_read : ByteArray := method_29_code
def yL_read : MethodName := ⟨RL, "read", "(LDepotCharge;I)J"⟩
abbrev cL_kept : ByteArray := method_30_code
def yL_kept : MethodName := ⟨RL, "kept", "(LDepotCharge;)Z"⟩
abbrev cL_follows : ByteArray := method_31_code
def yL_follows : MethodName := ⟨RL, "follows", "(LDepotCharge;I)Z"⟩
abbrev cL_alike : ByteArray := method_32_code
def yL_alike : MethodName := ⟨RL, "alike", "(LDepotCharge;LDepotCharge;I)Z"⟩
abbrev cL_says : ByteArray := method_33_code
def yL_says : MethodName := ⟨RL, "says", "(LDepotCharge;I)Z"⟩
abbrev cL_number : ByteArray := method_34_code
def yL_number : MethodName := ⟨RL, "number", "(LDepotCharge;I)Z"⟩
abbrev cL_tells : ByteArray := method_35_code
def yL_tells : MethodName := ⟨RL, "tells", "(LDepotCharge;II)Z"⟩
abbrev cL_act : ByteArray := method_36_code
def yL_act : MethodName := ⟨RL, "act", "(LDepotCharge;II)J"⟩
abbrev cL_law : ByteArray := code
def yL_law : MethodName := ⟨RL, "law", "([I)Z"⟩
theorem dX0_init_0 : decode cX0_init 0 = .ok (.aload_n 0, 1) := by decide +kernel
theorem dX0_init_1 : decode cX0_init 1 = .ok (.invokespecial 3, 3) := by decide +kernel
theorem dX0_init_4 : decode cX0_init 4 = .ok (.aload_n 0, 1) := by decide +kernel
theorem dX0_init_5 : decode cX0_init 5 = .ok (.iconst (-1), 1) := by decide +kernel
theorem dX0_init_6 : decode cX0_init 6 = .ok (.putfield 9, 3) := by decide +kernel
theorem dX0_init_9 : decode cX0_init 9 = .ok (.aload_n 0, 1) := by decide +kernel
theorem dX0_init_10 : decode cX0_init 10 = .ok (.iconst (-1), 1) := by decide +kernel
theorem dX0_init_11 : decode cX0_init 11 = .ok (.putfield 15, 3) := by decide +kernel
theorem dX0_init_14 : decode cX0_init 14 = .ok (.return_, 1) := by decide +kernel
theorem dX0_becomeLike_0 : decode cX0_becomeLike 0 = .ok (.aload_n 0, 1) := by decide +kernel
theorem dX0_becomeLike_1 : decode cX0_becomeLike 1 = .ok (.aload_n 1, 1) := by decide +kernel
theorem dX0_becomeLike_2 : decode cX0_becomeLike 2 = .ok (.getfield 18, 3) := by decide +kernel
theorem dX0_becomeLike_5 : decode cX0_becomeLike 5 = .ok (.putfield 18, 3) := by decide +kernel
theorem dX0_becomeLike_8 : decode cX0_becomeLike 8 = .ok (.aload_n 0, 1) := by decide +kernel
theorem dX0_becomeLike_9 : decode cX0_becomeLike 9 = .ok (.aload_n 1, 1) := by decide +kernel
theorem dX0_becomeLike_10 : decode cX0_becomeLike 10 = .ok (.getfield 21, 3) := by decide +kernel
theorem dX0_becomeLike_13 : decode cX0_becomeLike 13 = .ok (.putfield 21, 3) := by decide +kernel
theorem dX0_becomeLike_16 : decode cX0_becomeLike 16 = .ok (.aload_n 0, 1) := by decide +kernel
theorem dX0_becomeLike_17 : decode cX0_becomeLike 17 = .ok (.aload_n 1, 1) := by decide +kernel
theorem dX0_becomeLike_18 : decode cX0_becomeLike 18 = .ok (.getfield 24, 3) := by decide +kernel
theorem dX0_becomeLike_21 : decode cX0_becomeLike 21 = .ok (.putfield 24, 3) := by decide +kernel
theorem dX0_becomeLike_24 : decode cX0_becomeLike 24 = .ok (.aload_n 0, 1) := by decide +kernel
theorem dX0_becomeLike_25 : decode cX0_becomeLike 25 = .ok (.aload_n 1, 1) := by decide +kernel
theorem dX0_becomeLike_26 : decode cX0_becomeLike 26 = .ok (.getfield 27, 3) := by decide +kernel
theorem dX0_becomeLike_29 : decode cX0_becomeLike 29 = .ok (.putfield 27, 3) := by decide +kernel
theorem dX0_becomeLike_32 : decode cX0_becomeLike 32 = .ok (.aload_n 0, 1) := by decide +kernel
theorem dX0_becomeLike_33 : decode cX0_becomeLike 33 = .ok (.aload_n 1, 1) := by decide +kernel
theorem dX0_becomeLike_34 : decode cX0_becomeLike 34 = .ok (.getfield 30, 3) := by decide +kernel
theorem dX0_becomeLike_37 : decode cX0_becomeLike 37 = .ok (.putfield 30, 3) := by decide +kernel
theorem dX0_becomeLike_40 : decode cX0_becomeLike 40 = .ok (.aload_n 0, 1) := by decide +kernel
theorem dX0_becomeLike_41 : decode cX0_becomeLike 41 = .ok (.aload_n 1, 1) := by decide +kernel
theorem dX0_becomeLike_42 : decode cX0_becomeLike 42 = .ok (.getfield 33, 3) := by decide +kernel
theorem dX0_becomeLike_45 : decode cX0_becomeLike 45 = .ok (.putfield 33, 3) := by decide +kernel
theorem dX0_becomeLike_48 : decode cX0_becomeLike 48 = .ok (.aload_n 0, 1) := by decide +kernel
theorem dX0_becomeLike_49 : decode cX0_becomeLike 49 = .ok (.aload_n 1, 1) := by decide +kernel
theorem dX0_becomeLike_50 : decode cX0_becomeLike 50 = .ok (.getfield 36, 3) := by decide +kernel
theorem dX0_becomeLike_53 : decode cX0_becomeLike 53 = .ok (.putfield 36, 3) := by decide +kernel
theorem dX0_becomeLike_56 : decode cX0_becomeLike 56 = .ok (.return_, 1) := by decide +kernel
theorem dX0_giveRoute_0 : decode cX0_giveRoute 0 = .ok (.aload_n 0, 1) := by decide +kernel
theorem dX0_giveRoute_1 : decode cX0_giveRoute 1 = .ok (.iload_n 1, 1) := by decide +kernel
theorem dX0_giveRoute_2 : decode cX0_giveRoute 2 = .ok (.putfield 24, 3) := by decide +kernel
theorem dX0_giveRoute_5 : decode cX0_giveRoute 5 = .ok (.aload_n 0, 1) := by decide +kernel
theorem dX0_giveRoute_6 : decode cX0_giveRoute 6 = .ok (.iload_n 2, 1) := by decide +kernel
theorem dX0_giveRoute_7 : decode cX0_giveRoute 7 = .ok (.putfield 27, 3) := by decide +kernel
theorem dX0_giveRoute_10 : decode cX0_giveRoute 10 = .ok (.aload_n 0, 1) := by decide +kernel
theorem dX0_giveRoute_11 : decode cX0_giveRoute 11 = .ok (.iload_n 3, 1) := by decide +kernel
theorem dX0_giveRoute_12 : decode cX0_giveRoute 12 = .ok (.putfield 30, 3) := by decide +kernel
theorem dX0_giveRoute_15 : decode cX0_giveRoute 15 = .ok (.return_, 1) := by decide +kernel
theorem dX0_giveBattery_0 : decode cX0_giveBattery 0 = .ok (.aload_n 0, 1) := by decide +kernel
theorem dX0_giveBattery_1 : decode cX0_giveBattery 1 = .ok (.iload_n 1, 1) := by decide +kernel
theorem dX0_giveBattery_2 : decode cX0_giveBattery 2 = .ok (.putfield 18, 3) := by decide +kernel
theorem dX0_giveBattery_5 : decode cX0_giveBattery 5 = .ok (.aload_n 0, 1) := by decide +kernel
theorem dX0_giveBattery_6 : decode cX0_giveBattery 6 = .ok (.iconst 0, 1) := by decide +kernel
theorem dX0_giveBattery_7 : decode cX0_giveBattery 7 = .ok (.putfield 21, 3) := by decide +kernel
theorem dX0_giveBattery_10 : decode cX0_giveBattery 10 = .ok (.aload_n 0, 1) := by decide +kernel
theorem dX0_giveBattery_11 : decode cX0_giveBattery 11 = .ok (.iconst 0, 1) := by decide +kernel
theorem dX0_giveBattery_12 : decode cX0_giveBattery 12 = .ok (.putfield 33, 3) := by decide +kernel
theorem dX0_giveBattery_15 : decode cX0_giveBattery 15 = .ok (.return_, 1) := by decide +kernel
theorem dX0_isLow_0 : decode cX0_isLow 0 = .ok (.aload_n 0, 1) := by decide +kernel
theorem dX0_isLow_1 : decode cX0_isLow 1 = .ok (.getfield 36, 3) := by decide +kernel
theorem dX0_isLow_4 : decode cX0_isLow 4 = .ok (.ifCond .ne 18, 3) := by decide +kernel
theorem dX0_isLow_7 : decode cX0_isLow 7 = .ok (.aload_n 0, 1) := by decide +kernel
theorem dX0_isLow_8 : decode cX0_isLow 8 = .ok (.getfield 21, 3) := by decide +kernel
theorem dX0_isLow_11 : decode cX0_isLow 11 = .ok (.aload_n 0, 1) := by decide +kernel
theorem dX0_isLow_12 : decode cX0_isLow 12 = .ok (.getfield 24, 3) := by decide +kernel
theorem dX0_isLow_15 : decode cX0_isLow 15 = .ok (.if_icmp .ge 7, 3) := by decide +kernel
theorem dX0_isLow_18 : decode cX0_isLow 18 = .ok (.iconst 1, 1) := by decide +kernel
theorem dX0_isLow_19 : decode cX0_isLow 19 = .ok (.goto 4, 3) := by decide +kernel
theorem dX0_isLow_22 : decode cX0_isLow 22 = .ok (.iconst 0, 1) := by decide +kernel
theorem dX0_isLow_23 : decode cX0_isLow 23 = .ok (.ireturn, 1) := by decide +kernel
theorem dX0_word_0 : decode cX0_word 0 = .ok (.aload_n 0, 1) := by decide +kernel
theorem dX0_word_1 : decode cX0_word 1 = .ok (.getfield 36, 3) := by decide +kernel
theorem dX0_word_4 : decode cX0_word 4 = .ok (.ifCond .eq 6, 3) := by decide +kernel
theorem dX0_word_7 : decode cX0_word 7 = .ok (.ldc 40, 2) := by decide +kernel
theorem dX0_word_9 : decode cX0_word 9 = .ok (.areturn, 1) := by decide +kernel
theorem dX0_word_10 : decode cX0_word 10 = .ok (.aload_n 0, 1) := by decide +kernel
theorem dX0_word_11 : decode cX0_word 11 = .ok (.invokevirtual 41, 3) := by decide +kernel
theorem dX0_word_14 : decode cX0_word 14 = .ok (.ifCond .eq 6, 3) := by decide +kernel
theorem dX0_word_17 : decode cX0_word 17 = .ok (.ldc 45, 2) := by decide +kernel
theorem dX0_word_19 : decode cX0_word 19 = .ok (.areturn, 1) := by decide +kernel
theorem dX0_word_20 : decode cX0_word 20 = .ok (.aload_n 0, 1) := by decide +kernel
theorem dX0_word_21 : decode cX0_word 21 = .ok (.getfield 21, 3) := by decide +kernel
theorem dX0_word_24 : decode cX0_word 24 = .ok (.aload_n 0, 1) := by decide +kernel
theorem dX0_word_25 : decode cX0_word 25 = .ok (.getfield 18, 3) := by decide +kernel
theorem dX0_word_28 : decode cX0_word 28 = .ok (.if_icmp .ne 8, 3) := by decide +kernel
theorem dX0_word_31 : decode cX0_word 31 = .ok (.ldc 47, 2) := by decide +kernel
theorem dX0_word_33 : decode cX0_word 33 = .ok (.goto 5, 3) := by decide +kernel
theorem dX0_word_36 : decode cX0_word 36 = .ok (.ldc 49, 2) := by decide +kernel
theorem dX0_word_38 : decode cX0_word 38 = .ok (.areturn, 1) := by decide +kernel
theorem dX0_goOut_0 : decode cX0_goOut 0 = .ok (.aload_n 0, 1) := by decide +kernel
theorem dX0_goOut_1 : decode cX0_goOut 1 = .ok (.iconst 1, 1) := by decide +kernel
theorem dX0_goOut_2 : decode cX0_goOut 2 = .ok (.putfield 36, 3) := by decide +kernel
theorem dX0_goOut_5 : decode cX0_goOut 5 = .ok (.aload_n 0, 1) := by decide +kernel
theorem dX0_goOut_6 : decode cX0_goOut 6 = .ok (.dup, 1) := by decide +kernel
theorem dX0_goOut_7 : decode cX0_goOut 7 = .ok (.getfield 21, 3) := by decide +kernel
theorem dX0_goOut_10 : decode cX0_goOut 10 = .ok (.aload_n 0, 1) := by decide +kernel
theorem dX0_goOut_11 : decode cX0_goOut 11 = .ok (.getfield 24, 3) := by decide +kernel
theorem dX0_goOut_14 : decode cX0_goOut 14 = .ok (.isub, 1) := by decide +kernel
theorem dX0_goOut_15 : decode cX0_goOut 15 = .ok (.putfield 21, 3) := by decide +kernel
theorem dX0_goOut_18 : decode cX0_goOut 18 = .ok (.aload_n 0, 1) := by decide +kernel
theorem dX0_goOut_19 : decode cX0_goOut 19 = .ok (.dup, 1) := by decide +kernel
theorem dX0_goOut_20 : decode cX0_goOut 20 = .ok (.getfield 33, 3) := by decide +kernel
theorem dX0_goOut_23 : decode cX0_goOut 23 = .ok (.iload_n 1, 1) := by decide +kernel
theorem dX0_goOut_24 : decode cX0_goOut 24 = .ok (.iadd, 1) := by decide +kernel
theorem dX0_goOut_25 : decode cX0_goOut 25 = .ok (.putfield 33, 3) := by decide +kernel
theorem dX0_goOut_28 : decode cX0_goOut 28 = .ok (.aload_n 0, 1) := by decide +kernel
theorem dX0_goOut_29 : decode cX0_goOut 29 = .ok (.getfield 33, 3) := by decide +kernel
theorem dX0_goOut_32 : decode cX0_goOut 32 = .ok (.iload_n 2, 1) := by decide +kernel
theorem dX0_goOut_33 : decode cX0_goOut 33 = .ok (.if_icmp .lt 43, 3) := by decide +kernel
theorem dX0_goOut_36 : decode cX0_goOut 36 = .ok (.aload_n 0, 1) := by decide +kernel
theorem dX0_goOut_37 : decode cX0_goOut 37 = .ok (.dup, 1) := by decide +kernel
theorem dX0_goOut_38 : decode cX0_goOut 38 = .ok (.getfield 33, 3) := by decide +kernel
theorem dX0_goOut_41 : decode cX0_goOut 41 = .ok (.iload_n 2, 1) := by decide +kernel
theorem dX0_goOut_42 : decode cX0_goOut 42 = .ok (.isub, 1) := by decide +kernel
theorem dX0_goOut_43 : decode cX0_goOut 43 = .ok (.putfield 33, 3) := by decide +kernel
theorem dX0_goOut_46 : decode cX0_goOut 46 = .ok (.aload_n 0, 1) := by decide +kernel
theorem dX0_goOut_47 : decode cX0_goOut 47 = .ok (.bipush 10, 2) := by decide +kernel
theorem dX0_goOut_49 : decode cX0_goOut 49 = .ok (.aload_n 0, 1) := by decide +kernel
theorem dX0_goOut_50 : decode cX0_goOut 50 = .ok (.getfield 18, 3) := by decide +kernel
theorem dX0_goOut_53 : decode cX0_goOut 53 = .ok (.iconst 1, 1) := by decide +kernel
theorem dX0_goOut_54 : decode cX0_goOut 54 = .ok (.isub, 1) := by decide +kernel
theorem dX0_goOut_55 : decode cX0_goOut 55 = .ok (.invokestatic 51, 3) := by decide +kernel
theorem dX0_goOut_58 : decode cX0_goOut 58 = .ok (.putfield 18, 3) := by decide +kernel
theorem dX0_goOut_61 : decode cX0_goOut 61 = .ok (.aload_n 0, 1) := by decide +kernel
theorem dX0_goOut_62 : decode cX0_goOut 62 = .ok (.aload_n 0, 1) := by decide +kernel
theorem dX0_goOut_63 : decode cX0_goOut 63 = .ok (.getfield 21, 3) := by decide +kernel
theorem dX0_goOut_66 : decode cX0_goOut 66 = .ok (.aload_n 0, 1) := by decide +kernel
theorem dX0_goOut_67 : decode cX0_goOut 67 = .ok (.getfield 18, 3) := by decide +kernel
theorem dX0_goOut_70 : decode cX0_goOut 70 = .ok (.invokestatic 57, 3) := by decide +kernel
theorem dX0_goOut_73 : decode cX0_goOut 73 = .ok (.putfield 21, 3) := by decide +kernel
theorem dX0_goOut_76 : decode cX0_goOut 76 = .ok (.return_, 1) := by decide +kernel
theorem dX0_wearOfRoute_0 : decode cX0_wearOfRoute 0 = .ok (.bipush 100, 2) := by decide +kernel
theorem dX0_wearOfRoute_2 : decode cX0_wearOfRoute 2 = .ok (.aload_n 0, 1) := by decide +kernel
theorem dX0_wearOfRoute_3 : decode cX0_wearOfRoute 3 = .ok (.getfield 24, 3) := by decide +kernel
theorem dX0_wearOfRoute_6 : decode cX0_wearOfRoute 6 = .ok (.imul, 1) := by decide +kernel
theorem dX0_wearOfRoute_7 : decode cX0_wearOfRoute 7 = .ok (.bipush 80, 2) := by decide +kernel
theorem dX0_wearOfRoute_9 : decode cX0_wearOfRoute 9 = .ok (.aload_n 0, 1) := by decide +kernel
theorem dX0_wearOfRoute_10 : decode cX0_wearOfRoute 10 = .ok (.getfield 18, 3) := by decide +kernel
theorem dX0_wearOfRoute_13 : decode cX0_wearOfRoute 13 = .ok (.imul, 1) := by decide +kernel
theorem dX0_wearOfRoute_14 : decode cX0_wearOfRoute 14 = .ok (.if_icmp .lt 5, 3) := by decide +kernel
theorem dX0_wearOfRoute_17 : decode cX0_wearOfRoute 17 = .ok (.iconst 3, 1) := by decide +kernel
theorem dX0_wearOfRoute_18 : decode cX0_wearOfRoute 18 = .ok (.ireturn, 1) := by decide +kernel
theorem dX0_wearOfRoute_19 : decode cX0_wearOfRoute 19 = .ok (.bipush 100, 2) := by decide +kernel
theorem dX0_wearOfRoute_21 : decode cX0_wearOfRoute 21 = .ok (.aload_n 0, 1) := by decide +kernel
theorem dX0_wearOfRoute_22 : decode cX0_wearOfRoute 22 = .ok (.getfield 24, 3) := by decide +kernel
theorem dX0_wearOfRoute_25 : decode cX0_wearOfRoute 25 = .ok (.imul, 1) := by decide +kernel
theorem dX0_wearOfRoute_26 : decode cX0_wearOfRoute 26 = .ok (.bipush 50, 2) := by decide +kernel
theorem dX0_wearOfRoute_28 : decode cX0_wearOfRoute 28 = .ok (.aload_n 0, 1) := by decide +kernel
theorem dX0_wearOfRoute_29 : decode cX0_wearOfRoute 29 = .ok (.getfield 18, 3) := by decide +kernel
theorem dX0_wearOfRoute_32 : decode cX0_wearOfRoute 32 = .ok (.imul, 1) := by decide +kernel
theorem dX0_wearOfRoute_33 : decode cX0_wearOfRoute 33 = .ok (.if_icmp .lt 7, 3) := by decide +kernel
theorem dX0_wearOfRoute_36 : decode cX0_wearOfRoute 36 = .ok (.iconst 2, 1) := by decide +kernel
theorem dX0_wearOfRoute_37 : decode cX0_wearOfRoute 37 = .ok (.goto 4, 3) := by decide +kernel
theorem dX0_wearOfRoute_40 : decode cX0_wearOfRoute 40 = .ok (.iconst 1, 1) := by decide +kernel
theorem dX0_wearOfRoute_41 : decode cX0_wearOfRoute 41 = .ok (.ireturn, 1) := by decide +kernel
theorem dX1_init_0 : decode cX1_init 0 = .ok (.aload_n 0, 1) := by decide +kernel
theorem dX1_init_1 : decode cX1_init 1 = .ok (.invokespecial 3, 3) := by decide +kernel
theorem dX1_init_4 : decode cX1_init 4 = .ok (.aload_n 0, 1) := by decide +kernel
theorem dX1_init_5 : decode cX1_init 5 = .ok (.bipush 8, 2) := by decide +kernel
theorem dX1_init_7 : decode cX1_init 7 = .ok (.anewarray 9, 3) := by decide +kernel
theorem dX1_init_10 : decode cX1_init 10 = .ok (.putfield 11, 3) := by decide +kernel
theorem dX1_init_13 : decode cX1_init 13 = .ok (.aload_n 0, 1) := by decide +kernel
theorem dX1_init_14 : decode cX1_init 14 = .ok (.iconst 5, 1) := by decide +kernel
theorem dX1_init_15 : decode cX1_init 15 = .ok (.newarray .int, 2) := by decide +kernel
theorem dX1_init_17 : decode cX1_init 17 = .ok (.putfield 17, 3) := by decide +kernel
theorem dX1_init_20 : decode cX1_init 20 = .ok (.aload_n 0, 1) := by decide +kernel
theorem dX1_init_21 : decode cX1_init 21 = .ok (.iconst 5, 1) := by decide +kernel
theorem dX1_init_22 : decode cX1_init 22 = .ok (.newarray .int, 2) := by decide +kernel
theorem dX1_init_24 : decode cX1_init 24 = .ok (.putfield 21, 3) := by decide +kernel
theorem dX1_init_27 : decode cX1_init 27 = .ok (.aload_n 0, 1) := by decide +kernel
theorem dX1_init_28 : decode cX1_init 28 = .ok (.bipush 6, 2) := by decide +kernel
theorem dX1_init_30 : decode cX1_init 30 = .ok (.newarray .int, 2) := by decide +kernel
theorem dX1_init_32 : decode cX1_init 32 = .ok (.putfield 24, 3) := by decide +kernel
theorem dX1_init_35 : decode cX1_init 35 = .ok (.iconst 0, 1) := by decide +kernel
theorem dX1_init_36 : decode cX1_init 36 = .ok (.istore_n 1, 1) := by decide +kernel
theorem dX1_init_37 : decode cX1_init 37 = .ok (.iload_n 1, 1) := by decide +kernel
theorem dX1_init_38 : decode cX1_init 38 = .ok (.aload_n 0, 1) := by decide +kernel
theorem dX1_init_39 : decode cX1_init 39 = .ok (.getfield 11, 3) := by decide +kernel
theorem dX1_init_42 : decode cX1_init 42 = .ok (.arraylength, 1) := by decide +kernel
theorem dX1_init_43 : decode cX1_init 43 = .ok (.if_icmp .ge 22, 3) := by decide +kernel
theorem dX1_init_46 : decode cX1_init 46 = .ok (.aload_n 0, 1) := by decide +kernel
theorem dX1_init_47 : decode cX1_init 47 = .ok (.getfield 11, 3) := by decide +kernel
theorem dX1_init_50 : decode cX1_init 50 = .ok (.iload_n 1, 1) := by decide +kernel
theorem dX1_init_51 : decode cX1_init 51 = .ok (.new 9, 3) := by decide +kernel
theorem dX1_init_54 : decode cX1_init 54 = .ok (.dup, 1) := by decide +kernel
theorem dX1_init_55 : decode cX1_init 55 = .ok (.invokespecial 27, 3) := by decide +kernel
theorem dX1_init_58 : decode cX1_init 58 = .ok (.aastore, 1) := by decide +kernel
theorem dX1_init_59 : decode cX1_init 59 = .ok (.iinc 1 1, 3) := by decide +kernel
theorem dX1_init_62 : decode cX1_init 62 = .ok (.goto (-25), 3) := by decide +kernel
theorem dX1_init_65 : decode cX1_init 65 = .ok (.getstatic 28, 3) := by decide +kernel
theorem dX1_init_68 : decode cX1_init 68 = .ok (.iconst 0, 1) := by decide +kernel
theorem dX1_init_69 : decode cX1_init 69 = .ok (.aload_n 0, 1) := by decide +kernel
theorem dX1_init_70 : decode cX1_init 70 = .ok (.getfield 24, 3) := by decide +kernel
theorem dX1_init_73 : decode cX1_init 73 = .ok (.iconst 0, 1) := by decide +kernel
theorem dX1_init_74 : decode cX1_init 74 = .ok (.bipush 6, 2) := by decide +kernel
theorem dX1_init_76 : decode cX1_init 76 = .ok (.invokestatic 31, 3) := by decide +kernel
theorem dX1_init_79 : decode cX1_init 79 = .ok (.return_, 1) := by decide +kernel
theorem dX1_becomeNew_0 : decode cX1_becomeNew 0 = .ok (.getstatic 28, 3) := by decide +kernel
theorem dX1_becomeNew_3 : decode cX1_becomeNew 3 = .ok (.iconst 0, 1) := by decide +kernel
theorem dX1_becomeNew_4 : decode cX1_becomeNew 4 = .ok (.aload_n 0, 1) := by decide +kernel
theorem dX1_becomeNew_5 : decode cX1_becomeNew 5 = .ok (.getfield 24, 3) := by decide +kernel
theorem dX1_becomeNew_8 : decode cX1_becomeNew 8 = .ok (.iconst 0, 1) := by decide +kernel
theorem dX1_becomeNew_9 : decode cX1_becomeNew 9 = .ok (.bipush 6, 2) := by decide +kernel
theorem dX1_becomeNew_11 : decode cX1_becomeNew 11 = .ok (.invokestatic 31, 3) := by decide +kernel
theorem dX1_becomeNew_14 : decode cX1_becomeNew 14 = .ok (.aload_n 0, 1) := by decide +kernel
theorem dX1_becomeNew_15 : decode cX1_becomeNew 15 = .ok (.iconst 0, 1) := by decide +kernel
theorem dX1_becomeNew_16 : decode cX1_becomeNew 16 = .ok (.putfield 37, 3) := by decide +kernel
theorem dX1_becomeNew_19 : decode cX1_becomeNew 19 = .ok (.aload_n 0, 1) := by decide +kernel
theorem dX1_becomeNew_20 : decode cX1_becomeNew 20 = .ok (.iconst 0, 1) := by decide +kernel
theorem dX1_becomeNew_21 : decode cX1_becomeNew 21 = .ok (.putfield 41, 3) := by decide +kernel
theorem dX1_becomeNew_24 : decode cX1_becomeNew 24 = .ok (.aload_n 0, 1) := by decide +kernel
theorem dX1_becomeNew_25 : decode cX1_becomeNew 25 = .ok (.iconst 0, 1) := by decide +kernel
theorem dX1_becomeNew_26 : decode cX1_becomeNew 26 = .ok (.putfield 44, 3) := by decide +kernel
theorem dX1_becomeNew_29 : decode cX1_becomeNew 29 = .ok (.aload_n 0, 1) := by decide +kernel
theorem dX1_becomeNew_30 : decode cX1_becomeNew 30 = .ok (.iconst 0, 1) := by decide +kernel
theorem dX1_becomeNew_31 : decode cX1_becomeNew 31 = .ok (.putfield 47, 3) := by decide +kernel
theorem dX1_becomeNew_34 : decode cX1_becomeNew 34 = .ok (.aload_n 0, 1) := by decide +kernel
theorem dX1_becomeNew_35 : decode cX1_becomeNew 35 = .ok (.iconst 0, 1) := by decide +kernel
theorem dX1_becomeNew_36 : decode cX1_becomeNew 36 = .ok (.putfield 50, 3) := by decide +kernel
theorem dX1_becomeNew_39 : decode cX1_becomeNew 39 = .ok (.aload_n 0, 1) := by decide +kernel
theorem dX1_becomeNew_40 : decode cX1_becomeNew 40 = .ok (.iconst 0, 1) := by decide +kernel
theorem dX1_becomeNew_41 : decode cX1_becomeNew 41 = .ok (.putfield 53, 3) := by decide +kernel
theorem dX1_becomeNew_44 : decode cX1_becomeNew 44 = .ok (.aload_n 0, 1) := by decide +kernel
theorem dX1_becomeNew_45 : decode cX1_becomeNew 45 = .ok (.iconst 0, 1) := by decide +kernel
theorem dX1_becomeNew_46 : decode cX1_becomeNew 46 = .ok (.putfield 56, 3) := by decide +kernel
theorem dX1_becomeNew_49 : decode cX1_becomeNew 49 = .ok (.return_, 1) := by decide +kernel
theorem dX1_becomeLike_0 : decode cX1_becomeLike 0 = .ok (.iconst 0, 1) := by decide +kernel
theorem dX1_becomeLike_1 : decode cX1_becomeLike 1 = .ok (.istore_n 2, 1) := by decide +kernel
theorem dX1_becomeLike_2 : decode cX1_becomeLike 2 = .ok (.iload_n 2, 1) := by decide +kernel
theorem dX1_becomeLike_3 : decode cX1_becomeLike 3 = .ok (.aload_n 1, 1) := by decide +kernel
theorem dX1_becomeLike_4 : decode cX1_becomeLike 4 = .ok (.getfield 37, 3) := by decide +kernel
theorem dX1_becomeLike_7 : decode cX1_becomeLike 7 = .ok (.if_icmp .ge 24, 3) := by decide +kernel
theorem dX1_becomeLike_10 : decode cX1_becomeLike 10 = .ok (.aload_n 0, 1) := by decide +kernel
theorem dX1_becomeLike_11 : decode cX1_becomeLike 11 = .ok (.getfield 11, 3) := by decide +kernel
theorem dX1_becomeLike_14 : decode cX1_becomeLike 14 = .ok (.iload_n 2, 1) := by decide +kernel
theorem dX1_becomeLike_15 : decode cX1_becomeLike 15 = .ok (.aaload, 1) := by decide +kernel
theorem dX1_becomeLike_16 : decode cX1_becomeLike 16 = .ok (.aload_n 1, 1) := by decide +kernel
theorem dX1_becomeLike_17 : decode cX1_becomeLike 17 = .ok (.getfield 11, 3) := by decide +kernel
theorem dX1_becomeLike_20 : decode cX1_becomeLike 20 = .ok (.iload_n 2, 1) := by decide +kernel
theorem dX1_becomeLike_21 : decode cX1_becomeLike 21 = .ok (.aaload, 1) := by decide +kernel
theorem dX1_becomeLike_22 : decode cX1_becomeLike 22 = .ok (.invokevirtual 59, 3) := by decide +kernel
theorem dX1_becomeLike_25 : decode cX1_becomeLike 25 = .ok (.iinc 2 1, 3) := by decide +kernel
theorem dX1_becomeLike_28 : decode cX1_becomeLike 28 = .ok (.goto (-26), 3) := by decide +kernel
theorem dX1_becomeLike_31 : decode cX1_becomeLike 31 = .ok (.aload_n 1, 1) := by decide +kernel
theorem dX1_becomeLike_32 : decode cX1_becomeLike 32 = .ok (.getfield 17, 3) := by decide +kernel
theorem dX1_becomeLike_35 : decode cX1_becomeLike 35 = .ok (.iconst 0, 1) := by decide +kernel
theorem dX1_becomeLike_36 : decode cX1_becomeLike 36 = .ok (.aload_n 0, 1) := by decide +kernel
theorem dX1_becomeLike_37 : decode cX1_becomeLike 37 = .ok (.getfield 17, 3) := by decide +kernel
theorem dX1_becomeLike_40 : decode cX1_becomeLike 40 = .ok (.iconst 0, 1) := by decide +kernel
theorem dX1_becomeLike_41 : decode cX1_becomeLike 41 = .ok (.iconst 5, 1) := by decide +kernel
theorem dX1_becomeLike_42 : decode cX1_becomeLike 42 = .ok (.invokestatic 31, 3) := by decide +kernel
theorem dX1_becomeLike_45 : decode cX1_becomeLike 45 = .ok (.aload_n 1, 1) := by decide +kernel
theorem dX1_becomeLike_46 : decode cX1_becomeLike 46 = .ok (.getfield 21, 3) := by decide +kernel
theorem dX1_becomeLike_49 : decode cX1_becomeLike 49 = .ok (.iconst 0, 1) := by decide +kernel
theorem dX1_becomeLike_50 : decode cX1_becomeLike 50 = .ok (.aload_n 0, 1) := by decide +kernel
theorem dX1_becomeLike_51 : decode cX1_becomeLike 51 = .ok (.getfield 21, 3) := by decide +kernel
theorem dX1_becomeLike_54 : decode cX1_becomeLike 54 = .ok (.iconst 0, 1) := by decide +kernel
theorem dX1_becomeLike_55 : decode cX1_becomeLike 55 = .ok (.iconst 5, 1) := by decide +kernel
theorem dX1_becomeLike_56 : decode cX1_becomeLike 56 = .ok (.invokestatic 31, 3) := by decide +kernel
theorem dX1_becomeLike_59 : decode cX1_becomeLike 59 = .ok (.aload_n 1, 1) := by decide +kernel
theorem dX1_becomeLike_60 : decode cX1_becomeLike 60 = .ok (.getfield 24, 3) := by decide +kernel
theorem dX1_becomeLike_63 : decode cX1_becomeLike 63 = .ok (.iconst 0, 1) := by decide +kernel
theorem dX1_becomeLike_64 : decode cX1_becomeLike 64 = .ok (.aload_n 0, 1) := by decide +kernel
theorem dX1_becomeLike_65 : decode cX1_becomeLike 65 = .ok (.getfield 24, 3) := by decide +kernel
theorem dX1_becomeLike_68 : decode cX1_becomeLike 68 = .ok (.iconst 0, 1) := by decide +kernel
theorem dX1_becomeLike_69 : decode cX1_becomeLike 69 = .ok (.bipush 6, 2) := by decide +kernel
theorem dX1_becomeLike_71 : decode cX1_becomeLike 71 = .ok (.invokestatic 31, 3) := by decide +kernel
theorem dX1_becomeLike_74 : decode cX1_becomeLike 74 = .ok (.aload_n 0, 1) := by decide +kernel
theorem dX1_becomeLike_75 : decode cX1_becomeLike 75 = .ok (.aload_n 1, 1) := by decide +kernel
theorem dX1_becomeLike_76 : decode cX1_becomeLike 76 = .ok (.getfield 37, 3) := by decide +kernel
theorem dX1_becomeLike_79 : decode cX1_becomeLike 79 = .ok (.putfield 37, 3) := by decide +kernel
theorem dX1_becomeLike_82 : decode cX1_becomeLike 82 = .ok (.aload_n 0, 1) := by decide +kernel
theorem dX1_becomeLike_83 : decode cX1_becomeLike 83 = .ok (.aload_n 1, 1) := by decide +kernel
theorem dX1_becomeLike_84 : decode cX1_becomeLike 84 = .ok (.getfield 41, 3) := by decide +kernel
theorem dX1_becomeLike_87 : decode cX1_becomeLike 87 = .ok (.putfield 41, 3) := by decide +kernel
theorem dX1_becomeLike_90 : decode cX1_becomeLike 90 = .ok (.aload_n 0, 1) := by decide +kernel
theorem dX1_becomeLike_91 : decode cX1_becomeLike 91 = .ok (.aload_n 1, 1) := by decide +kernel
theorem dX1_becomeLike_92 : decode cX1_becomeLike 92 = .ok (.getfield 44, 3) := by decide +kernel
theorem dX1_becomeLike_95 : decode cX1_becomeLike 95 = .ok (.putfield 44, 3) := by decide +kernel
theorem dX1_becomeLike_98 : decode cX1_becomeLike 98 = .ok (.aload_n 0, 1) := by decide +kernel
theorem dX1_becomeLike_99 : decode cX1_becomeLike 99 = .ok (.aload_n 1, 1) := by decide +kernel
theorem dX1_becomeLike_100 : decode cX1_becomeLike 100 = .ok (.getfield 47, 3) := by decide +kernel
theorem dX1_becomeLike_103 : decode cX1_becomeLike 103 = .ok (.putfield 47, 3) := by decide +kernel
theorem dX1_becomeLike_106 : decode cX1_becomeLike 106 = .ok (.aload_n 0, 1) := by decide +kernel
theorem dX1_becomeLike_107 : decode cX1_becomeLike 107 = .ok (.aload_n 1, 1) := by decide +kernel
theorem dX1_becomeLike_108 : decode cX1_becomeLike 108 = .ok (.getfield 50, 3) := by decide +kernel
theorem dX1_becomeLike_111 : decode cX1_becomeLike 111 = .ok (.putfield 50, 3) := by decide +kernel
theorem dX1_becomeLike_114 : decode cX1_becomeLike 114 = .ok (.aload_n 0, 1) := by decide +kernel
theorem dX1_becomeLike_115 : decode cX1_becomeLike 115 = .ok (.aload_n 1, 1) := by decide +kernel
theorem dX1_becomeLike_116 : decode cX1_becomeLike 116 = .ok (.getfield 53, 3) := by decide +kernel
theorem dX1_becomeLike_119 : decode cX1_becomeLike 119 = .ok (.putfield 53, 3) := by decide +kernel
theorem dX1_becomeLike_122 : decode cX1_becomeLike 122 = .ok (.aload_n 0, 1) := by decide +kernel
theorem dX1_becomeLike_123 : decode cX1_becomeLike 123 = .ok (.aload_n 1, 1) := by decide +kernel
theorem dX1_becomeLike_124 : decode cX1_becomeLike 124 = .ok (.getfield 56, 3) := by decide +kernel
theorem dX1_becomeLike_127 : decode cX1_becomeLike 127 = .ok (.putfield 56, 3) := by decide +kernel
theorem dX1_becomeLike_130 : decode cX1_becomeLike 130 = .ok (.return_, 1) := by decide +kernel
theorem dX1_isFullOfBuses_0 : decode cX1_isFullOfBuses 0 = .ok (.aload_n 0, 1) := by decide +kernel
theorem dX1_isFullOfBuses_1 : decode cX1_isFullOfBuses 1 = .ok (.getfield 37, 3) := by decide +kernel
theorem dX1_isFullOfBuses_4 : decode cX1_isFullOfBuses 4 = .ok (.bipush 8, 2) := by decide +kernel
theorem dX1_isFullOfBuses_6 : decode cX1_isFullOfBuses 6 = .ok (.if_icmp .lt 7, 3) := by decide +kernel
theorem dX1_isFullOfBuses_9 : decode cX1_isFullOfBuses 9 = .ok (.iconst 1, 1) := by decide +kernel
theorem dX1_isFullOfBuses_10 : decode cX1_isFullOfBuses 10 = .ok (.goto 4, 3) := by decide +kernel
theorem dX1_isFullOfBuses_13 : decode cX1_isFullOfBuses 13 = .ok (.iconst 0, 1) := by decide +kernel
theorem dX1_isFullOfBuses_14 : decode cX1_isFullOfBuses 14 = .ok (.ireturn, 1) := by decide +kernel
theorem dX1_isFullOfChargers_0 : decode cX1_isFullOfChargers 0 = .ok (.aload_n 0, 1) := by decide +kernel
theorem dX1_isFullOfChargers_1 : decode cX1_isFullOfChargers 1 = .ok (.getfield 41, 3) := by decide +kernel
theorem dX1_isFullOfChargers_4 : decode cX1_isFullOfChargers 4 = .ok (.iconst 5, 1) := by decide +kernel
theorem dX1_isFullOfChargers_5 : decode cX1_isFullOfChargers 5 = .ok (.if_icmp .lt 7, 3) := by decide +kernel
theorem dX1_isFullOfChargers_8 : decode cX1_isFullOfChargers 8 = .ok (.iconst 1, 1) := by decide +kernel
theorem dX1_isFullOfChargers_9 : decode cX1_isFullOfChargers 9 = .ok (.goto 4, 3) := by decide +kernel
theorem dX1_isFullOfChargers_12 : decode cX1_isFullOfChargers 12 = .ok (.iconst 0, 1) := by decide +kernel
theorem dX1_isFullOfChargers_13 : decode cX1_isFullOfChargers 13 = .ok (.ireturn, 1) := by decide +kernel
theorem dX1_busAt_0 : decode cX1_busAt 0 = .ok (.iload_n 1, 1) := by decide +kernel
theorem dX1_busAt_1 : decode cX1_busAt 1 = .ok (.iconst 0, 1) := by decide +kernel
theorem dX1_busAt_2 : decode cX1_busAt 2 = .ok (.aload_n 0, 1) := by decide +kernel
theorem dX1_busAt_3 : decode cX1_busAt 3 = .ok (.getfield 37, 3) := by decide +kernel
theorem dX1_busAt_6 : decode cX1_busAt 6 = .ok (.iconst 1, 1) := by decide +kernel
theorem dX1_busAt_7 : decode cX1_busAt 7 = .ok (.isub, 1) := by decide +kernel
theorem dX1_busAt_8 : decode cX1_busAt 8 = .ok (.invokestatic 63, 3) := by decide +kernel
theorem dX1_busAt_11 : decode cX1_busAt 11 = .ok (.ifCond .eq 12, 3) := by decide +kernel
theorem dX1_busAt_14 : decode cX1_busAt 14 = .ok (.aload_n 0, 1) := by decide +kernel
theorem dX1_busAt_15 : decode cX1_busAt 15 = .ok (.getfield 11, 3) := by decide +kernel
theorem dX1_busAt_18 : decode cX1_busAt 18 = .ok (.iload_n 1, 1) := by decide +kernel
theorem dX1_busAt_19 : decode cX1_busAt 19 = .ok (.aaload, 1) := by decide +kernel
theorem dX1_busAt_20 : decode cX1_busAt 20 = .ok (.goto 4, 3) := by decide +kernel
theorem dX1_busAt_23 : decode cX1_busAt 23 = .ok (.aconst_null, 1) := by decide +kernel
theorem dX1_busAt_24 : decode cX1_busAt 24 = .ok (.areturn, 1) := by decide +kernel
theorem dX1_hasCharger_0 : decode cX1_hasCharger 0 = .ok (.iload_n 1, 1) := by decide +kernel
theorem dX1_hasCharger_1 : decode cX1_hasCharger 1 = .ok (.iconst 0, 1) := by decide +kernel
theorem dX1_hasCharger_2 : decode cX1_hasCharger 2 = .ok (.aload_n 0, 1) := by decide +kernel
theorem dX1_hasCharger_3 : decode cX1_hasCharger 3 = .ok (.getfield 41, 3) := by decide +kernel
theorem dX1_hasCharger_6 : decode cX1_hasCharger 6 = .ok (.iconst 1, 1) := by decide +kernel
theorem dX1_hasCharger_7 : decode cX1_hasCharger 7 = .ok (.isub, 1) := by decide +kernel
theorem dX1_hasCharger_8 : decode cX1_hasCharger 8 = .ok (.invokestatic 63, 3) := by decide +kernel
theorem dX1_hasCharger_11 : decode cX1_hasCharger 11 = .ok (.ireturn, 1) := by decide +kernel
theorem dX1_powerOf_0 : decode cX1_powerOf 0 = .ok (.aload_n 0, 1) := by decide +kernel
theorem dX1_powerOf_1 : decode cX1_powerOf 1 = .ok (.iload_n 1, 1) := by decide +kernel
theorem dX1_powerOf_2 : decode cX1_powerOf 2 = .ok (.invokevirtual 67, 3) := by decide +kernel
theorem dX1_powerOf_5 : decode cX1_powerOf 5 = .ok (.ifCond .eq 12, 3) := by decide +kernel
theorem dX1_powerOf_8 : decode cX1_powerOf 8 = .ok (.aload_n 0, 1) := by decide +kernel
theorem dX1_powerOf_9 : decode cX1_powerOf 9 = .ok (.getfield 17, 3) := by decide +kernel
theorem dX1_powerOf_12 : decode cX1_powerOf 12 = .ok (.iload_n 1, 1) := by decide +kernel
theorem dX1_powerOf_13 : decode cX1_powerOf 13 = .ok (.iaload, 1) := by decide +kernel
theorem dX1_powerOf_14 : decode cX1_powerOf 14 = .ok (.goto 4, 3) := by decide +kernel
theorem dX1_powerOf_17 : decode cX1_powerOf 17 = .ok (.iconst 0, 1) := by decide +kernel
theorem dX1_powerOf_18 : decode cX1_powerOf 18 = .ok (.ireturn, 1) := by decide +kernel
theorem dX1_placeOf_0 : decode cX1_placeOf 0 = .ok (.iconst 0, 1) := by decide +kernel
theorem dX1_placeOf_1 : decode cX1_placeOf 1 = .ok (.istore_n 2, 1) := by decide +kernel
theorem dX1_placeOf_2 : decode cX1_placeOf 2 = .ok (.iload_n 2, 1) := by decide +kernel
theorem dX1_placeOf_3 : decode cX1_placeOf 3 = .ok (.aload_n 0, 1) := by decide +kernel
theorem dX1_placeOf_4 : decode cX1_placeOf 4 = .ok (.getfield 41, 3) := by decide +kernel
theorem dX1_placeOf_7 : decode cX1_placeOf 7 = .ok (.if_icmp .ge 21, 3) := by decide +kernel
theorem dX1_placeOf_10 : decode cX1_placeOf 10 = .ok (.aload_n 0, 1) := by decide +kernel
theorem dX1_placeOf_11 : decode cX1_placeOf 11 = .ok (.getfield 21, 3) := by decide +kernel
theorem dX1_placeOf_14 : decode cX1_placeOf 14 = .ok (.iload_n 2, 1) := by decide +kernel
theorem dX1_placeOf_15 : decode cX1_placeOf 15 = .ok (.iaload, 1) := by decide +kernel
theorem dX1_placeOf_16 : decode cX1_placeOf 16 = .ok (.iload_n 1, 1) := by decide +kernel
theorem dX1_placeOf_17 : decode cX1_placeOf 17 = .ok (.if_icmp .ne 5, 3) := by decide +kernel
theorem dX1_placeOf_20 : decode cX1_placeOf 20 = .ok (.iload_n 2, 1) := by decide +kernel
theorem dX1_placeOf_21 : decode cX1_placeOf 21 = .ok (.ireturn, 1) := by decide +kernel
theorem dX1_placeOf_22 : decode cX1_placeOf 22 = .ok (.iinc 2 1, 3) := by decide +kernel
theorem dX1_placeOf_25 : decode cX1_placeOf 25 = .ok (.goto (-23), 3) := by decide +kernel
theorem dX1_placeOf_28 : decode cX1_placeOf 28 = .ok (.iconst (-1), 1) := by decide +kernel
theorem dX1_placeOf_29 : decode cX1_placeOf 29 = .ok (.ireturn, 1) := by decide +kernel
theorem dX1_settingOf_0 : decode cX1_settingOf 0 = .ok (.iload_n 1, 1) := by decide +kernel
theorem dX1_settingOf_1 : decode cX1_settingOf 1 = .ok (.iconst 0, 1) := by decide +kernel
theorem dX1_settingOf_2 : decode cX1_settingOf 2 = .ok (.iconst 5, 1) := by decide +kernel
theorem dX1_settingOf_3 : decode cX1_settingOf 3 = .ok (.invokestatic 63, 3) := by decide +kernel
theorem dX1_settingOf_6 : decode cX1_settingOf 6 = .ok (.ifCond .eq 12, 3) := by decide +kernel
theorem dX1_settingOf_9 : decode cX1_settingOf 9 = .ok (.aload_n 0, 1) := by decide +kernel
theorem dX1_settingOf_10 : decode cX1_settingOf 10 = .ok (.getfield 24, 3) := by decide +kernel
theorem dX1_settingOf_13 : decode cX1_settingOf 13 = .ok (.iload_n 1, 1) := by decide +kernel
theorem dX1_settingOf_14 : decode cX1_settingOf 14 = .ok (.iaload, 1) := by decide +kernel
theorem dX1_settingOf_15 : decode cX1_settingOf 15 = .ok (.goto 4, 3) := by decide +kernel
theorem dX1_settingOf_18 : decode cX1_settingOf 18 = .ok (.iconst 0, 1) := by decide +kernel
theorem dX1_settingOf_19 : decode cX1_settingOf 19 = .ok (.ireturn, 1) := by decide +kernel
theorem dX1_countOut_0 : decode cX1_countOut 0 = .ok (.iconst 0, 1) := by decide +kernel
theorem dX1_countOut_1 : decode cX1_countOut 1 = .ok (.istore_n 1, 1) := by decide +kernel
theorem dX1_countOut_2 : decode cX1_countOut 2 = .ok (.iconst 0, 1) := by decide +kernel
theorem dX1_countOut_3 : decode cX1_countOut 3 = .ok (.istore_n 2, 1) := by decide +kernel
theorem dX1_countOut_4 : decode cX1_countOut 4 = .ok (.iload_n 2, 1) := by decide +kernel
theorem dX1_countOut_5 : decode cX1_countOut 5 = .ok (.aload_n 0, 1) := by decide +kernel
theorem dX1_countOut_6 : decode cX1_countOut 6 = .ok (.getfield 37, 3) := by decide +kernel
theorem dX1_countOut_9 : decode cX1_countOut 9 = .ok (.if_icmp .ge 24, 3) := by decide +kernel
theorem dX1_countOut_12 : decode cX1_countOut 12 = .ok (.aload_n 0, 1) := by decide +kernel
theorem dX1_countOut_13 : decode cX1_countOut 13 = .ok (.getfield 11, 3) := by decide +kernel
theorem dX1_countOut_16 : decode cX1_countOut 16 = .ok (.iload_n 2, 1) := by decide +kernel
theorem dX1_countOut_17 : decode cX1_countOut 17 = .ok (.aaload, 1) := by decide +kernel
theorem dX1_countOut_18 : decode cX1_countOut 18 = .ok (.getfield 71, 3) := by decide +kernel
theorem dX1_countOut_21 : decode cX1_countOut 21 = .ok (.ifCond .eq 6, 3) := by decide +kernel
theorem dX1_countOut_24 : decode cX1_countOut 24 = .ok (.iinc 1 1, 3) := by decide +kernel
theorem dX1_countOut_27 : decode cX1_countOut 27 = .ok (.iinc 2 1, 3) := by decide +kernel
theorem dX1_countOut_30 : decode cX1_countOut 30 = .ok (.goto (-26), 3) := by decide +kernel
theorem dX1_countOut_33 : decode cX1_countOut 33 = .ok (.iload_n 1, 1) := by decide +kernel
theorem dX1_countOut_34 : decode cX1_countOut 34 = .ok (.ireturn, 1) := by decide +kernel
theorem dX1_countLow_0 : decode cX1_countLow 0 = .ok (.iconst 0, 1) := by decide +kernel
theorem dX1_countLow_1 : decode cX1_countLow 1 = .ok (.istore_n 1, 1) := by decide +kernel
theorem dX1_countLow_2 : decode cX1_countLow 2 = .ok (.iconst 0, 1) := by decide +kernel
theorem dX1_countLow_3 : decode cX1_countLow 3 = .ok (.istore_n 2, 1) := by decide +kernel
theorem dX1_countLow_4 : decode cX1_countLow 4 = .ok (.iload_n 2, 1) := by decide +kernel
theorem dX1_countLow_5 : decode cX1_countLow 5 = .ok (.aload_n 0, 1) := by decide +kernel
theorem dX1_countLow_6 : decode cX1_countLow 6 = .ok (.getfield 37, 3) := by decide +kernel
theorem dX1_countLow_9 : decode cX1_countLow 9 = .ok (.if_icmp .ge 24, 3) := by decide +kernel
theorem dX1_countLow_12 : decode cX1_countLow 12 = .ok (.aload_n 0, 1) := by decide +kernel
theorem dX1_countLow_13 : decode cX1_countLow 13 = .ok (.getfield 11, 3) := by decide +kernel
theorem dX1_countLow_16 : decode cX1_countLow 16 = .ok (.iload_n 2, 1) := by decide +kernel
theorem dX1_countLow_17 : decode cX1_countLow 17 = .ok (.aaload, 1) := by decide +kernel
theorem dX1_countLow_18 : decode cX1_countLow 18 = .ok (.invokevirtual 75, 3) := by decide +kernel
theorem dX1_countLow_21 : decode cX1_countLow 21 = .ok (.ifCond .eq 6, 3) := by decide +kernel
theorem dX1_countLow_24 : decode cX1_countLow 24 = .ok (.iinc 1 1, 3) := by decide +kernel
theorem dX1_countLow_27 : decode cX1_countLow 27 = .ok (.iinc 2 1, 3) := by decide +kernel
theorem dX1_countLow_30 : decode cX1_countLow 30 = .ok (.goto (-26), 3) := by decide +kernel
theorem dX1_countLow_33 : decode cX1_countLow 33 = .ok (.iload_n 1, 1) := by decide +kernel
theorem dX1_countLow_34 : decode cX1_countLow 34 = .ok (.ireturn, 1) := by decide +kernel
theorem dX1_sumOfCharges_0 : decode cX1_sumOfCharges 0 = .ok (.iconst 0, 1) := by decide +kernel
theorem dX1_sumOfCharges_1 : decode cX1_sumOfCharges 1 = .ok (.istore_n 1, 1) := by decide +kernel
theorem dX1_sumOfCharges_2 : decode cX1_sumOfCharges 2 = .ok (.iconst 0, 1) := by decide +kernel
theorem dX1_sumOfCharges_3 : decode cX1_sumOfCharges 3 = .ok (.istore_n 2, 1) := by decide +kernel
theorem dX1_sumOfCharges_4 : decode cX1_sumOfCharges 4 = .ok (.iload_n 2, 1) := by decide +kernel
theorem dX1_sumOfCharges_5 : decode cX1_sumOfCharges 5 = .ok (.aload_n 0, 1) := by decide +kernel
theorem dX1_sumOfCharges_6 : decode cX1_sumOfCharges 6 = .ok (.getfield 37, 3) := by decide +kernel
theorem dX1_sumOfCharges_9 : decode cX1_sumOfCharges 9 = .ok (.if_icmp .ge 21, 3) := by decide +kernel
theorem dX1_sumOfCharges_12 : decode cX1_sumOfCharges 12 = .ok (.iload_n 1, 1) := by decide +kernel
theorem dX1_sumOfCharges_13 : decode cX1_sumOfCharges 13 = .ok (.aload_n 0, 1) := by decide +kernel
theorem dX1_sumOfCharges_14 : decode cX1_sumOfCharges 14 = .ok (.getfield 11, 3) := by decide +kernel
theorem dX1_sumOfCharges_17 : decode cX1_sumOfCharges 17 = .ok (.iload_n 2, 1) := by decide +kernel
theorem dX1_sumOfCharges_18 : decode cX1_sumOfCharges 18 = .ok (.aaload, 1) := by decide +kernel
theorem dX1_sumOfCharges_19 : decode cX1_sumOfCharges 19 = .ok (.getfield 79, 3) := by decide +kernel
theorem dX1_sumOfCharges_22 : decode cX1_sumOfCharges 22 = .ok (.iadd, 1) := by decide +kernel
theorem dX1_sumOfCharges_23 : decode cX1_sumOfCharges 23 = .ok (.istore_n 1, 1) := by decide +kernel
theorem dX1_sumOfCharges_24 : decode cX1_sumOfCharges 24 = .ok (.iinc 2 1, 3) := by decide +kernel
theorem dX1_sumOfCharges_27 : decode cX1_sumOfCharges 27 = .ok (.goto (-23), 3) := by decide +kernel
theorem dX1_sumOfCharges_30 : decode cX1_sumOfCharges 30 = .ok (.iload_n 1, 1) := by decide +kernel
theorem dX1_sumOfCharges_31 : decode cX1_sumOfCharges 31 = .ok (.ireturn, 1) := by decide +kernel
theorem dX1_isOut_0 : decode cX1_isOut 0 = .ok (.aload_n 0, 1) := by decide +kernel
theorem dX1_isOut_1 : decode cX1_isOut 1 = .ok (.iload_n 1, 1) := by decide +kernel
theorem dX1_isOut_2 : decode cX1_isOut 2 = .ok (.invokevirtual 82, 3) := by decide +kernel
theorem dX1_isOut_5 : decode cX1_isOut 5 = .ok (.astore_n 2, 1) := by decide +kernel
theorem dX1_isOut_6 : decode cX1_isOut 6 = .ok (.aload_n 2, 1) := by decide +kernel
theorem dX1_isOut_7 : decode cX1_isOut 7 = .ok (.ifnull 14, 3) := by decide +kernel
theorem dX1_isOut_10 : decode cX1_isOut 10 = .ok (.aload_n 2, 1) := by decide +kernel
theorem dX1_isOut_11 : decode cX1_isOut 11 = .ok (.getfield 71, 3) := by decide +kernel
theorem dX1_isOut_14 : decode cX1_isOut 14 = .ok (.ifCond .eq 7, 3) := by decide +kernel
theorem dX1_isOut_17 : decode cX1_isOut 17 = .ok (.iconst 1, 1) := by decide +kernel
theorem dX1_isOut_18 : decode cX1_isOut 18 = .ok (.goto 4, 3) := by decide +kernel
theorem dX1_isOut_21 : decode cX1_isOut 21 = .ok (.iconst 0, 1) := by decide +kernel
theorem dX1_isOut_22 : decode cX1_isOut 22 = .ok (.ireturn, 1) := by decide +kernel
theorem dX1_hasCharge_0 : decode cX1_hasCharge 0 = .ok (.aload_n 0, 1) := by decide +kernel
theorem dX1_hasCharge_1 : decode cX1_hasCharge 1 = .ok (.iload_n 1, 1) := by decide +kernel
theorem dX1_hasCharge_2 : decode cX1_hasCharge 2 = .ok (.invokevirtual 82, 3) := by decide +kernel
theorem dX1_hasCharge_5 : decode cX1_hasCharge 5 = .ok (.astore_n 3, 1) := by decide +kernel
theorem dX1_hasCharge_6 : decode cX1_hasCharge 6 = .ok (.aload_n 3, 1) := by decide +kernel
theorem dX1_hasCharge_7 : decode cX1_hasCharge 7 = .ok (.ifnull 15, 3) := by decide +kernel
theorem dX1_hasCharge_10 : decode cX1_hasCharge 10 = .ok (.aload_n 3, 1) := by decide +kernel
theorem dX1_hasCharge_11 : decode cX1_hasCharge 11 = .ok (.getfield 79, 3) := by decide +kernel
theorem dX1_hasCharge_14 : decode cX1_hasCharge 14 = .ok (.iload_n 2, 1) := by decide +kernel
theorem dX1_hasCharge_15 : decode cX1_hasCharge 15 = .ok (.if_icmp .lt 7, 3) := by decide +kernel
theorem dX1_hasCharge_18 : decode cX1_hasCharge 18 = .ok (.iconst 1, 1) := by decide +kernel
theorem dX1_hasCharge_19 : decode cX1_hasCharge 19 = .ok (.goto 4, 3) := by decide +kernel
theorem dX1_hasCharge_22 : decode cX1_hasCharge 22 = .ok (.iconst 0, 1) := by decide +kernel
theorem dX1_hasCharge_23 : decode cX1_hasCharge 23 = .ok (.ireturn, 1) := by decide +kernel
theorem dX1_hourOfDay_0 : decode cX1_hourOfDay 0 = .ok (.aload_n 0, 1) := by decide +kernel
theorem dX1_hourOfDay_1 : decode cX1_hourOfDay 1 = .ok (.getfield 44, 3) := by decide +kernel
theorem dX1_hourOfDay_4 : decode cX1_hourOfDay 4 = .ok (.bipush 24, 2) := by decide +kernel
theorem dX1_hourOfDay_6 : decode cX1_hourOfDay 6 = .ok (.irem, 1) := by decide +kernel
theorem dX1_hourOfDay_7 : decode cX1_hourOfDay 7 = .ok (.ireturn, 1) := by decide +kernel
theorem dX1_isNight_0 : decode cX1_isNight 0 = .ok (.aload_n 0, 1) := by decide +kernel
theorem dX1_isNight_1 : decode cX1_isNight 1 = .ok (.getfield 44, 3) := by decide +kernel
theorem dX1_isNight_4 : decode cX1_isNight 4 = .ok (.aload_n 0, 1) := by decide +kernel
theorem dX1_isNight_5 : decode cX1_isNight 5 = .ok (.getfield 24, 3) := by decide +kernel
theorem dX1_isNight_8 : decode cX1_isNight 8 = .ok (.iconst 5, 1) := by decide +kernel
theorem dX1_isNight_9 : decode cX1_isNight 9 = .ok (.iaload, 1) := by decide +kernel
theorem dX1_isNight_10 : decode cX1_isNight 10 = .ok (.isub, 1) := by decide +kernel
theorem dX1_isNight_11 : decode cX1_isNight 11 = .ok (.bipush 24, 2) := by decide +kernel
theorem dX1_isNight_13 : decode cX1_isNight 13 = .ok (.invokestatic 86, 3) := by decide +kernel
theorem dX1_isNight_16 : decode cX1_isNight 16 = .ok (.bipush 8, 2) := by decide +kernel
theorem dX1_isNight_18 : decode cX1_isNight 18 = .ok (.if_icmp .ge 7, 3) := by decide +kernel
theorem dX1_isNight_21 : decode cX1_isNight 21 = .ok (.iconst 1, 1) := by decide +kernel
theorem dX1_isNight_22 : decode cX1_isNight 22 = .ok (.goto 4, 3) := by decide +kernel
theorem dX1_isNight_25 : decode cX1_isNight 25 = .ok (.iconst 0, 1) := by decide +kernel
theorem dX1_isNight_26 : decode cX1_isNight 26 = .ok (.ireturn, 1) := by decide +kernel
theorem dX1_hoursUntilLeaving_0 : decode cX1_hoursUntilLeaving 0 = .ok (.aload_n 1, 1) := by decide +kernel
theorem dX1_hoursUntilLeaving_1 : decode cX1_hoursUntilLeaving 1 = .ok (.getfield 92, 3) := by decide +kernel
theorem dX1_hoursUntilLeaving_4 : decode cX1_hoursUntilLeaving 4 = .ok (.aload_n 0, 1) := by decide +kernel
theorem dX1_hoursUntilLeaving_5 : decode cX1_hoursUntilLeaving 5 = .ok (.invokevirtual 95, 3) := by decide +kernel
theorem dX1_hoursUntilLeaving_8 : decode cX1_hoursUntilLeaving 8 = .ok (.isub, 1) := by decide +kernel
theorem dX1_hoursUntilLeaving_9 : decode cX1_hoursUntilLeaving 9 = .ok (.istore_n 2, 1) := by decide +kernel
theorem dX1_hoursUntilLeaving_10 : decode cX1_hoursUntilLeaving 10 = .ok (.iload_n 2, 1) := by decide +kernel
theorem dX1_hoursUntilLeaving_11 : decode cX1_hoursUntilLeaving 11 = .ok (.ifCond .le 7, 3) := by decide +kernel
theorem dX1_hoursUntilLeaving_14 : decode cX1_hoursUntilLeaving 14 = .ok (.iload_n 2, 1) := by decide +kernel
theorem dX1_hoursUntilLeaving_15 : decode cX1_hoursUntilLeaving 15 = .ok (.goto 7, 3) := by decide +kernel
theorem dX1_hoursUntilLeaving_18 : decode cX1_hoursUntilLeaving 18 = .ok (.iload_n 2, 1) := by decide +kernel
theorem dX1_hoursUntilLeaving_19 : decode cX1_hoursUntilLeaving 19 = .ok (.bipush 24, 2) := by decide +kernel
theorem dX1_hoursUntilLeaving_21 : decode cX1_hoursUntilLeaving 21 = .ok (.iadd, 1) := by decide +kernel
theorem dX1_hoursUntilLeaving_22 : decode cX1_hoursUntilLeaving 22 = .ok (.ireturn, 1) := by decide +kernel
theorem dX1_isMissedNow_0 : decode cX1_isMissedNow 0 = .ok (.aload_n 0, 1) := by decide +kernel
theorem dX1_isMissedNow_1 : decode cX1_isMissedNow 1 = .ok (.iload_n 1, 1) := by decide +kernel
theorem dX1_isMissedNow_2 : decode cX1_isMissedNow 2 = .ok (.invokevirtual 82, 3) := by decide +kernel
theorem dX1_isMissedNow_5 : decode cX1_isMissedNow 5 = .ok (.astore_n 2, 1) := by decide +kernel
theorem dX1_isMissedNow_6 : decode cX1_isMissedNow 6 = .ok (.aload_n 2, 1) := by decide +kernel
theorem dX1_isMissedNow_7 : decode cX1_isMissedNow 7 = .ok (.ifnull 22, 3) := by decide +kernel
theorem dX1_isMissedNow_10 : decode cX1_isMissedNow 10 = .ok (.aload_n 0, 1) := by decide +kernel
theorem dX1_isMissedNow_11 : decode cX1_isMissedNow 11 = .ok (.aload_n 2, 1) := by decide +kernel
theorem dX1_isMissedNow_12 : decode cX1_isMissedNow 12 = .ok (.invokevirtual 99, 3) := by decide +kernel
theorem dX1_isMissedNow_15 : decode cX1_isMissedNow 15 = .ok (.ifCond .eq 14, 3) := by decide +kernel
theorem dX1_isMissedNow_18 : decode cX1_isMissedNow 18 = .ok (.aload_n 2, 1) := by decide +kernel
theorem dX1_isMissedNow_19 : decode cX1_isMissedNow 19 = .ok (.invokevirtual 75, 3) := by decide +kernel
theorem dX1_isMissedNow_22 : decode cX1_isMissedNow 22 = .ok (.ifCond .eq 7, 3) := by decide +kernel
theorem dX1_isMissedNow_25 : decode cX1_isMissedNow 25 = .ok (.iconst 1, 1) := by decide +kernel
theorem dX1_isMissedNow_26 : decode cX1_isMissedNow 26 = .ok (.goto 4, 3) := by decide +kernel
theorem dX1_isMissedNow_29 : decode cX1_isMissedNow 29 = .ok (.iconst 0, 1) := by decide +kernel
theorem dX1_isMissedNow_30 : decode cX1_isMissedNow 30 = .ok (.ireturn, 1) := by decide +kernel
theorem dX1_putBus_0 : decode cX1_putBus 0 = .ok (.aload_n 0, 1) := by decide +kernel
theorem dX1_putBus_1 : decode cX1_putBus 1 = .ok (.getfield 37, 3) := by decide +kernel
theorem dX1_putBus_4 : decode cX1_putBus 4 = .ok (.istore 6, 2) := by decide +kernel
theorem dX1_putBus_6 : decode cX1_putBus 6 = .ok (.aload_n 0, 1) := by decide +kernel
theorem dX1_putBus_7 : decode cX1_putBus 7 = .ok (.invokevirtual 103, 3) := by decide +kernel
theorem dX1_putBus_10 : decode cX1_putBus 10 = .ok (.ifCond .eq 5, 3) := by decide +kernel
theorem dX1_putBus_13 : decode cX1_putBus 13 = .ok (.iconst (-1), 1) := by decide +kernel
theorem dX1_putBus_14 : decode cX1_putBus 14 = .ok (.ireturn, 1) := by decide +kernel
theorem dX1_putBus_15 : decode cX1_putBus 15 = .ok (.aload_n 0, 1) := by decide +kernel
theorem dX1_putBus_16 : decode cX1_putBus 16 = .ok (.getfield 11, 3) := by decide +kernel
theorem dX1_putBus_19 : decode cX1_putBus 19 = .ok (.iload 6, 2) := by decide +kernel
theorem dX1_putBus_21 : decode cX1_putBus 21 = .ok (.aaload, 1) := by decide +kernel
theorem dX1_putBus_22 : decode cX1_putBus 22 = .ok (.astore 7, 2) := by decide +kernel
theorem dX1_putBus_24 : decode cX1_putBus 24 = .ok (.aload 7, 2) := by decide +kernel
theorem dX1_putBus_26 : decode cX1_putBus 26 = .ok (.iload_n 1, 1) := by decide +kernel
theorem dX1_putBus_27 : decode cX1_putBus 27 = .ok (.invokevirtual 106, 3) := by decide +kernel
theorem dX1_putBus_30 : decode cX1_putBus 30 = .ok (.aload 7, 2) := by decide +kernel
theorem dX1_putBus_32 : decode cX1_putBus 32 = .ok (.iload_n 3, 1) := by decide +kernel
theorem dX1_putBus_33 : decode cX1_putBus 33 = .ok (.iload 4, 2) := by decide +kernel
theorem dX1_putBus_35 : decode cX1_putBus 35 = .ok (.iload 5, 2) := by decide +kernel
theorem dX1_putBus_37 : decode cX1_putBus 37 = .ok (.invokevirtual 110, 3) := by decide +kernel
theorem dX1_putBus_40 : decode cX1_putBus 40 = .ok (.aload 7, 2) := by decide +kernel
theorem dX1_putBus_42 : decode cX1_putBus 42 = .ok (.iload_n 2, 1) := by decide +kernel
theorem dX1_putBus_43 : decode cX1_putBus 43 = .ok (.putfield 79, 3) := by decide +kernel
theorem dX1_putBus_46 : decode cX1_putBus 46 = .ok (.aload 7, 2) := by decide +kernel
theorem dX1_putBus_48 : decode cX1_putBus 48 = .ok (.iconst 0, 1) := by decide +kernel
theorem dX1_putBus_49 : decode cX1_putBus 49 = .ok (.putfield 71, 3) := by decide +kernel
theorem dX1_putBus_52 : decode cX1_putBus 52 = .ok (.aload_n 0, 1) := by decide +kernel
theorem dX1_putBus_53 : decode cX1_putBus 53 = .ok (.iload 6, 2) := by decide +kernel
theorem dX1_putBus_55 : decode cX1_putBus 55 = .ok (.iconst 1, 1) := by decide +kernel
theorem dX1_putBus_56 : decode cX1_putBus 56 = .ok (.iadd, 1) := by decide +kernel
theorem dX1_putBus_57 : decode cX1_putBus 57 = .ok (.putfield 37, 3) := by decide +kernel
theorem dX1_putBus_60 : decode cX1_putBus 60 = .ok (.iload 6, 2) := by decide +kernel
theorem dX1_putBus_62 : decode cX1_putBus 62 = .ok (.ireturn, 1) := by decide +kernel
theorem dX1_putCharger_0 : decode cX1_putCharger 0 = .ok (.aload_n 0, 1) := by decide +kernel
theorem dX1_putCharger_1 : decode cX1_putCharger 1 = .ok (.getfield 41, 3) := by decide +kernel
theorem dX1_putCharger_4 : decode cX1_putCharger 4 = .ok (.istore_n 2, 1) := by decide +kernel
theorem dX1_putCharger_5 : decode cX1_putCharger 5 = .ok (.aload_n 0, 1) := by decide +kernel
theorem dX1_putCharger_6 : decode cX1_putCharger 6 = .ok (.invokevirtual 114, 3) := by decide +kernel
theorem dX1_putCharger_9 : decode cX1_putCharger 9 = .ok (.ifCond .eq 5, 3) := by decide +kernel
theorem dX1_putCharger_12 : decode cX1_putCharger 12 = .ok (.iconst (-1), 1) := by decide +kernel
theorem dX1_putCharger_13 : decode cX1_putCharger 13 = .ok (.ireturn, 1) := by decide +kernel
theorem dX1_putCharger_14 : decode cX1_putCharger 14 = .ok (.iload_n 2, 1) := by decide +kernel
theorem dX1_putCharger_15 : decode cX1_putCharger 15 = .ok (.istore_n 3, 1) := by decide +kernel
theorem dX1_putCharger_16 : decode cX1_putCharger 16 = .ok (.iload_n 3, 1) := by decide +kernel
theorem dX1_putCharger_17 : decode cX1_putCharger 17 = .ok (.ifCond .le 39, 3) := by decide +kernel
theorem dX1_putCharger_20 : decode cX1_putCharger 20 = .ok (.aload_n 0, 1) := by decide +kernel
theorem dX1_putCharger_21 : decode cX1_putCharger 21 = .ok (.aload_n 0, 1) := by decide +kernel
theorem dX1_putCharger_22 : decode cX1_putCharger 22 = .ok (.getfield 21, 3) := by decide +kernel
theorem dX1_putCharger_25 : decode cX1_putCharger 25 = .ok (.iload_n 3, 1) := by decide +kernel
theorem dX1_putCharger_26 : decode cX1_putCharger 26 = .ok (.iconst 1, 1) := by decide +kernel
theorem dX1_putCharger_27 : decode cX1_putCharger 27 = .ok (.isub, 1) := by decide +kernel
theorem dX1_putCharger_28 : decode cX1_putCharger 28 = .ok (.iaload, 1) := by decide +kernel
theorem dX1_putCharger_29 : decode cX1_putCharger 29 = .ok (.invokevirtual 117, 3) := by decide +kernel
theorem dX1_putCharger_32 : decode cX1_putCharger 32 = .ok (.iload_n 1, 1) := by decide +kernel
theorem dX1_putCharger_33 : decode cX1_putCharger 33 = .ok (.if_icmp .ge 23, 3) := by decide +kernel
theorem dX1_putCharger_36 : decode cX1_putCharger 36 = .ok (.aload_n 0, 1) := by decide +kernel
theorem dX1_putCharger_37 : decode cX1_putCharger 37 = .ok (.getfield 21, 3) := by decide +kernel
theorem dX1_putCharger_40 : decode cX1_putCharger 40 = .ok (.iload_n 3, 1) := by decide +kernel
theorem dX1_putCharger_41 : decode cX1_putCharger 41 = .ok (.aload_n 0, 1) := by decide +kernel
theorem dX1_putCharger_42 : decode cX1_putCharger 42 = .ok (.getfield 21, 3) := by decide +kernel
theorem dX1_putCharger_45 : decode cX1_putCharger 45 = .ok (.iload_n 3, 1) := by decide +kernel
theorem dX1_putCharger_46 : decode cX1_putCharger 46 = .ok (.iconst 1, 1) := by decide +kernel
theorem dX1_putCharger_47 : decode cX1_putCharger 47 = .ok (.isub, 1) := by decide +kernel
theorem dX1_putCharger_48 : decode cX1_putCharger 48 = .ok (.iaload, 1) := by decide +kernel
theorem dX1_putCharger_49 : decode cX1_putCharger 49 = .ok (.iastore, 1) := by decide +kernel
theorem dX1_putCharger_50 : decode cX1_putCharger 50 = .ok (.iinc 3 (-1), 3) := by decide +kernel
theorem dX1_putCharger_53 : decode cX1_putCharger 53 = .ok (.goto (-37), 3) := by decide +kernel
theorem dX1_putCharger_56 : decode cX1_putCharger 56 = .ok (.aload_n 0, 1) := by decide +kernel
theorem dX1_putCharger_57 : decode cX1_putCharger 57 = .ok (.getfield 21, 3) := by decide +kernel
theorem dX1_putCharger_60 : decode cX1_putCharger 60 = .ok (.iload_n 3, 1) := by decide +kernel
theorem dX1_putCharger_61 : decode cX1_putCharger 61 = .ok (.iload_n 2, 1) := by decide +kernel
theorem dX1_putCharger_62 : decode cX1_putCharger 62 = .ok (.iastore, 1) := by decide +kernel
theorem dX1_putCharger_63 : decode cX1_putCharger 63 = .ok (.aload_n 0, 1) := by decide +kernel
theorem dX1_putCharger_64 : decode cX1_putCharger 64 = .ok (.getfield 17, 3) := by decide +kernel
theorem dX1_putCharger_67 : decode cX1_putCharger 67 = .ok (.iload_n 2, 1) := by decide +kernel
theorem dX1_putCharger_68 : decode cX1_putCharger 68 = .ok (.iload_n 1, 1) := by decide +kernel
theorem dX1_putCharger_69 : decode cX1_putCharger 69 = .ok (.iastore, 1) := by decide +kernel
theorem dX1_putCharger_70 : decode cX1_putCharger 70 = .ok (.aload_n 0, 1) := by decide +kernel
theorem dX1_putCharger_71 : decode cX1_putCharger 71 = .ok (.iload_n 2, 1) := by decide +kernel
theorem dX1_putCharger_72 : decode cX1_putCharger 72 = .ok (.iconst 1, 1) := by decide +kernel
theorem dX1_putCharger_73 : decode cX1_putCharger 73 = .ok (.iadd, 1) := by decide +kernel
theorem dX1_putCharger_74 : decode cX1_putCharger 74 = .ok (.putfield 41, 3) := by decide +kernel
theorem dX1_putCharger_77 : decode cX1_putCharger 77 = .ok (.iload_n 2, 1) := by decide +kernel
theorem dX1_putCharger_78 : decode cX1_putCharger 78 = .ok (.ireturn, 1) := by decide +kernel
theorem dX1_change_0 : decode cX1_change 0 = .ok (.iload_n 1, 1) := by decide +kernel
theorem dX1_change_1 : decode cX1_change 1 = .ok (.iload_n 2, 1) := by decide +kernel
theorem dX1_change_2 : decode cX1_change 2 = .ok (.invokestatic 121, 3) := by decide +kernel
theorem dX1_change_5 : decode cX1_change 5 = .ok (.ifCond .eq 10, 3) := by decide +kernel
theorem dX1_change_8 : decode cX1_change 8 = .ok (.aload_n 0, 1) := by decide +kernel
theorem dX1_change_9 : decode cX1_change 9 = .ok (.getfield 24, 3) := by decide +kernel
theorem dX1_change_12 : decode cX1_change 12 = .ok (.iload_n 1, 1) := by decide +kernel
theorem dX1_change_13 : decode cX1_change 13 = .ok (.iload_n 2, 1) := by decide +kernel
theorem dX1_change_14 : decode cX1_change 14 = .ok (.iastore, 1) := by decide +kernel
theorem dX1_change_15 : decode cX1_change 15 = .ok (.return_, 1) := by decide +kernel
theorem dX1_tryPutBus_0 : decode cX1_tryPutBus 0 = .ok (.iload_n 1, 1) := by decide +kernel
theorem dX1_tryPutBus_1 : decode cX1_tryPutBus 1 = .ok (.iload_n 2, 1) := by decide +kernel
theorem dX1_tryPutBus_2 : decode cX1_tryPutBus 2 = .ok (.iload_n 3, 1) := by decide +kernel
theorem dX1_tryPutBus_3 : decode cX1_tryPutBus 3 = .ok (.iload 4, 2) := by decide +kernel
theorem dX1_tryPutBus_5 : decode cX1_tryPutBus 5 = .ok (.iload 5, 2) := by decide +kernel
theorem dX1_tryPutBus_7 : decode cX1_tryPutBus 7 = .ok (.invokestatic 125, 3) := by decide +kernel
theorem dX1_tryPutBus_10 : decode cX1_tryPutBus 10 = .ok (.ifCond .eq 22, 3) := by decide +kernel
theorem dX1_tryPutBus_13 : decode cX1_tryPutBus 13 = .ok (.aload_n 0, 1) := by decide +kernel
theorem dX1_tryPutBus_14 : decode cX1_tryPutBus 14 = .ok (.iload_n 1, 1) := by decide +kernel
theorem dX1_tryPutBus_15 : decode cX1_tryPutBus 15 = .ok (.iload_n 2, 1) := by decide +kernel
theorem dX1_tryPutBus_16 : decode cX1_tryPutBus 16 = .ok (.iload_n 3, 1) := by decide +kernel
theorem dX1_tryPutBus_17 : decode cX1_tryPutBus 17 = .ok (.iload 4, 2) := by decide +kernel
theorem dX1_tryPutBus_19 : decode cX1_tryPutBus 19 = .ok (.iload 5, 2) := by decide +kernel
theorem dX1_tryPutBus_21 : decode cX1_tryPutBus 21 = .ok (.invokevirtual 129, 3) := by decide +kernel
theorem dX1_tryPutBus_24 : decode cX1_tryPutBus 24 = .ok (.iconst (-1), 1) := by decide +kernel
theorem dX1_tryPutBus_25 : decode cX1_tryPutBus 25 = .ok (.if_icmp .eq 7, 3) := by decide +kernel
theorem dX1_tryPutBus_28 : decode cX1_tryPutBus 28 = .ok (.iconst 1, 1) := by decide +kernel
theorem dX1_tryPutBus_29 : decode cX1_tryPutBus 29 = .ok (.goto 4, 3) := by decide +kernel
theorem dX1_tryPutBus_32 : decode cX1_tryPutBus 32 = .ok (.iconst 0, 1) := by decide +kernel
theorem dX1_tryPutBus_33 : decode cX1_tryPutBus 33 = .ok (.ireturn, 1) := by decide +kernel
theorem dX1_tryPutCharger_0 : decode cX1_tryPutCharger 0 = .ok (.iload_n 1, 1) := by decide +kernel
theorem dX1_tryPutCharger_1 : decode cX1_tryPutCharger 1 = .ok (.iconst 1, 1) := by decide +kernel
theorem dX1_tryPutCharger_2 : decode cX1_tryPutCharger 2 = .ok (.bipush 50, 2) := by decide +kernel
theorem dX1_tryPutCharger_4 : decode cX1_tryPutCharger 4 = .ok (.invokestatic 63, 3) := by decide +kernel
theorem dX1_tryPutCharger_7 : decode cX1_tryPutCharger 7 = .ok (.ifCond .eq 16, 3) := by decide +kernel
theorem dX1_tryPutCharger_10 : decode cX1_tryPutCharger 10 = .ok (.aload_n 0, 1) := by decide +kernel
theorem dX1_tryPutCharger_11 : decode cX1_tryPutCharger 11 = .ok (.iload_n 1, 1) := by decide +kernel
theorem dX1_tryPutCharger_12 : decode cX1_tryPutCharger 12 = .ok (.invokevirtual 133, 3) := by decide +kernel
theorem dX1_tryPutCharger_15 : decode cX1_tryPutCharger 15 = .ok (.iconst (-1), 1) := by decide +kernel
theorem dX1_tryPutCharger_16 : decode cX1_tryPutCharger 16 = .ok (.if_icmp .eq 7, 3) := by decide +kernel
theorem dX1_tryPutCharger_19 : decode cX1_tryPutCharger 19 = .ok (.iconst 1, 1) := by decide +kernel
theorem dX1_tryPutCharger_20 : decode cX1_tryPutCharger 20 = .ok (.goto 4, 3) := by decide +kernel
theorem dX1_tryPutCharger_23 : decode cX1_tryPutCharger 23 = .ok (.iconst 0, 1) := by decide +kernel
theorem dX1_tryPutCharger_24 : decode cX1_tryPutCharger 24 = .ok (.ireturn, 1) := by decide +kernel
theorem dX1_tryGiveRoute_0 : decode cX1_tryGiveRoute 0 = .ok (.aload_n 0, 1) := by decide +kernel
theorem dX1_tryGiveRoute_1 : decode cX1_tryGiveRoute 1 = .ok (.iload_n 1, 1) := by decide +kernel
theorem dX1_tryGiveRoute_2 : decode cX1_tryGiveRoute 2 = .ok (.invokevirtual 82, 3) := by decide +kernel
theorem dX1_tryGiveRoute_5 : decode cX1_tryGiveRoute 5 = .ok (.astore 5, 2) := by decide +kernel
theorem dX1_tryGiveRoute_7 : decode cX1_tryGiveRoute 7 = .ok (.aload 5, 2) := by decide +kernel
theorem dX1_tryGiveRoute_9 : decode cX1_tryGiveRoute 9 = .ok (.ifnull 21, 3) := by decide +kernel
theorem dX1_tryGiveRoute_12 : decode cX1_tryGiveRoute 12 = .ok (.aload 5, 2) := by decide +kernel
theorem dX1_tryGiveRoute_14 : decode cX1_tryGiveRoute 14 = .ok (.getfield 71, 3) := by decide +kernel
theorem dX1_tryGiveRoute_17 : decode cX1_tryGiveRoute 17 = .ok (.ifCond .ne 13, 3) := by decide +kernel
theorem dX1_tryGiveRoute_20 : decode cX1_tryGiveRoute 20 = .ok (.iload_n 2, 1) := by decide +kernel
theorem dX1_tryGiveRoute_21 : decode cX1_tryGiveRoute 21 = .ok (.iload_n 3, 1) := by decide +kernel
theorem dX1_tryGiveRoute_22 : decode cX1_tryGiveRoute 22 = .ok (.iload 4, 2) := by decide +kernel
theorem dX1_tryGiveRoute_24 : decode cX1_tryGiveRoute 24 = .ok (.invokestatic 136, 3) := by decide +kernel
theorem dX1_tryGiveRoute_27 : decode cX1_tryGiveRoute 27 = .ok (.ifCond .ne 5, 3) := by decide +kernel
theorem dX1_tryGiveRoute_30 : decode cX1_tryGiveRoute 30 = .ok (.iconst 0, 1) := by decide +kernel
theorem dX1_tryGiveRoute_31 : decode cX1_tryGiveRoute 31 = .ok (.ireturn, 1) := by decide +kernel
theorem dX1_tryGiveRoute_32 : decode cX1_tryGiveRoute 32 = .ok (.aload 5, 2) := by decide +kernel
theorem dX1_tryGiveRoute_34 : decode cX1_tryGiveRoute 34 = .ok (.iload_n 2, 1) := by decide +kernel
theorem dX1_tryGiveRoute_35 : decode cX1_tryGiveRoute 35 = .ok (.iload_n 3, 1) := by decide +kernel
theorem dX1_tryGiveRoute_36 : decode cX1_tryGiveRoute 36 = .ok (.iload 4, 2) := by decide +kernel
theorem dX1_tryGiveRoute_38 : decode cX1_tryGiveRoute 38 = .ok (.invokevirtual 110, 3) := by decide +kernel
theorem dX1_tryGiveRoute_41 : decode cX1_tryGiveRoute 41 = .ok (.iconst 1, 1) := by decide +kernel
theorem dX1_tryGiveRoute_42 : decode cX1_tryGiveRoute 42 = .ok (.ireturn, 1) := by decide +kernel
theorem dX1_tryGiveBattery_0 : decode cX1_tryGiveBattery 0 = .ok (.aload_n 0, 1) := by decide +kernel
theorem dX1_tryGiveBattery_1 : decode cX1_tryGiveBattery 1 = .ok (.iload_n 1, 1) := by decide +kernel
theorem dX1_tryGiveBattery_2 : decode cX1_tryGiveBattery 2 = .ok (.invokevirtual 82, 3) := by decide +kernel
theorem dX1_tryGiveBattery_5 : decode cX1_tryGiveBattery 5 = .ok (.astore_n 3, 1) := by decide +kernel
theorem dX1_tryGiveBattery_6 : decode cX1_tryGiveBattery 6 = .ok (.aload_n 3, 1) := by decide +kernel
theorem dX1_tryGiveBattery_7 : decode cX1_tryGiveBattery 7 = .ok (.ifnull 22, 3) := by decide +kernel
theorem dX1_tryGiveBattery_10 : decode cX1_tryGiveBattery 10 = .ok (.aload_n 3, 1) := by decide +kernel
theorem dX1_tryGiveBattery_11 : decode cX1_tryGiveBattery 11 = .ok (.getfield 71, 3) := by decide +kernel
theorem dX1_tryGiveBattery_14 : decode cX1_tryGiveBattery 14 = .ok (.ifCond .ne 15, 3) := by decide +kernel
theorem dX1_tryGiveBattery_17 : decode cX1_tryGiveBattery 17 = .ok (.iload_n 2, 1) := by decide +kernel
theorem dX1_tryGiveBattery_18 : decode cX1_tryGiveBattery 18 = .ok (.bipush 10, 2) := by decide +kernel
theorem dX1_tryGiveBattery_20 : decode cX1_tryGiveBattery 20 = .ok (.sipush 400, 3) := by decide +kernel
theorem dX1_tryGiveBattery_23 : decode cX1_tryGiveBattery 23 = .ok (.invokestatic 63, 3) := by decide +kernel
theorem dX1_tryGiveBattery_26 : decode cX1_tryGiveBattery 26 = .ok (.ifCond .ne 5, 3) := by decide +kernel
theorem dX1_tryGiveBattery_29 : decode cX1_tryGiveBattery 29 = .ok (.iconst 0, 1) := by decide +kernel
theorem dX1_tryGiveBattery_30 : decode cX1_tryGiveBattery 30 = .ok (.ireturn, 1) := by decide +kernel
theorem dX1_tryGiveBattery_31 : decode cX1_tryGiveBattery 31 = .ok (.aload_n 3, 1) := by decide +kernel
theorem dX1_tryGiveBattery_32 : decode cX1_tryGiveBattery 32 = .ok (.iload_n 2, 1) := by decide +kernel
theorem dX1_tryGiveBattery_33 : decode cX1_tryGiveBattery 33 = .ok (.invokevirtual 106, 3) := by decide +kernel
theorem dX1_tryGiveBattery_36 : decode cX1_tryGiveBattery 36 = .ok (.iconst 1, 1) := by decide +kernel
theorem dX1_tryGiveBattery_37 : decode cX1_tryGiveBattery 37 = .ok (.ireturn, 1) := by decide +kernel
theorem dX1_tryChange_0 : decode cX1_tryChange 0 = .ok (.iload_n 1, 1) := by decide +kernel
theorem dX1_tryChange_1 : decode cX1_tryChange 1 = .ok (.iload_n 2, 1) := by decide +kernel
theorem dX1_tryChange_2 : decode cX1_tryChange 2 = .ok (.invokestatic 121, 3) := by decide +kernel
theorem dX1_tryChange_5 : decode cX1_tryChange 5 = .ok (.ifCond .ne 5, 3) := by decide +kernel
theorem dX1_tryChange_8 : decode cX1_tryChange 8 = .ok (.iconst 0, 1) := by decide +kernel
theorem dX1_tryChange_9 : decode cX1_tryChange 9 = .ok (.ireturn, 1) := by decide +kernel
theorem dX1_tryChange_10 : decode cX1_tryChange 10 = .ok (.aload_n 0, 1) := by decide +kernel
theorem dX1_tryChange_11 : decode cX1_tryChange 11 = .ok (.iload_n 1, 1) := by decide +kernel
theorem dX1_tryChange_12 : decode cX1_tryChange 12 = .ok (.iload_n 2, 1) := by decide +kernel
theorem dX1_tryChange_13 : decode cX1_tryChange 13 = .ok (.invokevirtual 139, 3) := by decide +kernel
theorem dX1_tryChange_16 : decode cX1_tryChange 16 = .ok (.iconst 1, 1) := by decide +kernel
theorem dX1_tryChange_17 : decode cX1_tryChange 17 = .ok (.ireturn, 1) := by decide +kernel
theorem dX1_tryPassHours_0 : decode cX1_tryPassHours 0 = .ok (.iload_n 1, 1) := by decide +kernel
theorem dX1_tryPassHours_1 : decode cX1_tryPassHours 1 = .ok (.iconst 1, 1) := by decide +kernel
theorem dX1_tryPassHours_2 : decode cX1_tryPassHours 2 = .ok (.bipush 48, 2) := by decide +kernel
theorem dX1_tryPassHours_4 : decode cX1_tryPassHours 4 = .ok (.invokestatic 63, 3) := by decide +kernel
theorem dX1_tryPassHours_7 : decode cX1_tryPassHours 7 = .ok (.ifCond .ne 5, 3) := by decide +kernel
theorem dX1_tryPassHours_10 : decode cX1_tryPassHours 10 = .ok (.iconst 0, 1) := by decide +kernel
theorem dX1_tryPassHours_11 : decode cX1_tryPassHours 11 = .ok (.ireturn, 1) := by decide +kernel
theorem dX1_tryPassHours_12 : decode cX1_tryPassHours 12 = .ok (.aload_n 0, 1) := by decide +kernel
theorem dX1_tryPassHours_13 : decode cX1_tryPassHours 13 = .ok (.iload_n 1, 1) := by decide +kernel
theorem dX1_tryPassHours_14 : decode cX1_tryPassHours 14 = .ok (.invokevirtual 143, 3) := by decide +kernel
theorem dX1_tryPassHours_17 : decode cX1_tryPassHours 17 = .ok (.iconst 1, 1) := by decide +kernel
theorem dX1_tryPassHours_18 : decode cX1_tryPassHours 18 = .ok (.ireturn, 1) := by decide +kernel
theorem dX1_passHours_0 : decode cX1_passHours 0 = .ok (.iconst 0, 1) := by decide +kernel
theorem dX1_passHours_1 : decode cX1_passHours 1 = .ok (.istore_n 2, 1) := by decide +kernel
theorem dX1_passHours_2 : decode cX1_passHours 2 = .ok (.iload_n 2, 1) := by decide +kernel
theorem dX1_passHours_3 : decode cX1_passHours 3 = .ok (.iload_n 1, 1) := by decide +kernel
theorem dX1_passHours_4 : decode cX1_passHours 4 = .ok (.if_icmp .ge 35, 3) := by decide +kernel
theorem dX1_passHours_7 : decode cX1_passHours 7 = .ok (.aload_n 0, 1) := by decide +kernel
theorem dX1_passHours_8 : decode cX1_passHours 8 = .ok (.invokevirtual 146, 3) := by decide +kernel
theorem dX1_passHours_11 : decode cX1_passHours 11 = .ok (.aload_n 0, 1) := by decide +kernel
theorem dX1_passHours_12 : decode cX1_passHours 12 = .ok (.invokevirtual 149, 3) := by decide +kernel
theorem dX1_passHours_15 : decode cX1_passHours 15 = .ok (.aload_n 0, 1) := by decide +kernel
theorem dX1_passHours_16 : decode cX1_passHours 16 = .ok (.invokevirtual 152, 3) := by decide +kernel
theorem dX1_passHours_19 : decode cX1_passHours 19 = .ok (.aload_n 0, 1) := by decide +kernel
theorem dX1_passHours_20 : decode cX1_passHours 20 = .ok (.invokevirtual 155, 3) := by decide +kernel
theorem dX1_passHours_23 : decode cX1_passHours 23 = .ok (.aload_n 0, 1) := by decide +kernel
theorem dX1_passHours_24 : decode cX1_passHours 24 = .ok (.dup, 1) := by decide +kernel
theorem dX1_passHours_25 : decode cX1_passHours 25 = .ok (.getfield 44, 3) := by decide +kernel
theorem dX1_passHours_28 : decode cX1_passHours 28 = .ok (.iconst 1, 1) := by decide +kernel
theorem dX1_passHours_29 : decode cX1_passHours 29 = .ok (.iadd, 1) := by decide +kernel
theorem dX1_passHours_30 : decode cX1_passHours 30 = .ok (.putfield 44, 3) := by decide +kernel
theorem dX1_passHours_33 : decode cX1_passHours 33 = .ok (.iinc 2 1, 3) := by decide +kernel
theorem dX1_passHours_36 : decode cX1_passHours 36 = .ok (.goto (-34), 3) := by decide +kernel
theorem dX1_passHours_39 : decode cX1_passHours 39 = .ok (.return_, 1) := by decide +kernel
theorem dX1_moveBuses_0 : decode cX1_moveBuses 0 = .ok (.aload_n 0, 1) := by decide +kernel
theorem dX1_moveBuses_1 : decode cX1_moveBuses 1 = .ok (.invokevirtual 95, 3) := by decide +kernel
theorem dX1_moveBuses_4 : decode cX1_moveBuses 4 = .ok (.istore_n 1, 1) := by decide +kernel
theorem dX1_moveBuses_5 : decode cX1_moveBuses 5 = .ok (.iconst 0, 1) := by decide +kernel
theorem dX1_moveBuses_6 : decode cX1_moveBuses 6 = .ok (.istore_n 2, 1) := by decide +kernel
theorem dX1_moveBuses_7 : decode cX1_moveBuses 7 = .ok (.iload_n 2, 1) := by decide +kernel
theorem dX1_moveBuses_8 : decode cX1_moveBuses 8 = .ok (.aload_n 0, 1) := by decide +kernel
theorem dX1_moveBuses_9 : decode cX1_moveBuses 9 = .ok (.getfield 37, 3) := by decide +kernel
theorem dX1_moveBuses_12 : decode cX1_moveBuses 12 = .ok (.if_icmp .ge 52, 3) := by decide +kernel
theorem dX1_moveBuses_15 : decode cX1_moveBuses 15 = .ok (.aload_n 0, 1) := by decide +kernel
theorem dX1_moveBuses_16 : decode cX1_moveBuses 16 = .ok (.getfield 11, 3) := by decide +kernel
theorem dX1_moveBuses_19 : decode cX1_moveBuses 19 = .ok (.iload_n 2, 1) := by decide +kernel
theorem dX1_moveBuses_20 : decode cX1_moveBuses 20 = .ok (.aaload, 1) := by decide +kernel
theorem dX1_moveBuses_21 : decode cX1_moveBuses 21 = .ok (.astore_n 3, 1) := by decide +kernel
theorem dX1_moveBuses_22 : decode cX1_moveBuses 22 = .ok (.aload_n 3, 1) := by decide +kernel
theorem dX1_moveBuses_23 : decode cX1_moveBuses 23 = .ok (.getfield 71, 3) := by decide +kernel
theorem dX1_moveBuses_26 : decode cX1_moveBuses 26 = .ok (.ifCond .eq 19, 3) := by decide +kernel
theorem dX1_moveBuses_29 : decode cX1_moveBuses 29 = .ok (.aload_n 3, 1) := by decide +kernel
theorem dX1_moveBuses_30 : decode cX1_moveBuses 30 = .ok (.getfield 158, 3) := by decide +kernel
theorem dX1_moveBuses_33 : decode cX1_moveBuses 33 = .ok (.iload_n 1, 1) := by decide +kernel
theorem dX1_moveBuses_34 : decode cX1_moveBuses 34 = .ok (.if_icmp .ne 11, 3) := by decide +kernel
theorem dX1_moveBuses_37 : decode cX1_moveBuses 37 = .ok (.aload_n 3, 1) := by decide +kernel
theorem dX1_moveBuses_38 : decode cX1_moveBuses 38 = .ok (.iconst 0, 1) := by decide +kernel
theorem dX1_moveBuses_39 : decode cX1_moveBuses 39 = .ok (.putfield 71, 3) := by decide +kernel
theorem dX1_moveBuses_42 : decode cX1_moveBuses 42 = .ok (.goto 16, 3) := by decide +kernel
theorem dX1_moveBuses_45 : decode cX1_moveBuses 45 = .ok (.aload_n 0, 1) := by decide +kernel
theorem dX1_moveBuses_46 : decode cX1_moveBuses 46 = .ok (.aload_n 3, 1) := by decide +kernel
theorem dX1_moveBuses_47 : decode cX1_moveBuses 47 = .ok (.invokevirtual 99, 3) := by decide +kernel
theorem dX1_moveBuses_50 : decode cX1_moveBuses 50 = .ok (.ifCond .eq 8, 3) := by decide +kernel
theorem dX1_moveBuses_53 : decode cX1_moveBuses 53 = .ok (.aload_n 0, 1) := by decide +kernel
theorem dX1_moveBuses_54 : decode cX1_moveBuses 54 = .ok (.aload_n 3, 1) := by decide +kernel
theorem dX1_moveBuses_55 : decode cX1_moveBuses 55 = .ok (.invokevirtual 161, 3) := by decide +kernel
theorem dX1_moveBuses_58 : decode cX1_moveBuses 58 = .ok (.iinc 2 1, 3) := by decide +kernel
theorem dX1_moveBuses_61 : decode cX1_moveBuses 61 = .ok (.goto (-54), 3) := by decide +kernel
theorem dX1_moveBuses_64 : decode cX1_moveBuses 64 = .ok (.return_, 1) := by decide +kernel
theorem dX1_isDue_0 : decode cX1_isDue 0 = .ok (.aload_n 1, 1) := by decide +kernel
theorem dX1_isDue_1 : decode cX1_isDue 1 = .ok (.getfield 71, 3) := by decide +kernel
theorem dX1_isDue_4 : decode cX1_isDue 4 = .ok (.ifCond .ne 18, 3) := by decide +kernel
theorem dX1_isDue_7 : decode cX1_isDue 7 = .ok (.aload_n 1, 1) := by decide +kernel
theorem dX1_isDue_8 : decode cX1_isDue 8 = .ok (.getfield 92, 3) := by decide +kernel
theorem dX1_isDue_11 : decode cX1_isDue 11 = .ok (.aload_n 0, 1) := by decide +kernel
theorem dX1_isDue_12 : decode cX1_isDue 12 = .ok (.invokevirtual 95, 3) := by decide +kernel
theorem dX1_isDue_15 : decode cX1_isDue 15 = .ok (.if_icmp .ne 7, 3) := by decide +kernel
theorem dX1_isDue_18 : decode cX1_isDue 18 = .ok (.iconst 1, 1) := by decide +kernel
theorem dX1_isDue_19 : decode cX1_isDue 19 = .ok (.goto 4, 3) := by decide +kernel
theorem dX1_isDue_22 : decode cX1_isDue 22 = .ok (.iconst 0, 1) := by decide +kernel
theorem dX1_isDue_23 : decode cX1_isDue 23 = .ok (.ireturn, 1) := by decide +kernel
theorem dX1_sendOut_0 : decode cX1_sendOut 0 = .ok (.aload_n 1, 1) := by decide +kernel
theorem dX1_sendOut_1 : decode cX1_sendOut 1 = .ok (.invokevirtual 75, 3) := by decide +kernel
theorem dX1_sendOut_4 : decode cX1_sendOut 4 = .ok (.ifCond .eq 31, 3) := by decide +kernel
theorem dX1_sendOut_7 : decode cX1_sendOut 7 = .ok (.aload_n 0, 1) := by decide +kernel
theorem dX1_sendOut_8 : decode cX1_sendOut 8 = .ok (.dup, 1) := by decide +kernel
theorem dX1_sendOut_9 : decode cX1_sendOut 9 = .ok (.getfield 53, 3) := by decide +kernel
theorem dX1_sendOut_12 : decode cX1_sendOut 12 = .ok (.iconst 1, 1) := by decide +kernel
theorem dX1_sendOut_13 : decode cX1_sendOut 13 = .ok (.iadd, 1) := by decide +kernel
theorem dX1_sendOut_14 : decode cX1_sendOut 14 = .ok (.putfield 53, 3) := by decide +kernel
theorem dX1_sendOut_17 : decode cX1_sendOut 17 = .ok (.aload_n 0, 1) := by decide +kernel
theorem dX1_sendOut_18 : decode cX1_sendOut 18 = .ok (.dup, 1) := by decide +kernel
theorem dX1_sendOut_19 : decode cX1_sendOut 19 = .ok (.getfield 47, 3) := by decide +kernel
theorem dX1_sendOut_22 : decode cX1_sendOut 22 = .ok (.aload_n 0, 1) := by decide +kernel
theorem dX1_sendOut_23 : decode cX1_sendOut 23 = .ok (.getfield 24, 3) := by decide +kernel
theorem dX1_sendOut_26 : decode cX1_sendOut 26 = .ok (.iconst 3, 1) := by decide +kernel
theorem dX1_sendOut_27 : decode cX1_sendOut 27 = .ok (.iaload, 1) := by decide +kernel
theorem dX1_sendOut_28 : decode cX1_sendOut 28 = .ok (.iadd, 1) := by decide +kernel
theorem dX1_sendOut_29 : decode cX1_sendOut 29 = .ok (.putfield 47, 3) := by decide +kernel
theorem dX1_sendOut_32 : decode cX1_sendOut 32 = .ok (.goto 27, 3) := by decide +kernel
theorem dX1_sendOut_35 : decode cX1_sendOut 35 = .ok (.aload_n 1, 1) := by decide +kernel
theorem dX1_sendOut_36 : decode cX1_sendOut 36 = .ok (.aload_n 1, 1) := by decide +kernel
theorem dX1_sendOut_37 : decode cX1_sendOut 37 = .ok (.invokevirtual 164, 3) := by decide +kernel
theorem dX1_sendOut_40 : decode cX1_sendOut 40 = .ok (.aload_n 0, 1) := by decide +kernel
theorem dX1_sendOut_41 : decode cX1_sendOut 41 = .ok (.getfield 24, 3) := by decide +kernel
theorem dX1_sendOut_44 : decode cX1_sendOut 44 = .ok (.iconst 4, 1) := by decide +kernel
theorem dX1_sendOut_45 : decode cX1_sendOut 45 = .ok (.iaload, 1) := by decide +kernel
theorem dX1_sendOut_46 : decode cX1_sendOut 46 = .ok (.invokevirtual 167, 3) := by decide +kernel
theorem dX1_sendOut_49 : decode cX1_sendOut 49 = .ok (.aload_n 0, 1) := by decide +kernel
theorem dX1_sendOut_50 : decode cX1_sendOut 50 = .ok (.dup, 1) := by decide +kernel
theorem dX1_sendOut_51 : decode cX1_sendOut 51 = .ok (.getfield 56, 3) := by decide +kernel
theorem dX1_sendOut_54 : decode cX1_sendOut 54 = .ok (.iconst 1, 1) := by decide +kernel
theorem dX1_sendOut_55 : decode cX1_sendOut 55 = .ok (.iadd, 1) := by decide +kernel
theorem dX1_sendOut_56 : decode cX1_sendOut 56 = .ok (.putfield 56, 3) := by decide +kernel
theorem dX1_sendOut_59 : decode cX1_sendOut 59 = .ok (.return_, 1) := by decide +kernel
theorem dX1_lineUp_0 : decode cX1_lineUp 0 = .ok (.aload_n 0, 1) := by decide +kernel
theorem dX1_lineUp_1 : decode cX1_lineUp 1 = .ok (.invokevirtual 170, 3) := by decide +kernel
theorem dX1_lineUp_4 : decode cX1_lineUp 4 = .ok (.istore_n 1, 1) := by decide +kernel
theorem dX1_lineUp_5 : decode cX1_lineUp 5 = .ok (.iconst 0, 1) := by decide +kernel
theorem dX1_lineUp_6 : decode cX1_lineUp 6 = .ok (.istore_n 2, 1) := by decide +kernel
theorem dX1_lineUp_7 : decode cX1_lineUp 7 = .ok (.iload_n 2, 1) := by decide +kernel
theorem dX1_lineUp_8 : decode cX1_lineUp 8 = .ok (.aload_n 0, 1) := by decide +kernel
theorem dX1_lineUp_9 : decode cX1_lineUp 9 = .ok (.getfield 37, 3) := by decide +kernel
theorem dX1_lineUp_12 : decode cX1_lineUp 12 = .ok (.if_icmp .ge 36, 3) := by decide +kernel
theorem dX1_lineUp_15 : decode cX1_lineUp 15 = .ok (.aload_n 0, 1) := by decide +kernel
theorem dX1_lineUp_16 : decode cX1_lineUp 16 = .ok (.getfield 11, 3) := by decide +kernel
theorem dX1_lineUp_19 : decode cX1_lineUp 19 = .ok (.iload_n 2, 1) := by decide +kernel
theorem dX1_lineUp_20 : decode cX1_lineUp 20 = .ok (.aaload, 1) := by decide +kernel
theorem dX1_lineUp_21 : decode cX1_lineUp 21 = .ok (.astore_n 3, 1) := by decide +kernel
theorem dX1_lineUp_22 : decode cX1_lineUp 22 = .ok (.aload_n 3, 1) := by decide +kernel
theorem dX1_lineUp_23 : decode cX1_lineUp 23 = .ok (.aload_n 0, 1) := by decide +kernel
theorem dX1_lineUp_24 : decode cX1_lineUp 24 = .ok (.aload_n 3, 1) := by decide +kernel
theorem dX1_lineUp_25 : decode cX1_lineUp 25 = .ok (.iload_n 1, 1) := by decide +kernel
theorem dX1_lineUp_26 : decode cX1_lineUp 26 = .ok (.invokevirtual 173, 3) := by decide +kernel
theorem dX1_lineUp_29 : decode cX1_lineUp 29 = .ok (.putfield 177, 3) := by decide +kernel
theorem dX1_lineUp_32 : decode cX1_lineUp 32 = .ok (.aload_n 3, 1) := by decide +kernel
theorem dX1_lineUp_33 : decode cX1_lineUp 33 = .ok (.iconst (-1), 1) := by decide +kernel
theorem dX1_lineUp_34 : decode cX1_lineUp 34 = .ok (.putfield 180, 3) := by decide +kernel
theorem dX1_lineUp_37 : decode cX1_lineUp 37 = .ok (.aload_n 3, 1) := by decide +kernel
theorem dX1_lineUp_38 : decode cX1_lineUp 38 = .ok (.iconst 0, 1) := by decide +kernel
theorem dX1_lineUp_39 : decode cX1_lineUp 39 = .ok (.putfield 183, 3) := by decide +kernel
theorem dX1_lineUp_42 : decode cX1_lineUp 42 = .ok (.iinc 2 1, 3) := by decide +kernel
theorem dX1_lineUp_45 : decode cX1_lineUp 45 = .ok (.goto (-38), 3) := by decide +kernel
theorem dX1_lineUp_48 : decode cX1_lineUp 48 = .ok (.return_, 1) := by decide +kernel
theorem dX1_plugIn_0 : decode cX1_plugIn 0 = .ok (.aload_n 0, 1) := by decide +kernel
theorem dX1_plugIn_1 : decode cX1_plugIn 1 = .ok (.getfield 24, 3) := by decide +kernel
theorem dX1_plugIn_4 : decode cX1_plugIn 4 = .ok (.iconst 0, 1) := by decide +kernel
theorem dX1_plugIn_5 : decode cX1_plugIn 5 = .ok (.iaload, 1) := by decide +kernel
theorem dX1_plugIn_6 : decode cX1_plugIn 6 = .ok (.istore_n 1, 1) := by decide +kernel
theorem dX1_plugIn_7 : decode cX1_plugIn 7 = .ok (.iconst 0, 1) := by decide +kernel
theorem dX1_plugIn_8 : decode cX1_plugIn 8 = .ok (.istore_n 2, 1) := by decide +kernel
theorem dX1_plugIn_9 : decode cX1_plugIn 9 = .ok (.iload_n 2, 1) := by decide +kernel
theorem dX1_plugIn_10 : decode cX1_plugIn 10 = .ok (.aload_n 0, 1) := by decide +kernel
theorem dX1_plugIn_11 : decode cX1_plugIn 11 = .ok (.getfield 41, 3) := by decide +kernel
theorem dX1_plugIn_14 : decode cX1_plugIn 14 = .ok (.if_icmp .ge 86, 3) := by decide +kernel
theorem dX1_plugIn_17 : decode cX1_plugIn 17 = .ok (.aload_n 0, 1) := by decide +kernel
theorem dX1_plugIn_18 : decode cX1_plugIn 18 = .ok (.invokevirtual 186, 3) := by decide +kernel
theorem dX1_plugIn_21 : decode cX1_plugIn 21 = .ok (.istore_n 3, 1) := by decide +kernel
theorem dX1_plugIn_22 : decode cX1_plugIn 22 = .ok (.iload_n 3, 1) := by decide +kernel
theorem dX1_plugIn_23 : decode cX1_plugIn 23 = .ok (.iconst (-1), 1) := by decide +kernel
theorem dX1_plugIn_24 : decode cX1_plugIn 24 = .ok (.if_icmp .ne 4, 3) := by decide +kernel
theorem dX1_plugIn_27 : decode cX1_plugIn 27 = .ok (.return_, 1) := by decide +kernel
theorem dX1_plugIn_28 : decode cX1_plugIn 28 = .ok (.aload_n 0, 1) := by decide +kernel
theorem dX1_plugIn_29 : decode cX1_plugIn 29 = .ok (.getfield 11, 3) := by decide +kernel
theorem dX1_plugIn_32 : decode cX1_plugIn 32 = .ok (.iload_n 3, 1) := by decide +kernel
theorem dX1_plugIn_33 : decode cX1_plugIn 33 = .ok (.aaload, 1) := by decide +kernel
theorem dX1_plugIn_34 : decode cX1_plugIn 34 = .ok (.astore 4, 2) := by decide +kernel
theorem dX1_plugIn_36 : decode cX1_plugIn 36 = .ok (.aload 4, 2) := by decide +kernel
theorem dX1_plugIn_38 : decode cX1_plugIn 38 = .ok (.iconst (-1), 1) := by decide +kernel
theorem dX1_plugIn_39 : decode cX1_plugIn 39 = .ok (.putfield 177, 3) := by decide +kernel
theorem dX1_plugIn_42 : decode cX1_plugIn 42 = .ok (.aload 4, 2) := by decide +kernel
theorem dX1_plugIn_44 : decode cX1_plugIn 44 = .ok (.aload_n 0, 1) := by decide +kernel
theorem dX1_plugIn_45 : decode cX1_plugIn 45 = .ok (.getfield 21, 3) := by decide +kernel
theorem dX1_plugIn_48 : decode cX1_plugIn 48 = .ok (.iload_n 2, 1) := by decide +kernel
theorem dX1_plugIn_49 : decode cX1_plugIn 49 = .ok (.iaload, 1) := by decide +kernel
theorem dX1_plugIn_50 : decode cX1_plugIn 50 = .ok (.putfield 180, 3) := by decide +kernel
theorem dX1_plugIn_53 : decode cX1_plugIn 53 = .ok (.aload 4, 2) := by decide +kernel
theorem dX1_plugIn_55 : decode cX1_plugIn 55 = .ok (.iload_n 1, 1) := by decide +kernel
theorem dX1_plugIn_56 : decode cX1_plugIn 56 = .ok (.aload_n 0, 1) := by decide +kernel
theorem dX1_plugIn_57 : decode cX1_plugIn 57 = .ok (.aload_n 0, 1) := by decide +kernel
theorem dX1_plugIn_58 : decode cX1_plugIn 58 = .ok (.getfield 21, 3) := by decide +kernel
theorem dX1_plugIn_61 : decode cX1_plugIn 61 = .ok (.iload_n 2, 1) := by decide +kernel
theorem dX1_plugIn_62 : decode cX1_plugIn 62 = .ok (.iaload, 1) := by decide +kernel
theorem dX1_plugIn_63 : decode cX1_plugIn 63 = .ok (.invokevirtual 117, 3) := by decide +kernel
theorem dX1_plugIn_66 : decode cX1_plugIn 66 = .ok (.aload 4, 2) := by decide +kernel
theorem dX1_plugIn_68 : decode cX1_plugIn 68 = .ok (.getfield 189, 3) := by decide +kernel
theorem dX1_plugIn_71 : decode cX1_plugIn 71 = .ok (.aload 4, 2) := by decide +kernel
theorem dX1_plugIn_73 : decode cX1_plugIn 73 = .ok (.getfield 79, 3) := by decide +kernel
theorem dX1_plugIn_76 : decode cX1_plugIn 76 = .ok (.isub, 1) := by decide +kernel
theorem dX1_plugIn_77 : decode cX1_plugIn 77 = .ok (.invokestatic 192, 3) := by decide +kernel
theorem dX1_plugIn_80 : decode cX1_plugIn 80 = .ok (.invokestatic 192, 3) := by decide +kernel
theorem dX1_plugIn_83 : decode cX1_plugIn 83 = .ok (.putfield 183, 3) := by decide +kernel
theorem dX1_plugIn_86 : decode cX1_plugIn 86 = .ok (.iload_n 1, 1) := by decide +kernel
theorem dX1_plugIn_87 : decode cX1_plugIn 87 = .ok (.aload 4, 2) := by decide +kernel
theorem dX1_plugIn_89 : decode cX1_plugIn 89 = .ok (.getfield 183, 3) := by decide +kernel
theorem dX1_plugIn_92 : decode cX1_plugIn 92 = .ok (.isub, 1) := by decide +kernel
theorem dX1_plugIn_93 : decode cX1_plugIn 93 = .ok (.istore_n 1, 1) := by decide +kernel
theorem dX1_plugIn_94 : decode cX1_plugIn 94 = .ok (.iinc 2 1, 3) := by decide +kernel
theorem dX1_plugIn_97 : decode cX1_plugIn 97 = .ok (.goto (-88), 3) := by decide +kernel
theorem dX1_plugIn_100 : decode cX1_plugIn 100 = .ok (.return_, 1) := by decide +kernel
theorem dX1_rankOf_0 : decode cX1_rankOf 0 = .ok (.aload_n 1, 1) := by decide +kernel
theorem dX1_rankOf_1 : decode cX1_rankOf 1 = .ok (.getfield 71, 3) := by decide +kernel
theorem dX1_rankOf_4 : decode cX1_rankOf 4 = .ok (.ifCond .ne 14, 3) := by decide +kernel
theorem dX1_rankOf_7 : decode cX1_rankOf 7 = .ok (.aload_n 1, 1) := by decide +kernel
theorem dX1_rankOf_8 : decode cX1_rankOf 8 = .ok (.getfield 79, 3) := by decide +kernel
theorem dX1_rankOf_11 : decode cX1_rankOf 11 = .ok (.aload_n 1, 1) := by decide +kernel
theorem dX1_rankOf_12 : decode cX1_rankOf 12 = .ok (.getfield 189, 3) := by decide +kernel
theorem dX1_rankOf_15 : decode cX1_rankOf 15 = .ok (.if_icmp .lt 5, 3) := by decide +kernel
theorem dX1_rankOf_18 : decode cX1_rankOf 18 = .ok (.iconst (-1), 1) := by decide +kernel
theorem dX1_rankOf_19 : decode cX1_rankOf 19 = .ok (.ireturn, 1) := by decide +kernel
theorem dX1_rankOf_20 : decode cX1_rankOf 20 = .ok (.aload_n 1, 1) := by decide +kernel
theorem dX1_rankOf_21 : decode cX1_rankOf 21 = .ok (.getfield 79, 3) := by decide +kernel
theorem dX1_rankOf_24 : decode cX1_rankOf 24 = .ok (.aload_n 1, 1) := by decide +kernel
theorem dX1_rankOf_25 : decode cX1_rankOf 25 = .ok (.getfield 195, 3) := by decide +kernel
theorem dX1_rankOf_28 : decode cX1_rankOf 28 = .ok (.if_icmp .ge 29, 3) := by decide +kernel
theorem dX1_rankOf_31 : decode cX1_rankOf 31 = .ok (.aload_n 1, 1) := by decide +kernel
theorem dX1_rankOf_32 : decode cX1_rankOf 32 = .ok (.getfield 195, 3) := by decide +kernel
theorem dX1_rankOf_35 : decode cX1_rankOf 35 = .ok (.aload_n 1, 1) := by decide +kernel
theorem dX1_rankOf_36 : decode cX1_rankOf 36 = .ok (.getfield 79, 3) := by decide +kernel
theorem dX1_rankOf_39 : decode cX1_rankOf 39 = .ok (.isub, 1) := by decide +kernel
theorem dX1_rankOf_40 : decode cX1_rankOf 40 = .ok (.istore_n 3, 1) := by decide +kernel
theorem dX1_rankOf_41 : decode cX1_rankOf 41 = .ok (.sipush 401, 3) := by decide +kernel
theorem dX1_rankOf_44 : decode cX1_rankOf 44 = .ok (.aload_n 0, 1) := by decide +kernel
theorem dX1_rankOf_45 : decode cX1_rankOf 45 = .ok (.aload_n 1, 1) := by decide +kernel
theorem dX1_rankOf_46 : decode cX1_rankOf 46 = .ok (.invokevirtual 198, 3) := by decide +kernel
theorem dX1_rankOf_49 : decode cX1_rankOf 49 = .ok (.imul, 1) := by decide +kernel
theorem dX1_rankOf_50 : decode cX1_rankOf 50 = .ok (.sipush 400, 3) := by decide +kernel
theorem dX1_rankOf_53 : decode cX1_rankOf 53 = .ok (.iadd, 1) := by decide +kernel
theorem dX1_rankOf_54 : decode cX1_rankOf 54 = .ok (.iload_n 3, 1) := by decide +kernel
theorem dX1_rankOf_55 : decode cX1_rankOf 55 = .ok (.isub, 1) := by decide +kernel
theorem dX1_rankOf_56 : decode cX1_rankOf 56 = .ok (.ireturn, 1) := by decide +kernel
theorem dX1_rankOf_57 : decode cX1_rankOf 57 = .ok (.iload_n 2, 1) := by decide +kernel
theorem dX1_rankOf_58 : decode cX1_rankOf 58 = .ok (.ifCond .eq 8, 3) := by decide +kernel
theorem dX1_rankOf_61 : decode cX1_rankOf 61 = .ok (.ldc 202, 2) := by decide +kernel
theorem dX1_rankOf_63 : decode cX1_rankOf 63 = .ok (.goto 4, 3) := by decide +kernel
theorem dX1_rankOf_66 : decode cX1_rankOf 66 = .ok (.iconst (-1), 1) := by decide +kernel
theorem dX1_rankOf_67 : decode cX1_rankOf 67 = .ok (.ireturn, 1) := by decide +kernel
theorem dX1_firstInLine_0 : decode cX1_firstInLine 0 = .ok (.iconst (-1), 1) := by decide +kernel
theorem dX1_firstInLine_1 : decode cX1_firstInLine 1 = .ok (.istore_n 1, 1) := by decide +kernel
theorem dX1_firstInLine_2 : decode cX1_firstInLine 2 = .ok (.ldc 203, 2) := by decide +kernel
theorem dX1_firstInLine_4 : decode cX1_firstInLine 4 = .ok (.istore_n 2, 1) := by decide +kernel
theorem dX1_firstInLine_5 : decode cX1_firstInLine 5 = .ok (.iconst 0, 1) := by decide +kernel
theorem dX1_firstInLine_6 : decode cX1_firstInLine 6 = .ok (.istore_n 3, 1) := by decide +kernel
theorem dX1_firstInLine_7 : decode cX1_firstInLine 7 = .ok (.iload_n 3, 1) := by decide +kernel
theorem dX1_firstInLine_8 : decode cX1_firstInLine 8 = .ok (.aload_n 0, 1) := by decide +kernel
theorem dX1_firstInLine_9 : decode cX1_firstInLine 9 = .ok (.getfield 37, 3) := by decide +kernel
theorem dX1_firstInLine_12 : decode cX1_firstInLine 12 = .ok (.if_icmp .ge 37, 3) := by decide +kernel
theorem dX1_firstInLine_15 : decode cX1_firstInLine 15 = .ok (.aload_n 0, 1) := by decide +kernel
theorem dX1_firstInLine_16 : decode cX1_firstInLine 16 = .ok (.getfield 11, 3) := by decide +kernel
theorem dX1_firstInLine_19 : decode cX1_firstInLine 19 = .ok (.iload_n 3, 1) := by decide +kernel
theorem dX1_firstInLine_20 : decode cX1_firstInLine 20 = .ok (.aaload, 1) := by decide +kernel
theorem dX1_firstInLine_21 : decode cX1_firstInLine 21 = .ok (.getfield 177, 3) := by decide +kernel
theorem dX1_firstInLine_24 : decode cX1_firstInLine 24 = .ok (.istore 4, 2) := by decide +kernel
theorem dX1_firstInLine_26 : decode cX1_firstInLine 26 = .ok (.iload 4, 2) := by decide +kernel
theorem dX1_firstInLine_28 : decode cX1_firstInLine 28 = .ok (.iconst (-1), 1) := by decide +kernel
theorem dX1_firstInLine_29 : decode cX1_firstInLine 29 = .ok (.if_icmp .eq 14, 3) := by decide +kernel
theorem dX1_firstInLine_32 : decode cX1_firstInLine 32 = .ok (.iload 4, 2) := by decide +kernel
theorem dX1_firstInLine_34 : decode cX1_firstInLine 34 = .ok (.iload_n 2, 1) := by decide +kernel
theorem dX1_firstInLine_35 : decode cX1_firstInLine 35 = .ok (.if_icmp .ge 8, 3) := by decide +kernel
theorem dX1_firstInLine_38 : decode cX1_firstInLine 38 = .ok (.iload_n 3, 1) := by decide +kernel
theorem dX1_firstInLine_39 : decode cX1_firstInLine 39 = .ok (.istore_n 1, 1) := by decide +kernel
theorem dX1_firstInLine_40 : decode cX1_firstInLine 40 = .ok (.iload 4, 2) := by decide +kernel
theorem dX1_firstInLine_42 : decode cX1_firstInLine 42 = .ok (.istore_n 2, 1) := by decide +kernel
theorem dX1_firstInLine_43 : decode cX1_firstInLine 43 = .ok (.iinc 3 1, 3) := by decide +kernel
theorem dX1_firstInLine_46 : decode cX1_firstInLine 46 = .ok (.goto (-39), 3) := by decide +kernel
theorem dX1_firstInLine_49 : decode cX1_firstInLine 49 = .ok (.iload_n 1, 1) := by decide +kernel
theorem dX1_firstInLine_50 : decode cX1_firstInLine 50 = .ok (.ireturn, 1) := by decide +kernel
theorem dX1_chargeBuses_0 : decode cX1_chargeBuses 0 = .ok (.aload_n 0, 1) := by decide +kernel
theorem dX1_chargeBuses_1 : decode cX1_chargeBuses 1 = .ok (.getfield 24, 3) := by decide +kernel
theorem dX1_chargeBuses_4 : decode cX1_chargeBuses 4 = .ok (.aload_n 0, 1) := by decide +kernel
theorem dX1_chargeBuses_5 : decode cX1_chargeBuses 5 = .ok (.invokevirtual 170, 3) := by decide +kernel
theorem dX1_chargeBuses_8 : decode cX1_chargeBuses 8 = .ok (.ifCond .eq 7, 3) := by decide +kernel
theorem dX1_chargeBuses_11 : decode cX1_chargeBuses 11 = .ok (.iconst 2, 1) := by decide +kernel
theorem dX1_chargeBuses_12 : decode cX1_chargeBuses 12 = .ok (.goto 4, 3) := by decide +kernel
theorem dX1_chargeBuses_15 : decode cX1_chargeBuses 15 = .ok (.iconst 1, 1) := by decide +kernel
theorem dX1_chargeBuses_16 : decode cX1_chargeBuses 16 = .ok (.iaload, 1) := by decide +kernel
theorem dX1_chargeBuses_17 : decode cX1_chargeBuses 17 = .ok (.istore_n 1, 1) := by decide +kernel
theorem dX1_chargeBuses_18 : decode cX1_chargeBuses 18 = .ok (.iconst 0, 1) := by decide +kernel
theorem dX1_chargeBuses_19 : decode cX1_chargeBuses 19 = .ok (.istore_n 2, 1) := by decide +kernel
theorem dX1_chargeBuses_20 : decode cX1_chargeBuses 20 = .ok (.iload_n 2, 1) := by decide +kernel
theorem dX1_chargeBuses_21 : decode cX1_chargeBuses 21 = .ok (.aload_n 0, 1) := by decide +kernel
theorem dX1_chargeBuses_22 : decode cX1_chargeBuses 22 = .ok (.getfield 37, 3) := by decide +kernel
theorem dX1_chargeBuses_25 : decode cX1_chargeBuses 25 = .ok (.if_icmp .ge 57, 3) := by decide +kernel
theorem dX1_chargeBuses_28 : decode cX1_chargeBuses 28 = .ok (.aload_n 0, 1) := by decide +kernel
theorem dX1_chargeBuses_29 : decode cX1_chargeBuses 29 = .ok (.getfield 11, 3) := by decide +kernel
theorem dX1_chargeBuses_32 : decode cX1_chargeBuses 32 = .ok (.iload_n 2, 1) := by decide +kernel
theorem dX1_chargeBuses_33 : decode cX1_chargeBuses 33 = .ok (.aaload, 1) := by decide +kernel
theorem dX1_chargeBuses_34 : decode cX1_chargeBuses 34 = .ok (.astore_n 3, 1) := by decide +kernel
theorem dX1_chargeBuses_35 : decode cX1_chargeBuses 35 = .ok (.aload_n 3, 1) := by decide +kernel
theorem dX1_chargeBuses_36 : decode cX1_chargeBuses 36 = .ok (.dup, 1) := by decide +kernel
theorem dX1_chargeBuses_37 : decode cX1_chargeBuses 37 = .ok (.getfield 79, 3) := by decide +kernel
theorem dX1_chargeBuses_40 : decode cX1_chargeBuses 40 = .ok (.aload_n 3, 1) := by decide +kernel
theorem dX1_chargeBuses_41 : decode cX1_chargeBuses 41 = .ok (.getfield 183, 3) := by decide +kernel
theorem dX1_chargeBuses_44 : decode cX1_chargeBuses 44 = .ok (.iadd, 1) := by decide +kernel
theorem dX1_chargeBuses_45 : decode cX1_chargeBuses 45 = .ok (.putfield 79, 3) := by decide +kernel
theorem dX1_chargeBuses_48 : decode cX1_chargeBuses 48 = .ok (.aload_n 0, 1) := by decide +kernel
theorem dX1_chargeBuses_49 : decode cX1_chargeBuses 49 = .ok (.dup, 1) := by decide +kernel
theorem dX1_chargeBuses_50 : decode cX1_chargeBuses 50 = .ok (.getfield 50, 3) := by decide +kernel
theorem dX1_chargeBuses_53 : decode cX1_chargeBuses 53 = .ok (.aload_n 3, 1) := by decide +kernel
theorem dX1_chargeBuses_54 : decode cX1_chargeBuses 54 = .ok (.getfield 183, 3) := by decide +kernel
theorem dX1_chargeBuses_57 : decode cX1_chargeBuses 57 = .ok (.iadd, 1) := by decide +kernel
theorem dX1_chargeBuses_58 : decode cX1_chargeBuses 58 = .ok (.putfield 50, 3) := by decide +kernel
theorem dX1_chargeBuses_61 : decode cX1_chargeBuses 61 = .ok (.aload_n 0, 1) := by decide +kernel
theorem dX1_chargeBuses_62 : decode cX1_chargeBuses 62 = .ok (.dup, 1) := by decide +kernel
theorem dX1_chargeBuses_63 : decode cX1_chargeBuses 63 = .ok (.getfield 47, 3) := by decide +kernel
theorem dX1_chargeBuses_66 : decode cX1_chargeBuses 66 = .ok (.aload_n 3, 1) := by decide +kernel
theorem dX1_chargeBuses_67 : decode cX1_chargeBuses 67 = .ok (.getfield 183, 3) := by decide +kernel
theorem dX1_chargeBuses_70 : decode cX1_chargeBuses 70 = .ok (.iload_n 1, 1) := by decide +kernel
theorem dX1_chargeBuses_71 : decode cX1_chargeBuses 71 = .ok (.imul, 1) := by decide +kernel
theorem dX1_chargeBuses_72 : decode cX1_chargeBuses 72 = .ok (.iadd, 1) := by decide +kernel
theorem dX1_chargeBuses_73 : decode cX1_chargeBuses 73 = .ok (.putfield 47, 3) := by decide +kernel
theorem dX1_chargeBuses_76 : decode cX1_chargeBuses 76 = .ok (.iinc 2 1, 3) := by decide +kernel
theorem dX1_chargeBuses_79 : decode cX1_chargeBuses 79 = .ok (.goto (-59), 3) := by decide +kernel
theorem dX1_chargeBuses_82 : decode cX1_chargeBuses 82 = .ok (.return_, 1) := by decide +kernel
theorem dX1_unitsOf_0 : decode cX1_unitsOf 0 = .ok (.aload_n 0, 1) := by decide +kernel
theorem dX1_unitsOf_1 : decode cX1_unitsOf 1 = .ok (.iload_n 1, 1) := by decide +kernel
theorem dX1_unitsOf_2 : decode cX1_unitsOf 2 = .ok (.invokevirtual 82, 3) := by decide +kernel
theorem dX1_unitsOf_5 : decode cX1_unitsOf 5 = .ok (.astore_n 2, 1) := by decide +kernel
theorem dX1_unitsOf_6 : decode cX1_unitsOf 6 = .ok (.aload_n 2, 1) := by decide +kernel
theorem dX1_unitsOf_7 : decode cX1_unitsOf 7 = .ok (.ifnonnull 7, 3) := by decide +kernel
theorem dX1_unitsOf_10 : decode cX1_unitsOf 10 = .ok (.iconst 0, 1) := by decide +kernel
theorem dX1_unitsOf_11 : decode cX1_unitsOf 11 = .ok (.goto 7, 3) := by decide +kernel
theorem dX1_unitsOf_14 : decode cX1_unitsOf 14 = .ok (.aload_n 2, 1) := by decide +kernel
theorem dX1_unitsOf_15 : decode cX1_unitsOf 15 = .ok (.getfield 183, 3) := by decide +kernel
theorem dX1_unitsOf_18 : decode cX1_unitsOf 18 = .ok (.ireturn, 1) := by decide +kernel
theorem dX1_chargerOf_0 : decode cX1_chargerOf 0 = .ok (.aload_n 0, 1) := by decide +kernel
theorem dX1_chargerOf_1 : decode cX1_chargerOf 1 = .ok (.iload_n 1, 1) := by decide +kernel
theorem dX1_chargerOf_2 : decode cX1_chargerOf 2 = .ok (.invokevirtual 82, 3) := by decide +kernel
theorem dX1_chargerOf_5 : decode cX1_chargerOf 5 = .ok (.astore_n 2, 1) := by decide +kernel
theorem dX1_chargerOf_6 : decode cX1_chargerOf 6 = .ok (.aload_n 2, 1) := by decide +kernel
theorem dX1_chargerOf_7 : decode cX1_chargerOf 7 = .ok (.ifnonnull 7, 3) := by decide +kernel
theorem dX1_chargerOf_10 : decode cX1_chargerOf 10 = .ok (.iconst (-1), 1) := by decide +kernel
theorem dX1_chargerOf_11 : decode cX1_chargerOf 11 = .ok (.goto 7, 3) := by decide +kernel
theorem dX1_chargerOf_14 : decode cX1_chargerOf 14 = .ok (.aload_n 2, 1) := by decide +kernel
theorem dX1_chargerOf_15 : decode cX1_chargerOf 15 = .ok (.getfield 180, 3) := by decide +kernel
theorem dX1_chargerOf_18 : decode cX1_chargerOf 18 = .ok (.ireturn, 1) := by decide +kernel
theorem dX1_busAtCharger_0 : decode cX1_busAtCharger 0 = .ok (.iconst 0, 1) := by decide +kernel
theorem dX1_busAtCharger_1 : decode cX1_busAtCharger 1 = .ok (.istore_n 2, 1) := by decide +kernel
theorem dX1_busAtCharger_2 : decode cX1_busAtCharger 2 = .ok (.iload_n 2, 1) := by decide +kernel
theorem dX1_busAtCharger_3 : decode cX1_busAtCharger 3 = .ok (.aload_n 0, 1) := by decide +kernel
theorem dX1_busAtCharger_4 : decode cX1_busAtCharger 4 = .ok (.getfield 37, 3) := by decide +kernel
theorem dX1_busAtCharger_7 : decode cX1_busAtCharger 7 = .ok (.if_icmp .ge 24, 3) := by decide +kernel
theorem dX1_busAtCharger_10 : decode cX1_busAtCharger 10 = .ok (.aload_n 0, 1) := by decide +kernel
theorem dX1_busAtCharger_11 : decode cX1_busAtCharger 11 = .ok (.getfield 11, 3) := by decide +kernel
theorem dX1_busAtCharger_14 : decode cX1_busAtCharger 14 = .ok (.iload_n 2, 1) := by decide +kernel
theorem dX1_busAtCharger_15 : decode cX1_busAtCharger 15 = .ok (.aaload, 1) := by decide +kernel
theorem dX1_busAtCharger_16 : decode cX1_busAtCharger 16 = .ok (.getfield 180, 3) := by decide +kernel
theorem dX1_busAtCharger_19 : decode cX1_busAtCharger 19 = .ok (.iload_n 1, 1) := by decide +kernel
theorem dX1_busAtCharger_20 : decode cX1_busAtCharger 20 = .ok (.if_icmp .ne 5, 3) := by decide +kernel
theorem dX1_busAtCharger_23 : decode cX1_busAtCharger 23 = .ok (.iload_n 2, 1) := by decide +kernel
theorem dX1_busAtCharger_24 : decode cX1_busAtCharger 24 = .ok (.ireturn, 1) := by decide +kernel
theorem dX1_busAtCharger_25 : decode cX1_busAtCharger 25 = .ok (.iinc 2 1, 3) := by decide +kernel
theorem dX1_busAtCharger_28 : decode cX1_busAtCharger 28 = .ok (.goto (-26), 3) := by decide +kernel
theorem dX1_busAtCharger_31 : decode cX1_busAtCharger 31 = .ok (.iconst (-1), 1) := by decide +kernel
theorem dX1_busAtCharger_32 : decode cX1_busAtCharger 32 = .ok (.ireturn, 1) := by decide +kernel
theorem dX2_init_0 : decode cX2_init 0 = .ok (.aload_n 0, 1) := by decide +kernel
theorem dX2_init_1 : decode cX2_init 1 = .ok (.invokespecial 3, 3) := by decide +kernel
theorem dX2_init_4 : decode cX2_init 4 = .ok (.aload_n 0, 1) := by decide +kernel
theorem dX2_init_5 : decode cX2_init 5 = .ok (.bipush 14, 2) := by decide +kernel
theorem dX2_init_7 : decode cX2_init 7 = .ok (.anewarray 9, 3) := by decide +kernel
theorem dX2_init_10 : decode cX2_init 10 = .ok (.putfield 11, 3) := by decide +kernel
theorem dX2_init_13 : decode cX2_init 13 = .ok (.iconst 0, 1) := by decide +kernel
theorem dX2_init_14 : decode cX2_init 14 = .ok (.istore_n 1, 1) := by decide +kernel
theorem dX2_init_15 : decode cX2_init 15 = .ok (.iload_n 1, 1) := by decide +kernel
theorem dX2_init_16 : decode cX2_init 16 = .ok (.aload_n 0, 1) := by decide +kernel
theorem dX2_init_17 : decode cX2_init 17 = .ok (.getfield 11, 3) := by decide +kernel
theorem dX2_init_20 : decode cX2_init 20 = .ok (.arraylength, 1) := by decide +kernel
theorem dX2_init_21 : decode cX2_init 21 = .ok (.if_icmp .ge 22, 3) := by decide +kernel
theorem dX2_init_24 : decode cX2_init 24 = .ok (.aload_n 0, 1) := by decide +kernel
theorem dX2_init_25 : decode cX2_init 25 = .ok (.getfield 11, 3) := by decide +kernel
theorem dX2_init_28 : decode cX2_init 28 = .ok (.iload_n 1, 1) := by decide +kernel
theorem dX2_init_29 : decode cX2_init 29 = .ok (.new 9, 3) := by decide +kernel
theorem dX2_init_32 : decode cX2_init 32 = .ok (.dup, 1) := by decide +kernel
theorem dX2_init_33 : decode cX2_init 33 = .ok (.invokespecial 17, 3) := by decide +kernel
theorem dX2_init_36 : decode cX2_init 36 = .ok (.aastore, 1) := by decide +kernel
theorem dX2_init_37 : decode cX2_init 37 = .ok (.iinc 1 1, 3) := by decide +kernel
theorem dX2_init_40 : decode cX2_init 40 = .ok (.goto (-25), 3) := by decide +kernel
theorem dX2_init_43 : decode cX2_init 43 = .ok (.return_, 1) := by decide +kernel
theorem dX2_isEmpty_0 : decode cX2_isEmpty 0 = .ok (.aload_n 0, 1) := by decide +kernel
theorem dX2_isEmpty_1 : decode cX2_isEmpty 1 = .ok (.getfield 18, 3) := by decide +kernel
theorem dX2_isEmpty_4 : decode cX2_isEmpty 4 = .ok (.ifCond .gt 7, 3) := by decide +kernel
theorem dX2_isEmpty_7 : decode cX2_isEmpty 7 = .ok (.iconst 1, 1) := by decide +kernel
theorem dX2_isEmpty_8 : decode cX2_isEmpty 8 = .ok (.goto 4, 3) := by decide +kernel
theorem dX2_isEmpty_11 : decode cX2_isEmpty 11 = .ok (.iconst 0, 1) := by decide +kernel
theorem dX2_isEmpty_12 : decode cX2_isEmpty 12 = .ok (.ireturn, 1) := by decide +kernel
theorem dX2_remember_0 : decode cX2_remember 0 = .ok (.aload_n 0, 1) := by decide +kernel
theorem dX2_remember_1 : decode cX2_remember 1 = .ok (.getfield 18, 3) := by decide +kernel
theorem dX2_remember_4 : decode cX2_remember 4 = .ok (.aload_n 0, 1) := by decide +kernel
theorem dX2_remember_5 : decode cX2_remember 5 = .ok (.getfield 11, 3) := by decide +kernel
theorem dX2_remember_8 : decode cX2_remember 8 = .ok (.arraylength, 1) := by decide +kernel
theorem dX2_remember_9 : decode cX2_remember 9 = .ok (.if_icmp .lt 7, 3) := by decide +kernel
theorem dX2_remember_12 : decode cX2_remember 12 = .ok (.aload_n 0, 1) := by decide +kernel
theorem dX2_remember_13 : decode cX2_remember 13 = .ok (.invokevirtual 22, 3) := by decide +kernel
theorem dX2_remember_16 : decode cX2_remember 16 = .ok (.aload_n 0, 1) := by decide +kernel
theorem dX2_remember_17 : decode cX2_remember 17 = .ok (.getfield 11, 3) := by decide +kernel
theorem dX2_remember_20 : decode cX2_remember 20 = .ok (.aload_n 0, 1) := by decide +kernel
theorem dX2_remember_21 : decode cX2_remember 21 = .ok (.getfield 18, 3) := by decide +kernel
theorem dX2_remember_24 : decode cX2_remember 24 = .ok (.aaload, 1) := by decide +kernel
theorem dX2_remember_25 : decode cX2_remember 25 = .ok (.aload_n 1, 1) := by decide +kernel
theorem dX2_remember_26 : decode cX2_remember 26 = .ok (.invokevirtual 25, 3) := by decide +kernel
theorem dX2_remember_29 : decode cX2_remember 29 = .ok (.aload_n 0, 1) := by decide +kernel
theorem dX2_remember_30 : decode cX2_remember 30 = .ok (.dup, 1) := by decide +kernel
theorem dX2_remember_31 : decode cX2_remember 31 = .ok (.getfield 18, 3) := by decide +kernel
theorem dX2_remember_34 : decode cX2_remember 34 = .ok (.iconst 1, 1) := by decide +kernel
theorem dX2_remember_35 : decode cX2_remember 35 = .ok (.iadd, 1) := by decide +kernel
theorem dX2_remember_36 : decode cX2_remember 36 = .ok (.putfield 18, 3) := by decide +kernel
theorem dX2_remember_39 : decode cX2_remember 39 = .ok (.return_, 1) := by decide +kernel
theorem dX2_forgetOldest_0 : decode cX2_forgetOldest 0 = .ok (.aload_n 0, 1) := by decide +kernel
theorem dX2_forgetOldest_1 : decode cX2_forgetOldest 1 = .ok (.getfield 11, 3) := by decide +kernel
theorem dX2_forgetOldest_4 : decode cX2_forgetOldest 4 = .ok (.iconst 0, 1) := by decide +kernel
theorem dX2_forgetOldest_5 : decode cX2_forgetOldest 5 = .ok (.aaload, 1) := by decide +kernel
theorem dX2_forgetOldest_6 : decode cX2_forgetOldest 6 = .ok (.astore_n 1, 1) := by decide +kernel
theorem dX2_forgetOldest_7 : decode cX2_forgetOldest 7 = .ok (.iconst 1, 1) := by decide +kernel
theorem dX2_forgetOldest_8 : decode cX2_forgetOldest 8 = .ok (.istore_n 2, 1) := by decide +kernel
theorem dX2_forgetOldest_9 : decode cX2_forgetOldest 9 = .ok (.iload_n 2, 1) := by decide +kernel
theorem dX2_forgetOldest_10 : decode cX2_forgetOldest 10 = .ok (.aload_n 0, 1) := by decide +kernel
theorem dX2_forgetOldest_11 : decode cX2_forgetOldest 11 = .ok (.getfield 11, 3) := by decide +kernel
theorem dX2_forgetOldest_14 : decode cX2_forgetOldest 14 = .ok (.arraylength, 1) := by decide +kernel
theorem dX2_forgetOldest_15 : decode cX2_forgetOldest 15 = .ok (.if_icmp .ge 23, 3) := by decide +kernel
theorem dX2_forgetOldest_18 : decode cX2_forgetOldest 18 = .ok (.aload_n 0, 1) := by decide +kernel
theorem dX2_forgetOldest_19 : decode cX2_forgetOldest 19 = .ok (.getfield 11, 3) := by decide +kernel
theorem dX2_forgetOldest_22 : decode cX2_forgetOldest 22 = .ok (.iload_n 2, 1) := by decide +kernel
theorem dX2_forgetOldest_23 : decode cX2_forgetOldest 23 = .ok (.iconst 1, 1) := by decide +kernel
theorem dX2_forgetOldest_24 : decode cX2_forgetOldest 24 = .ok (.isub, 1) := by decide +kernel
theorem dX2_forgetOldest_25 : decode cX2_forgetOldest 25 = .ok (.aload_n 0, 1) := by decide +kernel
theorem dX2_forgetOldest_26 : decode cX2_forgetOldest 26 = .ok (.getfield 11, 3) := by decide +kernel
theorem dX2_forgetOldest_29 : decode cX2_forgetOldest 29 = .ok (.iload_n 2, 1) := by decide +kernel
theorem dX2_forgetOldest_30 : decode cX2_forgetOldest 30 = .ok (.aaload, 1) := by decide +kernel
theorem dX2_forgetOldest_31 : decode cX2_forgetOldest 31 = .ok (.aastore, 1) := by decide +kernel
theorem dX2_forgetOldest_32 : decode cX2_forgetOldest 32 = .ok (.iinc 2 1, 3) := by decide +kernel
theorem dX2_forgetOldest_35 : decode cX2_forgetOldest 35 = .ok (.goto (-26), 3) := by decide +kernel
theorem dX2_forgetOldest_38 : decode cX2_forgetOldest 38 = .ok (.aload_n 0, 1) := by decide +kernel
theorem dX2_forgetOldest_39 : decode cX2_forgetOldest 39 = .ok (.getfield 11, 3) := by decide +kernel
theorem dX2_forgetOldest_42 : decode cX2_forgetOldest 42 = .ok (.aload_n 0, 1) := by decide +kernel
theorem dX2_forgetOldest_43 : decode cX2_forgetOldest 43 = .ok (.getfield 11, 3) := by decide +kernel
theorem dX2_forgetOldest_46 : decode cX2_forgetOldest 46 = .ok (.arraylength, 1) := by decide +kernel
theorem dX2_forgetOldest_47 : decode cX2_forgetOldest 47 = .ok (.iconst 1, 1) := by decide +kernel
theorem dX2_forgetOldest_48 : decode cX2_forgetOldest 48 = .ok (.isub, 1) := by decide +kernel
theorem dX2_forgetOldest_49 : decode cX2_forgetOldest 49 = .ok (.aload_n 1, 1) := by decide +kernel
theorem dX2_forgetOldest_50 : decode cX2_forgetOldest 50 = .ok (.aastore, 1) := by decide +kernel
theorem dX2_forgetOldest_51 : decode cX2_forgetOldest 51 = .ok (.aload_n 0, 1) := by decide +kernel
theorem dX2_forgetOldest_52 : decode cX2_forgetOldest 52 = .ok (.aload_n 0, 1) := by decide +kernel
theorem dX2_forgetOldest_53 : decode cX2_forgetOldest 53 = .ok (.getfield 11, 3) := by decide +kernel
theorem dX2_forgetOldest_56 : decode cX2_forgetOldest 56 = .ok (.arraylength, 1) := by decide +kernel
theorem dX2_forgetOldest_57 : decode cX2_forgetOldest 57 = .ok (.iconst 1, 1) := by decide +kernel
theorem dX2_forgetOldest_58 : decode cX2_forgetOldest 58 = .ok (.isub, 1) := by decide +kernel
theorem dX2_forgetOldest_59 : decode cX2_forgetOldest 59 = .ok (.putfield 18, 3) := by decide +kernel
theorem dX2_forgetOldest_62 : decode cX2_forgetOldest 62 = .ok (.return_, 1) := by decide +kernel
theorem dX2_takeBack_0 : decode cX2_takeBack 0 = .ok (.aload_n 0, 1) := by decide +kernel
theorem dX2_takeBack_1 : decode cX2_takeBack 1 = .ok (.invokevirtual 29, 3) := by decide +kernel
theorem dX2_takeBack_4 : decode cX2_takeBack 4 = .ok (.ifCond .ne 26, 3) := by decide +kernel
theorem dX2_takeBack_7 : decode cX2_takeBack 7 = .ok (.aload_n 0, 1) := by decide +kernel
theorem dX2_takeBack_8 : decode cX2_takeBack 8 = .ok (.dup, 1) := by decide +kernel
theorem dX2_takeBack_9 : decode cX2_takeBack 9 = .ok (.getfield 18, 3) := by decide +kernel
theorem dX2_takeBack_12 : decode cX2_takeBack 12 = .ok (.iconst 1, 1) := by decide +kernel
theorem dX2_takeBack_13 : decode cX2_takeBack 13 = .ok (.isub, 1) := by decide +kernel
theorem dX2_takeBack_14 : decode cX2_takeBack 14 = .ok (.putfield 18, 3) := by decide +kernel
theorem dX2_takeBack_17 : decode cX2_takeBack 17 = .ok (.aload_n 1, 1) := by decide +kernel
theorem dX2_takeBack_18 : decode cX2_takeBack 18 = .ok (.aload_n 0, 1) := by decide +kernel
theorem dX2_takeBack_19 : decode cX2_takeBack 19 = .ok (.getfield 11, 3) := by decide +kernel
theorem dX2_takeBack_22 : decode cX2_takeBack 22 = .ok (.aload_n 0, 1) := by decide +kernel
theorem dX2_takeBack_23 : decode cX2_takeBack 23 = .ok (.getfield 18, 3) := by decide +kernel
theorem dX2_takeBack_26 : decode cX2_takeBack 26 = .ok (.aaload, 1) := by decide +kernel
theorem dX2_takeBack_27 : decode cX2_takeBack 27 = .ok (.invokevirtual 25, 3) := by decide +kernel
theorem dX2_takeBack_30 : decode cX2_takeBack 30 = .ok (.aload_n 0, 1) := by decide +kernel
theorem dX2_takeBack_31 : decode cX2_takeBack 31 = .ok (.getfield 18, 3) := by decide +kernel
theorem dX2_takeBack_34 : decode cX2_takeBack 34 = .ok (.ireturn, 1) := by decide +kernel
theorem dX2_forgetAll_0 : decode cX2_forgetAll 0 = .ok (.aload_n 0, 1) := by decide +kernel
theorem dX2_forgetAll_1 : decode cX2_forgetAll 1 = .ok (.iconst 0, 1) := by decide +kernel
theorem dX2_forgetAll_2 : decode cX2_forgetAll 2 = .ok (.putfield 18, 3) := by decide +kernel
theorem dX2_forgetAll_5 : decode cX2_forgetAll 5 = .ok (.return_, 1) := by decide +kernel
theorem dX3_init_0 : decode cX3_init 0 = .ok (.aload_n 0, 1) := by decide +kernel
theorem dX3_init_1 : decode cX3_init 1 = .ok (.invokespecial 3, 3) := by decide +kernel
theorem dX3_init_4 : decode cX3_init 4 = .ok (.aload_n 0, 1) := by decide +kernel
theorem dX3_init_5 : decode cX3_init 5 = .ok (.bipush 120, 2) := by decide +kernel
theorem dX3_init_7 : decode cX3_init 7 = .ok (.newarray .char, 2) := by decide +kernel
theorem dX3_init_9 : decode cX3_init 9 = .ok (.putfield 9, 3) := by decide +kernel
theorem dX3_init_12 : decode cX3_init 12 = .ok (.aload_n 0, 1) := by decide +kernel
theorem dX3_init_13 : decode cX3_init 13 = .ok (.iconst 5, 1) := by decide +kernel
theorem dX3_init_14 : decode cX3_init 14 = .ok (.newarray .int, 2) := by decide +kernel
theorem dX3_init_16 : decode cX3_init 16 = .ok (.putfield 15, 3) := by decide +kernel
theorem dX3_init_19 : decode cX3_init 19 = .ok (.return_, 1) := by decide +kernel
theorem dX3_isFull_0 : decode cX3_isFull 0 = .ok (.aload_n 0, 1) := by decide +kernel
theorem dX3_isFull_1 : decode cX3_isFull 1 = .ok (.getfield 19, 3) := by decide +kernel
theorem dX3_isFull_4 : decode cX3_isFull 4 = .ok (.bipush 120, 2) := by decide +kernel
theorem dX3_isFull_6 : decode cX3_isFull 6 = .ok (.if_icmp .lt 7, 3) := by decide +kernel
theorem dX3_isFull_9 : decode cX3_isFull 9 = .ok (.iconst 1, 1) := by decide +kernel
theorem dX3_isFull_10 : decode cX3_isFull 10 = .ok (.goto 4, 3) := by decide +kernel
theorem dX3_isFull_13 : decode cX3_isFull 13 = .ok (.iconst 0, 1) := by decide +kernel
theorem dX3_isFull_14 : decode cX3_isFull 14 = .ok (.ireturn, 1) := by decide +kernel
theorem dX3_put_0 : decode cX3_put 0 = .ok (.aload_n 0, 1) := by decide +kernel
theorem dX3_put_1 : decode cX3_put 1 = .ok (.invokevirtual 23, 3) := by decide +kernel
theorem dX3_put_4 : decode cX3_put 4 = .ok (.ifCond .ne 23, 3) := by decide +kernel
theorem dX3_put_7 : decode cX3_put 7 = .ok (.aload_n 0, 1) := by decide +kernel
theorem dX3_put_8 : decode cX3_put 8 = .ok (.getfield 9, 3) := by decide +kernel
theorem dX3_put_11 : decode cX3_put 11 = .ok (.aload_n 0, 1) := by decide +kernel
theorem dX3_put_12 : decode cX3_put 12 = .ok (.getfield 19, 3) := by decide +kernel
theorem dX3_put_15 : decode cX3_put 15 = .ok (.iload_n 1, 1) := by decide +kernel
theorem dX3_put_16 : decode cX3_put 16 = .ok (.castore, 1) := by decide +kernel
theorem dX3_put_17 : decode cX3_put 17 = .ok (.aload_n 0, 1) := by decide +kernel
theorem dX3_put_18 : decode cX3_put 18 = .ok (.dup, 1) := by decide +kernel
theorem dX3_put_19 : decode cX3_put 19 = .ok (.getfield 19, 3) := by decide +kernel
theorem dX3_put_22 : decode cX3_put 22 = .ok (.iconst 1, 1) := by decide +kernel
theorem dX3_put_23 : decode cX3_put 23 = .ok (.iadd, 1) := by decide +kernel
theorem dX3_put_24 : decode cX3_put 24 = .ok (.putfield 19, 3) := by decide +kernel
theorem dX3_put_27 : decode cX3_put 27 = .ok (.aload_n 0, 1) := by decide +kernel
theorem dX3_put_28 : decode cX3_put 28 = .ok (.getfield 19, 3) := by decide +kernel
theorem dX3_put_31 : decode cX3_put 31 = .ok (.ireturn, 1) := by decide +kernel
theorem dX3_empty_0 : decode cX3_empty 0 = .ok (.aload_n 0, 1) := by decide +kernel
theorem dX3_empty_1 : decode cX3_empty 1 = .ok (.getfield 19, 3) := by decide +kernel
theorem dX3_empty_4 : decode cX3_empty 4 = .ok (.istore_n 1, 1) := by decide +kernel
theorem dX3_empty_5 : decode cX3_empty 5 = .ok (.aload_n 0, 1) := by decide +kernel
theorem dX3_empty_6 : decode cX3_empty 6 = .ok (.iconst 0, 1) := by decide +kernel
theorem dX3_empty_7 : decode cX3_empty 7 = .ok (.putfield 19, 3) := by decide +kernel
theorem dX3_empty_10 : decode cX3_empty 10 = .ok (.iload_n 1, 1) := by decide +kernel
theorem dX3_empty_11 : decode cX3_empty 11 = .ok (.ireturn, 1) := by decide +kernel
theorem dX3_findError_0 : decode cX3_findError 0 = .ok (.aload_n 0, 1) := by decide +kernel
theorem dX3_findError_1 : decode cX3_findError 1 = .ok (.iconst 0, 1) := by decide +kernel
theorem dX3_findError_2 : decode cX3_findError 2 = .ok (.putfield 27, 3) := by decide +kernel
theorem dX3_findError_5 : decode cX3_findError 5 = .ok (.iconst 0, 1) := by decide +kernel
theorem dX3_findError_6 : decode cX3_findError 6 = .ok (.istore_n 1, 1) := by decide +kernel
theorem dX3_findError_7 : decode cX3_findError 7 = .ok (.iload_n 1, 1) := by decide +kernel
theorem dX3_findError_8 : decode cX3_findError 8 = .ok (.aload_n 0, 1) := by decide +kernel
theorem dX3_findError_9 : decode cX3_findError 9 = .ok (.getfield 19, 3) := by decide +kernel
theorem dX3_findError_12 : decode cX3_findError 12 = .ok (.if_icmp .gt 48, 3) := by decide +kernel
theorem dX3_findError_15 : decode cX3_findError 15 = .ok (.aload_n 0, 1) := by decide +kernel
theorem dX3_findError_16 : decode cX3_findError 16 = .ok (.invokevirtual 30, 3) := by decide +kernel
theorem dX3_findError_19 : decode cX3_findError 19 = .ok (.ifCond .ne 8, 3) := by decide +kernel
theorem dX3_findError_22 : decode cX3_findError 22 = .ok (.aload_n 0, 1) := by decide +kernel
theorem dX3_findError_23 : decode cX3_findError 23 = .ok (.getfield 27, 3) := by decide +kernel
theorem dX3_findError_26 : decode cX3_findError 26 = .ok (.ireturn, 1) := by decide +kernel
theorem dX3_findError_27 : decode cX3_findError 27 = .ok (.aload_n 0, 1) := by decide +kernel
theorem dX3_findError_28 : decode cX3_findError 28 = .ok (.getfield 27, 3) := by decide +kernel
theorem dX3_findError_31 : decode cX3_findError 31 = .ok (.aload_n 0, 1) := by decide +kernel
theorem dX3_findError_32 : decode cX3_findError 32 = .ok (.getfield 19, 3) := by decide +kernel
theorem dX3_findError_35 : decode cX3_findError 35 = .ok (.if_icmp .ne 5, 3) := by decide +kernel
theorem dX3_findError_38 : decode cX3_findError 38 = .ok (.iconst (-1), 1) := by decide +kernel
theorem dX3_findError_39 : decode cX3_findError 39 = .ok (.ireturn, 1) := by decide +kernel
theorem dX3_findError_40 : decode cX3_findError 40 = .ok (.aload_n 0, 1) := by decide +kernel
theorem dX3_findError_41 : decode cX3_findError 41 = .ok (.bipush 59, 2) := by decide +kernel
theorem dX3_findError_43 : decode cX3_findError 43 = .ok (.invokevirtual 33, 3) := by decide +kernel
theorem dX3_findError_46 : decode cX3_findError 46 = .ok (.ifCond .ne 8, 3) := by decide +kernel
theorem dX3_findError_49 : decode cX3_findError 49 = .ok (.aload_n 0, 1) := by decide +kernel
theorem dX3_findError_50 : decode cX3_findError 50 = .ok (.getfield 27, 3) := by decide +kernel
theorem dX3_findError_53 : decode cX3_findError 53 = .ok (.ireturn, 1) := by decide +kernel
theorem dX3_findError_54 : decode cX3_findError 54 = .ok (.iinc 1 1, 3) := by decide +kernel
theorem dX3_findError_57 : decode cX3_findError 57 = .ok (.goto (-50), 3) := by decide +kernel
theorem dX3_findError_60 : decode cX3_findError 60 = .ok (.aload_n 0, 1) := by decide +kernel
theorem dX3_findError_61 : decode cX3_findError 61 = .ok (.getfield 27, 3) := by decide +kernel
theorem dX3_findError_64 : decode cX3_findError 64 = .ok (.ireturn, 1) := by decide +kernel
theorem dX3_doAllIn_0 : decode cX3_doAllIn 0 = .ok (.iconst 0, 1) := by decide +kernel
theorem dX3_doAllIn_1 : decode cX3_doAllIn 1 = .ok (.istore_n 2, 1) := by decide +kernel
theorem dX3_doAllIn_2 : decode cX3_doAllIn 2 = .ok (.iconst 1, 1) := by decide +kernel
theorem dX3_doAllIn_3 : decode cX3_doAllIn 3 = .ok (.istore_n 3, 1) := by decide +kernel
theorem dX3_doAllIn_4 : decode cX3_doAllIn 4 = .ok (.aload_n 0, 1) := by decide +kernel
theorem dX3_doAllIn_5 : decode cX3_doAllIn 5 = .ok (.iconst 0, 1) := by decide +kernel
theorem dX3_doAllIn_6 : decode cX3_doAllIn 6 = .ok (.putfield 27, 3) := by decide +kernel
theorem dX3_doAllIn_9 : decode cX3_doAllIn 9 = .ok (.iconst 0, 1) := by decide +kernel
theorem dX3_doAllIn_10 : decode cX3_doAllIn 10 = .ok (.istore 4, 2) := by decide +kernel
theorem dX3_doAllIn_12 : decode cX3_doAllIn 12 = .ok (.iload_n 3, 1) := by decide +kernel
theorem dX3_doAllIn_13 : decode cX3_doAllIn 13 = .ok (.ifCond .eq 43, 3) := by decide +kernel
theorem dX3_doAllIn_16 : decode cX3_doAllIn 16 = .ok (.iload 4, 2) := by decide +kernel
theorem dX3_doAllIn_18 : decode cX3_doAllIn 18 = .ok (.aload_n 0, 1) := by decide +kernel
theorem dX3_doAllIn_19 : decode cX3_doAllIn 19 = .ok (.getfield 19, 3) := by decide +kernel
theorem dX3_doAllIn_22 : decode cX3_doAllIn 22 = .ok (.if_icmp .gt 34, 3) := by decide +kernel
theorem dX3_doAllIn_25 : decode cX3_doAllIn 25 = .ok (.aload_n 0, 1) := by decide +kernel
theorem dX3_doAllIn_26 : decode cX3_doAllIn 26 = .ok (.invokevirtual 30, 3) := by decide +kernel
theorem dX3_doAllIn_29 : decode cX3_doAllIn 29 = .ok (.ifCond .eq 11, 3) := by decide +kernel
theorem dX3_doAllIn_32 : decode cX3_doAllIn 32 = .ok (.aload_n 0, 1) := by decide +kernel
theorem dX3_doAllIn_33 : decode cX3_doAllIn 33 = .ok (.aload_n 1, 1) := by decide +kernel
theorem dX3_doAllIn_34 : decode cX3_doAllIn 34 = .ok (.invokevirtual 37, 3) := by decide +kernel
theorem dX3_doAllIn_37 : decode cX3_doAllIn 37 = .ok (.ifCond .ne 6, 3) := by decide +kernel
theorem dX3_doAllIn_40 : decode cX3_doAllIn 40 = .ok (.iinc 2 1, 3) := by decide +kernel
theorem dX3_doAllIn_43 : decode cX3_doAllIn 43 = .ok (.aload_n 0, 1) := by decide +kernel
theorem dX3_doAllIn_44 : decode cX3_doAllIn 44 = .ok (.bipush 59, 2) := by decide +kernel
theorem dX3_doAllIn_46 : decode cX3_doAllIn 46 = .ok (.invokevirtual 33, 3) := by decide +kernel
theorem dX3_doAllIn_49 : decode cX3_doAllIn 49 = .ok (.istore_n 3, 1) := by decide +kernel
theorem dX3_doAllIn_50 : decode cX3_doAllIn 50 = .ok (.iinc 4 1, 3) := by decide +kernel
theorem dX3_doAllIn_53 : decode cX3_doAllIn 53 = .ok (.goto (-41), 3) := by decide +kernel
theorem dX3_doAllIn_56 : decode cX3_doAllIn 56 = .ok (.iload_n 2, 1) := by decide +kernel
theorem dX3_doAllIn_57 : decode cX3_doAllIn 57 = .ok (.ireturn, 1) := by decide +kernel
theorem dX3_doIn_0 : decode cX3_doIn 0 = .ok (.aload_n 0, 1) := by decide +kernel
theorem dX3_doIn_1 : decode cX3_doIn 1 = .ok (.getfield 41, 3) := by decide +kernel
theorem dX3_doIn_4 : decode cX3_doIn 4 = .ok (.lookupswitch 119 #[(98, 44), (112, 79), (114, 90), (115, 102)], 44) := by decide +kernel
theorem dX3_doIn_48 : decode cX3_doIn 48 = .ok (.aload_n 1, 1) := by decide +kernel
theorem dX3_doIn_49 : decode cX3_doIn 49 = .ok (.aload_n 0, 1) := by decide +kernel
theorem dX3_doIn_50 : decode cX3_doIn 50 = .ok (.getfield 15, 3) := by decide +kernel
theorem dX3_doIn_53 : decode cX3_doIn 53 = .ok (.iconst 0, 1) := by decide +kernel
theorem dX3_doIn_54 : decode cX3_doIn 54 = .ok (.iaload, 1) := by decide +kernel
theorem dX3_doIn_55 : decode cX3_doIn 55 = .ok (.aload_n 0, 1) := by decide +kernel
theorem dX3_doIn_56 : decode cX3_doIn 56 = .ok (.getfield 15, 3) := by decide +kernel
theorem dX3_doIn_59 : decode cX3_doIn 59 = .ok (.iconst 1, 1) := by decide +kernel
theorem dX3_doIn_60 : decode cX3_doIn 60 = .ok (.iaload, 1) := by decide +kernel
theorem dX3_doIn_61 : decode cX3_doIn 61 = .ok (.aload_n 0, 1) := by decide +kernel
theorem dX3_doIn_62 : decode cX3_doIn 62 = .ok (.getfield 15, 3) := by decide +kernel
theorem dX3_doIn_65 : decode cX3_doIn 65 = .ok (.iconst 2, 1) := by decide +kernel
theorem dX3_doIn_66 : decode cX3_doIn 66 = .ok (.iaload, 1) := by decide +kernel
theorem dX3_doIn_67 : decode cX3_doIn 67 = .ok (.aload_n 0, 1) := by decide +kernel
theorem dX3_doIn_68 : decode cX3_doIn 68 = .ok (.getfield 15, 3) := by decide +kernel
theorem dX3_doIn_71 : decode cX3_doIn 71 = .ok (.iconst 3, 1) := by decide +kernel
theorem dX3_doIn_72 : decode cX3_doIn 72 = .ok (.iaload, 1) := by decide +kernel
theorem dX3_doIn_73 : decode cX3_doIn 73 = .ok (.aload_n 0, 1) := by decide +kernel
theorem dX3_doIn_74 : decode cX3_doIn 74 = .ok (.getfield 15, 3) := by decide +kernel
theorem dX3_doIn_77 : decode cX3_doIn 77 = .ok (.iconst 4, 1) := by decide +kernel
theorem dX3_doIn_78 : decode cX3_doIn 78 = .ok (.iaload, 1) := by decide +kernel
theorem dX3_doIn_79 : decode cX3_doIn 79 = .ok (.invokevirtual 44, 3) := by decide +kernel
theorem dX3_doIn_82 : decode cX3_doIn 82 = .ok (.ireturn, 1) := by decide +kernel
theorem dX3_doIn_83 : decode cX3_doIn 83 = .ok (.aload_n 1, 1) := by decide +kernel
theorem dX3_doIn_84 : decode cX3_doIn 84 = .ok (.aload_n 0, 1) := by decide +kernel
theorem dX3_doIn_85 : decode cX3_doIn 85 = .ok (.getfield 15, 3) := by decide +kernel
theorem dX3_doIn_88 : decode cX3_doIn 88 = .ok (.iconst 0, 1) := by decide +kernel
theorem dX3_doIn_89 : decode cX3_doIn 89 = .ok (.iaload, 1) := by decide +kernel
theorem dX3_doIn_90 : decode cX3_doIn 90 = .ok (.invokevirtual 50, 3) := by decide +kernel
theorem dX3_doIn_93 : decode cX3_doIn 93 = .ok (.ireturn, 1) := by decide +kernel
theorem dX3_doIn_94 : decode cX3_doIn 94 = .ok (.aload_n 1, 1) := by decide +kernel
theorem dX3_doIn_95 : decode cX3_doIn 95 = .ok (.aload_n 0, 1) := by decide +kernel
theorem dX3_doIn_96 : decode cX3_doIn 96 = .ok (.getfield 15, 3) := by decide +kernel
theorem dX3_doIn_99 : decode cX3_doIn 99 = .ok (.iconst 0, 1) := by decide +kernel
theorem dX3_doIn_100 : decode cX3_doIn 100 = .ok (.iaload, 1) := by decide +kernel
theorem dX3_doIn_101 : decode cX3_doIn 101 = .ok (.invokevirtual 53, 3) := by decide +kernel
theorem dX3_doIn_104 : decode cX3_doIn 104 = .ok (.iconst 1, 1) := by decide +kernel
theorem dX3_doIn_105 : decode cX3_doIn 105 = .ok (.ireturn, 1) := by decide +kernel
theorem dX3_doIn_106 : decode cX3_doIn 106 = .ok (.aload_n 1, 1) := by decide +kernel
theorem dX3_doIn_107 : decode cX3_doIn 107 = .ok (.aload_n 0, 1) := by decide +kernel
theorem dX3_doIn_108 : decode cX3_doIn 108 = .ok (.getfield 15, 3) := by decide +kernel
theorem dX3_doIn_111 : decode cX3_doIn 111 = .ok (.iconst 0, 1) := by decide +kernel
theorem dX3_doIn_112 : decode cX3_doIn 112 = .ok (.iaload, 1) := by decide +kernel
theorem dX3_doIn_113 : decode cX3_doIn 113 = .ok (.aload_n 0, 1) := by decide +kernel
theorem dX3_doIn_114 : decode cX3_doIn 114 = .ok (.getfield 15, 3) := by decide +kernel
theorem dX3_doIn_117 : decode cX3_doIn 117 = .ok (.iconst 1, 1) := by decide +kernel
theorem dX3_doIn_118 : decode cX3_doIn 118 = .ok (.iaload, 1) := by decide +kernel
theorem dX3_doIn_119 : decode cX3_doIn 119 = .ok (.invokevirtual 57, 3) := by decide +kernel
theorem dX3_doIn_122 : decode cX3_doIn 122 = .ok (.ireturn, 1) := by decide +kernel
theorem dX3_doIn_123 : decode cX3_doIn 123 = .ok (.iconst 0, 1) := by decide +kernel
theorem dX3_doIn_124 : decode cX3_doIn 124 = .ok (.ireturn, 1) := by decide +kernel
theorem dX3_readCommand_0 : decode cX3_readCommand 0 = .ok (.aload_n 0, 1) := by decide +kernel
theorem dX3_readCommand_1 : decode cX3_readCommand 1 = .ok (.aload_n 0, 1) := by decide +kernel
theorem dX3_readCommand_2 : decode cX3_readCommand 2 = .ok (.aload_n 0, 1) := by decide +kernel
theorem dX3_readCommand_3 : decode cX3_readCommand 3 = .ok (.getfield 27, 3) := by decide +kernel
theorem dX3_readCommand_6 : decode cX3_readCommand 6 = .ok (.invokevirtual 61, 3) := by decide +kernel
theorem dX3_readCommand_9 : decode cX3_readCommand 9 = .ok (.putfield 41, 3) := by decide +kernel
theorem dX3_readCommand_12 : decode cX3_readCommand 12 = .ok (.aload_n 0, 1) := by decide +kernel
theorem dX3_readCommand_13 : decode cX3_readCommand 13 = .ok (.getfield 41, 3) := by decide +kernel
theorem dX3_readCommand_16 : decode cX3_readCommand 16 = .ok (.lookupswitch 207 #[(98, 44), (112, 118), (114, 144), (115, 170)], 44) := by decide +kernel
theorem dX3_readCommand_60 : decode cX3_readCommand 60 = .ok (.aload_n 0, 1) := by decide +kernel
theorem dX3_readCommand_61 : decode cX3_readCommand 61 = .ok (.ldc 65, 2) := by decide +kernel
theorem dX3_readCommand_63 : decode cX3_readCommand 63 = .ok (.invokevirtual 67, 3) := by decide +kernel
theorem dX3_readCommand_66 : decode cX3_readCommand 66 = .ok (.ifCond .eq 66, 3) := by decide +kernel
theorem dX3_readCommand_69 : decode cX3_readCommand 69 = .ok (.aload_n 0, 1) := by decide +kernel
theorem dX3_readCommand_70 : decode cX3_readCommand 70 = .ok (.iconst 0, 1) := by decide +kernel
theorem dX3_readCommand_71 : decode cX3_readCommand 71 = .ok (.bipush 10, 2) := by decide +kernel
theorem dX3_readCommand_73 : decode cX3_readCommand 73 = .ok (.sipush 400, 3) := by decide +kernel
theorem dX3_readCommand_76 : decode cX3_readCommand 76 = .ok (.invokevirtual 71, 3) := by decide +kernel
theorem dX3_readCommand_79 : decode cX3_readCommand 79 = .ok (.ifCond .eq 53, 3) := by decide +kernel
theorem dX3_readCommand_82 : decode cX3_readCommand 82 = .ok (.aload_n 0, 1) := by decide +kernel
theorem dX3_readCommand_83 : decode cX3_readCommand 83 = .ok (.iconst 1, 1) := by decide +kernel
theorem dX3_readCommand_84 : decode cX3_readCommand 84 = .ok (.iconst 0, 1) := by decide +kernel
theorem dX3_readCommand_85 : decode cX3_readCommand 85 = .ok (.sipush 400, 3) := by decide +kernel
theorem dX3_readCommand_88 : decode cX3_readCommand 88 = .ok (.invokevirtual 71, 3) := by decide +kernel
theorem dX3_readCommand_91 : decode cX3_readCommand 91 = .ok (.ifCond .eq 41, 3) := by decide +kernel
theorem dX3_readCommand_94 : decode cX3_readCommand 94 = .ok (.aload_n 0, 1) := by decide +kernel
theorem dX3_readCommand_95 : decode cX3_readCommand 95 = .ok (.iconst 2, 1) := by decide +kernel
theorem dX3_readCommand_96 : decode cX3_readCommand 96 = .ok (.iconst 1, 1) := by decide +kernel
theorem dX3_readCommand_97 : decode cX3_readCommand 97 = .ok (.sipush 400, 3) := by decide +kernel
theorem dX3_readCommand_100 : decode cX3_readCommand 100 = .ok (.invokevirtual 71, 3) := by decide +kernel
theorem dX3_readCommand_103 : decode cX3_readCommand 103 = .ok (.ifCond .eq 29, 3) := by decide +kernel
theorem dX3_readCommand_106 : decode cX3_readCommand 106 = .ok (.aload_n 0, 1) := by decide +kernel
theorem dX3_readCommand_107 : decode cX3_readCommand 107 = .ok (.iconst 3, 1) := by decide +kernel
theorem dX3_readCommand_108 : decode cX3_readCommand 108 = .ok (.iconst 0, 1) := by decide +kernel
theorem dX3_readCommand_109 : decode cX3_readCommand 109 = .ok (.bipush 23, 2) := by decide +kernel
theorem dX3_readCommand_111 : decode cX3_readCommand 111 = .ok (.invokevirtual 71, 3) := by decide +kernel
theorem dX3_readCommand_114 : decode cX3_readCommand 114 = .ok (.ifCond .eq 18, 3) := by decide +kernel
theorem dX3_readCommand_117 : decode cX3_readCommand 117 = .ok (.aload_n 0, 1) := by decide +kernel
theorem dX3_readCommand_118 : decode cX3_readCommand 118 = .ok (.iconst 4, 1) := by decide +kernel
theorem dX3_readCommand_119 : decode cX3_readCommand 119 = .ok (.iconst 0, 1) := by decide +kernel
theorem dX3_readCommand_120 : decode cX3_readCommand 120 = .ok (.bipush 23, 2) := by decide +kernel
theorem dX3_readCommand_122 : decode cX3_readCommand 122 = .ok (.invokevirtual 71, 3) := by decide +kernel
theorem dX3_readCommand_125 : decode cX3_readCommand 125 = .ok (.ifCond .eq 7, 3) := by decide +kernel
theorem dX3_readCommand_128 : decode cX3_readCommand 128 = .ok (.iconst 1, 1) := by decide +kernel
theorem dX3_readCommand_129 : decode cX3_readCommand 129 = .ok (.goto 4, 3) := by decide +kernel
theorem dX3_readCommand_132 : decode cX3_readCommand 132 = .ok (.iconst 0, 1) := by decide +kernel
theorem dX3_readCommand_133 : decode cX3_readCommand 133 = .ok (.ireturn, 1) := by decide +kernel
theorem dX3_readCommand_134 : decode cX3_readCommand 134 = .ok (.aload_n 0, 1) := by decide +kernel
theorem dX3_readCommand_135 : decode cX3_readCommand 135 = .ok (.ldc 75, 2) := by decide +kernel
theorem dX3_readCommand_137 : decode cX3_readCommand 137 = .ok (.invokevirtual 67, 3) := by decide +kernel
theorem dX3_readCommand_140 : decode cX3_readCommand 140 = .ok (.ifCond .eq 18, 3) := by decide +kernel
theorem dX3_readCommand_143 : decode cX3_readCommand 143 = .ok (.aload_n 0, 1) := by decide +kernel
theorem dX3_readCommand_144 : decode cX3_readCommand 144 = .ok (.iconst 0, 1) := by decide +kernel
theorem dX3_readCommand_145 : decode cX3_readCommand 145 = .ok (.iconst 1, 1) := by decide +kernel
theorem dX3_readCommand_146 : decode cX3_readCommand 146 = .ok (.bipush 50, 2) := by decide +kernel
theorem dX3_readCommand_148 : decode cX3_readCommand 148 = .ok (.invokevirtual 71, 3) := by decide +kernel
theorem dX3_readCommand_151 : decode cX3_readCommand 151 = .ok (.ifCond .eq 7, 3) := by decide +kernel
theorem dX3_readCommand_154 : decode cX3_readCommand 154 = .ok (.iconst 1, 1) := by decide +kernel
theorem dX3_readCommand_155 : decode cX3_readCommand 155 = .ok (.goto 4, 3) := by decide +kernel
theorem dX3_readCommand_158 : decode cX3_readCommand 158 = .ok (.iconst 0, 1) := by decide +kernel
theorem dX3_readCommand_159 : decode cX3_readCommand 159 = .ok (.ireturn, 1) := by decide +kernel
theorem dX3_readCommand_160 : decode cX3_readCommand 160 = .ok (.aload_n 0, 1) := by decide +kernel
theorem dX3_readCommand_161 : decode cX3_readCommand 161 = .ok (.ldc 77, 2) := by decide +kernel
theorem dX3_readCommand_163 : decode cX3_readCommand 163 = .ok (.invokevirtual 67, 3) := by decide +kernel
theorem dX3_readCommand_166 : decode cX3_readCommand 166 = .ok (.ifCond .eq 18, 3) := by decide +kernel
theorem dX3_readCommand_169 : decode cX3_readCommand 169 = .ok (.aload_n 0, 1) := by decide +kernel
theorem dX3_readCommand_170 : decode cX3_readCommand 170 = .ok (.iconst 0, 1) := by decide +kernel
theorem dX3_readCommand_171 : decode cX3_readCommand 171 = .ok (.iconst 1, 1) := by decide +kernel
theorem dX3_readCommand_172 : decode cX3_readCommand 172 = .ok (.bipush 48, 2) := by decide +kernel
theorem dX3_readCommand_174 : decode cX3_readCommand 174 = .ok (.invokevirtual 71, 3) := by decide +kernel
theorem dX3_readCommand_177 : decode cX3_readCommand 177 = .ok (.ifCond .eq 7, 3) := by decide +kernel
theorem dX3_readCommand_180 : decode cX3_readCommand 180 = .ok (.iconst 1, 1) := by decide +kernel
theorem dX3_readCommand_181 : decode cX3_readCommand 181 = .ok (.goto 4, 3) := by decide +kernel
theorem dX3_readCommand_184 : decode cX3_readCommand 184 = .ok (.iconst 0, 1) := by decide +kernel
theorem dX3_readCommand_185 : decode cX3_readCommand 185 = .ok (.ireturn, 1) := by decide +kernel
theorem dX3_readCommand_186 : decode cX3_readCommand 186 = .ok (.aload_n 0, 1) := by decide +kernel
theorem dX3_readCommand_187 : decode cX3_readCommand 187 = .ok (.ldc 79, 2) := by decide +kernel
theorem dX3_readCommand_189 : decode cX3_readCommand 189 = .ok (.invokevirtual 67, 3) := by decide +kernel
theorem dX3_readCommand_192 : decode cX3_readCommand 192 = .ok (.ifCond .eq 29, 3) := by decide +kernel
theorem dX3_readCommand_195 : decode cX3_readCommand 195 = .ok (.aload_n 0, 1) := by decide +kernel
theorem dX3_readCommand_196 : decode cX3_readCommand 196 = .ok (.iconst 0, 1) := by decide +kernel
theorem dX3_readCommand_197 : decode cX3_readCommand 197 = .ok (.iconst 0, 1) := by decide +kernel
theorem dX3_readCommand_198 : decode cX3_readCommand 198 = .ok (.iconst 5, 1) := by decide +kernel
theorem dX3_readCommand_199 : decode cX3_readCommand 199 = .ok (.invokevirtual 71, 3) := by decide +kernel
theorem dX3_readCommand_202 : decode cX3_readCommand 202 = .ok (.ifCond .eq 19, 3) := by decide +kernel
theorem dX3_readCommand_205 : decode cX3_readCommand 205 = .ok (.aload_n 0, 1) := by decide +kernel
theorem dX3_readCommand_206 : decode cX3_readCommand 206 = .ok (.iconst 1, 1) := by decide +kernel
theorem dX3_readCommand_207 : decode cX3_readCommand 207 = .ok (.iconst 0, 1) := by decide +kernel
theorem dX3_readCommand_208 : decode cX3_readCommand 208 = .ok (.sipush 999, 3) := by decide +kernel
theorem dX3_readCommand_211 : decode cX3_readCommand 211 = .ok (.invokevirtual 71, 3) := by decide +kernel
theorem dX3_readCommand_214 : decode cX3_readCommand 214 = .ok (.ifCond .eq 7, 3) := by decide +kernel
theorem dX3_readCommand_217 : decode cX3_readCommand 217 = .ok (.iconst 1, 1) := by decide +kernel
theorem dX3_readCommand_218 : decode cX3_readCommand 218 = .ok (.goto 4, 3) := by decide +kernel
theorem dX3_readCommand_221 : decode cX3_readCommand 221 = .ok (.iconst 0, 1) := by decide +kernel
theorem dX3_readCommand_222 : decode cX3_readCommand 222 = .ok (.ireturn, 1) := by decide +kernel
theorem dX3_readCommand_223 : decode cX3_readCommand 223 = .ok (.iconst 0, 1) := by decide +kernel
theorem dX3_readCommand_224 : decode cX3_readCommand 224 = .ok (.ireturn, 1) := by decide +kernel
theorem dX3_readWord_0 : decode cX3_readWord 0 = .ok (.iconst 0, 1) := by decide +kernel
theorem dX3_readWord_1 : decode cX3_readWord 1 = .ok (.istore_n 2, 1) := by decide +kernel
theorem dX3_readWord_2 : decode cX3_readWord 2 = .ok (.iload_n 2, 1) := by decide +kernel
theorem dX3_readWord_3 : decode cX3_readWord 3 = .ok (.aload_n 1, 1) := by decide +kernel
theorem dX3_readWord_4 : decode cX3_readWord 4 = .ok (.invokevirtual 81, 3) := by decide +kernel
theorem dX3_readWord_7 : decode cX3_readWord 7 = .ok (.if_icmp .ge 23, 3) := by decide +kernel
theorem dX3_readWord_10 : decode cX3_readWord 10 = .ok (.aload_n 0, 1) := by decide +kernel
theorem dX3_readWord_11 : decode cX3_readWord 11 = .ok (.aload_n 1, 1) := by decide +kernel
theorem dX3_readWord_12 : decode cX3_readWord 12 = .ok (.iload_n 2, 1) := by decide +kernel
theorem dX3_readWord_13 : decode cX3_readWord 13 = .ok (.invokevirtual 86, 3) := by decide +kernel
theorem dX3_readWord_16 : decode cX3_readWord 16 = .ok (.invokevirtual 33, 3) := by decide +kernel
theorem dX3_readWord_19 : decode cX3_readWord 19 = .ok (.ifCond .ne 5, 3) := by decide +kernel
theorem dX3_readWord_22 : decode cX3_readWord 22 = .ok (.iconst 0, 1) := by decide +kernel
theorem dX3_readWord_23 : decode cX3_readWord 23 = .ok (.ireturn, 1) := by decide +kernel
theorem dX3_readWord_24 : decode cX3_readWord 24 = .ok (.iinc 2 1, 3) := by decide +kernel
theorem dX3_readWord_27 : decode cX3_readWord 27 = .ok (.goto (-25), 3) := by decide +kernel
theorem dX3_readWord_30 : decode cX3_readWord 30 = .ok (.iconst 1, 1) := by decide +kernel
theorem dX3_readWord_31 : decode cX3_readWord 31 = .ok (.ireturn, 1) := by decide +kernel
theorem dX3_readNumber_0 : decode cX3_readNumber 0 = .ok (.aload_n 0, 1) := by decide +kernel
theorem dX3_readNumber_1 : decode cX3_readNumber 1 = .ok (.bipush 44, 2) := by decide +kernel
theorem dX3_readNumber_3 : decode cX3_readNumber 3 = .ok (.invokevirtual 33, 3) := by decide +kernel
theorem dX3_readNumber_6 : decode cX3_readNumber 6 = .ok (.ifCond .eq 13, 3) := by decide +kernel
theorem dX3_readNumber_9 : decode cX3_readNumber 9 = .ok (.aload_n 0, 1) := by decide +kernel
theorem dX3_readNumber_10 : decode cX3_readNumber 10 = .ok (.iconst 0, 1) := by decide +kernel
theorem dX3_readNumber_11 : decode cX3_readNumber 11 = .ok (.iload_n 2, 1) := by decide +kernel
theorem dX3_readNumber_12 : decode cX3_readNumber 12 = .ok (.iload_n 3, 1) := by decide +kernel
theorem dX3_readNumber_13 : decode cX3_readNumber 13 = .ok (.invokevirtual 90, 3) := by decide +kernel
theorem dX3_readNumber_16 : decode cX3_readNumber 16 = .ok (.ifCond .ne 5, 3) := by decide +kernel
theorem dX3_readNumber_19 : decode cX3_readNumber 19 = .ok (.iconst 0, 1) := by decide +kernel
theorem dX3_readNumber_20 : decode cX3_readNumber 20 = .ok (.ireturn, 1) := by decide +kernel
theorem dX3_readNumber_21 : decode cX3_readNumber 21 = .ok (.aload_n 0, 1) := by decide +kernel
theorem dX3_readNumber_22 : decode cX3_readNumber 22 = .ok (.aload_n 0, 1) := by decide +kernel
theorem dX3_readNumber_23 : decode cX3_readNumber 23 = .ok (.getfield 27, 3) := by decide +kernel
theorem dX3_readNumber_26 : decode cX3_readNumber 26 = .ok (.iconst 1, 1) := by decide +kernel
theorem dX3_readNumber_27 : decode cX3_readNumber 27 = .ok (.isub, 1) := by decide +kernel
theorem dX3_readNumber_28 : decode cX3_readNumber 28 = .ok (.invokevirtual 93, 3) := by decide +kernel
theorem dX3_readNumber_31 : decode cX3_readNumber 31 = .ok (.istore 4, 2) := by decide +kernel
theorem dX3_readNumber_33 : decode cX3_readNumber 33 = .ok (.iconst 1, 1) := by decide +kernel
theorem dX3_readNumber_34 : decode cX3_readNumber 34 = .ok (.istore 5, 2) := by decide +kernel
theorem dX3_readNumber_36 : decode cX3_readNumber 36 = .ok (.iload 5, 2) := by decide +kernel
theorem dX3_readNumber_38 : decode cX3_readNumber 38 = .ok (.iconst 3, 1) := by decide +kernel
theorem dX3_readNumber_39 : decode cX3_readNumber 39 = .ok (.if_icmp .ge 46, 3) := by decide +kernel
theorem dX3_readNumber_42 : decode cX3_readNumber 42 = .ok (.iload 4, 2) := by decide +kernel
theorem dX3_readNumber_44 : decode cX3_readNumber 44 = .ok (.ifCond .le 41, 3) := by decide +kernel
theorem dX3_readNumber_47 : decode cX3_readNumber 47 = .ok (.aload_n 0, 1) := by decide +kernel
theorem dX3_readNumber_48 : decode cX3_readNumber 48 = .ok (.bipush 10, 2) := by decide +kernel
theorem dX3_readNumber_50 : decode cX3_readNumber 50 = .ok (.iload 4, 2) := by decide +kernel
theorem dX3_readNumber_52 : decode cX3_readNumber 52 = .ok (.imul, 1) := by decide +kernel
theorem dX3_readNumber_53 : decode cX3_readNumber 53 = .ok (.iload_n 2, 1) := by decide +kernel
theorem dX3_readNumber_54 : decode cX3_readNumber 54 = .ok (.iload_n 3, 1) := by decide +kernel
theorem dX3_readNumber_55 : decode cX3_readNumber 55 = .ok (.invokevirtual 90, 3) := by decide +kernel
theorem dX3_readNumber_58 : decode cX3_readNumber 58 = .ok (.ifCond .eq 21, 3) := by decide +kernel
theorem dX3_readNumber_61 : decode cX3_readNumber 61 = .ok (.bipush 10, 2) := by decide +kernel
theorem dX3_readNumber_63 : decode cX3_readNumber 63 = .ok (.iload 4, 2) := by decide +kernel
theorem dX3_readNumber_65 : decode cX3_readNumber 65 = .ok (.imul, 1) := by decide +kernel
theorem dX3_readNumber_66 : decode cX3_readNumber 66 = .ok (.aload_n 0, 1) := by decide +kernel
theorem dX3_readNumber_67 : decode cX3_readNumber 67 = .ok (.aload_n 0, 1) := by decide +kernel
theorem dX3_readNumber_68 : decode cX3_readNumber 68 = .ok (.getfield 27, 3) := by decide +kernel
theorem dX3_readNumber_71 : decode cX3_readNumber 71 = .ok (.iconst 1, 1) := by decide +kernel
theorem dX3_readNumber_72 : decode cX3_readNumber 72 = .ok (.isub, 1) := by decide +kernel
theorem dX3_readNumber_73 : decode cX3_readNumber 73 = .ok (.invokevirtual 93, 3) := by decide +kernel
theorem dX3_readNumber_76 : decode cX3_readNumber 76 = .ok (.iadd, 1) := by decide +kernel
theorem dX3_readNumber_77 : decode cX3_readNumber 77 = .ok (.istore 4, 2) := by decide +kernel
theorem dX3_readNumber_79 : decode cX3_readNumber 79 = .ok (.iinc 5 1, 3) := by decide +kernel
theorem dX3_readNumber_82 : decode cX3_readNumber 82 = .ok (.goto (-46), 3) := by decide +kernel
theorem dX3_readNumber_85 : decode cX3_readNumber 85 = .ok (.iload 4, 2) := by decide +kernel
theorem dX3_readNumber_87 : decode cX3_readNumber 87 = .ok (.iload_n 2, 1) := by decide +kernel
theorem dX3_readNumber_88 : decode cX3_readNumber 88 = .ok (.iload_n 3, 1) := by decide +kernel
theorem dX3_readNumber_89 : decode cX3_readNumber 89 = .ok (.invokestatic 96, 3) := by decide +kernel
theorem dX3_readNumber_92 : decode cX3_readNumber 92 = .ok (.ifCond .eq 12, 3) := by decide +kernel
theorem dX3_readNumber_95 : decode cX3_readNumber 95 = .ok (.iload_n 1, 1) := by decide +kernel
theorem dX3_readNumber_96 : decode cX3_readNumber 96 = .ok (.iconst 0, 1) := by decide +kernel
theorem dX3_readNumber_97 : decode cX3_readNumber 97 = .ok (.iconst 4, 1) := by decide +kernel
theorem dX3_readNumber_98 : decode cX3_readNumber 98 = .ok (.invokestatic 96, 3) := by decide +kernel
theorem dX3_readNumber_101 : decode cX3_readNumber 101 = .ok (.ifCond .ne 5, 3) := by decide +kernel
theorem dX3_readNumber_104 : decode cX3_readNumber 104 = .ok (.iconst 0, 1) := by decide +kernel
theorem dX3_readNumber_105 : decode cX3_readNumber 105 = .ok (.ireturn, 1) := by decide +kernel
theorem dX3_readNumber_106 : decode cX3_readNumber 106 = .ok (.aload_n 0, 1) := by decide +kernel
theorem dX3_readNumber_107 : decode cX3_readNumber 107 = .ok (.getfield 15, 3) := by decide +kernel
theorem dX3_readNumber_110 : decode cX3_readNumber 110 = .ok (.iload_n 1, 1) := by decide +kernel
theorem dX3_readNumber_111 : decode cX3_readNumber 111 = .ok (.iload 4, 2) := by decide +kernel
theorem dX3_readNumber_113 : decode cX3_readNumber 113 = .ok (.iastore, 1) := by decide +kernel
theorem dX3_readNumber_114 : decode cX3_readNumber 114 = .ok (.iconst 1, 1) := by decide +kernel
theorem dX3_readNumber_115 : decode cX3_readNumber 115 = .ok (.ireturn, 1) := by decide +kernel
theorem dX3_readDigit_0 : decode cX3_readDigit 0 = .ok (.aload_n 0, 1) := by decide +kernel
theorem dX3_readDigit_1 : decode cX3_readDigit 1 = .ok (.aload_n 0, 1) := by decide +kernel
theorem dX3_readDigit_2 : decode cX3_readDigit 2 = .ok (.getfield 27, 3) := by decide +kernel
theorem dX3_readDigit_5 : decode cX3_readDigit 5 = .ok (.invokevirtual 93, 3) := by decide +kernel
theorem dX3_readDigit_8 : decode cX3_readDigit 8 = .ok (.istore 4, 2) := by decide +kernel
theorem dX3_readDigit_10 : decode cX3_readDigit 10 = .ok (.iload 4, 2) := by decide +kernel
theorem dX3_readDigit_12 : decode cX3_readDigit 12 = .ok (.iconst (-1), 1) := by decide +kernel
theorem dX3_readDigit_13 : decode cX3_readDigit 13 = .ok (.if_icmp .eq 15, 3) := by decide +kernel
theorem dX3_readDigit_16 : decode cX3_readDigit 16 = .ok (.iload_n 1, 1) := by decide +kernel
theorem dX3_readDigit_17 : decode cX3_readDigit 17 = .ok (.iload 4, 2) := by decide +kernel
theorem dX3_readDigit_19 : decode cX3_readDigit 19 = .ok (.iadd, 1) := by decide +kernel
theorem dX3_readDigit_20 : decode cX3_readDigit 20 = .ok (.iload_n 2, 1) := by decide +kernel
theorem dX3_readDigit_21 : decode cX3_readDigit 21 = .ok (.iload_n 3, 1) := by decide +kernel
theorem dX3_readDigit_22 : decode cX3_readDigit 22 = .ok (.invokestatic 99, 3) := by decide +kernel
theorem dX3_readDigit_25 : decode cX3_readDigit 25 = .ok (.ifCond .ne 5, 3) := by decide +kernel
theorem dX3_readDigit_28 : decode cX3_readDigit 28 = .ok (.iconst 0, 1) := by decide +kernel
theorem dX3_readDigit_29 : decode cX3_readDigit 29 = .ok (.ireturn, 1) := by decide +kernel
theorem dX3_readDigit_30 : decode cX3_readDigit 30 = .ok (.aload_n 0, 1) := by decide +kernel
theorem dX3_readDigit_31 : decode cX3_readDigit 31 = .ok (.dup, 1) := by decide +kernel
theorem dX3_readDigit_32 : decode cX3_readDigit 32 = .ok (.getfield 27, 3) := by decide +kernel
theorem dX3_readDigit_35 : decode cX3_readDigit 35 = .ok (.iconst 1, 1) := by decide +kernel
theorem dX3_readDigit_36 : decode cX3_readDigit 36 = .ok (.iadd, 1) := by decide +kernel
theorem dX3_readDigit_37 : decode cX3_readDigit 37 = .ok (.putfield 27, 3) := by decide +kernel
theorem dX3_readDigit_40 : decode cX3_readDigit 40 = .ok (.iconst 1, 1) := by decide +kernel
theorem dX3_readDigit_41 : decode cX3_readDigit 41 = .ok (.ireturn, 1) := by decide +kernel
theorem dX3_beginsNumber_0 : decode cX3_beginsNumber 0 = .ok (.iload_n 0, 1) := by decide +kernel
theorem dX3_beginsNumber_1 : decode cX3_beginsNumber 1 = .ok (.ifCond .ne 13, 3) := by decide +kernel
theorem dX3_beginsNumber_4 : decode cX3_beginsNumber 4 = .ok (.iload_n 1, 1) := by decide +kernel
theorem dX3_beginsNumber_5 : decode cX3_beginsNumber 5 = .ok (.ifCond .gt 7, 3) := by decide +kernel
theorem dX3_beginsNumber_8 : decode cX3_beginsNumber 8 = .ok (.iconst 1, 1) := by decide +kernel
theorem dX3_beginsNumber_9 : decode cX3_beginsNumber 9 = .ok (.goto 4, 3) := by decide +kernel
theorem dX3_beginsNumber_12 : decode cX3_beginsNumber 12 = .ok (.iconst 0, 1) := by decide +kernel
theorem dX3_beginsNumber_13 : decode cX3_beginsNumber 13 = .ok (.ireturn, 1) := by decide +kernel
theorem dX3_beginsNumber_14 : decode cX3_beginsNumber 14 = .ok (.iload_n 0, 1) := by decide +kernel
theorem dX3_beginsNumber_15 : decode cX3_beginsNumber 15 = .ok (.istore_n 3, 1) := by decide +kernel
theorem dX3_beginsNumber_16 : decode cX3_beginsNumber 16 = .ok (.iload_n 0, 1) := by decide +kernel
theorem dX3_beginsNumber_17 : decode cX3_beginsNumber 17 = .ok (.istore 4, 2) := by decide +kernel
theorem dX3_beginsNumber_19 : decode cX3_beginsNumber 19 = .ok (.iconst 0, 1) := by decide +kernel
theorem dX3_beginsNumber_20 : decode cX3_beginsNumber 20 = .ok (.istore 5, 2) := by decide +kernel
theorem dX3_beginsNumber_22 : decode cX3_beginsNumber 22 = .ok (.iload 5, 2) := by decide +kernel
theorem dX3_beginsNumber_24 : decode cX3_beginsNumber 24 = .ok (.iconst 3, 1) := by decide +kernel
theorem dX3_beginsNumber_25 : decode cX3_beginsNumber 25 = .ok (.if_icmp .ge 37, 3) := by decide +kernel
theorem dX3_beginsNumber_28 : decode cX3_beginsNumber 28 = .ok (.iload_n 3, 1) := by decide +kernel
theorem dX3_beginsNumber_29 : decode cX3_beginsNumber 29 = .ok (.iload_n 2, 1) := by decide +kernel
theorem dX3_beginsNumber_30 : decode cX3_beginsNumber 30 = .ok (.if_icmp .gt 32, 3) := by decide +kernel
theorem dX3_beginsNumber_33 : decode cX3_beginsNumber 33 = .ok (.iload 4, 2) := by decide +kernel
theorem dX3_beginsNumber_35 : decode cX3_beginsNumber 35 = .ok (.iload_n 1, 1) := by decide +kernel
theorem dX3_beginsNumber_36 : decode cX3_beginsNumber 36 = .ok (.if_icmp .lt 5, 3) := by decide +kernel
theorem dX3_beginsNumber_39 : decode cX3_beginsNumber 39 = .ok (.iconst 1, 1) := by decide +kernel
theorem dX3_beginsNumber_40 : decode cX3_beginsNumber 40 = .ok (.ireturn, 1) := by decide +kernel
theorem dX3_beginsNumber_41 : decode cX3_beginsNumber 41 = .ok (.bipush 10, 2) := by decide +kernel
theorem dX3_beginsNumber_43 : decode cX3_beginsNumber 43 = .ok (.iload_n 3, 1) := by decide +kernel
theorem dX3_beginsNumber_44 : decode cX3_beginsNumber 44 = .ok (.imul, 1) := by decide +kernel
theorem dX3_beginsNumber_45 : decode cX3_beginsNumber 45 = .ok (.istore_n 3, 1) := by decide +kernel
theorem dX3_beginsNumber_46 : decode cX3_beginsNumber 46 = .ok (.bipush 10, 2) := by decide +kernel
theorem dX3_beginsNumber_48 : decode cX3_beginsNumber 48 = .ok (.iload 4, 2) := by decide +kernel
theorem dX3_beginsNumber_50 : decode cX3_beginsNumber 50 = .ok (.imul, 1) := by decide +kernel
theorem dX3_beginsNumber_51 : decode cX3_beginsNumber 51 = .ok (.bipush 9, 2) := by decide +kernel
theorem dX3_beginsNumber_53 : decode cX3_beginsNumber 53 = .ok (.iadd, 1) := by decide +kernel
theorem dX3_beginsNumber_54 : decode cX3_beginsNumber 54 = .ok (.istore 4, 2) := by decide +kernel
theorem dX3_beginsNumber_56 : decode cX3_beginsNumber 56 = .ok (.iinc 5 1, 3) := by decide +kernel
theorem dX3_beginsNumber_59 : decode cX3_beginsNumber 59 = .ok (.goto (-37), 3) := by decide +kernel
theorem dX3_beginsNumber_62 : decode cX3_beginsNumber 62 = .ok (.iconst 0, 1) := by decide +kernel
theorem dX3_beginsNumber_63 : decode cX3_beginsNumber 63 = .ok (.ireturn, 1) := by decide +kernel
theorem dX3_readSign_0 : decode cX3_readSign 0 = .ok (.aload_n 0, 1) := by decide +kernel
theorem dX3_readSign_1 : decode cX3_readSign 1 = .ok (.aload_n 0, 1) := by decide +kernel
theorem dX3_readSign_2 : decode cX3_readSign 2 = .ok (.getfield 27, 3) := by decide +kernel
theorem dX3_readSign_5 : decode cX3_readSign 5 = .ok (.invokevirtual 61, 3) := by decide +kernel
theorem dX3_readSign_8 : decode cX3_readSign 8 = .ok (.iload_n 1, 1) := by decide +kernel
theorem dX3_readSign_9 : decode cX3_readSign 9 = .ok (.if_icmp .eq 5, 3) := by decide +kernel
theorem dX3_readSign_12 : decode cX3_readSign 12 = .ok (.iconst 0, 1) := by decide +kernel
theorem dX3_readSign_13 : decode cX3_readSign 13 = .ok (.ireturn, 1) := by decide +kernel
theorem dX3_readSign_14 : decode cX3_readSign 14 = .ok (.aload_n 0, 1) := by decide +kernel
theorem dX3_readSign_15 : decode cX3_readSign 15 = .ok (.dup, 1) := by decide +kernel
theorem dX3_readSign_16 : decode cX3_readSign 16 = .ok (.getfield 27, 3) := by decide +kernel
theorem dX3_readSign_19 : decode cX3_readSign 19 = .ok (.iconst 1, 1) := by decide +kernel
theorem dX3_readSign_20 : decode cX3_readSign 20 = .ok (.iadd, 1) := by decide +kernel
theorem dX3_readSign_21 : decode cX3_readSign 21 = .ok (.putfield 27, 3) := by decide +kernel
theorem dX3_readSign_24 : decode cX3_readSign 24 = .ok (.iconst 1, 1) := by decide +kernel
theorem dX3_readSign_25 : decode cX3_readSign 25 = .ok (.ireturn, 1) := by decide +kernel
theorem dX3_digitAt_0 : decode cX3_digitAt 0 = .ok (.aload_n 0, 1) := by decide +kernel
theorem dX3_digitAt_1 : decode cX3_digitAt 1 = .ok (.iload_n 1, 1) := by decide +kernel
theorem dX3_digitAt_2 : decode cX3_digitAt 2 = .ok (.invokevirtual 61, 3) := by decide +kernel
theorem dX3_digitAt_5 : decode cX3_digitAt 5 = .ok (.istore_n 2, 1) := by decide +kernel
theorem dX3_digitAt_6 : decode cX3_digitAt 6 = .ok (.iload_n 2, 1) := by decide +kernel
theorem dX3_digitAt_7 : decode cX3_digitAt 7 = .ok (.bipush 48, 2) := by decide +kernel
theorem dX3_digitAt_9 : decode cX3_digitAt 9 = .ok (.bipush 57, 2) := by decide +kernel
theorem dX3_digitAt_11 : decode cX3_digitAt 11 = .ok (.invokestatic 96, 3) := by decide +kernel
theorem dX3_digitAt_14 : decode cX3_digitAt 14 = .ok (.ifCond .eq 10, 3) := by decide +kernel
theorem dX3_digitAt_17 : decode cX3_digitAt 17 = .ok (.iload_n 2, 1) := by decide +kernel
theorem dX3_digitAt_18 : decode cX3_digitAt 18 = .ok (.bipush 48, 2) := by decide +kernel
theorem dX3_digitAt_20 : decode cX3_digitAt 20 = .ok (.isub, 1) := by decide +kernel
theorem dX3_digitAt_21 : decode cX3_digitAt 21 = .ok (.goto 4, 3) := by decide +kernel
theorem dX3_digitAt_24 : decode cX3_digitAt 24 = .ok (.iconst (-1), 1) := by decide +kernel
theorem dX3_digitAt_25 : decode cX3_digitAt 25 = .ok (.ireturn, 1) := by decide +kernel
theorem dX3_signAt_0 : decode cX3_signAt 0 = .ok (.iload_n 1, 1) := by decide +kernel
theorem dX3_signAt_1 : decode cX3_signAt 1 = .ok (.ifCond .lt 11, 3) := by decide +kernel
theorem dX3_signAt_4 : decode cX3_signAt 4 = .ok (.iload_n 1, 1) := by decide +kernel
theorem dX3_signAt_5 : decode cX3_signAt 5 = .ok (.aload_n 0, 1) := by decide +kernel
theorem dX3_signAt_6 : decode cX3_signAt 6 = .ok (.getfield 19, 3) := by decide +kernel
theorem dX3_signAt_9 : decode cX3_signAt 9 = .ok (.if_icmp .lt 5, 3) := by decide +kernel
theorem dX3_signAt_12 : decode cX3_signAt 12 = .ok (.iconst (-1), 1) := by decide +kernel
theorem dX3_signAt_13 : decode cX3_signAt 13 = .ok (.ireturn, 1) := by decide +kernel
theorem dX3_signAt_14 : decode cX3_signAt 14 = .ok (.aload_n 0, 1) := by decide +kernel
theorem dX3_signAt_15 : decode cX3_signAt 15 = .ok (.getfield 9, 3) := by decide +kernel
theorem dX3_signAt_18 : decode cX3_signAt 18 = .ok (.iload_n 1, 1) := by decide +kernel
theorem dX3_signAt_19 : decode cX3_signAt 19 = .ok (.caload, 1) := by decide +kernel
theorem dX3_signAt_20 : decode cX3_signAt 20 = .ok (.ireturn, 1) := by decide +kernel
theorem dX4_init_0 : decode cX4_init 0 = .ok (.aload_n 0, 1) := by decide +kernel
theorem dX4_init_1 : decode cX4_init 1 = .ok (.invokespecial 3, 3) := by decide +kernel
theorem dX4_init_4 : decode cX4_init 4 = .ok (.aload_n 0, 1) := by decide +kernel
theorem dX4_init_5 : decode cX4_init 5 = .ok (.new 9, 3) := by decide +kernel
theorem dX4_init_8 : decode cX4_init 8 = .ok (.dup, 1) := by decide +kernel
theorem dX4_init_9 : decode cX4_init 9 = .ok (.invokespecial 11, 3) := by decide +kernel
theorem dX4_init_12 : decode cX4_init 12 = .ok (.putfield 12, 3) := by decide +kernel
theorem dX4_init_15 : decode cX4_init 15 = .ok (.aload_n 0, 1) := by decide +kernel
theorem dX4_init_16 : decode cX4_init 16 = .ok (.new 16, 3) := by decide +kernel
theorem dX4_init_19 : decode cX4_init 19 = .ok (.dup, 1) := by decide +kernel
theorem dX4_init_20 : decode cX4_init 20 = .ok (.invokespecial 18, 3) := by decide +kernel
theorem dX4_init_23 : decode cX4_init 23 = .ok (.putfield 19, 3) := by decide +kernel
theorem dX4_init_26 : decode cX4_init 26 = .ok (.aload_n 0, 1) := by decide +kernel
theorem dX4_init_27 : decode cX4_init 27 = .ok (.new 23, 3) := by decide +kernel
theorem dX4_init_30 : decode cX4_init 30 = .ok (.dup, 1) := by decide +kernel
theorem dX4_init_31 : decode cX4_init 31 = .ok (.invokespecial 25, 3) := by decide +kernel
theorem dX4_init_34 : decode cX4_init 34 = .ok (.putfield 26, 3) := by decide +kernel
theorem dX4_init_37 : decode cX4_init 37 = .ok (.aload_n 0, 1) := by decide +kernel
theorem dX4_init_38 : decode cX4_init 38 = .ok (.iconst 2, 1) := by decide +kernel
theorem dX4_init_39 : decode cX4_init 39 = .ok (.anewarray 16, 3) := by decide +kernel
theorem dX4_init_42 : decode cX4_init 42 = .ok (.putfield 30, 3) := by decide +kernel
theorem dX4_init_45 : decode cX4_init 45 = .ok (.aload_n 0, 1) := by decide +kernel
theorem dX4_init_46 : decode cX4_init 46 = .ok (.iconst 2, 1) := by decide +kernel
theorem dX4_init_47 : decode cX4_init 47 = .ok (.newarray .boolean, 2) := by decide +kernel
theorem dX4_init_49 : decode cX4_init 49 = .ok (.putfield 34, 3) := by decide +kernel
theorem dX4_init_52 : decode cX4_init 52 = .ok (.aload_n 0, 1) := by decide +kernel
theorem dX4_init_53 : decode cX4_init 53 = .ok (.new 16, 3) := by decide +kernel
theorem dX4_init_56 : decode cX4_init 56 = .ok (.dup, 1) := by decide +kernel
theorem dX4_init_57 : decode cX4_init 57 = .ok (.invokespecial 18, 3) := by decide +kernel
theorem dX4_init_60 : decode cX4_init 60 = .ok (.putfield 38, 3) := by decide +kernel
theorem dX4_init_63 : decode cX4_init 63 = .ok (.aload_n 0, 1) := by decide +kernel
theorem dX4_init_64 : decode cX4_init 64 = .ok (.new 16, 3) := by decide +kernel
theorem dX4_init_67 : decode cX4_init 67 = .ok (.dup, 1) := by decide +kernel
theorem dX4_init_68 : decode cX4_init 68 = .ok (.invokespecial 18, 3) := by decide +kernel
theorem dX4_init_71 : decode cX4_init 71 = .ok (.putfield 41, 3) := by decide +kernel
theorem dX4_init_74 : decode cX4_init 74 = .ok (.iconst 0, 1) := by decide +kernel
theorem dX4_init_75 : decode cX4_init 75 = .ok (.istore_n 1, 1) := by decide +kernel
theorem dX4_init_76 : decode cX4_init 76 = .ok (.iload_n 1, 1) := by decide +kernel
theorem dX4_init_77 : decode cX4_init 77 = .ok (.aload_n 0, 1) := by decide +kernel
theorem dX4_init_78 : decode cX4_init 78 = .ok (.getfield 30, 3) := by decide +kernel
theorem dX4_init_81 : decode cX4_init 81 = .ok (.arraylength, 1) := by decide +kernel
theorem dX4_init_82 : decode cX4_init 82 = .ok (.if_icmp .ge 22, 3) := by decide +kernel
theorem dX4_init_85 : decode cX4_init 85 = .ok (.aload_n 0, 1) := by decide +kernel
theorem dX4_init_86 : decode cX4_init 86 = .ok (.getfield 30, 3) := by decide +kernel
theorem dX4_init_89 : decode cX4_init 89 = .ok (.iload_n 1, 1) := by decide +kernel
theorem dX4_init_90 : decode cX4_init 90 = .ok (.new 16, 3) := by decide +kernel
theorem dX4_init_93 : decode cX4_init 93 = .ok (.dup, 1) := by decide +kernel
theorem dX4_init_94 : decode cX4_init 94 = .ok (.invokespecial 18, 3) := by decide +kernel
theorem dX4_init_97 : decode cX4_init 97 = .ok (.aastore, 1) := by decide +kernel
theorem dX4_init_98 : decode cX4_init 98 = .ok (.iinc 1 1, 3) := by decide +kernel
theorem dX4_init_101 : decode cX4_init 101 = .ok (.goto (-25), 3) := by decide +kernel
theorem dX4_init_104 : decode cX4_init 104 = .ok (.return_, 1) := by decide +kernel
theorem dX4_append_0 : decode cX4_append 0 = .ok (.iload_n 1, 1) := by decide +kernel
theorem dX4_append_1 : decode cX4_append 1 = .ok (.iconst 0, 1) := by decide +kernel
theorem dX4_append_2 : decode cX4_append 2 = .ok (.sipush 255, 3) := by decide +kernel
theorem dX4_append_5 : decode cX4_append 5 = .ok (.invokestatic 44, 3) := by decide +kernel
theorem dX4_append_8 : decode cX4_append 8 = .ok (.aload_n 0, 1) := by decide +kernel
theorem dX4_append_9 : decode cX4_append 9 = .ok (.getfield 12, 3) := by decide +kernel
theorem dX4_append_12 : decode cX4_append 12 = .ok (.invokevirtual 48, 3) := by decide +kernel
theorem dX4_append_15 : decode cX4_append 15 = .ok (.ifCond .eq 13, 3) := by decide +kernel
theorem dX4_append_18 : decode cX4_append 18 = .ok (.new 52, 3) := by decide +kernel
theorem dX4_append_21 : decode cX4_append 21 = .ok (.dup, 1) := by decide +kernel
theorem dX4_append_22 : decode cX4_append 22 = .ok (.ldc 54, 2) := by decide +kernel
theorem dX4_append_24 : decode cX4_append 24 = .ok (.invokespecial 56, 3) := by decide +kernel
theorem dX4_append_27 : decode cX4_append 27 = .ok (.athrow, 1) := by decide +kernel
theorem dX4_append_28 : decode cX4_append 28 = .ok (.aload_n 0, 1) := by decide +kernel
theorem dX4_append_29 : decode cX4_append 29 = .ok (.getfield 12, 3) := by decide +kernel
theorem dX4_append_32 : decode cX4_append 32 = .ok (.iload_n 1, 1) := by decide +kernel
theorem dX4_append_33 : decode cX4_append 33 = .ok (.i2c, 1) := by decide +kernel
theorem dX4_append_34 : decode cX4_append 34 = .ok (.invokevirtual 59, 3) := by decide +kernel
theorem dX4_append_37 : decode cX4_append 37 = .ok (.ireturn, 1) := by decide +kernel
theorem dX4_clearText_0 : decode cX4_clearText 0 = .ok (.aload_n 0, 1) := by decide +kernel
theorem dX4_clearText_1 : decode cX4_clearText 1 = .ok (.getfield 12, 3) := by decide +kernel
theorem dX4_clearText_4 : decode cX4_clearText 4 = .ok (.invokevirtual 63, 3) := by decide +kernel
theorem dX4_clearText_7 : decode cX4_clearText 7 = .ok (.ireturn, 1) := by decide +kernel
theorem dX4_errorPosition_0 : decode cX4_errorPosition 0 = .ok (.aload_n 0, 1) := by decide +kernel
theorem dX4_errorPosition_1 : decode cX4_errorPosition 1 = .ok (.getfield 12, 3) := by decide +kernel
theorem dX4_errorPosition_4 : decode cX4_errorPosition 4 = .ok (.invokevirtual 67, 3) := by decide +kernel
theorem dX4_errorPosition_7 : decode cX4_errorPosition 7 = .ok (.ireturn, 1) := by decide +kernel
theorem dX4_load_0 : decode cX4_load 0 = .ok (.aload_n 0, 1) := by decide +kernel
theorem dX4_load_1 : decode cX4_load 1 = .ok (.getfield 12, 3) := by decide +kernel
theorem dX4_load_4 : decode cX4_load 4 = .ok (.invokevirtual 67, 3) := by decide +kernel
theorem dX4_load_7 : decode cX4_load 7 = .ok (.iconst (-1), 1) := by decide +kernel
theorem dX4_load_8 : decode cX4_load 8 = .ok (.if_icmp .eq 13, 3) := by decide +kernel
theorem dX4_load_11 : decode cX4_load 11 = .ok (.new 52, 3) := by decide +kernel
theorem dX4_load_14 : decode cX4_load 14 = .ok (.dup, 1) := by decide +kernel
theorem dX4_load_15 : decode cX4_load 15 = .ok (.ldc 70, 2) := by decide +kernel
theorem dX4_load_17 : decode cX4_load 17 = .ok (.invokespecial 56, 3) := by decide +kernel
theorem dX4_load_20 : decode cX4_load 20 = .ok (.athrow, 1) := by decide +kernel
theorem dX4_load_21 : decode cX4_load 21 = .ok (.aload_n 0, 1) := by decide +kernel
theorem dX4_load_22 : decode cX4_load 22 = .ok (.getfield 19, 3) := by decide +kernel
theorem dX4_load_25 : decode cX4_load 25 = .ok (.invokevirtual 72, 3) := by decide +kernel
theorem dX4_load_28 : decode cX4_load 28 = .ok (.aload_n 0, 1) := by decide +kernel
theorem dX4_load_29 : decode cX4_load 29 = .ok (.getfield 26, 3) := by decide +kernel
theorem dX4_load_32 : decode cX4_load 32 = .ok (.invokevirtual 75, 3) := by decide +kernel
theorem dX4_load_35 : decode cX4_load 35 = .ok (.iconst 0, 1) := by decide +kernel
theorem dX4_load_36 : decode cX4_load 36 = .ok (.istore_n 1, 1) := by decide +kernel
theorem dX4_load_37 : decode cX4_load 37 = .ok (.iload_n 1, 1) := by decide +kernel
theorem dX4_load_38 : decode cX4_load 38 = .ok (.aload_n 0, 1) := by decide +kernel
theorem dX4_load_39 : decode cX4_load 39 = .ok (.getfield 34, 3) := by decide +kernel
theorem dX4_load_42 : decode cX4_load 42 = .ok (.arraylength, 1) := by decide +kernel
theorem dX4_load_43 : decode cX4_load 43 = .ok (.if_icmp .ge 16, 3) := by decide +kernel
theorem dX4_load_46 : decode cX4_load 46 = .ok (.aload_n 0, 1) := by decide +kernel
theorem dX4_load_47 : decode cX4_load 47 = .ok (.getfield 34, 3) := by decide +kernel
theorem dX4_load_50 : decode cX4_load 50 = .ok (.iload_n 1, 1) := by decide +kernel
theorem dX4_load_51 : decode cX4_load 51 = .ok (.iconst 0, 1) := by decide +kernel
theorem dX4_load_52 : decode cX4_load 52 = .ok (.bastore, 1) := by decide +kernel
theorem dX4_load_53 : decode cX4_load 53 = .ok (.iinc 1 1, 3) := by decide +kernel
theorem dX4_load_56 : decode cX4_load 56 = .ok (.goto (-19), 3) := by decide +kernel
theorem dX4_load_59 : decode cX4_load 59 = .ok (.aload_n 0, 1) := by decide +kernel
theorem dX4_load_60 : decode cX4_load 60 = .ok (.getfield 12, 3) := by decide +kernel
theorem dX4_load_63 : decode cX4_load 63 = .ok (.aload_n 0, 1) := by decide +kernel
theorem dX4_load_64 : decode cX4_load 64 = .ok (.getfield 19, 3) := by decide +kernel
theorem dX4_load_67 : decode cX4_load 67 = .ok (.invokevirtual 78, 3) := by decide +kernel
theorem dX4_load_70 : decode cX4_load 70 = .ok (.ireturn, 1) := by decide +kernel
theorem dX4_about_0 : decode cX4_about 0 = .ok (.iload_n 1, 1) := by decide +kernel
theorem dX4_about_1 : decode cX4_about 1 = .ok (.iconst 0, 1) := by decide +kernel
theorem dX4_about_2 : decode cX4_about 2 = .ok (.bipush 10, 2) := by decide +kernel
theorem dX4_about_4 : decode cX4_about 4 = .ok (.invokestatic 44, 3) := by decide +kernel
theorem dX4_about_7 : decode cX4_about 7 = .ok (.iload_n 1, 1) := by decide +kernel
theorem dX4_about_8 : decode cX4_about 8 = .ok (.tableswitch 144 0 9 #[56, 64, 72, 80, 88, 96, 104, 112, 120, 128], 56) := by decide +kernel
theorem dX4_about_64 : decode cX4_about 64 = .ok (.aload_n 0, 1) := by decide +kernel
theorem dX4_about_65 : decode cX4_about 65 = .ok (.getfield 19, 3) := by decide +kernel
theorem dX4_about_68 : decode cX4_about 68 = .ok (.getfield 82, 3) := by decide +kernel
theorem dX4_about_71 : decode cX4_about 71 = .ok (.ireturn, 1) := by decide +kernel
theorem dX4_about_72 : decode cX4_about 72 = .ok (.aload_n 0, 1) := by decide +kernel
theorem dX4_about_73 : decode cX4_about 73 = .ok (.getfield 19, 3) := by decide +kernel
theorem dX4_about_76 : decode cX4_about 76 = .ok (.getfield 86, 3) := by decide +kernel
theorem dX4_about_79 : decode cX4_about 79 = .ok (.ireturn, 1) := by decide +kernel
theorem dX4_about_80 : decode cX4_about 80 = .ok (.aload_n 0, 1) := by decide +kernel
theorem dX4_about_81 : decode cX4_about 81 = .ok (.getfield 19, 3) := by decide +kernel
theorem dX4_about_84 : decode cX4_about 84 = .ok (.getfield 89, 3) := by decide +kernel
theorem dX4_about_87 : decode cX4_about 87 = .ok (.ireturn, 1) := by decide +kernel
theorem dX4_about_88 : decode cX4_about 88 = .ok (.aload_n 0, 1) := by decide +kernel
theorem dX4_about_89 : decode cX4_about 89 = .ok (.getfield 19, 3) := by decide +kernel
theorem dX4_about_92 : decode cX4_about 92 = .ok (.getfield 92, 3) := by decide +kernel
theorem dX4_about_95 : decode cX4_about 95 = .ok (.ireturn, 1) := by decide +kernel
theorem dX4_about_96 : decode cX4_about 96 = .ok (.aload_n 0, 1) := by decide +kernel
theorem dX4_about_97 : decode cX4_about 97 = .ok (.getfield 19, 3) := by decide +kernel
theorem dX4_about_100 : decode cX4_about 100 = .ok (.getfield 95, 3) := by decide +kernel
theorem dX4_about_103 : decode cX4_about 103 = .ok (.ireturn, 1) := by decide +kernel
theorem dX4_about_104 : decode cX4_about 104 = .ok (.aload_n 0, 1) := by decide +kernel
theorem dX4_about_105 : decode cX4_about 105 = .ok (.getfield 19, 3) := by decide +kernel
theorem dX4_about_108 : decode cX4_about 108 = .ok (.getfield 98, 3) := by decide +kernel
theorem dX4_about_111 : decode cX4_about 111 = .ok (.ireturn, 1) := by decide +kernel
theorem dX4_about_112 : decode cX4_about 112 = .ok (.aload_n 0, 1) := by decide +kernel
theorem dX4_about_113 : decode cX4_about 113 = .ok (.getfield 19, 3) := by decide +kernel
theorem dX4_about_116 : decode cX4_about 116 = .ok (.getfield 101, 3) := by decide +kernel
theorem dX4_about_119 : decode cX4_about 119 = .ok (.ireturn, 1) := by decide +kernel
theorem dX4_about_120 : decode cX4_about 120 = .ok (.aload_n 0, 1) := by decide +kernel
theorem dX4_about_121 : decode cX4_about 121 = .ok (.getfield 19, 3) := by decide +kernel
theorem dX4_about_124 : decode cX4_about 124 = .ok (.invokevirtual 104, 3) := by decide +kernel
theorem dX4_about_127 : decode cX4_about 127 = .ok (.ireturn, 1) := by decide +kernel
theorem dX4_about_128 : decode cX4_about 128 = .ok (.aload_n 0, 1) := by decide +kernel
theorem dX4_about_129 : decode cX4_about 129 = .ok (.getfield 19, 3) := by decide +kernel
theorem dX4_about_132 : decode cX4_about 132 = .ok (.invokevirtual 107, 3) := by decide +kernel
theorem dX4_about_135 : decode cX4_about 135 = .ok (.ireturn, 1) := by decide +kernel
theorem dX4_about_136 : decode cX4_about 136 = .ok (.aload_n 0, 1) := by decide +kernel
theorem dX4_about_137 : decode cX4_about 137 = .ok (.getfield 19, 3) := by decide +kernel
theorem dX4_about_140 : decode cX4_about 140 = .ok (.invokevirtual 110, 3) := by decide +kernel
theorem dX4_about_143 : decode cX4_about 143 = .ok (.ifCond .eq 7, 3) := by decide +kernel
theorem dX4_about_146 : decode cX4_about 146 = .ok (.iconst 1, 1) := by decide +kernel
theorem dX4_about_147 : decode cX4_about 147 = .ok (.goto 4, 3) := by decide +kernel
theorem dX4_about_150 : decode cX4_about 150 = .ok (.iconst 0, 1) := by decide +kernel
theorem dX4_about_151 : decode cX4_about 151 = .ok (.ireturn, 1) := by decide +kernel
theorem dX4_about_152 : decode cX4_about 152 = .ok (.aload_n 0, 1) := by decide +kernel
theorem dX4_about_153 : decode cX4_about 153 = .ok (.getfield 19, 3) := by decide +kernel
theorem dX4_about_156 : decode cX4_about 156 = .ok (.invokevirtual 113, 3) := by decide +kernel
theorem dX4_about_159 : decode cX4_about 159 = .ok (.ireturn, 1) := by decide +kernel
theorem dX4_bus_0 : decode cX4_bus 0 = .ok (.aload_n 0, 1) := by decide +kernel
theorem dX4_bus_1 : decode cX4_bus 1 = .ok (.iload_n 1, 1) := by decide +kernel
theorem dX4_bus_2 : decode cX4_bus 2 = .ok (.invokevirtual 116, 3) := by decide +kernel
theorem dX4_bus_5 : decode cX4_bus 5 = .ok (.astore_n 3, 1) := by decide +kernel
theorem dX4_bus_6 : decode cX4_bus 6 = .ok (.iload_n 2, 1) := by decide +kernel
theorem dX4_bus_7 : decode cX4_bus 7 = .ok (.iconst 0, 1) := by decide +kernel
theorem dX4_bus_8 : decode cX4_bus 8 = .ok (.bipush 9, 2) := by decide +kernel
theorem dX4_bus_10 : decode cX4_bus 10 = .ok (.invokestatic 44, 3) := by decide +kernel
theorem dX4_bus_13 : decode cX4_bus 13 = .ok (.iload_n 2, 1) := by decide +kernel
theorem dX4_bus_14 : decode cX4_bus 14 = .ok (.tableswitch 119 0 8 #[50, 55, 60, 65, 70, 75, 80, 93, 106], 50) := by decide +kernel
theorem dX4_bus_64 : decode cX4_bus 64 = .ok (.aload_n 3, 1) := by decide +kernel
theorem dX4_bus_65 : decode cX4_bus 65 = .ok (.getfield 120, 3) := by decide +kernel
theorem dX4_bus_68 : decode cX4_bus 68 = .ok (.ireturn, 1) := by decide +kernel
theorem dX4_bus_69 : decode cX4_bus 69 = .ok (.aload_n 3, 1) := by decide +kernel
theorem dX4_bus_70 : decode cX4_bus 70 = .ok (.getfield 125, 3) := by decide +kernel
theorem dX4_bus_73 : decode cX4_bus 73 = .ok (.ireturn, 1) := by decide +kernel
theorem dX4_bus_74 : decode cX4_bus 74 = .ok (.aload_n 3, 1) := by decide +kernel
theorem dX4_bus_75 : decode cX4_bus 75 = .ok (.getfield 128, 3) := by decide +kernel
theorem dX4_bus_78 : decode cX4_bus 78 = .ok (.ireturn, 1) := by decide +kernel
theorem dX4_bus_79 : decode cX4_bus 79 = .ok (.aload_n 3, 1) := by decide +kernel
theorem dX4_bus_80 : decode cX4_bus 80 = .ok (.getfield 131, 3) := by decide +kernel
theorem dX4_bus_83 : decode cX4_bus 83 = .ok (.ireturn, 1) := by decide +kernel
theorem dX4_bus_84 : decode cX4_bus 84 = .ok (.aload_n 3, 1) := by decide +kernel
theorem dX4_bus_85 : decode cX4_bus 85 = .ok (.getfield 134, 3) := by decide +kernel
theorem dX4_bus_88 : decode cX4_bus 88 = .ok (.ireturn, 1) := by decide +kernel
theorem dX4_bus_89 : decode cX4_bus 89 = .ok (.aload_n 3, 1) := by decide +kernel
theorem dX4_bus_90 : decode cX4_bus 90 = .ok (.getfield 137, 3) := by decide +kernel
theorem dX4_bus_93 : decode cX4_bus 93 = .ok (.ireturn, 1) := by decide +kernel
theorem dX4_bus_94 : decode cX4_bus 94 = .ok (.aload_n 3, 1) := by decide +kernel
theorem dX4_bus_95 : decode cX4_bus 95 = .ok (.getfield 140, 3) := by decide +kernel
theorem dX4_bus_98 : decode cX4_bus 98 = .ok (.ifCond .eq 7, 3) := by decide +kernel
theorem dX4_bus_101 : decode cX4_bus 101 = .ok (.iconst 1, 1) := by decide +kernel
theorem dX4_bus_102 : decode cX4_bus 102 = .ok (.goto 4, 3) := by decide +kernel
theorem dX4_bus_105 : decode cX4_bus 105 = .ok (.iconst 0, 1) := by decide +kernel
theorem dX4_bus_106 : decode cX4_bus 106 = .ok (.ireturn, 1) := by decide +kernel
theorem dX4_bus_107 : decode cX4_bus 107 = .ok (.aload_n 0, 1) := by decide +kernel
theorem dX4_bus_108 : decode cX4_bus 108 = .ok (.aload_n 0, 1) := by decide +kernel
theorem dX4_bus_109 : decode cX4_bus 109 = .ok (.getfield 19, 3) := by decide +kernel
theorem dX4_bus_112 : decode cX4_bus 112 = .ok (.invokevirtual 144, 3) := by decide +kernel
theorem dX4_bus_115 : decode cX4_bus 115 = .ok (.iload_n 1, 1) := by decide +kernel
theorem dX4_bus_116 : decode cX4_bus 116 = .ok (.invokevirtual 148, 3) := by decide +kernel
theorem dX4_bus_119 : decode cX4_bus 119 = .ok (.ireturn, 1) := by decide +kernel
theorem dX4_bus_120 : decode cX4_bus 120 = .ok (.aload_n 0, 1) := by decide +kernel
theorem dX4_bus_121 : decode cX4_bus 121 = .ok (.aload_n 0, 1) := by decide +kernel
theorem dX4_bus_122 : decode cX4_bus 122 = .ok (.getfield 19, 3) := by decide +kernel
theorem dX4_bus_125 : decode cX4_bus 125 = .ok (.invokevirtual 144, 3) := by decide +kernel
theorem dX4_bus_128 : decode cX4_bus 128 = .ok (.iload_n 1, 1) := by decide +kernel
theorem dX4_bus_129 : decode cX4_bus 129 = .ok (.invokevirtual 152, 3) := by decide +kernel
theorem dX4_bus_132 : decode cX4_bus 132 = .ok (.ireturn, 1) := by decide +kernel
theorem dX4_bus_133 : decode cX4_bus 133 = .ok (.aload_n 0, 1) := by decide +kernel
theorem dX4_bus_134 : decode cX4_bus 134 = .ok (.getfield 19, 3) := by decide +kernel
theorem dX4_bus_137 : decode cX4_bus 137 = .ok (.aload_n 3, 1) := by decide +kernel
theorem dX4_bus_138 : decode cX4_bus 138 = .ok (.invokevirtual 155, 3) := by decide +kernel
theorem dX4_bus_141 : decode cX4_bus 141 = .ok (.ireturn, 1) := by decide +kernel
theorem dX4_charger_0 : decode cX4_charger 0 = .ok (.aload_n 0, 1) := by decide +kernel
theorem dX4_charger_1 : decode cX4_charger 1 = .ok (.getfield 19, 3) := by decide +kernel
theorem dX4_charger_4 : decode cX4_charger 4 = .ok (.iload_n 1, 1) := by decide +kernel
theorem dX4_charger_5 : decode cX4_charger 5 = .ok (.invokevirtual 159, 3) := by decide +kernel
theorem dX4_charger_8 : decode cX4_charger 8 = .ok (.ifCond .ne 13, 3) := by decide +kernel
theorem dX4_charger_11 : decode cX4_charger 11 = .ok (.new 163, 3) := by decide +kernel
theorem dX4_charger_14 : decode cX4_charger 14 = .ok (.dup, 1) := by decide +kernel
theorem dX4_charger_15 : decode cX4_charger 15 = .ok (.ldc 165, 2) := by decide +kernel
theorem dX4_charger_17 : decode cX4_charger 17 = .ok (.invokespecial 167, 3) := by decide +kernel
theorem dX4_charger_20 : decode cX4_charger 20 = .ok (.athrow, 1) := by decide +kernel
theorem dX4_charger_21 : decode cX4_charger 21 = .ok (.iload_n 2, 1) := by decide +kernel
theorem dX4_charger_22 : decode cX4_charger 22 = .ok (.iconst 0, 1) := by decide +kernel
theorem dX4_charger_23 : decode cX4_charger 23 = .ok (.iconst 2, 1) := by decide +kernel
theorem dX4_charger_24 : decode cX4_charger 24 = .ok (.invokestatic 44, 3) := by decide +kernel
theorem dX4_charger_27 : decode cX4_charger 27 = .ok (.iload_n 2, 1) := by decide +kernel
theorem dX4_charger_28 : decode cX4_charger 28 = .ok (.lookupswitch 46 #[(0, 28), (1, 37)], 28) := by decide +kernel
theorem dX4_charger_56 : decode cX4_charger 56 = .ok (.aload_n 0, 1) := by decide +kernel
theorem dX4_charger_57 : decode cX4_charger 57 = .ok (.getfield 19, 3) := by decide +kernel
theorem dX4_charger_60 : decode cX4_charger 60 = .ok (.iload_n 1, 1) := by decide +kernel
theorem dX4_charger_61 : decode cX4_charger 61 = .ok (.invokevirtual 168, 3) := by decide +kernel
theorem dX4_charger_64 : decode cX4_charger 64 = .ok (.ireturn, 1) := by decide +kernel
theorem dX4_charger_65 : decode cX4_charger 65 = .ok (.aload_n 0, 1) := by decide +kernel
theorem dX4_charger_66 : decode cX4_charger 66 = .ok (.getfield 19, 3) := by decide +kernel
theorem dX4_charger_69 : decode cX4_charger 69 = .ok (.iload_n 1, 1) := by decide +kernel
theorem dX4_charger_70 : decode cX4_charger 70 = .ok (.invokevirtual 171, 3) := by decide +kernel
theorem dX4_charger_73 : decode cX4_charger 73 = .ok (.ireturn, 1) := by decide +kernel
theorem dX4_charger_74 : decode cX4_charger 74 = .ok (.aload_n 0, 1) := by decide +kernel
theorem dX4_charger_75 : decode cX4_charger 75 = .ok (.aload_n 0, 1) := by decide +kernel
theorem dX4_charger_76 : decode cX4_charger 76 = .ok (.getfield 19, 3) := by decide +kernel
theorem dX4_charger_79 : decode cX4_charger 79 = .ok (.invokevirtual 144, 3) := by decide +kernel
theorem dX4_charger_82 : decode cX4_charger 82 = .ok (.iload_n 1, 1) := by decide +kernel
theorem dX4_charger_83 : decode cX4_charger 83 = .ok (.invokevirtual 174, 3) := by decide +kernel
theorem dX4_charger_86 : decode cX4_charger 86 = .ok (.ireturn, 1) := by decide +kernel
theorem dX4_sign_0 : decode cX4_sign 0 = .ok (.aload_n 0, 1) := by decide +kernel
theorem dX4_sign_1 : decode cX4_sign 1 = .ok (.iload_n 1, 1) := by decide +kernel
theorem dX4_sign_2 : decode cX4_sign 2 = .ok (.invokevirtual 116, 3) := by decide +kernel
theorem dX4_sign_5 : decode cX4_sign 5 = .ok (.astore_n 3, 1) := by decide +kernel
theorem dX4_sign_6 : decode cX4_sign 6 = .ok (.iload_n 2, 1) := by decide +kernel
theorem dX4_sign_7 : decode cX4_sign 7 = .ok (.ifCond .ge 13, 3) := by decide +kernel
theorem dX4_sign_10 : decode cX4_sign 10 = .ok (.new 177, 3) := by decide +kernel
theorem dX4_sign_13 : decode cX4_sign 13 = .ok (.dup, 1) := by decide +kernel
theorem dX4_sign_14 : decode cX4_sign 14 = .ok (.ldc 179, 2) := by decide +kernel
theorem dX4_sign_16 : decode cX4_sign 16 = .ok (.invokespecial 181, 3) := by decide +kernel
theorem dX4_sign_19 : decode cX4_sign 19 = .ok (.athrow, 1) := by decide +kernel
theorem dX4_sign_20 : decode cX4_sign 20 = .ok (.iload_n 1, 1) := by decide +kernel
theorem dX4_sign_21 : decode cX4_sign 21 = .ok (.aload_n 3, 1) := by decide +kernel
theorem dX4_sign_22 : decode cX4_sign 22 = .ok (.invokestatic 182, 3) := by decide +kernel
theorem dX4_sign_25 : decode cX4_sign 25 = .ok (.astore 4, 2) := by decide +kernel
theorem dX4_sign_27 : decode cX4_sign 27 = .ok (.iload_n 2, 1) := by decide +kernel
theorem dX4_sign_28 : decode cX4_sign 28 = .ok (.aload 4, 2) := by decide +kernel
theorem dX4_sign_30 : decode cX4_sign 30 = .ok (.invokevirtual 186, 3) := by decide +kernel
theorem dX4_sign_33 : decode cX4_sign 33 = .ok (.if_icmp .lt 5, 3) := by decide +kernel
theorem dX4_sign_36 : decode cX4_sign 36 = .ok (.iconst (-1), 1) := by decide +kernel
theorem dX4_sign_37 : decode cX4_sign 37 = .ok (.ireturn, 1) := by decide +kernel
theorem dX4_sign_38 : decode cX4_sign 38 = .ok (.aload 4, 2) := by decide +kernel
theorem dX4_sign_40 : decode cX4_sign 40 = .ok (.iload_n 2, 1) := by decide +kernel
theorem dX4_sign_41 : decode cX4_sign 41 = .ok (.invokevirtual 191, 3) := by decide +kernel
theorem dX4_sign_44 : decode cX4_sign 44 = .ok (.ireturn, 1) := by decide +kernel
theorem dX4_setting_0 : decode cX4_setting 0 = .ok (.iload_n 1, 1) := by decide +kernel
theorem dX4_setting_1 : decode cX4_setting 1 = .ok (.iconst 0, 1) := by decide +kernel
theorem dX4_setting_2 : decode cX4_setting 2 = .ok (.iconst 5, 1) := by decide +kernel
theorem dX4_setting_3 : decode cX4_setting 3 = .ok (.invokestatic 44, 3) := by decide +kernel
theorem dX4_setting_6 : decode cX4_setting 6 = .ok (.aload_n 0, 1) := by decide +kernel
theorem dX4_setting_7 : decode cX4_setting 7 = .ok (.getfield 19, 3) := by decide +kernel
theorem dX4_setting_10 : decode cX4_setting 10 = .ok (.iload_n 1, 1) := by decide +kernel
theorem dX4_setting_11 : decode cX4_setting 11 = .ok (.invokevirtual 195, 3) := by decide +kernel
theorem dX4_setting_14 : decode cX4_setting 14 = .ok (.ireturn, 1) := by decide +kernel
theorem dX4_addBus_0 : decode cX4_addBus 0 = .ok (.iload_n 1, 1) := by decide +kernel
theorem dX4_addBus_1 : decode cX4_addBus 1 = .ok (.iload_n 2, 1) := by decide +kernel
theorem dX4_addBus_2 : decode cX4_addBus 2 = .ok (.iload_n 3, 1) := by decide +kernel
theorem dX4_addBus_3 : decode cX4_addBus 3 = .ok (.iload 4, 2) := by decide +kernel
theorem dX4_addBus_5 : decode cX4_addBus 5 = .ok (.iload 5, 2) := by decide +kernel
theorem dX4_addBus_7 : decode cX4_addBus 7 = .ok (.invokestatic 198, 3) := by decide +kernel
theorem dX4_addBus_10 : decode cX4_addBus 10 = .ok (.ifCond .ne 13, 3) := by decide +kernel
theorem dX4_addBus_13 : decode cX4_addBus 13 = .ok (.new 177, 3) := by decide +kernel
theorem dX4_addBus_16 : decode cX4_addBus 16 = .ok (.dup, 1) := by decide +kernel
theorem dX4_addBus_17 : decode cX4_addBus 17 = .ok (.ldc 202, 2) := by decide +kernel
theorem dX4_addBus_19 : decode cX4_addBus 19 = .ok (.invokespecial 181, 3) := by decide +kernel
theorem dX4_addBus_22 : decode cX4_addBus 22 = .ok (.athrow, 1) := by decide +kernel
theorem dX4_addBus_23 : decode cX4_addBus 23 = .ok (.aload_n 0, 1) := by decide +kernel
theorem dX4_addBus_24 : decode cX4_addBus 24 = .ok (.getfield 19, 3) := by decide +kernel
theorem dX4_addBus_27 : decode cX4_addBus 27 = .ok (.invokevirtual 204, 3) := by decide +kernel
theorem dX4_addBus_30 : decode cX4_addBus 30 = .ok (.ifCond .eq 13, 3) := by decide +kernel
theorem dX4_addBus_33 : decode cX4_addBus 33 = .ok (.new 52, 3) := by decide +kernel
theorem dX4_addBus_36 : decode cX4_addBus 36 = .ok (.dup, 1) := by decide +kernel
theorem dX4_addBus_37 : decode cX4_addBus 37 = .ok (.ldc 207, 2) := by decide +kernel
theorem dX4_addBus_39 : decode cX4_addBus 39 = .ok (.invokespecial 56, 3) := by decide +kernel
theorem dX4_addBus_42 : decode cX4_addBus 42 = .ok (.athrow, 1) := by decide +kernel
theorem dX4_addBus_43 : decode cX4_addBus 43 = .ok (.aload_n 0, 1) := by decide +kernel
theorem dX4_addBus_44 : decode cX4_addBus 44 = .ok (.getfield 26, 3) := by decide +kernel
theorem dX4_addBus_47 : decode cX4_addBus 47 = .ok (.aload_n 0, 1) := by decide +kernel
theorem dX4_addBus_48 : decode cX4_addBus 48 = .ok (.getfield 19, 3) := by decide +kernel
theorem dX4_addBus_51 : decode cX4_addBus 51 = .ok (.invokevirtual 209, 3) := by decide +kernel
theorem dX4_addBus_54 : decode cX4_addBus 54 = .ok (.aload_n 0, 1) := by decide +kernel
theorem dX4_addBus_55 : decode cX4_addBus 55 = .ok (.getfield 19, 3) := by decide +kernel
theorem dX4_addBus_58 : decode cX4_addBus 58 = .ok (.iload_n 1, 1) := by decide +kernel
theorem dX4_addBus_59 : decode cX4_addBus 59 = .ok (.iload_n 2, 1) := by decide +kernel
theorem dX4_addBus_60 : decode cX4_addBus 60 = .ok (.iload_n 3, 1) := by decide +kernel
theorem dX4_addBus_61 : decode cX4_addBus 61 = .ok (.iload 4, 2) := by decide +kernel
theorem dX4_addBus_63 : decode cX4_addBus 63 = .ok (.iload 5, 2) := by decide +kernel
theorem dX4_addBus_65 : decode cX4_addBus 65 = .ok (.invokevirtual 213, 3) := by decide +kernel
theorem dX4_addBus_68 : decode cX4_addBus 68 = .ok (.ireturn, 1) := by decide +kernel
theorem dX4_addCharger_0 : decode cX4_addCharger 0 = .ok (.iload_n 1, 1) := by decide +kernel
theorem dX4_addCharger_1 : decode cX4_addCharger 1 = .ok (.iconst 1, 1) := by decide +kernel
theorem dX4_addCharger_2 : decode cX4_addCharger 2 = .ok (.bipush 50, 2) := by decide +kernel
theorem dX4_addCharger_4 : decode cX4_addCharger 4 = .ok (.invokestatic 44, 3) := by decide +kernel
theorem dX4_addCharger_7 : decode cX4_addCharger 7 = .ok (.aload_n 0, 1) := by decide +kernel
theorem dX4_addCharger_8 : decode cX4_addCharger 8 = .ok (.invokevirtual 217, 3) := by decide +kernel
theorem dX4_addCharger_11 : decode cX4_addCharger 11 = .ok (.aload_n 0, 1) := by decide +kernel
theorem dX4_addCharger_12 : decode cX4_addCharger 12 = .ok (.getfield 26, 3) := by decide +kernel
theorem dX4_addCharger_15 : decode cX4_addCharger 15 = .ok (.aload_n 0, 1) := by decide +kernel
theorem dX4_addCharger_16 : decode cX4_addCharger 16 = .ok (.getfield 19, 3) := by decide +kernel
theorem dX4_addCharger_19 : decode cX4_addCharger 19 = .ok (.invokevirtual 209, 3) := by decide +kernel
theorem dX4_addCharger_22 : decode cX4_addCharger 22 = .ok (.aload_n 0, 1) := by decide +kernel
theorem dX4_addCharger_23 : decode cX4_addCharger 23 = .ok (.getfield 19, 3) := by decide +kernel
theorem dX4_addCharger_26 : decode cX4_addCharger 26 = .ok (.iload_n 1, 1) := by decide +kernel
theorem dX4_addCharger_27 : decode cX4_addCharger 27 = .ok (.invokevirtual 220, 3) := by decide +kernel
theorem dX4_addCharger_30 : decode cX4_addCharger 30 = .ok (.ireturn, 1) := by decide +kernel
theorem dX4_route_0 : decode cX4_route 0 = .ok (.aload_n 0, 1) := by decide +kernel
theorem dX4_route_1 : decode cX4_route 1 = .ok (.iload_n 1, 1) := by decide +kernel
theorem dX4_route_2 : decode cX4_route 2 = .ok (.invokevirtual 116, 3) := by decide +kernel
theorem dX4_route_5 : decode cX4_route 5 = .ok (.astore 5, 2) := by decide +kernel
theorem dX4_route_7 : decode cX4_route 7 = .ok (.iload_n 2, 1) := by decide +kernel
theorem dX4_route_8 : decode cX4_route 8 = .ok (.iload_n 3, 1) := by decide +kernel
theorem dX4_route_9 : decode cX4_route 9 = .ok (.iload 4, 2) := by decide +kernel
theorem dX4_route_11 : decode cX4_route 11 = .ok (.invokestatic 223, 3) := by decide +kernel
theorem dX4_route_14 : decode cX4_route 14 = .ok (.ifCond .ne 13, 3) := by decide +kernel
theorem dX4_route_17 : decode cX4_route 17 = .ok (.new 177, 3) := by decide +kernel
theorem dX4_route_20 : decode cX4_route 20 = .ok (.dup, 1) := by decide +kernel
theorem dX4_route_21 : decode cX4_route 21 = .ok (.ldc 227, 2) := by decide +kernel
theorem dX4_route_23 : decode cX4_route 23 = .ok (.invokespecial 181, 3) := by decide +kernel
theorem dX4_route_26 : decode cX4_route 26 = .ok (.athrow, 1) := by decide +kernel
theorem dX4_route_27 : decode cX4_route 27 = .ok (.aload 5, 2) := by decide +kernel
theorem dX4_route_29 : decode cX4_route 29 = .ok (.invokestatic 229, 3) := by decide +kernel
theorem dX4_route_32 : decode cX4_route 32 = .ok (.aload_n 0, 1) := by decide +kernel
theorem dX4_route_33 : decode cX4_route 33 = .ok (.getfield 26, 3) := by decide +kernel
theorem dX4_route_36 : decode cX4_route 36 = .ok (.aload_n 0, 1) := by decide +kernel
theorem dX4_route_37 : decode cX4_route 37 = .ok (.getfield 19, 3) := by decide +kernel
theorem dX4_route_40 : decode cX4_route 40 = .ok (.invokevirtual 209, 3) := by decide +kernel
theorem dX4_route_43 : decode cX4_route 43 = .ok (.aload 5, 2) := by decide +kernel
theorem dX4_route_45 : decode cX4_route 45 = .ok (.getfield 128, 3) := by decide +kernel
theorem dX4_route_48 : decode cX4_route 48 = .ok (.istore 6, 2) := by decide +kernel
theorem dX4_route_50 : decode cX4_route 50 = .ok (.aload 5, 2) := by decide +kernel
theorem dX4_route_52 : decode cX4_route 52 = .ok (.iload_n 2, 1) := by decide +kernel
theorem dX4_route_53 : decode cX4_route 53 = .ok (.iload_n 3, 1) := by decide +kernel
theorem dX4_route_54 : decode cX4_route 54 = .ok (.iload 4, 2) := by decide +kernel
theorem dX4_route_56 : decode cX4_route 56 = .ok (.invokevirtual 233, 3) := by decide +kernel
theorem dX4_route_59 : decode cX4_route 59 = .ok (.iload 6, 2) := by decide +kernel
theorem dX4_route_61 : decode cX4_route 61 = .ok (.ireturn, 1) := by decide +kernel
theorem dX4_battery_0 : decode cX4_battery 0 = .ok (.aload_n 0, 1) := by decide +kernel
theorem dX4_battery_1 : decode cX4_battery 1 = .ok (.iload_n 1, 1) := by decide +kernel
theorem dX4_battery_2 : decode cX4_battery 2 = .ok (.invokevirtual 116, 3) := by decide +kernel
theorem dX4_battery_5 : decode cX4_battery 5 = .ok (.astore_n 3, 1) := by decide +kernel
theorem dX4_battery_6 : decode cX4_battery 6 = .ok (.iload_n 2, 1) := by decide +kernel
theorem dX4_battery_7 : decode cX4_battery 7 = .ok (.bipush 10, 2) := by decide +kernel
theorem dX4_battery_9 : decode cX4_battery 9 = .ok (.sipush 400, 3) := by decide +kernel
theorem dX4_battery_12 : decode cX4_battery 12 = .ok (.invokestatic 44, 3) := by decide +kernel
theorem dX4_battery_15 : decode cX4_battery 15 = .ok (.aload_n 3, 1) := by decide +kernel
theorem dX4_battery_16 : decode cX4_battery 16 = .ok (.invokestatic 229, 3) := by decide +kernel
theorem dX4_battery_19 : decode cX4_battery 19 = .ok (.aload_n 0, 1) := by decide +kernel
theorem dX4_battery_20 : decode cX4_battery 20 = .ok (.getfield 26, 3) := by decide +kernel
theorem dX4_battery_23 : decode cX4_battery 23 = .ok (.aload_n 0, 1) := by decide +kernel
theorem dX4_battery_24 : decode cX4_battery 24 = .ok (.getfield 19, 3) := by decide +kernel
theorem dX4_battery_27 : decode cX4_battery 27 = .ok (.invokevirtual 209, 3) := by decide +kernel
theorem dX4_battery_30 : decode cX4_battery 30 = .ok (.aload_n 3, 1) := by decide +kernel
theorem dX4_battery_31 : decode cX4_battery 31 = .ok (.getfield 120, 3) := by decide +kernel
theorem dX4_battery_34 : decode cX4_battery 34 = .ok (.istore 4, 2) := by decide +kernel
theorem dX4_battery_36 : decode cX4_battery 36 = .ok (.aload_n 3, 1) := by decide +kernel
theorem dX4_battery_37 : decode cX4_battery 37 = .ok (.iload_n 2, 1) := by decide +kernel
theorem dX4_battery_38 : decode cX4_battery 38 = .ok (.invokevirtual 236, 3) := by decide +kernel
theorem dX4_battery_41 : decode cX4_battery 41 = .ok (.iload 4, 2) := by decide +kernel
theorem dX4_battery_43 : decode cX4_battery 43 = .ok (.ireturn, 1) := by decide +kernel
theorem dX4_run_0 : decode cX4_run 0 = .ok (.iload_n 1, 1) := by decide +kernel
theorem dX4_run_1 : decode cX4_run 1 = .ok (.iconst 1, 1) := by decide +kernel
theorem dX4_run_2 : decode cX4_run 2 = .ok (.bipush 48, 2) := by decide +kernel
theorem dX4_run_4 : decode cX4_run 4 = .ok (.invokestatic 44, 3) := by decide +kernel
theorem dX4_run_7 : decode cX4_run 7 = .ok (.aload_n 0, 1) := by decide +kernel
theorem dX4_run_8 : decode cX4_run 8 = .ok (.getfield 26, 3) := by decide +kernel
theorem dX4_run_11 : decode cX4_run 11 = .ok (.aload_n 0, 1) := by decide +kernel
theorem dX4_run_12 : decode cX4_run 12 = .ok (.getfield 19, 3) := by decide +kernel
theorem dX4_run_15 : decode cX4_run 15 = .ok (.invokevirtual 209, 3) := by decide +kernel
theorem dX4_run_18 : decode cX4_run 18 = .ok (.aload_n 0, 1) := by decide +kernel
theorem dX4_run_19 : decode cX4_run 19 = .ok (.getfield 19, 3) := by decide +kernel
theorem dX4_run_22 : decode cX4_run 22 = .ok (.getfield 95, 3) := by decide +kernel
theorem dX4_run_25 : decode cX4_run 25 = .ok (.istore_n 2, 1) := by decide +kernel
theorem dX4_run_26 : decode cX4_run 26 = .ok (.aload_n 0, 1) := by decide +kernel
theorem dX4_run_27 : decode cX4_run 27 = .ok (.getfield 19, 3) := by decide +kernel
theorem dX4_run_30 : decode cX4_run 30 = .ok (.iload_n 1, 1) := by decide +kernel
theorem dX4_run_31 : decode cX4_run 31 = .ok (.invokevirtual 240, 3) := by decide +kernel
theorem dX4_run_34 : decode cX4_run 34 = .ok (.aload_n 0, 1) := by decide +kernel
theorem dX4_run_35 : decode cX4_run 35 = .ok (.getfield 19, 3) := by decide +kernel
theorem dX4_run_38 : decode cX4_run 38 = .ok (.getfield 95, 3) := by decide +kernel
theorem dX4_run_41 : decode cX4_run 41 = .ok (.iload_n 2, 1) := by decide +kernel
theorem dX4_run_42 : decode cX4_run 42 = .ok (.isub, 1) := by decide +kernel
theorem dX4_run_43 : decode cX4_run 43 = .ok (.ireturn, 1) := by decide +kernel
theorem dX4_set_0 : decode cX4_set 0 = .ok (.iload_n 1, 1) := by decide +kernel
theorem dX4_set_1 : decode cX4_set 1 = .ok (.iload_n 2, 1) := by decide +kernel
theorem dX4_set_2 : decode cX4_set 2 = .ok (.invokestatic 243, 3) := by decide +kernel
theorem dX4_set_5 : decode cX4_set 5 = .ok (.ifCond .ne 13, 3) := by decide +kernel
theorem dX4_set_8 : decode cX4_set 8 = .ok (.new 177, 3) := by decide +kernel
theorem dX4_set_11 : decode cX4_set 11 = .ok (.dup, 1) := by decide +kernel
theorem dX4_set_12 : decode cX4_set 12 = .ok (.ldc 247, 2) := by decide +kernel
theorem dX4_set_14 : decode cX4_set 14 = .ok (.invokespecial 181, 3) := by decide +kernel
theorem dX4_set_17 : decode cX4_set 17 = .ok (.athrow, 1) := by decide +kernel
theorem dX4_set_18 : decode cX4_set 18 = .ok (.aload_n 0, 1) := by decide +kernel
theorem dX4_set_19 : decode cX4_set 19 = .ok (.getfield 26, 3) := by decide +kernel
theorem dX4_set_22 : decode cX4_set 22 = .ok (.aload_n 0, 1) := by decide +kernel
theorem dX4_set_23 : decode cX4_set 23 = .ok (.getfield 19, 3) := by decide +kernel
theorem dX4_set_26 : decode cX4_set 26 = .ok (.invokevirtual 209, 3) := by decide +kernel
theorem dX4_set_29 : decode cX4_set 29 = .ok (.aload_n 0, 1) := by decide +kernel
theorem dX4_set_30 : decode cX4_set 30 = .ok (.getfield 19, 3) := by decide +kernel
theorem dX4_set_33 : decode cX4_set 33 = .ok (.iload_n 1, 1) := by decide +kernel
theorem dX4_set_34 : decode cX4_set 34 = .ok (.invokevirtual 195, 3) := by decide +kernel
theorem dX4_set_37 : decode cX4_set 37 = .ok (.istore_n 3, 1) := by decide +kernel
theorem dX4_set_38 : decode cX4_set 38 = .ok (.aload_n 0, 1) := by decide +kernel
theorem dX4_set_39 : decode cX4_set 39 = .ok (.getfield 19, 3) := by decide +kernel
theorem dX4_set_42 : decode cX4_set 42 = .ok (.iload_n 1, 1) := by decide +kernel
theorem dX4_set_43 : decode cX4_set 43 = .ok (.iload_n 2, 1) := by decide +kernel
theorem dX4_set_44 : decode cX4_set 44 = .ok (.invokevirtual 249, 3) := by decide +kernel
theorem dX4_set_47 : decode cX4_set 47 = .ok (.iload_n 3, 1) := by decide +kernel
theorem dX4_set_48 : decode cX4_set 48 = .ok (.ireturn, 1) := by decide +kernel
theorem dX4_undo_0 : decode cX4_undo 0 = .ok (.aload_n 0, 1) := by decide +kernel
theorem dX4_undo_1 : decode cX4_undo 1 = .ok (.getfield 26, 3) := by decide +kernel
theorem dX4_undo_4 : decode cX4_undo 4 = .ok (.invokevirtual 253, 3) := by decide +kernel
theorem dX4_undo_7 : decode cX4_undo 7 = .ok (.ifCond .eq 14, 3) := by decide +kernel
theorem dX4_undo_10 : decode cX4_undo 10 = .ok (.new 52, 3) := by decide +kernel
theorem dX4_undo_13 : decode cX4_undo 13 = .ok (.dup, 1) := by decide +kernel
theorem dX4_undo_14 : decode cX4_undo 14 = .ok (.ldc_w 256, 3) := by decide +kernel
theorem dX4_undo_17 : decode cX4_undo 17 = .ok (.invokespecial 56, 3) := by decide +kernel
theorem dX4_undo_20 : decode cX4_undo 20 = .ok (.athrow, 1) := by decide +kernel
theorem dX4_undo_21 : decode cX4_undo 21 = .ok (.aload_n 0, 1) := by decide +kernel
theorem dX4_undo_22 : decode cX4_undo 22 = .ok (.getfield 26, 3) := by decide +kernel
theorem dX4_undo_25 : decode cX4_undo 25 = .ok (.aload_n 0, 1) := by decide +kernel
theorem dX4_undo_26 : decode cX4_undo 26 = .ok (.getfield 19, 3) := by decide +kernel
theorem dX4_undo_29 : decode cX4_undo 29 = .ok (.invokevirtual 258, 3) := by decide +kernel
theorem dX4_undo_32 : decode cX4_undo 32 = .ok (.ireturn, 1) := by decide +kernel
theorem dX4_coming_0 : decode cX4_coming 0 = .ok (.iload_n 1, 1) := by decide +kernel
theorem dX4_coming_1 : decode cX4_coming 1 = .ok (.iconst 1, 1) := by decide +kernel
theorem dX4_coming_2 : decode cX4_coming 2 = .ok (.bipush 72, 2) := by decide +kernel
theorem dX4_coming_4 : decode cX4_coming 4 = .ok (.invokestatic 44, 3) := by decide +kernel
theorem dX4_coming_7 : decode cX4_coming 7 = .ok (.iload_n 2, 1) := by decide +kernel
theorem dX4_coming_8 : decode cX4_coming 8 = .ok (.iconst 0, 1) := by decide +kernel
theorem dX4_coming_9 : decode cX4_coming 9 = .ok (.iconst 3, 1) := by decide +kernel
theorem dX4_coming_10 : decode cX4_coming 10 = .ok (.invokestatic 44, 3) := by decide +kernel
theorem dX4_coming_13 : decode cX4_coming 13 = .ok (.aload_n 0, 1) := by decide +kernel
theorem dX4_coming_14 : decode cX4_coming 14 = .ok (.getfield 38, 3) := by decide +kernel
theorem dX4_coming_17 : decode cX4_coming 17 = .ok (.aload_n 0, 1) := by decide +kernel
theorem dX4_coming_18 : decode cX4_coming 18 = .ok (.getfield 19, 3) := by decide +kernel
theorem dX4_coming_21 : decode cX4_coming 21 = .ok (.invokevirtual 261, 3) := by decide +kernel
theorem dX4_coming_24 : decode cX4_coming 24 = .ok (.aload_n 0, 1) := by decide +kernel
theorem dX4_coming_25 : decode cX4_coming 25 = .ok (.getfield 38, 3) := by decide +kernel
theorem dX4_coming_28 : decode cX4_coming 28 = .ok (.iload_n 1, 1) := by decide +kernel
theorem dX4_coming_29 : decode cX4_coming 29 = .ok (.invokevirtual 240, 3) := by decide +kernel
theorem dX4_coming_32 : decode cX4_coming 32 = .ok (.iload_n 2, 1) := by decide +kernel
theorem dX4_coming_33 : decode cX4_coming 33 = .ok (.tableswitch 75 0 2 #[27, 43, 59], 27) := by decide +kernel
theorem dX4_coming_60 : decode cX4_coming 60 = .ok (.aload_n 0, 1) := by decide +kernel
theorem dX4_coming_61 : decode cX4_coming 61 = .ok (.getfield 38, 3) := by decide +kernel
theorem dX4_coming_64 : decode cX4_coming 64 = .ok (.getfield 92, 3) := by decide +kernel
theorem dX4_coming_67 : decode cX4_coming 67 = .ok (.aload_n 0, 1) := by decide +kernel
theorem dX4_coming_68 : decode cX4_coming 68 = .ok (.getfield 19, 3) := by decide +kernel
theorem dX4_coming_71 : decode cX4_coming 71 = .ok (.getfield 92, 3) := by decide +kernel
theorem dX4_coming_74 : decode cX4_coming 74 = .ok (.isub, 1) := by decide +kernel
theorem dX4_coming_75 : decode cX4_coming 75 = .ok (.ireturn, 1) := by decide +kernel
theorem dX4_coming_76 : decode cX4_coming 76 = .ok (.aload_n 0, 1) := by decide +kernel
theorem dX4_coming_77 : decode cX4_coming 77 = .ok (.getfield 38, 3) := by decide +kernel
theorem dX4_coming_80 : decode cX4_coming 80 = .ok (.getfield 95, 3) := by decide +kernel
theorem dX4_coming_83 : decode cX4_coming 83 = .ok (.aload_n 0, 1) := by decide +kernel
theorem dX4_coming_84 : decode cX4_coming 84 = .ok (.getfield 19, 3) := by decide +kernel
theorem dX4_coming_87 : decode cX4_coming 87 = .ok (.getfield 95, 3) := by decide +kernel
theorem dX4_coming_90 : decode cX4_coming 90 = .ok (.isub, 1) := by decide +kernel
theorem dX4_coming_91 : decode cX4_coming 91 = .ok (.ireturn, 1) := by decide +kernel
theorem dX4_coming_92 : decode cX4_coming 92 = .ok (.aload_n 0, 1) := by decide +kernel
theorem dX4_coming_93 : decode cX4_coming 93 = .ok (.getfield 38, 3) := by decide +kernel
theorem dX4_coming_96 : decode cX4_coming 96 = .ok (.getfield 98, 3) := by decide +kernel
theorem dX4_coming_99 : decode cX4_coming 99 = .ok (.aload_n 0, 1) := by decide +kernel
theorem dX4_coming_100 : decode cX4_coming 100 = .ok (.getfield 19, 3) := by decide +kernel
theorem dX4_coming_103 : decode cX4_coming 103 = .ok (.getfield 98, 3) := by decide +kernel
theorem dX4_coming_106 : decode cX4_coming 106 = .ok (.isub, 1) := by decide +kernel
theorem dX4_coming_107 : decode cX4_coming 107 = .ok (.ireturn, 1) := by decide +kernel
theorem dX4_coming_108 : decode cX4_coming 108 = .ok (.aload_n 0, 1) := by decide +kernel
theorem dX4_coming_109 : decode cX4_coming 109 = .ok (.getfield 38, 3) := by decide +kernel
theorem dX4_coming_112 : decode cX4_coming 112 = .ok (.getfield 101, 3) := by decide +kernel
theorem dX4_coming_115 : decode cX4_coming 115 = .ok (.aload_n 0, 1) := by decide +kernel
theorem dX4_coming_116 : decode cX4_coming 116 = .ok (.getfield 19, 3) := by decide +kernel
theorem dX4_coming_119 : decode cX4_coming 119 = .ok (.getfield 101, 3) := by decide +kernel
theorem dX4_coming_122 : decode cX4_coming 122 = .ok (.isub, 1) := by decide +kernel
theorem dX4_coming_123 : decode cX4_coming 123 = .ok (.ireturn, 1) := by decide +kernel
theorem dX4_firstMissed_0 : decode cX4_firstMissed 0 = .ok (.aload_n 0, 1) := by decide +kernel
theorem dX4_firstMissed_1 : decode cX4_firstMissed 1 = .ok (.iload_n 1, 1) := by decide +kernel
theorem dX4_firstMissed_2 : decode cX4_firstMissed 2 = .ok (.invokevirtual 116, 3) := by decide +kernel
theorem dX4_firstMissed_5 : decode cX4_firstMissed 5 = .ok (.pop, 1) := by decide +kernel
theorem dX4_firstMissed_6 : decode cX4_firstMissed 6 = .ok (.aload_n 0, 1) := by decide +kernel
theorem dX4_firstMissed_7 : decode cX4_firstMissed 7 = .ok (.getfield 38, 3) := by decide +kernel
theorem dX4_firstMissed_10 : decode cX4_firstMissed 10 = .ok (.aload_n 0, 1) := by decide +kernel
theorem dX4_firstMissed_11 : decode cX4_firstMissed 11 = .ok (.getfield 19, 3) := by decide +kernel
theorem dX4_firstMissed_14 : decode cX4_firstMissed 14 = .ok (.invokevirtual 261, 3) := by decide +kernel
theorem dX4_firstMissed_17 : decode cX4_firstMissed 17 = .ok (.iconst 0, 1) := by decide +kernel
theorem dX4_firstMissed_18 : decode cX4_firstMissed 18 = .ok (.istore_n 2, 1) := by decide +kernel
theorem dX4_firstMissed_19 : decode cX4_firstMissed 19 = .ok (.iload_n 2, 1) := by decide +kernel
theorem dX4_firstMissed_20 : decode cX4_firstMissed 20 = .ok (.bipush 72, 2) := by decide +kernel
theorem dX4_firstMissed_22 : decode cX4_firstMissed 22 = .ok (.if_icmp .ge 36, 3) := by decide +kernel
theorem dX4_firstMissed_25 : decode cX4_firstMissed 25 = .ok (.aload_n 0, 1) := by decide +kernel
theorem dX4_firstMissed_26 : decode cX4_firstMissed 26 = .ok (.getfield 38, 3) := by decide +kernel
theorem dX4_firstMissed_29 : decode cX4_firstMissed 29 = .ok (.iload_n 1, 1) := by decide +kernel
theorem dX4_firstMissed_30 : decode cX4_firstMissed 30 = .ok (.invokevirtual 264, 3) := by decide +kernel
theorem dX4_firstMissed_33 : decode cX4_firstMissed 33 = .ok (.ifCond .eq 11, 3) := by decide +kernel
theorem dX4_firstMissed_36 : decode cX4_firstMissed 36 = .ok (.aload_n 0, 1) := by decide +kernel
theorem dX4_firstMissed_37 : decode cX4_firstMissed 37 = .ok (.getfield 38, 3) := by decide +kernel
theorem dX4_firstMissed_40 : decode cX4_firstMissed 40 = .ok (.getfield 89, 3) := by decide +kernel
theorem dX4_firstMissed_43 : decode cX4_firstMissed 43 = .ok (.ireturn, 1) := by decide +kernel
theorem dX4_firstMissed_44 : decode cX4_firstMissed 44 = .ok (.aload_n 0, 1) := by decide +kernel
theorem dX4_firstMissed_45 : decode cX4_firstMissed 45 = .ok (.getfield 38, 3) := by decide +kernel
theorem dX4_firstMissed_48 : decode cX4_firstMissed 48 = .ok (.iconst 1, 1) := by decide +kernel
theorem dX4_firstMissed_49 : decode cX4_firstMissed 49 = .ok (.invokevirtual 240, 3) := by decide +kernel
theorem dX4_firstMissed_52 : decode cX4_firstMissed 52 = .ok (.iinc 2 1, 3) := by decide +kernel
theorem dX4_firstMissed_55 : decode cX4_firstMissed 55 = .ok (.goto (-36), 3) := by decide +kernel
theorem dX4_firstMissed_58 : decode cX4_firstMissed 58 = .ok (.iconst (-1), 1) := by decide +kernel
theorem dX4_firstMissed_59 : decode cX4_firstMissed 59 = .ok (.ireturn, 1) := by decide +kernel
theorem dX4_leastLimit_0 : decode cX4_leastLimit 0 = .ok (.iload_n 1, 1) := by decide +kernel
theorem dX4_leastLimit_1 : decode cX4_leastLimit 1 = .ok (.iconst 1, 1) := by decide +kernel
theorem dX4_leastLimit_2 : decode cX4_leastLimit 2 = .ok (.bipush 72, 2) := by decide +kernel
theorem dX4_leastLimit_4 : decode cX4_leastLimit 4 = .ok (.invokestatic 44, 3) := by decide +kernel
theorem dX4_leastLimit_7 : decode cX4_leastLimit 7 = .ok (.getstatic 267, 3) := by decide +kernel
theorem dX4_leastLimit_10 : decode cX4_leastLimit 10 = .ok (.iconst 0, 1) := by decide +kernel
theorem dX4_leastLimit_11 : decode cX4_leastLimit 11 = .ok (.iaload, 1) := by decide +kernel
theorem dX4_leastLimit_12 : decode cX4_leastLimit 12 = .ok (.istore_n 2, 1) := by decide +kernel
theorem dX4_leastLimit_13 : decode cX4_leastLimit 13 = .ok (.iload_n 2, 1) := by decide +kernel
theorem dX4_leastLimit_14 : decode cX4_leastLimit 14 = .ok (.getstatic 271, 3) := by decide +kernel
theorem dX4_leastLimit_17 : decode cX4_leastLimit 17 = .ok (.iconst 0, 1) := by decide +kernel
theorem dX4_leastLimit_18 : decode cX4_leastLimit 18 = .ok (.iaload, 1) := by decide +kernel
theorem dX4_leastLimit_19 : decode cX4_leastLimit 19 = .ok (.if_icmp .gt 20, 3) := by decide +kernel
theorem dX4_leastLimit_22 : decode cX4_leastLimit 22 = .ok (.aload_n 0, 1) := by decide +kernel
theorem dX4_leastLimit_23 : decode cX4_leastLimit 23 = .ok (.iload_n 2, 1) := by decide +kernel
theorem dX4_leastLimit_24 : decode cX4_leastLimit 24 = .ok (.iload_n 1, 1) := by decide +kernel
theorem dX4_leastLimit_25 : decode cX4_leastLimit 25 = .ok (.invokevirtual 274, 3) := by decide +kernel
theorem dX4_leastLimit_28 : decode cX4_leastLimit 28 = .ok (.ifCond .eq 5, 3) := by decide +kernel
theorem dX4_leastLimit_31 : decode cX4_leastLimit 31 = .ok (.iload_n 2, 1) := by decide +kernel
theorem dX4_leastLimit_32 : decode cX4_leastLimit 32 = .ok (.ireturn, 1) := by decide +kernel
theorem dX4_leastLimit_33 : decode cX4_leastLimit 33 = .ok (.iinc 2 10, 3) := by decide +kernel
theorem dX4_leastLimit_36 : decode cX4_leastLimit 36 = .ok (.goto (-23), 3) := by decide +kernel
theorem dX4_leastLimit_39 : decode cX4_leastLimit 39 = .ok (.iconst (-1), 1) := by decide +kernel
theorem dX4_leastLimit_40 : decode cX4_leastLimit 40 = .ok (.ireturn, 1) := by decide +kernel
theorem dX4_bestNight_0 : decode cX4_bestNight 0 = .ok (.iload_n 1, 1) := by decide +kernel
theorem dX4_bestNight_1 : decode cX4_bestNight 1 = .ok (.iconst 1, 1) := by decide +kernel
theorem dX4_bestNight_2 : decode cX4_bestNight 2 = .ok (.bipush 72, 2) := by decide +kernel
theorem dX4_bestNight_4 : decode cX4_bestNight 4 = .ok (.invokestatic 44, 3) := by decide +kernel
theorem dX4_bestNight_7 : decode cX4_bestNight 7 = .ok (.iconst 0, 1) := by decide +kernel
theorem dX4_bestNight_8 : decode cX4_bestNight 8 = .ok (.istore_n 2, 1) := by decide +kernel
theorem dX4_bestNight_9 : decode cX4_bestNight 9 = .ok (.aload_n 0, 1) := by decide +kernel
theorem dX4_bestNight_10 : decode cX4_bestNight 10 = .ok (.iconst 0, 1) := by decide +kernel
theorem dX4_bestNight_11 : decode cX4_bestNight 11 = .ok (.iload_n 1, 1) := by decide +kernel
theorem dX4_bestNight_12 : decode cX4_bestNight 12 = .ok (.invokevirtual 277, 3) := by decide +kernel
theorem dX4_bestNight_15 : decode cX4_bestNight 15 = .ok (.istore_n 3, 1) := by decide +kernel
theorem dX4_bestNight_16 : decode cX4_bestNight 16 = .ok (.iconst 1, 1) := by decide +kernel
theorem dX4_bestNight_17 : decode cX4_bestNight 17 = .ok (.istore 4, 2) := by decide +kernel
theorem dX4_bestNight_19 : decode cX4_bestNight 19 = .ok (.iload 4, 2) := by decide +kernel
theorem dX4_bestNight_21 : decode cX4_bestNight 21 = .ok (.bipush 24, 2) := by decide +kernel
theorem dX4_bestNight_23 : decode cX4_bestNight 23 = .ok (.if_icmp .ge 30, 3) := by decide +kernel
theorem dX4_bestNight_26 : decode cX4_bestNight 26 = .ok (.aload_n 0, 1) := by decide +kernel
theorem dX4_bestNight_27 : decode cX4_bestNight 27 = .ok (.iload 4, 2) := by decide +kernel
theorem dX4_bestNight_29 : decode cX4_bestNight 29 = .ok (.iload_n 1, 1) := by decide +kernel
theorem dX4_bestNight_30 : decode cX4_bestNight 30 = .ok (.invokevirtual 277, 3) := by decide +kernel
theorem dX4_bestNight_33 : decode cX4_bestNight 33 = .ok (.istore 5, 2) := by decide +kernel
theorem dX4_bestNight_35 : decode cX4_bestNight 35 = .ok (.iload 5, 2) := by decide +kernel
theorem dX4_bestNight_37 : decode cX4_bestNight 37 = .ok (.iload_n 3, 1) := by decide +kernel
theorem dX4_bestNight_38 : decode cX4_bestNight 38 = .ok (.if_icmp .ge 9, 3) := by decide +kernel
theorem dX4_bestNight_41 : decode cX4_bestNight 41 = .ok (.iload 4, 2) := by decide +kernel
theorem dX4_bestNight_43 : decode cX4_bestNight 43 = .ok (.istore_n 2, 1) := by decide +kernel
theorem dX4_bestNight_44 : decode cX4_bestNight 44 = .ok (.iload 5, 2) := by decide +kernel
theorem dX4_bestNight_46 : decode cX4_bestNight 46 = .ok (.istore_n 3, 1) := by decide +kernel
theorem dX4_bestNight_47 : decode cX4_bestNight 47 = .ok (.iinc 4 1, 3) := by decide +kernel
theorem dX4_bestNight_50 : decode cX4_bestNight 50 = .ok (.goto (-31), 3) := by decide +kernel
theorem dX4_bestNight_53 : decode cX4_bestNight 53 = .ok (.iload_n 2, 1) := by decide +kernel
theorem dX4_bestNight_54 : decode cX4_bestNight 54 = .ok (.ireturn, 1) := by decide +kernel
theorem dX4_ifPlugged_0 : decode cX4_ifPlugged 0 = .ok (.iload_n 1, 1) := by decide +kernel
theorem dX4_ifPlugged_1 : decode cX4_ifPlugged 1 = .ok (.iconst 1, 1) := by decide +kernel
theorem dX4_ifPlugged_2 : decode cX4_ifPlugged 2 = .ok (.bipush 50, 2) := by decide +kernel
theorem dX4_ifPlugged_4 : decode cX4_ifPlugged 4 = .ok (.invokestatic 44, 3) := by decide +kernel
theorem dX4_ifPlugged_7 : decode cX4_ifPlugged 7 = .ok (.iload_n 2, 1) := by decide +kernel
theorem dX4_ifPlugged_8 : decode cX4_ifPlugged 8 = .ok (.iconst 1, 1) := by decide +kernel
theorem dX4_ifPlugged_9 : decode cX4_ifPlugged 9 = .ok (.bipush 72, 2) := by decide +kernel
theorem dX4_ifPlugged_11 : decode cX4_ifPlugged 11 = .ok (.invokestatic 44, 3) := by decide +kernel
theorem dX4_ifPlugged_14 : decode cX4_ifPlugged 14 = .ok (.aload_n 0, 1) := by decide +kernel
theorem dX4_ifPlugged_15 : decode cX4_ifPlugged 15 = .ok (.invokevirtual 217, 3) := by decide +kernel
theorem dX4_ifPlugged_18 : decode cX4_ifPlugged 18 = .ok (.aload_n 0, 1) := by decide +kernel
theorem dX4_ifPlugged_19 : decode cX4_ifPlugged 19 = .ok (.getfield 38, 3) := by decide +kernel
theorem dX4_ifPlugged_22 : decode cX4_ifPlugged 22 = .ok (.aload_n 0, 1) := by decide +kernel
theorem dX4_ifPlugged_23 : decode cX4_ifPlugged 23 = .ok (.getfield 19, 3) := by decide +kernel
theorem dX4_ifPlugged_26 : decode cX4_ifPlugged 26 = .ok (.invokevirtual 261, 3) := by decide +kernel
theorem dX4_ifPlugged_29 : decode cX4_ifPlugged 29 = .ok (.aload_n 0, 1) := by decide +kernel
theorem dX4_ifPlugged_30 : decode cX4_ifPlugged 30 = .ok (.getfield 38, 3) := by decide +kernel
theorem dX4_ifPlugged_33 : decode cX4_ifPlugged 33 = .ok (.iload_n 1, 1) := by decide +kernel
theorem dX4_ifPlugged_34 : decode cX4_ifPlugged 34 = .ok (.invokevirtual 220, 3) := by decide +kernel
theorem dX4_ifPlugged_37 : decode cX4_ifPlugged 37 = .ok (.pop, 1) := by decide +kernel
theorem dX4_ifPlugged_38 : decode cX4_ifPlugged 38 = .ok (.aload_n 0, 1) := by decide +kernel
theorem dX4_ifPlugged_39 : decode cX4_ifPlugged 39 = .ok (.getfield 38, 3) := by decide +kernel
theorem dX4_ifPlugged_42 : decode cX4_ifPlugged 42 = .ok (.iload_n 2, 1) := by decide +kernel
theorem dX4_ifPlugged_43 : decode cX4_ifPlugged 43 = .ok (.invokevirtual 240, 3) := by decide +kernel
theorem dX4_ifPlugged_46 : decode cX4_ifPlugged 46 = .ok (.aload_n 0, 1) := by decide +kernel
theorem dX4_ifPlugged_47 : decode cX4_ifPlugged 47 = .ok (.getfield 38, 3) := by decide +kernel
theorem dX4_ifPlugged_50 : decode cX4_ifPlugged 50 = .ok (.getfield 98, 3) := by decide +kernel
theorem dX4_ifPlugged_53 : decode cX4_ifPlugged 53 = .ok (.aload_n 0, 1) := by decide +kernel
theorem dX4_ifPlugged_54 : decode cX4_ifPlugged 54 = .ok (.getfield 19, 3) := by decide +kernel
theorem dX4_ifPlugged_57 : decode cX4_ifPlugged 57 = .ok (.getfield 98, 3) := by decide +kernel
theorem dX4_ifPlugged_60 : decode cX4_ifPlugged 60 = .ok (.isub, 1) := by decide +kernel
theorem dX4_ifPlugged_61 : decode cX4_ifPlugged 61 = .ok (.ireturn, 1) := by decide +kernel
theorem dX4_runScript_0 : decode cX4_runScript 0 = .ok (.iload_n 1, 1) := by decide +kernel
theorem dX4_runScript_1 : decode cX4_runScript 1 = .ok (.iconst 1, 1) := by decide +kernel
theorem dX4_runScript_2 : decode cX4_runScript 2 = .ok (.iconst 3, 1) := by decide +kernel
theorem dX4_runScript_3 : decode cX4_runScript 3 = .ok (.invokestatic 44, 3) := by decide +kernel
theorem dX4_runScript_6 : decode cX4_runScript 6 = .ok (.lload_n 2, 1) := by decide +kernel
theorem dX4_runScript_7 : decode cX4_runScript 7 = .ok (.lconst 0, 1) := by decide +kernel
theorem dX4_runScript_8 : decode cX4_runScript 8 = .ok (.lcmp, 1) := by decide +kernel
theorem dX4_runScript_9 : decode cX4_runScript 9 = .ok (.ifCond .lt 13, 3) := by decide +kernel
theorem dX4_runScript_12 : decode cX4_runScript 12 = .ok (.lload_n 2, 1) := by decide +kernel
theorem dX4_runScript_13 : decode cX4_runScript 13 = .ok (.iload_n 1, 1) := by decide +kernel
theorem dX4_runScript_14 : decode cX4_runScript 14 = .ok (.invokestatic 281, 3) := by decide +kernel
theorem dX4_runScript_17 : decode cX4_runScript 17 = .ok (.lconst 0, 1) := by decide +kernel
theorem dX4_runScript_18 : decode cX4_runScript 18 = .ok (.lcmp, 1) := by decide +kernel
theorem dX4_runScript_19 : decode cX4_runScript 19 = .ok (.ifCond .eq 14, 3) := by decide +kernel
theorem dX4_runScript_22 : decode cX4_runScript 22 = .ok (.new 177, 3) := by decide +kernel
theorem dX4_runScript_25 : decode cX4_runScript 25 = .ok (.dup, 1) := by decide +kernel
theorem dX4_runScript_26 : decode cX4_runScript 26 = .ok (.ldc_w 285, 3) := by decide +kernel
theorem dX4_runScript_29 : decode cX4_runScript 29 = .ok (.invokespecial 181, 3) := by decide +kernel
theorem dX4_runScript_32 : decode cX4_runScript 32 = .ok (.athrow, 1) := by decide +kernel
theorem dX4_runScript_33 : decode cX4_runScript 33 = .ok (.aload_n 0, 1) := by decide +kernel
theorem dX4_runScript_34 : decode cX4_runScript 34 = .ok (.getfield 38, 3) := by decide +kernel
theorem dX4_runScript_37 : decode cX4_runScript 37 = .ok (.aload_n 0, 1) := by decide +kernel
theorem dX4_runScript_38 : decode cX4_runScript 38 = .ok (.getfield 19, 3) := by decide +kernel
theorem dX4_runScript_41 : decode cX4_runScript 41 = .ok (.invokevirtual 261, 3) := by decide +kernel
theorem dX4_runScript_44 : decode cX4_runScript 44 = .ok (.iconst 0, 1) := by decide +kernel
theorem dX4_runScript_45 : decode cX4_runScript 45 = .ok (.istore 4, 2) := by decide +kernel
theorem dX4_runScript_47 : decode cX4_runScript 47 = .ok (.iload 4, 2) := by decide +kernel
theorem dX4_runScript_49 : decode cX4_runScript 49 = .ok (.iload_n 1, 1) := by decide +kernel
theorem dX4_runScript_50 : decode cX4_runScript 50 = .ok (.if_icmp .ge 38, 3) := by decide +kernel
theorem dX4_runScript_53 : decode cX4_runScript 53 = .ok (.lload_n 2, 1) := by decide +kernel
theorem dX4_runScript_54 : decode cX4_runScript 54 = .ok (.iload_n 1, 1) := by decide +kernel
theorem dX4_runScript_55 : decode cX4_runScript 55 = .ok (.iconst 1, 1) := by decide +kernel
theorem dX4_runScript_56 : decode cX4_runScript 56 = .ok (.isub, 1) := by decide +kernel
theorem dX4_runScript_57 : decode cX4_runScript 57 = .ok (.iload 4, 2) := by decide +kernel
theorem dX4_runScript_59 : decode cX4_runScript 59 = .ok (.isub, 1) := by decide +kernel
theorem dX4_runScript_60 : decode cX4_runScript 60 = .ok (.invokestatic 281, 3) := by decide +kernel
theorem dX4_runScript_63 : decode cX4_runScript 63 = .ok (.ldc2_w 287, 3) := by decide +kernel
theorem dX4_runScript_66 : decode cX4_runScript 66 = .ok (.lrem, 1) := by decide +kernel
theorem dX4_runScript_67 : decode cX4_runScript 67 = .ok (.l2i, 1) := by decide +kernel
theorem dX4_runScript_68 : decode cX4_runScript 68 = .ok (.istore 5, 2) := by decide +kernel
theorem dX4_runScript_70 : decode cX4_runScript 70 = .ok (.aload_n 0, 1) := by decide +kernel
theorem dX4_runScript_71 : decode cX4_runScript 71 = .ok (.iload 5, 2) := by decide +kernel
theorem dX4_runScript_73 : decode cX4_runScript 73 = .ok (.invokevirtual 289, 3) := by decide +kernel
theorem dX4_runScript_76 : decode cX4_runScript 76 = .ok (.ifCond .ne 6, 3) := by decide +kernel
theorem dX4_runScript_79 : decode cX4_runScript 79 = .ok (.iload 4, 2) := by decide +kernel
theorem dX4_runScript_81 : decode cX4_runScript 81 = .ok (.ireturn, 1) := by decide +kernel
theorem dX4_runScript_82 : decode cX4_runScript 82 = .ok (.iinc 4 1, 3) := by decide +kernel
theorem dX4_runScript_85 : decode cX4_runScript 85 = .ok (.goto (-38), 3) := by decide +kernel
theorem dX4_runScript_88 : decode cX4_runScript 88 = .ok (.iconst (-1), 1) := by decide +kernel
theorem dX4_runScript_89 : decode cX4_runScript 89 = .ok (.ireturn, 1) := by decide +kernel
theorem dX4_simulate_0 : decode cX4_simulate 0 = .ok (.iload_n 3, 1) := by decide +kernel
theorem dX4_simulate_1 : decode cX4_simulate 1 = .ok (.iconst 1, 1) := by decide +kernel
theorem dX4_simulate_2 : decode cX4_simulate 2 = .ok (.bipush 30, 2) := by decide +kernel
theorem dX4_simulate_4 : decode cX4_simulate 4 = .ok (.invokestatic 44, 3) := by decide +kernel
theorem dX4_simulate_7 : decode cX4_simulate 7 = .ok (.aload_n 0, 1) := by decide +kernel
theorem dX4_simulate_8 : decode cX4_simulate 8 = .ok (.getfield 38, 3) := by decide +kernel
theorem dX4_simulate_11 : decode cX4_simulate 11 = .ok (.aload_n 0, 1) := by decide +kernel
theorem dX4_simulate_12 : decode cX4_simulate 12 = .ok (.getfield 19, 3) := by decide +kernel
theorem dX4_simulate_15 : decode cX4_simulate 15 = .ok (.invokevirtual 261, 3) := by decide +kernel
theorem dX4_simulate_18 : decode cX4_simulate 18 = .ok (.lload_n 1, 1) := by decide +kernel
theorem dX4_simulate_19 : decode cX4_simulate 19 = .ok (.lstore 4, 2) := by decide +kernel
theorem dX4_simulate_21 : decode cX4_simulate 21 = .ok (.iconst 0, 1) := by decide +kernel
theorem dX4_simulate_22 : decode cX4_simulate 22 = .ok (.istore 6, 2) := by decide +kernel
theorem dX4_simulate_24 : decode cX4_simulate 24 = .ok (.iload 6, 2) := by decide +kernel
theorem dX4_simulate_26 : decode cX4_simulate 26 = .ok (.iload_n 3, 1) := by decide +kernel
theorem dX4_simulate_27 : decode cX4_simulate 27 = .ok (.if_icmp .ge 31, 3) := by decide +kernel
theorem dX4_simulate_30 : decode cX4_simulate 30 = .ok (.lload 4, 2) := by decide +kernel
theorem dX4_simulate_32 : decode cX4_simulate 32 = .ok (.ldc2_w 292, 3) := by decide +kernel
theorem dX4_simulate_35 : decode cX4_simulate 35 = .ok (.lmul, 1) := by decide +kernel
theorem dX4_simulate_36 : decode cX4_simulate 36 = .ok (.ldc2_w 294, 3) := by decide +kernel
theorem dX4_simulate_39 : decode cX4_simulate 39 = .ok (.ladd, 1) := by decide +kernel
theorem dX4_simulate_40 : decode cX4_simulate 40 = .ok (.lstore 4, 2) := by decide +kernel
theorem dX4_simulate_42 : decode cX4_simulate 42 = .ok (.aload_n 0, 1) := by decide +kernel
theorem dX4_simulate_43 : decode cX4_simulate 43 = .ok (.lload 4, 2) := by decide +kernel
theorem dX4_simulate_45 : decode cX4_simulate 45 = .ok (.bipush 33, 2) := by decide +kernel
theorem dX4_simulate_47 : decode cX4_simulate 47 = .ok (.lushr, 1) := by decide +kernel
theorem dX4_simulate_48 : decode cX4_simulate 48 = .ok (.l2i, 1) := by decide +kernel
theorem dX4_simulate_49 : decode cX4_simulate 49 = .ok (.invokevirtual 296, 3) := by decide +kernel
theorem dX4_simulate_52 : decode cX4_simulate 52 = .ok (.iinc 6 1, 3) := by decide +kernel
theorem dX4_simulate_55 : decode cX4_simulate 55 = .ok (.goto (-31), 3) := by decide +kernel
theorem dX4_simulate_58 : decode cX4_simulate 58 = .ok (.sipush 1000, 3) := by decide +kernel
theorem dX4_simulate_61 : decode cX4_simulate 61 = .ok (.aload_n 0, 1) := by decide +kernel
theorem dX4_simulate_62 : decode cX4_simulate 62 = .ok (.getfield 38, 3) := by decide +kernel
theorem dX4_simulate_65 : decode cX4_simulate 65 = .ok (.getfield 98, 3) := by decide +kernel
theorem dX4_simulate_68 : decode cX4_simulate 68 = .ok (.aload_n 0, 1) := by decide +kernel
theorem dX4_simulate_69 : decode cX4_simulate 69 = .ok (.getfield 19, 3) := by decide +kernel
theorem dX4_simulate_72 : decode cX4_simulate 72 = .ok (.getfield 98, 3) := by decide +kernel
theorem dX4_simulate_75 : decode cX4_simulate 75 = .ok (.isub, 1) := by decide +kernel
theorem dX4_simulate_76 : decode cX4_simulate 76 = .ok (.imul, 1) := by decide +kernel
theorem dX4_simulate_77 : decode cX4_simulate 77 = .ok (.aload_n 0, 1) := by decide +kernel
theorem dX4_simulate_78 : decode cX4_simulate 78 = .ok (.getfield 38, 3) := by decide +kernel
theorem dX4_simulate_81 : decode cX4_simulate 81 = .ok (.getfield 101, 3) := by decide +kernel
theorem dX4_simulate_84 : decode cX4_simulate 84 = .ok (.aload_n 0, 1) := by decide +kernel
theorem dX4_simulate_85 : decode cX4_simulate 85 = .ok (.getfield 19, 3) := by decide +kernel
theorem dX4_simulate_88 : decode cX4_simulate 88 = .ok (.getfield 101, 3) := by decide +kernel
theorem dX4_simulate_91 : decode cX4_simulate 91 = .ok (.isub, 1) := by decide +kernel
theorem dX4_simulate_92 : decode cX4_simulate 92 = .ok (.iadd, 1) := by decide +kernel
theorem dX4_simulate_93 : decode cX4_simulate 93 = .ok (.ireturn, 1) := by decide +kernel
theorem dX4_save_0 : decode cX4_save 0 = .ok (.iload_n 1, 1) := by decide +kernel
theorem dX4_save_1 : decode cX4_save 1 = .ok (.invokestatic 299, 3) := by decide +kernel
theorem dX4_save_4 : decode cX4_save 4 = .ok (.aload_n 0, 1) := by decide +kernel
theorem dX4_save_5 : decode cX4_save 5 = .ok (.getfield 30, 3) := by decide +kernel
theorem dX4_save_8 : decode cX4_save 8 = .ok (.iload_n 1, 1) := by decide +kernel
theorem dX4_save_9 : decode cX4_save 9 = .ok (.aaload, 1) := by decide +kernel
theorem dX4_save_10 : decode cX4_save 10 = .ok (.aload_n 0, 1) := by decide +kernel
theorem dX4_save_11 : decode cX4_save 11 = .ok (.getfield 19, 3) := by decide +kernel
theorem dX4_save_14 : decode cX4_save 14 = .ok (.invokevirtual 261, 3) := by decide +kernel
theorem dX4_save_17 : decode cX4_save 17 = .ok (.aload_n 0, 1) := by decide +kernel
theorem dX4_save_18 : decode cX4_save 18 = .ok (.getfield 34, 3) := by decide +kernel
theorem dX4_save_21 : decode cX4_save 21 = .ok (.iload_n 1, 1) := by decide +kernel
theorem dX4_save_22 : decode cX4_save 22 = .ok (.iconst 1, 1) := by decide +kernel
theorem dX4_save_23 : decode cX4_save 23 = .ok (.bastore, 1) := by decide +kernel
theorem dX4_save_24 : decode cX4_save 24 = .ok (.aload_n 0, 1) := by decide +kernel
theorem dX4_save_25 : decode cX4_save 25 = .ok (.getfield 19, 3) := by decide +kernel
theorem dX4_save_28 : decode cX4_save 28 = .ok (.getfield 89, 3) := by decide +kernel
theorem dX4_save_31 : decode cX4_save 31 = .ok (.ireturn, 1) := by decide +kernel
theorem dX4_restore_0 : decode cX4_restore 0 = .ok (.iload_n 1, 1) := by decide +kernel
theorem dX4_restore_1 : decode cX4_restore 1 = .ok (.invokestatic 299, 3) := by decide +kernel
theorem dX4_restore_4 : decode cX4_restore 4 = .ok (.aload_n 0, 1) := by decide +kernel
theorem dX4_restore_5 : decode cX4_restore 5 = .ok (.getfield 34, 3) := by decide +kernel
theorem dX4_restore_8 : decode cX4_restore 8 = .ok (.iload_n 1, 1) := by decide +kernel
theorem dX4_restore_9 : decode cX4_restore 9 = .ok (.baload, 1) := by decide +kernel
theorem dX4_restore_10 : decode cX4_restore 10 = .ok (.ifCond .ne 14, 3) := by decide +kernel
theorem dX4_restore_13 : decode cX4_restore 13 = .ok (.new 52, 3) := by decide +kernel
theorem dX4_restore_16 : decode cX4_restore 16 = .ok (.dup, 1) := by decide +kernel
theorem dX4_restore_17 : decode cX4_restore 17 = .ok (.ldc_w 302, 3) := by decide +kernel
theorem dX4_restore_20 : decode cX4_restore 20 = .ok (.invokespecial 56, 3) := by decide +kernel
theorem dX4_restore_23 : decode cX4_restore 23 = .ok (.athrow, 1) := by decide +kernel
theorem dX4_restore_24 : decode cX4_restore 24 = .ok (.aload_n 0, 1) := by decide +kernel
theorem dX4_restore_25 : decode cX4_restore 25 = .ok (.getfield 19, 3) := by decide +kernel
theorem dX4_restore_28 : decode cX4_restore 28 = .ok (.aload_n 0, 1) := by decide +kernel
theorem dX4_restore_29 : decode cX4_restore 29 = .ok (.getfield 30, 3) := by decide +kernel
theorem dX4_restore_32 : decode cX4_restore 32 = .ok (.iload_n 1, 1) := by decide +kernel
theorem dX4_restore_33 : decode cX4_restore 33 = .ok (.aaload, 1) := by decide +kernel
theorem dX4_restore_34 : decode cX4_restore 34 = .ok (.invokevirtual 261, 3) := by decide +kernel
theorem dX4_restore_37 : decode cX4_restore 37 = .ok (.aload_n 0, 1) := by decide +kernel
theorem dX4_restore_38 : decode cX4_restore 38 = .ok (.getfield 26, 3) := by decide +kernel
theorem dX4_restore_41 : decode cX4_restore 41 = .ok (.invokevirtual 75, 3) := by decide +kernel
theorem dX4_restore_44 : decode cX4_restore 44 = .ok (.aload_n 0, 1) := by decide +kernel
theorem dX4_restore_45 : decode cX4_restore 45 = .ok (.getfield 19, 3) := by decide +kernel
theorem dX4_restore_48 : decode cX4_restore 48 = .ok (.getfield 89, 3) := by decide +kernel
theorem dX4_restore_51 : decode cX4_restore 51 = .ok (.ireturn, 1) := by decide +kernel
theorem dX4_requireWithin_0 : decode cX4_requireWithin 0 = .ok (.iload_n 0, 1) := by decide +kernel
theorem dX4_requireWithin_1 : decode cX4_requireWithin 1 = .ok (.iload_n 1, 1) := by decide +kernel
theorem dX4_requireWithin_2 : decode cX4_requireWithin 2 = .ok (.iload_n 2, 1) := by decide +kernel
theorem dX4_requireWithin_3 : decode cX4_requireWithin 3 = .ok (.invokestatic 304, 3) := by decide +kernel
theorem dX4_requireWithin_6 : decode cX4_requireWithin 6 = .ok (.ifCond .ne 14, 3) := by decide +kernel
theorem dX4_requireWithin_9 : decode cX4_requireWithin 9 = .ok (.new 177, 3) := by decide +kernel
theorem dX4_requireWithin_12 : decode cX4_requireWithin 12 = .ok (.dup, 1) := by decide +kernel
theorem dX4_requireWithin_13 : decode cX4_requireWithin 13 = .ok (.ldc_w 307, 3) := by decide +kernel
theorem dX4_requireWithin_16 : decode cX4_requireWithin 16 = .ok (.invokespecial 181, 3) := by decide +kernel
theorem dX4_requireWithin_19 : decode cX4_requireWithin 19 = .ok (.athrow, 1) := by decide +kernel
theorem dX4_requireWithin_20 : decode cX4_requireWithin 20 = .ok (.return_, 1) := by decide +kernel
theorem dX4_requireBus_0 : decode cX4_requireBus 0 = .ok (.aload_n 0, 1) := by decide +kernel
theorem dX4_requireBus_1 : decode cX4_requireBus 1 = .ok (.getfield 19, 3) := by decide +kernel
theorem dX4_requireBus_4 : decode cX4_requireBus 4 = .ok (.iload_n 1, 1) := by decide +kernel
theorem dX4_requireBus_5 : decode cX4_requireBus 5 = .ok (.invokevirtual 309, 3) := by decide +kernel
theorem dX4_requireBus_8 : decode cX4_requireBus 8 = .ok (.astore_n 2, 1) := by decide +kernel
theorem dX4_requireBus_9 : decode cX4_requireBus 9 = .ok (.aload_n 2, 1) := by decide +kernel
theorem dX4_requireBus_10 : decode cX4_requireBus 10 = .ok (.ifnonnull 14, 3) := by decide +kernel
theorem dX4_requireBus_13 : decode cX4_requireBus 13 = .ok (.new 163, 3) := by decide +kernel
theorem dX4_requireBus_16 : decode cX4_requireBus 16 = .ok (.dup, 1) := by decide +kernel
theorem dX4_requireBus_17 : decode cX4_requireBus 17 = .ok (.ldc_w 312, 3) := by decide +kernel
theorem dX4_requireBus_20 : decode cX4_requireBus 20 = .ok (.invokespecial 167, 3) := by decide +kernel
theorem dX4_requireBus_23 : decode cX4_requireBus 23 = .ok (.athrow, 1) := by decide +kernel
theorem dX4_requireBus_24 : decode cX4_requireBus 24 = .ok (.aload_n 2, 1) := by decide +kernel
theorem dX4_requireBus_25 : decode cX4_requireBus 25 = .ok (.areturn, 1) := by decide +kernel
theorem dX4_requireInDepot_0 : decode cX4_requireInDepot 0 = .ok (.aload_n 0, 1) := by decide +kernel
theorem dX4_requireInDepot_1 : decode cX4_requireInDepot 1 = .ok (.getfield 140, 3) := by decide +kernel
theorem dX4_requireInDepot_4 : decode cX4_requireInDepot 4 = .ok (.ifCond .eq 14, 3) := by decide +kernel
theorem dX4_requireInDepot_7 : decode cX4_requireInDepot 7 = .ok (.new 52, 3) := by decide +kernel
theorem dX4_requireInDepot_10 : decode cX4_requireInDepot 10 = .ok (.dup, 1) := by decide +kernel
theorem dX4_requireInDepot_11 : decode cX4_requireInDepot 11 = .ok (.ldc_w 314, 3) := by decide +kernel
theorem dX4_requireInDepot_14 : decode cX4_requireInDepot 14 = .ok (.invokespecial 56, 3) := by decide +kernel
theorem dX4_requireInDepot_17 : decode cX4_requireInDepot 17 = .ok (.athrow, 1) := by decide +kernel
theorem dX4_requireInDepot_18 : decode cX4_requireInDepot 18 = .ok (.return_, 1) := by decide +kernel
theorem dX4_requireRoomForCharger_0 : decode cX4_requireRoomForCharger 0 = .ok (.aload_n 0, 1) := by decide +kernel
theorem dX4_requireRoomForCharger_1 : decode cX4_requireRoomForCharger 1 = .ok (.getfield 19, 3) := by decide +kernel
theorem dX4_requireRoomForCharger_4 : decode cX4_requireRoomForCharger 4 = .ok (.invokevirtual 316, 3) := by decide +kernel
theorem dX4_requireRoomForCharger_7 : decode cX4_requireRoomForCharger 7 = .ok (.ifCond .eq 14, 3) := by decide +kernel
theorem dX4_requireRoomForCharger_10 : decode cX4_requireRoomForCharger 10 = .ok (.new 52, 3) := by decide +kernel
theorem dX4_requireRoomForCharger_13 : decode cX4_requireRoomForCharger 13 = .ok (.dup, 1) := by decide +kernel
theorem dX4_requireRoomForCharger_14 : decode cX4_requireRoomForCharger 14 = .ok (.ldc_w 319, 3) := by decide +kernel
theorem dX4_requireRoomForCharger_17 : decode cX4_requireRoomForCharger 17 = .ok (.invokespecial 56, 3) := by decide +kernel
theorem dX4_requireRoomForCharger_20 : decode cX4_requireRoomForCharger 20 = .ok (.athrow, 1) := by decide +kernel
theorem dX4_requireRoomForCharger_21 : decode cX4_requireRoomForCharger 21 = .ok (.return_, 1) := by decide +kernel
theorem dX4_requireSlot_0 : decode cX4_requireSlot 0 = .ok (.iload_n 0, 1) := by decide +kernel
theorem dX4_requireSlot_1 : decode cX4_requireSlot 1 = .ok (.iconst 0, 1) := by decide +kernel
theorem dX4_requireSlot_2 : decode cX4_requireSlot 2 = .ok (.iconst 1, 1) := by decide +kernel
theorem dX4_requireSlot_3 : decode cX4_requireSlot 3 = .ok (.invokestatic 304, 3) := by decide +kernel
theorem dX4_requireSlot_6 : decode cX4_requireSlot 6 = .ok (.ifCond .ne 14, 3) := by decide +kernel
theorem dX4_requireSlot_9 : decode cX4_requireSlot 9 = .ok (.new 163, 3) := by decide +kernel
theorem dX4_requireSlot_12 : decode cX4_requireSlot 12 = .ok (.dup, 1) := by decide +kernel
theorem dX4_requireSlot_13 : decode cX4_requireSlot 13 = .ok (.ldc_w 321, 3) := by decide +kernel
theorem dX4_requireSlot_16 : decode cX4_requireSlot 16 = .ok (.invokespecial 167, 3) := by decide +kernel
theorem dX4_requireSlot_19 : decode cX4_requireSlot 19 = .ok (.athrow, 1) := by decide +kernel
theorem dX4_requireSlot_20 : decode cX4_requireSlot 20 = .ok (.return_, 1) := by decide +kernel
theorem dX4_isWithin_0 : decode cX4_isWithin 0 = .ok (.iload_n 0, 1) := by decide +kernel
theorem dX4_isWithin_1 : decode cX4_isWithin 1 = .ok (.iload_n 1, 1) := by decide +kernel
theorem dX4_isWithin_2 : decode cX4_isWithin 2 = .ok (.if_icmp .lt 12, 3) := by decide +kernel
theorem dX4_isWithin_5 : decode cX4_isWithin 5 = .ok (.iload_n 0, 1) := by decide +kernel
theorem dX4_isWithin_6 : decode cX4_isWithin 6 = .ok (.iload_n 2, 1) := by decide +kernel
theorem dX4_isWithin_7 : decode cX4_isWithin 7 = .ok (.if_icmp .gt 7, 3) := by decide +kernel
theorem dX4_isWithin_10 : decode cX4_isWithin 10 = .ok (.iconst 1, 1) := by decide +kernel
theorem dX4_isWithin_11 : decode cX4_isWithin 11 = .ok (.goto 4, 3) := by decide +kernel
theorem dX4_isWithin_14 : decode cX4_isWithin 14 = .ok (.iconst 0, 1) := by decide +kernel
theorem dX4_isWithin_15 : decode cX4_isWithin 15 = .ok (.ireturn, 1) := by decide +kernel
theorem dX4_isRoute_0 : decode cX4_isRoute 0 = .ok (.iload_n 0, 1) := by decide +kernel
theorem dX4_isRoute_1 : decode cX4_isRoute 1 = .ok (.iconst 1, 1) := by decide +kernel
theorem dX4_isRoute_2 : decode cX4_isRoute 2 = .ok (.sipush 400, 3) := by decide +kernel
theorem dX4_isRoute_5 : decode cX4_isRoute 5 = .ok (.invokestatic 304, 3) := by decide +kernel
theorem dX4_isRoute_8 : decode cX4_isRoute 8 = .ok (.ifCond .eq 32, 3) := by decide +kernel
theorem dX4_isRoute_11 : decode cX4_isRoute 11 = .ok (.iload_n 1, 1) := by decide +kernel
theorem dX4_isRoute_12 : decode cX4_isRoute 12 = .ok (.iconst 0, 1) := by decide +kernel
theorem dX4_isRoute_13 : decode cX4_isRoute 13 = .ok (.bipush 23, 2) := by decide +kernel
theorem dX4_isRoute_15 : decode cX4_isRoute 15 = .ok (.invokestatic 304, 3) := by decide +kernel
theorem dX4_isRoute_18 : decode cX4_isRoute 18 = .ok (.ifCond .eq 22, 3) := by decide +kernel
theorem dX4_isRoute_21 : decode cX4_isRoute 21 = .ok (.iload_n 2, 1) := by decide +kernel
theorem dX4_isRoute_22 : decode cX4_isRoute 22 = .ok (.iconst 0, 1) := by decide +kernel
theorem dX4_isRoute_23 : decode cX4_isRoute 23 = .ok (.bipush 23, 2) := by decide +kernel
theorem dX4_isRoute_25 : decode cX4_isRoute 25 = .ok (.invokestatic 304, 3) := by decide +kernel
theorem dX4_isRoute_28 : decode cX4_isRoute 28 = .ok (.ifCond .eq 12, 3) := by decide +kernel
theorem dX4_isRoute_31 : decode cX4_isRoute 31 = .ok (.iload_n 1, 1) := by decide +kernel
theorem dX4_isRoute_32 : decode cX4_isRoute 32 = .ok (.iload_n 2, 1) := by decide +kernel
theorem dX4_isRoute_33 : decode cX4_isRoute 33 = .ok (.if_icmp .eq 7, 3) := by decide +kernel
theorem dX4_isRoute_36 : decode cX4_isRoute 36 = .ok (.iconst 1, 1) := by decide +kernel
theorem dX4_isRoute_37 : decode cX4_isRoute 37 = .ok (.goto 4, 3) := by decide +kernel
theorem dX4_isRoute_40 : decode cX4_isRoute 40 = .ok (.iconst 0, 1) := by decide +kernel
theorem dX4_isRoute_41 : decode cX4_isRoute 41 = .ok (.ireturn, 1) := by decide +kernel
theorem dX4_isBus_0 : decode cX4_isBus 0 = .ok (.iload_n 0, 1) := by decide +kernel
theorem dX4_isBus_1 : decode cX4_isBus 1 = .ok (.bipush 10, 2) := by decide +kernel
theorem dX4_isBus_3 : decode cX4_isBus 3 = .ok (.sipush 400, 3) := by decide +kernel
theorem dX4_isBus_6 : decode cX4_isBus 6 = .ok (.invokestatic 304, 3) := by decide +kernel
theorem dX4_isBus_9 : decode cX4_isBus 9 = .ok (.ifCond .eq 26, 3) := by decide +kernel
theorem dX4_isBus_12 : decode cX4_isBus 12 = .ok (.iload_n 1, 1) := by decide +kernel
theorem dX4_isBus_13 : decode cX4_isBus 13 = .ok (.iconst 0, 1) := by decide +kernel
theorem dX4_isBus_14 : decode cX4_isBus 14 = .ok (.iload_n 0, 1) := by decide +kernel
theorem dX4_isBus_15 : decode cX4_isBus 15 = .ok (.invokestatic 304, 3) := by decide +kernel
theorem dX4_isBus_18 : decode cX4_isBus 18 = .ok (.ifCond .eq 17, 3) := by decide +kernel
theorem dX4_isBus_21 : decode cX4_isBus 21 = .ok (.iload_n 2, 1) := by decide +kernel
theorem dX4_isBus_22 : decode cX4_isBus 22 = .ok (.iload_n 3, 1) := by decide +kernel
theorem dX4_isBus_23 : decode cX4_isBus 23 = .ok (.iload 4, 2) := by decide +kernel
theorem dX4_isBus_25 : decode cX4_isBus 25 = .ok (.invokestatic 223, 3) := by decide +kernel
theorem dX4_isBus_28 : decode cX4_isBus 28 = .ok (.ifCond .eq 7, 3) := by decide +kernel
theorem dX4_isBus_31 : decode cX4_isBus 31 = .ok (.iconst 1, 1) := by decide +kernel
theorem dX4_isBus_32 : decode cX4_isBus 32 = .ok (.goto 4, 3) := by decide +kernel
theorem dX4_isBus_35 : decode cX4_isBus 35 = .ok (.iconst 0, 1) := by decide +kernel
theorem dX4_isBus_36 : decode cX4_isBus 36 = .ok (.ireturn, 1) := by decide +kernel
theorem dX4_isSetting_0 : decode cX4_isSetting 0 = .ok (.iload_n 0, 1) := by decide +kernel
theorem dX4_isSetting_1 : decode cX4_isSetting 1 = .ok (.iconst 0, 1) := by decide +kernel
theorem dX4_isSetting_2 : decode cX4_isSetting 2 = .ok (.iconst 5, 1) := by decide +kernel
theorem dX4_isSetting_3 : decode cX4_isSetting 3 = .ok (.invokestatic 304, 3) := by decide +kernel
theorem dX4_isSetting_6 : decode cX4_isSetting 6 = .ok (.ifCond .eq 24, 3) := by decide +kernel
theorem dX4_isSetting_9 : decode cX4_isSetting 9 = .ok (.iload_n 1, 1) := by decide +kernel
theorem dX4_isSetting_10 : decode cX4_isSetting 10 = .ok (.getstatic 267, 3) := by decide +kernel
theorem dX4_isSetting_13 : decode cX4_isSetting 13 = .ok (.iload_n 0, 1) := by decide +kernel
theorem dX4_isSetting_14 : decode cX4_isSetting 14 = .ok (.iaload, 1) := by decide +kernel
theorem dX4_isSetting_15 : decode cX4_isSetting 15 = .ok (.getstatic 271, 3) := by decide +kernel
theorem dX4_isSetting_18 : decode cX4_isSetting 18 = .ok (.iload_n 0, 1) := by decide +kernel
theorem dX4_isSetting_19 : decode cX4_isSetting 19 = .ok (.iaload, 1) := by decide +kernel
theorem dX4_isSetting_20 : decode cX4_isSetting 20 = .ok (.invokestatic 304, 3) := by decide +kernel
theorem dX4_isSetting_23 : decode cX4_isSetting 23 = .ok (.ifCond .eq 7, 3) := by decide +kernel
theorem dX4_isSetting_26 : decode cX4_isSetting 26 = .ok (.iconst 1, 1) := by decide +kernel
theorem dX4_isSetting_27 : decode cX4_isSetting 27 = .ok (.goto 4, 3) := by decide +kernel
theorem dX4_isSetting_30 : decode cX4_isSetting 30 = .ok (.iconst 0, 1) := by decide +kernel
theorem dX4_isSetting_31 : decode cX4_isSetting 31 = .ok (.ireturn, 1) := by decide +kernel
theorem dX4_previewOf_0 : decode cX4_previewOf 0 = .ok (.aload_n 0, 1) := by decide +kernel
theorem dX4_previewOf_1 : decode cX4_previewOf 1 = .ok (.getfield 41, 3) := by decide +kernel
theorem dX4_previewOf_4 : decode cX4_previewOf 4 = .ok (.aload_n 1, 1) := by decide +kernel
theorem dX4_previewOf_5 : decode cX4_previewOf 5 = .ok (.invokevirtual 261, 3) := by decide +kernel
theorem dX4_previewOf_8 : decode cX4_previewOf 8 = .ok (.aload_n 0, 1) := by decide +kernel
theorem dX4_previewOf_9 : decode cX4_previewOf 9 = .ok (.getfield 41, 3) := by decide +kernel
theorem dX4_previewOf_12 : decode cX4_previewOf 12 = .ok (.invokevirtual 323, 3) := by decide +kernel
theorem dX4_previewOf_15 : decode cX4_previewOf 15 = .ok (.aload_n 0, 1) := by decide +kernel
theorem dX4_previewOf_16 : decode cX4_previewOf 16 = .ok (.getfield 41, 3) := by decide +kernel
theorem dX4_previewOf_19 : decode cX4_previewOf 19 = .ok (.invokevirtual 326, 3) := by decide +kernel
theorem dX4_previewOf_22 : decode cX4_previewOf 22 = .ok (.aload_n 0, 1) := by decide +kernel
theorem dX4_previewOf_23 : decode cX4_previewOf 23 = .ok (.getfield 41, 3) := by decide +kernel
theorem dX4_previewOf_26 : decode cX4_previewOf 26 = .ok (.invokevirtual 329, 3) := by decide +kernel
theorem dX4_previewOf_29 : decode cX4_previewOf 29 = .ok (.aload_n 0, 1) := by decide +kernel
theorem dX4_previewOf_30 : decode cX4_previewOf 30 = .ok (.getfield 41, 3) := by decide +kernel
theorem dX4_previewOf_33 : decode cX4_previewOf 33 = .ok (.areturn, 1) := by decide +kernel
theorem dX4_signOf_0 : decode cX4_signOf 0 = .ok (.new 187, 3) := by decide +kernel
theorem dX4_signOf_3 : decode cX4_signOf 3 = .ok (.dup, 1) := by decide +kernel
theorem dX4_signOf_4 : decode cX4_signOf 4 = .ok (.invokespecial 332, 3) := by decide +kernel
theorem dX4_signOf_7 : decode cX4_signOf 7 = .ok (.astore_n 2, 1) := by decide +kernel
theorem dX4_signOf_8 : decode cX4_signOf 8 = .ok (.aload_n 2, 1) := by decide +kernel
theorem dX4_signOf_9 : decode cX4_signOf 9 = .ok (.bipush 98, 2) := by decide +kernel
theorem dX4_signOf_11 : decode cX4_signOf 11 = .ok (.invokevirtual 333, 3) := by decide +kernel
theorem dX4_signOf_14 : decode cX4_signOf 14 = .ok (.iload_n 0, 1) := by decide +kernel
theorem dX4_signOf_15 : decode cX4_signOf 15 = .ok (.invokevirtual 337, 3) := by decide +kernel
theorem dX4_signOf_18 : decode cX4_signOf 18 = .ok (.bipush 32, 2) := by decide +kernel
theorem dX4_signOf_20 : decode cX4_signOf 20 = .ok (.invokevirtual 333, 3) := by decide +kernel
theorem dX4_signOf_23 : decode cX4_signOf 23 = .ok (.aload_n 1, 1) := by decide +kernel
theorem dX4_signOf_24 : decode cX4_signOf 24 = .ok (.getfield 125, 3) := by decide +kernel
theorem dX4_signOf_27 : decode cX4_signOf 27 = .ok (.invokevirtual 337, 3) := by decide +kernel
theorem dX4_signOf_30 : decode cX4_signOf 30 = .ok (.pop, 1) := by decide +kernel
theorem dX4_signOf_31 : decode cX4_signOf 31 = .ok (.aload_n 1, 1) := by decide +kernel
theorem dX4_signOf_32 : decode cX4_signOf 32 = .ok (.getfield 125, 3) := by decide +kernel
theorem dX4_signOf_35 : decode cX4_signOf 35 = .ok (.bipush 100, 2) := by decide +kernel
theorem dX4_signOf_37 : decode cX4_signOf 37 = .ok (.if_icmp .lt 10, 3) := by decide +kernel
theorem dX4_signOf_40 : decode cX4_signOf 40 = .ok (.aload_n 2, 1) := by decide +kernel
theorem dX4_signOf_41 : decode cX4_signOf 41 = .ok (.bipush 33, 2) := by decide +kernel
theorem dX4_signOf_43 : decode cX4_signOf 43 = .ok (.invokevirtual 333, 3) := by decide +kernel
theorem dX4_signOf_46 : decode cX4_signOf 46 = .ok (.pop, 1) := by decide +kernel
theorem dX4_signOf_47 : decode cX4_signOf 47 = .ok (.aload_n 2, 1) := by decide +kernel
theorem dX4_signOf_48 : decode cX4_signOf 48 = .ok (.bipush 47, 2) := by decide +kernel
theorem dX4_signOf_50 : decode cX4_signOf 50 = .ok (.invokevirtual 333, 3) := by decide +kernel
theorem dX4_signOf_53 : decode cX4_signOf 53 = .ok (.aload_n 1, 1) := by decide +kernel
theorem dX4_signOf_54 : decode cX4_signOf 54 = .ok (.getfield 120, 3) := by decide +kernel
theorem dX4_signOf_57 : decode cX4_signOf 57 = .ok (.invokevirtual 337, 3) := by decide +kernel
theorem dX4_signOf_60 : decode cX4_signOf 60 = .ok (.bipush 32, 2) := by decide +kernel
theorem dX4_signOf_62 : decode cX4_signOf 62 = .ok (.invokevirtual 333, 3) := by decide +kernel
theorem dX4_signOf_65 : decode cX4_signOf 65 = .ok (.aload_n 1, 1) := by decide +kernel
theorem dX4_signOf_66 : decode cX4_signOf 66 = .ok (.invokevirtual 340, 3) := by decide +kernel
theorem dX4_signOf_69 : decode cX4_signOf 69 = .ok (.invokevirtual 344, 3) := by decide +kernel
theorem dX4_signOf_72 : decode cX4_signOf 72 = .ok (.areturn, 1) := by decide +kernel
theorem dX4_wouldDo_0 : decode cX4_wouldDo 0 = .ok (.aload_n 0, 1) := by decide +kernel
theorem dX4_wouldDo_1 : decode cX4_wouldDo 1 = .ok (.getfield 38, 3) := by decide +kernel
theorem dX4_wouldDo_4 : decode cX4_wouldDo 4 = .ok (.aload_n 0, 1) := by decide +kernel
theorem dX4_wouldDo_5 : decode cX4_wouldDo 5 = .ok (.getfield 19, 3) := by decide +kernel
theorem dX4_wouldDo_8 : decode cX4_wouldDo 8 = .ok (.invokevirtual 261, 3) := by decide +kernel
theorem dX4_wouldDo_11 : decode cX4_wouldDo 11 = .ok (.aload_n 0, 1) := by decide +kernel
theorem dX4_wouldDo_12 : decode cX4_wouldDo 12 = .ok (.getfield 38, 3) := by decide +kernel
theorem dX4_wouldDo_15 : decode cX4_wouldDo 15 = .ok (.iconst 0, 1) := by decide +kernel
theorem dX4_wouldDo_16 : decode cX4_wouldDo 16 = .ok (.iload_n 1, 1) := by decide +kernel
theorem dX4_wouldDo_17 : decode cX4_wouldDo 17 = .ok (.invokevirtual 249, 3) := by decide +kernel
theorem dX4_wouldDo_20 : decode cX4_wouldDo 20 = .ok (.iconst 0, 1) := by decide +kernel
theorem dX4_wouldDo_21 : decode cX4_wouldDo 21 = .ok (.istore_n 3, 1) := by decide +kernel
theorem dX4_wouldDo_22 : decode cX4_wouldDo 22 = .ok (.iload_n 3, 1) := by decide +kernel
theorem dX4_wouldDo_23 : decode cX4_wouldDo 23 = .ok (.iload_n 2, 1) := by decide +kernel
theorem dX4_wouldDo_24 : decode cX4_wouldDo 24 = .ok (.if_icmp .ge 36, 3) := by decide +kernel
theorem dX4_wouldDo_27 : decode cX4_wouldDo 27 = .ok (.aload_n 0, 1) := by decide +kernel
theorem dX4_wouldDo_28 : decode cX4_wouldDo 28 = .ok (.getfield 38, 3) := by decide +kernel
theorem dX4_wouldDo_31 : decode cX4_wouldDo 31 = .ok (.iconst 1, 1) := by decide +kernel
theorem dX4_wouldDo_32 : decode cX4_wouldDo 32 = .ok (.invokevirtual 240, 3) := by decide +kernel
theorem dX4_wouldDo_35 : decode cX4_wouldDo 35 = .ok (.aload_n 0, 1) := by decide +kernel
theorem dX4_wouldDo_36 : decode cX4_wouldDo 36 = .ok (.getfield 38, 3) := by decide +kernel
theorem dX4_wouldDo_39 : decode cX4_wouldDo 39 = .ok (.getfield 98, 3) := by decide +kernel
theorem dX4_wouldDo_42 : decode cX4_wouldDo 42 = .ok (.aload_n 0, 1) := by decide +kernel
theorem dX4_wouldDo_43 : decode cX4_wouldDo 43 = .ok (.getfield 19, 3) := by decide +kernel
theorem dX4_wouldDo_46 : decode cX4_wouldDo 46 = .ok (.getfield 98, 3) := by decide +kernel
theorem dX4_wouldDo_49 : decode cX4_wouldDo 49 = .ok (.if_icmp .eq 5, 3) := by decide +kernel
theorem dX4_wouldDo_52 : decode cX4_wouldDo 52 = .ok (.iconst 0, 1) := by decide +kernel
theorem dX4_wouldDo_53 : decode cX4_wouldDo 53 = .ok (.ireturn, 1) := by decide +kernel
theorem dX4_wouldDo_54 : decode cX4_wouldDo 54 = .ok (.iinc 3 1, 3) := by decide +kernel
theorem dX4_wouldDo_57 : decode cX4_wouldDo 57 = .ok (.goto (-35), 3) := by decide +kernel
theorem dX4_wouldDo_60 : decode cX4_wouldDo 60 = .ok (.iconst 1, 1) := by decide +kernel
theorem dX4_wouldDo_61 : decode cX4_wouldDo 61 = .ok (.ireturn, 1) := by decide +kernel
theorem dX4_costOfNight_0 : decode cX4_costOfNight 0 = .ok (.aload_n 0, 1) := by decide +kernel
theorem dX4_costOfNight_1 : decode cX4_costOfNight 1 = .ok (.getfield 38, 3) := by decide +kernel
theorem dX4_costOfNight_4 : decode cX4_costOfNight 4 = .ok (.aload_n 0, 1) := by decide +kernel
theorem dX4_costOfNight_5 : decode cX4_costOfNight 5 = .ok (.getfield 19, 3) := by decide +kernel
theorem dX4_costOfNight_8 : decode cX4_costOfNight 8 = .ok (.invokevirtual 261, 3) := by decide +kernel
theorem dX4_costOfNight_11 : decode cX4_costOfNight 11 = .ok (.aload_n 0, 1) := by decide +kernel
theorem dX4_costOfNight_12 : decode cX4_costOfNight 12 = .ok (.getfield 38, 3) := by decide +kernel
theorem dX4_costOfNight_15 : decode cX4_costOfNight 15 = .ok (.iconst 5, 1) := by decide +kernel
theorem dX4_costOfNight_16 : decode cX4_costOfNight 16 = .ok (.iload_n 1, 1) := by decide +kernel
theorem dX4_costOfNight_17 : decode cX4_costOfNight 17 = .ok (.invokevirtual 249, 3) := by decide +kernel
theorem dX4_costOfNight_20 : decode cX4_costOfNight 20 = .ok (.aload_n 0, 1) := by decide +kernel
theorem dX4_costOfNight_21 : decode cX4_costOfNight 21 = .ok (.getfield 38, 3) := by decide +kernel
theorem dX4_costOfNight_24 : decode cX4_costOfNight 24 = .ok (.iload_n 2, 1) := by decide +kernel
theorem dX4_costOfNight_25 : decode cX4_costOfNight 25 = .ok (.invokevirtual 240, 3) := by decide +kernel
theorem dX4_costOfNight_28 : decode cX4_costOfNight 28 = .ok (.aload_n 0, 1) := by decide +kernel
theorem dX4_costOfNight_29 : decode cX4_costOfNight 29 = .ok (.getfield 38, 3) := by decide +kernel
theorem dX4_costOfNight_32 : decode cX4_costOfNight 32 = .ok (.getfield 92, 3) := by decide +kernel
theorem dX4_costOfNight_35 : decode cX4_costOfNight 35 = .ok (.aload_n 0, 1) := by decide +kernel
theorem dX4_costOfNight_36 : decode cX4_costOfNight 36 = .ok (.getfield 19, 3) := by decide +kernel
theorem dX4_costOfNight_39 : decode cX4_costOfNight 39 = .ok (.getfield 92, 3) := by decide +kernel
theorem dX4_costOfNight_42 : decode cX4_costOfNight 42 = .ok (.isub, 1) := by decide +kernel
theorem dX4_costOfNight_43 : decode cX4_costOfNight 43 = .ok (.ireturn, 1) := by decide +kernel
theorem dX4_groupsFrom_0 : decode cX4_groupsFrom 0 = .ok (.lload_n 0, 1) := by decide +kernel
theorem dX4_groupsFrom_1 : decode cX4_groupsFrom 1 = .ok (.lstore_n 3, 1) := by decide +kernel
theorem dX4_groupsFrom_2 : decode cX4_groupsFrom 2 = .ok (.iconst 0, 1) := by decide +kernel
theorem dX4_groupsFrom_3 : decode cX4_groupsFrom 3 = .ok (.istore 5, 2) := by decide +kernel
theorem dX4_groupsFrom_5 : decode cX4_groupsFrom 5 = .ok (.iload 5, 2) := by decide +kernel
theorem dX4_groupsFrom_7 : decode cX4_groupsFrom 7 = .ok (.iload_n 2, 1) := by decide +kernel
theorem dX4_groupsFrom_8 : decode cX4_groupsFrom 8 = .ok (.if_icmp .ge 15, 3) := by decide +kernel
theorem dX4_groupsFrom_11 : decode cX4_groupsFrom 11 = .ok (.lload_n 3, 1) := by decide +kernel
theorem dX4_groupsFrom_12 : decode cX4_groupsFrom 12 = .ok (.ldc2_w 287, 3) := by decide +kernel
theorem dX4_groupsFrom_15 : decode cX4_groupsFrom 15 = .ok (.ldiv, 1) := by decide +kernel
theorem dX4_groupsFrom_16 : decode cX4_groupsFrom 16 = .ok (.lstore_n 3, 1) := by decide +kernel
theorem dX4_groupsFrom_17 : decode cX4_groupsFrom 17 = .ok (.iinc 5 1, 3) := by decide +kernel
theorem dX4_groupsFrom_20 : decode cX4_groupsFrom 20 = .ok (.goto (-15), 3) := by decide +kernel
theorem dX4_groupsFrom_23 : decode cX4_groupsFrom 23 = .ok (.lload_n 3, 1) := by decide +kernel
theorem dX4_groupsFrom_24 : decode cX4_groupsFrom 24 = .ok (.lreturn, 1) := by decide +kernel
theorem dX4_succeeds_0 : decode cX4_succeeds 0 = .ok (.iload_n 1, 1) := by decide +kernel
theorem dX4_succeeds_1 : decode cX4_succeeds 1 = .ok (.sipush 10000, 3) := by decide +kernel
theorem dX4_succeeds_4 : decode cX4_succeeds 4 = .ok (.irem, 1) := by decide +kernel
theorem dX4_succeeds_5 : decode cX4_succeeds 5 = .ok (.istore_n 2, 1) := by decide +kernel
theorem dX4_succeeds_6 : decode cX4_succeeds 6 = .ok (.iload_n 2, 1) := by decide +kernel
theorem dX4_succeeds_7 : decode cX4_succeeds 7 = .ok (.sipush 1000, 3) := by decide +kernel
theorem dX4_succeeds_10 : decode cX4_succeeds 10 = .ok (.idiv, 1) := by decide +kernel
theorem dX4_succeeds_11 : decode cX4_succeeds 11 = .ok (.istore_n 3, 1) := by decide +kernel
theorem dX4_succeeds_12 : decode cX4_succeeds 12 = .ok (.iload_n 2, 1) := by decide +kernel
theorem dX4_succeeds_13 : decode cX4_succeeds 13 = .ok (.sipush 1000, 3) := by decide +kernel
theorem dX4_succeeds_16 : decode cX4_succeeds 16 = .ok (.irem, 1) := by decide +kernel
theorem dX4_succeeds_17 : decode cX4_succeeds 17 = .ok (.istore 4, 2) := by decide +kernel
theorem dX4_succeeds_19 : decode cX4_succeeds 19 = .ok (.iload_n 1, 1) := by decide +kernel
theorem dX4_succeeds_20 : decode cX4_succeeds 20 = .ok (.sipush 10000, 3) := by decide +kernel
theorem dX4_succeeds_23 : decode cX4_succeeds 23 = .ok (.idiv, 1) := by decide +kernel
theorem dX4_succeeds_24 : decode cX4_succeeds 24 = .ok (.tableswitch 205 1 9 #[52, 61, 72, 83, 92, 103, 125, 148, 182], 52) := by decide +kernel
theorem dX4_succeeds_76 : decode cX4_succeeds 76 = .ok (.aload_n 0, 1) := by decide +kernel
theorem dX4_succeeds_77 : decode cX4_succeeds 77 = .ok (.getfield 38, 3) := by decide +kernel
theorem dX4_succeeds_80 : decode cX4_succeeds 80 = .ok (.iload_n 2, 1) := by decide +kernel
theorem dX4_succeeds_81 : decode cX4_succeeds 81 = .ok (.invokevirtual 347, 3) := by decide +kernel
theorem dX4_succeeds_84 : decode cX4_succeeds 84 = .ok (.ireturn, 1) := by decide +kernel
theorem dX4_succeeds_85 : decode cX4_succeeds 85 = .ok (.aload_n 0, 1) := by decide +kernel
theorem dX4_succeeds_86 : decode cX4_succeeds 86 = .ok (.getfield 38, 3) := by decide +kernel
theorem dX4_succeeds_89 : decode cX4_succeeds 89 = .ok (.iload_n 3, 1) := by decide +kernel
theorem dX4_succeeds_90 : decode cX4_succeeds 90 = .ok (.iload 4, 2) := by decide +kernel
theorem dX4_succeeds_92 : decode cX4_succeeds 92 = .ok (.invokevirtual 350, 3) := by decide +kernel
theorem dX4_succeeds_95 : decode cX4_succeeds 95 = .ok (.ireturn, 1) := by decide +kernel
theorem dX4_succeeds_96 : decode cX4_succeeds 96 = .ok (.aload_n 0, 1) := by decide +kernel
theorem dX4_succeeds_97 : decode cX4_succeeds 97 = .ok (.getfield 38, 3) := by decide +kernel
theorem dX4_succeeds_100 : decode cX4_succeeds 100 = .ok (.iload_n 3, 1) := by decide +kernel
theorem dX4_succeeds_101 : decode cX4_succeeds 101 = .ok (.iload 4, 2) := by decide +kernel
theorem dX4_succeeds_103 : decode cX4_succeeds 103 = .ok (.invokevirtual 353, 3) := by decide +kernel
theorem dX4_succeeds_106 : decode cX4_succeeds 106 = .ok (.ireturn, 1) := by decide +kernel
theorem dX4_succeeds_107 : decode cX4_succeeds 107 = .ok (.aload_n 0, 1) := by decide +kernel
theorem dX4_succeeds_108 : decode cX4_succeeds 108 = .ok (.getfield 38, 3) := by decide +kernel
theorem dX4_succeeds_111 : decode cX4_succeeds 111 = .ok (.iload_n 2, 1) := by decide +kernel
theorem dX4_succeeds_112 : decode cX4_succeeds 112 = .ok (.invokevirtual 356, 3) := by decide +kernel
theorem dX4_succeeds_115 : decode cX4_succeeds 115 = .ok (.ireturn, 1) := by decide +kernel
theorem dX4_succeeds_116 : decode cX4_succeeds 116 = .ok (.aload_n 0, 1) := by decide +kernel
theorem dX4_succeeds_117 : decode cX4_succeeds 117 = .ok (.getfield 38, 3) := by decide +kernel
theorem dX4_succeeds_120 : decode cX4_succeeds 120 = .ok (.iload_n 3, 1) := by decide +kernel
theorem dX4_succeeds_121 : decode cX4_succeeds 121 = .ok (.iload 4, 2) := by decide +kernel
theorem dX4_succeeds_123 : decode cX4_succeeds 123 = .ok (.invokevirtual 359, 3) := by decide +kernel
theorem dX4_succeeds_126 : decode cX4_succeeds 126 = .ok (.ireturn, 1) := by decide +kernel
theorem dX4_succeeds_127 : decode cX4_succeeds 127 = .ok (.iload 4, 2) := by decide +kernel
theorem dX4_succeeds_129 : decode cX4_succeeds 129 = .ok (.ifCond .ne 18, 3) := by decide +kernel
theorem dX4_succeeds_132 : decode cX4_succeeds 132 = .ok (.aload_n 0, 1) := by decide +kernel
theorem dX4_succeeds_133 : decode cX4_succeeds 133 = .ok (.getfield 38, 3) := by decide +kernel
theorem dX4_succeeds_136 : decode cX4_succeeds 136 = .ok (.iload_n 3, 1) := by decide +kernel
theorem dX4_succeeds_137 : decode cX4_succeeds 137 = .ok (.invokevirtual 362, 3) := by decide +kernel
theorem dX4_succeeds_140 : decode cX4_succeeds 140 = .ok (.ifCond .eq 7, 3) := by decide +kernel
theorem dX4_succeeds_143 : decode cX4_succeeds 143 = .ok (.iconst 1, 1) := by decide +kernel
theorem dX4_succeeds_144 : decode cX4_succeeds 144 = .ok (.goto 4, 3) := by decide +kernel
theorem dX4_succeeds_147 : decode cX4_succeeds 147 = .ok (.iconst 0, 1) := by decide +kernel
theorem dX4_succeeds_148 : decode cX4_succeeds 148 = .ok (.ireturn, 1) := by decide +kernel
theorem dX4_succeeds_149 : decode cX4_succeeds 149 = .ok (.iload_n 2, 1) := by decide +kernel
theorem dX4_succeeds_150 : decode cX4_succeeds 150 = .ok (.bipush 100, 2) := by decide +kernel
theorem dX4_succeeds_152 : decode cX4_succeeds 152 = .ok (.if_icmp .ge 18, 3) := by decide +kernel
theorem dX4_succeeds_155 : decode cX4_succeeds 155 = .ok (.aload_n 0, 1) := by decide +kernel
theorem dX4_succeeds_156 : decode cX4_succeeds 156 = .ok (.getfield 38, 3) := by decide +kernel
theorem dX4_succeeds_159 : decode cX4_succeeds 159 = .ok (.getfield 98, 3) := by decide +kernel
theorem dX4_succeeds_162 : decode cX4_succeeds 162 = .ok (.iload_n 2, 1) := by decide +kernel
theorem dX4_succeeds_163 : decode cX4_succeeds 163 = .ok (.if_icmp .gt 7, 3) := by decide +kernel
theorem dX4_succeeds_166 : decode cX4_succeeds 166 = .ok (.iconst 1, 1) := by decide +kernel
theorem dX4_succeeds_167 : decode cX4_succeeds 167 = .ok (.goto 4, 3) := by decide +kernel
theorem dX4_succeeds_170 : decode cX4_succeeds 170 = .ok (.iconst 0, 1) := by decide +kernel
theorem dX4_succeeds_171 : decode cX4_succeeds 171 = .ok (.ireturn, 1) := by decide +kernel
theorem dX4_succeeds_172 : decode cX4_succeeds 172 = .ok (.iload 4, 2) := by decide +kernel
theorem dX4_succeeds_174 : decode cX4_succeeds 174 = .ok (.bipush 100, 2) := by decide +kernel
theorem dX4_succeeds_176 : decode cX4_succeeds 176 = .ok (.irem, 1) := by decide +kernel
theorem dX4_succeeds_177 : decode cX4_succeeds 177 = .ok (.ifCond .ne 27, 3) := by decide +kernel
theorem dX4_succeeds_180 : decode cX4_succeeds 180 = .ok (.aload_n 0, 1) := by decide +kernel
theorem dX4_succeeds_181 : decode cX4_succeeds 181 = .ok (.aload_n 0, 1) := by decide +kernel
theorem dX4_succeeds_182 : decode cX4_succeeds 182 = .ok (.getfield 38, 3) := by decide +kernel
theorem dX4_succeeds_185 : decode cX4_succeeds 185 = .ok (.invokevirtual 144, 3) := by decide +kernel
theorem dX4_succeeds_188 : decode cX4_succeeds 188 = .ok (.iload_n 3, 1) := by decide +kernel
theorem dX4_succeeds_189 : decode cX4_succeeds 189 = .ok (.invokevirtual 152, 3) := by decide +kernel
theorem dX4_succeeds_192 : decode cX4_succeeds 192 = .ok (.iload 4, 2) := by decide +kernel
theorem dX4_succeeds_194 : decode cX4_succeeds 194 = .ok (.bipush 100, 2) := by decide +kernel
theorem dX4_succeeds_196 : decode cX4_succeeds 196 = .ok (.idiv, 1) := by decide +kernel
theorem dX4_succeeds_197 : decode cX4_succeeds 197 = .ok (.if_icmp .ne 7, 3) := by decide +kernel
theorem dX4_succeeds_200 : decode cX4_succeeds 200 = .ok (.iconst 1, 1) := by decide +kernel
theorem dX4_succeeds_201 : decode cX4_succeeds 201 = .ok (.goto 4, 3) := by decide +kernel
theorem dX4_succeeds_204 : decode cX4_succeeds 204 = .ok (.iconst 0, 1) := by decide +kernel
theorem dX4_succeeds_205 : decode cX4_succeeds 205 = .ok (.ireturn, 1) := by decide +kernel
theorem dX4_succeeds_206 : decode cX4_succeeds 206 = .ok (.iload_n 2, 1) := by decide +kernel
theorem dX4_succeeds_207 : decode cX4_succeeds 207 = .ok (.bipush 100, 2) := by decide +kernel
theorem dX4_succeeds_209 : decode cX4_succeeds 209 = .ok (.if_icmp .ge 18, 3) := by decide +kernel
theorem dX4_succeeds_212 : decode cX4_succeeds 212 = .ok (.aload_n 0, 1) := by decide +kernel
theorem dX4_succeeds_213 : decode cX4_succeeds 213 = .ok (.getfield 38, 3) := by decide +kernel
theorem dX4_succeeds_216 : decode cX4_succeeds 216 = .ok (.getfield 101, 3) := by decide +kernel
theorem dX4_succeeds_219 : decode cX4_succeeds 219 = .ok (.iload_n 2, 1) := by decide +kernel
theorem dX4_succeeds_220 : decode cX4_succeeds 220 = .ok (.if_icmp .lt 7, 3) := by decide +kernel
theorem dX4_succeeds_223 : decode cX4_succeeds 223 = .ok (.iconst 1, 1) := by decide +kernel
theorem dX4_succeeds_224 : decode cX4_succeeds 224 = .ok (.goto 4, 3) := by decide +kernel
theorem dX4_succeeds_227 : decode cX4_succeeds 227 = .ok (.iconst 0, 1) := by decide +kernel
theorem dX4_succeeds_228 : decode cX4_succeeds 228 = .ok (.ireturn, 1) := by decide +kernel
theorem dX4_succeeds_229 : decode cX4_succeeds 229 = .ok (.iconst 0, 1) := by decide +kernel
theorem dX4_succeeds_230 : decode cX4_succeeds 230 = .ok (.ireturn, 1) := by decide +kernel
theorem dX4_simulateTurn_0 : decode cX4_simulateTurn 0 = .ok (.iload_n 1, 1) := by decide +kernel
theorem dX4_simulateTurn_1 : decode cX4_simulateTurn 1 = .ok (.bipush 8, 2) := by decide +kernel
theorem dX4_simulateTurn_3 : decode cX4_simulateTurn 3 = .ok (.idiv, 1) := by decide +kernel
theorem dX4_simulateTurn_4 : decode cX4_simulateTurn 4 = .ok (.bipush 8, 2) := by decide +kernel
theorem dX4_simulateTurn_6 : decode cX4_simulateTurn 6 = .ok (.irem, 1) := by decide +kernel
theorem dX4_simulateTurn_7 : decode cX4_simulateTurn 7 = .ok (.istore_n 2, 1) := by decide +kernel
theorem dX4_simulateTurn_8 : decode cX4_simulateTurn 8 = .ok (.iload_n 1, 1) := by decide +kernel
theorem dX4_simulateTurn_9 : decode cX4_simulateTurn 9 = .ok (.bipush 8, 2) := by decide +kernel
theorem dX4_simulateTurn_11 : decode cX4_simulateTurn 11 = .ok (.irem, 1) := by decide +kernel
theorem dX4_simulateTurn_12 : decode cX4_simulateTurn 12 = .ok (.tableswitch 108 0 2 #[28, 65, 88], 28) := by decide +kernel
theorem dX4_simulateTurn_40 : decode cX4_simulateTurn 40 = .ok (.aload_n 0, 1) := by decide +kernel
theorem dX4_simulateTurn_41 : decode cX4_simulateTurn 41 = .ok (.getfield 38, 3) := by decide +kernel
theorem dX4_simulateTurn_44 : decode cX4_simulateTurn 44 = .ok (.iload_n 2, 1) := by decide +kernel
theorem dX4_simulateTurn_45 : decode cX4_simulateTurn 45 = .ok (.iconst 1, 1) := by decide +kernel
theorem dX4_simulateTurn_46 : decode cX4_simulateTurn 46 = .ok (.iload_n 1, 1) := by decide +kernel
theorem dX4_simulateTurn_47 : decode cX4_simulateTurn 47 = .ok (.bipush 64, 2) := by decide +kernel
theorem dX4_simulateTurn_49 : decode cX4_simulateTurn 49 = .ok (.idiv, 1) := by decide +kernel
theorem dX4_simulateTurn_50 : decode cX4_simulateTurn 50 = .ok (.bipush 99, 2) := by decide +kernel
theorem dX4_simulateTurn_52 : decode cX4_simulateTurn 52 = .ok (.irem, 1) := by decide +kernel
theorem dX4_simulateTurn_53 : decode cX4_simulateTurn 53 = .ok (.iadd, 1) := by decide +kernel
theorem dX4_simulateTurn_54 : decode cX4_simulateTurn 54 = .ok (.iload_n 1, 1) := by decide +kernel
theorem dX4_simulateTurn_55 : decode cX4_simulateTurn 55 = .ok (.sipush 8192, 3) := by decide +kernel
theorem dX4_simulateTurn_58 : decode cX4_simulateTurn 58 = .ok (.idiv, 1) := by decide +kernel
theorem dX4_simulateTurn_59 : decode cX4_simulateTurn 59 = .ok (.bipush 24, 2) := by decide +kernel
theorem dX4_simulateTurn_61 : decode cX4_simulateTurn 61 = .ok (.irem, 1) := by decide +kernel
theorem dX4_simulateTurn_62 : decode cX4_simulateTurn 62 = .ok (.iload_n 1, 1) := by decide +kernel
theorem dX4_simulateTurn_63 : decode cX4_simulateTurn 63 = .ok (.ldc_w 365, 3) := by decide +kernel
theorem dX4_simulateTurn_66 : decode cX4_simulateTurn 66 = .ok (.idiv, 1) := by decide +kernel
theorem dX4_simulateTurn_67 : decode cX4_simulateTurn 67 = .ok (.bipush 24, 2) := by decide +kernel
theorem dX4_simulateTurn_69 : decode cX4_simulateTurn 69 = .ok (.irem, 1) := by decide +kernel
theorem dX4_simulateTurn_70 : decode cX4_simulateTurn 70 = .ok (.invokevirtual 366, 3) := by decide +kernel
theorem dX4_simulateTurn_73 : decode cX4_simulateTurn 73 = .ok (.pop, 1) := by decide +kernel
theorem dX4_simulateTurn_74 : decode cX4_simulateTurn 74 = .ok (.goto 63, 3) := by decide +kernel
theorem dX4_simulateTurn_77 : decode cX4_simulateTurn 77 = .ok (.aload_n 0, 1) := by decide +kernel
theorem dX4_simulateTurn_78 : decode cX4_simulateTurn 78 = .ok (.getfield 38, 3) := by decide +kernel
theorem dX4_simulateTurn_81 : decode cX4_simulateTurn 81 = .ok (.iload_n 2, 1) := by decide +kernel
theorem dX4_simulateTurn_82 : decode cX4_simulateTurn 82 = .ok (.bipush 10, 2) := by decide +kernel
theorem dX4_simulateTurn_84 : decode cX4_simulateTurn 84 = .ok (.iload_n 1, 1) := by decide +kernel
theorem dX4_simulateTurn_85 : decode cX4_simulateTurn 85 = .ok (.bipush 64, 2) := by decide +kernel
theorem dX4_simulateTurn_87 : decode cX4_simulateTurn 87 = .ok (.idiv, 1) := by decide +kernel
theorem dX4_simulateTurn_88 : decode cX4_simulateTurn 88 = .ok (.sipush 200, 3) := by decide +kernel
theorem dX4_simulateTurn_91 : decode cX4_simulateTurn 91 = .ok (.irem, 1) := by decide +kernel
theorem dX4_simulateTurn_92 : decode cX4_simulateTurn 92 = .ok (.iadd, 1) := by decide +kernel
theorem dX4_simulateTurn_93 : decode cX4_simulateTurn 93 = .ok (.invokevirtual 350, 3) := by decide +kernel
theorem dX4_simulateTurn_96 : decode cX4_simulateTurn 96 = .ok (.pop, 1) := by decide +kernel
theorem dX4_simulateTurn_97 : decode cX4_simulateTurn 97 = .ok (.goto 40, 3) := by decide +kernel
theorem dX4_simulateTurn_100 : decode cX4_simulateTurn 100 = .ok (.aload_n 0, 1) := by decide +kernel
theorem dX4_simulateTurn_101 : decode cX4_simulateTurn 101 = .ok (.getfield 38, 3) := by decide +kernel
theorem dX4_simulateTurn_104 : decode cX4_simulateTurn 104 = .ok (.iconst 0, 1) := by decide +kernel
theorem dX4_simulateTurn_105 : decode cX4_simulateTurn 105 = .ok (.iload_n 1, 1) := by decide +kernel
theorem dX4_simulateTurn_106 : decode cX4_simulateTurn 106 = .ok (.bipush 64, 2) := by decide +kernel
theorem dX4_simulateTurn_108 : decode cX4_simulateTurn 108 = .ok (.idiv, 1) := by decide +kernel
theorem dX4_simulateTurn_109 : decode cX4_simulateTurn 109 = .ok (.sipush 251, 3) := by decide +kernel
theorem dX4_simulateTurn_112 : decode cX4_simulateTurn 112 = .ok (.irem, 1) := by decide +kernel
theorem dX4_simulateTurn_113 : decode cX4_simulateTurn 113 = .ok (.invokevirtual 353, 3) := by decide +kernel
theorem dX4_simulateTurn_116 : decode cX4_simulateTurn 116 = .ok (.pop, 1) := by decide +kernel
theorem dX4_simulateTurn_117 : decode cX4_simulateTurn 117 = .ok (.goto 20, 3) := by decide +kernel
theorem dX4_simulateTurn_120 : decode cX4_simulateTurn 120 = .ok (.aload_n 0, 1) := by decide +kernel
theorem dX4_simulateTurn_121 : decode cX4_simulateTurn 121 = .ok (.getfield 38, 3) := by decide +kernel
theorem dX4_simulateTurn_124 : decode cX4_simulateTurn 124 = .ok (.iconst 1, 1) := by decide +kernel
theorem dX4_simulateTurn_125 : decode cX4_simulateTurn 125 = .ok (.iload_n 1, 1) := by decide +kernel
theorem dX4_simulateTurn_126 : decode cX4_simulateTurn 126 = .ok (.bipush 8, 2) := by decide +kernel
theorem dX4_simulateTurn_128 : decode cX4_simulateTurn 128 = .ok (.idiv, 1) := by decide +kernel
theorem dX4_simulateTurn_129 : decode cX4_simulateTurn 129 = .ok (.bipush 9, 2) := by decide +kernel
theorem dX4_simulateTurn_131 : decode cX4_simulateTurn 131 = .ok (.irem, 1) := by decide +kernel
theorem dX4_simulateTurn_132 : decode cX4_simulateTurn 132 = .ok (.iadd, 1) := by decide +kernel
theorem dX4_simulateTurn_133 : decode cX4_simulateTurn 133 = .ok (.invokevirtual 347, 3) := by decide +kernel
theorem dX4_simulateTurn_136 : decode cX4_simulateTurn 136 = .ok (.pop, 1) := by decide +kernel
theorem dX4_simulateTurn_137 : decode cX4_simulateTurn 137 = .ok (.return_, 1) := by decide +kernel
theorem dJ5_init_d00df_0 : decode cJ5_init_d00df 0 = .ok (.aload_n 0, 1) := by decide +kernel
theorem dJ5_init_d00df_1 : decode cJ5_init_d00df 1 = .ok (.invokespecial 3, 3) := by decide +kernel
theorem dJ5_init_d00df_4 : decode cJ5_init_d00df 4 = .ok (.getstatic 18, 3) := by decide +kernel
theorem dJ5_init_d00df_7 : decode cJ5_init_d00df 7 = .ok (.ifCond .eq 18, 3) := by decide +kernel
theorem dJ5_init_d00df_10 : decode cJ5_init_d00df 10 = .ok (.aload_n 0, 1) := by decide +kernel
theorem dJ5_init_d00df_11 : decode cJ5_init_d00df 11 = .ok (.iload_n 1, 1) := by decide +kernel
theorem dJ5_init_d00df_12 : decode cJ5_init_d00df 12 = .ok (.newarray .byte, 2) := by decide +kernel
theorem dJ5_init_d00df_14 : decode cJ5_init_d00df 14 = .ok (.putfield 15, 3) := by decide +kernel
theorem dJ5_init_d00df_17 : decode cJ5_init_d00df 17 = .ok (.aload_n 0, 1) := by decide +kernel
theorem dJ5_init_d00df_18 : decode cJ5_init_d00df 18 = .ok (.iconst 0, 1) := by decide +kernel
theorem dJ5_init_d00df_19 : decode cJ5_init_d00df 19 = .ok (.putfield 22, 3) := by decide +kernel
theorem dJ5_init_d00df_22 : decode cJ5_init_d00df 22 = .ok (.goto 16, 3) := by decide +kernel
theorem dJ5_init_d00df_25 : decode cJ5_init_d00df 25 = .ok (.aload_n 0, 1) := by decide +kernel
theorem dJ5_init_d00df_26 : decode cJ5_init_d00df 26 = .ok (.iload_n 1, 1) := by decide +kernel
theorem dJ5_init_d00df_27 : decode cJ5_init_d00df 27 = .ok (.invokestatic 26, 3) := by decide +kernel
theorem dJ5_init_d00df_30 : decode cJ5_init_d00df 30 = .ok (.putfield 15, 3) := by decide +kernel
theorem dJ5_init_d00df_33 : decode cJ5_init_d00df 33 = .ok (.aload_n 0, 1) := by decide +kernel
theorem dJ5_init_d00df_34 : decode cJ5_init_d00df 34 = .ok (.iconst 1, 1) := by decide +kernel
theorem dJ5_init_d00df_35 : decode cJ5_init_d00df 35 = .ok (.putfield 22, 3) := by decide +kernel
theorem dJ5_init_d00df_38 : decode cJ5_init_d00df 38 = .ok (.return_, 1) := by decide +kernel
theorem dJ5_length_8abf5_0 : decode cJ5_length_8abf5 0 = .ok (.aload_n 0, 1) := by decide +kernel
theorem dJ5_length_8abf5_1 : decode cJ5_length_8abf5 1 = .ok (.getfield 79, 3) := by decide +kernel
theorem dJ5_length_8abf5_4 : decode cJ5_length_8abf5 4 = .ok (.ireturn, 1) := by decide +kernel
theorem dJ5_ensureCapacityInternal_d00df_0 : decode cJ5_ensureCapacityInternal_d00df 0 = .ok (.aload_n 0, 1) := by decide +kernel
theorem dJ5_ensureCapacityInternal_d00df_1 : decode cJ5_ensureCapacityInternal_d00df 1 = .ok (.getfield 15, 3) := by decide +kernel
theorem dJ5_ensureCapacityInternal_d00df_4 : decode cJ5_ensureCapacityInternal_d00df 4 = .ok (.arraylength, 1) := by decide +kernel
theorem dJ5_ensureCapacityInternal_d00df_5 : decode cJ5_ensureCapacityInternal_d00df 5 = .ok (.aload_n 0, 1) := by decide +kernel
theorem dJ5_ensureCapacityInternal_d00df_6 : decode cJ5_ensureCapacityInternal_d00df 6 = .ok (.getfield 22, 3) := by decide +kernel
theorem dJ5_ensureCapacityInternal_d00df_9 : decode cJ5_ensureCapacityInternal_d00df 9 = .ok (.ishr, 1) := by decide +kernel
theorem dJ5_ensureCapacityInternal_d00df_10 : decode cJ5_ensureCapacityInternal_d00df 10 = .ok (.istore_n 2, 1) := by decide +kernel
theorem dJ5_ensureCapacityInternal_d00df_11 : decode cJ5_ensureCapacityInternal_d00df 11 = .ok (.iload_n 1, 1) := by decide +kernel
theorem dJ5_ensureCapacityInternal_d00df_12 : decode cJ5_ensureCapacityInternal_d00df 12 = .ok (.iload_n 2, 1) := by decide +kernel
theorem dJ5_ensureCapacityInternal_d00df_13 : decode cJ5_ensureCapacityInternal_d00df 13 = .ok (.isub, 1) := by decide +kernel
theorem dJ5_ensureCapacityInternal_d00df_14 : decode cJ5_ensureCapacityInternal_d00df 14 = .ok (.ifCond .le 24, 3) := by decide +kernel
theorem dJ5_ensureCapacityInternal_d00df_17 : decode cJ5_ensureCapacityInternal_d00df 17 = .ok (.aload_n 0, 1) := by decide +kernel
theorem dJ5_ensureCapacityInternal_d00df_18 : decode cJ5_ensureCapacityInternal_d00df 18 = .ok (.aload_n 0, 1) := by decide +kernel
theorem dJ5_ensureCapacityInternal_d00df_19 : decode cJ5_ensureCapacityInternal_d00df 19 = .ok (.getfield 15, 3) := by decide +kernel
theorem dJ5_ensureCapacityInternal_d00df_22 : decode cJ5_ensureCapacityInternal_d00df 22 = .ok (.aload_n 0, 1) := by decide +kernel
theorem dJ5_ensureCapacityInternal_d00df_23 : decode cJ5_ensureCapacityInternal_d00df 23 = .ok (.iload_n 1, 1) := by decide +kernel
theorem dJ5_ensureCapacityInternal_d00df_24 : decode cJ5_ensureCapacityInternal_d00df 24 = .ok (.invokevirtual 104, 3) := by decide +kernel
theorem dJ5_ensureCapacityInternal_d00df_27 : decode cJ5_ensureCapacityInternal_d00df 27 = .ok (.aload_n 0, 1) := by decide +kernel
theorem dJ5_ensureCapacityInternal_d00df_28 : decode cJ5_ensureCapacityInternal_d00df 28 = .ok (.getfield 22, 3) := by decide +kernel
theorem dJ5_ensureCapacityInternal_d00df_31 : decode cJ5_ensureCapacityInternal_d00df 31 = .ok (.ishl, 1) := by decide +kernel
theorem dJ5_ensureCapacityInternal_d00df_32 : decode cJ5_ensureCapacityInternal_d00df 32 = .ok (.invokestatic 108, 3) := by decide +kernel
theorem dJ5_ensureCapacityInternal_d00df_35 : decode cJ5_ensureCapacityInternal_d00df 35 = .ok (.putfield 15, 3) := by decide +kernel
theorem dJ5_ensureCapacityInternal_d00df_38 : decode cJ5_ensureCapacityInternal_d00df 38 = .ok (.return_, 1) := by decide +kernel
theorem dJ5_newCapacity_0f7a4_0 : decode cJ5_newCapacity_0f7a4 0 = .ok (.aload_n 0, 1) := by decide +kernel
theorem dJ5_newCapacity_0f7a4_1 : decode cJ5_newCapacity_0f7a4 1 = .ok (.getfield 15, 3) := by decide +kernel
theorem dJ5_newCapacity_0f7a4_4 : decode cJ5_newCapacity_0f7a4 4 = .ok (.arraylength, 1) := by decide +kernel
theorem dJ5_newCapacity_0f7a4_5 : decode cJ5_newCapacity_0f7a4 5 = .ok (.istore_n 2, 1) := by decide +kernel
theorem dJ5_newCapacity_0f7a4_6 : decode cJ5_newCapacity_0f7a4 6 = .ok (.iload_n 1, 1) := by decide +kernel
theorem dJ5_newCapacity_0f7a4_7 : decode cJ5_newCapacity_0f7a4 7 = .ok (.aload_n 0, 1) := by decide +kernel
theorem dJ5_newCapacity_0f7a4_8 : decode cJ5_newCapacity_0f7a4 8 = .ok (.getfield 22, 3) := by decide +kernel
theorem dJ5_newCapacity_0f7a4_11 : decode cJ5_newCapacity_0f7a4 11 = .ok (.ishl, 1) := by decide +kernel
theorem dJ5_newCapacity_0f7a4_12 : decode cJ5_newCapacity_0f7a4 12 = .ok (.istore_n 3, 1) := by decide +kernel
theorem dJ5_newCapacity_0f7a4_13 : decode cJ5_newCapacity_0f7a4 13 = .ok (.iload_n 3, 1) := by decide +kernel
theorem dJ5_newCapacity_0f7a4_14 : decode cJ5_newCapacity_0f7a4 14 = .ok (.iload_n 2, 1) := by decide +kernel
theorem dJ5_newCapacity_0f7a4_15 : decode cJ5_newCapacity_0f7a4 15 = .ok (.isub, 1) := by decide +kernel
theorem dJ5_newCapacity_0f7a4_16 : decode cJ5_newCapacity_0f7a4 16 = .ok (.istore 4, 2) := by decide +kernel
theorem dJ5_newCapacity_0f7a4_18 : decode cJ5_newCapacity_0f7a4 18 = .ok (.iload_n 2, 1) := by decide +kernel
theorem dJ5_newCapacity_0f7a4_19 : decode cJ5_newCapacity_0f7a4 19 = .ok (.iload 4, 2) := by decide +kernel
theorem dJ5_newCapacity_0f7a4_21 : decode cJ5_newCapacity_0f7a4 21 = .ok (.iload_n 2, 1) := by decide +kernel
theorem dJ5_newCapacity_0f7a4_22 : decode cJ5_newCapacity_0f7a4 22 = .ok (.iconst 2, 1) := by decide +kernel
theorem dJ5_newCapacity_0f7a4_23 : decode cJ5_newCapacity_0f7a4 23 = .ok (.aload_n 0, 1) := by decide +kernel
theorem dJ5_newCapacity_0f7a4_24 : decode cJ5_newCapacity_0f7a4 24 = .ok (.getfield 22, 3) := by decide +kernel
theorem dJ5_newCapacity_0f7a4_27 : decode cJ5_newCapacity_0f7a4 27 = .ok (.ishl, 1) := by decide +kernel
theorem dJ5_newCapacity_0f7a4_28 : decode cJ5_newCapacity_0f7a4 28 = .ok (.iadd, 1) := by decide +kernel
theorem dJ5_newCapacity_0f7a4_29 : decode cJ5_newCapacity_0f7a4 29 = .ok (.invokestatic 114, 3) := by decide +kernel
theorem dJ5_newCapacity_0f7a4_32 : decode cJ5_newCapacity_0f7a4 32 = .ok (.istore 5, 2) := by decide +kernel
theorem dJ5_newCapacity_0f7a4_34 : decode cJ5_newCapacity_0f7a4 34 = .ok (.iload 5, 2) := by decide +kernel
theorem dJ5_newCapacity_0f7a4_36 : decode cJ5_newCapacity_0f7a4 36 = .ok (.ldc 39, 2) := by decide +kernel
theorem dJ5_newCapacity_0f7a4_38 : decode cJ5_newCapacity_0f7a4 38 = .ok (.if_icmp .ne 13, 3) := by decide +kernel
theorem dJ5_newCapacity_0f7a4_41 : decode cJ5_newCapacity_0f7a4 41 = .ok (.new 120, 3) := by decide +kernel
theorem dJ5_newCapacity_0f7a4_44 : decode cJ5_newCapacity_0f7a4 44 = .ok (.dup, 1) := by decide +kernel
theorem dJ5_newCapacity_0f7a4_45 : decode cJ5_newCapacity_0f7a4 45 = .ok (.ldc 122, 2) := by decide +kernel
theorem dJ5_newCapacity_0f7a4_47 : decode cJ5_newCapacity_0f7a4 47 = .ok (.invokespecial 124, 3) := by decide +kernel
theorem dJ5_newCapacity_0f7a4_50 : decode cJ5_newCapacity_0f7a4 50 = .ok (.athrow, 1) := by decide +kernel
theorem dJ5_newCapacity_0f7a4_51 : decode cJ5_newCapacity_0f7a4 51 = .ok (.iload 5, 2) := by decide +kernel
theorem dJ5_newCapacity_0f7a4_53 : decode cJ5_newCapacity_0f7a4 53 = .ok (.aload_n 0, 1) := by decide +kernel
theorem dJ5_newCapacity_0f7a4_54 : decode cJ5_newCapacity_0f7a4 54 = .ok (.getfield 22, 3) := by decide +kernel
theorem dJ5_newCapacity_0f7a4_57 : decode cJ5_newCapacity_0f7a4 57 = .ok (.ishr, 1) := by decide +kernel
theorem dJ5_newCapacity_0f7a4_58 : decode cJ5_newCapacity_0f7a4 58 = .ok (.ireturn, 1) := by decide +kernel
theorem dJ5_inflate_da8c8_0 : decode cJ5_inflate_da8c8 0 = .ok (.aload_n 0, 1) := by decide +kernel
theorem dJ5_inflate_da8c8_1 : decode cJ5_inflate_da8c8 1 = .ok (.invokevirtual 83, 3) := by decide +kernel
theorem dJ5_inflate_da8c8_4 : decode cJ5_inflate_da8c8 4 = .ok (.ifCond .ne 4, 3) := by decide +kernel
theorem dJ5_inflate_da8c8_7 : decode cJ5_inflate_da8c8 7 = .ok (.return_, 1) := by decide +kernel
theorem dJ5_inflate_da8c8_8 : decode cJ5_inflate_da8c8 8 = .ok (.aload_n 0, 1) := by decide +kernel
theorem dJ5_inflate_da8c8_9 : decode cJ5_inflate_da8c8 9 = .ok (.getfield 15, 3) := by decide +kernel
theorem dJ5_inflate_da8c8_12 : decode cJ5_inflate_da8c8 12 = .ok (.arraylength, 1) := by decide +kernel
theorem dJ5_inflate_da8c8_13 : decode cJ5_inflate_da8c8 13 = .ok (.invokestatic 26, 3) := by decide +kernel
theorem dJ5_inflate_da8c8_16 : decode cJ5_inflate_da8c8 16 = .ok (.astore_n 1, 1) := by decide +kernel
theorem dJ5_inflate_da8c8_17 : decode cJ5_inflate_da8c8 17 = .ok (.aload_n 0, 1) := by decide +kernel
theorem dJ5_inflate_da8c8_18 : decode cJ5_inflate_da8c8 18 = .ok (.getfield 15, 3) := by decide +kernel
theorem dJ5_inflate_da8c8_21 : decode cJ5_inflate_da8c8 21 = .ok (.iconst 0, 1) := by decide +kernel
theorem dJ5_inflate_da8c8_22 : decode cJ5_inflate_da8c8 22 = .ok (.aload_n 1, 1) := by decide +kernel
theorem dJ5_inflate_da8c8_23 : decode cJ5_inflate_da8c8 23 = .ok (.iconst 0, 1) := by decide +kernel
theorem dJ5_inflate_da8c8_24 : decode cJ5_inflate_da8c8 24 = .ok (.aload_n 0, 1) := by decide +kernel
theorem dJ5_inflate_da8c8_25 : decode cJ5_inflate_da8c8 25 = .ok (.getfield 79, 3) := by decide +kernel
theorem dJ5_inflate_da8c8_28 : decode cJ5_inflate_da8c8 28 = .ok (.invokestatic 125, 3) := by decide +kernel
theorem dJ5_inflate_da8c8_31 : decode cJ5_inflate_da8c8 31 = .ok (.aload_n 0, 1) := by decide +kernel
theorem dJ5_inflate_da8c8_32 : decode cJ5_inflate_da8c8 32 = .ok (.aload_n 1, 1) := by decide +kernel
theorem dJ5_inflate_da8c8_33 : decode cJ5_inflate_da8c8 33 = .ok (.putfield 15, 3) := by decide +kernel
theorem dJ5_inflate_da8c8_36 : decode cJ5_inflate_da8c8 36 = .ok (.aload_n 0, 1) := by decide +kernel
theorem dJ5_inflate_da8c8_37 : decode cJ5_inflate_da8c8 37 = .ok (.iconst 1, 1) := by decide +kernel
theorem dJ5_inflate_da8c8_38 : decode cJ5_inflate_da8c8 38 = .ok (.putfield 22, 3) := by decide +kernel
theorem dJ5_inflate_da8c8_41 : decode cJ5_inflate_da8c8 41 = .ok (.return_, 1) := by decide +kernel
theorem dJ5_charAt_5068e_0 : decode cJ5_charAt_5068e 0 = .ok (.aload_n 0, 1) := by decide +kernel
theorem dJ5_charAt_5068e_1 : decode cJ5_charAt_5068e 1 = .ok (.getfield 22, 3) := by decide +kernel
theorem dJ5_charAt_5068e_4 : decode cJ5_charAt_5068e 4 = .ok (.istore_n 2, 1) := by decide +kernel
theorem dJ5_charAt_5068e_5 : decode cJ5_charAt_5068e 5 = .ok (.aload_n 0, 1) := by decide +kernel
theorem dJ5_charAt_5068e_6 : decode cJ5_charAt_5068e 6 = .ok (.getfield 15, 3) := by decide +kernel
theorem dJ5_charAt_5068e_9 : decode cJ5_charAt_5068e 9 = .ok (.astore_n 3, 1) := by decide +kernel
theorem dJ5_charAt_5068e_10 : decode cJ5_charAt_5068e 10 = .ok (.aload_n 0, 1) := by decide +kernel
theorem dJ5_charAt_5068e_11 : decode cJ5_charAt_5068e 11 = .ok (.getfield 79, 3) := by decide +kernel
theorem dJ5_charAt_5068e_14 : decode cJ5_charAt_5068e 14 = .ok (.aload_n 3, 1) := by decide +kernel
theorem dJ5_charAt_5068e_15 : decode cJ5_charAt_5068e 15 = .ok (.arraylength, 1) := by decide +kernel
theorem dJ5_charAt_5068e_16 : decode cJ5_charAt_5068e 16 = .ok (.iload_n 2, 1) := by decide +kernel
theorem dJ5_charAt_5068e_17 : decode cJ5_charAt_5068e 17 = .ok (.ishr, 1) := by decide +kernel
theorem dJ5_charAt_5068e_18 : decode cJ5_charAt_5068e 18 = .ok (.invokestatic 138, 3) := by decide +kernel
theorem dJ5_charAt_5068e_21 : decode cJ5_charAt_5068e 21 = .ok (.istore 4, 2) := by decide +kernel
theorem dJ5_charAt_5068e_23 : decode cJ5_charAt_5068e 23 = .ok (.iload_n 1, 1) := by decide +kernel
theorem dJ5_charAt_5068e_24 : decode cJ5_charAt_5068e 24 = .ok (.iload 4, 2) := by decide +kernel
theorem dJ5_charAt_5068e_26 : decode cJ5_charAt_5068e 26 = .ok (.invokestatic 144, 3) := by decide +kernel
theorem dJ5_charAt_5068e_29 : decode cJ5_charAt_5068e 29 = .ok (.iload_n 2, 1) := by decide +kernel
theorem dJ5_charAt_5068e_30 : decode cJ5_charAt_5068e 30 = .ok (.ifCond .ne 12, 3) := by decide +kernel
theorem dJ5_charAt_5068e_33 : decode cJ5_charAt_5068e 33 = .ok (.aload_n 3, 1) := by decide +kernel
theorem dJ5_charAt_5068e_34 : decode cJ5_charAt_5068e 34 = .ok (.iload_n 1, 1) := by decide +kernel
theorem dJ5_charAt_5068e_35 : decode cJ5_charAt_5068e 35 = .ok (.baload, 1) := by decide +kernel
theorem dJ5_charAt_5068e_36 : decode cJ5_charAt_5068e 36 = .ok (.sipush 255, 3) := by decide +kernel
theorem dJ5_charAt_5068e_39 : decode cJ5_charAt_5068e 39 = .ok (.iand, 1) := by decide +kernel
theorem dJ5_charAt_5068e_40 : decode cJ5_charAt_5068e 40 = .ok (.i2c, 1) := by decide +kernel
theorem dJ5_charAt_5068e_41 : decode cJ5_charAt_5068e 41 = .ok (.ireturn, 1) := by decide +kernel
theorem dJ5_charAt_5068e_42 : decode cJ5_charAt_5068e 42 = .ok (.aload_n 3, 1) := by decide +kernel
theorem dJ5_charAt_5068e_43 : decode cJ5_charAt_5068e 43 = .ok (.iload_n 1, 1) := by decide +kernel
theorem dJ5_charAt_5068e_44 : decode cJ5_charAt_5068e 44 = .ok (.invokestatic 148, 3) := by decide +kernel
theorem dJ5_charAt_5068e_47 : decode cJ5_charAt_5068e 47 = .ok (.ireturn, 1) := by decide +kernel
theorem dJ5_append_cf1ce_0 : decode cJ5_append_cf1ce 0 = .ok (.aload_n 1, 1) := by decide +kernel
theorem dJ5_append_cf1ce_1 : decode cJ5_append_cf1ce 1 = .ok (.ifnonnull 8, 3) := by decide +kernel
theorem dJ5_append_cf1ce_4 : decode cJ5_append_cf1ce 4 = .ok (.aload_n 0, 1) := by decide +kernel
theorem dJ5_append_cf1ce_5 : decode cJ5_append_cf1ce 5 = .ok (.invokevirtual 204, 3) := by decide +kernel
theorem dJ5_append_cf1ce_8 : decode cJ5_append_cf1ce 8 = .ok (.areturn, 1) := by decide +kernel
theorem dJ5_append_cf1ce_9 : decode cJ5_append_cf1ce 9 = .ok (.aload_n 1, 1) := by decide +kernel
theorem dJ5_append_cf1ce_10 : decode cJ5_append_cf1ce 10 = .ok (.invokevirtual 32, 3) := by decide +kernel
theorem dJ5_append_cf1ce_13 : decode cJ5_append_cf1ce 13 = .ok (.istore_n 2, 1) := by decide +kernel
theorem dJ5_append_cf1ce_14 : decode cJ5_append_cf1ce 14 = .ok (.aload_n 0, 1) := by decide +kernel
theorem dJ5_append_cf1ce_15 : decode cJ5_append_cf1ce 15 = .ok (.aload_n 0, 1) := by decide +kernel
theorem dJ5_append_cf1ce_16 : decode cJ5_append_cf1ce 16 = .ok (.getfield 79, 3) := by decide +kernel
theorem dJ5_append_cf1ce_19 : decode cJ5_append_cf1ce 19 = .ok (.iload_n 2, 1) := by decide +kernel
theorem dJ5_append_cf1ce_20 : decode cJ5_append_cf1ce 20 = .ok (.iadd, 1) := by decide +kernel
theorem dJ5_append_cf1ce_21 : decode cJ5_append_cf1ce 21 = .ok (.invokevirtual 100, 3) := by decide +kernel
theorem dJ5_append_cf1ce_24 : decode cJ5_append_cf1ce 24 = .ok (.aload_n 0, 1) := by decide +kernel
theorem dJ5_append_cf1ce_25 : decode cJ5_append_cf1ce 25 = .ok (.aload_n 0, 1) := by decide +kernel
theorem dJ5_append_cf1ce_26 : decode cJ5_append_cf1ce 26 = .ok (.getfield 79, 3) := by decide +kernel
theorem dJ5_append_cf1ce_29 : decode cJ5_append_cf1ce 29 = .ok (.aload_n 1, 1) := by decide +kernel
theorem dJ5_append_cf1ce_30 : decode cJ5_append_cf1ce 30 = .ok (.invokevirtual 208, 3) := by decide +kernel
theorem dJ5_append_cf1ce_33 : decode cJ5_append_cf1ce 33 = .ok (.aload_n 0, 1) := by decide +kernel
theorem dJ5_append_cf1ce_34 : decode cJ5_append_cf1ce 34 = .ok (.dup, 1) := by decide +kernel
theorem dJ5_append_cf1ce_35 : decode cJ5_append_cf1ce 35 = .ok (.getfield 79, 3) := by decide +kernel
theorem dJ5_append_cf1ce_38 : decode cJ5_append_cf1ce 38 = .ok (.iload_n 2, 1) := by decide +kernel
theorem dJ5_append_cf1ce_39 : decode cJ5_append_cf1ce 39 = .ok (.iadd, 1) := by decide +kernel
theorem dJ5_append_cf1ce_40 : decode cJ5_append_cf1ce 40 = .ok (.putfield 79, 3) := by decide +kernel
theorem dJ5_append_cf1ce_43 : decode cJ5_append_cf1ce 43 = .ok (.aload_n 0, 1) := by decide +kernel
theorem dJ5_append_cf1ce_44 : decode cJ5_append_cf1ce 44 = .ok (.areturn, 1) := by decide +kernel
theorem dJ5_appendNull_278bc_0 : decode cJ5_appendNull_278bc 0 = .ok (.aload_n 0, 1) := by decide +kernel
theorem dJ5_appendNull_278bc_1 : decode cJ5_appendNull_278bc 1 = .ok (.aload_n 0, 1) := by decide +kernel
theorem dJ5_appendNull_278bc_2 : decode cJ5_appendNull_278bc 2 = .ok (.getfield 79, 3) := by decide +kernel
theorem dJ5_appendNull_278bc_5 : decode cJ5_appendNull_278bc 5 = .ok (.iconst 4, 1) := by decide +kernel
theorem dJ5_appendNull_278bc_6 : decode cJ5_appendNull_278bc 6 = .ok (.iadd, 1) := by decide +kernel
theorem dJ5_appendNull_278bc_7 : decode cJ5_appendNull_278bc 7 = .ok (.invokevirtual 100, 3) := by decide +kernel
theorem dJ5_appendNull_278bc_10 : decode cJ5_appendNull_278bc 10 = .ok (.aload_n 0, 1) := by decide +kernel
theorem dJ5_appendNull_278bc_11 : decode cJ5_appendNull_278bc 11 = .ok (.getfield 79, 3) := by decide +kernel
theorem dJ5_appendNull_278bc_14 : decode cJ5_appendNull_278bc 14 = .ok (.istore_n 1, 1) := by decide +kernel
theorem dJ5_appendNull_278bc_15 : decode cJ5_appendNull_278bc 15 = .ok (.aload_n 0, 1) := by decide +kernel
theorem dJ5_appendNull_278bc_16 : decode cJ5_appendNull_278bc 16 = .ok (.getfield 15, 3) := by decide +kernel
theorem dJ5_appendNull_278bc_19 : decode cJ5_appendNull_278bc 19 = .ok (.astore_n 2, 1) := by decide +kernel
theorem dJ5_appendNull_278bc_20 : decode cJ5_appendNull_278bc 20 = .ok (.aload_n 0, 1) := by decide +kernel
theorem dJ5_appendNull_278bc_21 : decode cJ5_appendNull_278bc 21 = .ok (.invokevirtual 83, 3) := by decide +kernel
theorem dJ5_appendNull_278bc_24 : decode cJ5_appendNull_278bc 24 = .ok (.ifCond .eq 38, 3) := by decide +kernel
theorem dJ5_appendNull_278bc_27 : decode cJ5_appendNull_278bc 27 = .ok (.aload_n 2, 1) := by decide +kernel
theorem dJ5_appendNull_278bc_28 : decode cJ5_appendNull_278bc 28 = .ok (.iload_n 1, 1) := by decide +kernel
theorem dJ5_appendNull_278bc_29 : decode cJ5_appendNull_278bc 29 = .ok (.iinc 1 1, 3) := by decide +kernel
theorem dJ5_appendNull_278bc_32 : decode cJ5_appendNull_278bc 32 = .ok (.bipush 110, 2) := by decide +kernel
theorem dJ5_appendNull_278bc_34 : decode cJ5_appendNull_278bc 34 = .ok (.bastore, 1) := by decide +kernel
theorem dJ5_appendNull_278bc_35 : decode cJ5_appendNull_278bc 35 = .ok (.aload_n 2, 1) := by decide +kernel
theorem dJ5_appendNull_278bc_36 : decode cJ5_appendNull_278bc 36 = .ok (.iload_n 1, 1) := by decide +kernel
theorem dJ5_appendNull_278bc_37 : decode cJ5_appendNull_278bc 37 = .ok (.iinc 1 1, 3) := by decide +kernel
theorem dJ5_appendNull_278bc_40 : decode cJ5_appendNull_278bc 40 = .ok (.bipush 117, 2) := by decide +kernel
theorem dJ5_appendNull_278bc_42 : decode cJ5_appendNull_278bc 42 = .ok (.bastore, 1) := by decide +kernel
theorem dJ5_appendNull_278bc_43 : decode cJ5_appendNull_278bc 43 = .ok (.aload_n 2, 1) := by decide +kernel
theorem dJ5_appendNull_278bc_44 : decode cJ5_appendNull_278bc 44 = .ok (.iload_n 1, 1) := by decide +kernel
theorem dJ5_appendNull_278bc_45 : decode cJ5_appendNull_278bc 45 = .ok (.iinc 1 1, 3) := by decide +kernel
theorem dJ5_appendNull_278bc_48 : decode cJ5_appendNull_278bc 48 = .ok (.bipush 108, 2) := by decide +kernel
theorem dJ5_appendNull_278bc_50 : decode cJ5_appendNull_278bc 50 = .ok (.bastore, 1) := by decide +kernel
theorem dJ5_appendNull_278bc_51 : decode cJ5_appendNull_278bc 51 = .ok (.aload_n 2, 1) := by decide +kernel
theorem dJ5_appendNull_278bc_52 : decode cJ5_appendNull_278bc 52 = .ok (.iload_n 1, 1) := by decide +kernel
theorem dJ5_appendNull_278bc_53 : decode cJ5_appendNull_278bc 53 = .ok (.iinc 1 1, 3) := by decide +kernel
theorem dJ5_appendNull_278bc_56 : decode cJ5_appendNull_278bc 56 = .ok (.bipush 108, 2) := by decide +kernel
theorem dJ5_appendNull_278bc_58 : decode cJ5_appendNull_278bc 58 = .ok (.bastore, 1) := by decide +kernel
theorem dJ5_appendNull_278bc_59 : decode cJ5_appendNull_278bc 59 = .ok (.goto 17, 3) := by decide +kernel
theorem dJ5_appendNull_278bc_62 : decode cJ5_appendNull_278bc 62 = .ok (.aload_n 2, 1) := by decide +kernel
theorem dJ5_appendNull_278bc_63 : decode cJ5_appendNull_278bc 63 = .ok (.iload_n 1, 1) := by decide +kernel
theorem dJ5_appendNull_278bc_64 : decode cJ5_appendNull_278bc 64 = .ok (.bipush 110, 2) := by decide +kernel
theorem dJ5_appendNull_278bc_66 : decode cJ5_appendNull_278bc 66 = .ok (.bipush 117, 2) := by decide +kernel
theorem dJ5_appendNull_278bc_68 : decode cJ5_appendNull_278bc 68 = .ok (.bipush 108, 2) := by decide +kernel
theorem dJ5_appendNull_278bc_70 : decode cJ5_appendNull_278bc 70 = .ok (.bipush 108, 2) := by decide +kernel
theorem dJ5_appendNull_278bc_72 : decode cJ5_appendNull_278bc 72 = .ok (.invokestatic 226, 3) := by decide +kernel
theorem dJ5_appendNull_278bc_75 : decode cJ5_appendNull_278bc 75 = .ok (.istore_n 1, 1) := by decide +kernel
theorem dJ5_appendNull_278bc_76 : decode cJ5_appendNull_278bc 76 = .ok (.aload_n 0, 1) := by decide +kernel
theorem dJ5_appendNull_278bc_77 : decode cJ5_appendNull_278bc 77 = .ok (.iload_n 1, 1) := by decide +kernel
theorem dJ5_appendNull_278bc_78 : decode cJ5_appendNull_278bc 78 = .ok (.putfield 79, 3) := by decide +kernel
theorem dJ5_appendNull_278bc_81 : decode cJ5_appendNull_278bc 81 = .ok (.aload_n 0, 1) := by decide +kernel
theorem dJ5_appendNull_278bc_82 : decode cJ5_appendNull_278bc 82 = .ok (.areturn, 1) := by decide +kernel
theorem dJ5_append_3fe6f_0 : decode cJ5_append_3fe6f 0 = .ok (.aload_n 0, 1) := by decide +kernel
theorem dJ5_append_3fe6f_1 : decode cJ5_append_3fe6f 1 = .ok (.aload_n 0, 1) := by decide +kernel
theorem dJ5_append_3fe6f_2 : decode cJ5_append_3fe6f 2 = .ok (.getfield 79, 3) := by decide +kernel
theorem dJ5_append_3fe6f_5 : decode cJ5_append_3fe6f 5 = .ok (.iconst 1, 1) := by decide +kernel
theorem dJ5_append_3fe6f_6 : decode cJ5_append_3fe6f 6 = .ok (.iadd, 1) := by decide +kernel
theorem dJ5_append_3fe6f_7 : decode cJ5_append_3fe6f 7 = .ok (.invokevirtual 100, 3) := by decide +kernel
theorem dJ5_append_3fe6f_10 : decode cJ5_append_3fe6f 10 = .ok (.aload_n 0, 1) := by decide +kernel
theorem dJ5_append_3fe6f_11 : decode cJ5_append_3fe6f 11 = .ok (.invokevirtual 83, 3) := by decide +kernel
theorem dJ5_append_3fe6f_14 : decode cJ5_append_3fe6f 14 = .ok (.ifCond .eq 31, 3) := by decide +kernel
theorem dJ5_append_3fe6f_17 : decode cJ5_append_3fe6f 17 = .ok (.iload_n 1, 1) := by decide +kernel
theorem dJ5_append_3fe6f_18 : decode cJ5_append_3fe6f 18 = .ok (.invokestatic 191, 3) := by decide +kernel
theorem dJ5_append_3fe6f_21 : decode cJ5_append_3fe6f 21 = .ok (.ifCond .eq 24, 3) := by decide +kernel
theorem dJ5_append_3fe6f_24 : decode cJ5_append_3fe6f 24 = .ok (.aload_n 0, 1) := by decide +kernel
theorem dJ5_append_3fe6f_25 : decode cJ5_append_3fe6f 25 = .ok (.getfield 15, 3) := by decide +kernel
theorem dJ5_append_3fe6f_28 : decode cJ5_append_3fe6f 28 = .ok (.aload_n 0, 1) := by decide +kernel
theorem dJ5_append_3fe6f_29 : decode cJ5_append_3fe6f 29 = .ok (.dup, 1) := by decide +kernel
theorem dJ5_append_3fe6f_30 : decode cJ5_append_3fe6f 30 = .ok (.getfield 79, 3) := by decide +kernel
theorem dJ5_append_3fe6f_33 : decode cJ5_append_3fe6f 33 = .ok (.dup_x1, 1) := by decide +kernel
theorem dJ5_append_3fe6f_34 : decode cJ5_append_3fe6f 34 = .ok (.iconst 1, 1) := by decide +kernel
theorem dJ5_append_3fe6f_35 : decode cJ5_append_3fe6f 35 = .ok (.iadd, 1) := by decide +kernel
theorem dJ5_append_3fe6f_36 : decode cJ5_append_3fe6f 36 = .ok (.putfield 79, 3) := by decide +kernel
theorem dJ5_append_3fe6f_39 : decode cJ5_append_3fe6f 39 = .ok (.iload_n 1, 1) := by decide +kernel
theorem dJ5_append_3fe6f_40 : decode cJ5_append_3fe6f 40 = .ok (.i2b, 1) := by decide +kernel
theorem dJ5_append_3fe6f_41 : decode cJ5_append_3fe6f 41 = .ok (.bastore, 1) := by decide +kernel
theorem dJ5_append_3fe6f_42 : decode cJ5_append_3fe6f 42 = .ok (.goto 33, 3) := by decide +kernel
theorem dJ5_append_3fe6f_45 : decode cJ5_append_3fe6f 45 = .ok (.aload_n 0, 1) := by decide +kernel
theorem dJ5_append_3fe6f_46 : decode cJ5_append_3fe6f 46 = .ok (.invokevirtual 83, 3) := by decide +kernel
theorem dJ5_append_3fe6f_49 : decode cJ5_append_3fe6f 49 = .ok (.ifCond .eq 7, 3) := by decide +kernel
theorem dJ5_append_3fe6f_52 : decode cJ5_append_3fe6f 52 = .ok (.aload_n 0, 1) := by decide +kernel
theorem dJ5_append_3fe6f_53 : decode cJ5_append_3fe6f 53 = .ok (.invokevirtual 195, 3) := by decide +kernel
theorem dJ5_append_3fe6f_56 : decode cJ5_append_3fe6f 56 = .ok (.aload_n 0, 1) := by decide +kernel
theorem dJ5_append_3fe6f_57 : decode cJ5_append_3fe6f 57 = .ok (.getfield 15, 3) := by decide +kernel
theorem dJ5_append_3fe6f_60 : decode cJ5_append_3fe6f 60 = .ok (.aload_n 0, 1) := by decide +kernel
theorem dJ5_append_3fe6f_61 : decode cJ5_append_3fe6f 61 = .ok (.dup, 1) := by decide +kernel
theorem dJ5_append_3fe6f_62 : decode cJ5_append_3fe6f 62 = .ok (.getfield 79, 3) := by decide +kernel
theorem dJ5_append_3fe6f_65 : decode cJ5_append_3fe6f 65 = .ok (.dup_x1, 1) := by decide +kernel
theorem dJ5_append_3fe6f_66 : decode cJ5_append_3fe6f 66 = .ok (.iconst 1, 1) := by decide +kernel
theorem dJ5_append_3fe6f_67 : decode cJ5_append_3fe6f 67 = .ok (.iadd, 1) := by decide +kernel
theorem dJ5_append_3fe6f_68 : decode cJ5_append_3fe6f 68 = .ok (.putfield 79, 3) := by decide +kernel
theorem dJ5_append_3fe6f_71 : decode cJ5_append_3fe6f 71 = .ok (.iload_n 1, 1) := by decide +kernel
theorem dJ5_append_3fe6f_72 : decode cJ5_append_3fe6f 72 = .ok (.invokestatic 197, 3) := by decide +kernel
theorem dJ5_append_3fe6f_75 : decode cJ5_append_3fe6f 75 = .ok (.aload_n 0, 1) := by decide +kernel
theorem dJ5_append_3fe6f_76 : decode cJ5_append_3fe6f 76 = .ok (.areturn, 1) := by decide +kernel
theorem dJ5_append_c97b9_0 : decode cJ5_append_c97b9 0 = .ok (.aload_n 0, 1) := by decide +kernel
theorem dJ5_append_c97b9_1 : decode cJ5_append_c97b9 1 = .ok (.getfield 79, 3) := by decide +kernel
theorem dJ5_append_c97b9_4 : decode cJ5_append_c97b9 4 = .ok (.istore_n 2, 1) := by decide +kernel
theorem dJ5_append_c97b9_5 : decode cJ5_append_c97b9 5 = .ok (.iload_n 2, 1) := by decide +kernel
theorem dJ5_append_c97b9_6 : decode cJ5_append_c97b9 6 = .ok (.iload_n 1, 1) := by decide +kernel
theorem dJ5_append_c97b9_7 : decode cJ5_append_c97b9 7 = .ok (.invokestatic 245, 3) := by decide +kernel
theorem dJ5_append_c97b9_10 : decode cJ5_append_c97b9 10 = .ok (.iadd, 1) := by decide +kernel
theorem dJ5_append_c97b9_11 : decode cJ5_append_c97b9 11 = .ok (.istore_n 3, 1) := by decide +kernel
theorem dJ5_append_c97b9_12 : decode cJ5_append_c97b9 12 = .ok (.aload_n 0, 1) := by decide +kernel
theorem dJ5_append_c97b9_13 : decode cJ5_append_c97b9 13 = .ok (.iload_n 3, 1) := by decide +kernel
theorem dJ5_append_c97b9_14 : decode cJ5_append_c97b9 14 = .ok (.invokevirtual 100, 3) := by decide +kernel
theorem dJ5_append_c97b9_17 : decode cJ5_append_c97b9 17 = .ok (.aload_n 0, 1) := by decide +kernel
theorem dJ5_append_c97b9_18 : decode cJ5_append_c97b9 18 = .ok (.invokevirtual 83, 3) := by decide +kernel
theorem dJ5_append_c97b9_21 : decode cJ5_append_c97b9 21 = .ok (.ifCond .eq 16, 3) := by decide +kernel
theorem dJ5_append_c97b9_24 : decode cJ5_append_c97b9 24 = .ok (.iload_n 1, 1) := by decide +kernel
theorem dJ5_append_c97b9_25 : decode cJ5_append_c97b9 25 = .ok (.iload_n 3, 1) := by decide +kernel
theorem dJ5_append_c97b9_26 : decode cJ5_append_c97b9 26 = .ok (.aload_n 0, 1) := by decide +kernel
theorem dJ5_append_c97b9_27 : decode cJ5_append_c97b9 27 = .ok (.getfield 15, 3) := by decide +kernel
theorem dJ5_append_c97b9_30 : decode cJ5_append_c97b9 30 = .ok (.invokestatic 248, 3) := by decide +kernel
theorem dJ5_append_c97b9_33 : decode cJ5_append_c97b9 33 = .ok (.pop, 1) := by decide +kernel
theorem dJ5_append_c97b9_34 : decode cJ5_append_c97b9 34 = .ok (.goto 14, 3) := by decide +kernel
theorem dJ5_append_c97b9_37 : decode cJ5_append_c97b9 37 = .ok (.iload_n 1, 1) := by decide +kernel
theorem dJ5_append_c97b9_38 : decode cJ5_append_c97b9 38 = .ok (.iload_n 2, 1) := by decide +kernel
theorem dJ5_append_c97b9_39 : decode cJ5_append_c97b9 39 = .ok (.iload_n 3, 1) := by decide +kernel
theorem dJ5_append_c97b9_40 : decode cJ5_append_c97b9 40 = .ok (.aload_n 0, 1) := by decide +kernel
theorem dJ5_append_c97b9_41 : decode cJ5_append_c97b9 41 = .ok (.getfield 15, 3) := by decide +kernel
theorem dJ5_append_c97b9_44 : decode cJ5_append_c97b9 44 = .ok (.invokestatic 251, 3) := by decide +kernel
theorem dJ5_append_c97b9_47 : decode cJ5_append_c97b9 47 = .ok (.pop, 1) := by decide +kernel
theorem dJ5_append_c97b9_48 : decode cJ5_append_c97b9 48 = .ok (.aload_n 0, 1) := by decide +kernel
theorem dJ5_append_c97b9_49 : decode cJ5_append_c97b9 49 = .ok (.iload_n 3, 1) := by decide +kernel
theorem dJ5_append_c97b9_50 : decode cJ5_append_c97b9 50 = .ok (.putfield 79, 3) := by decide +kernel
theorem dJ5_append_c97b9_53 : decode cJ5_append_c97b9 53 = .ok (.aload_n 0, 1) := by decide +kernel
theorem dJ5_append_c97b9_54 : decode cJ5_append_c97b9 54 = .ok (.areturn, 1) := by decide +kernel
theorem dJ5_isLatin1_aae02_0 : decode cJ5_isLatin1_aae02 0 = .ok (.getstatic 18, 3) := by decide +kernel
theorem dJ5_isLatin1_aae02_3 : decode cJ5_isLatin1_aae02 3 = .ok (.ifCond .eq 14, 3) := by decide +kernel
theorem dJ5_isLatin1_aae02_6 : decode cJ5_isLatin1_aae02 6 = .ok (.aload_n 0, 1) := by decide +kernel
theorem dJ5_isLatin1_aae02_7 : decode cJ5_isLatin1_aae02 7 = .ok (.getfield 22, 3) := by decide +kernel
theorem dJ5_isLatin1_aae02_10 : decode cJ5_isLatin1_aae02 10 = .ok (.ifCond .ne 7, 3) := by decide +kernel
theorem dJ5_isLatin1_aae02_13 : decode cJ5_isLatin1_aae02 13 = .ok (.iconst 1, 1) := by decide +kernel
theorem dJ5_isLatin1_aae02_14 : decode cJ5_isLatin1_aae02 14 = .ok (.goto 4, 3) := by decide +kernel
theorem dJ5_isLatin1_aae02_17 : decode cJ5_isLatin1_aae02 17 = .ok (.iconst 0, 1) := by decide +kernel
theorem dJ5_isLatin1_aae02_18 : decode cJ5_isLatin1_aae02 18 = .ok (.ireturn, 1) := by decide +kernel
theorem dJ5_inflateIfNeededFor_a7421_0 : decode cJ5_inflateIfNeededFor_a7421 0 = .ok (.getstatic 18, 3) := by decide +kernel
theorem dJ5_inflateIfNeededFor_a7421_3 : decode cJ5_inflateIfNeededFor_a7421 3 = .ok (.ifCond .eq 18, 3) := by decide +kernel
theorem dJ5_inflateIfNeededFor_a7421_6 : decode cJ5_inflateIfNeededFor_a7421 6 = .ok (.aload_n 0, 1) := by decide +kernel
theorem dJ5_inflateIfNeededFor_a7421_7 : decode cJ5_inflateIfNeededFor_a7421 7 = .ok (.getfield 22, 3) := by decide +kernel
theorem dJ5_inflateIfNeededFor_a7421_10 : decode cJ5_inflateIfNeededFor_a7421 10 = .ok (.aload_n 1, 1) := by decide +kernel
theorem dJ5_inflateIfNeededFor_a7421_11 : decode cJ5_inflateIfNeededFor_a7421 11 = .ok (.invokevirtual 40, 3) := by decide +kernel
theorem dJ5_inflateIfNeededFor_a7421_14 : decode cJ5_inflateIfNeededFor_a7421 14 = .ok (.if_icmp .eq 7, 3) := by decide +kernel
theorem dJ5_inflateIfNeededFor_a7421_17 : decode cJ5_inflateIfNeededFor_a7421 17 = .ok (.aload_n 0, 1) := by decide +kernel
theorem dJ5_inflateIfNeededFor_a7421_18 : decode cJ5_inflateIfNeededFor_a7421 18 = .ok (.invokevirtual 195, 3) := by decide +kernel
theorem dJ5_inflateIfNeededFor_a7421_21 : decode cJ5_inflateIfNeededFor_a7421 21 = .ok (.return_, 1) := by decide +kernel
theorem dJ5_putStringAt_47b60_0 : decode cJ5_putStringAt_47b60 0 = .ok (.aload_n 0, 1) := by decide +kernel
theorem dJ5_putStringAt_47b60_1 : decode cJ5_putStringAt_47b60 1 = .ok (.aload_n 2, 1) := by decide +kernel
theorem dJ5_putStringAt_47b60_2 : decode cJ5_putStringAt_47b60 2 = .ok (.invokevirtual 397, 3) := by decide +kernel
theorem dJ5_putStringAt_47b60_5 : decode cJ5_putStringAt_47b60 5 = .ok (.aload_n 2, 1) := by decide +kernel
theorem dJ5_putStringAt_47b60_6 : decode cJ5_putStringAt_47b60 6 = .ok (.aload_n 0, 1) := by decide +kernel
theorem dJ5_putStringAt_47b60_7 : decode cJ5_putStringAt_47b60 7 = .ok (.getfield 15, 3) := by decide +kernel
theorem dJ5_putStringAt_47b60_10 : decode cJ5_putStringAt_47b60 10 = .ok (.iload_n 1, 1) := by decide +kernel
theorem dJ5_putStringAt_47b60_11 : decode cJ5_putStringAt_47b60 11 = .ok (.aload_n 0, 1) := by decide +kernel
theorem dJ5_putStringAt_47b60_12 : decode cJ5_putStringAt_47b60 12 = .ok (.getfield 22, 3) := by decide +kernel
theorem dJ5_putStringAt_47b60_15 : decode cJ5_putStringAt_47b60 15 = .ok (.invokevirtual 399, 3) := by decide +kernel
theorem dJ5_putStringAt_47b60_18 : decode cJ5_putStringAt_47b60 18 = .ok (.return_, 1) := by decide +kernel
theorem dJ6_getChars_ba4f3_0 : decode cJ6_getChars_ba4f3 0 = .ok (.iload_n 1, 1) := by decide +kernel
theorem dJ6_getChars_ba4f3_1 : decode cJ6_getChars_ba4f3 1 = .ok (.istore 5, 2) := by decide +kernel
theorem dJ6_getChars_ba4f3_3 : decode cJ6_getChars_ba4f3 3 = .ok (.iload_n 0, 1) := by decide +kernel
theorem dJ6_getChars_ba4f3_4 : decode cJ6_getChars_ba4f3 4 = .ok (.ifCond .ge 7, 3) := by decide +kernel
theorem dJ6_getChars_ba4f3_7 : decode cJ6_getChars_ba4f3 7 = .ok (.iconst 1, 1) := by decide +kernel
theorem dJ6_getChars_ba4f3_8 : decode cJ6_getChars_ba4f3 8 = .ok (.goto 4, 3) := by decide +kernel
theorem dJ6_getChars_ba4f3_11 : decode cJ6_getChars_ba4f3 11 = .ok (.iconst 0, 1) := by decide +kernel
theorem dJ6_getChars_ba4f3_12 : decode cJ6_getChars_ba4f3 12 = .ok (.istore 6, 2) := by decide +kernel
theorem dJ6_getChars_ba4f3_14 : decode cJ6_getChars_ba4f3 14 = .ok (.iload 6, 2) := by decide +kernel
theorem dJ6_getChars_ba4f3_16 : decode cJ6_getChars_ba4f3 16 = .ok (.ifCond .ne 6, 3) := by decide +kernel
theorem dJ6_getChars_ba4f3_19 : decode cJ6_getChars_ba4f3 19 = .ok (.iload_n 0, 1) := by decide +kernel
theorem dJ6_getChars_ba4f3_20 : decode cJ6_getChars_ba4f3 20 = .ok (.ineg, 1) := by decide +kernel
theorem dJ6_getChars_ba4f3_21 : decode cJ6_getChars_ba4f3 21 = .ok (.istore_n 0, 1) := by decide +kernel
theorem dJ6_getChars_ba4f3_22 : decode cJ6_getChars_ba4f3 22 = .ok (.iload_n 0, 1) := by decide +kernel
theorem dJ6_getChars_ba4f3_23 : decode cJ6_getChars_ba4f3 23 = .ok (.bipush (-100), 2) := by decide +kernel
theorem dJ6_getChars_ba4f3_25 : decode cJ6_getChars_ba4f3 25 = .ok (.if_icmp .gt 47, 3) := by decide +kernel
theorem dJ6_getChars_ba4f3_28 : decode cJ6_getChars_ba4f3 28 = .ok (.iload_n 0, 1) := by decide +kernel
theorem dJ6_getChars_ba4f3_29 : decode cJ6_getChars_ba4f3 29 = .ok (.bipush 100, 2) := by decide +kernel
theorem dJ6_getChars_ba4f3_31 : decode cJ6_getChars_ba4f3 31 = .ok (.idiv, 1) := by decide +kernel
theorem dJ6_getChars_ba4f3_32 : decode cJ6_getChars_ba4f3 32 = .ok (.istore_n 3, 1) := by decide +kernel
theorem dJ6_getChars_ba4f3_33 : decode cJ6_getChars_ba4f3 33 = .ok (.iload_n 3, 1) := by decide +kernel
theorem dJ6_getChars_ba4f3_34 : decode cJ6_getChars_ba4f3 34 = .ok (.bipush 100, 2) := by decide +kernel
theorem dJ6_getChars_ba4f3_36 : decode cJ6_getChars_ba4f3 36 = .ok (.imul, 1) := by decide +kernel
theorem dJ6_getChars_ba4f3_37 : decode cJ6_getChars_ba4f3 37 = .ok (.iload_n 0, 1) := by decide +kernel
theorem dJ6_getChars_ba4f3_38 : decode cJ6_getChars_ba4f3 38 = .ok (.isub, 1) := by decide +kernel
theorem dJ6_getChars_ba4f3_39 : decode cJ6_getChars_ba4f3 39 = .ok (.istore 4, 2) := by decide +kernel
theorem dJ6_getChars_ba4f3_41 : decode cJ6_getChars_ba4f3 41 = .ok (.iload_n 3, 1) := by decide +kernel
theorem dJ6_getChars_ba4f3_42 : decode cJ6_getChars_ba4f3 42 = .ok (.istore_n 0, 1) := by decide +kernel
theorem dJ6_getChars_ba4f3_43 : decode cJ6_getChars_ba4f3 43 = .ok (.aload_n 2, 1) := by decide +kernel
theorem dJ6_getChars_ba4f3_44 : decode cJ6_getChars_ba4f3 44 = .ok (.iinc 5 (-1), 3) := by decide +kernel
theorem dJ6_getChars_ba4f3_47 : decode cJ6_getChars_ba4f3 47 = .ok (.iload 5, 2) := by decide +kernel
theorem dJ6_getChars_ba4f3_49 : decode cJ6_getChars_ba4f3 49 = .ok (.getstatic 83, 3) := by decide +kernel
theorem dJ6_getChars_ba4f3_52 : decode cJ6_getChars_ba4f3 52 = .ok (.iload 4, 2) := by decide +kernel
theorem dJ6_getChars_ba4f3_54 : decode cJ6_getChars_ba4f3 54 = .ok (.baload, 1) := by decide +kernel
theorem dJ6_getChars_ba4f3_55 : decode cJ6_getChars_ba4f3 55 = .ok (.bastore, 1) := by decide +kernel
theorem dJ6_getChars_ba4f3_56 : decode cJ6_getChars_ba4f3 56 = .ok (.aload_n 2, 1) := by decide +kernel
theorem dJ6_getChars_ba4f3_57 : decode cJ6_getChars_ba4f3 57 = .ok (.iinc 5 (-1), 3) := by decide +kernel
theorem dJ6_getChars_ba4f3_60 : decode cJ6_getChars_ba4f3 60 = .ok (.iload 5, 2) := by decide +kernel
theorem dJ6_getChars_ba4f3_62 : decode cJ6_getChars_ba4f3 62 = .ok (.getstatic 87, 3) := by decide +kernel
theorem dJ6_getChars_ba4f3_65 : decode cJ6_getChars_ba4f3 65 = .ok (.iload 4, 2) := by decide +kernel
theorem dJ6_getChars_ba4f3_67 : decode cJ6_getChars_ba4f3 67 = .ok (.baload, 1) := by decide +kernel
theorem dJ6_getChars_ba4f3_68 : decode cJ6_getChars_ba4f3 68 = .ok (.bastore, 1) := by decide +kernel
theorem dJ6_getChars_ba4f3_69 : decode cJ6_getChars_ba4f3 69 = .ok (.goto (-47), 3) := by decide +kernel
theorem dJ6_getChars_ba4f3_72 : decode cJ6_getChars_ba4f3 72 = .ok (.aload_n 2, 1) := by decide +kernel
theorem dJ6_getChars_ba4f3_73 : decode cJ6_getChars_ba4f3 73 = .ok (.iinc 5 (-1), 3) := by decide +kernel
theorem dJ6_getChars_ba4f3_76 : decode cJ6_getChars_ba4f3 76 = .ok (.iload 5, 2) := by decide +kernel
theorem dJ6_getChars_ba4f3_78 : decode cJ6_getChars_ba4f3 78 = .ok (.getstatic 83, 3) := by decide +kernel
theorem dJ6_getChars_ba4f3_81 : decode cJ6_getChars_ba4f3 81 = .ok (.iload_n 0, 1) := by decide +kernel
theorem dJ6_getChars_ba4f3_82 : decode cJ6_getChars_ba4f3 82 = .ok (.ineg, 1) := by decide +kernel
theorem dJ6_getChars_ba4f3_83 : decode cJ6_getChars_ba4f3 83 = .ok (.baload, 1) := by decide +kernel
theorem dJ6_getChars_ba4f3_84 : decode cJ6_getChars_ba4f3 84 = .ok (.bastore, 1) := by decide +kernel
theorem dJ6_getChars_ba4f3_85 : decode cJ6_getChars_ba4f3 85 = .ok (.iload_n 0, 1) := by decide +kernel
theorem dJ6_getChars_ba4f3_86 : decode cJ6_getChars_ba4f3 86 = .ok (.bipush (-9), 2) := by decide +kernel
theorem dJ6_getChars_ba4f3_88 : decode cJ6_getChars_ba4f3 88 = .ok (.if_icmp .ge 16, 3) := by decide +kernel
theorem dJ6_getChars_ba4f3_91 : decode cJ6_getChars_ba4f3 91 = .ok (.aload_n 2, 1) := by decide +kernel
theorem dJ6_getChars_ba4f3_92 : decode cJ6_getChars_ba4f3 92 = .ok (.iinc 5 (-1), 3) := by decide +kernel
theorem dJ6_getChars_ba4f3_95 : decode cJ6_getChars_ba4f3 95 = .ok (.iload 5, 2) := by decide +kernel
theorem dJ6_getChars_ba4f3_97 : decode cJ6_getChars_ba4f3 97 = .ok (.getstatic 87, 3) := by decide +kernel
theorem dJ6_getChars_ba4f3_100 : decode cJ6_getChars_ba4f3 100 = .ok (.iload_n 0, 1) := by decide +kernel
theorem dJ6_getChars_ba4f3_101 : decode cJ6_getChars_ba4f3 101 = .ok (.ineg, 1) := by decide +kernel
theorem dJ6_getChars_ba4f3_102 : decode cJ6_getChars_ba4f3 102 = .ok (.baload, 1) := by decide +kernel
theorem dJ6_getChars_ba4f3_103 : decode cJ6_getChars_ba4f3 103 = .ok (.bastore, 1) := by decide +kernel
theorem dJ6_getChars_ba4f3_104 : decode cJ6_getChars_ba4f3 104 = .ok (.iload 6, 2) := by decide +kernel
theorem dJ6_getChars_ba4f3_106 : decode cJ6_getChars_ba4f3 106 = .ok (.ifCond .eq 12, 3) := by decide +kernel
theorem dJ6_getChars_ba4f3_109 : decode cJ6_getChars_ba4f3 109 = .ok (.aload_n 2, 1) := by decide +kernel
theorem dJ6_getChars_ba4f3_110 : decode cJ6_getChars_ba4f3 110 = .ok (.iinc 5 (-1), 3) := by decide +kernel
theorem dJ6_getChars_ba4f3_113 : decode cJ6_getChars_ba4f3 113 = .ok (.iload 5, 2) := by decide +kernel
theorem dJ6_getChars_ba4f3_115 : decode cJ6_getChars_ba4f3 115 = .ok (.bipush 45, 2) := by decide +kernel
theorem dJ6_getChars_ba4f3_117 : decode cJ6_getChars_ba4f3 117 = .ok (.bastore, 1) := by decide +kernel
theorem dJ6_getChars_ba4f3_118 : decode cJ6_getChars_ba4f3 118 = .ok (.iload 5, 2) := by decide +kernel
theorem dJ6_getChars_ba4f3_120 : decode cJ6_getChars_ba4f3 120 = .ok (.ireturn, 1) := by decide +kernel
theorem dJ6_stringSize_0f7a4_0 : decode cJ6_stringSize_0f7a4 0 = .ok (.iconst 1, 1) := by decide +kernel
theorem dJ6_stringSize_0f7a4_1 : decode cJ6_stringSize_0f7a4 1 = .ok (.istore_n 1, 1) := by decide +kernel
theorem dJ6_stringSize_0f7a4_2 : decode cJ6_stringSize_0f7a4 2 = .ok (.iload_n 0, 1) := by decide +kernel
theorem dJ6_stringSize_0f7a4_3 : decode cJ6_stringSize_0f7a4 3 = .ok (.ifCond .lt 8, 3) := by decide +kernel
theorem dJ6_stringSize_0f7a4_6 : decode cJ6_stringSize_0f7a4 6 = .ok (.iconst 0, 1) := by decide +kernel
theorem dJ6_stringSize_0f7a4_7 : decode cJ6_stringSize_0f7a4 7 = .ok (.istore_n 1, 1) := by decide +kernel
theorem dJ6_stringSize_0f7a4_8 : decode cJ6_stringSize_0f7a4 8 = .ok (.iload_n 0, 1) := by decide +kernel
theorem dJ6_stringSize_0f7a4_9 : decode cJ6_stringSize_0f7a4 9 = .ok (.ineg, 1) := by decide +kernel
theorem dJ6_stringSize_0f7a4_10 : decode cJ6_stringSize_0f7a4 10 = .ok (.istore_n 0, 1) := by decide +kernel
theorem dJ6_stringSize_0f7a4_11 : decode cJ6_stringSize_0f7a4 11 = .ok (.bipush (-10), 2) := by decide +kernel
theorem dJ6_stringSize_0f7a4_13 : decode cJ6_stringSize_0f7a4 13 = .ok (.istore_n 2, 1) := by decide +kernel
theorem dJ6_stringSize_0f7a4_14 : decode cJ6_stringSize_0f7a4 14 = .ok (.iconst 1, 1) := by decide +kernel
theorem dJ6_stringSize_0f7a4_15 : decode cJ6_stringSize_0f7a4 15 = .ok (.istore_n 3, 1) := by decide +kernel
theorem dJ6_stringSize_0f7a4_16 : decode cJ6_stringSize_0f7a4 16 = .ok (.iload_n 3, 1) := by decide +kernel
theorem dJ6_stringSize_0f7a4_17 : decode cJ6_stringSize_0f7a4 17 = .ok (.bipush 10, 2) := by decide +kernel
theorem dJ6_stringSize_0f7a4_19 : decode cJ6_stringSize_0f7a4 19 = .ok (.if_icmp .ge 23, 3) := by decide +kernel
theorem dJ6_stringSize_0f7a4_22 : decode cJ6_stringSize_0f7a4 22 = .ok (.iload_n 0, 1) := by decide +kernel
theorem dJ6_stringSize_0f7a4_23 : decode cJ6_stringSize_0f7a4 23 = .ok (.iload_n 2, 1) := by decide +kernel
theorem dJ6_stringSize_0f7a4_24 : decode cJ6_stringSize_0f7a4 24 = .ok (.if_icmp .le 7, 3) := by decide +kernel
theorem dJ6_stringSize_0f7a4_27 : decode cJ6_stringSize_0f7a4 27 = .ok (.iload_n 3, 1) := by decide +kernel
theorem dJ6_stringSize_0f7a4_28 : decode cJ6_stringSize_0f7a4 28 = .ok (.iload_n 1, 1) := by decide +kernel
theorem dJ6_stringSize_0f7a4_29 : decode cJ6_stringSize_0f7a4 29 = .ok (.iadd, 1) := by decide +kernel
theorem dJ6_stringSize_0f7a4_30 : decode cJ6_stringSize_0f7a4 30 = .ok (.ireturn, 1) := by decide +kernel
theorem dJ6_stringSize_0f7a4_31 : decode cJ6_stringSize_0f7a4 31 = .ok (.bipush 10, 2) := by decide +kernel
theorem dJ6_stringSize_0f7a4_33 : decode cJ6_stringSize_0f7a4 33 = .ok (.iload_n 2, 1) := by decide +kernel
theorem dJ6_stringSize_0f7a4_34 : decode cJ6_stringSize_0f7a4 34 = .ok (.imul, 1) := by decide +kernel
theorem dJ6_stringSize_0f7a4_35 : decode cJ6_stringSize_0f7a4 35 = .ok (.istore_n 2, 1) := by decide +kernel
theorem dJ6_stringSize_0f7a4_36 : decode cJ6_stringSize_0f7a4 36 = .ok (.iinc 3 1, 3) := by decide +kernel
theorem dJ6_stringSize_0f7a4_39 : decode cJ6_stringSize_0f7a4 39 = .ok (.goto (-23), 3) := by decide +kernel
theorem dJ6_stringSize_0f7a4_42 : decode cJ6_stringSize_0f7a4 42 = .ok (.bipush 10, 2) := by decide +kernel
theorem dJ6_stringSize_0f7a4_44 : decode cJ6_stringSize_0f7a4 44 = .ok (.iload_n 1, 1) := by decide +kernel
theorem dJ6_stringSize_0f7a4_45 : decode cJ6_stringSize_0f7a4 45 = .ok (.iadd, 1) := by decide +kernel
theorem dJ6_stringSize_0f7a4_46 : decode cJ6_stringSize_0f7a4 46 = .ok (.ireturn, 1) := by decide +kernel
theorem dJ9_floorMod_7cf53_0 : decode cJ9_floorMod_7cf53 0 = .ok (.iload_n 0, 1) := by decide +kernel
theorem dJ9_floorMod_7cf53_1 : decode cJ9_floorMod_7cf53 1 = .ok (.iload_n 1, 1) := by decide +kernel
theorem dJ9_floorMod_7cf53_2 : decode cJ9_floorMod_7cf53 2 = .ok (.irem, 1) := by decide +kernel
theorem dJ9_floorMod_7cf53_3 : decode cJ9_floorMod_7cf53 3 = .ok (.istore_n 2, 1) := by decide +kernel
theorem dJ9_floorMod_7cf53_4 : decode cJ9_floorMod_7cf53 4 = .ok (.iload_n 0, 1) := by decide +kernel
theorem dJ9_floorMod_7cf53_5 : decode cJ9_floorMod_7cf53 5 = .ok (.iload_n 1, 1) := by decide +kernel
theorem dJ9_floorMod_7cf53_6 : decode cJ9_floorMod_7cf53 6 = .ok (.ixor, 1) := by decide +kernel
theorem dJ9_floorMod_7cf53_7 : decode cJ9_floorMod_7cf53 7 = .ok (.ifCond .ge 11, 3) := by decide +kernel
theorem dJ9_floorMod_7cf53_10 : decode cJ9_floorMod_7cf53 10 = .ok (.iload_n 2, 1) := by decide +kernel
theorem dJ9_floorMod_7cf53_11 : decode cJ9_floorMod_7cf53 11 = .ok (.ifCond .eq 7, 3) := by decide +kernel
theorem dJ9_floorMod_7cf53_14 : decode cJ9_floorMod_7cf53 14 = .ok (.iload_n 2, 1) := by decide +kernel
theorem dJ9_floorMod_7cf53_15 : decode cJ9_floorMod_7cf53 15 = .ok (.iload_n 1, 1) := by decide +kernel
theorem dJ9_floorMod_7cf53_16 : decode cJ9_floorMod_7cf53 16 = .ok (.iadd, 1) := by decide +kernel
theorem dJ9_floorMod_7cf53_17 : decode cJ9_floorMod_7cf53 17 = .ok (.ireturn, 1) := by decide +kernel
theorem dJ9_floorMod_7cf53_18 : decode cJ9_floorMod_7cf53 18 = .ok (.iload_n 2, 1) := by decide +kernel
theorem dJ9_floorMod_7cf53_19 : decode cJ9_floorMod_7cf53 19 = .ok (.ireturn, 1) := by decide +kernel
theorem dJ9_max_7cf53_0 : decode cJ9_max_7cf53 0 = .ok (.iload_n 0, 1) := by decide +kernel
theorem dJ9_max_7cf53_1 : decode cJ9_max_7cf53 1 = .ok (.iload_n 1, 1) := by decide +kernel
theorem dJ9_max_7cf53_2 : decode cJ9_max_7cf53 2 = .ok (.if_icmp .lt 7, 3) := by decide +kernel
theorem dJ9_max_7cf53_5 : decode cJ9_max_7cf53 5 = .ok (.iload_n 0, 1) := by decide +kernel
theorem dJ9_max_7cf53_6 : decode cJ9_max_7cf53 6 = .ok (.goto 4, 3) := by decide +kernel
theorem dJ9_max_7cf53_9 : decode cJ9_max_7cf53 9 = .ok (.iload_n 1, 1) := by decide +kernel
theorem dJ9_max_7cf53_10 : decode cJ9_max_7cf53 10 = .ok (.ireturn, 1) := by decide +kernel
theorem dJ9_min_7cf53_0 : decode cJ9_min_7cf53 0 = .ok (.iload_n 0, 1) := by decide +kernel
theorem dJ9_min_7cf53_1 : decode cJ9_min_7cf53 1 = .ok (.iload_n 1, 1) := by decide +kernel
theorem dJ9_min_7cf53_2 : decode cJ9_min_7cf53 2 = .ok (.if_icmp .gt 7, 3) := by decide +kernel
theorem dJ9_min_7cf53_5 : decode cJ9_min_7cf53 5 = .ok (.iload_n 0, 1) := by decide +kernel
theorem dJ9_min_7cf53_6 : decode cJ9_min_7cf53 6 = .ok (.goto 4, 3) := by decide +kernel
theorem dJ9_min_7cf53_9 : decode cJ9_min_7cf53 9 = .ok (.iload_n 1, 1) := by decide +kernel
theorem dJ9_min_7cf53_10 : decode cJ9_min_7cf53 10 = .ok (.ireturn, 1) := by decide +kernel
theorem dJ0_length_8abf5_0 : decode cJ0_length_8abf5 0 = .ok (.aload_n 0, 1) := by decide +kernel
theorem dJ0_length_8abf5_1 : decode cJ0_length_8abf5 1 = .ok (.getfield 9, 3) := by decide +kernel
theorem dJ0_length_8abf5_4 : decode cJ0_length_8abf5 4 = .ok (.arraylength, 1) := by decide +kernel
theorem dJ0_length_8abf5_5 : decode cJ0_length_8abf5 5 = .ok (.aload_n 0, 1) := by decide +kernel
theorem dJ0_length_8abf5_6 : decode cJ0_length_8abf5 6 = .ok (.invokevirtual 335, 3) := by decide +kernel
theorem dJ0_length_8abf5_9 : decode cJ0_length_8abf5 9 = .ok (.ishr, 1) := by decide +kernel
theorem dJ0_length_8abf5_10 : decode cJ0_length_8abf5 10 = .ok (.ireturn, 1) := by decide +kernel
theorem dJ0_charAt_5068e_0 : decode cJ0_charAt_5068e 0 = .ok (.aload_n 0, 1) := by decide +kernel
theorem dJ0_charAt_5068e_1 : decode cJ0_charAt_5068e 1 = .ok (.invokevirtual 492, 3) := by decide +kernel
theorem dJ0_charAt_5068e_4 : decode cJ0_charAt_5068e 4 = .ok (.ifCond .eq 12, 3) := by decide +kernel
theorem dJ0_charAt_5068e_7 : decode cJ0_charAt_5068e 7 = .ok (.aload_n 0, 1) := by decide +kernel
theorem dJ0_charAt_5068e_8 : decode cJ0_charAt_5068e 8 = .ok (.getfield 9, 3) := by decide +kernel
theorem dJ0_charAt_5068e_11 : decode cJ0_charAt_5068e 11 = .ok (.iload_n 1, 1) := by decide +kernel
theorem dJ0_charAt_5068e_12 : decode cJ0_charAt_5068e 12 = .ok (.invokestatic 495, 3) := by decide +kernel
theorem dJ0_charAt_5068e_15 : decode cJ0_charAt_5068e 15 = .ok (.ireturn, 1) := by decide +kernel
theorem dJ0_charAt_5068e_16 : decode cJ0_charAt_5068e 16 = .ok (.aload_n 0, 1) := by decide +kernel
theorem dJ0_charAt_5068e_17 : decode cJ0_charAt_5068e 17 = .ok (.getfield 9, 3) := by decide +kernel
theorem dJ0_charAt_5068e_20 : decode cJ0_charAt_5068e 20 = .ok (.iload_n 1, 1) := by decide +kernel
theorem dJ0_charAt_5068e_21 : decode cJ0_charAt_5068e 21 = .ok (.invokestatic 498, 3) := by decide +kernel
theorem dJ0_charAt_5068e_24 : decode cJ0_charAt_5068e 24 = .ok (.ireturn, 1) := by decide +kernel
theorem dJ0_getBytes_840e7_0 : decode cJ0_getBytes_840e7 0 = .ok (.aload_n 0, 1) := by decide +kernel
theorem dJ0_getBytes_840e7_1 : decode cJ0_getBytes_840e7 1 = .ok (.invokevirtual 335, 3) := by decide +kernel
theorem dJ0_getBytes_840e7_4 : decode cJ0_getBytes_840e7 4 = .ok (.iload_n 3, 1) := by decide +kernel
theorem dJ0_getBytes_840e7_5 : decode cJ0_getBytes_840e7 5 = .ok (.if_icmp .ne 23, 3) := by decide +kernel
theorem dJ0_getBytes_840e7_8 : decode cJ0_getBytes_840e7 8 = .ok (.aload_n 0, 1) := by decide +kernel
theorem dJ0_getBytes_840e7_9 : decode cJ0_getBytes_840e7 9 = .ok (.getfield 9, 3) := by decide +kernel
theorem dJ0_getBytes_840e7_12 : decode cJ0_getBytes_840e7 12 = .ok (.iconst 0, 1) := by decide +kernel
theorem dJ0_getBytes_840e7_13 : decode cJ0_getBytes_840e7 13 = .ok (.aload_n 1, 1) := by decide +kernel
theorem dJ0_getBytes_840e7_14 : decode cJ0_getBytes_840e7 14 = .ok (.iload_n 2, 1) := by decide +kernel
theorem dJ0_getBytes_840e7_15 : decode cJ0_getBytes_840e7 15 = .ok (.iload_n 3, 1) := by decide +kernel
theorem dJ0_getBytes_840e7_16 : decode cJ0_getBytes_840e7 16 = .ok (.ishl, 1) := by decide +kernel
theorem dJ0_getBytes_840e7_17 : decode cJ0_getBytes_840e7 17 = .ok (.aload_n 0, 1) := by decide +kernel
theorem dJ0_getBytes_840e7_18 : decode cJ0_getBytes_840e7 18 = .ok (.getfield 9, 3) := by decide +kernel
theorem dJ0_getBytes_840e7_21 : decode cJ0_getBytes_840e7 21 = .ok (.arraylength, 1) := by decide +kernel
theorem dJ0_getBytes_840e7_22 : decode cJ0_getBytes_840e7 22 = .ok (.invokestatic 212, 3) := by decide +kernel
theorem dJ0_getBytes_840e7_25 : decode cJ0_getBytes_840e7 25 = .ok (.goto 18, 3) := by decide +kernel
theorem dJ0_getBytes_840e7_28 : decode cJ0_getBytes_840e7 28 = .ok (.aload_n 0, 1) := by decide +kernel
theorem dJ0_getBytes_840e7_29 : decode cJ0_getBytes_840e7 29 = .ok (.getfield 9, 3) := by decide +kernel
theorem dJ0_getBytes_840e7_32 : decode cJ0_getBytes_840e7 32 = .ok (.iconst 0, 1) := by decide +kernel
theorem dJ0_getBytes_840e7_33 : decode cJ0_getBytes_840e7 33 = .ok (.aload_n 1, 1) := by decide +kernel
theorem dJ0_getBytes_840e7_34 : decode cJ0_getBytes_840e7 34 = .ok (.iload_n 2, 1) := by decide +kernel
theorem dJ0_getBytes_840e7_35 : decode cJ0_getBytes_840e7 35 = .ok (.aload_n 0, 1) := by decide +kernel
theorem dJ0_getBytes_840e7_36 : decode cJ0_getBytes_840e7 36 = .ok (.getfield 9, 3) := by decide +kernel
theorem dJ0_getBytes_840e7_39 : decode cJ0_getBytes_840e7 39 = .ok (.arraylength, 1) := by decide +kernel
theorem dJ0_getBytes_840e7_40 : decode cJ0_getBytes_840e7 40 = .ok (.invokestatic 106, 3) := by decide +kernel
theorem dJ0_getBytes_840e7_43 : decode cJ0_getBytes_840e7 43 = .ok (.return_, 1) := by decide +kernel
theorem dJ0_coder_7d493_0 : decode cJ0_coder_7d493 0 = .ok (.getstatic 38, 3) := by decide +kernel
theorem dJ0_coder_7d493_3 : decode cJ0_coder_7d493 3 = .ok (.ifCond .eq 10, 3) := by decide +kernel
theorem dJ0_coder_7d493_6 : decode cJ0_coder_7d493 6 = .ok (.aload_n 0, 1) := by decide +kernel
theorem dJ0_coder_7d493_7 : decode cJ0_coder_7d493 7 = .ok (.getfield 15, 3) := by decide +kernel
theorem dJ0_coder_7d493_10 : decode cJ0_coder_7d493 10 = .ok (.goto 4, 3) := by decide +kernel
theorem dJ0_coder_7d493_13 : decode cJ0_coder_7d493 13 = .ok (.iconst 1, 1) := by decide +kernel
theorem dJ0_coder_7d493_14 : decode cJ0_coder_7d493 14 = .ok (.ireturn, 1) := by decide +kernel
theorem dJ0_isLatin1_aae02_0 : decode cJ0_isLatin1_aae02 0 = .ok (.getstatic 38, 3) := by decide +kernel
theorem dJ0_isLatin1_aae02_3 : decode cJ0_isLatin1_aae02 3 = .ok (.ifCond .eq 14, 3) := by decide +kernel
theorem dJ0_isLatin1_aae02_6 : decode cJ0_isLatin1_aae02 6 = .ok (.aload_n 0, 1) := by decide +kernel
theorem dJ0_isLatin1_aae02_7 : decode cJ0_isLatin1_aae02 7 = .ok (.getfield 15, 3) := by decide +kernel
theorem dJ0_isLatin1_aae02_10 : decode cJ0_isLatin1_aae02 10 = .ok (.ifCond .ne 7, 3) := by decide +kernel
theorem dJ0_isLatin1_aae02_13 : decode cJ0_isLatin1_aae02 13 = .ok (.iconst 1, 1) := by decide +kernel
theorem dJ0_isLatin1_aae02_14 : decode cJ0_isLatin1_aae02 14 = .ok (.goto 4, 3) := by decide +kernel
theorem dJ0_isLatin1_aae02_17 : decode cJ0_isLatin1_aae02 17 = .ok (.iconst 0, 1) := by decide +kernel
theorem dJ0_isLatin1_aae02_18 : decode cJ0_isLatin1_aae02 18 = .ok (.ireturn, 1) := by decide +kernel
theorem dJ0_checkIndex_df160_0 : decode cJ0_checkIndex_df160 0 = .ok (.iload_n 0, 1) := by decide +kernel
theorem dJ0_checkIndex_df160_1 : decode cJ0_checkIndex_df160 1 = .ok (.iload_n 1, 1) := by decide +kernel
theorem dJ0_checkIndex_df160_2 : decode cJ0_checkIndex_df160 2 = .ok (.getstatic 1053, 3) := by decide +kernel
theorem dJ0_checkIndex_df160_5 : decode cJ0_checkIndex_df160 5 = .ok (.invokestatic 1059, 3) := by decide +kernel
theorem dJ0_checkIndex_df160_8 : decode cJ0_checkIndex_df160 8 = .ok (.pop, 1) := by decide +kernel
theorem dJ0_checkIndex_df160_9 : decode cJ0_checkIndex_df160 9 = .ok (.return_, 1) := by decide +kernel
theorem dJ0_checkBoundsOffCount_cabcc_0 : decode cJ0_checkBoundsOffCount_cabcc 0 = .ok (.iload_n 0, 1) := by decide +kernel
theorem dJ0_checkBoundsOffCount_cabcc_1 : decode cJ0_checkBoundsOffCount_cabcc 1 = .ok (.iload_n 1, 1) := by decide +kernel
theorem dJ0_checkBoundsOffCount_cabcc_2 : decode cJ0_checkBoundsOffCount_cabcc 2 = .ok (.iload_n 2, 1) := by decide +kernel
theorem dJ0_checkBoundsOffCount_cabcc_3 : decode cJ0_checkBoundsOffCount_cabcc 3 = .ok (.getstatic 1053, 3) := by decide +kernel
theorem dJ0_checkBoundsOffCount_cabcc_6 : decode cJ0_checkBoundsOffCount_cabcc 6 = .ok (.invokestatic 1065, 3) := by decide +kernel
theorem dJ0_checkBoundsOffCount_cabcc_9 : decode cJ0_checkBoundsOffCount_cabcc 9 = .ok (.ireturn, 1) := by decide +kernel
theorem dJ0_checkBoundsBeginEnd_23922_0 : decode cJ0_checkBoundsBeginEnd_23922 0 = .ok (.iload_n 0, 1) := by decide +kernel
theorem dJ0_checkBoundsBeginEnd_23922_1 : decode cJ0_checkBoundsBeginEnd_23922 1 = .ok (.iload_n 1, 1) := by decide +kernel
theorem dJ0_checkBoundsBeginEnd_23922_2 : decode cJ0_checkBoundsBeginEnd_23922 2 = .ok (.iload_n 2, 1) := by decide +kernel
theorem dJ0_checkBoundsBeginEnd_23922_3 : decode cJ0_checkBoundsBeginEnd_23922 3 = .ok (.getstatic 1053, 3) := by decide +kernel
theorem dJ0_checkBoundsBeginEnd_23922_6 : decode cJ0_checkBoundsBeginEnd_23922 6 = .ok (.invokestatic 1062, 3) := by decide +kernel
theorem dJ0_checkBoundsBeginEnd_23922_9 : decode cJ0_checkBoundsBeginEnd_23922 9 = .ok (.pop, 1) := by decide +kernel
theorem dJ0_checkBoundsBeginEnd_23922_10 : decode cJ0_checkBoundsBeginEnd_23922 10 = .ok (.return_, 1) := by decide +kernel
theorem dJ4_init_da8c8_0 : decode cJ4_init_da8c8 0 = .ok (.aload_n 0, 1) := by decide +kernel
theorem dJ4_init_da8c8_1 : decode cJ4_init_da8c8 1 = .ok (.bipush 16, 2) := by decide +kernel
theorem dJ4_init_da8c8_3 : decode cJ4_init_da8c8 3 = .ok (.invokespecial 1, 3) := by decide +kernel
theorem dJ4_init_da8c8_6 : decode cJ4_init_da8c8 6 = .ok (.return_, 1) := by decide +kernel
theorem dJ4_append_15ec4_0 : decode cJ4_append_15ec4 0 = .ok (.aload_n 0, 1) := by decide +kernel
theorem dJ4_append_15ec4_1 : decode cJ4_append_15ec4 1 = .ok (.aload_n 1, 1) := by decide +kernel
theorem dJ4_append_15ec4_2 : decode cJ4_append_15ec4 2 = .ok (.invokespecial 29, 3) := by decide +kernel
theorem dJ4_append_15ec4_5 : decode cJ4_append_15ec4 5 = .ok (.pop, 1) := by decide +kernel
theorem dJ4_append_15ec4_6 : decode cJ4_append_15ec4 6 = .ok (.aload_n 0, 1) := by decide +kernel
theorem dJ4_append_15ec4_7 : decode cJ4_append_15ec4 7 = .ok (.areturn, 1) := by decide +kernel
theorem dJ4_append_cf468_0 : decode cJ4_append_cf468 0 = .ok (.aload_n 0, 1) := by decide +kernel
theorem dJ4_append_cf468_1 : decode cJ4_append_cf468 1 = .ok (.iload_n 1, 1) := by decide +kernel
theorem dJ4_append_cf468_2 : decode cJ4_append_cf468 2 = .ok (.invokespecial 50, 3) := by decide +kernel
theorem dJ4_append_cf468_5 : decode cJ4_append_cf468 5 = .ok (.pop, 1) := by decide +kernel
theorem dJ4_append_cf468_6 : decode cJ4_append_cf468 6 = .ok (.aload_n 0, 1) := by decide +kernel
theorem dJ4_append_cf468_7 : decode cJ4_append_cf468 7 = .ok (.areturn, 1) := by decide +kernel
theorem dJ4_append_bf812_0 : decode cJ4_append_bf812 0 = .ok (.aload_n 0, 1) := by decide +kernel
theorem dJ4_append_bf812_1 : decode cJ4_append_bf812 1 = .ok (.iload_n 1, 1) := by decide +kernel
theorem dJ4_append_bf812_2 : decode cJ4_append_bf812 2 = .ok (.invokespecial 53, 3) := by decide +kernel
theorem dJ4_append_bf812_5 : decode cJ4_append_bf812 5 = .ok (.pop, 1) := by decide +kernel
theorem dJ4_append_bf812_6 : decode cJ4_append_bf812 6 = .ok (.aload_n 0, 1) := by decide +kernel
theorem dJ4_append_bf812_7 : decode cJ4_append_bf812 7 = .ok (.areturn, 1) := by decide +kernel
theorem dJ4_charAt_5068e_0 : decode cJ4_charAt_5068e 0 = .ok (.aload_n 0, 1) := by decide +kernel
theorem dJ4_charAt_5068e_1 : decode cJ4_charAt_5068e 1 = .ok (.iload_n 1, 1) := by decide +kernel
theorem dJ4_charAt_5068e_2 : decode cJ4_charAt_5068e 2 = .ok (.invokespecial 329, 3) := by decide +kernel
theorem dJ4_charAt_5068e_5 : decode cJ4_charAt_5068e 5 = .ok (.ireturn, 1) := by decide +kernel
theorem dJ4_length_8abf5_0 : decode cJ4_length_8abf5 0 = .ok (.aload_n 0, 1) := by decide +kernel
theorem dJ4_length_8abf5_1 : decode cJ4_length_8abf5 1 = .ok (.invokespecial 343, 3) := by decide +kernel
theorem dJ4_length_8abf5_4 : decode cJ4_length_8abf5 4 = .ok (.ireturn, 1) := by decide +kernel
theorem dJ1_charAt_3b067_0 : decode cJ1_charAt_3b067 0 = .ok (.iload_n 1, 1) := by decide +kernel
theorem dJ1_charAt_3b067_1 : decode cJ1_charAt_3b067 1 = .ok (.aload_n 0, 1) := by decide +kernel
theorem dJ1_charAt_3b067_2 : decode cJ1_charAt_3b067 2 = .ok (.arraylength, 1) := by decide +kernel
theorem dJ1_charAt_3b067_3 : decode cJ1_charAt_3b067 3 = .ok (.invokestatic 9, 3) := by decide +kernel
theorem dJ1_charAt_3b067_6 : decode cJ1_charAt_3b067 6 = .ok (.aload_n 0, 1) := by decide +kernel
theorem dJ1_charAt_3b067_7 : decode cJ1_charAt_3b067 7 = .ok (.iload_n 1, 1) := by decide +kernel
theorem dJ1_charAt_3b067_8 : decode cJ1_charAt_3b067 8 = .ok (.baload, 1) := by decide +kernel
theorem dJ1_charAt_3b067_9 : decode cJ1_charAt_3b067 9 = .ok (.sipush 255, 3) := by decide +kernel
theorem dJ1_charAt_3b067_12 : decode cJ1_charAt_3b067 12 = .ok (.iand, 1) := by decide +kernel
theorem dJ1_charAt_3b067_13 : decode cJ1_charAt_3b067 13 = .ok (.i2c, 1) := by decide +kernel
theorem dJ1_charAt_3b067_14 : decode cJ1_charAt_3b067 14 = .ok (.ireturn, 1) := by decide +kernel
theorem dJ1_canEncode_fc78d_0 : decode cJ1_canEncode_fc78d 0 = .ok (.iload_n 0, 1) := by decide +kernel
theorem dJ1_canEncode_fc78d_1 : decode cJ1_canEncode_fc78d 1 = .ok (.sipush 255, 3) := by decide +kernel
theorem dJ1_canEncode_fc78d_4 : decode cJ1_canEncode_fc78d 4 = .ok (.if_icmp .gt 7, 3) := by decide +kernel
theorem dJ1_canEncode_fc78d_7 : decode cJ1_canEncode_fc78d 7 = .ok (.iconst 1, 1) := by decide +kernel
theorem dJ1_canEncode_fc78d_8 : decode cJ1_canEncode_fc78d 8 = .ok (.goto 4, 3) := by decide +kernel
theorem dJ1_canEncode_fc78d_11 : decode cJ1_canEncode_fc78d 11 = .ok (.iconst 0, 1) := by decide +kernel
theorem dJ1_canEncode_fc78d_12 : decode cJ1_canEncode_fc78d 12 = .ok (.ireturn, 1) := by decide +kernel
theorem dJ1_inflate_0e8fd_0 : decode cJ1_inflate_0e8fd 0 = .ok (.aload_n 0, 1) := by decide +kernel
theorem dJ1_inflate_0e8fd_1 : decode cJ1_inflate_0e8fd 1 = .ok (.iload_n 1, 1) := by decide +kernel
theorem dJ1_inflate_0e8fd_2 : decode cJ1_inflate_0e8fd 2 = .ok (.aload_n 2, 1) := by decide +kernel
theorem dJ1_inflate_0e8fd_3 : decode cJ1_inflate_0e8fd 3 = .ok (.iload_n 3, 1) := by decide +kernel
theorem dJ1_inflate_0e8fd_4 : decode cJ1_inflate_0e8fd 4 = .ok (.iload 4, 2) := by decide +kernel
theorem dJ1_inflate_0e8fd_6 : decode cJ1_inflate_0e8fd 6 = .ok (.invokestatic 240, 3) := by decide +kernel
theorem dJ1_inflate_0e8fd_9 : decode cJ1_inflate_0e8fd 9 = .ok (.return_, 1) := by decide +kernel
theorem dJ2_newBytesFor_77867_0 : decode cJ2_newBytesFor_77867 0 = .ok (.iload_n 0, 1) := by decide +kernel
theorem dJ2_newBytesFor_77867_1 : decode cJ2_newBytesFor_77867 1 = .ok (.invokestatic 11, 3) := by decide +kernel
theorem dJ2_newBytesFor_77867_4 : decode cJ2_newBytesFor_77867 4 = .ok (.newarray .byte, 2) := by decide +kernel
theorem dJ2_newBytesFor_77867_6 : decode cJ2_newBytesFor_77867 6 = .ok (.areturn, 1) := by decide +kernel
theorem dJ2_newBytesLength_0f7a4_0 : decode cJ2_newBytesLength_0f7a4 0 = .ok (.iload_n 0, 1) := by decide +kernel
theorem dJ2_newBytesLength_0f7a4_1 : decode cJ2_newBytesLength_0f7a4 1 = .ok (.ifCond .ge 11, 3) := by decide +kernel
theorem dJ2_newBytesLength_0f7a4_4 : decode cJ2_newBytesLength_0f7a4 4 = .ok (.new 17, 3) := by decide +kernel
theorem dJ2_newBytesLength_0f7a4_7 : decode cJ2_newBytesLength_0f7a4 7 = .ok (.dup, 1) := by decide +kernel
theorem dJ2_newBytesLength_0f7a4_8 : decode cJ2_newBytesLength_0f7a4 8 = .ok (.invokespecial 19, 3) := by decide +kernel
theorem dJ2_newBytesLength_0f7a4_11 : decode cJ2_newBytesLength_0f7a4 11 = .ok (.athrow, 1) := by decide +kernel
theorem dJ2_newBytesLength_0f7a4_12 : decode cJ2_newBytesLength_0f7a4 12 = .ok (.iload_n 0, 1) := by decide +kernel
theorem dJ2_newBytesLength_0f7a4_13 : decode cJ2_newBytesLength_0f7a4 13 = .ok (.ldc 20, 2) := by decide +kernel
theorem dJ2_newBytesLength_0f7a4_15 : decode cJ2_newBytesLength_0f7a4 15 = .ok (.if_icmp .lt 40, 3) := by decide +kernel
theorem dJ2_newBytesLength_0f7a4_18 : decode cJ2_newBytesLength_0f7a4 18 = .ok (.new 21, 3) := by decide +kernel
theorem dJ2_newBytesLength_0f7a4_21 : decode cJ2_newBytesLength_0f7a4 21 = .ok (.dup, 1) := by decide +kernel
theorem dJ2_newBytesLength_0f7a4_22 : decode cJ2_newBytesLength_0f7a4 22 = .ok (.new 23, 3) := by decide +kernel
theorem dJ2_newBytesLength_0f7a4_25 : decode cJ2_newBytesLength_0f7a4 25 = .ok (.dup, 1) := by decide +kernel
theorem dJ2_newBytesLength_0f7a4_26 : decode cJ2_newBytesLength_0f7a4 26 = .ok (.invokespecial 25, 3) := by decide +kernel
theorem dJ2_newBytesLength_0f7a4_29 : decode cJ2_newBytesLength_0f7a4 29 = .ok (.ldc 26, 2) := by decide +kernel
theorem dJ2_newBytesLength_0f7a4_31 : decode cJ2_newBytesLength_0f7a4 31 = .ok (.invokevirtual 28, 3) := by decide +kernel
theorem dJ2_newBytesLength_0f7a4_34 : decode cJ2_newBytesLength_0f7a4 34 = .ok (.iload_n 0, 1) := by decide +kernel
theorem dJ2_newBytesLength_0f7a4_35 : decode cJ2_newBytesLength_0f7a4 35 = .ok (.invokevirtual 32, 3) := by decide +kernel
theorem dJ2_newBytesLength_0f7a4_38 : decode cJ2_newBytesLength_0f7a4 38 = .ok (.ldc 35, 2) := by decide +kernel
theorem dJ2_newBytesLength_0f7a4_40 : decode cJ2_newBytesLength_0f7a4 40 = .ok (.invokevirtual 28, 3) := by decide +kernel
theorem dJ2_newBytesLength_0f7a4_43 : decode cJ2_newBytesLength_0f7a4 43 = .ok (.ldc 20, 2) := by decide +kernel
theorem dJ2_newBytesLength_0f7a4_45 : decode cJ2_newBytesLength_0f7a4 45 = .ok (.invokevirtual 32, 3) := by decide +kernel
theorem dJ2_newBytesLength_0f7a4_48 : decode cJ2_newBytesLength_0f7a4 48 = .ok (.invokevirtual 37, 3) := by decide +kernel
theorem dJ2_newBytesLength_0f7a4_51 : decode cJ2_newBytesLength_0f7a4 51 = .ok (.invokespecial 41, 3) := by decide +kernel
theorem dJ2_newBytesLength_0f7a4_54 : decode cJ2_newBytesLength_0f7a4 54 = .ok (.athrow, 1) := by decide +kernel
theorem dJ2_newBytesLength_0f7a4_55 : decode cJ2_newBytesLength_0f7a4 55 = .ok (.iload_n 0, 1) := by decide +kernel
theorem dJ2_newBytesLength_0f7a4_56 : decode cJ2_newBytesLength_0f7a4 56 = .ok (.iconst 1, 1) := by decide +kernel
theorem dJ2_newBytesLength_0f7a4_57 : decode cJ2_newBytesLength_0f7a4 57 = .ok (.ishl, 1) := by decide +kernel
theorem dJ2_newBytesLength_0f7a4_58 : decode cJ2_newBytesLength_0f7a4 58 = .ok (.ireturn, 1) := by decide +kernel
theorem dJ2_putChar_b72d1_0 : decode cJ2_putChar_b72d1 0 = .ok (.getstatic 44, 3) := by decide +kernel
theorem dJ2_putChar_b72d1_3 : decode cJ2_putChar_b72d1 3 = .ok (.ifCond .ne 25, 3) := by decide +kernel
theorem dJ2_putChar_b72d1_6 : decode cJ2_putChar_b72d1 6 = .ok (.iload_n 1, 1) := by decide +kernel
theorem dJ2_putChar_b72d1_7 : decode cJ2_putChar_b72d1 7 = .ok (.ifCond .lt 11, 3) := by decide +kernel
theorem dJ2_putChar_b72d1_10 : decode cJ2_putChar_b72d1 10 = .ok (.iload_n 1, 1) := by decide +kernel
theorem dJ2_putChar_b72d1_11 : decode cJ2_putChar_b72d1 11 = .ok (.aload_n 0, 1) := by decide +kernel
theorem dJ2_putChar_b72d1_12 : decode cJ2_putChar_b72d1 12 = .ok (.invokestatic 48, 3) := by decide +kernel
theorem dJ2_putChar_b72d1_15 : decode cJ2_putChar_b72d1 15 = .ok (.if_icmp .lt 13, 3) := by decide +kernel
theorem dJ2_putChar_b72d1_18 : decode cJ2_putChar_b72d1 18 = .ok (.new 52, 3) := by decide +kernel
theorem dJ2_putChar_b72d1_21 : decode cJ2_putChar_b72d1 21 = .ok (.dup, 1) := by decide +kernel
theorem dJ2_putChar_b72d1_22 : decode cJ2_putChar_b72d1 22 = .ok (.ldc 54, 2) := by decide +kernel
theorem dJ2_putChar_b72d1_24 : decode cJ2_putChar_b72d1 24 = .ok (.invokespecial 56, 3) := by decide +kernel
theorem dJ2_putChar_b72d1_27 : decode cJ2_putChar_b72d1 27 = .ok (.athrow, 1) := by decide +kernel
theorem dJ2_putChar_b72d1_28 : decode cJ2_putChar_b72d1 28 = .ok (.iload_n 1, 1) := by decide +kernel
theorem dJ2_putChar_b72d1_29 : decode cJ2_putChar_b72d1 29 = .ok (.iconst 1, 1) := by decide +kernel
theorem dJ2_putChar_b72d1_30 : decode cJ2_putChar_b72d1 30 = .ok (.ishl, 1) := by decide +kernel
theorem dJ2_putChar_b72d1_31 : decode cJ2_putChar_b72d1 31 = .ok (.istore_n 1, 1) := by decide +kernel
theorem dJ2_putChar_b72d1_32 : decode cJ2_putChar_b72d1 32 = .ok (.aload_n 0, 1) := by decide +kernel
theorem dJ2_putChar_b72d1_33 : decode cJ2_putChar_b72d1 33 = .ok (.iload_n 1, 1) := by decide +kernel
theorem dJ2_putChar_b72d1_34 : decode cJ2_putChar_b72d1 34 = .ok (.iinc 1 1, 3) := by decide +kernel
theorem dJ2_putChar_b72d1_37 : decode cJ2_putChar_b72d1 37 = .ok (.iload_n 2, 1) := by decide +kernel
theorem dJ2_putChar_b72d1_38 : decode cJ2_putChar_b72d1 38 = .ok (.getstatic 59, 3) := by decide +kernel
theorem dJ2_putChar_b72d1_41 : decode cJ2_putChar_b72d1 41 = .ok (.ishr, 1) := by decide +kernel
theorem dJ2_putChar_b72d1_42 : decode cJ2_putChar_b72d1 42 = .ok (.i2b, 1) := by decide +kernel
theorem dJ2_putChar_b72d1_43 : decode cJ2_putChar_b72d1 43 = .ok (.bastore, 1) := by decide +kernel
theorem dJ2_putChar_b72d1_44 : decode cJ2_putChar_b72d1 44 = .ok (.aload_n 0, 1) := by decide +kernel
theorem dJ2_putChar_b72d1_45 : decode cJ2_putChar_b72d1 45 = .ok (.iload_n 1, 1) := by decide +kernel
theorem dJ2_putChar_b72d1_46 : decode cJ2_putChar_b72d1 46 = .ok (.iload_n 2, 1) := by decide +kernel
theorem dJ2_putChar_b72d1_47 : decode cJ2_putChar_b72d1 47 = .ok (.getstatic 63, 3) := by decide +kernel
theorem dJ2_putChar_b72d1_50 : decode cJ2_putChar_b72d1 50 = .ok (.ishr, 1) := by decide +kernel
theorem dJ2_putChar_b72d1_51 : decode cJ2_putChar_b72d1 51 = .ok (.i2b, 1) := by decide +kernel
theorem dJ2_putChar_b72d1_52 : decode cJ2_putChar_b72d1 52 = .ok (.bastore, 1) := by decide +kernel
theorem dJ2_putChar_b72d1_53 : decode cJ2_putChar_b72d1 53 = .ok (.return_, 1) := by decide +kernel
theorem dJ2_getChar_3b067_0 : decode cJ2_getChar_3b067 0 = .ok (.getstatic 44, 3) := by decide +kernel
theorem dJ2_getChar_3b067_3 : decode cJ2_getChar_3b067 3 = .ok (.ifCond .ne 25, 3) := by decide +kernel
theorem dJ2_getChar_3b067_6 : decode cJ2_getChar_3b067 6 = .ok (.iload_n 1, 1) := by decide +kernel
theorem dJ2_getChar_3b067_7 : decode cJ2_getChar_3b067 7 = .ok (.ifCond .lt 11, 3) := by decide +kernel
theorem dJ2_getChar_3b067_10 : decode cJ2_getChar_3b067 10 = .ok (.iload_n 1, 1) := by decide +kernel
theorem dJ2_getChar_3b067_11 : decode cJ2_getChar_3b067 11 = .ok (.aload_n 0, 1) := by decide +kernel
theorem dJ2_getChar_3b067_12 : decode cJ2_getChar_3b067 12 = .ok (.invokestatic 48, 3) := by decide +kernel
theorem dJ2_getChar_3b067_15 : decode cJ2_getChar_3b067 15 = .ok (.if_icmp .lt 13, 3) := by decide +kernel
theorem dJ2_getChar_3b067_18 : decode cJ2_getChar_3b067 18 = .ok (.new 52, 3) := by decide +kernel
theorem dJ2_getChar_3b067_21 : decode cJ2_getChar_3b067 21 = .ok (.dup, 1) := by decide +kernel
theorem dJ2_getChar_3b067_22 : decode cJ2_getChar_3b067 22 = .ok (.ldc 54, 2) := by decide +kernel
theorem dJ2_getChar_3b067_24 : decode cJ2_getChar_3b067 24 = .ok (.invokespecial 56, 3) := by decide +kernel
theorem dJ2_getChar_3b067_27 : decode cJ2_getChar_3b067 27 = .ok (.athrow, 1) := by decide +kernel
theorem dJ2_getChar_3b067_28 : decode cJ2_getChar_3b067 28 = .ok (.iload_n 1, 1) := by decide +kernel
theorem dJ2_getChar_3b067_29 : decode cJ2_getChar_3b067 29 = .ok (.iconst 1, 1) := by decide +kernel
theorem dJ2_getChar_3b067_30 : decode cJ2_getChar_3b067 30 = .ok (.ishl, 1) := by decide +kernel
theorem dJ2_getChar_3b067_31 : decode cJ2_getChar_3b067 31 = .ok (.istore_n 1, 1) := by decide +kernel
theorem dJ2_getChar_3b067_32 : decode cJ2_getChar_3b067 32 = .ok (.aload_n 0, 1) := by decide +kernel
theorem dJ2_getChar_3b067_33 : decode cJ2_getChar_3b067 33 = .ok (.iload_n 1, 1) := by decide +kernel
theorem dJ2_getChar_3b067_34 : decode cJ2_getChar_3b067 34 = .ok (.iinc 1 1, 3) := by decide +kernel
theorem dJ2_getChar_3b067_37 : decode cJ2_getChar_3b067 37 = .ok (.baload, 1) := by decide +kernel
theorem dJ2_getChar_3b067_38 : decode cJ2_getChar_3b067 38 = .ok (.sipush 255, 3) := by decide +kernel
theorem dJ2_getChar_3b067_41 : decode cJ2_getChar_3b067 41 = .ok (.iand, 1) := by decide +kernel
theorem dJ2_getChar_3b067_42 : decode cJ2_getChar_3b067 42 = .ok (.getstatic 59, 3) := by decide +kernel
theorem dJ2_getChar_3b067_45 : decode cJ2_getChar_3b067 45 = .ok (.ishl, 1) := by decide +kernel
theorem dJ2_getChar_3b067_46 : decode cJ2_getChar_3b067 46 = .ok (.aload_n 0, 1) := by decide +kernel
theorem dJ2_getChar_3b067_47 : decode cJ2_getChar_3b067 47 = .ok (.iload_n 1, 1) := by decide +kernel
theorem dJ2_getChar_3b067_48 : decode cJ2_getChar_3b067 48 = .ok (.baload, 1) := by decide +kernel
theorem dJ2_getChar_3b067_49 : decode cJ2_getChar_3b067 49 = .ok (.sipush 255, 3) := by decide +kernel
theorem dJ2_getChar_3b067_52 : decode cJ2_getChar_3b067 52 = .ok (.iand, 1) := by decide +kernel
theorem dJ2_getChar_3b067_53 : decode cJ2_getChar_3b067 53 = .ok (.getstatic 63, 3) := by decide +kernel
theorem dJ2_getChar_3b067_56 : decode cJ2_getChar_3b067 56 = .ok (.ishl, 1) := by decide +kernel
theorem dJ2_getChar_3b067_57 : decode cJ2_getChar_3b067 57 = .ok (.ior, 1) := by decide +kernel
theorem dJ2_getChar_3b067_58 : decode cJ2_getChar_3b067 58 = .ok (.i2c, 1) := by decide +kernel
theorem dJ2_getChar_3b067_59 : decode cJ2_getChar_3b067 59 = .ok (.ireturn, 1) := by decide +kernel
theorem dJ2_length_9d52b_0 : decode cJ2_length_9d52b 0 = .ok (.aload_n 0, 1) := by decide +kernel
theorem dJ2_length_9d52b_1 : decode cJ2_length_9d52b 1 = .ok (.arraylength, 1) := by decide +kernel
theorem dJ2_length_9d52b_2 : decode cJ2_length_9d52b 2 = .ok (.iconst 1, 1) := by decide +kernel
theorem dJ2_length_9d52b_3 : decode cJ2_length_9d52b 3 = .ok (.ishr, 1) := by decide +kernel
theorem dJ2_length_9d52b_4 : decode cJ2_length_9d52b 4 = .ok (.ireturn, 1) := by decide +kernel
theorem dJ2_putCharSB_b72d1_0 : decode cJ2_putCharSB_b72d1 0 = .ok (.iload_n 1, 1) := by decide +kernel
theorem dJ2_putCharSB_b72d1_1 : decode cJ2_putCharSB_b72d1 1 = .ok (.aload_n 0, 1) := by decide +kernel
theorem dJ2_putCharSB_b72d1_2 : decode cJ2_putCharSB_b72d1 2 = .ok (.invokestatic 67, 3) := by decide +kernel
theorem dJ2_putCharSB_b72d1_5 : decode cJ2_putCharSB_b72d1 5 = .ok (.aload_n 0, 1) := by decide +kernel
theorem dJ2_putCharSB_b72d1_6 : decode cJ2_putCharSB_b72d1 6 = .ok (.iload_n 1, 1) := by decide +kernel
theorem dJ2_putCharSB_b72d1_7 : decode cJ2_putCharSB_b72d1 7 = .ok (.iload_n 2, 1) := by decide +kernel
theorem dJ2_putCharSB_b72d1_8 : decode cJ2_putCharSB_b72d1 8 = .ok (.invokestatic 111, 3) := by decide +kernel
theorem dJ2_putCharSB_b72d1_11 : decode cJ2_putCharSB_b72d1 11 = .ok (.return_, 1) := by decide +kernel
theorem dJ2_getChars_46870_0 : decode cJ2_getChars_46870 0 = .ok (.iload_n 1, 1) := by decide +kernel
theorem dJ2_getChars_46870_1 : decode cJ2_getChars_46870 1 = .ok (.iload_n 2, 1) := by decide +kernel
theorem dJ2_getChars_46870_2 : decode cJ2_getChars_46870 2 = .ok (.aload_n 3, 1) := by decide +kernel
theorem dJ2_getChars_46870_3 : decode cJ2_getChars_46870 3 = .ok (.invokestatic 96, 3) := by decide +kernel
theorem dJ2_getChars_46870_6 : decode cJ2_getChars_46870 6 = .ok (.iload_n 0, 1) := by decide +kernel
theorem dJ2_getChars_46870_7 : decode cJ2_getChars_46870 7 = .ok (.iload_n 2, 1) := by decide +kernel
theorem dJ2_getChars_46870_8 : decode cJ2_getChars_46870 8 = .ok (.aload_n 3, 1) := by decide +kernel
theorem dJ2_getChars_46870_9 : decode cJ2_getChars_46870 9 = .ok (.invokestatic 393, 3) := by decide +kernel
theorem dJ2_getChars_46870_12 : decode cJ2_getChars_46870 12 = .ok (.istore 4, 2) := by decide +kernel
theorem dJ2_getChars_46870_14 : decode cJ2_getChars_46870 14 = .ok (.getstatic 44, 3) := by decide +kernel
theorem dJ2_getChars_46870_17 : decode cJ2_getChars_46870 17 = .ok (.ifCond .ne 17, 3) := by decide +kernel
theorem dJ2_getChars_46870_20 : decode cJ2_getChars_46870 20 = .ok (.iload_n 1, 1) := by decide +kernel
theorem dJ2_getChars_46870_21 : decode cJ2_getChars_46870 21 = .ok (.iload 4, 2) := by decide +kernel
theorem dJ2_getChars_46870_23 : decode cJ2_getChars_46870 23 = .ok (.if_icmp .eq 11, 3) := by decide +kernel
theorem dJ2_getChars_46870_26 : decode cJ2_getChars_46870 26 = .ok (.new 52, 3) := by decide +kernel
theorem dJ2_getChars_46870_29 : decode cJ2_getChars_46870 29 = .ok (.dup, 1) := by decide +kernel
theorem dJ2_getChars_46870_30 : decode cJ2_getChars_46870 30 = .ok (.invokespecial 66, 3) := by decide +kernel
theorem dJ2_getChars_46870_33 : decode cJ2_getChars_46870 33 = .ok (.athrow, 1) := by decide +kernel
theorem dJ2_getChars_46870_34 : decode cJ2_getChars_46870 34 = .ok (.iload 4, 2) := by decide +kernel
theorem dJ2_getChars_46870_36 : decode cJ2_getChars_46870 36 = .ok (.ireturn, 1) := by decide +kernel
theorem dJ2_putCharsAt_cd4e5_0 : decode cJ2_putCharsAt_cd4e5 0 = .ok (.iload_n 1, 1) := by decide +kernel
theorem dJ2_putCharsAt_cd4e5_1 : decode cJ2_putCharsAt_cd4e5 1 = .ok (.iconst 4, 1) := by decide +kernel
theorem dJ2_putCharsAt_cd4e5_2 : decode cJ2_putCharsAt_cd4e5 2 = .ok (.iadd, 1) := by decide +kernel
theorem dJ2_putCharsAt_cd4e5_3 : decode cJ2_putCharsAt_cd4e5 3 = .ok (.istore 6, 2) := by decide +kernel
theorem dJ2_putCharsAt_cd4e5_5 : decode cJ2_putCharsAt_cd4e5 5 = .ok (.iload_n 1, 1) := by decide +kernel
theorem dJ2_putCharsAt_cd4e5_6 : decode cJ2_putCharsAt_cd4e5 6 = .ok (.iload 6, 2) := by decide +kernel
theorem dJ2_putCharsAt_cd4e5_8 : decode cJ2_putCharsAt_cd4e5 8 = .ok (.aload_n 0, 1) := by decide +kernel
theorem dJ2_putCharsAt_cd4e5_9 : decode cJ2_putCharsAt_cd4e5 9 = .ok (.invokestatic 96, 3) := by decide +kernel
theorem dJ2_putCharsAt_cd4e5_12 : decode cJ2_putCharsAt_cd4e5 12 = .ok (.aload_n 0, 1) := by decide +kernel
theorem dJ2_putCharsAt_cd4e5_13 : decode cJ2_putCharsAt_cd4e5 13 = .ok (.iload_n 1, 1) := by decide +kernel
theorem dJ2_putCharsAt_cd4e5_14 : decode cJ2_putCharsAt_cd4e5 14 = .ok (.iinc 1 1, 3) := by decide +kernel
theorem dJ2_putCharsAt_cd4e5_17 : decode cJ2_putCharsAt_cd4e5 17 = .ok (.iload_n 2, 1) := by decide +kernel
theorem dJ2_putCharsAt_cd4e5_18 : decode cJ2_putCharsAt_cd4e5 18 = .ok (.invokestatic 111, 3) := by decide +kernel
theorem dJ2_putCharsAt_cd4e5_21 : decode cJ2_putCharsAt_cd4e5 21 = .ok (.aload_n 0, 1) := by decide +kernel
theorem dJ2_putCharsAt_cd4e5_22 : decode cJ2_putCharsAt_cd4e5 22 = .ok (.iload_n 1, 1) := by decide +kernel
theorem dJ2_putCharsAt_cd4e5_23 : decode cJ2_putCharsAt_cd4e5 23 = .ok (.iinc 1 1, 3) := by decide +kernel
theorem dJ2_putCharsAt_cd4e5_26 : decode cJ2_putCharsAt_cd4e5 26 = .ok (.iload_n 3, 1) := by decide +kernel
theorem dJ2_putCharsAt_cd4e5_27 : decode cJ2_putCharsAt_cd4e5 27 = .ok (.invokestatic 111, 3) := by decide +kernel
theorem dJ2_putCharsAt_cd4e5_30 : decode cJ2_putCharsAt_cd4e5 30 = .ok (.aload_n 0, 1) := by decide +kernel
theorem dJ2_putCharsAt_cd4e5_31 : decode cJ2_putCharsAt_cd4e5 31 = .ok (.iload_n 1, 1) := by decide +kernel
theorem dJ2_putCharsAt_cd4e5_32 : decode cJ2_putCharsAt_cd4e5 32 = .ok (.iinc 1 1, 3) := by decide +kernel
theorem dJ2_putCharsAt_cd4e5_35 : decode cJ2_putCharsAt_cd4e5 35 = .ok (.iload 4, 2) := by decide +kernel
theorem dJ2_putCharsAt_cd4e5_37 : decode cJ2_putCharsAt_cd4e5 37 = .ok (.invokestatic 111, 3) := by decide +kernel
theorem dJ2_putCharsAt_cd4e5_40 : decode cJ2_putCharsAt_cd4e5 40 = .ok (.aload_n 0, 1) := by decide +kernel
theorem dJ2_putCharsAt_cd4e5_41 : decode cJ2_putCharsAt_cd4e5 41 = .ok (.iload_n 1, 1) := by decide +kernel
theorem dJ2_putCharsAt_cd4e5_42 : decode cJ2_putCharsAt_cd4e5 42 = .ok (.iinc 1 1, 3) := by decide +kernel
theorem dJ2_putCharsAt_cd4e5_45 : decode cJ2_putCharsAt_cd4e5 45 = .ok (.iload 5, 2) := by decide +kernel
theorem dJ2_putCharsAt_cd4e5_47 : decode cJ2_putCharsAt_cd4e5 47 = .ok (.invokestatic 111, 3) := by decide +kernel
theorem dJ2_putCharsAt_cd4e5_50 : decode cJ2_putCharsAt_cd4e5 50 = .ok (.getstatic 44, 3) := by decide +kernel
theorem dJ2_putCharsAt_cd4e5_53 : decode cJ2_putCharsAt_cd4e5 53 = .ok (.ifCond .ne 17, 3) := by decide +kernel
theorem dJ2_putCharsAt_cd4e5_56 : decode cJ2_putCharsAt_cd4e5 56 = .ok (.iload_n 1, 1) := by decide +kernel
theorem dJ2_putCharsAt_cd4e5_57 : decode cJ2_putCharsAt_cd4e5 57 = .ok (.iload 6, 2) := by decide +kernel
theorem dJ2_putCharsAt_cd4e5_59 : decode cJ2_putCharsAt_cd4e5 59 = .ok (.if_icmp .eq 11, 3) := by decide +kernel
theorem dJ2_putCharsAt_cd4e5_62 : decode cJ2_putCharsAt_cd4e5 62 = .ok (.new 52, 3) := by decide +kernel
theorem dJ2_putCharsAt_cd4e5_65 : decode cJ2_putCharsAt_cd4e5 65 = .ok (.dup, 1) := by decide +kernel
theorem dJ2_putCharsAt_cd4e5_66 : decode cJ2_putCharsAt_cd4e5 66 = .ok (.invokespecial 66, 3) := by decide +kernel
theorem dJ2_putCharsAt_cd4e5_69 : decode cJ2_putCharsAt_cd4e5 69 = .ok (.athrow, 1) := by decide +kernel
theorem dJ2_putCharsAt_cd4e5_70 : decode cJ2_putCharsAt_cd4e5 70 = .ok (.iload 6, 2) := by decide +kernel
theorem dJ2_putCharsAt_cd4e5_72 : decode cJ2_putCharsAt_cd4e5 72 = .ok (.ireturn, 1) := by decide +kernel
theorem dJ2_charAt_3b067_0 : decode cJ2_charAt_3b067 0 = .ok (.iload_n 1, 1) := by decide +kernel
theorem dJ2_charAt_3b067_1 : decode cJ2_charAt_3b067 1 = .ok (.aload_n 0, 1) := by decide +kernel
theorem dJ2_charAt_3b067_2 : decode cJ2_charAt_3b067 2 = .ok (.invokestatic 67, 3) := by decide +kernel
theorem dJ2_charAt_3b067_5 : decode cJ2_charAt_3b067 5 = .ok (.aload_n 0, 1) := by decide +kernel
theorem dJ2_charAt_3b067_6 : decode cJ2_charAt_3b067 6 = .ok (.iload_n 1, 1) := by decide +kernel
theorem dJ2_charAt_3b067_7 : decode cJ2_charAt_3b067 7 = .ok (.invokestatic 71, 3) := by decide +kernel
theorem dJ2_charAt_3b067_10 : decode cJ2_charAt_3b067 10 = .ok (.ireturn, 1) := by decide +kernel
theorem dJ2_inflate_0e8fd_0 : decode cJ2_inflate_0e8fd 0 = .ok (.iload_n 3, 1) := by decide +kernel
theorem dJ2_inflate_0e8fd_1 : decode cJ2_inflate_0e8fd 1 = .ok (.iload 4, 2) := by decide +kernel
theorem dJ2_inflate_0e8fd_3 : decode cJ2_inflate_0e8fd 3 = .ok (.aload_n 2, 1) := by decide +kernel
theorem dJ2_inflate_0e8fd_4 : decode cJ2_inflate_0e8fd 4 = .ok (.invokestatic 173, 3) := by decide +kernel
theorem dJ2_inflate_0e8fd_7 : decode cJ2_inflate_0e8fd 7 = .ok (.iconst 0, 1) := by decide +kernel
theorem dJ2_inflate_0e8fd_8 : decode cJ2_inflate_0e8fd 8 = .ok (.istore 5, 2) := by decide +kernel
theorem dJ2_inflate_0e8fd_10 : decode cJ2_inflate_0e8fd 10 = .ok (.iload 5, 2) := by decide +kernel
theorem dJ2_inflate_0e8fd_12 : decode cJ2_inflate_0e8fd 12 = .ok (.iload 4, 2) := by decide +kernel
theorem dJ2_inflate_0e8fd_14 : decode cJ2_inflate_0e8fd 14 = .ok (.if_icmp .ge 27, 3) := by decide +kernel
theorem dJ2_inflate_0e8fd_17 : decode cJ2_inflate_0e8fd 17 = .ok (.aload_n 2, 1) := by decide +kernel
theorem dJ2_inflate_0e8fd_18 : decode cJ2_inflate_0e8fd 18 = .ok (.iload_n 3, 1) := by decide +kernel
theorem dJ2_inflate_0e8fd_19 : decode cJ2_inflate_0e8fd 19 = .ok (.iinc 3 1, 3) := by decide +kernel
theorem dJ2_inflate_0e8fd_22 : decode cJ2_inflate_0e8fd 22 = .ok (.aload_n 0, 1) := by decide +kernel
theorem dJ2_inflate_0e8fd_23 : decode cJ2_inflate_0e8fd 23 = .ok (.iload_n 1, 1) := by decide +kernel
theorem dJ2_inflate_0e8fd_24 : decode cJ2_inflate_0e8fd 24 = .ok (.iinc 1 1, 3) := by decide +kernel
theorem dJ2_inflate_0e8fd_27 : decode cJ2_inflate_0e8fd 27 = .ok (.baload, 1) := by decide +kernel
theorem dJ2_inflate_0e8fd_28 : decode cJ2_inflate_0e8fd 28 = .ok (.sipush 255, 3) := by decide +kernel
theorem dJ2_inflate_0e8fd_31 : decode cJ2_inflate_0e8fd 31 = .ok (.iand, 1) := by decide +kernel
theorem dJ2_inflate_0e8fd_32 : decode cJ2_inflate_0e8fd 32 = .ok (.invokestatic 111, 3) := by decide +kernel
theorem dJ2_inflate_0e8fd_35 : decode cJ2_inflate_0e8fd 35 = .ok (.iinc 5 1, 3) := by decide +kernel
theorem dJ2_inflate_0e8fd_38 : decode cJ2_inflate_0e8fd 38 = .ok (.goto (-28), 3) := by decide +kernel
theorem dJ2_inflate_0e8fd_41 : decode cJ2_inflate_0e8fd 41 = .ok (.return_, 1) := by decide +kernel
theorem dJ2_getChars_ba4f3_0 : decode cJ2_getChars_ba4f3 0 = .ok (.iload_n 1, 1) := by decide +kernel
theorem dJ2_getChars_ba4f3_1 : decode cJ2_getChars_ba4f3 1 = .ok (.istore 5, 2) := by decide +kernel
theorem dJ2_getChars_ba4f3_3 : decode cJ2_getChars_ba4f3 3 = .ok (.iload_n 0, 1) := by decide +kernel
theorem dJ2_getChars_ba4f3_4 : decode cJ2_getChars_ba4f3 4 = .ok (.ifCond .ge 7, 3) := by decide +kernel
theorem dJ2_getChars_ba4f3_7 : decode cJ2_getChars_ba4f3 7 = .ok (.iconst 1, 1) := by decide +kernel
theorem dJ2_getChars_ba4f3_8 : decode cJ2_getChars_ba4f3 8 = .ok (.goto 4, 3) := by decide +kernel
theorem dJ2_getChars_ba4f3_11 : decode cJ2_getChars_ba4f3 11 = .ok (.iconst 0, 1) := by decide +kernel
theorem dJ2_getChars_ba4f3_12 : decode cJ2_getChars_ba4f3 12 = .ok (.istore 6, 2) := by decide +kernel
theorem dJ2_getChars_ba4f3_14 : decode cJ2_getChars_ba4f3 14 = .ok (.iload 6, 2) := by decide +kernel
theorem dJ2_getChars_ba4f3_16 : decode cJ2_getChars_ba4f3 16 = .ok (.ifCond .ne 6, 3) := by decide +kernel
theorem dJ2_getChars_ba4f3_19 : decode cJ2_getChars_ba4f3 19 = .ok (.iload_n 0, 1) := by decide +kernel
theorem dJ2_getChars_ba4f3_20 : decode cJ2_getChars_ba4f3 20 = .ok (.ineg, 1) := by decide +kernel
theorem dJ2_getChars_ba4f3_21 : decode cJ2_getChars_ba4f3 21 = .ok (.istore_n 0, 1) := by decide +kernel
theorem dJ2_getChars_ba4f3_22 : decode cJ2_getChars_ba4f3 22 = .ok (.iload_n 0, 1) := by decide +kernel
theorem dJ2_getChars_ba4f3_23 : decode cJ2_getChars_ba4f3 23 = .ok (.bipush (-100), 2) := by decide +kernel
theorem dJ2_getChars_ba4f3_25 : decode cJ2_getChars_ba4f3 25 = .ok (.if_icmp .gt 51, 3) := by decide +kernel
theorem dJ2_getChars_ba4f3_28 : decode cJ2_getChars_ba4f3 28 = .ok (.iload_n 0, 1) := by decide +kernel
theorem dJ2_getChars_ba4f3_29 : decode cJ2_getChars_ba4f3 29 = .ok (.bipush 100, 2) := by decide +kernel
theorem dJ2_getChars_ba4f3_31 : decode cJ2_getChars_ba4f3 31 = .ok (.idiv, 1) := by decide +kernel
theorem dJ2_getChars_ba4f3_32 : decode cJ2_getChars_ba4f3 32 = .ok (.istore_n 3, 1) := by decide +kernel
theorem dJ2_getChars_ba4f3_33 : decode cJ2_getChars_ba4f3 33 = .ok (.iload_n 3, 1) := by decide +kernel
theorem dJ2_getChars_ba4f3_34 : decode cJ2_getChars_ba4f3 34 = .ok (.bipush 100, 2) := by decide +kernel
theorem dJ2_getChars_ba4f3_36 : decode cJ2_getChars_ba4f3 36 = .ok (.imul, 1) := by decide +kernel
theorem dJ2_getChars_ba4f3_37 : decode cJ2_getChars_ba4f3 37 = .ok (.iload_n 0, 1) := by decide +kernel
theorem dJ2_getChars_ba4f3_38 : decode cJ2_getChars_ba4f3 38 = .ok (.isub, 1) := by decide +kernel
theorem dJ2_getChars_ba4f3_39 : decode cJ2_getChars_ba4f3 39 = .ok (.istore 4, 2) := by decide +kernel
theorem dJ2_getChars_ba4f3_41 : decode cJ2_getChars_ba4f3 41 = .ok (.iload_n 3, 1) := by decide +kernel
theorem dJ2_getChars_ba4f3_42 : decode cJ2_getChars_ba4f3 42 = .ok (.istore_n 0, 1) := by decide +kernel
theorem dJ2_getChars_ba4f3_43 : decode cJ2_getChars_ba4f3 43 = .ok (.aload_n 2, 1) := by decide +kernel
theorem dJ2_getChars_ba4f3_44 : decode cJ2_getChars_ba4f3 44 = .ok (.iinc 5 (-1), 3) := by decide +kernel
theorem dJ2_getChars_ba4f3_47 : decode cJ2_getChars_ba4f3 47 = .ok (.iload 5, 2) := by decide +kernel
theorem dJ2_getChars_ba4f3_49 : decode cJ2_getChars_ba4f3 49 = .ok (.getstatic 403, 3) := by decide +kernel
theorem dJ2_getChars_ba4f3_52 : decode cJ2_getChars_ba4f3 52 = .ok (.iload 4, 2) := by decide +kernel
theorem dJ2_getChars_ba4f3_54 : decode cJ2_getChars_ba4f3 54 = .ok (.baload, 1) := by decide +kernel
theorem dJ2_getChars_ba4f3_55 : decode cJ2_getChars_ba4f3 55 = .ok (.invokestatic 111, 3) := by decide +kernel
theorem dJ2_getChars_ba4f3_58 : decode cJ2_getChars_ba4f3 58 = .ok (.aload_n 2, 1) := by decide +kernel
theorem dJ2_getChars_ba4f3_59 : decode cJ2_getChars_ba4f3 59 = .ok (.iinc 5 (-1), 3) := by decide +kernel
theorem dJ2_getChars_ba4f3_62 : decode cJ2_getChars_ba4f3 62 = .ok (.iload 5, 2) := by decide +kernel
theorem dJ2_getChars_ba4f3_64 : decode cJ2_getChars_ba4f3 64 = .ok (.getstatic 407, 3) := by decide +kernel
theorem dJ2_getChars_ba4f3_67 : decode cJ2_getChars_ba4f3 67 = .ok (.iload 4, 2) := by decide +kernel
theorem dJ2_getChars_ba4f3_69 : decode cJ2_getChars_ba4f3 69 = .ok (.baload, 1) := by decide +kernel
theorem dJ2_getChars_ba4f3_70 : decode cJ2_getChars_ba4f3 70 = .ok (.invokestatic 111, 3) := by decide +kernel
theorem dJ2_getChars_ba4f3_73 : decode cJ2_getChars_ba4f3 73 = .ok (.goto (-51), 3) := by decide +kernel
theorem dJ2_getChars_ba4f3_76 : decode cJ2_getChars_ba4f3 76 = .ok (.aload_n 2, 1) := by decide +kernel
theorem dJ2_getChars_ba4f3_77 : decode cJ2_getChars_ba4f3 77 = .ok (.iinc 5 (-1), 3) := by decide +kernel
theorem dJ2_getChars_ba4f3_80 : decode cJ2_getChars_ba4f3 80 = .ok (.iload 5, 2) := by decide +kernel
theorem dJ2_getChars_ba4f3_82 : decode cJ2_getChars_ba4f3 82 = .ok (.getstatic 403, 3) := by decide +kernel
theorem dJ2_getChars_ba4f3_85 : decode cJ2_getChars_ba4f3 85 = .ok (.iload_n 0, 1) := by decide +kernel
theorem dJ2_getChars_ba4f3_86 : decode cJ2_getChars_ba4f3 86 = .ok (.ineg, 1) := by decide +kernel
theorem dJ2_getChars_ba4f3_87 : decode cJ2_getChars_ba4f3 87 = .ok (.baload, 1) := by decide +kernel
theorem dJ2_getChars_ba4f3_88 : decode cJ2_getChars_ba4f3 88 = .ok (.invokestatic 111, 3) := by decide +kernel
theorem dJ2_getChars_ba4f3_91 : decode cJ2_getChars_ba4f3 91 = .ok (.iload_n 0, 1) := by decide +kernel
theorem dJ2_getChars_ba4f3_92 : decode cJ2_getChars_ba4f3 92 = .ok (.bipush (-9), 2) := by decide +kernel
theorem dJ2_getChars_ba4f3_94 : decode cJ2_getChars_ba4f3 94 = .ok (.if_icmp .ge 18, 3) := by decide +kernel
theorem dJ2_getChars_ba4f3_97 : decode cJ2_getChars_ba4f3 97 = .ok (.aload_n 2, 1) := by decide +kernel
theorem dJ2_getChars_ba4f3_98 : decode cJ2_getChars_ba4f3 98 = .ok (.iinc 5 (-1), 3) := by decide +kernel
theorem dJ2_getChars_ba4f3_101 : decode cJ2_getChars_ba4f3 101 = .ok (.iload 5, 2) := by decide +kernel
theorem dJ2_getChars_ba4f3_103 : decode cJ2_getChars_ba4f3 103 = .ok (.getstatic 407, 3) := by decide +kernel
theorem dJ2_getChars_ba4f3_106 : decode cJ2_getChars_ba4f3 106 = .ok (.iload_n 0, 1) := by decide +kernel
theorem dJ2_getChars_ba4f3_107 : decode cJ2_getChars_ba4f3 107 = .ok (.ineg, 1) := by decide +kernel
theorem dJ2_getChars_ba4f3_108 : decode cJ2_getChars_ba4f3 108 = .ok (.baload, 1) := by decide +kernel
theorem dJ2_getChars_ba4f3_109 : decode cJ2_getChars_ba4f3 109 = .ok (.invokestatic 111, 3) := by decide +kernel
theorem dJ2_getChars_ba4f3_112 : decode cJ2_getChars_ba4f3 112 = .ok (.iload 6, 2) := by decide +kernel
theorem dJ2_getChars_ba4f3_114 : decode cJ2_getChars_ba4f3 114 = .ok (.ifCond .eq 14, 3) := by decide +kernel
theorem dJ2_getChars_ba4f3_117 : decode cJ2_getChars_ba4f3 117 = .ok (.aload_n 2, 1) := by decide +kernel
theorem dJ2_getChars_ba4f3_118 : decode cJ2_getChars_ba4f3 118 = .ok (.iinc 5 (-1), 3) := by decide +kernel
theorem dJ2_getChars_ba4f3_121 : decode cJ2_getChars_ba4f3 121 = .ok (.iload 5, 2) := by decide +kernel
theorem dJ2_getChars_ba4f3_123 : decode cJ2_getChars_ba4f3 123 = .ok (.bipush 45, 2) := by decide +kernel
theorem dJ2_getChars_ba4f3_125 : decode cJ2_getChars_ba4f3 125 = .ok (.invokestatic 111, 3) := by decide +kernel
theorem dJ2_getChars_ba4f3_128 : decode cJ2_getChars_ba4f3 128 = .ok (.iload 5, 2) := by decide +kernel
theorem dJ2_getChars_ba4f3_130 : decode cJ2_getChars_ba4f3 130 = .ok (.ireturn, 1) := by decide +kernel
theorem dJ2_checkIndex_2214a_0 : decode cJ2_checkIndex_2214a 0 = .ok (.iload_n 0, 1) := by decide +kernel
theorem dJ2_checkIndex_2214a_1 : decode cJ2_checkIndex_2214a 1 = .ok (.aload_n 1, 1) := by decide +kernel
theorem dJ2_checkIndex_2214a_2 : decode cJ2_checkIndex_2214a 2 = .ok (.invokestatic 48, 3) := by decide +kernel
theorem dJ2_checkIndex_2214a_5 : decode cJ2_checkIndex_2214a 5 = .ok (.invokestatic 414, 3) := by decide +kernel
theorem dJ2_checkIndex_2214a_8 : decode cJ2_checkIndex_2214a 8 = .ok (.return_, 1) := by decide +kernel
theorem dJ2_checkBoundsBeginEnd_d044e_0 : decode cJ2_checkBoundsBeginEnd_d044e 0 = .ok (.iload_n 0, 1) := by decide +kernel
theorem dJ2_checkBoundsBeginEnd_d044e_1 : decode cJ2_checkBoundsBeginEnd_d044e 1 = .ok (.iload_n 1, 1) := by decide +kernel
theorem dJ2_checkBoundsBeginEnd_d044e_2 : decode cJ2_checkBoundsBeginEnd_d044e 2 = .ok (.aload_n 2, 1) := by decide +kernel
theorem dJ2_checkBoundsBeginEnd_d044e_3 : decode cJ2_checkBoundsBeginEnd_d044e 3 = .ok (.invokestatic 48, 3) := by decide +kernel
theorem dJ2_checkBoundsBeginEnd_d044e_6 : decode cJ2_checkBoundsBeginEnd_d044e 6 = .ok (.invokestatic 241, 3) := by decide +kernel
theorem dJ2_checkBoundsBeginEnd_d044e_9 : decode cJ2_checkBoundsBeginEnd_d044e 9 = .ok (.return_, 1) := by decide +kernel
theorem dJ2_checkBoundsOffCount_d044e_0 : decode cJ2_checkBoundsOffCount_d044e 0 = .ok (.iload_n 0, 1) := by decide +kernel
theorem dJ2_checkBoundsOffCount_d044e_1 : decode cJ2_checkBoundsOffCount_d044e 1 = .ok (.iload_n 1, 1) := by decide +kernel
theorem dJ2_checkBoundsOffCount_d044e_2 : decode cJ2_checkBoundsOffCount_d044e 2 = .ok (.aload_n 2, 1) := by decide +kernel
theorem dJ2_checkBoundsOffCount_d044e_3 : decode cJ2_checkBoundsOffCount_d044e 3 = .ok (.invokestatic 48, 3) := by decide +kernel
theorem dJ2_checkBoundsOffCount_d044e_6 : decode cJ2_checkBoundsOffCount_d044e 6 = .ok (.invokestatic 419, 3) := by decide +kernel
theorem dJ2_checkBoundsOffCount_d044e_9 : decode cJ2_checkBoundsOffCount_d044e 9 = .ok (.pop, 1) := by decide +kernel
theorem dJ2_checkBoundsOffCount_d044e_10 : decode cJ2_checkBoundsOffCount_d044e 10 = .ok (.return_, 1) := by decide +kernel
theorem dJ7_copyOf_9075b_0 : decode cJ7_copyOf_9075b 0 = .ok (.iload_n 1, 1) := by decide +kernel
theorem dJ7_copyOf_9075b_1 : decode cJ7_copyOf_9075b 1 = .ok (.aload_n 0, 1) := by decide +kernel
theorem dJ7_copyOf_9075b_2 : decode cJ7_copyOf_9075b 2 = .ok (.arraylength, 1) := by decide +kernel
theorem dJ7_copyOf_9075b_3 : decode cJ7_copyOf_9075b 3 = .ok (.if_icmp .ne 11, 3) := by decide +kernel
theorem dJ7_copyOf_9075b_6 : decode cJ7_copyOf_9075b 6 = .ok (.aload_n 0, 1) := by decide +kernel
theorem dJ7_copyOf_9075b_7 : decode cJ7_copyOf_9075b 7 = .ok (.invokevirtual 310, 3) := by decide +kernel
theorem dJ7_copyOf_9075b_10 : decode cJ7_copyOf_9075b 10 = .ok (.checkcast 311, 3) := by decide +kernel
theorem dJ7_copyOf_9075b_13 : decode cJ7_copyOf_9075b 13 = .ok (.areturn, 1) := by decide +kernel
theorem dJ7_copyOf_9075b_14 : decode cJ7_copyOf_9075b 14 = .ok (.iload_n 1, 1) := by decide +kernel
theorem dJ7_copyOf_9075b_15 : decode cJ7_copyOf_9075b 15 = .ok (.newarray .byte, 2) := by decide +kernel
theorem dJ7_copyOf_9075b_17 : decode cJ7_copyOf_9075b 17 = .ok (.astore_n 2, 1) := by decide +kernel
theorem dJ7_copyOf_9075b_18 : decode cJ7_copyOf_9075b 18 = .ok (.aload_n 0, 1) := by decide +kernel
theorem dJ7_copyOf_9075b_19 : decode cJ7_copyOf_9075b 19 = .ok (.iconst 0, 1) := by decide +kernel
theorem dJ7_copyOf_9075b_20 : decode cJ7_copyOf_9075b 20 = .ok (.aload_n 2, 1) := by decide +kernel
theorem dJ7_copyOf_9075b_21 : decode cJ7_copyOf_9075b 21 = .ok (.iconst 0, 1) := by decide +kernel
theorem dJ7_copyOf_9075b_22 : decode cJ7_copyOf_9075b 22 = .ok (.aload_n 0, 1) := by decide +kernel
theorem dJ7_copyOf_9075b_23 : decode cJ7_copyOf_9075b 23 = .ok (.arraylength, 1) := by decide +kernel
theorem dJ7_copyOf_9075b_24 : decode cJ7_copyOf_9075b 24 = .ok (.iload_n 1, 1) := by decide +kernel
theorem dJ7_copyOf_9075b_25 : decode cJ7_copyOf_9075b 25 = .ok (.invokestatic 304, 3) := by decide +kernel
theorem dJ7_copyOf_9075b_28 : decode cJ7_copyOf_9075b 28 = .ok (.invokestatic 150, 3) := by decide +kernel
theorem dJ7_copyOf_9075b_31 : decode cJ7_copyOf_9075b 31 = .ok (.aload_n 2, 1) := by decide +kernel
theorem dJ7_copyOf_9075b_32 : decode cJ7_copyOf_9075b 32 = .ok (.areturn, 1) := by decide +kernel
theorem dJ8_newLength_cabcc_0 : decode cJ8_newLength_cabcc 0 = .ok (.iload_n 0, 1) := by decide +kernel
theorem dJ8_newLength_cabcc_1 : decode cJ8_newLength_cabcc 1 = .ok (.iload_n 1, 1) := by decide +kernel
theorem dJ8_newLength_cabcc_2 : decode cJ8_newLength_cabcc 2 = .ok (.iload_n 2, 1) := by decide +kernel
theorem dJ8_newLength_cabcc_3 : decode cJ8_newLength_cabcc 3 = .ok (.invokestatic 194, 3) := by decide +kernel
theorem dJ8_newLength_cabcc_6 : decode cJ8_newLength_cabcc 6 = .ok (.iadd, 1) := by decide +kernel
theorem dJ8_newLength_cabcc_7 : decode cJ8_newLength_cabcc 7 = .ok (.istore_n 3, 1) := by decide +kernel
theorem dJ8_newLength_cabcc_8 : decode cJ8_newLength_cabcc 8 = .ok (.iconst 0, 1) := by decide +kernel
theorem dJ8_newLength_cabcc_9 : decode cJ8_newLength_cabcc 9 = .ok (.iload_n 3, 1) := by decide +kernel
theorem dJ8_newLength_cabcc_10 : decode cJ8_newLength_cabcc 10 = .ok (.if_icmp .ge 11, 3) := by decide +kernel
theorem dJ8_newLength_cabcc_13 : decode cJ8_newLength_cabcc 13 = .ok (.iload_n 3, 1) := by decide +kernel
theorem dJ8_newLength_cabcc_14 : decode cJ8_newLength_cabcc 14 = .ok (.ldc 200, 2) := by decide +kernel
theorem dJ8_newLength_cabcc_16 : decode cJ8_newLength_cabcc 16 = .ok (.if_icmp .gt 5, 3) := by decide +kernel
theorem dJ8_newLength_cabcc_19 : decode cJ8_newLength_cabcc 19 = .ok (.iload_n 3, 1) := by decide +kernel
theorem dJ8_newLength_cabcc_20 : decode cJ8_newLength_cabcc 20 = .ok (.ireturn, 1) := by decide +kernel
theorem dJ8_newLength_cabcc_21 : decode cJ8_newLength_cabcc 21 = .ok (.iload_n 0, 1) := by decide +kernel
theorem dJ8_newLength_cabcc_22 : decode cJ8_newLength_cabcc 22 = .ok (.iload_n 1, 1) := by decide +kernel
theorem dJ8_newLength_cabcc_23 : decode cJ8_newLength_cabcc 23 = .ok (.invokestatic 201, 3) := by decide +kernel
theorem dJ8_newLength_cabcc_26 : decode cJ8_newLength_cabcc 26 = .ok (.ireturn, 1) := by decide +kernel
theorem dJ8_hugeLength_7cf53_0 : decode cJ8_hugeLength_7cf53 0 = .ok (.iload_n 0, 1) := by decide +kernel
theorem dJ8_hugeLength_7cf53_1 : decode cJ8_hugeLength_7cf53 1 = .ok (.iload_n 1, 1) := by decide +kernel
theorem dJ8_hugeLength_7cf53_2 : decode cJ8_hugeLength_7cf53 2 = .ok (.iadd, 1) := by decide +kernel
theorem dJ8_hugeLength_7cf53_3 : decode cJ8_hugeLength_7cf53 3 = .ok (.istore_n 2, 1) := by decide +kernel
theorem dJ8_hugeLength_7cf53_4 : decode cJ8_hugeLength_7cf53 4 = .ok (.iload_n 2, 1) := by decide +kernel
theorem dJ8_hugeLength_7cf53_5 : decode cJ8_hugeLength_7cf53 5 = .ok (.ifCond .ge 44, 3) := by decide +kernel
theorem dJ8_hugeLength_7cf53_8 : decode cJ8_hugeLength_7cf53 8 = .ok (.new 204, 3) := by decide +kernel
theorem dJ8_hugeLength_7cf53_11 : decode cJ8_hugeLength_7cf53 11 = .ok (.dup, 1) := by decide +kernel
theorem dJ8_hugeLength_7cf53_12 : decode cJ8_hugeLength_7cf53 12 = .ok (.new 89, 3) := by decide +kernel
theorem dJ8_hugeLength_7cf53_15 : decode cJ8_hugeLength_7cf53 15 = .ok (.dup, 1) := by decide +kernel
theorem dJ8_hugeLength_7cf53_16 : decode cJ8_hugeLength_7cf53 16 = .ok (.invokespecial 91, 3) := by decide +kernel
theorem dJ8_hugeLength_7cf53_19 : decode cJ8_hugeLength_7cf53 19 = .ok (.ldc 206, 2) := by decide +kernel
theorem dJ8_hugeLength_7cf53_21 : decode cJ8_hugeLength_7cf53 21 = .ok (.invokevirtual 94, 3) := by decide +kernel
theorem dJ8_hugeLength_7cf53_24 : decode cJ8_hugeLength_7cf53 24 = .ok (.iload_n 0, 1) := by decide +kernel
theorem dJ8_hugeLength_7cf53_25 : decode cJ8_hugeLength_7cf53 25 = .ok (.invokevirtual 98, 3) := by decide +kernel
theorem dJ8_hugeLength_7cf53_28 : decode cJ8_hugeLength_7cf53 28 = .ok (.ldc 208, 2) := by decide +kernel
theorem dJ8_hugeLength_7cf53_30 : decode cJ8_hugeLength_7cf53 30 = .ok (.invokevirtual 94, 3) := by decide +kernel
theorem dJ8_hugeLength_7cf53_33 : decode cJ8_hugeLength_7cf53 33 = .ok (.iload_n 1, 1) := by decide +kernel
theorem dJ8_hugeLength_7cf53_34 : decode cJ8_hugeLength_7cf53 34 = .ok (.invokevirtual 98, 3) := by decide +kernel
theorem dJ8_hugeLength_7cf53_37 : decode cJ8_hugeLength_7cf53 37 = .ok (.ldc 210, 2) := by decide +kernel
theorem dJ8_hugeLength_7cf53_39 : decode cJ8_hugeLength_7cf53 39 = .ok (.invokevirtual 94, 3) := by decide +kernel
theorem dJ8_hugeLength_7cf53_42 : decode cJ8_hugeLength_7cf53 42 = .ok (.invokevirtual 101, 3) := by decide +kernel
theorem dJ8_hugeLength_7cf53_45 : decode cJ8_hugeLength_7cf53 45 = .ok (.invokespecial 212, 3) := by decide +kernel
theorem dJ8_hugeLength_7cf53_48 : decode cJ8_hugeLength_7cf53 48 = .ok (.athrow, 1) := by decide +kernel
theorem dJ8_hugeLength_7cf53_49 : decode cJ8_hugeLength_7cf53 49 = .ok (.iload_n 2, 1) := by decide +kernel
theorem dJ8_hugeLength_7cf53_50 : decode cJ8_hugeLength_7cf53 50 = .ok (.ldc 200, 2) := by decide +kernel
theorem dJ8_hugeLength_7cf53_52 : decode cJ8_hugeLength_7cf53 52 = .ok (.if_icmp .gt 6, 3) := by decide +kernel
theorem dJ8_hugeLength_7cf53_55 : decode cJ8_hugeLength_7cf53 55 = .ok (.ldc 200, 2) := by decide +kernel
theorem dJ8_hugeLength_7cf53_57 : decode cJ8_hugeLength_7cf53 57 = .ok (.ireturn, 1) := by decide +kernel
theorem dJ8_hugeLength_7cf53_58 : decode cJ8_hugeLength_7cf53 58 = .ok (.iload_n 2, 1) := by decide +kernel
theorem dJ8_hugeLength_7cf53_59 : decode cJ8_hugeLength_7cf53 59 = .ok (.ireturn, 1) := by decide +kernel
theorem dJ3_checkIndex_8e157_0 : decode cJ3_checkIndex_8e157 0 = .ok (.iload_n 0, 1) := by decide +kernel
theorem dJ3_checkIndex_8e157_1 : decode cJ3_checkIndex_8e157 1 = .ok (.ifCond .lt 8, 3) := by decide +kernel
theorem dJ3_checkIndex_8e157_4 : decode cJ3_checkIndex_8e157 4 = .ok (.iload_n 0, 1) := by decide +kernel
theorem dJ3_checkIndex_8e157_5 : decode cJ3_checkIndex_8e157 5 = .ok (.iload_n 1, 1) := by decide +kernel
theorem dJ3_checkIndex_8e157_6 : decode cJ3_checkIndex_8e157 6 = .ok (.if_icmp .lt 10, 3) := by decide +kernel
theorem dJ3_checkIndex_8e157_9 : decode cJ3_checkIndex_8e157 9 = .ok (.aload_n 2, 1) := by decide +kernel
theorem dJ3_checkIndex_8e157_10 : decode cJ3_checkIndex_8e157 10 = .ok (.iload_n 0, 1) := by decide +kernel
theorem dJ3_checkIndex_8e157_11 : decode cJ3_checkIndex_8e157 11 = .ok (.iload_n 1, 1) := by decide +kernel
theorem dJ3_checkIndex_8e157_12 : decode cJ3_checkIndex_8e157 12 = .ok (.invokestatic 95, 3) := by decide +kernel
theorem dJ3_checkIndex_8e157_15 : decode cJ3_checkIndex_8e157 15 = .ok (.athrow, 1) := by decide +kernel
theorem dJ3_checkIndex_8e157_16 : decode cJ3_checkIndex_8e157 16 = .ok (.iload_n 0, 1) := by decide +kernel
theorem dJ3_checkIndex_8e157_17 : decode cJ3_checkIndex_8e157 17 = .ok (.ireturn, 1) := by decide +kernel
theorem dJ3_checkFromToIndex_8c36e_0 : decode cJ3_checkFromToIndex_8c36e 0 = .ok (.iload_n 0, 1) := by decide +kernel
theorem dJ3_checkFromToIndex_8c36e_1 : decode cJ3_checkFromToIndex_8c36e 1 = .ok (.ifCond .lt 13, 3) := by decide +kernel
theorem dJ3_checkFromToIndex_8c36e_4 : decode cJ3_checkFromToIndex_8c36e 4 = .ok (.iload_n 0, 1) := by decide +kernel
theorem dJ3_checkFromToIndex_8c36e_5 : decode cJ3_checkFromToIndex_8c36e 5 = .ok (.iload_n 1, 1) := by decide +kernel
theorem dJ3_checkFromToIndex_8c36e_6 : decode cJ3_checkFromToIndex_8c36e 6 = .ok (.if_icmp .gt 8, 3) := by decide +kernel
theorem dJ3_checkFromToIndex_8c36e_9 : decode cJ3_checkFromToIndex_8c36e 9 = .ok (.iload_n 1, 1) := by decide +kernel
theorem dJ3_checkFromToIndex_8c36e_10 : decode cJ3_checkFromToIndex_8c36e 10 = .ok (.iload_n 2, 1) := by decide +kernel
theorem dJ3_checkFromToIndex_8c36e_11 : decode cJ3_checkFromToIndex_8c36e 11 = .ok (.if_icmp .le 11, 3) := by decide +kernel
theorem dJ3_checkFromToIndex_8c36e_14 : decode cJ3_checkFromToIndex_8c36e 14 = .ok (.aload_n 3, 1) := by decide +kernel
theorem dJ3_checkFromToIndex_8c36e_15 : decode cJ3_checkFromToIndex_8c36e 15 = .ok (.iload_n 0, 1) := by decide +kernel
theorem dJ3_checkFromToIndex_8c36e_16 : decode cJ3_checkFromToIndex_8c36e 16 = .ok (.iload_n 1, 1) := by decide +kernel
theorem dJ3_checkFromToIndex_8c36e_17 : decode cJ3_checkFromToIndex_8c36e 17 = .ok (.iload_n 2, 1) := by decide +kernel
theorem dJ3_checkFromToIndex_8c36e_18 : decode cJ3_checkFromToIndex_8c36e 18 = .ok (.invokestatic 99, 3) := by decide +kernel
theorem dJ3_checkFromToIndex_8c36e_21 : decode cJ3_checkFromToIndex_8c36e 21 = .ok (.athrow, 1) := by decide +kernel
theorem dJ3_checkFromToIndex_8c36e_22 : decode cJ3_checkFromToIndex_8c36e 22 = .ok (.iload_n 0, 1) := by decide +kernel
theorem dJ3_checkFromToIndex_8c36e_23 : decode cJ3_checkFromToIndex_8c36e 23 = .ok (.ireturn, 1) := by decide +kernel
theorem dJ3_checkFromIndexSize_8c36e_0 : decode cJ3_checkFromIndexSize_8c36e 0 = .ok (.iload_n 2, 1) := by decide +kernel
theorem dJ3_checkFromIndexSize_8c36e_1 : decode cJ3_checkFromIndexSize_8c36e 1 = .ok (.iload_n 0, 1) := by decide +kernel
theorem dJ3_checkFromIndexSize_8c36e_2 : decode cJ3_checkFromIndexSize_8c36e 2 = .ok (.ior, 1) := by decide +kernel
theorem dJ3_checkFromIndexSize_8c36e_3 : decode cJ3_checkFromIndexSize_8c36e 3 = .ok (.iload_n 1, 1) := by decide +kernel
theorem dJ3_checkFromIndexSize_8c36e_4 : decode cJ3_checkFromIndexSize_8c36e 4 = .ok (.ior, 1) := by decide +kernel
theorem dJ3_checkFromIndexSize_8c36e_5 : decode cJ3_checkFromIndexSize_8c36e 5 = .ok (.ifCond .lt 10, 3) := by decide +kernel
theorem dJ3_checkFromIndexSize_8c36e_8 : decode cJ3_checkFromIndexSize_8c36e 8 = .ok (.iload_n 1, 1) := by decide +kernel
theorem dJ3_checkFromIndexSize_8c36e_9 : decode cJ3_checkFromIndexSize_8c36e 9 = .ok (.iload_n 2, 1) := by decide +kernel
theorem dJ3_checkFromIndexSize_8c36e_10 : decode cJ3_checkFromIndexSize_8c36e 10 = .ok (.iload_n 0, 1) := by decide +kernel
theorem dJ3_checkFromIndexSize_8c36e_11 : decode cJ3_checkFromIndexSize_8c36e 11 = .ok (.isub, 1) := by decide +kernel
theorem dJ3_checkFromIndexSize_8c36e_12 : decode cJ3_checkFromIndexSize_8c36e 12 = .ok (.if_icmp .le 11, 3) := by decide +kernel
theorem dJ3_checkFromIndexSize_8c36e_15 : decode cJ3_checkFromIndexSize_8c36e 15 = .ok (.aload_n 3, 1) := by decide +kernel
theorem dJ3_checkFromIndexSize_8c36e_16 : decode cJ3_checkFromIndexSize_8c36e 16 = .ok (.iload_n 0, 1) := by decide +kernel
theorem dJ3_checkFromIndexSize_8c36e_17 : decode cJ3_checkFromIndexSize_8c36e 17 = .ok (.iload_n 1, 1) := by decide +kernel
theorem dJ3_checkFromIndexSize_8c36e_18 : decode cJ3_checkFromIndexSize_8c36e 18 = .ok (.iload_n 2, 1) := by decide +kernel
theorem dJ3_checkFromIndexSize_8c36e_19 : decode cJ3_checkFromIndexSize_8c36e 19 = .ok (.invokestatic 103, 3) := by decide +kernel
theorem dJ3_checkFromIndexSize_8c36e_22 : decode cJ3_checkFromIndexSize_8c36e 22 = .ok (.athrow, 1) := by decide +kernel
theorem dJ3_checkFromIndexSize_8c36e_23 : decode cJ3_checkFromIndexSize_8c36e 23 = .ok (.iload_n 0, 1) := by decide +kernel
theorem dJ3_checkFromIndexSize_8c36e_24 : decode cJ3_checkFromIndexSize_8c36e 24 = .ok (.ireturn, 1) := by decide +kernel
theorem dL_draw_0 : decode cL_draw 0 = .ok (.iload_n 1, 1) := by decide +kernel
theorem dL_draw_1 : decode cL_draw 1 = .ok (.aload_n 0, 1) := by decide +kernel
theorem dL_draw_2 : decode cL_draw 2 = .ok (.arraylength, 1) := by decide +kernel
theorem dL_draw_3 : decode cL_draw 3 = .ok (.if_icmp .ge 9, 3) := by decide +kernel
theorem dL_draw_6 : decode cL_draw 6 = .ok (.aload_n 0, 1) := by decide +kernel
theorem dL_draw_7 : decode cL_draw 7 = .ok (.iload_n 1, 1) := by decide +kernel
theorem dL_draw_8 : decode cL_draw 8 = .ok (.iaload, 1) := by decide +kernel
theorem dL_draw_9 : decode cL_draw 9 = .ok (.goto 11, 3) := by decide +kernel
theorem dL_draw_12 : decode cL_draw 12 = .ok (.ldc 7, 2) := by decide +kernel
theorem dL_draw_14 : decode cL_draw 14 = .ok (.iload_n 1, 1) := by decide +kernel
theorem dL_draw_15 : decode cL_draw 15 = .ok (.imul, 1) := by decide +kernel
theorem dL_draw_16 : decode cL_draw 16 = .ok (.sipush 10631, 3) := by decide +kernel
theorem dL_draw_19 : decode cL_draw 19 = .ok (.iadd, 1) := by decide +kernel
theorem dL_draw_20 : decode cL_draw 20 = .ok (.ldc 8, 2) := by decide +kernel
theorem dL_draw_22 : decode cL_draw 22 = .ok (.iand, 1) := by decide +kernel
theorem dL_draw_23 : decode cL_draw 23 = .ok (.ireturn, 1) := by decide +kernel
theorem dL_in_0 : decode cL_in 0 = .ok (.lload_n 0, 1) := by decide +kernel
theorem dL_in_1 : decode cL_in 1 = .ok (.lload_n 2, 1) := by decide +kernel
theorem dL_in_2 : decode cL_in 2 = .ok (.lcmp, 1) := by decide +kernel
theorem dL_in_3 : decode cL_in 3 = .ok (.ifCond .lt 14, 3) := by decide +kernel
theorem dL_in_6 : decode cL_in 6 = .ok (.lload_n 0, 1) := by decide +kernel
theorem dL_in_7 : decode cL_in 7 = .ok (.lload 4, 2) := by decide +kernel
theorem dL_in_9 : decode cL_in 9 = .ok (.lcmp, 1) := by decide +kernel
theorem dL_in_10 : decode cL_in 10 = .ok (.ifCond .gt 7, 3) := by decide +kernel
theorem dL_in_13 : decode cL_in 13 = .ok (.iconst 1, 1) := by decide +kernel
theorem dL_in_14 : decode cL_in 14 = .ok (.goto 4, 3) := by decide +kernel
theorem dL_in_17 : decode cL_in 17 = .ok (.iconst 0, 1) := by decide +kernel
theorem dL_in_18 : decode cL_in 18 = .ok (.ireturn, 1) := by decide +kernel
theorem dL_append_0 : decode cL_append 0 = .ok (.aload_n 0, 1) := by decide +kernel
theorem dL_append_1 : decode cL_append 1 = .ok (.iload_n 1, 1) := by decide +kernel
theorem dL_append_2 : decode cL_append 2 = .ok (.invokevirtual 9, 3) := by decide +kernel
theorem dL_append_5 : decode cL_append 5 = .ok (.i2l, 1) := by decide +kernel
theorem dL_append_6 : decode cL_append 6 = .ok (.lreturn, 1) := by decide +kernel
theorem dL_append_7 : decode cL_append 7 = .ok (.astore_n 2, 1) := by decide +kernel
theorem dL_append_8 : decode cL_append 8 = .ok (.ldc2_w 17, 3) := by decide +kernel
theorem dL_append_11 : decode cL_append 11 = .ok (.lreturn, 1) := by decide +kernel
theorem dL_append_12 : decode cL_append 12 = .ok (.astore_n 2, 1) := by decide +kernel
theorem dL_append_13 : decode cL_append 13 = .ok (.ldc2_w 21, 3) := by decide +kernel
theorem dL_append_16 : decode cL_append 16 = .ok (.lreturn, 1) := by decide +kernel
theorem dL_load_0 : decode cL_load 0 = .ok (.aload_n 0, 1) := by decide +kernel
theorem dL_load_1 : decode cL_load 1 = .ok (.invokevirtual 23, 3) := by decide +kernel
theorem dL_load_4 : decode cL_load 4 = .ok (.i2l, 1) := by decide +kernel
theorem dL_load_5 : decode cL_load 5 = .ok (.lreturn, 1) := by decide +kernel
theorem dL_load_6 : decode cL_load 6 = .ok (.astore_n 1, 1) := by decide +kernel
theorem dL_load_7 : decode cL_load 7 = .ok (.ldc2_w 21, 3) := by decide +kernel
theorem dL_load_10 : decode cL_load 10 = .ok (.lreturn, 1) := by decide +kernel
theorem dL_about_0 : decode cL_about 0 = .ok (.aload_n 0, 1) := by decide +kernel
theorem dL_about_1 : decode cL_about 1 = .ok (.iload_n 1, 1) := by decide +kernel
theorem dL_about_2 : decode cL_about 2 = .ok (.invokevirtual 27, 3) := by decide +kernel
theorem dL_about_5 : decode cL_about 5 = .ok (.i2l, 1) := by decide +kernel
theorem dL_about_6 : decode cL_about 6 = .ok (.lreturn, 1) := by decide +kernel
theorem dL_about_7 : decode cL_about 7 = .ok (.astore_n 2, 1) := by decide +kernel
theorem dL_about_8 : decode cL_about 8 = .ok (.ldc2_w 17, 3) := by decide +kernel
theorem dL_about_11 : decode cL_about 11 = .ok (.lreturn, 1) := by decide +kernel
theorem dL_bus_0 : decode cL_bus 0 = .ok (.aload_n 0, 1) := by decide +kernel
theorem dL_bus_1 : decode cL_bus 1 = .ok (.iload_n 1, 1) := by decide +kernel
theorem dL_bus_2 : decode cL_bus 2 = .ok (.iload_n 2, 1) := by decide +kernel
theorem dL_bus_3 : decode cL_bus 3 = .ok (.invokevirtual 30, 3) := by decide +kernel
theorem dL_bus_6 : decode cL_bus 6 = .ok (.i2l, 1) := by decide +kernel
theorem dL_bus_7 : decode cL_bus 7 = .ok (.lreturn, 1) := by decide +kernel
theorem dL_bus_8 : decode cL_bus 8 = .ok (.astore_n 3, 1) := by decide +kernel
theorem dL_bus_9 : decode cL_bus 9 = .ok (.ldc2_w 36, 3) := by decide +kernel
theorem dL_bus_12 : decode cL_bus 12 = .ok (.lreturn, 1) := by decide +kernel
theorem dL_bus_13 : decode cL_bus 13 = .ok (.astore_n 3, 1) := by decide +kernel
theorem dL_bus_14 : decode cL_bus 14 = .ok (.ldc2_w 17, 3) := by decide +kernel
theorem dL_bus_17 : decode cL_bus 17 = .ok (.lreturn, 1) := by decide +kernel
theorem dL_charger_0 : decode cL_charger 0 = .ok (.aload_n 0, 1) := by decide +kernel
theorem dL_charger_1 : decode cL_charger 1 = .ok (.iload_n 1, 1) := by decide +kernel
theorem dL_charger_2 : decode cL_charger 2 = .ok (.iload_n 2, 1) := by decide +kernel
theorem dL_charger_3 : decode cL_charger 3 = .ok (.invokevirtual 38, 3) := by decide +kernel
theorem dL_charger_6 : decode cL_charger 6 = .ok (.i2l, 1) := by decide +kernel
theorem dL_charger_7 : decode cL_charger 7 = .ok (.lreturn, 1) := by decide +kernel
theorem dL_charger_8 : decode cL_charger 8 = .ok (.astore_n 3, 1) := by decide +kernel
theorem dL_charger_9 : decode cL_charger 9 = .ok (.ldc2_w 36, 3) := by decide +kernel
theorem dL_charger_12 : decode cL_charger 12 = .ok (.lreturn, 1) := by decide +kernel
theorem dL_charger_13 : decode cL_charger 13 = .ok (.astore_n 3, 1) := by decide +kernel
theorem dL_charger_14 : decode cL_charger 14 = .ok (.ldc2_w 17, 3) := by decide +kernel
theorem dL_charger_17 : decode cL_charger 17 = .ok (.lreturn, 1) := by decide +kernel
theorem dL_sign_0 : decode cL_sign 0 = .ok (.aload_n 0, 1) := by decide +kernel
theorem dL_sign_1 : decode cL_sign 1 = .ok (.iload_n 1, 1) := by decide +kernel
theorem dL_sign_2 : decode cL_sign 2 = .ok (.iload_n 2, 1) := by decide +kernel
theorem dL_sign_3 : decode cL_sign 3 = .ok (.invokevirtual 41, 3) := by decide +kernel
theorem dL_sign_6 : decode cL_sign 6 = .ok (.i2l, 1) := by decide +kernel
theorem dL_sign_7 : decode cL_sign 7 = .ok (.lreturn, 1) := by decide +kernel
theorem dL_sign_8 : decode cL_sign 8 = .ok (.astore_n 3, 1) := by decide +kernel
theorem dL_sign_9 : decode cL_sign 9 = .ok (.ldc2_w 36, 3) := by decide +kernel
theorem dL_sign_12 : decode cL_sign 12 = .ok (.lreturn, 1) := by decide +kernel
theorem dL_sign_13 : decode cL_sign 13 = .ok (.astore_n 3, 1) := by decide +kernel
theorem dL_sign_14 : decode cL_sign 14 = .ok (.ldc2_w 17, 3) := by decide +kernel
theorem dL_sign_17 : decode cL_sign 17 = .ok (.lreturn, 1) := by decide +kernel
theorem dL_setting_0 : decode cL_setting 0 = .ok (.aload_n 0, 1) := by decide +kernel
theorem dL_setting_1 : decode cL_setting 1 = .ok (.iload_n 1, 1) := by decide +kernel
theorem dL_setting_2 : decode cL_setting 2 = .ok (.invokevirtual 44, 3) := by decide +kernel
theorem dL_setting_5 : decode cL_setting 5 = .ok (.i2l, 1) := by decide +kernel
theorem dL_setting_6 : decode cL_setting 6 = .ok (.lreturn, 1) := by decide +kernel
theorem dL_setting_7 : decode cL_setting 7 = .ok (.astore_n 2, 1) := by decide +kernel
theorem dL_setting_8 : decode cL_setting 8 = .ok (.ldc2_w 17, 3) := by decide +kernel
theorem dL_setting_11 : decode cL_setting 11 = .ok (.lreturn, 1) := by decide +kernel
theorem dL_addBus_0 : decode cL_addBus 0 = .ok (.aload_n 0, 1) := by decide +kernel
theorem dL_addBus_1 : decode cL_addBus 1 = .ok (.iload_n 1, 1) := by decide +kernel
theorem dL_addBus_2 : decode cL_addBus 2 = .ok (.iload_n 2, 1) := by decide +kernel
theorem dL_addBus_3 : decode cL_addBus 3 = .ok (.iload_n 3, 1) := by decide +kernel
theorem dL_addBus_4 : decode cL_addBus 4 = .ok (.iload 4, 2) := by decide +kernel
theorem dL_addBus_6 : decode cL_addBus 6 = .ok (.iload 5, 2) := by decide +kernel
theorem dL_addBus_8 : decode cL_addBus 8 = .ok (.invokevirtual 47, 3) := by decide +kernel
theorem dL_addBus_11 : decode cL_addBus 11 = .ok (.i2l, 1) := by decide +kernel
theorem dL_addBus_12 : decode cL_addBus 12 = .ok (.lreturn, 1) := by decide +kernel
theorem dL_addBus_13 : decode cL_addBus 13 = .ok (.astore 6, 2) := by decide +kernel
theorem dL_addBus_15 : decode cL_addBus 15 = .ok (.ldc2_w 17, 3) := by decide +kernel
theorem dL_addBus_18 : decode cL_addBus 18 = .ok (.lreturn, 1) := by decide +kernel
theorem dL_addBus_19 : decode cL_addBus 19 = .ok (.astore 6, 2) := by decide +kernel
theorem dL_addBus_21 : decode cL_addBus 21 = .ok (.ldc2_w 21, 3) := by decide +kernel
theorem dL_addBus_24 : decode cL_addBus 24 = .ok (.lreturn, 1) := by decide +kernel
theorem dL_addCharger_0 : decode cL_addCharger 0 = .ok (.aload_n 0, 1) := by decide +kernel
theorem dL_addCharger_1 : decode cL_addCharger 1 = .ok (.iload_n 1, 1) := by decide +kernel
theorem dL_addCharger_2 : decode cL_addCharger 2 = .ok (.invokevirtual 51, 3) := by decide +kernel
theorem dL_addCharger_5 : decode cL_addCharger 5 = .ok (.i2l, 1) := by decide +kernel
theorem dL_addCharger_6 : decode cL_addCharger 6 = .ok (.lreturn, 1) := by decide +kernel
theorem dL_addCharger_7 : decode cL_addCharger 7 = .ok (.astore_n 2, 1) := by decide +kernel
theorem dL_addCharger_8 : decode cL_addCharger 8 = .ok (.ldc2_w 17, 3) := by decide +kernel
theorem dL_addCharger_11 : decode cL_addCharger 11 = .ok (.lreturn, 1) := by decide +kernel
theorem dL_addCharger_12 : decode cL_addCharger 12 = .ok (.astore_n 2, 1) := by decide +kernel
theorem dL_addCharger_13 : decode cL_addCharger 13 = .ok (.ldc2_w 21, 3) := by decide +kernel
theorem dL_addCharger_16 : decode cL_addCharger 16 = .ok (.lreturn, 1) := by decide +kernel
theorem dL_route_0 : decode cL_route 0 = .ok (.aload_n 0, 1) := by decide +kernel
theorem dL_route_1 : decode cL_route 1 = .ok (.iload_n 1, 1) := by decide +kernel
theorem dL_route_2 : decode cL_route 2 = .ok (.iload_n 2, 1) := by decide +kernel
theorem dL_route_3 : decode cL_route 3 = .ok (.iload_n 3, 1) := by decide +kernel
theorem dL_route_4 : decode cL_route 4 = .ok (.iload 4, 2) := by decide +kernel
theorem dL_route_6 : decode cL_route 6 = .ok (.invokevirtual 54, 3) := by decide +kernel
theorem dL_route_9 : decode cL_route 9 = .ok (.i2l, 1) := by decide +kernel
theorem dL_route_10 : decode cL_route 10 = .ok (.lreturn, 1) := by decide +kernel
theorem dL_route_11 : decode cL_route 11 = .ok (.astore 5, 2) := by decide +kernel
theorem dL_route_13 : decode cL_route 13 = .ok (.ldc2_w 36, 3) := by decide +kernel
theorem dL_route_16 : decode cL_route 16 = .ok (.lreturn, 1) := by decide +kernel
theorem dL_route_17 : decode cL_route 17 = .ok (.astore 5, 2) := by decide +kernel
theorem dL_route_19 : decode cL_route 19 = .ok (.ldc2_w 17, 3) := by decide +kernel
theorem dL_route_22 : decode cL_route 22 = .ok (.lreturn, 1) := by decide +kernel
theorem dL_route_23 : decode cL_route 23 = .ok (.astore 5, 2) := by decide +kernel
theorem dL_route_25 : decode cL_route 25 = .ok (.ldc2_w 21, 3) := by decide +kernel
theorem dL_route_28 : decode cL_route 28 = .ok (.lreturn, 1) := by decide +kernel
theorem dL_battery_0 : decode cL_battery 0 = .ok (.aload_n 0, 1) := by decide +kernel
theorem dL_battery_1 : decode cL_battery 1 = .ok (.iload_n 1, 1) := by decide +kernel
theorem dL_battery_2 : decode cL_battery 2 = .ok (.iload_n 2, 1) := by decide +kernel
theorem dL_battery_3 : decode cL_battery 3 = .ok (.invokevirtual 58, 3) := by decide +kernel
theorem dL_battery_6 : decode cL_battery 6 = .ok (.i2l, 1) := by decide +kernel
theorem dL_battery_7 : decode cL_battery 7 = .ok (.lreturn, 1) := by decide +kernel
theorem dL_battery_8 : decode cL_battery 8 = .ok (.astore_n 3, 1) := by decide +kernel
theorem dL_battery_9 : decode cL_battery 9 = .ok (.ldc2_w 36, 3) := by decide +kernel
theorem dL_battery_12 : decode cL_battery 12 = .ok (.lreturn, 1) := by decide +kernel
theorem dL_battery_13 : decode cL_battery 13 = .ok (.astore_n 3, 1) := by decide +kernel
theorem dL_battery_14 : decode cL_battery 14 = .ok (.ldc2_w 17, 3) := by decide +kernel
theorem dL_battery_17 : decode cL_battery 17 = .ok (.lreturn, 1) := by decide +kernel
theorem dL_battery_18 : decode cL_battery 18 = .ok (.astore_n 3, 1) := by decide +kernel
theorem dL_battery_19 : decode cL_battery 19 = .ok (.ldc2_w 21, 3) := by decide +kernel
theorem dL_battery_22 : decode cL_battery 22 = .ok (.lreturn, 1) := by decide +kernel
theorem dL_run_0 : decode cL_run 0 = .ok (.aload_n 0, 1) := by decide +kernel
theorem dL_run_1 : decode cL_run 1 = .ok (.iload_n 1, 1) := by decide +kernel
theorem dL_run_2 : decode cL_run 2 = .ok (.invokevirtual 61, 3) := by decide +kernel
theorem dL_run_5 : decode cL_run 5 = .ok (.i2l, 1) := by decide +kernel
theorem dL_run_6 : decode cL_run 6 = .ok (.lreturn, 1) := by decide +kernel
theorem dL_run_7 : decode cL_run 7 = .ok (.astore_n 2, 1) := by decide +kernel
theorem dL_run_8 : decode cL_run 8 = .ok (.ldc2_w 17, 3) := by decide +kernel
theorem dL_run_11 : decode cL_run 11 = .ok (.lreturn, 1) := by decide +kernel
theorem dL_set_0 : decode cL_set 0 = .ok (.aload_n 0, 1) := by decide +kernel
theorem dL_set_1 : decode cL_set 1 = .ok (.iload_n 1, 1) := by decide +kernel
theorem dL_set_2 : decode cL_set 2 = .ok (.iload_n 2, 1) := by decide +kernel
theorem dL_set_3 : decode cL_set 3 = .ok (.invokevirtual 64, 3) := by decide +kernel
theorem dL_set_6 : decode cL_set 6 = .ok (.i2l, 1) := by decide +kernel
theorem dL_set_7 : decode cL_set 7 = .ok (.lreturn, 1) := by decide +kernel
theorem dL_set_8 : decode cL_set 8 = .ok (.astore_n 3, 1) := by decide +kernel
theorem dL_set_9 : decode cL_set 9 = .ok (.ldc2_w 17, 3) := by decide +kernel
theorem dL_set_12 : decode cL_set 12 = .ok (.lreturn, 1) := by decide +kernel
theorem dL_undo_0 : decode cL_undo 0 = .ok (.aload_n 0, 1) := by decide +kernel
theorem dL_undo_1 : decode cL_undo 1 = .ok (.invokevirtual 67, 3) := by decide +kernel
theorem dL_undo_4 : decode cL_undo 4 = .ok (.i2l, 1) := by decide +kernel
theorem dL_undo_5 : decode cL_undo 5 = .ok (.lreturn, 1) := by decide +kernel
theorem dL_undo_6 : decode cL_undo 6 = .ok (.astore_n 1, 1) := by decide +kernel
theorem dL_undo_7 : decode cL_undo 7 = .ok (.ldc2_w 21, 3) := by decide +kernel
theorem dL_undo_10 : decode cL_undo 10 = .ok (.lreturn, 1) := by decide +kernel
theorem dL_coming_0 : decode cL_coming 0 = .ok (.aload_n 0, 1) := by decide +kernel
theorem dL_coming_1 : decode cL_coming 1 = .ok (.iload_n 1, 1) := by decide +kernel
theorem dL_coming_2 : decode cL_coming 2 = .ok (.iload_n 2, 1) := by decide +kernel
theorem dL_coming_3 : decode cL_coming 3 = .ok (.invokevirtual 70, 3) := by decide +kernel
theorem dL_coming_6 : decode cL_coming 6 = .ok (.i2l, 1) := by decide +kernel
theorem dL_coming_7 : decode cL_coming 7 = .ok (.lreturn, 1) := by decide +kernel
theorem dL_coming_8 : decode cL_coming 8 = .ok (.astore_n 3, 1) := by decide +kernel
theorem dL_coming_9 : decode cL_coming 9 = .ok (.ldc2_w 17, 3) := by decide +kernel
theorem dL_coming_12 : decode cL_coming 12 = .ok (.lreturn, 1) := by decide +kernel
theorem dL_firstMissed_0 : decode cL_firstMissed 0 = .ok (.aload_n 0, 1) := by decide +kernel
theorem dL_firstMissed_1 : decode cL_firstMissed 1 = .ok (.iload_n 1, 1) := by decide +kernel
theorem dL_firstMissed_2 : decode cL_firstMissed 2 = .ok (.invokevirtual 73, 3) := by decide +kernel
theorem dL_firstMissed_5 : decode cL_firstMissed 5 = .ok (.i2l, 1) := by decide +kernel
theorem dL_firstMissed_6 : decode cL_firstMissed 6 = .ok (.lreturn, 1) := by decide +kernel
theorem dL_firstMissed_7 : decode cL_firstMissed 7 = .ok (.astore_n 2, 1) := by decide +kernel
theorem dL_firstMissed_8 : decode cL_firstMissed 8 = .ok (.ldc2_w 36, 3) := by decide +kernel
theorem dL_firstMissed_11 : decode cL_firstMissed 11 = .ok (.lreturn, 1) := by decide +kernel
theorem dL_leastLimit_0 : decode cL_leastLimit 0 = .ok (.aload_n 0, 1) := by decide +kernel
theorem dL_leastLimit_1 : decode cL_leastLimit 1 = .ok (.iload_n 1, 1) := by decide +kernel
theorem dL_leastLimit_2 : decode cL_leastLimit 2 = .ok (.invokevirtual 76, 3) := by decide +kernel
theorem dL_leastLimit_5 : decode cL_leastLimit 5 = .ok (.i2l, 1) := by decide +kernel
theorem dL_leastLimit_6 : decode cL_leastLimit 6 = .ok (.lreturn, 1) := by decide +kernel
theorem dL_leastLimit_7 : decode cL_leastLimit 7 = .ok (.astore_n 2, 1) := by decide +kernel
theorem dL_leastLimit_8 : decode cL_leastLimit 8 = .ok (.ldc2_w 17, 3) := by decide +kernel
theorem dL_leastLimit_11 : decode cL_leastLimit 11 = .ok (.lreturn, 1) := by decide +kernel
theorem dL_bestNight_0 : decode cL_bestNight 0 = .ok (.aload_n 0, 1) := by decide +kernel
theorem dL_bestNight_1 : decode cL_bestNight 1 = .ok (.iload_n 1, 1) := by decide +kernel
theorem dL_bestNight_2 : decode cL_bestNight 2 = .ok (.invokevirtual 79, 3) := by decide +kernel
theorem dL_bestNight_5 : decode cL_bestNight 5 = .ok (.i2l, 1) := by decide +kernel
theorem dL_bestNight_6 : decode cL_bestNight 6 = .ok (.lreturn, 1) := by decide +kernel
theorem dL_bestNight_7 : decode cL_bestNight 7 = .ok (.astore_n 2, 1) := by decide +kernel
theorem dL_bestNight_8 : decode cL_bestNight 8 = .ok (.ldc2_w 17, 3) := by decide +kernel
theorem dL_bestNight_11 : decode cL_bestNight 11 = .ok (.lreturn, 1) := by decide +kernel
theorem dL_ifPlugged_0 : decode cL_ifPlugged 0 = .ok (.aload_n 0, 1) := by decide +kernel
theorem dL_ifPlugged_1 : decode cL_ifPlugged 1 = .ok (.iload_n 1, 1) := by decide +kernel
theorem dL_ifPlugged_2 : decode cL_ifPlugged 2 = .ok (.iload_n 2, 1) := by decide +kernel
theorem dL_ifPlugged_3 : decode cL_ifPlugged 3 = .ok (.invokevirtual 82, 3) := by decide +kernel
theorem dL_ifPlugged_6 : decode cL_ifPlugged 6 = .ok (.i2l, 1) := by decide +kernel
theorem dL_ifPlugged_7 : decode cL_ifPlugged 7 = .ok (.lreturn, 1) := by decide +kernel
theorem dL_ifPlugged_8 : decode cL_ifPlugged 8 = .ok (.astore_n 3, 1) := by decide +kernel
theorem dL_ifPlugged_9 : decode cL_ifPlugged 9 = .ok (.ldc2_w 17, 3) := by decide +kernel
theorem dL_ifPlugged_12 : decode cL_ifPlugged 12 = .ok (.lreturn, 1) := by decide +kernel
theorem dL_ifPlugged_13 : decode cL_ifPlugged 13 = .ok (.astore_n 3, 1) := by decide +kernel
theorem dL_ifPlugged_14 : decode cL_ifPlugged 14 = .ok (.ldc2_w 21, 3) := by decide +kernel
theorem dL_ifPlugged_17 : decode cL_ifPlugged 17 = .ok (.lreturn, 1) := by decide +kernel
theorem dL_script_0 : decode cL_script 0 = .ok (.aload_n 0, 1) := by decide +kernel
theorem dL_script_1 : decode cL_script 1 = .ok (.iload_n 1, 1) := by decide +kernel
theorem dL_script_2 : decode cL_script 2 = .ok (.lload_n 2, 1) := by decide +kernel
theorem dL_script_3 : decode cL_script 3 = .ok (.invokevirtual 85, 3) := by decide +kernel
theorem dL_script_6 : decode cL_script 6 = .ok (.i2l, 1) := by decide +kernel
theorem dL_script_7 : decode cL_script 7 = .ok (.lreturn, 1) := by decide +kernel
theorem dL_script_8 : decode cL_script 8 = .ok (.astore 4, 2) := by decide +kernel
theorem dL_script_10 : decode cL_script 10 = .ok (.ldc2_w 17, 3) := by decide +kernel
theorem dL_script_13 : decode cL_script 13 = .ok (.lreturn, 1) := by decide +kernel
theorem dL_simulate_0 : decode cL_simulate 0 = .ok (.aload_n 0, 1) := by decide +kernel
theorem dL_simulate_1 : decode cL_simulate 1 = .ok (.lload_n 1, 1) := by decide +kernel
theorem dL_simulate_2 : decode cL_simulate 2 = .ok (.iload_n 3, 1) := by decide +kernel
theorem dL_simulate_3 : decode cL_simulate 3 = .ok (.invokevirtual 89, 3) := by decide +kernel
theorem dL_simulate_6 : decode cL_simulate 6 = .ok (.i2l, 1) := by decide +kernel
theorem dL_simulate_7 : decode cL_simulate 7 = .ok (.lreturn, 1) := by decide +kernel
theorem dL_simulate_8 : decode cL_simulate 8 = .ok (.astore 4, 2) := by decide +kernel
theorem dL_simulate_10 : decode cL_simulate 10 = .ok (.ldc2_w 17, 3) := by decide +kernel
theorem dL_simulate_13 : decode cL_simulate 13 = .ok (.lreturn, 1) := by decide +kernel
theorem dL_save_0 : decode cL_save 0 = .ok (.aload_n 0, 1) := by decide +kernel
theorem dL_save_1 : decode cL_save 1 = .ok (.iload_n 1, 1) := by decide +kernel
theorem dL_save_2 : decode cL_save 2 = .ok (.invokevirtual 93, 3) := by decide +kernel
theorem dL_save_5 : decode cL_save 5 = .ok (.i2l, 1) := by decide +kernel
theorem dL_save_6 : decode cL_save 6 = .ok (.lreturn, 1) := by decide +kernel
theorem dL_save_7 : decode cL_save 7 = .ok (.astore_n 2, 1) := by decide +kernel
theorem dL_save_8 : decode cL_save 8 = .ok (.ldc2_w 36, 3) := by decide +kernel
theorem dL_save_11 : decode cL_save 11 = .ok (.lreturn, 1) := by decide +kernel
theorem dL_restore_0 : decode cL_restore 0 = .ok (.aload_n 0, 1) := by decide +kernel
theorem dL_restore_1 : decode cL_restore 1 = .ok (.iload_n 1, 1) := by decide +kernel
theorem dL_restore_2 : decode cL_restore 2 = .ok (.invokevirtual 96, 3) := by decide +kernel
theorem dL_restore_5 : decode cL_restore 5 = .ok (.i2l, 1) := by decide +kernel
theorem dL_restore_6 : decode cL_restore 6 = .ok (.lreturn, 1) := by decide +kernel
theorem dL_restore_7 : decode cL_restore 7 = .ok (.astore_n 2, 1) := by decide +kernel
theorem dL_restore_8 : decode cL_restore 8 = .ok (.ldc2_w 36, 3) := by decide +kernel
theorem dL_restore_11 : decode cL_restore 11 = .ok (.lreturn, 1) := by decide +kernel
theorem dL_restore_12 : decode cL_restore 12 = .ok (.astore_n 2, 1) := by decide +kernel
theorem dL_restore_13 : decode cL_restore 13 = .ok (.ldc2_w 21, 3) := by decide +kernel
theorem dL_restore_16 : decode cL_restore 16 = .ok (.lreturn, 1) := by decide +kernel
theorem dL_now_0 : decode cL_now 0 = .ok (.ldc2_w 99, 3) := by decide +kernel
theorem dL_now_3 : decode cL_now 3 = .ok (.lstore_n 1, 1) := by decide +kernel
theorem dL_now_4 : decode cL_now 4 = .ok (.iconst 0, 1) := by decide +kernel
theorem dL_now_5 : decode cL_now 5 = .ok (.istore_n 3, 1) := by decide +kernel
theorem dL_now_6 : decode cL_now 6 = .ok (.iload_n 3, 1) := by decide +kernel
theorem dL_now_7 : decode cL_now 7 = .ok (.bipush 11, 2) := by decide +kernel
theorem dL_now_9 : decode cL_now 9 = .ok (.if_icmp .ge 21, 3) := by decide +kernel
theorem dL_now_12 : decode cL_now 12 = .ok (.ldc2_w 101, 3) := by decide +kernel
theorem dL_now_15 : decode cL_now 15 = .ok (.lload_n 1, 1) := by decide +kernel
theorem dL_now_16 : decode cL_now 16 = .ok (.lmul, 1) := by decide +kernel
theorem dL_now_17 : decode cL_now 17 = .ok (.aload_n 0, 1) := by decide +kernel
theorem dL_now_18 : decode cL_now 18 = .ok (.iload_n 3, 1) := by decide +kernel
theorem dL_now_19 : decode cL_now 19 = .ok (.invokestatic 103, 3) := by decide +kernel
theorem dL_now_22 : decode cL_now 22 = .ok (.ladd, 1) := by decide +kernel
theorem dL_now_23 : decode cL_now 23 = .ok (.lstore_n 1, 1) := by decide +kernel
theorem dL_now_24 : decode cL_now 24 = .ok (.iinc 3 1, 3) := by decide +kernel
theorem dL_now_27 : decode cL_now 27 = .ok (.goto (-21), 3) := by decide +kernel
theorem dL_now_30 : decode cL_now 30 = .ok (.iconst 0, 1) := by decide +kernel
theorem dL_now_31 : decode cL_now 31 = .ok (.istore_n 3, 1) := by decide +kernel
theorem dL_now_32 : decode cL_now 32 = .ok (.iload_n 3, 1) := by decide +kernel
theorem dL_now_33 : decode cL_now 33 = .ok (.bipush 6, 2) := by decide +kernel
theorem dL_now_35 : decode cL_now 35 = .ok (.if_icmp .ge 21, 3) := by decide +kernel
theorem dL_now_38 : decode cL_now 38 = .ok (.ldc2_w 101, 3) := by decide +kernel
theorem dL_now_41 : decode cL_now 41 = .ok (.lload_n 1, 1) := by decide +kernel
theorem dL_now_42 : decode cL_now 42 = .ok (.lmul, 1) := by decide +kernel
theorem dL_now_43 : decode cL_now 43 = .ok (.aload_n 0, 1) := by decide +kernel
theorem dL_now_44 : decode cL_now 44 = .ok (.iload_n 3, 1) := by decide +kernel
theorem dL_now_45 : decode cL_now 45 = .ok (.invokestatic 108, 3) := by decide +kernel
theorem dL_now_48 : decode cL_now 48 = .ok (.ladd, 1) := by decide +kernel
theorem dL_now_49 : decode cL_now 49 = .ok (.lstore_n 1, 1) := by decide +kernel
theorem dL_now_50 : decode cL_now 50 = .ok (.iinc 3 1, 3) := by decide +kernel
theorem dL_now_53 : decode cL_now 53 = .ok (.goto (-21), 3) := by decide +kernel
theorem dL_now_56 : decode cL_now 56 = .ok (.aload_n 0, 1) := by decide +kernel
theorem dL_now_57 : decode cL_now 57 = .ok (.iconst 0, 1) := by decide +kernel
theorem dL_now_58 : decode cL_now 58 = .ok (.invokestatic 103, 3) := by decide +kernel
theorem dL_now_61 : decode cL_now 61 = .ok (.l2i, 1) := by decide +kernel
theorem dL_now_62 : decode cL_now 62 = .ok (.istore_n 3, 1) := by decide +kernel
theorem dL_now_63 : decode cL_now 63 = .ok (.iconst 0, 1) := by decide +kernel
theorem dL_now_64 : decode cL_now 64 = .ok (.istore 4, 2) := by decide +kernel
theorem dL_now_66 : decode cL_now 66 = .ok (.iload 4, 2) := by decide +kernel
theorem dL_now_68 : decode cL_now 68 = .ok (.bipush 10, 2) := by decide +kernel
theorem dL_now_70 : decode cL_now 70 = .ok (.iload_n 3, 1) := by decide +kernel
theorem dL_now_71 : decode cL_now 71 = .ok (.imul, 1) := by decide +kernel
theorem dL_now_72 : decode cL_now 72 = .ok (.if_icmp .ge 30, 3) := by decide +kernel
theorem dL_now_75 : decode cL_now 75 = .ok (.ldc2_w 101, 3) := by decide +kernel
theorem dL_now_78 : decode cL_now 78 = .ok (.lload_n 1, 1) := by decide +kernel
theorem dL_now_79 : decode cL_now 79 = .ok (.lmul, 1) := by decide +kernel
theorem dL_now_80 : decode cL_now 80 = .ok (.aload_n 0, 1) := by decide +kernel
theorem dL_now_81 : decode cL_now 81 = .ok (.iload 4, 2) := by decide +kernel
theorem dL_now_83 : decode cL_now 83 = .ok (.bipush 10, 2) := by decide +kernel
theorem dL_now_85 : decode cL_now 85 = .ok (.idiv, 1) := by decide +kernel
theorem dL_now_86 : decode cL_now 86 = .ok (.iload 4, 2) := by decide +kernel
theorem dL_now_88 : decode cL_now 88 = .ok (.bipush 10, 2) := by decide +kernel
theorem dL_now_90 : decode cL_now 90 = .ok (.irem, 1) := by decide +kernel
theorem dL_now_91 : decode cL_now 91 = .ok (.invokestatic 110, 3) := by decide +kernel
theorem dL_now_94 : decode cL_now 94 = .ok (.ladd, 1) := by decide +kernel
theorem dL_now_95 : decode cL_now 95 = .ok (.lstore_n 1, 1) := by decide +kernel
theorem dL_now_96 : decode cL_now 96 = .ok (.iinc 4 1, 3) := by decide +kernel
theorem dL_now_99 : decode cL_now 99 = .ok (.goto (-33), 3) := by decide +kernel
theorem dL_now_102 : decode cL_now 102 = .ok (.aload_n 0, 1) := by decide +kernel
theorem dL_now_103 : decode cL_now 103 = .ok (.iconst 1, 1) := by decide +kernel
theorem dL_now_104 : decode cL_now 104 = .ok (.invokestatic 103, 3) := by decide +kernel
theorem dL_now_107 : decode cL_now 107 = .ok (.l2i, 1) := by decide +kernel
theorem dL_now_108 : decode cL_now 108 = .ok (.istore 4, 2) := by decide +kernel
theorem dL_now_110 : decode cL_now 110 = .ok (.iconst 0, 1) := by decide +kernel
theorem dL_now_111 : decode cL_now 111 = .ok (.istore 5, 2) := by decide +kernel
theorem dL_now_113 : decode cL_now 113 = .ok (.iload 5, 2) := by decide +kernel
theorem dL_now_115 : decode cL_now 115 = .ok (.iconst 3, 1) := by decide +kernel
theorem dL_now_116 : decode cL_now 116 = .ok (.iload 4, 2) := by decide +kernel
theorem dL_now_118 : decode cL_now 118 = .ok (.imul, 1) := by decide +kernel
theorem dL_now_119 : decode cL_now 119 = .ok (.if_icmp .ge 28, 3) := by decide +kernel
theorem dL_now_122 : decode cL_now 122 = .ok (.ldc2_w 101, 3) := by decide +kernel
theorem dL_now_125 : decode cL_now 125 = .ok (.lload_n 1, 1) := by decide +kernel
theorem dL_now_126 : decode cL_now 126 = .ok (.lmul, 1) := by decide +kernel
theorem dL_now_127 : decode cL_now 127 = .ok (.aload_n 0, 1) := by decide +kernel
theorem dL_now_128 : decode cL_now 128 = .ok (.iload 5, 2) := by decide +kernel
theorem dL_now_130 : decode cL_now 130 = .ok (.iconst 3, 1) := by decide +kernel
theorem dL_now_131 : decode cL_now 131 = .ok (.idiv, 1) := by decide +kernel
theorem dL_now_132 : decode cL_now 132 = .ok (.iload 5, 2) := by decide +kernel
theorem dL_now_134 : decode cL_now 134 = .ok (.iconst 3, 1) := by decide +kernel
theorem dL_now_135 : decode cL_now 135 = .ok (.irem, 1) := by decide +kernel
theorem dL_now_136 : decode cL_now 136 = .ok (.invokestatic 113, 3) := by decide +kernel
theorem dL_now_139 : decode cL_now 139 = .ok (.ladd, 1) := by decide +kernel
theorem dL_now_140 : decode cL_now 140 = .ok (.lstore_n 1, 1) := by decide +kernel
theorem dL_now_141 : decode cL_now 141 = .ok (.iinc 5 1, 3) := by decide +kernel
theorem dL_now_144 : decode cL_now 144 = .ok (.goto (-31), 3) := by decide +kernel
theorem dL_now_147 : decode cL_now 147 = .ok (.lload_n 1, 1) := by decide +kernel
theorem dL_now_148 : decode cL_now 148 = .ok (.lreturn, 1) := by decide +kernel
theorem dL_errors_0 : decode cL_errors 0 = .ok (.aload_n 0, 1) := by decide +kernel
theorem dL_errors_1 : decode cL_errors 1 = .ok (.invokestatic 115, 3) := by decide +kernel
theorem dL_errors_4 : decode cL_errors 4 = .ok (.lstore_n 1, 1) := by decide +kernel
theorem dL_errors_5 : decode cL_errors 5 = .ok (.aload_n 0, 1) := by decide +kernel
theorem dL_errors_6 : decode cL_errors 6 = .ok (.iconst 0, 1) := by decide +kernel
theorem dL_errors_7 : decode cL_errors 7 = .ok (.invokestatic 103, 3) := by decide +kernel
theorem dL_errors_10 : decode cL_errors 10 = .ok (.l2i, 1) := by decide +kernel
theorem dL_errors_11 : decode cL_errors 11 = .ok (.istore_n 3, 1) := by decide +kernel
theorem dL_errors_12 : decode cL_errors 12 = .ok (.aload_n 0, 1) := by decide +kernel
theorem dL_errors_13 : decode cL_errors 13 = .ok (.iconst 1, 1) := by decide +kernel
theorem dL_errors_14 : decode cL_errors 14 = .ok (.invokestatic 103, 3) := by decide +kernel
theorem dL_errors_17 : decode cL_errors 17 = .ok (.l2i, 1) := by decide +kernel
theorem dL_errors_18 : decode cL_errors 18 = .ok (.istore 4, 2) := by decide +kernel
theorem dL_errors_20 : decode cL_errors 20 = .ok (.aload_n 0, 1) := by decide +kernel
theorem dL_errors_21 : decode cL_errors 21 = .ok (.iconst (-1), 1) := by decide +kernel
theorem dL_errors_22 : decode cL_errors 22 = .ok (.invokestatic 103, 3) := by decide +kernel
theorem dL_errors_25 : decode cL_errors 25 = .ok (.ldc2_w 17, 3) := by decide +kernel
theorem dL_errors_28 : decode cL_errors 28 = .ok (.lcmp, 1) := by decide +kernel
theorem dL_errors_29 : decode cL_errors 29 = .ok (.ifCond .ne 467, 3) := by decide +kernel
theorem dL_errors_32 : decode cL_errors 32 = .ok (.aload_n 0, 1) := by decide +kernel
theorem dL_errors_33 : decode cL_errors 33 = .ok (.bipush 11, 2) := by decide +kernel
theorem dL_errors_35 : decode cL_errors 35 = .ok (.invokestatic 103, 3) := by decide +kernel
theorem dL_errors_38 : decode cL_errors 38 = .ok (.ldc2_w 17, 3) := by decide +kernel
theorem dL_errors_41 : decode cL_errors 41 = .ok (.lcmp, 1) := by decide +kernel
theorem dL_errors_42 : decode cL_errors 42 = .ok (.ifCond .ne 454, 3) := by decide +kernel
theorem dL_errors_45 : decode cL_errors 45 = .ok (.aload_n 0, 1) := by decide +kernel
theorem dL_errors_46 : decode cL_errors 46 = .ok (.iload_n 3, 1) := by decide +kernel
theorem dL_errors_47 : decode cL_errors 47 = .ok (.bipush 10, 2) := by decide +kernel
theorem dL_errors_49 : decode cL_errors 49 = .ok (.invokestatic 110, 3) := by decide +kernel
theorem dL_errors_52 : decode cL_errors 52 = .ok (.ldc2_w 36, 3) := by decide +kernel
theorem dL_errors_55 : decode cL_errors 55 = .ok (.lcmp, 1) := by decide +kernel
theorem dL_errors_56 : decode cL_errors 56 = .ok (.ifCond .ne 440, 3) := by decide +kernel
theorem dL_errors_59 : decode cL_errors 59 = .ok (.aload_n 0, 1) := by decide +kernel
theorem dL_errors_60 : decode cL_errors 60 = .ok (.iconst (-1), 1) := by decide +kernel
theorem dL_errors_61 : decode cL_errors 61 = .ok (.iconst 0, 1) := by decide +kernel
theorem dL_errors_62 : decode cL_errors 62 = .ok (.invokestatic 110, 3) := by decide +kernel
theorem dL_errors_65 : decode cL_errors 65 = .ok (.ldc2_w 36, 3) := by decide +kernel
theorem dL_errors_68 : decode cL_errors 68 = .ok (.lcmp, 1) := by decide +kernel
theorem dL_errors_69 : decode cL_errors 69 = .ok (.ifCond .ne 427, 3) := by decide +kernel
theorem dL_errors_72 : decode cL_errors 72 = .ok (.aload_n 0, 1) := by decide +kernel
theorem dL_errors_73 : decode cL_errors 73 = .ok (.iload 4, 2) := by decide +kernel
theorem dL_errors_75 : decode cL_errors 75 = .ok (.bipush 9, 2) := by decide +kernel
theorem dL_errors_77 : decode cL_errors 77 = .ok (.invokestatic 113, 3) := by decide +kernel
theorem dL_errors_80 : decode cL_errors 80 = .ok (.ldc2_w 36, 3) := by decide +kernel
theorem dL_errors_83 : decode cL_errors 83 = .ok (.lcmp, 1) := by decide +kernel
theorem dL_errors_84 : decode cL_errors 84 = .ok (.ifCond .ne 412, 3) := by decide +kernel
theorem dL_errors_87 : decode cL_errors 87 = .ok (.aload_n 0, 1) := by decide +kernel
theorem dL_errors_88 : decode cL_errors 88 = .ok (.iload_n 3, 1) := by decide +kernel
theorem dL_errors_89 : decode cL_errors 89 = .ok (.iconst (-1), 1) := by decide +kernel
theorem dL_errors_90 : decode cL_errors 90 = .ok (.invokestatic 119, 3) := by decide +kernel
theorem dL_errors_93 : decode cL_errors 93 = .ok (.ldc2_w 36, 3) := by decide +kernel
theorem dL_errors_96 : decode cL_errors 96 = .ok (.lcmp, 1) := by decide +kernel
theorem dL_errors_97 : decode cL_errors 97 = .ok (.ifCond .ne 399, 3) := by decide +kernel
theorem dL_errors_100 : decode cL_errors 100 = .ok (.aload_n 0, 1) := by decide +kernel
theorem dL_errors_101 : decode cL_errors 101 = .ok (.bipush 6, 2) := by decide +kernel
theorem dL_errors_103 : decode cL_errors 103 = .ok (.invokestatic 108, 3) := by decide +kernel
theorem dL_errors_106 : decode cL_errors 106 = .ok (.ldc2_w 17, 3) := by decide +kernel
theorem dL_errors_109 : decode cL_errors 109 = .ok (.lcmp, 1) := by decide +kernel
theorem dL_errors_110 : decode cL_errors 110 = .ok (.ifCond .ne 386, 3) := by decide +kernel
theorem dL_errors_113 : decode cL_errors 113 = .ok (.aload_n 0, 1) := by decide +kernel
theorem dL_errors_114 : decode cL_errors 114 = .ok (.bipush 9, 2) := by decide +kernel
theorem dL_errors_116 : decode cL_errors 116 = .ok (.iconst 0, 1) := by decide +kernel
theorem dL_errors_117 : decode cL_errors 117 = .ok (.iconst 1, 1) := by decide +kernel
theorem dL_errors_118 : decode cL_errors 118 = .ok (.iconst 0, 1) := by decide +kernel
theorem dL_errors_119 : decode cL_errors 119 = .ok (.iconst 1, 1) := by decide +kernel
theorem dL_errors_120 : decode cL_errors 120 = .ok (.invokestatic 121, 3) := by decide +kernel
theorem dL_errors_123 : decode cL_errors 123 = .ok (.ldc2_w 17, 3) := by decide +kernel
theorem dL_errors_126 : decode cL_errors 126 = .ok (.lcmp, 1) := by decide +kernel
theorem dL_errors_127 : decode cL_errors 127 = .ok (.ifCond .ne 369, 3) := by decide +kernel
theorem dL_errors_130 : decode cL_errors 130 = .ok (.aload_n 0, 1) := by decide +kernel
theorem dL_errors_131 : decode cL_errors 131 = .ok (.sipush 401, 3) := by decide +kernel
theorem dL_errors_134 : decode cL_errors 134 = .ok (.iconst 0, 1) := by decide +kernel
theorem dL_errors_135 : decode cL_errors 135 = .ok (.iconst 1, 1) := by decide +kernel
theorem dL_errors_136 : decode cL_errors 136 = .ok (.iconst 0, 1) := by decide +kernel
theorem dL_errors_137 : decode cL_errors 137 = .ok (.iconst 1, 1) := by decide +kernel
theorem dL_errors_138 : decode cL_errors 138 = .ok (.invokestatic 121, 3) := by decide +kernel
theorem dL_errors_141 : decode cL_errors 141 = .ok (.ldc2_w 17, 3) := by decide +kernel
theorem dL_errors_144 : decode cL_errors 144 = .ok (.lcmp, 1) := by decide +kernel
theorem dL_errors_145 : decode cL_errors 145 = .ok (.ifCond .ne 351, 3) := by decide +kernel
theorem dL_errors_148 : decode cL_errors 148 = .ok (.aload_n 0, 1) := by decide +kernel
theorem dL_errors_149 : decode cL_errors 149 = .ok (.bipush 50, 2) := by decide +kernel
theorem dL_errors_151 : decode cL_errors 151 = .ok (.bipush 51, 2) := by decide +kernel
theorem dL_errors_153 : decode cL_errors 153 = .ok (.iconst 1, 1) := by decide +kernel
theorem dL_errors_154 : decode cL_errors 154 = .ok (.iconst 0, 1) := by decide +kernel
theorem dL_errors_155 : decode cL_errors 155 = .ok (.iconst 1, 1) := by decide +kernel
theorem dL_errors_156 : decode cL_errors 156 = .ok (.invokestatic 121, 3) := by decide +kernel
theorem dL_errors_159 : decode cL_errors 159 = .ok (.ldc2_w 17, 3) := by decide +kernel
theorem dL_errors_162 : decode cL_errors 162 = .ok (.lcmp, 1) := by decide +kernel
theorem dL_errors_163 : decode cL_errors 163 = .ok (.ifCond .ne 333, 3) := by decide +kernel
theorem dL_errors_166 : decode cL_errors 166 = .ok (.aload_n 0, 1) := by decide +kernel
theorem dL_errors_167 : decode cL_errors 167 = .ok (.bipush 50, 2) := by decide +kernel
theorem dL_errors_169 : decode cL_errors 169 = .ok (.bipush 50, 2) := by decide +kernel
theorem dL_errors_171 : decode cL_errors 171 = .ok (.iconst 0, 1) := by decide +kernel
theorem dL_errors_172 : decode cL_errors 172 = .ok (.iconst 0, 1) := by decide +kernel
theorem dL_errors_173 : decode cL_errors 173 = .ok (.iconst 1, 1) := by decide +kernel
theorem dL_errors_174 : decode cL_errors 174 = .ok (.invokestatic 121, 3) := by decide +kernel
theorem dL_errors_177 : decode cL_errors 177 = .ok (.ldc2_w 17, 3) := by decide +kernel
theorem dL_errors_180 : decode cL_errors 180 = .ok (.lcmp, 1) := by decide +kernel
theorem dL_errors_181 : decode cL_errors 181 = .ok (.ifCond .ne 315, 3) := by decide +kernel
theorem dL_errors_184 : decode cL_errors 184 = .ok (.aload_n 0, 1) := by decide +kernel
theorem dL_errors_185 : decode cL_errors 185 = .ok (.bipush 50, 2) := by decide +kernel
theorem dL_errors_187 : decode cL_errors 187 = .ok (.bipush 50, 2) := by decide +kernel
theorem dL_errors_189 : decode cL_errors 189 = .ok (.iconst 1, 1) := by decide +kernel
theorem dL_errors_190 : decode cL_errors 190 = .ok (.bipush 24, 2) := by decide +kernel
theorem dL_errors_192 : decode cL_errors 192 = .ok (.iconst 1, 1) := by decide +kernel
theorem dL_errors_193 : decode cL_errors 193 = .ok (.invokestatic 121, 3) := by decide +kernel
theorem dL_errors_196 : decode cL_errors 196 = .ok (.ldc2_w 17, 3) := by decide +kernel
theorem dL_errors_199 : decode cL_errors 199 = .ok (.lcmp, 1) := by decide +kernel
theorem dL_errors_200 : decode cL_errors 200 = .ok (.ifCond .ne 296, 3) := by decide +kernel
theorem dL_errors_203 : decode cL_errors 203 = .ok (.aload_n 0, 1) := by decide +kernel
theorem dL_errors_204 : decode cL_errors 204 = .ok (.bipush 50, 2) := by decide +kernel
theorem dL_errors_206 : decode cL_errors 206 = .ok (.bipush 50, 2) := by decide +kernel
theorem dL_errors_208 : decode cL_errors 208 = .ok (.iconst 1, 1) := by decide +kernel
theorem dL_errors_209 : decode cL_errors 209 = .ok (.bipush 7, 2) := by decide +kernel
theorem dL_errors_211 : decode cL_errors 211 = .ok (.bipush 7, 2) := by decide +kernel
theorem dL_errors_213 : decode cL_errors 213 = .ok (.invokestatic 121, 3) := by decide +kernel
theorem dL_errors_216 : decode cL_errors 216 = .ok (.ldc2_w 17, 3) := by decide +kernel
theorem dL_errors_219 : decode cL_errors 219 = .ok (.lcmp, 1) := by decide +kernel
theorem dL_errors_220 : decode cL_errors 220 = .ok (.ifCond .ne 276, 3) := by decide +kernel
theorem dL_errors_223 : decode cL_errors 223 = .ok (.aload_n 0, 1) := by decide +kernel
theorem dL_errors_224 : decode cL_errors 224 = .ok (.iconst 0, 1) := by decide +kernel
theorem dL_errors_225 : decode cL_errors 225 = .ok (.invokestatic 124, 3) := by decide +kernel
theorem dL_errors_228 : decode cL_errors 228 = .ok (.ldc2_w 17, 3) := by decide +kernel
theorem dL_errors_231 : decode cL_errors 231 = .ok (.lcmp, 1) := by decide +kernel
theorem dL_errors_232 : decode cL_errors 232 = .ok (.ifCond .ne 264, 3) := by decide +kernel
theorem dL_errors_235 : decode cL_errors 235 = .ok (.aload_n 0, 1) := by decide +kernel
theorem dL_errors_236 : decode cL_errors 236 = .ok (.bipush 51, 2) := by decide +kernel
theorem dL_errors_238 : decode cL_errors 238 = .ok (.invokestatic 124, 3) := by decide +kernel
theorem dL_errors_241 : decode cL_errors 241 = .ok (.ldc2_w 17, 3) := by decide +kernel
theorem dL_errors_244 : decode cL_errors 244 = .ok (.lcmp, 1) := by decide +kernel
theorem dL_errors_245 : decode cL_errors 245 = .ok (.ifCond .ne 251, 3) := by decide +kernel
theorem dL_errors_248 : decode cL_errors 248 = .ok (.iload 4, 2) := by decide +kernel
theorem dL_errors_250 : decode cL_errors 250 = .ok (.iconst 5, 1) := by decide +kernel
theorem dL_errors_251 : decode cL_errors 251 = .ok (.if_icmp .lt 30, 3) := by decide +kernel
theorem dL_errors_254 : decode cL_errors 254 = .ok (.aload_n 0, 1) := by decide +kernel
theorem dL_errors_255 : decode cL_errors 255 = .ok (.bipush 9, 2) := by decide +kernel
theorem dL_errors_257 : decode cL_errors 257 = .ok (.invokestatic 124, 3) := by decide +kernel
theorem dL_errors_260 : decode cL_errors 260 = .ok (.ldc2_w 21, 3) := by decide +kernel
theorem dL_errors_263 : decode cL_errors 263 = .ok (.lcmp, 1) := by decide +kernel
theorem dL_errors_264 : decode cL_errors 264 = .ok (.ifCond .ne 232, 3) := by decide +kernel
theorem dL_errors_267 : decode cL_errors 267 = .ok (.aload_n 0, 1) := by decide +kernel
theorem dL_errors_268 : decode cL_errors 268 = .ok (.bipush 9, 2) := by decide +kernel
theorem dL_errors_270 : decode cL_errors 270 = .ok (.iconst 5, 1) := by decide +kernel
theorem dL_errors_271 : decode cL_errors 271 = .ok (.invokestatic 126, 3) := by decide +kernel
theorem dL_errors_274 : decode cL_errors 274 = .ok (.ldc2_w 21, 3) := by decide +kernel
theorem dL_errors_277 : decode cL_errors 277 = .ok (.lcmp, 1) := by decide +kernel
theorem dL_errors_278 : decode cL_errors 278 = .ok (.ifCond .ne 218, 3) := by decide +kernel
theorem dL_errors_281 : decode cL_errors 281 = .ok (.iload_n 3, 1) := by decide +kernel
theorem dL_errors_282 : decode cL_errors 282 = .ok (.bipush 8, 2) := by decide +kernel
theorem dL_errors_284 : decode cL_errors 284 = .ok (.if_icmp .lt 21, 3) := by decide +kernel
theorem dL_errors_287 : decode cL_errors 287 = .ok (.aload_n 0, 1) := by decide +kernel
theorem dL_errors_288 : decode cL_errors 288 = .ok (.bipush 50, 2) := by decide +kernel
theorem dL_errors_290 : decode cL_errors 290 = .ok (.bipush 50, 2) := by decide +kernel
theorem dL_errors_292 : decode cL_errors 292 = .ok (.iconst 1, 1) := by decide +kernel
theorem dL_errors_293 : decode cL_errors 293 = .ok (.iconst 0, 1) := by decide +kernel
theorem dL_errors_294 : decode cL_errors 294 = .ok (.iconst 1, 1) := by decide +kernel
theorem dL_errors_295 : decode cL_errors 295 = .ok (.invokestatic 121, 3) := by decide +kernel
theorem dL_errors_298 : decode cL_errors 298 = .ok (.ldc2_w 21, 3) := by decide +kernel
theorem dL_errors_301 : decode cL_errors 301 = .ok (.lcmp, 1) := by decide +kernel
theorem dL_errors_302 : decode cL_errors 302 = .ok (.ifCond .ne 194, 3) := by decide +kernel
theorem dL_errors_305 : decode cL_errors 305 = .ok (.aload_n 0, 1) := by decide +kernel
theorem dL_errors_306 : decode cL_errors 306 = .ok (.iload_n 3, 1) := by decide +kernel
theorem dL_errors_307 : decode cL_errors 307 = .ok (.iconst 1, 1) := by decide +kernel
theorem dL_errors_308 : decode cL_errors 308 = .ok (.iconst 0, 1) := by decide +kernel
theorem dL_errors_309 : decode cL_errors 309 = .ok (.iconst 0, 1) := by decide +kernel
theorem dL_errors_310 : decode cL_errors 310 = .ok (.invokestatic 128, 3) := by decide +kernel
theorem dL_errors_313 : decode cL_errors 313 = .ok (.ldc2_w 36, 3) := by decide +kernel
theorem dL_errors_316 : decode cL_errors 316 = .ok (.lcmp, 1) := by decide +kernel
theorem dL_errors_317 : decode cL_errors 317 = .ok (.ifCond .ne 179, 3) := by decide +kernel
theorem dL_errors_320 : decode cL_errors 320 = .ok (.aload_n 0, 1) := by decide +kernel
theorem dL_errors_321 : decode cL_errors 321 = .ok (.iload_n 3, 1) := by decide +kernel
theorem dL_errors_322 : decode cL_errors 322 = .ok (.bipush 9, 2) := by decide +kernel
theorem dL_errors_324 : decode cL_errors 324 = .ok (.invokestatic 131, 3) := by decide +kernel
theorem dL_errors_327 : decode cL_errors 327 = .ok (.ldc2_w 36, 3) := by decide +kernel
theorem dL_errors_330 : decode cL_errors 330 = .ok (.lcmp, 1) := by decide +kernel
theorem dL_errors_331 : decode cL_errors 331 = .ok (.ifCond .ne 165, 3) := by decide +kernel
theorem dL_errors_334 : decode cL_errors 334 = .ok (.aload_n 0, 1) := by decide +kernel
theorem dL_errors_335 : decode cL_errors 335 = .ok (.iconst 0, 1) := by decide +kernel
theorem dL_errors_336 : decode cL_errors 336 = .ok (.invokestatic 133, 3) := by decide +kernel
theorem dL_errors_339 : decode cL_errors 339 = .ok (.ldc2_w 17, 3) := by decide +kernel
theorem dL_errors_342 : decode cL_errors 342 = .ok (.lcmp, 1) := by decide +kernel
theorem dL_errors_343 : decode cL_errors 343 = .ok (.ifCond .ne 153, 3) := by decide +kernel
theorem dL_errors_346 : decode cL_errors 346 = .ok (.aload_n 0, 1) := by decide +kernel
theorem dL_errors_347 : decode cL_errors 347 = .ok (.bipush 49, 2) := by decide +kernel
theorem dL_errors_349 : decode cL_errors 349 = .ok (.invokestatic 133, 3) := by decide +kernel
theorem dL_errors_352 : decode cL_errors 352 = .ok (.ldc2_w 17, 3) := by decide +kernel
theorem dL_errors_355 : decode cL_errors 355 = .ok (.lcmp, 1) := by decide +kernel
theorem dL_errors_356 : decode cL_errors 356 = .ok (.ifCond .ne 140, 3) := by decide +kernel
theorem dL_errors_359 : decode cL_errors 359 = .ok (.aload_n 0, 1) := by decide +kernel
theorem dL_errors_360 : decode cL_errors 360 = .ok (.iconst 0, 1) := by decide +kernel
theorem dL_errors_361 : decode cL_errors 361 = .ok (.iconst (-1), 1) := by decide +kernel
theorem dL_errors_362 : decode cL_errors 362 = .ok (.invokestatic 135, 3) := by decide +kernel
theorem dL_errors_365 : decode cL_errors 365 = .ok (.ldc2_w 17, 3) := by decide +kernel
theorem dL_errors_368 : decode cL_errors 368 = .ok (.lcmp, 1) := by decide +kernel
theorem dL_errors_369 : decode cL_errors 369 = .ok (.ifCond .ne 127, 3) := by decide +kernel
theorem dL_errors_372 : decode cL_errors 372 = .ok (.aload_n 0, 1) := by decide +kernel
theorem dL_errors_373 : decode cL_errors 373 = .ok (.iconst 4, 1) := by decide +kernel
theorem dL_errors_374 : decode cL_errors 374 = .ok (.iconst 0, 1) := by decide +kernel
theorem dL_errors_375 : decode cL_errors 375 = .ok (.invokestatic 135, 3) := by decide +kernel
theorem dL_errors_378 : decode cL_errors 378 = .ok (.ldc2_w 17, 3) := by decide +kernel
theorem dL_errors_381 : decode cL_errors 381 = .ok (.lcmp, 1) := by decide +kernel
theorem dL_errors_382 : decode cL_errors 382 = .ok (.ifCond .ne 114, 3) := by decide +kernel
theorem dL_errors_385 : decode cL_errors 385 = .ok (.aload_n 0, 1) := by decide +kernel
theorem dL_errors_386 : decode cL_errors 386 = .ok (.iconst 5, 1) := by decide +kernel
theorem dL_errors_387 : decode cL_errors 387 = .ok (.bipush 24, 2) := by decide +kernel
theorem dL_errors_389 : decode cL_errors 389 = .ok (.invokestatic 135, 3) := by decide +kernel
theorem dL_errors_392 : decode cL_errors 392 = .ok (.ldc2_w 17, 3) := by decide +kernel
theorem dL_errors_395 : decode cL_errors 395 = .ok (.lcmp, 1) := by decide +kernel
theorem dL_errors_396 : decode cL_errors 396 = .ok (.ifCond .ne 100, 3) := by decide +kernel
theorem dL_errors_399 : decode cL_errors 399 = .ok (.aload_n 0, 1) := by decide +kernel
theorem dL_errors_400 : decode cL_errors 400 = .ok (.bipush 6, 2) := by decide +kernel
theorem dL_errors_402 : decode cL_errors 402 = .ok (.iconst 1, 1) := by decide +kernel
theorem dL_errors_403 : decode cL_errors 403 = .ok (.invokestatic 135, 3) := by decide +kernel
theorem dL_errors_406 : decode cL_errors 406 = .ok (.ldc2_w 17, 3) := by decide +kernel
theorem dL_errors_409 : decode cL_errors 409 = .ok (.lcmp, 1) := by decide +kernel
theorem dL_errors_410 : decode cL_errors 410 = .ok (.ifCond .ne 86, 3) := by decide +kernel
theorem dL_errors_413 : decode cL_errors 413 = .ok (.aload_n 0, 1) := by decide +kernel
theorem dL_errors_414 : decode cL_errors 414 = .ok (.iconst 0, 1) := by decide +kernel
theorem dL_errors_415 : decode cL_errors 415 = .ok (.iconst 0, 1) := by decide +kernel
theorem dL_errors_416 : decode cL_errors 416 = .ok (.invokestatic 137, 3) := by decide +kernel
theorem dL_errors_419 : decode cL_errors 419 = .ok (.ldc2_w 17, 3) := by decide +kernel
theorem dL_errors_422 : decode cL_errors 422 = .ok (.lcmp, 1) := by decide +kernel
theorem dL_errors_423 : decode cL_errors 423 = .ok (.ifCond .ne 73, 3) := by decide +kernel
theorem dL_errors_426 : decode cL_errors 426 = .ok (.aload_n 0, 1) := by decide +kernel
theorem dL_errors_427 : decode cL_errors 427 = .ok (.bipush 9, 2) := by decide +kernel
theorem dL_errors_429 : decode cL_errors 429 = .ok (.iconst 4, 1) := by decide +kernel
theorem dL_errors_430 : decode cL_errors 430 = .ok (.invokestatic 137, 3) := by decide +kernel
theorem dL_errors_433 : decode cL_errors 433 = .ok (.ldc2_w 17, 3) := by decide +kernel
theorem dL_errors_436 : decode cL_errors 436 = .ok (.lcmp, 1) := by decide +kernel
theorem dL_errors_437 : decode cL_errors 437 = .ok (.ifCond .ne 59, 3) := by decide +kernel
theorem dL_errors_440 : decode cL_errors 440 = .ok (.aload_n 0, 1) := by decide +kernel
theorem dL_errors_441 : decode cL_errors 441 = .ok (.iload_n 3, 1) := by decide +kernel
theorem dL_errors_442 : decode cL_errors 442 = .ok (.invokestatic 139, 3) := by decide +kernel
theorem dL_errors_445 : decode cL_errors 445 = .ok (.ldc2_w 36, 3) := by decide +kernel
theorem dL_errors_448 : decode cL_errors 448 = .ok (.lcmp, 1) := by decide +kernel
theorem dL_errors_449 : decode cL_errors 449 = .ok (.ifCond .ne 47, 3) := by decide +kernel
theorem dL_errors_452 : decode cL_errors 452 = .ok (.aload_n 0, 1) := by decide +kernel
theorem dL_errors_453 : decode cL_errors 453 = .ok (.bipush 73, 2) := by decide +kernel
theorem dL_errors_455 : decode cL_errors 455 = .ok (.invokestatic 141, 3) := by decide +kernel
theorem dL_errors_458 : decode cL_errors 458 = .ok (.ldc2_w 17, 3) := by decide +kernel
theorem dL_errors_461 : decode cL_errors 461 = .ok (.lcmp, 1) := by decide +kernel
theorem dL_errors_462 : decode cL_errors 462 = .ok (.ifCond .ne 34, 3) := by decide +kernel
theorem dL_errors_465 : decode cL_errors 465 = .ok (.aload_n 0, 1) := by decide +kernel
theorem dL_errors_466 : decode cL_errors 466 = .ok (.iconst 0, 1) := by decide +kernel
theorem dL_errors_467 : decode cL_errors 467 = .ok (.invokestatic 143, 3) := by decide +kernel
theorem dL_errors_470 : decode cL_errors 470 = .ok (.ldc2_w 17, 3) := by decide +kernel
theorem dL_errors_473 : decode cL_errors 473 = .ok (.lcmp, 1) := by decide +kernel
theorem dL_errors_474 : decode cL_errors 474 = .ok (.ifCond .ne 22, 3) := by decide +kernel
theorem dL_errors_477 : decode cL_errors 477 = .ok (.aload_n 0, 1) := by decide +kernel
theorem dL_errors_478 : decode cL_errors 478 = .ok (.bipush 51, 2) := by decide +kernel
theorem dL_errors_480 : decode cL_errors 480 = .ok (.bipush 9, 2) := by decide +kernel
theorem dL_errors_482 : decode cL_errors 482 = .ok (.invokestatic 126, 3) := by decide +kernel
theorem dL_errors_485 : decode cL_errors 485 = .ok (.ldc2_w 17, 3) := by decide +kernel
theorem dL_errors_488 : decode cL_errors 488 = .ok (.lcmp, 1) := by decide +kernel
theorem dL_errors_489 : decode cL_errors 489 = .ok (.ifCond .ne 7, 3) := by decide +kernel
theorem dL_errors_492 : decode cL_errors 492 = .ok (.iconst 1, 1) := by decide +kernel
theorem dL_errors_493 : decode cL_errors 493 = .ok (.goto 4, 3) := by decide +kernel
theorem dL_errors_496 : decode cL_errors 496 = .ok (.iconst 0, 1) := by decide +kernel
theorem dL_errors_497 : decode cL_errors 497 = .ok (.istore 5, 2) := by decide +kernel
theorem dL_errors_499 : decode cL_errors 499 = .ok (.iconst 0, 1) := by decide +kernel
theorem dL_errors_500 : decode cL_errors 500 = .ok (.istore 6, 2) := by decide +kernel
theorem dL_errors_502 : decode cL_errors 502 = .ok (.iload 6, 2) := by decide +kernel
theorem dL_errors_504 : decode cL_errors 504 = .ok (.iload_n 3, 1) := by decide +kernel
theorem dL_errors_505 : decode cL_errors 505 = .ok (.if_icmp .ge 155, 3) := by decide +kernel
theorem dL_errors_508 : decode cL_errors 508 = .ok (.iload 5, 2) := by decide +kernel
theorem dL_errors_510 : decode cL_errors 510 = .ok (.ifCond .eq 150, 3) := by decide +kernel
theorem dL_errors_513 : decode cL_errors 513 = .ok (.aload_n 0, 1) := by decide +kernel
theorem dL_errors_514 : decode cL_errors 514 = .ok (.iload 6, 2) := by decide +kernel
theorem dL_errors_516 : decode cL_errors 516 = .ok (.bipush 6, 2) := by decide +kernel
theorem dL_errors_518 : decode cL_errors 518 = .ok (.invokestatic 110, 3) := by decide +kernel
theorem dL_errors_521 : decode cL_errors 521 = .ok (.lconst 1, 1) := by decide +kernel
theorem dL_errors_522 : decode cL_errors 522 = .ok (.lcmp, 1) := by decide +kernel
theorem dL_errors_523 : decode cL_errors 523 = .ok (.ifCond .ne 7, 3) := by decide +kernel
theorem dL_errors_526 : decode cL_errors 526 = .ok (.iconst 1, 1) := by decide +kernel
theorem dL_errors_527 : decode cL_errors 527 = .ok (.goto 4, 3) := by decide +kernel
theorem dL_errors_530 : decode cL_errors 530 = .ok (.iconst 0, 1) := by decide +kernel
theorem dL_errors_531 : decode cL_errors 531 = .ok (.istore 7, 2) := by decide +kernel
theorem dL_errors_533 : decode cL_errors 533 = .ok (.aload_n 0, 1) := by decide +kernel
theorem dL_errors_534 : decode cL_errors 534 = .ok (.iload 6, 2) := by decide +kernel
theorem dL_errors_536 : decode cL_errors 536 = .ok (.bipush 10, 2) := by decide +kernel
theorem dL_errors_538 : decode cL_errors 538 = .ok (.invokestatic 110, 3) := by decide +kernel
theorem dL_errors_541 : decode cL_errors 541 = .ok (.ldc2_w 17, 3) := by decide +kernel
theorem dL_errors_544 : decode cL_errors 544 = .ok (.lcmp, 1) := by decide +kernel
theorem dL_errors_545 : decode cL_errors 545 = .ok (.ifCond .ne 106, 3) := by decide +kernel
theorem dL_errors_548 : decode cL_errors 548 = .ok (.aload_n 0, 1) := by decide +kernel
theorem dL_errors_549 : decode cL_errors 549 = .ok (.iload 6, 2) := by decide +kernel
theorem dL_errors_551 : decode cL_errors 551 = .ok (.iconst (-1), 1) := by decide +kernel
theorem dL_errors_552 : decode cL_errors 552 = .ok (.invokestatic 119, 3) := by decide +kernel
theorem dL_errors_555 : decode cL_errors 555 = .ok (.ldc2_w 17, 3) := by decide +kernel
theorem dL_errors_558 : decode cL_errors 558 = .ok (.lcmp, 1) := by decide +kernel
theorem dL_errors_559 : decode cL_errors 559 = .ok (.ifCond .ne 92, 3) := by decide +kernel
theorem dL_errors_562 : decode cL_errors 562 = .ok (.aload_n 0, 1) := by decide +kernel
theorem dL_errors_563 : decode cL_errors 563 = .ok (.iload 6, 2) := by decide +kernel
theorem dL_errors_565 : decode cL_errors 565 = .ok (.sipush 401, 3) := by decide +kernel
theorem dL_errors_568 : decode cL_errors 568 = .ok (.iconst 0, 1) := by decide +kernel
theorem dL_errors_569 : decode cL_errors 569 = .ok (.iconst 1, 1) := by decide +kernel
theorem dL_errors_570 : decode cL_errors 570 = .ok (.invokestatic 128, 3) := by decide +kernel
theorem dL_errors_573 : decode cL_errors 573 = .ok (.ldc2_w 17, 3) := by decide +kernel
theorem dL_errors_576 : decode cL_errors 576 = .ok (.lcmp, 1) := by decide +kernel
theorem dL_errors_577 : decode cL_errors 577 = .ok (.ifCond .ne 74, 3) := by decide +kernel
theorem dL_errors_580 : decode cL_errors 580 = .ok (.aload_n 0, 1) := by decide +kernel
theorem dL_errors_581 : decode cL_errors 581 = .ok (.iload 6, 2) := by decide +kernel
theorem dL_errors_583 : decode cL_errors 583 = .ok (.iconst 5, 1) := by decide +kernel
theorem dL_errors_584 : decode cL_errors 584 = .ok (.iconst 3, 1) := by decide +kernel
theorem dL_errors_585 : decode cL_errors 585 = .ok (.iconst 3, 1) := by decide +kernel
theorem dL_errors_586 : decode cL_errors 586 = .ok (.invokestatic 128, 3) := by decide +kernel
theorem dL_errors_589 : decode cL_errors 589 = .ok (.ldc2_w 17, 3) := by decide +kernel
theorem dL_errors_592 : decode cL_errors 592 = .ok (.lcmp, 1) := by decide +kernel
theorem dL_errors_593 : decode cL_errors 593 = .ok (.ifCond .ne 58, 3) := by decide +kernel
theorem dL_errors_596 : decode cL_errors 596 = .ok (.aload_n 0, 1) := by decide +kernel
theorem dL_errors_597 : decode cL_errors 597 = .ok (.iload 6, 2) := by decide +kernel
theorem dL_errors_599 : decode cL_errors 599 = .ok (.bipush 9, 2) := by decide +kernel
theorem dL_errors_601 : decode cL_errors 601 = .ok (.invokestatic 131, 3) := by decide +kernel
theorem dL_errors_604 : decode cL_errors 604 = .ok (.ldc2_w 17, 3) := by decide +kernel
theorem dL_errors_607 : decode cL_errors 607 = .ok (.lcmp, 1) := by decide +kernel
theorem dL_errors_608 : decode cL_errors 608 = .ok (.ifCond .ne 43, 3) := by decide +kernel
theorem dL_errors_611 : decode cL_errors 611 = .ok (.iload 7, 2) := by decide +kernel
theorem dL_errors_613 : decode cL_errors 613 = .ok (.ifCond .eq 34, 3) := by decide +kernel
theorem dL_errors_616 : decode cL_errors 616 = .ok (.aload_n 0, 1) := by decide +kernel
theorem dL_errors_617 : decode cL_errors 617 = .ok (.iload 6, 2) := by decide +kernel
theorem dL_errors_619 : decode cL_errors 619 = .ok (.iconst 5, 1) := by decide +kernel
theorem dL_errors_620 : decode cL_errors 620 = .ok (.iconst 0, 1) := by decide +kernel
theorem dL_errors_621 : decode cL_errors 621 = .ok (.iconst 1, 1) := by decide +kernel
theorem dL_errors_622 : decode cL_errors 622 = .ok (.invokestatic 128, 3) := by decide +kernel
theorem dL_errors_625 : decode cL_errors 625 = .ok (.ldc2_w 21, 3) := by decide +kernel
theorem dL_errors_628 : decode cL_errors 628 = .ok (.lcmp, 1) := by decide +kernel
theorem dL_errors_629 : decode cL_errors 629 = .ok (.ifCond .ne 22, 3) := by decide +kernel
theorem dL_errors_632 : decode cL_errors 632 = .ok (.aload_n 0, 1) := by decide +kernel
theorem dL_errors_633 : decode cL_errors 633 = .ok (.iload 6, 2) := by decide +kernel
theorem dL_errors_635 : decode cL_errors 635 = .ok (.bipush 50, 2) := by decide +kernel
theorem dL_errors_637 : decode cL_errors 637 = .ok (.invokestatic 131, 3) := by decide +kernel
theorem dL_errors_640 : decode cL_errors 640 = .ok (.ldc2_w 21, 3) := by decide +kernel
theorem dL_errors_643 : decode cL_errors 643 = .ok (.lcmp, 1) := by decide +kernel
theorem dL_errors_644 : decode cL_errors 644 = .ok (.ifCond .ne 7, 3) := by decide +kernel
theorem dL_errors_647 : decode cL_errors 647 = .ok (.iconst 1, 1) := by decide +kernel
theorem dL_errors_648 : decode cL_errors 648 = .ok (.goto 4, 3) := by decide +kernel
theorem dL_errors_651 : decode cL_errors 651 = .ok (.iconst 0, 1) := by decide +kernel
theorem dL_errors_652 : decode cL_errors 652 = .ok (.istore 5, 2) := by decide +kernel
theorem dL_errors_654 : decode cL_errors 654 = .ok (.iinc 6 1, 3) := by decide +kernel
theorem dL_errors_657 : decode cL_errors 657 = .ok (.goto (-155), 3) := by decide +kernel
theorem dL_errors_660 : decode cL_errors 660 = .ok (.iconst 0, 1) := by decide +kernel
theorem dL_errors_661 : decode cL_errors 661 = .ok (.istore 6, 2) := by decide +kernel
theorem dL_errors_663 : decode cL_errors 663 = .ok (.iload 6, 2) := by decide +kernel
theorem dL_errors_665 : decode cL_errors 665 = .ok (.iload 4, 2) := by decide +kernel
theorem dL_errors_667 : decode cL_errors 667 = .ok (.if_icmp .ge 35, 3) := by decide +kernel
theorem dL_errors_670 : decode cL_errors 670 = .ok (.iload 5, 2) := by decide +kernel
theorem dL_errors_672 : decode cL_errors 672 = .ok (.ifCond .eq 30, 3) := by decide +kernel
theorem dL_errors_675 : decode cL_errors 675 = .ok (.aload_n 0, 1) := by decide +kernel
theorem dL_errors_676 : decode cL_errors 676 = .ok (.iload 6, 2) := by decide +kernel
theorem dL_errors_678 : decode cL_errors 678 = .ok (.iconst 3, 1) := by decide +kernel
theorem dL_errors_679 : decode cL_errors 679 = .ok (.invokestatic 113, 3) := by decide +kernel
theorem dL_errors_682 : decode cL_errors 682 = .ok (.ldc2_w 17, 3) := by decide +kernel
theorem dL_errors_685 : decode cL_errors 685 = .ok (.lcmp, 1) := by decide +kernel
theorem dL_errors_686 : decode cL_errors 686 = .ok (.ifCond .ne 7, 3) := by decide +kernel
theorem dL_errors_689 : decode cL_errors 689 = .ok (.iconst 1, 1) := by decide +kernel
theorem dL_errors_690 : decode cL_errors 690 = .ok (.goto 4, 3) := by decide +kernel
theorem dL_errors_693 : decode cL_errors 693 = .ok (.iconst 0, 1) := by decide +kernel
theorem dL_errors_694 : decode cL_errors 694 = .ok (.istore 5, 2) := by decide +kernel
theorem dL_errors_696 : decode cL_errors 696 = .ok (.iinc 6 1, 3) := by decide +kernel
theorem dL_errors_699 : decode cL_errors 699 = .ok (.goto (-36), 3) := by decide +kernel
theorem dL_errors_702 : decode cL_errors 702 = .ok (.iload 5, 2) := by decide +kernel
theorem dL_errors_704 : decode cL_errors 704 = .ok (.ifCond .eq 93, 3) := by decide +kernel
theorem dL_errors_707 : decode cL_errors 707 = .ok (.aload_n 0, 1) := by decide +kernel
theorem dL_errors_708 : decode cL_errors 708 = .ok (.iconst 0, 1) := by decide +kernel
theorem dL_errors_709 : decode cL_errors 709 = .ok (.lconst 0, 1) := by decide +kernel
theorem dL_errors_710 : decode cL_errors 710 = .ok (.invokestatic 145, 3) := by decide +kernel
theorem dL_errors_713 : decode cL_errors 713 = .ok (.ldc2_w 17, 3) := by decide +kernel
theorem dL_errors_716 : decode cL_errors 716 = .ok (.lcmp, 1) := by decide +kernel
theorem dL_errors_717 : decode cL_errors 717 = .ok (.ifCond .ne 80, 3) := by decide +kernel
theorem dL_errors_720 : decode cL_errors 720 = .ok (.aload_n 0, 1) := by decide +kernel
theorem dL_errors_721 : decode cL_errors 721 = .ok (.iconst 3, 1) := by decide +kernel
theorem dL_errors_722 : decode cL_errors 722 = .ok (.ldc2_w 149, 3) := by decide +kernel
theorem dL_errors_725 : decode cL_errors 725 = .ok (.invokestatic 145, 3) := by decide +kernel
theorem dL_errors_728 : decode cL_errors 728 = .ok (.ldc2_w 17, 3) := by decide +kernel
theorem dL_errors_731 : decode cL_errors 731 = .ok (.lcmp, 1) := by decide +kernel
theorem dL_errors_732 : decode cL_errors 732 = .ok (.ifCond .ne 65, 3) := by decide +kernel
theorem dL_errors_735 : decode cL_errors 735 = .ok (.aload_n 0, 1) := by decide +kernel
theorem dL_errors_736 : decode cL_errors 736 = .ok (.lconst 1, 1) := by decide +kernel
theorem dL_errors_737 : decode cL_errors 737 = .ok (.iconst 0, 1) := by decide +kernel
theorem dL_errors_738 : decode cL_errors 738 = .ok (.invokestatic 151, 3) := by decide +kernel
theorem dL_errors_741 : decode cL_errors 741 = .ok (.ldc2_w 17, 3) := by decide +kernel
theorem dL_errors_744 : decode cL_errors 744 = .ok (.lcmp, 1) := by decide +kernel
theorem dL_errors_745 : decode cL_errors 745 = .ok (.ifCond .ne 52, 3) := by decide +kernel
theorem dL_errors_748 : decode cL_errors 748 = .ok (.aload_n 0, 1) := by decide +kernel
theorem dL_errors_749 : decode cL_errors 749 = .ok (.iconst 2, 1) := by decide +kernel
theorem dL_errors_750 : decode cL_errors 750 = .ok (.invokestatic 154, 3) := by decide +kernel
theorem dL_errors_753 : decode cL_errors 753 = .ok (.ldc2_w 36, 3) := by decide +kernel
theorem dL_errors_756 : decode cL_errors 756 = .ok (.lcmp, 1) := by decide +kernel
theorem dL_errors_757 : decode cL_errors 757 = .ok (.ifCond .ne 40, 3) := by decide +kernel
theorem dL_errors_760 : decode cL_errors 760 = .ok (.aload_n 0, 1) := by decide +kernel
theorem dL_errors_761 : decode cL_errors 761 = .ok (.iconst 2, 1) := by decide +kernel
theorem dL_errors_762 : decode cL_errors 762 = .ok (.invokestatic 156, 3) := by decide +kernel
theorem dL_errors_765 : decode cL_errors 765 = .ok (.ldc2_w 36, 3) := by decide +kernel
theorem dL_errors_768 : decode cL_errors 768 = .ok (.lcmp, 1) := by decide +kernel
theorem dL_errors_769 : decode cL_errors 769 = .ok (.ifCond .ne 28, 3) := by decide +kernel
theorem dL_errors_772 : decode cL_errors 772 = .ok (.aload_n 0, 1) := by decide +kernel
theorem dL_errors_773 : decode cL_errors 773 = .ok (.iconst (-1), 1) := by decide +kernel
theorem dL_errors_774 : decode cL_errors 774 = .ok (.invokestatic 158, 3) := by decide +kernel
theorem dL_errors_777 : decode cL_errors 777 = .ok (.ldc2_w 17, 3) := by decide +kernel
theorem dL_errors_780 : decode cL_errors 780 = .ok (.lcmp, 1) := by decide +kernel
theorem dL_errors_781 : decode cL_errors 781 = .ok (.ifCond .ne 16, 3) := by decide +kernel
theorem dL_errors_784 : decode cL_errors 784 = .ok (.aload_n 0, 1) := by decide +kernel
theorem dL_errors_785 : decode cL_errors 785 = .ok (.invokestatic 115, 3) := by decide +kernel
theorem dL_errors_788 : decode cL_errors 788 = .ok (.lload_n 1, 1) := by decide +kernel
theorem dL_errors_789 : decode cL_errors 789 = .ok (.lcmp, 1) := by decide +kernel
theorem dL_errors_790 : decode cL_errors 790 = .ok (.ifCond .ne 7, 3) := by decide +kernel
theorem dL_errors_793 : decode cL_errors 793 = .ok (.iconst 1, 1) := by decide +kernel
theorem dL_errors_794 : decode cL_errors 794 = .ok (.goto 4, 3) := by decide +kernel
theorem dL_errors_797 : decode cL_errors 797 = .ok (.iconst 0, 1) := by decide +kernel
theorem dL_errors_798 : decode cL_errors 798 = .ok (.ireturn, 1) := by decide +kernel
theorem dL_read_0 : decode cL_read 0 = .ok (.lconst 0, 1) := by decide +kernel
theorem dL_read_1 : decode cL_read 1 = .ok (.lstore_n 2, 1) := by decide +kernel
theorem dL_read_2 : decode cL_read 2 = .ok (.lconst 0, 1) := by decide +kernel
theorem dL_read_3 : decode cL_read 3 = .ok (.lstore 4, 2) := by decide +kernel
theorem dL_read_5 : decode cL_read 5 = .ok (.iconst 3, 1) := by decide +kernel
theorem dL_read_6 : decode cL_read 6 = .ok (.istore 6, 2) := by decide +kernel
theorem dL_read_8 : decode cL_read 8 = .ok (.aload_n 0, 1) := by decide +kernel
theorem dL_read_9 : decode cL_read 9 = .ok (.iload_n 1, 1) := by decide +kernel
theorem dL_read_10 : decode cL_read 10 = .ok (.iload 6, 2) := by decide +kernel
theorem dL_read_12 : decode cL_read 12 = .ok (.invokestatic 119, 3) := by decide +kernel
theorem dL_read_15 : decode cL_read 15 = .ok (.ldc2_w 160, 3) := by decide +kernel
theorem dL_read_18 : decode cL_read 18 = .ok (.ldc2_w 162, 3) := by decide +kernel
theorem dL_read_21 : decode cL_read 21 = .ok (.invokestatic 164, 3) := by decide +kernel
theorem dL_read_24 : decode cL_read 24 = .ok (.ifCond .eq 27, 3) := by decide +kernel
theorem dL_read_27 : decode cL_read 27 = .ok (.ldc2_w 168, 3) := by decide +kernel
theorem dL_read_30 : decode cL_read 30 = .ok (.lload_n 2, 1) := by decide +kernel
theorem dL_read_31 : decode cL_read 31 = .ok (.lmul, 1) := by decide +kernel
theorem dL_read_32 : decode cL_read 32 = .ok (.aload_n 0, 1) := by decide +kernel
theorem dL_read_33 : decode cL_read 33 = .ok (.iload_n 1, 1) := by decide +kernel
theorem dL_read_34 : decode cL_read 34 = .ok (.iload 6, 2) := by decide +kernel
theorem dL_read_36 : decode cL_read 36 = .ok (.invokestatic 119, 3) := by decide +kernel
theorem dL_read_39 : decode cL_read 39 = .ok (.ladd, 1) := by decide +kernel
theorem dL_read_40 : decode cL_read 40 = .ok (.ldc2_w 160, 3) := by decide +kernel
theorem dL_read_43 : decode cL_read 43 = .ok (.lsub, 1) := by decide +kernel
theorem dL_read_44 : decode cL_read 44 = .ok (.lstore_n 2, 1) := by decide +kernel
theorem dL_read_45 : decode cL_read 45 = .ok (.iinc 6 1, 3) := by decide +kernel
theorem dL_read_48 : decode cL_read 48 = .ok (.goto (-40), 3) := by decide +kernel
theorem dL_read_51 : decode cL_read 51 = .ok (.iload 6, 2) := by decide +kernel
theorem dL_read_53 : decode cL_read 53 = .ok (.aload_n 0, 1) := by decide +kernel
theorem dL_read_54 : decode cL_read 54 = .ok (.iload_n 1, 1) := by decide +kernel
theorem dL_read_55 : decode cL_read 55 = .ok (.iload 6, 2) := by decide +kernel
theorem dL_read_57 : decode cL_read 57 = .ok (.invokestatic 119, 3) := by decide +kernel
theorem dL_read_60 : decode cL_read 60 = .ok (.ldc2_w 170, 3) := by decide +kernel
theorem dL_read_63 : decode cL_read 63 = .ok (.lcmp, 1) := by decide +kernel
theorem dL_read_64 : decode cL_read 64 = .ok (.ifCond .ne 7, 3) := by decide +kernel
theorem dL_read_67 : decode cL_read 67 = .ok (.iconst 1, 1) := by decide +kernel
theorem dL_read_68 : decode cL_read 68 = .ok (.goto 4, 3) := by decide +kernel
theorem dL_read_71 : decode cL_read 71 = .ok (.iconst 0, 1) := by decide +kernel
theorem dL_read_72 : decode cL_read 72 = .ok (.iadd, 1) := by decide +kernel
theorem dL_read_73 : decode cL_read 73 = .ok (.istore 6, 2) := by decide +kernel
theorem dL_read_75 : decode cL_read 75 = .ok (.aload_n 0, 1) := by decide +kernel
theorem dL_read_76 : decode cL_read 76 = .ok (.iload_n 1, 1) := by decide +kernel
theorem dL_read_77 : decode cL_read 77 = .ok (.iconst 0, 1) := by decide +kernel
theorem dL_read_78 : decode cL_read 78 = .ok (.invokestatic 119, 3) := by decide +kernel
theorem dL_read_81 : decode cL_read 81 = .ok (.ldc2_w 172, 3) := by decide +kernel
theorem dL_read_84 : decode cL_read 84 = .ok (.lcmp, 1) := by decide +kernel
theorem dL_read_85 : decode cL_read 85 = .ok (.ifCond .ne 49, 3) := by decide +kernel
theorem dL_read_88 : decode cL_read 88 = .ok (.aload_n 0, 1) := by decide +kernel
theorem dL_read_89 : decode cL_read 89 = .ok (.iload_n 1, 1) := by decide +kernel
theorem dL_read_90 : decode cL_read 90 = .ok (.iconst 1, 1) := by decide +kernel
theorem dL_read_91 : decode cL_read 91 = .ok (.invokestatic 119, 3) := by decide +kernel
theorem dL_read_94 : decode cL_read 94 = .ok (.bipush 48, 2) := by decide +kernel
theorem dL_read_96 : decode cL_read 96 = .ok (.iload_n 1, 1) := by decide +kernel
theorem dL_read_97 : decode cL_read 97 = .ok (.iadd, 1) := by decide +kernel
theorem dL_read_98 : decode cL_read 98 = .ok (.i2l, 1) := by decide +kernel
theorem dL_read_99 : decode cL_read 99 = .ok (.lcmp, 1) := by decide +kernel
theorem dL_read_100 : decode cL_read 100 = .ok (.ifCond .ne 34, 3) := by decide +kernel
theorem dL_read_103 : decode cL_read 103 = .ok (.aload_n 0, 1) := by decide +kernel
theorem dL_read_104 : decode cL_read 104 = .ok (.iload_n 1, 1) := by decide +kernel
theorem dL_read_105 : decode cL_read 105 = .ok (.iconst 2, 1) := by decide +kernel
theorem dL_read_106 : decode cL_read 106 = .ok (.invokestatic 119, 3) := by decide +kernel
theorem dL_read_109 : decode cL_read 109 = .ok (.ldc2_w 174, 3) := by decide +kernel
theorem dL_read_112 : decode cL_read 112 = .ok (.lcmp, 1) := by decide +kernel
theorem dL_read_113 : decode cL_read 113 = .ok (.ifCond .ne 21, 3) := by decide +kernel
theorem dL_read_116 : decode cL_read 116 = .ok (.aload_n 0, 1) := by decide +kernel
theorem dL_read_117 : decode cL_read 117 = .ok (.iload_n 1, 1) := by decide +kernel
theorem dL_read_118 : decode cL_read 118 = .ok (.iload 6, 2) := by decide +kernel
theorem dL_read_120 : decode cL_read 120 = .ok (.invokestatic 119, 3) := by decide +kernel
theorem dL_read_123 : decode cL_read 123 = .ok (.ldc2_w 176, 3) := by decide +kernel
theorem dL_read_126 : decode cL_read 126 = .ok (.lcmp, 1) := by decide +kernel
theorem dL_read_127 : decode cL_read 127 = .ok (.ifCond .ne 7, 3) := by decide +kernel
theorem dL_read_130 : decode cL_read 130 = .ok (.iconst 1, 1) := by decide +kernel
theorem dL_read_131 : decode cL_read 131 = .ok (.goto 4, 3) := by decide +kernel
theorem dL_read_134 : decode cL_read 134 = .ok (.iconst 0, 1) := by decide +kernel
theorem dL_read_135 : decode cL_read 135 = .ok (.istore 7, 2) := by decide +kernel
theorem dL_read_137 : decode cL_read 137 = .ok (.iinc 6 1, 3) := by decide +kernel
theorem dL_read_140 : decode cL_read 140 = .ok (.aload_n 0, 1) := by decide +kernel
theorem dL_read_141 : decode cL_read 141 = .ok (.iload_n 1, 1) := by decide +kernel
theorem dL_read_142 : decode cL_read 142 = .ok (.iload 6, 2) := by decide +kernel
theorem dL_read_144 : decode cL_read 144 = .ok (.invokestatic 119, 3) := by decide +kernel
theorem dL_read_147 : decode cL_read 147 = .ok (.ldc2_w 160, 3) := by decide +kernel
theorem dL_read_150 : decode cL_read 150 = .ok (.ldc2_w 162, 3) := by decide +kernel
theorem dL_read_153 : decode cL_read 153 = .ok (.invokestatic 164, 3) := by decide +kernel
theorem dL_read_156 : decode cL_read 156 = .ok (.ifCond .eq 29, 3) := by decide +kernel
theorem dL_read_159 : decode cL_read 159 = .ok (.ldc2_w 168, 3) := by decide +kernel
theorem dL_read_162 : decode cL_read 162 = .ok (.lload 4, 2) := by decide +kernel
theorem dL_read_164 : decode cL_read 164 = .ok (.lmul, 1) := by decide +kernel
theorem dL_read_165 : decode cL_read 165 = .ok (.aload_n 0, 1) := by decide +kernel
theorem dL_read_166 : decode cL_read 166 = .ok (.iload_n 1, 1) := by decide +kernel
theorem dL_read_167 : decode cL_read 167 = .ok (.iload 6, 2) := by decide +kernel
theorem dL_read_169 : decode cL_read 169 = .ok (.invokestatic 119, 3) := by decide +kernel
theorem dL_read_172 : decode cL_read 172 = .ok (.ladd, 1) := by decide +kernel
theorem dL_read_173 : decode cL_read 173 = .ok (.ldc2_w 160, 3) := by decide +kernel
theorem dL_read_176 : decode cL_read 176 = .ok (.lsub, 1) := by decide +kernel
theorem dL_read_177 : decode cL_read 177 = .ok (.lstore 4, 2) := by decide +kernel
theorem dL_read_179 : decode cL_read 179 = .ok (.iinc 6 1, 3) := by decide +kernel
theorem dL_read_182 : decode cL_read 182 = .ok (.goto (-42), 3) := by decide +kernel
theorem dL_read_185 : decode cL_read 185 = .ok (.iload 7, 2) := by decide +kernel
theorem dL_read_187 : decode cL_read 187 = .ok (.ifCond .eq 17, 3) := by decide +kernel
theorem dL_read_190 : decode cL_read 190 = .ok (.aload_n 0, 1) := by decide +kernel
theorem dL_read_191 : decode cL_read 191 = .ok (.iload_n 1, 1) := by decide +kernel
theorem dL_read_192 : decode cL_read 192 = .ok (.iload 6, 2) := by decide +kernel
theorem dL_read_194 : decode cL_read 194 = .ok (.invokestatic 119, 3) := by decide +kernel
theorem dL_read_197 : decode cL_read 197 = .ok (.ldc2_w 174, 3) := by decide +kernel
theorem dL_read_200 : decode cL_read 200 = .ok (.lcmp, 1) := by decide +kernel
theorem dL_read_201 : decode cL_read 201 = .ok (.ifCond .eq 9, 3) := by decide +kernel
theorem dL_read_204 : decode cL_read 204 = .ok (.ldc2_w 178, 3) := by decide +kernel
theorem dL_read_207 : decode cL_read 207 = .ok (.goto 47, 3) := by decide +kernel
theorem dL_read_210 : decode cL_read 210 = .ok (.ldc2_w 180, 3) := by decide +kernel
theorem dL_read_213 : decode cL_read 213 = .ok (.lload_n 2, 1) := by decide +kernel
theorem dL_read_214 : decode cL_read 214 = .ok (.lmul, 1) := by decide +kernel
theorem dL_read_215 : decode cL_read 215 = .ok (.ldc2_w 182, 3) := by decide +kernel
theorem dL_read_218 : decode cL_read 218 = .ok (.lload 4, 2) := by decide +kernel
theorem dL_read_220 : decode cL_read 220 = .ok (.lmul, 1) := by decide +kernel
theorem dL_read_221 : decode cL_read 221 = .ok (.ladd, 1) := by decide +kernel
theorem dL_read_222 : decode cL_read 222 = .ok (.aload_n 0, 1) := by decide +kernel
theorem dL_read_223 : decode cL_read 223 = .ok (.iload_n 1, 1) := by decide +kernel
theorem dL_read_224 : decode cL_read 224 = .ok (.iload 6, 2) := by decide +kernel
theorem dL_read_226 : decode cL_read 226 = .ok (.iconst 1, 1) := by decide +kernel
theorem dL_read_227 : decode cL_read 227 = .ok (.iadd, 1) := by decide +kernel
theorem dL_read_228 : decode cL_read 228 = .ok (.invokestatic 119, 3) := by decide +kernel
theorem dL_read_231 : decode cL_read 231 = .ok (.ladd, 1) := by decide +kernel
theorem dL_read_232 : decode cL_read 232 = .ok (.aload_n 0, 1) := by decide +kernel
theorem dL_read_233 : decode cL_read 233 = .ok (.iload_n 1, 1) := by decide +kernel
theorem dL_read_234 : decode cL_read 234 = .ok (.iload 6, 2) := by decide +kernel
theorem dL_read_236 : decode cL_read 236 = .ok (.iconst 2, 1) := by decide +kernel
theorem dL_read_237 : decode cL_read 237 = .ok (.iadd, 1) := by decide +kernel
theorem dL_read_238 : decode cL_read 238 = .ok (.invokestatic 119, 3) := by decide +kernel
theorem dL_read_241 : decode cL_read 241 = .ok (.ldc2_w 184, 3) := by decide +kernel
theorem dL_read_244 : decode cL_read 244 = .ok (.lcmp, 1) := by decide +kernel
theorem dL_read_245 : decode cL_read 245 = .ok (.ifCond .ne 7, 3) := by decide +kernel
theorem dL_read_248 : decode cL_read 248 = .ok (.lconst 1, 1) := by decide +kernel
theorem dL_read_249 : decode cL_read 249 = .ok (.goto 4, 3) := by decide +kernel
theorem dL_read_252 : decode cL_read 252 = .ok (.lconst 0, 1) := by decide +kernel
theorem dL_read_253 : decode cL_read 253 = .ok (.ladd, 1) := by decide +kernel
theorem dL_read_254 : decode cL_read 254 = .ok (.lreturn, 1) := by decide +kernel
theorem dL_kept_0 : decode cL_kept 0 = .ok (.aload_n 0, 1) := by decide +kernel
theorem dL_kept_1 : decode cL_kept 1 = .ok (.iconst 0, 1) := by decide +kernel
theorem dL_kept_2 : decode cL_kept 2 = .ok (.invokestatic 103, 3) := by decide +kernel
theorem dL_kept_5 : decode cL_kept 5 = .ok (.l2i, 1) := by decide +kernel
theorem dL_kept_6 : decode cL_kept 6 = .ok (.istore_n 1, 1) := by decide +kernel
theorem dL_kept_7 : decode cL_kept 7 = .ok (.aload_n 0, 1) := by decide +kernel
theorem dL_kept_8 : decode cL_kept 8 = .ok (.iconst 1, 1) := by decide +kernel
theorem dL_kept_9 : decode cL_kept 9 = .ok (.invokestatic 103, 3) := by decide +kernel
theorem dL_kept_12 : decode cL_kept 12 = .ok (.l2i, 1) := by decide +kernel
theorem dL_kept_13 : decode cL_kept 13 = .ok (.istore_n 2, 1) := by decide +kernel
theorem dL_kept_14 : decode cL_kept 14 = .ok (.lconst 0, 1) := by decide +kernel
theorem dL_kept_15 : decode cL_kept 15 = .ok (.lstore_n 3, 1) := by decide +kernel
theorem dL_kept_16 : decode cL_kept 16 = .ok (.lconst 0, 1) := by decide +kernel
theorem dL_kept_17 : decode cL_kept 17 = .ok (.lstore 5, 2) := by decide +kernel
theorem dL_kept_19 : decode cL_kept 19 = .ok (.lconst 0, 1) := by decide +kernel
theorem dL_kept_20 : decode cL_kept 20 = .ok (.lstore 7, 2) := by decide +kernel
theorem dL_kept_22 : decode cL_kept 22 = .ok (.lconst 0, 1) := by decide +kernel
theorem dL_kept_23 : decode cL_kept 23 = .ok (.lstore 9, 2) := by decide +kernel
theorem dL_kept_25 : decode cL_kept 25 = .ok (.iconst 0, 1) := by decide +kernel
theorem dL_kept_26 : decode cL_kept 26 = .ok (.istore 11, 2) := by decide +kernel
theorem dL_kept_28 : decode cL_kept 28 = .ok (.iload_n 1, 1) := by decide +kernel
theorem dL_kept_29 : decode cL_kept 29 = .ok (.i2l, 1) := by decide +kernel
theorem dL_kept_30 : decode cL_kept 30 = .ok (.lconst 0, 1) := by decide +kernel
theorem dL_kept_31 : decode cL_kept 31 = .ok (.ldc2_w 186, 3) := by decide +kernel
theorem dL_kept_34 : decode cL_kept 34 = .ok (.invokestatic 164, 3) := by decide +kernel
theorem dL_kept_37 : decode cL_kept 37 = .ok (.ifCond .eq 19, 3) := by decide +kernel
theorem dL_kept_40 : decode cL_kept 40 = .ok (.iload_n 2, 1) := by decide +kernel
theorem dL_kept_41 : decode cL_kept 41 = .ok (.i2l, 1) := by decide +kernel
theorem dL_kept_42 : decode cL_kept 42 = .ok (.lconst 0, 1) := by decide +kernel
theorem dL_kept_43 : decode cL_kept 43 = .ok (.ldc2_w 188, 3) := by decide +kernel
theorem dL_kept_46 : decode cL_kept 46 = .ok (.invokestatic 164, 3) := by decide +kernel
theorem dL_kept_49 : decode cL_kept 49 = .ok (.ifCond .eq 7, 3) := by decide +kernel
theorem dL_kept_52 : decode cL_kept 52 = .ok (.iconst 1, 1) := by decide +kernel
theorem dL_kept_53 : decode cL_kept 53 = .ok (.goto 4, 3) := by decide +kernel
theorem dL_kept_56 : decode cL_kept 56 = .ok (.iconst 0, 1) := by decide +kernel
theorem dL_kept_57 : decode cL_kept 57 = .ok (.istore 12, 2) := by decide +kernel
theorem dL_kept_59 : decode cL_kept 59 = .ok (.iconst 0, 1) := by decide +kernel
theorem dL_kept_60 : decode cL_kept 60 = .ok (.istore 13, 2) := by decide +kernel
theorem dL_kept_62 : decode cL_kept 62 = .ok (.iload 13, 2) := by decide +kernel
theorem dL_kept_64 : decode cL_kept 64 = .ok (.iload_n 1, 1) := by decide +kernel
theorem dL_kept_65 : decode cL_kept 65 = .ok (.if_icmp .ge 417, 3) := by decide +kernel
theorem dL_kept_68 : decode cL_kept 68 = .ok (.iload 12, 2) := by decide +kernel
theorem dL_kept_70 : decode cL_kept 70 = .ok (.ifCond .eq 412, 3) := by decide +kernel
theorem dL_kept_73 : decode cL_kept 73 = .ok (.aload_n 0, 1) := by decide +kernel
theorem dL_kept_74 : decode cL_kept 74 = .ok (.iload 13, 2) := by decide +kernel
theorem dL_kept_76 : decode cL_kept 76 = .ok (.iconst 0, 1) := by decide +kernel
theorem dL_kept_77 : decode cL_kept 77 = .ok (.invokestatic 110, 3) := by decide +kernel
theorem dL_kept_80 : decode cL_kept 80 = .ok (.lstore 14, 2) := by decide +kernel
theorem dL_kept_82 : decode cL_kept 82 = .ok (.aload_n 0, 1) := by decide +kernel
theorem dL_kept_83 : decode cL_kept 83 = .ok (.iload 13, 2) := by decide +kernel
theorem dL_kept_85 : decode cL_kept 85 = .ok (.iconst 1, 1) := by decide +kernel
theorem dL_kept_86 : decode cL_kept 86 = .ok (.invokestatic 110, 3) := by decide +kernel
theorem dL_kept_89 : decode cL_kept 89 = .ok (.lstore 16, 2) := by decide +kernel
theorem dL_kept_91 : decode cL_kept 91 = .ok (.aload_n 0, 1) := by decide +kernel
theorem dL_kept_92 : decode cL_kept 92 = .ok (.iload 13, 2) := by decide +kernel
theorem dL_kept_94 : decode cL_kept 94 = .ok (.bipush 6, 2) := by decide +kernel
theorem dL_kept_96 : decode cL_kept 96 = .ok (.invokestatic 110, 3) := by decide +kernel
theorem dL_kept_99 : decode cL_kept 99 = .ok (.lconst 1, 1) := by decide +kernel
theorem dL_kept_100 : decode cL_kept 100 = .ok (.lcmp, 1) := by decide +kernel
theorem dL_kept_101 : decode cL_kept 101 = .ok (.ifCond .ne 7, 3) := by decide +kernel
theorem dL_kept_104 : decode cL_kept 104 = .ok (.iconst 1, 1) := by decide +kernel
theorem dL_kept_105 : decode cL_kept 105 = .ok (.goto 4, 3) := by decide +kernel
theorem dL_kept_108 : decode cL_kept 108 = .ok (.iconst 0, 1) := by decide +kernel
theorem dL_kept_109 : decode cL_kept 109 = .ok (.istore 18, 2) := by decide +kernel
theorem dL_kept_111 : decode cL_kept 111 = .ok (.iload 18, 2) := by decide +kernel
theorem dL_kept_113 : decode cL_kept 113 = .ok (.ifCond .ne 20, 3) := by decide +kernel
theorem dL_kept_116 : decode cL_kept 116 = .ok (.lload 16, 2) := by decide +kernel
theorem dL_kept_118 : decode cL_kept 118 = .ok (.aload_n 0, 1) := by decide +kernel
theorem dL_kept_119 : decode cL_kept 119 = .ok (.iload 13, 2) := by decide +kernel
theorem dL_kept_121 : decode cL_kept 121 = .ok (.iconst 2, 1) := by decide +kernel
theorem dL_kept_122 : decode cL_kept 122 = .ok (.invokestatic 110, 3) := by decide +kernel
theorem dL_kept_125 : decode cL_kept 125 = .ok (.lcmp, 1) := by decide +kernel
theorem dL_kept_126 : decode cL_kept 126 = .ok (.ifCond .ge 7, 3) := by decide +kernel
theorem dL_kept_129 : decode cL_kept 129 = .ok (.iconst 1, 1) := by decide +kernel
theorem dL_kept_130 : decode cL_kept 130 = .ok (.goto 4, 3) := by decide +kernel
theorem dL_kept_133 : decode cL_kept 133 = .ok (.iconst 0, 1) := by decide +kernel
theorem dL_kept_134 : decode cL_kept 134 = .ok (.istore 19, 2) := by decide +kernel
theorem dL_kept_136 : decode cL_kept 136 = .ok (.lload_n 3, 1) := by decide +kernel
theorem dL_kept_137 : decode cL_kept 137 = .ok (.aload_n 0, 1) := by decide +kernel
theorem dL_kept_138 : decode cL_kept 138 = .ok (.iload 13, 2) := by decide +kernel
theorem dL_kept_140 : decode cL_kept 140 = .ok (.bipush 6, 2) := by decide +kernel
theorem dL_kept_142 : decode cL_kept 142 = .ok (.invokestatic 110, 3) := by decide +kernel
theorem dL_kept_145 : decode cL_kept 145 = .ok (.ladd, 1) := by decide +kernel
theorem dL_kept_146 : decode cL_kept 146 = .ok (.lstore_n 3, 1) := by decide +kernel
theorem dL_kept_147 : decode cL_kept 147 = .ok (.lload 5, 2) := by decide +kernel
theorem dL_kept_149 : decode cL_kept 149 = .ok (.iload 19, 2) := by decide +kernel
theorem dL_kept_151 : decode cL_kept 151 = .ok (.ifCond .eq 7, 3) := by decide +kernel
theorem dL_kept_154 : decode cL_kept 154 = .ok (.lconst 1, 1) := by decide +kernel
theorem dL_kept_155 : decode cL_kept 155 = .ok (.goto 4, 3) := by decide +kernel
theorem dL_kept_158 : decode cL_kept 158 = .ok (.lconst 0, 1) := by decide +kernel
theorem dL_kept_159 : decode cL_kept 159 = .ok (.ladd, 1) := by decide +kernel
theorem dL_kept_160 : decode cL_kept 160 = .ok (.lstore 5, 2) := by decide +kernel
theorem dL_kept_162 : decode cL_kept 162 = .ok (.lload 7, 2) := by decide +kernel
theorem dL_kept_164 : decode cL_kept 164 = .ok (.lload 16, 2) := by decide +kernel
theorem dL_kept_166 : decode cL_kept 166 = .ok (.ladd, 1) := by decide +kernel
theorem dL_kept_167 : decode cL_kept 167 = .ok (.lstore 7, 2) := by decide +kernel
theorem dL_kept_169 : decode cL_kept 169 = .ok (.lload 9, 2) := by decide +kernel
theorem dL_kept_171 : decode cL_kept 171 = .ok (.aload_n 0, 1) := by decide +kernel
theorem dL_kept_172 : decode cL_kept 172 = .ok (.iload 13, 2) := by decide +kernel
theorem dL_kept_174 : decode cL_kept 174 = .ok (.bipush 7, 2) := by decide +kernel
theorem dL_kept_176 : decode cL_kept 176 = .ok (.invokestatic 110, 3) := by decide +kernel
theorem dL_kept_179 : decode cL_kept 179 = .ok (.ladd, 1) := by decide +kernel
theorem dL_kept_180 : decode cL_kept 180 = .ok (.lstore 9, 2) := by decide +kernel
theorem dL_kept_182 : decode cL_kept 182 = .ok (.aload_n 0, 1) := by decide +kernel
theorem dL_kept_183 : decode cL_kept 183 = .ok (.iload 13, 2) := by decide +kernel
theorem dL_kept_185 : decode cL_kept 185 = .ok (.bipush 8, 2) := by decide +kernel
theorem dL_kept_187 : decode cL_kept 187 = .ok (.invokestatic 110, 3) := by decide +kernel
theorem dL_kept_190 : decode cL_kept 190 = .ok (.l2i, 1) := by decide +kernel
theorem dL_kept_191 : decode cL_kept 191 = .ok (.istore 20, 2) := by decide +kernel
theorem dL_kept_193 : decode cL_kept 193 = .ok (.lload 14, 2) := by decide +kernel
theorem dL_kept_195 : decode cL_kept 195 = .ok (.ldc2_w 168, 3) := by decide +kernel
theorem dL_kept_198 : decode cL_kept 198 = .ok (.ldc2_w 190, 3) := by decide +kernel
theorem dL_kept_201 : decode cL_kept 201 = .ok (.invokestatic 164, 3) := by decide +kernel
theorem dL_kept_204 : decode cL_kept 204 = .ok (.ifCond .eq 178, 3) := by decide +kernel
theorem dL_kept_207 : decode cL_kept 207 = .ok (.lload 16, 2) := by decide +kernel
theorem dL_kept_209 : decode cL_kept 209 = .ok (.lconst 0, 1) := by decide +kernel
theorem dL_kept_210 : decode cL_kept 210 = .ok (.lload 14, 2) := by decide +kernel
theorem dL_kept_212 : decode cL_kept 212 = .ok (.invokestatic 164, 3) := by decide +kernel
theorem dL_kept_215 : decode cL_kept 215 = .ok (.ifCond .eq 167, 3) := by decide +kernel
theorem dL_kept_218 : decode cL_kept 218 = .ok (.aload_n 0, 1) := by decide +kernel
theorem dL_kept_219 : decode cL_kept 219 = .ok (.iload 13, 2) := by decide +kernel
theorem dL_kept_221 : decode cL_kept 221 = .ok (.iconst 2, 1) := by decide +kernel
theorem dL_kept_222 : decode cL_kept 222 = .ok (.invokestatic 110, 3) := by decide +kernel
theorem dL_kept_225 : decode cL_kept 225 = .ok (.lconst 1, 1) := by decide +kernel
theorem dL_kept_226 : decode cL_kept 226 = .ok (.ldc2_w 190, 3) := by decide +kernel
theorem dL_kept_229 : decode cL_kept 229 = .ok (.invokestatic 164, 3) := by decide +kernel
theorem dL_kept_232 : decode cL_kept 232 = .ok (.ifCond .eq 150, 3) := by decide +kernel
theorem dL_kept_235 : decode cL_kept 235 = .ok (.aload_n 0, 1) := by decide +kernel
theorem dL_kept_236 : decode cL_kept 236 = .ok (.iload 13, 2) := by decide +kernel
theorem dL_kept_238 : decode cL_kept 238 = .ok (.iconst 3, 1) := by decide +kernel
theorem dL_kept_239 : decode cL_kept 239 = .ok (.invokestatic 110, 3) := by decide +kernel
theorem dL_kept_242 : decode cL_kept 242 = .ok (.aload_n 0, 1) := by decide +kernel
theorem dL_kept_243 : decode cL_kept 243 = .ok (.iload 13, 2) := by decide +kernel
theorem dL_kept_245 : decode cL_kept 245 = .ok (.iconst 4, 1) := by decide +kernel
theorem dL_kept_246 : decode cL_kept 246 = .ok (.invokestatic 110, 3) := by decide +kernel
theorem dL_kept_249 : decode cL_kept 249 = .ok (.lcmp, 1) := by decide +kernel
theorem dL_kept_250 : decode cL_kept 250 = .ok (.ifCond .eq 132, 3) := by decide +kernel
theorem dL_kept_253 : decode cL_kept 253 = .ok (.aload_n 0, 1) := by decide +kernel
theorem dL_kept_254 : decode cL_kept 254 = .ok (.iload 13, 2) := by decide +kernel
theorem dL_kept_256 : decode cL_kept 256 = .ok (.bipush 9, 2) := by decide +kernel
theorem dL_kept_258 : decode cL_kept 258 = .ok (.invokestatic 110, 3) := by decide +kernel
theorem dL_kept_261 : decode cL_kept 261 = .ok (.lconst 1, 1) := by decide +kernel
theorem dL_kept_262 : decode cL_kept 262 = .ok (.ldc2_w 192, 3) := by decide +kernel
theorem dL_kept_265 : decode cL_kept 265 = .ok (.invokestatic 164, 3) := by decide +kernel
theorem dL_kept_268 : decode cL_kept 268 = .ok (.ifCond .eq 114, 3) := by decide +kernel
theorem dL_kept_271 : decode cL_kept 271 = .ok (.aload_n 0, 1) := by decide +kernel
theorem dL_kept_272 : decode cL_kept 272 = .ok (.iload 13, 2) := by decide +kernel
theorem dL_kept_274 : decode cL_kept 274 = .ok (.bipush 9, 2) := by decide +kernel
theorem dL_kept_276 : decode cL_kept 276 = .ok (.invokestatic 110, 3) := by decide +kernel
theorem dL_kept_279 : decode cL_kept 279 = .ok (.aload_n 0, 1) := by decide +kernel
theorem dL_kept_280 : decode cL_kept 280 = .ok (.iconst 2, 1) := by decide +kernel
theorem dL_kept_281 : decode cL_kept 281 = .ok (.invokestatic 103, 3) := by decide +kernel
theorem dL_kept_284 : decode cL_kept 284 = .ok (.ladd, 1) := by decide +kernel
theorem dL_kept_285 : decode cL_kept 285 = .ok (.ldc2_w 192, 3) := by decide +kernel
theorem dL_kept_288 : decode cL_kept 288 = .ok (.lrem, 1) := by decide +kernel
theorem dL_kept_289 : decode cL_kept 289 = .ok (.aload_n 0, 1) := by decide +kernel
theorem dL_kept_290 : decode cL_kept 290 = .ok (.iload 13, 2) := by decide +kernel
theorem dL_kept_292 : decode cL_kept 292 = .ok (.iconst 3, 1) := by decide +kernel
theorem dL_kept_293 : decode cL_kept 293 = .ok (.invokestatic 110, 3) := by decide +kernel
theorem dL_kept_296 : decode cL_kept 296 = .ok (.lcmp, 1) := by decide +kernel
theorem dL_kept_297 : decode cL_kept 297 = .ok (.ifCond .ne 85, 3) := by decide +kernel
theorem dL_kept_300 : decode cL_kept 300 = .ok (.aload_n 0, 1) := by decide +kernel
theorem dL_kept_301 : decode cL_kept 301 = .ok (.iload 13, 2) := by decide +kernel
theorem dL_kept_303 : decode cL_kept 303 = .ok (.bipush 7, 2) := by decide +kernel
theorem dL_kept_305 : decode cL_kept 305 = .ok (.invokestatic 110, 3) := by decide +kernel
theorem dL_kept_308 : decode cL_kept 308 = .ok (.lconst 0, 1) := by decide +kernel
theorem dL_kept_309 : decode cL_kept 309 = .ok (.lcmp, 1) := by decide +kernel
theorem dL_kept_310 : decode cL_kept 310 = .ok (.ifCond .lt 72, 3) := by decide +kernel
theorem dL_kept_313 : decode cL_kept 313 = .ok (.iload 20, 2) := by decide +kernel
theorem dL_kept_315 : decode cL_kept 315 = .ok (.iconst (-1), 1) := by decide +kernel
theorem dL_kept_316 : decode cL_kept 316 = .ok (.if_icmp .ne 19, 3) := by decide +kernel
theorem dL_kept_319 : decode cL_kept 319 = .ok (.aload_n 0, 1) := by decide +kernel
theorem dL_kept_320 : decode cL_kept 320 = .ok (.iload 13, 2) := by decide +kernel
theorem dL_kept_322 : decode cL_kept 322 = .ok (.bipush 7, 2) := by decide +kernel
theorem dL_kept_324 : decode cL_kept 324 = .ok (.invokestatic 110, 3) := by decide +kernel
theorem dL_kept_327 : decode cL_kept 327 = .ok (.lconst 0, 1) := by decide +kernel
theorem dL_kept_328 : decode cL_kept 328 = .ok (.lcmp, 1) := by decide +kernel
theorem dL_kept_329 : decode cL_kept 329 = .ok (.ifCond .ne 53, 3) := by decide +kernel
theorem dL_kept_332 : decode cL_kept 332 = .ok (.goto 46, 3) := by decide +kernel
theorem dL_kept_335 : decode cL_kept 335 = .ok (.aload_n 0, 1) := by decide +kernel
theorem dL_kept_336 : decode cL_kept 336 = .ok (.iload 20, 2) := by decide +kernel
theorem dL_kept_338 : decode cL_kept 338 = .ok (.iconst 2, 1) := by decide +kernel
theorem dL_kept_339 : decode cL_kept 339 = .ok (.invokestatic 113, 3) := by decide +kernel
theorem dL_kept_342 : decode cL_kept 342 = .ok (.iload 13, 2) := by decide +kernel
theorem dL_kept_344 : decode cL_kept 344 = .ok (.i2l, 1) := by decide +kernel
theorem dL_kept_345 : decode cL_kept 345 = .ok (.lcmp, 1) := by decide +kernel
theorem dL_kept_346 : decode cL_kept 346 = .ok (.ifCond .ne 36, 3) := by decide +kernel
theorem dL_kept_349 : decode cL_kept 349 = .ok (.aload_n 0, 1) := by decide +kernel
theorem dL_kept_350 : decode cL_kept 350 = .ok (.iload 13, 2) := by decide +kernel
theorem dL_kept_352 : decode cL_kept 352 = .ok (.bipush 7, 2) := by decide +kernel
theorem dL_kept_354 : decode cL_kept 354 = .ok (.invokestatic 110, 3) := by decide +kernel
theorem dL_kept_357 : decode cL_kept 357 = .ok (.aload_n 0, 1) := by decide +kernel
theorem dL_kept_358 : decode cL_kept 358 = .ok (.iload 20, 2) := by decide +kernel
theorem dL_kept_360 : decode cL_kept 360 = .ok (.iconst 0, 1) := by decide +kernel
theorem dL_kept_361 : decode cL_kept 361 = .ok (.invokestatic 113, 3) := by decide +kernel
theorem dL_kept_364 : decode cL_kept 364 = .ok (.lcmp, 1) := by decide +kernel
theorem dL_kept_365 : decode cL_kept 365 = .ok (.ifCond .gt 17, 3) := by decide +kernel
theorem dL_kept_368 : decode cL_kept 368 = .ok (.iload 11, 2) := by decide +kernel
theorem dL_kept_370 : decode cL_kept 370 = .ok (.iload 20, 2) := by decide +kernel
theorem dL_kept_372 : decode cL_kept 372 = .ok (.ishr, 1) := by decide +kernel
theorem dL_kept_373 : decode cL_kept 373 = .ok (.iconst 1, 1) := by decide +kernel
theorem dL_kept_374 : decode cL_kept 374 = .ok (.iand, 1) := by decide +kernel
theorem dL_kept_375 : decode cL_kept 375 = .ok (.ifCond .ne 7, 3) := by decide +kernel
theorem dL_kept_378 : decode cL_kept 378 = .ok (.iconst 1, 1) := by decide +kernel
theorem dL_kept_379 : decode cL_kept 379 = .ok (.goto 4, 3) := by decide +kernel
theorem dL_kept_382 : decode cL_kept 382 = .ok (.iconst 0, 1) := by decide +kernel
theorem dL_kept_383 : decode cL_kept 383 = .ok (.istore 12, 2) := by decide +kernel
theorem dL_kept_385 : decode cL_kept 385 = .ok (.iload 11, 2) := by decide +kernel
theorem dL_kept_387 : decode cL_kept 387 = .ok (.iload 20, 2) := by decide +kernel
theorem dL_kept_389 : decode cL_kept 389 = .ok (.iconst (-1), 1) := by decide +kernel
theorem dL_kept_390 : decode cL_kept 390 = .ok (.if_icmp .ne 7, 3) := by decide +kernel
theorem dL_kept_393 : decode cL_kept 393 = .ok (.iconst 0, 1) := by decide +kernel
theorem dL_kept_394 : decode cL_kept 394 = .ok (.goto 7, 3) := by decide +kernel
theorem dL_kept_397 : decode cL_kept 397 = .ok (.iconst 1, 1) := by decide +kernel
theorem dL_kept_398 : decode cL_kept 398 = .ok (.iload 20, 2) := by decide +kernel
theorem dL_kept_400 : decode cL_kept 400 = .ok (.ishl, 1) := by decide +kernel
theorem dL_kept_401 : decode cL_kept 401 = .ok (.ior, 1) := by decide +kernel
theorem dL_kept_402 : decode cL_kept 402 = .ok (.istore 11, 2) := by decide +kernel
theorem dL_kept_404 : decode cL_kept 404 = .ok (.iload 12, 2) := by decide +kernel
theorem dL_kept_406 : decode cL_kept 406 = .ok (.ifCond .eq 67, 3) := by decide +kernel
theorem dL_kept_409 : decode cL_kept 409 = .ok (.aload_n 0, 1) := by decide +kernel
theorem dL_kept_410 : decode cL_kept 410 = .ok (.iload 13, 2) := by decide +kernel
theorem dL_kept_412 : decode cL_kept 412 = .ok (.invokestatic 194, 3) := by decide +kernel
theorem dL_kept_415 : decode cL_kept 415 = .ok (.ldc2_w 180, 3) := by decide +kernel
theorem dL_kept_418 : decode cL_kept 418 = .ok (.lload 16, 2) := by decide +kernel
theorem dL_kept_420 : decode cL_kept 420 = .ok (.lmul, 1) := by decide +kernel
theorem dL_kept_421 : decode cL_kept 421 = .ok (.ldc2_w 182, 3) := by decide +kernel
theorem dL_kept_424 : decode cL_kept 424 = .ok (.lload 14, 2) := by decide +kernel
theorem dL_kept_426 : decode cL_kept 426 = .ok (.lmul, 1) := by decide +kernel
theorem dL_kept_427 : decode cL_kept 427 = .ok (.ladd, 1) := by decide +kernel
theorem dL_kept_428 : decode cL_kept 428 = .ok (.iload 18, 2) := by decide +kernel
theorem dL_kept_430 : decode cL_kept 430 = .ok (.ifCond .eq 8, 3) := by decide +kernel
theorem dL_kept_433 : decode cL_kept 433 = .ok (.bipush 111, 2) := by decide +kernel
theorem dL_kept_435 : decode cL_kept 435 = .ok (.goto 28, 3) := by decide +kernel
theorem dL_kept_438 : decode cL_kept 438 = .ok (.iload 19, 2) := by decide +kernel
theorem dL_kept_440 : decode cL_kept 440 = .ok (.ifCond .eq 8, 3) := by decide +kernel
theorem dL_kept_443 : decode cL_kept 443 = .ok (.bipush 108, 2) := by decide +kernel
theorem dL_kept_445 : decode cL_kept 445 = .ok (.goto 18, 3) := by decide +kernel
theorem dL_kept_448 : decode cL_kept 448 = .ok (.lload 16, 2) := by decide +kernel
theorem dL_kept_450 : decode cL_kept 450 = .ok (.lload 14, 2) := by decide +kernel
theorem dL_kept_452 : decode cL_kept 452 = .ok (.lcmp, 1) := by decide +kernel
theorem dL_kept_453 : decode cL_kept 453 = .ok (.ifCond .ne 8, 3) := by decide +kernel
theorem dL_kept_456 : decode cL_kept 456 = .ok (.bipush 102, 2) := by decide +kernel
theorem dL_kept_458 : decode cL_kept 458 = .ok (.goto 5, 3) := by decide +kernel
theorem dL_kept_461 : decode cL_kept 461 = .ok (.bipush 112, 2) := by decide +kernel
theorem dL_kept_463 : decode cL_kept 463 = .ok (.i2l, 1) := by decide +kernel
theorem dL_kept_464 : decode cL_kept 464 = .ok (.ladd, 1) := by decide +kernel
theorem dL_kept_465 : decode cL_kept 465 = .ok (.lcmp, 1) := by decide +kernel
theorem dL_kept_466 : decode cL_kept 466 = .ok (.ifCond .ne 7, 3) := by decide +kernel
theorem dL_kept_469 : decode cL_kept 469 = .ok (.iconst 1, 1) := by decide +kernel
theorem dL_kept_470 : decode cL_kept 470 = .ok (.goto 4, 3) := by decide +kernel
theorem dL_kept_473 : decode cL_kept 473 = .ok (.iconst 0, 1) := by decide +kernel
theorem dL_kept_474 : decode cL_kept 474 = .ok (.istore 12, 2) := by decide +kernel
theorem dL_kept_476 : decode cL_kept 476 = .ok (.iinc 13 1, 3) := by decide +kernel
theorem dL_kept_479 : decode cL_kept 479 = .ok (.goto (-417), 3) := by decide +kernel
theorem dL_kept_482 : decode cL_kept 482 = .ok (.iconst 0, 1) := by decide +kernel
theorem dL_kept_483 : decode cL_kept 483 = .ok (.istore 13, 2) := by decide +kernel
theorem dL_kept_485 : decode cL_kept 485 = .ok (.iconst 0, 1) := by decide +kernel
theorem dL_kept_486 : decode cL_kept 486 = .ok (.istore 14, 2) := by decide +kernel
theorem dL_kept_488 : decode cL_kept 488 = .ok (.iload 14, 2) := by decide +kernel
theorem dL_kept_490 : decode cL_kept 490 = .ok (.iload_n 2, 1) := by decide +kernel
theorem dL_kept_491 : decode cL_kept 491 = .ok (.if_icmp .ge 231, 3) := by decide +kernel
theorem dL_kept_494 : decode cL_kept 494 = .ok (.iload 12, 2) := by decide +kernel
theorem dL_kept_496 : decode cL_kept 496 = .ok (.ifCond .eq 226, 3) := by decide +kernel
theorem dL_kept_499 : decode cL_kept 499 = .ok (.aload_n 0, 1) := by decide +kernel
theorem dL_kept_500 : decode cL_kept 500 = .ok (.iload 14, 2) := by decide +kernel
theorem dL_kept_502 : decode cL_kept 502 = .ok (.iconst 1, 1) := by decide +kernel
theorem dL_kept_503 : decode cL_kept 503 = .ok (.invokestatic 113, 3) := by decide +kernel
theorem dL_kept_506 : decode cL_kept 506 = .ok (.l2i, 1) := by decide +kernel
theorem dL_kept_507 : decode cL_kept 507 = .ok (.istore 15, 2) := by decide +kernel
theorem dL_kept_509 : decode cL_kept 509 = .ok (.aload_n 0, 1) := by decide +kernel
theorem dL_kept_510 : decode cL_kept 510 = .ok (.iload 14, 2) := by decide +kernel
theorem dL_kept_512 : decode cL_kept 512 = .ok (.iconst 2, 1) := by decide +kernel
theorem dL_kept_513 : decode cL_kept 513 = .ok (.invokestatic 113, 3) := by decide +kernel
theorem dL_kept_516 : decode cL_kept 516 = .ok (.ldc2_w 178, 3) := by decide +kernel
theorem dL_kept_519 : decode cL_kept 519 = .ok (.lcmp, 1) := by decide +kernel
theorem dL_kept_520 : decode cL_kept 520 = .ok (.ifCond .eq 7, 3) := by decide +kernel
theorem dL_kept_523 : decode cL_kept 523 = .ok (.iconst 1, 1) := by decide +kernel
theorem dL_kept_524 : decode cL_kept 524 = .ok (.goto 4, 3) := by decide +kernel
theorem dL_kept_527 : decode cL_kept 527 = .ok (.iconst 0, 1) := by decide +kernel
theorem dL_kept_528 : decode cL_kept 528 = .ok (.istore 16, 2) := by decide +kernel
theorem dL_kept_530 : decode cL_kept 530 = .ok (.iload 15, 2) := by decide +kernel
theorem dL_kept_532 : decode cL_kept 532 = .ok (.i2l, 1) := by decide +kernel
theorem dL_kept_533 : decode cL_kept 533 = .ok (.lconst 0, 1) := by decide +kernel
theorem dL_kept_534 : decode cL_kept 534 = .ok (.iload_n 2, 1) := by decide +kernel
theorem dL_kept_535 : decode cL_kept 535 = .ok (.iconst 1, 1) := by decide +kernel
theorem dL_kept_536 : decode cL_kept 536 = .ok (.isub, 1) := by decide +kernel
theorem dL_kept_537 : decode cL_kept 537 = .ok (.i2l, 1) := by decide +kernel
theorem dL_kept_538 : decode cL_kept 538 = .ok (.invokestatic 164, 3) := by decide +kernel
theorem dL_kept_541 : decode cL_kept 541 = .ok (.ifCond .eq 38, 3) := by decide +kernel
theorem dL_kept_544 : decode cL_kept 544 = .ok (.iload 13, 2) := by decide +kernel
theorem dL_kept_546 : decode cL_kept 546 = .ok (.iload 15, 2) := by decide +kernel
theorem dL_kept_548 : decode cL_kept 548 = .ok (.ishr, 1) := by decide +kernel
theorem dL_kept_549 : decode cL_kept 549 = .ok (.iconst 1, 1) := by decide +kernel
theorem dL_kept_550 : decode cL_kept 550 = .ok (.iand, 1) := by decide +kernel
theorem dL_kept_551 : decode cL_kept 551 = .ok (.ifCond .ne 28, 3) := by decide +kernel
theorem dL_kept_554 : decode cL_kept 554 = .ok (.iload 16, 2) := by decide +kernel
theorem dL_kept_556 : decode cL_kept 556 = .ok (.iload 11, 2) := by decide +kernel
theorem dL_kept_558 : decode cL_kept 558 = .ok (.iload 14, 2) := by decide +kernel
theorem dL_kept_560 : decode cL_kept 560 = .ok (.ishr, 1) := by decide +kernel
theorem dL_kept_561 : decode cL_kept 561 = .ok (.iconst 1, 1) := by decide +kernel
theorem dL_kept_562 : decode cL_kept 562 = .ok (.iand, 1) := by decide +kernel
theorem dL_kept_563 : decode cL_kept 563 = .ok (.iconst 1, 1) := by decide +kernel
theorem dL_kept_564 : decode cL_kept 564 = .ok (.if_icmp .ne 7, 3) := by decide +kernel
theorem dL_kept_567 : decode cL_kept 567 = .ok (.iconst 1, 1) := by decide +kernel
theorem dL_kept_568 : decode cL_kept 568 = .ok (.goto 4, 3) := by decide +kernel
theorem dL_kept_571 : decode cL_kept 571 = .ok (.iconst 0, 1) := by decide +kernel
theorem dL_kept_572 : decode cL_kept 572 = .ok (.if_icmp .ne 7, 3) := by decide +kernel
theorem dL_kept_575 : decode cL_kept 575 = .ok (.iconst 1, 1) := by decide +kernel
theorem dL_kept_576 : decode cL_kept 576 = .ok (.goto 4, 3) := by decide +kernel
theorem dL_kept_579 : decode cL_kept 579 = .ok (.iconst 0, 1) := by decide +kernel
theorem dL_kept_580 : decode cL_kept 580 = .ok (.istore 12, 2) := by decide +kernel
theorem dL_kept_582 : decode cL_kept 582 = .ok (.iload 13, 2) := by decide +kernel
theorem dL_kept_584 : decode cL_kept 584 = .ok (.iconst 1, 1) := by decide +kernel
theorem dL_kept_585 : decode cL_kept 585 = .ok (.iload 15, 2) := by decide +kernel
theorem dL_kept_587 : decode cL_kept 587 = .ok (.ishl, 1) := by decide +kernel
theorem dL_kept_588 : decode cL_kept 588 = .ok (.ior, 1) := by decide +kernel
theorem dL_kept_589 : decode cL_kept 589 = .ok (.istore 13, 2) := by decide +kernel
theorem dL_kept_591 : decode cL_kept 591 = .ok (.iconst 0, 1) := by decide +kernel
theorem dL_kept_592 : decode cL_kept 592 = .ok (.istore 17, 2) := by decide +kernel
theorem dL_kept_594 : decode cL_kept 594 = .ok (.iload 17, 2) := by decide +kernel
theorem dL_kept_596 : decode cL_kept 596 = .ok (.iload_n 2, 1) := by decide +kernel
theorem dL_kept_597 : decode cL_kept 597 = .ok (.if_icmp .ge 119, 3) := by decide +kernel
theorem dL_kept_600 : decode cL_kept 600 = .ok (.iload 12, 2) := by decide +kernel
theorem dL_kept_602 : decode cL_kept 602 = .ok (.ifCond .eq 114, 3) := by decide +kernel
theorem dL_kept_605 : decode cL_kept 605 = .ok (.aload_n 0, 1) := by decide +kernel
theorem dL_kept_606 : decode cL_kept 606 = .ok (.iload 17, 2) := by decide +kernel
theorem dL_kept_608 : decode cL_kept 608 = .ok (.iconst 0, 1) := by decide +kernel
theorem dL_kept_609 : decode cL_kept 609 = .ok (.invokestatic 113, 3) := by decide +kernel
theorem dL_kept_612 : decode cL_kept 612 = .ok (.aload_n 0, 1) := by decide +kernel
theorem dL_kept_613 : decode cL_kept 613 = .ok (.iload 14, 2) := by decide +kernel
theorem dL_kept_615 : decode cL_kept 615 = .ok (.iconst 0, 1) := by decide +kernel
theorem dL_kept_616 : decode cL_kept 616 = .ok (.invokestatic 113, 3) := by decide +kernel
theorem dL_kept_619 : decode cL_kept 619 = .ok (.lcmp, 1) := by decide +kernel
theorem dL_kept_620 : decode cL_kept 620 = .ok (.ifCond .gt 28, 3) := by decide +kernel
theorem dL_kept_623 : decode cL_kept 623 = .ok (.aload_n 0, 1) := by decide +kernel
theorem dL_kept_624 : decode cL_kept 624 = .ok (.iload 17, 2) := by decide +kernel
theorem dL_kept_626 : decode cL_kept 626 = .ok (.iconst 0, 1) := by decide +kernel
theorem dL_kept_627 : decode cL_kept 627 = .ok (.invokestatic 113, 3) := by decide +kernel
theorem dL_kept_630 : decode cL_kept 630 = .ok (.aload_n 0, 1) := by decide +kernel
theorem dL_kept_631 : decode cL_kept 631 = .ok (.iload 14, 2) := by decide +kernel
theorem dL_kept_633 : decode cL_kept 633 = .ok (.iconst 0, 1) := by decide +kernel
theorem dL_kept_634 : decode cL_kept 634 = .ok (.invokestatic 113, 3) := by decide +kernel
theorem dL_kept_637 : decode cL_kept 637 = .ok (.lcmp, 1) := by decide +kernel
theorem dL_kept_638 : decode cL_kept 638 = .ok (.ifCond .ne 14, 3) := by decide +kernel
theorem dL_kept_641 : decode cL_kept 641 = .ok (.iload 17, 2) := by decide +kernel
theorem dL_kept_643 : decode cL_kept 643 = .ok (.iload 14, 2) := by decide +kernel
theorem dL_kept_645 : decode cL_kept 645 = .ok (.if_icmp .ge 7, 3) := by decide +kernel
theorem dL_kept_648 : decode cL_kept 648 = .ok (.iconst 1, 1) := by decide +kernel
theorem dL_kept_649 : decode cL_kept 649 = .ok (.goto 4, 3) := by decide +kernel
theorem dL_kept_652 : decode cL_kept 652 = .ok (.iconst 0, 1) := by decide +kernel
theorem dL_kept_653 : decode cL_kept 653 = .ok (.istore 18, 2) := by decide +kernel
theorem dL_kept_655 : decode cL_kept 655 = .ok (.iload 18, 2) := by decide +kernel
theorem dL_kept_657 : decode cL_kept 657 = .ok (.aload_n 0, 1) := by decide +kernel
theorem dL_kept_658 : decode cL_kept 658 = .ok (.iload 17, 2) := by decide +kernel
theorem dL_kept_660 : decode cL_kept 660 = .ok (.iconst 1, 1) := by decide +kernel
theorem dL_kept_661 : decode cL_kept 661 = .ok (.invokestatic 113, 3) := by decide +kernel
theorem dL_kept_664 : decode cL_kept 664 = .ok (.iload 15, 2) := by decide +kernel
theorem dL_kept_666 : decode cL_kept 666 = .ok (.i2l, 1) := by decide +kernel
theorem dL_kept_667 : decode cL_kept 667 = .ok (.lcmp, 1) := by decide +kernel
theorem dL_kept_668 : decode cL_kept 668 = .ok (.ifCond .ge 7, 3) := by decide +kernel
theorem dL_kept_671 : decode cL_kept 671 = .ok (.iconst 1, 1) := by decide +kernel
theorem dL_kept_672 : decode cL_kept 672 = .ok (.goto 4, 3) := by decide +kernel
theorem dL_kept_675 : decode cL_kept 675 = .ok (.iconst 0, 1) := by decide +kernel
theorem dL_kept_676 : decode cL_kept 676 = .ok (.if_icmp .ne 31, 3) := by decide +kernel
theorem dL_kept_679 : decode cL_kept 679 = .ok (.iload 18, 2) := by decide +kernel
theorem dL_kept_681 : decode cL_kept 681 = .ok (.ifCond .eq 22, 3) := by decide +kernel
theorem dL_kept_684 : decode cL_kept 684 = .ok (.iload 16, 2) := by decide +kernel
theorem dL_kept_686 : decode cL_kept 686 = .ok (.ifCond .eq 17, 3) := by decide +kernel
theorem dL_kept_689 : decode cL_kept 689 = .ok (.aload_n 0, 1) := by decide +kernel
theorem dL_kept_690 : decode cL_kept 690 = .ok (.iload 17, 2) := by decide +kernel
theorem dL_kept_692 : decode cL_kept 692 = .ok (.iconst 2, 1) := by decide +kernel
theorem dL_kept_693 : decode cL_kept 693 = .ok (.invokestatic 113, 3) := by decide +kernel
theorem dL_kept_696 : decode cL_kept 696 = .ok (.ldc2_w 178, 3) := by decide +kernel
theorem dL_kept_699 : decode cL_kept 699 = .ok (.lcmp, 1) := by decide +kernel
theorem dL_kept_700 : decode cL_kept 700 = .ok (.ifCond .eq 7, 3) := by decide +kernel
theorem dL_kept_703 : decode cL_kept 703 = .ok (.iconst 1, 1) := by decide +kernel
theorem dL_kept_704 : decode cL_kept 704 = .ok (.goto 4, 3) := by decide +kernel
theorem dL_kept_707 : decode cL_kept 707 = .ok (.iconst 0, 1) := by decide +kernel
theorem dL_kept_708 : decode cL_kept 708 = .ok (.istore 12, 2) := by decide +kernel
theorem dL_kept_710 : decode cL_kept 710 = .ok (.iinc 17 1, 3) := by decide +kernel
theorem dL_kept_713 : decode cL_kept 713 = .ok (.goto (-119), 3) := by decide +kernel
theorem dL_kept_716 : decode cL_kept 716 = .ok (.iinc 14 1, 3) := by decide +kernel
theorem dL_kept_719 : decode cL_kept 719 = .ok (.goto (-231), 3) := by decide +kernel
theorem dL_kept_722 : decode cL_kept 722 = .ok (.iload 12, 2) := by decide +kernel
theorem dL_kept_724 : decode cL_kept 724 = .ok (.ifCond .eq 65, 3) := by decide +kernel
theorem dL_kept_727 : decode cL_kept 727 = .ok (.lload_n 3, 1) := by decide +kernel
theorem dL_kept_728 : decode cL_kept 728 = .ok (.aload_n 0, 1) := by decide +kernel
theorem dL_kept_729 : decode cL_kept 729 = .ok (.bipush 7, 2) := by decide +kernel
theorem dL_kept_731 : decode cL_kept 731 = .ok (.invokestatic 103, 3) := by decide +kernel
theorem dL_kept_734 : decode cL_kept 734 = .ok (.lcmp, 1) := by decide +kernel
theorem dL_kept_735 : decode cL_kept 735 = .ok (.ifCond .ne 54, 3) := by decide +kernel
theorem dL_kept_738 : decode cL_kept 738 = .ok (.lload 5, 2) := by decide +kernel
theorem dL_kept_740 : decode cL_kept 740 = .ok (.aload_n 0, 1) := by decide +kernel
theorem dL_kept_741 : decode cL_kept 741 = .ok (.bipush 8, 2) := by decide +kernel
theorem dL_kept_743 : decode cL_kept 743 = .ok (.invokestatic 103, 3) := by decide +kernel
theorem dL_kept_746 : decode cL_kept 746 = .ok (.lcmp, 1) := by decide +kernel
theorem dL_kept_747 : decode cL_kept 747 = .ok (.ifCond .ne 42, 3) := by decide +kernel
theorem dL_kept_750 : decode cL_kept 750 = .ok (.lload 7, 2) := by decide +kernel
theorem dL_kept_752 : decode cL_kept 752 = .ok (.aload_n 0, 1) := by decide +kernel
theorem dL_kept_753 : decode cL_kept 753 = .ok (.bipush 10, 2) := by decide +kernel
theorem dL_kept_755 : decode cL_kept 755 = .ok (.invokestatic 103, 3) := by decide +kernel
theorem dL_kept_758 : decode cL_kept 758 = .ok (.lcmp, 1) := by decide +kernel
theorem dL_kept_759 : decode cL_kept 759 = .ok (.ifCond .ne 30, 3) := by decide +kernel
theorem dL_kept_762 : decode cL_kept 762 = .ok (.lload 9, 2) := by decide +kernel
theorem dL_kept_764 : decode cL_kept 764 = .ok (.aload_n 0, 1) := by decide +kernel
theorem dL_kept_765 : decode cL_kept 765 = .ok (.iconst 0, 1) := by decide +kernel
theorem dL_kept_766 : decode cL_kept 766 = .ok (.invokestatic 108, 3) := by decide +kernel
theorem dL_kept_769 : decode cL_kept 769 = .ok (.lcmp, 1) := by decide +kernel
theorem dL_kept_770 : decode cL_kept 770 = .ok (.ifCond .gt 19, 3) := by decide +kernel
theorem dL_kept_773 : decode cL_kept 773 = .ok (.aload_n 0, 1) := by decide +kernel
theorem dL_kept_774 : decode cL_kept 774 = .ok (.iconst 1, 1) := by decide +kernel
theorem dL_kept_775 : decode cL_kept 775 = .ok (.iconst 1, 1) := by decide +kernel
theorem dL_kept_776 : decode cL_kept 776 = .ok (.invokestatic 137, 3) := by decide +kernel
theorem dL_kept_779 : decode cL_kept 779 = .ok (.lload 9, 2) := by decide +kernel
theorem dL_kept_781 : decode cL_kept 781 = .ok (.lcmp, 1) := by decide +kernel
theorem dL_kept_782 : decode cL_kept 782 = .ok (.ifCond .ne 7, 3) := by decide +kernel
theorem dL_kept_785 : decode cL_kept 785 = .ok (.iconst 1, 1) := by decide +kernel
theorem dL_kept_786 : decode cL_kept 786 = .ok (.goto 4, 3) := by decide +kernel
theorem dL_kept_789 : decode cL_kept 789 = .ok (.iconst 0, 1) := by decide +kernel
theorem dL_kept_790 : decode cL_kept 790 = .ok (.ireturn, 1) := by decide +kernel
theorem dL_follows_0 : decode cL_follows 0 = .ok (.aload_n 0, 1) := by decide +kernel
theorem dL_follows_1 : decode cL_follows 1 = .ok (.invokestatic 115, 3) := by decide +kernel
theorem dL_follows_4 : decode cL_follows 4 = .ok (.lstore_n 2, 1) := by decide +kernel
theorem dL_follows_5 : decode cL_follows 5 = .ok (.aload_n 0, 1) := by decide +kernel
theorem dL_follows_6 : decode cL_follows 6 = .ok (.iconst 2, 1) := by decide +kernel
theorem dL_follows_7 : decode cL_follows 7 = .ok (.invokestatic 103, 3) := by decide +kernel
theorem dL_follows_10 : decode cL_follows 10 = .ok (.lstore 4, 2) := by decide +kernel
theorem dL_follows_12 : decode cL_follows 12 = .ok (.aload_n 0, 1) := by decide +kernel
theorem dL_follows_13 : decode cL_follows 13 = .ok (.iconst 3, 1) := by decide +kernel
theorem dL_follows_14 : decode cL_follows 14 = .ok (.invokestatic 103, 3) := by decide +kernel
theorem dL_follows_17 : decode cL_follows 17 = .ok (.lstore 6, 2) := by decide +kernel
theorem dL_follows_19 : decode cL_follows 19 = .ok (.aload_n 0, 1) := by decide +kernel
theorem dL_follows_20 : decode cL_follows 20 = .ok (.iconst 4, 1) := by decide +kernel
theorem dL_follows_21 : decode cL_follows 21 = .ok (.invokestatic 103, 3) := by decide +kernel
theorem dL_follows_24 : decode cL_follows 24 = .ok (.lstore 8, 2) := by decide +kernel
theorem dL_follows_26 : decode cL_follows 26 = .ok (.aload_n 0, 1) := by decide +kernel
theorem dL_follows_27 : decode cL_follows 27 = .ok (.iconst 5, 1) := by decide +kernel
theorem dL_follows_28 : decode cL_follows 28 = .ok (.invokestatic 103, 3) := by decide +kernel
theorem dL_follows_31 : decode cL_follows 31 = .ok (.lstore 10, 2) := by decide +kernel
theorem dL_follows_33 : decode cL_follows 33 = .ok (.aload_n 0, 1) := by decide +kernel
theorem dL_follows_34 : decode cL_follows 34 = .ok (.bipush 6, 2) := by decide +kernel
theorem dL_follows_36 : decode cL_follows 36 = .ok (.invokestatic 103, 3) := by decide +kernel
theorem dL_follows_39 : decode cL_follows 39 = .ok (.lstore 12, 2) := by decide +kernel
theorem dL_follows_41 : decode cL_follows 41 = .ok (.aload_n 0, 1) := by decide +kernel
theorem dL_follows_42 : decode cL_follows 42 = .ok (.iconst 0, 1) := by decide +kernel
theorem dL_follows_43 : decode cL_follows 43 = .ok (.invokestatic 103, 3) := by decide +kernel
theorem dL_follows_46 : decode cL_follows 46 = .ok (.l2i, 1) := by decide +kernel
theorem dL_follows_47 : decode cL_follows 47 = .ok (.istore 14, 2) := by decide +kernel
theorem dL_follows_49 : decode cL_follows 49 = .ok (.iconst 1, 1) := by decide +kernel
theorem dL_follows_50 : decode cL_follows 50 = .ok (.iload_n 1, 1) := by decide +kernel
theorem dL_follows_51 : decode cL_follows 51 = .ok (.bipush 24, 2) := by decide +kernel
theorem dL_follows_53 : decode cL_follows 53 = .ok (.irem, 1) := by decide +kernel
theorem dL_follows_54 : decode cL_follows 54 = .ok (.iadd, 1) := by decide +kernel
theorem dL_follows_55 : decode cL_follows 55 = .ok (.istore 15, 2) := by decide +kernel
theorem dL_follows_57 : decode cL_follows 57 = .ok (.aload_n 0, 1) := by decide +kernel
theorem dL_follows_58 : decode cL_follows 58 = .ok (.iconst 1, 1) := by decide +kernel
theorem dL_follows_59 : decode cL_follows 59 = .ok (.invokestatic 154, 3) := by decide +kernel
theorem dL_follows_62 : decode cL_follows 62 = .ok (.lload 4, 2) := by decide +kernel
theorem dL_follows_64 : decode cL_follows 64 = .ok (.lcmp, 1) := by decide +kernel
theorem dL_follows_65 : decode cL_follows 65 = .ok (.ifCond .ne 34, 3) := by decide +kernel
theorem dL_follows_68 : decode cL_follows 68 = .ok (.aload_n 0, 1) := by decide +kernel
theorem dL_follows_69 : decode cL_follows 69 = .ok (.iload_n 1, 1) := by decide +kernel
theorem dL_follows_70 : decode cL_follows 70 = .ok (.i2l, 1) := by decide +kernel
theorem dL_follows_71 : decode cL_follows 71 = .ok (.iconst 5, 1) := by decide +kernel
theorem dL_follows_72 : decode cL_follows 72 = .ok (.invokestatic 151, 3) := by decide +kernel
theorem dL_follows_75 : decode cL_follows 75 = .ok (.aload_n 0, 1) := by decide +kernel
theorem dL_follows_76 : decode cL_follows 76 = .ok (.iload_n 1, 1) := by decide +kernel
theorem dL_follows_77 : decode cL_follows 77 = .ok (.i2l, 1) := by decide +kernel
theorem dL_follows_78 : decode cL_follows 78 = .ok (.iconst 5, 1) := by decide +kernel
theorem dL_follows_79 : decode cL_follows 79 = .ok (.invokestatic 151, 3) := by decide +kernel
theorem dL_follows_82 : decode cL_follows 82 = .ok (.lcmp, 1) := by decide +kernel
theorem dL_follows_83 : decode cL_follows 83 = .ok (.ifCond .ne 16, 3) := by decide +kernel
theorem dL_follows_86 : decode cL_follows 86 = .ok (.aload_n 0, 1) := by decide +kernel
theorem dL_follows_87 : decode cL_follows 87 = .ok (.invokestatic 115, 3) := by decide +kernel
theorem dL_follows_90 : decode cL_follows 90 = .ok (.lload_n 2, 1) := by decide +kernel
theorem dL_follows_91 : decode cL_follows 91 = .ok (.lcmp, 1) := by decide +kernel
theorem dL_follows_92 : decode cL_follows 92 = .ok (.ifCond .ne 7, 3) := by decide +kernel
theorem dL_follows_95 : decode cL_follows 95 = .ok (.iconst 1, 1) := by decide +kernel
theorem dL_follows_96 : decode cL_follows 96 = .ok (.goto 4, 3) := by decide +kernel
theorem dL_follows_99 : decode cL_follows 99 = .ok (.iconst 0, 1) := by decide +kernel
theorem dL_follows_100 : decode cL_follows 100 = .ok (.istore 16, 2) := by decide +kernel
theorem dL_follows_102 : decode cL_follows 102 = .ok (.aload_n 0, 1) := by decide +kernel
theorem dL_follows_103 : decode cL_follows 103 = .ok (.iload 15, 2) := by decide +kernel
theorem dL_follows_105 : decode cL_follows 105 = .ok (.iconst 0, 1) := by decide +kernel
theorem dL_follows_106 : decode cL_follows 106 = .ok (.invokestatic 137, 3) := by decide +kernel
theorem dL_follows_109 : decode cL_follows 109 = .ok (.lstore 17, 2) := by decide +kernel
theorem dL_follows_111 : decode cL_follows 111 = .ok (.aload_n 0, 1) := by decide +kernel
theorem dL_follows_112 : decode cL_follows 112 = .ok (.iload 15, 2) := by decide +kernel
theorem dL_follows_114 : decode cL_follows 114 = .ok (.iconst 1, 1) := by decide +kernel
theorem dL_follows_115 : decode cL_follows 115 = .ok (.invokestatic 137, 3) := by decide +kernel
theorem dL_follows_118 : decode cL_follows 118 = .ok (.lstore 19, 2) := by decide +kernel
theorem dL_follows_120 : decode cL_follows 120 = .ok (.aload_n 0, 1) := by decide +kernel
theorem dL_follows_121 : decode cL_follows 121 = .ok (.iload 15, 2) := by decide +kernel
theorem dL_follows_123 : decode cL_follows 123 = .ok (.iconst 2, 1) := by decide +kernel
theorem dL_follows_124 : decode cL_follows 124 = .ok (.invokestatic 137, 3) := by decide +kernel
theorem dL_follows_127 : decode cL_follows 127 = .ok (.lstore 21, 2) := by decide +kernel
theorem dL_follows_129 : decode cL_follows 129 = .ok (.aload_n 0, 1) := by decide +kernel
theorem dL_follows_130 : decode cL_follows 130 = .ok (.iload 15, 2) := by decide +kernel
theorem dL_follows_132 : decode cL_follows 132 = .ok (.iconst 3, 1) := by decide +kernel
theorem dL_follows_133 : decode cL_follows 133 = .ok (.invokestatic 137, 3) := by decide +kernel
theorem dL_follows_136 : decode cL_follows 136 = .ok (.lstore 23, 2) := by decide +kernel
theorem dL_follows_138 : decode cL_follows 138 = .ok (.iload 16, 2) := by decide +kernel
theorem dL_follows_140 : decode cL_follows 140 = .ok (.ifCond .eq 109, 3) := by decide +kernel
theorem dL_follows_143 : decode cL_follows 143 = .ok (.aload_n 0, 1) := by decide +kernel
theorem dL_follows_144 : decode cL_follows 144 = .ok (.iload 15, 2) := by decide +kernel
theorem dL_follows_146 : decode cL_follows 146 = .ok (.invokestatic 133, 3) := by decide +kernel
theorem dL_follows_149 : decode cL_follows 149 = .ok (.lload 19, 2) := by decide +kernel
theorem dL_follows_151 : decode cL_follows 151 = .ok (.lcmp, 1) := by decide +kernel
theorem dL_follows_152 : decode cL_follows 152 = .ok (.ifCond .ne 97, 3) := by decide +kernel
theorem dL_follows_155 : decode cL_follows 155 = .ok (.aload_n 0, 1) := by decide +kernel
theorem dL_follows_156 : decode cL_follows 156 = .ok (.iconst 2, 1) := by decide +kernel
theorem dL_follows_157 : decode cL_follows 157 = .ok (.invokestatic 103, 3) := by decide +kernel
theorem dL_follows_160 : decode cL_follows 160 = .ok (.lload 4, 2) := by decide +kernel
theorem dL_follows_162 : decode cL_follows 162 = .ok (.iload 15, 2) := by decide +kernel
theorem dL_follows_164 : decode cL_follows 164 = .ok (.i2l, 1) := by decide +kernel
theorem dL_follows_165 : decode cL_follows 165 = .ok (.ladd, 1) := by decide +kernel
theorem dL_follows_166 : decode cL_follows 166 = .ok (.lcmp, 1) := by decide +kernel
theorem dL_follows_167 : decode cL_follows 167 = .ok (.ifCond .ne 82, 3) := by decide +kernel
theorem dL_follows_170 : decode cL_follows 170 = .ok (.aload_n 0, 1) := by decide +kernel
theorem dL_follows_171 : decode cL_follows 171 = .ok (.iconst 3, 1) := by decide +kernel
theorem dL_follows_172 : decode cL_follows 172 = .ok (.invokestatic 103, 3) := by decide +kernel
theorem dL_follows_175 : decode cL_follows 175 = .ok (.lload 6, 2) := by decide +kernel
theorem dL_follows_177 : decode cL_follows 177 = .ok (.lload 17, 2) := by decide +kernel
theorem dL_follows_179 : decode cL_follows 179 = .ok (.ladd, 1) := by decide +kernel
theorem dL_follows_180 : decode cL_follows 180 = .ok (.lcmp, 1) := by decide +kernel
theorem dL_follows_181 : decode cL_follows 181 = .ok (.ifCond .ne 68, 3) := by decide +kernel
theorem dL_follows_184 : decode cL_follows 184 = .ok (.aload_n 0, 1) := by decide +kernel
theorem dL_follows_185 : decode cL_follows 185 = .ok (.iconst 4, 1) := by decide +kernel
theorem dL_follows_186 : decode cL_follows 186 = .ok (.invokestatic 103, 3) := by decide +kernel
theorem dL_follows_189 : decode cL_follows 189 = .ok (.lload 8, 2) := by decide +kernel
theorem dL_follows_191 : decode cL_follows 191 = .ok (.lload 19, 2) := by decide +kernel
theorem dL_follows_193 : decode cL_follows 193 = .ok (.ladd, 1) := by decide +kernel
theorem dL_follows_194 : decode cL_follows 194 = .ok (.lcmp, 1) := by decide +kernel
theorem dL_follows_195 : decode cL_follows 195 = .ok (.ifCond .ne 54, 3) := by decide +kernel
theorem dL_follows_198 : decode cL_follows 198 = .ok (.aload_n 0, 1) := by decide +kernel
theorem dL_follows_199 : decode cL_follows 199 = .ok (.iconst 5, 1) := by decide +kernel
theorem dL_follows_200 : decode cL_follows 200 = .ok (.invokestatic 103, 3) := by decide +kernel
theorem dL_follows_203 : decode cL_follows 203 = .ok (.lload 10, 2) := by decide +kernel
theorem dL_follows_205 : decode cL_follows 205 = .ok (.lload 21, 2) := by decide +kernel
theorem dL_follows_207 : decode cL_follows 207 = .ok (.ladd, 1) := by decide +kernel
theorem dL_follows_208 : decode cL_follows 208 = .ok (.lcmp, 1) := by decide +kernel
theorem dL_follows_209 : decode cL_follows 209 = .ok (.ifCond .ne 40, 3) := by decide +kernel
theorem dL_follows_212 : decode cL_follows 212 = .ok (.aload_n 0, 1) := by decide +kernel
theorem dL_follows_213 : decode cL_follows 213 = .ok (.bipush 6, 2) := by decide +kernel
theorem dL_follows_215 : decode cL_follows 215 = .ok (.invokestatic 103, 3) := by decide +kernel
theorem dL_follows_218 : decode cL_follows 218 = .ok (.lload 12, 2) := by decide +kernel
theorem dL_follows_220 : decode cL_follows 220 = .ok (.lload 23, 2) := by decide +kernel
theorem dL_follows_222 : decode cL_follows 222 = .ok (.ladd, 1) := by decide +kernel
theorem dL_follows_223 : decode cL_follows 223 = .ok (.lcmp, 1) := by decide +kernel
theorem dL_follows_224 : decode cL_follows 224 = .ok (.ifCond .ne 25, 3) := by decide +kernel
theorem dL_follows_227 : decode cL_follows 227 = .ok (.aload_n 0, 1) := by decide +kernel
theorem dL_follows_228 : decode cL_follows 228 = .ok (.invokestatic 197, 3) := by decide +kernel
theorem dL_follows_231 : decode cL_follows 231 = .ok (.lconst 0, 1) := by decide +kernel
theorem dL_follows_232 : decode cL_follows 232 = .ok (.lcmp, 1) := by decide +kernel
theorem dL_follows_233 : decode cL_follows 233 = .ok (.ifCond .lt 16, 3) := by decide +kernel
theorem dL_follows_236 : decode cL_follows 236 = .ok (.aload_n 0, 1) := by decide +kernel
theorem dL_follows_237 : decode cL_follows 237 = .ok (.invokestatic 115, 3) := by decide +kernel
theorem dL_follows_240 : decode cL_follows 240 = .ok (.lload_n 2, 1) := by decide +kernel
theorem dL_follows_241 : decode cL_follows 241 = .ok (.lcmp, 1) := by decide +kernel
theorem dL_follows_242 : decode cL_follows 242 = .ok (.ifCond .ne 7, 3) := by decide +kernel
theorem dL_follows_245 : decode cL_follows 245 = .ok (.iconst 1, 1) := by decide +kernel
theorem dL_follows_246 : decode cL_follows 246 = .ok (.goto 4, 3) := by decide +kernel
theorem dL_follows_249 : decode cL_follows 249 = .ok (.iconst 0, 1) := by decide +kernel
theorem dL_follows_250 : decode cL_follows 250 = .ok (.istore 16, 2) := by decide +kernel
theorem dL_follows_252 : decode cL_follows 252 = .ok (.iconst 0, 1) := by decide +kernel
theorem dL_follows_253 : decode cL_follows 253 = .ok (.istore 25, 2) := by decide +kernel
theorem dL_follows_255 : decode cL_follows 255 = .ok (.iconst 0, 1) := by decide +kernel
theorem dL_follows_256 : decode cL_follows 256 = .ok (.istore 26, 2) := by decide +kernel
theorem dL_follows_258 : decode cL_follows 258 = .ok (.iload 26, 2) := by decide +kernel
theorem dL_follows_260 : decode cL_follows 260 = .ok (.iload 14, 2) := by decide +kernel
theorem dL_follows_262 : decode cL_follows 262 = .ok (.if_icmp .ge 140, 3) := by decide +kernel
theorem dL_follows_265 : decode cL_follows 265 = .ok (.iload 16, 2) := by decide +kernel
theorem dL_follows_267 : decode cL_follows 267 = .ok (.ifCond .eq 135, 3) := by decide +kernel
theorem dL_follows_270 : decode cL_follows 270 = .ok (.aload_n 0, 1) := by decide +kernel
theorem dL_follows_271 : decode cL_follows 271 = .ok (.iload 26, 2) := by decide +kernel
theorem dL_follows_273 : decode cL_follows 273 = .ok (.invokestatic 139, 3) := by decide +kernel
theorem dL_follows_276 : decode cL_follows 276 = .ok (.lstore 27, 2) := by decide +kernel
theorem dL_follows_278 : decode cL_follows 278 = .ok (.iload 25, 2) := by decide +kernel
theorem dL_follows_280 : decode cL_follows 280 = .ok (.ifCond .ne 24, 3) := by decide +kernel
theorem dL_follows_283 : decode cL_follows 283 = .ok (.lload 27, 2) := by decide +kernel
theorem dL_follows_285 : decode cL_follows 285 = .ok (.ldc2_w 178, 3) := by decide +kernel
theorem dL_follows_288 : decode cL_follows 288 = .ok (.lcmp, 1) := by decide +kernel
theorem dL_follows_289 : decode cL_follows 289 = .ok (.ifCond .eq 19, 3) := by decide +kernel
theorem dL_follows_292 : decode cL_follows 292 = .ok (.lload 27, 2) := by decide +kernel
theorem dL_follows_294 : decode cL_follows 294 = .ok (.lload 4, 2) := by decide +kernel
theorem dL_follows_296 : decode cL_follows 296 = .ok (.iload 15, 2) := by decide +kernel
theorem dL_follows_298 : decode cL_follows 298 = .ok (.i2l, 1) := by decide +kernel
theorem dL_follows_299 : decode cL_follows 299 = .ok (.ladd, 1) := by decide +kernel
theorem dL_follows_300 : decode cL_follows 300 = .ok (.lcmp, 1) := by decide +kernel
theorem dL_follows_301 : decode cL_follows 301 = .ok (.ifCond .ge 7, 3) := by decide +kernel
theorem dL_follows_304 : decode cL_follows 304 = .ok (.iconst 1, 1) := by decide +kernel
theorem dL_follows_305 : decode cL_follows 305 = .ok (.goto 4, 3) := by decide +kernel
theorem dL_follows_308 : decode cL_follows 308 = .ok (.iconst 0, 1) := by decide +kernel
theorem dL_follows_309 : decode cL_follows 309 = .ok (.istore 25, 2) := by decide +kernel
theorem dL_follows_311 : decode cL_follows 311 = .ok (.lload 27, 2) := by decide +kernel
theorem dL_follows_313 : decode cL_follows 313 = .ok (.ldc2_w 178, 3) := by decide +kernel
theorem dL_follows_316 : decode cL_follows 316 = .ok (.lcmp, 1) := by decide +kernel
theorem dL_follows_317 : decode cL_follows 317 = .ok (.ifCond .eq 72, 3) := by decide +kernel
theorem dL_follows_320 : decode cL_follows 320 = .ok (.lload 27, 2) := by decide +kernel
theorem dL_follows_322 : decode cL_follows 322 = .ok (.lload 4, 2) := by decide +kernel
theorem dL_follows_324 : decode cL_follows 324 = .ok (.lload 4, 2) := by decide +kernel
theorem dL_follows_326 : decode cL_follows 326 = .ok (.ldc2_w 199, 3) := by decide +kernel
theorem dL_follows_329 : decode cL_follows 329 = .ok (.ladd, 1) := by decide +kernel
theorem dL_follows_330 : decode cL_follows 330 = .ok (.invokestatic 164, 3) := by decide +kernel
theorem dL_follows_333 : decode cL_follows 333 = .ok (.ifCond .eq 60, 3) := by decide +kernel
theorem dL_follows_336 : decode cL_follows 336 = .ok (.aload_n 0, 1) := by decide +kernel
theorem dL_follows_337 : decode cL_follows 337 = .ok (.lload 27, 2) := by decide +kernel
theorem dL_follows_339 : decode cL_follows 339 = .ok (.lload 4, 2) := by decide +kernel
theorem dL_follows_341 : decode cL_follows 341 = .ok (.lsub, 1) := by decide +kernel
theorem dL_follows_342 : decode cL_follows 342 = .ok (.l2i, 1) := by decide +kernel
theorem dL_follows_343 : decode cL_follows 343 = .ok (.iconst 1, 1) := by decide +kernel
theorem dL_follows_344 : decode cL_follows 344 = .ok (.iadd, 1) := by decide +kernel
theorem dL_follows_345 : decode cL_follows 345 = .ok (.iconst 2, 1) := by decide +kernel
theorem dL_follows_346 : decode cL_follows 346 = .ok (.invokestatic 137, 3) := by decide +kernel
theorem dL_follows_349 : decode cL_follows 349 = .ok (.lconst 0, 1) := by decide +kernel
theorem dL_follows_350 : decode cL_follows 350 = .ok (.lcmp, 1) := by decide +kernel
theorem dL_follows_351 : decode cL_follows 351 = .ok (.ifCond .le 42, 3) := by decide +kernel
theorem dL_follows_354 : decode cL_follows 354 = .ok (.lload 27, 2) := by decide +kernel
theorem dL_follows_356 : decode cL_follows 356 = .ok (.lload 4, 2) := by decide +kernel
theorem dL_follows_358 : decode cL_follows 358 = .ok (.lsub, 1) := by decide +kernel
theorem dL_follows_359 : decode cL_follows 359 = .ok (.ldc2_w 192, 3) := by decide +kernel
theorem dL_follows_362 : decode cL_follows 362 = .ok (.lrem, 1) := by decide +kernel
theorem dL_follows_363 : decode cL_follows 363 = .ok (.aload_n 0, 1) := by decide +kernel
theorem dL_follows_364 : decode cL_follows 364 = .ok (.iload 26, 2) := by decide +kernel
theorem dL_follows_366 : decode cL_follows 366 = .ok (.iconst 3, 1) := by decide +kernel
theorem dL_follows_367 : decode cL_follows 367 = .ok (.invokestatic 110, 3) := by decide +kernel
theorem dL_follows_370 : decode cL_follows 370 = .ok (.ldc2_w 192, 3) := by decide +kernel
theorem dL_follows_373 : decode cL_follows 373 = .ok (.ladd, 1) := by decide +kernel
theorem dL_follows_374 : decode cL_follows 374 = .ok (.lload 4, 2) := by decide +kernel
theorem dL_follows_376 : decode cL_follows 376 = .ok (.ldc2_w 192, 3) := by decide +kernel
theorem dL_follows_379 : decode cL_follows 379 = .ok (.lrem, 1) := by decide +kernel
theorem dL_follows_380 : decode cL_follows 380 = .ok (.lsub, 1) := by decide +kernel
theorem dL_follows_381 : decode cL_follows 381 = .ok (.ldc2_w 192, 3) := by decide +kernel
theorem dL_follows_384 : decode cL_follows 384 = .ok (.lrem, 1) := by decide +kernel
theorem dL_follows_385 : decode cL_follows 385 = .ok (.lcmp, 1) := by decide +kernel
theorem dL_follows_386 : decode cL_follows 386 = .ok (.ifCond .ne 7, 3) := by decide +kernel
theorem dL_follows_389 : decode cL_follows 389 = .ok (.iconst 1, 1) := by decide +kernel
theorem dL_follows_390 : decode cL_follows 390 = .ok (.goto 4, 3) := by decide +kernel
theorem dL_follows_393 : decode cL_follows 393 = .ok (.iconst 0, 1) := by decide +kernel
theorem dL_follows_394 : decode cL_follows 394 = .ok (.istore 16, 2) := by decide +kernel
theorem dL_follows_396 : decode cL_follows 396 = .ok (.iinc 26 1, 3) := by decide +kernel
theorem dL_follows_399 : decode cL_follows 399 = .ok (.goto (-141), 3) := by decide +kernel
theorem dL_follows_402 : decode cL_follows 402 = .ok (.iload 16, 2) := by decide +kernel
theorem dL_follows_404 : decode cL_follows 404 = .ok (.ifCond .eq 24, 3) := by decide +kernel
theorem dL_follows_407 : decode cL_follows 407 = .ok (.iload 25, 2) := by decide +kernel
theorem dL_follows_409 : decode cL_follows 409 = .ok (.lload 21, 2) := by decide +kernel
theorem dL_follows_411 : decode cL_follows 411 = .ok (.lconst 0, 1) := by decide +kernel
theorem dL_follows_412 : decode cL_follows 412 = .ok (.lcmp, 1) := by decide +kernel
theorem dL_follows_413 : decode cL_follows 413 = .ok (.ifCond .le 7, 3) := by decide +kernel
theorem dL_follows_416 : decode cL_follows 416 = .ok (.iconst 1, 1) := by decide +kernel
theorem dL_follows_417 : decode cL_follows 417 = .ok (.goto 4, 3) := by decide +kernel
theorem dL_follows_420 : decode cL_follows 420 = .ok (.iconst 0, 1) := by decide +kernel
theorem dL_follows_421 : decode cL_follows 421 = .ok (.if_icmp .ne 7, 3) := by decide +kernel
theorem dL_follows_424 : decode cL_follows 424 = .ok (.iconst 1, 1) := by decide +kernel
theorem dL_follows_425 : decode cL_follows 425 = .ok (.goto 4, 3) := by decide +kernel
theorem dL_follows_428 : decode cL_follows 428 = .ok (.iconst 0, 1) := by decide +kernel
theorem dL_follows_429 : decode cL_follows 429 = .ok (.istore 16, 2) := by decide +kernel
theorem dL_follows_431 : decode cL_follows 431 = .ok (.aload_n 0, 1) := by decide +kernel
theorem dL_follows_432 : decode cL_follows 432 = .ok (.iload 15, 2) := by decide +kernel
theorem dL_follows_434 : decode cL_follows 434 = .ok (.invokestatic 141, 3) := by decide +kernel
theorem dL_follows_437 : decode cL_follows 437 = .ok (.l2i, 1) := by decide +kernel
theorem dL_follows_438 : decode cL_follows 438 = .ok (.istore 26, 2) := by decide +kernel
theorem dL_follows_440 : decode cL_follows 440 = .ok (.iload 26, 2) := by decide +kernel
theorem dL_follows_442 : decode cL_follows 442 = .ok (.iconst (-1), 1) := by decide +kernel
theorem dL_follows_443 : decode cL_follows 443 = .ok (.if_icmp .eq 101, 3) := by decide +kernel
theorem dL_follows_446 : decode cL_follows 446 = .ok (.iload 16, 2) := by decide +kernel
theorem dL_follows_448 : decode cL_follows 448 = .ok (.ifCond .eq 96, 3) := by decide +kernel
theorem dL_follows_451 : decode cL_follows 451 = .ok (.aload_n 0, 1) := by decide +kernel
theorem dL_follows_452 : decode cL_follows 452 = .ok (.iconst 0, 1) := by decide +kernel
theorem dL_follows_453 : decode cL_follows 453 = .ok (.iload 26, 2) := by decide +kernel
theorem dL_follows_455 : decode cL_follows 455 = .ok (.invokestatic 135, 3) := by decide +kernel
theorem dL_follows_458 : decode cL_follows 458 = .ok (.lconst 0, 1) := by decide +kernel
theorem dL_follows_459 : decode cL_follows 459 = .ok (.lcmp, 1) := by decide +kernel
theorem dL_follows_460 : decode cL_follows 460 = .ok (.ifCond .lt 78, 3) := by decide +kernel
theorem dL_follows_463 : decode cL_follows 463 = .ok (.aload_n 0, 1) := by decide +kernel
theorem dL_follows_464 : decode cL_follows 464 = .ok (.iload 15, 2) := by decide +kernel
theorem dL_follows_466 : decode cL_follows 466 = .ok (.iconst 2, 1) := by decide +kernel
theorem dL_follows_467 : decode cL_follows 467 = .ok (.invokestatic 137, 3) := by decide +kernel
theorem dL_follows_470 : decode cL_follows 470 = .ok (.lconst 0, 1) := by decide +kernel
theorem dL_follows_471 : decode cL_follows 471 = .ok (.lcmp, 1) := by decide +kernel
theorem dL_follows_472 : decode cL_follows 472 = .ok (.ifCond .ne 66, 3) := by decide +kernel
theorem dL_follows_475 : decode cL_follows 475 = .ok (.aload_n 0, 1) := by decide +kernel
theorem dL_follows_476 : decode cL_follows 476 = .ok (.invokestatic 197, 3) := by decide +kernel
theorem dL_follows_479 : decode cL_follows 479 = .ok (.lconst 0, 1) := by decide +kernel
theorem dL_follows_480 : decode cL_follows 480 = .ok (.lcmp, 1) := by decide +kernel
theorem dL_follows_481 : decode cL_follows 481 = .ok (.ifCond .lt 57, 3) := by decide +kernel
theorem dL_follows_484 : decode cL_follows 484 = .ok (.iload 26, 2) := by decide +kernel
theorem dL_follows_486 : decode cL_follows 486 = .ok (.ifCond .eq 39, 3) := by decide +kernel
theorem dL_follows_489 : decode cL_follows 489 = .ok (.aload_n 0, 1) := by decide +kernel
theorem dL_follows_490 : decode cL_follows 490 = .ok (.iconst 0, 1) := by decide +kernel
theorem dL_follows_491 : decode cL_follows 491 = .ok (.iload 26, 2) := by decide +kernel
theorem dL_follows_493 : decode cL_follows 493 = .ok (.bipush 10, 2) := by decide +kernel
theorem dL_follows_495 : decode cL_follows 495 = .ok (.isub, 1) := by decide +kernel
theorem dL_follows_496 : decode cL_follows 496 = .ok (.invokestatic 135, 3) := by decide +kernel
theorem dL_follows_499 : decode cL_follows 499 = .ok (.lconst 0, 1) := by decide +kernel
theorem dL_follows_500 : decode cL_follows 500 = .ok (.lcmp, 1) := by decide +kernel
theorem dL_follows_501 : decode cL_follows 501 = .ok (.ifCond .lt 37, 3) := by decide +kernel
theorem dL_follows_504 : decode cL_follows 504 = .ok (.aload_n 0, 1) := by decide +kernel
theorem dL_follows_505 : decode cL_follows 505 = .ok (.iload 15, 2) := by decide +kernel
theorem dL_follows_507 : decode cL_follows 507 = .ok (.iconst 2, 1) := by decide +kernel
theorem dL_follows_508 : decode cL_follows 508 = .ok (.invokestatic 137, 3) := by decide +kernel
theorem dL_follows_511 : decode cL_follows 511 = .ok (.lconst 0, 1) := by decide +kernel
theorem dL_follows_512 : decode cL_follows 512 = .ok (.lcmp, 1) := by decide +kernel
theorem dL_follows_513 : decode cL_follows 513 = .ok (.ifCond .le 25, 3) := by decide +kernel
theorem dL_follows_516 : decode cL_follows 516 = .ok (.aload_n 0, 1) := by decide +kernel
theorem dL_follows_517 : decode cL_follows 517 = .ok (.invokestatic 197, 3) := by decide +kernel
theorem dL_follows_520 : decode cL_follows 520 = .ok (.lconst 0, 1) := by decide +kernel
theorem dL_follows_521 : decode cL_follows 521 = .ok (.lcmp, 1) := by decide +kernel
theorem dL_follows_522 : decode cL_follows 522 = .ok (.ifCond .lt 16, 3) := by decide +kernel
theorem dL_follows_525 : decode cL_follows 525 = .ok (.aload_n 0, 1) := by decide +kernel
theorem dL_follows_526 : decode cL_follows 526 = .ok (.invokestatic 115, 3) := by decide +kernel
theorem dL_follows_529 : decode cL_follows 529 = .ok (.lload_n 2, 1) := by decide +kernel
theorem dL_follows_530 : decode cL_follows 530 = .ok (.lcmp, 1) := by decide +kernel
theorem dL_follows_531 : decode cL_follows 531 = .ok (.ifCond .ne 7, 3) := by decide +kernel
theorem dL_follows_534 : decode cL_follows 534 = .ok (.iconst 1, 1) := by decide +kernel
theorem dL_follows_535 : decode cL_follows 535 = .ok (.goto 4, 3) := by decide +kernel
theorem dL_follows_538 : decode cL_follows 538 = .ok (.iconst 0, 1) := by decide +kernel
theorem dL_follows_539 : decode cL_follows 539 = .ok (.istore 16, 2) := by decide +kernel
theorem dL_follows_541 : decode cL_follows 541 = .ok (.goto 58, 3) := by decide +kernel
theorem dL_follows_544 : decode cL_follows 544 = .ok (.iload 16, 2) := by decide +kernel
theorem dL_follows_546 : decode cL_follows 546 = .ok (.ifCond .eq 50, 3) := by decide +kernel
theorem dL_follows_549 : decode cL_follows 549 = .ok (.aload_n 0, 1) := by decide +kernel
theorem dL_follows_550 : decode cL_follows 550 = .ok (.iconst 0, 1) := by decide +kernel
theorem dL_follows_551 : decode cL_follows 551 = .ok (.sipush 250, 3) := by decide +kernel
theorem dL_follows_554 : decode cL_follows 554 = .ok (.invokestatic 135, 3) := by decide +kernel
theorem dL_follows_557 : decode cL_follows 557 = .ok (.lconst 0, 1) := by decide +kernel
theorem dL_follows_558 : decode cL_follows 558 = .ok (.lcmp, 1) := by decide +kernel
theorem dL_follows_559 : decode cL_follows 559 = .ok (.ifCond .lt 37, 3) := by decide +kernel
theorem dL_follows_562 : decode cL_follows 562 = .ok (.aload_n 0, 1) := by decide +kernel
theorem dL_follows_563 : decode cL_follows 563 = .ok (.iload 15, 2) := by decide +kernel
theorem dL_follows_565 : decode cL_follows 565 = .ok (.iconst 2, 1) := by decide +kernel
theorem dL_follows_566 : decode cL_follows 566 = .ok (.invokestatic 137, 3) := by decide +kernel
theorem dL_follows_569 : decode cL_follows 569 = .ok (.lconst 0, 1) := by decide +kernel
theorem dL_follows_570 : decode cL_follows 570 = .ok (.lcmp, 1) := by decide +kernel
theorem dL_follows_571 : decode cL_follows 571 = .ok (.ifCond .le 25, 3) := by decide +kernel
theorem dL_follows_574 : decode cL_follows 574 = .ok (.aload_n 0, 1) := by decide +kernel
theorem dL_follows_575 : decode cL_follows 575 = .ok (.invokestatic 197, 3) := by decide +kernel
theorem dL_follows_578 : decode cL_follows 578 = .ok (.lconst 0, 1) := by decide +kernel
theorem dL_follows_579 : decode cL_follows 579 = .ok (.lcmp, 1) := by decide +kernel
theorem dL_follows_580 : decode cL_follows 580 = .ok (.ifCond .lt 16, 3) := by decide +kernel
theorem dL_follows_583 : decode cL_follows 583 = .ok (.aload_n 0, 1) := by decide +kernel
theorem dL_follows_584 : decode cL_follows 584 = .ok (.invokestatic 115, 3) := by decide +kernel
theorem dL_follows_587 : decode cL_follows 587 = .ok (.lload_n 2, 1) := by decide +kernel
theorem dL_follows_588 : decode cL_follows 588 = .ok (.lcmp, 1) := by decide +kernel
theorem dL_follows_589 : decode cL_follows 589 = .ok (.ifCond .ne 7, 3) := by decide +kernel
theorem dL_follows_592 : decode cL_follows 592 = .ok (.iconst 1, 1) := by decide +kernel
theorem dL_follows_593 : decode cL_follows 593 = .ok (.goto 4, 3) := by decide +kernel
theorem dL_follows_596 : decode cL_follows 596 = .ok (.iconst 0, 1) := by decide +kernel
theorem dL_follows_597 : decode cL_follows 597 = .ok (.istore 16, 2) := by decide +kernel
theorem dL_follows_599 : decode cL_follows 599 = .ok (.aload_n 0, 1) := by decide +kernel
theorem dL_follows_600 : decode cL_follows 600 = .ok (.iload 15, 2) := by decide +kernel
theorem dL_follows_602 : decode cL_follows 602 = .ok (.invokestatic 143, 3) := by decide +kernel
theorem dL_follows_605 : decode cL_follows 605 = .ok (.l2i, 1) := by decide +kernel
theorem dL_follows_606 : decode cL_follows 606 = .ok (.istore 27, 2) := by decide +kernel
theorem dL_follows_608 : decode cL_follows 608 = .ok (.iload 16, 2) := by decide +kernel
theorem dL_follows_610 : decode cL_follows 610 = .ok (.ifCond .eq 32, 3) := by decide +kernel
theorem dL_follows_613 : decode cL_follows 613 = .ok (.iload 27, 2) := by decide +kernel
theorem dL_follows_615 : decode cL_follows 615 = .ok (.i2l, 1) := by decide +kernel
theorem dL_follows_616 : decode cL_follows 616 = .ok (.lconst 0, 1) := by decide +kernel
theorem dL_follows_617 : decode cL_follows 617 = .ok (.ldc2_w 201, 3) := by decide +kernel
theorem dL_follows_620 : decode cL_follows 620 = .ok (.invokestatic 164, 3) := by decide +kernel
theorem dL_follows_623 : decode cL_follows 623 = .ok (.ifCond .eq 19, 3) := by decide +kernel
theorem dL_follows_626 : decode cL_follows 626 = .ok (.aload_n 0, 1) := by decide +kernel
theorem dL_follows_627 : decode cL_follows 627 = .ok (.iconst 5, 1) := by decide +kernel
theorem dL_follows_628 : decode cL_follows 628 = .ok (.iload 27, 2) := by decide +kernel
theorem dL_follows_630 : decode cL_follows 630 = .ok (.invokestatic 135, 3) := by decide +kernel
theorem dL_follows_633 : decode cL_follows 633 = .ok (.lconst 0, 1) := by decide +kernel
theorem dL_follows_634 : decode cL_follows 634 = .ok (.lcmp, 1) := by decide +kernel
theorem dL_follows_635 : decode cL_follows 635 = .ok (.ifCond .lt 7, 3) := by decide +kernel
theorem dL_follows_638 : decode cL_follows 638 = .ok (.iconst 1, 1) := by decide +kernel
theorem dL_follows_639 : decode cL_follows 639 = .ok (.goto 4, 3) := by decide +kernel
theorem dL_follows_642 : decode cL_follows 642 = .ok (.iconst 0, 1) := by decide +kernel
theorem dL_follows_643 : decode cL_follows 643 = .ok (.istore 16, 2) := by decide +kernel
theorem dL_follows_645 : decode cL_follows 645 = .ok (.aload_n 0, 1) := by decide +kernel
theorem dL_follows_646 : decode cL_follows 646 = .ok (.iload 15, 2) := by decide +kernel
theorem dL_follows_648 : decode cL_follows 648 = .ok (.iconst 0, 1) := by decide +kernel
theorem dL_follows_649 : decode cL_follows 649 = .ok (.invokestatic 137, 3) := by decide +kernel
theorem dL_follows_652 : decode cL_follows 652 = .ok (.lstore 28, 2) := by decide +kernel
theorem dL_follows_654 : decode cL_follows 654 = .ok (.iload 16, 2) := by decide +kernel
theorem dL_follows_656 : decode cL_follows 656 = .ok (.ifCond .eq 25, 3) := by decide +kernel
theorem dL_follows_659 : decode cL_follows 659 = .ok (.aload_n 0, 1) := by decide +kernel
theorem dL_follows_660 : decode cL_follows 660 = .ok (.invokestatic 197, 3) := by decide +kernel
theorem dL_follows_663 : decode cL_follows 663 = .ok (.lconst 0, 1) := by decide +kernel
theorem dL_follows_664 : decode cL_follows 664 = .ok (.lcmp, 1) := by decide +kernel
theorem dL_follows_665 : decode cL_follows 665 = .ok (.ifCond .lt 16, 3) := by decide +kernel
theorem dL_follows_668 : decode cL_follows 668 = .ok (.aload_n 0, 1) := by decide +kernel
theorem dL_follows_669 : decode cL_follows 669 = .ok (.invokestatic 115, 3) := by decide +kernel
theorem dL_follows_672 : decode cL_follows 672 = .ok (.lload_n 2, 1) := by decide +kernel
theorem dL_follows_673 : decode cL_follows 673 = .ok (.lcmp, 1) := by decide +kernel
theorem dL_follows_674 : decode cL_follows 674 = .ok (.ifCond .ne 7, 3) := by decide +kernel
theorem dL_follows_677 : decode cL_follows 677 = .ok (.iconst 1, 1) := by decide +kernel
theorem dL_follows_678 : decode cL_follows 678 = .ok (.goto 4, 3) := by decide +kernel
theorem dL_follows_681 : decode cL_follows 681 = .ok (.iconst 0, 1) := by decide +kernel
theorem dL_follows_682 : decode cL_follows 682 = .ok (.istore 16, 2) := by decide +kernel
theorem dL_follows_684 : decode cL_follows 684 = .ok (.iload_n 1, 1) := by decide +kernel
theorem dL_follows_685 : decode cL_follows 685 = .ok (.iconst 5, 1) := by decide +kernel
theorem dL_follows_686 : decode cL_follows 686 = .ok (.irem, 1) := by decide +kernel
theorem dL_follows_687 : decode cL_follows 687 = .ok (.istore 30, 2) := by decide +kernel
theorem dL_follows_689 : decode cL_follows 689 = .ok (.iload 30, 2) := by decide +kernel
theorem dL_follows_691 : decode cL_follows 691 = .ok (.bipush 24, 2) := by decide +kernel
theorem dL_follows_693 : decode cL_follows 693 = .ok (.if_icmp .ge 78, 3) := by decide +kernel
theorem dL_follows_696 : decode cL_follows 696 = .ok (.iload 16, 2) := by decide +kernel
theorem dL_follows_698 : decode cL_follows 698 = .ok (.ifCond .eq 73, 3) := by decide +kernel
theorem dL_follows_701 : decode cL_follows 701 = .ok (.aload_n 0, 1) := by decide +kernel
theorem dL_follows_702 : decode cL_follows 702 = .ok (.iconst 5, 1) := by decide +kernel
theorem dL_follows_703 : decode cL_follows 703 = .ok (.iload 30, 2) := by decide +kernel
theorem dL_follows_705 : decode cL_follows 705 = .ok (.invokestatic 135, 3) := by decide +kernel
theorem dL_follows_708 : decode cL_follows 708 = .ok (.lconst 0, 1) := by decide +kernel
theorem dL_follows_709 : decode cL_follows 709 = .ok (.lcmp, 1) := by decide +kernel
theorem dL_follows_710 : decode cL_follows 710 = .ok (.ifCond .lt 52, 3) := by decide +kernel
theorem dL_follows_713 : decode cL_follows 713 = .ok (.iload 30, 2) := by decide +kernel
theorem dL_follows_715 : decode cL_follows 715 = .ok (.iload 27, 2) := by decide +kernel
theorem dL_follows_717 : decode cL_follows 717 = .ok (.if_icmp .ge 19, 3) := by decide +kernel
theorem dL_follows_720 : decode cL_follows 720 = .ok (.aload_n 0, 1) := by decide +kernel
theorem dL_follows_721 : decode cL_follows 721 = .ok (.iload 15, 2) := by decide +kernel
theorem dL_follows_723 : decode cL_follows 723 = .ok (.iconst 0, 1) := by decide +kernel
theorem dL_follows_724 : decode cL_follows 724 = .ok (.invokestatic 137, 3) := by decide +kernel
theorem dL_follows_727 : decode cL_follows 727 = .ok (.lload 28, 2) := by decide +kernel
theorem dL_follows_729 : decode cL_follows 729 = .ok (.lcmp, 1) := by decide +kernel
theorem dL_follows_730 : decode cL_follows 730 = .ok (.ifCond .le 32, 3) := by decide +kernel
theorem dL_follows_733 : decode cL_follows 733 = .ok (.goto 16, 3) := by decide +kernel
theorem dL_follows_736 : decode cL_follows 736 = .ok (.aload_n 0, 1) := by decide +kernel
theorem dL_follows_737 : decode cL_follows 737 = .ok (.iload 15, 2) := by decide +kernel
theorem dL_follows_739 : decode cL_follows 739 = .ok (.iconst 0, 1) := by decide +kernel
theorem dL_follows_740 : decode cL_follows 740 = .ok (.invokestatic 137, 3) := by decide +kernel
theorem dL_follows_743 : decode cL_follows 743 = .ok (.lload 28, 2) := by decide +kernel
theorem dL_follows_745 : decode cL_follows 745 = .ok (.lcmp, 1) := by decide +kernel
theorem dL_follows_746 : decode cL_follows 746 = .ok (.ifCond .lt 16, 3) := by decide +kernel
theorem dL_follows_749 : decode cL_follows 749 = .ok (.aload_n 0, 1) := by decide +kernel
theorem dL_follows_750 : decode cL_follows 750 = .ok (.invokestatic 197, 3) := by decide +kernel
theorem dL_follows_753 : decode cL_follows 753 = .ok (.lconst 0, 1) := by decide +kernel
theorem dL_follows_754 : decode cL_follows 754 = .ok (.lcmp, 1) := by decide +kernel
theorem dL_follows_755 : decode cL_follows 755 = .ok (.ifCond .lt 7, 3) := by decide +kernel
theorem dL_follows_758 : decode cL_follows 758 = .ok (.iconst 1, 1) := by decide +kernel
theorem dL_follows_759 : decode cL_follows 759 = .ok (.goto 4, 3) := by decide +kernel
theorem dL_follows_762 : decode cL_follows 762 = .ok (.iconst 0, 1) := by decide +kernel
theorem dL_follows_763 : decode cL_follows 763 = .ok (.istore 16, 2) := by decide +kernel
theorem dL_follows_765 : decode cL_follows 765 = .ok (.iinc 30 5, 3) := by decide +kernel
theorem dL_follows_768 : decode cL_follows 768 = .ok (.goto (-79), 3) := by decide +kernel
theorem dL_follows_771 : decode cL_follows 771 = .ok (.iconst 1, 1) := by decide +kernel
theorem dL_follows_772 : decode cL_follows 772 = .ok (.iload_n 1, 1) := by decide +kernel
theorem dL_follows_773 : decode cL_follows 773 = .ok (.bipush 7, 2) := by decide +kernel
theorem dL_follows_775 : decode cL_follows 775 = .ok (.idiv, 1) := by decide +kernel
theorem dL_follows_776 : decode cL_follows 776 = .ok (.bipush 50, 2) := by decide +kernel
theorem dL_follows_778 : decode cL_follows 778 = .ok (.irem, 1) := by decide +kernel
theorem dL_follows_779 : decode cL_follows 779 = .ok (.iadd, 1) := by decide +kernel
theorem dL_follows_780 : decode cL_follows 780 = .ok (.istore 30, 2) := by decide +kernel
theorem dL_follows_782 : decode cL_follows 782 = .ok (.aload_n 0, 1) := by decide +kernel
theorem dL_follows_783 : decode cL_follows 783 = .ok (.iload 30, 2) := by decide +kernel
theorem dL_follows_785 : decode cL_follows 785 = .ok (.iload 15, 2) := by decide +kernel
theorem dL_follows_787 : decode cL_follows 787 = .ok (.invokestatic 126, 3) := by decide +kernel
theorem dL_follows_790 : decode cL_follows 790 = .ok (.lstore 31, 2) := by decide +kernel
theorem dL_follows_792 : decode cL_follows 792 = .ok (.iload 16, 2) := by decide +kernel
theorem dL_follows_794 : decode cL_follows 794 = .ok (.ifCond .eq 80, 3) := by decide +kernel
theorem dL_follows_797 : decode cL_follows 797 = .ok (.lload 31, 2) := by decide +kernel
theorem dL_follows_799 : decode cL_follows 799 = .ok (.ldc2_w 21, 3) := by decide +kernel
theorem dL_follows_802 : decode cL_follows 802 = .ok (.lcmp, 1) := by decide +kernel
theorem dL_follows_803 : decode cL_follows 803 = .ok (.ifCond .ne 19, 3) := by decide +kernel
theorem dL_follows_806 : decode cL_follows 806 = .ok (.aload_n 0, 1) := by decide +kernel
theorem dL_follows_807 : decode cL_follows 807 = .ok (.iload 30, 2) := by decide +kernel
theorem dL_follows_809 : decode cL_follows 809 = .ok (.invokestatic 124, 3) := by decide +kernel
theorem dL_follows_812 : decode cL_follows 812 = .ok (.ldc2_w 21, 3) := by decide +kernel
theorem dL_follows_815 : decode cL_follows 815 = .ok (.lcmp, 1) := by decide +kernel
theorem dL_follows_816 : decode cL_follows 816 = .ok (.ifCond .ne 58, 3) := by decide +kernel
theorem dL_follows_819 : decode cL_follows 819 = .ok (.goto 42, 3) := by decide +kernel
theorem dL_follows_822 : decode cL_follows 822 = .ok (.aload_n 0, 1) := by decide +kernel
theorem dL_follows_823 : decode cL_follows 823 = .ok (.iload 30, 2) := by decide +kernel
theorem dL_follows_825 : decode cL_follows 825 = .ok (.invokestatic 124, 3) := by decide +kernel
theorem dL_follows_828 : decode cL_follows 828 = .ok (.aload_n 0, 1) := by decide +kernel
theorem dL_follows_829 : decode cL_follows 829 = .ok (.iconst 1, 1) := by decide +kernel
theorem dL_follows_830 : decode cL_follows 830 = .ok (.invokestatic 103, 3) := by decide +kernel
theorem dL_follows_833 : decode cL_follows 833 = .ok (.lconst 1, 1) := by decide +kernel
theorem dL_follows_834 : decode cL_follows 834 = .ok (.lsub, 1) := by decide +kernel
theorem dL_follows_835 : decode cL_follows 835 = .ok (.lcmp, 1) := by decide +kernel
theorem dL_follows_836 : decode cL_follows 836 = .ok (.ifCond .ne 38, 3) := by decide +kernel
theorem dL_follows_839 : decode cL_follows 839 = .ok (.aload_n 0, 1) := by decide +kernel
theorem dL_follows_840 : decode cL_follows 840 = .ok (.iload 15, 2) := by decide +kernel
theorem dL_follows_842 : decode cL_follows 842 = .ok (.iconst 2, 1) := by decide +kernel
theorem dL_follows_843 : decode cL_follows 843 = .ok (.invokestatic 137, 3) := by decide +kernel
theorem dL_follows_846 : decode cL_follows 846 = .ok (.lload 31, 2) := by decide +kernel
theorem dL_follows_848 : decode cL_follows 848 = .ok (.lcmp, 1) := by decide +kernel
theorem dL_follows_849 : decode cL_follows 849 = .ok (.ifCond .ne 25, 3) := by decide +kernel
theorem dL_follows_852 : decode cL_follows 852 = .ok (.aload_n 0, 1) := by decide +kernel
theorem dL_follows_853 : decode cL_follows 853 = .ok (.invokestatic 197, 3) := by decide +kernel
theorem dL_follows_856 : decode cL_follows 856 = .ok (.lconst 0, 1) := by decide +kernel
theorem dL_follows_857 : decode cL_follows 857 = .ok (.lcmp, 1) := by decide +kernel
theorem dL_follows_858 : decode cL_follows 858 = .ok (.ifCond .lt 16, 3) := by decide +kernel
theorem dL_follows_861 : decode cL_follows 861 = .ok (.aload_n 0, 1) := by decide +kernel
theorem dL_follows_862 : decode cL_follows 862 = .ok (.invokestatic 115, 3) := by decide +kernel
theorem dL_follows_865 : decode cL_follows 865 = .ok (.lload_n 2, 1) := by decide +kernel
theorem dL_follows_866 : decode cL_follows 866 = .ok (.lcmp, 1) := by decide +kernel
theorem dL_follows_867 : decode cL_follows 867 = .ok (.ifCond .ne 7, 3) := by decide +kernel
theorem dL_follows_870 : decode cL_follows 870 = .ok (.iconst 1, 1) := by decide +kernel
theorem dL_follows_871 : decode cL_follows 871 = .ok (.goto 4, 3) := by decide +kernel
theorem dL_follows_874 : decode cL_follows 874 = .ok (.iconst 0, 1) := by decide +kernel
theorem dL_follows_875 : decode cL_follows 875 = .ok (.istore 16, 2) := by decide +kernel
theorem dL_follows_877 : decode cL_follows 877 = .ok (.iload 14, 2) := by decide +kernel
theorem dL_follows_879 : decode cL_follows 879 = .ok (.ifCond .ne 7, 3) := by decide +kernel
theorem dL_follows_882 : decode cL_follows 882 = .ok (.iconst (-1), 1) := by decide +kernel
theorem dL_follows_883 : decode cL_follows 883 = .ok (.goto 10, 3) := by decide +kernel
theorem dL_follows_886 : decode cL_follows 886 = .ok (.iload_n 1, 1) := by decide +kernel
theorem dL_follows_887 : decode cL_follows 887 = .ok (.bipush 11, 2) := by decide +kernel
theorem dL_follows_889 : decode cL_follows 889 = .ok (.idiv, 1) := by decide +kernel
theorem dL_follows_890 : decode cL_follows 890 = .ok (.iload 14, 2) := by decide +kernel
theorem dL_follows_892 : decode cL_follows 892 = .ok (.irem, 1) := by decide +kernel
theorem dL_follows_893 : decode cL_follows 893 = .ok (.istore 33, 2) := by decide +kernel
theorem dL_follows_895 : decode cL_follows 895 = .ok (.iload 33, 2) := by decide +kernel
theorem dL_follows_897 : decode cL_follows 897 = .ok (.iconst (-1), 1) := by decide +kernel
theorem dL_follows_898 : decode cL_follows 898 = .ok (.if_icmp .eq 107, 3) := by decide +kernel
theorem dL_follows_901 : decode cL_follows 901 = .ok (.iload 16, 2) := by decide +kernel
theorem dL_follows_903 : decode cL_follows 903 = .ok (.ifCond .eq 102, 3) := by decide +kernel
theorem dL_follows_906 : decode cL_follows 906 = .ok (.aload_n 0, 1) := by decide +kernel
theorem dL_follows_907 : decode cL_follows 907 = .ok (.iload 33, 2) := by decide +kernel
theorem dL_follows_909 : decode cL_follows 909 = .ok (.bipush 6, 2) := by decide +kernel
theorem dL_follows_911 : decode cL_follows 911 = .ok (.invokestatic 110, 3) := by decide +kernel
theorem dL_follows_914 : decode cL_follows 914 = .ok (.lconst 0, 1) := by decide +kernel
theorem dL_follows_915 : decode cL_follows 915 = .ok (.lcmp, 1) := by decide +kernel
theorem dL_follows_916 : decode cL_follows 916 = .ok (.ifCond .ne 89, 3) := by decide +kernel
theorem dL_follows_919 : decode cL_follows 919 = .ok (.aload_n 0, 1) := by decide +kernel
theorem dL_follows_920 : decode cL_follows 920 = .ok (.iload 33, 2) := by decide +kernel
theorem dL_follows_922 : decode cL_follows 922 = .ok (.iconst 0, 1) := by decide +kernel
theorem dL_follows_923 : decode cL_follows 923 = .ok (.invokestatic 110, 3) := by decide +kernel
theorem dL_follows_926 : decode cL_follows 926 = .ok (.lstore 34, 2) := by decide +kernel
theorem dL_follows_928 : decode cL_follows 928 = .ok (.aload_n 0, 1) := by decide +kernel
theorem dL_follows_929 : decode cL_follows 929 = .ok (.iload 33, 2) := by decide +kernel
theorem dL_follows_931 : decode cL_follows 931 = .ok (.bipush 30, 2) := by decide +kernel
theorem dL_follows_933 : decode cL_follows 933 = .ok (.invokestatic 131, 3) := by decide +kernel
theorem dL_follows_936 : decode cL_follows 936 = .ok (.lload 34, 2) := by decide +kernel
theorem dL_follows_938 : decode cL_follows 938 = .ok (.lcmp, 1) := by decide +kernel
theorem dL_follows_939 : decode cL_follows 939 = .ok (.ifCond .ne 63, 3) := by decide +kernel
theorem dL_follows_942 : decode cL_follows 942 = .ok (.aload_n 0, 1) := by decide +kernel
theorem dL_follows_943 : decode cL_follows 943 = .ok (.iload 33, 2) := by decide +kernel
theorem dL_follows_945 : decode cL_follows 945 = .ok (.iconst 1, 1) := by decide +kernel
theorem dL_follows_946 : decode cL_follows 946 = .ok (.invokestatic 110, 3) := by decide +kernel
theorem dL_follows_949 : decode cL_follows 949 = .ok (.lconst 0, 1) := by decide +kernel
theorem dL_follows_950 : decode cL_follows 950 = .ok (.lcmp, 1) := by decide +kernel
theorem dL_follows_951 : decode cL_follows 951 = .ok (.ifCond .ne 51, 3) := by decide +kernel
theorem dL_follows_954 : decode cL_follows 954 = .ok (.aload_n 0, 1) := by decide +kernel
theorem dL_follows_955 : decode cL_follows 955 = .ok (.iload 33, 2) := by decide +kernel
theorem dL_follows_957 : decode cL_follows 957 = .ok (.iconst 5, 1) := by decide +kernel
theorem dL_follows_958 : decode cL_follows 958 = .ok (.invokestatic 110, 3) := by decide +kernel
theorem dL_follows_961 : decode cL_follows 961 = .ok (.lconst 0, 1) := by decide +kernel
theorem dL_follows_962 : decode cL_follows 962 = .ok (.lcmp, 1) := by decide +kernel
theorem dL_follows_963 : decode cL_follows 963 = .ok (.ifCond .ne 39, 3) := by decide +kernel
theorem dL_follows_966 : decode cL_follows 966 = .ok (.aload_n 0, 1) := by decide +kernel
theorem dL_follows_967 : decode cL_follows 967 = .ok (.iload 33, 2) := by decide +kernel
theorem dL_follows_969 : decode cL_follows 969 = .ok (.iconst 0, 1) := by decide +kernel
theorem dL_follows_970 : decode cL_follows 970 = .ok (.invokestatic 110, 3) := by decide +kernel
theorem dL_follows_973 : decode cL_follows 973 = .ok (.ldc2_w 203, 3) := by decide +kernel
theorem dL_follows_976 : decode cL_follows 976 = .ok (.lcmp, 1) := by decide +kernel
theorem dL_follows_977 : decode cL_follows 977 = .ok (.ifCond .ne 25, 3) := by decide +kernel
theorem dL_follows_980 : decode cL_follows 980 = .ok (.aload_n 0, 1) := by decide +kernel
theorem dL_follows_981 : decode cL_follows 981 = .ok (.invokestatic 197, 3) := by decide +kernel
theorem dL_follows_984 : decode cL_follows 984 = .ok (.lconst 0, 1) := by decide +kernel
theorem dL_follows_985 : decode cL_follows 985 = .ok (.lcmp, 1) := by decide +kernel
theorem dL_follows_986 : decode cL_follows 986 = .ok (.ifCond .lt 16, 3) := by decide +kernel
theorem dL_follows_989 : decode cL_follows 989 = .ok (.aload_n 0, 1) := by decide +kernel
theorem dL_follows_990 : decode cL_follows 990 = .ok (.invokestatic 115, 3) := by decide +kernel
theorem dL_follows_993 : decode cL_follows 993 = .ok (.lload_n 2, 1) := by decide +kernel
theorem dL_follows_994 : decode cL_follows 994 = .ok (.lcmp, 1) := by decide +kernel
theorem dL_follows_995 : decode cL_follows 995 = .ok (.ifCond .ne 7, 3) := by decide +kernel
theorem dL_follows_998 : decode cL_follows 998 = .ok (.iconst 1, 1) := by decide +kernel
theorem dL_follows_999 : decode cL_follows 999 = .ok (.goto 4, 3) := by decide +kernel
theorem dL_follows_1002 : decode cL_follows 1002 = .ok (.iconst 0, 1) := by decide +kernel
theorem dL_follows_1003 : decode cL_follows 1003 = .ok (.istore 16, 2) := by decide +kernel
theorem dL_follows_1005 : decode cL_follows 1005 = .ok (.iload 16, 2) := by decide +kernel
theorem dL_follows_1007 : decode cL_follows 1007 = .ok (.ifCond .eq 38, 3) := by decide +kernel
theorem dL_follows_1010 : decode cL_follows 1010 = .ok (.aload_n 0, 1) := by decide +kernel
theorem dL_follows_1011 : decode cL_follows 1011 = .ok (.iconst 1, 1) := by decide +kernel
theorem dL_follows_1012 : decode cL_follows 1012 = .ok (.invokestatic 156, 3) := by decide +kernel
theorem dL_follows_1015 : decode cL_follows 1015 = .ok (.lload 4, 2) := by decide +kernel
theorem dL_follows_1017 : decode cL_follows 1017 = .ok (.lcmp, 1) := by decide +kernel
theorem dL_follows_1018 : decode cL_follows 1018 = .ok (.ifCond .ne 27, 3) := by decide +kernel
theorem dL_follows_1021 : decode cL_follows 1021 = .ok (.aload_n 0, 1) := by decide +kernel
theorem dL_follows_1022 : decode cL_follows 1022 = .ok (.invokestatic 115, 3) := by decide +kernel
theorem dL_follows_1025 : decode cL_follows 1025 = .ok (.lload_n 2, 1) := by decide +kernel
theorem dL_follows_1026 : decode cL_follows 1026 = .ok (.lcmp, 1) := by decide +kernel
theorem dL_follows_1027 : decode cL_follows 1027 = .ok (.ifCond .ne 18, 3) := by decide +kernel
theorem dL_follows_1030 : decode cL_follows 1030 = .ok (.aload_n 0, 1) := by decide +kernel
theorem dL_follows_1031 : decode cL_follows 1031 = .ok (.invokestatic 197, 3) := by decide +kernel
theorem dL_follows_1034 : decode cL_follows 1034 = .ok (.ldc2_w 21, 3) := by decide +kernel
theorem dL_follows_1037 : decode cL_follows 1037 = .ok (.lcmp, 1) := by decide +kernel
theorem dL_follows_1038 : decode cL_follows 1038 = .ok (.ifCond .ne 7, 3) := by decide +kernel
theorem dL_follows_1041 : decode cL_follows 1041 = .ok (.iconst 1, 1) := by decide +kernel
theorem dL_follows_1042 : decode cL_follows 1042 = .ok (.goto 4, 3) := by decide +kernel
theorem dL_follows_1045 : decode cL_follows 1045 = .ok (.iconst 0, 1) := by decide +kernel
theorem dL_follows_1046 : decode cL_follows 1046 = .ok (.ireturn, 1) := by decide +kernel
theorem dL_alike_0 : decode cL_alike 0 = .ok (.aload_n 0, 1) := by decide +kernel
theorem dL_alike_1 : decode cL_alike 1 = .ok (.invokestatic 115, 3) := by decide +kernel
theorem dL_alike_4 : decode cL_alike 4 = .ok (.aload_n 1, 1) := by decide +kernel
theorem dL_alike_5 : decode cL_alike 5 = .ok (.invokestatic 115, 3) := by decide +kernel
theorem dL_alike_8 : decode cL_alike 8 = .ok (.lcmp, 1) := by decide +kernel
theorem dL_alike_9 : decode cL_alike 9 = .ok (.ifCond .ne 212, 3) := by decide +kernel
theorem dL_alike_12 : decode cL_alike 12 = .ok (.aload_n 0, 1) := by decide +kernel
theorem dL_alike_13 : decode cL_alike 13 = .ok (.invokevirtual 205, 3) := by decide +kernel
theorem dL_alike_16 : decode cL_alike 16 = .ok (.aload_n 1, 1) := by decide +kernel
theorem dL_alike_17 : decode cL_alike 17 = .ok (.invokevirtual 205, 3) := by decide +kernel
theorem dL_alike_20 : decode cL_alike 20 = .ok (.if_icmp .ne 201, 3) := by decide +kernel
theorem dL_alike_23 : decode cL_alike 23 = .ok (.aload_n 0, 1) := by decide +kernel
theorem dL_alike_24 : decode cL_alike 24 = .ok (.iconst 1, 1) := by decide +kernel
theorem dL_alike_25 : decode cL_alike 25 = .ok (.iload_n 2, 1) := by decide +kernel
theorem dL_alike_26 : decode cL_alike 26 = .ok (.bipush 50, 2) := by decide +kernel
theorem dL_alike_28 : decode cL_alike 28 = .ok (.irem, 1) := by decide +kernel
theorem dL_alike_29 : decode cL_alike 29 = .ok (.iadd, 1) := by decide +kernel
theorem dL_alike_30 : decode cL_alike 30 = .ok (.iload_n 2, 1) := by decide +kernel
theorem dL_alike_31 : decode cL_alike 31 = .ok (.iconst 4, 1) := by decide +kernel
theorem dL_alike_32 : decode cL_alike 32 = .ok (.irem, 1) := by decide +kernel
theorem dL_alike_33 : decode cL_alike 33 = .ok (.invokestatic 137, 3) := by decide +kernel
theorem dL_alike_36 : decode cL_alike 36 = .ok (.aload_n 1, 1) := by decide +kernel
theorem dL_alike_37 : decode cL_alike 37 = .ok (.iconst 1, 1) := by decide +kernel
theorem dL_alike_38 : decode cL_alike 38 = .ok (.iload_n 2, 1) := by decide +kernel
theorem dL_alike_39 : decode cL_alike 39 = .ok (.bipush 50, 2) := by decide +kernel
theorem dL_alike_41 : decode cL_alike 41 = .ok (.irem, 1) := by decide +kernel
theorem dL_alike_42 : decode cL_alike 42 = .ok (.iadd, 1) := by decide +kernel
theorem dL_alike_43 : decode cL_alike 43 = .ok (.iload_n 2, 1) := by decide +kernel
theorem dL_alike_44 : decode cL_alike 44 = .ok (.iconst 4, 1) := by decide +kernel
theorem dL_alike_45 : decode cL_alike 45 = .ok (.irem, 1) := by decide +kernel
theorem dL_alike_46 : decode cL_alike 46 = .ok (.invokestatic 137, 3) := by decide +kernel
theorem dL_alike_49 : decode cL_alike 49 = .ok (.lcmp, 1) := by decide +kernel
theorem dL_alike_50 : decode cL_alike 50 = .ok (.ifCond .ne 171, 3) := by decide +kernel
theorem dL_alike_53 : decode cL_alike 53 = .ok (.aload_n 0, 1) := by decide +kernel
theorem dL_alike_54 : decode cL_alike 54 = .ok (.iload_n 2, 1) := by decide +kernel
theorem dL_alike_55 : decode cL_alike 55 = .ok (.bipush 8, 2) := by decide +kernel
theorem dL_alike_57 : decode cL_alike 57 = .ok (.irem, 1) := by decide +kernel
theorem dL_alike_58 : decode cL_alike 58 = .ok (.invokestatic 139, 3) := by decide +kernel
theorem dL_alike_61 : decode cL_alike 61 = .ok (.aload_n 1, 1) := by decide +kernel
theorem dL_alike_62 : decode cL_alike 62 = .ok (.iload_n 2, 1) := by decide +kernel
theorem dL_alike_63 : decode cL_alike 63 = .ok (.bipush 8, 2) := by decide +kernel
theorem dL_alike_65 : decode cL_alike 65 = .ok (.irem, 1) := by decide +kernel
theorem dL_alike_66 : decode cL_alike 66 = .ok (.invokestatic 139, 3) := by decide +kernel
theorem dL_alike_69 : decode cL_alike 69 = .ok (.lcmp, 1) := by decide +kernel
theorem dL_alike_70 : decode cL_alike 70 = .ok (.ifCond .ne 151, 3) := by decide +kernel
theorem dL_alike_73 : decode cL_alike 73 = .ok (.aload_n 0, 1) := by decide +kernel
theorem dL_alike_74 : decode cL_alike 74 = .ok (.iconst 1, 1) := by decide +kernel
theorem dL_alike_75 : decode cL_alike 75 = .ok (.iload_n 2, 1) := by decide +kernel
theorem dL_alike_76 : decode cL_alike 76 = .ok (.bipush 9, 2) := by decide +kernel
theorem dL_alike_78 : decode cL_alike 78 = .ok (.irem, 1) := by decide +kernel
theorem dL_alike_79 : decode cL_alike 79 = .ok (.iadd, 1) := by decide +kernel
theorem dL_alike_80 : decode cL_alike 80 = .ok (.invokestatic 141, 3) := by decide +kernel
theorem dL_alike_83 : decode cL_alike 83 = .ok (.aload_n 1, 1) := by decide +kernel
theorem dL_alike_84 : decode cL_alike 84 = .ok (.iconst 1, 1) := by decide +kernel
theorem dL_alike_85 : decode cL_alike 85 = .ok (.iload_n 2, 1) := by decide +kernel
theorem dL_alike_86 : decode cL_alike 86 = .ok (.bipush 9, 2) := by decide +kernel
theorem dL_alike_88 : decode cL_alike 88 = .ok (.irem, 1) := by decide +kernel
theorem dL_alike_89 : decode cL_alike 89 = .ok (.iadd, 1) := by decide +kernel
theorem dL_alike_90 : decode cL_alike 90 = .ok (.invokestatic 141, 3) := by decide +kernel
theorem dL_alike_93 : decode cL_alike 93 = .ok (.lcmp, 1) := by decide +kernel
theorem dL_alike_94 : decode cL_alike 94 = .ok (.ifCond .ne 127, 3) := by decide +kernel
theorem dL_alike_97 : decode cL_alike 97 = .ok (.aload_n 0, 1) := by decide +kernel
theorem dL_alike_98 : decode cL_alike 98 = .ok (.iconst 1, 1) := by decide +kernel
theorem dL_alike_99 : decode cL_alike 99 = .ok (.iload_n 2, 1) := by decide +kernel
theorem dL_alike_100 : decode cL_alike 100 = .ok (.bipush 9, 2) := by decide +kernel
theorem dL_alike_102 : decode cL_alike 102 = .ok (.irem, 1) := by decide +kernel
theorem dL_alike_103 : decode cL_alike 103 = .ok (.iadd, 1) := by decide +kernel
theorem dL_alike_104 : decode cL_alike 104 = .ok (.invokestatic 143, 3) := by decide +kernel
theorem dL_alike_107 : decode cL_alike 107 = .ok (.aload_n 1, 1) := by decide +kernel
theorem dL_alike_108 : decode cL_alike 108 = .ok (.iconst 1, 1) := by decide +kernel
theorem dL_alike_109 : decode cL_alike 109 = .ok (.iload_n 2, 1) := by decide +kernel
theorem dL_alike_110 : decode cL_alike 110 = .ok (.bipush 9, 2) := by decide +kernel
theorem dL_alike_112 : decode cL_alike 112 = .ok (.irem, 1) := by decide +kernel
theorem dL_alike_113 : decode cL_alike 113 = .ok (.iadd, 1) := by decide +kernel
theorem dL_alike_114 : decode cL_alike 114 = .ok (.invokestatic 143, 3) := by decide +kernel
theorem dL_alike_117 : decode cL_alike 117 = .ok (.lcmp, 1) := by decide +kernel
theorem dL_alike_118 : decode cL_alike 118 = .ok (.ifCond .ne 103, 3) := by decide +kernel
theorem dL_alike_121 : decode cL_alike 121 = .ok (.aload_n 0, 1) := by decide +kernel
theorem dL_alike_122 : decode cL_alike 122 = .ok (.iconst 1, 1) := by decide +kernel
theorem dL_alike_123 : decode cL_alike 123 = .ok (.iload_n 2, 1) := by decide +kernel
theorem dL_alike_124 : decode cL_alike 124 = .ok (.bipush 50, 2) := by decide +kernel
theorem dL_alike_126 : decode cL_alike 126 = .ok (.irem, 1) := by decide +kernel
theorem dL_alike_127 : decode cL_alike 127 = .ok (.iadd, 1) := by decide +kernel
theorem dL_alike_128 : decode cL_alike 128 = .ok (.bipush 15, 2) := by decide +kernel
theorem dL_alike_130 : decode cL_alike 130 = .ok (.invokestatic 126, 3) := by decide +kernel
theorem dL_alike_133 : decode cL_alike 133 = .ok (.aload_n 1, 1) := by decide +kernel
theorem dL_alike_134 : decode cL_alike 134 = .ok (.iconst 1, 1) := by decide +kernel
theorem dL_alike_135 : decode cL_alike 135 = .ok (.iload_n 2, 1) := by decide +kernel
theorem dL_alike_136 : decode cL_alike 136 = .ok (.bipush 50, 2) := by decide +kernel
theorem dL_alike_138 : decode cL_alike 138 = .ok (.irem, 1) := by decide +kernel
theorem dL_alike_139 : decode cL_alike 139 = .ok (.iadd, 1) := by decide +kernel
theorem dL_alike_140 : decode cL_alike 140 = .ok (.bipush 15, 2) := by decide +kernel
theorem dL_alike_142 : decode cL_alike 142 = .ok (.invokestatic 126, 3) := by decide +kernel
theorem dL_alike_145 : decode cL_alike 145 = .ok (.lcmp, 1) := by decide +kernel
theorem dL_alike_146 : decode cL_alike 146 = .ok (.ifCond .ne 75, 3) := by decide +kernel
theorem dL_alike_149 : decode cL_alike 149 = .ok (.aload_n 0, 1) := by decide +kernel
theorem dL_alike_150 : decode cL_alike 150 = .ok (.iload_n 2, 1) := by decide +kernel
theorem dL_alike_151 : decode cL_alike 151 = .ok (.bipush 8, 2) := by decide +kernel
theorem dL_alike_153 : decode cL_alike 153 = .ok (.irem, 1) := by decide +kernel
theorem dL_alike_154 : decode cL_alike 154 = .ok (.iload_n 2, 1) := by decide +kernel
theorem dL_alike_155 : decode cL_alike 155 = .ok (.bipush 15, 2) := by decide +kernel
theorem dL_alike_157 : decode cL_alike 157 = .ok (.irem, 1) := by decide +kernel
theorem dL_alike_158 : decode cL_alike 158 = .ok (.invokestatic 119, 3) := by decide +kernel
theorem dL_alike_161 : decode cL_alike 161 = .ok (.aload_n 1, 1) := by decide +kernel
theorem dL_alike_162 : decode cL_alike 162 = .ok (.iload_n 2, 1) := by decide +kernel
theorem dL_alike_163 : decode cL_alike 163 = .ok (.bipush 8, 2) := by decide +kernel
theorem dL_alike_165 : decode cL_alike 165 = .ok (.irem, 1) := by decide +kernel
theorem dL_alike_166 : decode cL_alike 166 = .ok (.iload_n 2, 1) := by decide +kernel
theorem dL_alike_167 : decode cL_alike 167 = .ok (.bipush 15, 2) := by decide +kernel
theorem dL_alike_169 : decode cL_alike 169 = .ok (.irem, 1) := by decide +kernel
theorem dL_alike_170 : decode cL_alike 170 = .ok (.invokestatic 119, 3) := by decide +kernel
theorem dL_alike_173 : decode cL_alike 173 = .ok (.lcmp, 1) := by decide +kernel
theorem dL_alike_174 : decode cL_alike 174 = .ok (.ifCond .ne 47, 3) := by decide +kernel
theorem dL_alike_177 : decode cL_alike 177 = .ok (.aload_n 0, 1) := by decide +kernel
theorem dL_alike_178 : decode cL_alike 178 = .ok (.iload_n 2, 1) := by decide +kernel
theorem dL_alike_179 : decode cL_alike 179 = .ok (.i2l, 1) := by decide +kernel
theorem dL_alike_180 : decode cL_alike 180 = .ok (.bipush 9, 2) := by decide +kernel
theorem dL_alike_182 : decode cL_alike 182 = .ok (.invokestatic 151, 3) := by decide +kernel
theorem dL_alike_185 : decode cL_alike 185 = .ok (.aload_n 1, 1) := by decide +kernel
theorem dL_alike_186 : decode cL_alike 186 = .ok (.iload_n 2, 1) := by decide +kernel
theorem dL_alike_187 : decode cL_alike 187 = .ok (.i2l, 1) := by decide +kernel
theorem dL_alike_188 : decode cL_alike 188 = .ok (.bipush 9, 2) := by decide +kernel
theorem dL_alike_190 : decode cL_alike 190 = .ok (.invokestatic 151, 3) := by decide +kernel
theorem dL_alike_193 : decode cL_alike 193 = .ok (.lcmp, 1) := by decide +kernel
theorem dL_alike_194 : decode cL_alike 194 = .ok (.ifCond .ne 27, 3) := by decide +kernel
theorem dL_alike_197 : decode cL_alike 197 = .ok (.aload_n 0, 1) := by decide +kernel
theorem dL_alike_198 : decode cL_alike 198 = .ok (.iconst 3, 1) := by decide +kernel
theorem dL_alike_199 : decode cL_alike 199 = .ok (.ldc2_w 208, 3) := by decide +kernel
theorem dL_alike_202 : decode cL_alike 202 = .ok (.invokestatic 145, 3) := by decide +kernel
theorem dL_alike_205 : decode cL_alike 205 = .ok (.aload_n 1, 1) := by decide +kernel
theorem dL_alike_206 : decode cL_alike 206 = .ok (.iconst 3, 1) := by decide +kernel
theorem dL_alike_207 : decode cL_alike 207 = .ok (.ldc2_w 208, 3) := by decide +kernel
theorem dL_alike_210 : decode cL_alike 210 = .ok (.invokestatic 145, 3) := by decide +kernel
theorem dL_alike_213 : decode cL_alike 213 = .ok (.lcmp, 1) := by decide +kernel
theorem dL_alike_214 : decode cL_alike 214 = .ok (.ifCond .ne 7, 3) := by decide +kernel
theorem dL_alike_217 : decode cL_alike 217 = .ok (.iconst 1, 1) := by decide +kernel
theorem dL_alike_218 : decode cL_alike 218 = .ok (.goto 4, 3) := by decide +kernel
theorem dL_alike_221 : decode cL_alike 221 = .ok (.iconst 0, 1) := by decide +kernel
theorem dL_alike_222 : decode cL_alike 222 = .ok (.ireturn, 1) := by decide +kernel
theorem dL_says_0 : decode cL_says 0 = .ok (.aload_n 0, 1) := by decide +kernel
theorem dL_says_1 : decode cL_says 1 = .ok (.iload_n 1, 1) := by decide +kernel
theorem dL_says_2 : decode cL_says 2 = .ok (.invokestatic 158, 3) := by decide +kernel
theorem dL_says_5 : decode cL_says 5 = .ok (.lconst 0, 1) := by decide +kernel
theorem dL_says_6 : decode cL_says 6 = .ok (.lcmp, 1) := by decide +kernel
theorem dL_says_7 : decode cL_says 7 = .ok (.ifCond .le 7, 3) := by decide +kernel
theorem dL_says_10 : decode cL_says 10 = .ok (.iconst 1, 1) := by decide +kernel
theorem dL_says_11 : decode cL_says 11 = .ok (.goto 4, 3) := by decide +kernel
theorem dL_says_14 : decode cL_says 14 = .ok (.iconst 0, 1) := by decide +kernel
theorem dL_says_15 : decode cL_says 15 = .ok (.ireturn, 1) := by decide +kernel
theorem dL_number_0 : decode cL_number 0 = .ok (.aload_n 0, 1) := by decide +kernel
theorem dL_number_1 : decode cL_number 1 = .ok (.bipush 44, 2) := by decide +kernel
theorem dL_number_3 : decode cL_number 3 = .ok (.invokestatic 210, 3) := by decide +kernel
theorem dL_number_6 : decode cL_number 6 = .ok (.ifCond .eq 41, 3) := by decide +kernel
theorem dL_number_9 : decode cL_number 9 = .ok (.iload_n 1, 1) := by decide +kernel
theorem dL_number_10 : decode cL_number 10 = .ok (.bipush 10, 2) := by decide +kernel
theorem dL_number_12 : decode cL_number 12 = .ok (.if_icmp .lt 17, 3) := by decide +kernel
theorem dL_number_15 : decode cL_number 15 = .ok (.aload_n 0, 1) := by decide +kernel
theorem dL_number_16 : decode cL_number 16 = .ok (.bipush 48, 2) := by decide +kernel
theorem dL_number_18 : decode cL_number 18 = .ok (.iload_n 1, 1) := by decide +kernel
theorem dL_number_19 : decode cL_number 19 = .ok (.bipush 10, 2) := by decide +kernel
theorem dL_number_21 : decode cL_number 21 = .ok (.idiv, 1) := by decide +kernel
theorem dL_number_22 : decode cL_number 22 = .ok (.iadd, 1) := by decide +kernel
theorem dL_number_23 : decode cL_number 23 = .ok (.invokestatic 210, 3) := by decide +kernel
theorem dL_number_26 : decode cL_number 26 = .ok (.ifCond .eq 21, 3) := by decide +kernel
theorem dL_number_29 : decode cL_number 29 = .ok (.aload_n 0, 1) := by decide +kernel
theorem dL_number_30 : decode cL_number 30 = .ok (.bipush 48, 2) := by decide +kernel
theorem dL_number_32 : decode cL_number 32 = .ok (.iload_n 1, 1) := by decide +kernel
theorem dL_number_33 : decode cL_number 33 = .ok (.bipush 10, 2) := by decide +kernel
theorem dL_number_35 : decode cL_number 35 = .ok (.irem, 1) := by decide +kernel
theorem dL_number_36 : decode cL_number 36 = .ok (.iadd, 1) := by decide +kernel
theorem dL_number_37 : decode cL_number 37 = .ok (.invokestatic 210, 3) := by decide +kernel
theorem dL_number_40 : decode cL_number 40 = .ok (.ifCond .eq 7, 3) := by decide +kernel
theorem dL_number_43 : decode cL_number 43 = .ok (.iconst 1, 1) := by decide +kernel
theorem dL_number_44 : decode cL_number 44 = .ok (.goto 4, 3) := by decide +kernel
theorem dL_number_47 : decode cL_number 47 = .ok (.iconst 0, 1) := by decide +kernel
theorem dL_number_48 : decode cL_number 48 = .ok (.ireturn, 1) := by decide +kernel
theorem dL_tells_0 : decode cL_tells 0 = .ok (.aload_n 0, 1) := by decide +kernel
theorem dL_tells_1 : decode cL_tells 1 = .ok (.invokevirtual 214, 3) := by decide +kernel
theorem dL_tells_4 : decode cL_tells 4 = .ok (.ifCond .lt 7, 3) := by decide +kernel
theorem dL_tells_7 : decode cL_tells 7 = .ok (.iconst 1, 1) := by decide +kernel
theorem dL_tells_8 : decode cL_tells 8 = .ok (.goto 4, 3) := by decide +kernel
theorem dL_tells_11 : decode cL_tells 11 = .ok (.iconst 0, 1) := by decide +kernel
theorem dL_tells_12 : decode cL_tells 12 = .ok (.istore_n 3, 1) := by decide +kernel
theorem dL_tells_13 : decode cL_tells 13 = .ok (.iconst 0, 1) := by decide +kernel
theorem dL_tells_14 : decode cL_tells 14 = .ok (.istore 4, 2) := by decide +kernel
theorem dL_tells_16 : decode cL_tells 16 = .ok (.iload 4, 2) := by decide +kernel
theorem dL_tells_18 : decode cL_tells 18 = .ok (.iconst 3, 1) := by decide +kernel
theorem dL_tells_19 : decode cL_tells 19 = .ok (.if_icmp .ge 238, 3) := by decide +kernel
theorem dL_tells_22 : decode cL_tells 22 = .ok (.iload_n 3, 1) := by decide +kernel
theorem dL_tells_23 : decode cL_tells 23 = .ok (.ifCond .eq 234, 3) := by decide +kernel
theorem dL_tells_26 : decode cL_tells 26 = .ok (.iload_n 1, 1) := by decide +kernel
theorem dL_tells_27 : decode cL_tells 27 = .ok (.iload 4, 2) := by decide +kernel
theorem dL_tells_29 : decode cL_tells 29 = .ok (.ishr, 1) := by decide +kernel
theorem dL_tells_30 : decode cL_tells 30 = .ok (.ldc 217, 2) := by decide +kernel
theorem dL_tells_32 : decode cL_tells 32 = .ok (.irem, 1) := by decide +kernel
theorem dL_tells_33 : decode cL_tells 33 = .ok (.bipush 107, 2) := by decide +kernel
theorem dL_tells_35 : decode cL_tells 35 = .ok (.iload 4, 2) := by decide +kernel
theorem dL_tells_37 : decode cL_tells 37 = .ok (.imul, 1) := by decide +kernel
theorem dL_tells_38 : decode cL_tells 38 = .ok (.iadd, 1) := by decide +kernel
theorem dL_tells_39 : decode cL_tells 39 = .ok (.istore 5, 2) := by decide +kernel
theorem dL_tells_41 : decode cL_tells 41 = .ok (.iload_n 2, 1) := by decide +kernel
theorem dL_tells_42 : decode cL_tells 42 = .ok (.iload 4, 2) := by decide +kernel
theorem dL_tells_44 : decode cL_tells 44 = .ok (.ishr, 1) := by decide +kernel
theorem dL_tells_45 : decode cL_tells 45 = .ok (.ldc 217, 2) := by decide +kernel
theorem dL_tells_47 : decode cL_tells 47 = .ok (.irem, 1) := by decide +kernel
theorem dL_tells_48 : decode cL_tells 48 = .ok (.bipush 109, 2) := by decide +kernel
theorem dL_tells_50 : decode cL_tells 50 = .ok (.iload 4, 2) := by decide +kernel
theorem dL_tells_52 : decode cL_tells 52 = .ok (.imul, 1) := by decide +kernel
theorem dL_tells_53 : decode cL_tells 53 = .ok (.iadd, 1) := by decide +kernel
theorem dL_tells_54 : decode cL_tells 54 = .ok (.istore 6, 2) := by decide +kernel
theorem dL_tells_56 : decode cL_tells 56 = .ok (.bipush 20, 2) := by decide +kernel
theorem dL_tells_58 : decode cL_tells 58 = .ok (.iload 5, 2) := by decide +kernel
theorem dL_tells_60 : decode cL_tells 60 = .ok (.bipush 80, 2) := by decide +kernel
theorem dL_tells_62 : decode cL_tells 62 = .ok (.irem, 1) := by decide +kernel
theorem dL_tells_63 : decode cL_tells 63 = .ok (.iadd, 1) := by decide +kernel
theorem dL_tells_64 : decode cL_tells 64 = .ok (.istore 7, 2) := by decide +kernel
theorem dL_tells_66 : decode cL_tells 66 = .ok (.aload_n 0, 1) := by decide +kernel
theorem dL_tells_67 : decode cL_tells 67 = .ok (.bipush 98, 2) := by decide +kernel
theorem dL_tells_69 : decode cL_tells 69 = .ok (.invokestatic 210, 3) := by decide +kernel
theorem dL_tells_72 : decode cL_tells 72 = .ok (.ifCond .eq 177, 3) := by decide +kernel
theorem dL_tells_75 : decode cL_tells 75 = .ok (.aload_n 0, 1) := by decide +kernel
theorem dL_tells_76 : decode cL_tells 76 = .ok (.bipush 117, 2) := by decide +kernel
theorem dL_tells_78 : decode cL_tells 78 = .ok (.invokestatic 210, 3) := by decide +kernel
theorem dL_tells_81 : decode cL_tells 81 = .ok (.ifCond .eq 168, 3) := by decide +kernel
theorem dL_tells_84 : decode cL_tells 84 = .ok (.aload_n 0, 1) := by decide +kernel
theorem dL_tells_85 : decode cL_tells 85 = .ok (.bipush 115, 2) := by decide +kernel
theorem dL_tells_87 : decode cL_tells 87 = .ok (.invokestatic 210, 3) := by decide +kernel
theorem dL_tells_90 : decode cL_tells 90 = .ok (.ifCond .eq 159, 3) := by decide +kernel
theorem dL_tells_93 : decode cL_tells 93 = .ok (.aload_n 0, 1) := by decide +kernel
theorem dL_tells_94 : decode cL_tells 94 = .ok (.iload 7, 2) := by decide +kernel
theorem dL_tells_96 : decode cL_tells 96 = .ok (.invokestatic 218, 3) := by decide +kernel
theorem dL_tells_99 : decode cL_tells 99 = .ok (.ifCond .eq 150, 3) := by decide +kernel
theorem dL_tells_102 : decode cL_tells 102 = .ok (.aload_n 0, 1) := by decide +kernel
theorem dL_tells_103 : decode cL_tells 103 = .ok (.iload 5, 2) := by decide +kernel
theorem dL_tells_105 : decode cL_tells 105 = .ok (.bipush 80, 2) := by decide +kernel
theorem dL_tells_107 : decode cL_tells 107 = .ok (.idiv, 1) := by decide +kernel
theorem dL_tells_108 : decode cL_tells 108 = .ok (.iload 7, 2) := by decide +kernel
theorem dL_tells_110 : decode cL_tells 110 = .ok (.iconst 1, 1) := by decide +kernel
theorem dL_tells_111 : decode cL_tells 111 = .ok (.iadd, 1) := by decide +kernel
theorem dL_tells_112 : decode cL_tells 112 = .ok (.irem, 1) := by decide +kernel
theorem dL_tells_113 : decode cL_tells 113 = .ok (.invokestatic 218, 3) := by decide +kernel
theorem dL_tells_116 : decode cL_tells 116 = .ok (.ifCond .eq 133, 3) := by decide +kernel
theorem dL_tells_119 : decode cL_tells 119 = .ok (.aload_n 0, 1) := by decide +kernel
theorem dL_tells_120 : decode cL_tells 120 = .ok (.iconst 1, 1) := by decide +kernel
theorem dL_tells_121 : decode cL_tells 121 = .ok (.iload 6, 2) := by decide +kernel
theorem dL_tells_123 : decode cL_tells 123 = .ok (.bipush 60, 2) := by decide +kernel
theorem dL_tells_125 : decode cL_tells 125 = .ok (.irem, 1) := by decide +kernel
theorem dL_tells_126 : decode cL_tells 126 = .ok (.iadd, 1) := by decide +kernel
theorem dL_tells_127 : decode cL_tells 127 = .ok (.invokestatic 218, 3) := by decide +kernel
theorem dL_tells_130 : decode cL_tells 130 = .ok (.ifCond .eq 119, 3) := by decide +kernel
theorem dL_tells_133 : decode cL_tells 133 = .ok (.aload_n 0, 1) := by decide +kernel
theorem dL_tells_134 : decode cL_tells 134 = .ok (.iload 6, 2) := by decide +kernel
theorem dL_tells_136 : decode cL_tells 136 = .ok (.bipush 60, 2) := by decide +kernel
theorem dL_tells_138 : decode cL_tells 138 = .ok (.idiv, 1) := by decide +kernel
theorem dL_tells_139 : decode cL_tells 139 = .ok (.bipush 24, 2) := by decide +kernel
theorem dL_tells_141 : decode cL_tells 141 = .ok (.irem, 1) := by decide +kernel
theorem dL_tells_142 : decode cL_tells 142 = .ok (.invokestatic 218, 3) := by decide +kernel
theorem dL_tells_145 : decode cL_tells 145 = .ok (.ifCond .eq 104, 3) := by decide +kernel
theorem dL_tells_148 : decode cL_tells 148 = .ok (.aload_n 0, 1) := by decide +kernel
theorem dL_tells_149 : decode cL_tells 149 = .ok (.iload 6, 2) := by decide +kernel
theorem dL_tells_151 : decode cL_tells 151 = .ok (.bipush 60, 2) := by decide +kernel
theorem dL_tells_153 : decode cL_tells 153 = .ok (.idiv, 1) := by decide +kernel
theorem dL_tells_154 : decode cL_tells 154 = .ok (.iconst 1, 1) := by decide +kernel
theorem dL_tells_155 : decode cL_tells 155 = .ok (.iadd, 1) := by decide +kernel
theorem dL_tells_156 : decode cL_tells 156 = .ok (.iload 5, 2) := by decide +kernel
theorem dL_tells_158 : decode cL_tells 158 = .ok (.bipush 9, 2) := by decide +kernel
theorem dL_tells_160 : decode cL_tells 160 = .ok (.idiv, 1) := by decide +kernel
theorem dL_tells_161 : decode cL_tells 161 = .ok (.bipush 23, 2) := by decide +kernel
theorem dL_tells_163 : decode cL_tells 163 = .ok (.irem, 1) := by decide +kernel
theorem dL_tells_164 : decode cL_tells 164 = .ok (.iadd, 1) := by decide +kernel
theorem dL_tells_165 : decode cL_tells 165 = .ok (.bipush 24, 2) := by decide +kernel
theorem dL_tells_167 : decode cL_tells 167 = .ok (.irem, 1) := by decide +kernel
theorem dL_tells_168 : decode cL_tells 168 = .ok (.invokestatic 218, 3) := by decide +kernel
theorem dL_tells_171 : decode cL_tells 171 = .ok (.ifCond .eq 78, 3) := by decide +kernel
theorem dL_tells_174 : decode cL_tells 174 = .ok (.aload_n 0, 1) := by decide +kernel
theorem dL_tells_175 : decode cL_tells 175 = .ok (.bipush 59, 2) := by decide +kernel
theorem dL_tells_177 : decode cL_tells 177 = .ok (.invokestatic 210, 3) := by decide +kernel
theorem dL_tells_180 : decode cL_tells 180 = .ok (.ifCond .eq 69, 3) := by decide +kernel
theorem dL_tells_183 : decode cL_tells 183 = .ok (.aload_n 0, 1) := by decide +kernel
theorem dL_tells_184 : decode cL_tells 184 = .ok (.bipush 112, 2) := by decide +kernel
theorem dL_tells_186 : decode cL_tells 186 = .ok (.invokestatic 210, 3) := by decide +kernel
theorem dL_tells_189 : decode cL_tells 189 = .ok (.ifCond .eq 60, 3) := by decide +kernel
theorem dL_tells_192 : decode cL_tells 192 = .ok (.aload_n 0, 1) := by decide +kernel
theorem dL_tells_193 : decode cL_tells 193 = .ok (.bipush 108, 2) := by decide +kernel
theorem dL_tells_195 : decode cL_tells 195 = .ok (.invokestatic 210, 3) := by decide +kernel
theorem dL_tells_198 : decode cL_tells 198 = .ok (.ifCond .eq 51, 3) := by decide +kernel
theorem dL_tells_201 : decode cL_tells 201 = .ok (.aload_n 0, 1) := by decide +kernel
theorem dL_tells_202 : decode cL_tells 202 = .ok (.bipush 117, 2) := by decide +kernel
theorem dL_tells_204 : decode cL_tells 204 = .ok (.invokestatic 210, 3) := by decide +kernel
theorem dL_tells_207 : decode cL_tells 207 = .ok (.ifCond .eq 42, 3) := by decide +kernel
theorem dL_tells_210 : decode cL_tells 210 = .ok (.aload_n 0, 1) := by decide +kernel
theorem dL_tells_211 : decode cL_tells 211 = .ok (.bipush 103, 2) := by decide +kernel
theorem dL_tells_213 : decode cL_tells 213 = .ok (.invokestatic 210, 3) := by decide +kernel
theorem dL_tells_216 : decode cL_tells 216 = .ok (.ifCond .eq 33, 3) := by decide +kernel
theorem dL_tells_219 : decode cL_tells 219 = .ok (.aload_n 0, 1) := by decide +kernel
theorem dL_tells_220 : decode cL_tells 220 = .ok (.iconst 1, 1) := by decide +kernel
theorem dL_tells_221 : decode cL_tells 221 = .ok (.iload 6, 2) := by decide +kernel
theorem dL_tells_223 : decode cL_tells 223 = .ok (.bipush 7, 2) := by decide +kernel
theorem dL_tells_225 : decode cL_tells 225 = .ok (.idiv, 1) := by decide +kernel
theorem dL_tells_226 : decode cL_tells 226 = .ok (.bipush 30, 2) := by decide +kernel
theorem dL_tells_228 : decode cL_tells 228 = .ok (.irem, 1) := by decide +kernel
theorem dL_tells_229 : decode cL_tells 229 = .ok (.iadd, 1) := by decide +kernel
theorem dL_tells_230 : decode cL_tells 230 = .ok (.invokestatic 218, 3) := by decide +kernel
theorem dL_tells_233 : decode cL_tells 233 = .ok (.ifCond .eq 16, 3) := by decide +kernel
theorem dL_tells_236 : decode cL_tells 236 = .ok (.aload_n 0, 1) := by decide +kernel
theorem dL_tells_237 : decode cL_tells 237 = .ok (.bipush 59, 2) := by decide +kernel
theorem dL_tells_239 : decode cL_tells 239 = .ok (.invokestatic 210, 3) := by decide +kernel
theorem dL_tells_242 : decode cL_tells 242 = .ok (.ifCond .eq 7, 3) := by decide +kernel
theorem dL_tells_245 : decode cL_tells 245 = .ok (.iconst 1, 1) := by decide +kernel
theorem dL_tells_246 : decode cL_tells 246 = .ok (.goto 4, 3) := by decide +kernel
theorem dL_tells_249 : decode cL_tells 249 = .ok (.iconst 0, 1) := by decide +kernel
theorem dL_tells_250 : decode cL_tells 250 = .ok (.istore_n 3, 1) := by decide +kernel
theorem dL_tells_251 : decode cL_tells 251 = .ok (.iinc 4 1, 3) := by decide +kernel
theorem dL_tells_254 : decode cL_tells 254 = .ok (.goto (-238), 3) := by decide +kernel
theorem dL_tells_257 : decode cL_tells 257 = .ok (.iload_n 3, 1) := by decide +kernel
theorem dL_tells_258 : decode cL_tells 258 = .ok (.ifCond .eq 55, 3) := by decide +kernel
theorem dL_tells_261 : decode cL_tells 261 = .ok (.aload_n 0, 1) := by decide +kernel
theorem dL_tells_262 : decode cL_tells 262 = .ok (.bipush 114, 2) := by decide +kernel
theorem dL_tells_264 : decode cL_tells 264 = .ok (.invokestatic 210, 3) := by decide +kernel
theorem dL_tells_267 : decode cL_tells 267 = .ok (.ifCond .eq 46, 3) := by decide +kernel
theorem dL_tells_270 : decode cL_tells 270 = .ok (.aload_n 0, 1) := by decide +kernel
theorem dL_tells_271 : decode cL_tells 271 = .ok (.bipush 117, 2) := by decide +kernel
theorem dL_tells_273 : decode cL_tells 273 = .ok (.invokestatic 210, 3) := by decide +kernel
theorem dL_tells_276 : decode cL_tells 276 = .ok (.ifCond .eq 37, 3) := by decide +kernel
theorem dL_tells_279 : decode cL_tells 279 = .ok (.aload_n 0, 1) := by decide +kernel
theorem dL_tells_280 : decode cL_tells 280 = .ok (.bipush 110, 2) := by decide +kernel
theorem dL_tells_282 : decode cL_tells 282 = .ok (.invokestatic 210, 3) := by decide +kernel
theorem dL_tells_285 : decode cL_tells 285 = .ok (.ifCond .eq 28, 3) := by decide +kernel
theorem dL_tells_288 : decode cL_tells 288 = .ok (.aload_n 0, 1) := by decide +kernel
theorem dL_tells_289 : decode cL_tells 289 = .ok (.iconst 1, 1) := by decide +kernel
theorem dL_tells_290 : decode cL_tells 290 = .ok (.iload_n 2, 1) := by decide +kernel
theorem dL_tells_291 : decode cL_tells 291 = .ok (.bipush 48, 2) := by decide +kernel
theorem dL_tells_293 : decode cL_tells 293 = .ok (.irem, 1) := by decide +kernel
theorem dL_tells_294 : decode cL_tells 294 = .ok (.iadd, 1) := by decide +kernel
theorem dL_tells_295 : decode cL_tells 295 = .ok (.invokestatic 218, 3) := by decide +kernel
theorem dL_tells_298 : decode cL_tells 298 = .ok (.ifCond .eq 15, 3) := by decide +kernel
theorem dL_tells_301 : decode cL_tells 301 = .ok (.aload_n 0, 1) := by decide +kernel
theorem dL_tells_302 : decode cL_tells 302 = .ok (.invokevirtual 205, 3) := by decide +kernel
theorem dL_tells_305 : decode cL_tells 305 = .ok (.iconst (-1), 1) := by decide +kernel
theorem dL_tells_306 : decode cL_tells 306 = .ok (.if_icmp .ne 7, 3) := by decide +kernel
theorem dL_tells_309 : decode cL_tells 309 = .ok (.iconst 1, 1) := by decide +kernel
theorem dL_tells_310 : decode cL_tells 310 = .ok (.goto 4, 3) := by decide +kernel
theorem dL_tells_313 : decode cL_tells 313 = .ok (.iconst 0, 1) := by decide +kernel
theorem dL_tells_314 : decode cL_tells 314 = .ok (.ireturn, 1) := by decide +kernel
theorem dL_act_0 : decode cL_act 0 = .ok (.iload_n 2, 1) := by decide +kernel
theorem dL_act_1 : decode cL_act 1 = .ok (.iconst 4, 1) := by decide +kernel
theorem dL_act_2 : decode cL_act 2 = .ok (.idiv, 1) := by decide +kernel
theorem dL_act_3 : decode cL_act 3 = .ok (.istore_n 3, 1) := by decide +kernel
theorem dL_act_4 : decode cL_act 4 = .ok (.aload_n 0, 1) := by decide +kernel
theorem dL_act_5 : decode cL_act 5 = .ok (.iconst 0, 1) := by decide +kernel
theorem dL_act_6 : decode cL_act 6 = .ok (.invokestatic 103, 3) := by decide +kernel
theorem dL_act_9 : decode cL_act 9 = .ok (.l2i, 1) := by decide +kernel
theorem dL_act_10 : decode cL_act 10 = .ok (.istore 4, 2) := by decide +kernel
theorem dL_act_12 : decode cL_act 12 = .ok (.iload 4, 2) := by decide +kernel
theorem dL_act_14 : decode cL_act 14 = .ok (.ifCond .eq 10, 3) := by decide +kernel
theorem dL_act_17 : decode cL_act 17 = .ok (.iload_n 3, 1) := by decide +kernel
theorem dL_act_18 : decode cL_act 18 = .ok (.bipush 13, 2) := by decide +kernel
theorem dL_act_20 : decode cL_act 20 = .ok (.irem, 1) := by decide +kernel
theorem dL_act_21 : decode cL_act 21 = .ok (.ifCond .ne 10, 3) := by decide +kernel
theorem dL_act_24 : decode cL_act 24 = .ok (.iload_n 3, 1) := by decide +kernel
theorem dL_act_25 : decode cL_act 25 = .ok (.bipush 8, 2) := by decide +kernel
theorem dL_act_27 : decode cL_act 27 = .ok (.irem, 1) := by decide +kernel
theorem dL_act_28 : decode cL_act 28 = .ok (.goto 7, 3) := by decide +kernel
theorem dL_act_31 : decode cL_act 31 = .ok (.iload_n 3, 1) := by decide +kernel
theorem dL_act_32 : decode cL_act 32 = .ok (.iload 4, 2) := by decide +kernel
theorem dL_act_34 : decode cL_act 34 = .ok (.irem, 1) := by decide +kernel
theorem dL_act_35 : decode cL_act 35 = .ok (.istore 5, 2) := by decide +kernel
theorem dL_act_37 : decode cL_act 37 = .ok (.iload_n 1, 1) := by decide +kernel
theorem dL_act_38 : decode cL_act 38 = .ok (.bipush 24, 2) := by decide +kernel
theorem dL_act_40 : decode cL_act 40 = .ok (.irem, 1) := by decide +kernel
theorem dL_act_41 : decode cL_act 41 = .ok (.tableswitch 259 0 11 #[63, 63, 112, 123, 123, 123, 155, 155, 173, 173, 226, 231], 63) := by decide +kernel
theorem dL_act_104 : decode cL_act 104 = .ok (.bipush 10, 2) := by decide +kernel
theorem dL_act_106 : decode cL_act 106 = .ok (.iload_n 3, 1) := by decide +kernel
theorem dL_act_107 : decode cL_act 107 = .ok (.bipush 100, 2) := by decide +kernel
theorem dL_act_109 : decode cL_act 109 = .ok (.irem, 1) := by decide +kernel
theorem dL_act_110 : decode cL_act 110 = .ok (.iadd, 1) := by decide +kernel
theorem dL_act_111 : decode cL_act 111 = .ok (.istore 6, 2) := by decide +kernel
theorem dL_act_113 : decode cL_act 113 = .ok (.aload_n 0, 1) := by decide +kernel
theorem dL_act_114 : decode cL_act 114 = .ok (.iload 6, 2) := by decide +kernel
theorem dL_act_116 : decode cL_act 116 = .ok (.iload_n 3, 1) := by decide +kernel
theorem dL_act_117 : decode cL_act 117 = .ok (.bipush 100, 2) := by decide +kernel
theorem dL_act_119 : decode cL_act 119 = .ok (.idiv, 1) := by decide +kernel
theorem dL_act_120 : decode cL_act 120 = .ok (.iload 6, 2) := by decide +kernel
theorem dL_act_122 : decode cL_act 122 = .ok (.iconst 1, 1) := by decide +kernel
theorem dL_act_123 : decode cL_act 123 = .ok (.iadd, 1) := by decide +kernel
theorem dL_act_124 : decode cL_act 124 = .ok (.irem, 1) := by decide +kernel
theorem dL_act_125 : decode cL_act 125 = .ok (.iconst 1, 1) := by decide +kernel
theorem dL_act_126 : decode cL_act 126 = .ok (.iload_n 3, 1) := by decide +kernel
theorem dL_act_127 : decode cL_act 127 = .ok (.bipush 7, 2) := by decide +kernel
theorem dL_act_129 : decode cL_act 129 = .ok (.idiv, 1) := by decide +kernel
theorem dL_act_130 : decode cL_act 130 = .ok (.bipush 90, 2) := by decide +kernel
theorem dL_act_132 : decode cL_act 132 = .ok (.irem, 1) := by decide +kernel
theorem dL_act_133 : decode cL_act 133 = .ok (.iadd, 1) := by decide +kernel
theorem dL_act_134 : decode cL_act 134 = .ok (.iload_n 3, 1) := by decide +kernel
theorem dL_act_135 : decode cL_act 135 = .ok (.bipush 11, 2) := by decide +kernel
theorem dL_act_137 : decode cL_act 137 = .ok (.idiv, 1) := by decide +kernel
theorem dL_act_138 : decode cL_act 138 = .ok (.bipush 24, 2) := by decide +kernel
theorem dL_act_140 : decode cL_act 140 = .ok (.irem, 1) := by decide +kernel
theorem dL_act_141 : decode cL_act 141 = .ok (.iload_n 3, 1) := by decide +kernel
theorem dL_act_142 : decode cL_act 142 = .ok (.sipush 264, 3) := by decide +kernel
theorem dL_act_145 : decode cL_act 145 = .ok (.idiv, 1) := by decide +kernel
theorem dL_act_146 : decode cL_act 146 = .ok (.bipush 24, 2) := by decide +kernel
theorem dL_act_148 : decode cL_act 148 = .ok (.irem, 1) := by decide +kernel
theorem dL_act_149 : decode cL_act 149 = .ok (.invokestatic 121, 3) := by decide +kernel
theorem dL_act_152 : decode cL_act 152 = .ok (.lreturn, 1) := by decide +kernel
theorem dL_act_153 : decode cL_act 153 = .ok (.aload_n 0, 1) := by decide +kernel
theorem dL_act_154 : decode cL_act 154 = .ok (.iconst 1, 1) := by decide +kernel
theorem dL_act_155 : decode cL_act 155 = .ok (.iload_n 3, 1) := by decide +kernel
theorem dL_act_156 : decode cL_act 156 = .ok (.bipush 50, 2) := by decide +kernel
theorem dL_act_158 : decode cL_act 158 = .ok (.irem, 1) := by decide +kernel
theorem dL_act_159 : decode cL_act 159 = .ok (.iadd, 1) := by decide +kernel
theorem dL_act_160 : decode cL_act 160 = .ok (.invokestatic 124, 3) := by decide +kernel
theorem dL_act_163 : decode cL_act 163 = .ok (.lreturn, 1) := by decide +kernel
theorem dL_act_164 : decode cL_act 164 = .ok (.aload_n 0, 1) := by decide +kernel
theorem dL_act_165 : decode cL_act 165 = .ok (.iload 5, 2) := by decide +kernel
theorem dL_act_167 : decode cL_act 167 = .ok (.iconst 1, 1) := by decide +kernel
theorem dL_act_168 : decode cL_act 168 = .ok (.iload_n 3, 1) := by decide +kernel
theorem dL_act_169 : decode cL_act 169 = .ok (.bipush 8, 2) := by decide +kernel
theorem dL_act_171 : decode cL_act 171 = .ok (.idiv, 1) := by decide +kernel
theorem dL_act_172 : decode cL_act 172 = .ok (.bipush 90, 2) := by decide +kernel
theorem dL_act_174 : decode cL_act 174 = .ok (.irem, 1) := by decide +kernel
theorem dL_act_175 : decode cL_act 175 = .ok (.iadd, 1) := by decide +kernel
theorem dL_act_176 : decode cL_act 176 = .ok (.iload_n 3, 1) := by decide +kernel
theorem dL_act_177 : decode cL_act 177 = .ok (.sipush 720, 3) := by decide +kernel
theorem dL_act_180 : decode cL_act 180 = .ok (.idiv, 1) := by decide +kernel
theorem dL_act_181 : decode cL_act 181 = .ok (.bipush 24, 2) := by decide +kernel
theorem dL_act_183 : decode cL_act 183 = .ok (.irem, 1) := by decide +kernel
theorem dL_act_184 : decode cL_act 184 = .ok (.iload_n 3, 1) := by decide +kernel
theorem dL_act_185 : decode cL_act 185 = .ok (.sipush 17280, 3) := by decide +kernel
theorem dL_act_188 : decode cL_act 188 = .ok (.idiv, 1) := by decide +kernel
theorem dL_act_189 : decode cL_act 189 = .ok (.bipush 24, 2) := by decide +kernel
theorem dL_act_191 : decode cL_act 191 = .ok (.irem, 1) := by decide +kernel
theorem dL_act_192 : decode cL_act 192 = .ok (.invokestatic 128, 3) := by decide +kernel
theorem dL_act_195 : decode cL_act 195 = .ok (.lreturn, 1) := by decide +kernel
theorem dL_act_196 : decode cL_act 196 = .ok (.aload_n 0, 1) := by decide +kernel
theorem dL_act_197 : decode cL_act 197 = .ok (.iload 5, 2) := by decide +kernel
theorem dL_act_199 : decode cL_act 199 = .ok (.bipush 10, 2) := by decide +kernel
theorem dL_act_201 : decode cL_act 201 = .ok (.iload_n 3, 1) := by decide +kernel
theorem dL_act_202 : decode cL_act 202 = .ok (.bipush 8, 2) := by decide +kernel
theorem dL_act_204 : decode cL_act 204 = .ok (.idiv, 1) := by decide +kernel
theorem dL_act_205 : decode cL_act 205 = .ok (.sipush 150, 3) := by decide +kernel
theorem dL_act_208 : decode cL_act 208 = .ok (.irem, 1) := by decide +kernel
theorem dL_act_209 : decode cL_act 209 = .ok (.iadd, 1) := by decide +kernel
theorem dL_act_210 : decode cL_act 210 = .ok (.invokestatic 131, 3) := by decide +kernel
theorem dL_act_213 : decode cL_act 213 = .ok (.lreturn, 1) := by decide +kernel
theorem dL_act_214 : decode cL_act 214 = .ok (.iload_n 3, 1) := by decide +kernel
theorem dL_act_215 : decode cL_act 215 = .ok (.bipush 6, 2) := by decide +kernel
theorem dL_act_217 : decode cL_act 217 = .ok (.irem, 1) := by decide +kernel
theorem dL_act_218 : decode cL_act 218 = .ok (.istore 6, 2) := by decide +kernel
theorem dL_act_220 : decode cL_act 220 = .ok (.aload_n 0, 1) := by decide +kernel
theorem dL_act_221 : decode cL_act 221 = .ok (.iload 6, 2) := by decide +kernel
theorem dL_act_223 : decode cL_act 223 = .ok (.iload 6, 2) := by decide +kernel
theorem dL_act_225 : decode cL_act 225 = .ok (.ifCond .ne 13, 3) := by decide +kernel
theorem dL_act_228 : decode cL_act 228 = .ok (.iload_n 3, 1) := by decide +kernel
theorem dL_act_229 : decode cL_act 229 = .ok (.bipush 6, 2) := by decide +kernel
theorem dL_act_231 : decode cL_act 231 = .ok (.idiv, 1) := by decide +kernel
theorem dL_act_232 : decode cL_act 232 = .ok (.bipush 120, 2) := by decide +kernel
theorem dL_act_234 : decode cL_act 234 = .ok (.irem, 1) := by decide +kernel
theorem dL_act_235 : decode cL_act 235 = .ok (.goto 28, 3) := by decide +kernel
theorem dL_act_238 : decode cL_act 238 = .ok (.iload 6, 2) := by decide +kernel
theorem dL_act_240 : decode cL_act 240 = .ok (.iconst 5, 1) := by decide +kernel
theorem dL_act_241 : decode cL_act 241 = .ok (.if_icmp .ne 13, 3) := by decide +kernel
theorem dL_act_244 : decode cL_act 244 = .ok (.iload_n 3, 1) := by decide +kernel
theorem dL_act_245 : decode cL_act 245 = .ok (.bipush 6, 2) := by decide +kernel
theorem dL_act_247 : decode cL_act 247 = .ok (.idiv, 1) := by decide +kernel
theorem dL_act_248 : decode cL_act 248 = .ok (.bipush 24, 2) := by decide +kernel
theorem dL_act_250 : decode cL_act 250 = .ok (.irem, 1) := by decide +kernel
theorem dL_act_251 : decode cL_act 251 = .ok (.goto 12, 3) := by decide +kernel
theorem dL_act_254 : decode cL_act 254 = .ok (.iconst 1, 1) := by decide +kernel
theorem dL_act_255 : decode cL_act 255 = .ok (.iload_n 3, 1) := by decide +kernel
theorem dL_act_256 : decode cL_act 256 = .ok (.bipush 6, 2) := by decide +kernel
theorem dL_act_258 : decode cL_act 258 = .ok (.idiv, 1) := by decide +kernel
theorem dL_act_259 : decode cL_act 259 = .ok (.bipush 30, 2) := by decide +kernel
theorem dL_act_261 : decode cL_act 261 = .ok (.irem, 1) := by decide +kernel
theorem dL_act_262 : decode cL_act 262 = .ok (.iadd, 1) := by decide +kernel
theorem dL_act_263 : decode cL_act 263 = .ok (.invokestatic 135, 3) := by decide +kernel
theorem dL_act_266 : decode cL_act 266 = .ok (.lreturn, 1) := by decide +kernel
theorem dL_act_267 : decode cL_act 267 = .ok (.aload_n 0, 1) := by decide +kernel
theorem dL_act_268 : decode cL_act 268 = .ok (.invokestatic 197, 3) := by decide +kernel
theorem dL_act_271 : decode cL_act 271 = .ok (.lreturn, 1) := by decide +kernel
theorem dL_act_272 : decode cL_act 272 = .ok (.iload_n 3, 1) := by decide +kernel
theorem dL_act_273 : decode cL_act 273 = .ok (.iconst 2, 1) := by decide +kernel
theorem dL_act_274 : decode cL_act 274 = .ok (.irem, 1) := by decide +kernel
theorem dL_act_275 : decode cL_act 275 = .ok (.ifCond .ne 15, 3) := by decide +kernel
theorem dL_act_278 : decode cL_act 278 = .ok (.aload_n 0, 1) := by decide +kernel
theorem dL_act_279 : decode cL_act 279 = .ok (.iload_n 3, 1) := by decide +kernel
theorem dL_act_280 : decode cL_act 280 = .ok (.iconst 2, 1) := by decide +kernel
theorem dL_act_281 : decode cL_act 281 = .ok (.idiv, 1) := by decide +kernel
theorem dL_act_282 : decode cL_act 282 = .ok (.iconst 1, 1) := by decide +kernel
theorem dL_act_283 : decode cL_act 283 = .ok (.iand, 1) := by decide +kernel
theorem dL_act_284 : decode cL_act 284 = .ok (.invokestatic 154, 3) := by decide +kernel
theorem dL_act_287 : decode cL_act 287 = .ok (.goto 12, 3) := by decide +kernel
theorem dL_act_290 : decode cL_act 290 = .ok (.aload_n 0, 1) := by decide +kernel
theorem dL_act_291 : decode cL_act 291 = .ok (.iload_n 3, 1) := by decide +kernel
theorem dL_act_292 : decode cL_act 292 = .ok (.iconst 2, 1) := by decide +kernel
theorem dL_act_293 : decode cL_act 293 = .ok (.idiv, 1) := by decide +kernel
theorem dL_act_294 : decode cL_act 294 = .ok (.iconst 1, 1) := by decide +kernel
theorem dL_act_295 : decode cL_act 295 = .ok (.iand, 1) := by decide +kernel
theorem dL_act_296 : decode cL_act 296 = .ok (.invokestatic 156, 3) := by decide +kernel
theorem dL_act_299 : decode cL_act 299 = .ok (.lreturn, 1) := by decide +kernel
theorem dL_act_300 : decode cL_act 300 = .ok (.aload_n 0, 1) := by decide +kernel
theorem dL_act_301 : decode cL_act 301 = .ok (.iconst 1, 1) := by decide +kernel
theorem dL_act_302 : decode cL_act 302 = .ok (.iload_n 3, 1) := by decide +kernel
theorem dL_act_303 : decode cL_act 303 = .ok (.iload_n 3, 1) := by decide +kernel
theorem dL_act_304 : decode cL_act 304 = .ok (.iconst 4, 1) := by decide +kernel
theorem dL_act_305 : decode cL_act 305 = .ok (.irem, 1) := by decide +kernel
theorem dL_act_306 : decode cL_act 306 = .ok (.ifCond .ne 8, 3) := by decide +kernel
theorem dL_act_309 : decode cL_act 309 = .ok (.bipush 48, 2) := by decide +kernel
theorem dL_act_311 : decode cL_act 311 = .ok (.goto 5, 3) := by decide +kernel
theorem dL_act_314 : decode cL_act 314 = .ok (.bipush 6, 2) := by decide +kernel
theorem dL_act_316 : decode cL_act 316 = .ok (.irem, 1) := by decide +kernel
theorem dL_act_317 : decode cL_act 317 = .ok (.iadd, 1) := by decide +kernel
theorem dL_act_318 : decode cL_act 318 = .ok (.invokestatic 133, 3) := by decide +kernel
theorem dL_act_321 : decode cL_act 321 = .ok (.lreturn, 1) := by decide +kernel
theorem dL_law_0 : decode cL_law 0 = .ok (.new 10, 3) := by decide +kernel
theorem dL_law_3 : decode cL_law 3 = .ok (.dup, 1) := by decide +kernel
theorem dL_law_4 : decode cL_law 4 = .ok (.invokespecial 221, 3) := by decide +kernel
theorem dL_law_7 : decode cL_law 7 = .ok (.astore_n 1, 1) := by decide +kernel
theorem dL_law_8 : decode cL_law 8 = .ok (.new 10, 3) := by decide +kernel
theorem dL_law_11 : decode cL_law 11 = .ok (.dup, 1) := by decide +kernel
theorem dL_law_12 : decode cL_law 12 = .ok (.invokespecial 221, 3) := by decide +kernel
theorem dL_law_15 : decode cL_law 15 = .ok (.astore_n 2, 1) := by decide +kernel
theorem dL_law_16 : decode cL_law 16 = .ok (.aload_n 1, 1) := by decide +kernel
theorem dL_law_17 : decode cL_law 17 = .ok (.aload_n 2, 1) := by decide +kernel
theorem dL_law_18 : decode cL_law 18 = .ok (.aload_n 0, 1) := by decide +kernel
theorem dL_law_19 : decode cL_law 19 = .ok (.iconst 0, 1) := by decide +kernel
theorem dL_law_20 : decode cL_law 20 = .ok (.invokestatic 222, 3) := by decide +kernel
theorem dL_law_23 : decode cL_law 23 = .ok (.invokestatic 226, 3) := by decide +kernel
theorem dL_law_26 : decode cL_law 26 = .ok (.ifCond .eq 21, 3) := by decide +kernel
theorem dL_law_29 : decode cL_law 29 = .ok (.aload_n 1, 1) := by decide +kernel
theorem dL_law_30 : decode cL_law 30 = .ok (.invokestatic 230, 3) := by decide +kernel
theorem dL_law_33 : decode cL_law 33 = .ok (.ifCond .eq 14, 3) := by decide +kernel
theorem dL_law_36 : decode cL_law 36 = .ok (.aload_n 1, 1) := by decide +kernel
theorem dL_law_37 : decode cL_law 37 = .ok (.invokestatic 234, 3) := by decide +kernel
theorem dL_law_40 : decode cL_law 40 = .ok (.ifCond .eq 7, 3) := by decide +kernel
theorem dL_law_43 : decode cL_law 43 = .ok (.iconst 1, 1) := by decide +kernel
theorem dL_law_44 : decode cL_law 44 = .ok (.goto 4, 3) := by decide +kernel
theorem dL_law_47 : decode cL_law 47 = .ok (.iconst 0, 1) := by decide +kernel
theorem dL_law_48 : decode cL_law 48 = .ok (.istore_n 3, 1) := by decide +kernel
theorem dL_law_49 : decode cL_law 49 = .ok (.iconst 0, 1) := by decide +kernel
theorem dL_law_50 : decode cL_law 50 = .ok (.istore 4, 2) := by decide +kernel
theorem dL_law_52 : decode cL_law 52 = .ok (.iload 4, 2) := by decide +kernel
theorem dL_law_54 : decode cL_law 54 = .ok (.bipush 48, 2) := by decide +kernel
theorem dL_law_56 : decode cL_law 56 = .ok (.if_icmp .ge 222, 3) := by decide +kernel
theorem dL_law_59 : decode cL_law 59 = .ok (.iload_n 3, 1) := by decide +kernel
theorem dL_law_60 : decode cL_law 60 = .ok (.ifCond .eq 218, 3) := by decide +kernel
theorem dL_law_63 : decode cL_law 63 = .ok (.aload_n 0, 1) := by decide +kernel
theorem dL_law_64 : decode cL_law 64 = .ok (.iconst 2, 1) := by decide +kernel
theorem dL_law_65 : decode cL_law 65 = .ok (.iload 4, 2) := by decide +kernel
theorem dL_law_67 : decode cL_law 67 = .ok (.imul, 1) := by decide +kernel
theorem dL_law_68 : decode cL_law 68 = .ok (.invokestatic 222, 3) := by decide +kernel
theorem dL_law_71 : decode cL_law 71 = .ok (.istore 5, 2) := by decide +kernel
theorem dL_law_73 : decode cL_law 73 = .ok (.aload_n 0, 1) := by decide +kernel
theorem dL_law_74 : decode cL_law 74 = .ok (.iconst 2, 1) := by decide +kernel
theorem dL_law_75 : decode cL_law 75 = .ok (.iload 4, 2) := by decide +kernel
theorem dL_law_77 : decode cL_law 77 = .ok (.imul, 1) := by decide +kernel
theorem dL_law_78 : decode cL_law 78 = .ok (.iconst 1, 1) := by decide +kernel
theorem dL_law_79 : decode cL_law 79 = .ok (.iadd, 1) := by decide +kernel
theorem dL_law_80 : decode cL_law 80 = .ok (.invokestatic 222, 3) := by decide +kernel
theorem dL_law_83 : decode cL_law 83 = .ok (.istore 6, 2) := by decide +kernel
theorem dL_law_85 : decode cL_law 85 = .ok (.iload 4, 2) := by decide +kernel
theorem dL_law_87 : decode cL_law 87 = .ok (.bipush 24, 2) := by decide +kernel
theorem dL_law_89 : decode cL_law 89 = .ok (.irem, 1) := by decide +kernel
theorem dL_law_90 : decode cL_law 90 = .ok (.ifCond .ne 46, 3) := by decide +kernel
theorem dL_law_93 : decode cL_law 93 = .ok (.aload_n 1, 1) := by decide +kernel
theorem dL_law_94 : decode cL_law 94 = .ok (.iload 5, 2) := by decide +kernel
theorem dL_law_96 : decode cL_law 96 = .ok (.iload 6, 2) := by decide +kernel
theorem dL_law_98 : decode cL_law 98 = .ok (.invokestatic 237, 3) := by decide +kernel
theorem dL_law_101 : decode cL_law 101 = .ok (.ifCond .eq 30, 3) := by decide +kernel
theorem dL_law_104 : decode cL_law 104 = .ok (.aload_n 2, 1) := by decide +kernel
theorem dL_law_105 : decode cL_law 105 = .ok (.iload 5, 2) := by decide +kernel
theorem dL_law_107 : decode cL_law 107 = .ok (.iload 6, 2) := by decide +kernel
theorem dL_law_109 : decode cL_law 109 = .ok (.invokestatic 237, 3) := by decide +kernel
theorem dL_law_112 : decode cL_law 112 = .ok (.ifCond .eq 19, 3) := by decide +kernel
theorem dL_law_115 : decode cL_law 115 = .ok (.aload_n 1, 1) := by decide +kernel
theorem dL_law_116 : decode cL_law 116 = .ok (.invokestatic 241, 3) := by decide +kernel
theorem dL_law_119 : decode cL_law 119 = .ok (.aload_n 2, 1) := by decide +kernel
theorem dL_law_120 : decode cL_law 120 = .ok (.invokestatic 241, 3) := by decide +kernel
theorem dL_law_123 : decode cL_law 123 = .ok (.lcmp, 1) := by decide +kernel
theorem dL_law_124 : decode cL_law 124 = .ok (.ifCond .ne 7, 3) := by decide +kernel
theorem dL_law_127 : decode cL_law 127 = .ok (.iconst 1, 1) := by decide +kernel
theorem dL_law_128 : decode cL_law 128 = .ok (.goto 4, 3) := by decide +kernel
theorem dL_law_131 : decode cL_law 131 = .ok (.iconst 0, 1) := by decide +kernel
theorem dL_law_132 : decode cL_law 132 = .ok (.istore_n 3, 1) := by decide +kernel
theorem dL_law_133 : decode cL_law 133 = .ok (.goto 139, 3) := by decide +kernel
theorem dL_law_136 : decode cL_law 136 = .ok (.aload_n 1, 1) := by decide +kernel
theorem dL_law_137 : decode cL_law 137 = .ok (.iload 5, 2) := by decide +kernel
theorem dL_law_139 : decode cL_law 139 = .ok (.iload 6, 2) := by decide +kernel
theorem dL_law_141 : decode cL_law 141 = .ok (.invokestatic 243, 3) := by decide +kernel
theorem dL_law_144 : decode cL_law 144 = .ok (.aload_n 2, 1) := by decide +kernel
theorem dL_law_145 : decode cL_law 145 = .ok (.iload 5, 2) := by decide +kernel
theorem dL_law_147 : decode cL_law 147 = .ok (.iload 6, 2) := by decide +kernel
theorem dL_law_149 : decode cL_law 149 = .ok (.invokestatic 243, 3) := by decide +kernel
theorem dL_law_152 : decode cL_law 152 = .ok (.lcmp, 1) := by decide +kernel
theorem dL_law_153 : decode cL_law 153 = .ok (.ifCond .ne 7, 3) := by decide +kernel
theorem dL_law_156 : decode cL_law 156 = .ok (.iconst 1, 1) := by decide +kernel
theorem dL_law_157 : decode cL_law 157 = .ok (.goto 4, 3) := by decide +kernel
theorem dL_law_160 : decode cL_law 160 = .ok (.iconst 0, 1) := by decide +kernel
theorem dL_law_161 : decode cL_law 161 = .ok (.istore_n 3, 1) := by decide +kernel
theorem dL_law_162 : decode cL_law 162 = .ok (.iload 4, 2) := by decide +kernel
theorem dL_law_164 : decode cL_law 164 = .ok (.bipush 9, 2) := by decide +kernel
theorem dL_law_166 : decode cL_law 166 = .ok (.irem, 1) := by decide +kernel
theorem dL_law_167 : decode cL_law 167 = .ok (.iconst 1, 1) := by decide +kernel
theorem dL_law_168 : decode cL_law 168 = .ok (.if_icmp .ne 27, 3) := by decide +kernel
theorem dL_law_171 : decode cL_law 171 = .ok (.iload_n 3, 1) := by decide +kernel
theorem dL_law_172 : decode cL_law 172 = .ok (.ifCond .eq 21, 3) := by decide +kernel
theorem dL_law_175 : decode cL_law 175 = .ok (.aload_n 2, 1) := by decide +kernel
theorem dL_law_176 : decode cL_law 176 = .ok (.invokestatic 230, 3) := by decide +kernel
theorem dL_law_179 : decode cL_law 179 = .ok (.ifCond .eq 14, 3) := by decide +kernel
theorem dL_law_182 : decode cL_law 182 = .ok (.aload_n 2, 1) := by decide +kernel
theorem dL_law_183 : decode cL_law 183 = .ok (.invokestatic 234, 3) := by decide +kernel
theorem dL_law_186 : decode cL_law 186 = .ok (.ifCond .eq 7, 3) := by decide +kernel
theorem dL_law_189 : decode cL_law 189 = .ok (.iconst 1, 1) := by decide +kernel
theorem dL_law_190 : decode cL_law 190 = .ok (.goto 4, 3) := by decide +kernel
theorem dL_law_193 : decode cL_law 193 = .ok (.iconst 0, 1) := by decide +kernel
theorem dL_law_194 : decode cL_law 194 = .ok (.istore_n 3, 1) := by decide +kernel
theorem dL_law_195 : decode cL_law 195 = .ok (.iload 4, 2) := by decide +kernel
theorem dL_law_197 : decode cL_law 197 = .ok (.bipush 16, 2) := by decide +kernel
theorem dL_law_199 : decode cL_law 199 = .ok (.irem, 1) := by decide +kernel
theorem dL_law_200 : decode cL_law 200 = .ok (.bipush 13, 2) := by decide +kernel
theorem dL_law_202 : decode cL_law 202 = .ok (.if_icmp .ne 42, 3) := by decide +kernel
theorem dL_law_205 : decode cL_law 205 = .ok (.iload_n 3, 1) := by decide +kernel
theorem dL_law_206 : decode cL_law 206 = .ok (.ifCond .eq 36, 3) := by decide +kernel
theorem dL_law_209 : decode cL_law 209 = .ok (.aload_n 2, 1) := by decide +kernel
theorem dL_law_210 : decode cL_law 210 = .ok (.iload 6, 2) := by decide +kernel
theorem dL_law_212 : decode cL_law 212 = .ok (.invokestatic 246, 3) := by decide +kernel
theorem dL_law_215 : decode cL_law 215 = .ok (.ifCond .eq 27, 3) := by decide +kernel
theorem dL_law_218 : decode cL_law 218 = .ok (.aload_n 1, 1) := by decide +kernel
theorem dL_law_219 : decode cL_law 219 = .ok (.iconst 1, 1) := by decide +kernel
theorem dL_law_220 : decode cL_law 220 = .ok (.invokestatic 154, 3) := by decide +kernel
theorem dL_law_223 : decode cL_law 223 = .ok (.lconst 0, 1) := by decide +kernel
theorem dL_law_224 : decode cL_law 224 = .ok (.lcmp, 1) := by decide +kernel
theorem dL_law_225 : decode cL_law 225 = .ok (.ifCond .lt 17, 3) := by decide +kernel
theorem dL_law_228 : decode cL_law 228 = .ok (.aload_n 1, 1) := by decide +kernel
theorem dL_law_229 : decode cL_law 229 = .ok (.iconst 1, 1) := by decide +kernel
theorem dL_law_230 : decode cL_law 230 = .ok (.invokestatic 156, 3) := by decide +kernel
theorem dL_law_233 : decode cL_law 233 = .ok (.lconst 0, 1) := by decide +kernel
theorem dL_law_234 : decode cL_law 234 = .ok (.lcmp, 1) := by decide +kernel
theorem dL_law_235 : decode cL_law 235 = .ok (.ifCond .lt 7, 3) := by decide +kernel
theorem dL_law_238 : decode cL_law 238 = .ok (.iconst 1, 1) := by decide +kernel
theorem dL_law_239 : decode cL_law 239 = .ok (.goto 4, 3) := by decide +kernel
theorem dL_law_242 : decode cL_law 242 = .ok (.iconst 0, 1) := by decide +kernel
theorem dL_law_243 : decode cL_law 243 = .ok (.istore_n 3, 1) := by decide +kernel
theorem dL_law_244 : decode cL_law 244 = .ok (.iload_n 3, 1) := by decide +kernel
theorem dL_law_245 : decode cL_law 245 = .ok (.ifCond .eq 25, 3) := by decide +kernel
theorem dL_law_248 : decode cL_law 248 = .ok (.iload 4, 2) := by decide +kernel
theorem dL_law_250 : decode cL_law 250 = .ok (.bipush 16, 2) := by decide +kernel
theorem dL_law_252 : decode cL_law 252 = .ok (.irem, 1) := by decide +kernel
theorem dL_law_253 : decode cL_law 253 = .ok (.ifCond .gt 13, 3) := by decide +kernel
theorem dL_law_256 : decode cL_law 256 = .ok (.aload_n 1, 1) := by decide +kernel
theorem dL_law_257 : decode cL_law 257 = .ok (.aload_n 2, 1) := by decide +kernel
theorem dL_law_258 : decode cL_law 258 = .ok (.iload 6, 2) := by decide +kernel
theorem dL_law_260 : decode cL_law 260 = .ok (.invokestatic 226, 3) := by decide +kernel
theorem dL_law_263 : decode cL_law 263 = .ok (.ifCond .eq 7, 3) := by decide +kernel
theorem dL_law_266 : decode cL_law 266 = .ok (.iconst 1, 1) := by decide +kernel
theorem dL_law_267 : decode cL_law 267 = .ok (.goto 4, 3) := by decide +kernel
theorem dL_law_270 : decode cL_law 270 = .ok (.iconst 0, 1) := by decide +kernel
theorem dL_law_271 : decode cL_law 271 = .ok (.istore_n 3, 1) := by decide +kernel
theorem dL_law_272 : decode cL_law 272 = .ok (.iinc 4 1, 3) := by decide +kernel
theorem dL_law_275 : decode cL_law 275 = .ok (.goto (-223), 3) := by decide +kernel
theorem dL_law_278 : decode cL_law 278 = .ok (.iload_n 3, 1) := by decide +kernel
theorem dL_law_279 : decode cL_law 279 = .ok (.ifCond .eq 17, 3) := by decide +kernel
theorem dL_law_282 : decode cL_law 282 = .ok (.aload_n 1, 1) := by decide +kernel
theorem dL_law_283 : decode cL_law 283 = .ok (.aload_n 2, 1) := by decide +kernel
theorem dL_law_284 : decode cL_law 284 = .ok (.ldc 249, 2) := by decide +kernel
theorem dL_law_286 : decode cL_law 286 = .ok (.invokestatic 226, 3) := by decide +kernel
theorem dL_law_289 : decode cL_law 289 = .ok (.ifCond .eq 7, 3) := by decide +kernel
theorem dL_law_292 : decode cL_law 292 = .ok (.iconst 1, 1) := by decide +kernel
theorem dL_law_293 : decode cL_law 293 = .ok (.goto 4, 3) := by decide +kernel
theorem dL_law_296 : decode cL_law 296 = .ok (.iconst 0, 1) := by decide +kernel
theorem dL_law_297 : decode cL_law 297 = .ok (.ireturn, 1) := by decide +kernel
abbrev vwCl : List vw_C := [(RJ4, TJ4, 4), (RX0, TX0, 10), (RX1, TX1, 11), (RX2, TX2, 2), (RX3, TX3, 5), (RX4, TX4, 7)]
