def RX0 : String := "DepotCharge$Bus"
def TX0 : u_T := fun k => match k with
  | 0 => ("DepotCharge$Bus", "size", "I", false)
  | 1 => ("DepotCharge$Bus", "charge", "I", false)
  | 2 => ("DepotCharge$Bus", "need", "I", false)
  | 3 => ("DepotCharge$Bus", "leaves", "I", false)
  | 4 => ("DepotCharge$Bus", "back", "I", false)
  | 5 => ("DepotCharge$Bus", "wear", "I", false)
  | 6 => ("DepotCharge$Bus", "out", "Z", false)
  | 7 => ("DepotCharge$Bus", "rank", "I", false)
  | 8 => ("DepotCharge$Bus", "atCharger", "I", false)
  | _ => ("DepotCharge$Bus", "units", "I", false)
def tyX0 : Nat → FieldType := fun k => match k with
  | 0 => .int
  | 1 => .int
  | 2 => .int
  | 3 => .int
  | 4 => .int
  | 5 => .int
  | 6 => .boolean
  | 7 => .int
  | 8 => .int
  | _ => .int
theorem nmX0 : ∀ a, a < 10 → ∀ b, b < 10 → a ≠ b → (TX0 a).2.1 ≠ (TX0 b).2.1 := by decide +kernel
theorem tyX0_ok : ∀ k, k < 10 → parseFieldDescriptor (TX0 k).2.2.1 = some (tyX0 k) := by decide +kernel
abbrev cX0_init : ByteArray := prog_2_method_1_code
def yX0_init : MethodName := ⟨RX0, "<init>", "()V"⟩
abbrev cX0_becomeLike : ByteArray := prog_2_method_2_code
def yX0_becomeLike : MethodName := ⟨RX0, "becomeLike", "(LDepotCharge$Bus;)V"⟩
abbrev cX0_giveRoute : ByteArray := prog_2_method_3_code
def yX0_giveRoute : MethodName := ⟨RX0, "giveRoute", "(III)V"⟩
abbrev cX0_giveBattery : ByteArray := prog_2_method_4_code
def yX0_giveBattery : MethodName := ⟨RX0, "giveBattery", "(I)V"⟩
abbrev cX0_isLow : ByteArray := prog_2_method_5_code
def yX0_isLow : MethodName := ⟨RX0, "isLow", "()Z"⟩
abbrev cX0_word : ByteArray := prog_2_method_6_code
def yX0_word : MethodName := ⟨RX0, "word", "()Ljava/lang/String;"⟩
abbrev cX0_goOut : ByteArray := prog_2_method_7_code
def yX0_goOut : MethodName := ⟨RX0, "goOut", "(II)V"⟩
abbrev cX0_wearOfRoute : ByteArray := prog_2_method_8_code
def yX0_wearOfRoute : MethodName := ⟨RX0, "wearOfRoute", "()I"⟩
def RX1 : String := "DepotCharge$Depot"
def TX1 : u_T := fun k => match k with
  | 0 => ("DepotCharge$Depot", "buses", "[LDepotCharge$Bus;", true)
  | 1 => ("DepotCharge$Depot", "powers", "[I", true)
  | 2 => ("DepotCharge$Depot", "order", "[I", true)
  | 3 => ("DepotCharge$Depot", "settings", "[I", true)
  | 4 => ("DepotCharge$Depot", "busCount", "I", false)
  | 5 => ("DepotCharge$Depot", "chargerCount", "I", false)
  | 6 => ("DepotCharge$Depot", "hour", "I", false)
  | 7 => ("DepotCharge$Depot", "paid", "I", false)
  | 8 => ("DepotCharge$Depot", "charged", "I", false)
  | 9 => ("DepotCharge$Depot", "missed", "I", false)
  | _ => ("DepotCharge$Depot", "gone", "I", false)
def tyX1 : Nat → FieldType := fun k => match k with
  | 0 => .array (.object "DepotCharge$Bus")
  | 1 => .array .int
  | 2 => .array .int
  | 3 => .array .int
  | 4 => .int
  | 5 => .int
  | 6 => .int
  | 7 => .int
  | 8 => .int
  | 9 => .int
  | _ => .int
theorem nmX1 : ∀ a, a < 11 → ∀ b, b < 11 → a ≠ b → (TX1 a).2.1 ≠ (TX1 b).2.1 := by decide +kernel
theorem tyX1_ok : ∀ k, k < 11 → parseFieldDescriptor (TX1 k).2.2.1 = some (tyX1 k) := by decide +kernel
abbrev cX1_init : ByteArray := prog_3_method_1_code
def yX1_init : MethodName := ⟨RX1, "<init>", "()V"⟩
abbrev cX1_becomeNew : ByteArray := prog_3_method_2_code
def yX1_becomeNew : MethodName := ⟨RX1, "becomeNew", "()V"⟩
abbrev cX1_becomeLike : ByteArray := prog_3_method_3_code
def yX1_becomeLike : MethodName := ⟨RX1, "becomeLike", "(LDepotCharge$Depot;)V"⟩
abbrev cX1_isFullOfBuses : ByteArray := prog_3_method_4_code
def yX1_isFullOfBuses : MethodName := ⟨RX1, "isFullOfBuses", "()Z"⟩
abbrev cX1_isFullOfChargers : ByteArray := prog_3_method_5_code
def yX1_isFullOfChargers : MethodName := ⟨RX1, "isFullOfChargers", "()Z"⟩
abbrev cX1_busAt : ByteArray := prog_3_method_6_code
def yX1_busAt : MethodName := ⟨RX1, "busAt", "(I)LDepotCharge$Bus;"⟩
abbrev cX1_hasCharger : ByteArray := prog_3_method_7_code
def yX1_hasCharger : MethodName := ⟨RX1, "hasCharger", "(I)Z"⟩
abbrev cX1_powerOf : ByteArray := prog_3_method_8_code
def yX1_powerOf : MethodName := ⟨RX1, "powerOf", "(I)I"⟩
abbrev cX1_placeOf : ByteArray := prog_3_method_9_code
def yX1_placeOf : MethodName := ⟨RX1, "placeOf", "(I)I"⟩
abbrev cX1_settingOf : ByteArray := prog_3_method_10_code
def yX1_settingOf : MethodName := ⟨RX1, "settingOf", "(I)I"⟩
abbrev cX1_countOut : ByteArray := prog_3_method_11_code
def yX1_countOut : MethodName := ⟨RX1, "countOut", "()I"⟩
abbrev cX1_countLow : ByteArray := prog_3_method_12_code
def yX1_countLow : MethodName := ⟨RX1, "countLow", "()I"⟩
abbrev cX1_sumOfCharges : ByteArray := prog_3_method_13_code
def yX1_sumOfCharges : MethodName := ⟨RX1, "sumOfCharges", "()I"⟩
abbrev cX1_isOut : ByteArray := prog_3_method_14_code
def yX1_isOut : MethodName := ⟨RX1, "isOut", "(I)Z"⟩
abbrev cX1_hasCharge : ByteArray := prog_3_method_15_code
def yX1_hasCharge : MethodName := ⟨RX1, "hasCharge", "(II)Z"⟩
abbrev cX1_hourOfDay : ByteArray := prog_3_method_16_code
def yX1_hourOfDay : MethodName := ⟨RX1, "hourOfDay", "()I"⟩
abbrev cX1_isNight : ByteArray := prog_3_method_17_code
def yX1_isNight : MethodName := ⟨RX1, "isNight", "()Z"⟩
abbrev cX1_hoursUntilLeaving : ByteArray := prog_3_method_18_code
def yX1_hoursUntilLeaving : MethodName := ⟨RX1, "hoursUntilLeaving", "(LDepotCharge$Bus;)I"⟩
abbrev cX1_isMissedNow : ByteArray := prog_3_method_19_code
def yX1_isMissedNow : MethodName := ⟨RX1, "isMissedNow", "(I)Z"⟩
abbrev cX1_putBus : ByteArray := prog_3_method_20_code
def yX1_putBus : MethodName := ⟨RX1, "putBus", "(IIIII)I"⟩
abbrev cX1_putCharger : ByteArray := prog_3_method_21_code
def yX1_putCharger : MethodName := ⟨RX1, "putCharger", "(I)I"⟩
abbrev cX1_change : ByteArray := prog_3_method_22_code
def yX1_change : MethodName := ⟨RX1, "change", "(II)V"⟩
abbrev cX1_tryPutBus : ByteArray := prog_3_method_23_code
def yX1_tryPutBus : MethodName := ⟨RX1, "tryPutBus", "(IIIII)Z"⟩
abbrev cX1_tryPutCharger : ByteArray := prog_3_method_24_code
def yX1_tryPutCharger : MethodName := ⟨RX1, "tryPutCharger", "(I)Z"⟩
abbrev cX1_tryGiveRoute : ByteArray := prog_3_method_25_code
def yX1_tryGiveRoute : MethodName := ⟨RX1, "tryGiveRoute", "(IIII)Z"⟩
abbrev cX1_tryGiveBattery : ByteArray := prog_3_method_26_code
def yX1_tryGiveBattery : MethodName := ⟨RX1, "tryGiveBattery", "(II)Z"⟩
abbrev cX1_tryChange : ByteArray := prog_3_method_27_code
def yX1_tryChange : MethodName := ⟨RX1, "tryChange", "(II)Z"⟩
abbrev cX1_tryPassHours : ByteArray := prog_3_method_28_code
def yX1_tryPassHours : MethodName := ⟨RX1, "tryPassHours", "(I)Z"⟩
abbrev cX1_passHours : ByteArray := prog_3_method_29_code
def yX1_passHours : MethodName := ⟨RX1, "passHours", "(I)V"⟩
abbrev cX1_moveBuses : ByteArray := prog_3_method_30_code
def yX1_moveBuses : MethodName := ⟨RX1, "moveBuses", "()V"⟩
abbrev cX1_isDue : ByteArray := prog_3_method_31_code
def yX1_isDue : MethodName := ⟨RX1, "isDue", "(LDepotCharge$Bus;)Z"⟩
abbrev cX1_sendOut : ByteArray := prog_3_method_32_code
def yX1_sendOut : MethodName := ⟨RX1, "sendOut", "(LDepotCharge$Bus;)V"⟩
abbrev cX1_lineUp : ByteArray := prog_3_method_33_code
def yX1_lineUp : MethodName := ⟨RX1, "lineUp", "()V"⟩
abbrev cX1_plugIn : ByteArray := prog_3_method_34_code
def yX1_plugIn : MethodName := ⟨RX1, "plugIn", "()V"⟩
abbrev cX1_rankOf : ByteArray := prog_3_method_35_code
def yX1_rankOf : MethodName := ⟨RX1, "rankOf", "(LDepotCharge$Bus;Z)I"⟩
abbrev cX1_firstInLine : ByteArray := prog_3_method_36_code
def yX1_firstInLine : MethodName := ⟨RX1, "firstInLine", "()I"⟩
abbrev cX1_chargeBuses : ByteArray := prog_3_method_37_code
def yX1_chargeBuses : MethodName := ⟨RX1, "chargeBuses", "()V"⟩
abbrev cX1_unitsOf : ByteArray := prog_3_method_38_code
def yX1_unitsOf : MethodName := ⟨RX1, "unitsOf", "(I)I"⟩
abbrev cX1_chargerOf : ByteArray := prog_3_method_39_code
def yX1_chargerOf : MethodName := ⟨RX1, "chargerOf", "(I)I"⟩
abbrev cX1_busAtCharger : ByteArray := prog_3_method_40_code
def yX1_busAtCharger : MethodName := ⟨RX1, "busAtCharger", "(I)I"⟩
def RX2 : String := "DepotCharge$History"
def TX2 : u_T := fun k => match k with
  | 0 => ("DepotCharge$History", "states", "[LDepotCharge$Depot;", true)
  | _ => ("DepotCharge$History", "count", "I", false)
def tyX2 : Nat → FieldType := fun k => match k with
  | 0 => .array (.object "DepotCharge$Depot")
  | _ => .int
theorem nmX2 : ∀ a, a < 2 → ∀ b, b < 2 → a ≠ b → (TX2 a).2.1 ≠ (TX2 b).2.1 := by decide +kernel
theorem tyX2_ok : ∀ k, k < 2 → parseFieldDescriptor (TX2 k).2.2.1 = some (tyX2 k) := by decide +kernel
abbrev cX2_init : ByteArray := prog_4_method_1_code
def yX2_init : MethodName := ⟨RX2, "<init>", "()V"⟩
abbrev cX2_isEmpty : ByteArray := prog_4_method_2_code
def yX2_isEmpty : MethodName := ⟨RX2, "isEmpty", "()Z"⟩
abbrev cX2_remember : ByteArray := prog_4_method_3_code
def yX2_remember : MethodName := ⟨RX2, "remember", "(LDepotCharge$Depot;)V"⟩
abbrev cX2_forgetOldest : ByteArray := prog_4_method_4_code
def yX2_forgetOldest : MethodName := ⟨RX2, "forgetOldest", "()V"⟩
abbrev cX2_takeBack : ByteArray := prog_4_method_5_code
def yX2_takeBack : MethodName := ⟨RX2, "takeBack", "(LDepotCharge$Depot;)I"⟩
abbrev cX2_forgetAll : ByteArray := prog_4_method_6_code
def yX2_forgetAll : MethodName := ⟨RX2, "forgetAll", "()V"⟩
def RX3 : String := "DepotCharge$Text"
def TX3 : u_T := fun k => match k with
  | 0 => ("DepotCharge$Text", "signs", "[C", true)
  | 1 => ("DepotCharge$Text", "length", "I", false)
  | 2 => ("DepotCharge$Text", "at", "I", false)
  | 3 => ("DepotCharge$Text", "firstLetter", "I", false)
  | _ => ("DepotCharge$Text", "numbers", "[I", true)
def tyX3 : Nat → FieldType := fun k => match k with
  | 0 => .array .char
  | 1 => .int
  | 2 => .int
  | 3 => .int
  | _ => .array .int
theorem nmX3 : ∀ a, a < 5 → ∀ b, b < 5 → a ≠ b → (TX3 a).2.1 ≠ (TX3 b).2.1 := by decide +kernel
theorem tyX3_ok : ∀ k, k < 5 → parseFieldDescriptor (TX3 k).2.2.1 = some (tyX3 k) := by decide +kernel
abbrev cX3_init : ByteArray := prog_5_method_1_code
def yX3_init : MethodName := ⟨RX3, "<init>", "()V"⟩
abbrev cX3_isFull : ByteArray := prog_5_method_2_code
def yX3_isFull : MethodName := ⟨RX3, "isFull", "()Z"⟩
abbrev cX3_put : ByteArray := prog_5_method_3_code
def yX3_put : MethodName := ⟨RX3, "put", "(C)I"⟩
abbrev cX3_empty : ByteArray := prog_5_method_4_code
def yX3_empty : MethodName := ⟨RX3, "empty", "()I"⟩
abbrev cX3_findError : ByteArray := prog_5_method_5_code
def yX3_findError : MethodName := ⟨RX3, "findError", "()I"⟩
abbrev cX3_doAllIn : ByteArray := prog_5_method_6_code
def yX3_doAllIn : MethodName := ⟨RX3, "doAllIn", "(LDepotCharge$Depot;)I"⟩
abbrev cX3_doIn : ByteArray := prog_5_method_7_code
def yX3_doIn : MethodName := ⟨RX3, "doIn", "(LDepotCharge$Depot;)Z"⟩
abbrev cX3_readCommand : ByteArray := prog_5_method_8_code
def yX3_readCommand : MethodName := ⟨RX3, "readCommand", "()Z"⟩
abbrev cX3_readWord : ByteArray := prog_5_method_9_code
def yX3_readWord : MethodName := ⟨RX3, "readWord", "(Ljava/lang/String;)Z"⟩
abbrev cX3_readNumber : ByteArray := prog_5_method_10_code
def yX3_readNumber : MethodName := ⟨RX3, "readNumber", "(III)Z"⟩
abbrev cX3_readDigit : ByteArray := prog_5_method_11_code
def yX3_readDigit : MethodName := ⟨RX3, "readDigit", "(III)Z"⟩
abbrev cX3_beginsNumber : ByteArray := prog_5_method_12_code
def yX3_beginsNumber : MethodName := ⟨RX3, "beginsNumber", "(III)Z"⟩
abbrev cX3_readSign : ByteArray := prog_5_method_13_code
def yX3_readSign : MethodName := ⟨RX3, "readSign", "(I)Z"⟩
abbrev cX3_digitAt : ByteArray := prog_5_method_14_code
def yX3_digitAt : MethodName := ⟨RX3, "digitAt", "(I)I"⟩
abbrev cX3_signAt : ByteArray := prog_5_method_15_code
def yX3_signAt : MethodName := ⟨RX3, "signAt", "(I)I"⟩
def RX4 : String := "DepotCharge"
def TX4 : u_T := fun k => match k with
  | 0 => ("DepotCharge", "text", "LDepotCharge$Text;", true)
  | 1 => ("DepotCharge", "now", "LDepotCharge$Depot;", true)
  | 2 => ("DepotCharge", "history", "LDepotCharge$History;", true)
  | 3 => ("DepotCharge", "slots", "[LDepotCharge$Depot;", true)
  | 4 => ("DepotCharge", "filled", "[Z", true)
  | 5 => ("DepotCharge", "trial", "LDepotCharge$Depot;", true)
  | _ => ("DepotCharge", "preview", "LDepotCharge$Depot;", true)
def tyX4 : Nat → FieldType := fun k => match k with
  | 0 => .object "DepotCharge$Text"
  | 1 => .object "DepotCharge$Depot"
  | 2 => .object "DepotCharge$History"
  | 3 => .array (.object "DepotCharge$Depot")
  | 4 => .array .boolean
  | 5 => .object "DepotCharge$Depot"
  | _ => .object "DepotCharge$Depot"
theorem nmX4 : ∀ a, a < 7 → ∀ b, b < 7 → a ≠ b → (TX4 a).2.1 ≠ (TX4 b).2.1 := by decide +kernel
theorem tyX4_ok : ∀ k, k < 7 → parseFieldDescriptor (TX4 k).2.2.1 = some (tyX4 k) := by decide +kernel
abbrev cX4_init : ByteArray := prog_1_method_1_code
def yX4_init : MethodName := ⟨RX4, "<init>", "()V"⟩
abbrev cX4_append : ByteArray := prog_1_method_2_code
def yX4_append : MethodName := ⟨RX4, "append", "(I)I"⟩
abbrev cX4_clearText : ByteArray := prog_1_method_3_code
def yX4_clearText : MethodName := ⟨RX4, "clearText", "()I"⟩
abbrev cX4_errorPosition : ByteArray := prog_1_method_4_code
def yX4_errorPosition : MethodName := ⟨RX4, "errorPosition", "()I"⟩
abbrev cX4_load : ByteArray := prog_1_method_5_code
def yX4_load : MethodName := ⟨RX4, "load", "()I"⟩
abbrev cX4_about : ByteArray := prog_1_method_6_code
def yX4_about : MethodName := ⟨RX4, "about", "(I)I"⟩
abbrev cX4_bus : ByteArray := prog_1_method_7_code
def yX4_bus : MethodName := ⟨RX4, "bus", "(II)I"⟩
abbrev cX4_charger : ByteArray := prog_1_method_8_code
def yX4_charger : MethodName := ⟨RX4, "charger", "(II)I"⟩
abbrev cX4_sign : ByteArray := prog_1_method_9_code
def yX4_sign : MethodName := ⟨RX4, "sign", "(II)I"⟩
abbrev cX4_setting : ByteArray := prog_1_method_10_code
def yX4_setting : MethodName := ⟨RX4, "setting", "(I)I"⟩
abbrev cX4_addBus : ByteArray := prog_1_method_11_code
def yX4_addBus : MethodName := ⟨RX4, "addBus", "(IIIII)I"⟩
abbrev cX4_addCharger : ByteArray := prog_1_method_12_code
def yX4_addCharger : MethodName := ⟨RX4, "addCharger", "(I)I"⟩
abbrev cX4_route : ByteArray := prog_1_method_13_code
def yX4_route : MethodName := ⟨RX4, "route", "(IIII)I"⟩
abbrev cX4_battery : ByteArray := prog_1_method_14_code
def yX4_battery : MethodName := ⟨RX4, "battery", "(II)I"⟩
abbrev cX4_run : ByteArray := prog_1_method_15_code
def yX4_run : MethodName := ⟨RX4, "run", "(I)I"⟩
abbrev cX4_set : ByteArray := prog_1_method_16_code
def yX4_set : MethodName := ⟨RX4, "set", "(II)I"⟩
abbrev cX4_undo : ByteArray := prog_1_method_17_code
def yX4_undo : MethodName := ⟨RX4, "undo", "()I"⟩
abbrev cX4_coming : ByteArray := prog_1_method_18_code
def yX4_coming : MethodName := ⟨RX4, "coming", "(II)I"⟩
abbrev cX4_firstMissed : ByteArray := prog_1_method_19_code
def yX4_firstMissed : MethodName := ⟨RX4, "firstMissed", "(I)I"⟩
abbrev cX4_leastLimit : ByteArray := prog_1_method_20_code
def yX4_leastLimit : MethodName := ⟨RX4, "leastLimit", "(I)I"⟩
abbrev cX4_bestNight : ByteArray := prog_1_method_21_code
def yX4_bestNight : MethodName := ⟨RX4, "bestNight", "(I)I"⟩
abbrev cX4_ifPlugged : ByteArray := prog_1_method_22_code
def yX4_ifPlugged : MethodName := ⟨RX4, "ifPlugged", "(II)I"⟩
abbrev cX4_runScript : ByteArray := prog_1_method_23_code
def yX4_runScript : MethodName := ⟨RX4, "runScript", "(IJ)I"⟩
abbrev cX4_simulate : ByteArray := prog_1_method_24_code
def yX4_simulate : MethodName := ⟨RX4, "simulate", "(JI)I"⟩
abbrev cX4_save : ByteArray := prog_1_method_25_code
def yX4_save : MethodName := ⟨RX4, "save", "(I)I"⟩
abbrev cX4_restore : ByteArray := prog_1_method_26_code
def yX4_restore : MethodName := ⟨RX4, "restore", "(I)I"⟩
abbrev cX4_requireWithin : ByteArray := prog_1_method_27_code
def yX4_requireWithin : MethodName := ⟨RX4, "requireWithin", "(III)V"⟩
abbrev cX4_requireBus : ByteArray := prog_1_method_28_code
def yX4_requireBus : MethodName := ⟨RX4, "requireBus", "(I)LDepotCharge$Bus;"⟩
abbrev cX4_requireInDepot : ByteArray := prog_1_method_29_code
def yX4_requireInDepot : MethodName := ⟨RX4, "requireInDepot", "(LDepotCharge$Bus;)V"⟩
abbrev cX4_requireRoomForCharger : ByteArray := prog_1_method_30_code
def yX4_requireRoomForCharger : MethodName := ⟨RX4, "requireRoomForCharger", "()V"⟩
abbrev cX4_requireSlot : ByteArray := prog_1_method_31_code
def yX4_requireSlot : MethodName := ⟨RX4, "requireSlot", "(I)V"⟩
abbrev cX4_isWithin : ByteArray := prog_1_method_32_code
def yX4_isWithin : MethodName := ⟨RX4, "isWithin", "(III)Z"⟩
abbrev cX4_isRoute : ByteArray := prog_1_method_33_code
def yX4_isRoute : MethodName := ⟨RX4, "isRoute", "(III)Z"⟩
abbrev cX4_isBus : ByteArray := prog_1_method_34_code
def yX4_isBus : MethodName := ⟨RX4, "isBus", "(IIIII)Z"⟩
abbrev cX4_isSetting : ByteArray := prog_1_method_35_code
def yX4_isSetting : MethodName := ⟨RX4, "isSetting", "(II)Z"⟩
abbrev cX4_previewOf : ByteArray := prog_1_method_36_code
def yX4_previewOf : MethodName := ⟨RX4, "previewOf", "(LDepotCharge$Depot;)LDepotCharge$Depot;"⟩
abbrev cX4_signOf : ByteArray := prog_1_method_37_code
def yX4_signOf : MethodName := ⟨RX4, "signOf", "(ILDepotCharge$Bus;)Ljava/lang/StringBuilder;"⟩
abbrev cX4_wouldDo : ByteArray := prog_1_method_38_code
def yX4_wouldDo : MethodName := ⟨RX4, "wouldDo", "(II)Z"⟩
abbrev cX4_costOfNight : ByteArray := prog_1_method_39_code
def yX4_costOfNight : MethodName := ⟨RX4, "costOfNight", "(II)I"⟩
abbrev cX4_groupsFrom : ByteArray := prog_1_method_40_code
def yX4_groupsFrom : MethodName := ⟨RX4, "groupsFrom", "(JI)J"⟩
abbrev cX4_succeeds : ByteArray := prog_1_method_41_code
def yX4_succeeds : MethodName := ⟨RX4, "succeeds", "(I)Z"⟩
abbrev cX4_simulateTurn : ByteArray := prog_1_method_42_code
def yX4_simulateTurn : MethodName := ⟨RX4, "simulateTurn", "(I)V"⟩
def RX5 : String := "DepotChargeModel"
def TX5 : u_T := fun k => match k with
  | 0 => ("DepotChargeModel", "refusal", "I", false)
  | 1 => ("DepotChargeModel", "script", "[I", true)
  | 2 => ("DepotChargeModel", "scriptSize", "I", false)
  | 3 => ("DepotChargeModel", "spot", "I", false)
  | 4 => ("DepotChargeModel", "isGood", "Z", false)
  | 5 => ("DepotChargeModel", "leftOut", "I", false)
  | 6 => ("DepotChargeModel", "read", "[I", true)
  | 7 => ("DepotChargeModel", "told", "[I", true)
  | 8 => ("DepotChargeModel", "now", "[I", true)
  | 9 => ("DepotChargeModel", "trial", "[I", true)
  | 10 => ("DepotChargeModel", "diary", "[I", true)
  | 11 => ("DepotChargeModel", "acts", "I", false)
  | 12 => ("DepotChargeModel", "kept", "[I", true)
  | 13 => ("DepotChargeModel", "isKept", "[Z", true)
  | 14 => ("DepotChargeModel", "order", "[I", true)
  | 15 => ("DepotChargeModel", "at", "[I", true)
  | 16 => ("DepotChargeModel", "gets", "[I", true)
  | 17 => ("DepotChargeModel", "plugOf", "[I", true)
  | _ => ("DepotChargeModel", "looked", "[Z", true)
def tyX5 : Nat → FieldType := fun k => match k with
  | 0 => .int
  | 1 => .array .int
  | 2 => .int
  | 3 => .int
  | 4 => .boolean
  | 5 => .int
  | 6 => .array .int
  | 7 => .array .int
  | 8 => .array .int
  | 9 => .array .int
  | 10 => .array .int
  | 11 => .int
  | 12 => .array .int
  | 13 => .array .boolean
  | 14 => .array .int
  | 15 => .array .int
  | 16 => .array .int
  | 17 => .array .int
  | _ => .array .boolean
theorem nmX5 : ∀ a, a < 19 → ∀ b, b < 19 → a ≠ b → (TX5 a).2.1 ≠ (TX5 b).2.1 := by decide +kernel
theorem tyX5_ok : ∀ k, k < 19 → parseFieldDescriptor (TX5 k).2.2.1 = some (tyX5 k) := by decide +kernel
abbrev cX5_init : ByteArray := prog_7_method_1_code
def yX5_init : MethodName := ⟨RX5, "<init>", "()V"⟩
abbrev cX5_thrown : ByteArray := prog_7_method_2_code
def yX5_thrown : MethodName := ⟨RX5, "thrown", "()I"⟩
abbrev cX5_refused : ByteArray := prog_7_method_3_code
def yX5_refused : MethodName := ⟨RX5, "refused", "(I)Z"⟩
abbrev cX5_in : ByteArray := prog_7_method_4_code
def yX5_in : MethodName := ⟨RX5, "in", "(JJJ)Z"⟩
abbrev cX5_copy : ByteArray := prog_7_method_5_code
def yX5_copy : MethodName := ⟨RX5, "copy", "([II[III)V"⟩
abbrev cX5_tenTo : ByteArray := prog_7_method_6_code
def yX5_tenTo : MethodName := ⟨RX5, "tenTo", "(I)J"⟩
abbrev cX5_clean : ByteArray := prog_7_method_7_code
def yX5_clean : MethodName := ⟨RX5, "clean", "([I)V"⟩
abbrev cX5_remember : ByteArray := prog_7_method_8_code
def yX5_remember : MethodName := ⟨RX5, "remember", "()V"⟩
abbrev cX5_tryIt : ByteArray := prog_7_method_9_code
def yX5_tryIt : MethodName := ⟨RX5, "tryIt", "()V"⟩
abbrev cX5_busAt : ByteArray := prog_7_method_10_code
def yX5_busAt : MethodName := ⟨RX5, "busAt", "(II)I"⟩
abbrev cX5_isNight : ByteArray := prog_7_method_11_code
def yX5_isNight : MethodName := ⟨RX5, "isNight", "([I)Z"⟩
abbrev cX5_hoursLeft : ByteArray := prog_7_method_12_code
def yX5_hoursLeft : MethodName := ⟨RX5, "hoursLeft", "([II)I"⟩
abbrev cX5_isLow : ByteArray := prog_7_method_13_code
def yX5_isLow : MethodName := ⟨RX5, "isLow", "([II)Z"⟩
abbrev cX5_comeBack : ByteArray := prog_7_method_14_code
def yX5_comeBack : MethodName := ⟨RX5, "comeBack", "([I)V"⟩
abbrev cX5_wear : ByteArray := prog_7_method_15_code
def yX5_wear : MethodName := ⟨RX5, "wear", "([II)V"⟩
abbrev cX5_leave : ByteArray := prog_7_method_16_code
def yX5_leave : MethodName := ⟨RX5, "leave", "([I)V"⟩
abbrev cX5_layOrder : ByteArray := prog_7_method_17_code
def yX5_layOrder : MethodName := ⟨RX5, "layOrder", "([I)V"⟩
abbrev cX5_isFull : ByteArray := prog_7_method_18_code
def yX5_isFull : MethodName := ⟨RX5, "isFull", "([II)Z"⟩
abbrev cX5_wants : ByteArray := prog_7_method_19_code
def yX5_wants : MethodName := ⟨RX5, "wants", "([II)Z"⟩
abbrev cX5_isAhead : ByteArray := prog_7_method_20_code
def yX5_isAhead : MethodName := ⟨RX5, "isAhead", "([III)Z"⟩
abbrev cX5_next : ByteArray := prog_7_method_21_code
def yX5_next : MethodName := ⟨RX5, "next", "([I)I"⟩
abbrev cX5_lay : ByteArray := prog_7_method_22_code
def yX5_lay : MethodName := ⟨RX5, "lay", "([I)V"⟩
abbrev cX5_hourIn : ByteArray := prog_7_method_23_code
def yX5_hourIn : MethodName := ⟨RX5, "hourIn", "([I)V"⟩
abbrev cX5_runIn : ByteArray := prog_7_method_24_code
def yX5_runIn : MethodName := ⟨RX5, "runIn", "([II)I"⟩
abbrev cX5_isHour : ByteArray := prog_7_method_25_code
def yX5_isHour : MethodName := ⟨RX5, "isHour", "(I)Z"⟩
abbrev cX5_isBattery : ByteArray := prog_7_method_26_code
def yX5_isBattery : MethodName := ⟨RX5, "isBattery", "(I)Z"⟩
abbrev cX5_isRoute : ByteArray := prog_7_method_27_code
def yX5_isRoute : MethodName := ⟨RX5, "isRoute", "(III)Z"⟩
abbrev cX5_isPower : ByteArray := prog_7_method_28_code
def yX5_isPower : MethodName := ⟨RX5, "isPower", "(I)Z"⟩
abbrev cX5_addBusIn : ByteArray := prog_7_method_29_code
def yX5_addBusIn : MethodName := ⟨RX5, "addBusIn", "([IIIIII)I"⟩
abbrev cX5_addPlugIn : ByteArray := prog_7_method_30_code
def yX5_addPlugIn : MethodName := ⟨RX5, "addPlugIn", "([II)I"⟩
abbrev cX5_routeIn : ByteArray := prog_7_method_31_code
def yX5_routeIn : MethodName := ⟨RX5, "routeIn", "([IIIII)I"⟩
abbrev cX5_batteryIn : ByteArray := prog_7_method_32_code
def yX5_batteryIn : MethodName := ⟨RX5, "batteryIn", "([III)I"⟩
abbrev cX5_isSetting : ByteArray := prog_7_method_33_code
def yX5_isSetting : MethodName := ⟨RX5, "isSetting", "(II)Z"⟩
abbrev cX5_append : ByteArray := prog_7_method_34_code
def yX5_append : MethodName := ⟨RX5, "append", "(I)I"⟩
abbrev cX5_clearText : ByteArray := prog_7_method_35_code
def yX5_clearText : MethodName := ⟨RX5, "clearText", "()I"⟩
abbrev cX5_isNext : ByteArray := prog_7_method_36_code
def yX5_isNext : MethodName := ⟨RX5, "isNext", "(I)Z"⟩
abbrev cX5_accept : ByteArray := prog_7_method_37_code
def yX5_accept : MethodName := ⟨RX5, "accept", "(Z)V"⟩
abbrev cX5_digit : ByteArray := prog_7_method_38_code
def yX5_digit : MethodName := ⟨RX5, "digit", "()I"⟩
abbrev cX5_begins : ByteArray := prog_7_method_39_code
def yX5_begins : MethodName := ⟨RX5, "begins", "(III)Z"⟩
abbrev cX5_number : ByteArray := prog_7_method_40_code
def yX5_number : MethodName := ⟨RX5, "number", "(II)I"⟩
abbrev cX5_word : ByteArray := prog_7_method_41_code
def yX5_word : MethodName := ⟨RX5, "word", "(III)V"⟩
abbrev cX5_goes : ByteArray := prog_7_method_42_code
def yX5_goes : MethodName := ⟨RX5, "goes", "(Z)Z"⟩
abbrev cX5_readBus : ByteArray := prog_7_method_43_code
def yX5_readBus : MethodName := ⟨RX5, "readBus", "()V"⟩
abbrev cX5_readSet : ByteArray := prog_7_method_44_code
def yX5_readSet : MethodName := ⟨RX5, "readSet", "()V"⟩
abbrev cX5_readRest : ByteArray := prog_7_method_45_code
def yX5_readRest : MethodName := ⟨RX5, "readRest", "(I)V"⟩
abbrev cX5_readCommand : ByteArray := prog_7_method_46_code
def yX5_readCommand : MethodName := ⟨RX5, "readCommand", "()V"⟩
abbrev cX5_readText : ByteArray := prog_7_method_47_code
def yX5_readText : MethodName := ⟨RX5, "readText", "()I"⟩
abbrev cX5_errorPosition : ByteArray := prog_7_method_48_code
def yX5_errorPosition : MethodName := ⟨RX5, "errorPosition", "()I"⟩
abbrev cX5_load : ByteArray := prog_7_method_49_code
def yX5_load : MethodName := ⟨RX5, "load", "()I"⟩
abbrev cX5_sumOf : ByteArray := prog_7_method_50_code
def yX5_sumOf : MethodName := ⟨RX5, "sumOf", "(I)I"⟩
abbrev cX5_about : ByteArray := prog_7_method_51_code
def yX5_about : MethodName := ⟨RX5, "about", "(I)I"⟩
abbrev cX5_isBus : ByteArray := prog_7_method_52_code
def yX5_isBus : MethodName := ⟨RX5, "isBus", "(I)Z"⟩
abbrev cX5_isPlug : ByteArray := prog_7_method_53_code
def yX5_isPlug : MethodName := ⟨RX5, "isPlug", "(I)Z"⟩
abbrev cX5_layTrial : ByteArray := prog_7_method_54_code
def yX5_layTrial : MethodName := ⟨RX5, "layTrial", "()V"⟩
abbrev cX5_bus : ByteArray := prog_7_method_55_code
def yX5_bus : MethodName := ⟨RX5, "bus", "(II)I"⟩
abbrev cX5_placeOf : ByteArray := prog_7_method_56_code
def yX5_placeOf : MethodName := ⟨RX5, "placeOf", "(I)I"⟩
abbrev cX5_charger : ByteArray := prog_7_method_57_code
def yX5_charger : MethodName := ⟨RX5, "charger", "(II)I"⟩
abbrev cX5_digits : ByteArray := prog_7_method_58_code
def yX5_digits : MethodName := ⟨RX5, "digits", "(I)I"⟩
abbrev cX5_digitOf : ByteArray := prog_7_method_59_code
def yX5_digitOf : MethodName := ⟨RX5, "digitOf", "(II)I"⟩
abbrev cX5_letterOf : ByteArray := prog_7_method_60_code
def yX5_letterOf : MethodName := ⟨RX5, "letterOf", "(II)I"⟩
abbrev cX5_wordOf : ByteArray := prog_7_method_61_code
def yX5_wordOf : MethodName := ⟨RX5, "wordOf", "(I)I"⟩
abbrev cX5_sign : ByteArray := prog_7_method_62_code
def yX5_sign : MethodName := ⟨RX5, "sign", "(II)I"⟩
abbrev cX5_setting : ByteArray := prog_7_method_63_code
def yX5_setting : MethodName := ⟨RX5, "setting", "(I)I"⟩
abbrev cX5_addBus : ByteArray := prog_7_method_64_code
def yX5_addBus : MethodName := ⟨RX5, "addBus", "(IIIII)I"⟩
abbrev cX5_addCharger : ByteArray := prog_7_method_65_code
def yX5_addCharger : MethodName := ⟨RX5, "addCharger", "(I)I"⟩
abbrev cX5_route : ByteArray := prog_7_method_66_code
def yX5_route : MethodName := ⟨RX5, "route", "(IIII)I"⟩
abbrev cX5_battery : ByteArray := prog_7_method_67_code
def yX5_battery : MethodName := ⟨RX5, "battery", "(II)I"⟩
abbrev cX5_isRun : ByteArray := prog_7_method_68_code
def yX5_isRun : MethodName := ⟨RX5, "isRun", "(I)Z"⟩
abbrev cX5_run : ByteArray := prog_7_method_69_code
def yX5_run : MethodName := ⟨RX5, "run", "(I)I"⟩
abbrev cX5_set : ByteArray := prog_7_method_70_code
def yX5_set : MethodName := ⟨RX5, "set", "(II)I"⟩
abbrev cX5_undo : ByteArray := prog_7_method_71_code
def yX5_undo : MethodName := ⟨RX5, "undo", "()I"⟩
abbrev cX5_isFar : ByteArray := prog_7_method_72_code
def yX5_isFar : MethodName := ⟨RX5, "isFar", "(I)Z"⟩
abbrev cX5_coming : ByteArray := prog_7_method_73_code
def yX5_coming : MethodName := ⟨RX5, "coming", "(II)I"⟩
abbrev cX5_leavesNow : ByteArray := prog_7_method_74_code
def yX5_leavesNow : MethodName := ⟨RX5, "leavesNow", "(I)Z"⟩
abbrev cX5_firstMissed : ByteArray := prog_7_method_75_code
def yX5_firstMissed : MethodName := ⟨RX5, "firstMissed", "(I)I"⟩
abbrev cX5_leastLimit : ByteArray := prog_7_method_76_code
def yX5_leastLimit : MethodName := ⟨RX5, "leastLimit", "(I)I"⟩
abbrev cX5_bestNight : ByteArray := prog_7_method_77_code
def yX5_bestNight : MethodName := ⟨RX5, "bestNight", "(I)I"⟩
abbrev cX5_ifPlugged : ByteArray := prog_7_method_78_code
def yX5_ifPlugged : MethodName := ⟨RX5, "ifPlugged", "(II)I"⟩
abbrev cX5_runs : ByteArray := prog_7_method_79_code
def yX5_runs : MethodName := ⟨RX5, "runs", "(I)Z"⟩
abbrev cX5_isThere : ByteArray := prog_7_method_80_code
def yX5_isThere : MethodName := ⟨RX5, "isThere", "(I)Z"⟩
abbrev cX5_renews : ByteArray := prog_7_method_81_code
def yX5_renews : MethodName := ⟨RX5, "renews", "(II)Z"⟩
abbrev cX5_sets : ByteArray := prog_7_method_82_code
def yX5_sets : MethodName := ⟨RX5, "sets", "(II)Z"⟩
abbrev cX5_plugs : ByteArray := prog_7_method_83_code
def yX5_plugs : MethodName := ⟨RX5, "plugs", "(I)Z"⟩
abbrev cX5_wouldBeAt : ByteArray := prog_7_method_84_code
def yX5_wouldBeAt : MethodName := ⟨RX5, "wouldBeAt", "(II)Z"⟩
abbrev cX5_does : ByteArray := prog_7_method_85_code
def yX5_does : MethodName := ⟨RX5, "does", "(I)Z"⟩
abbrev cX5_runScript : ByteArray := prog_7_method_86_code
def yX5_runScript : MethodName := ⟨RX5, "runScript", "(IJ)I"⟩
abbrev cX5_stir : ByteArray := prog_7_method_87_code
def yX5_stir : MethodName := ⟨RX5, "stir", "(I)V"⟩
abbrev cX5_simulate : ByteArray := prog_7_method_88_code
def yX5_simulate : MethodName := ⟨RX5, "simulate", "(JI)I"⟩
abbrev cX5_save : ByteArray := prog_7_method_89_code
def yX5_save : MethodName := ⟨RX5, "save", "(I)I"⟩
abbrev cX5_restore : ByteArray := prog_7_method_90_code
def yX5_restore : MethodName := ⟨RX5, "restore", "(I)I"⟩
def RJ5 : String := "java/lang/AbstractStringBuilder"
def TJ5 : u_T := fun k => match k with
  | _ => ("", "", "", false)
def tyJ5 : Nat → FieldType := fun k => match k with
  | _ => .int
theorem nmJ5 : ∀ a, a < 0 → ∀ b, b < 0 → a ≠ b → (TJ5 a).2.1 ≠ (TJ5 b).2.1 := by decide +kernel
theorem tyJ5_ok : ∀ k, k < 0 → parseFieldDescriptor (TJ5 k).2.2.1 = some (tyJ5 k) := by decide +kernel
abbrev cJ5_init_d00df : ByteArray := prog_8_method_2_code
def yJ5_init_d00df : MethodName := ⟨RJ5, "<init>", "(I)V"⟩
abbrev cJ5_length_8abf5 : ByteArray := prog_8_method_6_code
def yJ5_length_8abf5 : MethodName := ⟨RJ5, "length", "()I"⟩
abbrev cJ5_ensureCapacityInternal_d00df : ByteArray := prog_8_method_9_code
def yJ5_ensureCapacityInternal_d00df : MethodName := ⟨RJ5, "ensureCapacityInternal", "(I)V"⟩
abbrev cJ5_newCapacity_0f7a4 : ByteArray := prog_8_method_10_code
def yJ5_newCapacity_0f7a4 : MethodName := ⟨RJ5, "newCapacity", "(I)I"⟩
abbrev cJ5_inflate_da8c8 : ByteArray := prog_8_method_11_code
def yJ5_inflate_da8c8 : MethodName := ⟨RJ5, "inflate", "()V"⟩
abbrev cJ5_charAt_5068e : ByteArray := prog_8_method_14_code
def yJ5_charAt_5068e : MethodName := ⟨RJ5, "charAt", "(I)C"⟩
abbrev cJ5_append_cf1ce : ByteArray := prog_8_method_22_code
def yJ5_append_cf1ce : MethodName := ⟨RJ5, "append", "(Ljava/lang/String;)Ljava/lang/AbstractStringBuilder;"⟩
abbrev cJ5_appendNull_278bc : ByteArray := prog_8_method_26_code
def yJ5_appendNull_278bc : MethodName := ⟨RJ5, "appendNull", "()Ljava/lang/AbstractStringBuilder;"⟩
abbrev cJ5_append_3fe6f : ByteArray := prog_8_method_31_code
def yJ5_append_3fe6f : MethodName := ⟨RJ5, "append", "(C)Ljava/lang/AbstractStringBuilder;"⟩
abbrev cJ5_append_c97b9 : ByteArray := prog_8_method_32_code
def yJ5_append_c97b9 : MethodName := ⟨RJ5, "append", "(I)Ljava/lang/AbstractStringBuilder;"⟩
abbrev cJ5_isLatin1_aae02 : ByteArray := prog_8_method_68_code
def yJ5_isLatin1_aae02 : MethodName := ⟨RJ5, "isLatin1", "()Z"⟩
abbrev cJ5_inflateIfNeededFor_a7421 : ByteArray := prog_8_method_71_code
def yJ5_inflateIfNeededFor_a7421 : MethodName := ⟨RJ5, "inflateIfNeededFor", "(Ljava/lang/String;)V"⟩
abbrev cJ5_putStringAt_47b60 : ByteArray := prog_8_method_73_code
def yJ5_putStringAt_47b60 : MethodName := ⟨RJ5, "putStringAt", "(ILjava/lang/String;)V"⟩
def RJx8e188 : String := "java/lang/Cloneable"
def TJx8e188 : u_T := fun k => match k with
  | _ => ("", "", "", false)
def tyJx8e188 : Nat → FieldType := fun k => match k with
  | _ => .int
theorem nmJx8e188 : ∀ a, a < 0 → ∀ b, b < 0 → a ≠ b → (TJx8e188 a).2.1 ≠ (TJx8e188 b).2.1 := by decide +kernel
theorem tyJx8e188_ok : ∀ k, k < 0 → parseFieldDescriptor (TJx8e188 k).2.2.1 = some (tyJx8e188 k) := by decide +kernel
def RJ6 : String := "java/lang/Integer"
def TJ6 : u_T := fun k => match k with
  | _ => ("", "", "", false)
def tyJ6 : Nat → FieldType := fun k => match k with
  | _ => .int
theorem nmJ6 : ∀ a, a < 0 → ∀ b, b < 0 → a ≠ b → (TJ6 a).2.1 ≠ (TJ6 b).2.1 := by decide +kernel
theorem tyJ6_ok : ∀ k, k < 0 → parseFieldDescriptor (TJ6 k).2.2.1 = some (tyJ6 k) := by decide +kernel
abbrev cJ6_getChars_ba4f3 : ByteArray := prog_14_method_12_code
def yJ6_getChars_ba4f3 : MethodName := ⟨RJ6, "getChars", "(II[B)I"⟩
abbrev cJ6_stringSize_0f7a4 : ByteArray := prog_14_method_13_code
def yJ6_stringSize_0f7a4 : MethodName := ⟨RJ6, "stringSize", "(I)I"⟩
def RJ9 : String := "java/lang/Math"
def TJ9 : u_T := fun k => match k with
  | _ => ("", "", "", false)
def tyJ9 : Nat → FieldType := fun k => match k with
  | _ => .int
theorem nmJ9 : ∀ a, a < 0 → ∀ b, b < 0 → a ≠ b → (TJ9 a).2.1 ≠ (TJ9 b).2.1 := by decide +kernel
theorem tyJ9_ok : ∀ k, k < 0 → parseFieldDescriptor (TJ9 k).2.2.1 = some (tyJ9 k) := by decide +kernel
abbrev cJ9_floorMod_7cf53 : ByteArray := prog_15_method_50_code
def yJ9_floorMod_7cf53 : MethodName := ⟨RJ9, "floorMod", "(II)I"⟩
abbrev cJ9_max_7cf53 : ByteArray := prog_15_method_65_code
def yJ9_max_7cf53 : MethodName := ⟨RJ9, "max", "(II)I"⟩
abbrev cJ9_min_7cf53 : ByteArray := prog_15_method_69_code
def yJ9_min_7cf53 : MethodName := ⟨RJ9, "min", "(II)I"⟩
def RJ0 : String := "java/lang/String"
def TJ0 : u_T := fun k => match k with
  | _ => ("", "", "", false)
def tyJ0 : Nat → FieldType := fun k => match k with
  | _ => .int
theorem nmJ0 : ∀ a, a < 0 → ∀ b, b < 0 → a ≠ b → (TJ0 a).2.1 ≠ (TJ0 b).2.1 := by decide +kernel
theorem tyJ0_ok : ∀ k, k < 0 → parseFieldDescriptor (TJ0 k).2.2.1 = some (tyJ0 k) := by decide +kernel
abbrev cJ0_length_8abf5 : ByteArray := prog_17_method_54_code
def yJ0_length_8abf5 : MethodName := ⟨RJ0, "length", "()I"⟩
abbrev cJ0_charAt_5068e : ByteArray := prog_17_method_56_code
def yJ0_charAt_5068e : MethodName := ⟨RJ0, "charAt", "(I)C"⟩
abbrev cJ0_getBytes_840e7 : ByteArray := prog_17_method_147_code
def yJ0_getBytes_840e7 : MethodName := ⟨RJ0, "getBytes", "([BIB)V"⟩
abbrev cJ0_coder_7d493 : ByteArray := prog_17_method_152_code
def yJ0_coder_7d493 : MethodName := ⟨RJ0, "coder", "()B"⟩
abbrev cJ0_isLatin1_aae02 : ByteArray := prog_17_method_154_code
def yJ0_isLatin1_aae02 : MethodName := ⟨RJ0, "isLatin1", "()Z"⟩
abbrev cJ0_checkIndex_df160 : ByteArray := prog_17_method_155_code
def yJ0_checkIndex_df160 : MethodName := ⟨RJ0, "checkIndex", "(II)V"⟩
abbrev cJ0_checkBoundsOffCount_cabcc : ByteArray := prog_17_method_157_code
def yJ0_checkBoundsOffCount_cabcc : MethodName := ⟨RJ0, "checkBoundsOffCount", "(III)I"⟩
abbrev cJ0_checkBoundsBeginEnd_23922 : ByteArray := prog_17_method_158_code
def yJ0_checkBoundsBeginEnd_23922 : MethodName := ⟨RJ0, "checkBoundsBeginEnd", "(III)V"⟩
def RJ4 : String := "java/lang/StringBuilder"
def TJ4 : u_T := fun k => match k with
  | 0 => ("java/lang/AbstractStringBuilder", "value", "[B", false)
  | 1 => ("java/lang/AbstractStringBuilder", "coder", "B", false)
  | 2 => ("java/lang/AbstractStringBuilder", "maybeLatin1", "Z", false)
  | _ => ("java/lang/AbstractStringBuilder", "count", "I", false)
def tyJ4 : Nat → FieldType := fun k => match k with
  | 0 => .array .byte
  | 1 => .byte
  | 2 => .boolean
  | _ => .int
theorem nmJ4 : ∀ a, a < 4 → ∀ b, b < 4 → a ≠ b → (TJ4 a).2.1 ≠ (TJ4 b).2.1 := by decide +kernel
theorem tyJ4_ok : ∀ k, k < 4 → parseFieldDescriptor (TJ4 k).2.2.1 = some (tyJ4 k) := by decide +kernel
abbrev cJ4_init_da8c8 : ByteArray := prog_18_method_1_code
def yJ4_init_da8c8 : MethodName := ⟨RJ4, "<init>", "()V"⟩
abbrev cJ4_append_15ec4 : ByteArray := prog_18_method_7_code
def yJ4_append_15ec4 : MethodName := ⟨RJ4, "append", "(Ljava/lang/String;)Ljava/lang/StringBuilder;"⟩
abbrev cJ4_append_cf468 : ByteArray := prog_18_method_14_code
def yJ4_append_cf468 : MethodName := ⟨RJ4, "append", "(C)Ljava/lang/StringBuilder;"⟩
abbrev cJ4_append_bf812 : ByteArray := prog_18_method_15_code
def yJ4_append_bf812 : MethodName := ⟨RJ4, "append", "(I)Ljava/lang/StringBuilder;"⟩
abbrev cJ4_charAt_5068e : ByteArray := prog_18_method_88_code
def yJ4_charAt_5068e : MethodName := ⟨RJ4, "charAt", "(I)C"⟩
abbrev cJ4_length_8abf5 : ByteArray := prog_18_method_93_code
def yJ4_length_8abf5 : MethodName := ⟨RJ4, "length", "()I"⟩
def RJ1 : String := "java/lang/StringLatin1"
def TJ1 : u_T := fun k => match k with
  | _ => ("", "", "", false)
def tyJ1 : Nat → FieldType := fun k => match k with
  | _ => .int
theorem nmJ1 : ∀ a, a < 0 → ∀ b, b < 0 → a ≠ b → (TJ1 a).2.1 ≠ (TJ1 b).2.1 := by decide +kernel
theorem tyJ1_ok : ∀ k, k < 0 → parseFieldDescriptor (TJ1 k).2.2.1 = some (tyJ1 k) := by decide +kernel
abbrev cJ1_charAt_3b067 : ByteArray := prog_19_method_2_code
def yJ1_charAt_3b067 : MethodName := ⟨RJ1, "charAt", "([BI)C"⟩
abbrev cJ1_canEncode_fc78d : ByteArray := prog_19_method_3_code
def yJ1_canEncode_fc78d : MethodName := ⟨RJ1, "canEncode", "(C)Z"⟩
abbrev cJ1_inflate_0e8fd : ByteArray := prog_19_method_50_code
def yJ1_inflate_0e8fd : MethodName := ⟨RJ1, "inflate", "([BI[BII)V"⟩
def RJ2 : String := "java/lang/StringUTF16"
def TJ2 : u_T := fun k => match k with
  | _ => ("", "", "", false)
def tyJ2 : Nat → FieldType := fun k => match k with
  | _ => .int
theorem nmJ2 : ∀ a, a < 0 → ∀ b, b < 0 → a ≠ b → (TJ2 a).2.1 ≠ (TJ2 b).2.1 := by decide +kernel
theorem tyJ2_ok : ∀ k, k < 0 → parseFieldDescriptor (TJ2 k).2.2.1 = some (tyJ2 k) := by decide +kernel
abbrev cJ2_newBytesFor_77867 : ByteArray := prog_20_method_2_code
def yJ2_newBytesFor_77867 : MethodName := ⟨RJ2, "newBytesFor", "(I)[B"⟩
abbrev cJ2_newBytesLength_0f7a4 : ByteArray := prog_20_method_3_code
def yJ2_newBytesLength_0f7a4 : MethodName := ⟨RJ2, "newBytesLength", "(I)I"⟩
abbrev cJ2_putChar_b72d1 : ByteArray := prog_20_method_4_code
def yJ2_putChar_b72d1 : MethodName := ⟨RJ2, "putChar", "([BII)V"⟩
abbrev cJ2_getChar_3b067 : ByteArray := prog_20_method_5_code
def yJ2_getChar_3b067 : MethodName := ⟨RJ2, "getChar", "([BI)C"⟩
abbrev cJ2_length_9d52b : ByteArray := prog_20_method_6_code
def yJ2_length_9d52b : MethodName := ⟨RJ2, "length", "([B)I"⟩
abbrev cJ2_putCharSB_b72d1 : ByteArray := prog_20_method_71_code
def yJ2_putCharSB_b72d1 : MethodName := ⟨RJ2, "putCharSB", "([BII)V"⟩
abbrev cJ2_getChars_46870 : ByteArray := prog_20_method_77_code
def yJ2_getChars_46870 : MethodName := ⟨RJ2, "getChars", "(III[B)I"⟩
abbrev cJ2_putCharsAt_cd4e5 : ByteArray := prog_20_method_81_code
def yJ2_putCharsAt_cd4e5 : MethodName := ⟨RJ2, "putCharsAt", "([BICCCC)I"⟩
abbrev cJ2_charAt_3b067 : ByteArray := prog_20_method_83_code
def yJ2_charAt_3b067 : MethodName := ⟨RJ2, "charAt", "([BI)C"⟩
abbrev cJ2_inflate_0e8fd : ByteArray := prog_20_method_86_code
def yJ2_inflate_0e8fd : MethodName := ⟨RJ2, "inflate", "([BI[BII)V"⟩
abbrev cJ2_getChars_ba4f3 : ByteArray := prog_20_method_89_code
def yJ2_getChars_ba4f3 : MethodName := ⟨RJ2, "getChars", "(II[B)I"⟩
abbrev cJ2_checkIndex_2214a : ByteArray := prog_20_method_91_code
def yJ2_checkIndex_2214a : MethodName := ⟨RJ2, "checkIndex", "(I[B)V"⟩
abbrev cJ2_checkBoundsBeginEnd_d044e : ByteArray := prog_20_method_93_code
def yJ2_checkBoundsBeginEnd_d044e : MethodName := ⟨RJ2, "checkBoundsBeginEnd", "(II[B)V"⟩
abbrev cJ2_checkBoundsOffCount_d044e : ByteArray := prog_20_method_94_code
def yJ2_checkBoundsOffCount_d044e : MethodName := ⟨RJ2, "checkBoundsOffCount", "(II[B)V"⟩
def RJ10 : String := "java/lang/System"
def TJ10 : u_T := fun k => match k with
  | _ => ("", "", "", false)
def tyJ10 : Nat → FieldType := fun k => match k with
  | _ => .int
theorem nmJ10 : ∀ a, a < 0 → ∀ b, b < 0 → a ≠ b → (TJ10 a).2.1 ≠ (TJ10 b).2.1 := by decide +kernel
theorem tyJ10_ok : ∀ k, k < 0 → parseFieldDescriptor (TJ10 k).2.2.1 = some (tyJ10 k) := by decide +kernel
def RJ7 : String := "java/util/Arrays"
def TJ7 : u_T := fun k => match k with
  | _ => ("", "", "", false)
def tyJ7 : Nat → FieldType := fun k => match k with
  | _ => .int
theorem nmJ7 : ∀ a, a < 0 → ∀ b, b < 0 → a ≠ b → (TJ7 a).2.1 ≠ (TJ7 b).2.1 := by decide +kernel
theorem tyJ7_ok : ∀ k, k < 0 → parseFieldDescriptor (TJ7 k).2.2.1 = some (tyJ7 k) := by decide +kernel
abbrev cJ7_copyOf_9075b : ByteArray := prog_23_method_121_code
def yJ7_copyOf_9075b : MethodName := ⟨RJ7, "copyOf", "([BI)[B"⟩
def RJ8 : String := "jdk/internal/util/ArraysSupport"
def TJ8 : u_T := fun k => match k with
  | _ => ("", "", "", false)
def tyJ8 : Nat → FieldType := fun k => match k with
  | _ => .int
theorem nmJ8 : ∀ a, a < 0 → ∀ b, b < 0 → a ≠ b → (TJ8 a).2.1 ≠ (TJ8 b).2.1 := by decide +kernel
theorem tyJ8_ok : ∀ k, k < 0 → parseFieldDescriptor (TJ8 k).2.2.1 = some (tyJ8 k) := by decide +kernel
abbrev cJ8_newLength_cabcc : ByteArray := prog_24_method_27_code
def yJ8_newLength_cabcc : MethodName := ⟨RJ8, "newLength", "(III)I"⟩
abbrev cJ8_hugeLength_7cf53 : ByteArray := prog_24_method_28_code
def yJ8_hugeLength_7cf53 : MethodName := ⟨RJ8, "hugeLength", "(II)I"⟩
def RJ3 : String := "jdk/internal/util/Preconditions"
def TJ3 : u_T := fun k => match k with
  | _ => ("", "", "", false)
def tyJ3 : Nat → FieldType := fun k => match k with
  | _ => .int
theorem nmJ3 : ∀ a, a < 0 → ∀ b, b < 0 → a ≠ b → (TJ3 a).2.1 ≠ (TJ3 b).2.1 := by decide +kernel
theorem tyJ3_ok : ∀ k, k < 0 → parseFieldDescriptor (TJ3 k).2.2.1 = some (tyJ3 k) := by decide +kernel
abbrev cJ3_checkIndex_8e157 : ByteArray := prog_25_method_11_code
def yJ3_checkIndex_8e157 : MethodName := ⟨RJ3, "checkIndex", "(IILjava/util/function/BiFunction;)I"⟩
abbrev cJ3_checkFromToIndex_8c36e : ByteArray := prog_25_method_12_code
def yJ3_checkFromToIndex_8c36e : MethodName := ⟨RJ3, "checkFromToIndex", "(IIILjava/util/function/BiFunction;)I"⟩
abbrev cJ3_checkFromIndexSize_8c36e : ByteArray := prog_25_method_13_code
def yJ3_checkFromIndexSize_8c36e : MethodName := ⟨RJ3, "checkFromIndexSize", "(IIILjava/util/function/BiFunction;)I"⟩
def RL : String := "DepotChargeLaw"
abbrev cL_append : ByteArray := method_3_code
def yL_append : MethodName := ⟨RL, "append", "(LDepotCharge;I[J)I"⟩
abbrev cL_load : ByteArray := method_4_code
def yL_load : MethodName := ⟨RL, "load", "(LDepotCharge;[J)I"⟩
abbrev cL_about : ByteArray := method_5_code
def yL_about : MethodName := ⟨RL, "about", "(LDepotCharge;I[J)I"⟩
abbrev cL_bus : ByteArray := method_6_code
def yL_bus : MethodName := ⟨RL, "bus", "(LDepotCharge;II[J)I"⟩
abbrev cL_charger : ByteArray := method_7_code
def yL_charger : MethodName := ⟨RL, "charger", "(LDepotCharge;II[J)I"⟩
abbrev cL_sign : ByteArray := method_8_code
def yL_sign : MethodName := ⟨RL, "sign", "(LDepotCharge;II[J)I"⟩
abbrev cL_setting : ByteArray := method_9_code
def yL_setting : MethodName := ⟨RL, "setting", "(LDepotCharge;I[J)I"⟩
abbrev cL_addBus : ByteArray := method_10_code
def yL_addBus : MethodName := ⟨RL, "addBus", "(LDepotCharge;IIIII[J)I"⟩
abbrev cL_addCharger : ByteArray := method_11_code
def yL_addCharger : MethodName := ⟨RL, "addCharger", "(LDepotCharge;I[J)I"⟩
abbrev cL_route : ByteArray := method_12_code
def yL_route : MethodName := ⟨RL, "route", "(LDepotCharge;IIII[J)I"⟩
abbrev cL_battery : ByteArray := method_13_code
def yL_battery : MethodName := ⟨RL, "battery", "(LDepotCharge;II[J)I"⟩
abbrev cL_run : ByteArray := method_14_code
def yL_run : MethodName := ⟨RL, "run", "(LDepotCharge;I[J)I"⟩
abbrev cL_set : ByteArray := method_15_code
def yL_set : MethodName := ⟨RL, "set", "(LDepotCharge;II[J)I"⟩
abbrev cL_undo : ByteArray := method_16_code
def yL_undo : MethodName := ⟨RL, "undo", "(LDepotCharge;[J)I"⟩
abbrev cL_coming : ByteArray := method_17_code
def yL_coming : MethodName := ⟨RL, "coming", "(LDepotCharge;II[J)I"⟩
abbrev cL_firstMissed : ByteArray := method_18_code
def yL_firstMissed : MethodName := ⟨RL, "firstMissed", "(LDepotCharge;I[J)I"⟩
abbrev cL_leastLimit : ByteArray := method_19_code
def yL_leastLimit : MethodName := ⟨RL, "leastLimit", "(LDepotCharge;I[J)I"⟩
abbrev cL_bestNight : ByteArray := method_20_code
def yL_bestNight : MethodName := ⟨RL, "bestNight", "(LDepotCharge;I[J)I"⟩
abbrev cL_ifPlugged : ByteArray := method_21_code
def yL_ifPlugged : MethodName := ⟨RL, "ifPlugged", "(LDepotCharge;II[J)I"⟩
abbrev cL_runScript : ByteArray := method_22_code
def yL_runScript : MethodName := ⟨RL, "runScript", "(LDepotCharge;IJ[J)I"⟩
abbrev cL_simulate : ByteArray := method_23_code
def yL_simulate : MethodName := ⟨RL, "simulate", "(LDepotCharge;JI[J)I"⟩
abbrev cL_save : ByteArray := method_24_code
def yL_save : MethodName := ⟨RL, "save", "(LDepotCharge;I[J)I"⟩
abbrev cL_restore : ByteArray := method_25_code
def yL_restore : MethodName := ⟨RL, "restore", "(LDepotCharge;I[J)I"⟩
abbrev cL_law : ByteArray := code
def yL_law : MethodName := ⟨RL, "law", "([I)Z"⟩
theorem dX0_init_0 : decode cX0_init 0 = .ok (.aload_n 0, 1) := by decide +kernel
theorem dX0_init_1 : decode cX0_init 1 = .ok (.invokespecial 3, 3) := by decide +kernel
theorem dX0_init_4 : decode cX0_init 4 = .ok (.aload_n 0, 1) := by decide +kernel
theorem dX0_init_5 : decode cX0_init 5 = .ok (.iconst (-1), 1) := by decide +kernel
theorem dX0_init_6 : decode cX0_init 6 = .ok (.putfield 9, 3) := by decide +kernel
theorem dX0_init_9 : decode cX0_init 9 = .ok (.aload_n 0, 1) := by decide +kernel
theorem dX0_init_10 : decode cX0_init 10 = .ok (.iconst (-1), 1) := by decide +kernel
theorem dX0_init_11 : decode cX0_init 11 = .ok (.putfield 15, 3) := by decide +kernel
theorem dX0_init_14 : decode cX0_init 14 = .ok (.return_, 1) := by decide +kernel
theorem dX0_becomeLike_0 : decode cX0_becomeLike 0 = .ok (.aload_n 0, 1) := by decide +kernel
theorem dX0_becomeLike_1 : decode cX0_becomeLike 1 = .ok (.aload_n 1, 1) := by decide +kernel
theorem dX0_becomeLike_2 : decode cX0_becomeLike 2 = .ok (.getfield 18, 3) := by decide +kernel
theorem dX0_becomeLike_5 : decode cX0_becomeLike 5 = .ok (.putfield 18, 3) := by decide +kernel
theorem dX0_becomeLike_8 : decode cX0_becomeLike 8 = .ok (.aload_n 0, 1) := by decide +kernel
theorem dX0_becomeLike_9 : decode cX0_becomeLike 9 = .ok (.aload_n 1, 1) := by decide +kernel
theorem dX0_becomeLike_10 : decode cX0_becomeLike 10 = .ok (.getfield 21, 3) := by decide +kernel
theorem dX0_becomeLike_13 : decode cX0_becomeLike 13 = .ok (.putfield 21, 3) := by decide +kernel
theorem dX0_becomeLike_16 : decode cX0_becomeLike 16 = .ok (.aload_n 0, 1) := by decide +kernel
theorem dX0_becomeLike_17 : decode cX0_becomeLike 17 = .ok (.aload_n 1, 1) := by decide +kernel
theorem dX0_becomeLike_18 : decode cX0_becomeLike 18 = .ok (.getfield 24, 3) := by decide +kernel
theorem dX0_becomeLike_21 : decode cX0_becomeLike 21 = .ok (.putfield 24, 3) := by decide +kernel
theorem dX0_becomeLike_24 : decode cX0_becomeLike 24 = .ok (.aload_n 0, 1) := by decide +kernel
theorem dX0_becomeLike_25 : decode cX0_becomeLike 25 = .ok (.aload_n 1, 1) := by decide +kernel
theorem dX0_becomeLike_26 : decode cX0_becomeLike 26 = .ok (.getfield 27, 3) := by decide +kernel
theorem dX0_becomeLike_29 : decode cX0_becomeLike 29 = .ok (.putfield 27, 3) := by decide +kernel
theorem dX0_becomeLike_32 : decode cX0_becomeLike 32 = .ok (.aload_n 0, 1) := by decide +kernel
theorem dX0_becomeLike_33 : decode cX0_becomeLike 33 = .ok (.aload_n 1, 1) := by decide +kernel
theorem dX0_becomeLike_34 : decode cX0_becomeLike 34 = .ok (.getfield 30, 3) := by decide +kernel
theorem dX0_becomeLike_37 : decode cX0_becomeLike 37 = .ok (.putfield 30, 3) := by decide +kernel
theorem dX0_becomeLike_40 : decode cX0_becomeLike 40 = .ok (.aload_n 0, 1) := by decide +kernel
theorem dX0_becomeLike_41 : decode cX0_becomeLike 41 = .ok (.aload_n 1, 1) := by decide +kernel
theorem dX0_becomeLike_42 : decode cX0_becomeLike 42 = .ok (.getfield 33, 3) := by decide +kernel
theorem dX0_becomeLike_45 : decode cX0_becomeLike 45 = .ok (.putfield 33, 3) := by decide +kernel
theorem dX0_becomeLike_48 : decode cX0_becomeLike 48 = .ok (.aload_n 0, 1) := by decide +kernel
theorem dX0_becomeLike_49 : decode cX0_becomeLike 49 = .ok (.aload_n 1, 1) := by decide +kernel
theorem dX0_becomeLike_50 : decode cX0_becomeLike 50 = .ok (.getfield 36, 3) := by decide +kernel
theorem dX0_becomeLike_53 : decode cX0_becomeLike 53 = .ok (.putfield 36, 3) := by decide +kernel
theorem dX0_becomeLike_56 : decode cX0_becomeLike 56 = .ok (.return_, 1) := by decide +kernel
theorem dX0_giveRoute_0 : decode cX0_giveRoute 0 = .ok (.aload_n 0, 1) := by decide +kernel
theorem dX0_giveRoute_1 : decode cX0_giveRoute 1 = .ok (.iload_n 1, 1) := by decide +kernel
theorem dX0_giveRoute_2 : decode cX0_giveRoute 2 = .ok (.putfield 24, 3) := by decide +kernel
theorem dX0_giveRoute_5 : decode cX0_giveRoute 5 = .ok (.aload_n 0, 1) := by decide +kernel
theorem dX0_giveRoute_6 : decode cX0_giveRoute 6 = .ok (.iload_n 2, 1) := by decide +kernel
theorem dX0_giveRoute_7 : decode cX0_giveRoute 7 = .ok (.putfield 27, 3) := by decide +kernel
theorem dX0_giveRoute_10 : decode cX0_giveRoute 10 = .ok (.aload_n 0, 1) := by decide +kernel
theorem dX0_giveRoute_11 : decode cX0_giveRoute 11 = .ok (.iload_n 3, 1) := by decide +kernel
theorem dX0_giveRoute_12 : decode cX0_giveRoute 12 = .ok (.putfield 30, 3) := by decide +kernel
theorem dX0_giveRoute_15 : decode cX0_giveRoute 15 = .ok (.return_, 1) := by decide +kernel
theorem dX0_giveBattery_0 : decode cX0_giveBattery 0 = .ok (.aload_n 0, 1) := by decide +kernel
theorem dX0_giveBattery_1 : decode cX0_giveBattery 1 = .ok (.iload_n 1, 1) := by decide +kernel
theorem dX0_giveBattery_2 : decode cX0_giveBattery 2 = .ok (.putfield 18, 3) := by decide +kernel
theorem dX0_giveBattery_5 : decode cX0_giveBattery 5 = .ok (.aload_n 0, 1) := by decide +kernel
theorem dX0_giveBattery_6 : decode cX0_giveBattery 6 = .ok (.iconst 0, 1) := by decide +kernel
theorem dX0_giveBattery_7 : decode cX0_giveBattery 7 = .ok (.putfield 21, 3) := by decide +kernel
theorem dX0_giveBattery_10 : decode cX0_giveBattery 10 = .ok (.aload_n 0, 1) := by decide +kernel
theorem dX0_giveBattery_11 : decode cX0_giveBattery 11 = .ok (.iconst 0, 1) := by decide +kernel
theorem dX0_giveBattery_12 : decode cX0_giveBattery 12 = .ok (.putfield 33, 3) := by decide +kernel
theorem dX0_giveBattery_15 : decode cX0_giveBattery 15 = .ok (.return_, 1) := by decide +kernel
theorem dX0_isLow_0 : decode cX0_isLow 0 = .ok (.aload_n 0, 1) := by decide +kernel
theorem dX0_isLow_1 : decode cX0_isLow 1 = .ok (.getfield 36, 3) := by decide +kernel
theorem dX0_isLow_4 : decode cX0_isLow 4 = .ok (.ifCond .ne 18, 3) := by decide +kernel
theorem dX0_isLow_7 : decode cX0_isLow 7 = .ok (.aload_n 0, 1) := by decide +kernel
theorem dX0_isLow_8 : decode cX0_isLow 8 = .ok (.getfield 21, 3) := by decide +kernel
theorem dX0_isLow_11 : decode cX0_isLow 11 = .ok (.aload_n 0, 1) := by decide +kernel
theorem dX0_isLow_12 : decode cX0_isLow 12 = .ok (.getfield 24, 3) := by decide +kernel
theorem dX0_isLow_15 : decode cX0_isLow 15 = .ok (.if_icmp .ge 7, 3) := by decide +kernel
theorem dX0_isLow_18 : decode cX0_isLow 18 = .ok (.iconst 1, 1) := by decide +kernel
theorem dX0_isLow_19 : decode cX0_isLow 19 = .ok (.goto 4, 3) := by decide +kernel
theorem dX0_isLow_22 : decode cX0_isLow 22 = .ok (.iconst 0, 1) := by decide +kernel
theorem dX0_isLow_23 : decode cX0_isLow 23 = .ok (.ireturn, 1) := by decide +kernel
theorem dX0_word_0 : decode cX0_word 0 = .ok (.aload_n 0, 1) := by decide +kernel
theorem dX0_word_1 : decode cX0_word 1 = .ok (.getfield 36, 3) := by decide +kernel
theorem dX0_word_4 : decode cX0_word 4 = .ok (.ifCond .eq 6, 3) := by decide +kernel
theorem dX0_word_7 : decode cX0_word 7 = .ok (.ldc 40, 2) := by decide +kernel
theorem dX0_word_9 : decode cX0_word 9 = .ok (.areturn, 1) := by decide +kernel
theorem dX0_word_10 : decode cX0_word 10 = .ok (.aload_n 0, 1) := by decide +kernel
theorem dX0_word_11 : decode cX0_word 11 = .ok (.invokevirtual 41, 3) := by decide +kernel
theorem dX0_word_14 : decode cX0_word 14 = .ok (.ifCond .eq 6, 3) := by decide +kernel
theorem dX0_word_17 : decode cX0_word 17 = .ok (.ldc 45, 2) := by decide +kernel
theorem dX0_word_19 : decode cX0_word 19 = .ok (.areturn, 1) := by decide +kernel
theorem dX0_word_20 : decode cX0_word 20 = .ok (.aload_n 0, 1) := by decide +kernel
theorem dX0_word_21 : decode cX0_word 21 = .ok (.getfield 21, 3) := by decide +kernel
theorem dX0_word_24 : decode cX0_word 24 = .ok (.aload_n 0, 1) := by decide +kernel
theorem dX0_word_25 : decode cX0_word 25 = .ok (.getfield 18, 3) := by decide +kernel
theorem dX0_word_28 : decode cX0_word 28 = .ok (.if_icmp .ne 8, 3) := by decide +kernel
theorem dX0_word_31 : decode cX0_word 31 = .ok (.ldc 47, 2) := by decide +kernel
theorem dX0_word_33 : decode cX0_word 33 = .ok (.goto 5, 3) := by decide +kernel
theorem dX0_word_36 : decode cX0_word 36 = .ok (.ldc 49, 2) := by decide +kernel
theorem dX0_word_38 : decode cX0_word 38 = .ok (.areturn, 1) := by decide +kernel
theorem dX0_goOut_0 : decode cX0_goOut 0 = .ok (.aload_n 0, 1) := by decide +kernel
theorem dX0_goOut_1 : decode cX0_goOut 1 = .ok (.iconst 1, 1) := by decide +kernel
theorem dX0_goOut_2 : decode cX0_goOut 2 = .ok (.putfield 36, 3) := by decide +kernel
theorem dX0_goOut_5 : decode cX0_goOut 5 = .ok (.aload_n 0, 1) := by decide +kernel
theorem dX0_goOut_6 : decode cX0_goOut 6 = .ok (.dup, 1) := by decide +kernel
theorem dX0_goOut_7 : decode cX0_goOut 7 = .ok (.getfield 21, 3) := by decide +kernel
theorem dX0_goOut_10 : decode cX0_goOut 10 = .ok (.aload_n 0, 1) := by decide +kernel
theorem dX0_goOut_11 : decode cX0_goOut 11 = .ok (.getfield 24, 3) := by decide +kernel
theorem dX0_goOut_14 : decode cX0_goOut 14 = .ok (.isub, 1) := by decide +kernel
theorem dX0_goOut_15 : decode cX0_goOut 15 = .ok (.putfield 21, 3) := by decide +kernel
theorem dX0_goOut_18 : decode cX0_goOut 18 = .ok (.aload_n 0, 1) := by decide +kernel
theorem dX0_goOut_19 : decode cX0_goOut 19 = .ok (.dup, 1) := by decide +kernel
theorem dX0_goOut_20 : decode cX0_goOut 20 = .ok (.getfield 33, 3) := by decide +kernel
theorem dX0_goOut_23 : decode cX0_goOut 23 = .ok (.iload_n 1, 1) := by decide +kernel
theorem dX0_goOut_24 : decode cX0_goOut 24 = .ok (.iadd, 1) := by decide +kernel
theorem dX0_goOut_25 : decode cX0_goOut 25 = .ok (.putfield 33, 3) := by decide +kernel
theorem dX0_goOut_28 : decode cX0_goOut 28 = .ok (.aload_n 0, 1) := by decide +kernel
theorem dX0_goOut_29 : decode cX0_goOut 29 = .ok (.getfield 33, 3) := by decide +kernel
theorem dX0_goOut_32 : decode cX0_goOut 32 = .ok (.iload_n 2, 1) := by decide +kernel
theorem dX0_goOut_33 : decode cX0_goOut 33 = .ok (.if_icmp .lt 43, 3) := by decide +kernel
theorem dX0_goOut_36 : decode cX0_goOut 36 = .ok (.aload_n 0, 1) := by decide +kernel
theorem dX0_goOut_37 : decode cX0_goOut 37 = .ok (.dup, 1) := by decide +kernel
theorem dX0_goOut_38 : decode cX0_goOut 38 = .ok (.getfield 33, 3) := by decide +kernel
theorem dX0_goOut_41 : decode cX0_goOut 41 = .ok (.iload_n 2, 1) := by decide +kernel
theorem dX0_goOut_42 : decode cX0_goOut 42 = .ok (.isub, 1) := by decide +kernel
theorem dX0_goOut_43 : decode cX0_goOut 43 = .ok (.putfield 33, 3) := by decide +kernel
theorem dX0_goOut_46 : decode cX0_goOut 46 = .ok (.aload_n 0, 1) := by decide +kernel
theorem dX0_goOut_47 : decode cX0_goOut 47 = .ok (.bipush 10, 2) := by decide +kernel
theorem dX0_goOut_49 : decode cX0_goOut 49 = .ok (.aload_n 0, 1) := by decide +kernel
theorem dX0_goOut_50 : decode cX0_goOut 50 = .ok (.getfield 18, 3) := by decide +kernel
theorem dX0_goOut_53 : decode cX0_goOut 53 = .ok (.iconst 1, 1) := by decide +kernel
theorem dX0_goOut_54 : decode cX0_goOut 54 = .ok (.isub, 1) := by decide +kernel
theorem dX0_goOut_55 : decode cX0_goOut 55 = .ok (.invokestatic 51, 3) := by decide +kernel
theorem dX0_goOut_58 : decode cX0_goOut 58 = .ok (.putfield 18, 3) := by decide +kernel
theorem dX0_goOut_61 : decode cX0_goOut 61 = .ok (.aload_n 0, 1) := by decide +kernel
theorem dX0_goOut_62 : decode cX0_goOut 62 = .ok (.aload_n 0, 1) := by decide +kernel
theorem dX0_goOut_63 : decode cX0_goOut 63 = .ok (.getfield 21, 3) := by decide +kernel
theorem dX0_goOut_66 : decode cX0_goOut 66 = .ok (.aload_n 0, 1) := by decide +kernel
theorem dX0_goOut_67 : decode cX0_goOut 67 = .ok (.getfield 18, 3) := by decide +kernel
theorem dX0_goOut_70 : decode cX0_goOut 70 = .ok (.invokestatic 57, 3) := by decide +kernel
theorem dX0_goOut_73 : decode cX0_goOut 73 = .ok (.putfield 21, 3) := by decide +kernel
theorem dX0_goOut_76 : decode cX0_goOut 76 = .ok (.return_, 1) := by decide +kernel
theorem dX0_wearOfRoute_0 : decode cX0_wearOfRoute 0 = .ok (.bipush 100, 2) := by decide +kernel
theorem dX0_wearOfRoute_2 : decode cX0_wearOfRoute 2 = .ok (.aload_n 0, 1) := by decide +kernel
theorem dX0_wearOfRoute_3 : decode cX0_wearOfRoute 3 = .ok (.getfield 24, 3) := by decide +kernel
theorem dX0_wearOfRoute_6 : decode cX0_wearOfRoute 6 = .ok (.imul, 1) := by decide +kernel
theorem dX0_wearOfRoute_7 : decode cX0_wearOfRoute 7 = .ok (.bipush 80, 2) := by decide +kernel
theorem dX0_wearOfRoute_9 : decode cX0_wearOfRoute 9 = .ok (.aload_n 0, 1) := by decide +kernel
theorem dX0_wearOfRoute_10 : decode cX0_wearOfRoute 10 = .ok (.getfield 18, 3) := by decide +kernel
theorem dX0_wearOfRoute_13 : decode cX0_wearOfRoute 13 = .ok (.imul, 1) := by decide +kernel
theorem dX0_wearOfRoute_14 : decode cX0_wearOfRoute 14 = .ok (.if_icmp .lt 5, 3) := by decide +kernel
theorem dX0_wearOfRoute_17 : decode cX0_wearOfRoute 17 = .ok (.iconst 3, 1) := by decide +kernel
theorem dX0_wearOfRoute_18 : decode cX0_wearOfRoute 18 = .ok (.ireturn, 1) := by decide +kernel
theorem dX0_wearOfRoute_19 : decode cX0_wearOfRoute 19 = .ok (.bipush 100, 2) := by decide +kernel
theorem dX0_wearOfRoute_21 : decode cX0_wearOfRoute 21 = .ok (.aload_n 0, 1) := by decide +kernel
theorem dX0_wearOfRoute_22 : decode cX0_wearOfRoute 22 = .ok (.getfield 24, 3) := by decide +kernel
theorem dX0_wearOfRoute_25 : decode cX0_wearOfRoute 25 = .ok (.imul, 1) := by decide +kernel
theorem dX0_wearOfRoute_26 : decode cX0_wearOfRoute 26 = .ok (.bipush 50, 2) := by decide +kernel
theorem dX0_wearOfRoute_28 : decode cX0_wearOfRoute 28 = .ok (.aload_n 0, 1) := by decide +kernel
theorem dX0_wearOfRoute_29 : decode cX0_wearOfRoute 29 = .ok (.getfield 18, 3) := by decide +kernel
theorem dX0_wearOfRoute_32 : decode cX0_wearOfRoute 32 = .ok (.imul, 1) := by decide +kernel
theorem dX0_wearOfRoute_33 : decode cX0_wearOfRoute 33 = .ok (.if_icmp .lt 7, 3) := by decide +kernel
theorem dX0_wearOfRoute_36 : decode cX0_wearOfRoute 36 = .ok (.iconst 2, 1) := by decide +kernel
theorem dX0_wearOfRoute_37 : decode cX0_wearOfRoute 37 = .ok (.goto 4, 3) := by decide +kernel
theorem dX0_wearOfRoute_40 : decode cX0_wearOfRoute 40 = .ok (.iconst 1, 1) := by decide +kernel
theorem dX0_wearOfRoute_41 : decode cX0_wearOfRoute 41 = .ok (.ireturn, 1) := by decide +kernel
theorem dX1_init_0 : decode cX1_init 0 = .ok (.aload_n 0, 1) := by decide +kernel
theorem dX1_init_1 : decode cX1_init 1 = .ok (.invokespecial 3, 3) := by decide +kernel
theorem dX1_init_4 : decode cX1_init 4 = .ok (.aload_n 0, 1) := by decide +kernel
theorem dX1_init_5 : decode cX1_init 5 = .ok (.bipush 8, 2) := by decide +kernel
theorem dX1_init_7 : decode cX1_init 7 = .ok (.anewarray 9, 3) := by decide +kernel
theorem dX1_init_10 : decode cX1_init 10 = .ok (.putfield 11, 3) := by decide +kernel
theorem dX1_init_13 : decode cX1_init 13 = .ok (.aload_n 0, 1) := by decide +kernel
theorem dX1_init_14 : decode cX1_init 14 = .ok (.iconst 5, 1) := by decide +kernel
theorem dX1_init_15 : decode cX1_init 15 = .ok (.newarray .int, 2) := by decide +kernel
theorem dX1_init_17 : decode cX1_init 17 = .ok (.putfield 17, 3) := by decide +kernel
theorem dX1_init_20 : decode cX1_init 20 = .ok (.aload_n 0, 1) := by decide +kernel
theorem dX1_init_21 : decode cX1_init 21 = .ok (.iconst 5, 1) := by decide +kernel
theorem dX1_init_22 : decode cX1_init 22 = .ok (.newarray .int, 2) := by decide +kernel
theorem dX1_init_24 : decode cX1_init 24 = .ok (.putfield 21, 3) := by decide +kernel
theorem dX1_init_27 : decode cX1_init 27 = .ok (.aload_n 0, 1) := by decide +kernel
theorem dX1_init_28 : decode cX1_init 28 = .ok (.bipush 6, 2) := by decide +kernel
theorem dX1_init_30 : decode cX1_init 30 = .ok (.newarray .int, 2) := by decide +kernel
theorem dX1_init_32 : decode cX1_init 32 = .ok (.putfield 24, 3) := by decide +kernel
theorem dX1_init_35 : decode cX1_init 35 = .ok (.iconst 0, 1) := by decide +kernel
theorem dX1_init_36 : decode cX1_init 36 = .ok (.istore_n 1, 1) := by decide +kernel
theorem dX1_init_37 : decode cX1_init 37 = .ok (.iload_n 1, 1) := by decide +kernel
theorem dX1_init_38 : decode cX1_init 38 = .ok (.aload_n 0, 1) := by decide +kernel
theorem dX1_init_39 : decode cX1_init 39 = .ok (.getfield 11, 3) := by decide +kernel
theorem dX1_init_42 : decode cX1_init 42 = .ok (.arraylength, 1) := by decide +kernel
theorem dX1_init_43 : decode cX1_init 43 = .ok (.if_icmp .ge 22, 3) := by decide +kernel
theorem dX1_init_46 : decode cX1_init 46 = .ok (.aload_n 0, 1) := by decide +kernel
theorem dX1_init_47 : decode cX1_init 47 = .ok (.getfield 11, 3) := by decide +kernel
theorem dX1_init_50 : decode cX1_init 50 = .ok (.iload_n 1, 1) := by decide +kernel
theorem dX1_init_51 : decode cX1_init 51 = .ok (.new 9, 3) := by decide +kernel
theorem dX1_init_54 : decode cX1_init 54 = .ok (.dup, 1) := by decide +kernel
theorem dX1_init_55 : decode cX1_init 55 = .ok (.invokespecial 27, 3) := by decide +kernel
theorem dX1_init_58 : decode cX1_init 58 = .ok (.aastore, 1) := by decide +kernel
theorem dX1_init_59 : decode cX1_init 59 = .ok (.iinc 1 1, 3) := by decide +kernel
theorem dX1_init_62 : decode cX1_init 62 = .ok (.goto (-25), 3) := by decide +kernel
theorem dX1_init_65 : decode cX1_init 65 = .ok (.getstatic 28, 3) := by decide +kernel
theorem dX1_init_68 : decode cX1_init 68 = .ok (.iconst 0, 1) := by decide +kernel
theorem dX1_init_69 : decode cX1_init 69 = .ok (.aload_n 0, 1) := by decide +kernel
theorem dX1_init_70 : decode cX1_init 70 = .ok (.getfield 24, 3) := by decide +kernel
theorem dX1_init_73 : decode cX1_init 73 = .ok (.iconst 0, 1) := by decide +kernel
theorem dX1_init_74 : decode cX1_init 74 = .ok (.bipush 6, 2) := by decide +kernel
theorem dX1_init_76 : decode cX1_init 76 = .ok (.invokestatic 31, 3) := by decide +kernel
theorem dX1_init_79 : decode cX1_init 79 = .ok (.return_, 1) := by decide +kernel
theorem dX1_becomeNew_0 : decode cX1_becomeNew 0 = .ok (.getstatic 28, 3) := by decide +kernel
theorem dX1_becomeNew_3 : decode cX1_becomeNew 3 = .ok (.iconst 0, 1) := by decide +kernel
theorem dX1_becomeNew_4 : decode cX1_becomeNew 4 = .ok (.aload_n 0, 1) := by decide +kernel
theorem dX1_becomeNew_5 : decode cX1_becomeNew 5 = .ok (.getfield 24, 3) := by decide +kernel
theorem dX1_becomeNew_8 : decode cX1_becomeNew 8 = .ok (.iconst 0, 1) := by decide +kernel
theorem dX1_becomeNew_9 : decode cX1_becomeNew 9 = .ok (.bipush 6, 2) := by decide +kernel
theorem dX1_becomeNew_11 : decode cX1_becomeNew 11 = .ok (.invokestatic 31, 3) := by decide +kernel
theorem dX1_becomeNew_14 : decode cX1_becomeNew 14 = .ok (.aload_n 0, 1) := by decide +kernel
theorem dX1_becomeNew_15 : decode cX1_becomeNew 15 = .ok (.iconst 0, 1) := by decide +kernel
theorem dX1_becomeNew_16 : decode cX1_becomeNew 16 = .ok (.putfield 37, 3) := by decide +kernel
theorem dX1_becomeNew_19 : decode cX1_becomeNew 19 = .ok (.aload_n 0, 1) := by decide +kernel
theorem dX1_becomeNew_20 : decode cX1_becomeNew 20 = .ok (.iconst 0, 1) := by decide +kernel
theorem dX1_becomeNew_21 : decode cX1_becomeNew 21 = .ok (.putfield 41, 3) := by decide +kernel
theorem dX1_becomeNew_24 : decode cX1_becomeNew 24 = .ok (.aload_n 0, 1) := by decide +kernel
theorem dX1_becomeNew_25 : decode cX1_becomeNew 25 = .ok (.iconst 0, 1) := by decide +kernel
theorem dX1_becomeNew_26 : decode cX1_becomeNew 26 = .ok (.putfield 44, 3) := by decide +kernel
theorem dX1_becomeNew_29 : decode cX1_becomeNew 29 = .ok (.aload_n 0, 1) := by decide +kernel
theorem dX1_becomeNew_30 : decode cX1_becomeNew 30 = .ok (.iconst 0, 1) := by decide +kernel
theorem dX1_becomeNew_31 : decode cX1_becomeNew 31 = .ok (.putfield 47, 3) := by decide +kernel
theorem dX1_becomeNew_34 : decode cX1_becomeNew 34 = .ok (.aload_n 0, 1) := by decide +kernel
theorem dX1_becomeNew_35 : decode cX1_becomeNew 35 = .ok (.iconst 0, 1) := by decide +kernel
theorem dX1_becomeNew_36 : decode cX1_becomeNew 36 = .ok (.putfield 50, 3) := by decide +kernel
theorem dX1_becomeNew_39 : decode cX1_becomeNew 39 = .ok (.aload_n 0, 1) := by decide +kernel
theorem dX1_becomeNew_40 : decode cX1_becomeNew 40 = .ok (.iconst 0, 1) := by decide +kernel
theorem dX1_becomeNew_41 : decode cX1_becomeNew 41 = .ok (.putfield 53, 3) := by decide +kernel
theorem dX1_becomeNew_44 : decode cX1_becomeNew 44 = .ok (.aload_n 0, 1) := by decide +kernel
theorem dX1_becomeNew_45 : decode cX1_becomeNew 45 = .ok (.iconst 0, 1) := by decide +kernel
theorem dX1_becomeNew_46 : decode cX1_becomeNew 46 = .ok (.putfield 56, 3) := by decide +kernel
theorem dX1_becomeNew_49 : decode cX1_becomeNew 49 = .ok (.return_, 1) := by decide +kernel
theorem dX1_becomeLike_0 : decode cX1_becomeLike 0 = .ok (.iconst 0, 1) := by decide +kernel
theorem dX1_becomeLike_1 : decode cX1_becomeLike 1 = .ok (.istore_n 2, 1) := by decide +kernel
theorem dX1_becomeLike_2 : decode cX1_becomeLike 2 = .ok (.iload_n 2, 1) := by decide +kernel
theorem dX1_becomeLike_3 : decode cX1_becomeLike 3 = .ok (.aload_n 1, 1) := by decide +kernel
theorem dX1_becomeLike_4 : decode cX1_becomeLike 4 = .ok (.getfield 37, 3) := by decide +kernel
theorem dX1_becomeLike_7 : decode cX1_becomeLike 7 = .ok (.if_icmp .ge 24, 3) := by decide +kernel
theorem dX1_becomeLike_10 : decode cX1_becomeLike 10 = .ok (.aload_n 0, 1) := by decide +kernel
theorem dX1_becomeLike_11 : decode cX1_becomeLike 11 = .ok (.getfield 11, 3) := by decide +kernel
theorem dX1_becomeLike_14 : decode cX1_becomeLike 14 = .ok (.iload_n 2, 1) := by decide +kernel
theorem dX1_becomeLike_15 : decode cX1_becomeLike 15 = .ok (.aaload, 1) := by decide +kernel
theorem dX1_becomeLike_16 : decode cX1_becomeLike 16 = .ok (.aload_n 1, 1) := by decide +kernel
theorem dX1_becomeLike_17 : decode cX1_becomeLike 17 = .ok (.getfield 11, 3) := by decide +kernel
theorem dX1_becomeLike_20 : decode cX1_becomeLike 20 = .ok (.iload_n 2, 1) := by decide +kernel
theorem dX1_becomeLike_21 : decode cX1_becomeLike 21 = .ok (.aaload, 1) := by decide +kernel
theorem dX1_becomeLike_22 : decode cX1_becomeLike 22 = .ok (.invokevirtual 59, 3) := by decide +kernel
theorem dX1_becomeLike_25 : decode cX1_becomeLike 25 = .ok (.iinc 2 1, 3) := by decide +kernel
theorem dX1_becomeLike_28 : decode cX1_becomeLike 28 = .ok (.goto (-26), 3) := by decide +kernel
theorem dX1_becomeLike_31 : decode cX1_becomeLike 31 = .ok (.aload_n 1, 1) := by decide +kernel
theorem dX1_becomeLike_32 : decode cX1_becomeLike 32 = .ok (.getfield 17, 3) := by decide +kernel
theorem dX1_becomeLike_35 : decode cX1_becomeLike 35 = .ok (.iconst 0, 1) := by decide +kernel
theorem dX1_becomeLike_36 : decode cX1_becomeLike 36 = .ok (.aload_n 0, 1) := by decide +kernel
theorem dX1_becomeLike_37 : decode cX1_becomeLike 37 = .ok (.getfield 17, 3) := by decide +kernel
theorem dX1_becomeLike_40 : decode cX1_becomeLike 40 = .ok (.iconst 0, 1) := by decide +kernel
theorem dX1_becomeLike_41 : decode cX1_becomeLike 41 = .ok (.iconst 5, 1) := by decide +kernel
theorem dX1_becomeLike_42 : decode cX1_becomeLike 42 = .ok (.invokestatic 31, 3) := by decide +kernel
theorem dX1_becomeLike_45 : decode cX1_becomeLike 45 = .ok (.aload_n 1, 1) := by decide +kernel
theorem dX1_becomeLike_46 : decode cX1_becomeLike 46 = .ok (.getfield 21, 3) := by decide +kernel
theorem dX1_becomeLike_49 : decode cX1_becomeLike 49 = .ok (.iconst 0, 1) := by decide +kernel
theorem dX1_becomeLike_50 : decode cX1_becomeLike 50 = .ok (.aload_n 0, 1) := by decide +kernel
theorem dX1_becomeLike_51 : decode cX1_becomeLike 51 = .ok (.getfield 21, 3) := by decide +kernel
theorem dX1_becomeLike_54 : decode cX1_becomeLike 54 = .ok (.iconst 0, 1) := by decide +kernel
theorem dX1_becomeLike_55 : decode cX1_becomeLike 55 = .ok (.iconst 5, 1) := by decide +kernel
theorem dX1_becomeLike_56 : decode cX1_becomeLike 56 = .ok (.invokestatic 31, 3) := by decide +kernel
theorem dX1_becomeLike_59 : decode cX1_becomeLike 59 = .ok (.aload_n 1, 1) := by decide +kernel
theorem dX1_becomeLike_60 : decode cX1_becomeLike 60 = .ok (.getfield 24, 3) := by decide +kernel
theorem dX1_becomeLike_63 : decode cX1_becomeLike 63 = .ok (.iconst 0, 1) := by decide +kernel
theorem dX1_becomeLike_64 : decode cX1_becomeLike 64 = .ok (.aload_n 0, 1) := by decide +kernel
theorem dX1_becomeLike_65 : decode cX1_becomeLike 65 = .ok (.getfield 24, 3) := by decide +kernel
theorem dX1_becomeLike_68 : decode cX1_becomeLike 68 = .ok (.iconst 0, 1) := by decide +kernel
theorem dX1_becomeLike_69 : decode cX1_becomeLike 69 = .ok (.bipush 6, 2) := by decide +kernel
theorem dX1_becomeLike_71 : decode cX1_becomeLike 71 = .ok (.invokestatic 31, 3) := by decide +kernel
theorem dX1_becomeLike_74 : decode cX1_becomeLike 74 = .ok (.aload_n 0, 1) := by decide +kernel
theorem dX1_becomeLike_75 : decode cX1_becomeLike 75 = .ok (.aload_n 1, 1) := by decide +kernel
theorem dX1_becomeLike_76 : decode cX1_becomeLike 76 = .ok (.getfield 37, 3) := by decide +kernel
theorem dX1_becomeLike_79 : decode cX1_becomeLike 79 = .ok (.putfield 37, 3) := by decide +kernel
theorem dX1_becomeLike_82 : decode cX1_becomeLike 82 = .ok (.aload_n 0, 1) := by decide +kernel
theorem dX1_becomeLike_83 : decode cX1_becomeLike 83 = .ok (.aload_n 1, 1) := by decide +kernel
theorem dX1_becomeLike_84 : decode cX1_becomeLike 84 = .ok (.getfield 41, 3) := by decide +kernel
theorem dX1_becomeLike_87 : decode cX1_becomeLike 87 = .ok (.putfield 41, 3) := by decide +kernel
theorem dX1_becomeLike_90 : decode cX1_becomeLike 90 = .ok (.aload_n 0, 1) := by decide +kernel
theorem dX1_becomeLike_91 : decode cX1_becomeLike 91 = .ok (.aload_n 1, 1) := by decide +kernel
theorem dX1_becomeLike_92 : decode cX1_becomeLike 92 = .ok (.getfield 44, 3) := by decide +kernel
theorem dX1_becomeLike_95 : decode cX1_becomeLike 95 = .ok (.putfield 44, 3) := by decide +kernel
theorem dX1_becomeLike_98 : decode cX1_becomeLike 98 = .ok (.aload_n 0, 1) := by decide +kernel
theorem dX1_becomeLike_99 : decode cX1_becomeLike 99 = .ok (.aload_n 1, 1) := by decide +kernel
theorem dX1_becomeLike_100 : decode cX1_becomeLike 100 = .ok (.getfield 47, 3) := by decide +kernel
theorem dX1_becomeLike_103 : decode cX1_becomeLike 103 = .ok (.putfield 47, 3) := by decide +kernel
theorem dX1_becomeLike_106 : decode cX1_becomeLike 106 = .ok (.aload_n 0, 1) := by decide +kernel
theorem dX1_becomeLike_107 : decode cX1_becomeLike 107 = .ok (.aload_n 1, 1) := by decide +kernel
theorem dX1_becomeLike_108 : decode cX1_becomeLike 108 = .ok (.getfield 50, 3) := by decide +kernel
theorem dX1_becomeLike_111 : decode cX1_becomeLike 111 = .ok (.putfield 50, 3) := by decide +kernel
theorem dX1_becomeLike_114 : decode cX1_becomeLike 114 = .ok (.aload_n 0, 1) := by decide +kernel
theorem dX1_becomeLike_115 : decode cX1_becomeLike 115 = .ok (.aload_n 1, 1) := by decide +kernel
theorem dX1_becomeLike_116 : decode cX1_becomeLike 116 = .ok (.getfield 53, 3) := by decide +kernel
theorem dX1_becomeLike_119 : decode cX1_becomeLike 119 = .ok (.putfield 53, 3) := by decide +kernel
theorem dX1_becomeLike_122 : decode cX1_becomeLike 122 = .ok (.aload_n 0, 1) := by decide +kernel
theorem dX1_becomeLike_123 : decode cX1_becomeLike 123 = .ok (.aload_n 1, 1) := by decide +kernel
theorem dX1_becomeLike_124 : decode cX1_becomeLike 124 = .ok (.getfield 56, 3) := by decide +kernel
theorem dX1_becomeLike_127 : decode cX1_becomeLike 127 = .ok (.putfield 56, 3) := by decide +kernel
theorem dX1_becomeLike_130 : decode cX1_becomeLike 130 = .ok (.return_, 1) := by decide +kernel
theorem dX1_isFullOfBuses_0 : decode cX1_isFullOfBuses 0 = .ok (.aload_n 0, 1) := by decide +kernel
theorem dX1_isFullOfBuses_1 : decode cX1_isFullOfBuses 1 = .ok (.getfield 37, 3) := by decide +kernel
theorem dX1_isFullOfBuses_4 : decode cX1_isFullOfBuses 4 = .ok (.bipush 8, 2) := by decide +kernel
theorem dX1_isFullOfBuses_6 : decode cX1_isFullOfBuses 6 = .ok (.if_icmp .lt 7, 3) := by decide +kernel
theorem dX1_isFullOfBuses_9 : decode cX1_isFullOfBuses 9 = .ok (.iconst 1, 1) := by decide +kernel
theorem dX1_isFullOfBuses_10 : decode cX1_isFullOfBuses 10 = .ok (.goto 4, 3) := by decide +kernel
theorem dX1_isFullOfBuses_13 : decode cX1_isFullOfBuses 13 = .ok (.iconst 0, 1) := by decide +kernel
theorem dX1_isFullOfBuses_14 : decode cX1_isFullOfBuses 14 = .ok (.ireturn, 1) := by decide +kernel
theorem dX1_isFullOfChargers_0 : decode cX1_isFullOfChargers 0 = .ok (.aload_n 0, 1) := by decide +kernel
theorem dX1_isFullOfChargers_1 : decode cX1_isFullOfChargers 1 = .ok (.getfield 41, 3) := by decide +kernel
theorem dX1_isFullOfChargers_4 : decode cX1_isFullOfChargers 4 = .ok (.iconst 5, 1) := by decide +kernel
theorem dX1_isFullOfChargers_5 : decode cX1_isFullOfChargers 5 = .ok (.if_icmp .lt 7, 3) := by decide +kernel
theorem dX1_isFullOfChargers_8 : decode cX1_isFullOfChargers 8 = .ok (.iconst 1, 1) := by decide +kernel
theorem dX1_isFullOfChargers_9 : decode cX1_isFullOfChargers 9 = .ok (.goto 4, 3) := by decide +kernel
theorem dX1_isFullOfChargers_12 : decode cX1_isFullOfChargers 12 = .ok (.iconst 0, 1) := by decide +kernel
theorem dX1_isFullOfChargers_13 : decode cX1_isFullOfChargers 13 = .ok (.ireturn, 1) := by decide +kernel
theorem dX1_busAt_0 : decode cX1_busAt 0 = .ok (.iload_n 1, 1) := by decide +kernel
theorem dX1_busAt_1 : decode cX1_busAt 1 = .ok (.iconst 0, 1) := by decide +kernel
theorem dX1_busAt_2 : decode cX1_busAt 2 = .ok (.aload_n 0, 1) := by decide +kernel
theorem dX1_busAt_3 : decode cX1_busAt 3 = .ok (.getfield 37, 3) := by decide +kernel
theorem dX1_busAt_6 : decode cX1_busAt 6 = .ok (.iconst 1, 1) := by decide +kernel
theorem dX1_busAt_7 : decode cX1_busAt 7 = .ok (.isub, 1) := by decide +kernel
theorem dX1_busAt_8 : decode cX1_busAt 8 = .ok (.invokestatic 63, 3) := by decide +kernel
theorem dX1_busAt_11 : decode cX1_busAt 11 = .ok (.ifCond .eq 12, 3) := by decide +kernel
theorem dX1_busAt_14 : decode cX1_busAt 14 = .ok (.aload_n 0, 1) := by decide +kernel
theorem dX1_busAt_15 : decode cX1_busAt 15 = .ok (.getfield 11, 3) := by decide +kernel
theorem dX1_busAt_18 : decode cX1_busAt 18 = .ok (.iload_n 1, 1) := by decide +kernel
theorem dX1_busAt_19 : decode cX1_busAt 19 = .ok (.aaload, 1) := by decide +kernel
theorem dX1_busAt_20 : decode cX1_busAt 20 = .ok (.goto 4, 3) := by decide +kernel
theorem dX1_busAt_23 : decode cX1_busAt 23 = .ok (.aconst_null, 1) := by decide +kernel
theorem dX1_busAt_24 : decode cX1_busAt 24 = .ok (.areturn, 1) := by decide +kernel
theorem dX1_hasCharger_0 : decode cX1_hasCharger 0 = .ok (.iload_n 1, 1) := by decide +kernel
theorem dX1_hasCharger_1 : decode cX1_hasCharger 1 = .ok (.iconst 0, 1) := by decide +kernel
theorem dX1_hasCharger_2 : decode cX1_hasCharger 2 = .ok (.aload_n 0, 1) := by decide +kernel
theorem dX1_hasCharger_3 : decode cX1_hasCharger 3 = .ok (.getfield 41, 3) := by decide +kernel
theorem dX1_hasCharger_6 : decode cX1_hasCharger 6 = .ok (.iconst 1, 1) := by decide +kernel
theorem dX1_hasCharger_7 : decode cX1_hasCharger 7 = .ok (.isub, 1) := by decide +kernel
theorem dX1_hasCharger_8 : decode cX1_hasCharger 8 = .ok (.invokestatic 63, 3) := by decide +kernel
theorem dX1_hasCharger_11 : decode cX1_hasCharger 11 = .ok (.ireturn, 1) := by decide +kernel
theorem dX1_powerOf_0 : decode cX1_powerOf 0 = .ok (.aload_n 0, 1) := by decide +kernel
theorem dX1_powerOf_1 : decode cX1_powerOf 1 = .ok (.iload_n 1, 1) := by decide +kernel
theorem dX1_powerOf_2 : decode cX1_powerOf 2 = .ok (.invokevirtual 67, 3) := by decide +kernel
theorem dX1_powerOf_5 : decode cX1_powerOf 5 = .ok (.ifCond .eq 12, 3) := by decide +kernel
theorem dX1_powerOf_8 : decode cX1_powerOf 8 = .ok (.aload_n 0, 1) := by decide +kernel
theorem dX1_powerOf_9 : decode cX1_powerOf 9 = .ok (.getfield 17, 3) := by decide +kernel
theorem dX1_powerOf_12 : decode cX1_powerOf 12 = .ok (.iload_n 1, 1) := by decide +kernel
theorem dX1_powerOf_13 : decode cX1_powerOf 13 = .ok (.iaload, 1) := by decide +kernel
theorem dX1_powerOf_14 : decode cX1_powerOf 14 = .ok (.goto 4, 3) := by decide +kernel
theorem dX1_powerOf_17 : decode cX1_powerOf 17 = .ok (.iconst 0, 1) := by decide +kernel
theorem dX1_powerOf_18 : decode cX1_powerOf 18 = .ok (.ireturn, 1) := by decide +kernel
theorem dX1_placeOf_0 : decode cX1_placeOf 0 = .ok (.iconst 0, 1) := by decide +kernel
theorem dX1_placeOf_1 : decode cX1_placeOf 1 = .ok (.istore_n 2, 1) := by decide +kernel
theorem dX1_placeOf_2 : decode cX1_placeOf 2 = .ok (.iload_n 2, 1) := by decide +kernel
theorem dX1_placeOf_3 : decode cX1_placeOf 3 = .ok (.aload_n 0, 1) := by decide +kernel
theorem dX1_placeOf_4 : decode cX1_placeOf 4 = .ok (.getfield 41, 3) := by decide +kernel
theorem dX1_placeOf_7 : decode cX1_placeOf 7 = .ok (.if_icmp .ge 21, 3) := by decide +kernel
theorem dX1_placeOf_10 : decode cX1_placeOf 10 = .ok (.aload_n 0, 1) := by decide +kernel
theorem dX1_placeOf_11 : decode cX1_placeOf 11 = .ok (.getfield 21, 3) := by decide +kernel
theorem dX1_placeOf_14 : decode cX1_placeOf 14 = .ok (.iload_n 2, 1) := by decide +kernel
theorem dX1_placeOf_15 : decode cX1_placeOf 15 = .ok (.iaload, 1) := by decide +kernel
theorem dX1_placeOf_16 : decode cX1_placeOf 16 = .ok (.iload_n 1, 1) := by decide +kernel
theorem dX1_placeOf_17 : decode cX1_placeOf 17 = .ok (.if_icmp .ne 5, 3) := by decide +kernel
theorem dX1_placeOf_20 : decode cX1_placeOf 20 = .ok (.iload_n 2, 1) := by decide +kernel
theorem dX1_placeOf_21 : decode cX1_placeOf 21 = .ok (.ireturn, 1) := by decide +kernel
theorem dX1_placeOf_22 : decode cX1_placeOf 22 = .ok (.iinc 2 1, 3) := by decide +kernel
theorem dX1_placeOf_25 : decode cX1_placeOf 25 = .ok (.goto (-23), 3) := by decide +kernel
theorem dX1_placeOf_28 : decode cX1_placeOf 28 = .ok (.iconst (-1), 1) := by decide +kernel
theorem dX1_placeOf_29 : decode cX1_placeOf 29 = .ok (.ireturn, 1) := by decide +kernel
theorem dX1_settingOf_0 : decode cX1_settingOf 0 = .ok (.iload_n 1, 1) := by decide +kernel
theorem dX1_settingOf_1 : decode cX1_settingOf 1 = .ok (.iconst 0, 1) := by decide +kernel
theorem dX1_settingOf_2 : decode cX1_settingOf 2 = .ok (.iconst 5, 1) := by decide +kernel
theorem dX1_settingOf_3 : decode cX1_settingOf 3 = .ok (.invokestatic 63, 3) := by decide +kernel
theorem dX1_settingOf_6 : decode cX1_settingOf 6 = .ok (.ifCond .eq 12, 3) := by decide +kernel
theorem dX1_settingOf_9 : decode cX1_settingOf 9 = .ok (.aload_n 0, 1) := by decide +kernel
theorem dX1_settingOf_10 : decode cX1_settingOf 10 = .ok (.getfield 24, 3) := by decide +kernel
theorem dX1_settingOf_13 : decode cX1_settingOf 13 = .ok (.iload_n 1, 1) := by decide +kernel
theorem dX1_settingOf_14 : decode cX1_settingOf 14 = .ok (.iaload, 1) := by decide +kernel
theorem dX1_settingOf_15 : decode cX1_settingOf 15 = .ok (.goto 4, 3) := by decide +kernel
theorem dX1_settingOf_18 : decode cX1_settingOf 18 = .ok (.iconst 0, 1) := by decide +kernel
theorem dX1_settingOf_19 : decode cX1_settingOf 19 = .ok (.ireturn, 1) := by decide +kernel
theorem dX1_countOut_0 : decode cX1_countOut 0 = .ok (.iconst 0, 1) := by decide +kernel
theorem dX1_countOut_1 : decode cX1_countOut 1 = .ok (.istore_n 1, 1) := by decide +kernel
theorem dX1_countOut_2 : decode cX1_countOut 2 = .ok (.iconst 0, 1) := by decide +kernel
theorem dX1_countOut_3 : decode cX1_countOut 3 = .ok (.istore_n 2, 1) := by decide +kernel
theorem dX1_countOut_4 : decode cX1_countOut 4 = .ok (.iload_n 2, 1) := by decide +kernel
theorem dX1_countOut_5 : decode cX1_countOut 5 = .ok (.aload_n 0, 1) := by decide +kernel
theorem dX1_countOut_6 : decode cX1_countOut 6 = .ok (.getfield 37, 3) := by decide +kernel
theorem dX1_countOut_9 : decode cX1_countOut 9 = .ok (.if_icmp .ge 24, 3) := by decide +kernel
theorem dX1_countOut_12 : decode cX1_countOut 12 = .ok (.aload_n 0, 1) := by decide +kernel
theorem dX1_countOut_13 : decode cX1_countOut 13 = .ok (.getfield 11, 3) := by decide +kernel
theorem dX1_countOut_16 : decode cX1_countOut 16 = .ok (.iload_n 2, 1) := by decide +kernel
theorem dX1_countOut_17 : decode cX1_countOut 17 = .ok (.aaload, 1) := by decide +kernel
theorem dX1_countOut_18 : decode cX1_countOut 18 = .ok (.getfield 71, 3) := by decide +kernel
theorem dX1_countOut_21 : decode cX1_countOut 21 = .ok (.ifCond .eq 6, 3) := by decide +kernel
theorem dX1_countOut_24 : decode cX1_countOut 24 = .ok (.iinc 1 1, 3) := by decide +kernel
theorem dX1_countOut_27 : decode cX1_countOut 27 = .ok (.iinc 2 1, 3) := by decide +kernel
theorem dX1_countOut_30 : decode cX1_countOut 30 = .ok (.goto (-26), 3) := by decide +kernel
theorem dX1_countOut_33 : decode cX1_countOut 33 = .ok (.iload_n 1, 1) := by decide +kernel
theorem dX1_countOut_34 : decode cX1_countOut 34 = .ok (.ireturn, 1) := by decide +kernel
theorem dX1_countLow_0 : decode cX1_countLow 0 = .ok (.iconst 0, 1) := by decide +kernel
theorem dX1_countLow_1 : decode cX1_countLow 1 = .ok (.istore_n 1, 1) := by decide +kernel
theorem dX1_countLow_2 : decode cX1_countLow 2 = .ok (.iconst 0, 1) := by decide +kernel
theorem dX1_countLow_3 : decode cX1_countLow 3 = .ok (.istore_n 2, 1) := by decide +kernel
theorem dX1_countLow_4 : decode cX1_countLow 4 = .ok (.iload_n 2, 1) := by decide +kernel
theorem dX1_countLow_5 : decode cX1_countLow 5 = .ok (.aload_n 0, 1) := by decide +kernel
theorem dX1_countLow_6 : decode cX1_countLow 6 = .ok (.getfield 37, 3) := by decide +kernel
theorem dX1_countLow_9 : decode cX1_countLow 9 = .ok (.if_icmp .ge 24, 3) := by decide +kernel
theorem dX1_countLow_12 : decode cX1_countLow 12 = .ok (.aload_n 0, 1) := by decide +kernel
theorem dX1_countLow_13 : decode cX1_countLow 13 = .ok (.getfield 11, 3) := by decide +kernel
theorem dX1_countLow_16 : decode cX1_countLow 16 = .ok (.iload_n 2, 1) := by decide +kernel
theorem dX1_countLow_17 : decode cX1_countLow 17 = .ok (.aaload, 1) := by decide +kernel
theorem dX1_countLow_18 : decode cX1_countLow 18 = .ok (.invokevirtual 75, 3) := by decide +kernel
theorem dX1_countLow_21 : decode cX1_countLow 21 = .ok (.ifCond .eq 6, 3) := by decide +kernel
theorem dX1_countLow_24 : decode cX1_countLow 24 = .ok (.iinc 1 1, 3) := by decide +kernel
theorem dX1_countLow_27 : decode cX1_countLow 27 = .ok (.iinc 2 1, 3) := by decide +kernel
theorem dX1_countLow_30 : decode cX1_countLow 30 = .ok (.goto (-26), 3) := by decide +kernel
theorem dX1_countLow_33 : decode cX1_countLow 33 = .ok (.iload_n 1, 1) := by decide +kernel
theorem dX1_countLow_34 : decode cX1_countLow 34 = .ok (.ireturn, 1) := by decide +kernel
theorem dX1_sumOfCharges_0 : decode cX1_sumOfCharges 0 = .ok (.iconst 0, 1) := by decide +kernel
theorem dX1_sumOfCharges_1 : decode cX1_sumOfCharges 1 = .ok (.istore_n 1, 1) := by decide +kernel
theorem dX1_sumOfCharges_2 : decode cX1_sumOfCharges 2 = .ok (.iconst 0, 1) := by decide +kernel
theorem dX1_sumOfCharges_3 : decode cX1_sumOfCharges 3 = .ok (.istore_n 2, 1) := by decide +kernel
theorem dX1_sumOfCharges_4 : decode cX1_sumOfCharges 4 = .ok (.iload_n 2, 1) := by decide +kernel
theorem dX1_sumOfCharges_5 : decode cX1_sumOfCharges 5 = .ok (.aload_n 0, 1) := by decide +kernel
theorem dX1_sumOfCharges_6 : decode cX1_sumOfCharges 6 = .ok (.getfield 37, 3) := by decide +kernel
theorem dX1_sumOfCharges_9 : decode cX1_sumOfCharges 9 = .ok (.if_icmp .ge 21, 3) := by decide +kernel
theorem dX1_sumOfCharges_12 : decode cX1_sumOfCharges 12 = .ok (.iload_n 1, 1) := by decide +kernel
theorem dX1_sumOfCharges_13 : decode cX1_sumOfCharges 13 = .ok (.aload_n 0, 1) := by decide +kernel
theorem dX1_sumOfCharges_14 : decode cX1_sumOfCharges 14 = .ok (.getfield 11, 3) := by decide +kernel
theorem dX1_sumOfCharges_17 : decode cX1_sumOfCharges 17 = .ok (.iload_n 2, 1) := by decide +kernel
theorem dX1_sumOfCharges_18 : decode cX1_sumOfCharges 18 = .ok (.aaload, 1) := by decide +kernel
theorem dX1_sumOfCharges_19 : decode cX1_sumOfCharges 19 = .ok (.getfield 79, 3) := by decide +kernel
theorem dX1_sumOfCharges_22 : decode cX1_sumOfCharges 22 = .ok (.iadd, 1) := by decide +kernel
theorem dX1_sumOfCharges_23 : decode cX1_sumOfCharges 23 = .ok (.istore_n 1, 1) := by decide +kernel
theorem dX1_sumOfCharges_24 : decode cX1_sumOfCharges 24 = .ok (.iinc 2 1, 3) := by decide +kernel
theorem dX1_sumOfCharges_27 : decode cX1_sumOfCharges 27 = .ok (.goto (-23), 3) := by decide +kernel
theorem dX1_sumOfCharges_30 : decode cX1_sumOfCharges 30 = .ok (.iload_n 1, 1) := by decide +kernel
theorem dX1_sumOfCharges_31 : decode cX1_sumOfCharges 31 = .ok (.ireturn, 1) := by decide +kernel
theorem dX1_isOut_0 : decode cX1_isOut 0 = .ok (.aload_n 0, 1) := by decide +kernel
theorem dX1_isOut_1 : decode cX1_isOut 1 = .ok (.iload_n 1, 1) := by decide +kernel
theorem dX1_isOut_2 : decode cX1_isOut 2 = .ok (.invokevirtual 82, 3) := by decide +kernel
theorem dX1_isOut_5 : decode cX1_isOut 5 = .ok (.astore_n 2, 1) := by decide +kernel
theorem dX1_isOut_6 : decode cX1_isOut 6 = .ok (.aload_n 2, 1) := by decide +kernel
theorem dX1_isOut_7 : decode cX1_isOut 7 = .ok (.ifnull 14, 3) := by decide +kernel
theorem dX1_isOut_10 : decode cX1_isOut 10 = .ok (.aload_n 2, 1) := by decide +kernel
theorem dX1_isOut_11 : decode cX1_isOut 11 = .ok (.getfield 71, 3) := by decide +kernel
theorem dX1_isOut_14 : decode cX1_isOut 14 = .ok (.ifCond .eq 7, 3) := by decide +kernel
theorem dX1_isOut_17 : decode cX1_isOut 17 = .ok (.iconst 1, 1) := by decide +kernel
theorem dX1_isOut_18 : decode cX1_isOut 18 = .ok (.goto 4, 3) := by decide +kernel
theorem dX1_isOut_21 : decode cX1_isOut 21 = .ok (.iconst 0, 1) := by decide +kernel
theorem dX1_isOut_22 : decode cX1_isOut 22 = .ok (.ireturn, 1) := by decide +kernel
theorem dX1_hasCharge_0 : decode cX1_hasCharge 0 = .ok (.aload_n 0, 1) := by decide +kernel
theorem dX1_hasCharge_1 : decode cX1_hasCharge 1 = .ok (.iload_n 1, 1) := by decide +kernel
theorem dX1_hasCharge_2 : decode cX1_hasCharge 2 = .ok (.invokevirtual 82, 3) := by decide +kernel
theorem dX1_hasCharge_5 : decode cX1_hasCharge 5 = .ok (.astore_n 3, 1) := by decide +kernel
theorem dX1_hasCharge_6 : decode cX1_hasCharge 6 = .ok (.aload_n 3, 1) := by decide +kernel
theorem dX1_hasCharge_7 : decode cX1_hasCharge 7 = .ok (.ifnull 15, 3) := by decide +kernel
theorem dX1_hasCharge_10 : decode cX1_hasCharge 10 = .ok (.aload_n 3, 1) := by decide +kernel
theorem dX1_hasCharge_11 : decode cX1_hasCharge 11 = .ok (.getfield 79, 3) := by decide +kernel
theorem dX1_hasCharge_14 : decode cX1_hasCharge 14 = .ok (.iload_n 2, 1) := by decide +kernel
theorem dX1_hasCharge_15 : decode cX1_hasCharge 15 = .ok (.if_icmp .lt 7, 3) := by decide +kernel
theorem dX1_hasCharge_18 : decode cX1_hasCharge 18 = .ok (.iconst 1, 1) := by decide +kernel
theorem dX1_hasCharge_19 : decode cX1_hasCharge 19 = .ok (.goto 4, 3) := by decide +kernel
theorem dX1_hasCharge_22 : decode cX1_hasCharge 22 = .ok (.iconst 0, 1) := by decide +kernel
theorem dX1_hasCharge_23 : decode cX1_hasCharge 23 = .ok (.ireturn, 1) := by decide +kernel
theorem dX1_hourOfDay_0 : decode cX1_hourOfDay 0 = .ok (.aload_n 0, 1) := by decide +kernel
theorem dX1_hourOfDay_1 : decode cX1_hourOfDay 1 = .ok (.getfield 44, 3) := by decide +kernel
theorem dX1_hourOfDay_4 : decode cX1_hourOfDay 4 = .ok (.bipush 24, 2) := by decide +kernel
theorem dX1_hourOfDay_6 : decode cX1_hourOfDay 6 = .ok (.irem, 1) := by decide +kernel
theorem dX1_hourOfDay_7 : decode cX1_hourOfDay 7 = .ok (.ireturn, 1) := by decide +kernel
theorem dX1_isNight_0 : decode cX1_isNight 0 = .ok (.aload_n 0, 1) := by decide +kernel
theorem dX1_isNight_1 : decode cX1_isNight 1 = .ok (.getfield 44, 3) := by decide +kernel
theorem dX1_isNight_4 : decode cX1_isNight 4 = .ok (.aload_n 0, 1) := by decide +kernel
theorem dX1_isNight_5 : decode cX1_isNight 5 = .ok (.getfield 24, 3) := by decide +kernel
theorem dX1_isNight_8 : decode cX1_isNight 8 = .ok (.iconst 5, 1) := by decide +kernel
theorem dX1_isNight_9 : decode cX1_isNight 9 = .ok (.iaload, 1) := by decide +kernel
theorem dX1_isNight_10 : decode cX1_isNight 10 = .ok (.isub, 1) := by decide +kernel
theorem dX1_isNight_11 : decode cX1_isNight 11 = .ok (.bipush 24, 2) := by decide +kernel
theorem dX1_isNight_13 : decode cX1_isNight 13 = .ok (.invokestatic 86, 3) := by decide +kernel
theorem dX1_isNight_16 : decode cX1_isNight 16 = .ok (.bipush 8, 2) := by decide +kernel
theorem dX1_isNight_18 : decode cX1_isNight 18 = .ok (.if_icmp .ge 7, 3) := by decide +kernel
theorem dX1_isNight_21 : decode cX1_isNight 21 = .ok (.iconst 1, 1) := by decide +kernel
theorem dX1_isNight_22 : decode cX1_isNight 22 = .ok (.goto 4, 3) := by decide +kernel
theorem dX1_isNight_25 : decode cX1_isNight 25 = .ok (.iconst 0, 1) := by decide +kernel
theorem dX1_isNight_26 : decode cX1_isNight 26 = .ok (.ireturn, 1) := by decide +kernel
theorem dX1_hoursUntilLeaving_0 : decode cX1_hoursUntilLeaving 0 = .ok (.aload_n 1, 1) := by decide +kernel
theorem dX1_hoursUntilLeaving_1 : decode cX1_hoursUntilLeaving 1 = .ok (.getfield 92, 3) := by decide +kernel
theorem dX1_hoursUntilLeaving_4 : decode cX1_hoursUntilLeaving 4 = .ok (.aload_n 0, 1) := by decide +kernel
theorem dX1_hoursUntilLeaving_5 : decode cX1_hoursUntilLeaving 5 = .ok (.invokevirtual 95, 3) := by decide +kernel
theorem dX1_hoursUntilLeaving_8 : decode cX1_hoursUntilLeaving 8 = .ok (.isub, 1) := by decide +kernel
theorem dX1_hoursUntilLeaving_9 : decode cX1_hoursUntilLeaving 9 = .ok (.istore_n 2, 1) := by decide +kernel
theorem dX1_hoursUntilLeaving_10 : decode cX1_hoursUntilLeaving 10 = .ok (.iload_n 2, 1) := by decide +kernel
theorem dX1_hoursUntilLeaving_11 : decode cX1_hoursUntilLeaving 11 = .ok (.ifCond .le 7, 3) := by decide +kernel
theorem dX1_hoursUntilLeaving_14 : decode cX1_hoursUntilLeaving 14 = .ok (.iload_n 2, 1) := by decide +kernel
theorem dX1_hoursUntilLeaving_15 : decode cX1_hoursUntilLeaving 15 = .ok (.goto 7, 3) := by decide +kernel
theorem dX1_hoursUntilLeaving_18 : decode cX1_hoursUntilLeaving 18 = .ok (.iload_n 2, 1) := by decide +kernel
theorem dX1_hoursUntilLeaving_19 : decode cX1_hoursUntilLeaving 19 = .ok (.bipush 24, 2) := by decide +kernel
theorem dX1_hoursUntilLeaving_21 : decode cX1_hoursUntilLeaving 21 = .ok (.iadd, 1) := by decide +kernel
theorem dX1_hoursUntilLeaving_22 : decode cX1_hoursUntilLeaving 22 = .ok (.ireturn, 1) := by decide +kernel
theorem dX1_isMissedNow_0 : decode cX1_isMissedNow 0 = .ok (.aload_n 0, 1) := by decide +kernel
theorem dX1_isMissedNow_1 : decode cX1_isMissedNow 1 = .ok (.iload_n 1, 1) := by decide +kernel
theorem dX1_isMissedNow_2 : decode cX1_isMissedNow 2 = .ok (.invokevirtual 82, 3) := by decide +kernel
theorem dX1_isMissedNow_5 : decode cX1_isMissedNow 5 = .ok (.astore_n 2, 1) := by decide +kernel
theorem dX1_isMissedNow_6 : decode cX1_isMissedNow 6 = .ok (.aload_n 2, 1) := by decide +kernel
theorem dX1_isMissedNow_7 : decode cX1_isMissedNow 7 = .ok (.ifnull 22, 3) := by decide +kernel
theorem dX1_isMissedNow_10 : decode cX1_isMissedNow 10 = .ok (.aload_n 0, 1) := by decide +kernel
theorem dX1_isMissedNow_11 : decode cX1_isMissedNow 11 = .ok (.aload_n 2, 1) := by decide +kernel
theorem dX1_isMissedNow_12 : decode cX1_isMissedNow 12 = .ok (.invokevirtual 99, 3) := by decide +kernel
theorem dX1_isMissedNow_15 : decode cX1_isMissedNow 15 = .ok (.ifCond .eq 14, 3) := by decide +kernel
theorem dX1_isMissedNow_18 : decode cX1_isMissedNow 18 = .ok (.aload_n 2, 1) := by decide +kernel
theorem dX1_isMissedNow_19 : decode cX1_isMissedNow 19 = .ok (.invokevirtual 75, 3) := by decide +kernel
theorem dX1_isMissedNow_22 : decode cX1_isMissedNow 22 = .ok (.ifCond .eq 7, 3) := by decide +kernel
theorem dX1_isMissedNow_25 : decode cX1_isMissedNow 25 = .ok (.iconst 1, 1) := by decide +kernel
theorem dX1_isMissedNow_26 : decode cX1_isMissedNow 26 = .ok (.goto 4, 3) := by decide +kernel
theorem dX1_isMissedNow_29 : decode cX1_isMissedNow 29 = .ok (.iconst 0, 1) := by decide +kernel
theorem dX1_isMissedNow_30 : decode cX1_isMissedNow 30 = .ok (.ireturn, 1) := by decide +kernel
theorem dX1_putBus_0 : decode cX1_putBus 0 = .ok (.aload_n 0, 1) := by decide +kernel
theorem dX1_putBus_1 : decode cX1_putBus 1 = .ok (.getfield 37, 3) := by decide +kernel
theorem dX1_putBus_4 : decode cX1_putBus 4 = .ok (.istore 6, 2) := by decide +kernel
theorem dX1_putBus_6 : decode cX1_putBus 6 = .ok (.aload_n 0, 1) := by decide +kernel
theorem dX1_putBus_7 : decode cX1_putBus 7 = .ok (.invokevirtual 103, 3) := by decide +kernel
theorem dX1_putBus_10 : decode cX1_putBus 10 = .ok (.ifCond .eq 5, 3) := by decide +kernel
theorem dX1_putBus_13 : decode cX1_putBus 13 = .ok (.iconst (-1), 1) := by decide +kernel
theorem dX1_putBus_14 : decode cX1_putBus 14 = .ok (.ireturn, 1) := by decide +kernel
theorem dX1_putBus_15 : decode cX1_putBus 15 = .ok (.aload_n 0, 1) := by decide +kernel
theorem dX1_putBus_16 : decode cX1_putBus 16 = .ok (.getfield 11, 3) := by decide +kernel
theorem dX1_putBus_19 : decode cX1_putBus 19 = .ok (.iload 6, 2) := by decide +kernel
theorem dX1_putBus_21 : decode cX1_putBus 21 = .ok (.aaload, 1) := by decide +kernel
theorem dX1_putBus_22 : decode cX1_putBus 22 = .ok (.astore 7, 2) := by decide +kernel
theorem dX1_putBus_24 : decode cX1_putBus 24 = .ok (.aload 7, 2) := by decide +kernel
theorem dX1_putBus_26 : decode cX1_putBus 26 = .ok (.iload_n 1, 1) := by decide +kernel
theorem dX1_putBus_27 : decode cX1_putBus 27 = .ok (.invokevirtual 106, 3) := by decide +kernel
theorem dX1_putBus_30 : decode cX1_putBus 30 = .ok (.aload 7, 2) := by decide +kernel
theorem dX1_putBus_32 : decode cX1_putBus 32 = .ok (.iload_n 3, 1) := by decide +kernel
theorem dX1_putBus_33 : decode cX1_putBus 33 = .ok (.iload 4, 2) := by decide +kernel
theorem dX1_putBus_35 : decode cX1_putBus 35 = .ok (.iload 5, 2) := by decide +kernel
theorem dX1_putBus_37 : decode cX1_putBus 37 = .ok (.invokevirtual 110, 3) := by decide +kernel
theorem dX1_putBus_40 : decode cX1_putBus 40 = .ok (.aload 7, 2) := by decide +kernel
theorem dX1_putBus_42 : decode cX1_putBus 42 = .ok (.iload_n 2, 1) := by decide +kernel
theorem dX1_putBus_43 : decode cX1_putBus 43 = .ok (.putfield 79, 3) := by decide +kernel
theorem dX1_putBus_46 : decode cX1_putBus 46 = .ok (.aload 7, 2) := by decide +kernel
theorem dX1_putBus_48 : decode cX1_putBus 48 = .ok (.iconst 0, 1) := by decide +kernel
theorem dX1_putBus_49 : decode cX1_putBus 49 = .ok (.putfield 71, 3) := by decide +kernel
theorem dX1_putBus_52 : decode cX1_putBus 52 = .ok (.aload_n 0, 1) := by decide +kernel
theorem dX1_putBus_53 : decode cX1_putBus 53 = .ok (.iload 6, 2) := by decide +kernel
theorem dX1_putBus_55 : decode cX1_putBus 55 = .ok (.iconst 1, 1) := by decide +kernel
theorem dX1_putBus_56 : decode cX1_putBus 56 = .ok (.iadd, 1) := by decide +kernel
theorem dX1_putBus_57 : decode cX1_putBus 57 = .ok (.putfield 37, 3) := by decide +kernel
theorem dX1_putBus_60 : decode cX1_putBus 60 = .ok (.iload 6, 2) := by decide +kernel
theorem dX1_putBus_62 : decode cX1_putBus 62 = .ok (.ireturn, 1) := by decide +kernel
theorem dX1_putCharger_0 : decode cX1_putCharger 0 = .ok (.aload_n 0, 1) := by decide +kernel
theorem dX1_putCharger_1 : decode cX1_putCharger 1 = .ok (.getfield 41, 3) := by decide +kernel
theorem dX1_putCharger_4 : decode cX1_putCharger 4 = .ok (.istore_n 2, 1) := by decide +kernel
theorem dX1_putCharger_5 : decode cX1_putCharger 5 = .ok (.aload_n 0, 1) := by decide +kernel
theorem dX1_putCharger_6 : decode cX1_putCharger 6 = .ok (.invokevirtual 114, 3) := by decide +kernel
theorem dX1_putCharger_9 : decode cX1_putCharger 9 = .ok (.ifCond .eq 5, 3) := by decide +kernel
theorem dX1_putCharger_12 : decode cX1_putCharger 12 = .ok (.iconst (-1), 1) := by decide +kernel
theorem dX1_putCharger_13 : decode cX1_putCharger 13 = .ok (.ireturn, 1) := by decide +kernel
theorem dX1_putCharger_14 : decode cX1_putCharger 14 = .ok (.iload_n 2, 1) := by decide +kernel
theorem dX1_putCharger_15 : decode cX1_putCharger 15 = .ok (.istore_n 3, 1) := by decide +kernel
theorem dX1_putCharger_16 : decode cX1_putCharger 16 = .ok (.iload_n 3, 1) := by decide +kernel
theorem dX1_putCharger_17 : decode cX1_putCharger 17 = .ok (.ifCond .le 39, 3) := by decide +kernel
theorem dX1_putCharger_20 : decode cX1_putCharger 20 = .ok (.aload_n 0, 1) := by decide +kernel
theorem dX1_putCharger_21 : decode cX1_putCharger 21 = .ok (.aload_n 0, 1) := by decide +kernel
theorem dX1_putCharger_22 : decode cX1_putCharger 22 = .ok (.getfield 21, 3) := by decide +kernel
theorem dX1_putCharger_25 : decode cX1_putCharger 25 = .ok (.iload_n 3, 1) := by decide +kernel
theorem dX1_putCharger_26 : decode cX1_putCharger 26 = .ok (.iconst 1, 1) := by decide +kernel
theorem dX1_putCharger_27 : decode cX1_putCharger 27 = .ok (.isub, 1) := by decide +kernel
theorem dX1_putCharger_28 : decode cX1_putCharger 28 = .ok (.iaload, 1) := by decide +kernel
theorem dX1_putCharger_29 : decode cX1_putCharger 29 = .ok (.invokevirtual 117, 3) := by decide +kernel
theorem dX1_putCharger_32 : decode cX1_putCharger 32 = .ok (.iload_n 1, 1) := by decide +kernel
theorem dX1_putCharger_33 : decode cX1_putCharger 33 = .ok (.if_icmp .ge 23, 3) := by decide +kernel
theorem dX1_putCharger_36 : decode cX1_putCharger 36 = .ok (.aload_n 0, 1) := by decide +kernel
theorem dX1_putCharger_37 : decode cX1_putCharger 37 = .ok (.getfield 21, 3) := by decide +kernel
theorem dX1_putCharger_40 : decode cX1_putCharger 40 = .ok (.iload_n 3, 1) := by decide +kernel
theorem dX1_putCharger_41 : decode cX1_putCharger 41 = .ok (.aload_n 0, 1) := by decide +kernel
theorem dX1_putCharger_42 : decode cX1_putCharger 42 = .ok (.getfield 21, 3) := by decide +kernel
theorem dX1_putCharger_45 : decode cX1_putCharger 45 = .ok (.iload_n 3, 1) := by decide +kernel
theorem dX1_putCharger_46 : decode cX1_putCharger 46 = .ok (.iconst 1, 1) := by decide +kernel
theorem dX1_putCharger_47 : decode cX1_putCharger 47 = .ok (.isub, 1) := by decide +kernel
theorem dX1_putCharger_48 : decode cX1_putCharger 48 = .ok (.iaload, 1) := by decide +kernel
theorem dX1_putCharger_49 : decode cX1_putCharger 49 = .ok (.iastore, 1) := by decide +kernel
theorem dX1_putCharger_50 : decode cX1_putCharger 50 = .ok (.iinc 3 (-1), 3) := by decide +kernel
theorem dX1_putCharger_53 : decode cX1_putCharger 53 = .ok (.goto (-37), 3) := by decide +kernel
theorem dX1_putCharger_56 : decode cX1_putCharger 56 = .ok (.aload_n 0, 1) := by decide +kernel
theorem dX1_putCharger_57 : decode cX1_putCharger 57 = .ok (.getfield 21, 3) := by decide +kernel
theorem dX1_putCharger_60 : decode cX1_putCharger 60 = .ok (.iload_n 3, 1) := by decide +kernel
theorem dX1_putCharger_61 : decode cX1_putCharger 61 = .ok (.iload_n 2, 1) := by decide +kernel
theorem dX1_putCharger_62 : decode cX1_putCharger 62 = .ok (.iastore, 1) := by decide +kernel
theorem dX1_putCharger_63 : decode cX1_putCharger 63 = .ok (.aload_n 0, 1) := by decide +kernel
theorem dX1_putCharger_64 : decode cX1_putCharger 64 = .ok (.getfield 17, 3) := by decide +kernel
theorem dX1_putCharger_67 : decode cX1_putCharger 67 = .ok (.iload_n 2, 1) := by decide +kernel
theorem dX1_putCharger_68 : decode cX1_putCharger 68 = .ok (.iload_n 1, 1) := by decide +kernel
theorem dX1_putCharger_69 : decode cX1_putCharger 69 = .ok (.iastore, 1) := by decide +kernel
theorem dX1_putCharger_70 : decode cX1_putCharger 70 = .ok (.aload_n 0, 1) := by decide +kernel
theorem dX1_putCharger_71 : decode cX1_putCharger 71 = .ok (.iload_n 2, 1) := by decide +kernel
theorem dX1_putCharger_72 : decode cX1_putCharger 72 = .ok (.iconst 1, 1) := by decide +kernel
theorem dX1_putCharger_73 : decode cX1_putCharger 73 = .ok (.iadd, 1) := by decide +kernel
theorem dX1_putCharger_74 : decode cX1_putCharger 74 = .ok (.putfield 41, 3) := by decide +kernel
theorem dX1_putCharger_77 : decode cX1_putCharger 77 = .ok (.iload_n 2, 1) := by decide +kernel
theorem dX1_putCharger_78 : decode cX1_putCharger 78 = .ok (.ireturn, 1) := by decide +kernel
theorem dX1_change_0 : decode cX1_change 0 = .ok (.iload_n 1, 1) := by decide +kernel
theorem dX1_change_1 : decode cX1_change 1 = .ok (.iload_n 2, 1) := by decide +kernel
theorem dX1_change_2 : decode cX1_change 2 = .ok (.invokestatic 121, 3) := by decide +kernel
theorem dX1_change_5 : decode cX1_change 5 = .ok (.ifCond .eq 10, 3) := by decide +kernel
theorem dX1_change_8 : decode cX1_change 8 = .ok (.aload_n 0, 1) := by decide +kernel
theorem dX1_change_9 : decode cX1_change 9 = .ok (.getfield 24, 3) := by decide +kernel
theorem dX1_change_12 : decode cX1_change 12 = .ok (.iload_n 1, 1) := by decide +kernel
theorem dX1_change_13 : decode cX1_change 13 = .ok (.iload_n 2, 1) := by decide +kernel
theorem dX1_change_14 : decode cX1_change 14 = .ok (.iastore, 1) := by decide +kernel
theorem dX1_change_15 : decode cX1_change 15 = .ok (.return_, 1) := by decide +kernel
theorem dX1_tryPutBus_0 : decode cX1_tryPutBus 0 = .ok (.iload_n 1, 1) := by decide +kernel
theorem dX1_tryPutBus_1 : decode cX1_tryPutBus 1 = .ok (.iload_n 2, 1) := by decide +kernel
theorem dX1_tryPutBus_2 : decode cX1_tryPutBus 2 = .ok (.iload_n 3, 1) := by decide +kernel
theorem dX1_tryPutBus_3 : decode cX1_tryPutBus 3 = .ok (.iload 4, 2) := by decide +kernel
theorem dX1_tryPutBus_5 : decode cX1_tryPutBus 5 = .ok (.iload 5, 2) := by decide +kernel
theorem dX1_tryPutBus_7 : decode cX1_tryPutBus 7 = .ok (.invokestatic 125, 3) := by decide +kernel
theorem dX1_tryPutBus_10 : decode cX1_tryPutBus 10 = .ok (.ifCond .eq 22, 3) := by decide +kernel
theorem dX1_tryPutBus_13 : decode cX1_tryPutBus 13 = .ok (.aload_n 0, 1) := by decide +kernel
theorem dX1_tryPutBus_14 : decode cX1_tryPutBus 14 = .ok (.iload_n 1, 1) := by decide +kernel
theorem dX1_tryPutBus_15 : decode cX1_tryPutBus 15 = .ok (.iload_n 2, 1) := by decide +kernel
theorem dX1_tryPutBus_16 : decode cX1_tryPutBus 16 = .ok (.iload_n 3, 1) := by decide +kernel
theorem dX1_tryPutBus_17 : decode cX1_tryPutBus 17 = .ok (.iload 4, 2) := by decide +kernel
theorem dX1_tryPutBus_19 : decode cX1_tryPutBus 19 = .ok (.iload 5, 2) := by decide +kernel
theorem dX1_tryPutBus_21 : decode cX1_tryPutBus 21 = .ok (.invokevirtual 129, 3) := by decide +kernel
theorem dX1_tryPutBus_24 : decode cX1_tryPutBus 24 = .ok (.iconst (-1), 1) := by decide +kernel
theorem dX1_tryPutBus_25 : decode cX1_tryPutBus 25 = .ok (.if_icmp .eq 7, 3) := by decide +kernel
theorem dX1_tryPutBus_28 : decode cX1_tryPutBus 28 = .ok (.iconst 1, 1) := by decide +kernel
theorem dX1_tryPutBus_29 : decode cX1_tryPutBus 29 = .ok (.goto 4, 3) := by decide +kernel
theorem dX1_tryPutBus_32 : decode cX1_tryPutBus 32 = .ok (.iconst 0, 1) := by decide +kernel
theorem dX1_tryPutBus_33 : decode cX1_tryPutBus 33 = .ok (.ireturn, 1) := by decide +kernel
theorem dX1_tryPutCharger_0 : decode cX1_tryPutCharger 0 = .ok (.iload_n 1, 1) := by decide +kernel
theorem dX1_tryPutCharger_1 : decode cX1_tryPutCharger 1 = .ok (.iconst 1, 1) := by decide +kernel
theorem dX1_tryPutCharger_2 : decode cX1_tryPutCharger 2 = .ok (.bipush 50, 2) := by decide +kernel
theorem dX1_tryPutCharger_4 : decode cX1_tryPutCharger 4 = .ok (.invokestatic 63, 3) := by decide +kernel
theorem dX1_tryPutCharger_7 : decode cX1_tryPutCharger 7 = .ok (.ifCond .eq 16, 3) := by decide +kernel
theorem dX1_tryPutCharger_10 : decode cX1_tryPutCharger 10 = .ok (.aload_n 0, 1) := by decide +kernel
theorem dX1_tryPutCharger_11 : decode cX1_tryPutCharger 11 = .ok (.iload_n 1, 1) := by decide +kernel
theorem dX1_tryPutCharger_12 : decode cX1_tryPutCharger 12 = .ok (.invokevirtual 133, 3) := by decide +kernel
theorem dX1_tryPutCharger_15 : decode cX1_tryPutCharger 15 = .ok (.iconst (-1), 1) := by decide +kernel
theorem dX1_tryPutCharger_16 : decode cX1_tryPutCharger 16 = .ok (.if_icmp .eq 7, 3) := by decide +kernel
theorem dX1_tryPutCharger_19 : decode cX1_tryPutCharger 19 = .ok (.iconst 1, 1) := by decide +kernel
theorem dX1_tryPutCharger_20 : decode cX1_tryPutCharger 20 = .ok (.goto 4, 3) := by decide +kernel
theorem dX1_tryPutCharger_23 : decode cX1_tryPutCharger 23 = .ok (.iconst 0, 1) := by decide +kernel
theorem dX1_tryPutCharger_24 : decode cX1_tryPutCharger 24 = .ok (.ireturn, 1) := by decide +kernel
theorem dX1_tryGiveRoute_0 : decode cX1_tryGiveRoute 0 = .ok (.aload_n 0, 1) := by decide +kernel
theorem dX1_tryGiveRoute_1 : decode cX1_tryGiveRoute 1 = .ok (.iload_n 1, 1) := by decide +kernel
theorem dX1_tryGiveRoute_2 : decode cX1_tryGiveRoute 2 = .ok (.invokevirtual 82, 3) := by decide +kernel
theorem dX1_tryGiveRoute_5 : decode cX1_tryGiveRoute 5 = .ok (.astore 5, 2) := by decide +kernel
theorem dX1_tryGiveRoute_7 : decode cX1_tryGiveRoute 7 = .ok (.aload 5, 2) := by decide +kernel
theorem dX1_tryGiveRoute_9 : decode cX1_tryGiveRoute 9 = .ok (.ifnull 21, 3) := by decide +kernel
theorem dX1_tryGiveRoute_12 : decode cX1_tryGiveRoute 12 = .ok (.aload 5, 2) := by decide +kernel
theorem dX1_tryGiveRoute_14 : decode cX1_tryGiveRoute 14 = .ok (.getfield 71, 3) := by decide +kernel
theorem dX1_tryGiveRoute_17 : decode cX1_tryGiveRoute 17 = .ok (.ifCond .ne 13, 3) := by decide +kernel
theorem dX1_tryGiveRoute_20 : decode cX1_tryGiveRoute 20 = .ok (.iload_n 2, 1) := by decide +kernel
theorem dX1_tryGiveRoute_21 : decode cX1_tryGiveRoute 21 = .ok (.iload_n 3, 1) := by decide +kernel
theorem dX1_tryGiveRoute_22 : decode cX1_tryGiveRoute 22 = .ok (.iload 4, 2) := by decide +kernel
theorem dX1_tryGiveRoute_24 : decode cX1_tryGiveRoute 24 = .ok (.invokestatic 136, 3) := by decide +kernel
theorem dX1_tryGiveRoute_27 : decode cX1_tryGiveRoute 27 = .ok (.ifCond .ne 5, 3) := by decide +kernel
theorem dX1_tryGiveRoute_30 : decode cX1_tryGiveRoute 30 = .ok (.iconst 0, 1) := by decide +kernel
theorem dX1_tryGiveRoute_31 : decode cX1_tryGiveRoute 31 = .ok (.ireturn, 1) := by decide +kernel
theorem dX1_tryGiveRoute_32 : decode cX1_tryGiveRoute 32 = .ok (.aload 5, 2) := by decide +kernel
theorem dX1_tryGiveRoute_34 : decode cX1_tryGiveRoute 34 = .ok (.iload_n 2, 1) := by decide +kernel
theorem dX1_tryGiveRoute_35 : decode cX1_tryGiveRoute 35 = .ok (.iload_n 3, 1) := by decide +kernel
theorem dX1_tryGiveRoute_36 : decode cX1_tryGiveRoute 36 = .ok (.iload 4, 2) := by decide +kernel
theorem dX1_tryGiveRoute_38 : decode cX1_tryGiveRoute 38 = .ok (.invokevirtual 110, 3) := by decide +kernel
theorem dX1_tryGiveRoute_41 : decode cX1_tryGiveRoute 41 = .ok (.iconst 1, 1) := by decide +kernel
theorem dX1_tryGiveRoute_42 : decode cX1_tryGiveRoute 42 = .ok (.ireturn, 1) := by decide +kernel
theorem dX1_tryGiveBattery_0 : decode cX1_tryGiveBattery 0 = .ok (.aload_n 0, 1) := by decide +kernel
theorem dX1_tryGiveBattery_1 : decode cX1_tryGiveBattery 1 = .ok (.iload_n 1, 1) := by decide +kernel
theorem dX1_tryGiveBattery_2 : decode cX1_tryGiveBattery 2 = .ok (.invokevirtual 82, 3) := by decide +kernel
theorem dX1_tryGiveBattery_5 : decode cX1_tryGiveBattery 5 = .ok (.astore_n 3, 1) := by decide +kernel
theorem dX1_tryGiveBattery_6 : decode cX1_tryGiveBattery 6 = .ok (.aload_n 3, 1) := by decide +kernel
theorem dX1_tryGiveBattery_7 : decode cX1_tryGiveBattery 7 = .ok (.ifnull 22, 3) := by decide +kernel
theorem dX1_tryGiveBattery_10 : decode cX1_tryGiveBattery 10 = .ok (.aload_n 3, 1) := by decide +kernel
theorem dX1_tryGiveBattery_11 : decode cX1_tryGiveBattery 11 = .ok (.getfield 71, 3) := by decide +kernel
theorem dX1_tryGiveBattery_14 : decode cX1_tryGiveBattery 14 = .ok (.ifCond .ne 15, 3) := by decide +kernel
theorem dX1_tryGiveBattery_17 : decode cX1_tryGiveBattery 17 = .ok (.iload_n 2, 1) := by decide +kernel
theorem dX1_tryGiveBattery_18 : decode cX1_tryGiveBattery 18 = .ok (.bipush 10, 2) := by decide +kernel
theorem dX1_tryGiveBattery_20 : decode cX1_tryGiveBattery 20 = .ok (.sipush 400, 3) := by decide +kernel
theorem dX1_tryGiveBattery_23 : decode cX1_tryGiveBattery 23 = .ok (.invokestatic 63, 3) := by decide +kernel
theorem dX1_tryGiveBattery_26 : decode cX1_tryGiveBattery 26 = .ok (.ifCond .ne 5, 3) := by decide +kernel
theorem dX1_tryGiveBattery_29 : decode cX1_tryGiveBattery 29 = .ok (.iconst 0, 1) := by decide +kernel
theorem dX1_tryGiveBattery_30 : decode cX1_tryGiveBattery 30 = .ok (.ireturn, 1) := by decide +kernel
theorem dX1_tryGiveBattery_31 : decode cX1_tryGiveBattery 31 = .ok (.aload_n 3, 1) := by decide +kernel
theorem dX1_tryGiveBattery_32 : decode cX1_tryGiveBattery 32 = .ok (.iload_n 2, 1) := by decide +kernel
theorem dX1_tryGiveBattery_33 : decode cX1_tryGiveBattery 33 = .ok (.invokevirtual 106, 3) := by decide +kernel
theorem dX1_tryGiveBattery_36 : decode cX1_tryGiveBattery 36 = .ok (.iconst 1, 1) := by decide +kernel
theorem dX1_tryGiveBattery_37 : decode cX1_tryGiveBattery 37 = .ok (.ireturn, 1) := by decide +kernel
theorem dX1_tryChange_0 : decode cX1_tryChange 0 = .ok (.iload_n 1, 1) := by decide +kernel
theorem dX1_tryChange_1 : decode cX1_tryChange 1 = .ok (.iload_n 2, 1) := by decide +kernel
theorem dX1_tryChange_2 : decode cX1_tryChange 2 = .ok (.invokestatic 121, 3) := by decide +kernel
theorem dX1_tryChange_5 : decode cX1_tryChange 5 = .ok (.ifCond .ne 5, 3) := by decide +kernel
theorem dX1_tryChange_8 : decode cX1_tryChange 8 = .ok (.iconst 0, 1) := by decide +kernel
theorem dX1_tryChange_9 : decode cX1_tryChange 9 = .ok (.ireturn, 1) := by decide +kernel
theorem dX1_tryChange_10 : decode cX1_tryChange 10 = .ok (.aload_n 0, 1) := by decide +kernel
theorem dX1_tryChange_11 : decode cX1_tryChange 11 = .ok (.iload_n 1, 1) := by decide +kernel
theorem dX1_tryChange_12 : decode cX1_tryChange 12 = .ok (.iload_n 2, 1) := by decide +kernel
theorem dX1_tryChange_13 : decode cX1_tryChange 13 = .ok (.invokevirtual 139, 3) := by decide +kernel
theorem dX1_tryChange_16 : decode cX1_tryChange 16 = .ok (.iconst 1, 1) := by decide +kernel
theorem dX1_tryChange_17 : decode cX1_tryChange 17 = .ok (.ireturn, 1) := by decide +kernel
theorem dX1_tryPassHours_0 : decode cX1_tryPassHours 0 = .ok (.iload_n 1, 1) := by decide +kernel
theorem dX1_tryPassHours_1 : decode cX1_tryPassHours 1 = .ok (.iconst 1, 1) := by decide +kernel
theorem dX1_tryPassHours_2 : decode cX1_tryPassHours 2 = .ok (.bipush 48, 2) := by decide +kernel
theorem dX1_tryPassHours_4 : decode cX1_tryPassHours 4 = .ok (.invokestatic 63, 3) := by decide +kernel
theorem dX1_tryPassHours_7 : decode cX1_tryPassHours 7 = .ok (.ifCond .ne 5, 3) := by decide +kernel
theorem dX1_tryPassHours_10 : decode cX1_tryPassHours 10 = .ok (.iconst 0, 1) := by decide +kernel
theorem dX1_tryPassHours_11 : decode cX1_tryPassHours 11 = .ok (.ireturn, 1) := by decide +kernel
theorem dX1_tryPassHours_12 : decode cX1_tryPassHours 12 = .ok (.aload_n 0, 1) := by decide +kernel
theorem dX1_tryPassHours_13 : decode cX1_tryPassHours 13 = .ok (.iload_n 1, 1) := by decide +kernel
theorem dX1_tryPassHours_14 : decode cX1_tryPassHours 14 = .ok (.invokevirtual 143, 3) := by decide +kernel
theorem dX1_tryPassHours_17 : decode cX1_tryPassHours 17 = .ok (.iconst 1, 1) := by decide +kernel
theorem dX1_tryPassHours_18 : decode cX1_tryPassHours 18 = .ok (.ireturn, 1) := by decide +kernel
theorem dX1_passHours_0 : decode cX1_passHours 0 = .ok (.iconst 0, 1) := by decide +kernel
theorem dX1_passHours_1 : decode cX1_passHours 1 = .ok (.istore_n 2, 1) := by decide +kernel
theorem dX1_passHours_2 : decode cX1_passHours 2 = .ok (.iload_n 2, 1) := by decide +kernel
theorem dX1_passHours_3 : decode cX1_passHours 3 = .ok (.iload_n 1, 1) := by decide +kernel
theorem dX1_passHours_4 : decode cX1_passHours 4 = .ok (.if_icmp .ge 35, 3) := by decide +kernel
theorem dX1_passHours_7 : decode cX1_passHours 7 = .ok (.aload_n 0, 1) := by decide +kernel
theorem dX1_passHours_8 : decode cX1_passHours 8 = .ok (.invokevirtual 146, 3) := by decide +kernel
theorem dX1_passHours_11 : decode cX1_passHours 11 = .ok (.aload_n 0, 1) := by decide +kernel
theorem dX1_passHours_12 : decode cX1_passHours 12 = .ok (.invokevirtual 149, 3) := by decide +kernel
theorem dX1_passHours_15 : decode cX1_passHours 15 = .ok (.aload_n 0, 1) := by decide +kernel
theorem dX1_passHours_16 : decode cX1_passHours 16 = .ok (.invokevirtual 152, 3) := by decide +kernel
theorem dX1_passHours_19 : decode cX1_passHours 19 = .ok (.aload_n 0, 1) := by decide +kernel
theorem dX1_passHours_20 : decode cX1_passHours 20 = .ok (.invokevirtual 155, 3) := by decide +kernel
theorem dX1_passHours_23 : decode cX1_passHours 23 = .ok (.aload_n 0, 1) := by decide +kernel
theorem dX1_passHours_24 : decode cX1_passHours 24 = .ok (.dup, 1) := by decide +kernel
theorem dX1_passHours_25 : decode cX1_passHours 25 = .ok (.getfield 44, 3) := by decide +kernel
theorem dX1_passHours_28 : decode cX1_passHours 28 = .ok (.iconst 1, 1) := by decide +kernel
theorem dX1_passHours_29 : decode cX1_passHours 29 = .ok (.iadd, 1) := by decide +kernel
theorem dX1_passHours_30 : decode cX1_passHours 30 = .ok (.putfield 44, 3) := by decide +kernel
theorem dX1_passHours_33 : decode cX1_passHours 33 = .ok (.iinc 2 1, 3) := by decide +kernel
theorem dX1_passHours_36 : decode cX1_passHours 36 = .ok (.goto (-34), 3) := by decide +kernel
theorem dX1_passHours_39 : decode cX1_passHours 39 = .ok (.return_, 1) := by decide +kernel
theorem dX1_moveBuses_0 : decode cX1_moveBuses 0 = .ok (.aload_n 0, 1) := by decide +kernel
theorem dX1_moveBuses_1 : decode cX1_moveBuses 1 = .ok (.invokevirtual 95, 3) := by decide +kernel
theorem dX1_moveBuses_4 : decode cX1_moveBuses 4 = .ok (.istore_n 1, 1) := by decide +kernel
theorem dX1_moveBuses_5 : decode cX1_moveBuses 5 = .ok (.iconst 0, 1) := by decide +kernel
theorem dX1_moveBuses_6 : decode cX1_moveBuses 6 = .ok (.istore_n 2, 1) := by decide +kernel
theorem dX1_moveBuses_7 : decode cX1_moveBuses 7 = .ok (.iload_n 2, 1) := by decide +kernel
theorem dX1_moveBuses_8 : decode cX1_moveBuses 8 = .ok (.aload_n 0, 1) := by decide +kernel
theorem dX1_moveBuses_9 : decode cX1_moveBuses 9 = .ok (.getfield 37, 3) := by decide +kernel
theorem dX1_moveBuses_12 : decode cX1_moveBuses 12 = .ok (.if_icmp .ge 52, 3) := by decide +kernel
theorem dX1_moveBuses_15 : decode cX1_moveBuses 15 = .ok (.aload_n 0, 1) := by decide +kernel
theorem dX1_moveBuses_16 : decode cX1_moveBuses 16 = .ok (.getfield 11, 3) := by decide +kernel
theorem dX1_moveBuses_19 : decode cX1_moveBuses 19 = .ok (.iload_n 2, 1) := by decide +kernel
theorem dX1_moveBuses_20 : decode cX1_moveBuses 20 = .ok (.aaload, 1) := by decide +kernel
theorem dX1_moveBuses_21 : decode cX1_moveBuses 21 = .ok (.astore_n 3, 1) := by decide +kernel
theorem dX1_moveBuses_22 : decode cX1_moveBuses 22 = .ok (.aload_n 3, 1) := by decide +kernel
theorem dX1_moveBuses_23 : decode cX1_moveBuses 23 = .ok (.getfield 71, 3) := by decide +kernel
theorem dX1_moveBuses_26 : decode cX1_moveBuses 26 = .ok (.ifCond .eq 19, 3) := by decide +kernel
theorem dX1_moveBuses_29 : decode cX1_moveBuses 29 = .ok (.aload_n 3, 1) := by decide +kernel
theorem dX1_moveBuses_30 : decode cX1_moveBuses 30 = .ok (.getfield 158, 3) := by decide +kernel
theorem dX1_moveBuses_33 : decode cX1_moveBuses 33 = .ok (.iload_n 1, 1) := by decide +kernel
theorem dX1_moveBuses_34 : decode cX1_moveBuses 34 = .ok (.if_icmp .ne 11, 3) := by decide +kernel
theorem dX1_moveBuses_37 : decode cX1_moveBuses 37 = .ok (.aload_n 3, 1) := by decide +kernel
theorem dX1_moveBuses_38 : decode cX1_moveBuses 38 = .ok (.iconst 0, 1) := by decide +kernel
theorem dX1_moveBuses_39 : decode cX1_moveBuses 39 = .ok (.putfield 71, 3) := by decide +kernel
theorem dX1_moveBuses_42 : decode cX1_moveBuses 42 = .ok (.goto 16, 3) := by decide +kernel
theorem dX1_moveBuses_45 : decode cX1_moveBuses 45 = .ok (.aload_n 0, 1) := by decide +kernel
theorem dX1_moveBuses_46 : decode cX1_moveBuses 46 = .ok (.aload_n 3, 1) := by decide +kernel
theorem dX1_moveBuses_47 : decode cX1_moveBuses 47 = .ok (.invokevirtual 99, 3) := by decide +kernel
theorem dX1_moveBuses_50 : decode cX1_moveBuses 50 = .ok (.ifCond .eq 8, 3) := by decide +kernel
theorem dX1_moveBuses_53 : decode cX1_moveBuses 53 = .ok (.aload_n 0, 1) := by decide +kernel
theorem dX1_moveBuses_54 : decode cX1_moveBuses 54 = .ok (.aload_n 3, 1) := by decide +kernel
theorem dX1_moveBuses_55 : decode cX1_moveBuses 55 = .ok (.invokevirtual 161, 3) := by decide +kernel
theorem dX1_moveBuses_58 : decode cX1_moveBuses 58 = .ok (.iinc 2 1, 3) := by decide +kernel
theorem dX1_moveBuses_61 : decode cX1_moveBuses 61 = .ok (.goto (-54), 3) := by decide +kernel
theorem dX1_moveBuses_64 : decode cX1_moveBuses 64 = .ok (.return_, 1) := by decide +kernel
theorem dX1_isDue_0 : decode cX1_isDue 0 = .ok (.aload_n 1, 1) := by decide +kernel
theorem dX1_isDue_1 : decode cX1_isDue 1 = .ok (.getfield 71, 3) := by decide +kernel
theorem dX1_isDue_4 : decode cX1_isDue 4 = .ok (.ifCond .ne 18, 3) := by decide +kernel
theorem dX1_isDue_7 : decode cX1_isDue 7 = .ok (.aload_n 1, 1) := by decide +kernel
theorem dX1_isDue_8 : decode cX1_isDue 8 = .ok (.getfield 92, 3) := by decide +kernel
theorem dX1_isDue_11 : decode cX1_isDue 11 = .ok (.aload_n 0, 1) := by decide +kernel
theorem dX1_isDue_12 : decode cX1_isDue 12 = .ok (.invokevirtual 95, 3) := by decide +kernel
theorem dX1_isDue_15 : decode cX1_isDue 15 = .ok (.if_icmp .ne 7, 3) := by decide +kernel
theorem dX1_isDue_18 : decode cX1_isDue 18 = .ok (.iconst 1, 1) := by decide +kernel
theorem dX1_isDue_19 : decode cX1_isDue 19 = .ok (.goto 4, 3) := by decide +kernel
theorem dX1_isDue_22 : decode cX1_isDue 22 = .ok (.iconst 0, 1) := by decide +kernel
theorem dX1_isDue_23 : decode cX1_isDue 23 = .ok (.ireturn, 1) := by decide +kernel
theorem dX1_sendOut_0 : decode cX1_sendOut 0 = .ok (.aload_n 1, 1) := by decide +kernel
theorem dX1_sendOut_1 : decode cX1_sendOut 1 = .ok (.invokevirtual 75, 3) := by decide +kernel
theorem dX1_sendOut_4 : decode cX1_sendOut 4 = .ok (.ifCond .eq 31, 3) := by decide +kernel
theorem dX1_sendOut_7 : decode cX1_sendOut 7 = .ok (.aload_n 0, 1) := by decide +kernel
theorem dX1_sendOut_8 : decode cX1_sendOut 8 = .ok (.dup, 1) := by decide +kernel
theorem dX1_sendOut_9 : decode cX1_sendOut 9 = .ok (.getfield 53, 3) := by decide +kernel
theorem dX1_sendOut_12 : decode cX1_sendOut 12 = .ok (.iconst 1, 1) := by decide +kernel
theorem dX1_sendOut_13 : decode cX1_sendOut 13 = .ok (.iadd, 1) := by decide +kernel
theorem dX1_sendOut_14 : decode cX1_sendOut 14 = .ok (.putfield 53, 3) := by decide +kernel
theorem dX1_sendOut_17 : decode cX1_sendOut 17 = .ok (.aload_n 0, 1) := by decide +kernel
theorem dX1_sendOut_18 : decode cX1_sendOut 18 = .ok (.dup, 1) := by decide +kernel
theorem dX1_sendOut_19 : decode cX1_sendOut 19 = .ok (.getfield 47, 3) := by decide +kernel
theorem dX1_sendOut_22 : decode cX1_sendOut 22 = .ok (.aload_n 0, 1) := by decide +kernel
theorem dX1_sendOut_23 : decode cX1_sendOut 23 = .ok (.getfield 24, 3) := by decide +kernel
theorem dX1_sendOut_26 : decode cX1_sendOut 26 = .ok (.iconst 3, 1) := by decide +kernel
theorem dX1_sendOut_27 : decode cX1_sendOut 27 = .ok (.iaload, 1) := by decide +kernel
theorem dX1_sendOut_28 : decode cX1_sendOut 28 = .ok (.iadd, 1) := by decide +kernel
theorem dX1_sendOut_29 : decode cX1_sendOut 29 = .ok (.putfield 47, 3) := by decide +kernel
theorem dX1_sendOut_32 : decode cX1_sendOut 32 = .ok (.goto 27, 3) := by decide +kernel
theorem dX1_sendOut_35 : decode cX1_sendOut 35 = .ok (.aload_n 1, 1) := by decide +kernel
theorem dX1_sendOut_36 : decode cX1_sendOut 36 = .ok (.aload_n 1, 1) := by decide +kernel
theorem dX1_sendOut_37 : decode cX1_sendOut 37 = .ok (.invokevirtual 164, 3) := by decide +kernel
theorem dX1_sendOut_40 : decode cX1_sendOut 40 = .ok (.aload_n 0, 1) := by decide +kernel
theorem dX1_sendOut_41 : decode cX1_sendOut 41 = .ok (.getfield 24, 3) := by decide +kernel
theorem dX1_sendOut_44 : decode cX1_sendOut 44 = .ok (.iconst 4, 1) := by decide +kernel
theorem dX1_sendOut_45 : decode cX1_sendOut 45 = .ok (.iaload, 1) := by decide +kernel
theorem dX1_sendOut_46 : decode cX1_sendOut 46 = .ok (.invokevirtual 167, 3) := by decide +kernel
theorem dX1_sendOut_49 : decode cX1_sendOut 49 = .ok (.aload_n 0, 1) := by decide +kernel
theorem dX1_sendOut_50 : decode cX1_sendOut 50 = .ok (.dup, 1) := by decide +kernel
theorem dX1_sendOut_51 : decode cX1_sendOut 51 = .ok (.getfield 56, 3) := by decide +kernel
theorem dX1_sendOut_54 : decode cX1_sendOut 54 = .ok (.iconst 1, 1) := by decide +kernel
theorem dX1_sendOut_55 : decode cX1_sendOut 55 = .ok (.iadd, 1) := by decide +kernel
theorem dX1_sendOut_56 : decode cX1_sendOut 56 = .ok (.putfield 56, 3) := by decide +kernel
theorem dX1_sendOut_59 : decode cX1_sendOut 59 = .ok (.return_, 1) := by decide +kernel
theorem dX1_lineUp_0 : decode cX1_lineUp 0 = .ok (.aload_n 0, 1) := by decide +kernel
theorem dX1_lineUp_1 : decode cX1_lineUp 1 = .ok (.invokevirtual 170, 3) := by decide +kernel
theorem dX1_lineUp_4 : decode cX1_lineUp 4 = .ok (.istore_n 1, 1) := by decide +kernel
theorem dX1_lineUp_5 : decode cX1_lineUp 5 = .ok (.iconst 0, 1) := by decide +kernel
theorem dX1_lineUp_6 : decode cX1_lineUp 6 = .ok (.istore_n 2, 1) := by decide +kernel
theorem dX1_lineUp_7 : decode cX1_lineUp 7 = .ok (.iload_n 2, 1) := by decide +kernel
theorem dX1_lineUp_8 : decode cX1_lineUp 8 = .ok (.aload_n 0, 1) := by decide +kernel
theorem dX1_lineUp_9 : decode cX1_lineUp 9 = .ok (.getfield 37, 3) := by decide +kernel
theorem dX1_lineUp_12 : decode cX1_lineUp 12 = .ok (.if_icmp .ge 36, 3) := by decide +kernel
theorem dX1_lineUp_15 : decode cX1_lineUp 15 = .ok (.aload_n 0, 1) := by decide +kernel
theorem dX1_lineUp_16 : decode cX1_lineUp 16 = .ok (.getfield 11, 3) := by decide +kernel
theorem dX1_lineUp_19 : decode cX1_lineUp 19 = .ok (.iload_n 2, 1) := by decide +kernel
theorem dX1_lineUp_20 : decode cX1_lineUp 20 = .ok (.aaload, 1) := by decide +kernel
theorem dX1_lineUp_21 : decode cX1_lineUp 21 = .ok (.astore_n 3, 1) := by decide +kernel
theorem dX1_lineUp_22 : decode cX1_lineUp 22 = .ok (.aload_n 3, 1) := by decide +kernel
theorem dX1_lineUp_23 : decode cX1_lineUp 23 = .ok (.aload_n 0, 1) := by decide +kernel
theorem dX1_lineUp_24 : decode cX1_lineUp 24 = .ok (.aload_n 3, 1) := by decide +kernel
theorem dX1_lineUp_25 : decode cX1_lineUp 25 = .ok (.iload_n 1, 1) := by decide +kernel
theorem dX1_lineUp_26 : decode cX1_lineUp 26 = .ok (.invokevirtual 173, 3) := by decide +kernel
theorem dX1_lineUp_29 : decode cX1_lineUp 29 = .ok (.putfield 177, 3) := by decide +kernel
theorem dX1_lineUp_32 : decode cX1_lineUp 32 = .ok (.aload_n 3, 1) := by decide +kernel
theorem dX1_lineUp_33 : decode cX1_lineUp 33 = .ok (.iconst (-1), 1) := by decide +kernel
theorem dX1_lineUp_34 : decode cX1_lineUp 34 = .ok (.putfield 180, 3) := by decide +kernel
theorem dX1_lineUp_37 : decode cX1_lineUp 37 = .ok (.aload_n 3, 1) := by decide +kernel
theorem dX1_lineUp_38 : decode cX1_lineUp 38 = .ok (.iconst 0, 1) := by decide +kernel
theorem dX1_lineUp_39 : decode cX1_lineUp 39 = .ok (.putfield 183, 3) := by decide +kernel
theorem dX1_lineUp_42 : decode cX1_lineUp 42 = .ok (.iinc 2 1, 3) := by decide +kernel
theorem dX1_lineUp_45 : decode cX1_lineUp 45 = .ok (.goto (-38), 3) := by decide +kernel
theorem dX1_lineUp_48 : decode cX1_lineUp 48 = .ok (.return_, 1) := by decide +kernel
theorem dX1_plugIn_0 : decode cX1_plugIn 0 = .ok (.aload_n 0, 1) := by decide +kernel
theorem dX1_plugIn_1 : decode cX1_plugIn 1 = .ok (.getfield 24, 3) := by decide +kernel
theorem dX1_plugIn_4 : decode cX1_plugIn 4 = .ok (.iconst 0, 1) := by decide +kernel
theorem dX1_plugIn_5 : decode cX1_plugIn 5 = .ok (.iaload, 1) := by decide +kernel
theorem dX1_plugIn_6 : decode cX1_plugIn 6 = .ok (.istore_n 1, 1) := by decide +kernel
theorem dX1_plugIn_7 : decode cX1_plugIn 7 = .ok (.iconst 0, 1) := by decide +kernel
theorem dX1_plugIn_8 : decode cX1_plugIn 8 = .ok (.istore_n 2, 1) := by decide +kernel
theorem dX1_plugIn_9 : decode cX1_plugIn 9 = .ok (.iload_n 2, 1) := by decide +kernel
theorem dX1_plugIn_10 : decode cX1_plugIn 10 = .ok (.aload_n 0, 1) := by decide +kernel
theorem dX1_plugIn_11 : decode cX1_plugIn 11 = .ok (.getfield 41, 3) := by decide +kernel
theorem dX1_plugIn_14 : decode cX1_plugIn 14 = .ok (.if_icmp .ge 86, 3) := by decide +kernel
theorem dX1_plugIn_17 : decode cX1_plugIn 17 = .ok (.aload_n 0, 1) := by decide +kernel
theorem dX1_plugIn_18 : decode cX1_plugIn 18 = .ok (.invokevirtual 186, 3) := by decide +kernel
theorem dX1_plugIn_21 : decode cX1_plugIn 21 = .ok (.istore_n 3, 1) := by decide +kernel
theorem dX1_plugIn_22 : decode cX1_plugIn 22 = .ok (.iload_n 3, 1) := by decide +kernel
theorem dX1_plugIn_23 : decode cX1_plugIn 23 = .ok (.iconst (-1), 1) := by decide +kernel
theorem dX1_plugIn_24 : decode cX1_plugIn 24 = .ok (.if_icmp .ne 4, 3) := by decide +kernel
theorem dX1_plugIn_27 : decode cX1_plugIn 27 = .ok (.return_, 1) := by decide +kernel
theorem dX1_plugIn_28 : decode cX1_plugIn 28 = .ok (.aload_n 0, 1) := by decide +kernel
theorem dX1_plugIn_29 : decode cX1_plugIn 29 = .ok (.getfield 11, 3) := by decide +kernel
theorem dX1_plugIn_32 : decode cX1_plugIn 32 = .ok (.iload_n 3, 1) := by decide +kernel
theorem dX1_plugIn_33 : decode cX1_plugIn 33 = .ok (.aaload, 1) := by decide +kernel
theorem dX1_plugIn_34 : decode cX1_plugIn 34 = .ok (.astore 4, 2) := by decide +kernel
theorem dX1_plugIn_36 : decode cX1_plugIn 36 = .ok (.aload 4, 2) := by decide +kernel
theorem dX1_plugIn_38 : decode cX1_plugIn 38 = .ok (.iconst (-1), 1) := by decide +kernel
theorem dX1_plugIn_39 : decode cX1_plugIn 39 = .ok (.putfield 177, 3) := by decide +kernel
theorem dX1_plugIn_42 : decode cX1_plugIn 42 = .ok (.aload 4, 2) := by decide +kernel
theorem dX1_plugIn_44 : decode cX1_plugIn 44 = .ok (.aload_n 0, 1) := by decide +kernel
theorem dX1_plugIn_45 : decode cX1_plugIn 45 = .ok (.getfield 21, 3) := by decide +kernel
theorem dX1_plugIn_48 : decode cX1_plugIn 48 = .ok (.iload_n 2, 1) := by decide +kernel
theorem dX1_plugIn_49 : decode cX1_plugIn 49 = .ok (.iaload, 1) := by decide +kernel
theorem dX1_plugIn_50 : decode cX1_plugIn 50 = .ok (.putfield 180, 3) := by decide +kernel
theorem dX1_plugIn_53 : decode cX1_plugIn 53 = .ok (.aload 4, 2) := by decide +kernel
theorem dX1_plugIn_55 : decode cX1_plugIn 55 = .ok (.iload_n 1, 1) := by decide +kernel
theorem dX1_plugIn_56 : decode cX1_plugIn 56 = .ok (.aload_n 0, 1) := by decide +kernel
theorem dX1_plugIn_57 : decode cX1_plugIn 57 = .ok (.aload_n 0, 1) := by decide +kernel
theorem dX1_plugIn_58 : decode cX1_plugIn 58 = .ok (.getfield 21, 3) := by decide +kernel
theorem dX1_plugIn_61 : decode cX1_plugIn 61 = .ok (.iload_n 2, 1) := by decide +kernel
theorem dX1_plugIn_62 : decode cX1_plugIn 62 = .ok (.iaload, 1) := by decide +kernel
theorem dX1_plugIn_63 : decode cX1_plugIn 63 = .ok (.invokevirtual 117, 3) := by decide +kernel
theorem dX1_plugIn_66 : decode cX1_plugIn 66 = .ok (.aload 4, 2) := by decide +kernel
theorem dX1_plugIn_68 : decode cX1_plugIn 68 = .ok (.getfield 189, 3) := by decide +kernel
theorem dX1_plugIn_71 : decode cX1_plugIn 71 = .ok (.aload 4, 2) := by decide +kernel
theorem dX1_plugIn_73 : decode cX1_plugIn 73 = .ok (.getfield 79, 3) := by decide +kernel
theorem dX1_plugIn_76 : decode cX1_plugIn 76 = .ok (.isub, 1) := by decide +kernel
theorem dX1_plugIn_77 : decode cX1_plugIn 77 = .ok (.invokestatic 192, 3) := by decide +kernel
theorem dX1_plugIn_80 : decode cX1_plugIn 80 = .ok (.invokestatic 192, 3) := by decide +kernel
theorem dX1_plugIn_83 : decode cX1_plugIn 83 = .ok (.putfield 183, 3) := by decide +kernel
theorem dX1_plugIn_86 : decode cX1_plugIn 86 = .ok (.iload_n 1, 1) := by decide +kernel
theorem dX1_plugIn_87 : decode cX1_plugIn 87 = .ok (.aload 4, 2) := by decide +kernel
theorem dX1_plugIn_89 : decode cX1_plugIn 89 = .ok (.getfield 183, 3) := by decide +kernel
theorem dX1_plugIn_92 : decode cX1_plugIn 92 = .ok (.isub, 1) := by decide +kernel
theorem dX1_plugIn_93 : decode cX1_plugIn 93 = .ok (.istore_n 1, 1) := by decide +kernel
theorem dX1_plugIn_94 : decode cX1_plugIn 94 = .ok (.iinc 2 1, 3) := by decide +kernel
theorem dX1_plugIn_97 : decode cX1_plugIn 97 = .ok (.goto (-88), 3) := by decide +kernel
theorem dX1_plugIn_100 : decode cX1_plugIn 100 = .ok (.return_, 1) := by decide +kernel
theorem dX1_rankOf_0 : decode cX1_rankOf 0 = .ok (.aload_n 1, 1) := by decide +kernel
theorem dX1_rankOf_1 : decode cX1_rankOf 1 = .ok (.getfield 71, 3) := by decide +kernel
theorem dX1_rankOf_4 : decode cX1_rankOf 4 = .ok (.ifCond .ne 14, 3) := by decide +kernel
theorem dX1_rankOf_7 : decode cX1_rankOf 7 = .ok (.aload_n 1, 1) := by decide +kernel
theorem dX1_rankOf_8 : decode cX1_rankOf 8 = .ok (.getfield 79, 3) := by decide +kernel
theorem dX1_rankOf_11 : decode cX1_rankOf 11 = .ok (.aload_n 1, 1) := by decide +kernel
theorem dX1_rankOf_12 : decode cX1_rankOf 12 = .ok (.getfield 189, 3) := by decide +kernel
theorem dX1_rankOf_15 : decode cX1_rankOf 15 = .ok (.if_icmp .lt 5, 3) := by decide +kernel
theorem dX1_rankOf_18 : decode cX1_rankOf 18 = .ok (.iconst (-1), 1) := by decide +kernel
theorem dX1_rankOf_19 : decode cX1_rankOf 19 = .ok (.ireturn, 1) := by decide +kernel
theorem dX1_rankOf_20 : decode cX1_rankOf 20 = .ok (.aload_n 1, 1) := by decide +kernel
theorem dX1_rankOf_21 : decode cX1_rankOf 21 = .ok (.getfield 79, 3) := by decide +kernel
theorem dX1_rankOf_24 : decode cX1_rankOf 24 = .ok (.aload_n 1, 1) := by decide +kernel
theorem dX1_rankOf_25 : decode cX1_rankOf 25 = .ok (.getfield 195, 3) := by decide +kernel
theorem dX1_rankOf_28 : decode cX1_rankOf 28 = .ok (.if_icmp .ge 29, 3) := by decide +kernel
theorem dX1_rankOf_31 : decode cX1_rankOf 31 = .ok (.aload_n 1, 1) := by decide +kernel
theorem dX1_rankOf_32 : decode cX1_rankOf 32 = .ok (.getfield 195, 3) := by decide +kernel
theorem dX1_rankOf_35 : decode cX1_rankOf 35 = .ok (.aload_n 1, 1) := by decide +kernel
theorem dX1_rankOf_36 : decode cX1_rankOf 36 = .ok (.getfield 79, 3) := by decide +kernel
theorem dX1_rankOf_39 : decode cX1_rankOf 39 = .ok (.isub, 1) := by decide +kernel
theorem dX1_rankOf_40 : decode cX1_rankOf 40 = .ok (.istore_n 3, 1) := by decide +kernel
theorem dX1_rankOf_41 : decode cX1_rankOf 41 = .ok (.sipush 401, 3) := by decide +kernel
theorem dX1_rankOf_44 : decode cX1_rankOf 44 = .ok (.aload_n 0, 1) := by decide +kernel
theorem dX1_rankOf_45 : decode cX1_rankOf 45 = .ok (.aload_n 1, 1) := by decide +kernel
theorem dX1_rankOf_46 : decode cX1_rankOf 46 = .ok (.invokevirtual 198, 3) := by decide +kernel
theorem dX1_rankOf_49 : decode cX1_rankOf 49 = .ok (.imul, 1) := by decide +kernel
theorem dX1_rankOf_50 : decode cX1_rankOf 50 = .ok (.sipush 400, 3) := by decide +kernel
theorem dX1_rankOf_53 : decode cX1_rankOf 53 = .ok (.iadd, 1) := by decide +kernel
theorem dX1_rankOf_54 : decode cX1_rankOf 54 = .ok (.iload_n 3, 1) := by decide +kernel
theorem dX1_rankOf_55 : decode cX1_rankOf 55 = .ok (.isub, 1) := by decide +kernel
theorem dX1_rankOf_56 : decode cX1_rankOf 56 = .ok (.ireturn, 1) := by decide +kernel
theorem dX1_rankOf_57 : decode cX1_rankOf 57 = .ok (.iload_n 2, 1) := by decide +kernel
theorem dX1_rankOf_58 : decode cX1_rankOf 58 = .ok (.ifCond .eq 8, 3) := by decide +kernel
theorem dX1_rankOf_61 : decode cX1_rankOf 61 = .ok (.ldc 202, 2) := by decide +kernel
theorem dX1_rankOf_63 : decode cX1_rankOf 63 = .ok (.goto 4, 3) := by decide +kernel
theorem dX1_rankOf_66 : decode cX1_rankOf 66 = .ok (.iconst (-1), 1) := by decide +kernel
theorem dX1_rankOf_67 : decode cX1_rankOf 67 = .ok (.ireturn, 1) := by decide +kernel
theorem dX1_firstInLine_0 : decode cX1_firstInLine 0 = .ok (.iconst (-1), 1) := by decide +kernel
theorem dX1_firstInLine_1 : decode cX1_firstInLine 1 = .ok (.istore_n 1, 1) := by decide +kernel
theorem dX1_firstInLine_2 : decode cX1_firstInLine 2 = .ok (.ldc 203, 2) := by decide +kernel
theorem dX1_firstInLine_4 : decode cX1_firstInLine 4 = .ok (.istore_n 2, 1) := by decide +kernel
theorem dX1_firstInLine_5 : decode cX1_firstInLine 5 = .ok (.iconst 0, 1) := by decide +kernel
theorem dX1_firstInLine_6 : decode cX1_firstInLine 6 = .ok (.istore_n 3, 1) := by decide +kernel
theorem dX1_firstInLine_7 : decode cX1_firstInLine 7 = .ok (.iload_n 3, 1) := by decide +kernel
theorem dX1_firstInLine_8 : decode cX1_firstInLine 8 = .ok (.aload_n 0, 1) := by decide +kernel
theorem dX1_firstInLine_9 : decode cX1_firstInLine 9 = .ok (.getfield 37, 3) := by decide +kernel
theorem dX1_firstInLine_12 : decode cX1_firstInLine 12 = .ok (.if_icmp .ge 37, 3) := by decide +kernel
theorem dX1_firstInLine_15 : decode cX1_firstInLine 15 = .ok (.aload_n 0, 1) := by decide +kernel
theorem dX1_firstInLine_16 : decode cX1_firstInLine 16 = .ok (.getfield 11, 3) := by decide +kernel
theorem dX1_firstInLine_19 : decode cX1_firstInLine 19 = .ok (.iload_n 3, 1) := by decide +kernel
theorem dX1_firstInLine_20 : decode cX1_firstInLine 20 = .ok (.aaload, 1) := by decide +kernel
theorem dX1_firstInLine_21 : decode cX1_firstInLine 21 = .ok (.getfield 177, 3) := by decide +kernel
theorem dX1_firstInLine_24 : decode cX1_firstInLine 24 = .ok (.istore 4, 2) := by decide +kernel
theorem dX1_firstInLine_26 : decode cX1_firstInLine 26 = .ok (.iload 4, 2) := by decide +kernel
theorem dX1_firstInLine_28 : decode cX1_firstInLine 28 = .ok (.iconst (-1), 1) := by decide +kernel
theorem dX1_firstInLine_29 : decode cX1_firstInLine 29 = .ok (.if_icmp .eq 14, 3) := by decide +kernel
theorem dX1_firstInLine_32 : decode cX1_firstInLine 32 = .ok (.iload 4, 2) := by decide +kernel
theorem dX1_firstInLine_34 : decode cX1_firstInLine 34 = .ok (.iload_n 2, 1) := by decide +kernel
theorem dX1_firstInLine_35 : decode cX1_firstInLine 35 = .ok (.if_icmp .ge 8, 3) := by decide +kernel
theorem dX1_firstInLine_38 : decode cX1_firstInLine 38 = .ok (.iload_n 3, 1) := by decide +kernel
theorem dX1_firstInLine_39 : decode cX1_firstInLine 39 = .ok (.istore_n 1, 1) := by decide +kernel
theorem dX1_firstInLine_40 : decode cX1_firstInLine 40 = .ok (.iload 4, 2) := by decide +kernel
theorem dX1_firstInLine_42 : decode cX1_firstInLine 42 = .ok (.istore_n 2, 1) := by decide +kernel
theorem dX1_firstInLine_43 : decode cX1_firstInLine 43 = .ok (.iinc 3 1, 3) := by decide +kernel
theorem dX1_firstInLine_46 : decode cX1_firstInLine 46 = .ok (.goto (-39), 3) := by decide +kernel
theorem dX1_firstInLine_49 : decode cX1_firstInLine 49 = .ok (.iload_n 1, 1) := by decide +kernel
theorem dX1_firstInLine_50 : decode cX1_firstInLine 50 = .ok (.ireturn, 1) := by decide +kernel
theorem dX1_chargeBuses_0 : decode cX1_chargeBuses 0 = .ok (.aload_n 0, 1) := by decide +kernel
theorem dX1_chargeBuses_1 : decode cX1_chargeBuses 1 = .ok (.getfield 24, 3) := by decide +kernel
theorem dX1_chargeBuses_4 : decode cX1_chargeBuses 4 = .ok (.aload_n 0, 1) := by decide +kernel
theorem dX1_chargeBuses_5 : decode cX1_chargeBuses 5 = .ok (.invokevirtual 170, 3) := by decide +kernel
theorem dX1_chargeBuses_8 : decode cX1_chargeBuses 8 = .ok (.ifCond .eq 7, 3) := by decide +kernel
theorem dX1_chargeBuses_11 : decode cX1_chargeBuses 11 = .ok (.iconst 2, 1) := by decide +kernel
theorem dX1_chargeBuses_12 : decode cX1_chargeBuses 12 = .ok (.goto 4, 3) := by decide +kernel
theorem dX1_chargeBuses_15 : decode cX1_chargeBuses 15 = .ok (.iconst 1, 1) := by decide +kernel
theorem dX1_chargeBuses_16 : decode cX1_chargeBuses 16 = .ok (.iaload, 1) := by decide +kernel
theorem dX1_chargeBuses_17 : decode cX1_chargeBuses 17 = .ok (.istore_n 1, 1) := by decide +kernel
theorem dX1_chargeBuses_18 : decode cX1_chargeBuses 18 = .ok (.iconst 0, 1) := by decide +kernel
theorem dX1_chargeBuses_19 : decode cX1_chargeBuses 19 = .ok (.istore_n 2, 1) := by decide +kernel
theorem dX1_chargeBuses_20 : decode cX1_chargeBuses 20 = .ok (.iload_n 2, 1) := by decide +kernel
theorem dX1_chargeBuses_21 : decode cX1_chargeBuses 21 = .ok (.aload_n 0, 1) := by decide +kernel
theorem dX1_chargeBuses_22 : decode cX1_chargeBuses 22 = .ok (.getfield 37, 3) := by decide +kernel
theorem dX1_chargeBuses_25 : decode cX1_chargeBuses 25 = .ok (.if_icmp .ge 57, 3) := by decide +kernel
theorem dX1_chargeBuses_28 : decode cX1_chargeBuses 28 = .ok (.aload_n 0, 1) := by decide +kernel
theorem dX1_chargeBuses_29 : decode cX1_chargeBuses 29 = .ok (.getfield 11, 3) := by decide +kernel
theorem dX1_chargeBuses_32 : decode cX1_chargeBuses 32 = .ok (.iload_n 2, 1) := by decide +kernel
theorem dX1_chargeBuses_33 : decode cX1_chargeBuses 33 = .ok (.aaload, 1) := by decide +kernel
theorem dX1_chargeBuses_34 : decode cX1_chargeBuses 34 = .ok (.astore_n 3, 1) := by decide +kernel
theorem dX1_chargeBuses_35 : decode cX1_chargeBuses 35 = .ok (.aload_n 3, 1) := by decide +kernel
theorem dX1_chargeBuses_36 : decode cX1_chargeBuses 36 = .ok (.dup, 1) := by decide +kernel
theorem dX1_chargeBuses_37 : decode cX1_chargeBuses 37 = .ok (.getfield 79, 3) := by decide +kernel
theorem dX1_chargeBuses_40 : decode cX1_chargeBuses 40 = .ok (.aload_n 3, 1) := by decide +kernel
theorem dX1_chargeBuses_41 : decode cX1_chargeBuses 41 = .ok (.getfield 183, 3) := by decide +kernel
theorem dX1_chargeBuses_44 : decode cX1_chargeBuses 44 = .ok (.iadd, 1) := by decide +kernel
theorem dX1_chargeBuses_45 : decode cX1_chargeBuses 45 = .ok (.putfield 79, 3) := by decide +kernel
theorem dX1_chargeBuses_48 : decode cX1_chargeBuses 48 = .ok (.aload_n 0, 1) := by decide +kernel
theorem dX1_chargeBuses_49 : decode cX1_chargeBuses 49 = .ok (.dup, 1) := by decide +kernel
theorem dX1_chargeBuses_50 : decode cX1_chargeBuses 50 = .ok (.getfield 50, 3) := by decide +kernel
theorem dX1_chargeBuses_53 : decode cX1_chargeBuses 53 = .ok (.aload_n 3, 1) := by decide +kernel
theorem dX1_chargeBuses_54 : decode cX1_chargeBuses 54 = .ok (.getfield 183, 3) := by decide +kernel
theorem dX1_chargeBuses_57 : decode cX1_chargeBuses 57 = .ok (.iadd, 1) := by decide +kernel
theorem dX1_chargeBuses_58 : decode cX1_chargeBuses 58 = .ok (.putfield 50, 3) := by decide +kernel
theorem dX1_chargeBuses_61 : decode cX1_chargeBuses 61 = .ok (.aload_n 0, 1) := by decide +kernel
theorem dX1_chargeBuses_62 : decode cX1_chargeBuses 62 = .ok (.dup, 1) := by decide +kernel
theorem dX1_chargeBuses_63 : decode cX1_chargeBuses 63 = .ok (.getfield 47, 3) := by decide +kernel
theorem dX1_chargeBuses_66 : decode cX1_chargeBuses 66 = .ok (.aload_n 3, 1) := by decide +kernel
theorem dX1_chargeBuses_67 : decode cX1_chargeBuses 67 = .ok (.getfield 183, 3) := by decide +kernel
theorem dX1_chargeBuses_70 : decode cX1_chargeBuses 70 = .ok (.iload_n 1, 1) := by decide +kernel
theorem dX1_chargeBuses_71 : decode cX1_chargeBuses 71 = .ok (.imul, 1) := by decide +kernel
theorem dX1_chargeBuses_72 : decode cX1_chargeBuses 72 = .ok (.iadd, 1) := by decide +kernel
theorem dX1_chargeBuses_73 : decode cX1_chargeBuses 73 = .ok (.putfield 47, 3) := by decide +kernel
theorem dX1_chargeBuses_76 : decode cX1_chargeBuses 76 = .ok (.iinc 2 1, 3) := by decide +kernel
theorem dX1_chargeBuses_79 : decode cX1_chargeBuses 79 = .ok (.goto (-59), 3) := by decide +kernel
theorem dX1_chargeBuses_82 : decode cX1_chargeBuses 82 = .ok (.return_, 1) := by decide +kernel
theorem dX1_unitsOf_0 : decode cX1_unitsOf 0 = .ok (.aload_n 0, 1) := by decide +kernel
theorem dX1_unitsOf_1 : decode cX1_unitsOf 1 = .ok (.iload_n 1, 1) := by decide +kernel
theorem dX1_unitsOf_2 : decode cX1_unitsOf 2 = .ok (.invokevirtual 82, 3) := by decide +kernel
theorem dX1_unitsOf_5 : decode cX1_unitsOf 5 = .ok (.astore_n 2, 1) := by decide +kernel
theorem dX1_unitsOf_6 : decode cX1_unitsOf 6 = .ok (.aload_n 2, 1) := by decide +kernel
theorem dX1_unitsOf_7 : decode cX1_unitsOf 7 = .ok (.ifnonnull 7, 3) := by decide +kernel
theorem dX1_unitsOf_10 : decode cX1_unitsOf 10 = .ok (.iconst 0, 1) := by decide +kernel
theorem dX1_unitsOf_11 : decode cX1_unitsOf 11 = .ok (.goto 7, 3) := by decide +kernel
theorem dX1_unitsOf_14 : decode cX1_unitsOf 14 = .ok (.aload_n 2, 1) := by decide +kernel
theorem dX1_unitsOf_15 : decode cX1_unitsOf 15 = .ok (.getfield 183, 3) := by decide +kernel
theorem dX1_unitsOf_18 : decode cX1_unitsOf 18 = .ok (.ireturn, 1) := by decide +kernel
theorem dX1_chargerOf_0 : decode cX1_chargerOf 0 = .ok (.aload_n 0, 1) := by decide +kernel
theorem dX1_chargerOf_1 : decode cX1_chargerOf 1 = .ok (.iload_n 1, 1) := by decide +kernel
theorem dX1_chargerOf_2 : decode cX1_chargerOf 2 = .ok (.invokevirtual 82, 3) := by decide +kernel
theorem dX1_chargerOf_5 : decode cX1_chargerOf 5 = .ok (.astore_n 2, 1) := by decide +kernel
theorem dX1_chargerOf_6 : decode cX1_chargerOf 6 = .ok (.aload_n 2, 1) := by decide +kernel
theorem dX1_chargerOf_7 : decode cX1_chargerOf 7 = .ok (.ifnonnull 7, 3) := by decide +kernel
theorem dX1_chargerOf_10 : decode cX1_chargerOf 10 = .ok (.iconst (-1), 1) := by decide +kernel
theorem dX1_chargerOf_11 : decode cX1_chargerOf 11 = .ok (.goto 7, 3) := by decide +kernel
theorem dX1_chargerOf_14 : decode cX1_chargerOf 14 = .ok (.aload_n 2, 1) := by decide +kernel
theorem dX1_chargerOf_15 : decode cX1_chargerOf 15 = .ok (.getfield 180, 3) := by decide +kernel
theorem dX1_chargerOf_18 : decode cX1_chargerOf 18 = .ok (.ireturn, 1) := by decide +kernel
theorem dX1_busAtCharger_0 : decode cX1_busAtCharger 0 = .ok (.iconst 0, 1) := by decide +kernel
theorem dX1_busAtCharger_1 : decode cX1_busAtCharger 1 = .ok (.istore_n 2, 1) := by decide +kernel
theorem dX1_busAtCharger_2 : decode cX1_busAtCharger 2 = .ok (.iload_n 2, 1) := by decide +kernel
theorem dX1_busAtCharger_3 : decode cX1_busAtCharger 3 = .ok (.aload_n 0, 1) := by decide +kernel
theorem dX1_busAtCharger_4 : decode cX1_busAtCharger 4 = .ok (.getfield 37, 3) := by decide +kernel
theorem dX1_busAtCharger_7 : decode cX1_busAtCharger 7 = .ok (.if_icmp .ge 24, 3) := by decide +kernel
theorem dX1_busAtCharger_10 : decode cX1_busAtCharger 10 = .ok (.aload_n 0, 1) := by decide +kernel
theorem dX1_busAtCharger_11 : decode cX1_busAtCharger 11 = .ok (.getfield 11, 3) := by decide +kernel
theorem dX1_busAtCharger_14 : decode cX1_busAtCharger 14 = .ok (.iload_n 2, 1) := by decide +kernel
theorem dX1_busAtCharger_15 : decode cX1_busAtCharger 15 = .ok (.aaload, 1) := by decide +kernel
theorem dX1_busAtCharger_16 : decode cX1_busAtCharger 16 = .ok (.getfield 180, 3) := by decide +kernel
theorem dX1_busAtCharger_19 : decode cX1_busAtCharger 19 = .ok (.iload_n 1, 1) := by decide +kernel
theorem dX1_busAtCharger_20 : decode cX1_busAtCharger 20 = .ok (.if_icmp .ne 5, 3) := by decide +kernel
theorem dX1_busAtCharger_23 : decode cX1_busAtCharger 23 = .ok (.iload_n 2, 1) := by decide +kernel
theorem dX1_busAtCharger_24 : decode cX1_busAtCharger 24 = .ok (.ireturn, 1) := by decide +kernel
theorem dX1_busAtCharger_25 : decode cX1_busAtCharger 25 = .ok (.iinc 2 1, 3) := by decide +kernel
theorem dX1_busAtCharger_28 : decode cX1_busAtCharger 28 = .ok (.goto (-26), 3) := by decide +kernel
theorem dX1_busAtCharger_31 : decode cX1_busAtCharger 31 = .ok (.iconst (-1), 1) := by decide +kernel
theorem dX1_busAtCharger_32 : decode cX1_busAtCharger 32 = .ok (.ireturn, 1) := by decide +kernel
theorem dX2_init_0 : decode cX2_init 0 = .ok (.aload_n 0, 1) := by decide +kernel
theorem dX2_init_1 : decode cX2_init 1 = .ok (.invokespecial 3, 3) := by decide +kernel
theorem dX2_init_4 : decode cX2_init 4 = .ok (.aload_n 0, 1) := by decide +kernel
theorem dX2_init_5 : decode cX2_init 5 = .ok (.bipush 14, 2) := by decide +kernel
theorem dX2_init_7 : decode cX2_init 7 = .ok (.anewarray 9, 3) := by decide +kernel
theorem dX2_init_10 : decode cX2_init 10 = .ok (.putfield 11, 3) := by decide +kernel
theorem dX2_init_13 : decode cX2_init 13 = .ok (.iconst 0, 1) := by decide +kernel
theorem dX2_init_14 : decode cX2_init 14 = .ok (.istore_n 1, 1) := by decide +kernel
theorem dX2_init_15 : decode cX2_init 15 = .ok (.iload_n 1, 1) := by decide +kernel
theorem dX2_init_16 : decode cX2_init 16 = .ok (.aload_n 0, 1) := by decide +kernel
theorem dX2_init_17 : decode cX2_init 17 = .ok (.getfield 11, 3) := by decide +kernel
theorem dX2_init_20 : decode cX2_init 20 = .ok (.arraylength, 1) := by decide +kernel
theorem dX2_init_21 : decode cX2_init 21 = .ok (.if_icmp .ge 22, 3) := by decide +kernel
theorem dX2_init_24 : decode cX2_init 24 = .ok (.aload_n 0, 1) := by decide +kernel
theorem dX2_init_25 : decode cX2_init 25 = .ok (.getfield 11, 3) := by decide +kernel
theorem dX2_init_28 : decode cX2_init 28 = .ok (.iload_n 1, 1) := by decide +kernel
theorem dX2_init_29 : decode cX2_init 29 = .ok (.new 9, 3) := by decide +kernel
theorem dX2_init_32 : decode cX2_init 32 = .ok (.dup, 1) := by decide +kernel
theorem dX2_init_33 : decode cX2_init 33 = .ok (.invokespecial 17, 3) := by decide +kernel
theorem dX2_init_36 : decode cX2_init 36 = .ok (.aastore, 1) := by decide +kernel
theorem dX2_init_37 : decode cX2_init 37 = .ok (.iinc 1 1, 3) := by decide +kernel
theorem dX2_init_40 : decode cX2_init 40 = .ok (.goto (-25), 3) := by decide +kernel
theorem dX2_init_43 : decode cX2_init 43 = .ok (.return_, 1) := by decide +kernel
theorem dX2_isEmpty_0 : decode cX2_isEmpty 0 = .ok (.aload_n 0, 1) := by decide +kernel
theorem dX2_isEmpty_1 : decode cX2_isEmpty 1 = .ok (.getfield 18, 3) := by decide +kernel
theorem dX2_isEmpty_4 : decode cX2_isEmpty 4 = .ok (.ifCond .gt 7, 3) := by decide +kernel
theorem dX2_isEmpty_7 : decode cX2_isEmpty 7 = .ok (.iconst 1, 1) := by decide +kernel
theorem dX2_isEmpty_8 : decode cX2_isEmpty 8 = .ok (.goto 4, 3) := by decide +kernel
theorem dX2_isEmpty_11 : decode cX2_isEmpty 11 = .ok (.iconst 0, 1) := by decide +kernel
theorem dX2_isEmpty_12 : decode cX2_isEmpty 12 = .ok (.ireturn, 1) := by decide +kernel
theorem dX2_remember_0 : decode cX2_remember 0 = .ok (.aload_n 0, 1) := by decide +kernel
theorem dX2_remember_1 : decode cX2_remember 1 = .ok (.getfield 18, 3) := by decide +kernel
theorem dX2_remember_4 : decode cX2_remember 4 = .ok (.aload_n 0, 1) := by decide +kernel
theorem dX2_remember_5 : decode cX2_remember 5 = .ok (.getfield 11, 3) := by decide +kernel
theorem dX2_remember_8 : decode cX2_remember 8 = .ok (.arraylength, 1) := by decide +kernel
theorem dX2_remember_9 : decode cX2_remember 9 = .ok (.if_icmp .lt 7, 3) := by decide +kernel
theorem dX2_remember_12 : decode cX2_remember 12 = .ok (.aload_n 0, 1) := by decide +kernel
theorem dX2_remember_13 : decode cX2_remember 13 = .ok (.invokevirtual 22, 3) := by decide +kernel
theorem dX2_remember_16 : decode cX2_remember 16 = .ok (.aload_n 0, 1) := by decide +kernel
theorem dX2_remember_17 : decode cX2_remember 17 = .ok (.getfield 11, 3) := by decide +kernel
theorem dX2_remember_20 : decode cX2_remember 20 = .ok (.aload_n 0, 1) := by decide +kernel
theorem dX2_remember_21 : decode cX2_remember 21 = .ok (.getfield 18, 3) := by decide +kernel
theorem dX2_remember_24 : decode cX2_remember 24 = .ok (.aaload, 1) := by decide +kernel
theorem dX2_remember_25 : decode cX2_remember 25 = .ok (.aload_n 1, 1) := by decide +kernel
theorem dX2_remember_26 : decode cX2_remember 26 = .ok (.invokevirtual 25, 3) := by decide +kernel
theorem dX2_remember_29 : decode cX2_remember 29 = .ok (.aload_n 0, 1) := by decide +kernel
theorem dX2_remember_30 : decode cX2_remember 30 = .ok (.dup, 1) := by decide +kernel
theorem dX2_remember_31 : decode cX2_remember 31 = .ok (.getfield 18, 3) := by decide +kernel
theorem dX2_remember_34 : decode cX2_remember 34 = .ok (.iconst 1, 1) := by decide +kernel
theorem dX2_remember_35 : decode cX2_remember 35 = .ok (.iadd, 1) := by decide +kernel
theorem dX2_remember_36 : decode cX2_remember 36 = .ok (.putfield 18, 3) := by decide +kernel
theorem dX2_remember_39 : decode cX2_remember 39 = .ok (.return_, 1) := by decide +kernel
theorem dX2_forgetOldest_0 : decode cX2_forgetOldest 0 = .ok (.aload_n 0, 1) := by decide +kernel
theorem dX2_forgetOldest_1 : decode cX2_forgetOldest 1 = .ok (.getfield 11, 3) := by decide +kernel
theorem dX2_forgetOldest_4 : decode cX2_forgetOldest 4 = .ok (.iconst 0, 1) := by decide +kernel
theorem dX2_forgetOldest_5 : decode cX2_forgetOldest 5 = .ok (.aaload, 1) := by decide +kernel
theorem dX2_forgetOldest_6 : decode cX2_forgetOldest 6 = .ok (.astore_n 1, 1) := by decide +kernel
theorem dX2_forgetOldest_7 : decode cX2_forgetOldest 7 = .ok (.iconst 1, 1) := by decide +kernel
theorem dX2_forgetOldest_8 : decode cX2_forgetOldest 8 = .ok (.istore_n 2, 1) := by decide +kernel
theorem dX2_forgetOldest_9 : decode cX2_forgetOldest 9 = .ok (.iload_n 2, 1) := by decide +kernel
theorem dX2_forgetOldest_10 : decode cX2_forgetOldest 10 = .ok (.aload_n 0, 1) := by decide +kernel
theorem dX2_forgetOldest_11 : decode cX2_forgetOldest 11 = .ok (.getfield 11, 3) := by decide +kernel
theorem dX2_forgetOldest_14 : decode cX2_forgetOldest 14 = .ok (.arraylength, 1) := by decide +kernel
theorem dX2_forgetOldest_15 : decode cX2_forgetOldest 15 = .ok (.if_icmp .ge 23, 3) := by decide +kernel
theorem dX2_forgetOldest_18 : decode cX2_forgetOldest 18 = .ok (.aload_n 0, 1) := by decide +kernel
theorem dX2_forgetOldest_19 : decode cX2_forgetOldest 19 = .ok (.getfield 11, 3) := by decide +kernel
theorem dX2_forgetOldest_22 : decode cX2_forgetOldest 22 = .ok (.iload_n 2, 1) := by decide +kernel
theorem dX2_forgetOldest_23 : decode cX2_forgetOldest 23 = .ok (.iconst 1, 1) := by decide +kernel
theorem dX2_forgetOldest_24 : decode cX2_forgetOldest 24 = .ok (.isub, 1) := by decide +kernel
theorem dX2_forgetOldest_25 : decode cX2_forgetOldest 25 = .ok (.aload_n 0, 1) := by decide +kernel
theorem dX2_forgetOldest_26 : decode cX2_forgetOldest 26 = .ok (.getfield 11, 3) := by decide +kernel
theorem dX2_forgetOldest_29 : decode cX2_forgetOldest 29 = .ok (.iload_n 2, 1) := by decide +kernel
theorem dX2_forgetOldest_30 : decode cX2_forgetOldest 30 = .ok (.aaload, 1) := by decide +kernel
theorem dX2_forgetOldest_31 : decode cX2_forgetOldest 31 = .ok (.aastore, 1) := by decide +kernel
theorem dX2_forgetOldest_32 : decode cX2_forgetOldest 32 = .ok (.iinc 2 1, 3) := by decide +kernel
theorem dX2_forgetOldest_35 : decode cX2_forgetOldest 35 = .ok (.goto (-26), 3) := by decide +kernel
theorem dX2_forgetOldest_38 : decode cX2_forgetOldest 38 = .ok (.aload_n 0, 1) := by decide +kernel
theorem dX2_forgetOldest_39 : decode cX2_forgetOldest 39 = .ok (.getfield 11, 3) := by decide +kernel
theorem dX2_forgetOldest_42 : decode cX2_forgetOldest 42 = .ok (.aload_n 0, 1) := by decide +kernel
theorem dX2_forgetOldest_43 : decode cX2_forgetOldest 43 = .ok (.getfield 11, 3) := by decide +kernel
theorem dX2_forgetOldest_46 : decode cX2_forgetOldest 46 = .ok (.arraylength, 1) := by decide +kernel
theorem dX2_forgetOldest_47 : decode cX2_forgetOldest 47 = .ok (.iconst 1, 1) := by decide +kernel
theorem dX2_forgetOldest_48 : decode cX2_forgetOldest 48 = .ok (.isub, 1) := by decide +kernel
theorem dX2_forgetOldest_49 : decode cX2_forgetOldest 49 = .ok (.aload_n 1, 1) := by decide +kernel
theorem dX2_forgetOldest_50 : decode cX2_forgetOldest 50 = .ok (.aastore, 1) := by decide +kernel
theorem dX2_forgetOldest_51 : decode cX2_forgetOldest 51 = .ok (.aload_n 0, 1) := by decide +kernel
theorem dX2_forgetOldest_52 : decode cX2_forgetOldest 52 = .ok (.aload_n 0, 1) := by decide +kernel
theorem dX2_forgetOldest_53 : decode cX2_forgetOldest 53 = .ok (.getfield 11, 3) := by decide +kernel
theorem dX2_forgetOldest_56 : decode cX2_forgetOldest 56 = .ok (.arraylength, 1) := by decide +kernel
theorem dX2_forgetOldest_57 : decode cX2_forgetOldest 57 = .ok (.iconst 1, 1) := by decide +kernel
theorem dX2_forgetOldest_58 : decode cX2_forgetOldest 58 = .ok (.isub, 1) := by decide +kernel
theorem dX2_forgetOldest_59 : decode cX2_forgetOldest 59 = .ok (.putfield 18, 3) := by decide +kernel
theorem dX2_forgetOldest_62 : decode cX2_forgetOldest 62 = .ok (.return_, 1) := by decide +kernel
theorem dX2_takeBack_0 : decode cX2_takeBack 0 = .ok (.aload_n 0, 1) := by decide +kernel
theorem dX2_takeBack_1 : decode cX2_takeBack 1 = .ok (.invokevirtual 29, 3) := by decide +kernel
theorem dX2_takeBack_4 : decode cX2_takeBack 4 = .ok (.ifCond .ne 26, 3) := by decide +kernel
theorem dX2_takeBack_7 : decode cX2_takeBack 7 = .ok (.aload_n 0, 1) := by decide +kernel
theorem dX2_takeBack_8 : decode cX2_takeBack 8 = .ok (.dup, 1) := by decide +kernel
theorem dX2_takeBack_9 : decode cX2_takeBack 9 = .ok (.getfield 18, 3) := by decide +kernel
theorem dX2_takeBack_12 : decode cX2_takeBack 12 = .ok (.iconst 1, 1) := by decide +kernel
theorem dX2_takeBack_13 : decode cX2_takeBack 13 = .ok (.isub, 1) := by decide +kernel
theorem dX2_takeBack_14 : decode cX2_takeBack 14 = .ok (.putfield 18, 3) := by decide +kernel
theorem dX2_takeBack_17 : decode cX2_takeBack 17 = .ok (.aload_n 1, 1) := by decide +kernel
theorem dX2_takeBack_18 : decode cX2_takeBack 18 = .ok (.aload_n 0, 1) := by decide +kernel
theorem dX2_takeBack_19 : decode cX2_takeBack 19 = .ok (.getfield 11, 3) := by decide +kernel
theorem dX2_takeBack_22 : decode cX2_takeBack 22 = .ok (.aload_n 0, 1) := by decide +kernel
theorem dX2_takeBack_23 : decode cX2_takeBack 23 = .ok (.getfield 18, 3) := by decide +kernel
theorem dX2_takeBack_26 : decode cX2_takeBack 26 = .ok (.aaload, 1) := by decide +kernel
theorem dX2_takeBack_27 : decode cX2_takeBack 27 = .ok (.invokevirtual 25, 3) := by decide +kernel
theorem dX2_takeBack_30 : decode cX2_takeBack 30 = .ok (.aload_n 0, 1) := by decide +kernel
theorem dX2_takeBack_31 : decode cX2_takeBack 31 = .ok (.getfield 18, 3) := by decide +kernel
theorem dX2_takeBack_34 : decode cX2_takeBack 34 = .ok (.ireturn, 1) := by decide +kernel
theorem dX2_forgetAll_0 : decode cX2_forgetAll 0 = .ok (.aload_n 0, 1) := by decide +kernel
theorem dX2_forgetAll_1 : decode cX2_forgetAll 1 = .ok (.iconst 0, 1) := by decide +kernel
theorem dX2_forgetAll_2 : decode cX2_forgetAll 2 = .ok (.putfield 18, 3) := by decide +kernel
theorem dX2_forgetAll_5 : decode cX2_forgetAll 5 = .ok (.return_, 1) := by decide +kernel
theorem dX3_init_0 : decode cX3_init 0 = .ok (.aload_n 0, 1) := by decide +kernel
theorem dX3_init_1 : decode cX3_init 1 = .ok (.invokespecial 3, 3) := by decide +kernel
theorem dX3_init_4 : decode cX3_init 4 = .ok (.aload_n 0, 1) := by decide +kernel
theorem dX3_init_5 : decode cX3_init 5 = .ok (.bipush 120, 2) := by decide +kernel
theorem dX3_init_7 : decode cX3_init 7 = .ok (.newarray .char, 2) := by decide +kernel
theorem dX3_init_9 : decode cX3_init 9 = .ok (.putfield 9, 3) := by decide +kernel
theorem dX3_init_12 : decode cX3_init 12 = .ok (.aload_n 0, 1) := by decide +kernel
theorem dX3_init_13 : decode cX3_init 13 = .ok (.iconst 5, 1) := by decide +kernel
theorem dX3_init_14 : decode cX3_init 14 = .ok (.newarray .int, 2) := by decide +kernel
theorem dX3_init_16 : decode cX3_init 16 = .ok (.putfield 15, 3) := by decide +kernel
theorem dX3_init_19 : decode cX3_init 19 = .ok (.return_, 1) := by decide +kernel
theorem dX3_isFull_0 : decode cX3_isFull 0 = .ok (.aload_n 0, 1) := by decide +kernel
theorem dX3_isFull_1 : decode cX3_isFull 1 = .ok (.getfield 19, 3) := by decide +kernel
theorem dX3_isFull_4 : decode cX3_isFull 4 = .ok (.bipush 120, 2) := by decide +kernel
theorem dX3_isFull_6 : decode cX3_isFull 6 = .ok (.if_icmp .lt 7, 3) := by decide +kernel
theorem dX3_isFull_9 : decode cX3_isFull 9 = .ok (.iconst 1, 1) := by decide +kernel
theorem dX3_isFull_10 : decode cX3_isFull 10 = .ok (.goto 4, 3) := by decide +kernel
theorem dX3_isFull_13 : decode cX3_isFull 13 = .ok (.iconst 0, 1) := by decide +kernel
theorem dX3_isFull_14 : decode cX3_isFull 14 = .ok (.ireturn, 1) := by decide +kernel
theorem dX3_put_0 : decode cX3_put 0 = .ok (.aload_n 0, 1) := by decide +kernel
theorem dX3_put_1 : decode cX3_put 1 = .ok (.invokevirtual 23, 3) := by decide +kernel
theorem dX3_put_4 : decode cX3_put 4 = .ok (.ifCond .ne 23, 3) := by decide +kernel
theorem dX3_put_7 : decode cX3_put 7 = .ok (.aload_n 0, 1) := by decide +kernel
theorem dX3_put_8 : decode cX3_put 8 = .ok (.getfield 9, 3) := by decide +kernel
theorem dX3_put_11 : decode cX3_put 11 = .ok (.aload_n 0, 1) := by decide +kernel
theorem dX3_put_12 : decode cX3_put 12 = .ok (.getfield 19, 3) := by decide +kernel
theorem dX3_put_15 : decode cX3_put 15 = .ok (.iload_n 1, 1) := by decide +kernel
theorem dX3_put_16 : decode cX3_put 16 = .ok (.castore, 1) := by decide +kernel
theorem dX3_put_17 : decode cX3_put 17 = .ok (.aload_n 0, 1) := by decide +kernel
theorem dX3_put_18 : decode cX3_put 18 = .ok (.dup, 1) := by decide +kernel
theorem dX3_put_19 : decode cX3_put 19 = .ok (.getfield 19, 3) := by decide +kernel
theorem dX3_put_22 : decode cX3_put 22 = .ok (.iconst 1, 1) := by decide +kernel
theorem dX3_put_23 : decode cX3_put 23 = .ok (.iadd, 1) := by decide +kernel
theorem dX3_put_24 : decode cX3_put 24 = .ok (.putfield 19, 3) := by decide +kernel
theorem dX3_put_27 : decode cX3_put 27 = .ok (.aload_n 0, 1) := by decide +kernel
theorem dX3_put_28 : decode cX3_put 28 = .ok (.getfield 19, 3) := by decide +kernel
theorem dX3_put_31 : decode cX3_put 31 = .ok (.ireturn, 1) := by decide +kernel
theorem dX3_empty_0 : decode cX3_empty 0 = .ok (.aload_n 0, 1) := by decide +kernel
theorem dX3_empty_1 : decode cX3_empty 1 = .ok (.getfield 19, 3) := by decide +kernel
theorem dX3_empty_4 : decode cX3_empty 4 = .ok (.istore_n 1, 1) := by decide +kernel
theorem dX3_empty_5 : decode cX3_empty 5 = .ok (.aload_n 0, 1) := by decide +kernel
theorem dX3_empty_6 : decode cX3_empty 6 = .ok (.iconst 0, 1) := by decide +kernel
theorem dX3_empty_7 : decode cX3_empty 7 = .ok (.putfield 19, 3) := by decide +kernel
theorem dX3_empty_10 : decode cX3_empty 10 = .ok (.iload_n 1, 1) := by decide +kernel
theorem dX3_empty_11 : decode cX3_empty 11 = .ok (.ireturn, 1) := by decide +kernel
theorem dX3_findError_0 : decode cX3_findError 0 = .ok (.aload_n 0, 1) := by decide +kernel
theorem dX3_findError_1 : decode cX3_findError 1 = .ok (.iconst 0, 1) := by decide +kernel
theorem dX3_findError_2 : decode cX3_findError 2 = .ok (.putfield 27, 3) := by decide +kernel
theorem dX3_findError_5 : decode cX3_findError 5 = .ok (.iconst 0, 1) := by decide +kernel
theorem dX3_findError_6 : decode cX3_findError 6 = .ok (.istore_n 1, 1) := by decide +kernel
theorem dX3_findError_7 : decode cX3_findError 7 = .ok (.iload_n 1, 1) := by decide +kernel
theorem dX3_findError_8 : decode cX3_findError 8 = .ok (.aload_n 0, 1) := by decide +kernel
theorem dX3_findError_9 : decode cX3_findError 9 = .ok (.getfield 19, 3) := by decide +kernel
theorem dX3_findError_12 : decode cX3_findError 12 = .ok (.if_icmp .gt 48, 3) := by decide +kernel
theorem dX3_findError_15 : decode cX3_findError 15 = .ok (.aload_n 0, 1) := by decide +kernel
theorem dX3_findError_16 : decode cX3_findError 16 = .ok (.invokevirtual 30, 3) := by decide +kernel
theorem dX3_findError_19 : decode cX3_findError 19 = .ok (.ifCond .ne 8, 3) := by decide +kernel
theorem dX3_findError_22 : decode cX3_findError 22 = .ok (.aload_n 0, 1) := by decide +kernel
theorem dX3_findError_23 : decode cX3_findError 23 = .ok (.getfield 27, 3) := by decide +kernel
theorem dX3_findError_26 : decode cX3_findError 26 = .ok (.ireturn, 1) := by decide +kernel
theorem dX3_findError_27 : decode cX3_findError 27 = .ok (.aload_n 0, 1) := by decide +kernel
theorem dX3_findError_28 : decode cX3_findError 28 = .ok (.getfield 27, 3) := by decide +kernel
theorem dX3_findError_31 : decode cX3_findError 31 = .ok (.aload_n 0, 1) := by decide +kernel
theorem dX3_findError_32 : decode cX3_findError 32 = .ok (.getfield 19, 3) := by decide +kernel
theorem dX3_findError_35 : decode cX3_findError 35 = .ok (.if_icmp .ne 5, 3) := by decide +kernel
theorem dX3_findError_38 : decode cX3_findError 38 = .ok (.iconst (-1), 1) := by decide +kernel
theorem dX3_findError_39 : decode cX3_findError 39 = .ok (.ireturn, 1) := by decide +kernel
theorem dX3_findError_40 : decode cX3_findError 40 = .ok (.aload_n 0, 1) := by decide +kernel
theorem dX3_findError_41 : decode cX3_findError 41 = .ok (.bipush 59, 2) := by decide +kernel
theorem dX3_findError_43 : decode cX3_findError 43 = .ok (.invokevirtual 33, 3) := by decide +kernel
theorem dX3_findError_46 : decode cX3_findError 46 = .ok (.ifCond .ne 8, 3) := by decide +kernel
theorem dX3_findError_49 : decode cX3_findError 49 = .ok (.aload_n 0, 1) := by decide +kernel
theorem dX3_findError_50 : decode cX3_findError 50 = .ok (.getfield 27, 3) := by decide +kernel
theorem dX3_findError_53 : decode cX3_findError 53 = .ok (.ireturn, 1) := by decide +kernel
theorem dX3_findError_54 : decode cX3_findError 54 = .ok (.iinc 1 1, 3) := by decide +kernel
theorem dX3_findError_57 : decode cX3_findError 57 = .ok (.goto (-50), 3) := by decide +kernel
theorem dX3_findError_60 : decode cX3_findError 60 = .ok (.aload_n 0, 1) := by decide +kernel
theorem dX3_findError_61 : decode cX3_findError 61 = .ok (.getfield 27, 3) := by decide +kernel
theorem dX3_findError_64 : decode cX3_findError 64 = .ok (.ireturn, 1) := by decide +kernel
theorem dX3_doAllIn_0 : decode cX3_doAllIn 0 = .ok (.iconst 0, 1) := by decide +kernel
theorem dX3_doAllIn_1 : decode cX3_doAllIn 1 = .ok (.istore_n 2, 1) := by decide +kernel
theorem dX3_doAllIn_2 : decode cX3_doAllIn 2 = .ok (.iconst 1, 1) := by decide +kernel
theorem dX3_doAllIn_3 : decode cX3_doAllIn 3 = .ok (.istore_n 3, 1) := by decide +kernel
theorem dX3_doAllIn_4 : decode cX3_doAllIn 4 = .ok (.aload_n 0, 1) := by decide +kernel
theorem dX3_doAllIn_5 : decode cX3_doAllIn 5 = .ok (.iconst 0, 1) := by decide +kernel
theorem dX3_doAllIn_6 : decode cX3_doAllIn 6 = .ok (.putfield 27, 3) := by decide +kernel
theorem dX3_doAllIn_9 : decode cX3_doAllIn 9 = .ok (.iconst 0, 1) := by decide +kernel
theorem dX3_doAllIn_10 : decode cX3_doAllIn 10 = .ok (.istore 4, 2) := by decide +kernel
theorem dX3_doAllIn_12 : decode cX3_doAllIn 12 = .ok (.iload_n 3, 1) := by decide +kernel
theorem dX3_doAllIn_13 : decode cX3_doAllIn 13 = .ok (.ifCond .eq 43, 3) := by decide +kernel
theorem dX3_doAllIn_16 : decode cX3_doAllIn 16 = .ok (.iload 4, 2) := by decide +kernel
theorem dX3_doAllIn_18 : decode cX3_doAllIn 18 = .ok (.aload_n 0, 1) := by decide +kernel
theorem dX3_doAllIn_19 : decode cX3_doAllIn 19 = .ok (.getfield 19, 3) := by decide +kernel
theorem dX3_doAllIn_22 : decode cX3_doAllIn 22 = .ok (.if_icmp .gt 34, 3) := by decide +kernel
theorem dX3_doAllIn_25 : decode cX3_doAllIn 25 = .ok (.aload_n 0, 1) := by decide +kernel
theorem dX3_doAllIn_26 : decode cX3_doAllIn 26 = .ok (.invokevirtual 30, 3) := by decide +kernel
theorem dX3_doAllIn_29 : decode cX3_doAllIn 29 = .ok (.ifCond .eq 11, 3) := by decide +kernel
theorem dX3_doAllIn_32 : decode cX3_doAllIn 32 = .ok (.aload_n 0, 1) := by decide +kernel
theorem dX3_doAllIn_33 : decode cX3_doAllIn 33 = .ok (.aload_n 1, 1) := by decide +kernel
theorem dX3_doAllIn_34 : decode cX3_doAllIn 34 = .ok (.invokevirtual 37, 3) := by decide +kernel
theorem dX3_doAllIn_37 : decode cX3_doAllIn 37 = .ok (.ifCond .ne 6, 3) := by decide +kernel
theorem dX3_doAllIn_40 : decode cX3_doAllIn 40 = .ok (.iinc 2 1, 3) := by decide +kernel
theorem dX3_doAllIn_43 : decode cX3_doAllIn 43 = .ok (.aload_n 0, 1) := by decide +kernel
theorem dX3_doAllIn_44 : decode cX3_doAllIn 44 = .ok (.bipush 59, 2) := by decide +kernel
theorem dX3_doAllIn_46 : decode cX3_doAllIn 46 = .ok (.invokevirtual 33, 3) := by decide +kernel
theorem dX3_doAllIn_49 : decode cX3_doAllIn 49 = .ok (.istore_n 3, 1) := by decide +kernel
theorem dX3_doAllIn_50 : decode cX3_doAllIn 50 = .ok (.iinc 4 1, 3) := by decide +kernel
theorem dX3_doAllIn_53 : decode cX3_doAllIn 53 = .ok (.goto (-41), 3) := by decide +kernel
theorem dX3_doAllIn_56 : decode cX3_doAllIn 56 = .ok (.iload_n 2, 1) := by decide +kernel
theorem dX3_doAllIn_57 : decode cX3_doAllIn 57 = .ok (.ireturn, 1) := by decide +kernel
theorem dX3_doIn_0 : decode cX3_doIn 0 = .ok (.aload_n 0, 1) := by decide +kernel
theorem dX3_doIn_1 : decode cX3_doIn 1 = .ok (.getfield 41, 3) := by decide +kernel
theorem dX3_doIn_4 : decode cX3_doIn 4 = .ok (.lookupswitch 119 #[(98, 44), (112, 79), (114, 90), (115, 102)], 44) := by decide +kernel
theorem dX3_doIn_48 : decode cX3_doIn 48 = .ok (.aload_n 1, 1) := by decide +kernel
theorem dX3_doIn_49 : decode cX3_doIn 49 = .ok (.aload_n 0, 1) := by decide +kernel
theorem dX3_doIn_50 : decode cX3_doIn 50 = .ok (.getfield 15, 3) := by decide +kernel
theorem dX3_doIn_53 : decode cX3_doIn 53 = .ok (.iconst 0, 1) := by decide +kernel
theorem dX3_doIn_54 : decode cX3_doIn 54 = .ok (.iaload, 1) := by decide +kernel
theorem dX3_doIn_55 : decode cX3_doIn 55 = .ok (.aload_n 0, 1) := by decide +kernel
theorem dX3_doIn_56 : decode cX3_doIn 56 = .ok (.getfield 15, 3) := by decide +kernel
theorem dX3_doIn_59 : decode cX3_doIn 59 = .ok (.iconst 1, 1) := by decide +kernel
theorem dX3_doIn_60 : decode cX3_doIn 60 = .ok (.iaload, 1) := by decide +kernel
theorem dX3_doIn_61 : decode cX3_doIn 61 = .ok (.aload_n 0, 1) := by decide +kernel
theorem dX3_doIn_62 : decode cX3_doIn 62 = .ok (.getfield 15, 3) := by decide +kernel
theorem dX3_doIn_65 : decode cX3_doIn 65 = .ok (.iconst 2, 1) := by decide +kernel
theorem dX3_doIn_66 : decode cX3_doIn 66 = .ok (.iaload, 1) := by decide +kernel
theorem dX3_doIn_67 : decode cX3_doIn 67 = .ok (.aload_n 0, 1) := by decide +kernel
theorem dX3_doIn_68 : decode cX3_doIn 68 = .ok (.getfield 15, 3) := by decide +kernel
theorem dX3_doIn_71 : decode cX3_doIn 71 = .ok (.iconst 3, 1) := by decide +kernel
theorem dX3_doIn_72 : decode cX3_doIn 72 = .ok (.iaload, 1) := by decide +kernel
theorem dX3_doIn_73 : decode cX3_doIn 73 = .ok (.aload_n 0, 1) := by decide +kernel
theorem dX3_doIn_74 : decode cX3_doIn 74 = .ok (.getfield 15, 3) := by decide +kernel
theorem dX3_doIn_77 : decode cX3_doIn 77 = .ok (.iconst 4, 1) := by decide +kernel
theorem dX3_doIn_78 : decode cX3_doIn 78 = .ok (.iaload, 1) := by decide +kernel
theorem dX3_doIn_79 : decode cX3_doIn 79 = .ok (.invokevirtual 44, 3) := by decide +kernel
theorem dX3_doIn_82 : decode cX3_doIn 82 = .ok (.ireturn, 1) := by decide +kernel
theorem dX3_doIn_83 : decode cX3_doIn 83 = .ok (.aload_n 1, 1) := by decide +kernel
theorem dX3_doIn_84 : decode cX3_doIn 84 = .ok (.aload_n 0, 1) := by decide +kernel
theorem dX3_doIn_85 : decode cX3_doIn 85 = .ok (.getfield 15, 3) := by decide +kernel
theorem dX3_doIn_88 : decode cX3_doIn 88 = .ok (.iconst 0, 1) := by decide +kernel
theorem dX3_doIn_89 : decode cX3_doIn 89 = .ok (.iaload, 1) := by decide +kernel
theorem dX3_doIn_90 : decode cX3_doIn 90 = .ok (.invokevirtual 50, 3) := by decide +kernel
theorem dX3_doIn_93 : decode cX3_doIn 93 = .ok (.ireturn, 1) := by decide +kernel
theorem dX3_doIn_94 : decode cX3_doIn 94 = .ok (.aload_n 1, 1) := by decide +kernel
theorem dX3_doIn_95 : decode cX3_doIn 95 = .ok (.aload_n 0, 1) := by decide +kernel
theorem dX3_doIn_96 : decode cX3_doIn 96 = .ok (.getfield 15, 3) := by decide +kernel
theorem dX3_doIn_99 : decode cX3_doIn 99 = .ok (.iconst 0, 1) := by decide +kernel
theorem dX3_doIn_100 : decode cX3_doIn 100 = .ok (.iaload, 1) := by decide +kernel
theorem dX3_doIn_101 : decode cX3_doIn 101 = .ok (.invokevirtual 53, 3) := by decide +kernel
theorem dX3_doIn_104 : decode cX3_doIn 104 = .ok (.iconst 1, 1) := by decide +kernel
theorem dX3_doIn_105 : decode cX3_doIn 105 = .ok (.ireturn, 1) := by decide +kernel
theorem dX3_doIn_106 : decode cX3_doIn 106 = .ok (.aload_n 1, 1) := by decide +kernel
theorem dX3_doIn_107 : decode cX3_doIn 107 = .ok (.aload_n 0, 1) := by decide +kernel
theorem dX3_doIn_108 : decode cX3_doIn 108 = .ok (.getfield 15, 3) := by decide +kernel
theorem dX3_doIn_111 : decode cX3_doIn 111 = .ok (.iconst 0, 1) := by decide +kernel
theorem dX3_doIn_112 : decode cX3_doIn 112 = .ok (.iaload, 1) := by decide +kernel
theorem dX3_doIn_113 : decode cX3_doIn 113 = .ok (.aload_n 0, 1) := by decide +kernel
theorem dX3_doIn_114 : decode cX3_doIn 114 = .ok (.getfield 15, 3) := by decide +kernel
theorem dX3_doIn_117 : decode cX3_doIn 117 = .ok (.iconst 1, 1) := by decide +kernel
theorem dX3_doIn_118 : decode cX3_doIn 118 = .ok (.iaload, 1) := by decide +kernel
theorem dX3_doIn_119 : decode cX3_doIn 119 = .ok (.invokevirtual 57, 3) := by decide +kernel
theorem dX3_doIn_122 : decode cX3_doIn 122 = .ok (.ireturn, 1) := by decide +kernel
theorem dX3_doIn_123 : decode cX3_doIn 123 = .ok (.iconst 0, 1) := by decide +kernel
theorem dX3_doIn_124 : decode cX3_doIn 124 = .ok (.ireturn, 1) := by decide +kernel
theorem dX3_readCommand_0 : decode cX3_readCommand 0 = .ok (.aload_n 0, 1) := by decide +kernel
theorem dX3_readCommand_1 : decode cX3_readCommand 1 = .ok (.aload_n 0, 1) := by decide +kernel
theorem dX3_readCommand_2 : decode cX3_readCommand 2 = .ok (.aload_n 0, 1) := by decide +kernel
theorem dX3_readCommand_3 : decode cX3_readCommand 3 = .ok (.getfield 27, 3) := by decide +kernel
theorem dX3_readCommand_6 : decode cX3_readCommand 6 = .ok (.invokevirtual 61, 3) := by decide +kernel
theorem dX3_readCommand_9 : decode cX3_readCommand 9 = .ok (.putfield 41, 3) := by decide +kernel
theorem dX3_readCommand_12 : decode cX3_readCommand 12 = .ok (.aload_n 0, 1) := by decide +kernel
theorem dX3_readCommand_13 : decode cX3_readCommand 13 = .ok (.getfield 41, 3) := by decide +kernel
theorem dX3_readCommand_16 : decode cX3_readCommand 16 = .ok (.lookupswitch 207 #[(98, 44), (112, 118), (114, 144), (115, 170)], 44) := by decide +kernel
theorem dX3_readCommand_60 : decode cX3_readCommand 60 = .ok (.aload_n 0, 1) := by decide +kernel
theorem dX3_readCommand_61 : decode cX3_readCommand 61 = .ok (.ldc 65, 2) := by decide +kernel
theorem dX3_readCommand_63 : decode cX3_readCommand 63 = .ok (.invokevirtual 67, 3) := by decide +kernel
theorem dX3_readCommand_66 : decode cX3_readCommand 66 = .ok (.ifCond .eq 66, 3) := by decide +kernel
theorem dX3_readCommand_69 : decode cX3_readCommand 69 = .ok (.aload_n 0, 1) := by decide +kernel
theorem dX3_readCommand_70 : decode cX3_readCommand 70 = .ok (.iconst 0, 1) := by decide +kernel
theorem dX3_readCommand_71 : decode cX3_readCommand 71 = .ok (.bipush 10, 2) := by decide +kernel
theorem dX3_readCommand_73 : decode cX3_readCommand 73 = .ok (.sipush 400, 3) := by decide +kernel
theorem dX3_readCommand_76 : decode cX3_readCommand 76 = .ok (.invokevirtual 71, 3) := by decide +kernel
theorem dX3_readCommand_79 : decode cX3_readCommand 79 = .ok (.ifCond .eq 53, 3) := by decide +kernel
theorem dX3_readCommand_82 : decode cX3_readCommand 82 = .ok (.aload_n 0, 1) := by decide +kernel
theorem dX3_readCommand_83 : decode cX3_readCommand 83 = .ok (.iconst 1, 1) := by decide +kernel
theorem dX3_readCommand_84 : decode cX3_readCommand 84 = .ok (.iconst 0, 1) := by decide +kernel
theorem dX3_readCommand_85 : decode cX3_readCommand 85 = .ok (.sipush 400, 3) := by decide +kernel
theorem dX3_readCommand_88 : decode cX3_readCommand 88 = .ok (.invokevirtual 71, 3) := by decide +kernel
theorem dX3_readCommand_91 : decode cX3_readCommand 91 = .ok (.ifCond .eq 41, 3) := by decide +kernel
theorem dX3_readCommand_94 : decode cX3_readCommand 94 = .ok (.aload_n 0, 1) := by decide +kernel
theorem dX3_readCommand_95 : decode cX3_readCommand 95 = .ok (.iconst 2, 1) := by decide +kernel
theorem dX3_readCommand_96 : decode cX3_readCommand 96 = .ok (.iconst 1, 1) := by decide +kernel
theorem dX3_readCommand_97 : decode cX3_readCommand 97 = .ok (.sipush 400, 3) := by decide +kernel
theorem dX3_readCommand_100 : decode cX3_readCommand 100 = .ok (.invokevirtual 71, 3) := by decide +kernel
theorem dX3_readCommand_103 : decode cX3_readCommand 103 = .ok (.ifCond .eq 29, 3) := by decide +kernel
theorem dX3_readCommand_106 : decode cX3_readCommand 106 = .ok (.aload_n 0, 1) := by decide +kernel
theorem dX3_readCommand_107 : decode cX3_readCommand 107 = .ok (.iconst 3, 1) := by decide +kernel
theorem dX3_readCommand_108 : decode cX3_readCommand 108 = .ok (.iconst 0, 1) := by decide +kernel
theorem dX3_readCommand_109 : decode cX3_readCommand 109 = .ok (.bipush 23, 2) := by decide +kernel
theorem dX3_readCommand_111 : decode cX3_readCommand 111 = .ok (.invokevirtual 71, 3) := by decide +kernel
theorem dX3_readCommand_114 : decode cX3_readCommand 114 = .ok (.ifCond .eq 18, 3) := by decide +kernel
theorem dX3_readCommand_117 : decode cX3_readCommand 117 = .ok (.aload_n 0, 1) := by decide +kernel
theorem dX3_readCommand_118 : decode cX3_readCommand 118 = .ok (.iconst 4, 1) := by decide +kernel
theorem dX3_readCommand_119 : decode cX3_readCommand 119 = .ok (.iconst 0, 1) := by decide +kernel
theorem dX3_readCommand_120 : decode cX3_readCommand 120 = .ok (.bipush 23, 2) := by decide +kernel
theorem dX3_readCommand_122 : decode cX3_readCommand 122 = .ok (.invokevirtual 71, 3) := by decide +kernel
theorem dX3_readCommand_125 : decode cX3_readCommand 125 = .ok (.ifCond .eq 7, 3) := by decide +kernel
theorem dX3_readCommand_128 : decode cX3_readCommand 128 = .ok (.iconst 1, 1) := by decide +kernel
theorem dX3_readCommand_129 : decode cX3_readCommand 129 = .ok (.goto 4, 3) := by decide +kernel
theorem dX3_readCommand_132 : decode cX3_readCommand 132 = .ok (.iconst 0, 1) := by decide +kernel
theorem dX3_readCommand_133 : decode cX3_readCommand 133 = .ok (.ireturn, 1) := by decide +kernel
theorem dX3_readCommand_134 : decode cX3_readCommand 134 = .ok (.aload_n 0, 1) := by decide +kernel
theorem dX3_readCommand_135 : decode cX3_readCommand 135 = .ok (.ldc 75, 2) := by decide +kernel
theorem dX3_readCommand_137 : decode cX3_readCommand 137 = .ok (.invokevirtual 67, 3) := by decide +kernel
theorem dX3_readCommand_140 : decode cX3_readCommand 140 = .ok (.ifCond .eq 18, 3) := by decide +kernel
theorem dX3_readCommand_143 : decode cX3_readCommand 143 = .ok (.aload_n 0, 1) := by decide +kernel
theorem dX3_readCommand_144 : decode cX3_readCommand 144 = .ok (.iconst 0, 1) := by decide +kernel
theorem dX3_readCommand_145 : decode cX3_readCommand 145 = .ok (.iconst 1, 1) := by decide +kernel
theorem dX3_readCommand_146 : decode cX3_readCommand 146 = .ok (.bipush 50, 2) := by decide +kernel
theorem dX3_readCommand_148 : decode cX3_readCommand 148 = .ok (.invokevirtual 71, 3) := by decide +kernel
theorem dX3_readCommand_151 : decode cX3_readCommand 151 = .ok (.ifCond .eq 7, 3) := by decide +kernel
theorem dX3_readCommand_154 : decode cX3_readCommand 154 = .ok (.iconst 1, 1) := by decide +kernel
theorem dX3_readCommand_155 : decode cX3_readCommand 155 = .ok (.goto 4, 3) := by decide +kernel
theorem dX3_readCommand_158 : decode cX3_readCommand 158 = .ok (.iconst 0, 1) := by decide +kernel
theorem dX3_readCommand_159 : decode cX3_readCommand 159 = .ok (.ireturn, 1) := by decide +kernel
theorem dX3_readCommand_160 : decode cX3_readCommand 160 = .ok (.aload_n 0, 1) := by decide +kernel
theorem dX3_readCommand_161 : decode cX3_readCommand 161 = .ok (.ldc 77, 2) := by decide +kernel
theorem dX3_readCommand_163 : decode cX3_readCommand 163 = .ok (.invokevirtual 67, 3) := by decide +kernel
theorem dX3_readCommand_166 : decode cX3_readCommand 166 = .ok (.ifCond .eq 18, 3) := by decide +kernel
theorem dX3_readCommand_169 : decode cX3_readCommand 169 = .ok (.aload_n 0, 1) := by decide +kernel
theorem dX3_readCommand_170 : decode cX3_readCommand 170 = .ok (.iconst 0, 1) := by decide +kernel
theorem dX3_readCommand_171 : decode cX3_readCommand 171 = .ok (.iconst 1, 1) := by decide +kernel
theorem dX3_readCommand_172 : decode cX3_readCommand 172 = .ok (.bipush 48, 2) := by decide +kernel
theorem dX3_readCommand_174 : decode cX3_readCommand 174 = .ok (.invokevirtual 71, 3) := by decide +kernel
theorem dX3_readCommand_177 : decode cX3_readCommand 177 = .ok (.ifCond .eq 7, 3) := by decide +kernel
theorem dX3_readCommand_180 : decode cX3_readCommand 180 = .ok (.iconst 1, 1) := by decide +kernel
theorem dX3_readCommand_181 : decode cX3_readCommand 181 = .ok (.goto 4, 3) := by decide +kernel
theorem dX3_readCommand_184 : decode cX3_readCommand 184 = .ok (.iconst 0, 1) := by decide +kernel
theorem dX3_readCommand_185 : decode cX3_readCommand 185 = .ok (.ireturn, 1) := by decide +kernel
theorem dX3_readCommand_186 : decode cX3_readCommand 186 = .ok (.aload_n 0, 1) := by decide +kernel
theorem dX3_readCommand_187 : decode cX3_readCommand 187 = .ok (.ldc 79, 2) := by decide +kernel
theorem dX3_readCommand_189 : decode cX3_readCommand 189 = .ok (.invokevirtual 67, 3) := by decide +kernel
theorem dX3_readCommand_192 : decode cX3_readCommand 192 = .ok (.ifCond .eq 29, 3) := by decide +kernel
theorem dX3_readCommand_195 : decode cX3_readCommand 195 = .ok (.aload_n 0, 1) := by decide +kernel
theorem dX3_readCommand_196 : decode cX3_readCommand 196 = .ok (.iconst 0, 1) := by decide +kernel
theorem dX3_readCommand_197 : decode cX3_readCommand 197 = .ok (.iconst 0, 1) := by decide +kernel
theorem dX3_readCommand_198 : decode cX3_readCommand 198 = .ok (.iconst 5, 1) := by decide +kernel
theorem dX3_readCommand_199 : decode cX3_readCommand 199 = .ok (.invokevirtual 71, 3) := by decide +kernel
theorem dX3_readCommand_202 : decode cX3_readCommand 202 = .ok (.ifCond .eq 19, 3) := by decide +kernel
theorem dX3_readCommand_205 : decode cX3_readCommand 205 = .ok (.aload_n 0, 1) := by decide +kernel
theorem dX3_readCommand_206 : decode cX3_readCommand 206 = .ok (.iconst 1, 1) := by decide +kernel
theorem dX3_readCommand_207 : decode cX3_readCommand 207 = .ok (.iconst 0, 1) := by decide +kernel
theorem dX3_readCommand_208 : decode cX3_readCommand 208 = .ok (.sipush 999, 3) := by decide +kernel
theorem dX3_readCommand_211 : decode cX3_readCommand 211 = .ok (.invokevirtual 71, 3) := by decide +kernel
theorem dX3_readCommand_214 : decode cX3_readCommand 214 = .ok (.ifCond .eq 7, 3) := by decide +kernel
theorem dX3_readCommand_217 : decode cX3_readCommand 217 = .ok (.iconst 1, 1) := by decide +kernel
theorem dX3_readCommand_218 : decode cX3_readCommand 218 = .ok (.goto 4, 3) := by decide +kernel
theorem dX3_readCommand_221 : decode cX3_readCommand 221 = .ok (.iconst 0, 1) := by decide +kernel
theorem dX3_readCommand_222 : decode cX3_readCommand 222 = .ok (.ireturn, 1) := by decide +kernel
theorem dX3_readCommand_223 : decode cX3_readCommand 223 = .ok (.iconst 0, 1) := by decide +kernel
theorem dX3_readCommand_224 : decode cX3_readCommand 224 = .ok (.ireturn, 1) := by decide +kernel
theorem dX3_readWord_0 : decode cX3_readWord 0 = .ok (.iconst 0, 1) := by decide +kernel
theorem dX3_readWord_1 : decode cX3_readWord 1 = .ok (.istore_n 2, 1) := by decide +kernel
theorem dX3_readWord_2 : decode cX3_readWord 2 = .ok (.iload_n 2, 1) := by decide +kernel
theorem dX3_readWord_3 : decode cX3_readWord 3 = .ok (.aload_n 1, 1) := by decide +kernel
theorem dX3_readWord_4 : decode cX3_readWord 4 = .ok (.invokevirtual 81, 3) := by decide +kernel
theorem dX3_readWord_7 : decode cX3_readWord 7 = .ok (.if_icmp .ge 23, 3) := by decide +kernel
theorem dX3_readWord_10 : decode cX3_readWord 10 = .ok (.aload_n 0, 1) := by decide +kernel
theorem dX3_readWord_11 : decode cX3_readWord 11 = .ok (.aload_n 1, 1) := by decide +kernel
theorem dX3_readWord_12 : decode cX3_readWord 12 = .ok (.iload_n 2, 1) := by decide +kernel
theorem dX3_readWord_13 : decode cX3_readWord 13 = .ok (.invokevirtual 86, 3) := by decide +kernel
theorem dX3_readWord_16 : decode cX3_readWord 16 = .ok (.invokevirtual 33, 3) := by decide +kernel
theorem dX3_readWord_19 : decode cX3_readWord 19 = .ok (.ifCond .ne 5, 3) := by decide +kernel
theorem dX3_readWord_22 : decode cX3_readWord 22 = .ok (.iconst 0, 1) := by decide +kernel
theorem dX3_readWord_23 : decode cX3_readWord 23 = .ok (.ireturn, 1) := by decide +kernel
theorem dX3_readWord_24 : decode cX3_readWord 24 = .ok (.iinc 2 1, 3) := by decide +kernel
theorem dX3_readWord_27 : decode cX3_readWord 27 = .ok (.goto (-25), 3) := by decide +kernel
theorem dX3_readWord_30 : decode cX3_readWord 30 = .ok (.iconst 1, 1) := by decide +kernel
theorem dX3_readWord_31 : decode cX3_readWord 31 = .ok (.ireturn, 1) := by decide +kernel
theorem dX3_readNumber_0 : decode cX3_readNumber 0 = .ok (.aload_n 0, 1) := by decide +kernel
theorem dX3_readNumber_1 : decode cX3_readNumber 1 = .ok (.bipush 44, 2) := by decide +kernel
theorem dX3_readNumber_3 : decode cX3_readNumber 3 = .ok (.invokevirtual 33, 3) := by decide +kernel
theorem dX3_readNumber_6 : decode cX3_readNumber 6 = .ok (.ifCond .eq 13, 3) := by decide +kernel
theorem dX3_readNumber_9 : decode cX3_readNumber 9 = .ok (.aload_n 0, 1) := by decide +kernel
theorem dX3_readNumber_10 : decode cX3_readNumber 10 = .ok (.iconst 0, 1) := by decide +kernel
theorem dX3_readNumber_11 : decode cX3_readNumber 11 = .ok (.iload_n 2, 1) := by decide +kernel
theorem dX3_readNumber_12 : decode cX3_readNumber 12 = .ok (.iload_n 3, 1) := by decide +kernel
theorem dX3_readNumber_13 : decode cX3_readNumber 13 = .ok (.invokevirtual 90, 3) := by decide +kernel
theorem dX3_readNumber_16 : decode cX3_readNumber 16 = .ok (.ifCond .ne 5, 3) := by decide +kernel
theorem dX3_readNumber_19 : decode cX3_readNumber 19 = .ok (.iconst 0, 1) := by decide +kernel
theorem dX3_readNumber_20 : decode cX3_readNumber 20 = .ok (.ireturn, 1) := by decide +kernel
theorem dX3_readNumber_21 : decode cX3_readNumber 21 = .ok (.aload_n 0, 1) := by decide +kernel
theorem dX3_readNumber_22 : decode cX3_readNumber 22 = .ok (.aload_n 0, 1) := by decide +kernel
theorem dX3_readNumber_23 : decode cX3_readNumber 23 = .ok (.getfield 27, 3) := by decide +kernel
theorem dX3_readNumber_26 : decode cX3_readNumber 26 = .ok (.iconst 1, 1) := by decide +kernel
theorem dX3_readNumber_27 : decode cX3_readNumber 27 = .ok (.isub, 1) := by decide +kernel
theorem dX3_readNumber_28 : decode cX3_readNumber 28 = .ok (.invokevirtual 93, 3) := by decide +kernel
theorem dX3_readNumber_31 : decode cX3_readNumber 31 = .ok (.istore 4, 2) := by decide +kernel
theorem dX3_readNumber_33 : decode cX3_readNumber 33 = .ok (.iconst 1, 1) := by decide +kernel
theorem dX3_readNumber_34 : decode cX3_readNumber 34 = .ok (.istore 5, 2) := by decide +kernel
theorem dX3_readNumber_36 : decode cX3_readNumber 36 = .ok (.iload 5, 2) := by decide +kernel
theorem dX3_readNumber_38 : decode cX3_readNumber 38 = .ok (.iconst 3, 1) := by decide +kernel
theorem dX3_readNumber_39 : decode cX3_readNumber 39 = .ok (.if_icmp .ge 46, 3) := by decide +kernel
theorem dX3_readNumber_42 : decode cX3_readNumber 42 = .ok (.iload 4, 2) := by decide +kernel
theorem dX3_readNumber_44 : decode cX3_readNumber 44 = .ok (.ifCond .le 41, 3) := by decide +kernel
theorem dX3_readNumber_47 : decode cX3_readNumber 47 = .ok (.aload_n 0, 1) := by decide +kernel
theorem dX3_readNumber_48 : decode cX3_readNumber 48 = .ok (.bipush 10, 2) := by decide +kernel
theorem dX3_readNumber_50 : decode cX3_readNumber 50 = .ok (.iload 4, 2) := by decide +kernel
theorem dX3_readNumber_52 : decode cX3_readNumber 52 = .ok (.imul, 1) := by decide +kernel
theorem dX3_readNumber_53 : decode cX3_readNumber 53 = .ok (.iload_n 2, 1) := by decide +kernel
theorem dX3_readNumber_54 : decode cX3_readNumber 54 = .ok (.iload_n 3, 1) := by decide +kernel
theorem dX3_readNumber_55 : decode cX3_readNumber 55 = .ok (.invokevirtual 90, 3) := by decide +kernel
theorem dX3_readNumber_58 : decode cX3_readNumber 58 = .ok (.ifCond .eq 21, 3) := by decide +kernel
theorem dX3_readNumber_61 : decode cX3_readNumber 61 = .ok (.bipush 10, 2) := by decide +kernel
theorem dX3_readNumber_63 : decode cX3_readNumber 63 = .ok (.iload 4, 2) := by decide +kernel
theorem dX3_readNumber_65 : decode cX3_readNumber 65 = .ok (.imul, 1) := by decide +kernel
theorem dX3_readNumber_66 : decode cX3_readNumber 66 = .ok (.aload_n 0, 1) := by decide +kernel
theorem dX3_readNumber_67 : decode cX3_readNumber 67 = .ok (.aload_n 0, 1) := by decide +kernel
theorem dX3_readNumber_68 : decode cX3_readNumber 68 = .ok (.getfield 27, 3) := by decide +kernel
theorem dX3_readNumber_71 : decode cX3_readNumber 71 = .ok (.iconst 1, 1) := by decide +kernel
theorem dX3_readNumber_72 : decode cX3_readNumber 72 = .ok (.isub, 1) := by decide +kernel
theorem dX3_readNumber_73 : decode cX3_readNumber 73 = .ok (.invokevirtual 93, 3) := by decide +kernel
theorem dX3_readNumber_76 : decode cX3_readNumber 76 = .ok (.iadd, 1) := by decide +kernel
theorem dX3_readNumber_77 : decode cX3_readNumber 77 = .ok (.istore 4, 2) := by decide +kernel
theorem dX3_readNumber_79 : decode cX3_readNumber 79 = .ok (.iinc 5 1, 3) := by decide +kernel
theorem dX3_readNumber_82 : decode cX3_readNumber 82 = .ok (.goto (-46), 3) := by decide +kernel
theorem dX3_readNumber_85 : decode cX3_readNumber 85 = .ok (.iload 4, 2) := by decide +kernel
theorem dX3_readNumber_87 : decode cX3_readNumber 87 = .ok (.iload_n 2, 1) := by decide +kernel
theorem dX3_readNumber_88 : decode cX3_readNumber 88 = .ok (.iload_n 3, 1) := by decide +kernel
theorem dX3_readNumber_89 : decode cX3_readNumber 89 = .ok (.invokestatic 96, 3) := by decide +kernel
theorem dX3_readNumber_92 : decode cX3_readNumber 92 = .ok (.ifCond .eq 12, 3) := by decide +kernel
theorem dX3_readNumber_95 : decode cX3_readNumber 95 = .ok (.iload_n 1, 1) := by decide +kernel
theorem dX3_readNumber_96 : decode cX3_readNumber 96 = .ok (.iconst 0, 1) := by decide +kernel
theorem dX3_readNumber_97 : decode cX3_readNumber 97 = .ok (.iconst 4, 1) := by decide +kernel
theorem dX3_readNumber_98 : decode cX3_readNumber 98 = .ok (.invokestatic 96, 3) := by decide +kernel
theorem dX3_readNumber_101 : decode cX3_readNumber 101 = .ok (.ifCond .ne 5, 3) := by decide +kernel
theorem dX3_readNumber_104 : decode cX3_readNumber 104 = .ok (.iconst 0, 1) := by decide +kernel
theorem dX3_readNumber_105 : decode cX3_readNumber 105 = .ok (.ireturn, 1) := by decide +kernel
theorem dX3_readNumber_106 : decode cX3_readNumber 106 = .ok (.aload_n 0, 1) := by decide +kernel
theorem dX3_readNumber_107 : decode cX3_readNumber 107 = .ok (.getfield 15, 3) := by decide +kernel
theorem dX3_readNumber_110 : decode cX3_readNumber 110 = .ok (.iload_n 1, 1) := by decide +kernel
theorem dX3_readNumber_111 : decode cX3_readNumber 111 = .ok (.iload 4, 2) := by decide +kernel
theorem dX3_readNumber_113 : decode cX3_readNumber 113 = .ok (.iastore, 1) := by decide +kernel
theorem dX3_readNumber_114 : decode cX3_readNumber 114 = .ok (.iconst 1, 1) := by decide +kernel
theorem dX3_readNumber_115 : decode cX3_readNumber 115 = .ok (.ireturn, 1) := by decide +kernel
theorem dX3_readDigit_0 : decode cX3_readDigit 0 = .ok (.aload_n 0, 1) := by decide +kernel
theorem dX3_readDigit_1 : decode cX3_readDigit 1 = .ok (.aload_n 0, 1) := by decide +kernel
theorem dX3_readDigit_2 : decode cX3_readDigit 2 = .ok (.getfield 27, 3) := by decide +kernel
theorem dX3_readDigit_5 : decode cX3_readDigit 5 = .ok (.invokevirtual 93, 3) := by decide +kernel
theorem dX3_readDigit_8 : decode cX3_readDigit 8 = .ok (.istore 4, 2) := by decide +kernel
theorem dX3_readDigit_10 : decode cX3_readDigit 10 = .ok (.iload 4, 2) := by decide +kernel
theorem dX3_readDigit_12 : decode cX3_readDigit 12 = .ok (.iconst (-1), 1) := by decide +kernel
theorem dX3_readDigit_13 : decode cX3_readDigit 13 = .ok (.if_icmp .eq 15, 3) := by decide +kernel
theorem dX3_readDigit_16 : decode cX3_readDigit 16 = .ok (.iload_n 1, 1) := by decide +kernel
theorem dX3_readDigit_17 : decode cX3_readDigit 17 = .ok (.iload 4, 2) := by decide +kernel
theorem dX3_readDigit_19 : decode cX3_readDigit 19 = .ok (.iadd, 1) := by decide +kernel
theorem dX3_readDigit_20 : decode cX3_readDigit 20 = .ok (.iload_n 2, 1) := by decide +kernel
theorem dX3_readDigit_21 : decode cX3_readDigit 21 = .ok (.iload_n 3, 1) := by decide +kernel
theorem dX3_readDigit_22 : decode cX3_readDigit 22 = .ok (.invokestatic 99, 3) := by decide +kernel
theorem dX3_readDigit_25 : decode cX3_readDigit 25 = .ok (.ifCond .ne 5, 3) := by decide +kernel
theorem dX3_readDigit_28 : decode cX3_readDigit 28 = .ok (.iconst 0, 1) := by decide +kernel
theorem dX3_readDigit_29 : decode cX3_readDigit 29 = .ok (.ireturn, 1) := by decide +kernel
theorem dX3_readDigit_30 : decode cX3_readDigit 30 = .ok (.aload_n 0, 1) := by decide +kernel
theorem dX3_readDigit_31 : decode cX3_readDigit 31 = .ok (.dup, 1) := by decide +kernel
theorem dX3_readDigit_32 : decode cX3_readDigit 32 = .ok (.getfield 27, 3) := by decide +kernel
theorem dX3_readDigit_35 : decode cX3_readDigit 35 = .ok (.iconst 1, 1) := by decide +kernel
theorem dX3_readDigit_36 : decode cX3_readDigit 36 = .ok (.iadd, 1) := by decide +kernel
theorem dX3_readDigit_37 : decode cX3_readDigit 37 = .ok (.putfield 27, 3) := by decide +kernel
theorem dX3_readDigit_40 : decode cX3_readDigit 40 = .ok (.iconst 1, 1) := by decide +kernel
theorem dX3_readDigit_41 : decode cX3_readDigit 41 = .ok (.ireturn, 1) := by decide +kernel
theorem dX3_beginsNumber_0 : decode cX3_beginsNumber 0 = .ok (.iload_n 0, 1) := by decide +kernel
theorem dX3_beginsNumber_1 : decode cX3_beginsNumber 1 = .ok (.ifCond .ne 13, 3) := by decide +kernel
theorem dX3_beginsNumber_4 : decode cX3_beginsNumber 4 = .ok (.iload_n 1, 1) := by decide +kernel
theorem dX3_beginsNumber_5 : decode cX3_beginsNumber 5 = .ok (.ifCond .gt 7, 3) := by decide +kernel
theorem dX3_beginsNumber_8 : decode cX3_beginsNumber 8 = .ok (.iconst 1, 1) := by decide +kernel
theorem dX3_beginsNumber_9 : decode cX3_beginsNumber 9 = .ok (.goto 4, 3) := by decide +kernel
theorem dX3_beginsNumber_12 : decode cX3_beginsNumber 12 = .ok (.iconst 0, 1) := by decide +kernel
theorem dX3_beginsNumber_13 : decode cX3_beginsNumber 13 = .ok (.ireturn, 1) := by decide +kernel
theorem dX3_beginsNumber_14 : decode cX3_beginsNumber 14 = .ok (.iload_n 0, 1) := by decide +kernel
theorem dX3_beginsNumber_15 : decode cX3_beginsNumber 15 = .ok (.istore_n 3, 1) := by decide +kernel
theorem dX3_beginsNumber_16 : decode cX3_beginsNumber 16 = .ok (.iload_n 0, 1) := by decide +kernel
theorem dX3_beginsNumber_17 : decode cX3_beginsNumber 17 = .ok (.istore 4, 2) := by decide +kernel
theorem dX3_beginsNumber_19 : decode cX3_beginsNumber 19 = .ok (.iconst 0, 1) := by decide +kernel
theorem dX3_beginsNumber_20 : decode cX3_beginsNumber 20 = .ok (.istore 5, 2) := by decide +kernel
theorem dX3_beginsNumber_22 : decode cX3_beginsNumber 22 = .ok (.iload 5, 2) := by decide +kernel
theorem dX3_beginsNumber_24 : decode cX3_beginsNumber 24 = .ok (.iconst 3, 1) := by decide +kernel
theorem dX3_beginsNumber_25 : decode cX3_beginsNumber 25 = .ok (.if_icmp .ge 37, 3) := by decide +kernel
theorem dX3_beginsNumber_28 : decode cX3_beginsNumber 28 = .ok (.iload_n 3, 1) := by decide +kernel
theorem dX3_beginsNumber_29 : decode cX3_beginsNumber 29 = .ok (.iload_n 2, 1) := by decide +kernel
theorem dX3_beginsNumber_30 : decode cX3_beginsNumber 30 = .ok (.if_icmp .gt 32, 3) := by decide +kernel
theorem dX3_beginsNumber_33 : decode cX3_beginsNumber 33 = .ok (.iload 4, 2) := by decide +kernel
theorem dX3_beginsNumber_35 : decode cX3_beginsNumber 35 = .ok (.iload_n 1, 1) := by decide +kernel
theorem dX3_beginsNumber_36 : decode cX3_beginsNumber 36 = .ok (.if_icmp .lt 5, 3) := by decide +kernel
theorem dX3_beginsNumber_39 : decode cX3_beginsNumber 39 = .ok (.iconst 1, 1) := by decide +kernel
theorem dX3_beginsNumber_40 : decode cX3_beginsNumber 40 = .ok (.ireturn, 1) := by decide +kernel
theorem dX3_beginsNumber_41 : decode cX3_beginsNumber 41 = .ok (.bipush 10, 2) := by decide +kernel
theorem dX3_beginsNumber_43 : decode cX3_beginsNumber 43 = .ok (.iload_n 3, 1) := by decide +kernel
theorem dX3_beginsNumber_44 : decode cX3_beginsNumber 44 = .ok (.imul, 1) := by decide +kernel
theorem dX3_beginsNumber_45 : decode cX3_beginsNumber 45 = .ok (.istore_n 3, 1) := by decide +kernel
theorem dX3_beginsNumber_46 : decode cX3_beginsNumber 46 = .ok (.bipush 10, 2) := by decide +kernel
theorem dX3_beginsNumber_48 : decode cX3_beginsNumber 48 = .ok (.iload 4, 2) := by decide +kernel
theorem dX3_beginsNumber_50 : decode cX3_beginsNumber 50 = .ok (.imul, 1) := by decide +kernel
theorem dX3_beginsNumber_51 : decode cX3_beginsNumber 51 = .ok (.bipush 9, 2) := by decide +kernel
theorem dX3_beginsNumber_53 : decode cX3_beginsNumber 53 = .ok (.iadd, 1) := by decide +kernel
theorem dX3_beginsNumber_54 : decode cX3_beginsNumber 54 = .ok (.istore 4, 2) := by decide +kernel
theorem dX3_beginsNumber_56 : decode cX3_beginsNumber 56 = .ok (.iinc 5 1, 3) := by decide +kernel
theorem dX3_beginsNumber_59 : decode cX3_beginsNumber 59 = .ok (.goto (-37), 3) := by decide +kernel
theorem dX3_beginsNumber_62 : decode cX3_beginsNumber 62 = .ok (.iconst 0, 1) := by decide +kernel
theorem dX3_beginsNumber_63 : decode cX3_beginsNumber 63 = .ok (.ireturn, 1) := by decide +kernel
theorem dX3_readSign_0 : decode cX3_readSign 0 = .ok (.aload_n 0, 1) := by decide +kernel
theorem dX3_readSign_1 : decode cX3_readSign 1 = .ok (.aload_n 0, 1) := by decide +kernel
theorem dX3_readSign_2 : decode cX3_readSign 2 = .ok (.getfield 27, 3) := by decide +kernel
theorem dX3_readSign_5 : decode cX3_readSign 5 = .ok (.invokevirtual 61, 3) := by decide +kernel
theorem dX3_readSign_8 : decode cX3_readSign 8 = .ok (.iload_n 1, 1) := by decide +kernel
theorem dX3_readSign_9 : decode cX3_readSign 9 = .ok (.if_icmp .eq 5, 3) := by decide +kernel
theorem dX3_readSign_12 : decode cX3_readSign 12 = .ok (.iconst 0, 1) := by decide +kernel
theorem dX3_readSign_13 : decode cX3_readSign 13 = .ok (.ireturn, 1) := by decide +kernel
theorem dX3_readSign_14 : decode cX3_readSign 14 = .ok (.aload_n 0, 1) := by decide +kernel
theorem dX3_readSign_15 : decode cX3_readSign 15 = .ok (.dup, 1) := by decide +kernel
theorem dX3_readSign_16 : decode cX3_readSign 16 = .ok (.getfield 27, 3) := by decide +kernel
theorem dX3_readSign_19 : decode cX3_readSign 19 = .ok (.iconst 1, 1) := by decide +kernel
theorem dX3_readSign_20 : decode cX3_readSign 20 = .ok (.iadd, 1) := by decide +kernel
theorem dX3_readSign_21 : decode cX3_readSign 21 = .ok (.putfield 27, 3) := by decide +kernel
theorem dX3_readSign_24 : decode cX3_readSign 24 = .ok (.iconst 1, 1) := by decide +kernel
theorem dX3_readSign_25 : decode cX3_readSign 25 = .ok (.ireturn, 1) := by decide +kernel
theorem dX3_digitAt_0 : decode cX3_digitAt 0 = .ok (.aload_n 0, 1) := by decide +kernel
theorem dX3_digitAt_1 : decode cX3_digitAt 1 = .ok (.iload_n 1, 1) := by decide +kernel
theorem dX3_digitAt_2 : decode cX3_digitAt 2 = .ok (.invokevirtual 61, 3) := by decide +kernel
theorem dX3_digitAt_5 : decode cX3_digitAt 5 = .ok (.istore_n 2, 1) := by decide +kernel
theorem dX3_digitAt_6 : decode cX3_digitAt 6 = .ok (.iload_n 2, 1) := by decide +kernel
theorem dX3_digitAt_7 : decode cX3_digitAt 7 = .ok (.bipush 48, 2) := by decide +kernel
theorem dX3_digitAt_9 : decode cX3_digitAt 9 = .ok (.bipush 57, 2) := by decide +kernel
theorem dX3_digitAt_11 : decode cX3_digitAt 11 = .ok (.invokestatic 96, 3) := by decide +kernel
theorem dX3_digitAt_14 : decode cX3_digitAt 14 = .ok (.ifCond .eq 10, 3) := by decide +kernel
theorem dX3_digitAt_17 : decode cX3_digitAt 17 = .ok (.iload_n 2, 1) := by decide +kernel
theorem dX3_digitAt_18 : decode cX3_digitAt 18 = .ok (.bipush 48, 2) := by decide +kernel
theorem dX3_digitAt_20 : decode cX3_digitAt 20 = .ok (.isub, 1) := by decide +kernel
theorem dX3_digitAt_21 : decode cX3_digitAt 21 = .ok (.goto 4, 3) := by decide +kernel
theorem dX3_digitAt_24 : decode cX3_digitAt 24 = .ok (.iconst (-1), 1) := by decide +kernel
theorem dX3_digitAt_25 : decode cX3_digitAt 25 = .ok (.ireturn, 1) := by decide +kernel
theorem dX3_signAt_0 : decode cX3_signAt 0 = .ok (.iload_n 1, 1) := by decide +kernel
theorem dX3_signAt_1 : decode cX3_signAt 1 = .ok (.ifCond .lt 11, 3) := by decide +kernel
theorem dX3_signAt_4 : decode cX3_signAt 4 = .ok (.iload_n 1, 1) := by decide +kernel
theorem dX3_signAt_5 : decode cX3_signAt 5 = .ok (.aload_n 0, 1) := by decide +kernel
theorem dX3_signAt_6 : decode cX3_signAt 6 = .ok (.getfield 19, 3) := by decide +kernel
theorem dX3_signAt_9 : decode cX3_signAt 9 = .ok (.if_icmp .lt 5, 3) := by decide +kernel
theorem dX3_signAt_12 : decode cX3_signAt 12 = .ok (.iconst (-1), 1) := by decide +kernel
theorem dX3_signAt_13 : decode cX3_signAt 13 = .ok (.ireturn, 1) := by decide +kernel
theorem dX3_signAt_14 : decode cX3_signAt 14 = .ok (.aload_n 0, 1) := by decide +kernel
theorem dX3_signAt_15 : decode cX3_signAt 15 = .ok (.getfield 9, 3) := by decide +kernel
theorem dX3_signAt_18 : decode cX3_signAt 18 = .ok (.iload_n 1, 1) := by decide +kernel
theorem dX3_signAt_19 : decode cX3_signAt 19 = .ok (.caload, 1) := by decide +kernel
theorem dX3_signAt_20 : decode cX3_signAt 20 = .ok (.ireturn, 1) := by decide +kernel
theorem dX4_init_0 : decode cX4_init 0 = .ok (.aload_n 0, 1) := by decide +kernel
theorem dX4_init_1 : decode cX4_init 1 = .ok (.invokespecial 3, 3) := by decide +kernel
theorem dX4_init_4 : decode cX4_init 4 = .ok (.aload_n 0, 1) := by decide +kernel
theorem dX4_init_5 : decode cX4_init 5 = .ok (.new 9, 3) := by decide +kernel
theorem dX4_init_8 : decode cX4_init 8 = .ok (.dup, 1) := by decide +kernel
theorem dX4_init_9 : decode cX4_init 9 = .ok (.invokespecial 11, 3) := by decide +kernel
theorem dX4_init_12 : decode cX4_init 12 = .ok (.putfield 12, 3) := by decide +kernel
theorem dX4_init_15 : decode cX4_init 15 = .ok (.aload_n 0, 1) := by decide +kernel
theorem dX4_init_16 : decode cX4_init 16 = .ok (.new 16, 3) := by decide +kernel
theorem dX4_init_19 : decode cX4_init 19 = .ok (.dup, 1) := by decide +kernel
theorem dX4_init_20 : decode cX4_init 20 = .ok (.invokespecial 18, 3) := by decide +kernel
theorem dX4_init_23 : decode cX4_init 23 = .ok (.putfield 19, 3) := by decide +kernel
theorem dX4_init_26 : decode cX4_init 26 = .ok (.aload_n 0, 1) := by decide +kernel
theorem dX4_init_27 : decode cX4_init 27 = .ok (.new 23, 3) := by decide +kernel
theorem dX4_init_30 : decode cX4_init 30 = .ok (.dup, 1) := by decide +kernel
theorem dX4_init_31 : decode cX4_init 31 = .ok (.invokespecial 25, 3) := by decide +kernel
theorem dX4_init_34 : decode cX4_init 34 = .ok (.putfield 26, 3) := by decide +kernel
theorem dX4_init_37 : decode cX4_init 37 = .ok (.aload_n 0, 1) := by decide +kernel
theorem dX4_init_38 : decode cX4_init 38 = .ok (.iconst 2, 1) := by decide +kernel
theorem dX4_init_39 : decode cX4_init 39 = .ok (.anewarray 16, 3) := by decide +kernel
theorem dX4_init_42 : decode cX4_init 42 = .ok (.putfield 30, 3) := by decide +kernel
theorem dX4_init_45 : decode cX4_init 45 = .ok (.aload_n 0, 1) := by decide +kernel
theorem dX4_init_46 : decode cX4_init 46 = .ok (.iconst 2, 1) := by decide +kernel
theorem dX4_init_47 : decode cX4_init 47 = .ok (.newarray .boolean, 2) := by decide +kernel
theorem dX4_init_49 : decode cX4_init 49 = .ok (.putfield 34, 3) := by decide +kernel
theorem dX4_init_52 : decode cX4_init 52 = .ok (.aload_n 0, 1) := by decide +kernel
theorem dX4_init_53 : decode cX4_init 53 = .ok (.new 16, 3) := by decide +kernel
theorem dX4_init_56 : decode cX4_init 56 = .ok (.dup, 1) := by decide +kernel
theorem dX4_init_57 : decode cX4_init 57 = .ok (.invokespecial 18, 3) := by decide +kernel
theorem dX4_init_60 : decode cX4_init 60 = .ok (.putfield 38, 3) := by decide +kernel
theorem dX4_init_63 : decode cX4_init 63 = .ok (.aload_n 0, 1) := by decide +kernel
theorem dX4_init_64 : decode cX4_init 64 = .ok (.new 16, 3) := by decide +kernel
theorem dX4_init_67 : decode cX4_init 67 = .ok (.dup, 1) := by decide +kernel
theorem dX4_init_68 : decode cX4_init 68 = .ok (.invokespecial 18, 3) := by decide +kernel
theorem dX4_init_71 : decode cX4_init 71 = .ok (.putfield 41, 3) := by decide +kernel
theorem dX4_init_74 : decode cX4_init 74 = .ok (.iconst 0, 1) := by decide +kernel
theorem dX4_init_75 : decode cX4_init 75 = .ok (.istore_n 1, 1) := by decide +kernel
theorem dX4_init_76 : decode cX4_init 76 = .ok (.iload_n 1, 1) := by decide +kernel
theorem dX4_init_77 : decode cX4_init 77 = .ok (.aload_n 0, 1) := by decide +kernel
theorem dX4_init_78 : decode cX4_init 78 = .ok (.getfield 30, 3) := by decide +kernel
theorem dX4_init_81 : decode cX4_init 81 = .ok (.arraylength, 1) := by decide +kernel
theorem dX4_init_82 : decode cX4_init 82 = .ok (.if_icmp .ge 22, 3) := by decide +kernel
theorem dX4_init_85 : decode cX4_init 85 = .ok (.aload_n 0, 1) := by decide +kernel
theorem dX4_init_86 : decode cX4_init 86 = .ok (.getfield 30, 3) := by decide +kernel
theorem dX4_init_89 : decode cX4_init 89 = .ok (.iload_n 1, 1) := by decide +kernel
theorem dX4_init_90 : decode cX4_init 90 = .ok (.new 16, 3) := by decide +kernel
theorem dX4_init_93 : decode cX4_init 93 = .ok (.dup, 1) := by decide +kernel
theorem dX4_init_94 : decode cX4_init 94 = .ok (.invokespecial 18, 3) := by decide +kernel
theorem dX4_init_97 : decode cX4_init 97 = .ok (.aastore, 1) := by decide +kernel
theorem dX4_init_98 : decode cX4_init 98 = .ok (.iinc 1 1, 3) := by decide +kernel
theorem dX4_init_101 : decode cX4_init 101 = .ok (.goto (-25), 3) := by decide +kernel
theorem dX4_init_104 : decode cX4_init 104 = .ok (.return_, 1) := by decide +kernel
theorem dX4_append_0 : decode cX4_append 0 = .ok (.iload_n 1, 1) := by decide +kernel
theorem dX4_append_1 : decode cX4_append 1 = .ok (.iconst 0, 1) := by decide +kernel
theorem dX4_append_2 : decode cX4_append 2 = .ok (.sipush 255, 3) := by decide +kernel
theorem dX4_append_5 : decode cX4_append 5 = .ok (.invokestatic 44, 3) := by decide +kernel
theorem dX4_append_8 : decode cX4_append 8 = .ok (.aload_n 0, 1) := by decide +kernel
theorem dX4_append_9 : decode cX4_append 9 = .ok (.getfield 12, 3) := by decide +kernel
theorem dX4_append_12 : decode cX4_append 12 = .ok (.invokevirtual 48, 3) := by decide +kernel
theorem dX4_append_15 : decode cX4_append 15 = .ok (.ifCond .eq 13, 3) := by decide +kernel
theorem dX4_append_18 : decode cX4_append 18 = .ok (.new 52, 3) := by decide +kernel
theorem dX4_append_21 : decode cX4_append 21 = .ok (.dup, 1) := by decide +kernel
theorem dX4_append_22 : decode cX4_append 22 = .ok (.ldc 54, 2) := by decide +kernel
theorem dX4_append_24 : decode cX4_append 24 = .ok (.invokespecial 56, 3) := by decide +kernel
theorem dX4_append_27 : decode cX4_append 27 = .ok (.athrow, 1) := by decide +kernel
theorem dX4_append_28 : decode cX4_append 28 = .ok (.aload_n 0, 1) := by decide +kernel
theorem dX4_append_29 : decode cX4_append 29 = .ok (.getfield 12, 3) := by decide +kernel
theorem dX4_append_32 : decode cX4_append 32 = .ok (.iload_n 1, 1) := by decide +kernel
theorem dX4_append_33 : decode cX4_append 33 = .ok (.i2c, 1) := by decide +kernel
theorem dX4_append_34 : decode cX4_append 34 = .ok (.invokevirtual 59, 3) := by decide +kernel
theorem dX4_append_37 : decode cX4_append 37 = .ok (.ireturn, 1) := by decide +kernel
theorem dX4_clearText_0 : decode cX4_clearText 0 = .ok (.aload_n 0, 1) := by decide +kernel
theorem dX4_clearText_1 : decode cX4_clearText 1 = .ok (.getfield 12, 3) := by decide +kernel
theorem dX4_clearText_4 : decode cX4_clearText 4 = .ok (.invokevirtual 63, 3) := by decide +kernel
theorem dX4_clearText_7 : decode cX4_clearText 7 = .ok (.ireturn, 1) := by decide +kernel
theorem dX4_errorPosition_0 : decode cX4_errorPosition 0 = .ok (.aload_n 0, 1) := by decide +kernel
theorem dX4_errorPosition_1 : decode cX4_errorPosition 1 = .ok (.getfield 12, 3) := by decide +kernel
theorem dX4_errorPosition_4 : decode cX4_errorPosition 4 = .ok (.invokevirtual 67, 3) := by decide +kernel
theorem dX4_errorPosition_7 : decode cX4_errorPosition 7 = .ok (.ireturn, 1) := by decide +kernel
theorem dX4_load_0 : decode cX4_load 0 = .ok (.aload_n 0, 1) := by decide +kernel
theorem dX4_load_1 : decode cX4_load 1 = .ok (.getfield 12, 3) := by decide +kernel
theorem dX4_load_4 : decode cX4_load 4 = .ok (.invokevirtual 67, 3) := by decide +kernel
theorem dX4_load_7 : decode cX4_load 7 = .ok (.iconst (-1), 1) := by decide +kernel
theorem dX4_load_8 : decode cX4_load 8 = .ok (.if_icmp .eq 13, 3) := by decide +kernel
theorem dX4_load_11 : decode cX4_load 11 = .ok (.new 52, 3) := by decide +kernel
theorem dX4_load_14 : decode cX4_load 14 = .ok (.dup, 1) := by decide +kernel
theorem dX4_load_15 : decode cX4_load 15 = .ok (.ldc 70, 2) := by decide +kernel
theorem dX4_load_17 : decode cX4_load 17 = .ok (.invokespecial 56, 3) := by decide +kernel
theorem dX4_load_20 : decode cX4_load 20 = .ok (.athrow, 1) := by decide +kernel
theorem dX4_load_21 : decode cX4_load 21 = .ok (.aload_n 0, 1) := by decide +kernel
theorem dX4_load_22 : decode cX4_load 22 = .ok (.getfield 19, 3) := by decide +kernel
theorem dX4_load_25 : decode cX4_load 25 = .ok (.invokevirtual 72, 3) := by decide +kernel
theorem dX4_load_28 : decode cX4_load 28 = .ok (.aload_n 0, 1) := by decide +kernel
theorem dX4_load_29 : decode cX4_load 29 = .ok (.getfield 26, 3) := by decide +kernel
theorem dX4_load_32 : decode cX4_load 32 = .ok (.invokevirtual 75, 3) := by decide +kernel
theorem dX4_load_35 : decode cX4_load 35 = .ok (.iconst 0, 1) := by decide +kernel
theorem dX4_load_36 : decode cX4_load 36 = .ok (.istore_n 1, 1) := by decide +kernel
theorem dX4_load_37 : decode cX4_load 37 = .ok (.iload_n 1, 1) := by decide +kernel
theorem dX4_load_38 : decode cX4_load 38 = .ok (.aload_n 0, 1) := by decide +kernel
theorem dX4_load_39 : decode cX4_load 39 = .ok (.getfield 34, 3) := by decide +kernel
theorem dX4_load_42 : decode cX4_load 42 = .ok (.arraylength, 1) := by decide +kernel
theorem dX4_load_43 : decode cX4_load 43 = .ok (.if_icmp .ge 16, 3) := by decide +kernel
theorem dX4_load_46 : decode cX4_load 46 = .ok (.aload_n 0, 1) := by decide +kernel
theorem dX4_load_47 : decode cX4_load 47 = .ok (.getfield 34, 3) := by decide +kernel
theorem dX4_load_50 : decode cX4_load 50 = .ok (.iload_n 1, 1) := by decide +kernel
theorem dX4_load_51 : decode cX4_load 51 = .ok (.iconst 0, 1) := by decide +kernel
theorem dX4_load_52 : decode cX4_load 52 = .ok (.bastore, 1) := by decide +kernel
theorem dX4_load_53 : decode cX4_load 53 = .ok (.iinc 1 1, 3) := by decide +kernel
theorem dX4_load_56 : decode cX4_load 56 = .ok (.goto (-19), 3) := by decide +kernel
theorem dX4_load_59 : decode cX4_load 59 = .ok (.aload_n 0, 1) := by decide +kernel
theorem dX4_load_60 : decode cX4_load 60 = .ok (.getfield 12, 3) := by decide +kernel
theorem dX4_load_63 : decode cX4_load 63 = .ok (.aload_n 0, 1) := by decide +kernel
theorem dX4_load_64 : decode cX4_load 64 = .ok (.getfield 19, 3) := by decide +kernel
theorem dX4_load_67 : decode cX4_load 67 = .ok (.invokevirtual 78, 3) := by decide +kernel
theorem dX4_load_70 : decode cX4_load 70 = .ok (.ireturn, 1) := by decide +kernel
theorem dX4_about_0 : decode cX4_about 0 = .ok (.iload_n 1, 1) := by decide +kernel
theorem dX4_about_1 : decode cX4_about 1 = .ok (.iconst 0, 1) := by decide +kernel
theorem dX4_about_2 : decode cX4_about 2 = .ok (.bipush 10, 2) := by decide +kernel
theorem dX4_about_4 : decode cX4_about 4 = .ok (.invokestatic 44, 3) := by decide +kernel
theorem dX4_about_7 : decode cX4_about 7 = .ok (.iload_n 1, 1) := by decide +kernel
theorem dX4_about_8 : decode cX4_about 8 = .ok (.tableswitch 144 0 9 #[56, 64, 72, 80, 88, 96, 104, 112, 120, 128], 56) := by decide +kernel
theorem dX4_about_64 : decode cX4_about 64 = .ok (.aload_n 0, 1) := by decide +kernel
theorem dX4_about_65 : decode cX4_about 65 = .ok (.getfield 19, 3) := by decide +kernel
theorem dX4_about_68 : decode cX4_about 68 = .ok (.getfield 82, 3) := by decide +kernel
theorem dX4_about_71 : decode cX4_about 71 = .ok (.ireturn, 1) := by decide +kernel
theorem dX4_about_72 : decode cX4_about 72 = .ok (.aload_n 0, 1) := by decide +kernel
theorem dX4_about_73 : decode cX4_about 73 = .ok (.getfield 19, 3) := by decide +kernel
theorem dX4_about_76 : decode cX4_about 76 = .ok (.getfield 86, 3) := by decide +kernel
theorem dX4_about_79 : decode cX4_about 79 = .ok (.ireturn, 1) := by decide +kernel
theorem dX4_about_80 : decode cX4_about 80 = .ok (.aload_n 0, 1) := by decide +kernel
theorem dX4_about_81 : decode cX4_about 81 = .ok (.getfield 19, 3) := by decide +kernel
theorem dX4_about_84 : decode cX4_about 84 = .ok (.getfield 89, 3) := by decide +kernel
theorem dX4_about_87 : decode cX4_about 87 = .ok (.ireturn, 1) := by decide +kernel
theorem dX4_about_88 : decode cX4_about 88 = .ok (.aload_n 0, 1) := by decide +kernel
theorem dX4_about_89 : decode cX4_about 89 = .ok (.getfield 19, 3) := by decide +kernel
theorem dX4_about_92 : decode cX4_about 92 = .ok (.getfield 92, 3) := by decide +kernel
theorem dX4_about_95 : decode cX4_about 95 = .ok (.ireturn, 1) := by decide +kernel
theorem dX4_about_96 : decode cX4_about 96 = .ok (.aload_n 0, 1) := by decide +kernel
theorem dX4_about_97 : decode cX4_about 97 = .ok (.getfield 19, 3) := by decide +kernel
theorem dX4_about_100 : decode cX4_about 100 = .ok (.getfield 95, 3) := by decide +kernel
theorem dX4_about_103 : decode cX4_about 103 = .ok (.ireturn, 1) := by decide +kernel
theorem dX4_about_104 : decode cX4_about 104 = .ok (.aload_n 0, 1) := by decide +kernel
theorem dX4_about_105 : decode cX4_about 105 = .ok (.getfield 19, 3) := by decide +kernel
theorem dX4_about_108 : decode cX4_about 108 = .ok (.getfield 98, 3) := by decide +kernel
theorem dX4_about_111 : decode cX4_about 111 = .ok (.ireturn, 1) := by decide +kernel
theorem dX4_about_112 : decode cX4_about 112 = .ok (.aload_n 0, 1) := by decide +kernel
theorem dX4_about_113 : decode cX4_about 113 = .ok (.getfield 19, 3) := by decide +kernel
theorem dX4_about_116 : decode cX4_about 116 = .ok (.getfield 101, 3) := by decide +kernel
theorem dX4_about_119 : decode cX4_about 119 = .ok (.ireturn, 1) := by decide +kernel
theorem dX4_about_120 : decode cX4_about 120 = .ok (.aload_n 0, 1) := by decide +kernel
theorem dX4_about_121 : decode cX4_about 121 = .ok (.getfield 19, 3) := by decide +kernel
theorem dX4_about_124 : decode cX4_about 124 = .ok (.invokevirtual 104, 3) := by decide +kernel
theorem dX4_about_127 : decode cX4_about 127 = .ok (.ireturn, 1) := by decide +kernel
theorem dX4_about_128 : decode cX4_about 128 = .ok (.aload_n 0, 1) := by decide +kernel
theorem dX4_about_129 : decode cX4_about 129 = .ok (.getfield 19, 3) := by decide +kernel
theorem dX4_about_132 : decode cX4_about 132 = .ok (.invokevirtual 107, 3) := by decide +kernel
theorem dX4_about_135 : decode cX4_about 135 = .ok (.ireturn, 1) := by decide +kernel
theorem dX4_about_136 : decode cX4_about 136 = .ok (.aload_n 0, 1) := by decide +kernel
theorem dX4_about_137 : decode cX4_about 137 = .ok (.getfield 19, 3) := by decide +kernel
theorem dX4_about_140 : decode cX4_about 140 = .ok (.invokevirtual 110, 3) := by decide +kernel
theorem dX4_about_143 : decode cX4_about 143 = .ok (.ifCond .eq 7, 3) := by decide +kernel
theorem dX4_about_146 : decode cX4_about 146 = .ok (.iconst 1, 1) := by decide +kernel
theorem dX4_about_147 : decode cX4_about 147 = .ok (.goto 4, 3) := by decide +kernel
theorem dX4_about_150 : decode cX4_about 150 = .ok (.iconst 0, 1) := by decide +kernel
theorem dX4_about_151 : decode cX4_about 151 = .ok (.ireturn, 1) := by decide +kernel
theorem dX4_about_152 : decode cX4_about 152 = .ok (.aload_n 0, 1) := by decide +kernel
theorem dX4_about_153 : decode cX4_about 153 = .ok (.getfield 19, 3) := by decide +kernel
theorem dX4_about_156 : decode cX4_about 156 = .ok (.invokevirtual 113, 3) := by decide +kernel
theorem dX4_about_159 : decode cX4_about 159 = .ok (.ireturn, 1) := by decide +kernel
theorem dX4_bus_0 : decode cX4_bus 0 = .ok (.aload_n 0, 1) := by decide +kernel
theorem dX4_bus_1 : decode cX4_bus 1 = .ok (.iload_n 1, 1) := by decide +kernel
theorem dX4_bus_2 : decode cX4_bus 2 = .ok (.invokevirtual 116, 3) := by decide +kernel
theorem dX4_bus_5 : decode cX4_bus 5 = .ok (.astore_n 3, 1) := by decide +kernel
theorem dX4_bus_6 : decode cX4_bus 6 = .ok (.iload_n 2, 1) := by decide +kernel
theorem dX4_bus_7 : decode cX4_bus 7 = .ok (.iconst 0, 1) := by decide +kernel
theorem dX4_bus_8 : decode cX4_bus 8 = .ok (.bipush 9, 2) := by decide +kernel
theorem dX4_bus_10 : decode cX4_bus 10 = .ok (.invokestatic 44, 3) := by decide +kernel
theorem dX4_bus_13 : decode cX4_bus 13 = .ok (.iload_n 2, 1) := by decide +kernel
theorem dX4_bus_14 : decode cX4_bus 14 = .ok (.tableswitch 119 0 8 #[50, 55, 60, 65, 70, 75, 80, 93, 106], 50) := by decide +kernel
theorem dX4_bus_64 : decode cX4_bus 64 = .ok (.aload_n 3, 1) := by decide +kernel
theorem dX4_bus_65 : decode cX4_bus 65 = .ok (.getfield 120, 3) := by decide +kernel
theorem dX4_bus_68 : decode cX4_bus 68 = .ok (.ireturn, 1) := by decide +kernel
theorem dX4_bus_69 : decode cX4_bus 69 = .ok (.aload_n 3, 1) := by decide +kernel
theorem dX4_bus_70 : decode cX4_bus 70 = .ok (.getfield 125, 3) := by decide +kernel
theorem dX4_bus_73 : decode cX4_bus 73 = .ok (.ireturn, 1) := by decide +kernel
theorem dX4_bus_74 : decode cX4_bus 74 = .ok (.aload_n 3, 1) := by decide +kernel
theorem dX4_bus_75 : decode cX4_bus 75 = .ok (.getfield 128, 3) := by decide +kernel
theorem dX4_bus_78 : decode cX4_bus 78 = .ok (.ireturn, 1) := by decide +kernel
theorem dX4_bus_79 : decode cX4_bus 79 = .ok (.aload_n 3, 1) := by decide +kernel
theorem dX4_bus_80 : decode cX4_bus 80 = .ok (.getfield 131, 3) := by decide +kernel
theorem dX4_bus_83 : decode cX4_bus 83 = .ok (.ireturn, 1) := by decide +kernel
theorem dX4_bus_84 : decode cX4_bus 84 = .ok (.aload_n 3, 1) := by decide +kernel
theorem dX4_bus_85 : decode cX4_bus 85 = .ok (.getfield 134, 3) := by decide +kernel
theorem dX4_bus_88 : decode cX4_bus 88 = .ok (.ireturn, 1) := by decide +kernel
theorem dX4_bus_89 : decode cX4_bus 89 = .ok (.aload_n 3, 1) := by decide +kernel
theorem dX4_bus_90 : decode cX4_bus 90 = .ok (.getfield 137, 3) := by decide +kernel
theorem dX4_bus_93 : decode cX4_bus 93 = .ok (.ireturn, 1) := by decide +kernel
theorem dX4_bus_94 : decode cX4_bus 94 = .ok (.aload_n 3, 1) := by decide +kernel
theorem dX4_bus_95 : decode cX4_bus 95 = .ok (.getfield 140, 3) := by decide +kernel
theorem dX4_bus_98 : decode cX4_bus 98 = .ok (.ifCond .eq 7, 3) := by decide +kernel
theorem dX4_bus_101 : decode cX4_bus 101 = .ok (.iconst 1, 1) := by decide +kernel
theorem dX4_bus_102 : decode cX4_bus 102 = .ok (.goto 4, 3) := by decide +kernel
theorem dX4_bus_105 : decode cX4_bus 105 = .ok (.iconst 0, 1) := by decide +kernel
theorem dX4_bus_106 : decode cX4_bus 106 = .ok (.ireturn, 1) := by decide +kernel
theorem dX4_bus_107 : decode cX4_bus 107 = .ok (.aload_n 0, 1) := by decide +kernel
theorem dX4_bus_108 : decode cX4_bus 108 = .ok (.aload_n 0, 1) := by decide +kernel
theorem dX4_bus_109 : decode cX4_bus 109 = .ok (.getfield 19, 3) := by decide +kernel
theorem dX4_bus_112 : decode cX4_bus 112 = .ok (.invokevirtual 144, 3) := by decide +kernel
theorem dX4_bus_115 : decode cX4_bus 115 = .ok (.iload_n 1, 1) := by decide +kernel
theorem dX4_bus_116 : decode cX4_bus 116 = .ok (.invokevirtual 148, 3) := by decide +kernel
theorem dX4_bus_119 : decode cX4_bus 119 = .ok (.ireturn, 1) := by decide +kernel
theorem dX4_bus_120 : decode cX4_bus 120 = .ok (.aload_n 0, 1) := by decide +kernel
theorem dX4_bus_121 : decode cX4_bus 121 = .ok (.aload_n 0, 1) := by decide +kernel
theorem dX4_bus_122 : decode cX4_bus 122 = .ok (.getfield 19, 3) := by decide +kernel
theorem dX4_bus_125 : decode cX4_bus 125 = .ok (.invokevirtual 144, 3) := by decide +kernel
theorem dX4_bus_128 : decode cX4_bus 128 = .ok (.iload_n 1, 1) := by decide +kernel
theorem dX4_bus_129 : decode cX4_bus 129 = .ok (.invokevirtual 152, 3) := by decide +kernel
theorem dX4_bus_132 : decode cX4_bus 132 = .ok (.ireturn, 1) := by decide +kernel
theorem dX4_bus_133 : decode cX4_bus 133 = .ok (.aload_n 0, 1) := by decide +kernel
theorem dX4_bus_134 : decode cX4_bus 134 = .ok (.getfield 19, 3) := by decide +kernel
theorem dX4_bus_137 : decode cX4_bus 137 = .ok (.aload_n 3, 1) := by decide +kernel
theorem dX4_bus_138 : decode cX4_bus 138 = .ok (.invokevirtual 155, 3) := by decide +kernel
theorem dX4_bus_141 : decode cX4_bus 141 = .ok (.ireturn, 1) := by decide +kernel
theorem dX4_charger_0 : decode cX4_charger 0 = .ok (.aload_n 0, 1) := by decide +kernel
theorem dX4_charger_1 : decode cX4_charger 1 = .ok (.getfield 19, 3) := by decide +kernel
theorem dX4_charger_4 : decode cX4_charger 4 = .ok (.iload_n 1, 1) := by decide +kernel
theorem dX4_charger_5 : decode cX4_charger 5 = .ok (.invokevirtual 159, 3) := by decide +kernel
theorem dX4_charger_8 : decode cX4_charger 8 = .ok (.ifCond .ne 13, 3) := by decide +kernel
theorem dX4_charger_11 : decode cX4_charger 11 = .ok (.new 163, 3) := by decide +kernel
theorem dX4_charger_14 : decode cX4_charger 14 = .ok (.dup, 1) := by decide +kernel
theorem dX4_charger_15 : decode cX4_charger 15 = .ok (.ldc 165, 2) := by decide +kernel
theorem dX4_charger_17 : decode cX4_charger 17 = .ok (.invokespecial 167, 3) := by decide +kernel
theorem dX4_charger_20 : decode cX4_charger 20 = .ok (.athrow, 1) := by decide +kernel
theorem dX4_charger_21 : decode cX4_charger 21 = .ok (.iload_n 2, 1) := by decide +kernel
theorem dX4_charger_22 : decode cX4_charger 22 = .ok (.iconst 0, 1) := by decide +kernel
theorem dX4_charger_23 : decode cX4_charger 23 = .ok (.iconst 2, 1) := by decide +kernel
theorem dX4_charger_24 : decode cX4_charger 24 = .ok (.invokestatic 44, 3) := by decide +kernel
theorem dX4_charger_27 : decode cX4_charger 27 = .ok (.iload_n 2, 1) := by decide +kernel
theorem dX4_charger_28 : decode cX4_charger 28 = .ok (.lookupswitch 46 #[(0, 28), (1, 37)], 28) := by decide +kernel
theorem dX4_charger_56 : decode cX4_charger 56 = .ok (.aload_n 0, 1) := by decide +kernel
theorem dX4_charger_57 : decode cX4_charger 57 = .ok (.getfield 19, 3) := by decide +kernel
theorem dX4_charger_60 : decode cX4_charger 60 = .ok (.iload_n 1, 1) := by decide +kernel
theorem dX4_charger_61 : decode cX4_charger 61 = .ok (.invokevirtual 168, 3) := by decide +kernel
theorem dX4_charger_64 : decode cX4_charger 64 = .ok (.ireturn, 1) := by decide +kernel
theorem dX4_charger_65 : decode cX4_charger 65 = .ok (.aload_n 0, 1) := by decide +kernel
theorem dX4_charger_66 : decode cX4_charger 66 = .ok (.getfield 19, 3) := by decide +kernel
theorem dX4_charger_69 : decode cX4_charger 69 = .ok (.iload_n 1, 1) := by decide +kernel
theorem dX4_charger_70 : decode cX4_charger 70 = .ok (.invokevirtual 171, 3) := by decide +kernel
theorem dX4_charger_73 : decode cX4_charger 73 = .ok (.ireturn, 1) := by decide +kernel
theorem dX4_charger_74 : decode cX4_charger 74 = .ok (.aload_n 0, 1) := by decide +kernel
theorem dX4_charger_75 : decode cX4_charger 75 = .ok (.aload_n 0, 1) := by decide +kernel
theorem dX4_charger_76 : decode cX4_charger 76 = .ok (.getfield 19, 3) := by decide +kernel
theorem dX4_charger_79 : decode cX4_charger 79 = .ok (.invokevirtual 144, 3) := by decide +kernel
theorem dX4_charger_82 : decode cX4_charger 82 = .ok (.iload_n 1, 1) := by decide +kernel
theorem dX4_charger_83 : decode cX4_charger 83 = .ok (.invokevirtual 174, 3) := by decide +kernel
theorem dX4_charger_86 : decode cX4_charger 86 = .ok (.ireturn, 1) := by decide +kernel
theorem dX4_sign_0 : decode cX4_sign 0 = .ok (.aload_n 0, 1) := by decide +kernel
theorem dX4_sign_1 : decode cX4_sign 1 = .ok (.iload_n 1, 1) := by decide +kernel
theorem dX4_sign_2 : decode cX4_sign 2 = .ok (.invokevirtual 116, 3) := by decide +kernel
theorem dX4_sign_5 : decode cX4_sign 5 = .ok (.astore_n 3, 1) := by decide +kernel
theorem dX4_sign_6 : decode cX4_sign 6 = .ok (.iload_n 2, 1) := by decide +kernel
theorem dX4_sign_7 : decode cX4_sign 7 = .ok (.ifCond .ge 13, 3) := by decide +kernel
theorem dX4_sign_10 : decode cX4_sign 10 = .ok (.new 177, 3) := by decide +kernel
theorem dX4_sign_13 : decode cX4_sign 13 = .ok (.dup, 1) := by decide +kernel
theorem dX4_sign_14 : decode cX4_sign 14 = .ok (.ldc 179, 2) := by decide +kernel
theorem dX4_sign_16 : decode cX4_sign 16 = .ok (.invokespecial 181, 3) := by decide +kernel
theorem dX4_sign_19 : decode cX4_sign 19 = .ok (.athrow, 1) := by decide +kernel
theorem dX4_sign_20 : decode cX4_sign 20 = .ok (.iload_n 1, 1) := by decide +kernel
theorem dX4_sign_21 : decode cX4_sign 21 = .ok (.aload_n 3, 1) := by decide +kernel
theorem dX4_sign_22 : decode cX4_sign 22 = .ok (.invokestatic 182, 3) := by decide +kernel
theorem dX4_sign_25 : decode cX4_sign 25 = .ok (.astore 4, 2) := by decide +kernel
theorem dX4_sign_27 : decode cX4_sign 27 = .ok (.iload_n 2, 1) := by decide +kernel
theorem dX4_sign_28 : decode cX4_sign 28 = .ok (.aload 4, 2) := by decide +kernel
theorem dX4_sign_30 : decode cX4_sign 30 = .ok (.invokevirtual 186, 3) := by decide +kernel
theorem dX4_sign_33 : decode cX4_sign 33 = .ok (.if_icmp .lt 5, 3) := by decide +kernel
theorem dX4_sign_36 : decode cX4_sign 36 = .ok (.iconst (-1), 1) := by decide +kernel
theorem dX4_sign_37 : decode cX4_sign 37 = .ok (.ireturn, 1) := by decide +kernel
theorem dX4_sign_38 : decode cX4_sign 38 = .ok (.aload 4, 2) := by decide +kernel
theorem dX4_sign_40 : decode cX4_sign 40 = .ok (.iload_n 2, 1) := by decide +kernel
theorem dX4_sign_41 : decode cX4_sign 41 = .ok (.invokevirtual 191, 3) := by decide +kernel
theorem dX4_sign_44 : decode cX4_sign 44 = .ok (.ireturn, 1) := by decide +kernel
theorem dX4_setting_0 : decode cX4_setting 0 = .ok (.iload_n 1, 1) := by decide +kernel
theorem dX4_setting_1 : decode cX4_setting 1 = .ok (.iconst 0, 1) := by decide +kernel
theorem dX4_setting_2 : decode cX4_setting 2 = .ok (.iconst 5, 1) := by decide +kernel
theorem dX4_setting_3 : decode cX4_setting 3 = .ok (.invokestatic 44, 3) := by decide +kernel
theorem dX4_setting_6 : decode cX4_setting 6 = .ok (.aload_n 0, 1) := by decide +kernel
theorem dX4_setting_7 : decode cX4_setting 7 = .ok (.getfield 19, 3) := by decide +kernel
theorem dX4_setting_10 : decode cX4_setting 10 = .ok (.iload_n 1, 1) := by decide +kernel
theorem dX4_setting_11 : decode cX4_setting 11 = .ok (.invokevirtual 195, 3) := by decide +kernel
theorem dX4_setting_14 : decode cX4_setting 14 = .ok (.ireturn, 1) := by decide +kernel
theorem dX4_addBus_0 : decode cX4_addBus 0 = .ok (.iload_n 1, 1) := by decide +kernel
theorem dX4_addBus_1 : decode cX4_addBus 1 = .ok (.iload_n 2, 1) := by decide +kernel
theorem dX4_addBus_2 : decode cX4_addBus 2 = .ok (.iload_n 3, 1) := by decide +kernel
theorem dX4_addBus_3 : decode cX4_addBus 3 = .ok (.iload 4, 2) := by decide +kernel
theorem dX4_addBus_5 : decode cX4_addBus 5 = .ok (.iload 5, 2) := by decide +kernel
theorem dX4_addBus_7 : decode cX4_addBus 7 = .ok (.invokestatic 198, 3) := by decide +kernel
theorem dX4_addBus_10 : decode cX4_addBus 10 = .ok (.ifCond .ne 13, 3) := by decide +kernel
theorem dX4_addBus_13 : decode cX4_addBus 13 = .ok (.new 177, 3) := by decide +kernel
theorem dX4_addBus_16 : decode cX4_addBus 16 = .ok (.dup, 1) := by decide +kernel
theorem dX4_addBus_17 : decode cX4_addBus 17 = .ok (.ldc 202, 2) := by decide +kernel
theorem dX4_addBus_19 : decode cX4_addBus 19 = .ok (.invokespecial 181, 3) := by decide +kernel
theorem dX4_addBus_22 : decode cX4_addBus 22 = .ok (.athrow, 1) := by decide +kernel
theorem dX4_addBus_23 : decode cX4_addBus 23 = .ok (.aload_n 0, 1) := by decide +kernel
theorem dX4_addBus_24 : decode cX4_addBus 24 = .ok (.getfield 19, 3) := by decide +kernel
theorem dX4_addBus_27 : decode cX4_addBus 27 = .ok (.invokevirtual 204, 3) := by decide +kernel
theorem dX4_addBus_30 : decode cX4_addBus 30 = .ok (.ifCond .eq 13, 3) := by decide +kernel
theorem dX4_addBus_33 : decode cX4_addBus 33 = .ok (.new 52, 3) := by decide +kernel
theorem dX4_addBus_36 : decode cX4_addBus 36 = .ok (.dup, 1) := by decide +kernel
theorem dX4_addBus_37 : decode cX4_addBus 37 = .ok (.ldc 207, 2) := by decide +kernel
theorem dX4_addBus_39 : decode cX4_addBus 39 = .ok (.invokespecial 56, 3) := by decide +kernel
theorem dX4_addBus_42 : decode cX4_addBus 42 = .ok (.athrow, 1) := by decide +kernel
theorem dX4_addBus_43 : decode cX4_addBus 43 = .ok (.aload_n 0, 1) := by decide +kernel
theorem dX4_addBus_44 : decode cX4_addBus 44 = .ok (.getfield 26, 3) := by decide +kernel
theorem dX4_addBus_47 : decode cX4_addBus 47 = .ok (.aload_n 0, 1) := by decide +kernel
theorem dX4_addBus_48 : decode cX4_addBus 48 = .ok (.getfield 19, 3) := by decide +kernel
theorem dX4_addBus_51 : decode cX4_addBus 51 = .ok (.invokevirtual 209, 3) := by decide +kernel
theorem dX4_addBus_54 : decode cX4_addBus 54 = .ok (.aload_n 0, 1) := by decide +kernel
theorem dX4_addBus_55 : decode cX4_addBus 55 = .ok (.getfield 19, 3) := by decide +kernel
theorem dX4_addBus_58 : decode cX4_addBus 58 = .ok (.iload_n 1, 1) := by decide +kernel
theorem dX4_addBus_59 : decode cX4_addBus 59 = .ok (.iload_n 2, 1) := by decide +kernel
theorem dX4_addBus_60 : decode cX4_addBus 60 = .ok (.iload_n 3, 1) := by decide +kernel
theorem dX4_addBus_61 : decode cX4_addBus 61 = .ok (.iload 4, 2) := by decide +kernel
theorem dX4_addBus_63 : decode cX4_addBus 63 = .ok (.iload 5, 2) := by decide +kernel
theorem dX4_addBus_65 : decode cX4_addBus 65 = .ok (.invokevirtual 213, 3) := by decide +kernel
theorem dX4_addBus_68 : decode cX4_addBus 68 = .ok (.ireturn, 1) := by decide +kernel
theorem dX4_addCharger_0 : decode cX4_addCharger 0 = .ok (.iload_n 1, 1) := by decide +kernel
theorem dX4_addCharger_1 : decode cX4_addCharger 1 = .ok (.iconst 1, 1) := by decide +kernel
theorem dX4_addCharger_2 : decode cX4_addCharger 2 = .ok (.bipush 50, 2) := by decide +kernel
theorem dX4_addCharger_4 : decode cX4_addCharger 4 = .ok (.invokestatic 44, 3) := by decide +kernel
theorem dX4_addCharger_7 : decode cX4_addCharger 7 = .ok (.aload_n 0, 1) := by decide +kernel
theorem dX4_addCharger_8 : decode cX4_addCharger 8 = .ok (.invokevirtual 217, 3) := by decide +kernel
theorem dX4_addCharger_11 : decode cX4_addCharger 11 = .ok (.aload_n 0, 1) := by decide +kernel
theorem dX4_addCharger_12 : decode cX4_addCharger 12 = .ok (.getfield 26, 3) := by decide +kernel
theorem dX4_addCharger_15 : decode cX4_addCharger 15 = .ok (.aload_n 0, 1) := by decide +kernel
theorem dX4_addCharger_16 : decode cX4_addCharger 16 = .ok (.getfield 19, 3) := by decide +kernel
theorem dX4_addCharger_19 : decode cX4_addCharger 19 = .ok (.invokevirtual 209, 3) := by decide +kernel
theorem dX4_addCharger_22 : decode cX4_addCharger 22 = .ok (.aload_n 0, 1) := by decide +kernel
theorem dX4_addCharger_23 : decode cX4_addCharger 23 = .ok (.getfield 19, 3) := by decide +kernel
theorem dX4_addCharger_26 : decode cX4_addCharger 26 = .ok (.iload_n 1, 1) := by decide +kernel
theorem dX4_addCharger_27 : decode cX4_addCharger 27 = .ok (.invokevirtual 220, 3) := by decide +kernel
theorem dX4_addCharger_30 : decode cX4_addCharger 30 = .ok (.ireturn, 1) := by decide +kernel
theorem dX4_route_0 : decode cX4_route 0 = .ok (.aload_n 0, 1) := by decide +kernel
theorem dX4_route_1 : decode cX4_route 1 = .ok (.iload_n 1, 1) := by decide +kernel
theorem dX4_route_2 : decode cX4_route 2 = .ok (.invokevirtual 116, 3) := by decide +kernel
theorem dX4_route_5 : decode cX4_route 5 = .ok (.astore 5, 2) := by decide +kernel
theorem dX4_route_7 : decode cX4_route 7 = .ok (.iload_n 2, 1) := by decide +kernel
theorem dX4_route_8 : decode cX4_route 8 = .ok (.iload_n 3, 1) := by decide +kernel
theorem dX4_route_9 : decode cX4_route 9 = .ok (.iload 4, 2) := by decide +kernel
theorem dX4_route_11 : decode cX4_route 11 = .ok (.invokestatic 223, 3) := by decide +kernel
theorem dX4_route_14 : decode cX4_route 14 = .ok (.ifCond .ne 13, 3) := by decide +kernel
theorem dX4_route_17 : decode cX4_route 17 = .ok (.new 177, 3) := by decide +kernel
theorem dX4_route_20 : decode cX4_route 20 = .ok (.dup, 1) := by decide +kernel
theorem dX4_route_21 : decode cX4_route 21 = .ok (.ldc 227, 2) := by decide +kernel
theorem dX4_route_23 : decode cX4_route 23 = .ok (.invokespecial 181, 3) := by decide +kernel
theorem dX4_route_26 : decode cX4_route 26 = .ok (.athrow, 1) := by decide +kernel
theorem dX4_route_27 : decode cX4_route 27 = .ok (.aload 5, 2) := by decide +kernel
theorem dX4_route_29 : decode cX4_route 29 = .ok (.invokestatic 229, 3) := by decide +kernel
theorem dX4_route_32 : decode cX4_route 32 = .ok (.aload_n 0, 1) := by decide +kernel
theorem dX4_route_33 : decode cX4_route 33 = .ok (.getfield 26, 3) := by decide +kernel
theorem dX4_route_36 : decode cX4_route 36 = .ok (.aload_n 0, 1) := by decide +kernel
theorem dX4_route_37 : decode cX4_route 37 = .ok (.getfield 19, 3) := by decide +kernel
theorem dX4_route_40 : decode cX4_route 40 = .ok (.invokevirtual 209, 3) := by decide +kernel
theorem dX4_route_43 : decode cX4_route 43 = .ok (.aload 5, 2) := by decide +kernel
theorem dX4_route_45 : decode cX4_route 45 = .ok (.getfield 128, 3) := by decide +kernel
theorem dX4_route_48 : decode cX4_route 48 = .ok (.istore 6, 2) := by decide +kernel
theorem dX4_route_50 : decode cX4_route 50 = .ok (.aload 5, 2) := by decide +kernel
theorem dX4_route_52 : decode cX4_route 52 = .ok (.iload_n 2, 1) := by decide +kernel
theorem dX4_route_53 : decode cX4_route 53 = .ok (.iload_n 3, 1) := by decide +kernel
theorem dX4_route_54 : decode cX4_route 54 = .ok (.iload 4, 2) := by decide +kernel
theorem dX4_route_56 : decode cX4_route 56 = .ok (.invokevirtual 233, 3) := by decide +kernel
theorem dX4_route_59 : decode cX4_route 59 = .ok (.iload 6, 2) := by decide +kernel
theorem dX4_route_61 : decode cX4_route 61 = .ok (.ireturn, 1) := by decide +kernel
theorem dX4_battery_0 : decode cX4_battery 0 = .ok (.aload_n 0, 1) := by decide +kernel
theorem dX4_battery_1 : decode cX4_battery 1 = .ok (.iload_n 1, 1) := by decide +kernel
theorem dX4_battery_2 : decode cX4_battery 2 = .ok (.invokevirtual 116, 3) := by decide +kernel
theorem dX4_battery_5 : decode cX4_battery 5 = .ok (.astore_n 3, 1) := by decide +kernel
theorem dX4_battery_6 : decode cX4_battery 6 = .ok (.iload_n 2, 1) := by decide +kernel
theorem dX4_battery_7 : decode cX4_battery 7 = .ok (.bipush 10, 2) := by decide +kernel
theorem dX4_battery_9 : decode cX4_battery 9 = .ok (.sipush 400, 3) := by decide +kernel
theorem dX4_battery_12 : decode cX4_battery 12 = .ok (.invokestatic 44, 3) := by decide +kernel
theorem dX4_battery_15 : decode cX4_battery 15 = .ok (.aload_n 3, 1) := by decide +kernel
theorem dX4_battery_16 : decode cX4_battery 16 = .ok (.invokestatic 229, 3) := by decide +kernel
theorem dX4_battery_19 : decode cX4_battery 19 = .ok (.aload_n 0, 1) := by decide +kernel
theorem dX4_battery_20 : decode cX4_battery 20 = .ok (.getfield 26, 3) := by decide +kernel
theorem dX4_battery_23 : decode cX4_battery 23 = .ok (.aload_n 0, 1) := by decide +kernel
theorem dX4_battery_24 : decode cX4_battery 24 = .ok (.getfield 19, 3) := by decide +kernel
theorem dX4_battery_27 : decode cX4_battery 27 = .ok (.invokevirtual 209, 3) := by decide +kernel
theorem dX4_battery_30 : decode cX4_battery 30 = .ok (.aload_n 3, 1) := by decide +kernel
theorem dX4_battery_31 : decode cX4_battery 31 = .ok (.getfield 120, 3) := by decide +kernel
theorem dX4_battery_34 : decode cX4_battery 34 = .ok (.istore 4, 2) := by decide +kernel
theorem dX4_battery_36 : decode cX4_battery 36 = .ok (.aload_n 3, 1) := by decide +kernel
theorem dX4_battery_37 : decode cX4_battery 37 = .ok (.iload_n 2, 1) := by decide +kernel
theorem dX4_battery_38 : decode cX4_battery 38 = .ok (.invokevirtual 236, 3) := by decide +kernel
theorem dX4_battery_41 : decode cX4_battery 41 = .ok (.iload 4, 2) := by decide +kernel
theorem dX4_battery_43 : decode cX4_battery 43 = .ok (.ireturn, 1) := by decide +kernel
theorem dX4_run_0 : decode cX4_run 0 = .ok (.iload_n 1, 1) := by decide +kernel
theorem dX4_run_1 : decode cX4_run 1 = .ok (.iconst 1, 1) := by decide +kernel
theorem dX4_run_2 : decode cX4_run 2 = .ok (.bipush 48, 2) := by decide +kernel
theorem dX4_run_4 : decode cX4_run 4 = .ok (.invokestatic 44, 3) := by decide +kernel
theorem dX4_run_7 : decode cX4_run 7 = .ok (.aload_n 0, 1) := by decide +kernel
theorem dX4_run_8 : decode cX4_run 8 = .ok (.getfield 26, 3) := by decide +kernel
theorem dX4_run_11 : decode cX4_run 11 = .ok (.aload_n 0, 1) := by decide +kernel
theorem dX4_run_12 : decode cX4_run 12 = .ok (.getfield 19, 3) := by decide +kernel
theorem dX4_run_15 : decode cX4_run 15 = .ok (.invokevirtual 209, 3) := by decide +kernel
theorem dX4_run_18 : decode cX4_run 18 = .ok (.aload_n 0, 1) := by decide +kernel
theorem dX4_run_19 : decode cX4_run 19 = .ok (.getfield 19, 3) := by decide +kernel
theorem dX4_run_22 : decode cX4_run 22 = .ok (.getfield 95, 3) := by decide +kernel
theorem dX4_run_25 : decode cX4_run 25 = .ok (.istore_n 2, 1) := by decide +kernel
theorem dX4_run_26 : decode cX4_run 26 = .ok (.aload_n 0, 1) := by decide +kernel
theorem dX4_run_27 : decode cX4_run 27 = .ok (.getfield 19, 3) := by decide +kernel
theorem dX4_run_30 : decode cX4_run 30 = .ok (.iload_n 1, 1) := by decide +kernel
theorem dX4_run_31 : decode cX4_run 31 = .ok (.invokevirtual 240, 3) := by decide +kernel
theorem dX4_run_34 : decode cX4_run 34 = .ok (.aload_n 0, 1) := by decide +kernel
theorem dX4_run_35 : decode cX4_run 35 = .ok (.getfield 19, 3) := by decide +kernel
theorem dX4_run_38 : decode cX4_run 38 = .ok (.getfield 95, 3) := by decide +kernel
theorem dX4_run_41 : decode cX4_run 41 = .ok (.iload_n 2, 1) := by decide +kernel
theorem dX4_run_42 : decode cX4_run 42 = .ok (.isub, 1) := by decide +kernel
theorem dX4_run_43 : decode cX4_run 43 = .ok (.ireturn, 1) := by decide +kernel
theorem dX4_set_0 : decode cX4_set 0 = .ok (.iload_n 1, 1) := by decide +kernel
theorem dX4_set_1 : decode cX4_set 1 = .ok (.iload_n 2, 1) := by decide +kernel
theorem dX4_set_2 : decode cX4_set 2 = .ok (.invokestatic 243, 3) := by decide +kernel
theorem dX4_set_5 : decode cX4_set 5 = .ok (.ifCond .ne 13, 3) := by decide +kernel
theorem dX4_set_8 : decode cX4_set 8 = .ok (.new 177, 3) := by decide +kernel
theorem dX4_set_11 : decode cX4_set 11 = .ok (.dup, 1) := by decide +kernel
theorem dX4_set_12 : decode cX4_set 12 = .ok (.ldc 247, 2) := by decide +kernel
theorem dX4_set_14 : decode cX4_set 14 = .ok (.invokespecial 181, 3) := by decide +kernel
theorem dX4_set_17 : decode cX4_set 17 = .ok (.athrow, 1) := by decide +kernel
theorem dX4_set_18 : decode cX4_set 18 = .ok (.aload_n 0, 1) := by decide +kernel
theorem dX4_set_19 : decode cX4_set 19 = .ok (.getfield 26, 3) := by decide +kernel
theorem dX4_set_22 : decode cX4_set 22 = .ok (.aload_n 0, 1) := by decide +kernel
theorem dX4_set_23 : decode cX4_set 23 = .ok (.getfield 19, 3) := by decide +kernel
theorem dX4_set_26 : decode cX4_set 26 = .ok (.invokevirtual 209, 3) := by decide +kernel
theorem dX4_set_29 : decode cX4_set 29 = .ok (.aload_n 0, 1) := by decide +kernel
theorem dX4_set_30 : decode cX4_set 30 = .ok (.getfield 19, 3) := by decide +kernel
theorem dX4_set_33 : decode cX4_set 33 = .ok (.iload_n 1, 1) := by decide +kernel
theorem dX4_set_34 : decode cX4_set 34 = .ok (.invokevirtual 195, 3) := by decide +kernel
theorem dX4_set_37 : decode cX4_set 37 = .ok (.istore_n 3, 1) := by decide +kernel
theorem dX4_set_38 : decode cX4_set 38 = .ok (.aload_n 0, 1) := by decide +kernel
theorem dX4_set_39 : decode cX4_set 39 = .ok (.getfield 19, 3) := by decide +kernel
theorem dX4_set_42 : decode cX4_set 42 = .ok (.iload_n 1, 1) := by decide +kernel
theorem dX4_set_43 : decode cX4_set 43 = .ok (.iload_n 2, 1) := by decide +kernel
theorem dX4_set_44 : decode cX4_set 44 = .ok (.invokevirtual 249, 3) := by decide +kernel
theorem dX4_set_47 : decode cX4_set 47 = .ok (.iload_n 3, 1) := by decide +kernel
theorem dX4_set_48 : decode cX4_set 48 = .ok (.ireturn, 1) := by decide +kernel
theorem dX4_undo_0 : decode cX4_undo 0 = .ok (.aload_n 0, 1) := by decide +kernel
theorem dX4_undo_1 : decode cX4_undo 1 = .ok (.getfield 26, 3) := by decide +kernel
theorem dX4_undo_4 : decode cX4_undo 4 = .ok (.invokevirtual 253, 3) := by decide +kernel
theorem dX4_undo_7 : decode cX4_undo 7 = .ok (.ifCond .eq 14, 3) := by decide +kernel
theorem dX4_undo_10 : decode cX4_undo 10 = .ok (.new 52, 3) := by decide +kernel
theorem dX4_undo_13 : decode cX4_undo 13 = .ok (.dup, 1) := by decide +kernel
theorem dX4_undo_14 : decode cX4_undo 14 = .ok (.ldc_w 256, 3) := by decide +kernel
theorem dX4_undo_17 : decode cX4_undo 17 = .ok (.invokespecial 56, 3) := by decide +kernel
theorem dX4_undo_20 : decode cX4_undo 20 = .ok (.athrow, 1) := by decide +kernel
theorem dX4_undo_21 : decode cX4_undo 21 = .ok (.aload_n 0, 1) := by decide +kernel
theorem dX4_undo_22 : decode cX4_undo 22 = .ok (.getfield 26, 3) := by decide +kernel
theorem dX4_undo_25 : decode cX4_undo 25 = .ok (.aload_n 0, 1) := by decide +kernel
theorem dX4_undo_26 : decode cX4_undo 26 = .ok (.getfield 19, 3) := by decide +kernel
theorem dX4_undo_29 : decode cX4_undo 29 = .ok (.invokevirtual 258, 3) := by decide +kernel
theorem dX4_undo_32 : decode cX4_undo 32 = .ok (.ireturn, 1) := by decide +kernel
theorem dX4_coming_0 : decode cX4_coming 0 = .ok (.iload_n 1, 1) := by decide +kernel
theorem dX4_coming_1 : decode cX4_coming 1 = .ok (.iconst 1, 1) := by decide +kernel
theorem dX4_coming_2 : decode cX4_coming 2 = .ok (.bipush 72, 2) := by decide +kernel
theorem dX4_coming_4 : decode cX4_coming 4 = .ok (.invokestatic 44, 3) := by decide +kernel
theorem dX4_coming_7 : decode cX4_coming 7 = .ok (.iload_n 2, 1) := by decide +kernel
theorem dX4_coming_8 : decode cX4_coming 8 = .ok (.iconst 0, 1) := by decide +kernel
theorem dX4_coming_9 : decode cX4_coming 9 = .ok (.iconst 3, 1) := by decide +kernel
theorem dX4_coming_10 : decode cX4_coming 10 = .ok (.invokestatic 44, 3) := by decide +kernel
theorem dX4_coming_13 : decode cX4_coming 13 = .ok (.aload_n 0, 1) := by decide +kernel
theorem dX4_coming_14 : decode cX4_coming 14 = .ok (.getfield 38, 3) := by decide +kernel
theorem dX4_coming_17 : decode cX4_coming 17 = .ok (.aload_n 0, 1) := by decide +kernel
theorem dX4_coming_18 : decode cX4_coming 18 = .ok (.getfield 19, 3) := by decide +kernel
theorem dX4_coming_21 : decode cX4_coming 21 = .ok (.invokevirtual 261, 3) := by decide +kernel
theorem dX4_coming_24 : decode cX4_coming 24 = .ok (.aload_n 0, 1) := by decide +kernel
theorem dX4_coming_25 : decode cX4_coming 25 = .ok (.getfield 38, 3) := by decide +kernel
theorem dX4_coming_28 : decode cX4_coming 28 = .ok (.iload_n 1, 1) := by decide +kernel
theorem dX4_coming_29 : decode cX4_coming 29 = .ok (.invokevirtual 240, 3) := by decide +kernel
theorem dX4_coming_32 : decode cX4_coming 32 = .ok (.iload_n 2, 1) := by decide +kernel
theorem dX4_coming_33 : decode cX4_coming 33 = .ok (.tableswitch 75 0 2 #[27, 43, 59], 27) := by decide +kernel
theorem dX4_coming_60 : decode cX4_coming 60 = .ok (.aload_n 0, 1) := by decide +kernel
theorem dX4_coming_61 : decode cX4_coming 61 = .ok (.getfield 38, 3) := by decide +kernel
theorem dX4_coming_64 : decode cX4_coming 64 = .ok (.getfield 92, 3) := by decide +kernel
theorem dX4_coming_67 : decode cX4_coming 67 = .ok (.aload_n 0, 1) := by decide +kernel
theorem dX4_coming_68 : decode cX4_coming 68 = .ok (.getfield 19, 3) := by decide +kernel
theorem dX4_coming_71 : decode cX4_coming 71 = .ok (.getfield 92, 3) := by decide +kernel
theorem dX4_coming_74 : decode cX4_coming 74 = .ok (.isub, 1) := by decide +kernel
theorem dX4_coming_75 : decode cX4_coming 75 = .ok (.ireturn, 1) := by decide +kernel
theorem dX4_coming_76 : decode cX4_coming 76 = .ok (.aload_n 0, 1) := by decide +kernel
theorem dX4_coming_77 : decode cX4_coming 77 = .ok (.getfield 38, 3) := by decide +kernel
theorem dX4_coming_80 : decode cX4_coming 80 = .ok (.getfield 95, 3) := by decide +kernel
theorem dX4_coming_83 : decode cX4_coming 83 = .ok (.aload_n 0, 1) := by decide +kernel
theorem dX4_coming_84 : decode cX4_coming 84 = .ok (.getfield 19, 3) := by decide +kernel
theorem dX4_coming_87 : decode cX4_coming 87 = .ok (.getfield 95, 3) := by decide +kernel
theorem dX4_coming_90 : decode cX4_coming 90 = .ok (.isub, 1) := by decide +kernel
theorem dX4_coming_91 : decode cX4_coming 91 = .ok (.ireturn, 1) := by decide +kernel
theorem dX4_coming_92 : decode cX4_coming 92 = .ok (.aload_n 0, 1) := by decide +kernel
theorem dX4_coming_93 : decode cX4_coming 93 = .ok (.getfield 38, 3) := by decide +kernel
theorem dX4_coming_96 : decode cX4_coming 96 = .ok (.getfield 98, 3) := by decide +kernel
theorem dX4_coming_99 : decode cX4_coming 99 = .ok (.aload_n 0, 1) := by decide +kernel
theorem dX4_coming_100 : decode cX4_coming 100 = .ok (.getfield 19, 3) := by decide +kernel
theorem dX4_coming_103 : decode cX4_coming 103 = .ok (.getfield 98, 3) := by decide +kernel
theorem dX4_coming_106 : decode cX4_coming 106 = .ok (.isub, 1) := by decide +kernel
theorem dX4_coming_107 : decode cX4_coming 107 = .ok (.ireturn, 1) := by decide +kernel
theorem dX4_coming_108 : decode cX4_coming 108 = .ok (.aload_n 0, 1) := by decide +kernel
theorem dX4_coming_109 : decode cX4_coming 109 = .ok (.getfield 38, 3) := by decide +kernel
theorem dX4_coming_112 : decode cX4_coming 112 = .ok (.getfield 101, 3) := by decide +kernel
theorem dX4_coming_115 : decode cX4_coming 115 = .ok (.aload_n 0, 1) := by decide +kernel
theorem dX4_coming_116 : decode cX4_coming 116 = .ok (.getfield 19, 3) := by decide +kernel
theorem dX4_coming_119 : decode cX4_coming 119 = .ok (.getfield 101, 3) := by decide +kernel
theorem dX4_coming_122 : decode cX4_coming 122 = .ok (.isub, 1) := by decide +kernel
theorem dX4_coming_123 : decode cX4_coming 123 = .ok (.ireturn, 1) := by decide +kernel
theorem dX4_firstMissed_0 : decode cX4_firstMissed 0 = .ok (.aload_n 0, 1) := by decide +kernel
theorem dX4_firstMissed_1 : decode cX4_firstMissed 1 = .ok (.iload_n 1, 1) := by decide +kernel
theorem dX4_firstMissed_2 : decode cX4_firstMissed 2 = .ok (.invokevirtual 116, 3) := by decide +kernel
theorem dX4_firstMissed_5 : decode cX4_firstMissed 5 = .ok (.pop, 1) := by decide +kernel
theorem dX4_firstMissed_6 : decode cX4_firstMissed 6 = .ok (.aload_n 0, 1) := by decide +kernel
theorem dX4_firstMissed_7 : decode cX4_firstMissed 7 = .ok (.getfield 38, 3) := by decide +kernel
theorem dX4_firstMissed_10 : decode cX4_firstMissed 10 = .ok (.aload_n 0, 1) := by decide +kernel
theorem dX4_firstMissed_11 : decode cX4_firstMissed 11 = .ok (.getfield 19, 3) := by decide +kernel
theorem dX4_firstMissed_14 : decode cX4_firstMissed 14 = .ok (.invokevirtual 261, 3) := by decide +kernel
theorem dX4_firstMissed_17 : decode cX4_firstMissed 17 = .ok (.iconst 0, 1) := by decide +kernel
theorem dX4_firstMissed_18 : decode cX4_firstMissed 18 = .ok (.istore_n 2, 1) := by decide +kernel
theorem dX4_firstMissed_19 : decode cX4_firstMissed 19 = .ok (.iload_n 2, 1) := by decide +kernel
theorem dX4_firstMissed_20 : decode cX4_firstMissed 20 = .ok (.bipush 72, 2) := by decide +kernel
theorem dX4_firstMissed_22 : decode cX4_firstMissed 22 = .ok (.if_icmp .ge 36, 3) := by decide +kernel
theorem dX4_firstMissed_25 : decode cX4_firstMissed 25 = .ok (.aload_n 0, 1) := by decide +kernel
theorem dX4_firstMissed_26 : decode cX4_firstMissed 26 = .ok (.getfield 38, 3) := by decide +kernel
theorem dX4_firstMissed_29 : decode cX4_firstMissed 29 = .ok (.iload_n 1, 1) := by decide +kernel
theorem dX4_firstMissed_30 : decode cX4_firstMissed 30 = .ok (.invokevirtual 264, 3) := by decide +kernel
theorem dX4_firstMissed_33 : decode cX4_firstMissed 33 = .ok (.ifCond .eq 11, 3) := by decide +kernel
theorem dX4_firstMissed_36 : decode cX4_firstMissed 36 = .ok (.aload_n 0, 1) := by decide +kernel
theorem dX4_firstMissed_37 : decode cX4_firstMissed 37 = .ok (.getfield 38, 3) := by decide +kernel
theorem dX4_firstMissed_40 : decode cX4_firstMissed 40 = .ok (.getfield 89, 3) := by decide +kernel
theorem dX4_firstMissed_43 : decode cX4_firstMissed 43 = .ok (.ireturn, 1) := by decide +kernel
theorem dX4_firstMissed_44 : decode cX4_firstMissed 44 = .ok (.aload_n 0, 1) := by decide +kernel
theorem dX4_firstMissed_45 : decode cX4_firstMissed 45 = .ok (.getfield 38, 3) := by decide +kernel
theorem dX4_firstMissed_48 : decode cX4_firstMissed 48 = .ok (.iconst 1, 1) := by decide +kernel
theorem dX4_firstMissed_49 : decode cX4_firstMissed 49 = .ok (.invokevirtual 240, 3) := by decide +kernel
theorem dX4_firstMissed_52 : decode cX4_firstMissed 52 = .ok (.iinc 2 1, 3) := by decide +kernel
theorem dX4_firstMissed_55 : decode cX4_firstMissed 55 = .ok (.goto (-36), 3) := by decide +kernel
theorem dX4_firstMissed_58 : decode cX4_firstMissed 58 = .ok (.iconst (-1), 1) := by decide +kernel
theorem dX4_firstMissed_59 : decode cX4_firstMissed 59 = .ok (.ireturn, 1) := by decide +kernel
theorem dX4_leastLimit_0 : decode cX4_leastLimit 0 = .ok (.iload_n 1, 1) := by decide +kernel
theorem dX4_leastLimit_1 : decode cX4_leastLimit 1 = .ok (.iconst 1, 1) := by decide +kernel
theorem dX4_leastLimit_2 : decode cX4_leastLimit 2 = .ok (.bipush 72, 2) := by decide +kernel
theorem dX4_leastLimit_4 : decode cX4_leastLimit 4 = .ok (.invokestatic 44, 3) := by decide +kernel
theorem dX4_leastLimit_7 : decode cX4_leastLimit 7 = .ok (.getstatic 267, 3) := by decide +kernel
theorem dX4_leastLimit_10 : decode cX4_leastLimit 10 = .ok (.iconst 0, 1) := by decide +kernel
theorem dX4_leastLimit_11 : decode cX4_leastLimit 11 = .ok (.iaload, 1) := by decide +kernel
theorem dX4_leastLimit_12 : decode cX4_leastLimit 12 = .ok (.istore_n 2, 1) := by decide +kernel
theorem dX4_leastLimit_13 : decode cX4_leastLimit 13 = .ok (.iload_n 2, 1) := by decide +kernel
theorem dX4_leastLimit_14 : decode cX4_leastLimit 14 = .ok (.getstatic 271, 3) := by decide +kernel
theorem dX4_leastLimit_17 : decode cX4_leastLimit 17 = .ok (.iconst 0, 1) := by decide +kernel
theorem dX4_leastLimit_18 : decode cX4_leastLimit 18 = .ok (.iaload, 1) := by decide +kernel
theorem dX4_leastLimit_19 : decode cX4_leastLimit 19 = .ok (.if_icmp .gt 20, 3) := by decide +kernel
theorem dX4_leastLimit_22 : decode cX4_leastLimit 22 = .ok (.aload_n 0, 1) := by decide +kernel
theorem dX4_leastLimit_23 : decode cX4_leastLimit 23 = .ok (.iload_n 2, 1) := by decide +kernel
theorem dX4_leastLimit_24 : decode cX4_leastLimit 24 = .ok (.iload_n 1, 1) := by decide +kernel
theorem dX4_leastLimit_25 : decode cX4_leastLimit 25 = .ok (.invokevirtual 274, 3) := by decide +kernel
theorem dX4_leastLimit_28 : decode cX4_leastLimit 28 = .ok (.ifCond .eq 5, 3) := by decide +kernel
theorem dX4_leastLimit_31 : decode cX4_leastLimit 31 = .ok (.iload_n 2, 1) := by decide +kernel
theorem dX4_leastLimit_32 : decode cX4_leastLimit 32 = .ok (.ireturn, 1) := by decide +kernel
theorem dX4_leastLimit_33 : decode cX4_leastLimit 33 = .ok (.iinc 2 10, 3) := by decide +kernel
theorem dX4_leastLimit_36 : decode cX4_leastLimit 36 = .ok (.goto (-23), 3) := by decide +kernel
theorem dX4_leastLimit_39 : decode cX4_leastLimit 39 = .ok (.iconst (-1), 1) := by decide +kernel
theorem dX4_leastLimit_40 : decode cX4_leastLimit 40 = .ok (.ireturn, 1) := by decide +kernel
theorem dX4_bestNight_0 : decode cX4_bestNight 0 = .ok (.iload_n 1, 1) := by decide +kernel
theorem dX4_bestNight_1 : decode cX4_bestNight 1 = .ok (.iconst 1, 1) := by decide +kernel
theorem dX4_bestNight_2 : decode cX4_bestNight 2 = .ok (.bipush 72, 2) := by decide +kernel
theorem dX4_bestNight_4 : decode cX4_bestNight 4 = .ok (.invokestatic 44, 3) := by decide +kernel
theorem dX4_bestNight_7 : decode cX4_bestNight 7 = .ok (.iconst 0, 1) := by decide +kernel
theorem dX4_bestNight_8 : decode cX4_bestNight 8 = .ok (.istore_n 2, 1) := by decide +kernel
theorem dX4_bestNight_9 : decode cX4_bestNight 9 = .ok (.aload_n 0, 1) := by decide +kernel
theorem dX4_bestNight_10 : decode cX4_bestNight 10 = .ok (.iconst 0, 1) := by decide +kernel
theorem dX4_bestNight_11 : decode cX4_bestNight 11 = .ok (.iload_n 1, 1) := by decide +kernel
theorem dX4_bestNight_12 : decode cX4_bestNight 12 = .ok (.invokevirtual 277, 3) := by decide +kernel
theorem dX4_bestNight_15 : decode cX4_bestNight 15 = .ok (.istore_n 3, 1) := by decide +kernel
theorem dX4_bestNight_16 : decode cX4_bestNight 16 = .ok (.iconst 1, 1) := by decide +kernel
theorem dX4_bestNight_17 : decode cX4_bestNight 17 = .ok (.istore 4, 2) := by decide +kernel
theorem dX4_bestNight_19 : decode cX4_bestNight 19 = .ok (.iload 4, 2) := by decide +kernel
theorem dX4_bestNight_21 : decode cX4_bestNight 21 = .ok (.bipush 24, 2) := by decide +kernel
theorem dX4_bestNight_23 : decode cX4_bestNight 23 = .ok (.if_icmp .ge 30, 3) := by decide +kernel
theorem dX4_bestNight_26 : decode cX4_bestNight 26 = .ok (.aload_n 0, 1) := by decide +kernel
theorem dX4_bestNight_27 : decode cX4_bestNight 27 = .ok (.iload 4, 2) := by decide +kernel
theorem dX4_bestNight_29 : decode cX4_bestNight 29 = .ok (.iload_n 1, 1) := by decide +kernel
theorem dX4_bestNight_30 : decode cX4_bestNight 30 = .ok (.invokevirtual 277, 3) := by decide +kernel
theorem dX4_bestNight_33 : decode cX4_bestNight 33 = .ok (.istore 5, 2) := by decide +kernel
theorem dX4_bestNight_35 : decode cX4_bestNight 35 = .ok (.iload 5, 2) := by decide +kernel
theorem dX4_bestNight_37 : decode cX4_bestNight 37 = .ok (.iload_n 3, 1) := by decide +kernel
theorem dX4_bestNight_38 : decode cX4_bestNight 38 = .ok (.if_icmp .ge 9, 3) := by decide +kernel
theorem dX4_bestNight_41 : decode cX4_bestNight 41 = .ok (.iload 4, 2) := by decide +kernel
theorem dX4_bestNight_43 : decode cX4_bestNight 43 = .ok (.istore_n 2, 1) := by decide +kernel
theorem dX4_bestNight_44 : decode cX4_bestNight 44 = .ok (.iload 5, 2) := by decide +kernel
theorem dX4_bestNight_46 : decode cX4_bestNight 46 = .ok (.istore_n 3, 1) := by decide +kernel
theorem dX4_bestNight_47 : decode cX4_bestNight 47 = .ok (.iinc 4 1, 3) := by decide +kernel
theorem dX4_bestNight_50 : decode cX4_bestNight 50 = .ok (.goto (-31), 3) := by decide +kernel
theorem dX4_bestNight_53 : decode cX4_bestNight 53 = .ok (.iload_n 2, 1) := by decide +kernel
theorem dX4_bestNight_54 : decode cX4_bestNight 54 = .ok (.ireturn, 1) := by decide +kernel
theorem dX4_ifPlugged_0 : decode cX4_ifPlugged 0 = .ok (.iload_n 1, 1) := by decide +kernel
theorem dX4_ifPlugged_1 : decode cX4_ifPlugged 1 = .ok (.iconst 1, 1) := by decide +kernel
theorem dX4_ifPlugged_2 : decode cX4_ifPlugged 2 = .ok (.bipush 50, 2) := by decide +kernel
theorem dX4_ifPlugged_4 : decode cX4_ifPlugged 4 = .ok (.invokestatic 44, 3) := by decide +kernel
theorem dX4_ifPlugged_7 : decode cX4_ifPlugged 7 = .ok (.iload_n 2, 1) := by decide +kernel
theorem dX4_ifPlugged_8 : decode cX4_ifPlugged 8 = .ok (.iconst 1, 1) := by decide +kernel
theorem dX4_ifPlugged_9 : decode cX4_ifPlugged 9 = .ok (.bipush 72, 2) := by decide +kernel
theorem dX4_ifPlugged_11 : decode cX4_ifPlugged 11 = .ok (.invokestatic 44, 3) := by decide +kernel
theorem dX4_ifPlugged_14 : decode cX4_ifPlugged 14 = .ok (.aload_n 0, 1) := by decide +kernel
theorem dX4_ifPlugged_15 : decode cX4_ifPlugged 15 = .ok (.invokevirtual 217, 3) := by decide +kernel
theorem dX4_ifPlugged_18 : decode cX4_ifPlugged 18 = .ok (.aload_n 0, 1) := by decide +kernel
theorem dX4_ifPlugged_19 : decode cX4_ifPlugged 19 = .ok (.getfield 38, 3) := by decide +kernel
theorem dX4_ifPlugged_22 : decode cX4_ifPlugged 22 = .ok (.aload_n 0, 1) := by decide +kernel
theorem dX4_ifPlugged_23 : decode cX4_ifPlugged 23 = .ok (.getfield 19, 3) := by decide +kernel
theorem dX4_ifPlugged_26 : decode cX4_ifPlugged 26 = .ok (.invokevirtual 261, 3) := by decide +kernel
theorem dX4_ifPlugged_29 : decode cX4_ifPlugged 29 = .ok (.aload_n 0, 1) := by decide +kernel
theorem dX4_ifPlugged_30 : decode cX4_ifPlugged 30 = .ok (.getfield 38, 3) := by decide +kernel
theorem dX4_ifPlugged_33 : decode cX4_ifPlugged 33 = .ok (.iload_n 1, 1) := by decide +kernel
theorem dX4_ifPlugged_34 : decode cX4_ifPlugged 34 = .ok (.invokevirtual 220, 3) := by decide +kernel
theorem dX4_ifPlugged_37 : decode cX4_ifPlugged 37 = .ok (.pop, 1) := by decide +kernel
theorem dX4_ifPlugged_38 : decode cX4_ifPlugged 38 = .ok (.aload_n 0, 1) := by decide +kernel
theorem dX4_ifPlugged_39 : decode cX4_ifPlugged 39 = .ok (.getfield 38, 3) := by decide +kernel
theorem dX4_ifPlugged_42 : decode cX4_ifPlugged 42 = .ok (.iload_n 2, 1) := by decide +kernel
theorem dX4_ifPlugged_43 : decode cX4_ifPlugged 43 = .ok (.invokevirtual 240, 3) := by decide +kernel
theorem dX4_ifPlugged_46 : decode cX4_ifPlugged 46 = .ok (.aload_n 0, 1) := by decide +kernel
theorem dX4_ifPlugged_47 : decode cX4_ifPlugged 47 = .ok (.getfield 38, 3) := by decide +kernel
theorem dX4_ifPlugged_50 : decode cX4_ifPlugged 50 = .ok (.getfield 98, 3) := by decide +kernel
theorem dX4_ifPlugged_53 : decode cX4_ifPlugged 53 = .ok (.aload_n 0, 1) := by decide +kernel
theorem dX4_ifPlugged_54 : decode cX4_ifPlugged 54 = .ok (.getfield 19, 3) := by decide +kernel
theorem dX4_ifPlugged_57 : decode cX4_ifPlugged 57 = .ok (.getfield 98, 3) := by decide +kernel
theorem dX4_ifPlugged_60 : decode cX4_ifPlugged 60 = .ok (.isub, 1) := by decide +kernel
theorem dX4_ifPlugged_61 : decode cX4_ifPlugged 61 = .ok (.ireturn, 1) := by decide +kernel
theorem dX4_runScript_0 : decode cX4_runScript 0 = .ok (.iload_n 1, 1) := by decide +kernel
theorem dX4_runScript_1 : decode cX4_runScript 1 = .ok (.iconst 1, 1) := by decide +kernel
theorem dX4_runScript_2 : decode cX4_runScript 2 = .ok (.iconst 3, 1) := by decide +kernel
theorem dX4_runScript_3 : decode cX4_runScript 3 = .ok (.invokestatic 44, 3) := by decide +kernel
theorem dX4_runScript_6 : decode cX4_runScript 6 = .ok (.lload_n 2, 1) := by decide +kernel
theorem dX4_runScript_7 : decode cX4_runScript 7 = .ok (.lconst 0, 1) := by decide +kernel
theorem dX4_runScript_8 : decode cX4_runScript 8 = .ok (.lcmp, 1) := by decide +kernel
theorem dX4_runScript_9 : decode cX4_runScript 9 = .ok (.ifCond .lt 13, 3) := by decide +kernel
theorem dX4_runScript_12 : decode cX4_runScript 12 = .ok (.lload_n 2, 1) := by decide +kernel
theorem dX4_runScript_13 : decode cX4_runScript 13 = .ok (.iload_n 1, 1) := by decide +kernel
theorem dX4_runScript_14 : decode cX4_runScript 14 = .ok (.invokestatic 281, 3) := by decide +kernel
theorem dX4_runScript_17 : decode cX4_runScript 17 = .ok (.lconst 0, 1) := by decide +kernel
theorem dX4_runScript_18 : decode cX4_runScript 18 = .ok (.lcmp, 1) := by decide +kernel
theorem dX4_runScript_19 : decode cX4_runScript 19 = .ok (.ifCond .eq 14, 3) := by decide +kernel
theorem dX4_runScript_22 : decode cX4_runScript 22 = .ok (.new 177, 3) := by decide +kernel
theorem dX4_runScript_25 : decode cX4_runScript 25 = .ok (.dup, 1) := by decide +kernel
theorem dX4_runScript_26 : decode cX4_runScript 26 = .ok (.ldc_w 285, 3) := by decide +kernel
theorem dX4_runScript_29 : decode cX4_runScript 29 = .ok (.invokespecial 181, 3) := by decide +kernel
theorem dX4_runScript_32 : decode cX4_runScript 32 = .ok (.athrow, 1) := by decide +kernel
theorem dX4_runScript_33 : decode cX4_runScript 33 = .ok (.aload_n 0, 1) := by decide +kernel
theorem dX4_runScript_34 : decode cX4_runScript 34 = .ok (.getfield 38, 3) := by decide +kernel
theorem dX4_runScript_37 : decode cX4_runScript 37 = .ok (.aload_n 0, 1) := by decide +kernel
theorem dX4_runScript_38 : decode cX4_runScript 38 = .ok (.getfield 19, 3) := by decide +kernel
theorem dX4_runScript_41 : decode cX4_runScript 41 = .ok (.invokevirtual 261, 3) := by decide +kernel
theorem dX4_runScript_44 : decode cX4_runScript 44 = .ok (.iconst 0, 1) := by decide +kernel
theorem dX4_runScript_45 : decode cX4_runScript 45 = .ok (.istore 4, 2) := by decide +kernel
theorem dX4_runScript_47 : decode cX4_runScript 47 = .ok (.iload 4, 2) := by decide +kernel
theorem dX4_runScript_49 : decode cX4_runScript 49 = .ok (.iload_n 1, 1) := by decide +kernel
theorem dX4_runScript_50 : decode cX4_runScript 50 = .ok (.if_icmp .ge 38, 3) := by decide +kernel
theorem dX4_runScript_53 : decode cX4_runScript 53 = .ok (.lload_n 2, 1) := by decide +kernel
theorem dX4_runScript_54 : decode cX4_runScript 54 = .ok (.iload_n 1, 1) := by decide +kernel
theorem dX4_runScript_55 : decode cX4_runScript 55 = .ok (.iconst 1, 1) := by decide +kernel
theorem dX4_runScript_56 : decode cX4_runScript 56 = .ok (.isub, 1) := by decide +kernel
theorem dX4_runScript_57 : decode cX4_runScript 57 = .ok (.iload 4, 2) := by decide +kernel
theorem dX4_runScript_59 : decode cX4_runScript 59 = .ok (.isub, 1) := by decide +kernel
theorem dX4_runScript_60 : decode cX4_runScript 60 = .ok (.invokestatic 281, 3) := by decide +kernel
theorem dX4_runScript_63 : decode cX4_runScript 63 = .ok (.ldc2_w 287, 3) := by decide +kernel
theorem dX4_runScript_66 : decode cX4_runScript 66 = .ok (.lrem, 1) := by decide +kernel
theorem dX4_runScript_67 : decode cX4_runScript 67 = .ok (.l2i, 1) := by decide +kernel
theorem dX4_runScript_68 : decode cX4_runScript 68 = .ok (.istore 5, 2) := by decide +kernel
theorem dX4_runScript_70 : decode cX4_runScript 70 = .ok (.aload_n 0, 1) := by decide +kernel
theorem dX4_runScript_71 : decode cX4_runScript 71 = .ok (.iload 5, 2) := by decide +kernel
theorem dX4_runScript_73 : decode cX4_runScript 73 = .ok (.invokevirtual 289, 3) := by decide +kernel
theorem dX4_runScript_76 : decode cX4_runScript 76 = .ok (.ifCond .ne 6, 3) := by decide +kernel
theorem dX4_runScript_79 : decode cX4_runScript 79 = .ok (.iload 4, 2) := by decide +kernel
theorem dX4_runScript_81 : decode cX4_runScript 81 = .ok (.ireturn, 1) := by decide +kernel
theorem dX4_runScript_82 : decode cX4_runScript 82 = .ok (.iinc 4 1, 3) := by decide +kernel
theorem dX4_runScript_85 : decode cX4_runScript 85 = .ok (.goto (-38), 3) := by decide +kernel
theorem dX4_runScript_88 : decode cX4_runScript 88 = .ok (.iconst (-1), 1) := by decide +kernel
theorem dX4_runScript_89 : decode cX4_runScript 89 = .ok (.ireturn, 1) := by decide +kernel
theorem dX4_simulate_0 : decode cX4_simulate 0 = .ok (.iload_n 3, 1) := by decide +kernel
theorem dX4_simulate_1 : decode cX4_simulate 1 = .ok (.iconst 1, 1) := by decide +kernel
theorem dX4_simulate_2 : decode cX4_simulate 2 = .ok (.bipush 30, 2) := by decide +kernel
theorem dX4_simulate_4 : decode cX4_simulate 4 = .ok (.invokestatic 44, 3) := by decide +kernel
theorem dX4_simulate_7 : decode cX4_simulate 7 = .ok (.aload_n 0, 1) := by decide +kernel
theorem dX4_simulate_8 : decode cX4_simulate 8 = .ok (.getfield 38, 3) := by decide +kernel
theorem dX4_simulate_11 : decode cX4_simulate 11 = .ok (.aload_n 0, 1) := by decide +kernel
theorem dX4_simulate_12 : decode cX4_simulate 12 = .ok (.getfield 19, 3) := by decide +kernel
theorem dX4_simulate_15 : decode cX4_simulate 15 = .ok (.invokevirtual 261, 3) := by decide +kernel
theorem dX4_simulate_18 : decode cX4_simulate 18 = .ok (.lload_n 1, 1) := by decide +kernel
theorem dX4_simulate_19 : decode cX4_simulate 19 = .ok (.lstore 4, 2) := by decide +kernel
theorem dX4_simulate_21 : decode cX4_simulate 21 = .ok (.iconst 0, 1) := by decide +kernel
theorem dX4_simulate_22 : decode cX4_simulate 22 = .ok (.istore 6, 2) := by decide +kernel
theorem dX4_simulate_24 : decode cX4_simulate 24 = .ok (.iload 6, 2) := by decide +kernel
theorem dX4_simulate_26 : decode cX4_simulate 26 = .ok (.iload_n 3, 1) := by decide +kernel
theorem dX4_simulate_27 : decode cX4_simulate 27 = .ok (.if_icmp .ge 31, 3) := by decide +kernel
theorem dX4_simulate_30 : decode cX4_simulate 30 = .ok (.lload 4, 2) := by decide +kernel
theorem dX4_simulate_32 : decode cX4_simulate 32 = .ok (.ldc2_w 292, 3) := by decide +kernel
theorem dX4_simulate_35 : decode cX4_simulate 35 = .ok (.lmul, 1) := by decide +kernel
theorem dX4_simulate_36 : decode cX4_simulate 36 = .ok (.ldc2_w 294, 3) := by decide +kernel
theorem dX4_simulate_39 : decode cX4_simulate 39 = .ok (.ladd, 1) := by decide +kernel
theorem dX4_simulate_40 : decode cX4_simulate 40 = .ok (.lstore 4, 2) := by decide +kernel
theorem dX4_simulate_42 : decode cX4_simulate 42 = .ok (.aload_n 0, 1) := by decide +kernel
theorem dX4_simulate_43 : decode cX4_simulate 43 = .ok (.lload 4, 2) := by decide +kernel
theorem dX4_simulate_45 : decode cX4_simulate 45 = .ok (.bipush 33, 2) := by decide +kernel
theorem dX4_simulate_47 : decode cX4_simulate 47 = .ok (.lushr, 1) := by decide +kernel
theorem dX4_simulate_48 : decode cX4_simulate 48 = .ok (.l2i, 1) := by decide +kernel
theorem dX4_simulate_49 : decode cX4_simulate 49 = .ok (.invokevirtual 296, 3) := by decide +kernel
theorem dX4_simulate_52 : decode cX4_simulate 52 = .ok (.iinc 6 1, 3) := by decide +kernel
theorem dX4_simulate_55 : decode cX4_simulate 55 = .ok (.goto (-31), 3) := by decide +kernel
theorem dX4_simulate_58 : decode cX4_simulate 58 = .ok (.sipush 1000, 3) := by decide +kernel
theorem dX4_simulate_61 : decode cX4_simulate 61 = .ok (.aload_n 0, 1) := by decide +kernel
theorem dX4_simulate_62 : decode cX4_simulate 62 = .ok (.getfield 38, 3) := by decide +kernel
theorem dX4_simulate_65 : decode cX4_simulate 65 = .ok (.getfield 98, 3) := by decide +kernel
theorem dX4_simulate_68 : decode cX4_simulate 68 = .ok (.aload_n 0, 1) := by decide +kernel
theorem dX4_simulate_69 : decode cX4_simulate 69 = .ok (.getfield 19, 3) := by decide +kernel
theorem dX4_simulate_72 : decode cX4_simulate 72 = .ok (.getfield 98, 3) := by decide +kernel
theorem dX4_simulate_75 : decode cX4_simulate 75 = .ok (.isub, 1) := by decide +kernel
theorem dX4_simulate_76 : decode cX4_simulate 76 = .ok (.imul, 1) := by decide +kernel
theorem dX4_simulate_77 : decode cX4_simulate 77 = .ok (.aload_n 0, 1) := by decide +kernel
theorem dX4_simulate_78 : decode cX4_simulate 78 = .ok (.getfield 38, 3) := by decide +kernel
theorem dX4_simulate_81 : decode cX4_simulate 81 = .ok (.getfield 101, 3) := by decide +kernel
theorem dX4_simulate_84 : decode cX4_simulate 84 = .ok (.aload_n 0, 1) := by decide +kernel
theorem dX4_simulate_85 : decode cX4_simulate 85 = .ok (.getfield 19, 3) := by decide +kernel
theorem dX4_simulate_88 : decode cX4_simulate 88 = .ok (.getfield 101, 3) := by decide +kernel
theorem dX4_simulate_91 : decode cX4_simulate 91 = .ok (.isub, 1) := by decide +kernel
theorem dX4_simulate_92 : decode cX4_simulate 92 = .ok (.iadd, 1) := by decide +kernel
theorem dX4_simulate_93 : decode cX4_simulate 93 = .ok (.ireturn, 1) := by decide +kernel
theorem dX4_save_0 : decode cX4_save 0 = .ok (.iload_n 1, 1) := by decide +kernel
theorem dX4_save_1 : decode cX4_save 1 = .ok (.invokestatic 299, 3) := by decide +kernel
theorem dX4_save_4 : decode cX4_save 4 = .ok (.aload_n 0, 1) := by decide +kernel
theorem dX4_save_5 : decode cX4_save 5 = .ok (.getfield 30, 3) := by decide +kernel
theorem dX4_save_8 : decode cX4_save 8 = .ok (.iload_n 1, 1) := by decide +kernel
theorem dX4_save_9 : decode cX4_save 9 = .ok (.aaload, 1) := by decide +kernel
theorem dX4_save_10 : decode cX4_save 10 = .ok (.aload_n 0, 1) := by decide +kernel
theorem dX4_save_11 : decode cX4_save 11 = .ok (.getfield 19, 3) := by decide +kernel
theorem dX4_save_14 : decode cX4_save 14 = .ok (.invokevirtual 261, 3) := by decide +kernel
theorem dX4_save_17 : decode cX4_save 17 = .ok (.aload_n 0, 1) := by decide +kernel
theorem dX4_save_18 : decode cX4_save 18 = .ok (.getfield 34, 3) := by decide +kernel
theorem dX4_save_21 : decode cX4_save 21 = .ok (.iload_n 1, 1) := by decide +kernel
theorem dX4_save_22 : decode cX4_save 22 = .ok (.iconst 1, 1) := by decide +kernel
theorem dX4_save_23 : decode cX4_save 23 = .ok (.bastore, 1) := by decide +kernel
theorem dX4_save_24 : decode cX4_save 24 = .ok (.aload_n 0, 1) := by decide +kernel
theorem dX4_save_25 : decode cX4_save 25 = .ok (.getfield 19, 3) := by decide +kernel
theorem dX4_save_28 : decode cX4_save 28 = .ok (.getfield 89, 3) := by decide +kernel
theorem dX4_save_31 : decode cX4_save 31 = .ok (.ireturn, 1) := by decide +kernel
theorem dX4_restore_0 : decode cX4_restore 0 = .ok (.iload_n 1, 1) := by decide +kernel
theorem dX4_restore_1 : decode cX4_restore 1 = .ok (.invokestatic 299, 3) := by decide +kernel
theorem dX4_restore_4 : decode cX4_restore 4 = .ok (.aload_n 0, 1) := by decide +kernel
theorem dX4_restore_5 : decode cX4_restore 5 = .ok (.getfield 34, 3) := by decide +kernel
theorem dX4_restore_8 : decode cX4_restore 8 = .ok (.iload_n 1, 1) := by decide +kernel
theorem dX4_restore_9 : decode cX4_restore 9 = .ok (.baload, 1) := by decide +kernel
theorem dX4_restore_10 : decode cX4_restore 10 = .ok (.ifCond .ne 14, 3) := by decide +kernel
theorem dX4_restore_13 : decode cX4_restore 13 = .ok (.new 52, 3) := by decide +kernel
theorem dX4_restore_16 : decode cX4_restore 16 = .ok (.dup, 1) := by decide +kernel
theorem dX4_restore_17 : decode cX4_restore 17 = .ok (.ldc_w 302, 3) := by decide +kernel
theorem dX4_restore_20 : decode cX4_restore 20 = .ok (.invokespecial 56, 3) := by decide +kernel
theorem dX4_restore_23 : decode cX4_restore 23 = .ok (.athrow, 1) := by decide +kernel
theorem dX4_restore_24 : decode cX4_restore 24 = .ok (.aload_n 0, 1) := by decide +kernel
theorem dX4_restore_25 : decode cX4_restore 25 = .ok (.getfield 19, 3) := by decide +kernel
theorem dX4_restore_28 : decode cX4_restore 28 = .ok (.aload_n 0, 1) := by decide +kernel
theorem dX4_restore_29 : decode cX4_restore 29 = .ok (.getfield 30, 3) := by decide +kernel
theorem dX4_restore_32 : decode cX4_restore 32 = .ok (.iload_n 1, 1) := by decide +kernel
theorem dX4_restore_33 : decode cX4_restore 33 = .ok (.aaload, 1) := by decide +kernel
theorem dX4_restore_34 : decode cX4_restore 34 = .ok (.invokevirtual 261, 3) := by decide +kernel
theorem dX4_restore_37 : decode cX4_restore 37 = .ok (.aload_n 0, 1) := by decide +kernel
theorem dX4_restore_38 : decode cX4_restore 38 = .ok (.getfield 26, 3) := by decide +kernel
theorem dX4_restore_41 : decode cX4_restore 41 = .ok (.invokevirtual 75, 3) := by decide +kernel
theorem dX4_restore_44 : decode cX4_restore 44 = .ok (.aload_n 0, 1) := by decide +kernel
theorem dX4_restore_45 : decode cX4_restore 45 = .ok (.getfield 19, 3) := by decide +kernel
theorem dX4_restore_48 : decode cX4_restore 48 = .ok (.getfield 89, 3) := by decide +kernel
theorem dX4_restore_51 : decode cX4_restore 51 = .ok (.ireturn, 1) := by decide +kernel
theorem dX4_requireWithin_0 : decode cX4_requireWithin 0 = .ok (.iload_n 0, 1) := by decide +kernel
theorem dX4_requireWithin_1 : decode cX4_requireWithin 1 = .ok (.iload_n 1, 1) := by decide +kernel
theorem dX4_requireWithin_2 : decode cX4_requireWithin 2 = .ok (.iload_n 2, 1) := by decide +kernel
theorem dX4_requireWithin_3 : decode cX4_requireWithin 3 = .ok (.invokestatic 304, 3) := by decide +kernel
theorem dX4_requireWithin_6 : decode cX4_requireWithin 6 = .ok (.ifCond .ne 14, 3) := by decide +kernel
theorem dX4_requireWithin_9 : decode cX4_requireWithin 9 = .ok (.new 177, 3) := by decide +kernel
theorem dX4_requireWithin_12 : decode cX4_requireWithin 12 = .ok (.dup, 1) := by decide +kernel
theorem dX4_requireWithin_13 : decode cX4_requireWithin 13 = .ok (.ldc_w 307, 3) := by decide +kernel
theorem dX4_requireWithin_16 : decode cX4_requireWithin 16 = .ok (.invokespecial 181, 3) := by decide +kernel
theorem dX4_requireWithin_19 : decode cX4_requireWithin 19 = .ok (.athrow, 1) := by decide +kernel
theorem dX4_requireWithin_20 : decode cX4_requireWithin 20 = .ok (.return_, 1) := by decide +kernel
theorem dX4_requireBus_0 : decode cX4_requireBus 0 = .ok (.aload_n 0, 1) := by decide +kernel
theorem dX4_requireBus_1 : decode cX4_requireBus 1 = .ok (.getfield 19, 3) := by decide +kernel
theorem dX4_requireBus_4 : decode cX4_requireBus 4 = .ok (.iload_n 1, 1) := by decide +kernel
theorem dX4_requireBus_5 : decode cX4_requireBus 5 = .ok (.invokevirtual 309, 3) := by decide +kernel
theorem dX4_requireBus_8 : decode cX4_requireBus 8 = .ok (.astore_n 2, 1) := by decide +kernel
theorem dX4_requireBus_9 : decode cX4_requireBus 9 = .ok (.aload_n 2, 1) := by decide +kernel
theorem dX4_requireBus_10 : decode cX4_requireBus 10 = .ok (.ifnonnull 14, 3) := by decide +kernel
theorem dX4_requireBus_13 : decode cX4_requireBus 13 = .ok (.new 163, 3) := by decide +kernel
theorem dX4_requireBus_16 : decode cX4_requireBus 16 = .ok (.dup, 1) := by decide +kernel
theorem dX4_requireBus_17 : decode cX4_requireBus 17 = .ok (.ldc_w 312, 3) := by decide +kernel
theorem dX4_requireBus_20 : decode cX4_requireBus 20 = .ok (.invokespecial 167, 3) := by decide +kernel
theorem dX4_requireBus_23 : decode cX4_requireBus 23 = .ok (.athrow, 1) := by decide +kernel
theorem dX4_requireBus_24 : decode cX4_requireBus 24 = .ok (.aload_n 2, 1) := by decide +kernel
theorem dX4_requireBus_25 : decode cX4_requireBus 25 = .ok (.areturn, 1) := by decide +kernel
theorem dX4_requireInDepot_0 : decode cX4_requireInDepot 0 = .ok (.aload_n 0, 1) := by decide +kernel
theorem dX4_requireInDepot_1 : decode cX4_requireInDepot 1 = .ok (.getfield 140, 3) := by decide +kernel
theorem dX4_requireInDepot_4 : decode cX4_requireInDepot 4 = .ok (.ifCond .eq 14, 3) := by decide +kernel
theorem dX4_requireInDepot_7 : decode cX4_requireInDepot 7 = .ok (.new 52, 3) := by decide +kernel
theorem dX4_requireInDepot_10 : decode cX4_requireInDepot 10 = .ok (.dup, 1) := by decide +kernel
theorem dX4_requireInDepot_11 : decode cX4_requireInDepot 11 = .ok (.ldc_w 314, 3) := by decide +kernel
theorem dX4_requireInDepot_14 : decode cX4_requireInDepot 14 = .ok (.invokespecial 56, 3) := by decide +kernel
theorem dX4_requireInDepot_17 : decode cX4_requireInDepot 17 = .ok (.athrow, 1) := by decide +kernel
theorem dX4_requireInDepot_18 : decode cX4_requireInDepot 18 = .ok (.return_, 1) := by decide +kernel
theorem dX4_requireRoomForCharger_0 : decode cX4_requireRoomForCharger 0 = .ok (.aload_n 0, 1) := by decide +kernel
theorem dX4_requireRoomForCharger_1 : decode cX4_requireRoomForCharger 1 = .ok (.getfield 19, 3) := by decide +kernel
theorem dX4_requireRoomForCharger_4 : decode cX4_requireRoomForCharger 4 = .ok (.invokevirtual 316, 3) := by decide +kernel
theorem dX4_requireRoomForCharger_7 : decode cX4_requireRoomForCharger 7 = .ok (.ifCond .eq 14, 3) := by decide +kernel
theorem dX4_requireRoomForCharger_10 : decode cX4_requireRoomForCharger 10 = .ok (.new 52, 3) := by decide +kernel
theorem dX4_requireRoomForCharger_13 : decode cX4_requireRoomForCharger 13 = .ok (.dup, 1) := by decide +kernel
theorem dX4_requireRoomForCharger_14 : decode cX4_requireRoomForCharger 14 = .ok (.ldc_w 319, 3) := by decide +kernel
theorem dX4_requireRoomForCharger_17 : decode cX4_requireRoomForCharger 17 = .ok (.invokespecial 56, 3) := by decide +kernel
theorem dX4_requireRoomForCharger_20 : decode cX4_requireRoomForCharger 20 = .ok (.athrow, 1) := by decide +kernel
theorem dX4_requireRoomForCharger_21 : decode cX4_requireRoomForCharger 21 = .ok (.return_, 1) := by decide +kernel
theorem dX4_requireSlot_0 : decode cX4_requireSlot 0 = .ok (.iload_n 0, 1) := by decide +kernel
theorem dX4_requireSlot_1 : decode cX4_requireSlot 1 = .ok (.iconst 0, 1) := by decide +kernel
theorem dX4_requireSlot_2 : decode cX4_requireSlot 2 = .ok (.iconst 1, 1) := by decide +kernel
theorem dX4_requireSlot_3 : decode cX4_requireSlot 3 = .ok (.invokestatic 304, 3) := by decide +kernel
theorem dX4_requireSlot_6 : decode cX4_requireSlot 6 = .ok (.ifCond .ne 14, 3) := by decide +kernel
theorem dX4_requireSlot_9 : decode cX4_requireSlot 9 = .ok (.new 163, 3) := by decide +kernel
theorem dX4_requireSlot_12 : decode cX4_requireSlot 12 = .ok (.dup, 1) := by decide +kernel
theorem dX4_requireSlot_13 : decode cX4_requireSlot 13 = .ok (.ldc_w 321, 3) := by decide +kernel
theorem dX4_requireSlot_16 : decode cX4_requireSlot 16 = .ok (.invokespecial 167, 3) := by decide +kernel
theorem dX4_requireSlot_19 : decode cX4_requireSlot 19 = .ok (.athrow, 1) := by decide +kernel
theorem dX4_requireSlot_20 : decode cX4_requireSlot 20 = .ok (.return_, 1) := by decide +kernel
theorem dX4_isWithin_0 : decode cX4_isWithin 0 = .ok (.iload_n 0, 1) := by decide +kernel
theorem dX4_isWithin_1 : decode cX4_isWithin 1 = .ok (.iload_n 1, 1) := by decide +kernel
theorem dX4_isWithin_2 : decode cX4_isWithin 2 = .ok (.if_icmp .lt 12, 3) := by decide +kernel
theorem dX4_isWithin_5 : decode cX4_isWithin 5 = .ok (.iload_n 0, 1) := by decide +kernel
theorem dX4_isWithin_6 : decode cX4_isWithin 6 = .ok (.iload_n 2, 1) := by decide +kernel
theorem dX4_isWithin_7 : decode cX4_isWithin 7 = .ok (.if_icmp .gt 7, 3) := by decide +kernel
theorem dX4_isWithin_10 : decode cX4_isWithin 10 = .ok (.iconst 1, 1) := by decide +kernel
theorem dX4_isWithin_11 : decode cX4_isWithin 11 = .ok (.goto 4, 3) := by decide +kernel
theorem dX4_isWithin_14 : decode cX4_isWithin 14 = .ok (.iconst 0, 1) := by decide +kernel
theorem dX4_isWithin_15 : decode cX4_isWithin 15 = .ok (.ireturn, 1) := by decide +kernel
theorem dX4_isRoute_0 : decode cX4_isRoute 0 = .ok (.iload_n 0, 1) := by decide +kernel
theorem dX4_isRoute_1 : decode cX4_isRoute 1 = .ok (.iconst 1, 1) := by decide +kernel
theorem dX4_isRoute_2 : decode cX4_isRoute 2 = .ok (.sipush 400, 3) := by decide +kernel
theorem dX4_isRoute_5 : decode cX4_isRoute 5 = .ok (.invokestatic 304, 3) := by decide +kernel
theorem dX4_isRoute_8 : decode cX4_isRoute 8 = .ok (.ifCond .eq 32, 3) := by decide +kernel
theorem dX4_isRoute_11 : decode cX4_isRoute 11 = .ok (.iload_n 1, 1) := by decide +kernel
theorem dX4_isRoute_12 : decode cX4_isRoute 12 = .ok (.iconst 0, 1) := by decide +kernel
theorem dX4_isRoute_13 : decode cX4_isRoute 13 = .ok (.bipush 23, 2) := by decide +kernel
theorem dX4_isRoute_15 : decode cX4_isRoute 15 = .ok (.invokestatic 304, 3) := by decide +kernel
theorem dX4_isRoute_18 : decode cX4_isRoute 18 = .ok (.ifCond .eq 22, 3) := by decide +kernel
theorem dX4_isRoute_21 : decode cX4_isRoute 21 = .ok (.iload_n 2, 1) := by decide +kernel
theorem dX4_isRoute_22 : decode cX4_isRoute 22 = .ok (.iconst 0, 1) := by decide +kernel
theorem dX4_isRoute_23 : decode cX4_isRoute 23 = .ok (.bipush 23, 2) := by decide +kernel
theorem dX4_isRoute_25 : decode cX4_isRoute 25 = .ok (.invokestatic 304, 3) := by decide +kernel
theorem dX4_isRoute_28 : decode cX4_isRoute 28 = .ok (.ifCond .eq 12, 3) := by decide +kernel
theorem dX4_isRoute_31 : decode cX4_isRoute 31 = .ok (.iload_n 1, 1) := by decide +kernel
theorem dX4_isRoute_32 : decode cX4_isRoute 32 = .ok (.iload_n 2, 1) := by decide +kernel
theorem dX4_isRoute_33 : decode cX4_isRoute 33 = .ok (.if_icmp .eq 7, 3) := by decide +kernel
theorem dX4_isRoute_36 : decode cX4_isRoute 36 = .ok (.iconst 1, 1) := by decide +kernel
theorem dX4_isRoute_37 : decode cX4_isRoute 37 = .ok (.goto 4, 3) := by decide +kernel
theorem dX4_isRoute_40 : decode cX4_isRoute 40 = .ok (.iconst 0, 1) := by decide +kernel
theorem dX4_isRoute_41 : decode cX4_isRoute 41 = .ok (.ireturn, 1) := by decide +kernel
theorem dX4_isBus_0 : decode cX4_isBus 0 = .ok (.iload_n 0, 1) := by decide +kernel
theorem dX4_isBus_1 : decode cX4_isBus 1 = .ok (.bipush 10, 2) := by decide +kernel
theorem dX4_isBus_3 : decode cX4_isBus 3 = .ok (.sipush 400, 3) := by decide +kernel
theorem dX4_isBus_6 : decode cX4_isBus 6 = .ok (.invokestatic 304, 3) := by decide +kernel
theorem dX4_isBus_9 : decode cX4_isBus 9 = .ok (.ifCond .eq 26, 3) := by decide +kernel
theorem dX4_isBus_12 : decode cX4_isBus 12 = .ok (.iload_n 1, 1) := by decide +kernel
theorem dX4_isBus_13 : decode cX4_isBus 13 = .ok (.iconst 0, 1) := by decide +kernel
theorem dX4_isBus_14 : decode cX4_isBus 14 = .ok (.iload_n 0, 1) := by decide +kernel
theorem dX4_isBus_15 : decode cX4_isBus 15 = .ok (.invokestatic 304, 3) := by decide +kernel
theorem dX4_isBus_18 : decode cX4_isBus 18 = .ok (.ifCond .eq 17, 3) := by decide +kernel
theorem dX4_isBus_21 : decode cX4_isBus 21 = .ok (.iload_n 2, 1) := by decide +kernel
theorem dX4_isBus_22 : decode cX4_isBus 22 = .ok (.iload_n 3, 1) := by decide +kernel
theorem dX4_isBus_23 : decode cX4_isBus 23 = .ok (.iload 4, 2) := by decide +kernel
theorem dX4_isBus_25 : decode cX4_isBus 25 = .ok (.invokestatic 223, 3) := by decide +kernel
theorem dX4_isBus_28 : decode cX4_isBus 28 = .ok (.ifCond .eq 7, 3) := by decide +kernel
theorem dX4_isBus_31 : decode cX4_isBus 31 = .ok (.iconst 1, 1) := by decide +kernel
theorem dX4_isBus_32 : decode cX4_isBus 32 = .ok (.goto 4, 3) := by decide +kernel
theorem dX4_isBus_35 : decode cX4_isBus 35 = .ok (.iconst 0, 1) := by decide +kernel
theorem dX4_isBus_36 : decode cX4_isBus 36 = .ok (.ireturn, 1) := by decide +kernel
theorem dX4_isSetting_0 : decode cX4_isSetting 0 = .ok (.iload_n 0, 1) := by decide +kernel
theorem dX4_isSetting_1 : decode cX4_isSetting 1 = .ok (.iconst 0, 1) := by decide +kernel
theorem dX4_isSetting_2 : decode cX4_isSetting 2 = .ok (.iconst 5, 1) := by decide +kernel
theorem dX4_isSetting_3 : decode cX4_isSetting 3 = .ok (.invokestatic 304, 3) := by decide +kernel
theorem dX4_isSetting_6 : decode cX4_isSetting 6 = .ok (.ifCond .eq 24, 3) := by decide +kernel
theorem dX4_isSetting_9 : decode cX4_isSetting 9 = .ok (.iload_n 1, 1) := by decide +kernel
theorem dX4_isSetting_10 : decode cX4_isSetting 10 = .ok (.getstatic 267, 3) := by decide +kernel
theorem dX4_isSetting_13 : decode cX4_isSetting 13 = .ok (.iload_n 0, 1) := by decide +kernel
theorem dX4_isSetting_14 : decode cX4_isSetting 14 = .ok (.iaload, 1) := by decide +kernel
theorem dX4_isSetting_15 : decode cX4_isSetting 15 = .ok (.getstatic 271, 3) := by decide +kernel
theorem dX4_isSetting_18 : decode cX4_isSetting 18 = .ok (.iload_n 0, 1) := by decide +kernel
theorem dX4_isSetting_19 : decode cX4_isSetting 19 = .ok (.iaload, 1) := by decide +kernel
theorem dX4_isSetting_20 : decode cX4_isSetting 20 = .ok (.invokestatic 304, 3) := by decide +kernel
theorem dX4_isSetting_23 : decode cX4_isSetting 23 = .ok (.ifCond .eq 7, 3) := by decide +kernel
theorem dX4_isSetting_26 : decode cX4_isSetting 26 = .ok (.iconst 1, 1) := by decide +kernel
theorem dX4_isSetting_27 : decode cX4_isSetting 27 = .ok (.goto 4, 3) := by decide +kernel
theorem dX4_isSetting_30 : decode cX4_isSetting 30 = .ok (.iconst 0, 1) := by decide +kernel
theorem dX4_isSetting_31 : decode cX4_isSetting 31 = .ok (.ireturn, 1) := by decide +kernel
theorem dX4_previewOf_0 : decode cX4_previewOf 0 = .ok (.aload_n 0, 1) := by decide +kernel
theorem dX4_previewOf_1 : decode cX4_previewOf 1 = .ok (.getfield 41, 3) := by decide +kernel
theorem dX4_previewOf_4 : decode cX4_previewOf 4 = .ok (.aload_n 1, 1) := by decide +kernel
theorem dX4_previewOf_5 : decode cX4_previewOf 5 = .ok (.invokevirtual 261, 3) := by decide +kernel
theorem dX4_previewOf_8 : decode cX4_previewOf 8 = .ok (.aload_n 0, 1) := by decide +kernel
theorem dX4_previewOf_9 : decode cX4_previewOf 9 = .ok (.getfield 41, 3) := by decide +kernel
theorem dX4_previewOf_12 : decode cX4_previewOf 12 = .ok (.invokevirtual 323, 3) := by decide +kernel
theorem dX4_previewOf_15 : decode cX4_previewOf 15 = .ok (.aload_n 0, 1) := by decide +kernel
theorem dX4_previewOf_16 : decode cX4_previewOf 16 = .ok (.getfield 41, 3) := by decide +kernel
theorem dX4_previewOf_19 : decode cX4_previewOf 19 = .ok (.invokevirtual 326, 3) := by decide +kernel
theorem dX4_previewOf_22 : decode cX4_previewOf 22 = .ok (.aload_n 0, 1) := by decide +kernel
theorem dX4_previewOf_23 : decode cX4_previewOf 23 = .ok (.getfield 41, 3) := by decide +kernel
theorem dX4_previewOf_26 : decode cX4_previewOf 26 = .ok (.invokevirtual 329, 3) := by decide +kernel
theorem dX4_previewOf_29 : decode cX4_previewOf 29 = .ok (.aload_n 0, 1) := by decide +kernel
theorem dX4_previewOf_30 : decode cX4_previewOf 30 = .ok (.getfield 41, 3) := by decide +kernel
theorem dX4_previewOf_33 : decode cX4_previewOf 33 = .ok (.areturn, 1) := by decide +kernel
theorem dX4_signOf_0 : decode cX4_signOf 0 = .ok (.new 187, 3) := by decide +kernel
theorem dX4_signOf_3 : decode cX4_signOf 3 = .ok (.dup, 1) := by decide +kernel
theorem dX4_signOf_4 : decode cX4_signOf 4 = .ok (.invokespecial 332, 3) := by decide +kernel
theorem dX4_signOf_7 : decode cX4_signOf 7 = .ok (.astore_n 2, 1) := by decide +kernel
theorem dX4_signOf_8 : decode cX4_signOf 8 = .ok (.aload_n 2, 1) := by decide +kernel
theorem dX4_signOf_9 : decode cX4_signOf 9 = .ok (.bipush 98, 2) := by decide +kernel
theorem dX4_signOf_11 : decode cX4_signOf 11 = .ok (.invokevirtual 333, 3) := by decide +kernel
theorem dX4_signOf_14 : decode cX4_signOf 14 = .ok (.iload_n 0, 1) := by decide +kernel
theorem dX4_signOf_15 : decode cX4_signOf 15 = .ok (.invokevirtual 337, 3) := by decide +kernel
theorem dX4_signOf_18 : decode cX4_signOf 18 = .ok (.bipush 32, 2) := by decide +kernel
theorem dX4_signOf_20 : decode cX4_signOf 20 = .ok (.invokevirtual 333, 3) := by decide +kernel
theorem dX4_signOf_23 : decode cX4_signOf 23 = .ok (.aload_n 1, 1) := by decide +kernel
theorem dX4_signOf_24 : decode cX4_signOf 24 = .ok (.getfield 125, 3) := by decide +kernel
theorem dX4_signOf_27 : decode cX4_signOf 27 = .ok (.invokevirtual 337, 3) := by decide +kernel
theorem dX4_signOf_30 : decode cX4_signOf 30 = .ok (.pop, 1) := by decide +kernel
theorem dX4_signOf_31 : decode cX4_signOf 31 = .ok (.aload_n 1, 1) := by decide +kernel
theorem dX4_signOf_32 : decode cX4_signOf 32 = .ok (.getfield 125, 3) := by decide +kernel
theorem dX4_signOf_35 : decode cX4_signOf 35 = .ok (.bipush 100, 2) := by decide +kernel
theorem dX4_signOf_37 : decode cX4_signOf 37 = .ok (.if_icmp .lt 10, 3) := by decide +kernel
theorem dX4_signOf_40 : decode cX4_signOf 40 = .ok (.aload_n 2, 1) := by decide +kernel
theorem dX4_signOf_41 : decode cX4_signOf 41 = .ok (.bipush 33, 2) := by decide +kernel
theorem dX4_signOf_43 : decode cX4_signOf 43 = .ok (.invokevirtual 333, 3) := by decide +kernel
theorem dX4_signOf_46 : decode cX4_signOf 46 = .ok (.pop, 1) := by decide +kernel
theorem dX4_signOf_47 : decode cX4_signOf 47 = .ok (.aload_n 2, 1) := by decide +kernel
theorem dX4_signOf_48 : decode cX4_signOf 48 = .ok (.bipush 47, 2) := by decide +kernel
theorem dX4_signOf_50 : decode cX4_signOf 50 = .ok (.invokevirtual 333, 3) := by decide +kernel
theorem dX4_signOf_53 : decode cX4_signOf 53 = .ok (.aload_n 1, 1) := by decide +kernel
theorem dX4_signOf_54 : decode cX4_signOf 54 = .ok (.getfield 120, 3) := by decide +kernel
theorem dX4_signOf_57 : decode cX4_signOf 57 = .ok (.invokevirtual 337, 3) := by decide +kernel
theorem dX4_signOf_60 : decode cX4_signOf 60 = .ok (.bipush 32, 2) := by decide +kernel
theorem dX4_signOf_62 : decode cX4_signOf 62 = .ok (.invokevirtual 333, 3) := by decide +kernel
theorem dX4_signOf_65 : decode cX4_signOf 65 = .ok (.aload_n 1, 1) := by decide +kernel
theorem dX4_signOf_66 : decode cX4_signOf 66 = .ok (.invokevirtual 340, 3) := by decide +kernel
theorem dX4_signOf_69 : decode cX4_signOf 69 = .ok (.invokevirtual 344, 3) := by decide +kernel
theorem dX4_signOf_72 : decode cX4_signOf 72 = .ok (.areturn, 1) := by decide +kernel
theorem dX4_wouldDo_0 : decode cX4_wouldDo 0 = .ok (.aload_n 0, 1) := by decide +kernel
theorem dX4_wouldDo_1 : decode cX4_wouldDo 1 = .ok (.getfield 38, 3) := by decide +kernel
theorem dX4_wouldDo_4 : decode cX4_wouldDo 4 = .ok (.aload_n 0, 1) := by decide +kernel
theorem dX4_wouldDo_5 : decode cX4_wouldDo 5 = .ok (.getfield 19, 3) := by decide +kernel
theorem dX4_wouldDo_8 : decode cX4_wouldDo 8 = .ok (.invokevirtual 261, 3) := by decide +kernel
theorem dX4_wouldDo_11 : decode cX4_wouldDo 11 = .ok (.aload_n 0, 1) := by decide +kernel
theorem dX4_wouldDo_12 : decode cX4_wouldDo 12 = .ok (.getfield 38, 3) := by decide +kernel
theorem dX4_wouldDo_15 : decode cX4_wouldDo 15 = .ok (.iconst 0, 1) := by decide +kernel
theorem dX4_wouldDo_16 : decode cX4_wouldDo 16 = .ok (.iload_n 1, 1) := by decide +kernel
theorem dX4_wouldDo_17 : decode cX4_wouldDo 17 = .ok (.invokevirtual 249, 3) := by decide +kernel
theorem dX4_wouldDo_20 : decode cX4_wouldDo 20 = .ok (.iconst 0, 1) := by decide +kernel
theorem dX4_wouldDo_21 : decode cX4_wouldDo 21 = .ok (.istore_n 3, 1) := by decide +kernel
theorem dX4_wouldDo_22 : decode cX4_wouldDo 22 = .ok (.iload_n 3, 1) := by decide +kernel
theorem dX4_wouldDo_23 : decode cX4_wouldDo 23 = .ok (.iload_n 2, 1) := by decide +kernel
theorem dX4_wouldDo_24 : decode cX4_wouldDo 24 = .ok (.if_icmp .ge 36, 3) := by decide +kernel
theorem dX4_wouldDo_27 : decode cX4_wouldDo 27 = .ok (.aload_n 0, 1) := by decide +kernel
theorem dX4_wouldDo_28 : decode cX4_wouldDo 28 = .ok (.getfield 38, 3) := by decide +kernel
theorem dX4_wouldDo_31 : decode cX4_wouldDo 31 = .ok (.iconst 1, 1) := by decide +kernel
theorem dX4_wouldDo_32 : decode cX4_wouldDo 32 = .ok (.invokevirtual 240, 3) := by decide +kernel
theorem dX4_wouldDo_35 : decode cX4_wouldDo 35 = .ok (.aload_n 0, 1) := by decide +kernel
theorem dX4_wouldDo_36 : decode cX4_wouldDo 36 = .ok (.getfield 38, 3) := by decide +kernel
theorem dX4_wouldDo_39 : decode cX4_wouldDo 39 = .ok (.getfield 98, 3) := by decide +kernel
theorem dX4_wouldDo_42 : decode cX4_wouldDo 42 = .ok (.aload_n 0, 1) := by decide +kernel
theorem dX4_wouldDo_43 : decode cX4_wouldDo 43 = .ok (.getfield 19, 3) := by decide +kernel
theorem dX4_wouldDo_46 : decode cX4_wouldDo 46 = .ok (.getfield 98, 3) := by decide +kernel
theorem dX4_wouldDo_49 : decode cX4_wouldDo 49 = .ok (.if_icmp .eq 5, 3) := by decide +kernel
theorem dX4_wouldDo_52 : decode cX4_wouldDo 52 = .ok (.iconst 0, 1) := by decide +kernel
theorem dX4_wouldDo_53 : decode cX4_wouldDo 53 = .ok (.ireturn, 1) := by decide +kernel
theorem dX4_wouldDo_54 : decode cX4_wouldDo 54 = .ok (.iinc 3 1, 3) := by decide +kernel
theorem dX4_wouldDo_57 : decode cX4_wouldDo 57 = .ok (.goto (-35), 3) := by decide +kernel
theorem dX4_wouldDo_60 : decode cX4_wouldDo 60 = .ok (.iconst 1, 1) := by decide +kernel
theorem dX4_wouldDo_61 : decode cX4_wouldDo 61 = .ok (.ireturn, 1) := by decide +kernel
theorem dX4_costOfNight_0 : decode cX4_costOfNight 0 = .ok (.aload_n 0, 1) := by decide +kernel
theorem dX4_costOfNight_1 : decode cX4_costOfNight 1 = .ok (.getfield 38, 3) := by decide +kernel
theorem dX4_costOfNight_4 : decode cX4_costOfNight 4 = .ok (.aload_n 0, 1) := by decide +kernel
theorem dX4_costOfNight_5 : decode cX4_costOfNight 5 = .ok (.getfield 19, 3) := by decide +kernel
theorem dX4_costOfNight_8 : decode cX4_costOfNight 8 = .ok (.invokevirtual 261, 3) := by decide +kernel
theorem dX4_costOfNight_11 : decode cX4_costOfNight 11 = .ok (.aload_n 0, 1) := by decide +kernel
theorem dX4_costOfNight_12 : decode cX4_costOfNight 12 = .ok (.getfield 38, 3) := by decide +kernel
theorem dX4_costOfNight_15 : decode cX4_costOfNight 15 = .ok (.iconst 5, 1) := by decide +kernel
theorem dX4_costOfNight_16 : decode cX4_costOfNight 16 = .ok (.iload_n 1, 1) := by decide +kernel
theorem dX4_costOfNight_17 : decode cX4_costOfNight 17 = .ok (.invokevirtual 249, 3) := by decide +kernel
theorem dX4_costOfNight_20 : decode cX4_costOfNight 20 = .ok (.aload_n 0, 1) := by decide +kernel
theorem dX4_costOfNight_21 : decode cX4_costOfNight 21 = .ok (.getfield 38, 3) := by decide +kernel
theorem dX4_costOfNight_24 : decode cX4_costOfNight 24 = .ok (.iload_n 2, 1) := by decide +kernel
theorem dX4_costOfNight_25 : decode cX4_costOfNight 25 = .ok (.invokevirtual 240, 3) := by decide +kernel
theorem dX4_costOfNight_28 : decode cX4_costOfNight 28 = .ok (.aload_n 0, 1) := by decide +kernel
theorem dX4_costOfNight_29 : decode cX4_costOfNight 29 = .ok (.getfield 38, 3) := by decide +kernel
theorem dX4_costOfNight_32 : decode cX4_costOfNight 32 = .ok (.getfield 92, 3) := by decide +kernel
theorem dX4_costOfNight_35 : decode cX4_costOfNight 35 = .ok (.aload_n 0, 1) := by decide +kernel
theorem dX4_costOfNight_36 : decode cX4_costOfNight 36 = .ok (.getfield 19, 3) := by decide +kernel
theorem dX4_costOfNight_39 : decode cX4_costOfNight 39 = .ok (.getfield 92, 3) := by decide +kernel
theorem dX4_costOfNight_42 : decode cX4_costOfNight 42 = .ok (.isub, 1) := by decide +kernel
theorem dX4_costOfNight_43 : decode cX4_costOfNight 43 = .ok (.ireturn, 1) := by decide +kernel
theorem dX4_groupsFrom_0 : decode cX4_groupsFrom 0 = .ok (.lload_n 0, 1) := by decide +kernel
theorem dX4_groupsFrom_1 : decode cX4_groupsFrom 1 = .ok (.lstore_n 3, 1) := by decide +kernel
theorem dX4_groupsFrom_2 : decode cX4_groupsFrom 2 = .ok (.iconst 0, 1) := by decide +kernel
theorem dX4_groupsFrom_3 : decode cX4_groupsFrom 3 = .ok (.istore 5, 2) := by decide +kernel
theorem dX4_groupsFrom_5 : decode cX4_groupsFrom 5 = .ok (.iload 5, 2) := by decide +kernel
theorem dX4_groupsFrom_7 : decode cX4_groupsFrom 7 = .ok (.iload_n 2, 1) := by decide +kernel
theorem dX4_groupsFrom_8 : decode cX4_groupsFrom 8 = .ok (.if_icmp .ge 15, 3) := by decide +kernel
theorem dX4_groupsFrom_11 : decode cX4_groupsFrom 11 = .ok (.lload_n 3, 1) := by decide +kernel
theorem dX4_groupsFrom_12 : decode cX4_groupsFrom 12 = .ok (.ldc2_w 287, 3) := by decide +kernel
theorem dX4_groupsFrom_15 : decode cX4_groupsFrom 15 = .ok (.ldiv, 1) := by decide +kernel
theorem dX4_groupsFrom_16 : decode cX4_groupsFrom 16 = .ok (.lstore_n 3, 1) := by decide +kernel
theorem dX4_groupsFrom_17 : decode cX4_groupsFrom 17 = .ok (.iinc 5 1, 3) := by decide +kernel
theorem dX4_groupsFrom_20 : decode cX4_groupsFrom 20 = .ok (.goto (-15), 3) := by decide +kernel
theorem dX4_groupsFrom_23 : decode cX4_groupsFrom 23 = .ok (.lload_n 3, 1) := by decide +kernel
theorem dX4_groupsFrom_24 : decode cX4_groupsFrom 24 = .ok (.lreturn, 1) := by decide +kernel
theorem dX4_succeeds_0 : decode cX4_succeeds 0 = .ok (.iload_n 1, 1) := by decide +kernel
theorem dX4_succeeds_1 : decode cX4_succeeds 1 = .ok (.sipush 10000, 3) := by decide +kernel
theorem dX4_succeeds_4 : decode cX4_succeeds 4 = .ok (.irem, 1) := by decide +kernel
theorem dX4_succeeds_5 : decode cX4_succeeds 5 = .ok (.istore_n 2, 1) := by decide +kernel
theorem dX4_succeeds_6 : decode cX4_succeeds 6 = .ok (.iload_n 2, 1) := by decide +kernel
theorem dX4_succeeds_7 : decode cX4_succeeds 7 = .ok (.sipush 1000, 3) := by decide +kernel
theorem dX4_succeeds_10 : decode cX4_succeeds 10 = .ok (.idiv, 1) := by decide +kernel
theorem dX4_succeeds_11 : decode cX4_succeeds 11 = .ok (.istore_n 3, 1) := by decide +kernel
theorem dX4_succeeds_12 : decode cX4_succeeds 12 = .ok (.iload_n 2, 1) := by decide +kernel
theorem dX4_succeeds_13 : decode cX4_succeeds 13 = .ok (.sipush 1000, 3) := by decide +kernel
theorem dX4_succeeds_16 : decode cX4_succeeds 16 = .ok (.irem, 1) := by decide +kernel
theorem dX4_succeeds_17 : decode cX4_succeeds 17 = .ok (.istore 4, 2) := by decide +kernel
theorem dX4_succeeds_19 : decode cX4_succeeds 19 = .ok (.iload_n 1, 1) := by decide +kernel
theorem dX4_succeeds_20 : decode cX4_succeeds 20 = .ok (.sipush 10000, 3) := by decide +kernel
theorem dX4_succeeds_23 : decode cX4_succeeds 23 = .ok (.idiv, 1) := by decide +kernel
theorem dX4_succeeds_24 : decode cX4_succeeds 24 = .ok (.tableswitch 205 1 9 #[52, 61, 72, 83, 92, 103, 125, 148, 182], 52) := by decide +kernel
theorem dX4_succeeds_76 : decode cX4_succeeds 76 = .ok (.aload_n 0, 1) := by decide +kernel
theorem dX4_succeeds_77 : decode cX4_succeeds 77 = .ok (.getfield 38, 3) := by decide +kernel
theorem dX4_succeeds_80 : decode cX4_succeeds 80 = .ok (.iload_n 2, 1) := by decide +kernel
theorem dX4_succeeds_81 : decode cX4_succeeds 81 = .ok (.invokevirtual 347, 3) := by decide +kernel
theorem dX4_succeeds_84 : decode cX4_succeeds 84 = .ok (.ireturn, 1) := by decide +kernel
theorem dX4_succeeds_85 : decode cX4_succeeds 85 = .ok (.aload_n 0, 1) := by decide +kernel
theorem dX4_succeeds_86 : decode cX4_succeeds 86 = .ok (.getfield 38, 3) := by decide +kernel
theorem dX4_succeeds_89 : decode cX4_succeeds 89 = .ok (.iload_n 3, 1) := by decide +kernel
theorem dX4_succeeds_90 : decode cX4_succeeds 90 = .ok (.iload 4, 2) := by decide +kernel
theorem dX4_succeeds_92 : decode cX4_succeeds 92 = .ok (.invokevirtual 350, 3) := by decide +kernel
theorem dX4_succeeds_95 : decode cX4_succeeds 95 = .ok (.ireturn, 1) := by decide +kernel
theorem dX4_succeeds_96 : decode cX4_succeeds 96 = .ok (.aload_n 0, 1) := by decide +kernel
theorem dX4_succeeds_97 : decode cX4_succeeds 97 = .ok (.getfield 38, 3) := by decide +kernel
theorem dX4_succeeds_100 : decode cX4_succeeds 100 = .ok (.iload_n 3, 1) := by decide +kernel
theorem dX4_succeeds_101 : decode cX4_succeeds 101 = .ok (.iload 4, 2) := by decide +kernel
theorem dX4_succeeds_103 : decode cX4_succeeds 103 = .ok (.invokevirtual 353, 3) := by decide +kernel
theorem dX4_succeeds_106 : decode cX4_succeeds 106 = .ok (.ireturn, 1) := by decide +kernel
theorem dX4_succeeds_107 : decode cX4_succeeds 107 = .ok (.aload_n 0, 1) := by decide +kernel
theorem dX4_succeeds_108 : decode cX4_succeeds 108 = .ok (.getfield 38, 3) := by decide +kernel
theorem dX4_succeeds_111 : decode cX4_succeeds 111 = .ok (.iload_n 2, 1) := by decide +kernel
theorem dX4_succeeds_112 : decode cX4_succeeds 112 = .ok (.invokevirtual 356, 3) := by decide +kernel
theorem dX4_succeeds_115 : decode cX4_succeeds 115 = .ok (.ireturn, 1) := by decide +kernel
theorem dX4_succeeds_116 : decode cX4_succeeds 116 = .ok (.aload_n 0, 1) := by decide +kernel
theorem dX4_succeeds_117 : decode cX4_succeeds 117 = .ok (.getfield 38, 3) := by decide +kernel
theorem dX4_succeeds_120 : decode cX4_succeeds 120 = .ok (.iload_n 3, 1) := by decide +kernel
theorem dX4_succeeds_121 : decode cX4_succeeds 121 = .ok (.iload 4, 2) := by decide +kernel
theorem dX4_succeeds_123 : decode cX4_succeeds 123 = .ok (.invokevirtual 359, 3) := by decide +kernel
theorem dX4_succeeds_126 : decode cX4_succeeds 126 = .ok (.ireturn, 1) := by decide +kernel
theorem dX4_succeeds_127 : decode cX4_succeeds 127 = .ok (.iload 4, 2) := by decide +kernel
theorem dX4_succeeds_129 : decode cX4_succeeds 129 = .ok (.ifCond .ne 18, 3) := by decide +kernel
theorem dX4_succeeds_132 : decode cX4_succeeds 132 = .ok (.aload_n 0, 1) := by decide +kernel
theorem dX4_succeeds_133 : decode cX4_succeeds 133 = .ok (.getfield 38, 3) := by decide +kernel
theorem dX4_succeeds_136 : decode cX4_succeeds 136 = .ok (.iload_n 3, 1) := by decide +kernel
theorem dX4_succeeds_137 : decode cX4_succeeds 137 = .ok (.invokevirtual 362, 3) := by decide +kernel
theorem dX4_succeeds_140 : decode cX4_succeeds 140 = .ok (.ifCond .eq 7, 3) := by decide +kernel
theorem dX4_succeeds_143 : decode cX4_succeeds 143 = .ok (.iconst 1, 1) := by decide +kernel
theorem dX4_succeeds_144 : decode cX4_succeeds 144 = .ok (.goto 4, 3) := by decide +kernel
theorem dX4_succeeds_147 : decode cX4_succeeds 147 = .ok (.iconst 0, 1) := by decide +kernel
theorem dX4_succeeds_148 : decode cX4_succeeds 148 = .ok (.ireturn, 1) := by decide +kernel
theorem dX4_succeeds_149 : decode cX4_succeeds 149 = .ok (.iload_n 2, 1) := by decide +kernel
theorem dX4_succeeds_150 : decode cX4_succeeds 150 = .ok (.bipush 100, 2) := by decide +kernel
theorem dX4_succeeds_152 : decode cX4_succeeds 152 = .ok (.if_icmp .ge 18, 3) := by decide +kernel
theorem dX4_succeeds_155 : decode cX4_succeeds 155 = .ok (.aload_n 0, 1) := by decide +kernel
theorem dX4_succeeds_156 : decode cX4_succeeds 156 = .ok (.getfield 38, 3) := by decide +kernel
theorem dX4_succeeds_159 : decode cX4_succeeds 159 = .ok (.getfield 98, 3) := by decide +kernel
theorem dX4_succeeds_162 : decode cX4_succeeds 162 = .ok (.iload_n 2, 1) := by decide +kernel
theorem dX4_succeeds_163 : decode cX4_succeeds 163 = .ok (.if_icmp .gt 7, 3) := by decide +kernel
theorem dX4_succeeds_166 : decode cX4_succeeds 166 = .ok (.iconst 1, 1) := by decide +kernel
theorem dX4_succeeds_167 : decode cX4_succeeds 167 = .ok (.goto 4, 3) := by decide +kernel
theorem dX4_succeeds_170 : decode cX4_succeeds 170 = .ok (.iconst 0, 1) := by decide +kernel
theorem dX4_succeeds_171 : decode cX4_succeeds 171 = .ok (.ireturn, 1) := by decide +kernel
theorem dX4_succeeds_172 : decode cX4_succeeds 172 = .ok (.iload 4, 2) := by decide +kernel
theorem dX4_succeeds_174 : decode cX4_succeeds 174 = .ok (.bipush 100, 2) := by decide +kernel
theorem dX4_succeeds_176 : decode cX4_succeeds 176 = .ok (.irem, 1) := by decide +kernel
theorem dX4_succeeds_177 : decode cX4_succeeds 177 = .ok (.ifCond .ne 27, 3) := by decide +kernel
theorem dX4_succeeds_180 : decode cX4_succeeds 180 = .ok (.aload_n 0, 1) := by decide +kernel
theorem dX4_succeeds_181 : decode cX4_succeeds 181 = .ok (.aload_n 0, 1) := by decide +kernel
theorem dX4_succeeds_182 : decode cX4_succeeds 182 = .ok (.getfield 38, 3) := by decide +kernel
theorem dX4_succeeds_185 : decode cX4_succeeds 185 = .ok (.invokevirtual 144, 3) := by decide +kernel
theorem dX4_succeeds_188 : decode cX4_succeeds 188 = .ok (.iload_n 3, 1) := by decide +kernel
theorem dX4_succeeds_189 : decode cX4_succeeds 189 = .ok (.invokevirtual 152, 3) := by decide +kernel
theorem dX4_succeeds_192 : decode cX4_succeeds 192 = .ok (.iload 4, 2) := by decide +kernel
theorem dX4_succeeds_194 : decode cX4_succeeds 194 = .ok (.bipush 100, 2) := by decide +kernel
theorem dX4_succeeds_196 : decode cX4_succeeds 196 = .ok (.idiv, 1) := by decide +kernel
theorem dX4_succeeds_197 : decode cX4_succeeds 197 = .ok (.if_icmp .ne 7, 3) := by decide +kernel
theorem dX4_succeeds_200 : decode cX4_succeeds 200 = .ok (.iconst 1, 1) := by decide +kernel
theorem dX4_succeeds_201 : decode cX4_succeeds 201 = .ok (.goto 4, 3) := by decide +kernel
theorem dX4_succeeds_204 : decode cX4_succeeds 204 = .ok (.iconst 0, 1) := by decide +kernel
theorem dX4_succeeds_205 : decode cX4_succeeds 205 = .ok (.ireturn, 1) := by decide +kernel
theorem dX4_succeeds_206 : decode cX4_succeeds 206 = .ok (.iload_n 2, 1) := by decide +kernel
theorem dX4_succeeds_207 : decode cX4_succeeds 207 = .ok (.bipush 100, 2) := by decide +kernel
theorem dX4_succeeds_209 : decode cX4_succeeds 209 = .ok (.if_icmp .ge 18, 3) := by decide +kernel
theorem dX4_succeeds_212 : decode cX4_succeeds 212 = .ok (.aload_n 0, 1) := by decide +kernel
theorem dX4_succeeds_213 : decode cX4_succeeds 213 = .ok (.getfield 38, 3) := by decide +kernel
theorem dX4_succeeds_216 : decode cX4_succeeds 216 = .ok (.getfield 101, 3) := by decide +kernel
theorem dX4_succeeds_219 : decode cX4_succeeds 219 = .ok (.iload_n 2, 1) := by decide +kernel
theorem dX4_succeeds_220 : decode cX4_succeeds 220 = .ok (.if_icmp .lt 7, 3) := by decide +kernel
theorem dX4_succeeds_223 : decode cX4_succeeds 223 = .ok (.iconst 1, 1) := by decide +kernel
theorem dX4_succeeds_224 : decode cX4_succeeds 224 = .ok (.goto 4, 3) := by decide +kernel
theorem dX4_succeeds_227 : decode cX4_succeeds 227 = .ok (.iconst 0, 1) := by decide +kernel
theorem dX4_succeeds_228 : decode cX4_succeeds 228 = .ok (.ireturn, 1) := by decide +kernel
theorem dX4_succeeds_229 : decode cX4_succeeds 229 = .ok (.iconst 0, 1) := by decide +kernel
theorem dX4_succeeds_230 : decode cX4_succeeds 230 = .ok (.ireturn, 1) := by decide +kernel
theorem dX4_simulateTurn_0 : decode cX4_simulateTurn 0 = .ok (.iload_n 1, 1) := by decide +kernel
theorem dX4_simulateTurn_1 : decode cX4_simulateTurn 1 = .ok (.bipush 8, 2) := by decide +kernel
theorem dX4_simulateTurn_3 : decode cX4_simulateTurn 3 = .ok (.idiv, 1) := by decide +kernel
theorem dX4_simulateTurn_4 : decode cX4_simulateTurn 4 = .ok (.bipush 8, 2) := by decide +kernel
theorem dX4_simulateTurn_6 : decode cX4_simulateTurn 6 = .ok (.irem, 1) := by decide +kernel
theorem dX4_simulateTurn_7 : decode cX4_simulateTurn 7 = .ok (.istore_n 2, 1) := by decide +kernel
theorem dX4_simulateTurn_8 : decode cX4_simulateTurn 8 = .ok (.iload_n 1, 1) := by decide +kernel
theorem dX4_simulateTurn_9 : decode cX4_simulateTurn 9 = .ok (.bipush 8, 2) := by decide +kernel
theorem dX4_simulateTurn_11 : decode cX4_simulateTurn 11 = .ok (.irem, 1) := by decide +kernel
theorem dX4_simulateTurn_12 : decode cX4_simulateTurn 12 = .ok (.tableswitch 108 0 2 #[28, 65, 88], 28) := by decide +kernel
theorem dX4_simulateTurn_40 : decode cX4_simulateTurn 40 = .ok (.aload_n 0, 1) := by decide +kernel
theorem dX4_simulateTurn_41 : decode cX4_simulateTurn 41 = .ok (.getfield 38, 3) := by decide +kernel
theorem dX4_simulateTurn_44 : decode cX4_simulateTurn 44 = .ok (.iload_n 2, 1) := by decide +kernel
theorem dX4_simulateTurn_45 : decode cX4_simulateTurn 45 = .ok (.iconst 1, 1) := by decide +kernel
theorem dX4_simulateTurn_46 : decode cX4_simulateTurn 46 = .ok (.iload_n 1, 1) := by decide +kernel
theorem dX4_simulateTurn_47 : decode cX4_simulateTurn 47 = .ok (.bipush 64, 2) := by decide +kernel
theorem dX4_simulateTurn_49 : decode cX4_simulateTurn 49 = .ok (.idiv, 1) := by decide +kernel
theorem dX4_simulateTurn_50 : decode cX4_simulateTurn 50 = .ok (.bipush 99, 2) := by decide +kernel
theorem dX4_simulateTurn_52 : decode cX4_simulateTurn 52 = .ok (.irem, 1) := by decide +kernel
theorem dX4_simulateTurn_53 : decode cX4_simulateTurn 53 = .ok (.iadd, 1) := by decide +kernel
theorem dX4_simulateTurn_54 : decode cX4_simulateTurn 54 = .ok (.iload_n 1, 1) := by decide +kernel
theorem dX4_simulateTurn_55 : decode cX4_simulateTurn 55 = .ok (.sipush 8192, 3) := by decide +kernel
theorem dX4_simulateTurn_58 : decode cX4_simulateTurn 58 = .ok (.idiv, 1) := by decide +kernel
theorem dX4_simulateTurn_59 : decode cX4_simulateTurn 59 = .ok (.bipush 24, 2) := by decide +kernel
theorem dX4_simulateTurn_61 : decode cX4_simulateTurn 61 = .ok (.irem, 1) := by decide +kernel
theorem dX4_simulateTurn_62 : decode cX4_simulateTurn 62 = .ok (.iload_n 1, 1) := by decide +kernel
theorem dX4_simulateTurn_63 : decode cX4_simulateTurn 63 = .ok (.ldc_w 365, 3) := by decide +kernel
theorem dX4_simulateTurn_66 : decode cX4_simulateTurn 66 = .ok (.idiv, 1) := by decide +kernel
theorem dX4_simulateTurn_67 : decode cX4_simulateTurn 67 = .ok (.bipush 24, 2) := by decide +kernel
theorem dX4_simulateTurn_69 : decode cX4_simulateTurn 69 = .ok (.irem, 1) := by decide +kernel
theorem dX4_simulateTurn_70 : decode cX4_simulateTurn 70 = .ok (.invokevirtual 366, 3) := by decide +kernel
theorem dX4_simulateTurn_73 : decode cX4_simulateTurn 73 = .ok (.pop, 1) := by decide +kernel
theorem dX4_simulateTurn_74 : decode cX4_simulateTurn 74 = .ok (.goto 63, 3) := by decide +kernel
theorem dX4_simulateTurn_77 : decode cX4_simulateTurn 77 = .ok (.aload_n 0, 1) := by decide +kernel
theorem dX4_simulateTurn_78 : decode cX4_simulateTurn 78 = .ok (.getfield 38, 3) := by decide +kernel
theorem dX4_simulateTurn_81 : decode cX4_simulateTurn 81 = .ok (.iload_n 2, 1) := by decide +kernel
theorem dX4_simulateTurn_82 : decode cX4_simulateTurn 82 = .ok (.bipush 10, 2) := by decide +kernel
theorem dX4_simulateTurn_84 : decode cX4_simulateTurn 84 = .ok (.iload_n 1, 1) := by decide +kernel
theorem dX4_simulateTurn_85 : decode cX4_simulateTurn 85 = .ok (.bipush 64, 2) := by decide +kernel
theorem dX4_simulateTurn_87 : decode cX4_simulateTurn 87 = .ok (.idiv, 1) := by decide +kernel
theorem dX4_simulateTurn_88 : decode cX4_simulateTurn 88 = .ok (.sipush 200, 3) := by decide +kernel
theorem dX4_simulateTurn_91 : decode cX4_simulateTurn 91 = .ok (.irem, 1) := by decide +kernel
theorem dX4_simulateTurn_92 : decode cX4_simulateTurn 92 = .ok (.iadd, 1) := by decide +kernel
theorem dX4_simulateTurn_93 : decode cX4_simulateTurn 93 = .ok (.invokevirtual 350, 3) := by decide +kernel
theorem dX4_simulateTurn_96 : decode cX4_simulateTurn 96 = .ok (.pop, 1) := by decide +kernel
theorem dX4_simulateTurn_97 : decode cX4_simulateTurn 97 = .ok (.goto 40, 3) := by decide +kernel
theorem dX4_simulateTurn_100 : decode cX4_simulateTurn 100 = .ok (.aload_n 0, 1) := by decide +kernel
theorem dX4_simulateTurn_101 : decode cX4_simulateTurn 101 = .ok (.getfield 38, 3) := by decide +kernel
theorem dX4_simulateTurn_104 : decode cX4_simulateTurn 104 = .ok (.iconst 0, 1) := by decide +kernel
theorem dX4_simulateTurn_105 : decode cX4_simulateTurn 105 = .ok (.iload_n 1, 1) := by decide +kernel
theorem dX4_simulateTurn_106 : decode cX4_simulateTurn 106 = .ok (.bipush 64, 2) := by decide +kernel
theorem dX4_simulateTurn_108 : decode cX4_simulateTurn 108 = .ok (.idiv, 1) := by decide +kernel
theorem dX4_simulateTurn_109 : decode cX4_simulateTurn 109 = .ok (.sipush 251, 3) := by decide +kernel
theorem dX4_simulateTurn_112 : decode cX4_simulateTurn 112 = .ok (.irem, 1) := by decide +kernel
theorem dX4_simulateTurn_113 : decode cX4_simulateTurn 113 = .ok (.invokevirtual 353, 3) := by decide +kernel
theorem dX4_simulateTurn_116 : decode cX4_simulateTurn 116 = .ok (.pop, 1) := by decide +kernel
theorem dX4_simulateTurn_117 : decode cX4_simulateTurn 117 = .ok (.goto 20, 3) := by decide +kernel
theorem dX4_simulateTurn_120 : decode cX4_simulateTurn 120 = .ok (.aload_n 0, 1) := by decide +kernel
theorem dX4_simulateTurn_121 : decode cX4_simulateTurn 121 = .ok (.getfield 38, 3) := by decide +kernel
theorem dX4_simulateTurn_124 : decode cX4_simulateTurn 124 = .ok (.iconst 1, 1) := by decide +kernel
theorem dX4_simulateTurn_125 : decode cX4_simulateTurn 125 = .ok (.iload_n 1, 1) := by decide +kernel
theorem dX4_simulateTurn_126 : decode cX4_simulateTurn 126 = .ok (.bipush 8, 2) := by decide +kernel
theorem dX4_simulateTurn_128 : decode cX4_simulateTurn 128 = .ok (.idiv, 1) := by decide +kernel
theorem dX4_simulateTurn_129 : decode cX4_simulateTurn 129 = .ok (.bipush 9, 2) := by decide +kernel
theorem dX4_simulateTurn_131 : decode cX4_simulateTurn 131 = .ok (.irem, 1) := by decide +kernel
theorem dX4_simulateTurn_132 : decode cX4_simulateTurn 132 = .ok (.iadd, 1) := by decide +kernel
theorem dX4_simulateTurn_133 : decode cX4_simulateTurn 133 = .ok (.invokevirtual 347, 3) := by decide +kernel
theorem dX4_simulateTurn_136 : decode cX4_simulateTurn 136 = .ok (.pop, 1) := by decide +kernel
theorem dX4_simulateTurn_137 : decode cX4_simulateTurn 137 = .ok (.return_, 1) := by decide +kernel
theorem dX5_init_0 : decode cX5_init 0 = .ok (.aload_n 0, 1) := by decide +kernel
theorem dX5_init_1 : decode cX5_init 1 = .ok (.invokespecial 1, 3) := by decide +kernel
theorem dX5_init_4 : decode cX5_init 4 = .ok (.aload_n 0, 1) := by decide +kernel
theorem dX5_init_5 : decode cX5_init 5 = .ok (.bipush 120, 2) := by decide +kernel
theorem dX5_init_7 : decode cX5_init 7 = .ok (.newarray .int, 2) := by decide +kernel
theorem dX5_init_9 : decode cX5_init 9 = .ok (.putfield 7, 3) := by decide +kernel
theorem dX5_init_12 : decode cX5_init 12 = .ok (.aload_n 0, 1) := by decide +kernel
theorem dX5_init_13 : decode cX5_init 13 = .ok (.bipush 74, 2) := by decide +kernel
theorem dX5_init_15 : decode cX5_init 15 = .ok (.newarray .int, 2) := by decide +kernel
theorem dX5_init_17 : decode cX5_init 17 = .ok (.putfield 13, 3) := by decide +kernel
theorem dX5_init_20 : decode cX5_init 20 = .ok (.aload_n 0, 1) := by decide +kernel
theorem dX5_init_21 : decode cX5_init 21 = .ok (.iconst 5, 1) := by decide +kernel
theorem dX5_init_22 : decode cX5_init 22 = .ok (.newarray .int, 2) := by decide +kernel
theorem dX5_init_24 : decode cX5_init 24 = .ok (.putfield 16, 3) := by decide +kernel
theorem dX5_init_27 : decode cX5_init 27 = .ok (.aload_n 0, 1) := by decide +kernel
theorem dX5_init_28 : decode cX5_init 28 = .ok (.bipush 74, 2) := by decide +kernel
theorem dX5_init_30 : decode cX5_init 30 = .ok (.newarray .int, 2) := by decide +kernel
theorem dX5_init_32 : decode cX5_init 32 = .ok (.putfield 19, 3) := by decide +kernel
theorem dX5_init_35 : decode cX5_init 35 = .ok (.aload_n 0, 1) := by decide +kernel
theorem dX5_init_36 : decode cX5_init 36 = .ok (.bipush 74, 2) := by decide +kernel
theorem dX5_init_38 : decode cX5_init 38 = .ok (.newarray .int, 2) := by decide +kernel
theorem dX5_init_40 : decode cX5_init 40 = .ok (.putfield 22, 3) := by decide +kernel
theorem dX5_init_43 : decode cX5_init 43 = .ok (.aload_n 0, 1) := by decide +kernel
theorem dX5_init_44 : decode cX5_init 44 = .ok (.sipush 1036, 3) := by decide +kernel
theorem dX5_init_47 : decode cX5_init 47 = .ok (.newarray .int, 2) := by decide +kernel
theorem dX5_init_49 : decode cX5_init 49 = .ok (.putfield 25, 3) := by decide +kernel
theorem dX5_init_52 : decode cX5_init 52 = .ok (.aload_n 0, 1) := by decide +kernel
theorem dX5_init_53 : decode cX5_init 53 = .ok (.sipush 148, 3) := by decide +kernel
theorem dX5_init_56 : decode cX5_init 56 = .ok (.newarray .int, 2) := by decide +kernel
theorem dX5_init_58 : decode cX5_init 58 = .ok (.putfield 28, 3) := by decide +kernel
theorem dX5_init_61 : decode cX5_init 61 = .ok (.aload_n 0, 1) := by decide +kernel
theorem dX5_init_62 : decode cX5_init 62 = .ok (.iconst 2, 1) := by decide +kernel
theorem dX5_init_63 : decode cX5_init 63 = .ok (.newarray .boolean, 2) := by decide +kernel
theorem dX5_init_65 : decode cX5_init 65 = .ok (.putfield 31, 3) := by decide +kernel
theorem dX5_init_68 : decode cX5_init 68 = .ok (.aload_n 0, 1) := by decide +kernel
theorem dX5_init_69 : decode cX5_init 69 = .ok (.iconst 5, 1) := by decide +kernel
theorem dX5_init_70 : decode cX5_init 70 = .ok (.newarray .int, 2) := by decide +kernel
theorem dX5_init_72 : decode cX5_init 72 = .ok (.putfield 35, 3) := by decide +kernel
theorem dX5_init_75 : decode cX5_init 75 = .ok (.aload_n 0, 1) := by decide +kernel
theorem dX5_init_76 : decode cX5_init 76 = .ok (.iconst 5, 1) := by decide +kernel
theorem dX5_init_77 : decode cX5_init 77 = .ok (.newarray .int, 2) := by decide +kernel
theorem dX5_init_79 : decode cX5_init 79 = .ok (.putfield 38, 3) := by decide +kernel
theorem dX5_init_82 : decode cX5_init 82 = .ok (.aload_n 0, 1) := by decide +kernel
theorem dX5_init_83 : decode cX5_init 83 = .ok (.bipush 8, 2) := by decide +kernel
theorem dX5_init_85 : decode cX5_init 85 = .ok (.newarray .int, 2) := by decide +kernel
theorem dX5_init_87 : decode cX5_init 87 = .ok (.putfield 41, 3) := by decide +kernel
theorem dX5_init_90 : decode cX5_init 90 = .ok (.aload_n 0, 1) := by decide +kernel
theorem dX5_init_91 : decode cX5_init 91 = .ok (.bipush 8, 2) := by decide +kernel
theorem dX5_init_93 : decode cX5_init 93 = .ok (.newarray .int, 2) := by decide +kernel
theorem dX5_init_95 : decode cX5_init 95 = .ok (.putfield 44, 3) := by decide +kernel
theorem dX5_init_98 : decode cX5_init 98 = .ok (.aload_n 0, 1) := by decide +kernel
theorem dX5_init_99 : decode cX5_init 99 = .ok (.bipush 8, 2) := by decide +kernel
theorem dX5_init_101 : decode cX5_init 101 = .ok (.newarray .boolean, 2) := by decide +kernel
theorem dX5_init_103 : decode cX5_init 103 = .ok (.putfield 47, 3) := by decide +kernel
theorem dX5_init_106 : decode cX5_init 106 = .ok (.aload_n 0, 1) := by decide +kernel
theorem dX5_init_107 : decode cX5_init 107 = .ok (.getfield 19, 3) := by decide +kernel
theorem dX5_init_110 : decode cX5_init 110 = .ok (.invokestatic 50, 3) := by decide +kernel
theorem dX5_init_113 : decode cX5_init 113 = .ok (.return_, 1) := by decide +kernel
theorem dX5_thrown_0 : decode cX5_thrown 0 = .ok (.aload_n 0, 1) := by decide +kernel
theorem dX5_thrown_1 : decode cX5_thrown 1 = .ok (.getfield 54, 3) := by decide +kernel
theorem dX5_thrown_4 : decode cX5_thrown 4 = .ok (.ireturn, 1) := by decide +kernel
theorem dX5_refused_0 : decode cX5_refused 0 = .ok (.aload_n 0, 1) := by decide +kernel
theorem dX5_refused_1 : decode cX5_refused 1 = .ok (.iload_n 1, 1) := by decide +kernel
theorem dX5_refused_2 : decode cX5_refused 2 = .ok (.putfield 54, 3) := by decide +kernel
theorem dX5_refused_5 : decode cX5_refused 5 = .ok (.iload_n 1, 1) := by decide +kernel
theorem dX5_refused_6 : decode cX5_refused 6 = .ok (.ifCond .le 7, 3) := by decide +kernel
theorem dX5_refused_9 : decode cX5_refused 9 = .ok (.iconst 1, 1) := by decide +kernel
theorem dX5_refused_10 : decode cX5_refused 10 = .ok (.goto 4, 3) := by decide +kernel
theorem dX5_refused_13 : decode cX5_refused 13 = .ok (.iconst 0, 1) := by decide +kernel
theorem dX5_refused_14 : decode cX5_refused 14 = .ok (.ireturn, 1) := by decide +kernel
theorem dX5_in_0 : decode cX5_in 0 = .ok (.lload_n 0, 1) := by decide +kernel
theorem dX5_in_1 : decode cX5_in 1 = .ok (.lload_n 2, 1) := by decide +kernel
theorem dX5_in_2 : decode cX5_in 2 = .ok (.lcmp, 1) := by decide +kernel
theorem dX5_in_3 : decode cX5_in 3 = .ok (.ifCond .lt 14, 3) := by decide +kernel
theorem dX5_in_6 : decode cX5_in 6 = .ok (.lload_n 0, 1) := by decide +kernel
theorem dX5_in_7 : decode cX5_in 7 = .ok (.lload 4, 2) := by decide +kernel
theorem dX5_in_9 : decode cX5_in 9 = .ok (.lcmp, 1) := by decide +kernel
theorem dX5_in_10 : decode cX5_in 10 = .ok (.ifCond .gt 7, 3) := by decide +kernel
theorem dX5_in_13 : decode cX5_in 13 = .ok (.iconst 1, 1) := by decide +kernel
theorem dX5_in_14 : decode cX5_in 14 = .ok (.goto 4, 3) := by decide +kernel
theorem dX5_in_17 : decode cX5_in 17 = .ok (.iconst 0, 1) := by decide +kernel
theorem dX5_in_18 : decode cX5_in 18 = .ok (.ireturn, 1) := by decide +kernel
theorem dX5_copy_0 : decode cX5_copy 0 = .ok (.iconst 0, 1) := by decide +kernel
theorem dX5_copy_1 : decode cX5_copy 1 = .ok (.istore 5, 2) := by decide +kernel
theorem dX5_copy_3 : decode cX5_copy 3 = .ok (.iload 5, 2) := by decide +kernel
theorem dX5_copy_5 : decode cX5_copy 5 = .ok (.iload 4, 2) := by decide +kernel
theorem dX5_copy_7 : decode cX5_copy 7 = .ok (.if_icmp .ge 21, 3) := by decide +kernel
theorem dX5_copy_10 : decode cX5_copy 10 = .ok (.aload_n 2, 1) := by decide +kernel
theorem dX5_copy_11 : decode cX5_copy 11 = .ok (.iload_n 3, 1) := by decide +kernel
theorem dX5_copy_12 : decode cX5_copy 12 = .ok (.iload 5, 2) := by decide +kernel
theorem dX5_copy_14 : decode cX5_copy 14 = .ok (.iadd, 1) := by decide +kernel
theorem dX5_copy_15 : decode cX5_copy 15 = .ok (.aload_n 0, 1) := by decide +kernel
theorem dX5_copy_16 : decode cX5_copy 16 = .ok (.iload_n 1, 1) := by decide +kernel
theorem dX5_copy_17 : decode cX5_copy 17 = .ok (.iload 5, 2) := by decide +kernel
theorem dX5_copy_19 : decode cX5_copy 19 = .ok (.iadd, 1) := by decide +kernel
theorem dX5_copy_20 : decode cX5_copy 20 = .ok (.iaload, 1) := by decide +kernel
theorem dX5_copy_21 : decode cX5_copy 21 = .ok (.iastore, 1) := by decide +kernel
theorem dX5_copy_22 : decode cX5_copy 22 = .ok (.iinc 5 1, 3) := by decide +kernel
theorem dX5_copy_25 : decode cX5_copy 25 = .ok (.goto (-22), 3) := by decide +kernel
theorem dX5_copy_28 : decode cX5_copy 28 = .ok (.return_, 1) := by decide +kernel
theorem dX5_tenTo_0 : decode cX5_tenTo 0 = .ok (.lconst 1, 1) := by decide +kernel
theorem dX5_tenTo_1 : decode cX5_tenTo 1 = .ok (.lstore_n 1, 1) := by decide +kernel
theorem dX5_tenTo_2 : decode cX5_tenTo 2 = .ok (.iconst 0, 1) := by decide +kernel
theorem dX5_tenTo_3 : decode cX5_tenTo 3 = .ok (.istore_n 3, 1) := by decide +kernel
theorem dX5_tenTo_4 : decode cX5_tenTo 4 = .ok (.iload_n 3, 1) := by decide +kernel
theorem dX5_tenTo_5 : decode cX5_tenTo 5 = .ok (.iload_n 0, 1) := by decide +kernel
theorem dX5_tenTo_6 : decode cX5_tenTo 6 = .ok (.if_icmp .ge 15, 3) := by decide +kernel
theorem dX5_tenTo_9 : decode cX5_tenTo 9 = .ok (.lload_n 1, 1) := by decide +kernel
theorem dX5_tenTo_10 : decode cX5_tenTo 10 = .ok (.ldc2_w 58, 3) := by decide +kernel
theorem dX5_tenTo_13 : decode cX5_tenTo 13 = .ok (.lmul, 1) := by decide +kernel
theorem dX5_tenTo_14 : decode cX5_tenTo 14 = .ok (.lstore_n 1, 1) := by decide +kernel
theorem dX5_tenTo_15 : decode cX5_tenTo 15 = .ok (.iinc 3 1, 3) := by decide +kernel
theorem dX5_tenTo_18 : decode cX5_tenTo 18 = .ok (.goto (-14), 3) := by decide +kernel
theorem dX5_tenTo_21 : decode cX5_tenTo 21 = .ok (.lload_n 1, 1) := by decide +kernel
theorem dX5_tenTo_22 : decode cX5_tenTo 22 = .ok (.lreturn, 1) := by decide +kernel
theorem dX5_clean_0 : decode cX5_clean 0 = .ok (.iconst 0, 1) := by decide +kernel
theorem dX5_clean_1 : decode cX5_clean 1 = .ok (.istore_n 1, 1) := by decide +kernel
theorem dX5_clean_2 : decode cX5_clean 2 = .ok (.iload_n 1, 1) := by decide +kernel
theorem dX5_clean_3 : decode cX5_clean 3 = .ok (.bipush 74, 2) := by decide +kernel
theorem dX5_clean_5 : decode cX5_clean 5 = .ok (.if_icmp .ge 13, 3) := by decide +kernel
theorem dX5_clean_8 : decode cX5_clean 8 = .ok (.aload_n 0, 1) := by decide +kernel
theorem dX5_clean_9 : decode cX5_clean 9 = .ok (.iload_n 1, 1) := by decide +kernel
theorem dX5_clean_10 : decode cX5_clean 10 = .ok (.iconst 0, 1) := by decide +kernel
theorem dX5_clean_11 : decode cX5_clean 11 = .ok (.iastore, 1) := by decide +kernel
theorem dX5_clean_12 : decode cX5_clean 12 = .ok (.iinc 1 1, 3) := by decide +kernel
theorem dX5_clean_15 : decode cX5_clean 15 = .ok (.goto (-13), 3) := by decide +kernel
theorem dX5_clean_18 : decode cX5_clean 18 = .ok (.aload_n 0, 1) := by decide +kernel
theorem dX5_clean_19 : decode cX5_clean 19 = .ok (.bipush 7, 2) := by decide +kernel
theorem dX5_clean_21 : decode cX5_clean 21 = .ok (.bipush 60, 2) := by decide +kernel
theorem dX5_clean_23 : decode cX5_clean 23 = .ok (.iastore, 1) := by decide +kernel
theorem dX5_clean_24 : decode cX5_clean 24 = .ok (.aload_n 0, 1) := by decide +kernel
theorem dX5_clean_25 : decode cX5_clean 25 = .ok (.bipush 8, 2) := by decide +kernel
theorem dX5_clean_27 : decode cX5_clean 27 = .ok (.iconst 5, 1) := by decide +kernel
theorem dX5_clean_28 : decode cX5_clean 28 = .ok (.iastore, 1) := by decide +kernel
theorem dX5_clean_29 : decode cX5_clean 29 = .ok (.aload_n 0, 1) := by decide +kernel
theorem dX5_clean_30 : decode cX5_clean 30 = .ok (.bipush 9, 2) := by decide +kernel
theorem dX5_clean_32 : decode cX5_clean 32 = .ok (.iconst 2, 1) := by decide +kernel
theorem dX5_clean_33 : decode cX5_clean 33 = .ok (.iastore, 1) := by decide +kernel
theorem dX5_clean_34 : decode cX5_clean 34 = .ok (.aload_n 0, 1) := by decide +kernel
theorem dX5_clean_35 : decode cX5_clean 35 = .ok (.bipush 10, 2) := by decide +kernel
theorem dX5_clean_37 : decode cX5_clean 37 = .ok (.bipush 100, 2) := by decide +kernel
theorem dX5_clean_39 : decode cX5_clean 39 = .ok (.iastore, 1) := by decide +kernel
theorem dX5_clean_40 : decode cX5_clean 40 = .ok (.aload_n 0, 1) := by decide +kernel
theorem dX5_clean_41 : decode cX5_clean 41 = .ok (.bipush 11, 2) := by decide +kernel
theorem dX5_clean_43 : decode cX5_clean 43 = .ok (.bipush 20, 2) := by decide +kernel
theorem dX5_clean_45 : decode cX5_clean 45 = .ok (.iastore, 1) := by decide +kernel
theorem dX5_clean_46 : decode cX5_clean 46 = .ok (.aload_n 0, 1) := by decide +kernel
theorem dX5_clean_47 : decode cX5_clean 47 = .ok (.bipush 12, 2) := by decide +kernel
theorem dX5_clean_49 : decode cX5_clean 49 = .ok (.bipush 22, 2) := by decide +kernel
theorem dX5_clean_51 : decode cX5_clean 51 = .ok (.iastore, 1) := by decide +kernel
theorem dX5_clean_52 : decode cX5_clean 52 = .ok (.return_, 1) := by decide +kernel
theorem dX5_remember_0 : decode cX5_remember 0 = .ok (.aload_n 0, 1) := by decide +kernel
theorem dX5_remember_1 : decode cX5_remember 1 = .ok (.getfield 60, 3) := by decide +kernel
theorem dX5_remember_4 : decode cX5_remember 4 = .ok (.bipush 14, 2) := by decide +kernel
theorem dX5_remember_6 : decode cX5_remember 6 = .ok (.if_icmp .ne 30, 3) := by decide +kernel
theorem dX5_remember_9 : decode cX5_remember 9 = .ok (.aload_n 0, 1) := by decide +kernel
theorem dX5_remember_10 : decode cX5_remember 10 = .ok (.getfield 25, 3) := by decide +kernel
theorem dX5_remember_13 : decode cX5_remember 13 = .ok (.bipush 74, 2) := by decide +kernel
theorem dX5_remember_15 : decode cX5_remember 15 = .ok (.aload_n 0, 1) := by decide +kernel
theorem dX5_remember_16 : decode cX5_remember 16 = .ok (.getfield 25, 3) := by decide +kernel
theorem dX5_remember_19 : decode cX5_remember 19 = .ok (.iconst 0, 1) := by decide +kernel
theorem dX5_remember_20 : decode cX5_remember 20 = .ok (.sipush 962, 3) := by decide +kernel
theorem dX5_remember_23 : decode cX5_remember 23 = .ok (.invokestatic 63, 3) := by decide +kernel
theorem dX5_remember_26 : decode cX5_remember 26 = .ok (.aload_n 0, 1) := by decide +kernel
theorem dX5_remember_27 : decode cX5_remember 27 = .ok (.dup, 1) := by decide +kernel
theorem dX5_remember_28 : decode cX5_remember 28 = .ok (.getfield 60, 3) := by decide +kernel
theorem dX5_remember_31 : decode cX5_remember 31 = .ok (.iconst 1, 1) := by decide +kernel
theorem dX5_remember_32 : decode cX5_remember 32 = .ok (.isub, 1) := by decide +kernel
theorem dX5_remember_33 : decode cX5_remember 33 = .ok (.putfield 60, 3) := by decide +kernel
theorem dX5_remember_36 : decode cX5_remember 36 = .ok (.aload_n 0, 1) := by decide +kernel
theorem dX5_remember_37 : decode cX5_remember 37 = .ok (.getfield 19, 3) := by decide +kernel
theorem dX5_remember_40 : decode cX5_remember 40 = .ok (.iconst 0, 1) := by decide +kernel
theorem dX5_remember_41 : decode cX5_remember 41 = .ok (.aload_n 0, 1) := by decide +kernel
theorem dX5_remember_42 : decode cX5_remember 42 = .ok (.getfield 25, 3) := by decide +kernel
theorem dX5_remember_45 : decode cX5_remember 45 = .ok (.bipush 74, 2) := by decide +kernel
theorem dX5_remember_47 : decode cX5_remember 47 = .ok (.aload_n 0, 1) := by decide +kernel
theorem dX5_remember_48 : decode cX5_remember 48 = .ok (.getfield 60, 3) := by decide +kernel
theorem dX5_remember_51 : decode cX5_remember 51 = .ok (.imul, 1) := by decide +kernel
theorem dX5_remember_52 : decode cX5_remember 52 = .ok (.bipush 74, 2) := by decide +kernel
theorem dX5_remember_54 : decode cX5_remember 54 = .ok (.invokestatic 63, 3) := by decide +kernel
theorem dX5_remember_57 : decode cX5_remember 57 = .ok (.aload_n 0, 1) := by decide +kernel
theorem dX5_remember_58 : decode cX5_remember 58 = .ok (.dup, 1) := by decide +kernel
theorem dX5_remember_59 : decode cX5_remember 59 = .ok (.getfield 60, 3) := by decide +kernel
theorem dX5_remember_62 : decode cX5_remember 62 = .ok (.iconst 1, 1) := by decide +kernel
theorem dX5_remember_63 : decode cX5_remember 63 = .ok (.iadd, 1) := by decide +kernel
theorem dX5_remember_64 : decode cX5_remember 64 = .ok (.putfield 60, 3) := by decide +kernel
theorem dX5_remember_67 : decode cX5_remember 67 = .ok (.return_, 1) := by decide +kernel
theorem dX5_tryIt_0 : decode cX5_tryIt 0 = .ok (.aload_n 0, 1) := by decide +kernel
theorem dX5_tryIt_1 : decode cX5_tryIt 1 = .ok (.getfield 19, 3) := by decide +kernel
theorem dX5_tryIt_4 : decode cX5_tryIt 4 = .ok (.iconst 0, 1) := by decide +kernel
theorem dX5_tryIt_5 : decode cX5_tryIt 5 = .ok (.aload_n 0, 1) := by decide +kernel
theorem dX5_tryIt_6 : decode cX5_tryIt 6 = .ok (.getfield 22, 3) := by decide +kernel
theorem dX5_tryIt_9 : decode cX5_tryIt 9 = .ok (.iconst 0, 1) := by decide +kernel
theorem dX5_tryIt_10 : decode cX5_tryIt 10 = .ok (.bipush 74, 2) := by decide +kernel
theorem dX5_tryIt_12 : decode cX5_tryIt 12 = .ok (.invokestatic 63, 3) := by decide +kernel
theorem dX5_tryIt_15 : decode cX5_tryIt 15 = .ok (.return_, 1) := by decide +kernel
theorem dX5_busAt_0 : decode cX5_busAt 0 = .ok (.bipush 13, 2) := by decide +kernel
theorem dX5_busAt_2 : decode cX5_busAt 2 = .ok (.bipush 7, 2) := by decide +kernel
theorem dX5_busAt_4 : decode cX5_busAt 4 = .ok (.iload_n 0, 1) := by decide +kernel
theorem dX5_busAt_5 : decode cX5_busAt 5 = .ok (.imul, 1) := by decide +kernel
theorem dX5_busAt_6 : decode cX5_busAt 6 = .ok (.iadd, 1) := by decide +kernel
theorem dX5_busAt_7 : decode cX5_busAt 7 = .ok (.iload_n 1, 1) := by decide +kernel
theorem dX5_busAt_8 : decode cX5_busAt 8 = .ok (.iadd, 1) := by decide +kernel
theorem dX5_busAt_9 : decode cX5_busAt 9 = .ok (.ireturn, 1) := by decide +kernel
theorem dX5_isNight_0 : decode cX5_isNight 0 = .ok (.aload_n 0, 1) := by decide +kernel
theorem dX5_isNight_1 : decode cX5_isNight 1 = .ok (.iconst 0, 1) := by decide +kernel
theorem dX5_isNight_2 : decode cX5_isNight 2 = .ok (.iaload, 1) := by decide +kernel
theorem dX5_isNight_3 : decode cX5_isNight 3 = .ok (.bipush 24, 2) := by decide +kernel
theorem dX5_isNight_5 : decode cX5_isNight 5 = .ok (.irem, 1) := by decide +kernel
theorem dX5_isNight_6 : decode cX5_isNight 6 = .ok (.aload_n 0, 1) := by decide +kernel
theorem dX5_isNight_7 : decode cX5_isNight 7 = .ok (.bipush 12, 2) := by decide +kernel
theorem dX5_isNight_9 : decode cX5_isNight 9 = .ok (.iaload, 1) := by decide +kernel
theorem dX5_isNight_10 : decode cX5_isNight 10 = .ok (.isub, 1) := by decide +kernel
theorem dX5_isNight_11 : decode cX5_isNight 11 = .ok (.bipush 24, 2) := by decide +kernel
theorem dX5_isNight_13 : decode cX5_isNight 13 = .ok (.iadd, 1) := by decide +kernel
theorem dX5_isNight_14 : decode cX5_isNight 14 = .ok (.bipush 24, 2) := by decide +kernel
theorem dX5_isNight_16 : decode cX5_isNight 16 = .ok (.irem, 1) := by decide +kernel
theorem dX5_isNight_17 : decode cX5_isNight 17 = .ok (.bipush 8, 2) := by decide +kernel
theorem dX5_isNight_19 : decode cX5_isNight 19 = .ok (.if_icmp .ge 7, 3) := by decide +kernel
theorem dX5_isNight_22 : decode cX5_isNight 22 = .ok (.iconst 1, 1) := by decide +kernel
theorem dX5_isNight_23 : decode cX5_isNight 23 = .ok (.goto 4, 3) := by decide +kernel
theorem dX5_isNight_26 : decode cX5_isNight 26 = .ok (.iconst 0, 1) := by decide +kernel
theorem dX5_isNight_27 : decode cX5_isNight 27 = .ok (.ireturn, 1) := by decide +kernel
theorem dX5_hoursLeft_0 : decode cX5_hoursLeft 0 = .ok (.aload_n 0, 1) := by decide +kernel
theorem dX5_hoursLeft_1 : decode cX5_hoursLeft 1 = .ok (.iload_n 1, 1) := by decide +kernel
theorem dX5_hoursLeft_2 : decode cX5_hoursLeft 2 = .ok (.iconst 3, 1) := by decide +kernel
theorem dX5_hoursLeft_3 : decode cX5_hoursLeft 3 = .ok (.invokestatic 67, 3) := by decide +kernel
theorem dX5_hoursLeft_6 : decode cX5_hoursLeft 6 = .ok (.iaload, 1) := by decide +kernel
theorem dX5_hoursLeft_7 : decode cX5_hoursLeft 7 = .ok (.aload_n 0, 1) := by decide +kernel
theorem dX5_hoursLeft_8 : decode cX5_hoursLeft 8 = .ok (.iconst 0, 1) := by decide +kernel
theorem dX5_hoursLeft_9 : decode cX5_hoursLeft 9 = .ok (.iaload, 1) := by decide +kernel
theorem dX5_hoursLeft_10 : decode cX5_hoursLeft 10 = .ok (.bipush 24, 2) := by decide +kernel
theorem dX5_hoursLeft_12 : decode cX5_hoursLeft 12 = .ok (.irem, 1) := by decide +kernel
theorem dX5_hoursLeft_13 : decode cX5_hoursLeft 13 = .ok (.isub, 1) := by decide +kernel
theorem dX5_hoursLeft_14 : decode cX5_hoursLeft 14 = .ok (.bipush 24, 2) := by decide +kernel
theorem dX5_hoursLeft_16 : decode cX5_hoursLeft 16 = .ok (.iadd, 1) := by decide +kernel
theorem dX5_hoursLeft_17 : decode cX5_hoursLeft 17 = .ok (.bipush 24, 2) := by decide +kernel
theorem dX5_hoursLeft_19 : decode cX5_hoursLeft 19 = .ok (.irem, 1) := by decide +kernel
theorem dX5_hoursLeft_20 : decode cX5_hoursLeft 20 = .ok (.istore_n 2, 1) := by decide +kernel
theorem dX5_hoursLeft_21 : decode cX5_hoursLeft 21 = .ok (.iload_n 2, 1) := by decide +kernel
theorem dX5_hoursLeft_22 : decode cX5_hoursLeft 22 = .ok (.ifCond .ne 8, 3) := by decide +kernel
theorem dX5_hoursLeft_25 : decode cX5_hoursLeft 25 = .ok (.bipush 24, 2) := by decide +kernel
theorem dX5_hoursLeft_27 : decode cX5_hoursLeft 27 = .ok (.goto 4, 3) := by decide +kernel
theorem dX5_hoursLeft_30 : decode cX5_hoursLeft 30 = .ok (.iload_n 2, 1) := by decide +kernel
theorem dX5_hoursLeft_31 : decode cX5_hoursLeft 31 = .ok (.ireturn, 1) := by decide +kernel
theorem dX5_isLow_0 : decode cX5_isLow 0 = .ok (.aload_n 0, 1) := by decide +kernel
theorem dX5_isLow_1 : decode cX5_isLow 1 = .ok (.iload_n 1, 1) := by decide +kernel
theorem dX5_isLow_2 : decode cX5_isLow 2 = .ok (.bipush 6, 2) := by decide +kernel
theorem dX5_isLow_4 : decode cX5_isLow 4 = .ok (.invokestatic 67, 3) := by decide +kernel
theorem dX5_isLow_7 : decode cX5_isLow 7 = .ok (.iaload, 1) := by decide +kernel
theorem dX5_isLow_8 : decode cX5_isLow 8 = .ok (.ifCond .ne 24, 3) := by decide +kernel
theorem dX5_isLow_11 : decode cX5_isLow 11 = .ok (.aload_n 0, 1) := by decide +kernel
theorem dX5_isLow_12 : decode cX5_isLow 12 = .ok (.iload_n 1, 1) := by decide +kernel
theorem dX5_isLow_13 : decode cX5_isLow 13 = .ok (.iconst 1, 1) := by decide +kernel
theorem dX5_isLow_14 : decode cX5_isLow 14 = .ok (.invokestatic 67, 3) := by decide +kernel
theorem dX5_isLow_17 : decode cX5_isLow 17 = .ok (.iaload, 1) := by decide +kernel
theorem dX5_isLow_18 : decode cX5_isLow 18 = .ok (.aload_n 0, 1) := by decide +kernel
theorem dX5_isLow_19 : decode cX5_isLow 19 = .ok (.iload_n 1, 1) := by decide +kernel
theorem dX5_isLow_20 : decode cX5_isLow 20 = .ok (.iconst 2, 1) := by decide +kernel
theorem dX5_isLow_21 : decode cX5_isLow 21 = .ok (.invokestatic 67, 3) := by decide +kernel
theorem dX5_isLow_24 : decode cX5_isLow 24 = .ok (.iaload, 1) := by decide +kernel
theorem dX5_isLow_25 : decode cX5_isLow 25 = .ok (.if_icmp .ge 7, 3) := by decide +kernel
theorem dX5_isLow_28 : decode cX5_isLow 28 = .ok (.iconst 1, 1) := by decide +kernel
theorem dX5_isLow_29 : decode cX5_isLow 29 = .ok (.goto 4, 3) := by decide +kernel
theorem dX5_isLow_32 : decode cX5_isLow 32 = .ok (.iconst 0, 1) := by decide +kernel
theorem dX5_isLow_33 : decode cX5_isLow 33 = .ok (.ireturn, 1) := by decide +kernel
theorem dX5_comeBack_0 : decode cX5_comeBack 0 = .ok (.iconst 0, 1) := by decide +kernel
theorem dX5_comeBack_1 : decode cX5_comeBack 1 = .ok (.istore_n 1, 1) := by decide +kernel
theorem dX5_comeBack_2 : decode cX5_comeBack 2 = .ok (.iload_n 1, 1) := by decide +kernel
theorem dX5_comeBack_3 : decode cX5_comeBack 3 = .ok (.aload_n 0, 1) := by decide +kernel
theorem dX5_comeBack_4 : decode cX5_comeBack 4 = .ok (.iconst 1, 1) := by decide +kernel
theorem dX5_comeBack_5 : decode cX5_comeBack 5 = .ok (.iaload, 1) := by decide +kernel
theorem dX5_comeBack_6 : decode cX5_comeBack 6 = .ok (.if_icmp .ge 55, 3) := by decide +kernel
theorem dX5_comeBack_9 : decode cX5_comeBack 9 = .ok (.aload_n 0, 1) := by decide +kernel
theorem dX5_comeBack_10 : decode cX5_comeBack 10 = .ok (.iload_n 1, 1) := by decide +kernel
theorem dX5_comeBack_11 : decode cX5_comeBack 11 = .ok (.iconst 4, 1) := by decide +kernel
theorem dX5_comeBack_12 : decode cX5_comeBack 12 = .ok (.invokestatic 67, 3) := by decide +kernel
theorem dX5_comeBack_15 : decode cX5_comeBack 15 = .ok (.iaload, 1) := by decide +kernel
theorem dX5_comeBack_16 : decode cX5_comeBack 16 = .ok (.aload_n 0, 1) := by decide +kernel
theorem dX5_comeBack_17 : decode cX5_comeBack 17 = .ok (.iconst 0, 1) := by decide +kernel
theorem dX5_comeBack_18 : decode cX5_comeBack 18 = .ok (.iaload, 1) := by decide +kernel
theorem dX5_comeBack_19 : decode cX5_comeBack 19 = .ok (.bipush 24, 2) := by decide +kernel
theorem dX5_comeBack_21 : decode cX5_comeBack 21 = .ok (.irem, 1) := by decide +kernel
theorem dX5_comeBack_22 : decode cX5_comeBack 22 = .ok (.if_icmp .ne 7, 3) := by decide +kernel
theorem dX5_comeBack_25 : decode cX5_comeBack 25 = .ok (.iconst 1, 1) := by decide +kernel
theorem dX5_comeBack_26 : decode cX5_comeBack 26 = .ok (.goto 4, 3) := by decide +kernel
theorem dX5_comeBack_29 : decode cX5_comeBack 29 = .ok (.iconst 0, 1) := by decide +kernel
theorem dX5_comeBack_30 : decode cX5_comeBack 30 = .ok (.istore_n 2, 1) := by decide +kernel
theorem dX5_comeBack_31 : decode cX5_comeBack 31 = .ok (.aload_n 0, 1) := by decide +kernel
theorem dX5_comeBack_32 : decode cX5_comeBack 32 = .ok (.iload_n 1, 1) := by decide +kernel
theorem dX5_comeBack_33 : decode cX5_comeBack 33 = .ok (.bipush 6, 2) := by decide +kernel
theorem dX5_comeBack_35 : decode cX5_comeBack 35 = .ok (.invokestatic 67, 3) := by decide +kernel
theorem dX5_comeBack_38 : decode cX5_comeBack 38 = .ok (.iload_n 2, 1) := by decide +kernel
theorem dX5_comeBack_39 : decode cX5_comeBack 39 = .ok (.ifCond .eq 7, 3) := by decide +kernel
theorem dX5_comeBack_42 : decode cX5_comeBack 42 = .ok (.iconst 0, 1) := by decide +kernel
theorem dX5_comeBack_43 : decode cX5_comeBack 43 = .ok (.goto 11, 3) := by decide +kernel
theorem dX5_comeBack_46 : decode cX5_comeBack 46 = .ok (.aload_n 0, 1) := by decide +kernel
theorem dX5_comeBack_47 : decode cX5_comeBack 47 = .ok (.iload_n 1, 1) := by decide +kernel
theorem dX5_comeBack_48 : decode cX5_comeBack 48 = .ok (.bipush 6, 2) := by decide +kernel
theorem dX5_comeBack_50 : decode cX5_comeBack 50 = .ok (.invokestatic 67, 3) := by decide +kernel
theorem dX5_comeBack_53 : decode cX5_comeBack 53 = .ok (.iaload, 1) := by decide +kernel
theorem dX5_comeBack_54 : decode cX5_comeBack 54 = .ok (.iastore, 1) := by decide +kernel
theorem dX5_comeBack_55 : decode cX5_comeBack 55 = .ok (.iinc 1 1, 3) := by decide +kernel
theorem dX5_comeBack_58 : decode cX5_comeBack 58 = .ok (.goto (-56), 3) := by decide +kernel
theorem dX5_comeBack_61 : decode cX5_comeBack 61 = .ok (.return_, 1) := by decide +kernel
theorem dX5_wear_0 : decode cX5_wear 0 = .ok (.bipush 100, 2) := by decide +kernel
theorem dX5_wear_2 : decode cX5_wear 2 = .ok (.aload_n 0, 1) := by decide +kernel
theorem dX5_wear_3 : decode cX5_wear 3 = .ok (.iload_n 1, 1) := by decide +kernel
theorem dX5_wear_4 : decode cX5_wear 4 = .ok (.iconst 2, 1) := by decide +kernel
theorem dX5_wear_5 : decode cX5_wear 5 = .ok (.invokestatic 67, 3) := by decide +kernel
theorem dX5_wear_8 : decode cX5_wear 8 = .ok (.iaload, 1) := by decide +kernel
theorem dX5_wear_9 : decode cX5_wear 9 = .ok (.imul, 1) := by decide +kernel
theorem dX5_wear_10 : decode cX5_wear 10 = .ok (.istore_n 2, 1) := by decide +kernel
theorem dX5_wear_11 : decode cX5_wear 11 = .ok (.aload_n 0, 1) := by decide +kernel
theorem dX5_wear_12 : decode cX5_wear 12 = .ok (.iload_n 1, 1) := by decide +kernel
theorem dX5_wear_13 : decode cX5_wear 13 = .ok (.iconst 0, 1) := by decide +kernel
theorem dX5_wear_14 : decode cX5_wear 14 = .ok (.invokestatic 67, 3) := by decide +kernel
theorem dX5_wear_17 : decode cX5_wear 17 = .ok (.iaload, 1) := by decide +kernel
theorem dX5_wear_18 : decode cX5_wear 18 = .ok (.istore_n 3, 1) := by decide +kernel
theorem dX5_wear_19 : decode cX5_wear 19 = .ok (.aload_n 0, 1) := by decide +kernel
theorem dX5_wear_20 : decode cX5_wear 20 = .ok (.iload_n 1, 1) := by decide +kernel
theorem dX5_wear_21 : decode cX5_wear 21 = .ok (.iconst 5, 1) := by decide +kernel
theorem dX5_wear_22 : decode cX5_wear 22 = .ok (.invokestatic 67, 3) := by decide +kernel
theorem dX5_wear_25 : decode cX5_wear 25 = .ok (.dup2, 1) := by decide +kernel
theorem dX5_wear_26 : decode cX5_wear 26 = .ok (.iaload, 1) := by decide +kernel
theorem dX5_wear_27 : decode cX5_wear 27 = .ok (.iload_n 2, 1) := by decide +kernel
theorem dX5_wear_28 : decode cX5_wear 28 = .ok (.bipush 80, 2) := by decide +kernel
theorem dX5_wear_30 : decode cX5_wear 30 = .ok (.iload_n 3, 1) := by decide +kernel
theorem dX5_wear_31 : decode cX5_wear 31 = .ok (.imul, 1) := by decide +kernel
theorem dX5_wear_32 : decode cX5_wear 32 = .ok (.if_icmp .lt 7, 3) := by decide +kernel
theorem dX5_wear_35 : decode cX5_wear 35 = .ok (.iconst 3, 1) := by decide +kernel
theorem dX5_wear_36 : decode cX5_wear 36 = .ok (.goto 16, 3) := by decide +kernel
theorem dX5_wear_39 : decode cX5_wear 39 = .ok (.iload_n 2, 1) := by decide +kernel
theorem dX5_wear_40 : decode cX5_wear 40 = .ok (.bipush 50, 2) := by decide +kernel
theorem dX5_wear_42 : decode cX5_wear 42 = .ok (.iload_n 3, 1) := by decide +kernel
theorem dX5_wear_43 : decode cX5_wear 43 = .ok (.imul, 1) := by decide +kernel
theorem dX5_wear_44 : decode cX5_wear 44 = .ok (.if_icmp .lt 7, 3) := by decide +kernel
theorem dX5_wear_47 : decode cX5_wear 47 = .ok (.iconst 2, 1) := by decide +kernel
theorem dX5_wear_48 : decode cX5_wear 48 = .ok (.goto 4, 3) := by decide +kernel
theorem dX5_wear_51 : decode cX5_wear 51 = .ok (.iconst 1, 1) := by decide +kernel
theorem dX5_wear_52 : decode cX5_wear 52 = .ok (.iadd, 1) := by decide +kernel
theorem dX5_wear_53 : decode cX5_wear 53 = .ok (.iastore, 1) := by decide +kernel
theorem dX5_wear_54 : decode cX5_wear 54 = .ok (.aload_n 0, 1) := by decide +kernel
theorem dX5_wear_55 : decode cX5_wear 55 = .ok (.iload_n 1, 1) := by decide +kernel
theorem dX5_wear_56 : decode cX5_wear 56 = .ok (.iconst 5, 1) := by decide +kernel
theorem dX5_wear_57 : decode cX5_wear 57 = .ok (.invokestatic 67, 3) := by decide +kernel
theorem dX5_wear_60 : decode cX5_wear 60 = .ok (.iaload, 1) := by decide +kernel
theorem dX5_wear_61 : decode cX5_wear 61 = .ok (.aload_n 0, 1) := by decide +kernel
theorem dX5_wear_62 : decode cX5_wear 62 = .ok (.bipush 11, 2) := by decide +kernel
theorem dX5_wear_64 : decode cX5_wear 64 = .ok (.iaload, 1) := by decide +kernel
theorem dX5_wear_65 : decode cX5_wear 65 = .ok (.if_icmp .lt 69, 3) := by decide +kernel
theorem dX5_wear_68 : decode cX5_wear 68 = .ok (.aload_n 0, 1) := by decide +kernel
theorem dX5_wear_69 : decode cX5_wear 69 = .ok (.iload_n 1, 1) := by decide +kernel
theorem dX5_wear_70 : decode cX5_wear 70 = .ok (.iconst 5, 1) := by decide +kernel
theorem dX5_wear_71 : decode cX5_wear 71 = .ok (.invokestatic 67, 3) := by decide +kernel
theorem dX5_wear_74 : decode cX5_wear 74 = .ok (.dup2, 1) := by decide +kernel
theorem dX5_wear_75 : decode cX5_wear 75 = .ok (.iaload, 1) := by decide +kernel
theorem dX5_wear_76 : decode cX5_wear 76 = .ok (.aload_n 0, 1) := by decide +kernel
theorem dX5_wear_77 : decode cX5_wear 77 = .ok (.bipush 11, 2) := by decide +kernel
theorem dX5_wear_79 : decode cX5_wear 79 = .ok (.iaload, 1) := by decide +kernel
theorem dX5_wear_80 : decode cX5_wear 80 = .ok (.isub, 1) := by decide +kernel
theorem dX5_wear_81 : decode cX5_wear 81 = .ok (.iastore, 1) := by decide +kernel
theorem dX5_wear_82 : decode cX5_wear 82 = .ok (.iload_n 3, 1) := by decide +kernel
theorem dX5_wear_83 : decode cX5_wear 83 = .ok (.bipush 10, 2) := by decide +kernel
theorem dX5_wear_85 : decode cX5_wear 85 = .ok (.if_icmp .le 9, 3) := by decide +kernel
theorem dX5_wear_88 : decode cX5_wear 88 = .ok (.iload_n 3, 1) := by decide +kernel
theorem dX5_wear_89 : decode cX5_wear 89 = .ok (.iconst 1, 1) := by decide +kernel
theorem dX5_wear_90 : decode cX5_wear 90 = .ok (.isub, 1) := by decide +kernel
theorem dX5_wear_91 : decode cX5_wear 91 = .ok (.goto 5, 3) := by decide +kernel
theorem dX5_wear_94 : decode cX5_wear 94 = .ok (.bipush 10, 2) := by decide +kernel
theorem dX5_wear_96 : decode cX5_wear 96 = .ok (.istore_n 3, 1) := by decide +kernel
theorem dX5_wear_97 : decode cX5_wear 97 = .ok (.aload_n 0, 1) := by decide +kernel
theorem dX5_wear_98 : decode cX5_wear 98 = .ok (.iload_n 1, 1) := by decide +kernel
theorem dX5_wear_99 : decode cX5_wear 99 = .ok (.iconst 0, 1) := by decide +kernel
theorem dX5_wear_100 : decode cX5_wear 100 = .ok (.invokestatic 67, 3) := by decide +kernel
theorem dX5_wear_103 : decode cX5_wear 103 = .ok (.iload_n 3, 1) := by decide +kernel
theorem dX5_wear_104 : decode cX5_wear 104 = .ok (.iastore, 1) := by decide +kernel
theorem dX5_wear_105 : decode cX5_wear 105 = .ok (.aload_n 0, 1) := by decide +kernel
theorem dX5_wear_106 : decode cX5_wear 106 = .ok (.iload_n 1, 1) := by decide +kernel
theorem dX5_wear_107 : decode cX5_wear 107 = .ok (.iconst 1, 1) := by decide +kernel
theorem dX5_wear_108 : decode cX5_wear 108 = .ok (.invokestatic 67, 3) := by decide +kernel
theorem dX5_wear_111 : decode cX5_wear 111 = .ok (.aload_n 0, 1) := by decide +kernel
theorem dX5_wear_112 : decode cX5_wear 112 = .ok (.iload_n 1, 1) := by decide +kernel
theorem dX5_wear_113 : decode cX5_wear 113 = .ok (.iconst 1, 1) := by decide +kernel
theorem dX5_wear_114 : decode cX5_wear 114 = .ok (.invokestatic 67, 3) := by decide +kernel
theorem dX5_wear_117 : decode cX5_wear 117 = .ok (.iaload, 1) := by decide +kernel
theorem dX5_wear_118 : decode cX5_wear 118 = .ok (.iload_n 3, 1) := by decide +kernel
theorem dX5_wear_119 : decode cX5_wear 119 = .ok (.if_icmp .le 7, 3) := by decide +kernel
theorem dX5_wear_122 : decode cX5_wear 122 = .ok (.iload_n 3, 1) := by decide +kernel
theorem dX5_wear_123 : decode cX5_wear 123 = .ok (.goto 10, 3) := by decide +kernel
theorem dX5_wear_126 : decode cX5_wear 126 = .ok (.aload_n 0, 1) := by decide +kernel
theorem dX5_wear_127 : decode cX5_wear 127 = .ok (.iload_n 1, 1) := by decide +kernel
theorem dX5_wear_128 : decode cX5_wear 128 = .ok (.iconst 1, 1) := by decide +kernel
theorem dX5_wear_129 : decode cX5_wear 129 = .ok (.invokestatic 67, 3) := by decide +kernel
theorem dX5_wear_132 : decode cX5_wear 132 = .ok (.iaload, 1) := by decide +kernel
theorem dX5_wear_133 : decode cX5_wear 133 = .ok (.iastore, 1) := by decide +kernel
theorem dX5_wear_134 : decode cX5_wear 134 = .ok (.return_, 1) := by decide +kernel
theorem dX5_leave_0 : decode cX5_leave 0 = .ok (.iconst 0, 1) := by decide +kernel
theorem dX5_leave_1 : decode cX5_leave 1 = .ok (.istore_n 1, 1) := by decide +kernel
theorem dX5_leave_2 : decode cX5_leave 2 = .ok (.iload_n 1, 1) := by decide +kernel
theorem dX5_leave_3 : decode cX5_leave 3 = .ok (.aload_n 0, 1) := by decide +kernel
theorem dX5_leave_4 : decode cX5_leave 4 = .ok (.iconst 1, 1) := by decide +kernel
theorem dX5_leave_5 : decode cX5_leave 5 = .ok (.iaload, 1) := by decide +kernel
theorem dX5_leave_6 : decode cX5_leave 6 = .ok (.if_icmp .ge 103, 3) := by decide +kernel
theorem dX5_leave_9 : decode cX5_leave 9 = .ok (.aload_n 0, 1) := by decide +kernel
theorem dX5_leave_10 : decode cX5_leave 10 = .ok (.iload_n 1, 1) := by decide +kernel
theorem dX5_leave_11 : decode cX5_leave 11 = .ok (.bipush 6, 2) := by decide +kernel
theorem dX5_leave_13 : decode cX5_leave 13 = .ok (.invokestatic 67, 3) := by decide +kernel
theorem dX5_leave_16 : decode cX5_leave 16 = .ok (.iaload, 1) := by decide +kernel
theorem dX5_leave_17 : decode cX5_leave 17 = .ok (.ifCond .ne 86, 3) := by decide +kernel
theorem dX5_leave_20 : decode cX5_leave 20 = .ok (.aload_n 0, 1) := by decide +kernel
theorem dX5_leave_21 : decode cX5_leave 21 = .ok (.iload_n 1, 1) := by decide +kernel
theorem dX5_leave_22 : decode cX5_leave 22 = .ok (.iconst 3, 1) := by decide +kernel
theorem dX5_leave_23 : decode cX5_leave 23 = .ok (.invokestatic 67, 3) := by decide +kernel
theorem dX5_leave_26 : decode cX5_leave 26 = .ok (.iaload, 1) := by decide +kernel
theorem dX5_leave_27 : decode cX5_leave 27 = .ok (.aload_n 0, 1) := by decide +kernel
theorem dX5_leave_28 : decode cX5_leave 28 = .ok (.iconst 0, 1) := by decide +kernel
theorem dX5_leave_29 : decode cX5_leave 29 = .ok (.iaload, 1) := by decide +kernel
theorem dX5_leave_30 : decode cX5_leave 30 = .ok (.bipush 24, 2) := by decide +kernel
theorem dX5_leave_32 : decode cX5_leave 32 = .ok (.irem, 1) := by decide +kernel
theorem dX5_leave_33 : decode cX5_leave 33 = .ok (.if_icmp .ne 70, 3) := by decide +kernel
theorem dX5_leave_36 : decode cX5_leave 36 = .ok (.aload_n 0, 1) := by decide +kernel
theorem dX5_leave_37 : decode cX5_leave 37 = .ok (.iload_n 1, 1) := by decide +kernel
theorem dX5_leave_38 : decode cX5_leave 38 = .ok (.invokestatic 71, 3) := by decide +kernel
theorem dX5_leave_41 : decode cX5_leave 41 = .ok (.ifCond .eq 23, 3) := by decide +kernel
theorem dX5_leave_44 : decode cX5_leave 44 = .ok (.aload_n 0, 1) := by decide +kernel
theorem dX5_leave_45 : decode cX5_leave 45 = .ok (.iconst 5, 1) := by decide +kernel
theorem dX5_leave_46 : decode cX5_leave 46 = .ok (.dup2, 1) := by decide +kernel
theorem dX5_leave_47 : decode cX5_leave 47 = .ok (.iaload, 1) := by decide +kernel
theorem dX5_leave_48 : decode cX5_leave 48 = .ok (.iconst 1, 1) := by decide +kernel
theorem dX5_leave_49 : decode cX5_leave 49 = .ok (.iadd, 1) := by decide +kernel
theorem dX5_leave_50 : decode cX5_leave 50 = .ok (.iastore, 1) := by decide +kernel
theorem dX5_leave_51 : decode cX5_leave 51 = .ok (.aload_n 0, 1) := by decide +kernel
theorem dX5_leave_52 : decode cX5_leave 52 = .ok (.iconst 3, 1) := by decide +kernel
theorem dX5_leave_53 : decode cX5_leave 53 = .ok (.dup2, 1) := by decide +kernel
theorem dX5_leave_54 : decode cX5_leave 54 = .ok (.iaload, 1) := by decide +kernel
theorem dX5_leave_55 : decode cX5_leave 55 = .ok (.aload_n 0, 1) := by decide +kernel
theorem dX5_leave_56 : decode cX5_leave 56 = .ok (.bipush 10, 2) := by decide +kernel
theorem dX5_leave_58 : decode cX5_leave 58 = .ok (.iaload, 1) := by decide +kernel
theorem dX5_leave_59 : decode cX5_leave 59 = .ok (.iadd, 1) := by decide +kernel
theorem dX5_leave_60 : decode cX5_leave 60 = .ok (.iastore, 1) := by decide +kernel
theorem dX5_leave_61 : decode cX5_leave 61 = .ok (.goto 42, 3) := by decide +kernel
theorem dX5_leave_64 : decode cX5_leave 64 = .ok (.aload_n 0, 1) := by decide +kernel
theorem dX5_leave_65 : decode cX5_leave 65 = .ok (.bipush 6, 2) := by decide +kernel
theorem dX5_leave_67 : decode cX5_leave 67 = .ok (.dup2, 1) := by decide +kernel
theorem dX5_leave_68 : decode cX5_leave 68 = .ok (.iaload, 1) := by decide +kernel
theorem dX5_leave_69 : decode cX5_leave 69 = .ok (.iconst 1, 1) := by decide +kernel
theorem dX5_leave_70 : decode cX5_leave 70 = .ok (.iadd, 1) := by decide +kernel
theorem dX5_leave_71 : decode cX5_leave 71 = .ok (.iastore, 1) := by decide +kernel
theorem dX5_leave_72 : decode cX5_leave 72 = .ok (.aload_n 0, 1) := by decide +kernel
theorem dX5_leave_73 : decode cX5_leave 73 = .ok (.iload_n 1, 1) := by decide +kernel
theorem dX5_leave_74 : decode cX5_leave 74 = .ok (.bipush 6, 2) := by decide +kernel
theorem dX5_leave_76 : decode cX5_leave 76 = .ok (.invokestatic 67, 3) := by decide +kernel
theorem dX5_leave_79 : decode cX5_leave 79 = .ok (.iconst 1, 1) := by decide +kernel
theorem dX5_leave_80 : decode cX5_leave 80 = .ok (.iastore, 1) := by decide +kernel
theorem dX5_leave_81 : decode cX5_leave 81 = .ok (.aload_n 0, 1) := by decide +kernel
theorem dX5_leave_82 : decode cX5_leave 82 = .ok (.iload_n 1, 1) := by decide +kernel
theorem dX5_leave_83 : decode cX5_leave 83 = .ok (.iconst 1, 1) := by decide +kernel
theorem dX5_leave_84 : decode cX5_leave 84 = .ok (.invokestatic 67, 3) := by decide +kernel
theorem dX5_leave_87 : decode cX5_leave 87 = .ok (.dup2, 1) := by decide +kernel
theorem dX5_leave_88 : decode cX5_leave 88 = .ok (.iaload, 1) := by decide +kernel
theorem dX5_leave_89 : decode cX5_leave 89 = .ok (.aload_n 0, 1) := by decide +kernel
theorem dX5_leave_90 : decode cX5_leave 90 = .ok (.iload_n 1, 1) := by decide +kernel
theorem dX5_leave_91 : decode cX5_leave 91 = .ok (.iconst 2, 1) := by decide +kernel
theorem dX5_leave_92 : decode cX5_leave 92 = .ok (.invokestatic 67, 3) := by decide +kernel
theorem dX5_leave_95 : decode cX5_leave 95 = .ok (.iaload, 1) := by decide +kernel
theorem dX5_leave_96 : decode cX5_leave 96 = .ok (.isub, 1) := by decide +kernel
theorem dX5_leave_97 : decode cX5_leave 97 = .ok (.iastore, 1) := by decide +kernel
theorem dX5_leave_98 : decode cX5_leave 98 = .ok (.aload_n 0, 1) := by decide +kernel
theorem dX5_leave_99 : decode cX5_leave 99 = .ok (.iload_n 1, 1) := by decide +kernel
theorem dX5_leave_100 : decode cX5_leave 100 = .ok (.invokestatic 75, 3) := by decide +kernel
theorem dX5_leave_103 : decode cX5_leave 103 = .ok (.iinc 1 1, 3) := by decide +kernel
theorem dX5_leave_106 : decode cX5_leave 106 = .ok (.goto (-104), 3) := by decide +kernel
theorem dX5_leave_109 : decode cX5_leave 109 = .ok (.return_, 1) := by decide +kernel
theorem dX5_layOrder_0 : decode cX5_layOrder 0 = .ok (.iconst 0, 1) := by decide +kernel
theorem dX5_layOrder_1 : decode cX5_layOrder 1 = .ok (.istore_n 2, 1) := by decide +kernel
theorem dX5_layOrder_2 : decode cX5_layOrder 2 = .ok (.bipush 50, 2) := by decide +kernel
theorem dX5_layOrder_4 : decode cX5_layOrder 4 = .ok (.istore_n 3, 1) := by decide +kernel
theorem dX5_layOrder_5 : decode cX5_layOrder 5 = .ok (.iload_n 3, 1) := by decide +kernel
theorem dX5_layOrder_6 : decode cX5_layOrder 6 = .ok (.ifCond .le 48, 3) := by decide +kernel
theorem dX5_layOrder_9 : decode cX5_layOrder 9 = .ok (.iconst 0, 1) := by decide +kernel
theorem dX5_layOrder_10 : decode cX5_layOrder 10 = .ok (.istore 4, 2) := by decide +kernel
theorem dX5_layOrder_12 : decode cX5_layOrder 12 = .ok (.iload 4, 2) := by decide +kernel
theorem dX5_layOrder_14 : decode cX5_layOrder 14 = .ok (.aload_n 1, 1) := by decide +kernel
theorem dX5_layOrder_15 : decode cX5_layOrder 15 = .ok (.iconst 2, 1) := by decide +kernel
theorem dX5_layOrder_16 : decode cX5_layOrder 16 = .ok (.iaload, 1) := by decide +kernel
theorem dX5_layOrder_17 : decode cX5_layOrder 17 = .ok (.if_icmp .ge 31, 3) := by decide +kernel
theorem dX5_layOrder_20 : decode cX5_layOrder 20 = .ok (.aload_n 1, 1) := by decide +kernel
theorem dX5_layOrder_21 : decode cX5_layOrder 21 = .ok (.bipush 69, 2) := by decide +kernel
theorem dX5_layOrder_23 : decode cX5_layOrder 23 = .ok (.iload 4, 2) := by decide +kernel
theorem dX5_layOrder_25 : decode cX5_layOrder 25 = .ok (.iadd, 1) := by decide +kernel
theorem dX5_layOrder_26 : decode cX5_layOrder 26 = .ok (.iaload, 1) := by decide +kernel
theorem dX5_layOrder_27 : decode cX5_layOrder 27 = .ok (.iload_n 3, 1) := by decide +kernel
theorem dX5_layOrder_28 : decode cX5_layOrder 28 = .ok (.if_icmp .ne 14, 3) := by decide +kernel
theorem dX5_layOrder_31 : decode cX5_layOrder 31 = .ok (.aload_n 0, 1) := by decide +kernel
theorem dX5_layOrder_32 : decode cX5_layOrder 32 = .ok (.getfield 35, 3) := by decide +kernel
theorem dX5_layOrder_35 : decode cX5_layOrder 35 = .ok (.iload_n 2, 1) := by decide +kernel
theorem dX5_layOrder_36 : decode cX5_layOrder 36 = .ok (.iload 4, 2) := by decide +kernel
theorem dX5_layOrder_38 : decode cX5_layOrder 38 = .ok (.iastore, 1) := by decide +kernel
theorem dX5_layOrder_39 : decode cX5_layOrder 39 = .ok (.iinc 2 1, 3) := by decide +kernel
theorem dX5_layOrder_42 : decode cX5_layOrder 42 = .ok (.iinc 4 1, 3) := by decide +kernel
theorem dX5_layOrder_45 : decode cX5_layOrder 45 = .ok (.goto (-33), 3) := by decide +kernel
theorem dX5_layOrder_48 : decode cX5_layOrder 48 = .ok (.iinc 3 (-1), 3) := by decide +kernel
theorem dX5_layOrder_51 : decode cX5_layOrder 51 = .ok (.goto (-46), 3) := by decide +kernel
theorem dX5_layOrder_54 : decode cX5_layOrder 54 = .ok (.return_, 1) := by decide +kernel
theorem dX5_isFull_0 : decode cX5_isFull 0 = .ok (.aload_n 0, 1) := by decide +kernel
theorem dX5_isFull_1 : decode cX5_isFull 1 = .ok (.iload_n 1, 1) := by decide +kernel
theorem dX5_isFull_2 : decode cX5_isFull 2 = .ok (.iconst 1, 1) := by decide +kernel
theorem dX5_isFull_3 : decode cX5_isFull 3 = .ok (.invokestatic 67, 3) := by decide +kernel
theorem dX5_isFull_6 : decode cX5_isFull 6 = .ok (.iaload, 1) := by decide +kernel
theorem dX5_isFull_7 : decode cX5_isFull 7 = .ok (.aload_n 0, 1) := by decide +kernel
theorem dX5_isFull_8 : decode cX5_isFull 8 = .ok (.iload_n 1, 1) := by decide +kernel
theorem dX5_isFull_9 : decode cX5_isFull 9 = .ok (.iconst 0, 1) := by decide +kernel
theorem dX5_isFull_10 : decode cX5_isFull 10 = .ok (.invokestatic 67, 3) := by decide +kernel
theorem dX5_isFull_13 : decode cX5_isFull 13 = .ok (.iaload, 1) := by decide +kernel
theorem dX5_isFull_14 : decode cX5_isFull 14 = .ok (.if_icmp .lt 7, 3) := by decide +kernel
theorem dX5_isFull_17 : decode cX5_isFull 17 = .ok (.iconst 1, 1) := by decide +kernel
theorem dX5_isFull_18 : decode cX5_isFull 18 = .ok (.goto 4, 3) := by decide +kernel
theorem dX5_isFull_21 : decode cX5_isFull 21 = .ok (.iconst 0, 1) := by decide +kernel
theorem dX5_isFull_22 : decode cX5_isFull 22 = .ok (.ireturn, 1) := by decide +kernel
theorem dX5_wants_0 : decode cX5_wants 0 = .ok (.aload_n 0, 1) := by decide +kernel
theorem dX5_wants_1 : decode cX5_wants 1 = .ok (.iload_n 1, 1) := by decide +kernel
theorem dX5_wants_2 : decode cX5_wants 2 = .ok (.invokestatic 71, 3) := by decide +kernel
theorem dX5_wants_5 : decode cX5_wants 5 = .ok (.ifCond .eq 15, 3) := by decide +kernel
theorem dX5_wants_8 : decode cX5_wants 8 = .ok (.aload_n 0, 1) := by decide +kernel
theorem dX5_wants_9 : decode cX5_wants 9 = .ok (.iload_n 1, 1) := by decide +kernel
theorem dX5_wants_10 : decode cX5_wants 10 = .ok (.invokestatic 79, 3) := by decide +kernel
theorem dX5_wants_13 : decode cX5_wants 13 = .ok (.ifCond .ne 7, 3) := by decide +kernel
theorem dX5_wants_16 : decode cX5_wants 16 = .ok (.iconst 1, 1) := by decide +kernel
theorem dX5_wants_17 : decode cX5_wants 17 = .ok (.goto 4, 3) := by decide +kernel
theorem dX5_wants_20 : decode cX5_wants 20 = .ok (.iconst 0, 1) := by decide +kernel
theorem dX5_wants_21 : decode cX5_wants 21 = .ok (.ireturn, 1) := by decide +kernel
theorem dX5_isAhead_0 : decode cX5_isAhead 0 = .ok (.aload_n 0, 1) := by decide +kernel
theorem dX5_isAhead_1 : decode cX5_isAhead 1 = .ok (.iload_n 1, 1) := by decide +kernel
theorem dX5_isAhead_2 : decode cX5_isAhead 2 = .ok (.invokestatic 82, 3) := by decide +kernel
theorem dX5_isAhead_5 : decode cX5_isAhead 5 = .ok (.aload_n 0, 1) := by decide +kernel
theorem dX5_isAhead_6 : decode cX5_isAhead 6 = .ok (.iload_n 2, 1) := by decide +kernel
theorem dX5_isAhead_7 : decode cX5_isAhead 7 = .ok (.invokestatic 82, 3) := by decide +kernel
theorem dX5_isAhead_10 : decode cX5_isAhead 10 = .ok (.isub, 1) := by decide +kernel
theorem dX5_isAhead_11 : decode cX5_isAhead 11 = .ok (.istore_n 3, 1) := by decide +kernel
theorem dX5_isAhead_12 : decode cX5_isAhead 12 = .ok (.aload_n 0, 1) := by decide +kernel
theorem dX5_isAhead_13 : decode cX5_isAhead 13 = .ok (.iload_n 1, 1) := by decide +kernel
theorem dX5_isAhead_14 : decode cX5_isAhead 14 = .ok (.iconst 2, 1) := by decide +kernel
theorem dX5_isAhead_15 : decode cX5_isAhead 15 = .ok (.invokestatic 67, 3) := by decide +kernel
theorem dX5_isAhead_18 : decode cX5_isAhead 18 = .ok (.iaload, 1) := by decide +kernel
theorem dX5_isAhead_19 : decode cX5_isAhead 19 = .ok (.aload_n 0, 1) := by decide +kernel
theorem dX5_isAhead_20 : decode cX5_isAhead 20 = .ok (.iload_n 1, 1) := by decide +kernel
theorem dX5_isAhead_21 : decode cX5_isAhead 21 = .ok (.iconst 1, 1) := by decide +kernel
theorem dX5_isAhead_22 : decode cX5_isAhead 22 = .ok (.invokestatic 67, 3) := by decide +kernel
theorem dX5_isAhead_25 : decode cX5_isAhead 25 = .ok (.iaload, 1) := by decide +kernel
theorem dX5_isAhead_26 : decode cX5_isAhead 26 = .ok (.isub, 1) := by decide +kernel
theorem dX5_isAhead_27 : decode cX5_isAhead 27 = .ok (.istore 4, 2) := by decide +kernel
theorem dX5_isAhead_29 : decode cX5_isAhead 29 = .ok (.aload_n 0, 1) := by decide +kernel
theorem dX5_isAhead_30 : decode cX5_isAhead 30 = .ok (.iload_n 2, 1) := by decide +kernel
theorem dX5_isAhead_31 : decode cX5_isAhead 31 = .ok (.iconst 2, 1) := by decide +kernel
theorem dX5_isAhead_32 : decode cX5_isAhead 32 = .ok (.invokestatic 67, 3) := by decide +kernel
theorem dX5_isAhead_35 : decode cX5_isAhead 35 = .ok (.iaload, 1) := by decide +kernel
theorem dX5_isAhead_36 : decode cX5_isAhead 36 = .ok (.aload_n 0, 1) := by decide +kernel
theorem dX5_isAhead_37 : decode cX5_isAhead 37 = .ok (.iload_n 2, 1) := by decide +kernel
theorem dX5_isAhead_38 : decode cX5_isAhead 38 = .ok (.iconst 1, 1) := by decide +kernel
theorem dX5_isAhead_39 : decode cX5_isAhead 39 = .ok (.invokestatic 67, 3) := by decide +kernel
theorem dX5_isAhead_42 : decode cX5_isAhead 42 = .ok (.iaload, 1) := by decide +kernel
theorem dX5_isAhead_43 : decode cX5_isAhead 43 = .ok (.isub, 1) := by decide +kernel
theorem dX5_isAhead_44 : decode cX5_isAhead 44 = .ok (.istore 5, 2) := by decide +kernel
theorem dX5_isAhead_46 : decode cX5_isAhead 46 = .ok (.iload_n 3, 1) := by decide +kernel
theorem dX5_isAhead_47 : decode cX5_isAhead 47 = .ok (.ifCond .lt 26, 3) := by decide +kernel
theorem dX5_isAhead_50 : decode cX5_isAhead 50 = .ok (.iload_n 3, 1) := by decide +kernel
theorem dX5_isAhead_51 : decode cX5_isAhead 51 = .ok (.ifCond .ne 26, 3) := by decide +kernel
theorem dX5_isAhead_54 : decode cX5_isAhead 54 = .ok (.iload 4, 2) := by decide +kernel
theorem dX5_isAhead_56 : decode cX5_isAhead 56 = .ok (.iload 5, 2) := by decide +kernel
theorem dX5_isAhead_58 : decode cX5_isAhead 58 = .ok (.if_icmp .gt 15, 3) := by decide +kernel
theorem dX5_isAhead_61 : decode cX5_isAhead 61 = .ok (.iload 4, 2) := by decide +kernel
theorem dX5_isAhead_63 : decode cX5_isAhead 63 = .ok (.iload 5, 2) := by decide +kernel
theorem dX5_isAhead_65 : decode cX5_isAhead 65 = .ok (.if_icmp .ne 12, 3) := by decide +kernel
theorem dX5_isAhead_68 : decode cX5_isAhead 68 = .ok (.iload_n 1, 1) := by decide +kernel
theorem dX5_isAhead_69 : decode cX5_isAhead 69 = .ok (.iload_n 2, 1) := by decide +kernel
theorem dX5_isAhead_70 : decode cX5_isAhead 70 = .ok (.if_icmp .ge 7, 3) := by decide +kernel
theorem dX5_isAhead_73 : decode cX5_isAhead 73 = .ok (.iconst 1, 1) := by decide +kernel
theorem dX5_isAhead_74 : decode cX5_isAhead 74 = .ok (.goto 4, 3) := by decide +kernel
theorem dX5_isAhead_77 : decode cX5_isAhead 77 = .ok (.iconst 0, 1) := by decide +kernel
theorem dX5_isAhead_78 : decode cX5_isAhead 78 = .ok (.ireturn, 1) := by decide +kernel
theorem dX5_next_0 : decode cX5_next 0 = .ok (.iconst (-1), 1) := by decide +kernel
theorem dX5_next_1 : decode cX5_next 1 = .ok (.istore_n 2, 1) := by decide +kernel
theorem dX5_next_2 : decode cX5_next 2 = .ok (.iconst 0, 1) := by decide +kernel
theorem dX5_next_3 : decode cX5_next 3 = .ok (.istore_n 3, 1) := by decide +kernel
theorem dX5_next_4 : decode cX5_next 4 = .ok (.iload_n 3, 1) := by decide +kernel
theorem dX5_next_5 : decode cX5_next 5 = .ok (.aload_n 1, 1) := by decide +kernel
theorem dX5_next_6 : decode cX5_next 6 = .ok (.iconst 1, 1) := by decide +kernel
theorem dX5_next_7 : decode cX5_next 7 = .ok (.iaload, 1) := by decide +kernel
theorem dX5_next_8 : decode cX5_next 8 = .ok (.if_icmp .ge 58, 3) := by decide +kernel
theorem dX5_next_11 : decode cX5_next 11 = .ok (.aload_n 0, 1) := by decide +kernel
theorem dX5_next_12 : decode cX5_next 12 = .ok (.getfield 47, 3) := by decide +kernel
theorem dX5_next_15 : decode cX5_next 15 = .ok (.iload_n 3, 1) := by decide +kernel
theorem dX5_next_16 : decode cX5_next 16 = .ok (.baload, 1) := by decide +kernel
theorem dX5_next_17 : decode cX5_next 17 = .ok (.ifCond .ne 15, 3) := by decide +kernel
theorem dX5_next_20 : decode cX5_next 20 = .ok (.aload_n 1, 1) := by decide +kernel
theorem dX5_next_21 : decode cX5_next 21 = .ok (.iload_n 3, 1) := by decide +kernel
theorem dX5_next_22 : decode cX5_next 22 = .ok (.invokestatic 86, 3) := by decide +kernel
theorem dX5_next_25 : decode cX5_next 25 = .ok (.ifCond .eq 7, 3) := by decide +kernel
theorem dX5_next_28 : decode cX5_next 28 = .ok (.iconst 1, 1) := by decide +kernel
theorem dX5_next_29 : decode cX5_next 29 = .ok (.goto 4, 3) := by decide +kernel
theorem dX5_next_32 : decode cX5_next 32 = .ok (.iconst 0, 1) := by decide +kernel
theorem dX5_next_33 : decode cX5_next 33 = .ok (.istore 4, 2) := by decide +kernel
theorem dX5_next_35 : decode cX5_next 35 = .ok (.iload 4, 2) := by decide +kernel
theorem dX5_next_37 : decode cX5_next 37 = .ok (.ifCond .eq 21, 3) := by decide +kernel
theorem dX5_next_40 : decode cX5_next 40 = .ok (.iload_n 2, 1) := by decide +kernel
theorem dX5_next_41 : decode cX5_next 41 = .ok (.iconst (-1), 1) := by decide +kernel
theorem dX5_next_42 : decode cX5_next 42 = .ok (.if_icmp .eq 12, 3) := by decide +kernel
theorem dX5_next_45 : decode cX5_next 45 = .ok (.aload_n 1, 1) := by decide +kernel
theorem dX5_next_46 : decode cX5_next 46 = .ok (.iload_n 3, 1) := by decide +kernel
theorem dX5_next_47 : decode cX5_next 47 = .ok (.iload_n 2, 1) := by decide +kernel
theorem dX5_next_48 : decode cX5_next 48 = .ok (.invokestatic 89, 3) := by decide +kernel
theorem dX5_next_51 : decode cX5_next 51 = .ok (.ifCond .eq 7, 3) := by decide +kernel
theorem dX5_next_54 : decode cX5_next 54 = .ok (.iload_n 3, 1) := by decide +kernel
theorem dX5_next_55 : decode cX5_next 55 = .ok (.goto 4, 3) := by decide +kernel
theorem dX5_next_58 : decode cX5_next 58 = .ok (.iload_n 2, 1) := by decide +kernel
theorem dX5_next_59 : decode cX5_next 59 = .ok (.istore_n 2, 1) := by decide +kernel
theorem dX5_next_60 : decode cX5_next 60 = .ok (.iinc 3 1, 3) := by decide +kernel
theorem dX5_next_63 : decode cX5_next 63 = .ok (.goto (-59), 3) := by decide +kernel
theorem dX5_next_66 : decode cX5_next 66 = .ok (.iload_n 2, 1) := by decide +kernel
theorem dX5_next_67 : decode cX5_next 67 = .ok (.iconst (-1), 1) := by decide +kernel
theorem dX5_next_68 : decode cX5_next 68 = .ok (.if_icmp .ne 10, 3) := by decide +kernel
theorem dX5_next_71 : decode cX5_next 71 = .ok (.aload_n 1, 1) := by decide +kernel
theorem dX5_next_72 : decode cX5_next 72 = .ok (.invokestatic 93, 3) := by decide +kernel
theorem dX5_next_75 : decode cX5_next 75 = .ok (.ifCond .ne 5, 3) := by decide +kernel
theorem dX5_next_78 : decode cX5_next 78 = .ok (.iload_n 2, 1) := by decide +kernel
theorem dX5_next_79 : decode cX5_next 79 = .ok (.ireturn, 1) := by decide +kernel
theorem dX5_next_80 : decode cX5_next 80 = .ok (.aload_n 1, 1) := by decide +kernel
theorem dX5_next_81 : decode cX5_next 81 = .ok (.iconst 1, 1) := by decide +kernel
theorem dX5_next_82 : decode cX5_next 82 = .ok (.iaload, 1) := by decide +kernel
theorem dX5_next_83 : decode cX5_next 83 = .ok (.iconst 1, 1) := by decide +kernel
theorem dX5_next_84 : decode cX5_next 84 = .ok (.isub, 1) := by decide +kernel
theorem dX5_next_85 : decode cX5_next 85 = .ok (.istore_n 3, 1) := by decide +kernel
theorem dX5_next_86 : decode cX5_next 86 = .ok (.iload_n 3, 1) := by decide +kernel
theorem dX5_next_87 : decode cX5_next 87 = .ok (.ifCond .lt 43, 3) := by decide +kernel
theorem dX5_next_90 : decode cX5_next 90 = .ok (.aload_n 0, 1) := by decide +kernel
theorem dX5_next_91 : decode cX5_next 91 = .ok (.getfield 47, 3) := by decide +kernel
theorem dX5_next_94 : decode cX5_next 94 = .ok (.iload_n 3, 1) := by decide +kernel
theorem dX5_next_95 : decode cX5_next 95 = .ok (.baload, 1) := by decide +kernel
theorem dX5_next_96 : decode cX5_next 96 = .ok (.ifCond .ne 26, 3) := by decide +kernel
theorem dX5_next_99 : decode cX5_next 99 = .ok (.aload_n 1, 1) := by decide +kernel
theorem dX5_next_100 : decode cX5_next 100 = .ok (.iload_n 3, 1) := by decide +kernel
theorem dX5_next_101 : decode cX5_next 101 = .ok (.bipush 6, 2) := by decide +kernel
theorem dX5_next_103 : decode cX5_next 103 = .ok (.invokestatic 67, 3) := by decide +kernel
theorem dX5_next_106 : decode cX5_next 106 = .ok (.iaload, 1) := by decide +kernel
theorem dX5_next_107 : decode cX5_next 107 = .ok (.ifCond .ne 15, 3) := by decide +kernel
theorem dX5_next_110 : decode cX5_next 110 = .ok (.aload_n 1, 1) := by decide +kernel
theorem dX5_next_111 : decode cX5_next 111 = .ok (.iload_n 3, 1) := by decide +kernel
theorem dX5_next_112 : decode cX5_next 112 = .ok (.invokestatic 79, 3) := by decide +kernel
theorem dX5_next_115 : decode cX5_next 115 = .ok (.ifCond .ne 7, 3) := by decide +kernel
theorem dX5_next_118 : decode cX5_next 118 = .ok (.iload_n 3, 1) := by decide +kernel
theorem dX5_next_119 : decode cX5_next 119 = .ok (.goto 4, 3) := by decide +kernel
theorem dX5_next_122 : decode cX5_next 122 = .ok (.iload_n 2, 1) := by decide +kernel
theorem dX5_next_123 : decode cX5_next 123 = .ok (.istore_n 2, 1) := by decide +kernel
theorem dX5_next_124 : decode cX5_next 124 = .ok (.iinc 3 (-1), 3) := by decide +kernel
theorem dX5_next_127 : decode cX5_next 127 = .ok (.goto (-41), 3) := by decide +kernel
theorem dX5_next_130 : decode cX5_next 130 = .ok (.iload_n 2, 1) := by decide +kernel
theorem dX5_next_131 : decode cX5_next 131 = .ok (.ireturn, 1) := by decide +kernel
theorem dX5_lay_0 : decode cX5_lay 0 = .ok (.aload_n 0, 1) := by decide +kernel
theorem dX5_lay_1 : decode cX5_lay 1 = .ok (.aload_n 1, 1) := by decide +kernel
theorem dX5_lay_2 : decode cX5_lay 2 = .ok (.invokevirtual 97, 3) := by decide +kernel
theorem dX5_lay_5 : decode cX5_lay 5 = .ok (.iconst 0, 1) := by decide +kernel
theorem dX5_lay_6 : decode cX5_lay 6 = .ok (.istore_n 2, 1) := by decide +kernel
theorem dX5_lay_7 : decode cX5_lay 7 = .ok (.iload_n 2, 1) := by decide +kernel
theorem dX5_lay_8 : decode cX5_lay 8 = .ok (.bipush 8, 2) := by decide +kernel
theorem dX5_lay_10 : decode cX5_lay 10 = .ok (.if_icmp .ge 30, 3) := by decide +kernel
theorem dX5_lay_13 : decode cX5_lay 13 = .ok (.aload_n 0, 1) := by decide +kernel
theorem dX5_lay_14 : decode cX5_lay 14 = .ok (.getfield 41, 3) := by decide +kernel
theorem dX5_lay_17 : decode cX5_lay 17 = .ok (.iload_n 2, 1) := by decide +kernel
theorem dX5_lay_18 : decode cX5_lay 18 = .ok (.iconst 0, 1) := by decide +kernel
theorem dX5_lay_19 : decode cX5_lay 19 = .ok (.iastore, 1) := by decide +kernel
theorem dX5_lay_20 : decode cX5_lay 20 = .ok (.aload_n 0, 1) := by decide +kernel
theorem dX5_lay_21 : decode cX5_lay 21 = .ok (.getfield 44, 3) := by decide +kernel
theorem dX5_lay_24 : decode cX5_lay 24 = .ok (.iload_n 2, 1) := by decide +kernel
theorem dX5_lay_25 : decode cX5_lay 25 = .ok (.iconst (-1), 1) := by decide +kernel
theorem dX5_lay_26 : decode cX5_lay 26 = .ok (.iastore, 1) := by decide +kernel
theorem dX5_lay_27 : decode cX5_lay 27 = .ok (.aload_n 0, 1) := by decide +kernel
theorem dX5_lay_28 : decode cX5_lay 28 = .ok (.getfield 47, 3) := by decide +kernel
theorem dX5_lay_31 : decode cX5_lay 31 = .ok (.iload_n 2, 1) := by decide +kernel
theorem dX5_lay_32 : decode cX5_lay 32 = .ok (.iconst 0, 1) := by decide +kernel
theorem dX5_lay_33 : decode cX5_lay 33 = .ok (.bastore, 1) := by decide +kernel
theorem dX5_lay_34 : decode cX5_lay 34 = .ok (.iinc 2 1, 3) := by decide +kernel
theorem dX5_lay_37 : decode cX5_lay 37 = .ok (.goto (-30), 3) := by decide +kernel
theorem dX5_lay_40 : decode cX5_lay 40 = .ok (.aload_n 1, 1) := by decide +kernel
theorem dX5_lay_41 : decode cX5_lay 41 = .ok (.bipush 7, 2) := by decide +kernel
theorem dX5_lay_43 : decode cX5_lay 43 = .ok (.iaload, 1) := by decide +kernel
theorem dX5_lay_44 : decode cX5_lay 44 = .ok (.istore_n 2, 1) := by decide +kernel
theorem dX5_lay_45 : decode cX5_lay 45 = .ok (.iconst 0, 1) := by decide +kernel
theorem dX5_lay_46 : decode cX5_lay 46 = .ok (.istore_n 3, 1) := by decide +kernel
theorem dX5_lay_47 : decode cX5_lay 47 = .ok (.iload_n 3, 1) := by decide +kernel
theorem dX5_lay_48 : decode cX5_lay 48 = .ok (.iconst 5, 1) := by decide +kernel
theorem dX5_lay_49 : decode cX5_lay 49 = .ok (.if_icmp .ge 16, 3) := by decide +kernel
theorem dX5_lay_52 : decode cX5_lay 52 = .ok (.aload_n 0, 1) := by decide +kernel
theorem dX5_lay_53 : decode cX5_lay 53 = .ok (.getfield 38, 3) := by decide +kernel
theorem dX5_lay_56 : decode cX5_lay 56 = .ok (.iload_n 3, 1) := by decide +kernel
theorem dX5_lay_57 : decode cX5_lay 57 = .ok (.iconst (-1), 1) := by decide +kernel
theorem dX5_lay_58 : decode cX5_lay 58 = .ok (.iastore, 1) := by decide +kernel
theorem dX5_lay_59 : decode cX5_lay 59 = .ok (.iinc 3 1, 3) := by decide +kernel
theorem dX5_lay_62 : decode cX5_lay 62 = .ok (.goto (-15), 3) := by decide +kernel
theorem dX5_lay_65 : decode cX5_lay 65 = .ok (.iconst 0, 1) := by decide +kernel
theorem dX5_lay_66 : decode cX5_lay 66 = .ok (.istore_n 3, 1) := by decide +kernel
theorem dX5_lay_67 : decode cX5_lay 67 = .ok (.iload_n 3, 1) := by decide +kernel
theorem dX5_lay_68 : decode cX5_lay 68 = .ok (.aload_n 1, 1) := by decide +kernel
theorem dX5_lay_69 : decode cX5_lay 69 = .ok (.iconst 2, 1) := by decide +kernel
theorem dX5_lay_70 : decode cX5_lay 70 = .ok (.iaload, 1) := by decide +kernel
theorem dX5_lay_71 : decode cX5_lay 71 = .ok (.if_icmp .ge 129, 3) := by decide +kernel
theorem dX5_lay_74 : decode cX5_lay 74 = .ok (.aload_n 0, 1) := by decide +kernel
theorem dX5_lay_75 : decode cX5_lay 75 = .ok (.aload_n 1, 1) := by decide +kernel
theorem dX5_lay_76 : decode cX5_lay 76 = .ok (.invokevirtual 100, 3) := by decide +kernel
theorem dX5_lay_79 : decode cX5_lay 79 = .ok (.istore 4, 2) := by decide +kernel
theorem dX5_lay_81 : decode cX5_lay 81 = .ok (.iload 4, 2) := by decide +kernel
theorem dX5_lay_83 : decode cX5_lay 83 = .ok (.iconst (-1), 1) := by decide +kernel
theorem dX5_lay_84 : decode cX5_lay 84 = .ok (.if_icmp .eq 110, 3) := by decide +kernel
theorem dX5_lay_87 : decode cX5_lay 87 = .ok (.aload_n 0, 1) := by decide +kernel
theorem dX5_lay_88 : decode cX5_lay 88 = .ok (.getfield 47, 3) := by decide +kernel
theorem dX5_lay_91 : decode cX5_lay 91 = .ok (.iload 4, 2) := by decide +kernel
theorem dX5_lay_93 : decode cX5_lay 93 = .ok (.iconst 1, 1) := by decide +kernel
theorem dX5_lay_94 : decode cX5_lay 94 = .ok (.bastore, 1) := by decide +kernel
theorem dX5_lay_95 : decode cX5_lay 95 = .ok (.aload_n 0, 1) := by decide +kernel
theorem dX5_lay_96 : decode cX5_lay 96 = .ok (.getfield 35, 3) := by decide +kernel
theorem dX5_lay_99 : decode cX5_lay 99 = .ok (.iload_n 3, 1) := by decide +kernel
theorem dX5_lay_100 : decode cX5_lay 100 = .ok (.iaload, 1) := by decide +kernel
theorem dX5_lay_101 : decode cX5_lay 101 = .ok (.istore 5, 2) := by decide +kernel
theorem dX5_lay_103 : decode cX5_lay 103 = .ok (.aload_n 1, 1) := by decide +kernel
theorem dX5_lay_104 : decode cX5_lay 104 = .ok (.iload 4, 2) := by decide +kernel
theorem dX5_lay_106 : decode cX5_lay 106 = .ok (.iconst 0, 1) := by decide +kernel
theorem dX5_lay_107 : decode cX5_lay 107 = .ok (.invokestatic 67, 3) := by decide +kernel
theorem dX5_lay_110 : decode cX5_lay 110 = .ok (.iaload, 1) := by decide +kernel
theorem dX5_lay_111 : decode cX5_lay 111 = .ok (.aload_n 1, 1) := by decide +kernel
theorem dX5_lay_112 : decode cX5_lay 112 = .ok (.iload 4, 2) := by decide +kernel
theorem dX5_lay_114 : decode cX5_lay 114 = .ok (.iconst 1, 1) := by decide +kernel
theorem dX5_lay_115 : decode cX5_lay 115 = .ok (.invokestatic 67, 3) := by decide +kernel
theorem dX5_lay_118 : decode cX5_lay 118 = .ok (.iaload, 1) := by decide +kernel
theorem dX5_lay_119 : decode cX5_lay 119 = .ok (.isub, 1) := by decide +kernel
theorem dX5_lay_120 : decode cX5_lay 120 = .ok (.istore 6, 2) := by decide +kernel
theorem dX5_lay_122 : decode cX5_lay 122 = .ok (.aload_n 1, 1) := by decide +kernel
theorem dX5_lay_123 : decode cX5_lay 123 = .ok (.bipush 69, 2) := by decide +kernel
theorem dX5_lay_125 : decode cX5_lay 125 = .ok (.iload 5, 2) := by decide +kernel
theorem dX5_lay_127 : decode cX5_lay 127 = .ok (.iadd, 1) := by decide +kernel
theorem dX5_lay_128 : decode cX5_lay 128 = .ok (.iaload, 1) := by decide +kernel
theorem dX5_lay_129 : decode cX5_lay 129 = .ok (.iload 6, 2) := by decide +kernel
theorem dX5_lay_131 : decode cX5_lay 131 = .ok (.if_icmp .ge 13, 3) := by decide +kernel
theorem dX5_lay_134 : decode cX5_lay 134 = .ok (.aload_n 1, 1) := by decide +kernel
theorem dX5_lay_135 : decode cX5_lay 135 = .ok (.bipush 69, 2) := by decide +kernel
theorem dX5_lay_137 : decode cX5_lay 137 = .ok (.iload 5, 2) := by decide +kernel
theorem dX5_lay_139 : decode cX5_lay 139 = .ok (.iadd, 1) := by decide +kernel
theorem dX5_lay_140 : decode cX5_lay 140 = .ok (.iaload, 1) := by decide +kernel
theorem dX5_lay_141 : decode cX5_lay 141 = .ok (.goto 5, 3) := by decide +kernel
theorem dX5_lay_144 : decode cX5_lay 144 = .ok (.iload 6, 2) := by decide +kernel
theorem dX5_lay_146 : decode cX5_lay 146 = .ok (.istore 7, 2) := by decide +kernel
theorem dX5_lay_148 : decode cX5_lay 148 = .ok (.iload 7, 2) := by decide +kernel
theorem dX5_lay_150 : decode cX5_lay 150 = .ok (.iload_n 2, 1) := by decide +kernel
theorem dX5_lay_151 : decode cX5_lay 151 = .ok (.if_icmp .ge 8, 3) := by decide +kernel
theorem dX5_lay_154 : decode cX5_lay 154 = .ok (.iload 7, 2) := by decide +kernel
theorem dX5_lay_156 : decode cX5_lay 156 = .ok (.goto 4, 3) := by decide +kernel
theorem dX5_lay_159 : decode cX5_lay 159 = .ok (.iload_n 2, 1) := by decide +kernel
theorem dX5_lay_160 : decode cX5_lay 160 = .ok (.istore 7, 2) := by decide +kernel
theorem dX5_lay_162 : decode cX5_lay 162 = .ok (.iload_n 2, 1) := by decide +kernel
theorem dX5_lay_163 : decode cX5_lay 163 = .ok (.iload 7, 2) := by decide +kernel
theorem dX5_lay_165 : decode cX5_lay 165 = .ok (.isub, 1) := by decide +kernel
theorem dX5_lay_166 : decode cX5_lay 166 = .ok (.istore_n 2, 1) := by decide +kernel
theorem dX5_lay_167 : decode cX5_lay 167 = .ok (.aload_n 0, 1) := by decide +kernel
theorem dX5_lay_168 : decode cX5_lay 168 = .ok (.getfield 41, 3) := by decide +kernel
theorem dX5_lay_171 : decode cX5_lay 171 = .ok (.iload 4, 2) := by decide +kernel
theorem dX5_lay_173 : decode cX5_lay 173 = .ok (.iload 7, 2) := by decide +kernel
theorem dX5_lay_175 : decode cX5_lay 175 = .ok (.iastore, 1) := by decide +kernel
theorem dX5_lay_176 : decode cX5_lay 176 = .ok (.aload_n 0, 1) := by decide +kernel
theorem dX5_lay_177 : decode cX5_lay 177 = .ok (.getfield 44, 3) := by decide +kernel
theorem dX5_lay_180 : decode cX5_lay 180 = .ok (.iload 4, 2) := by decide +kernel
theorem dX5_lay_182 : decode cX5_lay 182 = .ok (.iload 5, 2) := by decide +kernel
theorem dX5_lay_184 : decode cX5_lay 184 = .ok (.iastore, 1) := by decide +kernel
theorem dX5_lay_185 : decode cX5_lay 185 = .ok (.aload_n 0, 1) := by decide +kernel
theorem dX5_lay_186 : decode cX5_lay 186 = .ok (.getfield 38, 3) := by decide +kernel
theorem dX5_lay_189 : decode cX5_lay 189 = .ok (.iload 5, 2) := by decide +kernel
theorem dX5_lay_191 : decode cX5_lay 191 = .ok (.iload 4, 2) := by decide +kernel
theorem dX5_lay_193 : decode cX5_lay 193 = .ok (.iastore, 1) := by decide +kernel
theorem dX5_lay_194 : decode cX5_lay 194 = .ok (.iinc 3 1, 3) := by decide +kernel
theorem dX5_lay_197 : decode cX5_lay 197 = .ok (.goto (-130), 3) := by decide +kernel
theorem dX5_lay_200 : decode cX5_lay 200 = .ok (.return_, 1) := by decide +kernel
theorem dX5_hourIn_0 : decode cX5_hourIn 0 = .ok (.aload_n 1, 1) := by decide +kernel
theorem dX5_hourIn_1 : decode cX5_hourIn 1 = .ok (.invokestatic 104, 3) := by decide +kernel
theorem dX5_hourIn_4 : decode cX5_hourIn 4 = .ok (.aload_n 1, 1) := by decide +kernel
theorem dX5_hourIn_5 : decode cX5_hourIn 5 = .ok (.invokestatic 107, 3) := by decide +kernel
theorem dX5_hourIn_8 : decode cX5_hourIn 8 = .ok (.aload_n 0, 1) := by decide +kernel
theorem dX5_hourIn_9 : decode cX5_hourIn 9 = .ok (.aload_n 1, 1) := by decide +kernel
theorem dX5_hourIn_10 : decode cX5_hourIn 10 = .ok (.invokevirtual 110, 3) := by decide +kernel
theorem dX5_hourIn_13 : decode cX5_hourIn 13 = .ok (.aload_n 1, 1) := by decide +kernel
theorem dX5_hourIn_14 : decode cX5_hourIn 14 = .ok (.bipush 7, 2) := by decide +kernel
theorem dX5_hourIn_16 : decode cX5_hourIn 16 = .ok (.aload_n 1, 1) := by decide +kernel
theorem dX5_hourIn_17 : decode cX5_hourIn 17 = .ok (.invokestatic 93, 3) := by decide +kernel
theorem dX5_hourIn_20 : decode cX5_hourIn 20 = .ok (.ifCond .eq 7, 3) := by decide +kernel
theorem dX5_hourIn_23 : decode cX5_hourIn 23 = .ok (.iconst 2, 1) := by decide +kernel
theorem dX5_hourIn_24 : decode cX5_hourIn 24 = .ok (.goto 4, 3) := by decide +kernel
theorem dX5_hourIn_27 : decode cX5_hourIn 27 = .ok (.iconst 1, 1) := by decide +kernel
theorem dX5_hourIn_28 : decode cX5_hourIn 28 = .ok (.iadd, 1) := by decide +kernel
theorem dX5_hourIn_29 : decode cX5_hourIn 29 = .ok (.iaload, 1) := by decide +kernel
theorem dX5_hourIn_30 : decode cX5_hourIn 30 = .ok (.istore_n 2, 1) := by decide +kernel
theorem dX5_hourIn_31 : decode cX5_hourIn 31 = .ok (.iconst 0, 1) := by decide +kernel
theorem dX5_hourIn_32 : decode cX5_hourIn 32 = .ok (.istore_n 3, 1) := by decide +kernel
theorem dX5_hourIn_33 : decode cX5_hourIn 33 = .ok (.iload_n 3, 1) := by decide +kernel
theorem dX5_hourIn_34 : decode cX5_hourIn 34 = .ok (.aload_n 1, 1) := by decide +kernel
theorem dX5_hourIn_35 : decode cX5_hourIn 35 = .ok (.iconst 1, 1) := by decide +kernel
theorem dX5_hourIn_36 : decode cX5_hourIn 36 = .ok (.iaload, 1) := by decide +kernel
theorem dX5_hourIn_37 : decode cX5_hourIn 37 = .ok (.if_icmp .ge 51, 3) := by decide +kernel
theorem dX5_hourIn_40 : decode cX5_hourIn 40 = .ok (.aload_n 1, 1) := by decide +kernel
theorem dX5_hourIn_41 : decode cX5_hourIn 41 = .ok (.iload_n 3, 1) := by decide +kernel
theorem dX5_hourIn_42 : decode cX5_hourIn 42 = .ok (.iconst 1, 1) := by decide +kernel
theorem dX5_hourIn_43 : decode cX5_hourIn 43 = .ok (.invokestatic 67, 3) := by decide +kernel
theorem dX5_hourIn_46 : decode cX5_hourIn 46 = .ok (.dup2, 1) := by decide +kernel
theorem dX5_hourIn_47 : decode cX5_hourIn 47 = .ok (.iaload, 1) := by decide +kernel
theorem dX5_hourIn_48 : decode cX5_hourIn 48 = .ok (.aload_n 0, 1) := by decide +kernel
theorem dX5_hourIn_49 : decode cX5_hourIn 49 = .ok (.getfield 41, 3) := by decide +kernel
theorem dX5_hourIn_52 : decode cX5_hourIn 52 = .ok (.iload_n 3, 1) := by decide +kernel
theorem dX5_hourIn_53 : decode cX5_hourIn 53 = .ok (.iaload, 1) := by decide +kernel
theorem dX5_hourIn_54 : decode cX5_hourIn 54 = .ok (.iadd, 1) := by decide +kernel
theorem dX5_hourIn_55 : decode cX5_hourIn 55 = .ok (.iastore, 1) := by decide +kernel
theorem dX5_hourIn_56 : decode cX5_hourIn 56 = .ok (.aload_n 1, 1) := by decide +kernel
theorem dX5_hourIn_57 : decode cX5_hourIn 57 = .ok (.iconst 4, 1) := by decide +kernel
theorem dX5_hourIn_58 : decode cX5_hourIn 58 = .ok (.dup2, 1) := by decide +kernel
theorem dX5_hourIn_59 : decode cX5_hourIn 59 = .ok (.iaload, 1) := by decide +kernel
theorem dX5_hourIn_60 : decode cX5_hourIn 60 = .ok (.aload_n 0, 1) := by decide +kernel
theorem dX5_hourIn_61 : decode cX5_hourIn 61 = .ok (.getfield 41, 3) := by decide +kernel
theorem dX5_hourIn_64 : decode cX5_hourIn 64 = .ok (.iload_n 3, 1) := by decide +kernel
theorem dX5_hourIn_65 : decode cX5_hourIn 65 = .ok (.iaload, 1) := by decide +kernel
theorem dX5_hourIn_66 : decode cX5_hourIn 66 = .ok (.iadd, 1) := by decide +kernel
theorem dX5_hourIn_67 : decode cX5_hourIn 67 = .ok (.iastore, 1) := by decide +kernel
theorem dX5_hourIn_68 : decode cX5_hourIn 68 = .ok (.aload_n 1, 1) := by decide +kernel
theorem dX5_hourIn_69 : decode cX5_hourIn 69 = .ok (.iconst 3, 1) := by decide +kernel
theorem dX5_hourIn_70 : decode cX5_hourIn 70 = .ok (.dup2, 1) := by decide +kernel
theorem dX5_hourIn_71 : decode cX5_hourIn 71 = .ok (.iaload, 1) := by decide +kernel
theorem dX5_hourIn_72 : decode cX5_hourIn 72 = .ok (.aload_n 0, 1) := by decide +kernel
theorem dX5_hourIn_73 : decode cX5_hourIn 73 = .ok (.getfield 41, 3) := by decide +kernel
theorem dX5_hourIn_76 : decode cX5_hourIn 76 = .ok (.iload_n 3, 1) := by decide +kernel
theorem dX5_hourIn_77 : decode cX5_hourIn 77 = .ok (.iaload, 1) := by decide +kernel
theorem dX5_hourIn_78 : decode cX5_hourIn 78 = .ok (.iload_n 2, 1) := by decide +kernel
theorem dX5_hourIn_79 : decode cX5_hourIn 79 = .ok (.imul, 1) := by decide +kernel
theorem dX5_hourIn_80 : decode cX5_hourIn 80 = .ok (.iadd, 1) := by decide +kernel
theorem dX5_hourIn_81 : decode cX5_hourIn 81 = .ok (.iastore, 1) := by decide +kernel
theorem dX5_hourIn_82 : decode cX5_hourIn 82 = .ok (.iinc 3 1, 3) := by decide +kernel
theorem dX5_hourIn_85 : decode cX5_hourIn 85 = .ok (.goto (-52), 3) := by decide +kernel
theorem dX5_hourIn_88 : decode cX5_hourIn 88 = .ok (.aload_n 1, 1) := by decide +kernel
theorem dX5_hourIn_89 : decode cX5_hourIn 89 = .ok (.iconst 0, 1) := by decide +kernel
theorem dX5_hourIn_90 : decode cX5_hourIn 90 = .ok (.dup2, 1) := by decide +kernel
theorem dX5_hourIn_91 : decode cX5_hourIn 91 = .ok (.iaload, 1) := by decide +kernel
theorem dX5_hourIn_92 : decode cX5_hourIn 92 = .ok (.iconst 1, 1) := by decide +kernel
theorem dX5_hourIn_93 : decode cX5_hourIn 93 = .ok (.iadd, 1) := by decide +kernel
theorem dX5_hourIn_94 : decode cX5_hourIn 94 = .ok (.iastore, 1) := by decide +kernel
theorem dX5_hourIn_95 : decode cX5_hourIn 95 = .ok (.return_, 1) := by decide +kernel
theorem dX5_runIn_0 : decode cX5_runIn 0 = .ok (.aload_n 1, 1) := by decide +kernel
theorem dX5_runIn_1 : decode cX5_runIn 1 = .ok (.iconst 4, 1) := by decide +kernel
theorem dX5_runIn_2 : decode cX5_runIn 2 = .ok (.iaload, 1) := by decide +kernel
theorem dX5_runIn_3 : decode cX5_runIn 3 = .ok (.istore_n 3, 1) := by decide +kernel
theorem dX5_runIn_4 : decode cX5_runIn 4 = .ok (.iconst 0, 1) := by decide +kernel
theorem dX5_runIn_5 : decode cX5_runIn 5 = .ok (.istore 4, 2) := by decide +kernel
theorem dX5_runIn_7 : decode cX5_runIn 7 = .ok (.iload 4, 2) := by decide +kernel
theorem dX5_runIn_9 : decode cX5_runIn 9 = .ok (.iload_n 2, 1) := by decide +kernel
theorem dX5_runIn_10 : decode cX5_runIn 10 = .ok (.if_icmp .ge 14, 3) := by decide +kernel
theorem dX5_runIn_13 : decode cX5_runIn 13 = .ok (.aload_n 0, 1) := by decide +kernel
theorem dX5_runIn_14 : decode cX5_runIn 14 = .ok (.aload_n 1, 1) := by decide +kernel
theorem dX5_runIn_15 : decode cX5_runIn 15 = .ok (.invokevirtual 113, 3) := by decide +kernel
theorem dX5_runIn_18 : decode cX5_runIn 18 = .ok (.iinc 4 1, 3) := by decide +kernel
theorem dX5_runIn_21 : decode cX5_runIn 21 = .ok (.goto (-14), 3) := by decide +kernel
theorem dX5_runIn_24 : decode cX5_runIn 24 = .ok (.aload_n 1, 1) := by decide +kernel
theorem dX5_runIn_25 : decode cX5_runIn 25 = .ok (.iconst 4, 1) := by decide +kernel
theorem dX5_runIn_26 : decode cX5_runIn 26 = .ok (.iaload, 1) := by decide +kernel
theorem dX5_runIn_27 : decode cX5_runIn 27 = .ok (.iload_n 3, 1) := by decide +kernel
theorem dX5_runIn_28 : decode cX5_runIn 28 = .ok (.isub, 1) := by decide +kernel
theorem dX5_runIn_29 : decode cX5_runIn 29 = .ok (.ireturn, 1) := by decide +kernel
theorem dX5_isHour_0 : decode cX5_isHour 0 = .ok (.iload_n 0, 1) := by decide +kernel
theorem dX5_isHour_1 : decode cX5_isHour 1 = .ok (.i2l, 1) := by decide +kernel
theorem dX5_isHour_2 : decode cX5_isHour 2 = .ok (.lconst 0, 1) := by decide +kernel
theorem dX5_isHour_3 : decode cX5_isHour 3 = .ok (.ldc2_w 116, 3) := by decide +kernel
theorem dX5_isHour_6 : decode cX5_isHour 6 = .ok (.invokestatic 118, 3) := by decide +kernel
theorem dX5_isHour_9 : decode cX5_isHour 9 = .ok (.ireturn, 1) := by decide +kernel
theorem dX5_isBattery_0 : decode cX5_isBattery 0 = .ok (.iload_n 0, 1) := by decide +kernel
theorem dX5_isBattery_1 : decode cX5_isBattery 1 = .ok (.i2l, 1) := by decide +kernel
theorem dX5_isBattery_2 : decode cX5_isBattery 2 = .ok (.ldc2_w 58, 3) := by decide +kernel
theorem dX5_isBattery_5 : decode cX5_isBattery 5 = .ok (.ldc2_w 122, 3) := by decide +kernel
theorem dX5_isBattery_8 : decode cX5_isBattery 8 = .ok (.invokestatic 118, 3) := by decide +kernel
theorem dX5_isBattery_11 : decode cX5_isBattery 11 = .ok (.ireturn, 1) := by decide +kernel
theorem dX5_isRoute_0 : decode cX5_isRoute 0 = .ok (.iload_n 0, 1) := by decide +kernel
theorem dX5_isRoute_1 : decode cX5_isRoute 1 = .ok (.i2l, 1) := by decide +kernel
theorem dX5_isRoute_2 : decode cX5_isRoute 2 = .ok (.lconst 1, 1) := by decide +kernel
theorem dX5_isRoute_3 : decode cX5_isRoute 3 = .ok (.ldc2_w 122, 3) := by decide +kernel
theorem dX5_isRoute_6 : decode cX5_isRoute 6 = .ok (.invokestatic 118, 3) := by decide +kernel
theorem dX5_isRoute_9 : decode cX5_isRoute 9 = .ok (.ifCond .eq 26, 3) := by decide +kernel
theorem dX5_isRoute_12 : decode cX5_isRoute 12 = .ok (.iload_n 1, 1) := by decide +kernel
theorem dX5_isRoute_13 : decode cX5_isRoute 13 = .ok (.invokestatic 124, 3) := by decide +kernel
theorem dX5_isRoute_16 : decode cX5_isRoute 16 = .ok (.ifCond .eq 19, 3) := by decide +kernel
theorem dX5_isRoute_19 : decode cX5_isRoute 19 = .ok (.iload_n 2, 1) := by decide +kernel
theorem dX5_isRoute_20 : decode cX5_isRoute 20 = .ok (.invokestatic 124, 3) := by decide +kernel
theorem dX5_isRoute_23 : decode cX5_isRoute 23 = .ok (.ifCond .eq 12, 3) := by decide +kernel
theorem dX5_isRoute_26 : decode cX5_isRoute 26 = .ok (.iload_n 1, 1) := by decide +kernel
theorem dX5_isRoute_27 : decode cX5_isRoute 27 = .ok (.iload_n 2, 1) := by decide +kernel
theorem dX5_isRoute_28 : decode cX5_isRoute 28 = .ok (.if_icmp .eq 7, 3) := by decide +kernel
theorem dX5_isRoute_31 : decode cX5_isRoute 31 = .ok (.iconst 1, 1) := by decide +kernel
theorem dX5_isRoute_32 : decode cX5_isRoute 32 = .ok (.goto 4, 3) := by decide +kernel
theorem dX5_isRoute_35 : decode cX5_isRoute 35 = .ok (.iconst 0, 1) := by decide +kernel
theorem dX5_isRoute_36 : decode cX5_isRoute 36 = .ok (.ireturn, 1) := by decide +kernel
theorem dX5_isPower_0 : decode cX5_isPower 0 = .ok (.iload_n 0, 1) := by decide +kernel
theorem dX5_isPower_1 : decode cX5_isPower 1 = .ok (.i2l, 1) := by decide +kernel
theorem dX5_isPower_2 : decode cX5_isPower 2 = .ok (.lconst 1, 1) := by decide +kernel
theorem dX5_isPower_3 : decode cX5_isPower 3 = .ok (.ldc2_w 128, 3) := by decide +kernel
theorem dX5_isPower_6 : decode cX5_isPower 6 = .ok (.invokestatic 118, 3) := by decide +kernel
theorem dX5_isPower_9 : decode cX5_isPower 9 = .ok (.ireturn, 1) := by decide +kernel
theorem dX5_addBusIn_0 : decode cX5_addBusIn 0 = .ok (.aload_n 0, 1) := by decide +kernel
theorem dX5_addBusIn_1 : decode cX5_addBusIn 1 = .ok (.iconst 1, 1) := by decide +kernel
theorem dX5_addBusIn_2 : decode cX5_addBusIn 2 = .ok (.iaload, 1) := by decide +kernel
theorem dX5_addBusIn_3 : decode cX5_addBusIn 3 = .ok (.istore 6, 2) := by decide +kernel
theorem dX5_addBusIn_5 : decode cX5_addBusIn 5 = .ok (.aload_n 0, 1) := by decide +kernel
theorem dX5_addBusIn_6 : decode cX5_addBusIn 6 = .ok (.iload 6, 2) := by decide +kernel
theorem dX5_addBusIn_8 : decode cX5_addBusIn 8 = .ok (.iconst 0, 1) := by decide +kernel
theorem dX5_addBusIn_9 : decode cX5_addBusIn 9 = .ok (.invokestatic 67, 3) := by decide +kernel
theorem dX5_addBusIn_12 : decode cX5_addBusIn 12 = .ok (.iload_n 1, 1) := by decide +kernel
theorem dX5_addBusIn_13 : decode cX5_addBusIn 13 = .ok (.iastore, 1) := by decide +kernel
theorem dX5_addBusIn_14 : decode cX5_addBusIn 14 = .ok (.aload_n 0, 1) := by decide +kernel
theorem dX5_addBusIn_15 : decode cX5_addBusIn 15 = .ok (.iload 6, 2) := by decide +kernel
theorem dX5_addBusIn_17 : decode cX5_addBusIn 17 = .ok (.iconst 1, 1) := by decide +kernel
theorem dX5_addBusIn_18 : decode cX5_addBusIn 18 = .ok (.invokestatic 67, 3) := by decide +kernel
theorem dX5_addBusIn_21 : decode cX5_addBusIn 21 = .ok (.iload_n 2, 1) := by decide +kernel
theorem dX5_addBusIn_22 : decode cX5_addBusIn 22 = .ok (.iastore, 1) := by decide +kernel
theorem dX5_addBusIn_23 : decode cX5_addBusIn 23 = .ok (.aload_n 0, 1) := by decide +kernel
theorem dX5_addBusIn_24 : decode cX5_addBusIn 24 = .ok (.iload 6, 2) := by decide +kernel
theorem dX5_addBusIn_26 : decode cX5_addBusIn 26 = .ok (.iconst 2, 1) := by decide +kernel
theorem dX5_addBusIn_27 : decode cX5_addBusIn 27 = .ok (.invokestatic 67, 3) := by decide +kernel
theorem dX5_addBusIn_30 : decode cX5_addBusIn 30 = .ok (.iload_n 3, 1) := by decide +kernel
theorem dX5_addBusIn_31 : decode cX5_addBusIn 31 = .ok (.iastore, 1) := by decide +kernel
theorem dX5_addBusIn_32 : decode cX5_addBusIn 32 = .ok (.aload_n 0, 1) := by decide +kernel
theorem dX5_addBusIn_33 : decode cX5_addBusIn 33 = .ok (.iload 6, 2) := by decide +kernel
theorem dX5_addBusIn_35 : decode cX5_addBusIn 35 = .ok (.iconst 3, 1) := by decide +kernel
theorem dX5_addBusIn_36 : decode cX5_addBusIn 36 = .ok (.invokestatic 67, 3) := by decide +kernel
theorem dX5_addBusIn_39 : decode cX5_addBusIn 39 = .ok (.iload 4, 2) := by decide +kernel
theorem dX5_addBusIn_41 : decode cX5_addBusIn 41 = .ok (.iastore, 1) := by decide +kernel
theorem dX5_addBusIn_42 : decode cX5_addBusIn 42 = .ok (.aload_n 0, 1) := by decide +kernel
theorem dX5_addBusIn_43 : decode cX5_addBusIn 43 = .ok (.iload 6, 2) := by decide +kernel
theorem dX5_addBusIn_45 : decode cX5_addBusIn 45 = .ok (.iconst 4, 1) := by decide +kernel
theorem dX5_addBusIn_46 : decode cX5_addBusIn 46 = .ok (.invokestatic 67, 3) := by decide +kernel
theorem dX5_addBusIn_49 : decode cX5_addBusIn 49 = .ok (.iload 5, 2) := by decide +kernel
theorem dX5_addBusIn_51 : decode cX5_addBusIn 51 = .ok (.iastore, 1) := by decide +kernel
theorem dX5_addBusIn_52 : decode cX5_addBusIn 52 = .ok (.aload_n 0, 1) := by decide +kernel
theorem dX5_addBusIn_53 : decode cX5_addBusIn 53 = .ok (.iload 6, 2) := by decide +kernel
theorem dX5_addBusIn_55 : decode cX5_addBusIn 55 = .ok (.iconst 5, 1) := by decide +kernel
theorem dX5_addBusIn_56 : decode cX5_addBusIn 56 = .ok (.invokestatic 67, 3) := by decide +kernel
theorem dX5_addBusIn_59 : decode cX5_addBusIn 59 = .ok (.iconst 0, 1) := by decide +kernel
theorem dX5_addBusIn_60 : decode cX5_addBusIn 60 = .ok (.iastore, 1) := by decide +kernel
theorem dX5_addBusIn_61 : decode cX5_addBusIn 61 = .ok (.aload_n 0, 1) := by decide +kernel
theorem dX5_addBusIn_62 : decode cX5_addBusIn 62 = .ok (.iload 6, 2) := by decide +kernel
theorem dX5_addBusIn_64 : decode cX5_addBusIn 64 = .ok (.bipush 6, 2) := by decide +kernel
theorem dX5_addBusIn_66 : decode cX5_addBusIn 66 = .ok (.invokestatic 67, 3) := by decide +kernel
theorem dX5_addBusIn_69 : decode cX5_addBusIn 69 = .ok (.iconst 0, 1) := by decide +kernel
theorem dX5_addBusIn_70 : decode cX5_addBusIn 70 = .ok (.iastore, 1) := by decide +kernel
theorem dX5_addBusIn_71 : decode cX5_addBusIn 71 = .ok (.aload_n 0, 1) := by decide +kernel
theorem dX5_addBusIn_72 : decode cX5_addBusIn 72 = .ok (.iconst 1, 1) := by decide +kernel
theorem dX5_addBusIn_73 : decode cX5_addBusIn 73 = .ok (.dup2, 1) := by decide +kernel
theorem dX5_addBusIn_74 : decode cX5_addBusIn 74 = .ok (.iaload, 1) := by decide +kernel
theorem dX5_addBusIn_75 : decode cX5_addBusIn 75 = .ok (.iconst 1, 1) := by decide +kernel
theorem dX5_addBusIn_76 : decode cX5_addBusIn 76 = .ok (.iadd, 1) := by decide +kernel
theorem dX5_addBusIn_77 : decode cX5_addBusIn 77 = .ok (.iastore, 1) := by decide +kernel
theorem dX5_addBusIn_78 : decode cX5_addBusIn 78 = .ok (.iload 6, 2) := by decide +kernel
theorem dX5_addBusIn_80 : decode cX5_addBusIn 80 = .ok (.ireturn, 1) := by decide +kernel
theorem dX5_addPlugIn_0 : decode cX5_addPlugIn 0 = .ok (.aload_n 0, 1) := by decide +kernel
theorem dX5_addPlugIn_1 : decode cX5_addPlugIn 1 = .ok (.bipush 69, 2) := by decide +kernel
theorem dX5_addPlugIn_3 : decode cX5_addPlugIn 3 = .ok (.aload_n 0, 1) := by decide +kernel
theorem dX5_addPlugIn_4 : decode cX5_addPlugIn 4 = .ok (.iconst 2, 1) := by decide +kernel
theorem dX5_addPlugIn_5 : decode cX5_addPlugIn 5 = .ok (.iaload, 1) := by decide +kernel
theorem dX5_addPlugIn_6 : decode cX5_addPlugIn 6 = .ok (.iadd, 1) := by decide +kernel
theorem dX5_addPlugIn_7 : decode cX5_addPlugIn 7 = .ok (.iload_n 1, 1) := by decide +kernel
theorem dX5_addPlugIn_8 : decode cX5_addPlugIn 8 = .ok (.iastore, 1) := by decide +kernel
theorem dX5_addPlugIn_9 : decode cX5_addPlugIn 9 = .ok (.aload_n 0, 1) := by decide +kernel
theorem dX5_addPlugIn_10 : decode cX5_addPlugIn 10 = .ok (.iconst 2, 1) := by decide +kernel
theorem dX5_addPlugIn_11 : decode cX5_addPlugIn 11 = .ok (.dup2, 1) := by decide +kernel
theorem dX5_addPlugIn_12 : decode cX5_addPlugIn 12 = .ok (.iaload, 1) := by decide +kernel
theorem dX5_addPlugIn_13 : decode cX5_addPlugIn 13 = .ok (.iconst 1, 1) := by decide +kernel
theorem dX5_addPlugIn_14 : decode cX5_addPlugIn 14 = .ok (.iadd, 1) := by decide +kernel
theorem dX5_addPlugIn_15 : decode cX5_addPlugIn 15 = .ok (.iastore, 1) := by decide +kernel
theorem dX5_addPlugIn_16 : decode cX5_addPlugIn 16 = .ok (.aload_n 0, 1) := by decide +kernel
theorem dX5_addPlugIn_17 : decode cX5_addPlugIn 17 = .ok (.iconst 2, 1) := by decide +kernel
theorem dX5_addPlugIn_18 : decode cX5_addPlugIn 18 = .ok (.iaload, 1) := by decide +kernel
theorem dX5_addPlugIn_19 : decode cX5_addPlugIn 19 = .ok (.iconst 1, 1) := by decide +kernel
theorem dX5_addPlugIn_20 : decode cX5_addPlugIn 20 = .ok (.isub, 1) := by decide +kernel
theorem dX5_addPlugIn_21 : decode cX5_addPlugIn 21 = .ok (.ireturn, 1) := by decide +kernel
theorem dX5_routeIn_0 : decode cX5_routeIn 0 = .ok (.aload_n 0, 1) := by decide +kernel
theorem dX5_routeIn_1 : decode cX5_routeIn 1 = .ok (.iload_n 1, 1) := by decide +kernel
theorem dX5_routeIn_2 : decode cX5_routeIn 2 = .ok (.iconst 2, 1) := by decide +kernel
theorem dX5_routeIn_3 : decode cX5_routeIn 3 = .ok (.invokestatic 67, 3) := by decide +kernel
theorem dX5_routeIn_6 : decode cX5_routeIn 6 = .ok (.iaload, 1) := by decide +kernel
theorem dX5_routeIn_7 : decode cX5_routeIn 7 = .ok (.istore 5, 2) := by decide +kernel
theorem dX5_routeIn_9 : decode cX5_routeIn 9 = .ok (.aload_n 0, 1) := by decide +kernel
theorem dX5_routeIn_10 : decode cX5_routeIn 10 = .ok (.iload_n 1, 1) := by decide +kernel
theorem dX5_routeIn_11 : decode cX5_routeIn 11 = .ok (.iconst 2, 1) := by decide +kernel
theorem dX5_routeIn_12 : decode cX5_routeIn 12 = .ok (.invokestatic 67, 3) := by decide +kernel
theorem dX5_routeIn_15 : decode cX5_routeIn 15 = .ok (.iload_n 2, 1) := by decide +kernel
theorem dX5_routeIn_16 : decode cX5_routeIn 16 = .ok (.iastore, 1) := by decide +kernel
theorem dX5_routeIn_17 : decode cX5_routeIn 17 = .ok (.aload_n 0, 1) := by decide +kernel
theorem dX5_routeIn_18 : decode cX5_routeIn 18 = .ok (.iload_n 1, 1) := by decide +kernel
theorem dX5_routeIn_19 : decode cX5_routeIn 19 = .ok (.iconst 3, 1) := by decide +kernel
theorem dX5_routeIn_20 : decode cX5_routeIn 20 = .ok (.invokestatic 67, 3) := by decide +kernel
theorem dX5_routeIn_23 : decode cX5_routeIn 23 = .ok (.iload_n 3, 1) := by decide +kernel
theorem dX5_routeIn_24 : decode cX5_routeIn 24 = .ok (.iastore, 1) := by decide +kernel
theorem dX5_routeIn_25 : decode cX5_routeIn 25 = .ok (.aload_n 0, 1) := by decide +kernel
theorem dX5_routeIn_26 : decode cX5_routeIn 26 = .ok (.iload_n 1, 1) := by decide +kernel
theorem dX5_routeIn_27 : decode cX5_routeIn 27 = .ok (.iconst 4, 1) := by decide +kernel
theorem dX5_routeIn_28 : decode cX5_routeIn 28 = .ok (.invokestatic 67, 3) := by decide +kernel
theorem dX5_routeIn_31 : decode cX5_routeIn 31 = .ok (.iload 4, 2) := by decide +kernel
theorem dX5_routeIn_33 : decode cX5_routeIn 33 = .ok (.iastore, 1) := by decide +kernel
theorem dX5_routeIn_34 : decode cX5_routeIn 34 = .ok (.iload 5, 2) := by decide +kernel
theorem dX5_routeIn_36 : decode cX5_routeIn 36 = .ok (.ireturn, 1) := by decide +kernel
theorem dX5_batteryIn_0 : decode cX5_batteryIn 0 = .ok (.aload_n 0, 1) := by decide +kernel
theorem dX5_batteryIn_1 : decode cX5_batteryIn 1 = .ok (.iload_n 1, 1) := by decide +kernel
theorem dX5_batteryIn_2 : decode cX5_batteryIn 2 = .ok (.iconst 0, 1) := by decide +kernel
theorem dX5_batteryIn_3 : decode cX5_batteryIn 3 = .ok (.invokestatic 67, 3) := by decide +kernel
theorem dX5_batteryIn_6 : decode cX5_batteryIn 6 = .ok (.iaload, 1) := by decide +kernel
theorem dX5_batteryIn_7 : decode cX5_batteryIn 7 = .ok (.istore_n 3, 1) := by decide +kernel
theorem dX5_batteryIn_8 : decode cX5_batteryIn 8 = .ok (.aload_n 0, 1) := by decide +kernel
theorem dX5_batteryIn_9 : decode cX5_batteryIn 9 = .ok (.iload_n 1, 1) := by decide +kernel
theorem dX5_batteryIn_10 : decode cX5_batteryIn 10 = .ok (.iconst 0, 1) := by decide +kernel
theorem dX5_batteryIn_11 : decode cX5_batteryIn 11 = .ok (.invokestatic 67, 3) := by decide +kernel
theorem dX5_batteryIn_14 : decode cX5_batteryIn 14 = .ok (.iload_n 2, 1) := by decide +kernel
theorem dX5_batteryIn_15 : decode cX5_batteryIn 15 = .ok (.iastore, 1) := by decide +kernel
theorem dX5_batteryIn_16 : decode cX5_batteryIn 16 = .ok (.aload_n 0, 1) := by decide +kernel
theorem dX5_batteryIn_17 : decode cX5_batteryIn 17 = .ok (.iload_n 1, 1) := by decide +kernel
theorem dX5_batteryIn_18 : decode cX5_batteryIn 18 = .ok (.iconst 1, 1) := by decide +kernel
theorem dX5_batteryIn_19 : decode cX5_batteryIn 19 = .ok (.invokestatic 67, 3) := by decide +kernel
theorem dX5_batteryIn_22 : decode cX5_batteryIn 22 = .ok (.iconst 0, 1) := by decide +kernel
theorem dX5_batteryIn_23 : decode cX5_batteryIn 23 = .ok (.iastore, 1) := by decide +kernel
theorem dX5_batteryIn_24 : decode cX5_batteryIn 24 = .ok (.aload_n 0, 1) := by decide +kernel
theorem dX5_batteryIn_25 : decode cX5_batteryIn 25 = .ok (.iload_n 1, 1) := by decide +kernel
theorem dX5_batteryIn_26 : decode cX5_batteryIn 26 = .ok (.iconst 5, 1) := by decide +kernel
theorem dX5_batteryIn_27 : decode cX5_batteryIn 27 = .ok (.invokestatic 67, 3) := by decide +kernel
theorem dX5_batteryIn_30 : decode cX5_batteryIn 30 = .ok (.iconst 0, 1) := by decide +kernel
theorem dX5_batteryIn_31 : decode cX5_batteryIn 31 = .ok (.iastore, 1) := by decide +kernel
theorem dX5_batteryIn_32 : decode cX5_batteryIn 32 = .ok (.iload_n 3, 1) := by decide +kernel
theorem dX5_batteryIn_33 : decode cX5_batteryIn 33 = .ok (.ireturn, 1) := by decide +kernel
theorem dX5_isSetting_0 : decode cX5_isSetting 0 = .ok (.iload_n 0, 1) := by decide +kernel
theorem dX5_isSetting_1 : decode cX5_isSetting 1 = .ok (.ifCond .ne 9, 3) := by decide +kernel
theorem dX5_isSetting_4 : decode cX5_isSetting 4 = .ok (.sipush 250, 3) := by decide +kernel
theorem dX5_isSetting_7 : decode cX5_isSetting 7 = .ok (.goto 26, 3) := by decide +kernel
theorem dX5_isSetting_10 : decode cX5_isSetting 10 = .ok (.iload_n 0, 1) := by decide +kernel
theorem dX5_isSetting_11 : decode cX5_isSetting 11 = .ok (.iconst 3, 1) := by decide +kernel
theorem dX5_isSetting_12 : decode cX5_isSetting 12 = .ok (.if_icmp .ne 9, 3) := by decide +kernel
theorem dX5_isSetting_15 : decode cX5_isSetting 15 = .ok (.sipush 999, 3) := by decide +kernel
theorem dX5_isSetting_18 : decode cX5_isSetting 18 = .ok (.goto 15, 3) := by decide +kernel
theorem dX5_isSetting_21 : decode cX5_isSetting 21 = .ok (.iload_n 0, 1) := by decide +kernel
theorem dX5_isSetting_22 : decode cX5_isSetting 22 = .ok (.iconst 5, 1) := by decide +kernel
theorem dX5_isSetting_23 : decode cX5_isSetting 23 = .ok (.if_icmp .ne 8, 3) := by decide +kernel
theorem dX5_isSetting_26 : decode cX5_isSetting 26 = .ok (.bipush 23, 2) := by decide +kernel
theorem dX5_isSetting_28 : decode cX5_isSetting 28 = .ok (.goto 5, 3) := by decide +kernel
theorem dX5_isSetting_31 : decode cX5_isSetting 31 = .ok (.bipush 99, 2) := by decide +kernel
theorem dX5_isSetting_33 : decode cX5_isSetting 33 = .ok (.istore_n 2, 1) := by decide +kernel
theorem dX5_isSetting_34 : decode cX5_isSetting 34 = .ok (.iload_n 0, 1) := by decide +kernel
theorem dX5_isSetting_35 : decode cX5_isSetting 35 = .ok (.i2l, 1) := by decide +kernel
theorem dX5_isSetting_36 : decode cX5_isSetting 36 = .ok (.lconst 0, 1) := by decide +kernel
theorem dX5_isSetting_37 : decode cX5_isSetting 37 = .ok (.ldc2_w 130, 3) := by decide +kernel
theorem dX5_isSetting_40 : decode cX5_isSetting 40 = .ok (.invokestatic 118, 3) := by decide +kernel
theorem dX5_isSetting_43 : decode cX5_isSetting 43 = .ok (.ifCond .eq 27, 3) := by decide +kernel
theorem dX5_isSetting_46 : decode cX5_isSetting 46 = .ok (.iload_n 1, 1) := by decide +kernel
theorem dX5_isSetting_47 : decode cX5_isSetting 47 = .ok (.i2l, 1) := by decide +kernel
theorem dX5_isSetting_48 : decode cX5_isSetting 48 = .ok (.iload_n 0, 1) := by decide +kernel
theorem dX5_isSetting_49 : decode cX5_isSetting 49 = .ok (.iconst 4, 1) := by decide +kernel
theorem dX5_isSetting_50 : decode cX5_isSetting 50 = .ok (.if_icmp .ne 7, 3) := by decide +kernel
theorem dX5_isSetting_53 : decode cX5_isSetting 53 = .ok (.lconst 1, 1) := by decide +kernel
theorem dX5_isSetting_54 : decode cX5_isSetting 54 = .ok (.goto 4, 3) := by decide +kernel
theorem dX5_isSetting_57 : decode cX5_isSetting 57 = .ok (.lconst 0, 1) := by decide +kernel
theorem dX5_isSetting_58 : decode cX5_isSetting 58 = .ok (.iload_n 2, 1) := by decide +kernel
theorem dX5_isSetting_59 : decode cX5_isSetting 59 = .ok (.i2l, 1) := by decide +kernel
theorem dX5_isSetting_60 : decode cX5_isSetting 60 = .ok (.invokestatic 118, 3) := by decide +kernel
theorem dX5_isSetting_63 : decode cX5_isSetting 63 = .ok (.ifCond .eq 7, 3) := by decide +kernel
theorem dX5_isSetting_66 : decode cX5_isSetting 66 = .ok (.iconst 1, 1) := by decide +kernel
theorem dX5_isSetting_67 : decode cX5_isSetting 67 = .ok (.goto 4, 3) := by decide +kernel
theorem dX5_isSetting_70 : decode cX5_isSetting 70 = .ok (.iconst 0, 1) := by decide +kernel
theorem dX5_isSetting_71 : decode cX5_isSetting 71 = .ok (.ireturn, 1) := by decide +kernel
theorem dX5_append_0 : decode cX5_append 0 = .ok (.aload_n 0, 1) := by decide +kernel
theorem dX5_append_1 : decode cX5_append 1 = .ok (.iload_n 1, 1) := by decide +kernel
theorem dX5_append_2 : decode cX5_append 2 = .ok (.i2l, 1) := by decide +kernel
theorem dX5_append_3 : decode cX5_append 3 = .ok (.lconst 0, 1) := by decide +kernel
theorem dX5_append_4 : decode cX5_append 4 = .ok (.ldc2_w 132, 3) := by decide +kernel
theorem dX5_append_7 : decode cX5_append 7 = .ok (.invokestatic 118, 3) := by decide +kernel
theorem dX5_append_10 : decode cX5_append 10 = .ok (.ifCond .ne 7, 3) := by decide +kernel
theorem dX5_append_13 : decode cX5_append 13 = .ok (.iconst 1, 1) := by decide +kernel
theorem dX5_append_14 : decode cX5_append 14 = .ok (.goto 17, 3) := by decide +kernel
theorem dX5_append_17 : decode cX5_append 17 = .ok (.aload_n 0, 1) := by decide +kernel
theorem dX5_append_18 : decode cX5_append 18 = .ok (.getfield 134, 3) := by decide +kernel
theorem dX5_append_21 : decode cX5_append 21 = .ok (.bipush 120, 2) := by decide +kernel
theorem dX5_append_23 : decode cX5_append 23 = .ok (.if_icmp .ne 7, 3) := by decide +kernel
theorem dX5_append_26 : decode cX5_append 26 = .ok (.iconst 2, 1) := by decide +kernel
theorem dX5_append_27 : decode cX5_append 27 = .ok (.goto 4, 3) := by decide +kernel
theorem dX5_append_30 : decode cX5_append 30 = .ok (.iconst 0, 1) := by decide +kernel
theorem dX5_append_31 : decode cX5_append 31 = .ok (.invokevirtual 137, 3) := by decide +kernel
theorem dX5_append_34 : decode cX5_append 34 = .ok (.ifCond .eq 5, 3) := by decide +kernel
theorem dX5_append_37 : decode cX5_append 37 = .ok (.iconst 0, 1) := by decide +kernel
theorem dX5_append_38 : decode cX5_append 38 = .ok (.ireturn, 1) := by decide +kernel
theorem dX5_append_39 : decode cX5_append 39 = .ok (.aload_n 0, 1) := by decide +kernel
theorem dX5_append_40 : decode cX5_append 40 = .ok (.getfield 7, 3) := by decide +kernel
theorem dX5_append_43 : decode cX5_append 43 = .ok (.aload_n 0, 1) := by decide +kernel
theorem dX5_append_44 : decode cX5_append 44 = .ok (.getfield 134, 3) := by decide +kernel
theorem dX5_append_47 : decode cX5_append 47 = .ok (.iload_n 1, 1) := by decide +kernel
theorem dX5_append_48 : decode cX5_append 48 = .ok (.iastore, 1) := by decide +kernel
theorem dX5_append_49 : decode cX5_append 49 = .ok (.aload_n 0, 1) := by decide +kernel
theorem dX5_append_50 : decode cX5_append 50 = .ok (.dup, 1) := by decide +kernel
theorem dX5_append_51 : decode cX5_append 51 = .ok (.getfield 134, 3) := by decide +kernel
theorem dX5_append_54 : decode cX5_append 54 = .ok (.iconst 1, 1) := by decide +kernel
theorem dX5_append_55 : decode cX5_append 55 = .ok (.iadd, 1) := by decide +kernel
theorem dX5_append_56 : decode cX5_append 56 = .ok (.putfield 134, 3) := by decide +kernel
theorem dX5_append_59 : decode cX5_append 59 = .ok (.aload_n 0, 1) := by decide +kernel
theorem dX5_append_60 : decode cX5_append 60 = .ok (.getfield 134, 3) := by decide +kernel
theorem dX5_append_63 : decode cX5_append 63 = .ok (.ireturn, 1) := by decide +kernel
theorem dX5_clearText_0 : decode cX5_clearText 0 = .ok (.aload_n 0, 1) := by decide +kernel
theorem dX5_clearText_1 : decode cX5_clearText 1 = .ok (.iconst 0, 1) := by decide +kernel
theorem dX5_clearText_2 : decode cX5_clearText 2 = .ok (.putfield 54, 3) := by decide +kernel
theorem dX5_clearText_5 : decode cX5_clearText 5 = .ok (.aload_n 0, 1) := by decide +kernel
theorem dX5_clearText_6 : decode cX5_clearText 6 = .ok (.getfield 134, 3) := by decide +kernel
theorem dX5_clearText_9 : decode cX5_clearText 9 = .ok (.istore_n 1, 1) := by decide +kernel
theorem dX5_clearText_10 : decode cX5_clearText 10 = .ok (.aload_n 0, 1) := by decide +kernel
theorem dX5_clearText_11 : decode cX5_clearText 11 = .ok (.iconst 0, 1) := by decide +kernel
theorem dX5_clearText_12 : decode cX5_clearText 12 = .ok (.putfield 134, 3) := by decide +kernel
theorem dX5_clearText_15 : decode cX5_clearText 15 = .ok (.iload_n 1, 1) := by decide +kernel
theorem dX5_clearText_16 : decode cX5_clearText 16 = .ok (.ireturn, 1) := by decide +kernel
theorem dX5_isNext_0 : decode cX5_isNext 0 = .ok (.aload_n 0, 1) := by decide +kernel
theorem dX5_isNext_1 : decode cX5_isNext 1 = .ok (.getfield 140, 3) := by decide +kernel
theorem dX5_isNext_4 : decode cX5_isNext 4 = .ok (.aload_n 0, 1) := by decide +kernel
theorem dX5_isNext_5 : decode cX5_isNext 5 = .ok (.getfield 134, 3) := by decide +kernel
theorem dX5_isNext_8 : decode cX5_isNext 8 = .ok (.if_icmp .ge 20, 3) := by decide +kernel
theorem dX5_isNext_11 : decode cX5_isNext 11 = .ok (.aload_n 0, 1) := by decide +kernel
theorem dX5_isNext_12 : decode cX5_isNext 12 = .ok (.getfield 7, 3) := by decide +kernel
theorem dX5_isNext_15 : decode cX5_isNext 15 = .ok (.aload_n 0, 1) := by decide +kernel
theorem dX5_isNext_16 : decode cX5_isNext 16 = .ok (.getfield 140, 3) := by decide +kernel
theorem dX5_isNext_19 : decode cX5_isNext 19 = .ok (.iaload, 1) := by decide +kernel
theorem dX5_isNext_20 : decode cX5_isNext 20 = .ok (.iload_n 1, 1) := by decide +kernel
theorem dX5_isNext_21 : decode cX5_isNext 21 = .ok (.if_icmp .ne 7, 3) := by decide +kernel
theorem dX5_isNext_24 : decode cX5_isNext 24 = .ok (.iconst 1, 1) := by decide +kernel
theorem dX5_isNext_25 : decode cX5_isNext 25 = .ok (.goto 4, 3) := by decide +kernel
theorem dX5_isNext_28 : decode cX5_isNext 28 = .ok (.iconst 0, 1) := by decide +kernel
theorem dX5_isNext_29 : decode cX5_isNext 29 = .ok (.ireturn, 1) := by decide +kernel
theorem dX5_accept_0 : decode cX5_accept 0 = .ok (.aload_n 0, 1) := by decide +kernel
theorem dX5_accept_1 : decode cX5_accept 1 = .ok (.aload_n 0, 1) := by decide +kernel
theorem dX5_accept_2 : decode cX5_accept 2 = .ok (.getfield 143, 3) := by decide +kernel
theorem dX5_accept_5 : decode cX5_accept 5 = .ok (.ifCond .eq 11, 3) := by decide +kernel
theorem dX5_accept_8 : decode cX5_accept 8 = .ok (.iload_n 1, 1) := by decide +kernel
theorem dX5_accept_9 : decode cX5_accept 9 = .ok (.ifCond .eq 7, 3) := by decide +kernel
theorem dX5_accept_12 : decode cX5_accept 12 = .ok (.iconst 1, 1) := by decide +kernel
theorem dX5_accept_13 : decode cX5_accept 13 = .ok (.goto 4, 3) := by decide +kernel
theorem dX5_accept_16 : decode cX5_accept 16 = .ok (.iconst 0, 1) := by decide +kernel
theorem dX5_accept_17 : decode cX5_accept 17 = .ok (.putfield 143, 3) := by decide +kernel
theorem dX5_accept_20 : decode cX5_accept 20 = .ok (.aload_n 0, 1) := by decide +kernel
theorem dX5_accept_21 : decode cX5_accept 21 = .ok (.dup, 1) := by decide +kernel
theorem dX5_accept_22 : decode cX5_accept 22 = .ok (.getfield 140, 3) := by decide +kernel
theorem dX5_accept_25 : decode cX5_accept 25 = .ok (.aload_n 0, 1) := by decide +kernel
theorem dX5_accept_26 : decode cX5_accept 26 = .ok (.getfield 143, 3) := by decide +kernel
theorem dX5_accept_29 : decode cX5_accept 29 = .ok (.ifCond .eq 7, 3) := by decide +kernel
theorem dX5_accept_32 : decode cX5_accept 32 = .ok (.iconst 1, 1) := by decide +kernel
theorem dX5_accept_33 : decode cX5_accept 33 = .ok (.goto 4, 3) := by decide +kernel
theorem dX5_accept_36 : decode cX5_accept 36 = .ok (.iconst 0, 1) := by decide +kernel
theorem dX5_accept_37 : decode cX5_accept 37 = .ok (.iadd, 1) := by decide +kernel
theorem dX5_accept_38 : decode cX5_accept 38 = .ok (.putfield 140, 3) := by decide +kernel
theorem dX5_accept_41 : decode cX5_accept 41 = .ok (.return_, 1) := by decide +kernel
theorem dX5_digit_0 : decode cX5_digit 0 = .ok (.aload_n 0, 1) := by decide +kernel
theorem dX5_digit_1 : decode cX5_digit 1 = .ok (.getfield 140, 3) := by decide +kernel
theorem dX5_digit_4 : decode cX5_digit 4 = .ok (.aload_n 0, 1) := by decide +kernel
theorem dX5_digit_5 : decode cX5_digit 5 = .ok (.getfield 134, 3) := by decide +kernel
theorem dX5_digit_8 : decode cX5_digit 8 = .ok (.if_icmp .ge 18, 3) := by decide +kernel
theorem dX5_digit_11 : decode cX5_digit 11 = .ok (.aload_n 0, 1) := by decide +kernel
theorem dX5_digit_12 : decode cX5_digit 12 = .ok (.getfield 7, 3) := by decide +kernel
theorem dX5_digit_15 : decode cX5_digit 15 = .ok (.aload_n 0, 1) := by decide +kernel
theorem dX5_digit_16 : decode cX5_digit 16 = .ok (.getfield 140, 3) := by decide +kernel
theorem dX5_digit_19 : decode cX5_digit 19 = .ok (.iaload, 1) := by decide +kernel
theorem dX5_digit_20 : decode cX5_digit 20 = .ok (.bipush 48, 2) := by decide +kernel
theorem dX5_digit_22 : decode cX5_digit 22 = .ok (.isub, 1) := by decide +kernel
theorem dX5_digit_23 : decode cX5_digit 23 = .ok (.goto 4, 3) := by decide +kernel
theorem dX5_digit_26 : decode cX5_digit 26 = .ok (.iconst (-1), 1) := by decide +kernel
theorem dX5_digit_27 : decode cX5_digit 27 = .ok (.istore_n 1, 1) := by decide +kernel
theorem dX5_digit_28 : decode cX5_digit 28 = .ok (.iload_n 1, 1) := by decide +kernel
theorem dX5_digit_29 : decode cX5_digit 29 = .ok (.i2l, 1) := by decide +kernel
theorem dX5_digit_30 : decode cX5_digit 30 = .ok (.lconst 0, 1) := by decide +kernel
theorem dX5_digit_31 : decode cX5_digit 31 = .ok (.ldc2_w 147, 3) := by decide +kernel
theorem dX5_digit_34 : decode cX5_digit 34 = .ok (.invokestatic 118, 3) := by decide +kernel
theorem dX5_digit_37 : decode cX5_digit 37 = .ok (.ifCond .eq 7, 3) := by decide +kernel
theorem dX5_digit_40 : decode cX5_digit 40 = .ok (.iload_n 1, 1) := by decide +kernel
theorem dX5_digit_41 : decode cX5_digit 41 = .ok (.goto 4, 3) := by decide +kernel
theorem dX5_digit_44 : decode cX5_digit 44 = .ok (.iconst (-1), 1) := by decide +kernel
theorem dX5_digit_45 : decode cX5_digit 45 = .ok (.ireturn, 1) := by decide +kernel
theorem dX5_begins_0 : decode cX5_begins 0 = .ok (.iconst 1, 1) := by decide +kernel
theorem dX5_begins_1 : decode cX5_begins 1 = .ok (.istore_n 3, 1) := by decide +kernel
theorem dX5_begins_2 : decode cX5_begins 2 = .ok (.iconst 0, 1) := by decide +kernel
theorem dX5_begins_3 : decode cX5_begins 3 = .ok (.istore 4, 2) := by decide +kernel
theorem dX5_begins_5 : decode cX5_begins 5 = .ok (.iconst 0, 1) := by decide +kernel
theorem dX5_begins_6 : decode cX5_begins 6 = .ok (.istore 5, 2) := by decide +kernel
theorem dX5_begins_8 : decode cX5_begins 8 = .ok (.iload 5, 2) := by decide +kernel
theorem dX5_begins_10 : decode cX5_begins 10 = .ok (.iconst 4, 1) := by decide +kernel
theorem dX5_begins_11 : decode cX5_begins 11 = .ok (.if_icmp .ge 53, 3) := by decide +kernel
theorem dX5_begins_14 : decode cX5_begins 14 = .ok (.iload 4, 2) := by decide +kernel
theorem dX5_begins_16 : decode cX5_begins 16 = .ok (.ifCond .ne 30, 3) := by decide +kernel
theorem dX5_begins_19 : decode cX5_begins 19 = .ok (.iload_n 0, 1) := by decide +kernel
theorem dX5_begins_20 : decode cX5_begins 20 = .ok (.iload_n 3, 1) := by decide +kernel
theorem dX5_begins_21 : decode cX5_begins 21 = .ok (.imul, 1) := by decide +kernel
theorem dX5_begins_22 : decode cX5_begins 22 = .ok (.iload_n 2, 1) := by decide +kernel
theorem dX5_begins_23 : decode cX5_begins 23 = .ok (.if_icmp .gt 27, 3) := by decide +kernel
theorem dX5_begins_26 : decode cX5_begins 26 = .ok (.iload_n 0, 1) := by decide +kernel
theorem dX5_begins_27 : decode cX5_begins 27 = .ok (.iload_n 3, 1) := by decide +kernel
theorem dX5_begins_28 : decode cX5_begins 28 = .ok (.imul, 1) := by decide +kernel
theorem dX5_begins_29 : decode cX5_begins 29 = .ok (.iload_n 3, 1) := by decide +kernel
theorem dX5_begins_30 : decode cX5_begins 30 = .ok (.iadd, 1) := by decide +kernel
theorem dX5_begins_31 : decode cX5_begins 31 = .ok (.iconst 1, 1) := by decide +kernel
theorem dX5_begins_32 : decode cX5_begins 32 = .ok (.isub, 1) := by decide +kernel
theorem dX5_begins_33 : decode cX5_begins 33 = .ok (.iload_n 1, 1) := by decide +kernel
theorem dX5_begins_34 : decode cX5_begins 34 = .ok (.if_icmp .lt 16, 3) := by decide +kernel
theorem dX5_begins_37 : decode cX5_begins 37 = .ok (.iload_n 0, 1) := by decide +kernel
theorem dX5_begins_38 : decode cX5_begins 38 = .ok (.ifCond .gt 8, 3) := by decide +kernel
theorem dX5_begins_41 : decode cX5_begins 41 = .ok (.iload 5, 2) := by decide +kernel
theorem dX5_begins_43 : decode cX5_begins 43 = .ok (.ifCond .ne 7, 3) := by decide +kernel
theorem dX5_begins_46 : decode cX5_begins 46 = .ok (.iconst 1, 1) := by decide +kernel
theorem dX5_begins_47 : decode cX5_begins 47 = .ok (.goto 4, 3) := by decide +kernel
theorem dX5_begins_50 : decode cX5_begins 50 = .ok (.iconst 0, 1) := by decide +kernel
theorem dX5_begins_51 : decode cX5_begins 51 = .ok (.istore 4, 2) := by decide +kernel
theorem dX5_begins_53 : decode cX5_begins 53 = .ok (.iload_n 3, 1) := by decide +kernel
theorem dX5_begins_54 : decode cX5_begins 54 = .ok (.bipush 10, 2) := by decide +kernel
theorem dX5_begins_56 : decode cX5_begins 56 = .ok (.imul, 1) := by decide +kernel
theorem dX5_begins_57 : decode cX5_begins 57 = .ok (.istore_n 3, 1) := by decide +kernel
theorem dX5_begins_58 : decode cX5_begins 58 = .ok (.iinc 5 1, 3) := by decide +kernel
theorem dX5_begins_61 : decode cX5_begins 61 = .ok (.goto (-53), 3) := by decide +kernel
theorem dX5_begins_64 : decode cX5_begins 64 = .ok (.iload 4, 2) := by decide +kernel
theorem dX5_begins_66 : decode cX5_begins 66 = .ok (.ireturn, 1) := by decide +kernel
theorem dX5_number_0 : decode cX5_number 0 = .ok (.aload_n 0, 1) := by decide +kernel
theorem dX5_number_1 : decode cX5_number 1 = .ok (.aload_n 0, 1) := by decide +kernel
theorem dX5_number_2 : decode cX5_number 2 = .ok (.bipush 44, 2) := by decide +kernel
theorem dX5_number_4 : decode cX5_number 4 = .ok (.invokevirtual 149, 3) := by decide +kernel
theorem dX5_number_7 : decode cX5_number 7 = .ok (.invokevirtual 152, 3) := by decide +kernel
theorem dX5_number_10 : decode cX5_number 10 = .ok (.aload_n 0, 1) := by decide +kernel
theorem dX5_number_11 : decode cX5_number 11 = .ok (.invokevirtual 156, 3) := by decide +kernel
theorem dX5_number_14 : decode cX5_number 14 = .ok (.istore_n 3, 1) := by decide +kernel
theorem dX5_number_15 : decode cX5_number 15 = .ok (.aload_n 0, 1) := by decide +kernel
theorem dX5_number_16 : decode cX5_number 16 = .ok (.iload_n 3, 1) := by decide +kernel
theorem dX5_number_17 : decode cX5_number 17 = .ok (.iconst (-1), 1) := by decide +kernel
theorem dX5_number_18 : decode cX5_number 18 = .ok (.if_icmp .eq 16, 3) := by decide +kernel
theorem dX5_number_21 : decode cX5_number 21 = .ok (.iload_n 3, 1) := by decide +kernel
theorem dX5_number_22 : decode cX5_number 22 = .ok (.iload_n 1, 1) := by decide +kernel
theorem dX5_number_23 : decode cX5_number 23 = .ok (.iload_n 2, 1) := by decide +kernel
theorem dX5_number_24 : decode cX5_number 24 = .ok (.invokestatic 160, 3) := by decide +kernel
theorem dX5_number_27 : decode cX5_number 27 = .ok (.ifCond .eq 7, 3) := by decide +kernel
theorem dX5_number_30 : decode cX5_number 30 = .ok (.iconst 1, 1) := by decide +kernel
theorem dX5_number_31 : decode cX5_number 31 = .ok (.goto 4, 3) := by decide +kernel
theorem dX5_number_34 : decode cX5_number 34 = .ok (.iconst 0, 1) := by decide +kernel
theorem dX5_number_35 : decode cX5_number 35 = .ok (.invokevirtual 152, 3) := by decide +kernel
theorem dX5_number_38 : decode cX5_number 38 = .ok (.aload_n 0, 1) := by decide +kernel
theorem dX5_number_39 : decode cX5_number 39 = .ok (.getfield 143, 3) := by decide +kernel
theorem dX5_number_42 : decode cX5_number 42 = .ok (.ifCond .eq 11, 3) := by decide +kernel
theorem dX5_number_45 : decode cX5_number 45 = .ok (.iload_n 3, 1) := by decide +kernel
theorem dX5_number_46 : decode cX5_number 46 = .ok (.ifCond .le 7, 3) := by decide +kernel
theorem dX5_number_49 : decode cX5_number 49 = .ok (.iconst 1, 1) := by decide +kernel
theorem dX5_number_50 : decode cX5_number 50 = .ok (.goto 4, 3) := by decide +kernel
theorem dX5_number_53 : decode cX5_number 53 = .ok (.iconst 0, 1) := by decide +kernel
theorem dX5_number_54 : decode cX5_number 54 = .ok (.istore 4, 2) := by decide +kernel
theorem dX5_number_56 : decode cX5_number 56 = .ok (.iload 4, 2) := by decide +kernel
theorem dX5_number_58 : decode cX5_number 58 = .ok (.ifCond .eq 84, 3) := by decide +kernel
theorem dX5_number_61 : decode cX5_number 61 = .ok (.aload_n 0, 1) := by decide +kernel
theorem dX5_number_62 : decode cX5_number 62 = .ok (.invokevirtual 156, 3) := by decide +kernel
theorem dX5_number_65 : decode cX5_number 65 = .ok (.iconst (-1), 1) := by decide +kernel
theorem dX5_number_66 : decode cX5_number 66 = .ok (.if_icmp .ne 7, 3) := by decide +kernel
theorem dX5_number_69 : decode cX5_number 69 = .ok (.iconst (-1), 1) := by decide +kernel
theorem dX5_number_70 : decode cX5_number 70 = .ok (.goto 12, 3) := by decide +kernel
theorem dX5_number_73 : decode cX5_number 73 = .ok (.bipush 10, 2) := by decide +kernel
theorem dX5_number_75 : decode cX5_number 75 = .ok (.iload_n 3, 1) := by decide +kernel
theorem dX5_number_76 : decode cX5_number 76 = .ok (.imul, 1) := by decide +kernel
theorem dX5_number_77 : decode cX5_number 77 = .ok (.aload_n 0, 1) := by decide +kernel
theorem dX5_number_78 : decode cX5_number 78 = .ok (.invokevirtual 156, 3) := by decide +kernel
theorem dX5_number_81 : decode cX5_number 81 = .ok (.iadd, 1) := by decide +kernel
theorem dX5_number_82 : decode cX5_number 82 = .ok (.istore 5, 2) := by decide +kernel
theorem dX5_number_84 : decode cX5_number 84 = .ok (.iload 5, 2) := by decide +kernel
theorem dX5_number_86 : decode cX5_number 86 = .ok (.iconst (-1), 1) := by decide +kernel
theorem dX5_number_87 : decode cX5_number 87 = .ok (.if_icmp .eq 7, 3) := by decide +kernel
theorem dX5_number_90 : decode cX5_number 90 = .ok (.iconst 1, 1) := by decide +kernel
theorem dX5_number_91 : decode cX5_number 91 = .ok (.goto 4, 3) := by decide +kernel
theorem dX5_number_94 : decode cX5_number 94 = .ok (.iconst 0, 1) := by decide +kernel
theorem dX5_number_95 : decode cX5_number 95 = .ok (.istore 4, 2) := by decide +kernel
theorem dX5_number_97 : decode cX5_number 97 = .ok (.iload 4, 2) := by decide +kernel
theorem dX5_number_99 : decode cX5_number 99 = .ok (.ifCond .eq 26, 3) := by decide +kernel
theorem dX5_number_102 : decode cX5_number 102 = .ok (.aload_n 0, 1) := by decide +kernel
theorem dX5_number_103 : decode cX5_number 103 = .ok (.iload 5, 2) := by decide +kernel
theorem dX5_number_105 : decode cX5_number 105 = .ok (.iload_n 1, 1) := by decide +kernel
theorem dX5_number_106 : decode cX5_number 106 = .ok (.iload_n 2, 1) := by decide +kernel
theorem dX5_number_107 : decode cX5_number 107 = .ok (.invokestatic 160, 3) := by decide +kernel
theorem dX5_number_110 : decode cX5_number 110 = .ok (.invokevirtual 152, 3) := by decide +kernel
theorem dX5_number_113 : decode cX5_number 113 = .ok (.aload_n 0, 1) := by decide +kernel
theorem dX5_number_114 : decode cX5_number 114 = .ok (.getfield 143, 3) := by decide +kernel
theorem dX5_number_117 : decode cX5_number 117 = .ok (.istore 4, 2) := by decide +kernel
theorem dX5_number_119 : decode cX5_number 119 = .ok (.iload 5, 2) := by decide +kernel
theorem dX5_number_121 : decode cX5_number 121 = .ok (.istore_n 3, 1) := by decide +kernel
theorem dX5_number_122 : decode cX5_number 122 = .ok (.goto 17, 3) := by decide +kernel
theorem dX5_number_125 : decode cX5_number 125 = .ok (.aload_n 0, 1) := by decide +kernel
theorem dX5_number_126 : decode cX5_number 126 = .ok (.iload_n 3, 1) := by decide +kernel
theorem dX5_number_127 : decode cX5_number 127 = .ok (.iload_n 1, 1) := by decide +kernel
theorem dX5_number_128 : decode cX5_number 128 = .ok (.if_icmp .lt 7, 3) := by decide +kernel
theorem dX5_number_131 : decode cX5_number 131 = .ok (.iconst 1, 1) := by decide +kernel
theorem dX5_number_132 : decode cX5_number 132 = .ok (.goto 4, 3) := by decide +kernel
theorem dX5_number_135 : decode cX5_number 135 = .ok (.iconst 0, 1) := by decide +kernel
theorem dX5_number_136 : decode cX5_number 136 = .ok (.putfield 143, 3) := by decide +kernel
theorem dX5_number_139 : decode cX5_number 139 = .ok (.goto (-83), 3) := by decide +kernel
theorem dX5_number_142 : decode cX5_number 142 = .ok (.iload_n 3, 1) := by decide +kernel
theorem dX5_number_143 : decode cX5_number 143 = .ok (.ireturn, 1) := by decide +kernel
theorem dX5_word_0 : decode cX5_word 0 = .ok (.aload_n 0, 1) := by decide +kernel
theorem dX5_word_1 : decode cX5_word 1 = .ok (.aload_n 0, 1) := by decide +kernel
theorem dX5_word_2 : decode cX5_word 2 = .ok (.iload_n 1, 1) := by decide +kernel
theorem dX5_word_3 : decode cX5_word 3 = .ok (.invokevirtual 149, 3) := by decide +kernel
theorem dX5_word_6 : decode cX5_word 6 = .ok (.invokevirtual 152, 3) := by decide +kernel
theorem dX5_word_9 : decode cX5_word 9 = .ok (.aload_n 0, 1) := by decide +kernel
theorem dX5_word_10 : decode cX5_word 10 = .ok (.aload_n 0, 1) := by decide +kernel
theorem dX5_word_11 : decode cX5_word 11 = .ok (.iload_n 2, 1) := by decide +kernel
theorem dX5_word_12 : decode cX5_word 12 = .ok (.invokevirtual 149, 3) := by decide +kernel
theorem dX5_word_15 : decode cX5_word 15 = .ok (.invokevirtual 152, 3) := by decide +kernel
theorem dX5_word_18 : decode cX5_word 18 = .ok (.iload_n 3, 1) := by decide +kernel
theorem dX5_word_19 : decode cX5_word 19 = .ok (.iconst (-1), 1) := by decide +kernel
theorem dX5_word_20 : decode cX5_word 20 = .ok (.if_icmp .eq 12, 3) := by decide +kernel
theorem dX5_word_23 : decode cX5_word 23 = .ok (.aload_n 0, 1) := by decide +kernel
theorem dX5_word_24 : decode cX5_word 24 = .ok (.aload_n 0, 1) := by decide +kernel
theorem dX5_word_25 : decode cX5_word 25 = .ok (.iload_n 3, 1) := by decide +kernel
theorem dX5_word_26 : decode cX5_word 26 = .ok (.invokevirtual 149, 3) := by decide +kernel
theorem dX5_word_29 : decode cX5_word 29 = .ok (.invokevirtual 152, 3) := by decide +kernel
theorem dX5_word_32 : decode cX5_word 32 = .ok (.return_, 1) := by decide +kernel
theorem dX5_goes_0 : decode cX5_goes 0 = .ok (.aload_n 0, 1) := by decide +kernel
theorem dX5_goes_1 : decode cX5_goes 1 = .ok (.dup, 1) := by decide +kernel
theorem dX5_goes_2 : decode cX5_goes 2 = .ok (.getfield 164, 3) := by decide +kernel
theorem dX5_goes_5 : decode cX5_goes 5 = .ok (.aload_n 0, 1) := by decide +kernel
theorem dX5_goes_6 : decode cX5_goes 6 = .ok (.getfield 143, 3) := by decide +kernel
theorem dX5_goes_9 : decode cX5_goes 9 = .ok (.ifCond .eq 11, 3) := by decide +kernel
theorem dX5_goes_12 : decode cX5_goes 12 = .ok (.iload_n 1, 1) := by decide +kernel
theorem dX5_goes_13 : decode cX5_goes 13 = .ok (.ifCond .ne 7, 3) := by decide +kernel
theorem dX5_goes_16 : decode cX5_goes 16 = .ok (.iconst 1, 1) := by decide +kernel
theorem dX5_goes_17 : decode cX5_goes 17 = .ok (.goto 4, 3) := by decide +kernel
theorem dX5_goes_20 : decode cX5_goes 20 = .ok (.iconst 0, 1) := by decide +kernel
theorem dX5_goes_21 : decode cX5_goes 21 = .ok (.iadd, 1) := by decide +kernel
theorem dX5_goes_22 : decode cX5_goes 22 = .ok (.putfield 164, 3) := by decide +kernel
theorem dX5_goes_25 : decode cX5_goes 25 = .ok (.aload_n 0, 1) := by decide +kernel
theorem dX5_goes_26 : decode cX5_goes 26 = .ok (.getfield 143, 3) := by decide +kernel
theorem dX5_goes_29 : decode cX5_goes 29 = .ok (.ifCond .eq 11, 3) := by decide +kernel
theorem dX5_goes_32 : decode cX5_goes 32 = .ok (.iload_n 1, 1) := by decide +kernel
theorem dX5_goes_33 : decode cX5_goes 33 = .ok (.ifCond .eq 7, 3) := by decide +kernel
theorem dX5_goes_36 : decode cX5_goes 36 = .ok (.iconst 1, 1) := by decide +kernel
theorem dX5_goes_37 : decode cX5_goes 37 = .ok (.goto 4, 3) := by decide +kernel
theorem dX5_goes_40 : decode cX5_goes 40 = .ok (.iconst 0, 1) := by decide +kernel
theorem dX5_goes_41 : decode cX5_goes 41 = .ok (.ireturn, 1) := by decide +kernel
theorem dX5_readBus_0 : decode cX5_readBus 0 = .ok (.aload_n 0, 1) := by decide +kernel
theorem dX5_readBus_1 : decode cX5_readBus 1 = .ok (.bipush 117, 2) := by decide +kernel
theorem dX5_readBus_3 : decode cX5_readBus 3 = .ok (.bipush 115, 2) := by decide +kernel
theorem dX5_readBus_5 : decode cX5_readBus 5 = .ok (.iconst (-1), 1) := by decide +kernel
theorem dX5_readBus_6 : decode cX5_readBus 6 = .ok (.invokevirtual 167, 3) := by decide +kernel
theorem dX5_readBus_9 : decode cX5_readBus 9 = .ok (.aload_n 0, 1) := by decide +kernel
theorem dX5_readBus_10 : decode cX5_readBus 10 = .ok (.getfield 16, 3) := by decide +kernel
theorem dX5_readBus_13 : decode cX5_readBus 13 = .ok (.iconst 0, 1) := by decide +kernel
theorem dX5_readBus_14 : decode cX5_readBus 14 = .ok (.aload_n 0, 1) := by decide +kernel
theorem dX5_readBus_15 : decode cX5_readBus 15 = .ok (.bipush 10, 2) := by decide +kernel
theorem dX5_readBus_17 : decode cX5_readBus 17 = .ok (.sipush 400, 3) := by decide +kernel
theorem dX5_readBus_20 : decode cX5_readBus 20 = .ok (.invokevirtual 171, 3) := by decide +kernel
theorem dX5_readBus_23 : decode cX5_readBus 23 = .ok (.iastore, 1) := by decide +kernel
theorem dX5_readBus_24 : decode cX5_readBus 24 = .ok (.aload_n 0, 1) := by decide +kernel
theorem dX5_readBus_25 : decode cX5_readBus 25 = .ok (.getfield 16, 3) := by decide +kernel
theorem dX5_readBus_28 : decode cX5_readBus 28 = .ok (.iconst 1, 1) := by decide +kernel
theorem dX5_readBus_29 : decode cX5_readBus 29 = .ok (.aload_n 0, 1) := by decide +kernel
theorem dX5_readBus_30 : decode cX5_readBus 30 = .ok (.iconst 0, 1) := by decide +kernel
theorem dX5_readBus_31 : decode cX5_readBus 31 = .ok (.sipush 400, 3) := by decide +kernel
theorem dX5_readBus_34 : decode cX5_readBus 34 = .ok (.invokevirtual 171, 3) := by decide +kernel
theorem dX5_readBus_37 : decode cX5_readBus 37 = .ok (.iastore, 1) := by decide +kernel
theorem dX5_readBus_38 : decode cX5_readBus 38 = .ok (.aload_n 0, 1) := by decide +kernel
theorem dX5_readBus_39 : decode cX5_readBus 39 = .ok (.getfield 16, 3) := by decide +kernel
theorem dX5_readBus_42 : decode cX5_readBus 42 = .ok (.iconst 2, 1) := by decide +kernel
theorem dX5_readBus_43 : decode cX5_readBus 43 = .ok (.aload_n 0, 1) := by decide +kernel
theorem dX5_readBus_44 : decode cX5_readBus 44 = .ok (.iconst 1, 1) := by decide +kernel
theorem dX5_readBus_45 : decode cX5_readBus 45 = .ok (.sipush 400, 3) := by decide +kernel
theorem dX5_readBus_48 : decode cX5_readBus 48 = .ok (.invokevirtual 171, 3) := by decide +kernel
theorem dX5_readBus_51 : decode cX5_readBus 51 = .ok (.iastore, 1) := by decide +kernel
theorem dX5_readBus_52 : decode cX5_readBus 52 = .ok (.aload_n 0, 1) := by decide +kernel
theorem dX5_readBus_53 : decode cX5_readBus 53 = .ok (.getfield 16, 3) := by decide +kernel
theorem dX5_readBus_56 : decode cX5_readBus 56 = .ok (.iconst 3, 1) := by decide +kernel
theorem dX5_readBus_57 : decode cX5_readBus 57 = .ok (.aload_n 0, 1) := by decide +kernel
theorem dX5_readBus_58 : decode cX5_readBus 58 = .ok (.iconst 0, 1) := by decide +kernel
theorem dX5_readBus_59 : decode cX5_readBus 59 = .ok (.bipush 23, 2) := by decide +kernel
theorem dX5_readBus_61 : decode cX5_readBus 61 = .ok (.invokevirtual 171, 3) := by decide +kernel
theorem dX5_readBus_64 : decode cX5_readBus 64 = .ok (.iastore, 1) := by decide +kernel
theorem dX5_readBus_65 : decode cX5_readBus 65 = .ok (.aload_n 0, 1) := by decide +kernel
theorem dX5_readBus_66 : decode cX5_readBus 66 = .ok (.getfield 16, 3) := by decide +kernel
theorem dX5_readBus_69 : decode cX5_readBus 69 = .ok (.iconst 4, 1) := by decide +kernel
theorem dX5_readBus_70 : decode cX5_readBus 70 = .ok (.aload_n 0, 1) := by decide +kernel
theorem dX5_readBus_71 : decode cX5_readBus 71 = .ok (.iconst 0, 1) := by decide +kernel
theorem dX5_readBus_72 : decode cX5_readBus 72 = .ok (.bipush 23, 2) := by decide +kernel
theorem dX5_readBus_74 : decode cX5_readBus 74 = .ok (.invokevirtual 171, 3) := by decide +kernel
theorem dX5_readBus_77 : decode cX5_readBus 77 = .ok (.iastore, 1) := by decide +kernel
theorem dX5_readBus_78 : decode cX5_readBus 78 = .ok (.aload_n 0, 1) := by decide +kernel
theorem dX5_readBus_79 : decode cX5_readBus 79 = .ok (.aload_n 0, 1) := by decide +kernel
theorem dX5_readBus_80 : decode cX5_readBus 80 = .ok (.getfield 16, 3) := by decide +kernel
theorem dX5_readBus_83 : decode cX5_readBus 83 = .ok (.iconst 1, 1) := by decide +kernel
theorem dX5_readBus_84 : decode cX5_readBus 84 = .ok (.iaload, 1) := by decide +kernel
theorem dX5_readBus_85 : decode cX5_readBus 85 = .ok (.aload_n 0, 1) := by decide +kernel
theorem dX5_readBus_86 : decode cX5_readBus 86 = .ok (.getfield 16, 3) := by decide +kernel
theorem dX5_readBus_89 : decode cX5_readBus 89 = .ok (.iconst 0, 1) := by decide +kernel
theorem dX5_readBus_90 : decode cX5_readBus 90 = .ok (.iaload, 1) := by decide +kernel
theorem dX5_readBus_91 : decode cX5_readBus 91 = .ok (.if_icmp .gt 33, 3) := by decide +kernel
theorem dX5_readBus_94 : decode cX5_readBus 94 = .ok (.aload_n 0, 1) := by decide +kernel
theorem dX5_readBus_95 : decode cX5_readBus 95 = .ok (.getfield 16, 3) := by decide +kernel
theorem dX5_readBus_98 : decode cX5_readBus 98 = .ok (.iconst 3, 1) := by decide +kernel
theorem dX5_readBus_99 : decode cX5_readBus 99 = .ok (.iaload, 1) := by decide +kernel
theorem dX5_readBus_100 : decode cX5_readBus 100 = .ok (.aload_n 0, 1) := by decide +kernel
theorem dX5_readBus_101 : decode cX5_readBus 101 = .ok (.getfield 16, 3) := by decide +kernel
theorem dX5_readBus_104 : decode cX5_readBus 104 = .ok (.iconst 4, 1) := by decide +kernel
theorem dX5_readBus_105 : decode cX5_readBus 105 = .ok (.iaload, 1) := by decide +kernel
theorem dX5_readBus_106 : decode cX5_readBus 106 = .ok (.if_icmp .eq 18, 3) := by decide +kernel
theorem dX5_readBus_109 : decode cX5_readBus 109 = .ok (.aload_n 0, 1) := by decide +kernel
theorem dX5_readBus_110 : decode cX5_readBus 110 = .ok (.getfield 13, 3) := by decide +kernel
theorem dX5_readBus_113 : decode cX5_readBus 113 = .ok (.iconst 1, 1) := by decide +kernel
theorem dX5_readBus_114 : decode cX5_readBus 114 = .ok (.iaload, 1) := by decide +kernel
theorem dX5_readBus_115 : decode cX5_readBus 115 = .ok (.bipush 8, 2) := by decide +kernel
theorem dX5_readBus_117 : decode cX5_readBus 117 = .ok (.if_icmp .ge 7, 3) := by decide +kernel
theorem dX5_readBus_120 : decode cX5_readBus 120 = .ok (.iconst 1, 1) := by decide +kernel
theorem dX5_readBus_121 : decode cX5_readBus 121 = .ok (.goto 4, 3) := by decide +kernel
theorem dX5_readBus_124 : decode cX5_readBus 124 = .ok (.iconst 0, 1) := by decide +kernel
theorem dX5_readBus_125 : decode cX5_readBus 125 = .ok (.invokevirtual 174, 3) := by decide +kernel
theorem dX5_readBus_128 : decode cX5_readBus 128 = .ok (.ifCond .eq 41, 3) := by decide +kernel
theorem dX5_readBus_131 : decode cX5_readBus 131 = .ok (.aload_n 0, 1) := by decide +kernel
theorem dX5_readBus_132 : decode cX5_readBus 132 = .ok (.getfield 13, 3) := by decide +kernel
theorem dX5_readBus_135 : decode cX5_readBus 135 = .ok (.aload_n 0, 1) := by decide +kernel
theorem dX5_readBus_136 : decode cX5_readBus 136 = .ok (.getfield 16, 3) := by decide +kernel
theorem dX5_readBus_139 : decode cX5_readBus 139 = .ok (.iconst 0, 1) := by decide +kernel
theorem dX5_readBus_140 : decode cX5_readBus 140 = .ok (.iaload, 1) := by decide +kernel
theorem dX5_readBus_141 : decode cX5_readBus 141 = .ok (.aload_n 0, 1) := by decide +kernel
theorem dX5_readBus_142 : decode cX5_readBus 142 = .ok (.getfield 16, 3) := by decide +kernel
theorem dX5_readBus_145 : decode cX5_readBus 145 = .ok (.iconst 1, 1) := by decide +kernel
theorem dX5_readBus_146 : decode cX5_readBus 146 = .ok (.iaload, 1) := by decide +kernel
theorem dX5_readBus_147 : decode cX5_readBus 147 = .ok (.aload_n 0, 1) := by decide +kernel
theorem dX5_readBus_148 : decode cX5_readBus 148 = .ok (.getfield 16, 3) := by decide +kernel
theorem dX5_readBus_151 : decode cX5_readBus 151 = .ok (.iconst 2, 1) := by decide +kernel
theorem dX5_readBus_152 : decode cX5_readBus 152 = .ok (.iaload, 1) := by decide +kernel
theorem dX5_readBus_153 : decode cX5_readBus 153 = .ok (.aload_n 0, 1) := by decide +kernel
theorem dX5_readBus_154 : decode cX5_readBus 154 = .ok (.getfield 16, 3) := by decide +kernel
theorem dX5_readBus_157 : decode cX5_readBus 157 = .ok (.iconst 3, 1) := by decide +kernel
theorem dX5_readBus_158 : decode cX5_readBus 158 = .ok (.iaload, 1) := by decide +kernel
theorem dX5_readBus_159 : decode cX5_readBus 159 = .ok (.aload_n 0, 1) := by decide +kernel
theorem dX5_readBus_160 : decode cX5_readBus 160 = .ok (.getfield 16, 3) := by decide +kernel
theorem dX5_readBus_163 : decode cX5_readBus 163 = .ok (.iconst 4, 1) := by decide +kernel
theorem dX5_readBus_164 : decode cX5_readBus 164 = .ok (.iaload, 1) := by decide +kernel
theorem dX5_readBus_165 : decode cX5_readBus 165 = .ok (.invokestatic 178, 3) := by decide +kernel
theorem dX5_readBus_168 : decode cX5_readBus 168 = .ok (.pop, 1) := by decide +kernel
theorem dX5_readBus_169 : decode cX5_readBus 169 = .ok (.return_, 1) := by decide +kernel
theorem dX5_readSet_0 : decode cX5_readSet 0 = .ok (.aload_n 0, 1) := by decide +kernel
theorem dX5_readSet_1 : decode cX5_readSet 1 = .ok (.bipush 101, 2) := by decide +kernel
theorem dX5_readSet_3 : decode cX5_readSet 3 = .ok (.bipush 116, 2) := by decide +kernel
theorem dX5_readSet_5 : decode cX5_readSet 5 = .ok (.iconst (-1), 1) := by decide +kernel
theorem dX5_readSet_6 : decode cX5_readSet 6 = .ok (.invokevirtual 167, 3) := by decide +kernel
theorem dX5_readSet_9 : decode cX5_readSet 9 = .ok (.aload_n 0, 1) := by decide +kernel
theorem dX5_readSet_10 : decode cX5_readSet 10 = .ok (.iconst 0, 1) := by decide +kernel
theorem dX5_readSet_11 : decode cX5_readSet 11 = .ok (.iconst 5, 1) := by decide +kernel
theorem dX5_readSet_12 : decode cX5_readSet 12 = .ok (.invokevirtual 171, 3) := by decide +kernel
theorem dX5_readSet_15 : decode cX5_readSet 15 = .ok (.istore_n 1, 1) := by decide +kernel
theorem dX5_readSet_16 : decode cX5_readSet 16 = .ok (.aload_n 0, 1) := by decide +kernel
theorem dX5_readSet_17 : decode cX5_readSet 17 = .ok (.iconst 0, 1) := by decide +kernel
theorem dX5_readSet_18 : decode cX5_readSet 18 = .ok (.sipush 999, 3) := by decide +kernel
theorem dX5_readSet_21 : decode cX5_readSet 21 = .ok (.invokevirtual 171, 3) := by decide +kernel
theorem dX5_readSet_24 : decode cX5_readSet 24 = .ok (.istore_n 2, 1) := by decide +kernel
theorem dX5_readSet_25 : decode cX5_readSet 25 = .ok (.aload_n 0, 1) := by decide +kernel
theorem dX5_readSet_26 : decode cX5_readSet 26 = .ok (.iload_n 1, 1) := by decide +kernel
theorem dX5_readSet_27 : decode cX5_readSet 27 = .ok (.iload_n 2, 1) := by decide +kernel
theorem dX5_readSet_28 : decode cX5_readSet 28 = .ok (.invokestatic 182, 3) := by decide +kernel
theorem dX5_readSet_31 : decode cX5_readSet 31 = .ok (.invokevirtual 174, 3) := by decide +kernel
theorem dX5_readSet_34 : decode cX5_readSet 34 = .ok (.ifCond .eq 13, 3) := by decide +kernel
theorem dX5_readSet_37 : decode cX5_readSet 37 = .ok (.aload_n 0, 1) := by decide +kernel
theorem dX5_readSet_38 : decode cX5_readSet 38 = .ok (.getfield 13, 3) := by decide +kernel
theorem dX5_readSet_41 : decode cX5_readSet 41 = .ok (.bipush 7, 2) := by decide +kernel
theorem dX5_readSet_43 : decode cX5_readSet 43 = .ok (.iload_n 1, 1) := by decide +kernel
theorem dX5_readSet_44 : decode cX5_readSet 44 = .ok (.iadd, 1) := by decide +kernel
theorem dX5_readSet_45 : decode cX5_readSet 45 = .ok (.iload_n 2, 1) := by decide +kernel
theorem dX5_readSet_46 : decode cX5_readSet 46 = .ok (.iastore, 1) := by decide +kernel
theorem dX5_readSet_47 : decode cX5_readSet 47 = .ok (.return_, 1) := by decide +kernel
theorem dX5_readRest_0 : decode cX5_readRest 0 = .ok (.iload_n 1, 1) := by decide +kernel
theorem dX5_readRest_1 : decode cX5_readRest 1 = .ok (.bipush 112, 2) := by decide +kernel
theorem dX5_readRest_3 : decode cX5_readRest 3 = .ok (.if_icmp .ne 55, 3) := by decide +kernel
theorem dX5_readRest_6 : decode cX5_readRest 6 = .ok (.aload_n 0, 1) := by decide +kernel
theorem dX5_readRest_7 : decode cX5_readRest 7 = .ok (.bipush 108, 2) := by decide +kernel
theorem dX5_readRest_9 : decode cX5_readRest 9 = .ok (.bipush 117, 2) := by decide +kernel
theorem dX5_readRest_11 : decode cX5_readRest 11 = .ok (.bipush 103, 2) := by decide +kernel
theorem dX5_readRest_13 : decode cX5_readRest 13 = .ok (.invokevirtual 167, 3) := by decide +kernel
theorem dX5_readRest_16 : decode cX5_readRest 16 = .ok (.aload_n 0, 1) := by decide +kernel
theorem dX5_readRest_17 : decode cX5_readRest 17 = .ok (.iconst 1, 1) := by decide +kernel
theorem dX5_readRest_18 : decode cX5_readRest 18 = .ok (.bipush 50, 2) := by decide +kernel
theorem dX5_readRest_20 : decode cX5_readRest 20 = .ok (.invokevirtual 171, 3) := by decide +kernel
theorem dX5_readRest_23 : decode cX5_readRest 23 = .ok (.istore_n 2, 1) := by decide +kernel
theorem dX5_readRest_24 : decode cX5_readRest 24 = .ok (.aload_n 0, 1) := by decide +kernel
theorem dX5_readRest_25 : decode cX5_readRest 25 = .ok (.aload_n 0, 1) := by decide +kernel
theorem dX5_readRest_26 : decode cX5_readRest 26 = .ok (.getfield 13, 3) := by decide +kernel
theorem dX5_readRest_29 : decode cX5_readRest 29 = .ok (.iconst 2, 1) := by decide +kernel
theorem dX5_readRest_30 : decode cX5_readRest 30 = .ok (.iaload, 1) := by decide +kernel
theorem dX5_readRest_31 : decode cX5_readRest 31 = .ok (.iconst 5, 1) := by decide +kernel
theorem dX5_readRest_32 : decode cX5_readRest 32 = .ok (.if_icmp .ge 7, 3) := by decide +kernel
theorem dX5_readRest_35 : decode cX5_readRest 35 = .ok (.iconst 1, 1) := by decide +kernel
theorem dX5_readRest_36 : decode cX5_readRest 36 = .ok (.goto 4, 3) := by decide +kernel
theorem dX5_readRest_39 : decode cX5_readRest 39 = .ok (.iconst 0, 1) := by decide +kernel
theorem dX5_readRest_40 : decode cX5_readRest 40 = .ok (.invokevirtual 174, 3) := by decide +kernel
theorem dX5_readRest_43 : decode cX5_readRest 43 = .ok (.ifCond .eq 12, 3) := by decide +kernel
theorem dX5_readRest_46 : decode cX5_readRest 46 = .ok (.aload_n 0, 1) := by decide +kernel
theorem dX5_readRest_47 : decode cX5_readRest 47 = .ok (.getfield 13, 3) := by decide +kernel
theorem dX5_readRest_50 : decode cX5_readRest 50 = .ok (.iload_n 2, 1) := by decide +kernel
theorem dX5_readRest_51 : decode cX5_readRest 51 = .ok (.invokestatic 186, 3) := by decide +kernel
theorem dX5_readRest_54 : decode cX5_readRest 54 = .ok (.pop, 1) := by decide +kernel
theorem dX5_readRest_55 : decode cX5_readRest 55 = .ok (.goto 37, 3) := by decide +kernel
theorem dX5_readRest_58 : decode cX5_readRest 58 = .ok (.aload_n 0, 1) := by decide +kernel
theorem dX5_readRest_59 : decode cX5_readRest 59 = .ok (.bipush 117, 2) := by decide +kernel
theorem dX5_readRest_61 : decode cX5_readRest 61 = .ok (.bipush 110, 2) := by decide +kernel
theorem dX5_readRest_63 : decode cX5_readRest 63 = .ok (.iconst (-1), 1) := by decide +kernel
theorem dX5_readRest_64 : decode cX5_readRest 64 = .ok (.invokevirtual 167, 3) := by decide +kernel
theorem dX5_readRest_67 : decode cX5_readRest 67 = .ok (.aload_n 0, 1) := by decide +kernel
theorem dX5_readRest_68 : decode cX5_readRest 68 = .ok (.iconst 1, 1) := by decide +kernel
theorem dX5_readRest_69 : decode cX5_readRest 69 = .ok (.bipush 48, 2) := by decide +kernel
theorem dX5_readRest_71 : decode cX5_readRest 71 = .ok (.invokevirtual 171, 3) := by decide +kernel
theorem dX5_readRest_74 : decode cX5_readRest 74 = .ok (.istore_n 2, 1) := by decide +kernel
theorem dX5_readRest_75 : decode cX5_readRest 75 = .ok (.aload_n 0, 1) := by decide +kernel
theorem dX5_readRest_76 : decode cX5_readRest 76 = .ok (.getfield 143, 3) := by decide +kernel
theorem dX5_readRest_79 : decode cX5_readRest 79 = .ok (.ifCond .eq 13, 3) := by decide +kernel
theorem dX5_readRest_82 : decode cX5_readRest 82 = .ok (.aload_n 0, 1) := by decide +kernel
theorem dX5_readRest_83 : decode cX5_readRest 83 = .ok (.aload_n 0, 1) := by decide +kernel
theorem dX5_readRest_84 : decode cX5_readRest 84 = .ok (.getfield 13, 3) := by decide +kernel
theorem dX5_readRest_87 : decode cX5_readRest 87 = .ok (.iload_n 2, 1) := by decide +kernel
theorem dX5_readRest_88 : decode cX5_readRest 88 = .ok (.invokevirtual 189, 3) := by decide +kernel
theorem dX5_readRest_91 : decode cX5_readRest 91 = .ok (.pop, 1) := by decide +kernel
theorem dX5_readRest_92 : decode cX5_readRest 92 = .ok (.return_, 1) := by decide +kernel
theorem dX5_readCommand_0 : decode cX5_readCommand 0 = .ok (.aload_n 0, 1) := by decide +kernel
theorem dX5_readCommand_1 : decode cX5_readCommand 1 = .ok (.getfield 140, 3) := by decide +kernel
theorem dX5_readCommand_4 : decode cX5_readCommand 4 = .ok (.aload_n 0, 1) := by decide +kernel
theorem dX5_readCommand_5 : decode cX5_readCommand 5 = .ok (.getfield 134, 3) := by decide +kernel
theorem dX5_readCommand_8 : decode cX5_readCommand 8 = .ok (.if_icmp .ge 15, 3) := by decide +kernel
theorem dX5_readCommand_11 : decode cX5_readCommand 11 = .ok (.aload_n 0, 1) := by decide +kernel
theorem dX5_readCommand_12 : decode cX5_readCommand 12 = .ok (.getfield 7, 3) := by decide +kernel
theorem dX5_readCommand_15 : decode cX5_readCommand 15 = .ok (.aload_n 0, 1) := by decide +kernel
theorem dX5_readCommand_16 : decode cX5_readCommand 16 = .ok (.getfield 140, 3) := by decide +kernel
theorem dX5_readCommand_19 : decode cX5_readCommand 19 = .ok (.iaload, 1) := by decide +kernel
theorem dX5_readCommand_20 : decode cX5_readCommand 20 = .ok (.goto 4, 3) := by decide +kernel
theorem dX5_readCommand_23 : decode cX5_readCommand 23 = .ok (.iconst (-1), 1) := by decide +kernel
theorem dX5_readCommand_24 : decode cX5_readCommand 24 = .ok (.istore_n 1, 1) := by decide +kernel
theorem dX5_readCommand_25 : decode cX5_readCommand 25 = .ok (.aload_n 0, 1) := by decide +kernel
theorem dX5_readCommand_26 : decode cX5_readCommand 26 = .ok (.iload_n 1, 1) := by decide +kernel
theorem dX5_readCommand_27 : decode cX5_readCommand 27 = .ok (.bipush 98, 2) := by decide +kernel
theorem dX5_readCommand_29 : decode cX5_readCommand 29 = .ok (.if_icmp .eq 21, 3) := by decide +kernel
theorem dX5_readCommand_32 : decode cX5_readCommand 32 = .ok (.iload_n 1, 1) := by decide +kernel
theorem dX5_readCommand_33 : decode cX5_readCommand 33 = .ok (.bipush 112, 2) := by decide +kernel
theorem dX5_readCommand_35 : decode cX5_readCommand 35 = .ok (.if_icmp .eq 15, 3) := by decide +kernel
theorem dX5_readCommand_38 : decode cX5_readCommand 38 = .ok (.iload_n 1, 1) := by decide +kernel
theorem dX5_readCommand_39 : decode cX5_readCommand 39 = .ok (.bipush 114, 2) := by decide +kernel
theorem dX5_readCommand_41 : decode cX5_readCommand 41 = .ok (.if_icmp .eq 9, 3) := by decide +kernel
theorem dX5_readCommand_44 : decode cX5_readCommand 44 = .ok (.iload_n 1, 1) := by decide +kernel
theorem dX5_readCommand_45 : decode cX5_readCommand 45 = .ok (.bipush 115, 2) := by decide +kernel
theorem dX5_readCommand_47 : decode cX5_readCommand 47 = .ok (.if_icmp .ne 7, 3) := by decide +kernel
theorem dX5_readCommand_50 : decode cX5_readCommand 50 = .ok (.iconst 1, 1) := by decide +kernel
theorem dX5_readCommand_51 : decode cX5_readCommand 51 = .ok (.goto 4, 3) := by decide +kernel
theorem dX5_readCommand_54 : decode cX5_readCommand 54 = .ok (.iconst 0, 1) := by decide +kernel
theorem dX5_readCommand_55 : decode cX5_readCommand 55 = .ok (.invokevirtual 152, 3) := by decide +kernel
theorem dX5_readCommand_58 : decode cX5_readCommand 58 = .ok (.aload_n 0, 1) := by decide +kernel
theorem dX5_readCommand_59 : decode cX5_readCommand 59 = .ok (.getfield 143, 3) := by decide +kernel
theorem dX5_readCommand_62 : decode cX5_readCommand 62 = .ok (.ifCond .ne 4, 3) := by decide +kernel
theorem dX5_readCommand_65 : decode cX5_readCommand 65 = .ok (.return_, 1) := by decide +kernel
theorem dX5_readCommand_66 : decode cX5_readCommand 66 = .ok (.iload_n 1, 1) := by decide +kernel
theorem dX5_readCommand_67 : decode cX5_readCommand 67 = .ok (.bipush 98, 2) := by decide +kernel
theorem dX5_readCommand_69 : decode cX5_readCommand 69 = .ok (.if_icmp .ne 10, 3) := by decide +kernel
theorem dX5_readCommand_72 : decode cX5_readCommand 72 = .ok (.aload_n 0, 1) := by decide +kernel
theorem dX5_readCommand_73 : decode cX5_readCommand 73 = .ok (.invokevirtual 192, 3) := by decide +kernel
theorem dX5_readCommand_76 : decode cX5_readCommand 76 = .ok (.goto 21, 3) := by decide +kernel
theorem dX5_readCommand_79 : decode cX5_readCommand 79 = .ok (.iload_n 1, 1) := by decide +kernel
theorem dX5_readCommand_80 : decode cX5_readCommand 80 = .ok (.bipush 115, 2) := by decide +kernel
theorem dX5_readCommand_82 : decode cX5_readCommand 82 = .ok (.if_icmp .ne 10, 3) := by decide +kernel
theorem dX5_readCommand_85 : decode cX5_readCommand 85 = .ok (.aload_n 0, 1) := by decide +kernel
theorem dX5_readCommand_86 : decode cX5_readCommand 86 = .ok (.invokevirtual 195, 3) := by decide +kernel
theorem dX5_readCommand_89 : decode cX5_readCommand 89 = .ok (.goto 8, 3) := by decide +kernel
theorem dX5_readCommand_92 : decode cX5_readCommand 92 = .ok (.aload_n 0, 1) := by decide +kernel
theorem dX5_readCommand_93 : decode cX5_readCommand 93 = .ok (.iload_n 1, 1) := by decide +kernel
theorem dX5_readCommand_94 : decode cX5_readCommand 94 = .ok (.invokevirtual 198, 3) := by decide +kernel
theorem dX5_readCommand_97 : decode cX5_readCommand 97 = .ok (.return_, 1) := by decide +kernel
theorem dX5_readText_0 : decode cX5_readText 0 = .ok (.aload_n 0, 1) := by decide +kernel
theorem dX5_readText_1 : decode cX5_readText 1 = .ok (.iconst 0, 1) := by decide +kernel
theorem dX5_readText_2 : decode cX5_readText 2 = .ok (.putfield 140, 3) := by decide +kernel
theorem dX5_readText_5 : decode cX5_readText 5 = .ok (.aload_n 0, 1) := by decide +kernel
theorem dX5_readText_6 : decode cX5_readText 6 = .ok (.iconst 1, 1) := by decide +kernel
theorem dX5_readText_7 : decode cX5_readText 7 = .ok (.putfield 143, 3) := by decide +kernel
theorem dX5_readText_10 : decode cX5_readText 10 = .ok (.aload_n 0, 1) := by decide +kernel
theorem dX5_readText_11 : decode cX5_readText 11 = .ok (.iconst 0, 1) := by decide +kernel
theorem dX5_readText_12 : decode cX5_readText 12 = .ok (.putfield 164, 3) := by decide +kernel
theorem dX5_readText_15 : decode cX5_readText 15 = .ok (.aload_n 0, 1) := by decide +kernel
theorem dX5_readText_16 : decode cX5_readText 16 = .ok (.getfield 13, 3) := by decide +kernel
theorem dX5_readText_19 : decode cX5_readText 19 = .ok (.invokestatic 50, 3) := by decide +kernel
theorem dX5_readText_22 : decode cX5_readText 22 = .ok (.aload_n 0, 1) := by decide +kernel
theorem dX5_readText_23 : decode cX5_readText 23 = .ok (.invokevirtual 202, 3) := by decide +kernel
theorem dX5_readText_26 : decode cX5_readText 26 = .ok (.aload_n 0, 1) := by decide +kernel
theorem dX5_readText_27 : decode cX5_readText 27 = .ok (.getfield 143, 3) := by decide +kernel
theorem dX5_readText_30 : decode cX5_readText 30 = .ok (.ifCond .eq 38, 3) := by decide +kernel
theorem dX5_readText_33 : decode cX5_readText 33 = .ok (.aload_n 0, 1) := by decide +kernel
theorem dX5_readText_34 : decode cX5_readText 34 = .ok (.getfield 140, 3) := by decide +kernel
theorem dX5_readText_37 : decode cX5_readText 37 = .ok (.aload_n 0, 1) := by decide +kernel
theorem dX5_readText_38 : decode cX5_readText 38 = .ok (.getfield 134, 3) := by decide +kernel
theorem dX5_readText_41 : decode cX5_readText 41 = .ok (.if_icmp .ge 27, 3) := by decide +kernel
theorem dX5_readText_44 : decode cX5_readText 44 = .ok (.aload_n 0, 1) := by decide +kernel
theorem dX5_readText_45 : decode cX5_readText 45 = .ok (.aload_n 0, 1) := by decide +kernel
theorem dX5_readText_46 : decode cX5_readText 46 = .ok (.bipush 59, 2) := by decide +kernel
theorem dX5_readText_48 : decode cX5_readText 48 = .ok (.invokevirtual 149, 3) := by decide +kernel
theorem dX5_readText_51 : decode cX5_readText 51 = .ok (.invokevirtual 152, 3) := by decide +kernel
theorem dX5_readText_54 : decode cX5_readText 54 = .ok (.aload_n 0, 1) := by decide +kernel
theorem dX5_readText_55 : decode cX5_readText 55 = .ok (.getfield 143, 3) := by decide +kernel
theorem dX5_readText_58 : decode cX5_readText 58 = .ok (.ifCond .eq (-32), 3) := by decide +kernel
theorem dX5_readText_61 : decode cX5_readText 61 = .ok (.aload_n 0, 1) := by decide +kernel
theorem dX5_readText_62 : decode cX5_readText 62 = .ok (.invokevirtual 202, 3) := by decide +kernel
theorem dX5_readText_65 : decode cX5_readText 65 = .ok (.goto (-39), 3) := by decide +kernel
theorem dX5_readText_68 : decode cX5_readText 68 = .ok (.aload_n 0, 1) := by decide +kernel
theorem dX5_readText_69 : decode cX5_readText 69 = .ok (.getfield 143, 3) := by decide +kernel
theorem dX5_readText_72 : decode cX5_readText 72 = .ok (.ifCond .eq 7, 3) := by decide +kernel
theorem dX5_readText_75 : decode cX5_readText 75 = .ok (.iconst (-1), 1) := by decide +kernel
theorem dX5_readText_76 : decode cX5_readText 76 = .ok (.goto 7, 3) := by decide +kernel
theorem dX5_readText_79 : decode cX5_readText 79 = .ok (.aload_n 0, 1) := by decide +kernel
theorem dX5_readText_80 : decode cX5_readText 80 = .ok (.getfield 140, 3) := by decide +kernel
theorem dX5_readText_83 : decode cX5_readText 83 = .ok (.ireturn, 1) := by decide +kernel
theorem dX5_errorPosition_0 : decode cX5_errorPosition 0 = .ok (.aload_n 0, 1) := by decide +kernel
theorem dX5_errorPosition_1 : decode cX5_errorPosition 1 = .ok (.iconst 0, 1) := by decide +kernel
theorem dX5_errorPosition_2 : decode cX5_errorPosition 2 = .ok (.putfield 54, 3) := by decide +kernel
theorem dX5_errorPosition_5 : decode cX5_errorPosition 5 = .ok (.aload_n 0, 1) := by decide +kernel
theorem dX5_errorPosition_6 : decode cX5_errorPosition 6 = .ok (.invokevirtual 205, 3) := by decide +kernel
theorem dX5_errorPosition_9 : decode cX5_errorPosition 9 = .ok (.ireturn, 1) := by decide +kernel
theorem dX5_load_0 : decode cX5_load 0 = .ok (.aload_n 0, 1) := by decide +kernel
theorem dX5_load_1 : decode cX5_load 1 = .ok (.aload_n 0, 1) := by decide +kernel
theorem dX5_load_2 : decode cX5_load 2 = .ok (.invokevirtual 205, 3) := by decide +kernel
theorem dX5_load_5 : decode cX5_load 5 = .ok (.iconst (-1), 1) := by decide +kernel
theorem dX5_load_6 : decode cX5_load 6 = .ok (.if_icmp .ne 7, 3) := by decide +kernel
theorem dX5_load_9 : decode cX5_load 9 = .ok (.iconst 0, 1) := by decide +kernel
theorem dX5_load_10 : decode cX5_load 10 = .ok (.goto 4, 3) := by decide +kernel
theorem dX5_load_13 : decode cX5_load 13 = .ok (.iconst 1, 1) := by decide +kernel
theorem dX5_load_14 : decode cX5_load 14 = .ok (.invokevirtual 137, 3) := by decide +kernel
theorem dX5_load_17 : decode cX5_load 17 = .ok (.ifCond .eq 5, 3) := by decide +kernel
theorem dX5_load_20 : decode cX5_load 20 = .ok (.iconst 0, 1) := by decide +kernel
theorem dX5_load_21 : decode cX5_load 21 = .ok (.ireturn, 1) := by decide +kernel
theorem dX5_load_22 : decode cX5_load 22 = .ok (.aload_n 0, 1) := by decide +kernel
theorem dX5_load_23 : decode cX5_load 23 = .ok (.getfield 13, 3) := by decide +kernel
theorem dX5_load_26 : decode cX5_load 26 = .ok (.iconst 0, 1) := by decide +kernel
theorem dX5_load_27 : decode cX5_load 27 = .ok (.aload_n 0, 1) := by decide +kernel
theorem dX5_load_28 : decode cX5_load 28 = .ok (.getfield 19, 3) := by decide +kernel
theorem dX5_load_31 : decode cX5_load 31 = .ok (.iconst 0, 1) := by decide +kernel
theorem dX5_load_32 : decode cX5_load 32 = .ok (.bipush 74, 2) := by decide +kernel
theorem dX5_load_34 : decode cX5_load 34 = .ok (.invokestatic 63, 3) := by decide +kernel
theorem dX5_load_37 : decode cX5_load 37 = .ok (.aload_n 0, 1) := by decide +kernel
theorem dX5_load_38 : decode cX5_load 38 = .ok (.iconst 0, 1) := by decide +kernel
theorem dX5_load_39 : decode cX5_load 39 = .ok (.putfield 60, 3) := by decide +kernel
theorem dX5_load_42 : decode cX5_load 42 = .ok (.aload_n 0, 1) := by decide +kernel
theorem dX5_load_43 : decode cX5_load 43 = .ok (.getfield 31, 3) := by decide +kernel
theorem dX5_load_46 : decode cX5_load 46 = .ok (.iconst 0, 1) := by decide +kernel
theorem dX5_load_47 : decode cX5_load 47 = .ok (.iconst 0, 1) := by decide +kernel
theorem dX5_load_48 : decode cX5_load 48 = .ok (.bastore, 1) := by decide +kernel
theorem dX5_load_49 : decode cX5_load 49 = .ok (.aload_n 0, 1) := by decide +kernel
theorem dX5_load_50 : decode cX5_load 50 = .ok (.getfield 31, 3) := by decide +kernel
theorem dX5_load_53 : decode cX5_load 53 = .ok (.iconst 1, 1) := by decide +kernel
theorem dX5_load_54 : decode cX5_load 54 = .ok (.iconst 0, 1) := by decide +kernel
theorem dX5_load_55 : decode cX5_load 55 = .ok (.bastore, 1) := by decide +kernel
theorem dX5_load_56 : decode cX5_load 56 = .ok (.aload_n 0, 1) := by decide +kernel
theorem dX5_load_57 : decode cX5_load 57 = .ok (.getfield 164, 3) := by decide +kernel
theorem dX5_load_60 : decode cX5_load 60 = .ok (.ireturn, 1) := by decide +kernel
theorem dX5_sumOf_0 : decode cX5_sumOf 0 = .ok (.iconst 0, 1) := by decide +kernel
theorem dX5_sumOf_1 : decode cX5_sumOf 1 = .ok (.istore_n 2, 1) := by decide +kernel
theorem dX5_sumOf_2 : decode cX5_sumOf 2 = .ok (.iconst 0, 1) := by decide +kernel
theorem dX5_sumOf_3 : decode cX5_sumOf 3 = .ok (.istore_n 3, 1) := by decide +kernel
theorem dX5_sumOf_4 : decode cX5_sumOf 4 = .ok (.iload_n 3, 1) := by decide +kernel
theorem dX5_sumOf_5 : decode cX5_sumOf 5 = .ok (.aload_n 0, 1) := by decide +kernel
theorem dX5_sumOf_6 : decode cX5_sumOf 6 = .ok (.getfield 19, 3) := by decide +kernel
theorem dX5_sumOf_9 : decode cX5_sumOf 9 = .ok (.iconst 1, 1) := by decide +kernel
theorem dX5_sumOf_10 : decode cX5_sumOf 10 = .ok (.iaload, 1) := by decide +kernel
theorem dX5_sumOf_11 : decode cX5_sumOf 11 = .ok (.if_icmp .ge 67, 3) := by decide +kernel
theorem dX5_sumOf_14 : decode cX5_sumOf 14 = .ok (.iload_n 2, 1) := by decide +kernel
theorem dX5_sumOf_15 : decode cX5_sumOf 15 = .ok (.iload_n 1, 1) := by decide +kernel
theorem dX5_sumOf_16 : decode cX5_sumOf 16 = .ok (.bipush 7, 2) := by decide +kernel
theorem dX5_sumOf_18 : decode cX5_sumOf 18 = .ok (.if_icmp .ne 17, 3) := by decide +kernel
theorem dX5_sumOf_21 : decode cX5_sumOf 21 = .ok (.aload_n 0, 1) := by decide +kernel
theorem dX5_sumOf_22 : decode cX5_sumOf 22 = .ok (.getfield 19, 3) := by decide +kernel
theorem dX5_sumOf_25 : decode cX5_sumOf 25 = .ok (.iload_n 3, 1) := by decide +kernel
theorem dX5_sumOf_26 : decode cX5_sumOf 26 = .ok (.bipush 6, 2) := by decide +kernel
theorem dX5_sumOf_28 : decode cX5_sumOf 28 = .ok (.invokestatic 67, 3) := by decide +kernel
theorem dX5_sumOf_31 : decode cX5_sumOf 31 = .ok (.iaload, 1) := by decide +kernel
theorem dX5_sumOf_32 : decode cX5_sumOf 32 = .ok (.goto 38, 3) := by decide +kernel
theorem dX5_sumOf_35 : decode cX5_sumOf 35 = .ok (.iload_n 1, 1) := by decide +kernel
theorem dX5_sumOf_36 : decode cX5_sumOf 36 = .ok (.bipush 8, 2) := by decide +kernel
theorem dX5_sumOf_38 : decode cX5_sumOf 38 = .ok (.if_icmp .ne 22, 3) := by decide +kernel
theorem dX5_sumOf_41 : decode cX5_sumOf 41 = .ok (.aload_n 0, 1) := by decide +kernel
theorem dX5_sumOf_42 : decode cX5_sumOf 42 = .ok (.getfield 19, 3) := by decide +kernel
theorem dX5_sumOf_45 : decode cX5_sumOf 45 = .ok (.iload_n 3, 1) := by decide +kernel
theorem dX5_sumOf_46 : decode cX5_sumOf 46 = .ok (.invokestatic 71, 3) := by decide +kernel
theorem dX5_sumOf_49 : decode cX5_sumOf 49 = .ok (.ifCond .eq 7, 3) := by decide +kernel
theorem dX5_sumOf_52 : decode cX5_sumOf 52 = .ok (.iconst 1, 1) := by decide +kernel
theorem dX5_sumOf_53 : decode cX5_sumOf 53 = .ok (.goto 17, 3) := by decide +kernel
theorem dX5_sumOf_56 : decode cX5_sumOf 56 = .ok (.iconst 0, 1) := by decide +kernel
theorem dX5_sumOf_57 : decode cX5_sumOf 57 = .ok (.goto 13, 3) := by decide +kernel
theorem dX5_sumOf_60 : decode cX5_sumOf 60 = .ok (.aload_n 0, 1) := by decide +kernel
theorem dX5_sumOf_61 : decode cX5_sumOf 61 = .ok (.getfield 19, 3) := by decide +kernel
theorem dX5_sumOf_64 : decode cX5_sumOf 64 = .ok (.iload_n 3, 1) := by decide +kernel
theorem dX5_sumOf_65 : decode cX5_sumOf 65 = .ok (.iconst 1, 1) := by decide +kernel
theorem dX5_sumOf_66 : decode cX5_sumOf 66 = .ok (.invokestatic 67, 3) := by decide +kernel
theorem dX5_sumOf_69 : decode cX5_sumOf 69 = .ok (.iaload, 1) := by decide +kernel
theorem dX5_sumOf_70 : decode cX5_sumOf 70 = .ok (.iadd, 1) := by decide +kernel
theorem dX5_sumOf_71 : decode cX5_sumOf 71 = .ok (.istore_n 2, 1) := by decide +kernel
theorem dX5_sumOf_72 : decode cX5_sumOf 72 = .ok (.iinc 3 1, 3) := by decide +kernel
theorem dX5_sumOf_75 : decode cX5_sumOf 75 = .ok (.goto (-71), 3) := by decide +kernel
theorem dX5_sumOf_78 : decode cX5_sumOf 78 = .ok (.iload_n 2, 1) := by decide +kernel
theorem dX5_sumOf_79 : decode cX5_sumOf 79 = .ok (.ireturn, 1) := by decide +kernel
theorem dX5_about_0 : decode cX5_about 0 = .ok (.aload_n 0, 1) := by decide +kernel
theorem dX5_about_1 : decode cX5_about 1 = .ok (.iload_n 1, 1) := by decide +kernel
theorem dX5_about_2 : decode cX5_about 2 = .ok (.i2l, 1) := by decide +kernel
theorem dX5_about_3 : decode cX5_about 3 = .ok (.lconst 0, 1) := by decide +kernel
theorem dX5_about_4 : decode cX5_about 4 = .ok (.ldc2_w 58, 3) := by decide +kernel
theorem dX5_about_7 : decode cX5_about 7 = .ok (.invokestatic 118, 3) := by decide +kernel
theorem dX5_about_10 : decode cX5_about 10 = .ok (.ifCond .eq 7, 3) := by decide +kernel
theorem dX5_about_13 : decode cX5_about 13 = .ok (.iconst 0, 1) := by decide +kernel
theorem dX5_about_14 : decode cX5_about 14 = .ok (.goto 4, 3) := by decide +kernel
theorem dX5_about_17 : decode cX5_about 17 = .ok (.iconst 1, 1) := by decide +kernel
theorem dX5_about_18 : decode cX5_about 18 = .ok (.invokevirtual 137, 3) := by decide +kernel
theorem dX5_about_21 : decode cX5_about 21 = .ok (.ifCond .eq 5, 3) := by decide +kernel
theorem dX5_about_24 : decode cX5_about 24 = .ok (.iconst 0, 1) := by decide +kernel
theorem dX5_about_25 : decode cX5_about 25 = .ok (.ireturn, 1) := by decide +kernel
theorem dX5_about_26 : decode cX5_about 26 = .ok (.iload_n 1, 1) := by decide +kernel
theorem dX5_about_27 : decode cX5_about 27 = .ok (.tableswitch 119 0 9 #[53, 60, 67, 74, 81, 88, 95, 119, 119, 103], 53) := by decide +kernel
theorem dX5_about_80 : decode cX5_about 80 = .ok (.aload_n 0, 1) := by decide +kernel
theorem dX5_about_81 : decode cX5_about 81 = .ok (.getfield 19, 3) := by decide +kernel
theorem dX5_about_84 : decode cX5_about 84 = .ok (.iconst 1, 1) := by decide +kernel
theorem dX5_about_85 : decode cX5_about 85 = .ok (.iaload, 1) := by decide +kernel
theorem dX5_about_86 : decode cX5_about 86 = .ok (.ireturn, 1) := by decide +kernel
theorem dX5_about_87 : decode cX5_about 87 = .ok (.aload_n 0, 1) := by decide +kernel
theorem dX5_about_88 : decode cX5_about 88 = .ok (.getfield 19, 3) := by decide +kernel
theorem dX5_about_91 : decode cX5_about 91 = .ok (.iconst 2, 1) := by decide +kernel
theorem dX5_about_92 : decode cX5_about 92 = .ok (.iaload, 1) := by decide +kernel
theorem dX5_about_93 : decode cX5_about 93 = .ok (.ireturn, 1) := by decide +kernel
theorem dX5_about_94 : decode cX5_about 94 = .ok (.aload_n 0, 1) := by decide +kernel
theorem dX5_about_95 : decode cX5_about 95 = .ok (.getfield 19, 3) := by decide +kernel
theorem dX5_about_98 : decode cX5_about 98 = .ok (.iconst 0, 1) := by decide +kernel
theorem dX5_about_99 : decode cX5_about 99 = .ok (.iaload, 1) := by decide +kernel
theorem dX5_about_100 : decode cX5_about 100 = .ok (.ireturn, 1) := by decide +kernel
theorem dX5_about_101 : decode cX5_about 101 = .ok (.aload_n 0, 1) := by decide +kernel
theorem dX5_about_102 : decode cX5_about 102 = .ok (.getfield 19, 3) := by decide +kernel
theorem dX5_about_105 : decode cX5_about 105 = .ok (.iconst 3, 1) := by decide +kernel
theorem dX5_about_106 : decode cX5_about 106 = .ok (.iaload, 1) := by decide +kernel
theorem dX5_about_107 : decode cX5_about 107 = .ok (.ireturn, 1) := by decide +kernel
theorem dX5_about_108 : decode cX5_about 108 = .ok (.aload_n 0, 1) := by decide +kernel
theorem dX5_about_109 : decode cX5_about 109 = .ok (.getfield 19, 3) := by decide +kernel
theorem dX5_about_112 : decode cX5_about 112 = .ok (.iconst 4, 1) := by decide +kernel
theorem dX5_about_113 : decode cX5_about 113 = .ok (.iaload, 1) := by decide +kernel
theorem dX5_about_114 : decode cX5_about 114 = .ok (.ireturn, 1) := by decide +kernel
theorem dX5_about_115 : decode cX5_about 115 = .ok (.aload_n 0, 1) := by decide +kernel
theorem dX5_about_116 : decode cX5_about 116 = .ok (.getfield 19, 3) := by decide +kernel
theorem dX5_about_119 : decode cX5_about 119 = .ok (.iconst 5, 1) := by decide +kernel
theorem dX5_about_120 : decode cX5_about 120 = .ok (.iaload, 1) := by decide +kernel
theorem dX5_about_121 : decode cX5_about 121 = .ok (.ireturn, 1) := by decide +kernel
theorem dX5_about_122 : decode cX5_about 122 = .ok (.aload_n 0, 1) := by decide +kernel
theorem dX5_about_123 : decode cX5_about 123 = .ok (.getfield 19, 3) := by decide +kernel
theorem dX5_about_126 : decode cX5_about 126 = .ok (.bipush 6, 2) := by decide +kernel
theorem dX5_about_128 : decode cX5_about 128 = .ok (.iaload, 1) := by decide +kernel
theorem dX5_about_129 : decode cX5_about 129 = .ok (.ireturn, 1) := by decide +kernel
theorem dX5_about_130 : decode cX5_about 130 = .ok (.aload_n 0, 1) := by decide +kernel
theorem dX5_about_131 : decode cX5_about 131 = .ok (.getfield 19, 3) := by decide +kernel
theorem dX5_about_134 : decode cX5_about 134 = .ok (.invokestatic 93, 3) := by decide +kernel
theorem dX5_about_137 : decode cX5_about 137 = .ok (.ifCond .eq 7, 3) := by decide +kernel
theorem dX5_about_140 : decode cX5_about 140 = .ok (.iconst 1, 1) := by decide +kernel
theorem dX5_about_141 : decode cX5_about 141 = .ok (.goto 4, 3) := by decide +kernel
theorem dX5_about_144 : decode cX5_about 144 = .ok (.iconst 0, 1) := by decide +kernel
theorem dX5_about_145 : decode cX5_about 145 = .ok (.ireturn, 1) := by decide +kernel
theorem dX5_about_146 : decode cX5_about 146 = .ok (.aload_n 0, 1) := by decide +kernel
theorem dX5_about_147 : decode cX5_about 147 = .ok (.iload_n 1, 1) := by decide +kernel
theorem dX5_about_148 : decode cX5_about 148 = .ok (.invokevirtual 208, 3) := by decide +kernel
theorem dX5_about_151 : decode cX5_about 151 = .ok (.ireturn, 1) := by decide +kernel
theorem dX5_isBus_0 : decode cX5_isBus 0 = .ok (.iload_n 1, 1) := by decide +kernel
theorem dX5_isBus_1 : decode cX5_isBus 1 = .ok (.i2l, 1) := by decide +kernel
theorem dX5_isBus_2 : decode cX5_isBus 2 = .ok (.lconst 0, 1) := by decide +kernel
theorem dX5_isBus_3 : decode cX5_isBus 3 = .ok (.aload_n 0, 1) := by decide +kernel
theorem dX5_isBus_4 : decode cX5_isBus 4 = .ok (.getfield 19, 3) := by decide +kernel
theorem dX5_isBus_7 : decode cX5_isBus 7 = .ok (.iconst 1, 1) := by decide +kernel
theorem dX5_isBus_8 : decode cX5_isBus 8 = .ok (.iaload, 1) := by decide +kernel
theorem dX5_isBus_9 : decode cX5_isBus 9 = .ok (.iconst 1, 1) := by decide +kernel
theorem dX5_isBus_10 : decode cX5_isBus 10 = .ok (.isub, 1) := by decide +kernel
theorem dX5_isBus_11 : decode cX5_isBus 11 = .ok (.i2l, 1) := by decide +kernel
theorem dX5_isBus_12 : decode cX5_isBus 12 = .ok (.invokestatic 118, 3) := by decide +kernel
theorem dX5_isBus_15 : decode cX5_isBus 15 = .ok (.ireturn, 1) := by decide +kernel
theorem dX5_isPlug_0 : decode cX5_isPlug 0 = .ok (.iload_n 1, 1) := by decide +kernel
theorem dX5_isPlug_1 : decode cX5_isPlug 1 = .ok (.i2l, 1) := by decide +kernel
theorem dX5_isPlug_2 : decode cX5_isPlug 2 = .ok (.lconst 0, 1) := by decide +kernel
theorem dX5_isPlug_3 : decode cX5_isPlug 3 = .ok (.aload_n 0, 1) := by decide +kernel
theorem dX5_isPlug_4 : decode cX5_isPlug 4 = .ok (.getfield 19, 3) := by decide +kernel
theorem dX5_isPlug_7 : decode cX5_isPlug 7 = .ok (.iconst 2, 1) := by decide +kernel
theorem dX5_isPlug_8 : decode cX5_isPlug 8 = .ok (.iaload, 1) := by decide +kernel
theorem dX5_isPlug_9 : decode cX5_isPlug 9 = .ok (.iconst 1, 1) := by decide +kernel
theorem dX5_isPlug_10 : decode cX5_isPlug 10 = .ok (.isub, 1) := by decide +kernel
theorem dX5_isPlug_11 : decode cX5_isPlug 11 = .ok (.i2l, 1) := by decide +kernel
theorem dX5_isPlug_12 : decode cX5_isPlug 12 = .ok (.invokestatic 118, 3) := by decide +kernel
theorem dX5_isPlug_15 : decode cX5_isPlug 15 = .ok (.ireturn, 1) := by decide +kernel
theorem dX5_layTrial_0 : decode cX5_layTrial 0 = .ok (.aload_n 0, 1) := by decide +kernel
theorem dX5_layTrial_1 : decode cX5_layTrial 1 = .ok (.getfield 22, 3) := by decide +kernel
theorem dX5_layTrial_4 : decode cX5_layTrial 4 = .ok (.invokestatic 104, 3) := by decide +kernel
theorem dX5_layTrial_7 : decode cX5_layTrial 7 = .ok (.aload_n 0, 1) := by decide +kernel
theorem dX5_layTrial_8 : decode cX5_layTrial 8 = .ok (.getfield 22, 3) := by decide +kernel
theorem dX5_layTrial_11 : decode cX5_layTrial 11 = .ok (.invokestatic 107, 3) := by decide +kernel
theorem dX5_layTrial_14 : decode cX5_layTrial 14 = .ok (.aload_n 0, 1) := by decide +kernel
theorem dX5_layTrial_15 : decode cX5_layTrial 15 = .ok (.aload_n 0, 1) := by decide +kernel
theorem dX5_layTrial_16 : decode cX5_layTrial 16 = .ok (.getfield 22, 3) := by decide +kernel
theorem dX5_layTrial_19 : decode cX5_layTrial 19 = .ok (.invokevirtual 110, 3) := by decide +kernel
theorem dX5_layTrial_22 : decode cX5_layTrial 22 = .ok (.return_, 1) := by decide +kernel
theorem dX5_bus_0 : decode cX5_bus 0 = .ok (.aload_n 0, 1) := by decide +kernel
theorem dX5_bus_1 : decode cX5_bus 1 = .ok (.aload_n 0, 1) := by decide +kernel
theorem dX5_bus_2 : decode cX5_bus 2 = .ok (.iload_n 1, 1) := by decide +kernel
theorem dX5_bus_3 : decode cX5_bus 3 = .ok (.invokevirtual 212, 3) := by decide +kernel
theorem dX5_bus_6 : decode cX5_bus 6 = .ok (.ifCond .ne 7, 3) := by decide +kernel
theorem dX5_bus_9 : decode cX5_bus 9 = .ok (.iconst 1, 1) := by decide +kernel
theorem dX5_bus_10 : decode cX5_bus 10 = .ok (.goto 20, 3) := by decide +kernel
theorem dX5_bus_13 : decode cX5_bus 13 = .ok (.iload_n 2, 1) := by decide +kernel
theorem dX5_bus_14 : decode cX5_bus 14 = .ok (.i2l, 1) := by decide +kernel
theorem dX5_bus_15 : decode cX5_bus 15 = .ok (.lconst 0, 1) := by decide +kernel
theorem dX5_bus_16 : decode cX5_bus 16 = .ok (.ldc2_w 147, 3) := by decide +kernel
theorem dX5_bus_19 : decode cX5_bus 19 = .ok (.invokestatic 118, 3) := by decide +kernel
theorem dX5_bus_22 : decode cX5_bus 22 = .ok (.ifCond .eq 7, 3) := by decide +kernel
theorem dX5_bus_25 : decode cX5_bus 25 = .ok (.iconst 0, 1) := by decide +kernel
theorem dX5_bus_26 : decode cX5_bus 26 = .ok (.goto 4, 3) := by decide +kernel
theorem dX5_bus_29 : decode cX5_bus 29 = .ok (.iconst 2, 1) := by decide +kernel
theorem dX5_bus_30 : decode cX5_bus 30 = .ok (.invokevirtual 137, 3) := by decide +kernel
theorem dX5_bus_33 : decode cX5_bus 33 = .ok (.ifCond .eq 5, 3) := by decide +kernel
theorem dX5_bus_36 : decode cX5_bus 36 = .ok (.iconst 0, 1) := by decide +kernel
theorem dX5_bus_37 : decode cX5_bus 37 = .ok (.ireturn, 1) := by decide +kernel
theorem dX5_bus_38 : decode cX5_bus 38 = .ok (.aload_n 0, 1) := by decide +kernel
theorem dX5_bus_39 : decode cX5_bus 39 = .ok (.invokevirtual 215, 3) := by decide +kernel
theorem dX5_bus_42 : decode cX5_bus 42 = .ok (.aload_n 0, 1) := by decide +kernel
theorem dX5_bus_43 : decode cX5_bus 43 = .ok (.invokevirtual 218, 3) := by decide +kernel
theorem dX5_bus_46 : decode cX5_bus 46 = .ok (.iload_n 2, 1) := by decide +kernel
theorem dX5_bus_47 : decode cX5_bus 47 = .ok (.tableswitch 48 7 9 #[25, 32, 39], 25) := by decide +kernel
theorem dX5_bus_72 : decode cX5_bus 72 = .ok (.aload_n 0, 1) := by decide +kernel
theorem dX5_bus_73 : decode cX5_bus 73 = .ok (.getfield 41, 3) := by decide +kernel
theorem dX5_bus_76 : decode cX5_bus 76 = .ok (.iload_n 1, 1) := by decide +kernel
theorem dX5_bus_77 : decode cX5_bus 77 = .ok (.iaload, 1) := by decide +kernel
theorem dX5_bus_78 : decode cX5_bus 78 = .ok (.ireturn, 1) := by decide +kernel
theorem dX5_bus_79 : decode cX5_bus 79 = .ok (.aload_n 0, 1) := by decide +kernel
theorem dX5_bus_80 : decode cX5_bus 80 = .ok (.getfield 44, 3) := by decide +kernel
theorem dX5_bus_83 : decode cX5_bus 83 = .ok (.iload_n 1, 1) := by decide +kernel
theorem dX5_bus_84 : decode cX5_bus 84 = .ok (.iaload, 1) := by decide +kernel
theorem dX5_bus_85 : decode cX5_bus 85 = .ok (.ireturn, 1) := by decide +kernel
theorem dX5_bus_86 : decode cX5_bus 86 = .ok (.aload_n 0, 1) := by decide +kernel
theorem dX5_bus_87 : decode cX5_bus 87 = .ok (.getfield 19, 3) := by decide +kernel
theorem dX5_bus_90 : decode cX5_bus 90 = .ok (.iload_n 1, 1) := by decide +kernel
theorem dX5_bus_91 : decode cX5_bus 91 = .ok (.invokestatic 82, 3) := by decide +kernel
theorem dX5_bus_94 : decode cX5_bus 94 = .ok (.ireturn, 1) := by decide +kernel
theorem dX5_bus_95 : decode cX5_bus 95 = .ok (.aload_n 0, 1) := by decide +kernel
theorem dX5_bus_96 : decode cX5_bus 96 = .ok (.getfield 19, 3) := by decide +kernel
theorem dX5_bus_99 : decode cX5_bus 99 = .ok (.iload_n 1, 1) := by decide +kernel
theorem dX5_bus_100 : decode cX5_bus 100 = .ok (.iload_n 2, 1) := by decide +kernel
theorem dX5_bus_101 : decode cX5_bus 101 = .ok (.invokestatic 67, 3) := by decide +kernel
theorem dX5_bus_104 : decode cX5_bus 104 = .ok (.iaload, 1) := by decide +kernel
theorem dX5_bus_105 : decode cX5_bus 105 = .ok (.ireturn, 1) := by decide +kernel
theorem dX5_placeOf_0 : decode cX5_placeOf 0 = .ok (.iconst 0, 1) := by decide +kernel
theorem dX5_placeOf_1 : decode cX5_placeOf 1 = .ok (.istore_n 2, 1) := by decide +kernel
theorem dX5_placeOf_2 : decode cX5_placeOf 2 = .ok (.iconst 0, 1) := by decide +kernel
theorem dX5_placeOf_3 : decode cX5_placeOf 3 = .ok (.istore_n 3, 1) := by decide +kernel
theorem dX5_placeOf_4 : decode cX5_placeOf 4 = .ok (.iload_n 3, 1) := by decide +kernel
theorem dX5_placeOf_5 : decode cX5_placeOf 5 = .ok (.aload_n 0, 1) := by decide +kernel
theorem dX5_placeOf_6 : decode cX5_placeOf 6 = .ok (.getfield 19, 3) := by decide +kernel
theorem dX5_placeOf_9 : decode cX5_placeOf 9 = .ok (.iconst 2, 1) := by decide +kernel
theorem dX5_placeOf_10 : decode cX5_placeOf 10 = .ok (.iaload, 1) := by decide +kernel
theorem dX5_placeOf_11 : decode cX5_placeOf 11 = .ok (.if_icmp .ge 25, 3) := by decide +kernel
theorem dX5_placeOf_14 : decode cX5_placeOf 14 = .ok (.aload_n 0, 1) := by decide +kernel
theorem dX5_placeOf_15 : decode cX5_placeOf 15 = .ok (.getfield 35, 3) := by decide +kernel
theorem dX5_placeOf_18 : decode cX5_placeOf 18 = .ok (.iload_n 3, 1) := by decide +kernel
theorem dX5_placeOf_19 : decode cX5_placeOf 19 = .ok (.iaload, 1) := by decide +kernel
theorem dX5_placeOf_20 : decode cX5_placeOf 20 = .ok (.iload_n 1, 1) := by decide +kernel
theorem dX5_placeOf_21 : decode cX5_placeOf 21 = .ok (.if_icmp .ne 7, 3) := by decide +kernel
theorem dX5_placeOf_24 : decode cX5_placeOf 24 = .ok (.iload_n 3, 1) := by decide +kernel
theorem dX5_placeOf_25 : decode cX5_placeOf 25 = .ok (.goto 4, 3) := by decide +kernel
theorem dX5_placeOf_28 : decode cX5_placeOf 28 = .ok (.iload_n 2, 1) := by decide +kernel
theorem dX5_placeOf_29 : decode cX5_placeOf 29 = .ok (.istore_n 2, 1) := by decide +kernel
theorem dX5_placeOf_30 : decode cX5_placeOf 30 = .ok (.iinc 3 1, 3) := by decide +kernel
theorem dX5_placeOf_33 : decode cX5_placeOf 33 = .ok (.goto (-29), 3) := by decide +kernel
theorem dX5_placeOf_36 : decode cX5_placeOf 36 = .ok (.iload_n 2, 1) := by decide +kernel
theorem dX5_placeOf_37 : decode cX5_placeOf 37 = .ok (.ireturn, 1) := by decide +kernel
theorem dX5_charger_0 : decode cX5_charger 0 = .ok (.aload_n 0, 1) := by decide +kernel
theorem dX5_charger_1 : decode cX5_charger 1 = .ok (.aload_n 0, 1) := by decide +kernel
theorem dX5_charger_2 : decode cX5_charger 2 = .ok (.iload_n 1, 1) := by decide +kernel
theorem dX5_charger_3 : decode cX5_charger 3 = .ok (.invokevirtual 221, 3) := by decide +kernel
theorem dX5_charger_6 : decode cX5_charger 6 = .ok (.ifCond .ne 7, 3) := by decide +kernel
theorem dX5_charger_9 : decode cX5_charger 9 = .ok (.iconst 1, 1) := by decide +kernel
theorem dX5_charger_10 : decode cX5_charger 10 = .ok (.goto 20, 3) := by decide +kernel
theorem dX5_charger_13 : decode cX5_charger 13 = .ok (.iload_n 2, 1) := by decide +kernel
theorem dX5_charger_14 : decode cX5_charger 14 = .ok (.i2l, 1) := by decide +kernel
theorem dX5_charger_15 : decode cX5_charger 15 = .ok (.lconst 0, 1) := by decide +kernel
theorem dX5_charger_16 : decode cX5_charger 16 = .ok (.ldc2_w 224, 3) := by decide +kernel
theorem dX5_charger_19 : decode cX5_charger 19 = .ok (.invokestatic 118, 3) := by decide +kernel
theorem dX5_charger_22 : decode cX5_charger 22 = .ok (.ifCond .eq 7, 3) := by decide +kernel
theorem dX5_charger_25 : decode cX5_charger 25 = .ok (.iconst 0, 1) := by decide +kernel
theorem dX5_charger_26 : decode cX5_charger 26 = .ok (.goto 4, 3) := by decide +kernel
theorem dX5_charger_29 : decode cX5_charger 29 = .ok (.iconst 2, 1) := by decide +kernel
theorem dX5_charger_30 : decode cX5_charger 30 = .ok (.invokevirtual 137, 3) := by decide +kernel
theorem dX5_charger_33 : decode cX5_charger 33 = .ok (.ifCond .eq 5, 3) := by decide +kernel
theorem dX5_charger_36 : decode cX5_charger 36 = .ok (.iconst 0, 1) := by decide +kernel
theorem dX5_charger_37 : decode cX5_charger 37 = .ok (.ireturn, 1) := by decide +kernel
theorem dX5_charger_38 : decode cX5_charger 38 = .ok (.aload_n 0, 1) := by decide +kernel
theorem dX5_charger_39 : decode cX5_charger 39 = .ok (.invokevirtual 215, 3) := by decide +kernel
theorem dX5_charger_42 : decode cX5_charger 42 = .ok (.aload_n 0, 1) := by decide +kernel
theorem dX5_charger_43 : decode cX5_charger 43 = .ok (.invokevirtual 218, 3) := by decide +kernel
theorem dX5_charger_46 : decode cX5_charger 46 = .ok (.iload_n 2, 1) := by decide +kernel
theorem dX5_charger_47 : decode cX5_charger 47 = .ok (.ifCond .ne 15, 3) := by decide +kernel
theorem dX5_charger_50 : decode cX5_charger 50 = .ok (.aload_n 0, 1) := by decide +kernel
theorem dX5_charger_51 : decode cX5_charger 51 = .ok (.getfield 19, 3) := by decide +kernel
theorem dX5_charger_54 : decode cX5_charger 54 = .ok (.bipush 69, 2) := by decide +kernel
theorem dX5_charger_56 : decode cX5_charger 56 = .ok (.iload_n 1, 1) := by decide +kernel
theorem dX5_charger_57 : decode cX5_charger 57 = .ok (.iadd, 1) := by decide +kernel
theorem dX5_charger_58 : decode cX5_charger 58 = .ok (.iaload, 1) := by decide +kernel
theorem dX5_charger_59 : decode cX5_charger 59 = .ok (.goto 22, 3) := by decide +kernel
theorem dX5_charger_62 : decode cX5_charger 62 = .ok (.iload_n 2, 1) := by decide +kernel
theorem dX5_charger_63 : decode cX5_charger 63 = .ok (.iconst 1, 1) := by decide +kernel
theorem dX5_charger_64 : decode cX5_charger 64 = .ok (.if_icmp .ne 11, 3) := by decide +kernel
theorem dX5_charger_67 : decode cX5_charger 67 = .ok (.aload_n 0, 1) := by decide +kernel
theorem dX5_charger_68 : decode cX5_charger 68 = .ok (.iload_n 1, 1) := by decide +kernel
theorem dX5_charger_69 : decode cX5_charger 69 = .ok (.invokevirtual 226, 3) := by decide +kernel
theorem dX5_charger_72 : decode cX5_charger 72 = .ok (.goto 9, 3) := by decide +kernel
theorem dX5_charger_75 : decode cX5_charger 75 = .ok (.aload_n 0, 1) := by decide +kernel
theorem dX5_charger_76 : decode cX5_charger 76 = .ok (.getfield 38, 3) := by decide +kernel
theorem dX5_charger_79 : decode cX5_charger 79 = .ok (.iload_n 1, 1) := by decide +kernel
theorem dX5_charger_80 : decode cX5_charger 80 = .ok (.iaload, 1) := by decide +kernel
theorem dX5_charger_81 : decode cX5_charger 81 = .ok (.ireturn, 1) := by decide +kernel
theorem dX5_digits_0 : decode cX5_digits 0 = .ok (.iload_n 0, 1) := by decide +kernel
theorem dX5_digits_1 : decode cX5_digits 1 = .ok (.bipush 99, 2) := by decide +kernel
theorem dX5_digits_3 : decode cX5_digits 3 = .ok (.if_icmp .le 7, 3) := by decide +kernel
theorem dX5_digits_6 : decode cX5_digits 6 = .ok (.iconst 3, 1) := by decide +kernel
theorem dX5_digits_7 : decode cX5_digits 7 = .ok (.goto 14, 3) := by decide +kernel
theorem dX5_digits_10 : decode cX5_digits 10 = .ok (.iload_n 0, 1) := by decide +kernel
theorem dX5_digits_11 : decode cX5_digits 11 = .ok (.bipush 9, 2) := by decide +kernel
theorem dX5_digits_13 : decode cX5_digits 13 = .ok (.if_icmp .le 7, 3) := by decide +kernel
theorem dX5_digits_16 : decode cX5_digits 16 = .ok (.iconst 2, 1) := by decide +kernel
theorem dX5_digits_17 : decode cX5_digits 17 = .ok (.goto 4, 3) := by decide +kernel
theorem dX5_digits_20 : decode cX5_digits 20 = .ok (.iconst 1, 1) := by decide +kernel
theorem dX5_digits_21 : decode cX5_digits 21 = .ok (.ireturn, 1) := by decide +kernel
theorem dX5_digitOf_0 : decode cX5_digitOf 0 = .ok (.bipush 48, 2) := by decide +kernel
theorem dX5_digitOf_2 : decode cX5_digitOf 2 = .ok (.iload_n 0, 1) := by decide +kernel
theorem dX5_digitOf_3 : decode cX5_digitOf 3 = .ok (.i2l, 1) := by decide +kernel
theorem dX5_digitOf_4 : decode cX5_digitOf 4 = .ok (.iload_n 0, 1) := by decide +kernel
theorem dX5_digitOf_5 : decode cX5_digitOf 5 = .ok (.invokestatic 229, 3) := by decide +kernel
theorem dX5_digitOf_8 : decode cX5_digitOf 8 = .ok (.iconst 1, 1) := by decide +kernel
theorem dX5_digitOf_9 : decode cX5_digitOf 9 = .ok (.isub, 1) := by decide +kernel
theorem dX5_digitOf_10 : decode cX5_digitOf 10 = .ok (.iload_n 1, 1) := by decide +kernel
theorem dX5_digitOf_11 : decode cX5_digitOf 11 = .ok (.isub, 1) := by decide +kernel
theorem dX5_digitOf_12 : decode cX5_digitOf 12 = .ok (.invokestatic 232, 3) := by decide +kernel
theorem dX5_digitOf_15 : decode cX5_digitOf 15 = .ok (.ldiv, 1) := by decide +kernel
theorem dX5_digitOf_16 : decode cX5_digitOf 16 = .ok (.ldc2_w 58, 3) := by decide +kernel
theorem dX5_digitOf_19 : decode cX5_digitOf 19 = .ok (.lrem, 1) := by decide +kernel
theorem dX5_digitOf_20 : decode cX5_digitOf 20 = .ok (.l2i, 1) := by decide +kernel
theorem dX5_digitOf_21 : decode cX5_digitOf 21 = .ok (.iadd, 1) := by decide +kernel
theorem dX5_digitOf_22 : decode cX5_digitOf 22 = .ok (.ireturn, 1) := by decide +kernel
theorem dX5_letterOf_0 : decode cX5_letterOf 0 = .ok (.iload_n 0, 1) := by decide +kernel
theorem dX5_letterOf_1 : decode cX5_letterOf 1 = .ok (.ifCond .ne 34, 3) := by decide +kernel
theorem dX5_letterOf_4 : decode cX5_letterOf 4 = .ok (.iload_n 1, 1) := by decide +kernel
theorem dX5_letterOf_5 : decode cX5_letterOf 5 = .ok (.ifCond .ne 8, 3) := by decide +kernel
theorem dX5_letterOf_8 : decode cX5_letterOf 8 = .ok (.bipush 111, 2) := by decide +kernel
theorem dX5_letterOf_10 : decode cX5_letterOf 10 = .ok (.goto 24, 3) := by decide +kernel
theorem dX5_letterOf_13 : decode cX5_letterOf 13 = .ok (.iload_n 1, 1) := by decide +kernel
theorem dX5_letterOf_14 : decode cX5_letterOf 14 = .ok (.iconst 1, 1) := by decide +kernel
theorem dX5_letterOf_15 : decode cX5_letterOf 15 = .ok (.if_icmp .ne 8, 3) := by decide +kernel
theorem dX5_letterOf_18 : decode cX5_letterOf 18 = .ok (.bipush 117, 2) := by decide +kernel
theorem dX5_letterOf_20 : decode cX5_letterOf 20 = .ok (.goto 14, 3) := by decide +kernel
theorem dX5_letterOf_23 : decode cX5_letterOf 23 = .ok (.iload_n 1, 1) := by decide +kernel
theorem dX5_letterOf_24 : decode cX5_letterOf 24 = .ok (.iconst 2, 1) := by decide +kernel
theorem dX5_letterOf_25 : decode cX5_letterOf 25 = .ok (.if_icmp .ne 8, 3) := by decide +kernel
theorem dX5_letterOf_28 : decode cX5_letterOf 28 = .ok (.bipush 116, 2) := by decide +kernel
theorem dX5_letterOf_30 : decode cX5_letterOf 30 = .ok (.goto 4, 3) := by decide +kernel
theorem dX5_letterOf_33 : decode cX5_letterOf 33 = .ok (.iconst (-1), 1) := by decide +kernel
theorem dX5_letterOf_34 : decode cX5_letterOf 34 = .ok (.ireturn, 1) := by decide +kernel
theorem dX5_letterOf_35 : decode cX5_letterOf 35 = .ok (.iload_n 0, 1) := by decide +kernel
theorem dX5_letterOf_36 : decode cX5_letterOf 36 = .ok (.iconst 1, 1) := by decide +kernel
theorem dX5_letterOf_37 : decode cX5_letterOf 37 = .ok (.if_icmp .ne 34, 3) := by decide +kernel
theorem dX5_letterOf_40 : decode cX5_letterOf 40 = .ok (.iload_n 1, 1) := by decide +kernel
theorem dX5_letterOf_41 : decode cX5_letterOf 41 = .ok (.ifCond .ne 8, 3) := by decide +kernel
theorem dX5_letterOf_44 : decode cX5_letterOf 44 = .ok (.bipush 108, 2) := by decide +kernel
theorem dX5_letterOf_46 : decode cX5_letterOf 46 = .ok (.goto 24, 3) := by decide +kernel
theorem dX5_letterOf_49 : decode cX5_letterOf 49 = .ok (.iload_n 1, 1) := by decide +kernel
theorem dX5_letterOf_50 : decode cX5_letterOf 50 = .ok (.iconst 1, 1) := by decide +kernel
theorem dX5_letterOf_51 : decode cX5_letterOf 51 = .ok (.if_icmp .ne 8, 3) := by decide +kernel
theorem dX5_letterOf_54 : decode cX5_letterOf 54 = .ok (.bipush 111, 2) := by decide +kernel
theorem dX5_letterOf_56 : decode cX5_letterOf 56 = .ok (.goto 14, 3) := by decide +kernel
theorem dX5_letterOf_59 : decode cX5_letterOf 59 = .ok (.iload_n 1, 1) := by decide +kernel
theorem dX5_letterOf_60 : decode cX5_letterOf 60 = .ok (.iconst 2, 1) := by decide +kernel
theorem dX5_letterOf_61 : decode cX5_letterOf 61 = .ok (.if_icmp .ne 8, 3) := by decide +kernel
theorem dX5_letterOf_64 : decode cX5_letterOf 64 = .ok (.bipush 119, 2) := by decide +kernel
theorem dX5_letterOf_66 : decode cX5_letterOf 66 = .ok (.goto 4, 3) := by decide +kernel
theorem dX5_letterOf_69 : decode cX5_letterOf 69 = .ok (.iconst (-1), 1) := by decide +kernel
theorem dX5_letterOf_70 : decode cX5_letterOf 70 = .ok (.ireturn, 1) := by decide +kernel
theorem dX5_letterOf_71 : decode cX5_letterOf 71 = .ok (.iload_n 0, 1) := by decide +kernel
theorem dX5_letterOf_72 : decode cX5_letterOf 72 = .ok (.iconst 2, 1) := by decide +kernel
theorem dX5_letterOf_73 : decode cX5_letterOf 73 = .ok (.if_icmp .ne 39, 3) := by decide +kernel
theorem dX5_letterOf_76 : decode cX5_letterOf 76 = .ok (.iload_n 1, 1) := by decide +kernel
theorem dX5_letterOf_77 : decode cX5_letterOf 77 = .ok (.ifCond .ne 8, 3) := by decide +kernel
theorem dX5_letterOf_80 : decode cX5_letterOf 80 = .ok (.bipush 102, 2) := by decide +kernel
theorem dX5_letterOf_82 : decode cX5_letterOf 82 = .ok (.goto 29, 3) := by decide +kernel
theorem dX5_letterOf_85 : decode cX5_letterOf 85 = .ok (.iload_n 1, 1) := by decide +kernel
theorem dX5_letterOf_86 : decode cX5_letterOf 86 = .ok (.iconst 1, 1) := by decide +kernel
theorem dX5_letterOf_87 : decode cX5_letterOf 87 = .ok (.if_icmp .ne 8, 3) := by decide +kernel
theorem dX5_letterOf_90 : decode cX5_letterOf 90 = .ok (.bipush 117, 2) := by decide +kernel
theorem dX5_letterOf_92 : decode cX5_letterOf 92 = .ok (.goto 19, 3) := by decide +kernel
theorem dX5_letterOf_95 : decode cX5_letterOf 95 = .ok (.iload_n 1, 1) := by decide +kernel
theorem dX5_letterOf_96 : decode cX5_letterOf 96 = .ok (.iconst 2, 1) := by decide +kernel
theorem dX5_letterOf_97 : decode cX5_letterOf 97 = .ok (.if_icmp .eq 8, 3) := by decide +kernel
theorem dX5_letterOf_100 : decode cX5_letterOf 100 = .ok (.iload_n 1, 1) := by decide +kernel
theorem dX5_letterOf_101 : decode cX5_letterOf 101 = .ok (.iconst 3, 1) := by decide +kernel
theorem dX5_letterOf_102 : decode cX5_letterOf 102 = .ok (.if_icmp .ne 8, 3) := by decide +kernel
theorem dX5_letterOf_105 : decode cX5_letterOf 105 = .ok (.bipush 108, 2) := by decide +kernel
theorem dX5_letterOf_107 : decode cX5_letterOf 107 = .ok (.goto 4, 3) := by decide +kernel
theorem dX5_letterOf_110 : decode cX5_letterOf 110 = .ok (.iconst (-1), 1) := by decide +kernel
theorem dX5_letterOf_111 : decode cX5_letterOf 111 = .ok (.ireturn, 1) := by decide +kernel
theorem dX5_letterOf_112 : decode cX5_letterOf 112 = .ok (.iload_n 1, 1) := by decide +kernel
theorem dX5_letterOf_113 : decode cX5_letterOf 113 = .ok (.ifCond .ne 8, 3) := by decide +kernel
theorem dX5_letterOf_116 : decode cX5_letterOf 116 = .ok (.bipush 111, 2) := by decide +kernel
theorem dX5_letterOf_118 : decode cX5_letterOf 118 = .ok (.goto 14, 3) := by decide +kernel
theorem dX5_letterOf_121 : decode cX5_letterOf 121 = .ok (.iload_n 1, 1) := by decide +kernel
theorem dX5_letterOf_122 : decode cX5_letterOf 122 = .ok (.iconst 1, 1) := by decide +kernel
theorem dX5_letterOf_123 : decode cX5_letterOf 123 = .ok (.if_icmp .ne 8, 3) := by decide +kernel
theorem dX5_letterOf_126 : decode cX5_letterOf 126 = .ok (.bipush 107, 2) := by decide +kernel
theorem dX5_letterOf_128 : decode cX5_letterOf 128 = .ok (.goto 4, 3) := by decide +kernel
theorem dX5_letterOf_131 : decode cX5_letterOf 131 = .ok (.iconst (-1), 1) := by decide +kernel
theorem dX5_letterOf_132 : decode cX5_letterOf 132 = .ok (.ireturn, 1) := by decide +kernel
theorem dX5_wordOf_0 : decode cX5_wordOf 0 = .ok (.aload_n 0, 1) := by decide +kernel
theorem dX5_wordOf_1 : decode cX5_wordOf 1 = .ok (.getfield 19, 3) := by decide +kernel
theorem dX5_wordOf_4 : decode cX5_wordOf 4 = .ok (.iload_n 1, 1) := by decide +kernel
theorem dX5_wordOf_5 : decode cX5_wordOf 5 = .ok (.bipush 6, 2) := by decide +kernel
theorem dX5_wordOf_7 : decode cX5_wordOf 7 = .ok (.invokestatic 67, 3) := by decide +kernel
theorem dX5_wordOf_10 : decode cX5_wordOf 10 = .ok (.iaload, 1) := by decide +kernel
theorem dX5_wordOf_11 : decode cX5_wordOf 11 = .ok (.iconst 1, 1) := by decide +kernel
theorem dX5_wordOf_12 : decode cX5_wordOf 12 = .ok (.if_icmp .ne 7, 3) := by decide +kernel
theorem dX5_wordOf_15 : decode cX5_wordOf 15 = .ok (.iconst 0, 1) := by decide +kernel
theorem dX5_wordOf_16 : decode cX5_wordOf 16 = .ok (.goto 46, 3) := by decide +kernel
theorem dX5_wordOf_19 : decode cX5_wordOf 19 = .ok (.aload_n 0, 1) := by decide +kernel
theorem dX5_wordOf_20 : decode cX5_wordOf 20 = .ok (.getfield 19, 3) := by decide +kernel
theorem dX5_wordOf_23 : decode cX5_wordOf 23 = .ok (.iload_n 1, 1) := by decide +kernel
theorem dX5_wordOf_24 : decode cX5_wordOf 24 = .ok (.invokestatic 71, 3) := by decide +kernel
theorem dX5_wordOf_27 : decode cX5_wordOf 27 = .ok (.ifCond .eq 7, 3) := by decide +kernel
theorem dX5_wordOf_30 : decode cX5_wordOf 30 = .ok (.iconst 1, 1) := by decide +kernel
theorem dX5_wordOf_31 : decode cX5_wordOf 31 = .ok (.goto 31, 3) := by decide +kernel
theorem dX5_wordOf_34 : decode cX5_wordOf 34 = .ok (.aload_n 0, 1) := by decide +kernel
theorem dX5_wordOf_35 : decode cX5_wordOf 35 = .ok (.getfield 19, 3) := by decide +kernel
theorem dX5_wordOf_38 : decode cX5_wordOf 38 = .ok (.iload_n 1, 1) := by decide +kernel
theorem dX5_wordOf_39 : decode cX5_wordOf 39 = .ok (.iconst 1, 1) := by decide +kernel
theorem dX5_wordOf_40 : decode cX5_wordOf 40 = .ok (.invokestatic 67, 3) := by decide +kernel
theorem dX5_wordOf_43 : decode cX5_wordOf 43 = .ok (.iaload, 1) := by decide +kernel
theorem dX5_wordOf_44 : decode cX5_wordOf 44 = .ok (.aload_n 0, 1) := by decide +kernel
theorem dX5_wordOf_45 : decode cX5_wordOf 45 = .ok (.getfield 19, 3) := by decide +kernel
theorem dX5_wordOf_48 : decode cX5_wordOf 48 = .ok (.iload_n 1, 1) := by decide +kernel
theorem dX5_wordOf_49 : decode cX5_wordOf 49 = .ok (.iconst 0, 1) := by decide +kernel
theorem dX5_wordOf_50 : decode cX5_wordOf 50 = .ok (.invokestatic 67, 3) := by decide +kernel
theorem dX5_wordOf_53 : decode cX5_wordOf 53 = .ok (.iaload, 1) := by decide +kernel
theorem dX5_wordOf_54 : decode cX5_wordOf 54 = .ok (.if_icmp .ne 7, 3) := by decide +kernel
theorem dX5_wordOf_57 : decode cX5_wordOf 57 = .ok (.iconst 2, 1) := by decide +kernel
theorem dX5_wordOf_58 : decode cX5_wordOf 58 = .ok (.goto 4, 3) := by decide +kernel
theorem dX5_wordOf_61 : decode cX5_wordOf 61 = .ok (.iconst 3, 1) := by decide +kernel
theorem dX5_wordOf_62 : decode cX5_wordOf 62 = .ok (.ireturn, 1) := by decide +kernel
theorem dX5_sign_0 : decode cX5_sign 0 = .ok (.aload_n 0, 1) := by decide +kernel
theorem dX5_sign_1 : decode cX5_sign 1 = .ok (.aload_n 0, 1) := by decide +kernel
theorem dX5_sign_2 : decode cX5_sign 2 = .ok (.iload_n 1, 1) := by decide +kernel
theorem dX5_sign_3 : decode cX5_sign 3 = .ok (.invokevirtual 212, 3) := by decide +kernel
theorem dX5_sign_6 : decode cX5_sign 6 = .ok (.ifCond .ne 7, 3) := by decide +kernel
theorem dX5_sign_9 : decode cX5_sign 9 = .ok (.iconst 1, 1) := by decide +kernel
theorem dX5_sign_10 : decode cX5_sign 10 = .ok (.goto 12, 3) := by decide +kernel
theorem dX5_sign_13 : decode cX5_sign 13 = .ok (.iload_n 2, 1) := by decide +kernel
theorem dX5_sign_14 : decode cX5_sign 14 = .ok (.ifCond .ge 7, 3) := by decide +kernel
theorem dX5_sign_17 : decode cX5_sign 17 = .ok (.iconst 2, 1) := by decide +kernel
theorem dX5_sign_18 : decode cX5_sign 18 = .ok (.goto 4, 3) := by decide +kernel
theorem dX5_sign_21 : decode cX5_sign 21 = .ok (.iconst 0, 1) := by decide +kernel
theorem dX5_sign_22 : decode cX5_sign 22 = .ok (.invokevirtual 137, 3) := by decide +kernel
theorem dX5_sign_25 : decode cX5_sign 25 = .ok (.ifCond .eq 5, 3) := by decide +kernel
theorem dX5_sign_28 : decode cX5_sign 28 = .ok (.iconst 0, 1) := by decide +kernel
theorem dX5_sign_29 : decode cX5_sign 29 = .ok (.ireturn, 1) := by decide +kernel
theorem dX5_sign_30 : decode cX5_sign 30 = .ok (.aload_n 0, 1) := by decide +kernel
theorem dX5_sign_31 : decode cX5_sign 31 = .ok (.getfield 19, 3) := by decide +kernel
theorem dX5_sign_34 : decode cX5_sign 34 = .ok (.iload_n 1, 1) := by decide +kernel
theorem dX5_sign_35 : decode cX5_sign 35 = .ok (.iconst 1, 1) := by decide +kernel
theorem dX5_sign_36 : decode cX5_sign 36 = .ok (.invokestatic 67, 3) := by decide +kernel
theorem dX5_sign_39 : decode cX5_sign 39 = .ok (.iaload, 1) := by decide +kernel
theorem dX5_sign_40 : decode cX5_sign 40 = .ok (.istore_n 3, 1) := by decide +kernel
theorem dX5_sign_41 : decode cX5_sign 41 = .ok (.aload_n 0, 1) := by decide +kernel
theorem dX5_sign_42 : decode cX5_sign 42 = .ok (.getfield 19, 3) := by decide +kernel
theorem dX5_sign_45 : decode cX5_sign 45 = .ok (.iload_n 1, 1) := by decide +kernel
theorem dX5_sign_46 : decode cX5_sign 46 = .ok (.iconst 0, 1) := by decide +kernel
theorem dX5_sign_47 : decode cX5_sign 47 = .ok (.invokestatic 67, 3) := by decide +kernel
theorem dX5_sign_50 : decode cX5_sign 50 = .ok (.iaload, 1) := by decide +kernel
theorem dX5_sign_51 : decode cX5_sign 51 = .ok (.istore 4, 2) := by decide +kernel
theorem dX5_sign_53 : decode cX5_sign 53 = .ok (.iconst 3, 1) := by decide +kernel
theorem dX5_sign_54 : decode cX5_sign 54 = .ok (.iload_n 3, 1) := by decide +kernel
theorem dX5_sign_55 : decode cX5_sign 55 = .ok (.invokestatic 229, 3) := by decide +kernel
theorem dX5_sign_58 : decode cX5_sign 58 = .ok (.iadd, 1) := by decide +kernel
theorem dX5_sign_59 : decode cX5_sign 59 = .ok (.istore 5, 2) := by decide +kernel
theorem dX5_sign_61 : decode cX5_sign 61 = .ok (.iload_n 3, 1) := by decide +kernel
theorem dX5_sign_62 : decode cX5_sign 62 = .ok (.bipush 99, 2) := by decide +kernel
theorem dX5_sign_64 : decode cX5_sign 64 = .ok (.if_icmp .le 10, 3) := by decide +kernel
theorem dX5_sign_67 : decode cX5_sign 67 = .ok (.iload 5, 2) := by decide +kernel
theorem dX5_sign_69 : decode cX5_sign 69 = .ok (.iconst 1, 1) := by decide +kernel
theorem dX5_sign_70 : decode cX5_sign 70 = .ok (.iadd, 1) := by decide +kernel
theorem dX5_sign_71 : decode cX5_sign 71 = .ok (.goto 5, 3) := by decide +kernel
theorem dX5_sign_74 : decode cX5_sign 74 = .ok (.iload 5, 2) := by decide +kernel
theorem dX5_sign_76 : decode cX5_sign 76 = .ok (.istore 6, 2) := by decide +kernel
theorem dX5_sign_78 : decode cX5_sign 78 = .ok (.iload 6, 2) := by decide +kernel
theorem dX5_sign_80 : decode cX5_sign 80 = .ok (.iconst 1, 1) := by decide +kernel
theorem dX5_sign_81 : decode cX5_sign 81 = .ok (.iadd, 1) := by decide +kernel
theorem dX5_sign_82 : decode cX5_sign 82 = .ok (.iload 4, 2) := by decide +kernel
theorem dX5_sign_84 : decode cX5_sign 84 = .ok (.invokestatic 229, 3) := by decide +kernel
theorem dX5_sign_87 : decode cX5_sign 87 = .ok (.iadd, 1) := by decide +kernel
theorem dX5_sign_88 : decode cX5_sign 88 = .ok (.istore 7, 2) := by decide +kernel
theorem dX5_sign_90 : decode cX5_sign 90 = .ok (.iload_n 2, 1) := by decide +kernel
theorem dX5_sign_91 : decode cX5_sign 91 = .ok (.iconst 3, 1) := by decide +kernel
theorem dX5_sign_92 : decode cX5_sign 92 = .ok (.if_icmp .ge 27, 3) := by decide +kernel
theorem dX5_sign_95 : decode cX5_sign 95 = .ok (.iload_n 2, 1) := by decide +kernel
theorem dX5_sign_96 : decode cX5_sign 96 = .ok (.ifCond .ne 8, 3) := by decide +kernel
theorem dX5_sign_99 : decode cX5_sign 99 = .ok (.bipush 98, 2) := by decide +kernel
theorem dX5_sign_101 : decode cX5_sign 101 = .ok (.goto 17, 3) := by decide +kernel
theorem dX5_sign_104 : decode cX5_sign 104 = .ok (.iload_n 2, 1) := by decide +kernel
theorem dX5_sign_105 : decode cX5_sign 105 = .ok (.iconst 1, 1) := by decide +kernel
theorem dX5_sign_106 : decode cX5_sign 106 = .ok (.if_icmp .ne 10, 3) := by decide +kernel
theorem dX5_sign_109 : decode cX5_sign 109 = .ok (.bipush 48, 2) := by decide +kernel
theorem dX5_sign_111 : decode cX5_sign 111 = .ok (.iload_n 1, 1) := by decide +kernel
theorem dX5_sign_112 : decode cX5_sign 112 = .ok (.iadd, 1) := by decide +kernel
theorem dX5_sign_113 : decode cX5_sign 113 = .ok (.goto 5, 3) := by decide +kernel
theorem dX5_sign_116 : decode cX5_sign 116 = .ok (.bipush 32, 2) := by decide +kernel
theorem dX5_sign_118 : decode cX5_sign 118 = .ok (.ireturn, 1) := by decide +kernel
theorem dX5_sign_119 : decode cX5_sign 119 = .ok (.iload_n 2, 1) := by decide +kernel
theorem dX5_sign_120 : decode cX5_sign 120 = .ok (.iload 5, 2) := by decide +kernel
theorem dX5_sign_122 : decode cX5_sign 122 = .ok (.if_icmp .ge 11, 3) := by decide +kernel
theorem dX5_sign_125 : decode cX5_sign 125 = .ok (.iload_n 3, 1) := by decide +kernel
theorem dX5_sign_126 : decode cX5_sign 126 = .ok (.iload_n 2, 1) := by decide +kernel
theorem dX5_sign_127 : decode cX5_sign 127 = .ok (.iconst 3, 1) := by decide +kernel
theorem dX5_sign_128 : decode cX5_sign 128 = .ok (.isub, 1) := by decide +kernel
theorem dX5_sign_129 : decode cX5_sign 129 = .ok (.invokestatic 236, 3) := by decide +kernel
theorem dX5_sign_132 : decode cX5_sign 132 = .ok (.ireturn, 1) := by decide +kernel
theorem dX5_sign_133 : decode cX5_sign 133 = .ok (.iload_n 2, 1) := by decide +kernel
theorem dX5_sign_134 : decode cX5_sign 134 = .ok (.iload 6, 2) := by decide +kernel
theorem dX5_sign_136 : decode cX5_sign 136 = .ok (.if_icmp .gt 17, 3) := by decide +kernel
theorem dX5_sign_139 : decode cX5_sign 139 = .ok (.iload_n 2, 1) := by decide +kernel
theorem dX5_sign_140 : decode cX5_sign 140 = .ok (.iload 6, 2) := by decide +kernel
theorem dX5_sign_142 : decode cX5_sign 142 = .ok (.if_icmp .ne 8, 3) := by decide +kernel
theorem dX5_sign_145 : decode cX5_sign 145 = .ok (.bipush 47, 2) := by decide +kernel
theorem dX5_sign_147 : decode cX5_sign 147 = .ok (.goto 5, 3) := by decide +kernel
theorem dX5_sign_150 : decode cX5_sign 150 = .ok (.bipush 33, 2) := by decide +kernel
theorem dX5_sign_152 : decode cX5_sign 152 = .ok (.ireturn, 1) := by decide +kernel
theorem dX5_sign_153 : decode cX5_sign 153 = .ok (.iload_n 2, 1) := by decide +kernel
theorem dX5_sign_154 : decode cX5_sign 154 = .ok (.iload 7, 2) := by decide +kernel
theorem dX5_sign_156 : decode cX5_sign 156 = .ok (.if_icmp .ge 17, 3) := by decide +kernel
theorem dX5_sign_159 : decode cX5_sign 159 = .ok (.iload 4, 2) := by decide +kernel
theorem dX5_sign_161 : decode cX5_sign 161 = .ok (.iload_n 2, 1) := by decide +kernel
theorem dX5_sign_162 : decode cX5_sign 162 = .ok (.iload 6, 2) := by decide +kernel
theorem dX5_sign_164 : decode cX5_sign 164 = .ok (.isub, 1) := by decide +kernel
theorem dX5_sign_165 : decode cX5_sign 165 = .ok (.iconst 1, 1) := by decide +kernel
theorem dX5_sign_166 : decode cX5_sign 166 = .ok (.isub, 1) := by decide +kernel
theorem dX5_sign_167 : decode cX5_sign 167 = .ok (.invokestatic 236, 3) := by decide +kernel
theorem dX5_sign_170 : decode cX5_sign 170 = .ok (.goto 44, 3) := by decide +kernel
theorem dX5_sign_173 : decode cX5_sign 173 = .ok (.iload_n 2, 1) := by decide +kernel
theorem dX5_sign_174 : decode cX5_sign 174 = .ok (.iload 7, 2) := by decide +kernel
theorem dX5_sign_176 : decode cX5_sign 176 = .ok (.if_icmp .ne 8, 3) := by decide +kernel
theorem dX5_sign_179 : decode cX5_sign 179 = .ok (.bipush 32, 2) := by decide +kernel
theorem dX5_sign_181 : decode cX5_sign 181 = .ok (.goto 33, 3) := by decide +kernel
theorem dX5_sign_184 : decode cX5_sign 184 = .ok (.aload_n 0, 1) := by decide +kernel
theorem dX5_sign_185 : decode cX5_sign 185 = .ok (.iload_n 1, 1) := by decide +kernel
theorem dX5_sign_186 : decode cX5_sign 186 = .ok (.invokevirtual 239, 3) := by decide +kernel
theorem dX5_sign_189 : decode cX5_sign 189 = .ok (.iload_n 2, 1) := by decide +kernel
theorem dX5_sign_190 : decode cX5_sign 190 = .ok (.iload 7, 2) := by decide +kernel
theorem dX5_sign_192 : decode cX5_sign 192 = .ok (.isub, 1) := by decide +kernel
theorem dX5_sign_193 : decode cX5_sign 193 = .ok (.iconst 1, 1) := by decide +kernel
theorem dX5_sign_194 : decode cX5_sign 194 = .ok (.isub, 1) := by decide +kernel
theorem dX5_sign_195 : decode cX5_sign 195 = .ok (.bipush 9, 2) := by decide +kernel
theorem dX5_sign_197 : decode cX5_sign 197 = .ok (.if_icmp .le 8, 3) := by decide +kernel
theorem dX5_sign_200 : decode cX5_sign 200 = .ok (.bipush 9, 2) := by decide +kernel
theorem dX5_sign_202 : decode cX5_sign 202 = .ok (.goto 9, 3) := by decide +kernel
theorem dX5_sign_205 : decode cX5_sign 205 = .ok (.iload_n 2, 1) := by decide +kernel
theorem dX5_sign_206 : decode cX5_sign 206 = .ok (.iload 7, 2) := by decide +kernel
theorem dX5_sign_208 : decode cX5_sign 208 = .ok (.isub, 1) := by decide +kernel
theorem dX5_sign_209 : decode cX5_sign 209 = .ok (.iconst 1, 1) := by decide +kernel
theorem dX5_sign_210 : decode cX5_sign 210 = .ok (.isub, 1) := by decide +kernel
theorem dX5_sign_211 : decode cX5_sign 211 = .ok (.invokestatic 242, 3) := by decide +kernel
theorem dX5_sign_214 : decode cX5_sign 214 = .ok (.ireturn, 1) := by decide +kernel
theorem dX5_setting_0 : decode cX5_setting 0 = .ok (.aload_n 0, 1) := by decide +kernel
theorem dX5_setting_1 : decode cX5_setting 1 = .ok (.iload_n 1, 1) := by decide +kernel
theorem dX5_setting_2 : decode cX5_setting 2 = .ok (.i2l, 1) := by decide +kernel
theorem dX5_setting_3 : decode cX5_setting 3 = .ok (.lconst 0, 1) := by decide +kernel
theorem dX5_setting_4 : decode cX5_setting 4 = .ok (.ldc2_w 130, 3) := by decide +kernel
theorem dX5_setting_7 : decode cX5_setting 7 = .ok (.invokestatic 118, 3) := by decide +kernel
theorem dX5_setting_10 : decode cX5_setting 10 = .ok (.ifCond .eq 7, 3) := by decide +kernel
theorem dX5_setting_13 : decode cX5_setting 13 = .ok (.iconst 0, 1) := by decide +kernel
theorem dX5_setting_14 : decode cX5_setting 14 = .ok (.goto 4, 3) := by decide +kernel
theorem dX5_setting_17 : decode cX5_setting 17 = .ok (.iconst 1, 1) := by decide +kernel
theorem dX5_setting_18 : decode cX5_setting 18 = .ok (.invokevirtual 137, 3) := by decide +kernel
theorem dX5_setting_21 : decode cX5_setting 21 = .ok (.ifCond .eq 5, 3) := by decide +kernel
theorem dX5_setting_24 : decode cX5_setting 24 = .ok (.iconst 0, 1) := by decide +kernel
theorem dX5_setting_25 : decode cX5_setting 25 = .ok (.ireturn, 1) := by decide +kernel
theorem dX5_setting_26 : decode cX5_setting 26 = .ok (.aload_n 0, 1) := by decide +kernel
theorem dX5_setting_27 : decode cX5_setting 27 = .ok (.getfield 19, 3) := by decide +kernel
theorem dX5_setting_30 : decode cX5_setting 30 = .ok (.bipush 7, 2) := by decide +kernel
theorem dX5_setting_32 : decode cX5_setting 32 = .ok (.iload_n 1, 1) := by decide +kernel
theorem dX5_setting_33 : decode cX5_setting 33 = .ok (.iadd, 1) := by decide +kernel
theorem dX5_setting_34 : decode cX5_setting 34 = .ok (.iaload, 1) := by decide +kernel
theorem dX5_setting_35 : decode cX5_setting 35 = .ok (.ireturn, 1) := by decide +kernel
theorem dX5_addBus_0 : decode cX5_addBus 0 = .ok (.iload_n 1, 1) := by decide +kernel
theorem dX5_addBus_1 : decode cX5_addBus 1 = .ok (.invokestatic 245, 3) := by decide +kernel
theorem dX5_addBus_4 : decode cX5_addBus 4 = .ok (.ifCond .eq 29, 3) := by decide +kernel
theorem dX5_addBus_7 : decode cX5_addBus 7 = .ok (.iload_n 2, 1) := by decide +kernel
theorem dX5_addBus_8 : decode cX5_addBus 8 = .ok (.i2l, 1) := by decide +kernel
theorem dX5_addBus_9 : decode cX5_addBus 9 = .ok (.lconst 0, 1) := by decide +kernel
theorem dX5_addBus_10 : decode cX5_addBus 10 = .ok (.iload_n 1, 1) := by decide +kernel
theorem dX5_addBus_11 : decode cX5_addBus 11 = .ok (.i2l, 1) := by decide +kernel
theorem dX5_addBus_12 : decode cX5_addBus 12 = .ok (.invokestatic 118, 3) := by decide +kernel
theorem dX5_addBus_15 : decode cX5_addBus 15 = .ok (.ifCond .eq 18, 3) := by decide +kernel
theorem dX5_addBus_18 : decode cX5_addBus 18 = .ok (.iload_n 3, 1) := by decide +kernel
theorem dX5_addBus_19 : decode cX5_addBus 19 = .ok (.iload 4, 2) := by decide +kernel
theorem dX5_addBus_21 : decode cX5_addBus 21 = .ok (.iload 5, 2) := by decide +kernel
theorem dX5_addBus_23 : decode cX5_addBus 23 = .ok (.invokestatic 248, 3) := by decide +kernel
theorem dX5_addBus_26 : decode cX5_addBus 26 = .ok (.ifCond .eq 7, 3) := by decide +kernel
theorem dX5_addBus_29 : decode cX5_addBus 29 = .ok (.iconst 1, 1) := by decide +kernel
theorem dX5_addBus_30 : decode cX5_addBus 30 = .ok (.goto 4, 3) := by decide +kernel
theorem dX5_addBus_33 : decode cX5_addBus 33 = .ok (.iconst 0, 1) := by decide +kernel
theorem dX5_addBus_34 : decode cX5_addBus 34 = .ok (.istore 6, 2) := by decide +kernel
theorem dX5_addBus_36 : decode cX5_addBus 36 = .ok (.aload_n 0, 1) := by decide +kernel
theorem dX5_addBus_37 : decode cX5_addBus 37 = .ok (.iload 6, 2) := by decide +kernel
theorem dX5_addBus_39 : decode cX5_addBus 39 = .ok (.ifCond .ne 7, 3) := by decide +kernel
theorem dX5_addBus_42 : decode cX5_addBus 42 = .ok (.iconst 1, 1) := by decide +kernel
theorem dX5_addBus_43 : decode cX5_addBus 43 = .ok (.goto 19, 3) := by decide +kernel
theorem dX5_addBus_46 : decode cX5_addBus 46 = .ok (.aload_n 0, 1) := by decide +kernel
theorem dX5_addBus_47 : decode cX5_addBus 47 = .ok (.getfield 19, 3) := by decide +kernel
theorem dX5_addBus_50 : decode cX5_addBus 50 = .ok (.iconst 1, 1) := by decide +kernel
theorem dX5_addBus_51 : decode cX5_addBus 51 = .ok (.iaload, 1) := by decide +kernel
theorem dX5_addBus_52 : decode cX5_addBus 52 = .ok (.bipush 8, 2) := by decide +kernel
theorem dX5_addBus_54 : decode cX5_addBus 54 = .ok (.if_icmp .ne 7, 3) := by decide +kernel
theorem dX5_addBus_57 : decode cX5_addBus 57 = .ok (.iconst 2, 1) := by decide +kernel
theorem dX5_addBus_58 : decode cX5_addBus 58 = .ok (.goto 4, 3) := by decide +kernel
theorem dX5_addBus_61 : decode cX5_addBus 61 = .ok (.iconst 0, 1) := by decide +kernel
theorem dX5_addBus_62 : decode cX5_addBus 62 = .ok (.invokevirtual 137, 3) := by decide +kernel
theorem dX5_addBus_65 : decode cX5_addBus 65 = .ok (.ifCond .eq 5, 3) := by decide +kernel
theorem dX5_addBus_68 : decode cX5_addBus 68 = .ok (.iconst 0, 1) := by decide +kernel
theorem dX5_addBus_69 : decode cX5_addBus 69 = .ok (.ireturn, 1) := by decide +kernel
theorem dX5_addBus_70 : decode cX5_addBus 70 = .ok (.aload_n 0, 1) := by decide +kernel
theorem dX5_addBus_71 : decode cX5_addBus 71 = .ok (.invokevirtual 251, 3) := by decide +kernel
theorem dX5_addBus_74 : decode cX5_addBus 74 = .ok (.aload_n 0, 1) := by decide +kernel
theorem dX5_addBus_75 : decode cX5_addBus 75 = .ok (.getfield 19, 3) := by decide +kernel
theorem dX5_addBus_78 : decode cX5_addBus 78 = .ok (.iload_n 1, 1) := by decide +kernel
theorem dX5_addBus_79 : decode cX5_addBus 79 = .ok (.iload_n 2, 1) := by decide +kernel
theorem dX5_addBus_80 : decode cX5_addBus 80 = .ok (.iload_n 3, 1) := by decide +kernel
theorem dX5_addBus_81 : decode cX5_addBus 81 = .ok (.iload 4, 2) := by decide +kernel
theorem dX5_addBus_83 : decode cX5_addBus 83 = .ok (.iload 5, 2) := by decide +kernel
theorem dX5_addBus_85 : decode cX5_addBus 85 = .ok (.invokestatic 178, 3) := by decide +kernel
theorem dX5_addBus_88 : decode cX5_addBus 88 = .ok (.ireturn, 1) := by decide +kernel
theorem dX5_addCharger_0 : decode cX5_addCharger 0 = .ok (.aload_n 0, 1) := by decide +kernel
theorem dX5_addCharger_1 : decode cX5_addCharger 1 = .ok (.iload_n 1, 1) := by decide +kernel
theorem dX5_addCharger_2 : decode cX5_addCharger 2 = .ok (.invokestatic 254, 3) := by decide +kernel
theorem dX5_addCharger_5 : decode cX5_addCharger 5 = .ok (.ifCond .ne 7, 3) := by decide +kernel
theorem dX5_addCharger_8 : decode cX5_addCharger 8 = .ok (.iconst 1, 1) := by decide +kernel
theorem dX5_addCharger_9 : decode cX5_addCharger 9 = .ok (.goto 18, 3) := by decide +kernel
theorem dX5_addCharger_12 : decode cX5_addCharger 12 = .ok (.aload_n 0, 1) := by decide +kernel
theorem dX5_addCharger_13 : decode cX5_addCharger 13 = .ok (.getfield 19, 3) := by decide +kernel
theorem dX5_addCharger_16 : decode cX5_addCharger 16 = .ok (.iconst 2, 1) := by decide +kernel
theorem dX5_addCharger_17 : decode cX5_addCharger 17 = .ok (.iaload, 1) := by decide +kernel
theorem dX5_addCharger_18 : decode cX5_addCharger 18 = .ok (.iconst 5, 1) := by decide +kernel
theorem dX5_addCharger_19 : decode cX5_addCharger 19 = .ok (.if_icmp .ne 7, 3) := by decide +kernel
theorem dX5_addCharger_22 : decode cX5_addCharger 22 = .ok (.iconst 2, 1) := by decide +kernel
theorem dX5_addCharger_23 : decode cX5_addCharger 23 = .ok (.goto 4, 3) := by decide +kernel
theorem dX5_addCharger_26 : decode cX5_addCharger 26 = .ok (.iconst 0, 1) := by decide +kernel
theorem dX5_addCharger_27 : decode cX5_addCharger 27 = .ok (.invokevirtual 137, 3) := by decide +kernel
theorem dX5_addCharger_30 : decode cX5_addCharger 30 = .ok (.ifCond .eq 5, 3) := by decide +kernel
theorem dX5_addCharger_33 : decode cX5_addCharger 33 = .ok (.iconst 0, 1) := by decide +kernel
theorem dX5_addCharger_34 : decode cX5_addCharger 34 = .ok (.ireturn, 1) := by decide +kernel
theorem dX5_addCharger_35 : decode cX5_addCharger 35 = .ok (.aload_n 0, 1) := by decide +kernel
theorem dX5_addCharger_36 : decode cX5_addCharger 36 = .ok (.invokevirtual 251, 3) := by decide +kernel
theorem dX5_addCharger_39 : decode cX5_addCharger 39 = .ok (.aload_n 0, 1) := by decide +kernel
theorem dX5_addCharger_40 : decode cX5_addCharger 40 = .ok (.getfield 19, 3) := by decide +kernel
theorem dX5_addCharger_43 : decode cX5_addCharger 43 = .ok (.iload_n 1, 1) := by decide +kernel
theorem dX5_addCharger_44 : decode cX5_addCharger 44 = .ok (.invokestatic 186, 3) := by decide +kernel
theorem dX5_addCharger_47 : decode cX5_addCharger 47 = .ok (.ireturn, 1) := by decide +kernel
theorem dX5_route_0 : decode cX5_route 0 = .ok (.aload_n 0, 1) := by decide +kernel
theorem dX5_route_1 : decode cX5_route 1 = .ok (.aload_n 0, 1) := by decide +kernel
theorem dX5_route_2 : decode cX5_route 2 = .ok (.iload_n 1, 1) := by decide +kernel
theorem dX5_route_3 : decode cX5_route 3 = .ok (.invokevirtual 212, 3) := by decide +kernel
theorem dX5_route_6 : decode cX5_route 6 = .ok (.ifCond .ne 7, 3) := by decide +kernel
theorem dX5_route_9 : decode cX5_route 9 = .ok (.iconst 1, 1) := by decide +kernel
theorem dX5_route_10 : decode cX5_route 10 = .ok (.goto 37, 3) := by decide +kernel
theorem dX5_route_13 : decode cX5_route 13 = .ok (.iload_n 2, 1) := by decide +kernel
theorem dX5_route_14 : decode cX5_route 14 = .ok (.iload_n 3, 1) := by decide +kernel
theorem dX5_route_15 : decode cX5_route 15 = .ok (.iload 4, 2) := by decide +kernel
theorem dX5_route_17 : decode cX5_route 17 = .ok (.invokestatic 248, 3) := by decide +kernel
theorem dX5_route_20 : decode cX5_route 20 = .ok (.ifCond .ne 7, 3) := by decide +kernel
theorem dX5_route_23 : decode cX5_route 23 = .ok (.iconst 2, 1) := by decide +kernel
theorem dX5_route_24 : decode cX5_route 24 = .ok (.goto 23, 3) := by decide +kernel
theorem dX5_route_27 : decode cX5_route 27 = .ok (.aload_n 0, 1) := by decide +kernel
theorem dX5_route_28 : decode cX5_route 28 = .ok (.getfield 19, 3) := by decide +kernel
theorem dX5_route_31 : decode cX5_route 31 = .ok (.iload_n 1, 1) := by decide +kernel
theorem dX5_route_32 : decode cX5_route 32 = .ok (.bipush 6, 2) := by decide +kernel
theorem dX5_route_34 : decode cX5_route 34 = .ok (.invokestatic 67, 3) := by decide +kernel
theorem dX5_route_37 : decode cX5_route 37 = .ok (.iaload, 1) := by decide +kernel
theorem dX5_route_38 : decode cX5_route 38 = .ok (.iconst 1, 1) := by decide +kernel
theorem dX5_route_39 : decode cX5_route 39 = .ok (.if_icmp .ne 7, 3) := by decide +kernel
theorem dX5_route_42 : decode cX5_route 42 = .ok (.iconst 3, 1) := by decide +kernel
theorem dX5_route_43 : decode cX5_route 43 = .ok (.goto 4, 3) := by decide +kernel
theorem dX5_route_46 : decode cX5_route 46 = .ok (.iconst 0, 1) := by decide +kernel
theorem dX5_route_47 : decode cX5_route 47 = .ok (.invokevirtual 137, 3) := by decide +kernel
theorem dX5_route_50 : decode cX5_route 50 = .ok (.ifCond .eq 5, 3) := by decide +kernel
theorem dX5_route_53 : decode cX5_route 53 = .ok (.iconst 0, 1) := by decide +kernel
theorem dX5_route_54 : decode cX5_route 54 = .ok (.ireturn, 1) := by decide +kernel
theorem dX5_route_55 : decode cX5_route 55 = .ok (.aload_n 0, 1) := by decide +kernel
theorem dX5_route_56 : decode cX5_route 56 = .ok (.invokevirtual 251, 3) := by decide +kernel
theorem dX5_route_59 : decode cX5_route 59 = .ok (.aload_n 0, 1) := by decide +kernel
theorem dX5_route_60 : decode cX5_route 60 = .ok (.getfield 19, 3) := by decide +kernel
theorem dX5_route_63 : decode cX5_route 63 = .ok (.iload_n 1, 1) := by decide +kernel
theorem dX5_route_64 : decode cX5_route 64 = .ok (.iload_n 2, 1) := by decide +kernel
theorem dX5_route_65 : decode cX5_route 65 = .ok (.iload_n 3, 1) := by decide +kernel
theorem dX5_route_66 : decode cX5_route 66 = .ok (.iload 4, 2) := by decide +kernel
theorem dX5_route_68 : decode cX5_route 68 = .ok (.invokestatic 257, 3) := by decide +kernel
theorem dX5_route_71 : decode cX5_route 71 = .ok (.ireturn, 1) := by decide +kernel
theorem dX5_battery_0 : decode cX5_battery 0 = .ok (.aload_n 0, 1) := by decide +kernel
theorem dX5_battery_1 : decode cX5_battery 1 = .ok (.aload_n 0, 1) := by decide +kernel
theorem dX5_battery_2 : decode cX5_battery 2 = .ok (.iload_n 1, 1) := by decide +kernel
theorem dX5_battery_3 : decode cX5_battery 3 = .ok (.invokevirtual 212, 3) := by decide +kernel
theorem dX5_battery_6 : decode cX5_battery 6 = .ok (.ifCond .ne 7, 3) := by decide +kernel
theorem dX5_battery_9 : decode cX5_battery 9 = .ok (.iconst 1, 1) := by decide +kernel
theorem dX5_battery_10 : decode cX5_battery 10 = .ok (.goto 34, 3) := by decide +kernel
theorem dX5_battery_13 : decode cX5_battery 13 = .ok (.iload_n 2, 1) := by decide +kernel
theorem dX5_battery_14 : decode cX5_battery 14 = .ok (.invokestatic 245, 3) := by decide +kernel
theorem dX5_battery_17 : decode cX5_battery 17 = .ok (.ifCond .ne 7, 3) := by decide +kernel
theorem dX5_battery_20 : decode cX5_battery 20 = .ok (.iconst 2, 1) := by decide +kernel
theorem dX5_battery_21 : decode cX5_battery 21 = .ok (.goto 23, 3) := by decide +kernel
theorem dX5_battery_24 : decode cX5_battery 24 = .ok (.aload_n 0, 1) := by decide +kernel
theorem dX5_battery_25 : decode cX5_battery 25 = .ok (.getfield 19, 3) := by decide +kernel
theorem dX5_battery_28 : decode cX5_battery 28 = .ok (.iload_n 1, 1) := by decide +kernel
theorem dX5_battery_29 : decode cX5_battery 29 = .ok (.bipush 6, 2) := by decide +kernel
theorem dX5_battery_31 : decode cX5_battery 31 = .ok (.invokestatic 67, 3) := by decide +kernel
theorem dX5_battery_34 : decode cX5_battery 34 = .ok (.iaload, 1) := by decide +kernel
theorem dX5_battery_35 : decode cX5_battery 35 = .ok (.iconst 1, 1) := by decide +kernel
theorem dX5_battery_36 : decode cX5_battery 36 = .ok (.if_icmp .ne 7, 3) := by decide +kernel
theorem dX5_battery_39 : decode cX5_battery 39 = .ok (.iconst 3, 1) := by decide +kernel
theorem dX5_battery_40 : decode cX5_battery 40 = .ok (.goto 4, 3) := by decide +kernel
theorem dX5_battery_43 : decode cX5_battery 43 = .ok (.iconst 0, 1) := by decide +kernel
theorem dX5_battery_44 : decode cX5_battery 44 = .ok (.invokevirtual 137, 3) := by decide +kernel
theorem dX5_battery_47 : decode cX5_battery 47 = .ok (.ifCond .eq 5, 3) := by decide +kernel
theorem dX5_battery_50 : decode cX5_battery 50 = .ok (.iconst 0, 1) := by decide +kernel
theorem dX5_battery_51 : decode cX5_battery 51 = .ok (.ireturn, 1) := by decide +kernel
theorem dX5_battery_52 : decode cX5_battery 52 = .ok (.aload_n 0, 1) := by decide +kernel
theorem dX5_battery_53 : decode cX5_battery 53 = .ok (.invokevirtual 251, 3) := by decide +kernel
theorem dX5_battery_56 : decode cX5_battery 56 = .ok (.aload_n 0, 1) := by decide +kernel
theorem dX5_battery_57 : decode cX5_battery 57 = .ok (.getfield 19, 3) := by decide +kernel
theorem dX5_battery_60 : decode cX5_battery 60 = .ok (.iload_n 1, 1) := by decide +kernel
theorem dX5_battery_61 : decode cX5_battery 61 = .ok (.iload_n 2, 1) := by decide +kernel
theorem dX5_battery_62 : decode cX5_battery 62 = .ok (.invokestatic 261, 3) := by decide +kernel
theorem dX5_battery_65 : decode cX5_battery 65 = .ok (.ireturn, 1) := by decide +kernel
theorem dX5_isRun_0 : decode cX5_isRun 0 = .ok (.iload_n 0, 1) := by decide +kernel
theorem dX5_isRun_1 : decode cX5_isRun 1 = .ok (.i2l, 1) := by decide +kernel
theorem dX5_isRun_2 : decode cX5_isRun 2 = .ok (.lconst 1, 1) := by decide +kernel
theorem dX5_isRun_3 : decode cX5_isRun 3 = .ok (.ldc2_w 265, 3) := by decide +kernel
theorem dX5_isRun_6 : decode cX5_isRun 6 = .ok (.invokestatic 118, 3) := by decide +kernel
theorem dX5_isRun_9 : decode cX5_isRun 9 = .ok (.ireturn, 1) := by decide +kernel
theorem dX5_run_0 : decode cX5_run 0 = .ok (.aload_n 0, 1) := by decide +kernel
theorem dX5_run_1 : decode cX5_run 1 = .ok (.iload_n 1, 1) := by decide +kernel
theorem dX5_run_2 : decode cX5_run 2 = .ok (.invokestatic 267, 3) := by decide +kernel
theorem dX5_run_5 : decode cX5_run 5 = .ok (.ifCond .eq 7, 3) := by decide +kernel
theorem dX5_run_8 : decode cX5_run 8 = .ok (.iconst 0, 1) := by decide +kernel
theorem dX5_run_9 : decode cX5_run 9 = .ok (.goto 4, 3) := by decide +kernel
theorem dX5_run_12 : decode cX5_run 12 = .ok (.iconst 1, 1) := by decide +kernel
theorem dX5_run_13 : decode cX5_run 13 = .ok (.invokevirtual 137, 3) := by decide +kernel
theorem dX5_run_16 : decode cX5_run 16 = .ok (.ifCond .eq 5, 3) := by decide +kernel
theorem dX5_run_19 : decode cX5_run 19 = .ok (.iconst 0, 1) := by decide +kernel
theorem dX5_run_20 : decode cX5_run 20 = .ok (.ireturn, 1) := by decide +kernel
theorem dX5_run_21 : decode cX5_run 21 = .ok (.aload_n 0, 1) := by decide +kernel
theorem dX5_run_22 : decode cX5_run 22 = .ok (.invokevirtual 251, 3) := by decide +kernel
theorem dX5_run_25 : decode cX5_run 25 = .ok (.aload_n 0, 1) := by decide +kernel
theorem dX5_run_26 : decode cX5_run 26 = .ok (.aload_n 0, 1) := by decide +kernel
theorem dX5_run_27 : decode cX5_run 27 = .ok (.getfield 19, 3) := by decide +kernel
theorem dX5_run_30 : decode cX5_run 30 = .ok (.iload_n 1, 1) := by decide +kernel
theorem dX5_run_31 : decode cX5_run 31 = .ok (.invokevirtual 189, 3) := by decide +kernel
theorem dX5_run_34 : decode cX5_run 34 = .ok (.ireturn, 1) := by decide +kernel
theorem dX5_set_0 : decode cX5_set 0 = .ok (.aload_n 0, 1) := by decide +kernel
theorem dX5_set_1 : decode cX5_set 1 = .ok (.iload_n 1, 1) := by decide +kernel
theorem dX5_set_2 : decode cX5_set 2 = .ok (.iload_n 2, 1) := by decide +kernel
theorem dX5_set_3 : decode cX5_set 3 = .ok (.invokestatic 182, 3) := by decide +kernel
theorem dX5_set_6 : decode cX5_set 6 = .ok (.ifCond .eq 7, 3) := by decide +kernel
theorem dX5_set_9 : decode cX5_set 9 = .ok (.iconst 0, 1) := by decide +kernel
theorem dX5_set_10 : decode cX5_set 10 = .ok (.goto 4, 3) := by decide +kernel
theorem dX5_set_13 : decode cX5_set 13 = .ok (.iconst 1, 1) := by decide +kernel
theorem dX5_set_14 : decode cX5_set 14 = .ok (.invokevirtual 137, 3) := by decide +kernel
theorem dX5_set_17 : decode cX5_set 17 = .ok (.ifCond .eq 5, 3) := by decide +kernel
theorem dX5_set_20 : decode cX5_set 20 = .ok (.iconst 0, 1) := by decide +kernel
theorem dX5_set_21 : decode cX5_set 21 = .ok (.ireturn, 1) := by decide +kernel
theorem dX5_set_22 : decode cX5_set 22 = .ok (.aload_n 0, 1) := by decide +kernel
theorem dX5_set_23 : decode cX5_set 23 = .ok (.invokevirtual 251, 3) := by decide +kernel
theorem dX5_set_26 : decode cX5_set 26 = .ok (.aload_n 0, 1) := by decide +kernel
theorem dX5_set_27 : decode cX5_set 27 = .ok (.getfield 19, 3) := by decide +kernel
theorem dX5_set_30 : decode cX5_set 30 = .ok (.bipush 7, 2) := by decide +kernel
theorem dX5_set_32 : decode cX5_set 32 = .ok (.iload_n 1, 1) := by decide +kernel
theorem dX5_set_33 : decode cX5_set 33 = .ok (.iadd, 1) := by decide +kernel
theorem dX5_set_34 : decode cX5_set 34 = .ok (.iaload, 1) := by decide +kernel
theorem dX5_set_35 : decode cX5_set 35 = .ok (.istore_n 3, 1) := by decide +kernel
theorem dX5_set_36 : decode cX5_set 36 = .ok (.aload_n 0, 1) := by decide +kernel
theorem dX5_set_37 : decode cX5_set 37 = .ok (.getfield 19, 3) := by decide +kernel
theorem dX5_set_40 : decode cX5_set 40 = .ok (.bipush 7, 2) := by decide +kernel
theorem dX5_set_42 : decode cX5_set 42 = .ok (.iload_n 1, 1) := by decide +kernel
theorem dX5_set_43 : decode cX5_set 43 = .ok (.iadd, 1) := by decide +kernel
theorem dX5_set_44 : decode cX5_set 44 = .ok (.iload_n 2, 1) := by decide +kernel
theorem dX5_set_45 : decode cX5_set 45 = .ok (.iastore, 1) := by decide +kernel
theorem dX5_set_46 : decode cX5_set 46 = .ok (.iload_n 3, 1) := by decide +kernel
theorem dX5_set_47 : decode cX5_set 47 = .ok (.ireturn, 1) := by decide +kernel
theorem dX5_undo_0 : decode cX5_undo 0 = .ok (.aload_n 0, 1) := by decide +kernel
theorem dX5_undo_1 : decode cX5_undo 1 = .ok (.aload_n 0, 1) := by decide +kernel
theorem dX5_undo_2 : decode cX5_undo 2 = .ok (.getfield 60, 3) := by decide +kernel
theorem dX5_undo_5 : decode cX5_undo 5 = .ok (.ifCond .ne 7, 3) := by decide +kernel
theorem dX5_undo_8 : decode cX5_undo 8 = .ok (.iconst 1, 1) := by decide +kernel
theorem dX5_undo_9 : decode cX5_undo 9 = .ok (.goto 4, 3) := by decide +kernel
theorem dX5_undo_12 : decode cX5_undo 12 = .ok (.iconst 0, 1) := by decide +kernel
theorem dX5_undo_13 : decode cX5_undo 13 = .ok (.invokevirtual 137, 3) := by decide +kernel
theorem dX5_undo_16 : decode cX5_undo 16 = .ok (.ifCond .eq 5, 3) := by decide +kernel
theorem dX5_undo_19 : decode cX5_undo 19 = .ok (.iconst 0, 1) := by decide +kernel
theorem dX5_undo_20 : decode cX5_undo 20 = .ok (.ireturn, 1) := by decide +kernel
theorem dX5_undo_21 : decode cX5_undo 21 = .ok (.aload_n 0, 1) := by decide +kernel
theorem dX5_undo_22 : decode cX5_undo 22 = .ok (.dup, 1) := by decide +kernel
theorem dX5_undo_23 : decode cX5_undo 23 = .ok (.getfield 60, 3) := by decide +kernel
theorem dX5_undo_26 : decode cX5_undo 26 = .ok (.iconst 1, 1) := by decide +kernel
theorem dX5_undo_27 : decode cX5_undo 27 = .ok (.isub, 1) := by decide +kernel
theorem dX5_undo_28 : decode cX5_undo 28 = .ok (.putfield 60, 3) := by decide +kernel
theorem dX5_undo_31 : decode cX5_undo 31 = .ok (.aload_n 0, 1) := by decide +kernel
theorem dX5_undo_32 : decode cX5_undo 32 = .ok (.getfield 25, 3) := by decide +kernel
theorem dX5_undo_35 : decode cX5_undo 35 = .ok (.bipush 74, 2) := by decide +kernel
theorem dX5_undo_37 : decode cX5_undo 37 = .ok (.aload_n 0, 1) := by decide +kernel
theorem dX5_undo_38 : decode cX5_undo 38 = .ok (.getfield 60, 3) := by decide +kernel
theorem dX5_undo_41 : decode cX5_undo 41 = .ok (.imul, 1) := by decide +kernel
theorem dX5_undo_42 : decode cX5_undo 42 = .ok (.aload_n 0, 1) := by decide +kernel
theorem dX5_undo_43 : decode cX5_undo 43 = .ok (.getfield 19, 3) := by decide +kernel
theorem dX5_undo_46 : decode cX5_undo 46 = .ok (.iconst 0, 1) := by decide +kernel
theorem dX5_undo_47 : decode cX5_undo 47 = .ok (.bipush 74, 2) := by decide +kernel
theorem dX5_undo_49 : decode cX5_undo 49 = .ok (.invokestatic 63, 3) := by decide +kernel
theorem dX5_undo_52 : decode cX5_undo 52 = .ok (.aload_n 0, 1) := by decide +kernel
theorem dX5_undo_53 : decode cX5_undo 53 = .ok (.getfield 60, 3) := by decide +kernel
theorem dX5_undo_56 : decode cX5_undo 56 = .ok (.ireturn, 1) := by decide +kernel
theorem dX5_isFar_0 : decode cX5_isFar 0 = .ok (.iload_n 0, 1) := by decide +kernel
theorem dX5_isFar_1 : decode cX5_isFar 1 = .ok (.i2l, 1) := by decide +kernel
theorem dX5_isFar_2 : decode cX5_isFar 2 = .ok (.lconst 1, 1) := by decide +kernel
theorem dX5_isFar_3 : decode cX5_isFar 3 = .ok (.ldc2_w 270, 3) := by decide +kernel
theorem dX5_isFar_6 : decode cX5_isFar 6 = .ok (.invokestatic 118, 3) := by decide +kernel
theorem dX5_isFar_9 : decode cX5_isFar 9 = .ok (.ireturn, 1) := by decide +kernel
theorem dX5_coming_0 : decode cX5_coming 0 = .ok (.aload_n 0, 1) := by decide +kernel
theorem dX5_coming_1 : decode cX5_coming 1 = .ok (.iload_n 1, 1) := by decide +kernel
theorem dX5_coming_2 : decode cX5_coming 2 = .ok (.invokestatic 272, 3) := by decide +kernel
theorem dX5_coming_5 : decode cX5_coming 5 = .ok (.ifCond .eq 19, 3) := by decide +kernel
theorem dX5_coming_8 : decode cX5_coming 8 = .ok (.iload_n 2, 1) := by decide +kernel
theorem dX5_coming_9 : decode cX5_coming 9 = .ok (.i2l, 1) := by decide +kernel
theorem dX5_coming_10 : decode cX5_coming 10 = .ok (.lconst 0, 1) := by decide +kernel
theorem dX5_coming_11 : decode cX5_coming 11 = .ok (.ldc2_w 275, 3) := by decide +kernel
theorem dX5_coming_14 : decode cX5_coming 14 = .ok (.invokestatic 118, 3) := by decide +kernel
theorem dX5_coming_17 : decode cX5_coming 17 = .ok (.ifCond .eq 7, 3) := by decide +kernel
theorem dX5_coming_20 : decode cX5_coming 20 = .ok (.iconst 0, 1) := by decide +kernel
theorem dX5_coming_21 : decode cX5_coming 21 = .ok (.goto 4, 3) := by decide +kernel
theorem dX5_coming_24 : decode cX5_coming 24 = .ok (.iconst 1, 1) := by decide +kernel
theorem dX5_coming_25 : decode cX5_coming 25 = .ok (.invokevirtual 137, 3) := by decide +kernel
theorem dX5_coming_28 : decode cX5_coming 28 = .ok (.ifCond .eq 5, 3) := by decide +kernel
theorem dX5_coming_31 : decode cX5_coming 31 = .ok (.iconst 0, 1) := by decide +kernel
theorem dX5_coming_32 : decode cX5_coming 32 = .ok (.ireturn, 1) := by decide +kernel
theorem dX5_coming_33 : decode cX5_coming 33 = .ok (.aload_n 0, 1) := by decide +kernel
theorem dX5_coming_34 : decode cX5_coming 34 = .ok (.invokevirtual 215, 3) := by decide +kernel
theorem dX5_coming_37 : decode cX5_coming 37 = .ok (.aload_n 0, 1) := by decide +kernel
theorem dX5_coming_38 : decode cX5_coming 38 = .ok (.aload_n 0, 1) := by decide +kernel
theorem dX5_coming_39 : decode cX5_coming 39 = .ok (.getfield 22, 3) := by decide +kernel
theorem dX5_coming_42 : decode cX5_coming 42 = .ok (.iload_n 1, 1) := by decide +kernel
theorem dX5_coming_43 : decode cX5_coming 43 = .ok (.invokevirtual 189, 3) := by decide +kernel
theorem dX5_coming_46 : decode cX5_coming 46 = .ok (.pop, 1) := by decide +kernel
theorem dX5_coming_47 : decode cX5_coming 47 = .ok (.aload_n 0, 1) := by decide +kernel
theorem dX5_coming_48 : decode cX5_coming 48 = .ok (.getfield 22, 3) := by decide +kernel
theorem dX5_coming_51 : decode cX5_coming 51 = .ok (.iconst 3, 1) := by decide +kernel
theorem dX5_coming_52 : decode cX5_coming 52 = .ok (.iload_n 2, 1) := by decide +kernel
theorem dX5_coming_53 : decode cX5_coming 53 = .ok (.iadd, 1) := by decide +kernel
theorem dX5_coming_54 : decode cX5_coming 54 = .ok (.iaload, 1) := by decide +kernel
theorem dX5_coming_55 : decode cX5_coming 55 = .ok (.aload_n 0, 1) := by decide +kernel
theorem dX5_coming_56 : decode cX5_coming 56 = .ok (.getfield 19, 3) := by decide +kernel
theorem dX5_coming_59 : decode cX5_coming 59 = .ok (.iconst 3, 1) := by decide +kernel
theorem dX5_coming_60 : decode cX5_coming 60 = .ok (.iload_n 2, 1) := by decide +kernel
theorem dX5_coming_61 : decode cX5_coming 61 = .ok (.iadd, 1) := by decide +kernel
theorem dX5_coming_62 : decode cX5_coming 62 = .ok (.iaload, 1) := by decide +kernel
theorem dX5_coming_63 : decode cX5_coming 63 = .ok (.isub, 1) := by decide +kernel
theorem dX5_coming_64 : decode cX5_coming 64 = .ok (.ireturn, 1) := by decide +kernel
theorem dX5_leavesNow_0 : decode cX5_leavesNow 0 = .ok (.aload_n 0, 1) := by decide +kernel
theorem dX5_leavesNow_1 : decode cX5_leavesNow 1 = .ok (.getfield 22, 3) := by decide +kernel
theorem dX5_leavesNow_4 : decode cX5_leavesNow 4 = .ok (.iload_n 1, 1) := by decide +kernel
theorem dX5_leavesNow_5 : decode cX5_leavesNow 5 = .ok (.bipush 6, 2) := by decide +kernel
theorem dX5_leavesNow_7 : decode cX5_leavesNow 7 = .ok (.invokestatic 67, 3) := by decide +kernel
theorem dX5_leavesNow_10 : decode cX5_leavesNow 10 = .ok (.iaload, 1) := by decide +kernel
theorem dX5_leavesNow_11 : decode cX5_leavesNow 11 = .ok (.ifCond .ne 29, 3) := by decide +kernel
theorem dX5_leavesNow_14 : decode cX5_leavesNow 14 = .ok (.aload_n 0, 1) := by decide +kernel
theorem dX5_leavesNow_15 : decode cX5_leavesNow 15 = .ok (.getfield 22, 3) := by decide +kernel
theorem dX5_leavesNow_18 : decode cX5_leavesNow 18 = .ok (.iload_n 1, 1) := by decide +kernel
theorem dX5_leavesNow_19 : decode cX5_leavesNow 19 = .ok (.iconst 3, 1) := by decide +kernel
theorem dX5_leavesNow_20 : decode cX5_leavesNow 20 = .ok (.invokestatic 67, 3) := by decide +kernel
theorem dX5_leavesNow_23 : decode cX5_leavesNow 23 = .ok (.iaload, 1) := by decide +kernel
theorem dX5_leavesNow_24 : decode cX5_leavesNow 24 = .ok (.aload_n 0, 1) := by decide +kernel
theorem dX5_leavesNow_25 : decode cX5_leavesNow 25 = .ok (.getfield 22, 3) := by decide +kernel
theorem dX5_leavesNow_28 : decode cX5_leavesNow 28 = .ok (.iconst 0, 1) := by decide +kernel
theorem dX5_leavesNow_29 : decode cX5_leavesNow 29 = .ok (.iaload, 1) := by decide +kernel
theorem dX5_leavesNow_30 : decode cX5_leavesNow 30 = .ok (.bipush 24, 2) := by decide +kernel
theorem dX5_leavesNow_32 : decode cX5_leavesNow 32 = .ok (.irem, 1) := by decide +kernel
theorem dX5_leavesNow_33 : decode cX5_leavesNow 33 = .ok (.if_icmp .ne 7, 3) := by decide +kernel
theorem dX5_leavesNow_36 : decode cX5_leavesNow 36 = .ok (.iconst 1, 1) := by decide +kernel
theorem dX5_leavesNow_37 : decode cX5_leavesNow 37 = .ok (.goto 4, 3) := by decide +kernel
theorem dX5_leavesNow_40 : decode cX5_leavesNow 40 = .ok (.iconst 0, 1) := by decide +kernel
theorem dX5_leavesNow_41 : decode cX5_leavesNow 41 = .ok (.ireturn, 1) := by decide +kernel
theorem dX5_firstMissed_0 : decode cX5_firstMissed 0 = .ok (.aload_n 0, 1) := by decide +kernel
theorem dX5_firstMissed_1 : decode cX5_firstMissed 1 = .ok (.aload_n 0, 1) := by decide +kernel
theorem dX5_firstMissed_2 : decode cX5_firstMissed 2 = .ok (.iload_n 1, 1) := by decide +kernel
theorem dX5_firstMissed_3 : decode cX5_firstMissed 3 = .ok (.invokevirtual 212, 3) := by decide +kernel
theorem dX5_firstMissed_6 : decode cX5_firstMissed 6 = .ok (.ifCond .eq 7, 3) := by decide +kernel
theorem dX5_firstMissed_9 : decode cX5_firstMissed 9 = .ok (.iconst 0, 1) := by decide +kernel
theorem dX5_firstMissed_10 : decode cX5_firstMissed 10 = .ok (.goto 4, 3) := by decide +kernel
theorem dX5_firstMissed_13 : decode cX5_firstMissed 13 = .ok (.iconst 1, 1) := by decide +kernel
theorem dX5_firstMissed_14 : decode cX5_firstMissed 14 = .ok (.invokevirtual 137, 3) := by decide +kernel
theorem dX5_firstMissed_17 : decode cX5_firstMissed 17 = .ok (.ifCond .eq 5, 3) := by decide +kernel
theorem dX5_firstMissed_20 : decode cX5_firstMissed 20 = .ok (.iconst 0, 1) := by decide +kernel
theorem dX5_firstMissed_21 : decode cX5_firstMissed 21 = .ok (.ireturn, 1) := by decide +kernel
theorem dX5_firstMissed_22 : decode cX5_firstMissed 22 = .ok (.aload_n 0, 1) := by decide +kernel
theorem dX5_firstMissed_23 : decode cX5_firstMissed 23 = .ok (.invokevirtual 215, 3) := by decide +kernel
theorem dX5_firstMissed_26 : decode cX5_firstMissed 26 = .ok (.iconst 0, 1) := by decide +kernel
theorem dX5_firstMissed_27 : decode cX5_firstMissed 27 = .ok (.istore_n 2, 1) := by decide +kernel
theorem dX5_firstMissed_28 : decode cX5_firstMissed 28 = .ok (.iload_n 2, 1) := by decide +kernel
theorem dX5_firstMissed_29 : decode cX5_firstMissed 29 = .ok (.bipush 72, 2) := by decide +kernel
theorem dX5_firstMissed_31 : decode cX5_firstMissed 31 = .ok (.if_icmp .ge 50, 3) := by decide +kernel
theorem dX5_firstMissed_34 : decode cX5_firstMissed 34 = .ok (.aload_n 0, 1) := by decide +kernel
theorem dX5_firstMissed_35 : decode cX5_firstMissed 35 = .ok (.getfield 22, 3) := by decide +kernel
theorem dX5_firstMissed_38 : decode cX5_firstMissed 38 = .ok (.invokestatic 104, 3) := by decide +kernel
theorem dX5_firstMissed_41 : decode cX5_firstMissed 41 = .ok (.aload_n 0, 1) := by decide +kernel
theorem dX5_firstMissed_42 : decode cX5_firstMissed 42 = .ok (.iload_n 1, 1) := by decide +kernel
theorem dX5_firstMissed_43 : decode cX5_firstMissed 43 = .ok (.invokevirtual 277, 3) := by decide +kernel
theorem dX5_firstMissed_46 : decode cX5_firstMissed 46 = .ok (.ifCond .eq 21, 3) := by decide +kernel
theorem dX5_firstMissed_49 : decode cX5_firstMissed 49 = .ok (.aload_n 0, 1) := by decide +kernel
theorem dX5_firstMissed_50 : decode cX5_firstMissed 50 = .ok (.getfield 22, 3) := by decide +kernel
theorem dX5_firstMissed_53 : decode cX5_firstMissed 53 = .ok (.iload_n 1, 1) := by decide +kernel
theorem dX5_firstMissed_54 : decode cX5_firstMissed 54 = .ok (.invokestatic 71, 3) := by decide +kernel
theorem dX5_firstMissed_57 : decode cX5_firstMissed 57 = .ok (.ifCond .eq 10, 3) := by decide +kernel
theorem dX5_firstMissed_60 : decode cX5_firstMissed 60 = .ok (.aload_n 0, 1) := by decide +kernel
theorem dX5_firstMissed_61 : decode cX5_firstMissed 61 = .ok (.getfield 22, 3) := by decide +kernel
theorem dX5_firstMissed_64 : decode cX5_firstMissed 64 = .ok (.iconst 0, 1) := by decide +kernel
theorem dX5_firstMissed_65 : decode cX5_firstMissed 65 = .ok (.iaload, 1) := by decide +kernel
theorem dX5_firstMissed_66 : decode cX5_firstMissed 66 = .ok (.ireturn, 1) := by decide +kernel
theorem dX5_firstMissed_67 : decode cX5_firstMissed 67 = .ok (.aload_n 0, 1) := by decide +kernel
theorem dX5_firstMissed_68 : decode cX5_firstMissed 68 = .ok (.aload_n 0, 1) := by decide +kernel
theorem dX5_firstMissed_69 : decode cX5_firstMissed 69 = .ok (.getfield 22, 3) := by decide +kernel
theorem dX5_firstMissed_72 : decode cX5_firstMissed 72 = .ok (.invokevirtual 113, 3) := by decide +kernel
theorem dX5_firstMissed_75 : decode cX5_firstMissed 75 = .ok (.iinc 2 1, 3) := by decide +kernel
theorem dX5_firstMissed_78 : decode cX5_firstMissed 78 = .ok (.goto (-50), 3) := by decide +kernel
theorem dX5_firstMissed_81 : decode cX5_firstMissed 81 = .ok (.iconst (-1), 1) := by decide +kernel
theorem dX5_firstMissed_82 : decode cX5_firstMissed 82 = .ok (.ireturn, 1) := by decide +kernel
theorem dX5_leastLimit_0 : decode cX5_leastLimit 0 = .ok (.aload_n 0, 1) := by decide +kernel
theorem dX5_leastLimit_1 : decode cX5_leastLimit 1 = .ok (.iload_n 1, 1) := by decide +kernel
theorem dX5_leastLimit_2 : decode cX5_leastLimit 2 = .ok (.invokestatic 272, 3) := by decide +kernel
theorem dX5_leastLimit_5 : decode cX5_leastLimit 5 = .ok (.ifCond .eq 7, 3) := by decide +kernel
theorem dX5_leastLimit_8 : decode cX5_leastLimit 8 = .ok (.iconst 0, 1) := by decide +kernel
theorem dX5_leastLimit_9 : decode cX5_leastLimit 9 = .ok (.goto 4, 3) := by decide +kernel
theorem dX5_leastLimit_12 : decode cX5_leastLimit 12 = .ok (.iconst 1, 1) := by decide +kernel
theorem dX5_leastLimit_13 : decode cX5_leastLimit 13 = .ok (.invokevirtual 137, 3) := by decide +kernel
theorem dX5_leastLimit_16 : decode cX5_leastLimit 16 = .ok (.ifCond .eq 5, 3) := by decide +kernel
theorem dX5_leastLimit_19 : decode cX5_leastLimit 19 = .ok (.iconst 0, 1) := by decide +kernel
theorem dX5_leastLimit_20 : decode cX5_leastLimit 20 = .ok (.ireturn, 1) := by decide +kernel
theorem dX5_leastLimit_21 : decode cX5_leastLimit 21 = .ok (.iconst 0, 1) := by decide +kernel
theorem dX5_leastLimit_22 : decode cX5_leastLimit 22 = .ok (.istore_n 2, 1) := by decide +kernel
theorem dX5_leastLimit_23 : decode cX5_leastLimit 23 = .ok (.iload_n 2, 1) := by decide +kernel
theorem dX5_leastLimit_24 : decode cX5_leastLimit 24 = .ok (.sipush 250, 3) := by decide +kernel
theorem dX5_leastLimit_27 : decode cX5_leastLimit 27 = .ok (.if_icmp .gt 48, 3) := by decide +kernel
theorem dX5_leastLimit_30 : decode cX5_leastLimit 30 = .ok (.aload_n 0, 1) := by decide +kernel
theorem dX5_leastLimit_31 : decode cX5_leastLimit 31 = .ok (.invokevirtual 215, 3) := by decide +kernel
theorem dX5_leastLimit_34 : decode cX5_leastLimit 34 = .ok (.aload_n 0, 1) := by decide +kernel
theorem dX5_leastLimit_35 : decode cX5_leastLimit 35 = .ok (.getfield 22, 3) := by decide +kernel
theorem dX5_leastLimit_38 : decode cX5_leastLimit 38 = .ok (.bipush 7, 2) := by decide +kernel
theorem dX5_leastLimit_40 : decode cX5_leastLimit 40 = .ok (.iload_n 2, 1) := by decide +kernel
theorem dX5_leastLimit_41 : decode cX5_leastLimit 41 = .ok (.iastore, 1) := by decide +kernel
theorem dX5_leastLimit_42 : decode cX5_leastLimit 42 = .ok (.aload_n 0, 1) := by decide +kernel
theorem dX5_leastLimit_43 : decode cX5_leastLimit 43 = .ok (.aload_n 0, 1) := by decide +kernel
theorem dX5_leastLimit_44 : decode cX5_leastLimit 44 = .ok (.getfield 22, 3) := by decide +kernel
theorem dX5_leastLimit_47 : decode cX5_leastLimit 47 = .ok (.iload_n 1, 1) := by decide +kernel
theorem dX5_leastLimit_48 : decode cX5_leastLimit 48 = .ok (.invokevirtual 189, 3) := by decide +kernel
theorem dX5_leastLimit_51 : decode cX5_leastLimit 51 = .ok (.pop, 1) := by decide +kernel
theorem dX5_leastLimit_52 : decode cX5_leastLimit 52 = .ok (.aload_n 0, 1) := by decide +kernel
theorem dX5_leastLimit_53 : decode cX5_leastLimit 53 = .ok (.getfield 22, 3) := by decide +kernel
theorem dX5_leastLimit_56 : decode cX5_leastLimit 56 = .ok (.iconst 5, 1) := by decide +kernel
theorem dX5_leastLimit_57 : decode cX5_leastLimit 57 = .ok (.iaload, 1) := by decide +kernel
theorem dX5_leastLimit_58 : decode cX5_leastLimit 58 = .ok (.aload_n 0, 1) := by decide +kernel
theorem dX5_leastLimit_59 : decode cX5_leastLimit 59 = .ok (.getfield 19, 3) := by decide +kernel
theorem dX5_leastLimit_62 : decode cX5_leastLimit 62 = .ok (.iconst 5, 1) := by decide +kernel
theorem dX5_leastLimit_63 : decode cX5_leastLimit 63 = .ok (.iaload, 1) := by decide +kernel
theorem dX5_leastLimit_64 : decode cX5_leastLimit 64 = .ok (.if_icmp .ne 5, 3) := by decide +kernel
theorem dX5_leastLimit_67 : decode cX5_leastLimit 67 = .ok (.iload_n 2, 1) := by decide +kernel
theorem dX5_leastLimit_68 : decode cX5_leastLimit 68 = .ok (.ireturn, 1) := by decide +kernel
theorem dX5_leastLimit_69 : decode cX5_leastLimit 69 = .ok (.iinc 2 10, 3) := by decide +kernel
theorem dX5_leastLimit_72 : decode cX5_leastLimit 72 = .ok (.goto (-49), 3) := by decide +kernel
theorem dX5_leastLimit_75 : decode cX5_leastLimit 75 = .ok (.iconst (-1), 1) := by decide +kernel
theorem dX5_leastLimit_76 : decode cX5_leastLimit 76 = .ok (.ireturn, 1) := by decide +kernel
theorem dX5_bestNight_0 : decode cX5_bestNight 0 = .ok (.aload_n 0, 1) := by decide +kernel
theorem dX5_bestNight_1 : decode cX5_bestNight 1 = .ok (.iload_n 1, 1) := by decide +kernel
theorem dX5_bestNight_2 : decode cX5_bestNight 2 = .ok (.invokestatic 272, 3) := by decide +kernel
theorem dX5_bestNight_5 : decode cX5_bestNight 5 = .ok (.ifCond .eq 7, 3) := by decide +kernel
theorem dX5_bestNight_8 : decode cX5_bestNight 8 = .ok (.iconst 0, 1) := by decide +kernel
theorem dX5_bestNight_9 : decode cX5_bestNight 9 = .ok (.goto 4, 3) := by decide +kernel
theorem dX5_bestNight_12 : decode cX5_bestNight 12 = .ok (.iconst 1, 1) := by decide +kernel
theorem dX5_bestNight_13 : decode cX5_bestNight 13 = .ok (.invokevirtual 137, 3) := by decide +kernel
theorem dX5_bestNight_16 : decode cX5_bestNight 16 = .ok (.ifCond .eq 5, 3) := by decide +kernel
theorem dX5_bestNight_19 : decode cX5_bestNight 19 = .ok (.iconst 0, 1) := by decide +kernel
theorem dX5_bestNight_20 : decode cX5_bestNight 20 = .ok (.ireturn, 1) := by decide +kernel
theorem dX5_bestNight_21 : decode cX5_bestNight 21 = .ok (.iconst (-1), 1) := by decide +kernel
theorem dX5_bestNight_22 : decode cX5_bestNight 22 = .ok (.istore_n 2, 1) := by decide +kernel
theorem dX5_bestNight_23 : decode cX5_bestNight 23 = .ok (.iconst 0, 1) := by decide +kernel
theorem dX5_bestNight_24 : decode cX5_bestNight 24 = .ok (.istore_n 3, 1) := by decide +kernel
theorem dX5_bestNight_25 : decode cX5_bestNight 25 = .ok (.iconst 0, 1) := by decide +kernel
theorem dX5_bestNight_26 : decode cX5_bestNight 26 = .ok (.istore 4, 2) := by decide +kernel
theorem dX5_bestNight_28 : decode cX5_bestNight 28 = .ok (.iload 4, 2) := by decide +kernel
theorem dX5_bestNight_30 : decode cX5_bestNight 30 = .ok (.bipush 24, 2) := by decide +kernel
theorem dX5_bestNight_32 : decode cX5_bestNight 32 = .ok (.if_icmp .ge 89, 3) := by decide +kernel
theorem dX5_bestNight_35 : decode cX5_bestNight 35 = .ok (.aload_n 0, 1) := by decide +kernel
theorem dX5_bestNight_36 : decode cX5_bestNight 36 = .ok (.invokevirtual 215, 3) := by decide +kernel
theorem dX5_bestNight_39 : decode cX5_bestNight 39 = .ok (.aload_n 0, 1) := by decide +kernel
theorem dX5_bestNight_40 : decode cX5_bestNight 40 = .ok (.getfield 22, 3) := by decide +kernel
theorem dX5_bestNight_43 : decode cX5_bestNight 43 = .ok (.bipush 12, 2) := by decide +kernel
theorem dX5_bestNight_45 : decode cX5_bestNight 45 = .ok (.iload 4, 2) := by decide +kernel
theorem dX5_bestNight_47 : decode cX5_bestNight 47 = .ok (.iastore, 1) := by decide +kernel
theorem dX5_bestNight_48 : decode cX5_bestNight 48 = .ok (.aload_n 0, 1) := by decide +kernel
theorem dX5_bestNight_49 : decode cX5_bestNight 49 = .ok (.aload_n 0, 1) := by decide +kernel
theorem dX5_bestNight_50 : decode cX5_bestNight 50 = .ok (.getfield 22, 3) := by decide +kernel
theorem dX5_bestNight_53 : decode cX5_bestNight 53 = .ok (.iload_n 1, 1) := by decide +kernel
theorem dX5_bestNight_54 : decode cX5_bestNight 54 = .ok (.invokevirtual 189, 3) := by decide +kernel
theorem dX5_bestNight_57 : decode cX5_bestNight 57 = .ok (.pop, 1) := by decide +kernel
theorem dX5_bestNight_58 : decode cX5_bestNight 58 = .ok (.aload_n 0, 1) := by decide +kernel
theorem dX5_bestNight_59 : decode cX5_bestNight 59 = .ok (.getfield 22, 3) := by decide +kernel
theorem dX5_bestNight_62 : decode cX5_bestNight 62 = .ok (.iconst 3, 1) := by decide +kernel
theorem dX5_bestNight_63 : decode cX5_bestNight 63 = .ok (.iaload, 1) := by decide +kernel
theorem dX5_bestNight_64 : decode cX5_bestNight 64 = .ok (.aload_n 0, 1) := by decide +kernel
theorem dX5_bestNight_65 : decode cX5_bestNight 65 = .ok (.getfield 19, 3) := by decide +kernel
theorem dX5_bestNight_68 : decode cX5_bestNight 68 = .ok (.iconst 3, 1) := by decide +kernel
theorem dX5_bestNight_69 : decode cX5_bestNight 69 = .ok (.iaload, 1) := by decide +kernel
theorem dX5_bestNight_70 : decode cX5_bestNight 70 = .ok (.isub, 1) := by decide +kernel
theorem dX5_bestNight_71 : decode cX5_bestNight 71 = .ok (.istore 5, 2) := by decide +kernel
theorem dX5_bestNight_73 : decode cX5_bestNight 73 = .ok (.iload_n 2, 1) := by decide +kernel
theorem dX5_bestNight_74 : decode cX5_bestNight 74 = .ok (.iconst (-1), 1) := by decide +kernel
theorem dX5_bestNight_75 : decode cX5_bestNight 75 = .ok (.if_icmp .eq 9, 3) := by decide +kernel
theorem dX5_bestNight_78 : decode cX5_bestNight 78 = .ok (.iload 5, 2) := by decide +kernel
theorem dX5_bestNight_80 : decode cX5_bestNight 80 = .ok (.iload_n 3, 1) := by decide +kernel
theorem dX5_bestNight_81 : decode cX5_bestNight 81 = .ok (.if_icmp .ge 7, 3) := by decide +kernel
theorem dX5_bestNight_84 : decode cX5_bestNight 84 = .ok (.iconst 1, 1) := by decide +kernel
theorem dX5_bestNight_85 : decode cX5_bestNight 85 = .ok (.goto 4, 3) := by decide +kernel
theorem dX5_bestNight_88 : decode cX5_bestNight 88 = .ok (.iconst 0, 1) := by decide +kernel
theorem dX5_bestNight_89 : decode cX5_bestNight 89 = .ok (.istore 6, 2) := by decide +kernel
theorem dX5_bestNight_91 : decode cX5_bestNight 91 = .ok (.iload 6, 2) := by decide +kernel
theorem dX5_bestNight_93 : decode cX5_bestNight 93 = .ok (.ifCond .eq 8, 3) := by decide +kernel
theorem dX5_bestNight_96 : decode cX5_bestNight 96 = .ok (.iload 4, 2) := by decide +kernel
theorem dX5_bestNight_98 : decode cX5_bestNight 98 = .ok (.goto 4, 3) := by decide +kernel
theorem dX5_bestNight_101 : decode cX5_bestNight 101 = .ok (.iload_n 2, 1) := by decide +kernel
theorem dX5_bestNight_102 : decode cX5_bestNight 102 = .ok (.istore_n 2, 1) := by decide +kernel
theorem dX5_bestNight_103 : decode cX5_bestNight 103 = .ok (.iload 6, 2) := by decide +kernel
theorem dX5_bestNight_105 : decode cX5_bestNight 105 = .ok (.ifCond .eq 8, 3) := by decide +kernel
theorem dX5_bestNight_108 : decode cX5_bestNight 108 = .ok (.iload 5, 2) := by decide +kernel
theorem dX5_bestNight_110 : decode cX5_bestNight 110 = .ok (.goto 4, 3) := by decide +kernel
theorem dX5_bestNight_113 : decode cX5_bestNight 113 = .ok (.iload_n 3, 1) := by decide +kernel
theorem dX5_bestNight_114 : decode cX5_bestNight 114 = .ok (.istore_n 3, 1) := by decide +kernel
theorem dX5_bestNight_115 : decode cX5_bestNight 115 = .ok (.iinc 4 1, 3) := by decide +kernel
theorem dX5_bestNight_118 : decode cX5_bestNight 118 = .ok (.goto (-90), 3) := by decide +kernel
theorem dX5_bestNight_121 : decode cX5_bestNight 121 = .ok (.iload_n 2, 1) := by decide +kernel
theorem dX5_bestNight_122 : decode cX5_bestNight 122 = .ok (.ireturn, 1) := by decide +kernel
theorem dX5_ifPlugged_0 : decode cX5_ifPlugged 0 = .ok (.aload_n 0, 1) := by decide +kernel
theorem dX5_ifPlugged_1 : decode cX5_ifPlugged 1 = .ok (.iload_n 1, 1) := by decide +kernel
theorem dX5_ifPlugged_2 : decode cX5_ifPlugged 2 = .ok (.invokestatic 254, 3) := by decide +kernel
theorem dX5_ifPlugged_5 : decode cX5_ifPlugged 5 = .ok (.ifCond .eq 10, 3) := by decide +kernel
theorem dX5_ifPlugged_8 : decode cX5_ifPlugged 8 = .ok (.iload_n 2, 1) := by decide +kernel
theorem dX5_ifPlugged_9 : decode cX5_ifPlugged 9 = .ok (.invokestatic 272, 3) := by decide +kernel
theorem dX5_ifPlugged_12 : decode cX5_ifPlugged 12 = .ok (.ifCond .ne 7, 3) := by decide +kernel
theorem dX5_ifPlugged_15 : decode cX5_ifPlugged 15 = .ok (.iconst 1, 1) := by decide +kernel
theorem dX5_ifPlugged_16 : decode cX5_ifPlugged 16 = .ok (.goto 18, 3) := by decide +kernel
theorem dX5_ifPlugged_19 : decode cX5_ifPlugged 19 = .ok (.aload_n 0, 1) := by decide +kernel
theorem dX5_ifPlugged_20 : decode cX5_ifPlugged 20 = .ok (.getfield 19, 3) := by decide +kernel
theorem dX5_ifPlugged_23 : decode cX5_ifPlugged 23 = .ok (.iconst 2, 1) := by decide +kernel
theorem dX5_ifPlugged_24 : decode cX5_ifPlugged 24 = .ok (.iaload, 1) := by decide +kernel
theorem dX5_ifPlugged_25 : decode cX5_ifPlugged 25 = .ok (.iconst 5, 1) := by decide +kernel
theorem dX5_ifPlugged_26 : decode cX5_ifPlugged 26 = .ok (.if_icmp .ne 7, 3) := by decide +kernel
theorem dX5_ifPlugged_29 : decode cX5_ifPlugged 29 = .ok (.iconst 2, 1) := by decide +kernel
theorem dX5_ifPlugged_30 : decode cX5_ifPlugged 30 = .ok (.goto 4, 3) := by decide +kernel
theorem dX5_ifPlugged_33 : decode cX5_ifPlugged 33 = .ok (.iconst 0, 1) := by decide +kernel
theorem dX5_ifPlugged_34 : decode cX5_ifPlugged 34 = .ok (.invokevirtual 137, 3) := by decide +kernel
theorem dX5_ifPlugged_37 : decode cX5_ifPlugged 37 = .ok (.ifCond .eq 5, 3) := by decide +kernel
theorem dX5_ifPlugged_40 : decode cX5_ifPlugged 40 = .ok (.iconst 0, 1) := by decide +kernel
theorem dX5_ifPlugged_41 : decode cX5_ifPlugged 41 = .ok (.ireturn, 1) := by decide +kernel
theorem dX5_ifPlugged_42 : decode cX5_ifPlugged 42 = .ok (.aload_n 0, 1) := by decide +kernel
theorem dX5_ifPlugged_43 : decode cX5_ifPlugged 43 = .ok (.invokevirtual 215, 3) := by decide +kernel
theorem dX5_ifPlugged_46 : decode cX5_ifPlugged 46 = .ok (.aload_n 0, 1) := by decide +kernel
theorem dX5_ifPlugged_47 : decode cX5_ifPlugged 47 = .ok (.getfield 22, 3) := by decide +kernel
theorem dX5_ifPlugged_50 : decode cX5_ifPlugged 50 = .ok (.iload_n 1, 1) := by decide +kernel
theorem dX5_ifPlugged_51 : decode cX5_ifPlugged 51 = .ok (.invokestatic 186, 3) := by decide +kernel
theorem dX5_ifPlugged_54 : decode cX5_ifPlugged 54 = .ok (.pop, 1) := by decide +kernel
theorem dX5_ifPlugged_55 : decode cX5_ifPlugged 55 = .ok (.aload_n 0, 1) := by decide +kernel
theorem dX5_ifPlugged_56 : decode cX5_ifPlugged 56 = .ok (.aload_n 0, 1) := by decide +kernel
theorem dX5_ifPlugged_57 : decode cX5_ifPlugged 57 = .ok (.getfield 22, 3) := by decide +kernel
theorem dX5_ifPlugged_60 : decode cX5_ifPlugged 60 = .ok (.iload_n 2, 1) := by decide +kernel
theorem dX5_ifPlugged_61 : decode cX5_ifPlugged 61 = .ok (.invokevirtual 189, 3) := by decide +kernel
theorem dX5_ifPlugged_64 : decode cX5_ifPlugged 64 = .ok (.pop, 1) := by decide +kernel
theorem dX5_ifPlugged_65 : decode cX5_ifPlugged 65 = .ok (.aload_n 0, 1) := by decide +kernel
theorem dX5_ifPlugged_66 : decode cX5_ifPlugged 66 = .ok (.getfield 22, 3) := by decide +kernel
theorem dX5_ifPlugged_69 : decode cX5_ifPlugged 69 = .ok (.iconst 5, 1) := by decide +kernel
theorem dX5_ifPlugged_70 : decode cX5_ifPlugged 70 = .ok (.iaload, 1) := by decide +kernel
theorem dX5_ifPlugged_71 : decode cX5_ifPlugged 71 = .ok (.aload_n 0, 1) := by decide +kernel
theorem dX5_ifPlugged_72 : decode cX5_ifPlugged 72 = .ok (.getfield 19, 3) := by decide +kernel
theorem dX5_ifPlugged_75 : decode cX5_ifPlugged 75 = .ok (.iconst 5, 1) := by decide +kernel
theorem dX5_ifPlugged_76 : decode cX5_ifPlugged 76 = .ok (.iaload, 1) := by decide +kernel
theorem dX5_ifPlugged_77 : decode cX5_ifPlugged 77 = .ok (.isub, 1) := by decide +kernel
theorem dX5_ifPlugged_78 : decode cX5_ifPlugged 78 = .ok (.ireturn, 1) := by decide +kernel
theorem dX5_runs_0 : decode cX5_runs 0 = .ok (.iload_n 1, 1) := by decide +kernel
theorem dX5_runs_1 : decode cX5_runs 1 = .ok (.invokestatic 267, 3) := by decide +kernel
theorem dX5_runs_4 : decode cX5_runs 4 = .ok (.ifCond .eq 13, 3) := by decide +kernel
theorem dX5_runs_7 : decode cX5_runs 7 = .ok (.aload_n 0, 1) := by decide +kernel
theorem dX5_runs_8 : decode cX5_runs 8 = .ok (.aload_n 0, 1) := by decide +kernel
theorem dX5_runs_9 : decode cX5_runs 9 = .ok (.getfield 22, 3) := by decide +kernel
theorem dX5_runs_12 : decode cX5_runs 12 = .ok (.iload_n 1, 1) := by decide +kernel
theorem dX5_runs_13 : decode cX5_runs 13 = .ok (.invokevirtual 189, 3) := by decide +kernel
theorem dX5_runs_16 : decode cX5_runs 16 = .ok (.pop, 1) := by decide +kernel
theorem dX5_runs_17 : decode cX5_runs 17 = .ok (.iload_n 1, 1) := by decide +kernel
theorem dX5_runs_18 : decode cX5_runs 18 = .ok (.invokestatic 267, 3) := by decide +kernel
theorem dX5_runs_21 : decode cX5_runs 21 = .ok (.ireturn, 1) := by decide +kernel
theorem dX5_isThere_0 : decode cX5_isThere 0 = .ok (.iload_n 1, 1) := by decide +kernel
theorem dX5_isThere_1 : decode cX5_isThere 1 = .ok (.aload_n 0, 1) := by decide +kernel
theorem dX5_isThere_2 : decode cX5_isThere 2 = .ok (.getfield 22, 3) := by decide +kernel
theorem dX5_isThere_5 : decode cX5_isThere 5 = .ok (.iconst 1, 1) := by decide +kernel
theorem dX5_isThere_6 : decode cX5_isThere 6 = .ok (.iaload, 1) := by decide +kernel
theorem dX5_isThere_7 : decode cX5_isThere 7 = .ok (.if_icmp .ge 7, 3) := by decide +kernel
theorem dX5_isThere_10 : decode cX5_isThere 10 = .ok (.iconst 1, 1) := by decide +kernel
theorem dX5_isThere_11 : decode cX5_isThere 11 = .ok (.goto 4, 3) := by decide +kernel
theorem dX5_isThere_14 : decode cX5_isThere 14 = .ok (.iconst 0, 1) := by decide +kernel
theorem dX5_isThere_15 : decode cX5_isThere 15 = .ok (.ireturn, 1) := by decide +kernel
theorem dX5_renews_0 : decode cX5_renews 0 = .ok (.aload_n 0, 1) := by decide +kernel
theorem dX5_renews_1 : decode cX5_renews 1 = .ok (.iload_n 1, 1) := by decide +kernel
theorem dX5_renews_2 : decode cX5_renews 2 = .ok (.invokevirtual 280, 3) := by decide +kernel
theorem dX5_renews_5 : decode cX5_renews 5 = .ok (.ifCond .eq 25, 3) := by decide +kernel
theorem dX5_renews_8 : decode cX5_renews 8 = .ok (.iload_n 2, 1) := by decide +kernel
theorem dX5_renews_9 : decode cX5_renews 9 = .ok (.invokestatic 245, 3) := by decide +kernel
theorem dX5_renews_12 : decode cX5_renews 12 = .ok (.ifCond .eq 18, 3) := by decide +kernel
theorem dX5_renews_15 : decode cX5_renews 15 = .ok (.aload_n 0, 1) := by decide +kernel
theorem dX5_renews_16 : decode cX5_renews 16 = .ok (.getfield 22, 3) := by decide +kernel
theorem dX5_renews_19 : decode cX5_renews 19 = .ok (.iload_n 1, 1) := by decide +kernel
theorem dX5_renews_20 : decode cX5_renews 20 = .ok (.bipush 6, 2) := by decide +kernel
theorem dX5_renews_22 : decode cX5_renews 22 = .ok (.invokestatic 67, 3) := by decide +kernel
theorem dX5_renews_25 : decode cX5_renews 25 = .ok (.iaload, 1) := by decide +kernel
theorem dX5_renews_26 : decode cX5_renews 26 = .ok (.iconst 1, 1) := by decide +kernel
theorem dX5_renews_27 : decode cX5_renews 27 = .ok (.if_icmp .ne 5, 3) := by decide +kernel
theorem dX5_renews_30 : decode cX5_renews 30 = .ok (.iconst 0, 1) := by decide +kernel
theorem dX5_renews_31 : decode cX5_renews 31 = .ok (.ireturn, 1) := by decide +kernel
theorem dX5_renews_32 : decode cX5_renews 32 = .ok (.aload_n 0, 1) := by decide +kernel
theorem dX5_renews_33 : decode cX5_renews 33 = .ok (.getfield 22, 3) := by decide +kernel
theorem dX5_renews_36 : decode cX5_renews 36 = .ok (.iload_n 1, 1) := by decide +kernel
theorem dX5_renews_37 : decode cX5_renews 37 = .ok (.iload_n 2, 1) := by decide +kernel
theorem dX5_renews_38 : decode cX5_renews 38 = .ok (.invokestatic 261, 3) := by decide +kernel
theorem dX5_renews_41 : decode cX5_renews 41 = .ok (.pop, 1) := by decide +kernel
theorem dX5_renews_42 : decode cX5_renews 42 = .ok (.iconst 1, 1) := by decide +kernel
theorem dX5_renews_43 : decode cX5_renews 43 = .ok (.ireturn, 1) := by decide +kernel
theorem dX5_sets_0 : decode cX5_sets 0 = .ok (.iload_n 1, 1) := by decide +kernel
theorem dX5_sets_1 : decode cX5_sets 1 = .ok (.iload_n 2, 1) := by decide +kernel
theorem dX5_sets_2 : decode cX5_sets 2 = .ok (.invokestatic 182, 3) := by decide +kernel
theorem dX5_sets_5 : decode cX5_sets 5 = .ok (.ifCond .ne 5, 3) := by decide +kernel
theorem dX5_sets_8 : decode cX5_sets 8 = .ok (.iconst 0, 1) := by decide +kernel
theorem dX5_sets_9 : decode cX5_sets 9 = .ok (.ireturn, 1) := by decide +kernel
theorem dX5_sets_10 : decode cX5_sets 10 = .ok (.aload_n 0, 1) := by decide +kernel
theorem dX5_sets_11 : decode cX5_sets 11 = .ok (.getfield 22, 3) := by decide +kernel
theorem dX5_sets_14 : decode cX5_sets 14 = .ok (.bipush 7, 2) := by decide +kernel
theorem dX5_sets_16 : decode cX5_sets 16 = .ok (.iload_n 1, 1) := by decide +kernel
theorem dX5_sets_17 : decode cX5_sets 17 = .ok (.iadd, 1) := by decide +kernel
theorem dX5_sets_18 : decode cX5_sets 18 = .ok (.iload_n 2, 1) := by decide +kernel
theorem dX5_sets_19 : decode cX5_sets 19 = .ok (.iastore, 1) := by decide +kernel
theorem dX5_sets_20 : decode cX5_sets 20 = .ok (.iconst 1, 1) := by decide +kernel
theorem dX5_sets_21 : decode cX5_sets 21 = .ok (.ireturn, 1) := by decide +kernel
theorem dX5_plugs_0 : decode cX5_plugs 0 = .ok (.iload_n 1, 1) := by decide +kernel
theorem dX5_plugs_1 : decode cX5_plugs 1 = .ok (.invokestatic 254, 3) := by decide +kernel
theorem dX5_plugs_4 : decode cX5_plugs 4 = .ok (.ifCond .eq 13, 3) := by decide +kernel
theorem dX5_plugs_7 : decode cX5_plugs 7 = .ok (.aload_n 0, 1) := by decide +kernel
theorem dX5_plugs_8 : decode cX5_plugs 8 = .ok (.getfield 22, 3) := by decide +kernel
theorem dX5_plugs_11 : decode cX5_plugs 11 = .ok (.iconst 2, 1) := by decide +kernel
theorem dX5_plugs_12 : decode cX5_plugs 12 = .ok (.iaload, 1) := by decide +kernel
theorem dX5_plugs_13 : decode cX5_plugs 13 = .ok (.iconst 5, 1) := by decide +kernel
theorem dX5_plugs_14 : decode cX5_plugs 14 = .ok (.if_icmp .ne 5, 3) := by decide +kernel
theorem dX5_plugs_17 : decode cX5_plugs 17 = .ok (.iconst 0, 1) := by decide +kernel
theorem dX5_plugs_18 : decode cX5_plugs 18 = .ok (.ireturn, 1) := by decide +kernel
theorem dX5_plugs_19 : decode cX5_plugs 19 = .ok (.aload_n 0, 1) := by decide +kernel
theorem dX5_plugs_20 : decode cX5_plugs 20 = .ok (.getfield 22, 3) := by decide +kernel
theorem dX5_plugs_23 : decode cX5_plugs 23 = .ok (.iload_n 1, 1) := by decide +kernel
theorem dX5_plugs_24 : decode cX5_plugs 24 = .ok (.invokestatic 186, 3) := by decide +kernel
theorem dX5_plugs_27 : decode cX5_plugs 27 = .ok (.pop, 1) := by decide +kernel
theorem dX5_plugs_28 : decode cX5_plugs 28 = .ok (.iconst 1, 1) := by decide +kernel
theorem dX5_plugs_29 : decode cX5_plugs 29 = .ok (.ireturn, 1) := by decide +kernel
theorem dX5_wouldBeAt_0 : decode cX5_wouldBeAt 0 = .ok (.aload_n 0, 1) := by decide +kernel
theorem dX5_wouldBeAt_1 : decode cX5_wouldBeAt 1 = .ok (.getfield 22, 3) := by decide +kernel
theorem dX5_wouldBeAt_4 : decode cX5_wouldBeAt 4 = .ok (.iconst 0, 1) := by decide +kernel
theorem dX5_wouldBeAt_5 : decode cX5_wouldBeAt 5 = .ok (.aload_n 0, 1) := by decide +kernel
theorem dX5_wouldBeAt_6 : decode cX5_wouldBeAt 6 = .ok (.getfield 13, 3) := by decide +kernel
theorem dX5_wouldBeAt_9 : decode cX5_wouldBeAt 9 = .ok (.iconst 0, 1) := by decide +kernel
theorem dX5_wouldBeAt_10 : decode cX5_wouldBeAt 10 = .ok (.bipush 74, 2) := by decide +kernel
theorem dX5_wouldBeAt_12 : decode cX5_wouldBeAt 12 = .ok (.invokestatic 63, 3) := by decide +kernel
theorem dX5_wouldBeAt_15 : decode cX5_wouldBeAt 15 = .ok (.aload_n 0, 1) := by decide +kernel
theorem dX5_wouldBeAt_16 : decode cX5_wouldBeAt 16 = .ok (.getfield 13, 3) := by decide +kernel
theorem dX5_wouldBeAt_19 : decode cX5_wouldBeAt 19 = .ok (.invokestatic 104, 3) := by decide +kernel
theorem dX5_wouldBeAt_22 : decode cX5_wouldBeAt 22 = .ok (.aload_n 0, 1) := by decide +kernel
theorem dX5_wouldBeAt_23 : decode cX5_wouldBeAt 23 = .ok (.getfield 13, 3) := by decide +kernel
theorem dX5_wouldBeAt_26 : decode cX5_wouldBeAt 26 = .ok (.invokestatic 107, 3) := by decide +kernel
theorem dX5_wouldBeAt_29 : decode cX5_wouldBeAt 29 = .ok (.aload_n 0, 1) := by decide +kernel
theorem dX5_wouldBeAt_30 : decode cX5_wouldBeAt 30 = .ok (.aload_n 0, 1) := by decide +kernel
theorem dX5_wouldBeAt_31 : decode cX5_wouldBeAt 31 = .ok (.getfield 13, 3) := by decide +kernel
theorem dX5_wouldBeAt_34 : decode cX5_wouldBeAt 34 = .ok (.invokevirtual 110, 3) := by decide +kernel
theorem dX5_wouldBeAt_37 : decode cX5_wouldBeAt 37 = .ok (.aload_n 0, 1) := by decide +kernel
theorem dX5_wouldBeAt_38 : decode cX5_wouldBeAt 38 = .ok (.iload_n 1, 1) := by decide +kernel
theorem dX5_wouldBeAt_39 : decode cX5_wouldBeAt 39 = .ok (.invokevirtual 280, 3) := by decide +kernel
theorem dX5_wouldBeAt_42 : decode cX5_wouldBeAt 42 = .ok (.ifCond .eq 27, 3) := by decide +kernel
theorem dX5_wouldBeAt_45 : decode cX5_wouldBeAt 45 = .ok (.iload_n 2, 1) := by decide +kernel
theorem dX5_wouldBeAt_46 : decode cX5_wouldBeAt 46 = .ok (.aload_n 0, 1) := by decide +kernel
theorem dX5_wouldBeAt_47 : decode cX5_wouldBeAt 47 = .ok (.getfield 22, 3) := by decide +kernel
theorem dX5_wouldBeAt_50 : decode cX5_wouldBeAt 50 = .ok (.iconst 2, 1) := by decide +kernel
theorem dX5_wouldBeAt_51 : decode cX5_wouldBeAt 51 = .ok (.iaload, 1) := by decide +kernel
theorem dX5_wouldBeAt_52 : decode cX5_wouldBeAt 52 = .ok (.if_icmp .ge 17, 3) := by decide +kernel
theorem dX5_wouldBeAt_55 : decode cX5_wouldBeAt 55 = .ok (.aload_n 0, 1) := by decide +kernel
theorem dX5_wouldBeAt_56 : decode cX5_wouldBeAt 56 = .ok (.getfield 44, 3) := by decide +kernel
theorem dX5_wouldBeAt_59 : decode cX5_wouldBeAt 59 = .ok (.iload_n 1, 1) := by decide +kernel
theorem dX5_wouldBeAt_60 : decode cX5_wouldBeAt 60 = .ok (.iaload, 1) := by decide +kernel
theorem dX5_wouldBeAt_61 : decode cX5_wouldBeAt 61 = .ok (.iload_n 2, 1) := by decide +kernel
theorem dX5_wouldBeAt_62 : decode cX5_wouldBeAt 62 = .ok (.if_icmp .ne 7, 3) := by decide +kernel
theorem dX5_wouldBeAt_65 : decode cX5_wouldBeAt 65 = .ok (.iconst 1, 1) := by decide +kernel
theorem dX5_wouldBeAt_66 : decode cX5_wouldBeAt 66 = .ok (.goto 4, 3) := by decide +kernel
theorem dX5_wouldBeAt_69 : decode cX5_wouldBeAt 69 = .ok (.iconst 0, 1) := by decide +kernel
theorem dX5_wouldBeAt_70 : decode cX5_wouldBeAt 70 = .ok (.ireturn, 1) := by decide +kernel
theorem dX5_does_0 : decode cX5_does 0 = .ok (.iload_n 1, 1) := by decide +kernel
theorem dX5_does_1 : decode cX5_does 1 = .ok (.sipush 10000, 3) := by decide +kernel
theorem dX5_does_4 : decode cX5_does 4 = .ok (.idiv, 1) := by decide +kernel
theorem dX5_does_5 : decode cX5_does 5 = .ok (.istore_n 2, 1) := by decide +kernel
theorem dX5_does_6 : decode cX5_does 6 = .ok (.iload_n 1, 1) := by decide +kernel
theorem dX5_does_7 : decode cX5_does 7 = .ok (.sipush 1000, 3) := by decide +kernel
theorem dX5_does_10 : decode cX5_does 10 = .ok (.idiv, 1) := by decide +kernel
theorem dX5_does_11 : decode cX5_does 11 = .ok (.bipush 10, 2) := by decide +kernel
theorem dX5_does_13 : decode cX5_does 13 = .ok (.irem, 1) := by decide +kernel
theorem dX5_does_14 : decode cX5_does 14 = .ok (.istore_n 3, 1) := by decide +kernel
theorem dX5_does_15 : decode cX5_does 15 = .ok (.iload_n 1, 1) := by decide +kernel
theorem dX5_does_16 : decode cX5_does 16 = .ok (.sipush 1000, 3) := by decide +kernel
theorem dX5_does_19 : decode cX5_does 19 = .ok (.irem, 1) := by decide +kernel
theorem dX5_does_20 : decode cX5_does 20 = .ok (.istore 4, 2) := by decide +kernel
theorem dX5_does_22 : decode cX5_does 22 = .ok (.iload_n 1, 1) := by decide +kernel
theorem dX5_does_23 : decode cX5_does 23 = .ok (.sipush 10000, 3) := by decide +kernel
theorem dX5_does_26 : decode cX5_does 26 = .ok (.irem, 1) := by decide +kernel
theorem dX5_does_27 : decode cX5_does 27 = .ok (.bipush 100, 2) := by decide +kernel
theorem dX5_does_29 : decode cX5_does 29 = .ok (.if_icmp .ge 7, 3) := by decide +kernel
theorem dX5_does_32 : decode cX5_does 32 = .ok (.iconst 1, 1) := by decide +kernel
theorem dX5_does_33 : decode cX5_does 33 = .ok (.goto 4, 3) := by decide +kernel
theorem dX5_does_36 : decode cX5_does 36 = .ok (.iconst 0, 1) := by decide +kernel
theorem dX5_does_37 : decode cX5_does 37 = .ok (.istore 5, 2) := by decide +kernel
theorem dX5_does_39 : decode cX5_does 39 = .ok (.iload_n 2, 1) := by decide +kernel
theorem dX5_does_40 : decode cX5_does 40 = .ok (.tableswitch 249 1 9 #[52, 72, 80, 88, 108, 137, 171, 193, 226], 52) := by decide +kernel
theorem dX5_does_92 : decode cX5_does 92 = .ok (.iload 5, 2) := by decide +kernel
theorem dX5_does_94 : decode cX5_does 94 = .ok (.ifCond .eq 16, 3) := by decide +kernel
theorem dX5_does_97 : decode cX5_does 97 = .ok (.aload_n 0, 1) := by decide +kernel
theorem dX5_does_98 : decode cX5_does 98 = .ok (.iload 4, 2) := by decide +kernel
theorem dX5_does_100 : decode cX5_does 100 = .ok (.invokevirtual 283, 3) := by decide +kernel
theorem dX5_does_103 : decode cX5_does 103 = .ok (.ifCond .eq 7, 3) := by decide +kernel
theorem dX5_does_106 : decode cX5_does 106 = .ok (.iconst 1, 1) := by decide +kernel
theorem dX5_does_107 : decode cX5_does 107 = .ok (.goto 4, 3) := by decide +kernel
theorem dX5_does_110 : decode cX5_does 110 = .ok (.iconst 0, 1) := by decide +kernel
theorem dX5_does_111 : decode cX5_does 111 = .ok (.ireturn, 1) := by decide +kernel
theorem dX5_does_112 : decode cX5_does 112 = .ok (.aload_n 0, 1) := by decide +kernel
theorem dX5_does_113 : decode cX5_does 113 = .ok (.iload_n 3, 1) := by decide +kernel
theorem dX5_does_114 : decode cX5_does 114 = .ok (.iload 4, 2) := by decide +kernel
theorem dX5_does_116 : decode cX5_does 116 = .ok (.invokevirtual 286, 3) := by decide +kernel
theorem dX5_does_119 : decode cX5_does 119 = .ok (.ireturn, 1) := by decide +kernel
theorem dX5_does_120 : decode cX5_does 120 = .ok (.aload_n 0, 1) := by decide +kernel
theorem dX5_does_121 : decode cX5_does 121 = .ok (.iload_n 3, 1) := by decide +kernel
theorem dX5_does_122 : decode cX5_does 122 = .ok (.iload 4, 2) := by decide +kernel
theorem dX5_does_124 : decode cX5_does 124 = .ok (.invokevirtual 289, 3) := by decide +kernel
theorem dX5_does_127 : decode cX5_does 127 = .ok (.ireturn, 1) := by decide +kernel
theorem dX5_does_128 : decode cX5_does 128 = .ok (.iload 5, 2) := by decide +kernel
theorem dX5_does_130 : decode cX5_does 130 = .ok (.ifCond .eq 16, 3) := by decide +kernel
theorem dX5_does_133 : decode cX5_does 133 = .ok (.aload_n 0, 1) := by decide +kernel
theorem dX5_does_134 : decode cX5_does 134 = .ok (.iload 4, 2) := by decide +kernel
theorem dX5_does_136 : decode cX5_does 136 = .ok (.invokevirtual 292, 3) := by decide +kernel
theorem dX5_does_139 : decode cX5_does 139 = .ok (.ifCond .eq 7, 3) := by decide +kernel
theorem dX5_does_142 : decode cX5_does 142 = .ok (.iconst 1, 1) := by decide +kernel
theorem dX5_does_143 : decode cX5_does 143 = .ok (.goto 4, 3) := by decide +kernel
theorem dX5_does_146 : decode cX5_does 146 = .ok (.iconst 0, 1) := by decide +kernel
theorem dX5_does_147 : decode cX5_does 147 = .ok (.ireturn, 1) := by decide +kernel
theorem dX5_does_148 : decode cX5_does 148 = .ok (.aload_n 0, 1) := by decide +kernel
theorem dX5_does_149 : decode cX5_does 149 = .ok (.iload_n 3, 1) := by decide +kernel
theorem dX5_does_150 : decode cX5_does 150 = .ok (.invokevirtual 280, 3) := by decide +kernel
theorem dX5_does_153 : decode cX5_does 153 = .ok (.ifCond .eq 22, 3) := by decide +kernel
theorem dX5_does_156 : decode cX5_does 156 = .ok (.aload_n 0, 1) := by decide +kernel
theorem dX5_does_157 : decode cX5_does 157 = .ok (.getfield 22, 3) := by decide +kernel
theorem dX5_does_160 : decode cX5_does 160 = .ok (.iload_n 3, 1) := by decide +kernel
theorem dX5_does_161 : decode cX5_does 161 = .ok (.iconst 1, 1) := by decide +kernel
theorem dX5_does_162 : decode cX5_does 162 = .ok (.invokestatic 67, 3) := by decide +kernel
theorem dX5_does_165 : decode cX5_does 165 = .ok (.iaload, 1) := by decide +kernel
theorem dX5_does_166 : decode cX5_does 166 = .ok (.iload 4, 2) := by decide +kernel
theorem dX5_does_168 : decode cX5_does 168 = .ok (.if_icmp .lt 7, 3) := by decide +kernel
theorem dX5_does_171 : decode cX5_does 171 = .ok (.iconst 1, 1) := by decide +kernel
theorem dX5_does_172 : decode cX5_does 172 = .ok (.goto 4, 3) := by decide +kernel
theorem dX5_does_175 : decode cX5_does 175 = .ok (.iconst 0, 1) := by decide +kernel
theorem dX5_does_176 : decode cX5_does 176 = .ok (.ireturn, 1) := by decide +kernel
theorem dX5_does_177 : decode cX5_does 177 = .ok (.iload 4, 2) := by decide +kernel
theorem dX5_does_179 : decode cX5_does 179 = .ok (.ifCond .ne 30, 3) := by decide +kernel
theorem dX5_does_182 : decode cX5_does 182 = .ok (.aload_n 0, 1) := by decide +kernel
theorem dX5_does_183 : decode cX5_does 183 = .ok (.iload_n 3, 1) := by decide +kernel
theorem dX5_does_184 : decode cX5_does 184 = .ok (.invokevirtual 280, 3) := by decide +kernel
theorem dX5_does_187 : decode cX5_does 187 = .ok (.ifCond .eq 22, 3) := by decide +kernel
theorem dX5_does_190 : decode cX5_does 190 = .ok (.aload_n 0, 1) := by decide +kernel
theorem dX5_does_191 : decode cX5_does 191 = .ok (.getfield 22, 3) := by decide +kernel
theorem dX5_does_194 : decode cX5_does 194 = .ok (.iload_n 3, 1) := by decide +kernel
theorem dX5_does_195 : decode cX5_does 195 = .ok (.bipush 6, 2) := by decide +kernel
theorem dX5_does_197 : decode cX5_does 197 = .ok (.invokestatic 67, 3) := by decide +kernel
theorem dX5_does_200 : decode cX5_does 200 = .ok (.iaload, 1) := by decide +kernel
theorem dX5_does_201 : decode cX5_does 201 = .ok (.iconst 1, 1) := by decide +kernel
theorem dX5_does_202 : decode cX5_does 202 = .ok (.if_icmp .ne 7, 3) := by decide +kernel
theorem dX5_does_205 : decode cX5_does 205 = .ok (.iconst 1, 1) := by decide +kernel
theorem dX5_does_206 : decode cX5_does 206 = .ok (.goto 4, 3) := by decide +kernel
theorem dX5_does_209 : decode cX5_does 209 = .ok (.iconst 0, 1) := by decide +kernel
theorem dX5_does_210 : decode cX5_does 210 = .ok (.ireturn, 1) := by decide +kernel
theorem dX5_does_211 : decode cX5_does 211 = .ok (.iload 5, 2) := by decide +kernel
theorem dX5_does_213 : decode cX5_does 213 = .ok (.ifCond .eq 18, 3) := by decide +kernel
theorem dX5_does_216 : decode cX5_does 216 = .ok (.aload_n 0, 1) := by decide +kernel
theorem dX5_does_217 : decode cX5_does 217 = .ok (.getfield 22, 3) := by decide +kernel
theorem dX5_does_220 : decode cX5_does 220 = .ok (.iconst 5, 1) := by decide +kernel
theorem dX5_does_221 : decode cX5_does 221 = .ok (.iaload, 1) := by decide +kernel
theorem dX5_does_222 : decode cX5_does 222 = .ok (.iload 4, 2) := by decide +kernel
theorem dX5_does_224 : decode cX5_does 224 = .ok (.if_icmp .gt 7, 3) := by decide +kernel
theorem dX5_does_227 : decode cX5_does 227 = .ok (.iconst 1, 1) := by decide +kernel
theorem dX5_does_228 : decode cX5_does 228 = .ok (.goto 4, 3) := by decide +kernel
theorem dX5_does_231 : decode cX5_does 231 = .ok (.iconst 0, 1) := by decide +kernel
theorem dX5_does_232 : decode cX5_does 232 = .ok (.ireturn, 1) := by decide +kernel
theorem dX5_does_233 : decode cX5_does 233 = .ok (.iload 4, 2) := by decide +kernel
theorem dX5_does_235 : decode cX5_does 235 = .ok (.bipush 100, 2) := by decide +kernel
theorem dX5_does_237 : decode cX5_does 237 = .ok (.irem, 1) := by decide +kernel
theorem dX5_does_238 : decode cX5_does 238 = .ok (.ifCond .ne 26, 3) := by decide +kernel
theorem dX5_does_241 : decode cX5_does 241 = .ok (.iload_n 3, 1) := by decide +kernel
theorem dX5_does_242 : decode cX5_does 242 = .ok (.bipush 8, 2) := by decide +kernel
theorem dX5_does_244 : decode cX5_does 244 = .ok (.if_icmp .ge 20, 3) := by decide +kernel
theorem dX5_does_247 : decode cX5_does 247 = .ok (.aload_n 0, 1) := by decide +kernel
theorem dX5_does_248 : decode cX5_does 248 = .ok (.iload_n 3, 1) := by decide +kernel
theorem dX5_does_249 : decode cX5_does 249 = .ok (.iload 4, 2) := by decide +kernel
theorem dX5_does_251 : decode cX5_does 251 = .ok (.bipush 100, 2) := by decide +kernel
theorem dX5_does_253 : decode cX5_does 253 = .ok (.idiv, 1) := by decide +kernel
theorem dX5_does_254 : decode cX5_does 254 = .ok (.invokevirtual 295, 3) := by decide +kernel
theorem dX5_does_257 : decode cX5_does 257 = .ok (.ifCond .eq 7, 3) := by decide +kernel
theorem dX5_does_260 : decode cX5_does 260 = .ok (.iconst 1, 1) := by decide +kernel
theorem dX5_does_261 : decode cX5_does 261 = .ok (.goto 4, 3) := by decide +kernel
theorem dX5_does_264 : decode cX5_does 264 = .ok (.iconst 0, 1) := by decide +kernel
theorem dX5_does_265 : decode cX5_does 265 = .ok (.ireturn, 1) := by decide +kernel
theorem dX5_does_266 : decode cX5_does 266 = .ok (.iload 5, 2) := by decide +kernel
theorem dX5_does_268 : decode cX5_does 268 = .ok (.ifCond .eq 19, 3) := by decide +kernel
theorem dX5_does_271 : decode cX5_does 271 = .ok (.aload_n 0, 1) := by decide +kernel
theorem dX5_does_272 : decode cX5_does 272 = .ok (.getfield 22, 3) := by decide +kernel
theorem dX5_does_275 : decode cX5_does 275 = .ok (.bipush 6, 2) := by decide +kernel
theorem dX5_does_277 : decode cX5_does 277 = .ok (.iaload, 1) := by decide +kernel
theorem dX5_does_278 : decode cX5_does 278 = .ok (.iload 4, 2) := by decide +kernel
theorem dX5_does_280 : decode cX5_does 280 = .ok (.if_icmp .lt 7, 3) := by decide +kernel
theorem dX5_does_283 : decode cX5_does 283 = .ok (.iconst 1, 1) := by decide +kernel
theorem dX5_does_284 : decode cX5_does 284 = .ok (.goto 4, 3) := by decide +kernel
theorem dX5_does_287 : decode cX5_does 287 = .ok (.iconst 0, 1) := by decide +kernel
theorem dX5_does_288 : decode cX5_does 288 = .ok (.ireturn, 1) := by decide +kernel
theorem dX5_does_289 : decode cX5_does 289 = .ok (.iconst 0, 1) := by decide +kernel
theorem dX5_does_290 : decode cX5_does 290 = .ok (.ireturn, 1) := by decide +kernel
theorem dX5_runScript_0 : decode cX5_runScript 0 = .ok (.iload_n 1, 1) := by decide +kernel
theorem dX5_runScript_1 : decode cX5_runScript 1 = .ok (.i2l, 1) := by decide +kernel
theorem dX5_runScript_2 : decode cX5_runScript 2 = .ok (.lconst 1, 1) := by decide +kernel
theorem dX5_runScript_3 : decode cX5_runScript 3 = .ok (.ldc2_w 275, 3) := by decide +kernel
theorem dX5_runScript_6 : decode cX5_runScript 6 = .ok (.invokestatic 118, 3) := by decide +kernel
theorem dX5_runScript_9 : decode cX5_runScript 9 = .ok (.istore 4, 2) := by decide +kernel
theorem dX5_runScript_11 : decode cX5_runScript 11 = .ok (.aload_n 0, 1) := by decide +kernel
theorem dX5_runScript_12 : decode cX5_runScript 12 = .ok (.iload 4, 2) := by decide +kernel
theorem dX5_runScript_14 : decode cX5_runScript 14 = .ok (.ifCond .eq 32, 3) := by decide +kernel
theorem dX5_runScript_17 : decode cX5_runScript 17 = .ok (.lload_n 2, 1) := by decide +kernel
theorem dX5_runScript_18 : decode cX5_runScript 18 = .ok (.lconst 0, 1) := by decide +kernel
theorem dX5_runScript_19 : decode cX5_runScript 19 = .ok (.iload 4, 2) := by decide +kernel
theorem dX5_runScript_21 : decode cX5_runScript 21 = .ok (.ifCond .eq 9, 3) := by decide +kernel
theorem dX5_runScript_24 : decode cX5_runScript 24 = .ok (.iconst 5, 1) := by decide +kernel
theorem dX5_runScript_25 : decode cX5_runScript 25 = .ok (.iload_n 1, 1) := by decide +kernel
theorem dX5_runScript_26 : decode cX5_runScript 26 = .ok (.imul, 1) := by decide +kernel
theorem dX5_runScript_27 : decode cX5_runScript 27 = .ok (.goto 4, 3) := by decide +kernel
theorem dX5_runScript_30 : decode cX5_runScript 30 = .ok (.iconst 0, 1) := by decide +kernel
theorem dX5_runScript_31 : decode cX5_runScript 31 = .ok (.invokestatic 232, 3) := by decide +kernel
theorem dX5_runScript_34 : decode cX5_runScript 34 = .ok (.lconst 1, 1) := by decide +kernel
theorem dX5_runScript_35 : decode cX5_runScript 35 = .ok (.lsub, 1) := by decide +kernel
theorem dX5_runScript_36 : decode cX5_runScript 36 = .ok (.invokestatic 118, 3) := by decide +kernel
theorem dX5_runScript_39 : decode cX5_runScript 39 = .ok (.ifCond .eq 7, 3) := by decide +kernel
theorem dX5_runScript_42 : decode cX5_runScript 42 = .ok (.iconst 0, 1) := by decide +kernel
theorem dX5_runScript_43 : decode cX5_runScript 43 = .ok (.goto 4, 3) := by decide +kernel
theorem dX5_runScript_46 : decode cX5_runScript 46 = .ok (.iconst 1, 1) := by decide +kernel
theorem dX5_runScript_47 : decode cX5_runScript 47 = .ok (.invokevirtual 137, 3) := by decide +kernel
theorem dX5_runScript_50 : decode cX5_runScript 50 = .ok (.ifCond .eq 5, 3) := by decide +kernel
theorem dX5_runScript_53 : decode cX5_runScript 53 = .ok (.iconst 0, 1) := by decide +kernel
theorem dX5_runScript_54 : decode cX5_runScript 54 = .ok (.ireturn, 1) := by decide +kernel
theorem dX5_runScript_55 : decode cX5_runScript 55 = .ok (.aload_n 0, 1) := by decide +kernel
theorem dX5_runScript_56 : decode cX5_runScript 56 = .ok (.invokevirtual 215, 3) := by decide +kernel
theorem dX5_runScript_59 : decode cX5_runScript 59 = .ok (.iconst 0, 1) := by decide +kernel
theorem dX5_runScript_60 : decode cX5_runScript 60 = .ok (.istore 5, 2) := by decide +kernel
theorem dX5_runScript_62 : decode cX5_runScript 62 = .ok (.iload 5, 2) := by decide +kernel
theorem dX5_runScript_64 : decode cX5_runScript 64 = .ok (.iload_n 1, 1) := by decide +kernel
theorem dX5_runScript_65 : decode cX5_runScript 65 = .ok (.if_icmp .ge 37, 3) := by decide +kernel
theorem dX5_runScript_68 : decode cX5_runScript 68 = .ok (.aload_n 0, 1) := by decide +kernel
theorem dX5_runScript_69 : decode cX5_runScript 69 = .ok (.lload_n 2, 1) := by decide +kernel
theorem dX5_runScript_70 : decode cX5_runScript 70 = .ok (.iconst 5, 1) := by decide +kernel
theorem dX5_runScript_71 : decode cX5_runScript 71 = .ok (.iload_n 1, 1) := by decide +kernel
theorem dX5_runScript_72 : decode cX5_runScript 72 = .ok (.iconst 1, 1) := by decide +kernel
theorem dX5_runScript_73 : decode cX5_runScript 73 = .ok (.isub, 1) := by decide +kernel
theorem dX5_runScript_74 : decode cX5_runScript 74 = .ok (.iload 5, 2) := by decide +kernel
theorem dX5_runScript_76 : decode cX5_runScript 76 = .ok (.isub, 1) := by decide +kernel
theorem dX5_runScript_77 : decode cX5_runScript 77 = .ok (.imul, 1) := by decide +kernel
theorem dX5_runScript_78 : decode cX5_runScript 78 = .ok (.invokestatic 232, 3) := by decide +kernel
theorem dX5_runScript_81 : decode cX5_runScript 81 = .ok (.ldiv, 1) := by decide +kernel
theorem dX5_runScript_82 : decode cX5_runScript 82 = .ok (.ldc2_w 298, 3) := by decide +kernel
theorem dX5_runScript_85 : decode cX5_runScript 85 = .ok (.lrem, 1) := by decide +kernel
theorem dX5_runScript_86 : decode cX5_runScript 86 = .ok (.l2i, 1) := by decide +kernel
theorem dX5_runScript_87 : decode cX5_runScript 87 = .ok (.invokevirtual 300, 3) := by decide +kernel
theorem dX5_runScript_90 : decode cX5_runScript 90 = .ok (.ifCond .ne 6, 3) := by decide +kernel
theorem dX5_runScript_93 : decode cX5_runScript 93 = .ok (.iload 5, 2) := by decide +kernel
theorem dX5_runScript_95 : decode cX5_runScript 95 = .ok (.ireturn, 1) := by decide +kernel
theorem dX5_runScript_96 : decode cX5_runScript 96 = .ok (.iinc 5 1, 3) := by decide +kernel
theorem dX5_runScript_99 : decode cX5_runScript 99 = .ok (.goto (-37), 3) := by decide +kernel
theorem dX5_runScript_102 : decode cX5_runScript 102 = .ok (.iconst (-1), 1) := by decide +kernel
theorem dX5_runScript_103 : decode cX5_runScript 103 = .ok (.ireturn, 1) := by decide +kernel
theorem dX5_stir_0 : decode cX5_stir 0 = .ok (.iload_n 1, 1) := by decide +kernel
theorem dX5_stir_1 : decode cX5_stir 1 = .ok (.bipush 8, 2) := by decide +kernel
theorem dX5_stir_3 : decode cX5_stir 3 = .ok (.idiv, 1) := by decide +kernel
theorem dX5_stir_4 : decode cX5_stir 4 = .ok (.bipush 8, 2) := by decide +kernel
theorem dX5_stir_6 : decode cX5_stir 6 = .ok (.irem, 1) := by decide +kernel
theorem dX5_stir_7 : decode cX5_stir 7 = .ok (.istore_n 2, 1) := by decide +kernel
theorem dX5_stir_8 : decode cX5_stir 8 = .ok (.iload_n 1, 1) := by decide +kernel
theorem dX5_stir_9 : decode cX5_stir 9 = .ok (.bipush 8, 2) := by decide +kernel
theorem dX5_stir_11 : decode cX5_stir 11 = .ok (.irem, 1) := by decide +kernel
theorem dX5_stir_12 : decode cX5_stir 12 = .ok (.istore_n 3, 1) := by decide +kernel
theorem dX5_stir_13 : decode cX5_stir 13 = .ok (.iload_n 3, 1) := by decide +kernel
theorem dX5_stir_14 : decode cX5_stir 14 = .ok (.ifCond .ne 86, 3) := by decide +kernel
theorem dX5_stir_17 : decode cX5_stir 17 = .ok (.iconst 1, 1) := by decide +kernel
theorem dX5_stir_18 : decode cX5_stir 18 = .ok (.iload_n 1, 1) := by decide +kernel
theorem dX5_stir_19 : decode cX5_stir 19 = .ok (.bipush 64, 2) := by decide +kernel
theorem dX5_stir_21 : decode cX5_stir 21 = .ok (.idiv, 1) := by decide +kernel
theorem dX5_stir_22 : decode cX5_stir 22 = .ok (.bipush 99, 2) := by decide +kernel
theorem dX5_stir_24 : decode cX5_stir 24 = .ok (.irem, 1) := by decide +kernel
theorem dX5_stir_25 : decode cX5_stir 25 = .ok (.iadd, 1) := by decide +kernel
theorem dX5_stir_26 : decode cX5_stir 26 = .ok (.istore 4, 2) := by decide +kernel
theorem dX5_stir_28 : decode cX5_stir 28 = .ok (.iload_n 1, 1) := by decide +kernel
theorem dX5_stir_29 : decode cX5_stir 29 = .ok (.sipush 8192, 3) := by decide +kernel
theorem dX5_stir_32 : decode cX5_stir 32 = .ok (.idiv, 1) := by decide +kernel
theorem dX5_stir_33 : decode cX5_stir 33 = .ok (.bipush 24, 2) := by decide +kernel
theorem dX5_stir_35 : decode cX5_stir 35 = .ok (.irem, 1) := by decide +kernel
theorem dX5_stir_36 : decode cX5_stir 36 = .ok (.istore 5, 2) := by decide +kernel
theorem dX5_stir_38 : decode cX5_stir 38 = .ok (.iload_n 1, 1) := by decide +kernel
theorem dX5_stir_39 : decode cX5_stir 39 = .ok (.ldc_w 303, 3) := by decide +kernel
theorem dX5_stir_42 : decode cX5_stir 42 = .ok (.idiv, 1) := by decide +kernel
theorem dX5_stir_43 : decode cX5_stir 43 = .ok (.bipush 24, 2) := by decide +kernel
theorem dX5_stir_45 : decode cX5_stir 45 = .ok (.irem, 1) := by decide +kernel
theorem dX5_stir_46 : decode cX5_stir 46 = .ok (.istore 6, 2) := by decide +kernel
theorem dX5_stir_48 : decode cX5_stir 48 = .ok (.aload_n 0, 1) := by decide +kernel
theorem dX5_stir_49 : decode cX5_stir 49 = .ok (.iload_n 2, 1) := by decide +kernel
theorem dX5_stir_50 : decode cX5_stir 50 = .ok (.invokevirtual 280, 3) := by decide +kernel
theorem dX5_stir_53 : decode cX5_stir 53 = .ok (.ifCond .eq 44, 3) := by decide +kernel
theorem dX5_stir_56 : decode cX5_stir 56 = .ok (.iload 4, 2) := by decide +kernel
theorem dX5_stir_58 : decode cX5_stir 58 = .ok (.iload 5, 2) := by decide +kernel
theorem dX5_stir_60 : decode cX5_stir 60 = .ok (.iload 6, 2) := by decide +kernel
theorem dX5_stir_62 : decode cX5_stir 62 = .ok (.invokestatic 248, 3) := by decide +kernel
theorem dX5_stir_65 : decode cX5_stir 65 = .ok (.ifCond .eq 32, 3) := by decide +kernel
theorem dX5_stir_68 : decode cX5_stir 68 = .ok (.aload_n 0, 1) := by decide +kernel
theorem dX5_stir_69 : decode cX5_stir 69 = .ok (.getfield 22, 3) := by decide +kernel
theorem dX5_stir_72 : decode cX5_stir 72 = .ok (.iload_n 2, 1) := by decide +kernel
theorem dX5_stir_73 : decode cX5_stir 73 = .ok (.bipush 6, 2) := by decide +kernel
theorem dX5_stir_75 : decode cX5_stir 75 = .ok (.invokestatic 67, 3) := by decide +kernel
theorem dX5_stir_78 : decode cX5_stir 78 = .ok (.iaload, 1) := by decide +kernel
theorem dX5_stir_79 : decode cX5_stir 79 = .ok (.ifCond .ne 18, 3) := by decide +kernel
theorem dX5_stir_82 : decode cX5_stir 82 = .ok (.aload_n 0, 1) := by decide +kernel
theorem dX5_stir_83 : decode cX5_stir 83 = .ok (.getfield 22, 3) := by decide +kernel
theorem dX5_stir_86 : decode cX5_stir 86 = .ok (.iload_n 2, 1) := by decide +kernel
theorem dX5_stir_87 : decode cX5_stir 87 = .ok (.iload 4, 2) := by decide +kernel
theorem dX5_stir_89 : decode cX5_stir 89 = .ok (.iload 5, 2) := by decide +kernel
theorem dX5_stir_91 : decode cX5_stir 91 = .ok (.iload 6, 2) := by decide +kernel
theorem dX5_stir_93 : decode cX5_stir 93 = .ok (.invokestatic 257, 3) := by decide +kernel
theorem dX5_stir_96 : decode cX5_stir 96 = .ok (.pop, 1) := by decide +kernel
theorem dX5_stir_97 : decode cX5_stir 97 = .ok (.goto 69, 3) := by decide +kernel
theorem dX5_stir_100 : decode cX5_stir 100 = .ok (.iload_n 3, 1) := by decide +kernel
theorem dX5_stir_101 : decode cX5_stir 101 = .ok (.iconst 1, 1) := by decide +kernel
theorem dX5_stir_102 : decode cX5_stir 102 = .ok (.if_icmp .ne 23, 3) := by decide +kernel
theorem dX5_stir_105 : decode cX5_stir 105 = .ok (.aload_n 0, 1) := by decide +kernel
theorem dX5_stir_106 : decode cX5_stir 106 = .ok (.iload_n 2, 1) := by decide +kernel
theorem dX5_stir_107 : decode cX5_stir 107 = .ok (.bipush 10, 2) := by decide +kernel
theorem dX5_stir_109 : decode cX5_stir 109 = .ok (.iload_n 1, 1) := by decide +kernel
theorem dX5_stir_110 : decode cX5_stir 110 = .ok (.bipush 64, 2) := by decide +kernel
theorem dX5_stir_112 : decode cX5_stir 112 = .ok (.idiv, 1) := by decide +kernel
theorem dX5_stir_113 : decode cX5_stir 113 = .ok (.sipush 200, 3) := by decide +kernel
theorem dX5_stir_116 : decode cX5_stir 116 = .ok (.irem, 1) := by decide +kernel
theorem dX5_stir_117 : decode cX5_stir 117 = .ok (.iadd, 1) := by decide +kernel
theorem dX5_stir_118 : decode cX5_stir 118 = .ok (.invokevirtual 286, 3) := by decide +kernel
theorem dX5_stir_121 : decode cX5_stir 121 = .ok (.pop, 1) := by decide +kernel
theorem dX5_stir_122 : decode cX5_stir 122 = .ok (.goto 44, 3) := by decide +kernel
theorem dX5_stir_125 : decode cX5_stir 125 = .ok (.iload_n 3, 1) := by decide +kernel
theorem dX5_stir_126 : decode cX5_stir 126 = .ok (.iconst 2, 1) := by decide +kernel
theorem dX5_stir_127 : decode cX5_stir 127 = .ok (.if_icmp .ne 21, 3) := by decide +kernel
theorem dX5_stir_130 : decode cX5_stir 130 = .ok (.aload_n 0, 1) := by decide +kernel
theorem dX5_stir_131 : decode cX5_stir 131 = .ok (.getfield 22, 3) := by decide +kernel
theorem dX5_stir_134 : decode cX5_stir 134 = .ok (.bipush 7, 2) := by decide +kernel
theorem dX5_stir_136 : decode cX5_stir 136 = .ok (.iload_n 1, 1) := by decide +kernel
theorem dX5_stir_137 : decode cX5_stir 137 = .ok (.bipush 64, 2) := by decide +kernel
theorem dX5_stir_139 : decode cX5_stir 139 = .ok (.idiv, 1) := by decide +kernel
theorem dX5_stir_140 : decode cX5_stir 140 = .ok (.sipush 251, 3) := by decide +kernel
theorem dX5_stir_143 : decode cX5_stir 143 = .ok (.irem, 1) := by decide +kernel
theorem dX5_stir_144 : decode cX5_stir 144 = .ok (.iastore, 1) := by decide +kernel
theorem dX5_stir_145 : decode cX5_stir 145 = .ok (.goto 21, 3) := by decide +kernel
theorem dX5_stir_148 : decode cX5_stir 148 = .ok (.aload_n 0, 1) := by decide +kernel
theorem dX5_stir_149 : decode cX5_stir 149 = .ok (.aload_n 0, 1) := by decide +kernel
theorem dX5_stir_150 : decode cX5_stir 150 = .ok (.getfield 22, 3) := by decide +kernel
theorem dX5_stir_153 : decode cX5_stir 153 = .ok (.iconst 1, 1) := by decide +kernel
theorem dX5_stir_154 : decode cX5_stir 154 = .ok (.iload_n 1, 1) := by decide +kernel
theorem dX5_stir_155 : decode cX5_stir 155 = .ok (.bipush 8, 2) := by decide +kernel
theorem dX5_stir_157 : decode cX5_stir 157 = .ok (.idiv, 1) := by decide +kernel
theorem dX5_stir_158 : decode cX5_stir 158 = .ok (.bipush 9, 2) := by decide +kernel
theorem dX5_stir_160 : decode cX5_stir 160 = .ok (.irem, 1) := by decide +kernel
theorem dX5_stir_161 : decode cX5_stir 161 = .ok (.iadd, 1) := by decide +kernel
theorem dX5_stir_162 : decode cX5_stir 162 = .ok (.invokevirtual 189, 3) := by decide +kernel
theorem dX5_stir_165 : decode cX5_stir 165 = .ok (.pop, 1) := by decide +kernel
theorem dX5_stir_166 : decode cX5_stir 166 = .ok (.return_, 1) := by decide +kernel
theorem dX5_simulate_0 : decode cX5_simulate 0 = .ok (.aload_n 0, 1) := by decide +kernel
theorem dX5_simulate_1 : decode cX5_simulate 1 = .ok (.iload_n 3, 1) := by decide +kernel
theorem dX5_simulate_2 : decode cX5_simulate 2 = .ok (.i2l, 1) := by decide +kernel
theorem dX5_simulate_3 : decode cX5_simulate 3 = .ok (.lconst 1, 1) := by decide +kernel
theorem dX5_simulate_4 : decode cX5_simulate 4 = .ok (.ldc2_w 304, 3) := by decide +kernel
theorem dX5_simulate_7 : decode cX5_simulate 7 = .ok (.invokestatic 118, 3) := by decide +kernel
theorem dX5_simulate_10 : decode cX5_simulate 10 = .ok (.ifCond .eq 7, 3) := by decide +kernel
theorem dX5_simulate_13 : decode cX5_simulate 13 = .ok (.iconst 0, 1) := by decide +kernel
theorem dX5_simulate_14 : decode cX5_simulate 14 = .ok (.goto 4, 3) := by decide +kernel
theorem dX5_simulate_17 : decode cX5_simulate 17 = .ok (.iconst 1, 1) := by decide +kernel
theorem dX5_simulate_18 : decode cX5_simulate 18 = .ok (.invokevirtual 137, 3) := by decide +kernel
theorem dX5_simulate_21 : decode cX5_simulate 21 = .ok (.ifCond .eq 5, 3) := by decide +kernel
theorem dX5_simulate_24 : decode cX5_simulate 24 = .ok (.iconst 0, 1) := by decide +kernel
theorem dX5_simulate_25 : decode cX5_simulate 25 = .ok (.ireturn, 1) := by decide +kernel
theorem dX5_simulate_26 : decode cX5_simulate 26 = .ok (.aload_n 0, 1) := by decide +kernel
theorem dX5_simulate_27 : decode cX5_simulate 27 = .ok (.invokevirtual 215, 3) := by decide +kernel
theorem dX5_simulate_30 : decode cX5_simulate 30 = .ok (.lload_n 1, 1) := by decide +kernel
theorem dX5_simulate_31 : decode cX5_simulate 31 = .ok (.lstore 4, 2) := by decide +kernel
theorem dX5_simulate_33 : decode cX5_simulate 33 = .ok (.iconst 0, 1) := by decide +kernel
theorem dX5_simulate_34 : decode cX5_simulate 34 = .ok (.istore 6, 2) := by decide +kernel
theorem dX5_simulate_36 : decode cX5_simulate 36 = .ok (.iload 6, 2) := by decide +kernel
theorem dX5_simulate_38 : decode cX5_simulate 38 = .ok (.iload_n 3, 1) := by decide +kernel
theorem dX5_simulate_39 : decode cX5_simulate 39 = .ok (.if_icmp .ge 31, 3) := by decide +kernel
theorem dX5_simulate_42 : decode cX5_simulate 42 = .ok (.lload 4, 2) := by decide +kernel
theorem dX5_simulate_44 : decode cX5_simulate 44 = .ok (.ldc2_w 306, 3) := by decide +kernel
theorem dX5_simulate_47 : decode cX5_simulate 47 = .ok (.lmul, 1) := by decide +kernel
theorem dX5_simulate_48 : decode cX5_simulate 48 = .ok (.ldc2_w 308, 3) := by decide +kernel
theorem dX5_simulate_51 : decode cX5_simulate 51 = .ok (.ladd, 1) := by decide +kernel
theorem dX5_simulate_52 : decode cX5_simulate 52 = .ok (.lstore 4, 2) := by decide +kernel
theorem dX5_simulate_54 : decode cX5_simulate 54 = .ok (.aload_n 0, 1) := by decide +kernel
theorem dX5_simulate_55 : decode cX5_simulate 55 = .ok (.lload 4, 2) := by decide +kernel
theorem dX5_simulate_57 : decode cX5_simulate 57 = .ok (.bipush 33, 2) := by decide +kernel
theorem dX5_simulate_59 : decode cX5_simulate 59 = .ok (.lushr, 1) := by decide +kernel
theorem dX5_simulate_60 : decode cX5_simulate 60 = .ok (.l2i, 1) := by decide +kernel
theorem dX5_simulate_61 : decode cX5_simulate 61 = .ok (.invokevirtual 310, 3) := by decide +kernel
theorem dX5_simulate_64 : decode cX5_simulate 64 = .ok (.iinc 6 1, 3) := by decide +kernel
theorem dX5_simulate_67 : decode cX5_simulate 67 = .ok (.goto (-31), 3) := by decide +kernel
theorem dX5_simulate_70 : decode cX5_simulate 70 = .ok (.sipush 1000, 3) := by decide +kernel
theorem dX5_simulate_73 : decode cX5_simulate 73 = .ok (.aload_n 0, 1) := by decide +kernel
theorem dX5_simulate_74 : decode cX5_simulate 74 = .ok (.getfield 22, 3) := by decide +kernel
theorem dX5_simulate_77 : decode cX5_simulate 77 = .ok (.iconst 5, 1) := by decide +kernel
theorem dX5_simulate_78 : decode cX5_simulate 78 = .ok (.iaload, 1) := by decide +kernel
theorem dX5_simulate_79 : decode cX5_simulate 79 = .ok (.aload_n 0, 1) := by decide +kernel
theorem dX5_simulate_80 : decode cX5_simulate 80 = .ok (.getfield 19, 3) := by decide +kernel
theorem dX5_simulate_83 : decode cX5_simulate 83 = .ok (.iconst 5, 1) := by decide +kernel
theorem dX5_simulate_84 : decode cX5_simulate 84 = .ok (.iaload, 1) := by decide +kernel
theorem dX5_simulate_85 : decode cX5_simulate 85 = .ok (.isub, 1) := by decide +kernel
theorem dX5_simulate_86 : decode cX5_simulate 86 = .ok (.imul, 1) := by decide +kernel
theorem dX5_simulate_87 : decode cX5_simulate 87 = .ok (.aload_n 0, 1) := by decide +kernel
theorem dX5_simulate_88 : decode cX5_simulate 88 = .ok (.getfield 22, 3) := by decide +kernel
theorem dX5_simulate_91 : decode cX5_simulate 91 = .ok (.bipush 6, 2) := by decide +kernel
theorem dX5_simulate_93 : decode cX5_simulate 93 = .ok (.iaload, 1) := by decide +kernel
theorem dX5_simulate_94 : decode cX5_simulate 94 = .ok (.iadd, 1) := by decide +kernel
theorem dX5_simulate_95 : decode cX5_simulate 95 = .ok (.aload_n 0, 1) := by decide +kernel
theorem dX5_simulate_96 : decode cX5_simulate 96 = .ok (.getfield 19, 3) := by decide +kernel
theorem dX5_simulate_99 : decode cX5_simulate 99 = .ok (.bipush 6, 2) := by decide +kernel
theorem dX5_simulate_101 : decode cX5_simulate 101 = .ok (.iaload, 1) := by decide +kernel
theorem dX5_simulate_102 : decode cX5_simulate 102 = .ok (.isub, 1) := by decide +kernel
theorem dX5_simulate_103 : decode cX5_simulate 103 = .ok (.ireturn, 1) := by decide +kernel
theorem dX5_save_0 : decode cX5_save 0 = .ok (.aload_n 0, 1) := by decide +kernel
theorem dX5_save_1 : decode cX5_save 1 = .ok (.iload_n 1, 1) := by decide +kernel
theorem dX5_save_2 : decode cX5_save 2 = .ok (.i2l, 1) := by decide +kernel
theorem dX5_save_3 : decode cX5_save 3 = .ok (.lconst 0, 1) := by decide +kernel
theorem dX5_save_4 : decode cX5_save 4 = .ok (.lconst 1, 1) := by decide +kernel
theorem dX5_save_5 : decode cX5_save 5 = .ok (.invokestatic 118, 3) := by decide +kernel
theorem dX5_save_8 : decode cX5_save 8 = .ok (.ifCond .eq 7, 3) := by decide +kernel
theorem dX5_save_11 : decode cX5_save 11 = .ok (.iconst 0, 1) := by decide +kernel
theorem dX5_save_12 : decode cX5_save 12 = .ok (.goto 4, 3) := by decide +kernel
theorem dX5_save_15 : decode cX5_save 15 = .ok (.iconst 1, 1) := by decide +kernel
theorem dX5_save_16 : decode cX5_save 16 = .ok (.invokevirtual 137, 3) := by decide +kernel
theorem dX5_save_19 : decode cX5_save 19 = .ok (.ifCond .eq 5, 3) := by decide +kernel
theorem dX5_save_22 : decode cX5_save 22 = .ok (.iconst 0, 1) := by decide +kernel
theorem dX5_save_23 : decode cX5_save 23 = .ok (.ireturn, 1) := by decide +kernel
theorem dX5_save_24 : decode cX5_save 24 = .ok (.aload_n 0, 1) := by decide +kernel
theorem dX5_save_25 : decode cX5_save 25 = .ok (.getfield 19, 3) := by decide +kernel
theorem dX5_save_28 : decode cX5_save 28 = .ok (.iconst 0, 1) := by decide +kernel
theorem dX5_save_29 : decode cX5_save 29 = .ok (.aload_n 0, 1) := by decide +kernel
theorem dX5_save_30 : decode cX5_save 30 = .ok (.getfield 28, 3) := by decide +kernel
theorem dX5_save_33 : decode cX5_save 33 = .ok (.bipush 74, 2) := by decide +kernel
theorem dX5_save_35 : decode cX5_save 35 = .ok (.iload_n 1, 1) := by decide +kernel
theorem dX5_save_36 : decode cX5_save 36 = .ok (.imul, 1) := by decide +kernel
theorem dX5_save_37 : decode cX5_save 37 = .ok (.bipush 74, 2) := by decide +kernel
theorem dX5_save_39 : decode cX5_save 39 = .ok (.invokestatic 63, 3) := by decide +kernel
theorem dX5_save_42 : decode cX5_save 42 = .ok (.aload_n 0, 1) := by decide +kernel
theorem dX5_save_43 : decode cX5_save 43 = .ok (.getfield 31, 3) := by decide +kernel
theorem dX5_save_46 : decode cX5_save 46 = .ok (.iload_n 1, 1) := by decide +kernel
theorem dX5_save_47 : decode cX5_save 47 = .ok (.iconst 1, 1) := by decide +kernel
theorem dX5_save_48 : decode cX5_save 48 = .ok (.bastore, 1) := by decide +kernel
theorem dX5_save_49 : decode cX5_save 49 = .ok (.aload_n 0, 1) := by decide +kernel
theorem dX5_save_50 : decode cX5_save 50 = .ok (.getfield 19, 3) := by decide +kernel
theorem dX5_save_53 : decode cX5_save 53 = .ok (.iconst 0, 1) := by decide +kernel
theorem dX5_save_54 : decode cX5_save 54 = .ok (.iaload, 1) := by decide +kernel
theorem dX5_save_55 : decode cX5_save 55 = .ok (.ireturn, 1) := by decide +kernel
theorem dX5_restore_0 : decode cX5_restore 0 = .ok (.aload_n 0, 1) := by decide +kernel
theorem dX5_restore_1 : decode cX5_restore 1 = .ok (.iload_n 1, 1) := by decide +kernel
theorem dX5_restore_2 : decode cX5_restore 2 = .ok (.i2l, 1) := by decide +kernel
theorem dX5_restore_3 : decode cX5_restore 3 = .ok (.lconst 0, 1) := by decide +kernel
theorem dX5_restore_4 : decode cX5_restore 4 = .ok (.lconst 1, 1) := by decide +kernel
theorem dX5_restore_5 : decode cX5_restore 5 = .ok (.invokestatic 118, 3) := by decide +kernel
theorem dX5_restore_8 : decode cX5_restore 8 = .ok (.ifCond .ne 7, 3) := by decide +kernel
theorem dX5_restore_11 : decode cX5_restore 11 = .ok (.iconst 1, 1) := by decide +kernel
theorem dX5_restore_12 : decode cX5_restore 12 = .ok (.goto 17, 3) := by decide +kernel
theorem dX5_restore_15 : decode cX5_restore 15 = .ok (.aload_n 0, 1) := by decide +kernel
theorem dX5_restore_16 : decode cX5_restore 16 = .ok (.getfield 31, 3) := by decide +kernel
theorem dX5_restore_19 : decode cX5_restore 19 = .ok (.iload_n 1, 1) := by decide +kernel
theorem dX5_restore_20 : decode cX5_restore 20 = .ok (.baload, 1) := by decide +kernel
theorem dX5_restore_21 : decode cX5_restore 21 = .ok (.ifCond .eq 7, 3) := by decide +kernel
theorem dX5_restore_24 : decode cX5_restore 24 = .ok (.iconst 0, 1) := by decide +kernel
theorem dX5_restore_25 : decode cX5_restore 25 = .ok (.goto 4, 3) := by decide +kernel
theorem dX5_restore_28 : decode cX5_restore 28 = .ok (.iconst 2, 1) := by decide +kernel
theorem dX5_restore_29 : decode cX5_restore 29 = .ok (.invokevirtual 137, 3) := by decide +kernel
theorem dX5_restore_32 : decode cX5_restore 32 = .ok (.ifCond .eq 5, 3) := by decide +kernel
theorem dX5_restore_35 : decode cX5_restore 35 = .ok (.iconst 0, 1) := by decide +kernel
theorem dX5_restore_36 : decode cX5_restore 36 = .ok (.ireturn, 1) := by decide +kernel
theorem dX5_restore_37 : decode cX5_restore 37 = .ok (.aload_n 0, 1) := by decide +kernel
theorem dX5_restore_38 : decode cX5_restore 38 = .ok (.getfield 28, 3) := by decide +kernel
theorem dX5_restore_41 : decode cX5_restore 41 = .ok (.bipush 74, 2) := by decide +kernel
theorem dX5_restore_43 : decode cX5_restore 43 = .ok (.iload_n 1, 1) := by decide +kernel
theorem dX5_restore_44 : decode cX5_restore 44 = .ok (.imul, 1) := by decide +kernel
theorem dX5_restore_45 : decode cX5_restore 45 = .ok (.aload_n 0, 1) := by decide +kernel
theorem dX5_restore_46 : decode cX5_restore 46 = .ok (.getfield 19, 3) := by decide +kernel
theorem dX5_restore_49 : decode cX5_restore 49 = .ok (.iconst 0, 1) := by decide +kernel
theorem dX5_restore_50 : decode cX5_restore 50 = .ok (.bipush 74, 2) := by decide +kernel
theorem dX5_restore_52 : decode cX5_restore 52 = .ok (.invokestatic 63, 3) := by decide +kernel
theorem dX5_restore_55 : decode cX5_restore 55 = .ok (.aload_n 0, 1) := by decide +kernel
theorem dX5_restore_56 : decode cX5_restore 56 = .ok (.iconst 0, 1) := by decide +kernel
theorem dX5_restore_57 : decode cX5_restore 57 = .ok (.putfield 60, 3) := by decide +kernel
theorem dX5_restore_60 : decode cX5_restore 60 = .ok (.aload_n 0, 1) := by decide +kernel
theorem dX5_restore_61 : decode cX5_restore 61 = .ok (.getfield 19, 3) := by decide +kernel
theorem dX5_restore_64 : decode cX5_restore 64 = .ok (.iconst 0, 1) := by decide +kernel
theorem dX5_restore_65 : decode cX5_restore 65 = .ok (.iaload, 1) := by decide +kernel
theorem dX5_restore_66 : decode cX5_restore 66 = .ok (.ireturn, 1) := by decide +kernel
theorem dJ5_init_d00df_0 : decode cJ5_init_d00df 0 = .ok (.aload_n 0, 1) := by decide +kernel
theorem dJ5_init_d00df_1 : decode cJ5_init_d00df 1 = .ok (.invokespecial 3, 3) := by decide +kernel
theorem dJ5_init_d00df_4 : decode cJ5_init_d00df 4 = .ok (.getstatic 18, 3) := by decide +kernel
theorem dJ5_init_d00df_7 : decode cJ5_init_d00df 7 = .ok (.ifCond .eq 18, 3) := by decide +kernel
theorem dJ5_init_d00df_10 : decode cJ5_init_d00df 10 = .ok (.aload_n 0, 1) := by decide +kernel
theorem dJ5_init_d00df_11 : decode cJ5_init_d00df 11 = .ok (.iload_n 1, 1) := by decide +kernel
theorem dJ5_init_d00df_12 : decode cJ5_init_d00df 12 = .ok (.newarray .byte, 2) := by decide +kernel
theorem dJ5_init_d00df_14 : decode cJ5_init_d00df 14 = .ok (.putfield 15, 3) := by decide +kernel
theorem dJ5_init_d00df_17 : decode cJ5_init_d00df 17 = .ok (.aload_n 0, 1) := by decide +kernel
theorem dJ5_init_d00df_18 : decode cJ5_init_d00df 18 = .ok (.iconst 0, 1) := by decide +kernel
theorem dJ5_init_d00df_19 : decode cJ5_init_d00df 19 = .ok (.putfield 22, 3) := by decide +kernel
theorem dJ5_init_d00df_22 : decode cJ5_init_d00df 22 = .ok (.goto 16, 3) := by decide +kernel
theorem dJ5_init_d00df_25 : decode cJ5_init_d00df 25 = .ok (.aload_n 0, 1) := by decide +kernel
theorem dJ5_init_d00df_26 : decode cJ5_init_d00df 26 = .ok (.iload_n 1, 1) := by decide +kernel
theorem dJ5_init_d00df_27 : decode cJ5_init_d00df 27 = .ok (.invokestatic 26, 3) := by decide +kernel
theorem dJ5_init_d00df_30 : decode cJ5_init_d00df 30 = .ok (.putfield 15, 3) := by decide +kernel
theorem dJ5_init_d00df_33 : decode cJ5_init_d00df 33 = .ok (.aload_n 0, 1) := by decide +kernel
theorem dJ5_init_d00df_34 : decode cJ5_init_d00df 34 = .ok (.iconst 1, 1) := by decide +kernel
theorem dJ5_init_d00df_35 : decode cJ5_init_d00df 35 = .ok (.putfield 22, 3) := by decide +kernel
theorem dJ5_init_d00df_38 : decode cJ5_init_d00df 38 = .ok (.return_, 1) := by decide +kernel
theorem dJ5_length_8abf5_0 : decode cJ5_length_8abf5 0 = .ok (.aload_n 0, 1) := by decide +kernel
theorem dJ5_length_8abf5_1 : decode cJ5_length_8abf5 1 = .ok (.getfield 79, 3) := by decide +kernel
theorem dJ5_length_8abf5_4 : decode cJ5_length_8abf5 4 = .ok (.ireturn, 1) := by decide +kernel
theorem dJ5_ensureCapacityInternal_d00df_0 : decode cJ5_ensureCapacityInternal_d00df 0 = .ok (.aload_n 0, 1) := by decide +kernel
theorem dJ5_ensureCapacityInternal_d00df_1 : decode cJ5_ensureCapacityInternal_d00df 1 = .ok (.getfield 15, 3) := by decide +kernel
theorem dJ5_ensureCapacityInternal_d00df_4 : decode cJ5_ensureCapacityInternal_d00df 4 = .ok (.arraylength, 1) := by decide +kernel
theorem dJ5_ensureCapacityInternal_d00df_5 : decode cJ5_ensureCapacityInternal_d00df 5 = .ok (.aload_n 0, 1) := by decide +kernel
theorem dJ5_ensureCapacityInternal_d00df_6 : decode cJ5_ensureCapacityInternal_d00df 6 = .ok (.getfield 22, 3) := by decide +kernel
theorem dJ5_ensureCapacityInternal_d00df_9 : decode cJ5_ensureCapacityInternal_d00df 9 = .ok (.ishr, 1) := by decide +kernel
theorem dJ5_ensureCapacityInternal_d00df_10 : decode cJ5_ensureCapacityInternal_d00df 10 = .ok (.istore_n 2, 1) := by decide +kernel
theorem dJ5_ensureCapacityInternal_d00df_11 : decode cJ5_ensureCapacityInternal_d00df 11 = .ok (.iload_n 1, 1) := by decide +kernel
theorem dJ5_ensureCapacityInternal_d00df_12 : decode cJ5_ensureCapacityInternal_d00df 12 = .ok (.iload_n 2, 1) := by decide +kernel
theorem dJ5_ensureCapacityInternal_d00df_13 : decode cJ5_ensureCapacityInternal_d00df 13 = .ok (.isub, 1) := by decide +kernel
theorem dJ5_ensureCapacityInternal_d00df_14 : decode cJ5_ensureCapacityInternal_d00df 14 = .ok (.ifCond .le 24, 3) := by decide +kernel
theorem dJ5_ensureCapacityInternal_d00df_17 : decode cJ5_ensureCapacityInternal_d00df 17 = .ok (.aload_n 0, 1) := by decide +kernel
theorem dJ5_ensureCapacityInternal_d00df_18 : decode cJ5_ensureCapacityInternal_d00df 18 = .ok (.aload_n 0, 1) := by decide +kernel
theorem dJ5_ensureCapacityInternal_d00df_19 : decode cJ5_ensureCapacityInternal_d00df 19 = .ok (.getfield 15, 3) := by decide +kernel
theorem dJ5_ensureCapacityInternal_d00df_22 : decode cJ5_ensureCapacityInternal_d00df 22 = .ok (.aload_n 0, 1) := by decide +kernel
theorem dJ5_ensureCapacityInternal_d00df_23 : decode cJ5_ensureCapacityInternal_d00df 23 = .ok (.iload_n 1, 1) := by decide +kernel
theorem dJ5_ensureCapacityInternal_d00df_24 : decode cJ5_ensureCapacityInternal_d00df 24 = .ok (.invokevirtual 104, 3) := by decide +kernel
theorem dJ5_ensureCapacityInternal_d00df_27 : decode cJ5_ensureCapacityInternal_d00df 27 = .ok (.aload_n 0, 1) := by decide +kernel
theorem dJ5_ensureCapacityInternal_d00df_28 : decode cJ5_ensureCapacityInternal_d00df 28 = .ok (.getfield 22, 3) := by decide +kernel
theorem dJ5_ensureCapacityInternal_d00df_31 : decode cJ5_ensureCapacityInternal_d00df 31 = .ok (.ishl, 1) := by decide +kernel
theorem dJ5_ensureCapacityInternal_d00df_32 : decode cJ5_ensureCapacityInternal_d00df 32 = .ok (.invokestatic 108, 3) := by decide +kernel
theorem dJ5_ensureCapacityInternal_d00df_35 : decode cJ5_ensureCapacityInternal_d00df 35 = .ok (.putfield 15, 3) := by decide +kernel
theorem dJ5_ensureCapacityInternal_d00df_38 : decode cJ5_ensureCapacityInternal_d00df 38 = .ok (.return_, 1) := by decide +kernel
theorem dJ5_newCapacity_0f7a4_0 : decode cJ5_newCapacity_0f7a4 0 = .ok (.aload_n 0, 1) := by decide +kernel
theorem dJ5_newCapacity_0f7a4_1 : decode cJ5_newCapacity_0f7a4 1 = .ok (.getfield 15, 3) := by decide +kernel
theorem dJ5_newCapacity_0f7a4_4 : decode cJ5_newCapacity_0f7a4 4 = .ok (.arraylength, 1) := by decide +kernel
theorem dJ5_newCapacity_0f7a4_5 : decode cJ5_newCapacity_0f7a4 5 = .ok (.istore_n 2, 1) := by decide +kernel
theorem dJ5_newCapacity_0f7a4_6 : decode cJ5_newCapacity_0f7a4 6 = .ok (.iload_n 1, 1) := by decide +kernel
theorem dJ5_newCapacity_0f7a4_7 : decode cJ5_newCapacity_0f7a4 7 = .ok (.aload_n 0, 1) := by decide +kernel
theorem dJ5_newCapacity_0f7a4_8 : decode cJ5_newCapacity_0f7a4 8 = .ok (.getfield 22, 3) := by decide +kernel
theorem dJ5_newCapacity_0f7a4_11 : decode cJ5_newCapacity_0f7a4 11 = .ok (.ishl, 1) := by decide +kernel
theorem dJ5_newCapacity_0f7a4_12 : decode cJ5_newCapacity_0f7a4 12 = .ok (.istore_n 3, 1) := by decide +kernel
theorem dJ5_newCapacity_0f7a4_13 : decode cJ5_newCapacity_0f7a4 13 = .ok (.iload_n 3, 1) := by decide +kernel
theorem dJ5_newCapacity_0f7a4_14 : decode cJ5_newCapacity_0f7a4 14 = .ok (.iload_n 2, 1) := by decide +kernel
theorem dJ5_newCapacity_0f7a4_15 : decode cJ5_newCapacity_0f7a4 15 = .ok (.isub, 1) := by decide +kernel
theorem dJ5_newCapacity_0f7a4_16 : decode cJ5_newCapacity_0f7a4 16 = .ok (.istore 4, 2) := by decide +kernel
theorem dJ5_newCapacity_0f7a4_18 : decode cJ5_newCapacity_0f7a4 18 = .ok (.iload_n 2, 1) := by decide +kernel
theorem dJ5_newCapacity_0f7a4_19 : decode cJ5_newCapacity_0f7a4 19 = .ok (.iload 4, 2) := by decide +kernel
theorem dJ5_newCapacity_0f7a4_21 : decode cJ5_newCapacity_0f7a4 21 = .ok (.iload_n 2, 1) := by decide +kernel
theorem dJ5_newCapacity_0f7a4_22 : decode cJ5_newCapacity_0f7a4 22 = .ok (.iconst 2, 1) := by decide +kernel
theorem dJ5_newCapacity_0f7a4_23 : decode cJ5_newCapacity_0f7a4 23 = .ok (.aload_n 0, 1) := by decide +kernel
theorem dJ5_newCapacity_0f7a4_24 : decode cJ5_newCapacity_0f7a4 24 = .ok (.getfield 22, 3) := by decide +kernel
theorem dJ5_newCapacity_0f7a4_27 : decode cJ5_newCapacity_0f7a4 27 = .ok (.ishl, 1) := by decide +kernel
theorem dJ5_newCapacity_0f7a4_28 : decode cJ5_newCapacity_0f7a4 28 = .ok (.iadd, 1) := by decide +kernel
theorem dJ5_newCapacity_0f7a4_29 : decode cJ5_newCapacity_0f7a4 29 = .ok (.invokestatic 114, 3) := by decide +kernel
theorem dJ5_newCapacity_0f7a4_32 : decode cJ5_newCapacity_0f7a4 32 = .ok (.istore 5, 2) := by decide +kernel
theorem dJ5_newCapacity_0f7a4_34 : decode cJ5_newCapacity_0f7a4 34 = .ok (.iload 5, 2) := by decide +kernel
theorem dJ5_newCapacity_0f7a4_36 : decode cJ5_newCapacity_0f7a4 36 = .ok (.ldc 39, 2) := by decide +kernel
theorem dJ5_newCapacity_0f7a4_38 : decode cJ5_newCapacity_0f7a4 38 = .ok (.if_icmp .ne 13, 3) := by decide +kernel
theorem dJ5_newCapacity_0f7a4_41 : decode cJ5_newCapacity_0f7a4 41 = .ok (.new 120, 3) := by decide +kernel
theorem dJ5_newCapacity_0f7a4_44 : decode cJ5_newCapacity_0f7a4 44 = .ok (.dup, 1) := by decide +kernel
theorem dJ5_newCapacity_0f7a4_45 : decode cJ5_newCapacity_0f7a4 45 = .ok (.ldc 122, 2) := by decide +kernel
theorem dJ5_newCapacity_0f7a4_47 : decode cJ5_newCapacity_0f7a4 47 = .ok (.invokespecial 124, 3) := by decide +kernel
theorem dJ5_newCapacity_0f7a4_50 : decode cJ5_newCapacity_0f7a4 50 = .ok (.athrow, 1) := by decide +kernel
theorem dJ5_newCapacity_0f7a4_51 : decode cJ5_newCapacity_0f7a4 51 = .ok (.iload 5, 2) := by decide +kernel
theorem dJ5_newCapacity_0f7a4_53 : decode cJ5_newCapacity_0f7a4 53 = .ok (.aload_n 0, 1) := by decide +kernel
theorem dJ5_newCapacity_0f7a4_54 : decode cJ5_newCapacity_0f7a4 54 = .ok (.getfield 22, 3) := by decide +kernel
theorem dJ5_newCapacity_0f7a4_57 : decode cJ5_newCapacity_0f7a4 57 = .ok (.ishr, 1) := by decide +kernel
theorem dJ5_newCapacity_0f7a4_58 : decode cJ5_newCapacity_0f7a4 58 = .ok (.ireturn, 1) := by decide +kernel
theorem dJ5_inflate_da8c8_0 : decode cJ5_inflate_da8c8 0 = .ok (.aload_n 0, 1) := by decide +kernel
theorem dJ5_inflate_da8c8_1 : decode cJ5_inflate_da8c8 1 = .ok (.invokevirtual 83, 3) := by decide +kernel
theorem dJ5_inflate_da8c8_4 : decode cJ5_inflate_da8c8 4 = .ok (.ifCond .ne 4, 3) := by decide +kernel
theorem dJ5_inflate_da8c8_7 : decode cJ5_inflate_da8c8 7 = .ok (.return_, 1) := by decide +kernel
theorem dJ5_inflate_da8c8_8 : decode cJ5_inflate_da8c8 8 = .ok (.aload_n 0, 1) := by decide +kernel
theorem dJ5_inflate_da8c8_9 : decode cJ5_inflate_da8c8 9 = .ok (.getfield 15, 3) := by decide +kernel
theorem dJ5_inflate_da8c8_12 : decode cJ5_inflate_da8c8 12 = .ok (.arraylength, 1) := by decide +kernel
theorem dJ5_inflate_da8c8_13 : decode cJ5_inflate_da8c8 13 = .ok (.invokestatic 26, 3) := by decide +kernel
theorem dJ5_inflate_da8c8_16 : decode cJ5_inflate_da8c8 16 = .ok (.astore_n 1, 1) := by decide +kernel
theorem dJ5_inflate_da8c8_17 : decode cJ5_inflate_da8c8 17 = .ok (.aload_n 0, 1) := by decide +kernel
theorem dJ5_inflate_da8c8_18 : decode cJ5_inflate_da8c8 18 = .ok (.getfield 15, 3) := by decide +kernel
theorem dJ5_inflate_da8c8_21 : decode cJ5_inflate_da8c8 21 = .ok (.iconst 0, 1) := by decide +kernel
theorem dJ5_inflate_da8c8_22 : decode cJ5_inflate_da8c8 22 = .ok (.aload_n 1, 1) := by decide +kernel
theorem dJ5_inflate_da8c8_23 : decode cJ5_inflate_da8c8 23 = .ok (.iconst 0, 1) := by decide +kernel
theorem dJ5_inflate_da8c8_24 : decode cJ5_inflate_da8c8 24 = .ok (.aload_n 0, 1) := by decide +kernel
theorem dJ5_inflate_da8c8_25 : decode cJ5_inflate_da8c8 25 = .ok (.getfield 79, 3) := by decide +kernel
theorem dJ5_inflate_da8c8_28 : decode cJ5_inflate_da8c8 28 = .ok (.invokestatic 125, 3) := by decide +kernel
theorem dJ5_inflate_da8c8_31 : decode cJ5_inflate_da8c8 31 = .ok (.aload_n 0, 1) := by decide +kernel
theorem dJ5_inflate_da8c8_32 : decode cJ5_inflate_da8c8 32 = .ok (.aload_n 1, 1) := by decide +kernel
theorem dJ5_inflate_da8c8_33 : decode cJ5_inflate_da8c8 33 = .ok (.putfield 15, 3) := by decide +kernel
theorem dJ5_inflate_da8c8_36 : decode cJ5_inflate_da8c8 36 = .ok (.aload_n 0, 1) := by decide +kernel
theorem dJ5_inflate_da8c8_37 : decode cJ5_inflate_da8c8 37 = .ok (.iconst 1, 1) := by decide +kernel
theorem dJ5_inflate_da8c8_38 : decode cJ5_inflate_da8c8 38 = .ok (.putfield 22, 3) := by decide +kernel
theorem dJ5_inflate_da8c8_41 : decode cJ5_inflate_da8c8 41 = .ok (.return_, 1) := by decide +kernel
theorem dJ5_charAt_5068e_0 : decode cJ5_charAt_5068e 0 = .ok (.aload_n 0, 1) := by decide +kernel
theorem dJ5_charAt_5068e_1 : decode cJ5_charAt_5068e 1 = .ok (.getfield 22, 3) := by decide +kernel
theorem dJ5_charAt_5068e_4 : decode cJ5_charAt_5068e 4 = .ok (.istore_n 2, 1) := by decide +kernel
theorem dJ5_charAt_5068e_5 : decode cJ5_charAt_5068e 5 = .ok (.aload_n 0, 1) := by decide +kernel
theorem dJ5_charAt_5068e_6 : decode cJ5_charAt_5068e 6 = .ok (.getfield 15, 3) := by decide +kernel
theorem dJ5_charAt_5068e_9 : decode cJ5_charAt_5068e 9 = .ok (.astore_n 3, 1) := by decide +kernel
theorem dJ5_charAt_5068e_10 : decode cJ5_charAt_5068e 10 = .ok (.aload_n 0, 1) := by decide +kernel
theorem dJ5_charAt_5068e_11 : decode cJ5_charAt_5068e 11 = .ok (.getfield 79, 3) := by decide +kernel
theorem dJ5_charAt_5068e_14 : decode cJ5_charAt_5068e 14 = .ok (.aload_n 3, 1) := by decide +kernel
theorem dJ5_charAt_5068e_15 : decode cJ5_charAt_5068e 15 = .ok (.arraylength, 1) := by decide +kernel
theorem dJ5_charAt_5068e_16 : decode cJ5_charAt_5068e 16 = .ok (.iload_n 2, 1) := by decide +kernel
theorem dJ5_charAt_5068e_17 : decode cJ5_charAt_5068e 17 = .ok (.ishr, 1) := by decide +kernel
theorem dJ5_charAt_5068e_18 : decode cJ5_charAt_5068e 18 = .ok (.invokestatic 138, 3) := by decide +kernel
theorem dJ5_charAt_5068e_21 : decode cJ5_charAt_5068e 21 = .ok (.istore 4, 2) := by decide +kernel
theorem dJ5_charAt_5068e_23 : decode cJ5_charAt_5068e 23 = .ok (.iload_n 1, 1) := by decide +kernel
theorem dJ5_charAt_5068e_24 : decode cJ5_charAt_5068e 24 = .ok (.iload 4, 2) := by decide +kernel
theorem dJ5_charAt_5068e_26 : decode cJ5_charAt_5068e 26 = .ok (.invokestatic 144, 3) := by decide +kernel
theorem dJ5_charAt_5068e_29 : decode cJ5_charAt_5068e 29 = .ok (.iload_n 2, 1) := by decide +kernel
theorem dJ5_charAt_5068e_30 : decode cJ5_charAt_5068e 30 = .ok (.ifCond .ne 12, 3) := by decide +kernel
theorem dJ5_charAt_5068e_33 : decode cJ5_charAt_5068e 33 = .ok (.aload_n 3, 1) := by decide +kernel
theorem dJ5_charAt_5068e_34 : decode cJ5_charAt_5068e 34 = .ok (.iload_n 1, 1) := by decide +kernel
theorem dJ5_charAt_5068e_35 : decode cJ5_charAt_5068e 35 = .ok (.baload, 1) := by decide +kernel
theorem dJ5_charAt_5068e_36 : decode cJ5_charAt_5068e 36 = .ok (.sipush 255, 3) := by decide +kernel
theorem dJ5_charAt_5068e_39 : decode cJ5_charAt_5068e 39 = .ok (.iand, 1) := by decide +kernel
theorem dJ5_charAt_5068e_40 : decode cJ5_charAt_5068e 40 = .ok (.i2c, 1) := by decide +kernel
theorem dJ5_charAt_5068e_41 : decode cJ5_charAt_5068e 41 = .ok (.ireturn, 1) := by decide +kernel
theorem dJ5_charAt_5068e_42 : decode cJ5_charAt_5068e 42 = .ok (.aload_n 3, 1) := by decide +kernel
theorem dJ5_charAt_5068e_43 : decode cJ5_charAt_5068e 43 = .ok (.iload_n 1, 1) := by decide +kernel
theorem dJ5_charAt_5068e_44 : decode cJ5_charAt_5068e 44 = .ok (.invokestatic 148, 3) := by decide +kernel
theorem dJ5_charAt_5068e_47 : decode cJ5_charAt_5068e 47 = .ok (.ireturn, 1) := by decide +kernel
theorem dJ5_append_cf1ce_0 : decode cJ5_append_cf1ce 0 = .ok (.aload_n 1, 1) := by decide +kernel
theorem dJ5_append_cf1ce_1 : decode cJ5_append_cf1ce 1 = .ok (.ifnonnull 8, 3) := by decide +kernel
theorem dJ5_append_cf1ce_4 : decode cJ5_append_cf1ce 4 = .ok (.aload_n 0, 1) := by decide +kernel
theorem dJ5_append_cf1ce_5 : decode cJ5_append_cf1ce 5 = .ok (.invokevirtual 204, 3) := by decide +kernel
theorem dJ5_append_cf1ce_8 : decode cJ5_append_cf1ce 8 = .ok (.areturn, 1) := by decide +kernel
theorem dJ5_append_cf1ce_9 : decode cJ5_append_cf1ce 9 = .ok (.aload_n 1, 1) := by decide +kernel
theorem dJ5_append_cf1ce_10 : decode cJ5_append_cf1ce 10 = .ok (.invokevirtual 32, 3) := by decide +kernel
theorem dJ5_append_cf1ce_13 : decode cJ5_append_cf1ce 13 = .ok (.istore_n 2, 1) := by decide +kernel
theorem dJ5_append_cf1ce_14 : decode cJ5_append_cf1ce 14 = .ok (.aload_n 0, 1) := by decide +kernel
theorem dJ5_append_cf1ce_15 : decode cJ5_append_cf1ce 15 = .ok (.aload_n 0, 1) := by decide +kernel
theorem dJ5_append_cf1ce_16 : decode cJ5_append_cf1ce 16 = .ok (.getfield 79, 3) := by decide +kernel
theorem dJ5_append_cf1ce_19 : decode cJ5_append_cf1ce 19 = .ok (.iload_n 2, 1) := by decide +kernel
theorem dJ5_append_cf1ce_20 : decode cJ5_append_cf1ce 20 = .ok (.iadd, 1) := by decide +kernel
theorem dJ5_append_cf1ce_21 : decode cJ5_append_cf1ce 21 = .ok (.invokevirtual 100, 3) := by decide +kernel
theorem dJ5_append_cf1ce_24 : decode cJ5_append_cf1ce 24 = .ok (.aload_n 0, 1) := by decide +kernel
theorem dJ5_append_cf1ce_25 : decode cJ5_append_cf1ce 25 = .ok (.aload_n 0, 1) := by decide +kernel
theorem dJ5_append_cf1ce_26 : decode cJ5_append_cf1ce 26 = .ok (.getfield 79, 3) := by decide +kernel
theorem dJ5_append_cf1ce_29 : decode cJ5_append_cf1ce 29 = .ok (.aload_n 1, 1) := by decide +kernel
theorem dJ5_append_cf1ce_30 : decode cJ5_append_cf1ce 30 = .ok (.invokevirtual 208, 3) := by decide +kernel
theorem dJ5_append_cf1ce_33 : decode cJ5_append_cf1ce 33 = .ok (.aload_n 0, 1) := by decide +kernel
theorem dJ5_append_cf1ce_34 : decode cJ5_append_cf1ce 34 = .ok (.dup, 1) := by decide +kernel
theorem dJ5_append_cf1ce_35 : decode cJ5_append_cf1ce 35 = .ok (.getfield 79, 3) := by decide +kernel
theorem dJ5_append_cf1ce_38 : decode cJ5_append_cf1ce 38 = .ok (.iload_n 2, 1) := by decide +kernel
theorem dJ5_append_cf1ce_39 : decode cJ5_append_cf1ce 39 = .ok (.iadd, 1) := by decide +kernel
theorem dJ5_append_cf1ce_40 : decode cJ5_append_cf1ce 40 = .ok (.putfield 79, 3) := by decide +kernel
theorem dJ5_append_cf1ce_43 : decode cJ5_append_cf1ce 43 = .ok (.aload_n 0, 1) := by decide +kernel
theorem dJ5_append_cf1ce_44 : decode cJ5_append_cf1ce 44 = .ok (.areturn, 1) := by decide +kernel
theorem dJ5_appendNull_278bc_0 : decode cJ5_appendNull_278bc 0 = .ok (.aload_n 0, 1) := by decide +kernel
theorem dJ5_appendNull_278bc_1 : decode cJ5_appendNull_278bc 1 = .ok (.aload_n 0, 1) := by decide +kernel
theorem dJ5_appendNull_278bc_2 : decode cJ5_appendNull_278bc 2 = .ok (.getfield 79, 3) := by decide +kernel
theorem dJ5_appendNull_278bc_5 : decode cJ5_appendNull_278bc 5 = .ok (.iconst 4, 1) := by decide +kernel
theorem dJ5_appendNull_278bc_6 : decode cJ5_appendNull_278bc 6 = .ok (.iadd, 1) := by decide +kernel
theorem dJ5_appendNull_278bc_7 : decode cJ5_appendNull_278bc 7 = .ok (.invokevirtual 100, 3) := by decide +kernel
theorem dJ5_appendNull_278bc_10 : decode cJ5_appendNull_278bc 10 = .ok (.aload_n 0, 1) := by decide +kernel
theorem dJ5_appendNull_278bc_11 : decode cJ5_appendNull_278bc 11 = .ok (.getfield 79, 3) := by decide +kernel
theorem dJ5_appendNull_278bc_14 : decode cJ5_appendNull_278bc 14 = .ok (.istore_n 1, 1) := by decide +kernel
theorem dJ5_appendNull_278bc_15 : decode cJ5_appendNull_278bc 15 = .ok (.aload_n 0, 1) := by decide +kernel
theorem dJ5_appendNull_278bc_16 : decode cJ5_appendNull_278bc 16 = .ok (.getfield 15, 3) := by decide +kernel
theorem dJ5_appendNull_278bc_19 : decode cJ5_appendNull_278bc 19 = .ok (.astore_n 2, 1) := by decide +kernel
theorem dJ5_appendNull_278bc_20 : decode cJ5_appendNull_278bc 20 = .ok (.aload_n 0, 1) := by decide +kernel
theorem dJ5_appendNull_278bc_21 : decode cJ5_appendNull_278bc 21 = .ok (.invokevirtual 83, 3) := by decide +kernel
theorem dJ5_appendNull_278bc_24 : decode cJ5_appendNull_278bc 24 = .ok (.ifCond .eq 38, 3) := by decide +kernel
theorem dJ5_appendNull_278bc_27 : decode cJ5_appendNull_278bc 27 = .ok (.aload_n 2, 1) := by decide +kernel
theorem dJ5_appendNull_278bc_28 : decode cJ5_appendNull_278bc 28 = .ok (.iload_n 1, 1) := by decide +kernel
theorem dJ5_appendNull_278bc_29 : decode cJ5_appendNull_278bc 29 = .ok (.iinc 1 1, 3) := by decide +kernel
theorem dJ5_appendNull_278bc_32 : decode cJ5_appendNull_278bc 32 = .ok (.bipush 110, 2) := by decide +kernel
theorem dJ5_appendNull_278bc_34 : decode cJ5_appendNull_278bc 34 = .ok (.bastore, 1) := by decide +kernel
theorem dJ5_appendNull_278bc_35 : decode cJ5_appendNull_278bc 35 = .ok (.aload_n 2, 1) := by decide +kernel
theorem dJ5_appendNull_278bc_36 : decode cJ5_appendNull_278bc 36 = .ok (.iload_n 1, 1) := by decide +kernel
theorem dJ5_appendNull_278bc_37 : decode cJ5_appendNull_278bc 37 = .ok (.iinc 1 1, 3) := by decide +kernel
theorem dJ5_appendNull_278bc_40 : decode cJ5_appendNull_278bc 40 = .ok (.bipush 117, 2) := by decide +kernel
theorem dJ5_appendNull_278bc_42 : decode cJ5_appendNull_278bc 42 = .ok (.bastore, 1) := by decide +kernel
theorem dJ5_appendNull_278bc_43 : decode cJ5_appendNull_278bc 43 = .ok (.aload_n 2, 1) := by decide +kernel
theorem dJ5_appendNull_278bc_44 : decode cJ5_appendNull_278bc 44 = .ok (.iload_n 1, 1) := by decide +kernel
theorem dJ5_appendNull_278bc_45 : decode cJ5_appendNull_278bc 45 = .ok (.iinc 1 1, 3) := by decide +kernel
theorem dJ5_appendNull_278bc_48 : decode cJ5_appendNull_278bc 48 = .ok (.bipush 108, 2) := by decide +kernel
theorem dJ5_appendNull_278bc_50 : decode cJ5_appendNull_278bc 50 = .ok (.bastore, 1) := by decide +kernel
theorem dJ5_appendNull_278bc_51 : decode cJ5_appendNull_278bc 51 = .ok (.aload_n 2, 1) := by decide +kernel
theorem dJ5_appendNull_278bc_52 : decode cJ5_appendNull_278bc 52 = .ok (.iload_n 1, 1) := by decide +kernel
theorem dJ5_appendNull_278bc_53 : decode cJ5_appendNull_278bc 53 = .ok (.iinc 1 1, 3) := by decide +kernel
theorem dJ5_appendNull_278bc_56 : decode cJ5_appendNull_278bc 56 = .ok (.bipush 108, 2) := by decide +kernel
theorem dJ5_appendNull_278bc_58 : decode cJ5_appendNull_278bc 58 = .ok (.bastore, 1) := by decide +kernel
theorem dJ5_appendNull_278bc_59 : decode cJ5_appendNull_278bc 59 = .ok (.goto 17, 3) := by decide +kernel
theorem dJ5_appendNull_278bc_62 : decode cJ5_appendNull_278bc 62 = .ok (.aload_n 2, 1) := by decide +kernel
theorem dJ5_appendNull_278bc_63 : decode cJ5_appendNull_278bc 63 = .ok (.iload_n 1, 1) := by decide +kernel
theorem dJ5_appendNull_278bc_64 : decode cJ5_appendNull_278bc 64 = .ok (.bipush 110, 2) := by decide +kernel
theorem dJ5_appendNull_278bc_66 : decode cJ5_appendNull_278bc 66 = .ok (.bipush 117, 2) := by decide +kernel
theorem dJ5_appendNull_278bc_68 : decode cJ5_appendNull_278bc 68 = .ok (.bipush 108, 2) := by decide +kernel
theorem dJ5_appendNull_278bc_70 : decode cJ5_appendNull_278bc 70 = .ok (.bipush 108, 2) := by decide +kernel
theorem dJ5_appendNull_278bc_72 : decode cJ5_appendNull_278bc 72 = .ok (.invokestatic 226, 3) := by decide +kernel
theorem dJ5_appendNull_278bc_75 : decode cJ5_appendNull_278bc 75 = .ok (.istore_n 1, 1) := by decide +kernel
theorem dJ5_appendNull_278bc_76 : decode cJ5_appendNull_278bc 76 = .ok (.aload_n 0, 1) := by decide +kernel
theorem dJ5_appendNull_278bc_77 : decode cJ5_appendNull_278bc 77 = .ok (.iload_n 1, 1) := by decide +kernel
theorem dJ5_appendNull_278bc_78 : decode cJ5_appendNull_278bc 78 = .ok (.putfield 79, 3) := by decide +kernel
theorem dJ5_appendNull_278bc_81 : decode cJ5_appendNull_278bc 81 = .ok (.aload_n 0, 1) := by decide +kernel
theorem dJ5_appendNull_278bc_82 : decode cJ5_appendNull_278bc 82 = .ok (.areturn, 1) := by decide +kernel
theorem dJ5_append_3fe6f_0 : decode cJ5_append_3fe6f 0 = .ok (.aload_n 0, 1) := by decide +kernel
theorem dJ5_append_3fe6f_1 : decode cJ5_append_3fe6f 1 = .ok (.aload_n 0, 1) := by decide +kernel
theorem dJ5_append_3fe6f_2 : decode cJ5_append_3fe6f 2 = .ok (.getfield 79, 3) := by decide +kernel
theorem dJ5_append_3fe6f_5 : decode cJ5_append_3fe6f 5 = .ok (.iconst 1, 1) := by decide +kernel
theorem dJ5_append_3fe6f_6 : decode cJ5_append_3fe6f 6 = .ok (.iadd, 1) := by decide +kernel
theorem dJ5_append_3fe6f_7 : decode cJ5_append_3fe6f 7 = .ok (.invokevirtual 100, 3) := by decide +kernel
theorem dJ5_append_3fe6f_10 : decode cJ5_append_3fe6f 10 = .ok (.aload_n 0, 1) := by decide +kernel
theorem dJ5_append_3fe6f_11 : decode cJ5_append_3fe6f 11 = .ok (.invokevirtual 83, 3) := by decide +kernel
theorem dJ5_append_3fe6f_14 : decode cJ5_append_3fe6f 14 = .ok (.ifCond .eq 31, 3) := by decide +kernel
theorem dJ5_append_3fe6f_17 : decode cJ5_append_3fe6f 17 = .ok (.iload_n 1, 1) := by decide +kernel
theorem dJ5_append_3fe6f_18 : decode cJ5_append_3fe6f 18 = .ok (.invokestatic 191, 3) := by decide +kernel
theorem dJ5_append_3fe6f_21 : decode cJ5_append_3fe6f 21 = .ok (.ifCond .eq 24, 3) := by decide +kernel
theorem dJ5_append_3fe6f_24 : decode cJ5_append_3fe6f 24 = .ok (.aload_n 0, 1) := by decide +kernel
theorem dJ5_append_3fe6f_25 : decode cJ5_append_3fe6f 25 = .ok (.getfield 15, 3) := by decide +kernel
theorem dJ5_append_3fe6f_28 : decode cJ5_append_3fe6f 28 = .ok (.aload_n 0, 1) := by decide +kernel
theorem dJ5_append_3fe6f_29 : decode cJ5_append_3fe6f 29 = .ok (.dup, 1) := by decide +kernel
theorem dJ5_append_3fe6f_30 : decode cJ5_append_3fe6f 30 = .ok (.getfield 79, 3) := by decide +kernel
theorem dJ5_append_3fe6f_33 : decode cJ5_append_3fe6f 33 = .ok (.dup_x1, 1) := by decide +kernel
theorem dJ5_append_3fe6f_34 : decode cJ5_append_3fe6f 34 = .ok (.iconst 1, 1) := by decide +kernel
theorem dJ5_append_3fe6f_35 : decode cJ5_append_3fe6f 35 = .ok (.iadd, 1) := by decide +kernel
theorem dJ5_append_3fe6f_36 : decode cJ5_append_3fe6f 36 = .ok (.putfield 79, 3) := by decide +kernel
theorem dJ5_append_3fe6f_39 : decode cJ5_append_3fe6f 39 = .ok (.iload_n 1, 1) := by decide +kernel
theorem dJ5_append_3fe6f_40 : decode cJ5_append_3fe6f 40 = .ok (.i2b, 1) := by decide +kernel
theorem dJ5_append_3fe6f_41 : decode cJ5_append_3fe6f 41 = .ok (.bastore, 1) := by decide +kernel
theorem dJ5_append_3fe6f_42 : decode cJ5_append_3fe6f 42 = .ok (.goto 33, 3) := by decide +kernel
theorem dJ5_append_3fe6f_45 : decode cJ5_append_3fe6f 45 = .ok (.aload_n 0, 1) := by decide +kernel
theorem dJ5_append_3fe6f_46 : decode cJ5_append_3fe6f 46 = .ok (.invokevirtual 83, 3) := by decide +kernel
theorem dJ5_append_3fe6f_49 : decode cJ5_append_3fe6f 49 = .ok (.ifCond .eq 7, 3) := by decide +kernel
theorem dJ5_append_3fe6f_52 : decode cJ5_append_3fe6f 52 = .ok (.aload_n 0, 1) := by decide +kernel
theorem dJ5_append_3fe6f_53 : decode cJ5_append_3fe6f 53 = .ok (.invokevirtual 195, 3) := by decide +kernel
theorem dJ5_append_3fe6f_56 : decode cJ5_append_3fe6f 56 = .ok (.aload_n 0, 1) := by decide +kernel
theorem dJ5_append_3fe6f_57 : decode cJ5_append_3fe6f 57 = .ok (.getfield 15, 3) := by decide +kernel
theorem dJ5_append_3fe6f_60 : decode cJ5_append_3fe6f 60 = .ok (.aload_n 0, 1) := by decide +kernel
theorem dJ5_append_3fe6f_61 : decode cJ5_append_3fe6f 61 = .ok (.dup, 1) := by decide +kernel
theorem dJ5_append_3fe6f_62 : decode cJ5_append_3fe6f 62 = .ok (.getfield 79, 3) := by decide +kernel
theorem dJ5_append_3fe6f_65 : decode cJ5_append_3fe6f 65 = .ok (.dup_x1, 1) := by decide +kernel
theorem dJ5_append_3fe6f_66 : decode cJ5_append_3fe6f 66 = .ok (.iconst 1, 1) := by decide +kernel
theorem dJ5_append_3fe6f_67 : decode cJ5_append_3fe6f 67 = .ok (.iadd, 1) := by decide +kernel
theorem dJ5_append_3fe6f_68 : decode cJ5_append_3fe6f 68 = .ok (.putfield 79, 3) := by decide +kernel
theorem dJ5_append_3fe6f_71 : decode cJ5_append_3fe6f 71 = .ok (.iload_n 1, 1) := by decide +kernel
theorem dJ5_append_3fe6f_72 : decode cJ5_append_3fe6f 72 = .ok (.invokestatic 197, 3) := by decide +kernel
theorem dJ5_append_3fe6f_75 : decode cJ5_append_3fe6f 75 = .ok (.aload_n 0, 1) := by decide +kernel
theorem dJ5_append_3fe6f_76 : decode cJ5_append_3fe6f 76 = .ok (.areturn, 1) := by decide +kernel
theorem dJ5_append_c97b9_0 : decode cJ5_append_c97b9 0 = .ok (.aload_n 0, 1) := by decide +kernel
theorem dJ5_append_c97b9_1 : decode cJ5_append_c97b9 1 = .ok (.getfield 79, 3) := by decide +kernel
theorem dJ5_append_c97b9_4 : decode cJ5_append_c97b9 4 = .ok (.istore_n 2, 1) := by decide +kernel
theorem dJ5_append_c97b9_5 : decode cJ5_append_c97b9 5 = .ok (.iload_n 2, 1) := by decide +kernel
theorem dJ5_append_c97b9_6 : decode cJ5_append_c97b9 6 = .ok (.iload_n 1, 1) := by decide +kernel
theorem dJ5_append_c97b9_7 : decode cJ5_append_c97b9 7 = .ok (.invokestatic 245, 3) := by decide +kernel
theorem dJ5_append_c97b9_10 : decode cJ5_append_c97b9 10 = .ok (.iadd, 1) := by decide +kernel
theorem dJ5_append_c97b9_11 : decode cJ5_append_c97b9 11 = .ok (.istore_n 3, 1) := by decide +kernel
theorem dJ5_append_c97b9_12 : decode cJ5_append_c97b9 12 = .ok (.aload_n 0, 1) := by decide +kernel
theorem dJ5_append_c97b9_13 : decode cJ5_append_c97b9 13 = .ok (.iload_n 3, 1) := by decide +kernel
theorem dJ5_append_c97b9_14 : decode cJ5_append_c97b9 14 = .ok (.invokevirtual 100, 3) := by decide +kernel
theorem dJ5_append_c97b9_17 : decode cJ5_append_c97b9 17 = .ok (.aload_n 0, 1) := by decide +kernel
theorem dJ5_append_c97b9_18 : decode cJ5_append_c97b9 18 = .ok (.invokevirtual 83, 3) := by decide +kernel
theorem dJ5_append_c97b9_21 : decode cJ5_append_c97b9 21 = .ok (.ifCond .eq 16, 3) := by decide +kernel
theorem dJ5_append_c97b9_24 : decode cJ5_append_c97b9 24 = .ok (.iload_n 1, 1) := by decide +kernel
theorem dJ5_append_c97b9_25 : decode cJ5_append_c97b9 25 = .ok (.iload_n 3, 1) := by decide +kernel
theorem dJ5_append_c97b9_26 : decode cJ5_append_c97b9 26 = .ok (.aload_n 0, 1) := by decide +kernel
theorem dJ5_append_c97b9_27 : decode cJ5_append_c97b9 27 = .ok (.getfield 15, 3) := by decide +kernel
theorem dJ5_append_c97b9_30 : decode cJ5_append_c97b9 30 = .ok (.invokestatic 248, 3) := by decide +kernel
theorem dJ5_append_c97b9_33 : decode cJ5_append_c97b9 33 = .ok (.pop, 1) := by decide +kernel
theorem dJ5_append_c97b9_34 : decode cJ5_append_c97b9 34 = .ok (.goto 14, 3) := by decide +kernel
theorem dJ5_append_c97b9_37 : decode cJ5_append_c97b9 37 = .ok (.iload_n 1, 1) := by decide +kernel
theorem dJ5_append_c97b9_38 : decode cJ5_append_c97b9 38 = .ok (.iload_n 2, 1) := by decide +kernel
theorem dJ5_append_c97b9_39 : decode cJ5_append_c97b9 39 = .ok (.iload_n 3, 1) := by decide +kernel
theorem dJ5_append_c97b9_40 : decode cJ5_append_c97b9 40 = .ok (.aload_n 0, 1) := by decide +kernel
theorem dJ5_append_c97b9_41 : decode cJ5_append_c97b9 41 = .ok (.getfield 15, 3) := by decide +kernel
theorem dJ5_append_c97b9_44 : decode cJ5_append_c97b9 44 = .ok (.invokestatic 251, 3) := by decide +kernel
theorem dJ5_append_c97b9_47 : decode cJ5_append_c97b9 47 = .ok (.pop, 1) := by decide +kernel
theorem dJ5_append_c97b9_48 : decode cJ5_append_c97b9 48 = .ok (.aload_n 0, 1) := by decide +kernel
theorem dJ5_append_c97b9_49 : decode cJ5_append_c97b9 49 = .ok (.iload_n 3, 1) := by decide +kernel
theorem dJ5_append_c97b9_50 : decode cJ5_append_c97b9 50 = .ok (.putfield 79, 3) := by decide +kernel
theorem dJ5_append_c97b9_53 : decode cJ5_append_c97b9 53 = .ok (.aload_n 0, 1) := by decide +kernel
theorem dJ5_append_c97b9_54 : decode cJ5_append_c97b9 54 = .ok (.areturn, 1) := by decide +kernel
theorem dJ5_isLatin1_aae02_0 : decode cJ5_isLatin1_aae02 0 = .ok (.getstatic 18, 3) := by decide +kernel
theorem dJ5_isLatin1_aae02_3 : decode cJ5_isLatin1_aae02 3 = .ok (.ifCond .eq 14, 3) := by decide +kernel
theorem dJ5_isLatin1_aae02_6 : decode cJ5_isLatin1_aae02 6 = .ok (.aload_n 0, 1) := by decide +kernel
theorem dJ5_isLatin1_aae02_7 : decode cJ5_isLatin1_aae02 7 = .ok (.getfield 22, 3) := by decide +kernel
theorem dJ5_isLatin1_aae02_10 : decode cJ5_isLatin1_aae02 10 = .ok (.ifCond .ne 7, 3) := by decide +kernel
theorem dJ5_isLatin1_aae02_13 : decode cJ5_isLatin1_aae02 13 = .ok (.iconst 1, 1) := by decide +kernel
theorem dJ5_isLatin1_aae02_14 : decode cJ5_isLatin1_aae02 14 = .ok (.goto 4, 3) := by decide +kernel
theorem dJ5_isLatin1_aae02_17 : decode cJ5_isLatin1_aae02 17 = .ok (.iconst 0, 1) := by decide +kernel
theorem dJ5_isLatin1_aae02_18 : decode cJ5_isLatin1_aae02 18 = .ok (.ireturn, 1) := by decide +kernel
theorem dJ5_inflateIfNeededFor_a7421_0 : decode cJ5_inflateIfNeededFor_a7421 0 = .ok (.getstatic 18, 3) := by decide +kernel
theorem dJ5_inflateIfNeededFor_a7421_3 : decode cJ5_inflateIfNeededFor_a7421 3 = .ok (.ifCond .eq 18, 3) := by decide +kernel
theorem dJ5_inflateIfNeededFor_a7421_6 : decode cJ5_inflateIfNeededFor_a7421 6 = .ok (.aload_n 0, 1) := by decide +kernel
theorem dJ5_inflateIfNeededFor_a7421_7 : decode cJ5_inflateIfNeededFor_a7421 7 = .ok (.getfield 22, 3) := by decide +kernel
theorem dJ5_inflateIfNeededFor_a7421_10 : decode cJ5_inflateIfNeededFor_a7421 10 = .ok (.aload_n 1, 1) := by decide +kernel
theorem dJ5_inflateIfNeededFor_a7421_11 : decode cJ5_inflateIfNeededFor_a7421 11 = .ok (.invokevirtual 40, 3) := by decide +kernel
theorem dJ5_inflateIfNeededFor_a7421_14 : decode cJ5_inflateIfNeededFor_a7421 14 = .ok (.if_icmp .eq 7, 3) := by decide +kernel
theorem dJ5_inflateIfNeededFor_a7421_17 : decode cJ5_inflateIfNeededFor_a7421 17 = .ok (.aload_n 0, 1) := by decide +kernel
theorem dJ5_inflateIfNeededFor_a7421_18 : decode cJ5_inflateIfNeededFor_a7421 18 = .ok (.invokevirtual 195, 3) := by decide +kernel
theorem dJ5_inflateIfNeededFor_a7421_21 : decode cJ5_inflateIfNeededFor_a7421 21 = .ok (.return_, 1) := by decide +kernel
theorem dJ5_putStringAt_47b60_0 : decode cJ5_putStringAt_47b60 0 = .ok (.aload_n 0, 1) := by decide +kernel
theorem dJ5_putStringAt_47b60_1 : decode cJ5_putStringAt_47b60 1 = .ok (.aload_n 2, 1) := by decide +kernel
theorem dJ5_putStringAt_47b60_2 : decode cJ5_putStringAt_47b60 2 = .ok (.invokevirtual 397, 3) := by decide +kernel
theorem dJ5_putStringAt_47b60_5 : decode cJ5_putStringAt_47b60 5 = .ok (.aload_n 2, 1) := by decide +kernel
theorem dJ5_putStringAt_47b60_6 : decode cJ5_putStringAt_47b60 6 = .ok (.aload_n 0, 1) := by decide +kernel
theorem dJ5_putStringAt_47b60_7 : decode cJ5_putStringAt_47b60 7 = .ok (.getfield 15, 3) := by decide +kernel
theorem dJ5_putStringAt_47b60_10 : decode cJ5_putStringAt_47b60 10 = .ok (.iload_n 1, 1) := by decide +kernel
theorem dJ5_putStringAt_47b60_11 : decode cJ5_putStringAt_47b60 11 = .ok (.aload_n 0, 1) := by decide +kernel
theorem dJ5_putStringAt_47b60_12 : decode cJ5_putStringAt_47b60 12 = .ok (.getfield 22, 3) := by decide +kernel
theorem dJ5_putStringAt_47b60_15 : decode cJ5_putStringAt_47b60 15 = .ok (.invokevirtual 399, 3) := by decide +kernel
theorem dJ5_putStringAt_47b60_18 : decode cJ5_putStringAt_47b60 18 = .ok (.return_, 1) := by decide +kernel
theorem dJ6_getChars_ba4f3_0 : decode cJ6_getChars_ba4f3 0 = .ok (.iload_n 1, 1) := by decide +kernel
theorem dJ6_getChars_ba4f3_1 : decode cJ6_getChars_ba4f3 1 = .ok (.istore 5, 2) := by decide +kernel
theorem dJ6_getChars_ba4f3_3 : decode cJ6_getChars_ba4f3 3 = .ok (.iload_n 0, 1) := by decide +kernel
theorem dJ6_getChars_ba4f3_4 : decode cJ6_getChars_ba4f3 4 = .ok (.ifCond .ge 7, 3) := by decide +kernel
theorem dJ6_getChars_ba4f3_7 : decode cJ6_getChars_ba4f3 7 = .ok (.iconst 1, 1) := by decide +kernel
theorem dJ6_getChars_ba4f3_8 : decode cJ6_getChars_ba4f3 8 = .ok (.goto 4, 3) := by decide +kernel
theorem dJ6_getChars_ba4f3_11 : decode cJ6_getChars_ba4f3 11 = .ok (.iconst 0, 1) := by decide +kernel
theorem dJ6_getChars_ba4f3_12 : decode cJ6_getChars_ba4f3 12 = .ok (.istore 6, 2) := by decide +kernel
theorem dJ6_getChars_ba4f3_14 : decode cJ6_getChars_ba4f3 14 = .ok (.iload 6, 2) := by decide +kernel
theorem dJ6_getChars_ba4f3_16 : decode cJ6_getChars_ba4f3 16 = .ok (.ifCond .ne 6, 3) := by decide +kernel
theorem dJ6_getChars_ba4f3_19 : decode cJ6_getChars_ba4f3 19 = .ok (.iload_n 0, 1) := by decide +kernel
theorem dJ6_getChars_ba4f3_20 : decode cJ6_getChars_ba4f3 20 = .ok (.ineg, 1) := by decide +kernel
theorem dJ6_getChars_ba4f3_21 : decode cJ6_getChars_ba4f3 21 = .ok (.istore_n 0, 1) := by decide +kernel
theorem dJ6_getChars_ba4f3_22 : decode cJ6_getChars_ba4f3 22 = .ok (.iload_n 0, 1) := by decide +kernel
theorem dJ6_getChars_ba4f3_23 : decode cJ6_getChars_ba4f3 23 = .ok (.bipush (-100), 2) := by decide +kernel
theorem dJ6_getChars_ba4f3_25 : decode cJ6_getChars_ba4f3 25 = .ok (.if_icmp .gt 47, 3) := by decide +kernel
theorem dJ6_getChars_ba4f3_28 : decode cJ6_getChars_ba4f3 28 = .ok (.iload_n 0, 1) := by decide +kernel
theorem dJ6_getChars_ba4f3_29 : decode cJ6_getChars_ba4f3 29 = .ok (.bipush 100, 2) := by decide +kernel
theorem dJ6_getChars_ba4f3_31 : decode cJ6_getChars_ba4f3 31 = .ok (.idiv, 1) := by decide +kernel
theorem dJ6_getChars_ba4f3_32 : decode cJ6_getChars_ba4f3 32 = .ok (.istore_n 3, 1) := by decide +kernel
theorem dJ6_getChars_ba4f3_33 : decode cJ6_getChars_ba4f3 33 = .ok (.iload_n 3, 1) := by decide +kernel
theorem dJ6_getChars_ba4f3_34 : decode cJ6_getChars_ba4f3 34 = .ok (.bipush 100, 2) := by decide +kernel
theorem dJ6_getChars_ba4f3_36 : decode cJ6_getChars_ba4f3 36 = .ok (.imul, 1) := by decide +kernel
theorem dJ6_getChars_ba4f3_37 : decode cJ6_getChars_ba4f3 37 = .ok (.iload_n 0, 1) := by decide +kernel
theorem dJ6_getChars_ba4f3_38 : decode cJ6_getChars_ba4f3 38 = .ok (.isub, 1) := by decide +kernel
theorem dJ6_getChars_ba4f3_39 : decode cJ6_getChars_ba4f3 39 = .ok (.istore 4, 2) := by decide +kernel
theorem dJ6_getChars_ba4f3_41 : decode cJ6_getChars_ba4f3 41 = .ok (.iload_n 3, 1) := by decide +kernel
theorem dJ6_getChars_ba4f3_42 : decode cJ6_getChars_ba4f3 42 = .ok (.istore_n 0, 1) := by decide +kernel
theorem dJ6_getChars_ba4f3_43 : decode cJ6_getChars_ba4f3 43 = .ok (.aload_n 2, 1) := by decide +kernel
theorem dJ6_getChars_ba4f3_44 : decode cJ6_getChars_ba4f3 44 = .ok (.iinc 5 (-1), 3) := by decide +kernel
theorem dJ6_getChars_ba4f3_47 : decode cJ6_getChars_ba4f3 47 = .ok (.iload 5, 2) := by decide +kernel
theorem dJ6_getChars_ba4f3_49 : decode cJ6_getChars_ba4f3 49 = .ok (.getstatic 83, 3) := by decide +kernel
theorem dJ6_getChars_ba4f3_52 : decode cJ6_getChars_ba4f3 52 = .ok (.iload 4, 2) := by decide +kernel
theorem dJ6_getChars_ba4f3_54 : decode cJ6_getChars_ba4f3 54 = .ok (.baload, 1) := by decide +kernel
theorem dJ6_getChars_ba4f3_55 : decode cJ6_getChars_ba4f3 55 = .ok (.bastore, 1) := by decide +kernel
theorem dJ6_getChars_ba4f3_56 : decode cJ6_getChars_ba4f3 56 = .ok (.aload_n 2, 1) := by decide +kernel
theorem dJ6_getChars_ba4f3_57 : decode cJ6_getChars_ba4f3 57 = .ok (.iinc 5 (-1), 3) := by decide +kernel
theorem dJ6_getChars_ba4f3_60 : decode cJ6_getChars_ba4f3 60 = .ok (.iload 5, 2) := by decide +kernel
theorem dJ6_getChars_ba4f3_62 : decode cJ6_getChars_ba4f3 62 = .ok (.getstatic 87, 3) := by decide +kernel
theorem dJ6_getChars_ba4f3_65 : decode cJ6_getChars_ba4f3 65 = .ok (.iload 4, 2) := by decide +kernel
theorem dJ6_getChars_ba4f3_67 : decode cJ6_getChars_ba4f3 67 = .ok (.baload, 1) := by decide +kernel
theorem dJ6_getChars_ba4f3_68 : decode cJ6_getChars_ba4f3 68 = .ok (.bastore, 1) := by decide +kernel
theorem dJ6_getChars_ba4f3_69 : decode cJ6_getChars_ba4f3 69 = .ok (.goto (-47), 3) := by decide +kernel
theorem dJ6_getChars_ba4f3_72 : decode cJ6_getChars_ba4f3 72 = .ok (.aload_n 2, 1) := by decide +kernel
theorem dJ6_getChars_ba4f3_73 : decode cJ6_getChars_ba4f3 73 = .ok (.iinc 5 (-1), 3) := by decide +kernel
theorem dJ6_getChars_ba4f3_76 : decode cJ6_getChars_ba4f3 76 = .ok (.iload 5, 2) := by decide +kernel
theorem dJ6_getChars_ba4f3_78 : decode cJ6_getChars_ba4f3 78 = .ok (.getstatic 83, 3) := by decide +kernel
theorem dJ6_getChars_ba4f3_81 : decode cJ6_getChars_ba4f3 81 = .ok (.iload_n 0, 1) := by decide +kernel
theorem dJ6_getChars_ba4f3_82 : decode cJ6_getChars_ba4f3 82 = .ok (.ineg, 1) := by decide +kernel
theorem dJ6_getChars_ba4f3_83 : decode cJ6_getChars_ba4f3 83 = .ok (.baload, 1) := by decide +kernel
theorem dJ6_getChars_ba4f3_84 : decode cJ6_getChars_ba4f3 84 = .ok (.bastore, 1) := by decide +kernel
theorem dJ6_getChars_ba4f3_85 : decode cJ6_getChars_ba4f3 85 = .ok (.iload_n 0, 1) := by decide +kernel
theorem dJ6_getChars_ba4f3_86 : decode cJ6_getChars_ba4f3 86 = .ok (.bipush (-9), 2) := by decide +kernel
theorem dJ6_getChars_ba4f3_88 : decode cJ6_getChars_ba4f3 88 = .ok (.if_icmp .ge 16, 3) := by decide +kernel
theorem dJ6_getChars_ba4f3_91 : decode cJ6_getChars_ba4f3 91 = .ok (.aload_n 2, 1) := by decide +kernel
theorem dJ6_getChars_ba4f3_92 : decode cJ6_getChars_ba4f3 92 = .ok (.iinc 5 (-1), 3) := by decide +kernel
theorem dJ6_getChars_ba4f3_95 : decode cJ6_getChars_ba4f3 95 = .ok (.iload 5, 2) := by decide +kernel
theorem dJ6_getChars_ba4f3_97 : decode cJ6_getChars_ba4f3 97 = .ok (.getstatic 87, 3) := by decide +kernel
theorem dJ6_getChars_ba4f3_100 : decode cJ6_getChars_ba4f3 100 = .ok (.iload_n 0, 1) := by decide +kernel
theorem dJ6_getChars_ba4f3_101 : decode cJ6_getChars_ba4f3 101 = .ok (.ineg, 1) := by decide +kernel
theorem dJ6_getChars_ba4f3_102 : decode cJ6_getChars_ba4f3 102 = .ok (.baload, 1) := by decide +kernel
theorem dJ6_getChars_ba4f3_103 : decode cJ6_getChars_ba4f3 103 = .ok (.bastore, 1) := by decide +kernel
theorem dJ6_getChars_ba4f3_104 : decode cJ6_getChars_ba4f3 104 = .ok (.iload 6, 2) := by decide +kernel
theorem dJ6_getChars_ba4f3_106 : decode cJ6_getChars_ba4f3 106 = .ok (.ifCond .eq 12, 3) := by decide +kernel
theorem dJ6_getChars_ba4f3_109 : decode cJ6_getChars_ba4f3 109 = .ok (.aload_n 2, 1) := by decide +kernel
theorem dJ6_getChars_ba4f3_110 : decode cJ6_getChars_ba4f3 110 = .ok (.iinc 5 (-1), 3) := by decide +kernel
theorem dJ6_getChars_ba4f3_113 : decode cJ6_getChars_ba4f3 113 = .ok (.iload 5, 2) := by decide +kernel
theorem dJ6_getChars_ba4f3_115 : decode cJ6_getChars_ba4f3 115 = .ok (.bipush 45, 2) := by decide +kernel
theorem dJ6_getChars_ba4f3_117 : decode cJ6_getChars_ba4f3 117 = .ok (.bastore, 1) := by decide +kernel
theorem dJ6_getChars_ba4f3_118 : decode cJ6_getChars_ba4f3 118 = .ok (.iload 5, 2) := by decide +kernel
theorem dJ6_getChars_ba4f3_120 : decode cJ6_getChars_ba4f3 120 = .ok (.ireturn, 1) := by decide +kernel
theorem dJ6_stringSize_0f7a4_0 : decode cJ6_stringSize_0f7a4 0 = .ok (.iconst 1, 1) := by decide +kernel
theorem dJ6_stringSize_0f7a4_1 : decode cJ6_stringSize_0f7a4 1 = .ok (.istore_n 1, 1) := by decide +kernel
theorem dJ6_stringSize_0f7a4_2 : decode cJ6_stringSize_0f7a4 2 = .ok (.iload_n 0, 1) := by decide +kernel
theorem dJ6_stringSize_0f7a4_3 : decode cJ6_stringSize_0f7a4 3 = .ok (.ifCond .lt 8, 3) := by decide +kernel
theorem dJ6_stringSize_0f7a4_6 : decode cJ6_stringSize_0f7a4 6 = .ok (.iconst 0, 1) := by decide +kernel
theorem dJ6_stringSize_0f7a4_7 : decode cJ6_stringSize_0f7a4 7 = .ok (.istore_n 1, 1) := by decide +kernel
theorem dJ6_stringSize_0f7a4_8 : decode cJ6_stringSize_0f7a4 8 = .ok (.iload_n 0, 1) := by decide +kernel
theorem dJ6_stringSize_0f7a4_9 : decode cJ6_stringSize_0f7a4 9 = .ok (.ineg, 1) := by decide +kernel
theorem dJ6_stringSize_0f7a4_10 : decode cJ6_stringSize_0f7a4 10 = .ok (.istore_n 0, 1) := by decide +kernel
theorem dJ6_stringSize_0f7a4_11 : decode cJ6_stringSize_0f7a4 11 = .ok (.bipush (-10), 2) := by decide +kernel
theorem dJ6_stringSize_0f7a4_13 : decode cJ6_stringSize_0f7a4 13 = .ok (.istore_n 2, 1) := by decide +kernel
theorem dJ6_stringSize_0f7a4_14 : decode cJ6_stringSize_0f7a4 14 = .ok (.iconst 1, 1) := by decide +kernel
theorem dJ6_stringSize_0f7a4_15 : decode cJ6_stringSize_0f7a4 15 = .ok (.istore_n 3, 1) := by decide +kernel
theorem dJ6_stringSize_0f7a4_16 : decode cJ6_stringSize_0f7a4 16 = .ok (.iload_n 3, 1) := by decide +kernel
theorem dJ6_stringSize_0f7a4_17 : decode cJ6_stringSize_0f7a4 17 = .ok (.bipush 10, 2) := by decide +kernel
theorem dJ6_stringSize_0f7a4_19 : decode cJ6_stringSize_0f7a4 19 = .ok (.if_icmp .ge 23, 3) := by decide +kernel
theorem dJ6_stringSize_0f7a4_22 : decode cJ6_stringSize_0f7a4 22 = .ok (.iload_n 0, 1) := by decide +kernel
theorem dJ6_stringSize_0f7a4_23 : decode cJ6_stringSize_0f7a4 23 = .ok (.iload_n 2, 1) := by decide +kernel
theorem dJ6_stringSize_0f7a4_24 : decode cJ6_stringSize_0f7a4 24 = .ok (.if_icmp .le 7, 3) := by decide +kernel
theorem dJ6_stringSize_0f7a4_27 : decode cJ6_stringSize_0f7a4 27 = .ok (.iload_n 3, 1) := by decide +kernel
theorem dJ6_stringSize_0f7a4_28 : decode cJ6_stringSize_0f7a4 28 = .ok (.iload_n 1, 1) := by decide +kernel
theorem dJ6_stringSize_0f7a4_29 : decode cJ6_stringSize_0f7a4 29 = .ok (.iadd, 1) := by decide +kernel
theorem dJ6_stringSize_0f7a4_30 : decode cJ6_stringSize_0f7a4 30 = .ok (.ireturn, 1) := by decide +kernel
theorem dJ6_stringSize_0f7a4_31 : decode cJ6_stringSize_0f7a4 31 = .ok (.bipush 10, 2) := by decide +kernel
theorem dJ6_stringSize_0f7a4_33 : decode cJ6_stringSize_0f7a4 33 = .ok (.iload_n 2, 1) := by decide +kernel
theorem dJ6_stringSize_0f7a4_34 : decode cJ6_stringSize_0f7a4 34 = .ok (.imul, 1) := by decide +kernel
theorem dJ6_stringSize_0f7a4_35 : decode cJ6_stringSize_0f7a4 35 = .ok (.istore_n 2, 1) := by decide +kernel
theorem dJ6_stringSize_0f7a4_36 : decode cJ6_stringSize_0f7a4 36 = .ok (.iinc 3 1, 3) := by decide +kernel
theorem dJ6_stringSize_0f7a4_39 : decode cJ6_stringSize_0f7a4 39 = .ok (.goto (-23), 3) := by decide +kernel
theorem dJ6_stringSize_0f7a4_42 : decode cJ6_stringSize_0f7a4 42 = .ok (.bipush 10, 2) := by decide +kernel
theorem dJ6_stringSize_0f7a4_44 : decode cJ6_stringSize_0f7a4 44 = .ok (.iload_n 1, 1) := by decide +kernel
theorem dJ6_stringSize_0f7a4_45 : decode cJ6_stringSize_0f7a4 45 = .ok (.iadd, 1) := by decide +kernel
theorem dJ6_stringSize_0f7a4_46 : decode cJ6_stringSize_0f7a4 46 = .ok (.ireturn, 1) := by decide +kernel
theorem dJ9_floorMod_7cf53_0 : decode cJ9_floorMod_7cf53 0 = .ok (.iload_n 0, 1) := by decide +kernel
theorem dJ9_floorMod_7cf53_1 : decode cJ9_floorMod_7cf53 1 = .ok (.iload_n 1, 1) := by decide +kernel
theorem dJ9_floorMod_7cf53_2 : decode cJ9_floorMod_7cf53 2 = .ok (.irem, 1) := by decide +kernel
theorem dJ9_floorMod_7cf53_3 : decode cJ9_floorMod_7cf53 3 = .ok (.istore_n 2, 1) := by decide +kernel
theorem dJ9_floorMod_7cf53_4 : decode cJ9_floorMod_7cf53 4 = .ok (.iload_n 0, 1) := by decide +kernel
theorem dJ9_floorMod_7cf53_5 : decode cJ9_floorMod_7cf53 5 = .ok (.iload_n 1, 1) := by decide +kernel
theorem dJ9_floorMod_7cf53_6 : decode cJ9_floorMod_7cf53 6 = .ok (.ixor, 1) := by decide +kernel
theorem dJ9_floorMod_7cf53_7 : decode cJ9_floorMod_7cf53 7 = .ok (.ifCond .ge 11, 3) := by decide +kernel
theorem dJ9_floorMod_7cf53_10 : decode cJ9_floorMod_7cf53 10 = .ok (.iload_n 2, 1) := by decide +kernel
theorem dJ9_floorMod_7cf53_11 : decode cJ9_floorMod_7cf53 11 = .ok (.ifCond .eq 7, 3) := by decide +kernel
theorem dJ9_floorMod_7cf53_14 : decode cJ9_floorMod_7cf53 14 = .ok (.iload_n 2, 1) := by decide +kernel
theorem dJ9_floorMod_7cf53_15 : decode cJ9_floorMod_7cf53 15 = .ok (.iload_n 1, 1) := by decide +kernel
theorem dJ9_floorMod_7cf53_16 : decode cJ9_floorMod_7cf53 16 = .ok (.iadd, 1) := by decide +kernel
theorem dJ9_floorMod_7cf53_17 : decode cJ9_floorMod_7cf53 17 = .ok (.ireturn, 1) := by decide +kernel
theorem dJ9_floorMod_7cf53_18 : decode cJ9_floorMod_7cf53 18 = .ok (.iload_n 2, 1) := by decide +kernel
theorem dJ9_floorMod_7cf53_19 : decode cJ9_floorMod_7cf53 19 = .ok (.ireturn, 1) := by decide +kernel
theorem dJ9_max_7cf53_0 : decode cJ9_max_7cf53 0 = .ok (.iload_n 0, 1) := by decide +kernel
theorem dJ9_max_7cf53_1 : decode cJ9_max_7cf53 1 = .ok (.iload_n 1, 1) := by decide +kernel
theorem dJ9_max_7cf53_2 : decode cJ9_max_7cf53 2 = .ok (.if_icmp .lt 7, 3) := by decide +kernel
theorem dJ9_max_7cf53_5 : decode cJ9_max_7cf53 5 = .ok (.iload_n 0, 1) := by decide +kernel
theorem dJ9_max_7cf53_6 : decode cJ9_max_7cf53 6 = .ok (.goto 4, 3) := by decide +kernel
theorem dJ9_max_7cf53_9 : decode cJ9_max_7cf53 9 = .ok (.iload_n 1, 1) := by decide +kernel
theorem dJ9_max_7cf53_10 : decode cJ9_max_7cf53 10 = .ok (.ireturn, 1) := by decide +kernel
theorem dJ9_min_7cf53_0 : decode cJ9_min_7cf53 0 = .ok (.iload_n 0, 1) := by decide +kernel
theorem dJ9_min_7cf53_1 : decode cJ9_min_7cf53 1 = .ok (.iload_n 1, 1) := by decide +kernel
theorem dJ9_min_7cf53_2 : decode cJ9_min_7cf53 2 = .ok (.if_icmp .gt 7, 3) := by decide +kernel
theorem dJ9_min_7cf53_5 : decode cJ9_min_7cf53 5 = .ok (.iload_n 0, 1) := by decide +kernel
theorem dJ9_min_7cf53_6 : decode cJ9_min_7cf53 6 = .ok (.goto 4, 3) := by decide +kernel
theorem dJ9_min_7cf53_9 : decode cJ9_min_7cf53 9 = .ok (.iload_n 1, 1) := by decide +kernel
theorem dJ9_min_7cf53_10 : decode cJ9_min_7cf53 10 = .ok (.ireturn, 1) := by decide +kernel
theorem dJ0_length_8abf5_0 : decode cJ0_length_8abf5 0 = .ok (.aload_n 0, 1) := by decide +kernel
theorem dJ0_length_8abf5_1 : decode cJ0_length_8abf5 1 = .ok (.getfield 9, 3) := by decide +kernel
theorem dJ0_length_8abf5_4 : decode cJ0_length_8abf5 4 = .ok (.arraylength, 1) := by decide +kernel
theorem dJ0_length_8abf5_5 : decode cJ0_length_8abf5 5 = .ok (.aload_n 0, 1) := by decide +kernel
theorem dJ0_length_8abf5_6 : decode cJ0_length_8abf5 6 = .ok (.invokevirtual 335, 3) := by decide +kernel
theorem dJ0_length_8abf5_9 : decode cJ0_length_8abf5 9 = .ok (.ishr, 1) := by decide +kernel
theorem dJ0_length_8abf5_10 : decode cJ0_length_8abf5 10 = .ok (.ireturn, 1) := by decide +kernel
theorem dJ0_charAt_5068e_0 : decode cJ0_charAt_5068e 0 = .ok (.aload_n 0, 1) := by decide +kernel
theorem dJ0_charAt_5068e_1 : decode cJ0_charAt_5068e 1 = .ok (.invokevirtual 492, 3) := by decide +kernel
theorem dJ0_charAt_5068e_4 : decode cJ0_charAt_5068e 4 = .ok (.ifCond .eq 12, 3) := by decide +kernel
theorem dJ0_charAt_5068e_7 : decode cJ0_charAt_5068e 7 = .ok (.aload_n 0, 1) := by decide +kernel
theorem dJ0_charAt_5068e_8 : decode cJ0_charAt_5068e 8 = .ok (.getfield 9, 3) := by decide +kernel
theorem dJ0_charAt_5068e_11 : decode cJ0_charAt_5068e 11 = .ok (.iload_n 1, 1) := by decide +kernel
theorem dJ0_charAt_5068e_12 : decode cJ0_charAt_5068e 12 = .ok (.invokestatic 495, 3) := by decide +kernel
theorem dJ0_charAt_5068e_15 : decode cJ0_charAt_5068e 15 = .ok (.ireturn, 1) := by decide +kernel
theorem dJ0_charAt_5068e_16 : decode cJ0_charAt_5068e 16 = .ok (.aload_n 0, 1) := by decide +kernel
theorem dJ0_charAt_5068e_17 : decode cJ0_charAt_5068e 17 = .ok (.getfield 9, 3) := by decide +kernel
theorem dJ0_charAt_5068e_20 : decode cJ0_charAt_5068e 20 = .ok (.iload_n 1, 1) := by decide +kernel
theorem dJ0_charAt_5068e_21 : decode cJ0_charAt_5068e 21 = .ok (.invokestatic 498, 3) := by decide +kernel
theorem dJ0_charAt_5068e_24 : decode cJ0_charAt_5068e 24 = .ok (.ireturn, 1) := by decide +kernel
theorem dJ0_getBytes_840e7_0 : decode cJ0_getBytes_840e7 0 = .ok (.aload_n 0, 1) := by decide +kernel
theorem dJ0_getBytes_840e7_1 : decode cJ0_getBytes_840e7 1 = .ok (.invokevirtual 335, 3) := by decide +kernel
theorem dJ0_getBytes_840e7_4 : decode cJ0_getBytes_840e7 4 = .ok (.iload_n 3, 1) := by decide +kernel
theorem dJ0_getBytes_840e7_5 : decode cJ0_getBytes_840e7 5 = .ok (.if_icmp .ne 23, 3) := by decide +kernel
theorem dJ0_getBytes_840e7_8 : decode cJ0_getBytes_840e7 8 = .ok (.aload_n 0, 1) := by decide +kernel
theorem dJ0_getBytes_840e7_9 : decode cJ0_getBytes_840e7 9 = .ok (.getfield 9, 3) := by decide +kernel
theorem dJ0_getBytes_840e7_12 : decode cJ0_getBytes_840e7 12 = .ok (.iconst 0, 1) := by decide +kernel
theorem dJ0_getBytes_840e7_13 : decode cJ0_getBytes_840e7 13 = .ok (.aload_n 1, 1) := by decide +kernel
theorem dJ0_getBytes_840e7_14 : decode cJ0_getBytes_840e7 14 = .ok (.iload_n 2, 1) := by decide +kernel
theorem dJ0_getBytes_840e7_15 : decode cJ0_getBytes_840e7 15 = .ok (.iload_n 3, 1) := by decide +kernel
theorem dJ0_getBytes_840e7_16 : decode cJ0_getBytes_840e7 16 = .ok (.ishl, 1) := by decide +kernel
theorem dJ0_getBytes_840e7_17 : decode cJ0_getBytes_840e7 17 = .ok (.aload_n 0, 1) := by decide +kernel
theorem dJ0_getBytes_840e7_18 : decode cJ0_getBytes_840e7 18 = .ok (.getfield 9, 3) := by decide +kernel
theorem dJ0_getBytes_840e7_21 : decode cJ0_getBytes_840e7 21 = .ok (.arraylength, 1) := by decide +kernel
theorem dJ0_getBytes_840e7_22 : decode cJ0_getBytes_840e7 22 = .ok (.invokestatic 212, 3) := by decide +kernel
theorem dJ0_getBytes_840e7_25 : decode cJ0_getBytes_840e7 25 = .ok (.goto 18, 3) := by decide +kernel
theorem dJ0_getBytes_840e7_28 : decode cJ0_getBytes_840e7 28 = .ok (.aload_n 0, 1) := by decide +kernel
theorem dJ0_getBytes_840e7_29 : decode cJ0_getBytes_840e7 29 = .ok (.getfield 9, 3) := by decide +kernel
theorem dJ0_getBytes_840e7_32 : decode cJ0_getBytes_840e7 32 = .ok (.iconst 0, 1) := by decide +kernel
theorem dJ0_getBytes_840e7_33 : decode cJ0_getBytes_840e7 33 = .ok (.aload_n 1, 1) := by decide +kernel
theorem dJ0_getBytes_840e7_34 : decode cJ0_getBytes_840e7 34 = .ok (.iload_n 2, 1) := by decide +kernel
theorem dJ0_getBytes_840e7_35 : decode cJ0_getBytes_840e7 35 = .ok (.aload_n 0, 1) := by decide +kernel
theorem dJ0_getBytes_840e7_36 : decode cJ0_getBytes_840e7 36 = .ok (.getfield 9, 3) := by decide +kernel
theorem dJ0_getBytes_840e7_39 : decode cJ0_getBytes_840e7 39 = .ok (.arraylength, 1) := by decide +kernel
theorem dJ0_getBytes_840e7_40 : decode cJ0_getBytes_840e7 40 = .ok (.invokestatic 106, 3) := by decide +kernel
theorem dJ0_getBytes_840e7_43 : decode cJ0_getBytes_840e7 43 = .ok (.return_, 1) := by decide +kernel
theorem dJ0_coder_7d493_0 : decode cJ0_coder_7d493 0 = .ok (.getstatic 38, 3) := by decide +kernel
theorem dJ0_coder_7d493_3 : decode cJ0_coder_7d493 3 = .ok (.ifCond .eq 10, 3) := by decide +kernel
theorem dJ0_coder_7d493_6 : decode cJ0_coder_7d493 6 = .ok (.aload_n 0, 1) := by decide +kernel
theorem dJ0_coder_7d493_7 : decode cJ0_coder_7d493 7 = .ok (.getfield 15, 3) := by decide +kernel
theorem dJ0_coder_7d493_10 : decode cJ0_coder_7d493 10 = .ok (.goto 4, 3) := by decide +kernel
theorem dJ0_coder_7d493_13 : decode cJ0_coder_7d493 13 = .ok (.iconst 1, 1) := by decide +kernel
theorem dJ0_coder_7d493_14 : decode cJ0_coder_7d493 14 = .ok (.ireturn, 1) := by decide +kernel
theorem dJ0_isLatin1_aae02_0 : decode cJ0_isLatin1_aae02 0 = .ok (.getstatic 38, 3) := by decide +kernel
theorem dJ0_isLatin1_aae02_3 : decode cJ0_isLatin1_aae02 3 = .ok (.ifCond .eq 14, 3) := by decide +kernel
theorem dJ0_isLatin1_aae02_6 : decode cJ0_isLatin1_aae02 6 = .ok (.aload_n 0, 1) := by decide +kernel
theorem dJ0_isLatin1_aae02_7 : decode cJ0_isLatin1_aae02 7 = .ok (.getfield 15, 3) := by decide +kernel
theorem dJ0_isLatin1_aae02_10 : decode cJ0_isLatin1_aae02 10 = .ok (.ifCond .ne 7, 3) := by decide +kernel
theorem dJ0_isLatin1_aae02_13 : decode cJ0_isLatin1_aae02 13 = .ok (.iconst 1, 1) := by decide +kernel
theorem dJ0_isLatin1_aae02_14 : decode cJ0_isLatin1_aae02 14 = .ok (.goto 4, 3) := by decide +kernel
theorem dJ0_isLatin1_aae02_17 : decode cJ0_isLatin1_aae02 17 = .ok (.iconst 0, 1) := by decide +kernel
theorem dJ0_isLatin1_aae02_18 : decode cJ0_isLatin1_aae02 18 = .ok (.ireturn, 1) := by decide +kernel
theorem dJ0_checkIndex_df160_0 : decode cJ0_checkIndex_df160 0 = .ok (.iload_n 0, 1) := by decide +kernel
theorem dJ0_checkIndex_df160_1 : decode cJ0_checkIndex_df160 1 = .ok (.iload_n 1, 1) := by decide +kernel
theorem dJ0_checkIndex_df160_2 : decode cJ0_checkIndex_df160 2 = .ok (.getstatic 1053, 3) := by decide +kernel
theorem dJ0_checkIndex_df160_5 : decode cJ0_checkIndex_df160 5 = .ok (.invokestatic 1059, 3) := by decide +kernel
theorem dJ0_checkIndex_df160_8 : decode cJ0_checkIndex_df160 8 = .ok (.pop, 1) := by decide +kernel
theorem dJ0_checkIndex_df160_9 : decode cJ0_checkIndex_df160 9 = .ok (.return_, 1) := by decide +kernel
theorem dJ0_checkBoundsOffCount_cabcc_0 : decode cJ0_checkBoundsOffCount_cabcc 0 = .ok (.iload_n 0, 1) := by decide +kernel
theorem dJ0_checkBoundsOffCount_cabcc_1 : decode cJ0_checkBoundsOffCount_cabcc 1 = .ok (.iload_n 1, 1) := by decide +kernel
theorem dJ0_checkBoundsOffCount_cabcc_2 : decode cJ0_checkBoundsOffCount_cabcc 2 = .ok (.iload_n 2, 1) := by decide +kernel
theorem dJ0_checkBoundsOffCount_cabcc_3 : decode cJ0_checkBoundsOffCount_cabcc 3 = .ok (.getstatic 1053, 3) := by decide +kernel
theorem dJ0_checkBoundsOffCount_cabcc_6 : decode cJ0_checkBoundsOffCount_cabcc 6 = .ok (.invokestatic 1065, 3) := by decide +kernel
theorem dJ0_checkBoundsOffCount_cabcc_9 : decode cJ0_checkBoundsOffCount_cabcc 9 = .ok (.ireturn, 1) := by decide +kernel
theorem dJ0_checkBoundsBeginEnd_23922_0 : decode cJ0_checkBoundsBeginEnd_23922 0 = .ok (.iload_n 0, 1) := by decide +kernel
theorem dJ0_checkBoundsBeginEnd_23922_1 : decode cJ0_checkBoundsBeginEnd_23922 1 = .ok (.iload_n 1, 1) := by decide +kernel
theorem dJ0_checkBoundsBeginEnd_23922_2 : decode cJ0_checkBoundsBeginEnd_23922 2 = .ok (.iload_n 2, 1) := by decide +kernel
theorem dJ0_checkBoundsBeginEnd_23922_3 : decode cJ0_checkBoundsBeginEnd_23922 3 = .ok (.getstatic 1053, 3) := by decide +kernel
theorem dJ0_checkBoundsBeginEnd_23922_6 : decode cJ0_checkBoundsBeginEnd_23922 6 = .ok (.invokestatic 1062, 3) := by decide +kernel
theorem dJ0_checkBoundsBeginEnd_23922_9 : decode cJ0_checkBoundsBeginEnd_23922 9 = .ok (.pop, 1) := by decide +kernel
theorem dJ0_checkBoundsBeginEnd_23922_10 : decode cJ0_checkBoundsBeginEnd_23922 10 = .ok (.return_, 1) := by decide +kernel
theorem dJ4_init_da8c8_0 : decode cJ4_init_da8c8 0 = .ok (.aload_n 0, 1) := by decide +kernel
theorem dJ4_init_da8c8_1 : decode cJ4_init_da8c8 1 = .ok (.bipush 16, 2) := by decide +kernel
theorem dJ4_init_da8c8_3 : decode cJ4_init_da8c8 3 = .ok (.invokespecial 1, 3) := by decide +kernel
theorem dJ4_init_da8c8_6 : decode cJ4_init_da8c8 6 = .ok (.return_, 1) := by decide +kernel
theorem dJ4_append_15ec4_0 : decode cJ4_append_15ec4 0 = .ok (.aload_n 0, 1) := by decide +kernel
theorem dJ4_append_15ec4_1 : decode cJ4_append_15ec4 1 = .ok (.aload_n 1, 1) := by decide +kernel
theorem dJ4_append_15ec4_2 : decode cJ4_append_15ec4 2 = .ok (.invokespecial 29, 3) := by decide +kernel
theorem dJ4_append_15ec4_5 : decode cJ4_append_15ec4 5 = .ok (.pop, 1) := by decide +kernel
theorem dJ4_append_15ec4_6 : decode cJ4_append_15ec4 6 = .ok (.aload_n 0, 1) := by decide +kernel
theorem dJ4_append_15ec4_7 : decode cJ4_append_15ec4 7 = .ok (.areturn, 1) := by decide +kernel
theorem dJ4_append_cf468_0 : decode cJ4_append_cf468 0 = .ok (.aload_n 0, 1) := by decide +kernel
theorem dJ4_append_cf468_1 : decode cJ4_append_cf468 1 = .ok (.iload_n 1, 1) := by decide +kernel
theorem dJ4_append_cf468_2 : decode cJ4_append_cf468 2 = .ok (.invokespecial 50, 3) := by decide +kernel
theorem dJ4_append_cf468_5 : decode cJ4_append_cf468 5 = .ok (.pop, 1) := by decide +kernel
theorem dJ4_append_cf468_6 : decode cJ4_append_cf468 6 = .ok (.aload_n 0, 1) := by decide +kernel
theorem dJ4_append_cf468_7 : decode cJ4_append_cf468 7 = .ok (.areturn, 1) := by decide +kernel
theorem dJ4_append_bf812_0 : decode cJ4_append_bf812 0 = .ok (.aload_n 0, 1) := by decide +kernel
theorem dJ4_append_bf812_1 : decode cJ4_append_bf812 1 = .ok (.iload_n 1, 1) := by decide +kernel
theorem dJ4_append_bf812_2 : decode cJ4_append_bf812 2 = .ok (.invokespecial 53, 3) := by decide +kernel
theorem dJ4_append_bf812_5 : decode cJ4_append_bf812 5 = .ok (.pop, 1) := by decide +kernel
theorem dJ4_append_bf812_6 : decode cJ4_append_bf812 6 = .ok (.aload_n 0, 1) := by decide +kernel
theorem dJ4_append_bf812_7 : decode cJ4_append_bf812 7 = .ok (.areturn, 1) := by decide +kernel
theorem dJ4_charAt_5068e_0 : decode cJ4_charAt_5068e 0 = .ok (.aload_n 0, 1) := by decide +kernel
theorem dJ4_charAt_5068e_1 : decode cJ4_charAt_5068e 1 = .ok (.iload_n 1, 1) := by decide +kernel
theorem dJ4_charAt_5068e_2 : decode cJ4_charAt_5068e 2 = .ok (.invokespecial 329, 3) := by decide +kernel
theorem dJ4_charAt_5068e_5 : decode cJ4_charAt_5068e 5 = .ok (.ireturn, 1) := by decide +kernel
theorem dJ4_length_8abf5_0 : decode cJ4_length_8abf5 0 = .ok (.aload_n 0, 1) := by decide +kernel
theorem dJ4_length_8abf5_1 : decode cJ4_length_8abf5 1 = .ok (.invokespecial 343, 3) := by decide +kernel
theorem dJ4_length_8abf5_4 : decode cJ4_length_8abf5 4 = .ok (.ireturn, 1) := by decide +kernel
theorem dJ1_charAt_3b067_0 : decode cJ1_charAt_3b067 0 = .ok (.iload_n 1, 1) := by decide +kernel
theorem dJ1_charAt_3b067_1 : decode cJ1_charAt_3b067 1 = .ok (.aload_n 0, 1) := by decide +kernel
theorem dJ1_charAt_3b067_2 : decode cJ1_charAt_3b067 2 = .ok (.arraylength, 1) := by decide +kernel
theorem dJ1_charAt_3b067_3 : decode cJ1_charAt_3b067 3 = .ok (.invokestatic 9, 3) := by decide +kernel
theorem dJ1_charAt_3b067_6 : decode cJ1_charAt_3b067 6 = .ok (.aload_n 0, 1) := by decide +kernel
theorem dJ1_charAt_3b067_7 : decode cJ1_charAt_3b067 7 = .ok (.iload_n 1, 1) := by decide +kernel
theorem dJ1_charAt_3b067_8 : decode cJ1_charAt_3b067 8 = .ok (.baload, 1) := by decide +kernel
theorem dJ1_charAt_3b067_9 : decode cJ1_charAt_3b067 9 = .ok (.sipush 255, 3) := by decide +kernel
theorem dJ1_charAt_3b067_12 : decode cJ1_charAt_3b067 12 = .ok (.iand, 1) := by decide +kernel
theorem dJ1_charAt_3b067_13 : decode cJ1_charAt_3b067 13 = .ok (.i2c, 1) := by decide +kernel
theorem dJ1_charAt_3b067_14 : decode cJ1_charAt_3b067 14 = .ok (.ireturn, 1) := by decide +kernel
theorem dJ1_canEncode_fc78d_0 : decode cJ1_canEncode_fc78d 0 = .ok (.iload_n 0, 1) := by decide +kernel
theorem dJ1_canEncode_fc78d_1 : decode cJ1_canEncode_fc78d 1 = .ok (.sipush 255, 3) := by decide +kernel
theorem dJ1_canEncode_fc78d_4 : decode cJ1_canEncode_fc78d 4 = .ok (.if_icmp .gt 7, 3) := by decide +kernel
theorem dJ1_canEncode_fc78d_7 : decode cJ1_canEncode_fc78d 7 = .ok (.iconst 1, 1) := by decide +kernel
theorem dJ1_canEncode_fc78d_8 : decode cJ1_canEncode_fc78d 8 = .ok (.goto 4, 3) := by decide +kernel
theorem dJ1_canEncode_fc78d_11 : decode cJ1_canEncode_fc78d 11 = .ok (.iconst 0, 1) := by decide +kernel
theorem dJ1_canEncode_fc78d_12 : decode cJ1_canEncode_fc78d 12 = .ok (.ireturn, 1) := by decide +kernel
theorem dJ1_inflate_0e8fd_0 : decode cJ1_inflate_0e8fd 0 = .ok (.aload_n 0, 1) := by decide +kernel
theorem dJ1_inflate_0e8fd_1 : decode cJ1_inflate_0e8fd 1 = .ok (.iload_n 1, 1) := by decide +kernel
theorem dJ1_inflate_0e8fd_2 : decode cJ1_inflate_0e8fd 2 = .ok (.aload_n 2, 1) := by decide +kernel
theorem dJ1_inflate_0e8fd_3 : decode cJ1_inflate_0e8fd 3 = .ok (.iload_n 3, 1) := by decide +kernel
theorem dJ1_inflate_0e8fd_4 : decode cJ1_inflate_0e8fd 4 = .ok (.iload 4, 2) := by decide +kernel
theorem dJ1_inflate_0e8fd_6 : decode cJ1_inflate_0e8fd 6 = .ok (.invokestatic 240, 3) := by decide +kernel
theorem dJ1_inflate_0e8fd_9 : decode cJ1_inflate_0e8fd 9 = .ok (.return_, 1) := by decide +kernel
theorem dJ2_newBytesFor_77867_0 : decode cJ2_newBytesFor_77867 0 = .ok (.iload_n 0, 1) := by decide +kernel
theorem dJ2_newBytesFor_77867_1 : decode cJ2_newBytesFor_77867 1 = .ok (.invokestatic 11, 3) := by decide +kernel
theorem dJ2_newBytesFor_77867_4 : decode cJ2_newBytesFor_77867 4 = .ok (.newarray .byte, 2) := by decide +kernel
theorem dJ2_newBytesFor_77867_6 : decode cJ2_newBytesFor_77867 6 = .ok (.areturn, 1) := by decide +kernel
theorem dJ2_newBytesLength_0f7a4_0 : decode cJ2_newBytesLength_0f7a4 0 = .ok (.iload_n 0, 1) := by decide +kernel
theorem dJ2_newBytesLength_0f7a4_1 : decode cJ2_newBytesLength_0f7a4 1 = .ok (.ifCond .ge 11, 3) := by decide +kernel
theorem dJ2_newBytesLength_0f7a4_4 : decode cJ2_newBytesLength_0f7a4 4 = .ok (.new 17, 3) := by decide +kernel
theorem dJ2_newBytesLength_0f7a4_7 : decode cJ2_newBytesLength_0f7a4 7 = .ok (.dup, 1) := by decide +kernel
theorem dJ2_newBytesLength_0f7a4_8 : decode cJ2_newBytesLength_0f7a4 8 = .ok (.invokespecial 19, 3) := by decide +kernel
theorem dJ2_newBytesLength_0f7a4_11 : decode cJ2_newBytesLength_0f7a4 11 = .ok (.athrow, 1) := by decide +kernel
theorem dJ2_newBytesLength_0f7a4_12 : decode cJ2_newBytesLength_0f7a4 12 = .ok (.iload_n 0, 1) := by decide +kernel
theorem dJ2_newBytesLength_0f7a4_13 : decode cJ2_newBytesLength_0f7a4 13 = .ok (.ldc 20, 2) := by decide +kernel
theorem dJ2_newBytesLength_0f7a4_15 : decode cJ2_newBytesLength_0f7a4 15 = .ok (.if_icmp .lt 40, 3) := by decide +kernel
theorem dJ2_newBytesLength_0f7a4_18 : decode cJ2_newBytesLength_0f7a4 18 = .ok (.new 21, 3) := by decide +kernel
theorem dJ2_newBytesLength_0f7a4_21 : decode cJ2_newBytesLength_0f7a4 21 = .ok (.dup, 1) := by decide +kernel
theorem dJ2_newBytesLength_0f7a4_22 : decode cJ2_newBytesLength_0f7a4 22 = .ok (.new 23, 3) := by decide +kernel
theorem dJ2_newBytesLength_0f7a4_25 : decode cJ2_newBytesLength_0f7a4 25 = .ok (.dup, 1) := by decide +kernel
theorem dJ2_newBytesLength_0f7a4_26 : decode cJ2_newBytesLength_0f7a4 26 = .ok (.invokespecial 25, 3) := by decide +kernel
theorem dJ2_newBytesLength_0f7a4_29 : decode cJ2_newBytesLength_0f7a4 29 = .ok (.ldc 26, 2) := by decide +kernel
theorem dJ2_newBytesLength_0f7a4_31 : decode cJ2_newBytesLength_0f7a4 31 = .ok (.invokevirtual 28, 3) := by decide +kernel
theorem dJ2_newBytesLength_0f7a4_34 : decode cJ2_newBytesLength_0f7a4 34 = .ok (.iload_n 0, 1) := by decide +kernel
theorem dJ2_newBytesLength_0f7a4_35 : decode cJ2_newBytesLength_0f7a4 35 = .ok (.invokevirtual 32, 3) := by decide +kernel
theorem dJ2_newBytesLength_0f7a4_38 : decode cJ2_newBytesLength_0f7a4 38 = .ok (.ldc 35, 2) := by decide +kernel
theorem dJ2_newBytesLength_0f7a4_40 : decode cJ2_newBytesLength_0f7a4 40 = .ok (.invokevirtual 28, 3) := by decide +kernel
theorem dJ2_newBytesLength_0f7a4_43 : decode cJ2_newBytesLength_0f7a4 43 = .ok (.ldc 20, 2) := by decide +kernel
theorem dJ2_newBytesLength_0f7a4_45 : decode cJ2_newBytesLength_0f7a4 45 = .ok (.invokevirtual 32, 3) := by decide +kernel
theorem dJ2_newBytesLength_0f7a4_48 : decode cJ2_newBytesLength_0f7a4 48 = .ok (.invokevirtual 37, 3) := by decide +kernel
theorem dJ2_newBytesLength_0f7a4_51 : decode cJ2_newBytesLength_0f7a4 51 = .ok (.invokespecial 41, 3) := by decide +kernel
theorem dJ2_newBytesLength_0f7a4_54 : decode cJ2_newBytesLength_0f7a4 54 = .ok (.athrow, 1) := by decide +kernel
theorem dJ2_newBytesLength_0f7a4_55 : decode cJ2_newBytesLength_0f7a4 55 = .ok (.iload_n 0, 1) := by decide +kernel
theorem dJ2_newBytesLength_0f7a4_56 : decode cJ2_newBytesLength_0f7a4 56 = .ok (.iconst 1, 1) := by decide +kernel
theorem dJ2_newBytesLength_0f7a4_57 : decode cJ2_newBytesLength_0f7a4 57 = .ok (.ishl, 1) := by decide +kernel
theorem dJ2_newBytesLength_0f7a4_58 : decode cJ2_newBytesLength_0f7a4 58 = .ok (.ireturn, 1) := by decide +kernel
theorem dJ2_putChar_b72d1_0 : decode cJ2_putChar_b72d1 0 = .ok (.getstatic 44, 3) := by decide +kernel
theorem dJ2_putChar_b72d1_3 : decode cJ2_putChar_b72d1 3 = .ok (.ifCond .ne 25, 3) := by decide +kernel
theorem dJ2_putChar_b72d1_6 : decode cJ2_putChar_b72d1 6 = .ok (.iload_n 1, 1) := by decide +kernel
theorem dJ2_putChar_b72d1_7 : decode cJ2_putChar_b72d1 7 = .ok (.ifCond .lt 11, 3) := by decide +kernel
theorem dJ2_putChar_b72d1_10 : decode cJ2_putChar_b72d1 10 = .ok (.iload_n 1, 1) := by decide +kernel
theorem dJ2_putChar_b72d1_11 : decode cJ2_putChar_b72d1 11 = .ok (.aload_n 0, 1) := by decide +kernel
theorem dJ2_putChar_b72d1_12 : decode cJ2_putChar_b72d1 12 = .ok (.invokestatic 48, 3) := by decide +kernel
theorem dJ2_putChar_b72d1_15 : decode cJ2_putChar_b72d1 15 = .ok (.if_icmp .lt 13, 3) := by decide +kernel
theorem dJ2_putChar_b72d1_18 : decode cJ2_putChar_b72d1 18 = .ok (.new 52, 3) := by decide +kernel
theorem dJ2_putChar_b72d1_21 : decode cJ2_putChar_b72d1 21 = .ok (.dup, 1) := by decide +kernel
theorem dJ2_putChar_b72d1_22 : decode cJ2_putChar_b72d1 22 = .ok (.ldc 54, 2) := by decide +kernel
theorem dJ2_putChar_b72d1_24 : decode cJ2_putChar_b72d1 24 = .ok (.invokespecial 56, 3) := by decide +kernel
theorem dJ2_putChar_b72d1_27 : decode cJ2_putChar_b72d1 27 = .ok (.athrow, 1) := by decide +kernel
theorem dJ2_putChar_b72d1_28 : decode cJ2_putChar_b72d1 28 = .ok (.iload_n 1, 1) := by decide +kernel
theorem dJ2_putChar_b72d1_29 : decode cJ2_putChar_b72d1 29 = .ok (.iconst 1, 1) := by decide +kernel
theorem dJ2_putChar_b72d1_30 : decode cJ2_putChar_b72d1 30 = .ok (.ishl, 1) := by decide +kernel
theorem dJ2_putChar_b72d1_31 : decode cJ2_putChar_b72d1 31 = .ok (.istore_n 1, 1) := by decide +kernel
theorem dJ2_putChar_b72d1_32 : decode cJ2_putChar_b72d1 32 = .ok (.aload_n 0, 1) := by decide +kernel
theorem dJ2_putChar_b72d1_33 : decode cJ2_putChar_b72d1 33 = .ok (.iload_n 1, 1) := by decide +kernel
theorem dJ2_putChar_b72d1_34 : decode cJ2_putChar_b72d1 34 = .ok (.iinc 1 1, 3) := by decide +kernel
theorem dJ2_putChar_b72d1_37 : decode cJ2_putChar_b72d1 37 = .ok (.iload_n 2, 1) := by decide +kernel
theorem dJ2_putChar_b72d1_38 : decode cJ2_putChar_b72d1 38 = .ok (.getstatic 59, 3) := by decide +kernel
theorem dJ2_putChar_b72d1_41 : decode cJ2_putChar_b72d1 41 = .ok (.ishr, 1) := by decide +kernel
theorem dJ2_putChar_b72d1_42 : decode cJ2_putChar_b72d1 42 = .ok (.i2b, 1) := by decide +kernel
theorem dJ2_putChar_b72d1_43 : decode cJ2_putChar_b72d1 43 = .ok (.bastore, 1) := by decide +kernel
theorem dJ2_putChar_b72d1_44 : decode cJ2_putChar_b72d1 44 = .ok (.aload_n 0, 1) := by decide +kernel
theorem dJ2_putChar_b72d1_45 : decode cJ2_putChar_b72d1 45 = .ok (.iload_n 1, 1) := by decide +kernel
theorem dJ2_putChar_b72d1_46 : decode cJ2_putChar_b72d1 46 = .ok (.iload_n 2, 1) := by decide +kernel
theorem dJ2_putChar_b72d1_47 : decode cJ2_putChar_b72d1 47 = .ok (.getstatic 63, 3) := by decide +kernel
theorem dJ2_putChar_b72d1_50 : decode cJ2_putChar_b72d1 50 = .ok (.ishr, 1) := by decide +kernel
theorem dJ2_putChar_b72d1_51 : decode cJ2_putChar_b72d1 51 = .ok (.i2b, 1) := by decide +kernel
theorem dJ2_putChar_b72d1_52 : decode cJ2_putChar_b72d1 52 = .ok (.bastore, 1) := by decide +kernel
theorem dJ2_putChar_b72d1_53 : decode cJ2_putChar_b72d1 53 = .ok (.return_, 1) := by decide +kernel
theorem dJ2_getChar_3b067_0 : decode cJ2_getChar_3b067 0 = .ok (.getstatic 44, 3) := by decide +kernel
theorem dJ2_getChar_3b067_3 : decode cJ2_getChar_3b067 3 = .ok (.ifCond .ne 25, 3) := by decide +kernel
theorem dJ2_getChar_3b067_6 : decode cJ2_getChar_3b067 6 = .ok (.iload_n 1, 1) := by decide +kernel
theorem dJ2_getChar_3b067_7 : decode cJ2_getChar_3b067 7 = .ok (.ifCond .lt 11, 3) := by decide +kernel
theorem dJ2_getChar_3b067_10 : decode cJ2_getChar_3b067 10 = .ok (.iload_n 1, 1) := by decide +kernel
theorem dJ2_getChar_3b067_11 : decode cJ2_getChar_3b067 11 = .ok (.aload_n 0, 1) := by decide +kernel
theorem dJ2_getChar_3b067_12 : decode cJ2_getChar_3b067 12 = .ok (.invokestatic 48, 3) := by decide +kernel
theorem dJ2_getChar_3b067_15 : decode cJ2_getChar_3b067 15 = .ok (.if_icmp .lt 13, 3) := by decide +kernel
theorem dJ2_getChar_3b067_18 : decode cJ2_getChar_3b067 18 = .ok (.new 52, 3) := by decide +kernel
theorem dJ2_getChar_3b067_21 : decode cJ2_getChar_3b067 21 = .ok (.dup, 1) := by decide +kernel
theorem dJ2_getChar_3b067_22 : decode cJ2_getChar_3b067 22 = .ok (.ldc 54, 2) := by decide +kernel
theorem dJ2_getChar_3b067_24 : decode cJ2_getChar_3b067 24 = .ok (.invokespecial 56, 3) := by decide +kernel
theorem dJ2_getChar_3b067_27 : decode cJ2_getChar_3b067 27 = .ok (.athrow, 1) := by decide +kernel
theorem dJ2_getChar_3b067_28 : decode cJ2_getChar_3b067 28 = .ok (.iload_n 1, 1) := by decide +kernel
theorem dJ2_getChar_3b067_29 : decode cJ2_getChar_3b067 29 = .ok (.iconst 1, 1) := by decide +kernel
theorem dJ2_getChar_3b067_30 : decode cJ2_getChar_3b067 30 = .ok (.ishl, 1) := by decide +kernel
theorem dJ2_getChar_3b067_31 : decode cJ2_getChar_3b067 31 = .ok (.istore_n 1, 1) := by decide +kernel
theorem dJ2_getChar_3b067_32 : decode cJ2_getChar_3b067 32 = .ok (.aload_n 0, 1) := by decide +kernel
theorem dJ2_getChar_3b067_33 : decode cJ2_getChar_3b067 33 = .ok (.iload_n 1, 1) := by decide +kernel
theorem dJ2_getChar_3b067_34 : decode cJ2_getChar_3b067 34 = .ok (.iinc 1 1, 3) := by decide +kernel
theorem dJ2_getChar_3b067_37 : decode cJ2_getChar_3b067 37 = .ok (.baload, 1) := by decide +kernel
theorem dJ2_getChar_3b067_38 : decode cJ2_getChar_3b067 38 = .ok (.sipush 255, 3) := by decide +kernel
theorem dJ2_getChar_3b067_41 : decode cJ2_getChar_3b067 41 = .ok (.iand, 1) := by decide +kernel
theorem dJ2_getChar_3b067_42 : decode cJ2_getChar_3b067 42 = .ok (.getstatic 59, 3) := by decide +kernel
theorem dJ2_getChar_3b067_45 : decode cJ2_getChar_3b067 45 = .ok (.ishl, 1) := by decide +kernel
theorem dJ2_getChar_3b067_46 : decode cJ2_getChar_3b067 46 = .ok (.aload_n 0, 1) := by decide +kernel
theorem dJ2_getChar_3b067_47 : decode cJ2_getChar_3b067 47 = .ok (.iload_n 1, 1) := by decide +kernel
theorem dJ2_getChar_3b067_48 : decode cJ2_getChar_3b067 48 = .ok (.baload, 1) := by decide +kernel
theorem dJ2_getChar_3b067_49 : decode cJ2_getChar_3b067 49 = .ok (.sipush 255, 3) := by decide +kernel
theorem dJ2_getChar_3b067_52 : decode cJ2_getChar_3b067 52 = .ok (.iand, 1) := by decide +kernel
theorem dJ2_getChar_3b067_53 : decode cJ2_getChar_3b067 53 = .ok (.getstatic 63, 3) := by decide +kernel
theorem dJ2_getChar_3b067_56 : decode cJ2_getChar_3b067 56 = .ok (.ishl, 1) := by decide +kernel
theorem dJ2_getChar_3b067_57 : decode cJ2_getChar_3b067 57 = .ok (.ior, 1) := by decide +kernel
theorem dJ2_getChar_3b067_58 : decode cJ2_getChar_3b067 58 = .ok (.i2c, 1) := by decide +kernel
theorem dJ2_getChar_3b067_59 : decode cJ2_getChar_3b067 59 = .ok (.ireturn, 1) := by decide +kernel
theorem dJ2_length_9d52b_0 : decode cJ2_length_9d52b 0 = .ok (.aload_n 0, 1) := by decide +kernel
theorem dJ2_length_9d52b_1 : decode cJ2_length_9d52b 1 = .ok (.arraylength, 1) := by decide +kernel
theorem dJ2_length_9d52b_2 : decode cJ2_length_9d52b 2 = .ok (.iconst 1, 1) := by decide +kernel
theorem dJ2_length_9d52b_3 : decode cJ2_length_9d52b 3 = .ok (.ishr, 1) := by decide +kernel
theorem dJ2_length_9d52b_4 : decode cJ2_length_9d52b 4 = .ok (.ireturn, 1) := by decide +kernel
theorem dJ2_putCharSB_b72d1_0 : decode cJ2_putCharSB_b72d1 0 = .ok (.iload_n 1, 1) := by decide +kernel
theorem dJ2_putCharSB_b72d1_1 : decode cJ2_putCharSB_b72d1 1 = .ok (.aload_n 0, 1) := by decide +kernel
theorem dJ2_putCharSB_b72d1_2 : decode cJ2_putCharSB_b72d1 2 = .ok (.invokestatic 67, 3) := by decide +kernel
theorem dJ2_putCharSB_b72d1_5 : decode cJ2_putCharSB_b72d1 5 = .ok (.aload_n 0, 1) := by decide +kernel
theorem dJ2_putCharSB_b72d1_6 : decode cJ2_putCharSB_b72d1 6 = .ok (.iload_n 1, 1) := by decide +kernel
theorem dJ2_putCharSB_b72d1_7 : decode cJ2_putCharSB_b72d1 7 = .ok (.iload_n 2, 1) := by decide +kernel
theorem dJ2_putCharSB_b72d1_8 : decode cJ2_putCharSB_b72d1 8 = .ok (.invokestatic 111, 3) := by decide +kernel
theorem dJ2_putCharSB_b72d1_11 : decode cJ2_putCharSB_b72d1 11 = .ok (.return_, 1) := by decide +kernel
theorem dJ2_getChars_46870_0 : decode cJ2_getChars_46870 0 = .ok (.iload_n 1, 1) := by decide +kernel
theorem dJ2_getChars_46870_1 : decode cJ2_getChars_46870 1 = .ok (.iload_n 2, 1) := by decide +kernel
theorem dJ2_getChars_46870_2 : decode cJ2_getChars_46870 2 = .ok (.aload_n 3, 1) := by decide +kernel
theorem dJ2_getChars_46870_3 : decode cJ2_getChars_46870 3 = .ok (.invokestatic 96, 3) := by decide +kernel
theorem dJ2_getChars_46870_6 : decode cJ2_getChars_46870 6 = .ok (.iload_n 0, 1) := by decide +kernel
theorem dJ2_getChars_46870_7 : decode cJ2_getChars_46870 7 = .ok (.iload_n 2, 1) := by decide +kernel
theorem dJ2_getChars_46870_8 : decode cJ2_getChars_46870 8 = .ok (.aload_n 3, 1) := by decide +kernel
theorem dJ2_getChars_46870_9 : decode cJ2_getChars_46870 9 = .ok (.invokestatic 393, 3) := by decide +kernel
theorem dJ2_getChars_46870_12 : decode cJ2_getChars_46870 12 = .ok (.istore 4, 2) := by decide +kernel
theorem dJ2_getChars_46870_14 : decode cJ2_getChars_46870 14 = .ok (.getstatic 44, 3) := by decide +kernel
theorem dJ2_getChars_46870_17 : decode cJ2_getChars_46870 17 = .ok (.ifCond .ne 17, 3) := by decide +kernel
theorem dJ2_getChars_46870_20 : decode cJ2_getChars_46870 20 = .ok (.iload_n 1, 1) := by decide +kernel
theorem dJ2_getChars_46870_21 : decode cJ2_getChars_46870 21 = .ok (.iload 4, 2) := by decide +kernel
theorem dJ2_getChars_46870_23 : decode cJ2_getChars_46870 23 = .ok (.if_icmp .eq 11, 3) := by decide +kernel
theorem dJ2_getChars_46870_26 : decode cJ2_getChars_46870 26 = .ok (.new 52, 3) := by decide +kernel
theorem dJ2_getChars_46870_29 : decode cJ2_getChars_46870 29 = .ok (.dup, 1) := by decide +kernel
theorem dJ2_getChars_46870_30 : decode cJ2_getChars_46870 30 = .ok (.invokespecial 66, 3) := by decide +kernel
theorem dJ2_getChars_46870_33 : decode cJ2_getChars_46870 33 = .ok (.athrow, 1) := by decide +kernel
theorem dJ2_getChars_46870_34 : decode cJ2_getChars_46870 34 = .ok (.iload 4, 2) := by decide +kernel
theorem dJ2_getChars_46870_36 : decode cJ2_getChars_46870 36 = .ok (.ireturn, 1) := by decide +kernel
theorem dJ2_putCharsAt_cd4e5_0 : decode cJ2_putCharsAt_cd4e5 0 = .ok (.iload_n 1, 1) := by decide +kernel
theorem dJ2_putCharsAt_cd4e5_1 : decode cJ2_putCharsAt_cd4e5 1 = .ok (.iconst 4, 1) := by decide +kernel
theorem dJ2_putCharsAt_cd4e5_2 : decode cJ2_putCharsAt_cd4e5 2 = .ok (.iadd, 1) := by decide +kernel
theorem dJ2_putCharsAt_cd4e5_3 : decode cJ2_putCharsAt_cd4e5 3 = .ok (.istore 6, 2) := by decide +kernel
theorem dJ2_putCharsAt_cd4e5_5 : decode cJ2_putCharsAt_cd4e5 5 = .ok (.iload_n 1, 1) := by decide +kernel
theorem dJ2_putCharsAt_cd4e5_6 : decode cJ2_putCharsAt_cd4e5 6 = .ok (.iload 6, 2) := by decide +kernel
theorem dJ2_putCharsAt_cd4e5_8 : decode cJ2_putCharsAt_cd4e5 8 = .ok (.aload_n 0, 1) := by decide +kernel
theorem dJ2_putCharsAt_cd4e5_9 : decode cJ2_putCharsAt_cd4e5 9 = .ok (.invokestatic 96, 3) := by decide +kernel
theorem dJ2_putCharsAt_cd4e5_12 : decode cJ2_putCharsAt_cd4e5 12 = .ok (.aload_n 0, 1) := by decide +kernel
theorem dJ2_putCharsAt_cd4e5_13 : decode cJ2_putCharsAt_cd4e5 13 = .ok (.iload_n 1, 1) := by decide +kernel
theorem dJ2_putCharsAt_cd4e5_14 : decode cJ2_putCharsAt_cd4e5 14 = .ok (.iinc 1 1, 3) := by decide +kernel
theorem dJ2_putCharsAt_cd4e5_17 : decode cJ2_putCharsAt_cd4e5 17 = .ok (.iload_n 2, 1) := by decide +kernel
theorem dJ2_putCharsAt_cd4e5_18 : decode cJ2_putCharsAt_cd4e5 18 = .ok (.invokestatic 111, 3) := by decide +kernel
theorem dJ2_putCharsAt_cd4e5_21 : decode cJ2_putCharsAt_cd4e5 21 = .ok (.aload_n 0, 1) := by decide +kernel
theorem dJ2_putCharsAt_cd4e5_22 : decode cJ2_putCharsAt_cd4e5 22 = .ok (.iload_n 1, 1) := by decide +kernel
theorem dJ2_putCharsAt_cd4e5_23 : decode cJ2_putCharsAt_cd4e5 23 = .ok (.iinc 1 1, 3) := by decide +kernel
theorem dJ2_putCharsAt_cd4e5_26 : decode cJ2_putCharsAt_cd4e5 26 = .ok (.iload_n 3, 1) := by decide +kernel
theorem dJ2_putCharsAt_cd4e5_27 : decode cJ2_putCharsAt_cd4e5 27 = .ok (.invokestatic 111, 3) := by decide +kernel
theorem dJ2_putCharsAt_cd4e5_30 : decode cJ2_putCharsAt_cd4e5 30 = .ok (.aload_n 0, 1) := by decide +kernel
theorem dJ2_putCharsAt_cd4e5_31 : decode cJ2_putCharsAt_cd4e5 31 = .ok (.iload_n 1, 1) := by decide +kernel
theorem dJ2_putCharsAt_cd4e5_32 : decode cJ2_putCharsAt_cd4e5 32 = .ok (.iinc 1 1, 3) := by decide +kernel
theorem dJ2_putCharsAt_cd4e5_35 : decode cJ2_putCharsAt_cd4e5 35 = .ok (.iload 4, 2) := by decide +kernel
theorem dJ2_putCharsAt_cd4e5_37 : decode cJ2_putCharsAt_cd4e5 37 = .ok (.invokestatic 111, 3) := by decide +kernel
theorem dJ2_putCharsAt_cd4e5_40 : decode cJ2_putCharsAt_cd4e5 40 = .ok (.aload_n 0, 1) := by decide +kernel
theorem dJ2_putCharsAt_cd4e5_41 : decode cJ2_putCharsAt_cd4e5 41 = .ok (.iload_n 1, 1) := by decide +kernel
theorem dJ2_putCharsAt_cd4e5_42 : decode cJ2_putCharsAt_cd4e5 42 = .ok (.iinc 1 1, 3) := by decide +kernel
theorem dJ2_putCharsAt_cd4e5_45 : decode cJ2_putCharsAt_cd4e5 45 = .ok (.iload 5, 2) := by decide +kernel
theorem dJ2_putCharsAt_cd4e5_47 : decode cJ2_putCharsAt_cd4e5 47 = .ok (.invokestatic 111, 3) := by decide +kernel
theorem dJ2_putCharsAt_cd4e5_50 : decode cJ2_putCharsAt_cd4e5 50 = .ok (.getstatic 44, 3) := by decide +kernel
theorem dJ2_putCharsAt_cd4e5_53 : decode cJ2_putCharsAt_cd4e5 53 = .ok (.ifCond .ne 17, 3) := by decide +kernel
theorem dJ2_putCharsAt_cd4e5_56 : decode cJ2_putCharsAt_cd4e5 56 = .ok (.iload_n 1, 1) := by decide +kernel
theorem dJ2_putCharsAt_cd4e5_57 : decode cJ2_putCharsAt_cd4e5 57 = .ok (.iload 6, 2) := by decide +kernel
theorem dJ2_putCharsAt_cd4e5_59 : decode cJ2_putCharsAt_cd4e5 59 = .ok (.if_icmp .eq 11, 3) := by decide +kernel
theorem dJ2_putCharsAt_cd4e5_62 : decode cJ2_putCharsAt_cd4e5 62 = .ok (.new 52, 3) := by decide +kernel
theorem dJ2_putCharsAt_cd4e5_65 : decode cJ2_putCharsAt_cd4e5 65 = .ok (.dup, 1) := by decide +kernel
theorem dJ2_putCharsAt_cd4e5_66 : decode cJ2_putCharsAt_cd4e5 66 = .ok (.invokespecial 66, 3) := by decide +kernel
theorem dJ2_putCharsAt_cd4e5_69 : decode cJ2_putCharsAt_cd4e5 69 = .ok (.athrow, 1) := by decide +kernel
theorem dJ2_putCharsAt_cd4e5_70 : decode cJ2_putCharsAt_cd4e5 70 = .ok (.iload 6, 2) := by decide +kernel
theorem dJ2_putCharsAt_cd4e5_72 : decode cJ2_putCharsAt_cd4e5 72 = .ok (.ireturn, 1) := by decide +kernel
theorem dJ2_charAt_3b067_0 : decode cJ2_charAt_3b067 0 = .ok (.iload_n 1, 1) := by decide +kernel
theorem dJ2_charAt_3b067_1 : decode cJ2_charAt_3b067 1 = .ok (.aload_n 0, 1) := by decide +kernel
theorem dJ2_charAt_3b067_2 : decode cJ2_charAt_3b067 2 = .ok (.invokestatic 67, 3) := by decide +kernel
theorem dJ2_charAt_3b067_5 : decode cJ2_charAt_3b067 5 = .ok (.aload_n 0, 1) := by decide +kernel
theorem dJ2_charAt_3b067_6 : decode cJ2_charAt_3b067 6 = .ok (.iload_n 1, 1) := by decide +kernel
theorem dJ2_charAt_3b067_7 : decode cJ2_charAt_3b067 7 = .ok (.invokestatic 71, 3) := by decide +kernel
theorem dJ2_charAt_3b067_10 : decode cJ2_charAt_3b067 10 = .ok (.ireturn, 1) := by decide +kernel
theorem dJ2_inflate_0e8fd_0 : decode cJ2_inflate_0e8fd 0 = .ok (.iload_n 3, 1) := by decide +kernel
theorem dJ2_inflate_0e8fd_1 : decode cJ2_inflate_0e8fd 1 = .ok (.iload 4, 2) := by decide +kernel
theorem dJ2_inflate_0e8fd_3 : decode cJ2_inflate_0e8fd 3 = .ok (.aload_n 2, 1) := by decide +kernel
theorem dJ2_inflate_0e8fd_4 : decode cJ2_inflate_0e8fd 4 = .ok (.invokestatic 173, 3) := by decide +kernel
theorem dJ2_inflate_0e8fd_7 : decode cJ2_inflate_0e8fd 7 = .ok (.iconst 0, 1) := by decide +kernel
theorem dJ2_inflate_0e8fd_8 : decode cJ2_inflate_0e8fd 8 = .ok (.istore 5, 2) := by decide +kernel
theorem dJ2_inflate_0e8fd_10 : decode cJ2_inflate_0e8fd 10 = .ok (.iload 5, 2) := by decide +kernel
theorem dJ2_inflate_0e8fd_12 : decode cJ2_inflate_0e8fd 12 = .ok (.iload 4, 2) := by decide +kernel
theorem dJ2_inflate_0e8fd_14 : decode cJ2_inflate_0e8fd 14 = .ok (.if_icmp .ge 27, 3) := by decide +kernel
theorem dJ2_inflate_0e8fd_17 : decode cJ2_inflate_0e8fd 17 = .ok (.aload_n 2, 1) := by decide +kernel
theorem dJ2_inflate_0e8fd_18 : decode cJ2_inflate_0e8fd 18 = .ok (.iload_n 3, 1) := by decide +kernel
theorem dJ2_inflate_0e8fd_19 : decode cJ2_inflate_0e8fd 19 = .ok (.iinc 3 1, 3) := by decide +kernel
theorem dJ2_inflate_0e8fd_22 : decode cJ2_inflate_0e8fd 22 = .ok (.aload_n 0, 1) := by decide +kernel
theorem dJ2_inflate_0e8fd_23 : decode cJ2_inflate_0e8fd 23 = .ok (.iload_n 1, 1) := by decide +kernel
theorem dJ2_inflate_0e8fd_24 : decode cJ2_inflate_0e8fd 24 = .ok (.iinc 1 1, 3) := by decide +kernel
theorem dJ2_inflate_0e8fd_27 : decode cJ2_inflate_0e8fd 27 = .ok (.baload, 1) := by decide +kernel
theorem dJ2_inflate_0e8fd_28 : decode cJ2_inflate_0e8fd 28 = .ok (.sipush 255, 3) := by decide +kernel
theorem dJ2_inflate_0e8fd_31 : decode cJ2_inflate_0e8fd 31 = .ok (.iand, 1) := by decide +kernel
theorem dJ2_inflate_0e8fd_32 : decode cJ2_inflate_0e8fd 32 = .ok (.invokestatic 111, 3) := by decide +kernel
theorem dJ2_inflate_0e8fd_35 : decode cJ2_inflate_0e8fd 35 = .ok (.iinc 5 1, 3) := by decide +kernel
theorem dJ2_inflate_0e8fd_38 : decode cJ2_inflate_0e8fd 38 = .ok (.goto (-28), 3) := by decide +kernel
theorem dJ2_inflate_0e8fd_41 : decode cJ2_inflate_0e8fd 41 = .ok (.return_, 1) := by decide +kernel
theorem dJ2_getChars_ba4f3_0 : decode cJ2_getChars_ba4f3 0 = .ok (.iload_n 1, 1) := by decide +kernel
theorem dJ2_getChars_ba4f3_1 : decode cJ2_getChars_ba4f3 1 = .ok (.istore 5, 2) := by decide +kernel
theorem dJ2_getChars_ba4f3_3 : decode cJ2_getChars_ba4f3 3 = .ok (.iload_n 0, 1) := by decide +kernel
theorem dJ2_getChars_ba4f3_4 : decode cJ2_getChars_ba4f3 4 = .ok (.ifCond .ge 7, 3) := by decide +kernel
theorem dJ2_getChars_ba4f3_7 : decode cJ2_getChars_ba4f3 7 = .ok (.iconst 1, 1) := by decide +kernel
theorem dJ2_getChars_ba4f3_8 : decode cJ2_getChars_ba4f3 8 = .ok (.goto 4, 3) := by decide +kernel
theorem dJ2_getChars_ba4f3_11 : decode cJ2_getChars_ba4f3 11 = .ok (.iconst 0, 1) := by decide +kernel
theorem dJ2_getChars_ba4f3_12 : decode cJ2_getChars_ba4f3 12 = .ok (.istore 6, 2) := by decide +kernel
theorem dJ2_getChars_ba4f3_14 : decode cJ2_getChars_ba4f3 14 = .ok (.iload 6, 2) := by decide +kernel
theorem dJ2_getChars_ba4f3_16 : decode cJ2_getChars_ba4f3 16 = .ok (.ifCond .ne 6, 3) := by decide +kernel
theorem dJ2_getChars_ba4f3_19 : decode cJ2_getChars_ba4f3 19 = .ok (.iload_n 0, 1) := by decide +kernel
theorem dJ2_getChars_ba4f3_20 : decode cJ2_getChars_ba4f3 20 = .ok (.ineg, 1) := by decide +kernel
theorem dJ2_getChars_ba4f3_21 : decode cJ2_getChars_ba4f3 21 = .ok (.istore_n 0, 1) := by decide +kernel
theorem dJ2_getChars_ba4f3_22 : decode cJ2_getChars_ba4f3 22 = .ok (.iload_n 0, 1) := by decide +kernel
theorem dJ2_getChars_ba4f3_23 : decode cJ2_getChars_ba4f3 23 = .ok (.bipush (-100), 2) := by decide +kernel
theorem dJ2_getChars_ba4f3_25 : decode cJ2_getChars_ba4f3 25 = .ok (.if_icmp .gt 51, 3) := by decide +kernel
theorem dJ2_getChars_ba4f3_28 : decode cJ2_getChars_ba4f3 28 = .ok (.iload_n 0, 1) := by decide +kernel
theorem dJ2_getChars_ba4f3_29 : decode cJ2_getChars_ba4f3 29 = .ok (.bipush 100, 2) := by decide +kernel
theorem dJ2_getChars_ba4f3_31 : decode cJ2_getChars_ba4f3 31 = .ok (.idiv, 1) := by decide +kernel
theorem dJ2_getChars_ba4f3_32 : decode cJ2_getChars_ba4f3 32 = .ok (.istore_n 3, 1) := by decide +kernel
theorem dJ2_getChars_ba4f3_33 : decode cJ2_getChars_ba4f3 33 = .ok (.iload_n 3, 1) := by decide +kernel
theorem dJ2_getChars_ba4f3_34 : decode cJ2_getChars_ba4f3 34 = .ok (.bipush 100, 2) := by decide +kernel
theorem dJ2_getChars_ba4f3_36 : decode cJ2_getChars_ba4f3 36 = .ok (.imul, 1) := by decide +kernel
theorem dJ2_getChars_ba4f3_37 : decode cJ2_getChars_ba4f3 37 = .ok (.iload_n 0, 1) := by decide +kernel
theorem dJ2_getChars_ba4f3_38 : decode cJ2_getChars_ba4f3 38 = .ok (.isub, 1) := by decide +kernel
theorem dJ2_getChars_ba4f3_39 : decode cJ2_getChars_ba4f3 39 = .ok (.istore 4, 2) := by decide +kernel
theorem dJ2_getChars_ba4f3_41 : decode cJ2_getChars_ba4f3 41 = .ok (.iload_n 3, 1) := by decide +kernel
theorem dJ2_getChars_ba4f3_42 : decode cJ2_getChars_ba4f3 42 = .ok (.istore_n 0, 1) := by decide +kernel
theorem dJ2_getChars_ba4f3_43 : decode cJ2_getChars_ba4f3 43 = .ok (.aload_n 2, 1) := by decide +kernel
theorem dJ2_getChars_ba4f3_44 : decode cJ2_getChars_ba4f3 44 = .ok (.iinc 5 (-1), 3) := by decide +kernel
theorem dJ2_getChars_ba4f3_47 : decode cJ2_getChars_ba4f3 47 = .ok (.iload 5, 2) := by decide +kernel
theorem dJ2_getChars_ba4f3_49 : decode cJ2_getChars_ba4f3 49 = .ok (.getstatic 403, 3) := by decide +kernel
theorem dJ2_getChars_ba4f3_52 : decode cJ2_getChars_ba4f3 52 = .ok (.iload 4, 2) := by decide +kernel
theorem dJ2_getChars_ba4f3_54 : decode cJ2_getChars_ba4f3 54 = .ok (.baload, 1) := by decide +kernel
theorem dJ2_getChars_ba4f3_55 : decode cJ2_getChars_ba4f3 55 = .ok (.invokestatic 111, 3) := by decide +kernel
theorem dJ2_getChars_ba4f3_58 : decode cJ2_getChars_ba4f3 58 = .ok (.aload_n 2, 1) := by decide +kernel
theorem dJ2_getChars_ba4f3_59 : decode cJ2_getChars_ba4f3 59 = .ok (.iinc 5 (-1), 3) := by decide +kernel
theorem dJ2_getChars_ba4f3_62 : decode cJ2_getChars_ba4f3 62 = .ok (.iload 5, 2) := by decide +kernel
theorem dJ2_getChars_ba4f3_64 : decode cJ2_getChars_ba4f3 64 = .ok (.getstatic 407, 3) := by decide +kernel
theorem dJ2_getChars_ba4f3_67 : decode cJ2_getChars_ba4f3 67 = .ok (.iload 4, 2) := by decide +kernel
theorem dJ2_getChars_ba4f3_69 : decode cJ2_getChars_ba4f3 69 = .ok (.baload, 1) := by decide +kernel
theorem dJ2_getChars_ba4f3_70 : decode cJ2_getChars_ba4f3 70 = .ok (.invokestatic 111, 3) := by decide +kernel
theorem dJ2_getChars_ba4f3_73 : decode cJ2_getChars_ba4f3 73 = .ok (.goto (-51), 3) := by decide +kernel
theorem dJ2_getChars_ba4f3_76 : decode cJ2_getChars_ba4f3 76 = .ok (.aload_n 2, 1) := by decide +kernel
theorem dJ2_getChars_ba4f3_77 : decode cJ2_getChars_ba4f3 77 = .ok (.iinc 5 (-1), 3) := by decide +kernel
theorem dJ2_getChars_ba4f3_80 : decode cJ2_getChars_ba4f3 80 = .ok (.iload 5, 2) := by decide +kernel
theorem dJ2_getChars_ba4f3_82 : decode cJ2_getChars_ba4f3 82 = .ok (.getstatic 403, 3) := by decide +kernel
theorem dJ2_getChars_ba4f3_85 : decode cJ2_getChars_ba4f3 85 = .ok (.iload_n 0, 1) := by decide +kernel
theorem dJ2_getChars_ba4f3_86 : decode cJ2_getChars_ba4f3 86 = .ok (.ineg, 1) := by decide +kernel
theorem dJ2_getChars_ba4f3_87 : decode cJ2_getChars_ba4f3 87 = .ok (.baload, 1) := by decide +kernel
theorem dJ2_getChars_ba4f3_88 : decode cJ2_getChars_ba4f3 88 = .ok (.invokestatic 111, 3) := by decide +kernel
theorem dJ2_getChars_ba4f3_91 : decode cJ2_getChars_ba4f3 91 = .ok (.iload_n 0, 1) := by decide +kernel
theorem dJ2_getChars_ba4f3_92 : decode cJ2_getChars_ba4f3 92 = .ok (.bipush (-9), 2) := by decide +kernel
theorem dJ2_getChars_ba4f3_94 : decode cJ2_getChars_ba4f3 94 = .ok (.if_icmp .ge 18, 3) := by decide +kernel
theorem dJ2_getChars_ba4f3_97 : decode cJ2_getChars_ba4f3 97 = .ok (.aload_n 2, 1) := by decide +kernel
theorem dJ2_getChars_ba4f3_98 : decode cJ2_getChars_ba4f3 98 = .ok (.iinc 5 (-1), 3) := by decide +kernel
theorem dJ2_getChars_ba4f3_101 : decode cJ2_getChars_ba4f3 101 = .ok (.iload 5, 2) := by decide +kernel
theorem dJ2_getChars_ba4f3_103 : decode cJ2_getChars_ba4f3 103 = .ok (.getstatic 407, 3) := by decide +kernel
theorem dJ2_getChars_ba4f3_106 : decode cJ2_getChars_ba4f3 106 = .ok (.iload_n 0, 1) := by decide +kernel
theorem dJ2_getChars_ba4f3_107 : decode cJ2_getChars_ba4f3 107 = .ok (.ineg, 1) := by decide +kernel
theorem dJ2_getChars_ba4f3_108 : decode cJ2_getChars_ba4f3 108 = .ok (.baload, 1) := by decide +kernel
theorem dJ2_getChars_ba4f3_109 : decode cJ2_getChars_ba4f3 109 = .ok (.invokestatic 111, 3) := by decide +kernel
theorem dJ2_getChars_ba4f3_112 : decode cJ2_getChars_ba4f3 112 = .ok (.iload 6, 2) := by decide +kernel
theorem dJ2_getChars_ba4f3_114 : decode cJ2_getChars_ba4f3 114 = .ok (.ifCond .eq 14, 3) := by decide +kernel
theorem dJ2_getChars_ba4f3_117 : decode cJ2_getChars_ba4f3 117 = .ok (.aload_n 2, 1) := by decide +kernel
theorem dJ2_getChars_ba4f3_118 : decode cJ2_getChars_ba4f3 118 = .ok (.iinc 5 (-1), 3) := by decide +kernel
theorem dJ2_getChars_ba4f3_121 : decode cJ2_getChars_ba4f3 121 = .ok (.iload 5, 2) := by decide +kernel
theorem dJ2_getChars_ba4f3_123 : decode cJ2_getChars_ba4f3 123 = .ok (.bipush 45, 2) := by decide +kernel
theorem dJ2_getChars_ba4f3_125 : decode cJ2_getChars_ba4f3 125 = .ok (.invokestatic 111, 3) := by decide +kernel
theorem dJ2_getChars_ba4f3_128 : decode cJ2_getChars_ba4f3 128 = .ok (.iload 5, 2) := by decide +kernel
theorem dJ2_getChars_ba4f3_130 : decode cJ2_getChars_ba4f3 130 = .ok (.ireturn, 1) := by decide +kernel
theorem dJ2_checkIndex_2214a_0 : decode cJ2_checkIndex_2214a 0 = .ok (.iload_n 0, 1) := by decide +kernel
theorem dJ2_checkIndex_2214a_1 : decode cJ2_checkIndex_2214a 1 = .ok (.aload_n 1, 1) := by decide +kernel
theorem dJ2_checkIndex_2214a_2 : decode cJ2_checkIndex_2214a 2 = .ok (.invokestatic 48, 3) := by decide +kernel
theorem dJ2_checkIndex_2214a_5 : decode cJ2_checkIndex_2214a 5 = .ok (.invokestatic 414, 3) := by decide +kernel
theorem dJ2_checkIndex_2214a_8 : decode cJ2_checkIndex_2214a 8 = .ok (.return_, 1) := by decide +kernel
theorem dJ2_checkBoundsBeginEnd_d044e_0 : decode cJ2_checkBoundsBeginEnd_d044e 0 = .ok (.iload_n 0, 1) := by decide +kernel
theorem dJ2_checkBoundsBeginEnd_d044e_1 : decode cJ2_checkBoundsBeginEnd_d044e 1 = .ok (.iload_n 1, 1) := by decide +kernel
theorem dJ2_checkBoundsBeginEnd_d044e_2 : decode cJ2_checkBoundsBeginEnd_d044e 2 = .ok (.aload_n 2, 1) := by decide +kernel
theorem dJ2_checkBoundsBeginEnd_d044e_3 : decode cJ2_checkBoundsBeginEnd_d044e 3 = .ok (.invokestatic 48, 3) := by decide +kernel
theorem dJ2_checkBoundsBeginEnd_d044e_6 : decode cJ2_checkBoundsBeginEnd_d044e 6 = .ok (.invokestatic 241, 3) := by decide +kernel
theorem dJ2_checkBoundsBeginEnd_d044e_9 : decode cJ2_checkBoundsBeginEnd_d044e 9 = .ok (.return_, 1) := by decide +kernel
theorem dJ2_checkBoundsOffCount_d044e_0 : decode cJ2_checkBoundsOffCount_d044e 0 = .ok (.iload_n 0, 1) := by decide +kernel
theorem dJ2_checkBoundsOffCount_d044e_1 : decode cJ2_checkBoundsOffCount_d044e 1 = .ok (.iload_n 1, 1) := by decide +kernel
theorem dJ2_checkBoundsOffCount_d044e_2 : decode cJ2_checkBoundsOffCount_d044e 2 = .ok (.aload_n 2, 1) := by decide +kernel
theorem dJ2_checkBoundsOffCount_d044e_3 : decode cJ2_checkBoundsOffCount_d044e 3 = .ok (.invokestatic 48, 3) := by decide +kernel
theorem dJ2_checkBoundsOffCount_d044e_6 : decode cJ2_checkBoundsOffCount_d044e 6 = .ok (.invokestatic 419, 3) := by decide +kernel
theorem dJ2_checkBoundsOffCount_d044e_9 : decode cJ2_checkBoundsOffCount_d044e 9 = .ok (.pop, 1) := by decide +kernel
theorem dJ2_checkBoundsOffCount_d044e_10 : decode cJ2_checkBoundsOffCount_d044e 10 = .ok (.return_, 1) := by decide +kernel
theorem dJ7_copyOf_9075b_0 : decode cJ7_copyOf_9075b 0 = .ok (.iload_n 1, 1) := by decide +kernel
theorem dJ7_copyOf_9075b_1 : decode cJ7_copyOf_9075b 1 = .ok (.aload_n 0, 1) := by decide +kernel
theorem dJ7_copyOf_9075b_2 : decode cJ7_copyOf_9075b 2 = .ok (.arraylength, 1) := by decide +kernel
theorem dJ7_copyOf_9075b_3 : decode cJ7_copyOf_9075b 3 = .ok (.if_icmp .ne 11, 3) := by decide +kernel
theorem dJ7_copyOf_9075b_6 : decode cJ7_copyOf_9075b 6 = .ok (.aload_n 0, 1) := by decide +kernel
theorem dJ7_copyOf_9075b_7 : decode cJ7_copyOf_9075b 7 = .ok (.invokevirtual 310, 3) := by decide +kernel
theorem dJ7_copyOf_9075b_10 : decode cJ7_copyOf_9075b 10 = .ok (.checkcast 311, 3) := by decide +kernel
theorem dJ7_copyOf_9075b_13 : decode cJ7_copyOf_9075b 13 = .ok (.areturn, 1) := by decide +kernel
theorem dJ7_copyOf_9075b_14 : decode cJ7_copyOf_9075b 14 = .ok (.iload_n 1, 1) := by decide +kernel
theorem dJ7_copyOf_9075b_15 : decode cJ7_copyOf_9075b 15 = .ok (.newarray .byte, 2) := by decide +kernel
theorem dJ7_copyOf_9075b_17 : decode cJ7_copyOf_9075b 17 = .ok (.astore_n 2, 1) := by decide +kernel
theorem dJ7_copyOf_9075b_18 : decode cJ7_copyOf_9075b 18 = .ok (.aload_n 0, 1) := by decide +kernel
theorem dJ7_copyOf_9075b_19 : decode cJ7_copyOf_9075b 19 = .ok (.iconst 0, 1) := by decide +kernel
theorem dJ7_copyOf_9075b_20 : decode cJ7_copyOf_9075b 20 = .ok (.aload_n 2, 1) := by decide +kernel
theorem dJ7_copyOf_9075b_21 : decode cJ7_copyOf_9075b 21 = .ok (.iconst 0, 1) := by decide +kernel
theorem dJ7_copyOf_9075b_22 : decode cJ7_copyOf_9075b 22 = .ok (.aload_n 0, 1) := by decide +kernel
theorem dJ7_copyOf_9075b_23 : decode cJ7_copyOf_9075b 23 = .ok (.arraylength, 1) := by decide +kernel
theorem dJ7_copyOf_9075b_24 : decode cJ7_copyOf_9075b 24 = .ok (.iload_n 1, 1) := by decide +kernel
theorem dJ7_copyOf_9075b_25 : decode cJ7_copyOf_9075b 25 = .ok (.invokestatic 304, 3) := by decide +kernel
theorem dJ7_copyOf_9075b_28 : decode cJ7_copyOf_9075b 28 = .ok (.invokestatic 150, 3) := by decide +kernel
theorem dJ7_copyOf_9075b_31 : decode cJ7_copyOf_9075b 31 = .ok (.aload_n 2, 1) := by decide +kernel
theorem dJ7_copyOf_9075b_32 : decode cJ7_copyOf_9075b 32 = .ok (.areturn, 1) := by decide +kernel
theorem dJ8_newLength_cabcc_0 : decode cJ8_newLength_cabcc 0 = .ok (.iload_n 0, 1) := by decide +kernel
theorem dJ8_newLength_cabcc_1 : decode cJ8_newLength_cabcc 1 = .ok (.iload_n 1, 1) := by decide +kernel
theorem dJ8_newLength_cabcc_2 : decode cJ8_newLength_cabcc 2 = .ok (.iload_n 2, 1) := by decide +kernel
theorem dJ8_newLength_cabcc_3 : decode cJ8_newLength_cabcc 3 = .ok (.invokestatic 194, 3) := by decide +kernel
theorem dJ8_newLength_cabcc_6 : decode cJ8_newLength_cabcc 6 = .ok (.iadd, 1) := by decide +kernel
theorem dJ8_newLength_cabcc_7 : decode cJ8_newLength_cabcc 7 = .ok (.istore_n 3, 1) := by decide +kernel
theorem dJ8_newLength_cabcc_8 : decode cJ8_newLength_cabcc 8 = .ok (.iconst 0, 1) := by decide +kernel
theorem dJ8_newLength_cabcc_9 : decode cJ8_newLength_cabcc 9 = .ok (.iload_n 3, 1) := by decide +kernel
theorem dJ8_newLength_cabcc_10 : decode cJ8_newLength_cabcc 10 = .ok (.if_icmp .ge 11, 3) := by decide +kernel
theorem dJ8_newLength_cabcc_13 : decode cJ8_newLength_cabcc 13 = .ok (.iload_n 3, 1) := by decide +kernel
theorem dJ8_newLength_cabcc_14 : decode cJ8_newLength_cabcc 14 = .ok (.ldc 200, 2) := by decide +kernel
theorem dJ8_newLength_cabcc_16 : decode cJ8_newLength_cabcc 16 = .ok (.if_icmp .gt 5, 3) := by decide +kernel
theorem dJ8_newLength_cabcc_19 : decode cJ8_newLength_cabcc 19 = .ok (.iload_n 3, 1) := by decide +kernel
theorem dJ8_newLength_cabcc_20 : decode cJ8_newLength_cabcc 20 = .ok (.ireturn, 1) := by decide +kernel
theorem dJ8_newLength_cabcc_21 : decode cJ8_newLength_cabcc 21 = .ok (.iload_n 0, 1) := by decide +kernel
theorem dJ8_newLength_cabcc_22 : decode cJ8_newLength_cabcc 22 = .ok (.iload_n 1, 1) := by decide +kernel
theorem dJ8_newLength_cabcc_23 : decode cJ8_newLength_cabcc 23 = .ok (.invokestatic 201, 3) := by decide +kernel
theorem dJ8_newLength_cabcc_26 : decode cJ8_newLength_cabcc 26 = .ok (.ireturn, 1) := by decide +kernel
theorem dJ8_hugeLength_7cf53_0 : decode cJ8_hugeLength_7cf53 0 = .ok (.iload_n 0, 1) := by decide +kernel
theorem dJ8_hugeLength_7cf53_1 : decode cJ8_hugeLength_7cf53 1 = .ok (.iload_n 1, 1) := by decide +kernel
theorem dJ8_hugeLength_7cf53_2 : decode cJ8_hugeLength_7cf53 2 = .ok (.iadd, 1) := by decide +kernel
theorem dJ8_hugeLength_7cf53_3 : decode cJ8_hugeLength_7cf53 3 = .ok (.istore_n 2, 1) := by decide +kernel
theorem dJ8_hugeLength_7cf53_4 : decode cJ8_hugeLength_7cf53 4 = .ok (.iload_n 2, 1) := by decide +kernel
theorem dJ8_hugeLength_7cf53_5 : decode cJ8_hugeLength_7cf53 5 = .ok (.ifCond .ge 44, 3) := by decide +kernel
theorem dJ8_hugeLength_7cf53_8 : decode cJ8_hugeLength_7cf53 8 = .ok (.new 204, 3) := by decide +kernel
theorem dJ8_hugeLength_7cf53_11 : decode cJ8_hugeLength_7cf53 11 = .ok (.dup, 1) := by decide +kernel
theorem dJ8_hugeLength_7cf53_12 : decode cJ8_hugeLength_7cf53 12 = .ok (.new 89, 3) := by decide +kernel
theorem dJ8_hugeLength_7cf53_15 : decode cJ8_hugeLength_7cf53 15 = .ok (.dup, 1) := by decide +kernel
theorem dJ8_hugeLength_7cf53_16 : decode cJ8_hugeLength_7cf53 16 = .ok (.invokespecial 91, 3) := by decide +kernel
theorem dJ8_hugeLength_7cf53_19 : decode cJ8_hugeLength_7cf53 19 = .ok (.ldc 206, 2) := by decide +kernel
theorem dJ8_hugeLength_7cf53_21 : decode cJ8_hugeLength_7cf53 21 = .ok (.invokevirtual 94, 3) := by decide +kernel
theorem dJ8_hugeLength_7cf53_24 : decode cJ8_hugeLength_7cf53 24 = .ok (.iload_n 0, 1) := by decide +kernel
theorem dJ8_hugeLength_7cf53_25 : decode cJ8_hugeLength_7cf53 25 = .ok (.invokevirtual 98, 3) := by decide +kernel
theorem dJ8_hugeLength_7cf53_28 : decode cJ8_hugeLength_7cf53 28 = .ok (.ldc 208, 2) := by decide +kernel
theorem dJ8_hugeLength_7cf53_30 : decode cJ8_hugeLength_7cf53 30 = .ok (.invokevirtual 94, 3) := by decide +kernel
theorem dJ8_hugeLength_7cf53_33 : decode cJ8_hugeLength_7cf53 33 = .ok (.iload_n 1, 1) := by decide +kernel
theorem dJ8_hugeLength_7cf53_34 : decode cJ8_hugeLength_7cf53 34 = .ok (.invokevirtual 98, 3) := by decide +kernel
theorem dJ8_hugeLength_7cf53_37 : decode cJ8_hugeLength_7cf53 37 = .ok (.ldc 210, 2) := by decide +kernel
theorem dJ8_hugeLength_7cf53_39 : decode cJ8_hugeLength_7cf53 39 = .ok (.invokevirtual 94, 3) := by decide +kernel
theorem dJ8_hugeLength_7cf53_42 : decode cJ8_hugeLength_7cf53 42 = .ok (.invokevirtual 101, 3) := by decide +kernel
theorem dJ8_hugeLength_7cf53_45 : decode cJ8_hugeLength_7cf53 45 = .ok (.invokespecial 212, 3) := by decide +kernel
theorem dJ8_hugeLength_7cf53_48 : decode cJ8_hugeLength_7cf53 48 = .ok (.athrow, 1) := by decide +kernel
theorem dJ8_hugeLength_7cf53_49 : decode cJ8_hugeLength_7cf53 49 = .ok (.iload_n 2, 1) := by decide +kernel
theorem dJ8_hugeLength_7cf53_50 : decode cJ8_hugeLength_7cf53 50 = .ok (.ldc 200, 2) := by decide +kernel
theorem dJ8_hugeLength_7cf53_52 : decode cJ8_hugeLength_7cf53 52 = .ok (.if_icmp .gt 6, 3) := by decide +kernel
theorem dJ8_hugeLength_7cf53_55 : decode cJ8_hugeLength_7cf53 55 = .ok (.ldc 200, 2) := by decide +kernel
theorem dJ8_hugeLength_7cf53_57 : decode cJ8_hugeLength_7cf53 57 = .ok (.ireturn, 1) := by decide +kernel
theorem dJ8_hugeLength_7cf53_58 : decode cJ8_hugeLength_7cf53 58 = .ok (.iload_n 2, 1) := by decide +kernel
theorem dJ8_hugeLength_7cf53_59 : decode cJ8_hugeLength_7cf53 59 = .ok (.ireturn, 1) := by decide +kernel
theorem dJ3_checkIndex_8e157_0 : decode cJ3_checkIndex_8e157 0 = .ok (.iload_n 0, 1) := by decide +kernel
theorem dJ3_checkIndex_8e157_1 : decode cJ3_checkIndex_8e157 1 = .ok (.ifCond .lt 8, 3) := by decide +kernel
theorem dJ3_checkIndex_8e157_4 : decode cJ3_checkIndex_8e157 4 = .ok (.iload_n 0, 1) := by decide +kernel
theorem dJ3_checkIndex_8e157_5 : decode cJ3_checkIndex_8e157 5 = .ok (.iload_n 1, 1) := by decide +kernel
theorem dJ3_checkIndex_8e157_6 : decode cJ3_checkIndex_8e157 6 = .ok (.if_icmp .lt 10, 3) := by decide +kernel
theorem dJ3_checkIndex_8e157_9 : decode cJ3_checkIndex_8e157 9 = .ok (.aload_n 2, 1) := by decide +kernel
theorem dJ3_checkIndex_8e157_10 : decode cJ3_checkIndex_8e157 10 = .ok (.iload_n 0, 1) := by decide +kernel
theorem dJ3_checkIndex_8e157_11 : decode cJ3_checkIndex_8e157 11 = .ok (.iload_n 1, 1) := by decide +kernel
theorem dJ3_checkIndex_8e157_12 : decode cJ3_checkIndex_8e157 12 = .ok (.invokestatic 95, 3) := by decide +kernel
theorem dJ3_checkIndex_8e157_15 : decode cJ3_checkIndex_8e157 15 = .ok (.athrow, 1) := by decide +kernel
theorem dJ3_checkIndex_8e157_16 : decode cJ3_checkIndex_8e157 16 = .ok (.iload_n 0, 1) := by decide +kernel
theorem dJ3_checkIndex_8e157_17 : decode cJ3_checkIndex_8e157 17 = .ok (.ireturn, 1) := by decide +kernel
theorem dJ3_checkFromToIndex_8c36e_0 : decode cJ3_checkFromToIndex_8c36e 0 = .ok (.iload_n 0, 1) := by decide +kernel
theorem dJ3_checkFromToIndex_8c36e_1 : decode cJ3_checkFromToIndex_8c36e 1 = .ok (.ifCond .lt 13, 3) := by decide +kernel
theorem dJ3_checkFromToIndex_8c36e_4 : decode cJ3_checkFromToIndex_8c36e 4 = .ok (.iload_n 0, 1) := by decide +kernel
theorem dJ3_checkFromToIndex_8c36e_5 : decode cJ3_checkFromToIndex_8c36e 5 = .ok (.iload_n 1, 1) := by decide +kernel
theorem dJ3_checkFromToIndex_8c36e_6 : decode cJ3_checkFromToIndex_8c36e 6 = .ok (.if_icmp .gt 8, 3) := by decide +kernel
theorem dJ3_checkFromToIndex_8c36e_9 : decode cJ3_checkFromToIndex_8c36e 9 = .ok (.iload_n 1, 1) := by decide +kernel
theorem dJ3_checkFromToIndex_8c36e_10 : decode cJ3_checkFromToIndex_8c36e 10 = .ok (.iload_n 2, 1) := by decide +kernel
theorem dJ3_checkFromToIndex_8c36e_11 : decode cJ3_checkFromToIndex_8c36e 11 = .ok (.if_icmp .le 11, 3) := by decide +kernel
theorem dJ3_checkFromToIndex_8c36e_14 : decode cJ3_checkFromToIndex_8c36e 14 = .ok (.aload_n 3, 1) := by decide +kernel
theorem dJ3_checkFromToIndex_8c36e_15 : decode cJ3_checkFromToIndex_8c36e 15 = .ok (.iload_n 0, 1) := by decide +kernel
theorem dJ3_checkFromToIndex_8c36e_16 : decode cJ3_checkFromToIndex_8c36e 16 = .ok (.iload_n 1, 1) := by decide +kernel
theorem dJ3_checkFromToIndex_8c36e_17 : decode cJ3_checkFromToIndex_8c36e 17 = .ok (.iload_n 2, 1) := by decide +kernel
theorem dJ3_checkFromToIndex_8c36e_18 : decode cJ3_checkFromToIndex_8c36e 18 = .ok (.invokestatic 99, 3) := by decide +kernel
theorem dJ3_checkFromToIndex_8c36e_21 : decode cJ3_checkFromToIndex_8c36e 21 = .ok (.athrow, 1) := by decide +kernel
theorem dJ3_checkFromToIndex_8c36e_22 : decode cJ3_checkFromToIndex_8c36e 22 = .ok (.iload_n 0, 1) := by decide +kernel
theorem dJ3_checkFromToIndex_8c36e_23 : decode cJ3_checkFromToIndex_8c36e 23 = .ok (.ireturn, 1) := by decide +kernel
theorem dJ3_checkFromIndexSize_8c36e_0 : decode cJ3_checkFromIndexSize_8c36e 0 = .ok (.iload_n 2, 1) := by decide +kernel
theorem dJ3_checkFromIndexSize_8c36e_1 : decode cJ3_checkFromIndexSize_8c36e 1 = .ok (.iload_n 0, 1) := by decide +kernel
theorem dJ3_checkFromIndexSize_8c36e_2 : decode cJ3_checkFromIndexSize_8c36e 2 = .ok (.ior, 1) := by decide +kernel
theorem dJ3_checkFromIndexSize_8c36e_3 : decode cJ3_checkFromIndexSize_8c36e 3 = .ok (.iload_n 1, 1) := by decide +kernel
theorem dJ3_checkFromIndexSize_8c36e_4 : decode cJ3_checkFromIndexSize_8c36e 4 = .ok (.ior, 1) := by decide +kernel
theorem dJ3_checkFromIndexSize_8c36e_5 : decode cJ3_checkFromIndexSize_8c36e 5 = .ok (.ifCond .lt 10, 3) := by decide +kernel
theorem dJ3_checkFromIndexSize_8c36e_8 : decode cJ3_checkFromIndexSize_8c36e 8 = .ok (.iload_n 1, 1) := by decide +kernel
theorem dJ3_checkFromIndexSize_8c36e_9 : decode cJ3_checkFromIndexSize_8c36e 9 = .ok (.iload_n 2, 1) := by decide +kernel
theorem dJ3_checkFromIndexSize_8c36e_10 : decode cJ3_checkFromIndexSize_8c36e 10 = .ok (.iload_n 0, 1) := by decide +kernel
theorem dJ3_checkFromIndexSize_8c36e_11 : decode cJ3_checkFromIndexSize_8c36e 11 = .ok (.isub, 1) := by decide +kernel
theorem dJ3_checkFromIndexSize_8c36e_12 : decode cJ3_checkFromIndexSize_8c36e 12 = .ok (.if_icmp .le 11, 3) := by decide +kernel
theorem dJ3_checkFromIndexSize_8c36e_15 : decode cJ3_checkFromIndexSize_8c36e 15 = .ok (.aload_n 3, 1) := by decide +kernel
theorem dJ3_checkFromIndexSize_8c36e_16 : decode cJ3_checkFromIndexSize_8c36e 16 = .ok (.iload_n 0, 1) := by decide +kernel
theorem dJ3_checkFromIndexSize_8c36e_17 : decode cJ3_checkFromIndexSize_8c36e 17 = .ok (.iload_n 1, 1) := by decide +kernel
theorem dJ3_checkFromIndexSize_8c36e_18 : decode cJ3_checkFromIndexSize_8c36e 18 = .ok (.iload_n 2, 1) := by decide +kernel
theorem dJ3_checkFromIndexSize_8c36e_19 : decode cJ3_checkFromIndexSize_8c36e 19 = .ok (.invokestatic 103, 3) := by decide +kernel
theorem dJ3_checkFromIndexSize_8c36e_22 : decode cJ3_checkFromIndexSize_8c36e 22 = .ok (.athrow, 1) := by decide +kernel
theorem dJ3_checkFromIndexSize_8c36e_23 : decode cJ3_checkFromIndexSize_8c36e 23 = .ok (.iload_n 0, 1) := by decide +kernel
theorem dJ3_checkFromIndexSize_8c36e_24 : decode cJ3_checkFromIndexSize_8c36e 24 = .ok (.ireturn, 1) := by decide +kernel
theorem dL_append_0 : decode cL_append 0 = .ok (.aload_n 2, 1) := by decide +kernel
theorem dL_append_1 : decode cL_append 1 = .ok (.iconst 0, 1) := by decide +kernel
theorem dL_append_2 : decode cL_append 2 = .ok (.aload_n 0, 1) := by decide +kernel
theorem dL_append_3 : decode cL_append 3 = .ok (.iload_n 1, 1) := by decide +kernel
theorem dL_append_4 : decode cL_append 4 = .ok (.invokevirtual 7, 3) := by decide +kernel
theorem dL_append_7 : decode cL_append 7 = .ok (.i2l, 1) := by decide +kernel
theorem dL_append_8 : decode cL_append 8 = .ok (.lastore, 1) := by decide +kernel
theorem dL_append_9 : decode cL_append 9 = .ok (.goto 9, 3) := by decide +kernel
theorem dL_append_12 : decode cL_append 12 = .ok (.astore_n 3, 1) := by decide +kernel
theorem dL_append_13 : decode cL_append 13 = .ok (.iconst 1, 1) := by decide +kernel
theorem dL_append_14 : decode cL_append 14 = .ok (.ireturn, 1) := by decide +kernel
theorem dL_append_15 : decode cL_append 15 = .ok (.astore_n 3, 1) := by decide +kernel
theorem dL_append_16 : decode cL_append 16 = .ok (.iconst 2, 1) := by decide +kernel
theorem dL_append_17 : decode cL_append 17 = .ok (.ireturn, 1) := by decide +kernel
theorem dL_append_18 : decode cL_append 18 = .ok (.iconst 0, 1) := by decide +kernel
theorem dL_append_19 : decode cL_append 19 = .ok (.ireturn, 1) := by decide +kernel
theorem dL_load_0 : decode cL_load 0 = .ok (.aload_n 1, 1) := by decide +kernel
theorem dL_load_1 : decode cL_load 1 = .ok (.iconst 0, 1) := by decide +kernel
theorem dL_load_2 : decode cL_load 2 = .ok (.aload_n 0, 1) := by decide +kernel
theorem dL_load_3 : decode cL_load 3 = .ok (.invokevirtual 17, 3) := by decide +kernel
theorem dL_load_6 : decode cL_load 6 = .ok (.i2l, 1) := by decide +kernel
theorem dL_load_7 : decode cL_load 7 = .ok (.lastore, 1) := by decide +kernel
theorem dL_load_8 : decode cL_load 8 = .ok (.goto 6, 3) := by decide +kernel
theorem dL_load_11 : decode cL_load 11 = .ok (.astore_n 2, 1) := by decide +kernel
theorem dL_load_12 : decode cL_load 12 = .ok (.iconst 1, 1) := by decide +kernel
theorem dL_load_13 : decode cL_load 13 = .ok (.ireturn, 1) := by decide +kernel
theorem dL_load_14 : decode cL_load 14 = .ok (.iconst 0, 1) := by decide +kernel
theorem dL_load_15 : decode cL_load 15 = .ok (.ireturn, 1) := by decide +kernel
theorem dL_about_0 : decode cL_about 0 = .ok (.aload_n 2, 1) := by decide +kernel
theorem dL_about_1 : decode cL_about 1 = .ok (.iconst 0, 1) := by decide +kernel
theorem dL_about_2 : decode cL_about 2 = .ok (.aload_n 0, 1) := by decide +kernel
theorem dL_about_3 : decode cL_about 3 = .ok (.iload_n 1, 1) := by decide +kernel
theorem dL_about_4 : decode cL_about 4 = .ok (.invokevirtual 21, 3) := by decide +kernel
theorem dL_about_7 : decode cL_about 7 = .ok (.i2l, 1) := by decide +kernel
theorem dL_about_8 : decode cL_about 8 = .ok (.lastore, 1) := by decide +kernel
theorem dL_about_9 : decode cL_about 9 = .ok (.goto 6, 3) := by decide +kernel
theorem dL_about_12 : decode cL_about 12 = .ok (.astore_n 3, 1) := by decide +kernel
theorem dL_about_13 : decode cL_about 13 = .ok (.iconst 1, 1) := by decide +kernel
theorem dL_about_14 : decode cL_about 14 = .ok (.ireturn, 1) := by decide +kernel
theorem dL_about_15 : decode cL_about 15 = .ok (.iconst 0, 1) := by decide +kernel
theorem dL_about_16 : decode cL_about 16 = .ok (.ireturn, 1) := by decide +kernel
theorem dL_bus_0 : decode cL_bus 0 = .ok (.aload_n 3, 1) := by decide +kernel
theorem dL_bus_1 : decode cL_bus 1 = .ok (.iconst 0, 1) := by decide +kernel
theorem dL_bus_2 : decode cL_bus 2 = .ok (.aload_n 0, 1) := by decide +kernel
theorem dL_bus_3 : decode cL_bus 3 = .ok (.iload_n 1, 1) := by decide +kernel
theorem dL_bus_4 : decode cL_bus 4 = .ok (.iload_n 2, 1) := by decide +kernel
theorem dL_bus_5 : decode cL_bus 5 = .ok (.invokevirtual 24, 3) := by decide +kernel
theorem dL_bus_8 : decode cL_bus 8 = .ok (.i2l, 1) := by decide +kernel
theorem dL_bus_9 : decode cL_bus 9 = .ok (.lastore, 1) := by decide +kernel
theorem dL_bus_10 : decode cL_bus 10 = .ok (.goto 11, 3) := by decide +kernel
theorem dL_bus_13 : decode cL_bus 13 = .ok (.astore 4, 2) := by decide +kernel
theorem dL_bus_15 : decode cL_bus 15 = .ok (.iconst 1, 1) := by decide +kernel
theorem dL_bus_16 : decode cL_bus 16 = .ok (.ireturn, 1) := by decide +kernel
theorem dL_bus_17 : decode cL_bus 17 = .ok (.astore 4, 2) := by decide +kernel
theorem dL_bus_19 : decode cL_bus 19 = .ok (.iconst 2, 1) := by decide +kernel
theorem dL_bus_20 : decode cL_bus 20 = .ok (.ireturn, 1) := by decide +kernel
theorem dL_bus_21 : decode cL_bus 21 = .ok (.iconst 0, 1) := by decide +kernel
theorem dL_bus_22 : decode cL_bus 22 = .ok (.ireturn, 1) := by decide +kernel
theorem dL_charger_0 : decode cL_charger 0 = .ok (.aload_n 3, 1) := by decide +kernel
theorem dL_charger_1 : decode cL_charger 1 = .ok (.iconst 0, 1) := by decide +kernel
theorem dL_charger_2 : decode cL_charger 2 = .ok (.aload_n 0, 1) := by decide +kernel
theorem dL_charger_3 : decode cL_charger 3 = .ok (.iload_n 1, 1) := by decide +kernel
theorem dL_charger_4 : decode cL_charger 4 = .ok (.iload_n 2, 1) := by decide +kernel
theorem dL_charger_5 : decode cL_charger 5 = .ok (.invokevirtual 30, 3) := by decide +kernel
theorem dL_charger_8 : decode cL_charger 8 = .ok (.i2l, 1) := by decide +kernel
theorem dL_charger_9 : decode cL_charger 9 = .ok (.lastore, 1) := by decide +kernel
theorem dL_charger_10 : decode cL_charger 10 = .ok (.goto 11, 3) := by decide +kernel
theorem dL_charger_13 : decode cL_charger 13 = .ok (.astore 4, 2) := by decide +kernel
theorem dL_charger_15 : decode cL_charger 15 = .ok (.iconst 1, 1) := by decide +kernel
theorem dL_charger_16 : decode cL_charger 16 = .ok (.ireturn, 1) := by decide +kernel
theorem dL_charger_17 : decode cL_charger 17 = .ok (.astore 4, 2) := by decide +kernel
theorem dL_charger_19 : decode cL_charger 19 = .ok (.iconst 2, 1) := by decide +kernel
theorem dL_charger_20 : decode cL_charger 20 = .ok (.ireturn, 1) := by decide +kernel
theorem dL_charger_21 : decode cL_charger 21 = .ok (.iconst 0, 1) := by decide +kernel
theorem dL_charger_22 : decode cL_charger 22 = .ok (.ireturn, 1) := by decide +kernel
theorem dL_sign_0 : decode cL_sign 0 = .ok (.aload_n 3, 1) := by decide +kernel
theorem dL_sign_1 : decode cL_sign 1 = .ok (.iconst 0, 1) := by decide +kernel
theorem dL_sign_2 : decode cL_sign 2 = .ok (.aload_n 0, 1) := by decide +kernel
theorem dL_sign_3 : decode cL_sign 3 = .ok (.iload_n 1, 1) := by decide +kernel
theorem dL_sign_4 : decode cL_sign 4 = .ok (.iload_n 2, 1) := by decide +kernel
theorem dL_sign_5 : decode cL_sign 5 = .ok (.invokevirtual 33, 3) := by decide +kernel
theorem dL_sign_8 : decode cL_sign 8 = .ok (.i2l, 1) := by decide +kernel
theorem dL_sign_9 : decode cL_sign 9 = .ok (.lastore, 1) := by decide +kernel
theorem dL_sign_10 : decode cL_sign 10 = .ok (.goto 11, 3) := by decide +kernel
theorem dL_sign_13 : decode cL_sign 13 = .ok (.astore 4, 2) := by decide +kernel
theorem dL_sign_15 : decode cL_sign 15 = .ok (.iconst 1, 1) := by decide +kernel
theorem dL_sign_16 : decode cL_sign 16 = .ok (.ireturn, 1) := by decide +kernel
theorem dL_sign_17 : decode cL_sign 17 = .ok (.astore 4, 2) := by decide +kernel
theorem dL_sign_19 : decode cL_sign 19 = .ok (.iconst 2, 1) := by decide +kernel
theorem dL_sign_20 : decode cL_sign 20 = .ok (.ireturn, 1) := by decide +kernel
theorem dL_sign_21 : decode cL_sign 21 = .ok (.iconst 0, 1) := by decide +kernel
theorem dL_sign_22 : decode cL_sign 22 = .ok (.ireturn, 1) := by decide +kernel
theorem dL_setting_0 : decode cL_setting 0 = .ok (.aload_n 2, 1) := by decide +kernel
theorem dL_setting_1 : decode cL_setting 1 = .ok (.iconst 0, 1) := by decide +kernel
theorem dL_setting_2 : decode cL_setting 2 = .ok (.aload_n 0, 1) := by decide +kernel
theorem dL_setting_3 : decode cL_setting 3 = .ok (.iload_n 1, 1) := by decide +kernel
theorem dL_setting_4 : decode cL_setting 4 = .ok (.invokevirtual 36, 3) := by decide +kernel
theorem dL_setting_7 : decode cL_setting 7 = .ok (.i2l, 1) := by decide +kernel
theorem dL_setting_8 : decode cL_setting 8 = .ok (.lastore, 1) := by decide +kernel
theorem dL_setting_9 : decode cL_setting 9 = .ok (.goto 6, 3) := by decide +kernel
theorem dL_setting_12 : decode cL_setting 12 = .ok (.astore_n 3, 1) := by decide +kernel
theorem dL_setting_13 : decode cL_setting 13 = .ok (.iconst 1, 1) := by decide +kernel
theorem dL_setting_14 : decode cL_setting 14 = .ok (.ireturn, 1) := by decide +kernel
theorem dL_setting_15 : decode cL_setting 15 = .ok (.iconst 0, 1) := by decide +kernel
theorem dL_setting_16 : decode cL_setting 16 = .ok (.ireturn, 1) := by decide +kernel
theorem dL_addBus_0 : decode cL_addBus 0 = .ok (.aload 6, 2) := by decide +kernel
theorem dL_addBus_2 : decode cL_addBus 2 = .ok (.iconst 0, 1) := by decide +kernel
theorem dL_addBus_3 : decode cL_addBus 3 = .ok (.aload_n 0, 1) := by decide +kernel
theorem dL_addBus_4 : decode cL_addBus 4 = .ok (.iload_n 1, 1) := by decide +kernel
theorem dL_addBus_5 : decode cL_addBus 5 = .ok (.iload_n 2, 1) := by decide +kernel
theorem dL_addBus_6 : decode cL_addBus 6 = .ok (.iload_n 3, 1) := by decide +kernel
theorem dL_addBus_7 : decode cL_addBus 7 = .ok (.iload 4, 2) := by decide +kernel
theorem dL_addBus_9 : decode cL_addBus 9 = .ok (.iload 5, 2) := by decide +kernel
theorem dL_addBus_11 : decode cL_addBus 11 = .ok (.invokevirtual 39, 3) := by decide +kernel
theorem dL_addBus_14 : decode cL_addBus 14 = .ok (.i2l, 1) := by decide +kernel
theorem dL_addBus_15 : decode cL_addBus 15 = .ok (.lastore, 1) := by decide +kernel
theorem dL_addBus_16 : decode cL_addBus 16 = .ok (.goto 11, 3) := by decide +kernel
theorem dL_addBus_19 : decode cL_addBus 19 = .ok (.astore 7, 2) := by decide +kernel
theorem dL_addBus_21 : decode cL_addBus 21 = .ok (.iconst 1, 1) := by decide +kernel
theorem dL_addBus_22 : decode cL_addBus 22 = .ok (.ireturn, 1) := by decide +kernel
theorem dL_addBus_23 : decode cL_addBus 23 = .ok (.astore 7, 2) := by decide +kernel
theorem dL_addBus_25 : decode cL_addBus 25 = .ok (.iconst 2, 1) := by decide +kernel
theorem dL_addBus_26 : decode cL_addBus 26 = .ok (.ireturn, 1) := by decide +kernel
theorem dL_addBus_27 : decode cL_addBus 27 = .ok (.iconst 0, 1) := by decide +kernel
theorem dL_addBus_28 : decode cL_addBus 28 = .ok (.ireturn, 1) := by decide +kernel
theorem dL_addCharger_0 : decode cL_addCharger 0 = .ok (.aload_n 2, 1) := by decide +kernel
theorem dL_addCharger_1 : decode cL_addCharger 1 = .ok (.iconst 0, 1) := by decide +kernel
theorem dL_addCharger_2 : decode cL_addCharger 2 = .ok (.aload_n 0, 1) := by decide +kernel
theorem dL_addCharger_3 : decode cL_addCharger 3 = .ok (.iload_n 1, 1) := by decide +kernel
theorem dL_addCharger_4 : decode cL_addCharger 4 = .ok (.invokevirtual 43, 3) := by decide +kernel
theorem dL_addCharger_7 : decode cL_addCharger 7 = .ok (.i2l, 1) := by decide +kernel
theorem dL_addCharger_8 : decode cL_addCharger 8 = .ok (.lastore, 1) := by decide +kernel
theorem dL_addCharger_9 : decode cL_addCharger 9 = .ok (.goto 9, 3) := by decide +kernel
theorem dL_addCharger_12 : decode cL_addCharger 12 = .ok (.astore_n 3, 1) := by decide +kernel
theorem dL_addCharger_13 : decode cL_addCharger 13 = .ok (.iconst 1, 1) := by decide +kernel
theorem dL_addCharger_14 : decode cL_addCharger 14 = .ok (.ireturn, 1) := by decide +kernel
theorem dL_addCharger_15 : decode cL_addCharger 15 = .ok (.astore_n 3, 1) := by decide +kernel
theorem dL_addCharger_16 : decode cL_addCharger 16 = .ok (.iconst 2, 1) := by decide +kernel
theorem dL_addCharger_17 : decode cL_addCharger 17 = .ok (.ireturn, 1) := by decide +kernel
theorem dL_addCharger_18 : decode cL_addCharger 18 = .ok (.iconst 0, 1) := by decide +kernel
theorem dL_addCharger_19 : decode cL_addCharger 19 = .ok (.ireturn, 1) := by decide +kernel
theorem dL_route_0 : decode cL_route 0 = .ok (.aload 5, 2) := by decide +kernel
theorem dL_route_2 : decode cL_route 2 = .ok (.iconst 0, 1) := by decide +kernel
theorem dL_route_3 : decode cL_route 3 = .ok (.aload_n 0, 1) := by decide +kernel
theorem dL_route_4 : decode cL_route 4 = .ok (.iload_n 1, 1) := by decide +kernel
theorem dL_route_5 : decode cL_route 5 = .ok (.iload_n 2, 1) := by decide +kernel
theorem dL_route_6 : decode cL_route 6 = .ok (.iload_n 3, 1) := by decide +kernel
theorem dL_route_7 : decode cL_route 7 = .ok (.iload 4, 2) := by decide +kernel
theorem dL_route_9 : decode cL_route 9 = .ok (.invokevirtual 46, 3) := by decide +kernel
theorem dL_route_12 : decode cL_route 12 = .ok (.i2l, 1) := by decide +kernel
theorem dL_route_13 : decode cL_route 13 = .ok (.lastore, 1) := by decide +kernel
theorem dL_route_14 : decode cL_route 14 = .ok (.goto 15, 3) := by decide +kernel
theorem dL_route_17 : decode cL_route 17 = .ok (.astore 6, 2) := by decide +kernel
theorem dL_route_19 : decode cL_route 19 = .ok (.iconst 1, 1) := by decide +kernel
theorem dL_route_20 : decode cL_route 20 = .ok (.ireturn, 1) := by decide +kernel
theorem dL_route_21 : decode cL_route 21 = .ok (.astore 6, 2) := by decide +kernel
theorem dL_route_23 : decode cL_route 23 = .ok (.iconst 2, 1) := by decide +kernel
theorem dL_route_24 : decode cL_route 24 = .ok (.ireturn, 1) := by decide +kernel
theorem dL_route_25 : decode cL_route 25 = .ok (.astore 6, 2) := by decide +kernel
theorem dL_route_27 : decode cL_route 27 = .ok (.iconst 3, 1) := by decide +kernel
theorem dL_route_28 : decode cL_route 28 = .ok (.ireturn, 1) := by decide +kernel
theorem dL_route_29 : decode cL_route 29 = .ok (.iconst 0, 1) := by decide +kernel
theorem dL_route_30 : decode cL_route 30 = .ok (.ireturn, 1) := by decide +kernel
theorem dL_battery_0 : decode cL_battery 0 = .ok (.aload_n 3, 1) := by decide +kernel
theorem dL_battery_1 : decode cL_battery 1 = .ok (.iconst 0, 1) := by decide +kernel
theorem dL_battery_2 : decode cL_battery 2 = .ok (.aload_n 0, 1) := by decide +kernel
theorem dL_battery_3 : decode cL_battery 3 = .ok (.iload_n 1, 1) := by decide +kernel
theorem dL_battery_4 : decode cL_battery 4 = .ok (.iload_n 2, 1) := by decide +kernel
theorem dL_battery_5 : decode cL_battery 5 = .ok (.invokevirtual 50, 3) := by decide +kernel
theorem dL_battery_8 : decode cL_battery 8 = .ok (.i2l, 1) := by decide +kernel
theorem dL_battery_9 : decode cL_battery 9 = .ok (.lastore, 1) := by decide +kernel
theorem dL_battery_10 : decode cL_battery 10 = .ok (.goto 15, 3) := by decide +kernel
theorem dL_battery_13 : decode cL_battery 13 = .ok (.astore 4, 2) := by decide +kernel
theorem dL_battery_15 : decode cL_battery 15 = .ok (.iconst 1, 1) := by decide +kernel
theorem dL_battery_16 : decode cL_battery 16 = .ok (.ireturn, 1) := by decide +kernel
theorem dL_battery_17 : decode cL_battery 17 = .ok (.astore 4, 2) := by decide +kernel
theorem dL_battery_19 : decode cL_battery 19 = .ok (.iconst 2, 1) := by decide +kernel
theorem dL_battery_20 : decode cL_battery 20 = .ok (.ireturn, 1) := by decide +kernel
theorem dL_battery_21 : decode cL_battery 21 = .ok (.astore 4, 2) := by decide +kernel
theorem dL_battery_23 : decode cL_battery 23 = .ok (.iconst 3, 1) := by decide +kernel
theorem dL_battery_24 : decode cL_battery 24 = .ok (.ireturn, 1) := by decide +kernel
theorem dL_battery_25 : decode cL_battery 25 = .ok (.iconst 0, 1) := by decide +kernel
theorem dL_battery_26 : decode cL_battery 26 = .ok (.ireturn, 1) := by decide +kernel
theorem dL_run_0 : decode cL_run 0 = .ok (.aload_n 2, 1) := by decide +kernel
theorem dL_run_1 : decode cL_run 1 = .ok (.iconst 0, 1) := by decide +kernel
theorem dL_run_2 : decode cL_run 2 = .ok (.aload_n 0, 1) := by decide +kernel
theorem dL_run_3 : decode cL_run 3 = .ok (.iload_n 1, 1) := by decide +kernel
theorem dL_run_4 : decode cL_run 4 = .ok (.invokevirtual 53, 3) := by decide +kernel
theorem dL_run_7 : decode cL_run 7 = .ok (.i2l, 1) := by decide +kernel
theorem dL_run_8 : decode cL_run 8 = .ok (.lastore, 1) := by decide +kernel
theorem dL_run_9 : decode cL_run 9 = .ok (.goto 6, 3) := by decide +kernel
theorem dL_run_12 : decode cL_run 12 = .ok (.astore_n 3, 1) := by decide +kernel
theorem dL_run_13 : decode cL_run 13 = .ok (.iconst 1, 1) := by decide +kernel
theorem dL_run_14 : decode cL_run 14 = .ok (.ireturn, 1) := by decide +kernel
theorem dL_run_15 : decode cL_run 15 = .ok (.iconst 0, 1) := by decide +kernel
theorem dL_run_16 : decode cL_run 16 = .ok (.ireturn, 1) := by decide +kernel
theorem dL_set_0 : decode cL_set 0 = .ok (.aload_n 3, 1) := by decide +kernel
theorem dL_set_1 : decode cL_set 1 = .ok (.iconst 0, 1) := by decide +kernel
theorem dL_set_2 : decode cL_set 2 = .ok (.aload_n 0, 1) := by decide +kernel
theorem dL_set_3 : decode cL_set 3 = .ok (.iload_n 1, 1) := by decide +kernel
theorem dL_set_4 : decode cL_set 4 = .ok (.iload_n 2, 1) := by decide +kernel
theorem dL_set_5 : decode cL_set 5 = .ok (.invokevirtual 56, 3) := by decide +kernel
theorem dL_set_8 : decode cL_set 8 = .ok (.i2l, 1) := by decide +kernel
theorem dL_set_9 : decode cL_set 9 = .ok (.lastore, 1) := by decide +kernel
theorem dL_set_10 : decode cL_set 10 = .ok (.goto 7, 3) := by decide +kernel
theorem dL_set_13 : decode cL_set 13 = .ok (.astore 4, 2) := by decide +kernel
theorem dL_set_15 : decode cL_set 15 = .ok (.iconst 1, 1) := by decide +kernel
theorem dL_set_16 : decode cL_set 16 = .ok (.ireturn, 1) := by decide +kernel
theorem dL_set_17 : decode cL_set 17 = .ok (.iconst 0, 1) := by decide +kernel
theorem dL_set_18 : decode cL_set 18 = .ok (.ireturn, 1) := by decide +kernel
theorem dL_undo_0 : decode cL_undo 0 = .ok (.aload_n 1, 1) := by decide +kernel
theorem dL_undo_1 : decode cL_undo 1 = .ok (.iconst 0, 1) := by decide +kernel
theorem dL_undo_2 : decode cL_undo 2 = .ok (.aload_n 0, 1) := by decide +kernel
theorem dL_undo_3 : decode cL_undo 3 = .ok (.invokevirtual 59, 3) := by decide +kernel
theorem dL_undo_6 : decode cL_undo 6 = .ok (.i2l, 1) := by decide +kernel
theorem dL_undo_7 : decode cL_undo 7 = .ok (.lastore, 1) := by decide +kernel
theorem dL_undo_8 : decode cL_undo 8 = .ok (.goto 6, 3) := by decide +kernel
theorem dL_undo_11 : decode cL_undo 11 = .ok (.astore_n 2, 1) := by decide +kernel
theorem dL_undo_12 : decode cL_undo 12 = .ok (.iconst 1, 1) := by decide +kernel
theorem dL_undo_13 : decode cL_undo 13 = .ok (.ireturn, 1) := by decide +kernel
theorem dL_undo_14 : decode cL_undo 14 = .ok (.iconst 0, 1) := by decide +kernel
theorem dL_undo_15 : decode cL_undo 15 = .ok (.ireturn, 1) := by decide +kernel
theorem dL_coming_0 : decode cL_coming 0 = .ok (.aload_n 3, 1) := by decide +kernel
theorem dL_coming_1 : decode cL_coming 1 = .ok (.iconst 0, 1) := by decide +kernel
theorem dL_coming_2 : decode cL_coming 2 = .ok (.aload_n 0, 1) := by decide +kernel
theorem dL_coming_3 : decode cL_coming 3 = .ok (.iload_n 1, 1) := by decide +kernel
theorem dL_coming_4 : decode cL_coming 4 = .ok (.iload_n 2, 1) := by decide +kernel
theorem dL_coming_5 : decode cL_coming 5 = .ok (.invokevirtual 62, 3) := by decide +kernel
theorem dL_coming_8 : decode cL_coming 8 = .ok (.i2l, 1) := by decide +kernel
theorem dL_coming_9 : decode cL_coming 9 = .ok (.lastore, 1) := by decide +kernel
theorem dL_coming_10 : decode cL_coming 10 = .ok (.goto 7, 3) := by decide +kernel
theorem dL_coming_13 : decode cL_coming 13 = .ok (.astore 4, 2) := by decide +kernel
theorem dL_coming_15 : decode cL_coming 15 = .ok (.iconst 1, 1) := by decide +kernel
theorem dL_coming_16 : decode cL_coming 16 = .ok (.ireturn, 1) := by decide +kernel
theorem dL_coming_17 : decode cL_coming 17 = .ok (.iconst 0, 1) := by decide +kernel
theorem dL_coming_18 : decode cL_coming 18 = .ok (.ireturn, 1) := by decide +kernel
theorem dL_firstMissed_0 : decode cL_firstMissed 0 = .ok (.aload_n 2, 1) := by decide +kernel
theorem dL_firstMissed_1 : decode cL_firstMissed 1 = .ok (.iconst 0, 1) := by decide +kernel
theorem dL_firstMissed_2 : decode cL_firstMissed 2 = .ok (.aload_n 0, 1) := by decide +kernel
theorem dL_firstMissed_3 : decode cL_firstMissed 3 = .ok (.iload_n 1, 1) := by decide +kernel
theorem dL_firstMissed_4 : decode cL_firstMissed 4 = .ok (.invokevirtual 65, 3) := by decide +kernel
theorem dL_firstMissed_7 : decode cL_firstMissed 7 = .ok (.i2l, 1) := by decide +kernel
theorem dL_firstMissed_8 : decode cL_firstMissed 8 = .ok (.lastore, 1) := by decide +kernel
theorem dL_firstMissed_9 : decode cL_firstMissed 9 = .ok (.goto 6, 3) := by decide +kernel
theorem dL_firstMissed_12 : decode cL_firstMissed 12 = .ok (.astore_n 3, 1) := by decide +kernel
theorem dL_firstMissed_13 : decode cL_firstMissed 13 = .ok (.iconst 1, 1) := by decide +kernel
theorem dL_firstMissed_14 : decode cL_firstMissed 14 = .ok (.ireturn, 1) := by decide +kernel
theorem dL_firstMissed_15 : decode cL_firstMissed 15 = .ok (.iconst 0, 1) := by decide +kernel
theorem dL_firstMissed_16 : decode cL_firstMissed 16 = .ok (.ireturn, 1) := by decide +kernel
theorem dL_leastLimit_0 : decode cL_leastLimit 0 = .ok (.aload_n 2, 1) := by decide +kernel
theorem dL_leastLimit_1 : decode cL_leastLimit 1 = .ok (.iconst 0, 1) := by decide +kernel
theorem dL_leastLimit_2 : decode cL_leastLimit 2 = .ok (.aload_n 0, 1) := by decide +kernel
theorem dL_leastLimit_3 : decode cL_leastLimit 3 = .ok (.iload_n 1, 1) := by decide +kernel
theorem dL_leastLimit_4 : decode cL_leastLimit 4 = .ok (.invokevirtual 68, 3) := by decide +kernel
theorem dL_leastLimit_7 : decode cL_leastLimit 7 = .ok (.i2l, 1) := by decide +kernel
theorem dL_leastLimit_8 : decode cL_leastLimit 8 = .ok (.lastore, 1) := by decide +kernel
theorem dL_leastLimit_9 : decode cL_leastLimit 9 = .ok (.goto 6, 3) := by decide +kernel
theorem dL_leastLimit_12 : decode cL_leastLimit 12 = .ok (.astore_n 3, 1) := by decide +kernel
theorem dL_leastLimit_13 : decode cL_leastLimit 13 = .ok (.iconst 1, 1) := by decide +kernel
theorem dL_leastLimit_14 : decode cL_leastLimit 14 = .ok (.ireturn, 1) := by decide +kernel
theorem dL_leastLimit_15 : decode cL_leastLimit 15 = .ok (.iconst 0, 1) := by decide +kernel
theorem dL_leastLimit_16 : decode cL_leastLimit 16 = .ok (.ireturn, 1) := by decide +kernel
theorem dL_bestNight_0 : decode cL_bestNight 0 = .ok (.aload_n 2, 1) := by decide +kernel
theorem dL_bestNight_1 : decode cL_bestNight 1 = .ok (.iconst 0, 1) := by decide +kernel
theorem dL_bestNight_2 : decode cL_bestNight 2 = .ok (.aload_n 0, 1) := by decide +kernel
theorem dL_bestNight_3 : decode cL_bestNight 3 = .ok (.iload_n 1, 1) := by decide +kernel
theorem dL_bestNight_4 : decode cL_bestNight 4 = .ok (.invokevirtual 71, 3) := by decide +kernel
theorem dL_bestNight_7 : decode cL_bestNight 7 = .ok (.i2l, 1) := by decide +kernel
theorem dL_bestNight_8 : decode cL_bestNight 8 = .ok (.lastore, 1) := by decide +kernel
theorem dL_bestNight_9 : decode cL_bestNight 9 = .ok (.goto 6, 3) := by decide +kernel
theorem dL_bestNight_12 : decode cL_bestNight 12 = .ok (.astore_n 3, 1) := by decide +kernel
theorem dL_bestNight_13 : decode cL_bestNight 13 = .ok (.iconst 1, 1) := by decide +kernel
theorem dL_bestNight_14 : decode cL_bestNight 14 = .ok (.ireturn, 1) := by decide +kernel
theorem dL_bestNight_15 : decode cL_bestNight 15 = .ok (.iconst 0, 1) := by decide +kernel
theorem dL_bestNight_16 : decode cL_bestNight 16 = .ok (.ireturn, 1) := by decide +kernel
theorem dL_ifPlugged_0 : decode cL_ifPlugged 0 = .ok (.aload_n 3, 1) := by decide +kernel
theorem dL_ifPlugged_1 : decode cL_ifPlugged 1 = .ok (.iconst 0, 1) := by decide +kernel
theorem dL_ifPlugged_2 : decode cL_ifPlugged 2 = .ok (.aload_n 0, 1) := by decide +kernel
theorem dL_ifPlugged_3 : decode cL_ifPlugged 3 = .ok (.iload_n 1, 1) := by decide +kernel
theorem dL_ifPlugged_4 : decode cL_ifPlugged 4 = .ok (.iload_n 2, 1) := by decide +kernel
theorem dL_ifPlugged_5 : decode cL_ifPlugged 5 = .ok (.invokevirtual 74, 3) := by decide +kernel
theorem dL_ifPlugged_8 : decode cL_ifPlugged 8 = .ok (.i2l, 1) := by decide +kernel
theorem dL_ifPlugged_9 : decode cL_ifPlugged 9 = .ok (.lastore, 1) := by decide +kernel
theorem dL_ifPlugged_10 : decode cL_ifPlugged 10 = .ok (.goto 11, 3) := by decide +kernel
theorem dL_ifPlugged_13 : decode cL_ifPlugged 13 = .ok (.astore 4, 2) := by decide +kernel
theorem dL_ifPlugged_15 : decode cL_ifPlugged 15 = .ok (.iconst 1, 1) := by decide +kernel
theorem dL_ifPlugged_16 : decode cL_ifPlugged 16 = .ok (.ireturn, 1) := by decide +kernel
theorem dL_ifPlugged_17 : decode cL_ifPlugged 17 = .ok (.astore 4, 2) := by decide +kernel
theorem dL_ifPlugged_19 : decode cL_ifPlugged 19 = .ok (.iconst 2, 1) := by decide +kernel
theorem dL_ifPlugged_20 : decode cL_ifPlugged 20 = .ok (.ireturn, 1) := by decide +kernel
theorem dL_ifPlugged_21 : decode cL_ifPlugged 21 = .ok (.iconst 0, 1) := by decide +kernel
theorem dL_ifPlugged_22 : decode cL_ifPlugged 22 = .ok (.ireturn, 1) := by decide +kernel
theorem dL_runScript_0 : decode cL_runScript 0 = .ok (.aload 4, 2) := by decide +kernel
theorem dL_runScript_2 : decode cL_runScript 2 = .ok (.iconst 0, 1) := by decide +kernel
theorem dL_runScript_3 : decode cL_runScript 3 = .ok (.aload_n 0, 1) := by decide +kernel
theorem dL_runScript_4 : decode cL_runScript 4 = .ok (.iload_n 1, 1) := by decide +kernel
theorem dL_runScript_5 : decode cL_runScript 5 = .ok (.lload_n 2, 1) := by decide +kernel
theorem dL_runScript_6 : decode cL_runScript 6 = .ok (.invokevirtual 77, 3) := by decide +kernel
theorem dL_runScript_9 : decode cL_runScript 9 = .ok (.i2l, 1) := by decide +kernel
theorem dL_runScript_10 : decode cL_runScript 10 = .ok (.lastore, 1) := by decide +kernel
theorem dL_runScript_11 : decode cL_runScript 11 = .ok (.goto 7, 3) := by decide +kernel
theorem dL_runScript_14 : decode cL_runScript 14 = .ok (.astore 5, 2) := by decide +kernel
theorem dL_runScript_16 : decode cL_runScript 16 = .ok (.iconst 1, 1) := by decide +kernel
theorem dL_runScript_17 : decode cL_runScript 17 = .ok (.ireturn, 1) := by decide +kernel
theorem dL_runScript_18 : decode cL_runScript 18 = .ok (.iconst 0, 1) := by decide +kernel
theorem dL_runScript_19 : decode cL_runScript 19 = .ok (.ireturn, 1) := by decide +kernel
theorem dL_simulate_0 : decode cL_simulate 0 = .ok (.aload 4, 2) := by decide +kernel
theorem dL_simulate_2 : decode cL_simulate 2 = .ok (.iconst 0, 1) := by decide +kernel
theorem dL_simulate_3 : decode cL_simulate 3 = .ok (.aload_n 0, 1) := by decide +kernel
theorem dL_simulate_4 : decode cL_simulate 4 = .ok (.lload_n 1, 1) := by decide +kernel
theorem dL_simulate_5 : decode cL_simulate 5 = .ok (.iload_n 3, 1) := by decide +kernel
theorem dL_simulate_6 : decode cL_simulate 6 = .ok (.invokevirtual 81, 3) := by decide +kernel
theorem dL_simulate_9 : decode cL_simulate 9 = .ok (.i2l, 1) := by decide +kernel
theorem dL_simulate_10 : decode cL_simulate 10 = .ok (.lastore, 1) := by decide +kernel
theorem dL_simulate_11 : decode cL_simulate 11 = .ok (.goto 7, 3) := by decide +kernel
theorem dL_simulate_14 : decode cL_simulate 14 = .ok (.astore 5, 2) := by decide +kernel
theorem dL_simulate_16 : decode cL_simulate 16 = .ok (.iconst 1, 1) := by decide +kernel
theorem dL_simulate_17 : decode cL_simulate 17 = .ok (.ireturn, 1) := by decide +kernel
theorem dL_simulate_18 : decode cL_simulate 18 = .ok (.iconst 0, 1) := by decide +kernel
theorem dL_simulate_19 : decode cL_simulate 19 = .ok (.ireturn, 1) := by decide +kernel
theorem dL_save_0 : decode cL_save 0 = .ok (.aload_n 2, 1) := by decide +kernel
theorem dL_save_1 : decode cL_save 1 = .ok (.iconst 0, 1) := by decide +kernel
theorem dL_save_2 : decode cL_save 2 = .ok (.aload_n 0, 1) := by decide +kernel
theorem dL_save_3 : decode cL_save 3 = .ok (.iload_n 1, 1) := by decide +kernel
theorem dL_save_4 : decode cL_save 4 = .ok (.invokevirtual 85, 3) := by decide +kernel
theorem dL_save_7 : decode cL_save 7 = .ok (.i2l, 1) := by decide +kernel
theorem dL_save_8 : decode cL_save 8 = .ok (.lastore, 1) := by decide +kernel
theorem dL_save_9 : decode cL_save 9 = .ok (.goto 6, 3) := by decide +kernel
theorem dL_save_12 : decode cL_save 12 = .ok (.astore_n 3, 1) := by decide +kernel
theorem dL_save_13 : decode cL_save 13 = .ok (.iconst 1, 1) := by decide +kernel
theorem dL_save_14 : decode cL_save 14 = .ok (.ireturn, 1) := by decide +kernel
theorem dL_save_15 : decode cL_save 15 = .ok (.iconst 0, 1) := by decide +kernel
theorem dL_save_16 : decode cL_save 16 = .ok (.ireturn, 1) := by decide +kernel
theorem dL_restore_0 : decode cL_restore 0 = .ok (.aload_n 2, 1) := by decide +kernel
theorem dL_restore_1 : decode cL_restore 1 = .ok (.iconst 0, 1) := by decide +kernel
theorem dL_restore_2 : decode cL_restore 2 = .ok (.aload_n 0, 1) := by decide +kernel
theorem dL_restore_3 : decode cL_restore 3 = .ok (.iload_n 1, 1) := by decide +kernel
theorem dL_restore_4 : decode cL_restore 4 = .ok (.invokevirtual 88, 3) := by decide +kernel
theorem dL_restore_7 : decode cL_restore 7 = .ok (.i2l, 1) := by decide +kernel
theorem dL_restore_8 : decode cL_restore 8 = .ok (.lastore, 1) := by decide +kernel
theorem dL_restore_9 : decode cL_restore 9 = .ok (.goto 9, 3) := by decide +kernel
theorem dL_restore_12 : decode cL_restore 12 = .ok (.astore_n 3, 1) := by decide +kernel
theorem dL_restore_13 : decode cL_restore 13 = .ok (.iconst 1, 1) := by decide +kernel
theorem dL_restore_14 : decode cL_restore 14 = .ok (.ireturn, 1) := by decide +kernel
theorem dL_restore_15 : decode cL_restore 15 = .ok (.astore_n 3, 1) := by decide +kernel
theorem dL_restore_16 : decode cL_restore 16 = .ok (.iconst 2, 1) := by decide +kernel
theorem dL_restore_17 : decode cL_restore 17 = .ok (.ireturn, 1) := by decide +kernel
theorem dL_restore_18 : decode cL_restore 18 = .ok (.iconst 0, 1) := by decide +kernel
theorem dL_restore_19 : decode cL_restore 19 = .ok (.ireturn, 1) := by decide +kernel
theorem dL_law_0 : decode cL_law 0 = .ok (.new 8, 3) := by decide +kernel
theorem dL_law_3 : decode cL_law 3 = .ok (.dup, 1) := by decide +kernel
theorem dL_law_4 : decode cL_law 4 = .ok (.invokespecial 91, 3) := by decide +kernel
theorem dL_law_7 : decode cL_law 7 = .ok (.astore_n 1, 1) := by decide +kernel
theorem dL_law_8 : decode cL_law 8 = .ok (.new 92, 3) := by decide +kernel
theorem dL_law_11 : decode cL_law 11 = .ok (.dup, 1) := by decide +kernel
theorem dL_law_12 : decode cL_law 12 = .ok (.invokespecial 94, 3) := by decide +kernel
theorem dL_law_15 : decode cL_law 15 = .ok (.astore_n 2, 1) := by decide +kernel
theorem dL_law_16 : decode cL_law 16 = .ok (.iconst 1, 1) := by decide +kernel
theorem dL_law_17 : decode cL_law 17 = .ok (.newarray .long, 2) := by decide +kernel
theorem dL_law_19 : decode cL_law 19 = .ok (.astore_n 3, 1) := by decide +kernel
theorem dL_law_20 : decode cL_law 20 = .ok (.iconst 0, 1) := by decide +kernel
theorem dL_law_21 : decode cL_law 21 = .ok (.istore 4, 2) := by decide +kernel
theorem dL_law_23 : decode cL_law 23 = .ok (.iload 4, 2) := by decide +kernel
theorem dL_law_25 : decode cL_law 25 = .ok (.aload_n 0, 1) := by decide +kernel
theorem dL_law_26 : decode cL_law 26 = .ok (.arraylength, 1) := by decide +kernel
theorem dL_law_27 : decode cL_law 27 = .ok (.bipush 6, 2) := by decide +kernel
theorem dL_law_29 : decode cL_law 29 = .ok (.isub, 1) := by decide +kernel
theorem dL_law_30 : decode cL_law 30 = .ok (.if_icmp .gt 1678, 3) := by decide +kernel
theorem dL_law_33 : decode cL_law 33 = .ok (.aload_n 0, 1) := by decide +kernel
theorem dL_law_34 : decode cL_law 34 = .ok (.iload 4, 2) := by decide +kernel
theorem dL_law_36 : decode cL_law 36 = .ok (.iaload, 1) := by decide +kernel
theorem dL_law_37 : decode cL_law 37 = .ok (.bipush 31, 2) := by decide +kernel
theorem dL_law_39 : decode cL_law 39 = .ok (.iand, 1) := by decide +kernel
theorem dL_law_40 : decode cL_law 40 = .ok (.tableswitch 1662 0 24 #[116, 172, 185, 198, 242, 298, 366, 434, 502, 558, 662, 718, 810, 878, 934, 1002, 1046, 1114, 1170, 1226, 1282, 1350, 1450, 1550, 1606], 116) := by decide +kernel
theorem dL_law_156 : decode cL_law 156 = .ok (.aload_n 1, 1) := by decide +kernel
theorem dL_law_157 : decode cL_law 157 = .ok (.aload_n 0, 1) := by decide +kernel
theorem dL_law_158 : decode cL_law 158 = .ok (.iload 4, 2) := by decide +kernel
theorem dL_law_160 : decode cL_law 160 = .ok (.iconst 1, 1) := by decide +kernel
theorem dL_law_161 : decode cL_law 161 = .ok (.iadd, 1) := by decide +kernel
theorem dL_law_162 : decode cL_law 162 = .ok (.iaload, 1) := by decide +kernel
theorem dL_law_163 : decode cL_law 163 = .ok (.aload_n 3, 1) := by decide +kernel
theorem dL_law_164 : decode cL_law 164 = .ok (.invokestatic 95, 3) := by decide +kernel
theorem dL_law_167 : decode cL_law 167 = .ok (.istore 5, 2) := by decide +kernel
theorem dL_law_169 : decode cL_law 169 = .ok (.aload_n 2, 1) := by decide +kernel
theorem dL_law_170 : decode cL_law 170 = .ok (.aload_n 0, 1) := by decide +kernel
theorem dL_law_171 : decode cL_law 171 = .ok (.iload 4, 2) := by decide +kernel
theorem dL_law_173 : decode cL_law 173 = .ok (.iconst 1, 1) := by decide +kernel
theorem dL_law_174 : decode cL_law 174 = .ok (.iadd, 1) := by decide +kernel
theorem dL_law_175 : decode cL_law 175 = .ok (.iaload, 1) := by decide +kernel
theorem dL_law_176 : decode cL_law 176 = .ok (.invokevirtual 100, 3) := by decide +kernel
theorem dL_law_179 : decode cL_law 179 = .ok (.istore 6, 2) := by decide +kernel
theorem dL_law_181 : decode cL_law 181 = .ok (.aload_n 2, 1) := by decide +kernel
theorem dL_law_182 : decode cL_law 182 = .ok (.invokevirtual 101, 3) := by decide +kernel
theorem dL_law_185 : decode cL_law 185 = .ok (.iload 5, 2) := by decide +kernel
theorem dL_law_187 : decode cL_law 187 = .ok (.if_icmp .eq 5, 3) := by decide +kernel
theorem dL_law_190 : decode cL_law 190 = .ok (.iconst 0, 1) := by decide +kernel
theorem dL_law_191 : decode cL_law 191 = .ok (.ireturn, 1) := by decide +kernel
theorem dL_law_192 : decode cL_law 192 = .ok (.iload 5, 2) := by decide +kernel
theorem dL_law_194 : decode cL_law 194 = .ok (.ifCond .ne 15, 3) := by decide +kernel
theorem dL_law_197 : decode cL_law 197 = .ok (.aload_n 3, 1) := by decide +kernel
theorem dL_law_198 : decode cL_law 198 = .ok (.iconst 0, 1) := by decide +kernel
theorem dL_law_199 : decode cL_law 199 = .ok (.laload, 1) := by decide +kernel
theorem dL_law_200 : decode cL_law 200 = .ok (.iload 6, 2) := by decide +kernel
theorem dL_law_202 : decode cL_law 202 = .ok (.i2l, 1) := by decide +kernel
theorem dL_law_203 : decode cL_law 203 = .ok (.lcmp, 1) := by decide +kernel
theorem dL_law_204 : decode cL_law 204 = .ok (.ifCond .eq 5, 3) := by decide +kernel
theorem dL_law_207 : decode cL_law 207 = .ok (.iconst 0, 1) := by decide +kernel
theorem dL_law_208 : decode cL_law 208 = .ok (.ireturn, 1) := by decide +kernel
theorem dL_law_209 : decode cL_law 209 = .ok (.goto 1493, 3) := by decide +kernel
theorem dL_law_212 : decode cL_law 212 = .ok (.aload_n 1, 1) := by decide +kernel
theorem dL_law_213 : decode cL_law 213 = .ok (.invokevirtual 104, 3) := by decide +kernel
theorem dL_law_216 : decode cL_law 216 = .ok (.aload_n 2, 1) := by decide +kernel
theorem dL_law_217 : decode cL_law 217 = .ok (.invokevirtual 107, 3) := by decide +kernel
theorem dL_law_220 : decode cL_law 220 = .ok (.if_icmp .eq 1482, 3) := by decide +kernel
theorem dL_law_223 : decode cL_law 223 = .ok (.iconst 0, 1) := by decide +kernel
theorem dL_law_224 : decode cL_law 224 = .ok (.ireturn, 1) := by decide +kernel
theorem dL_law_225 : decode cL_law 225 = .ok (.aload_n 1, 1) := by decide +kernel
theorem dL_law_226 : decode cL_law 226 = .ok (.invokevirtual 108, 3) := by decide +kernel
theorem dL_law_229 : decode cL_law 229 = .ok (.aload_n 2, 1) := by decide +kernel
theorem dL_law_230 : decode cL_law 230 = .ok (.invokevirtual 111, 3) := by decide +kernel
theorem dL_law_233 : decode cL_law 233 = .ok (.if_icmp .eq 1469, 3) := by decide +kernel
theorem dL_law_236 : decode cL_law 236 = .ok (.iconst 0, 1) := by decide +kernel
theorem dL_law_237 : decode cL_law 237 = .ok (.ireturn, 1) := by decide +kernel
theorem dL_law_238 : decode cL_law 238 = .ok (.aload_n 1, 1) := by decide +kernel
theorem dL_law_239 : decode cL_law 239 = .ok (.aload_n 3, 1) := by decide +kernel
theorem dL_law_240 : decode cL_law 240 = .ok (.invokestatic 112, 3) := by decide +kernel
theorem dL_law_243 : decode cL_law 243 = .ok (.istore 5, 2) := by decide +kernel
theorem dL_law_245 : decode cL_law 245 = .ok (.aload_n 2, 1) := by decide +kernel
theorem dL_law_246 : decode cL_law 246 = .ok (.invokevirtual 115, 3) := by decide +kernel
theorem dL_law_249 : decode cL_law 249 = .ok (.istore 6, 2) := by decide +kernel
theorem dL_law_251 : decode cL_law 251 = .ok (.aload_n 2, 1) := by decide +kernel
theorem dL_law_252 : decode cL_law 252 = .ok (.invokevirtual 101, 3) := by decide +kernel
theorem dL_law_255 : decode cL_law 255 = .ok (.iload 5, 2) := by decide +kernel
theorem dL_law_257 : decode cL_law 257 = .ok (.if_icmp .eq 5, 3) := by decide +kernel
theorem dL_law_260 : decode cL_law 260 = .ok (.iconst 0, 1) := by decide +kernel
theorem dL_law_261 : decode cL_law 261 = .ok (.ireturn, 1) := by decide +kernel
theorem dL_law_262 : decode cL_law 262 = .ok (.iload 5, 2) := by decide +kernel
theorem dL_law_264 : decode cL_law 264 = .ok (.ifCond .ne 15, 3) := by decide +kernel
theorem dL_law_267 : decode cL_law 267 = .ok (.aload_n 3, 1) := by decide +kernel
theorem dL_law_268 : decode cL_law 268 = .ok (.iconst 0, 1) := by decide +kernel
theorem dL_law_269 : decode cL_law 269 = .ok (.laload, 1) := by decide +kernel
theorem dL_law_270 : decode cL_law 270 = .ok (.iload 6, 2) := by decide +kernel
theorem dL_law_272 : decode cL_law 272 = .ok (.i2l, 1) := by decide +kernel
theorem dL_law_273 : decode cL_law 273 = .ok (.lcmp, 1) := by decide +kernel
theorem dL_law_274 : decode cL_law 274 = .ok (.ifCond .eq 5, 3) := by decide +kernel
theorem dL_law_277 : decode cL_law 277 = .ok (.iconst 0, 1) := by decide +kernel
theorem dL_law_278 : decode cL_law 278 = .ok (.ireturn, 1) := by decide +kernel
theorem dL_law_279 : decode cL_law 279 = .ok (.goto 1423, 3) := by decide +kernel
theorem dL_law_282 : decode cL_law 282 = .ok (.aload_n 1, 1) := by decide +kernel
theorem dL_law_283 : decode cL_law 283 = .ok (.aload_n 0, 1) := by decide +kernel
theorem dL_law_284 : decode cL_law 284 = .ok (.iload 4, 2) := by decide +kernel
theorem dL_law_286 : decode cL_law 286 = .ok (.iconst 1, 1) := by decide +kernel
theorem dL_law_287 : decode cL_law 287 = .ok (.iadd, 1) := by decide +kernel
theorem dL_law_288 : decode cL_law 288 = .ok (.iaload, 1) := by decide +kernel
theorem dL_law_289 : decode cL_law 289 = .ok (.aload_n 3, 1) := by decide +kernel
theorem dL_law_290 : decode cL_law 290 = .ok (.invokestatic 116, 3) := by decide +kernel
theorem dL_law_293 : decode cL_law 293 = .ok (.istore 5, 2) := by decide +kernel
theorem dL_law_295 : decode cL_law 295 = .ok (.aload_n 2, 1) := by decide +kernel
theorem dL_law_296 : decode cL_law 296 = .ok (.aload_n 0, 1) := by decide +kernel
theorem dL_law_297 : decode cL_law 297 = .ok (.iload 4, 2) := by decide +kernel
theorem dL_law_299 : decode cL_law 299 = .ok (.iconst 1, 1) := by decide +kernel
theorem dL_law_300 : decode cL_law 300 = .ok (.iadd, 1) := by decide +kernel
theorem dL_law_301 : decode cL_law 301 = .ok (.iaload, 1) := by decide +kernel
theorem dL_law_302 : decode cL_law 302 = .ok (.invokevirtual 118, 3) := by decide +kernel
theorem dL_law_305 : decode cL_law 305 = .ok (.istore 6, 2) := by decide +kernel
theorem dL_law_307 : decode cL_law 307 = .ok (.aload_n 2, 1) := by decide +kernel
theorem dL_law_308 : decode cL_law 308 = .ok (.invokevirtual 101, 3) := by decide +kernel
theorem dL_law_311 : decode cL_law 311 = .ok (.iload 5, 2) := by decide +kernel
theorem dL_law_313 : decode cL_law 313 = .ok (.if_icmp .eq 5, 3) := by decide +kernel
theorem dL_law_316 : decode cL_law 316 = .ok (.iconst 0, 1) := by decide +kernel
theorem dL_law_317 : decode cL_law 317 = .ok (.ireturn, 1) := by decide +kernel
theorem dL_law_318 : decode cL_law 318 = .ok (.iload 5, 2) := by decide +kernel
theorem dL_law_320 : decode cL_law 320 = .ok (.ifCond .ne 15, 3) := by decide +kernel
theorem dL_law_323 : decode cL_law 323 = .ok (.aload_n 3, 1) := by decide +kernel
theorem dL_law_324 : decode cL_law 324 = .ok (.iconst 0, 1) := by decide +kernel
theorem dL_law_325 : decode cL_law 325 = .ok (.laload, 1) := by decide +kernel
theorem dL_law_326 : decode cL_law 326 = .ok (.iload 6, 2) := by decide +kernel
theorem dL_law_328 : decode cL_law 328 = .ok (.i2l, 1) := by decide +kernel
theorem dL_law_329 : decode cL_law 329 = .ok (.lcmp, 1) := by decide +kernel
theorem dL_law_330 : decode cL_law 330 = .ok (.ifCond .eq 5, 3) := by decide +kernel
theorem dL_law_333 : decode cL_law 333 = .ok (.iconst 0, 1) := by decide +kernel
theorem dL_law_334 : decode cL_law 334 = .ok (.ireturn, 1) := by decide +kernel
theorem dL_law_335 : decode cL_law 335 = .ok (.goto 1367, 3) := by decide +kernel
theorem dL_law_338 : decode cL_law 338 = .ok (.aload_n 1, 1) := by decide +kernel
theorem dL_law_339 : decode cL_law 339 = .ok (.aload_n 0, 1) := by decide +kernel
theorem dL_law_340 : decode cL_law 340 = .ok (.iload 4, 2) := by decide +kernel
theorem dL_law_342 : decode cL_law 342 = .ok (.iconst 1, 1) := by decide +kernel
theorem dL_law_343 : decode cL_law 343 = .ok (.iadd, 1) := by decide +kernel
theorem dL_law_344 : decode cL_law 344 = .ok (.iaload, 1) := by decide +kernel
theorem dL_law_345 : decode cL_law 345 = .ok (.aload_n 0, 1) := by decide +kernel
theorem dL_law_346 : decode cL_law 346 = .ok (.iload 4, 2) := by decide +kernel
theorem dL_law_348 : decode cL_law 348 = .ok (.iconst 2, 1) := by decide +kernel
theorem dL_law_349 : decode cL_law 349 = .ok (.iadd, 1) := by decide +kernel
theorem dL_law_350 : decode cL_law 350 = .ok (.iaload, 1) := by decide +kernel
theorem dL_law_351 : decode cL_law 351 = .ok (.aload_n 3, 1) := by decide +kernel
theorem dL_law_352 : decode cL_law 352 = .ok (.invokestatic 119, 3) := by decide +kernel
theorem dL_law_355 : decode cL_law 355 = .ok (.istore 5, 2) := by decide +kernel
theorem dL_law_357 : decode cL_law 357 = .ok (.aload_n 2, 1) := by decide +kernel
theorem dL_law_358 : decode cL_law 358 = .ok (.aload_n 0, 1) := by decide +kernel
theorem dL_law_359 : decode cL_law 359 = .ok (.iload 4, 2) := by decide +kernel
theorem dL_law_361 : decode cL_law 361 = .ok (.iconst 1, 1) := by decide +kernel
theorem dL_law_362 : decode cL_law 362 = .ok (.iadd, 1) := by decide +kernel
theorem dL_law_363 : decode cL_law 363 = .ok (.iaload, 1) := by decide +kernel
theorem dL_law_364 : decode cL_law 364 = .ok (.aload_n 0, 1) := by decide +kernel
theorem dL_law_365 : decode cL_law 365 = .ok (.iload 4, 2) := by decide +kernel
theorem dL_law_367 : decode cL_law 367 = .ok (.iconst 2, 1) := by decide +kernel
theorem dL_law_368 : decode cL_law 368 = .ok (.iadd, 1) := by decide +kernel
theorem dL_law_369 : decode cL_law 369 = .ok (.iaload, 1) := by decide +kernel
theorem dL_law_370 : decode cL_law 370 = .ok (.invokevirtual 122, 3) := by decide +kernel
theorem dL_law_373 : decode cL_law 373 = .ok (.istore 6, 2) := by decide +kernel
theorem dL_law_375 : decode cL_law 375 = .ok (.aload_n 2, 1) := by decide +kernel
theorem dL_law_376 : decode cL_law 376 = .ok (.invokevirtual 101, 3) := by decide +kernel
theorem dL_law_379 : decode cL_law 379 = .ok (.iload 5, 2) := by decide +kernel
theorem dL_law_381 : decode cL_law 381 = .ok (.if_icmp .eq 5, 3) := by decide +kernel
theorem dL_law_384 : decode cL_law 384 = .ok (.iconst 0, 1) := by decide +kernel
theorem dL_law_385 : decode cL_law 385 = .ok (.ireturn, 1) := by decide +kernel
theorem dL_law_386 : decode cL_law 386 = .ok (.iload 5, 2) := by decide +kernel
theorem dL_law_388 : decode cL_law 388 = .ok (.ifCond .ne 15, 3) := by decide +kernel
theorem dL_law_391 : decode cL_law 391 = .ok (.aload_n 3, 1) := by decide +kernel
theorem dL_law_392 : decode cL_law 392 = .ok (.iconst 0, 1) := by decide +kernel
theorem dL_law_393 : decode cL_law 393 = .ok (.laload, 1) := by decide +kernel
theorem dL_law_394 : decode cL_law 394 = .ok (.iload 6, 2) := by decide +kernel
theorem dL_law_396 : decode cL_law 396 = .ok (.i2l, 1) := by decide +kernel
theorem dL_law_397 : decode cL_law 397 = .ok (.lcmp, 1) := by decide +kernel
theorem dL_law_398 : decode cL_law 398 = .ok (.ifCond .eq 5, 3) := by decide +kernel
theorem dL_law_401 : decode cL_law 401 = .ok (.iconst 0, 1) := by decide +kernel
theorem dL_law_402 : decode cL_law 402 = .ok (.ireturn, 1) := by decide +kernel
theorem dL_law_403 : decode cL_law 403 = .ok (.goto 1299, 3) := by decide +kernel
theorem dL_law_406 : decode cL_law 406 = .ok (.aload_n 1, 1) := by decide +kernel
theorem dL_law_407 : decode cL_law 407 = .ok (.aload_n 0, 1) := by decide +kernel
theorem dL_law_408 : decode cL_law 408 = .ok (.iload 4, 2) := by decide +kernel
theorem dL_law_410 : decode cL_law 410 = .ok (.iconst 1, 1) := by decide +kernel
theorem dL_law_411 : decode cL_law 411 = .ok (.iadd, 1) := by decide +kernel
theorem dL_law_412 : decode cL_law 412 = .ok (.iaload, 1) := by decide +kernel
theorem dL_law_413 : decode cL_law 413 = .ok (.aload_n 0, 1) := by decide +kernel
theorem dL_law_414 : decode cL_law 414 = .ok (.iload 4, 2) := by decide +kernel
theorem dL_law_416 : decode cL_law 416 = .ok (.iconst 2, 1) := by decide +kernel
theorem dL_law_417 : decode cL_law 417 = .ok (.iadd, 1) := by decide +kernel
theorem dL_law_418 : decode cL_law 418 = .ok (.iaload, 1) := by decide +kernel
theorem dL_law_419 : decode cL_law 419 = .ok (.aload_n 3, 1) := by decide +kernel
theorem dL_law_420 : decode cL_law 420 = .ok (.invokestatic 123, 3) := by decide +kernel
theorem dL_law_423 : decode cL_law 423 = .ok (.istore 5, 2) := by decide +kernel
theorem dL_law_425 : decode cL_law 425 = .ok (.aload_n 2, 1) := by decide +kernel
theorem dL_law_426 : decode cL_law 426 = .ok (.aload_n 0, 1) := by decide +kernel
theorem dL_law_427 : decode cL_law 427 = .ok (.iload 4, 2) := by decide +kernel
theorem dL_law_429 : decode cL_law 429 = .ok (.iconst 1, 1) := by decide +kernel
theorem dL_law_430 : decode cL_law 430 = .ok (.iadd, 1) := by decide +kernel
theorem dL_law_431 : decode cL_law 431 = .ok (.iaload, 1) := by decide +kernel
theorem dL_law_432 : decode cL_law 432 = .ok (.aload_n 0, 1) := by decide +kernel
theorem dL_law_433 : decode cL_law 433 = .ok (.iload 4, 2) := by decide +kernel
theorem dL_law_435 : decode cL_law 435 = .ok (.iconst 2, 1) := by decide +kernel
theorem dL_law_436 : decode cL_law 436 = .ok (.iadd, 1) := by decide +kernel
theorem dL_law_437 : decode cL_law 437 = .ok (.iaload, 1) := by decide +kernel
theorem dL_law_438 : decode cL_law 438 = .ok (.invokevirtual 125, 3) := by decide +kernel
theorem dL_law_441 : decode cL_law 441 = .ok (.istore 6, 2) := by decide +kernel
theorem dL_law_443 : decode cL_law 443 = .ok (.aload_n 2, 1) := by decide +kernel
theorem dL_law_444 : decode cL_law 444 = .ok (.invokevirtual 101, 3) := by decide +kernel
theorem dL_law_447 : decode cL_law 447 = .ok (.iload 5, 2) := by decide +kernel
theorem dL_law_449 : decode cL_law 449 = .ok (.if_icmp .eq 5, 3) := by decide +kernel
theorem dL_law_452 : decode cL_law 452 = .ok (.iconst 0, 1) := by decide +kernel
theorem dL_law_453 : decode cL_law 453 = .ok (.ireturn, 1) := by decide +kernel
theorem dL_law_454 : decode cL_law 454 = .ok (.iload 5, 2) := by decide +kernel
theorem dL_law_456 : decode cL_law 456 = .ok (.ifCond .ne 15, 3) := by decide +kernel
theorem dL_law_459 : decode cL_law 459 = .ok (.aload_n 3, 1) := by decide +kernel
theorem dL_law_460 : decode cL_law 460 = .ok (.iconst 0, 1) := by decide +kernel
theorem dL_law_461 : decode cL_law 461 = .ok (.laload, 1) := by decide +kernel
theorem dL_law_462 : decode cL_law 462 = .ok (.iload 6, 2) := by decide +kernel
theorem dL_law_464 : decode cL_law 464 = .ok (.i2l, 1) := by decide +kernel
theorem dL_law_465 : decode cL_law 465 = .ok (.lcmp, 1) := by decide +kernel
theorem dL_law_466 : decode cL_law 466 = .ok (.ifCond .eq 5, 3) := by decide +kernel
theorem dL_law_469 : decode cL_law 469 = .ok (.iconst 0, 1) := by decide +kernel
theorem dL_law_470 : decode cL_law 470 = .ok (.ireturn, 1) := by decide +kernel
theorem dL_law_471 : decode cL_law 471 = .ok (.goto 1231, 3) := by decide +kernel
theorem dL_law_474 : decode cL_law 474 = .ok (.aload_n 1, 1) := by decide +kernel
theorem dL_law_475 : decode cL_law 475 = .ok (.aload_n 0, 1) := by decide +kernel
theorem dL_law_476 : decode cL_law 476 = .ok (.iload 4, 2) := by decide +kernel
theorem dL_law_478 : decode cL_law 478 = .ok (.iconst 1, 1) := by decide +kernel
theorem dL_law_479 : decode cL_law 479 = .ok (.iadd, 1) := by decide +kernel
theorem dL_law_480 : decode cL_law 480 = .ok (.iaload, 1) := by decide +kernel
theorem dL_law_481 : decode cL_law 481 = .ok (.aload_n 0, 1) := by decide +kernel
theorem dL_law_482 : decode cL_law 482 = .ok (.iload 4, 2) := by decide +kernel
theorem dL_law_484 : decode cL_law 484 = .ok (.iconst 2, 1) := by decide +kernel
theorem dL_law_485 : decode cL_law 485 = .ok (.iadd, 1) := by decide +kernel
theorem dL_law_486 : decode cL_law 486 = .ok (.iaload, 1) := by decide +kernel
theorem dL_law_487 : decode cL_law 487 = .ok (.aload_n 3, 1) := by decide +kernel
theorem dL_law_488 : decode cL_law 488 = .ok (.invokestatic 126, 3) := by decide +kernel
theorem dL_law_491 : decode cL_law 491 = .ok (.istore 5, 2) := by decide +kernel
theorem dL_law_493 : decode cL_law 493 = .ok (.aload_n 2, 1) := by decide +kernel
theorem dL_law_494 : decode cL_law 494 = .ok (.aload_n 0, 1) := by decide +kernel
theorem dL_law_495 : decode cL_law 495 = .ok (.iload 4, 2) := by decide +kernel
theorem dL_law_497 : decode cL_law 497 = .ok (.iconst 1, 1) := by decide +kernel
theorem dL_law_498 : decode cL_law 498 = .ok (.iadd, 1) := by decide +kernel
theorem dL_law_499 : decode cL_law 499 = .ok (.iaload, 1) := by decide +kernel
theorem dL_law_500 : decode cL_law 500 = .ok (.aload_n 0, 1) := by decide +kernel
theorem dL_law_501 : decode cL_law 501 = .ok (.iload 4, 2) := by decide +kernel
theorem dL_law_503 : decode cL_law 503 = .ok (.iconst 2, 1) := by decide +kernel
theorem dL_law_504 : decode cL_law 504 = .ok (.iadd, 1) := by decide +kernel
theorem dL_law_505 : decode cL_law 505 = .ok (.iaload, 1) := by decide +kernel
theorem dL_law_506 : decode cL_law 506 = .ok (.invokevirtual 128, 3) := by decide +kernel
theorem dL_law_509 : decode cL_law 509 = .ok (.istore 6, 2) := by decide +kernel
theorem dL_law_511 : decode cL_law 511 = .ok (.aload_n 2, 1) := by decide +kernel
theorem dL_law_512 : decode cL_law 512 = .ok (.invokevirtual 101, 3) := by decide +kernel
theorem dL_law_515 : decode cL_law 515 = .ok (.iload 5, 2) := by decide +kernel
theorem dL_law_517 : decode cL_law 517 = .ok (.if_icmp .eq 5, 3) := by decide +kernel
theorem dL_law_520 : decode cL_law 520 = .ok (.iconst 0, 1) := by decide +kernel
theorem dL_law_521 : decode cL_law 521 = .ok (.ireturn, 1) := by decide +kernel
theorem dL_law_522 : decode cL_law 522 = .ok (.iload 5, 2) := by decide +kernel
theorem dL_law_524 : decode cL_law 524 = .ok (.ifCond .ne 15, 3) := by decide +kernel
theorem dL_law_527 : decode cL_law 527 = .ok (.aload_n 3, 1) := by decide +kernel
theorem dL_law_528 : decode cL_law 528 = .ok (.iconst 0, 1) := by decide +kernel
theorem dL_law_529 : decode cL_law 529 = .ok (.laload, 1) := by decide +kernel
theorem dL_law_530 : decode cL_law 530 = .ok (.iload 6, 2) := by decide +kernel
theorem dL_law_532 : decode cL_law 532 = .ok (.i2l, 1) := by decide +kernel
theorem dL_law_533 : decode cL_law 533 = .ok (.lcmp, 1) := by decide +kernel
theorem dL_law_534 : decode cL_law 534 = .ok (.ifCond .eq 5, 3) := by decide +kernel
theorem dL_law_537 : decode cL_law 537 = .ok (.iconst 0, 1) := by decide +kernel
theorem dL_law_538 : decode cL_law 538 = .ok (.ireturn, 1) := by decide +kernel
theorem dL_law_539 : decode cL_law 539 = .ok (.goto 1163, 3) := by decide +kernel
theorem dL_law_542 : decode cL_law 542 = .ok (.aload_n 1, 1) := by decide +kernel
theorem dL_law_543 : decode cL_law 543 = .ok (.aload_n 0, 1) := by decide +kernel
theorem dL_law_544 : decode cL_law 544 = .ok (.iload 4, 2) := by decide +kernel
theorem dL_law_546 : decode cL_law 546 = .ok (.iconst 1, 1) := by decide +kernel
theorem dL_law_547 : decode cL_law 547 = .ok (.iadd, 1) := by decide +kernel
theorem dL_law_548 : decode cL_law 548 = .ok (.iaload, 1) := by decide +kernel
theorem dL_law_549 : decode cL_law 549 = .ok (.aload_n 3, 1) := by decide +kernel
theorem dL_law_550 : decode cL_law 550 = .ok (.invokestatic 129, 3) := by decide +kernel
theorem dL_law_553 : decode cL_law 553 = .ok (.istore 5, 2) := by decide +kernel
theorem dL_law_555 : decode cL_law 555 = .ok (.aload_n 2, 1) := by decide +kernel
theorem dL_law_556 : decode cL_law 556 = .ok (.aload_n 0, 1) := by decide +kernel
theorem dL_law_557 : decode cL_law 557 = .ok (.iload 4, 2) := by decide +kernel
theorem dL_law_559 : decode cL_law 559 = .ok (.iconst 1, 1) := by decide +kernel
theorem dL_law_560 : decode cL_law 560 = .ok (.iadd, 1) := by decide +kernel
theorem dL_law_561 : decode cL_law 561 = .ok (.iaload, 1) := by decide +kernel
theorem dL_law_562 : decode cL_law 562 = .ok (.invokevirtual 131, 3) := by decide +kernel
theorem dL_law_565 : decode cL_law 565 = .ok (.istore 6, 2) := by decide +kernel
theorem dL_law_567 : decode cL_law 567 = .ok (.aload_n 2, 1) := by decide +kernel
theorem dL_law_568 : decode cL_law 568 = .ok (.invokevirtual 101, 3) := by decide +kernel
theorem dL_law_571 : decode cL_law 571 = .ok (.iload 5, 2) := by decide +kernel
theorem dL_law_573 : decode cL_law 573 = .ok (.if_icmp .eq 5, 3) := by decide +kernel
theorem dL_law_576 : decode cL_law 576 = .ok (.iconst 0, 1) := by decide +kernel
theorem dL_law_577 : decode cL_law 577 = .ok (.ireturn, 1) := by decide +kernel
theorem dL_law_578 : decode cL_law 578 = .ok (.iload 5, 2) := by decide +kernel
theorem dL_law_580 : decode cL_law 580 = .ok (.ifCond .ne 15, 3) := by decide +kernel
theorem dL_law_583 : decode cL_law 583 = .ok (.aload_n 3, 1) := by decide +kernel
theorem dL_law_584 : decode cL_law 584 = .ok (.iconst 0, 1) := by decide +kernel
theorem dL_law_585 : decode cL_law 585 = .ok (.laload, 1) := by decide +kernel
theorem dL_law_586 : decode cL_law 586 = .ok (.iload 6, 2) := by decide +kernel
theorem dL_law_588 : decode cL_law 588 = .ok (.i2l, 1) := by decide +kernel
theorem dL_law_589 : decode cL_law 589 = .ok (.lcmp, 1) := by decide +kernel
theorem dL_law_590 : decode cL_law 590 = .ok (.ifCond .eq 5, 3) := by decide +kernel
theorem dL_law_593 : decode cL_law 593 = .ok (.iconst 0, 1) := by decide +kernel
theorem dL_law_594 : decode cL_law 594 = .ok (.ireturn, 1) := by decide +kernel
theorem dL_law_595 : decode cL_law 595 = .ok (.goto 1107, 3) := by decide +kernel
theorem dL_law_598 : decode cL_law 598 = .ok (.aload_n 1, 1) := by decide +kernel
theorem dL_law_599 : decode cL_law 599 = .ok (.aload_n 0, 1) := by decide +kernel
theorem dL_law_600 : decode cL_law 600 = .ok (.iload 4, 2) := by decide +kernel
theorem dL_law_602 : decode cL_law 602 = .ok (.iconst 1, 1) := by decide +kernel
theorem dL_law_603 : decode cL_law 603 = .ok (.iadd, 1) := by decide +kernel
theorem dL_law_604 : decode cL_law 604 = .ok (.iaload, 1) := by decide +kernel
theorem dL_law_605 : decode cL_law 605 = .ok (.aload_n 0, 1) := by decide +kernel
theorem dL_law_606 : decode cL_law 606 = .ok (.iload 4, 2) := by decide +kernel
theorem dL_law_608 : decode cL_law 608 = .ok (.iconst 2, 1) := by decide +kernel
theorem dL_law_609 : decode cL_law 609 = .ok (.iadd, 1) := by decide +kernel
theorem dL_law_610 : decode cL_law 610 = .ok (.iaload, 1) := by decide +kernel
theorem dL_law_611 : decode cL_law 611 = .ok (.aload_n 0, 1) := by decide +kernel
theorem dL_law_612 : decode cL_law 612 = .ok (.iload 4, 2) := by decide +kernel
theorem dL_law_614 : decode cL_law 614 = .ok (.iconst 3, 1) := by decide +kernel
theorem dL_law_615 : decode cL_law 615 = .ok (.iadd, 1) := by decide +kernel
theorem dL_law_616 : decode cL_law 616 = .ok (.iaload, 1) := by decide +kernel
theorem dL_law_617 : decode cL_law 617 = .ok (.aload_n 0, 1) := by decide +kernel
theorem dL_law_618 : decode cL_law 618 = .ok (.iload 4, 2) := by decide +kernel
theorem dL_law_620 : decode cL_law 620 = .ok (.iconst 4, 1) := by decide +kernel
theorem dL_law_621 : decode cL_law 621 = .ok (.iadd, 1) := by decide +kernel
theorem dL_law_622 : decode cL_law 622 = .ok (.iaload, 1) := by decide +kernel
theorem dL_law_623 : decode cL_law 623 = .ok (.aload_n 0, 1) := by decide +kernel
theorem dL_law_624 : decode cL_law 624 = .ok (.iload 4, 2) := by decide +kernel
theorem dL_law_626 : decode cL_law 626 = .ok (.iconst 5, 1) := by decide +kernel
theorem dL_law_627 : decode cL_law 627 = .ok (.iadd, 1) := by decide +kernel
theorem dL_law_628 : decode cL_law 628 = .ok (.iaload, 1) := by decide +kernel
theorem dL_law_629 : decode cL_law 629 = .ok (.aload_n 3, 1) := by decide +kernel
theorem dL_law_630 : decode cL_law 630 = .ok (.invokestatic 132, 3) := by decide +kernel
theorem dL_law_633 : decode cL_law 633 = .ok (.istore 5, 2) := by decide +kernel
theorem dL_law_635 : decode cL_law 635 = .ok (.aload_n 2, 1) := by decide +kernel
theorem dL_law_636 : decode cL_law 636 = .ok (.aload_n 0, 1) := by decide +kernel
theorem dL_law_637 : decode cL_law 637 = .ok (.iload 4, 2) := by decide +kernel
theorem dL_law_639 : decode cL_law 639 = .ok (.iconst 1, 1) := by decide +kernel
theorem dL_law_640 : decode cL_law 640 = .ok (.iadd, 1) := by decide +kernel
theorem dL_law_641 : decode cL_law 641 = .ok (.iaload, 1) := by decide +kernel
theorem dL_law_642 : decode cL_law 642 = .ok (.aload_n 0, 1) := by decide +kernel
theorem dL_law_643 : decode cL_law 643 = .ok (.iload 4, 2) := by decide +kernel
theorem dL_law_645 : decode cL_law 645 = .ok (.iconst 2, 1) := by decide +kernel
theorem dL_law_646 : decode cL_law 646 = .ok (.iadd, 1) := by decide +kernel
theorem dL_law_647 : decode cL_law 647 = .ok (.iaload, 1) := by decide +kernel
theorem dL_law_648 : decode cL_law 648 = .ok (.aload_n 0, 1) := by decide +kernel
theorem dL_law_649 : decode cL_law 649 = .ok (.iload 4, 2) := by decide +kernel
theorem dL_law_651 : decode cL_law 651 = .ok (.iconst 3, 1) := by decide +kernel
theorem dL_law_652 : decode cL_law 652 = .ok (.iadd, 1) := by decide +kernel
theorem dL_law_653 : decode cL_law 653 = .ok (.iaload, 1) := by decide +kernel
theorem dL_law_654 : decode cL_law 654 = .ok (.aload_n 0, 1) := by decide +kernel
theorem dL_law_655 : decode cL_law 655 = .ok (.iload 4, 2) := by decide +kernel
theorem dL_law_657 : decode cL_law 657 = .ok (.iconst 4, 1) := by decide +kernel
theorem dL_law_658 : decode cL_law 658 = .ok (.iadd, 1) := by decide +kernel
theorem dL_law_659 : decode cL_law 659 = .ok (.iaload, 1) := by decide +kernel
theorem dL_law_660 : decode cL_law 660 = .ok (.aload_n 0, 1) := by decide +kernel
theorem dL_law_661 : decode cL_law 661 = .ok (.iload 4, 2) := by decide +kernel
theorem dL_law_663 : decode cL_law 663 = .ok (.iconst 5, 1) := by decide +kernel
theorem dL_law_664 : decode cL_law 664 = .ok (.iadd, 1) := by decide +kernel
theorem dL_law_665 : decode cL_law 665 = .ok (.iaload, 1) := by decide +kernel
theorem dL_law_666 : decode cL_law 666 = .ok (.invokevirtual 135, 3) := by decide +kernel
theorem dL_law_669 : decode cL_law 669 = .ok (.istore 6, 2) := by decide +kernel
theorem dL_law_671 : decode cL_law 671 = .ok (.aload_n 2, 1) := by decide +kernel
theorem dL_law_672 : decode cL_law 672 = .ok (.invokevirtual 101, 3) := by decide +kernel
theorem dL_law_675 : decode cL_law 675 = .ok (.iload 5, 2) := by decide +kernel
theorem dL_law_677 : decode cL_law 677 = .ok (.if_icmp .eq 5, 3) := by decide +kernel
theorem dL_law_680 : decode cL_law 680 = .ok (.iconst 0, 1) := by decide +kernel
theorem dL_law_681 : decode cL_law 681 = .ok (.ireturn, 1) := by decide +kernel
theorem dL_law_682 : decode cL_law 682 = .ok (.iload 5, 2) := by decide +kernel
theorem dL_law_684 : decode cL_law 684 = .ok (.ifCond .ne 15, 3) := by decide +kernel
theorem dL_law_687 : decode cL_law 687 = .ok (.aload_n 3, 1) := by decide +kernel
theorem dL_law_688 : decode cL_law 688 = .ok (.iconst 0, 1) := by decide +kernel
theorem dL_law_689 : decode cL_law 689 = .ok (.laload, 1) := by decide +kernel
theorem dL_law_690 : decode cL_law 690 = .ok (.iload 6, 2) := by decide +kernel
theorem dL_law_692 : decode cL_law 692 = .ok (.i2l, 1) := by decide +kernel
theorem dL_law_693 : decode cL_law 693 = .ok (.lcmp, 1) := by decide +kernel
theorem dL_law_694 : decode cL_law 694 = .ok (.ifCond .eq 5, 3) := by decide +kernel
theorem dL_law_697 : decode cL_law 697 = .ok (.iconst 0, 1) := by decide +kernel
theorem dL_law_698 : decode cL_law 698 = .ok (.ireturn, 1) := by decide +kernel
theorem dL_law_699 : decode cL_law 699 = .ok (.goto 1003, 3) := by decide +kernel
theorem dL_law_702 : decode cL_law 702 = .ok (.aload_n 1, 1) := by decide +kernel
theorem dL_law_703 : decode cL_law 703 = .ok (.aload_n 0, 1) := by decide +kernel
theorem dL_law_704 : decode cL_law 704 = .ok (.iload 4, 2) := by decide +kernel
theorem dL_law_706 : decode cL_law 706 = .ok (.iconst 1, 1) := by decide +kernel
theorem dL_law_707 : decode cL_law 707 = .ok (.iadd, 1) := by decide +kernel
theorem dL_law_708 : decode cL_law 708 = .ok (.iaload, 1) := by decide +kernel
theorem dL_law_709 : decode cL_law 709 = .ok (.aload_n 3, 1) := by decide +kernel
theorem dL_law_710 : decode cL_law 710 = .ok (.invokestatic 136, 3) := by decide +kernel
theorem dL_law_713 : decode cL_law 713 = .ok (.istore 5, 2) := by decide +kernel
theorem dL_law_715 : decode cL_law 715 = .ok (.aload_n 2, 1) := by decide +kernel
theorem dL_law_716 : decode cL_law 716 = .ok (.aload_n 0, 1) := by decide +kernel
theorem dL_law_717 : decode cL_law 717 = .ok (.iload 4, 2) := by decide +kernel
theorem dL_law_719 : decode cL_law 719 = .ok (.iconst 1, 1) := by decide +kernel
theorem dL_law_720 : decode cL_law 720 = .ok (.iadd, 1) := by decide +kernel
theorem dL_law_721 : decode cL_law 721 = .ok (.iaload, 1) := by decide +kernel
theorem dL_law_722 : decode cL_law 722 = .ok (.invokevirtual 138, 3) := by decide +kernel
theorem dL_law_725 : decode cL_law 725 = .ok (.istore 6, 2) := by decide +kernel
theorem dL_law_727 : decode cL_law 727 = .ok (.aload_n 2, 1) := by decide +kernel
theorem dL_law_728 : decode cL_law 728 = .ok (.invokevirtual 101, 3) := by decide +kernel
theorem dL_law_731 : decode cL_law 731 = .ok (.iload 5, 2) := by decide +kernel
theorem dL_law_733 : decode cL_law 733 = .ok (.if_icmp .eq 5, 3) := by decide +kernel
theorem dL_law_736 : decode cL_law 736 = .ok (.iconst 0, 1) := by decide +kernel
theorem dL_law_737 : decode cL_law 737 = .ok (.ireturn, 1) := by decide +kernel
theorem dL_law_738 : decode cL_law 738 = .ok (.iload 5, 2) := by decide +kernel
theorem dL_law_740 : decode cL_law 740 = .ok (.ifCond .ne 15, 3) := by decide +kernel
theorem dL_law_743 : decode cL_law 743 = .ok (.aload_n 3, 1) := by decide +kernel
theorem dL_law_744 : decode cL_law 744 = .ok (.iconst 0, 1) := by decide +kernel
theorem dL_law_745 : decode cL_law 745 = .ok (.laload, 1) := by decide +kernel
theorem dL_law_746 : decode cL_law 746 = .ok (.iload 6, 2) := by decide +kernel
theorem dL_law_748 : decode cL_law 748 = .ok (.i2l, 1) := by decide +kernel
theorem dL_law_749 : decode cL_law 749 = .ok (.lcmp, 1) := by decide +kernel
theorem dL_law_750 : decode cL_law 750 = .ok (.ifCond .eq 5, 3) := by decide +kernel
theorem dL_law_753 : decode cL_law 753 = .ok (.iconst 0, 1) := by decide +kernel
theorem dL_law_754 : decode cL_law 754 = .ok (.ireturn, 1) := by decide +kernel
theorem dL_law_755 : decode cL_law 755 = .ok (.goto 947, 3) := by decide +kernel
theorem dL_law_758 : decode cL_law 758 = .ok (.aload_n 1, 1) := by decide +kernel
theorem dL_law_759 : decode cL_law 759 = .ok (.aload_n 0, 1) := by decide +kernel
theorem dL_law_760 : decode cL_law 760 = .ok (.iload 4, 2) := by decide +kernel
theorem dL_law_762 : decode cL_law 762 = .ok (.iconst 1, 1) := by decide +kernel
theorem dL_law_763 : decode cL_law 763 = .ok (.iadd, 1) := by decide +kernel
theorem dL_law_764 : decode cL_law 764 = .ok (.iaload, 1) := by decide +kernel
theorem dL_law_765 : decode cL_law 765 = .ok (.aload_n 0, 1) := by decide +kernel
theorem dL_law_766 : decode cL_law 766 = .ok (.iload 4, 2) := by decide +kernel
theorem dL_law_768 : decode cL_law 768 = .ok (.iconst 2, 1) := by decide +kernel
theorem dL_law_769 : decode cL_law 769 = .ok (.iadd, 1) := by decide +kernel
theorem dL_law_770 : decode cL_law 770 = .ok (.iaload, 1) := by decide +kernel
theorem dL_law_771 : decode cL_law 771 = .ok (.aload_n 0, 1) := by decide +kernel
theorem dL_law_772 : decode cL_law 772 = .ok (.iload 4, 2) := by decide +kernel
theorem dL_law_774 : decode cL_law 774 = .ok (.iconst 3, 1) := by decide +kernel
theorem dL_law_775 : decode cL_law 775 = .ok (.iadd, 1) := by decide +kernel
theorem dL_law_776 : decode cL_law 776 = .ok (.iaload, 1) := by decide +kernel
theorem dL_law_777 : decode cL_law 777 = .ok (.aload_n 0, 1) := by decide +kernel
theorem dL_law_778 : decode cL_law 778 = .ok (.iload 4, 2) := by decide +kernel
theorem dL_law_780 : decode cL_law 780 = .ok (.iconst 4, 1) := by decide +kernel
theorem dL_law_781 : decode cL_law 781 = .ok (.iadd, 1) := by decide +kernel
theorem dL_law_782 : decode cL_law 782 = .ok (.iaload, 1) := by decide +kernel
theorem dL_law_783 : decode cL_law 783 = .ok (.aload_n 3, 1) := by decide +kernel
theorem dL_law_784 : decode cL_law 784 = .ok (.invokestatic 139, 3) := by decide +kernel
theorem dL_law_787 : decode cL_law 787 = .ok (.istore 5, 2) := by decide +kernel
theorem dL_law_789 : decode cL_law 789 = .ok (.aload_n 2, 1) := by decide +kernel
theorem dL_law_790 : decode cL_law 790 = .ok (.aload_n 0, 1) := by decide +kernel
theorem dL_law_791 : decode cL_law 791 = .ok (.iload 4, 2) := by decide +kernel
theorem dL_law_793 : decode cL_law 793 = .ok (.iconst 1, 1) := by decide +kernel
theorem dL_law_794 : decode cL_law 794 = .ok (.iadd, 1) := by decide +kernel
theorem dL_law_795 : decode cL_law 795 = .ok (.iaload, 1) := by decide +kernel
theorem dL_law_796 : decode cL_law 796 = .ok (.aload_n 0, 1) := by decide +kernel
theorem dL_law_797 : decode cL_law 797 = .ok (.iload 4, 2) := by decide +kernel
theorem dL_law_799 : decode cL_law 799 = .ok (.iconst 2, 1) := by decide +kernel
theorem dL_law_800 : decode cL_law 800 = .ok (.iadd, 1) := by decide +kernel
theorem dL_law_801 : decode cL_law 801 = .ok (.iaload, 1) := by decide +kernel
theorem dL_law_802 : decode cL_law 802 = .ok (.aload_n 0, 1) := by decide +kernel
theorem dL_law_803 : decode cL_law 803 = .ok (.iload 4, 2) := by decide +kernel
theorem dL_law_805 : decode cL_law 805 = .ok (.iconst 3, 1) := by decide +kernel
theorem dL_law_806 : decode cL_law 806 = .ok (.iadd, 1) := by decide +kernel
theorem dL_law_807 : decode cL_law 807 = .ok (.iaload, 1) := by decide +kernel
theorem dL_law_808 : decode cL_law 808 = .ok (.aload_n 0, 1) := by decide +kernel
theorem dL_law_809 : decode cL_law 809 = .ok (.iload 4, 2) := by decide +kernel
theorem dL_law_811 : decode cL_law 811 = .ok (.iconst 4, 1) := by decide +kernel
theorem dL_law_812 : decode cL_law 812 = .ok (.iadd, 1) := by decide +kernel
theorem dL_law_813 : decode cL_law 813 = .ok (.iaload, 1) := by decide +kernel
theorem dL_law_814 : decode cL_law 814 = .ok (.invokevirtual 142, 3) := by decide +kernel
theorem dL_law_817 : decode cL_law 817 = .ok (.istore 6, 2) := by decide +kernel
theorem dL_law_819 : decode cL_law 819 = .ok (.aload_n 2, 1) := by decide +kernel
theorem dL_law_820 : decode cL_law 820 = .ok (.invokevirtual 101, 3) := by decide +kernel
theorem dL_law_823 : decode cL_law 823 = .ok (.iload 5, 2) := by decide +kernel
theorem dL_law_825 : decode cL_law 825 = .ok (.if_icmp .eq 5, 3) := by decide +kernel
theorem dL_law_828 : decode cL_law 828 = .ok (.iconst 0, 1) := by decide +kernel
theorem dL_law_829 : decode cL_law 829 = .ok (.ireturn, 1) := by decide +kernel
theorem dL_law_830 : decode cL_law 830 = .ok (.iload 5, 2) := by decide +kernel
theorem dL_law_832 : decode cL_law 832 = .ok (.ifCond .ne 15, 3) := by decide +kernel
theorem dL_law_835 : decode cL_law 835 = .ok (.aload_n 3, 1) := by decide +kernel
theorem dL_law_836 : decode cL_law 836 = .ok (.iconst 0, 1) := by decide +kernel
theorem dL_law_837 : decode cL_law 837 = .ok (.laload, 1) := by decide +kernel
theorem dL_law_838 : decode cL_law 838 = .ok (.iload 6, 2) := by decide +kernel
theorem dL_law_840 : decode cL_law 840 = .ok (.i2l, 1) := by decide +kernel
theorem dL_law_841 : decode cL_law 841 = .ok (.lcmp, 1) := by decide +kernel
theorem dL_law_842 : decode cL_law 842 = .ok (.ifCond .eq 5, 3) := by decide +kernel
theorem dL_law_845 : decode cL_law 845 = .ok (.iconst 0, 1) := by decide +kernel
theorem dL_law_846 : decode cL_law 846 = .ok (.ireturn, 1) := by decide +kernel
theorem dL_law_847 : decode cL_law 847 = .ok (.goto 855, 3) := by decide +kernel
theorem dL_law_850 : decode cL_law 850 = .ok (.aload_n 1, 1) := by decide +kernel
theorem dL_law_851 : decode cL_law 851 = .ok (.aload_n 0, 1) := by decide +kernel
theorem dL_law_852 : decode cL_law 852 = .ok (.iload 4, 2) := by decide +kernel
theorem dL_law_854 : decode cL_law 854 = .ok (.iconst 1, 1) := by decide +kernel
theorem dL_law_855 : decode cL_law 855 = .ok (.iadd, 1) := by decide +kernel
theorem dL_law_856 : decode cL_law 856 = .ok (.iaload, 1) := by decide +kernel
theorem dL_law_857 : decode cL_law 857 = .ok (.aload_n 0, 1) := by decide +kernel
theorem dL_law_858 : decode cL_law 858 = .ok (.iload 4, 2) := by decide +kernel
theorem dL_law_860 : decode cL_law 860 = .ok (.iconst 2, 1) := by decide +kernel
theorem dL_law_861 : decode cL_law 861 = .ok (.iadd, 1) := by decide +kernel
theorem dL_law_862 : decode cL_law 862 = .ok (.iaload, 1) := by decide +kernel
theorem dL_law_863 : decode cL_law 863 = .ok (.aload_n 3, 1) := by decide +kernel
theorem dL_law_864 : decode cL_law 864 = .ok (.invokestatic 143, 3) := by decide +kernel
theorem dL_law_867 : decode cL_law 867 = .ok (.istore 5, 2) := by decide +kernel
theorem dL_law_869 : decode cL_law 869 = .ok (.aload_n 2, 1) := by decide +kernel
theorem dL_law_870 : decode cL_law 870 = .ok (.aload_n 0, 1) := by decide +kernel
theorem dL_law_871 : decode cL_law 871 = .ok (.iload 4, 2) := by decide +kernel
theorem dL_law_873 : decode cL_law 873 = .ok (.iconst 1, 1) := by decide +kernel
theorem dL_law_874 : decode cL_law 874 = .ok (.iadd, 1) := by decide +kernel
theorem dL_law_875 : decode cL_law 875 = .ok (.iaload, 1) := by decide +kernel
theorem dL_law_876 : decode cL_law 876 = .ok (.aload_n 0, 1) := by decide +kernel
theorem dL_law_877 : decode cL_law 877 = .ok (.iload 4, 2) := by decide +kernel
theorem dL_law_879 : decode cL_law 879 = .ok (.iconst 2, 1) := by decide +kernel
theorem dL_law_880 : decode cL_law 880 = .ok (.iadd, 1) := by decide +kernel
theorem dL_law_881 : decode cL_law 881 = .ok (.iaload, 1) := by decide +kernel
theorem dL_law_882 : decode cL_law 882 = .ok (.invokevirtual 145, 3) := by decide +kernel
theorem dL_law_885 : decode cL_law 885 = .ok (.istore 6, 2) := by decide +kernel
theorem dL_law_887 : decode cL_law 887 = .ok (.aload_n 2, 1) := by decide +kernel
theorem dL_law_888 : decode cL_law 888 = .ok (.invokevirtual 101, 3) := by decide +kernel
theorem dL_law_891 : decode cL_law 891 = .ok (.iload 5, 2) := by decide +kernel
theorem dL_law_893 : decode cL_law 893 = .ok (.if_icmp .eq 5, 3) := by decide +kernel
theorem dL_law_896 : decode cL_law 896 = .ok (.iconst 0, 1) := by decide +kernel
theorem dL_law_897 : decode cL_law 897 = .ok (.ireturn, 1) := by decide +kernel
theorem dL_law_898 : decode cL_law 898 = .ok (.iload 5, 2) := by decide +kernel
theorem dL_law_900 : decode cL_law 900 = .ok (.ifCond .ne 15, 3) := by decide +kernel
theorem dL_law_903 : decode cL_law 903 = .ok (.aload_n 3, 1) := by decide +kernel
theorem dL_law_904 : decode cL_law 904 = .ok (.iconst 0, 1) := by decide +kernel
theorem dL_law_905 : decode cL_law 905 = .ok (.laload, 1) := by decide +kernel
theorem dL_law_906 : decode cL_law 906 = .ok (.iload 6, 2) := by decide +kernel
theorem dL_law_908 : decode cL_law 908 = .ok (.i2l, 1) := by decide +kernel
theorem dL_law_909 : decode cL_law 909 = .ok (.lcmp, 1) := by decide +kernel
theorem dL_law_910 : decode cL_law 910 = .ok (.ifCond .eq 5, 3) := by decide +kernel
theorem dL_law_913 : decode cL_law 913 = .ok (.iconst 0, 1) := by decide +kernel
theorem dL_law_914 : decode cL_law 914 = .ok (.ireturn, 1) := by decide +kernel
theorem dL_law_915 : decode cL_law 915 = .ok (.goto 787, 3) := by decide +kernel
theorem dL_law_918 : decode cL_law 918 = .ok (.aload_n 1, 1) := by decide +kernel
theorem dL_law_919 : decode cL_law 919 = .ok (.aload_n 0, 1) := by decide +kernel
theorem dL_law_920 : decode cL_law 920 = .ok (.iload 4, 2) := by decide +kernel
theorem dL_law_922 : decode cL_law 922 = .ok (.iconst 1, 1) := by decide +kernel
theorem dL_law_923 : decode cL_law 923 = .ok (.iadd, 1) := by decide +kernel
theorem dL_law_924 : decode cL_law 924 = .ok (.iaload, 1) := by decide +kernel
theorem dL_law_925 : decode cL_law 925 = .ok (.aload_n 3, 1) := by decide +kernel
theorem dL_law_926 : decode cL_law 926 = .ok (.invokestatic 146, 3) := by decide +kernel
theorem dL_law_929 : decode cL_law 929 = .ok (.istore 5, 2) := by decide +kernel
theorem dL_law_931 : decode cL_law 931 = .ok (.aload_n 2, 1) := by decide +kernel
theorem dL_law_932 : decode cL_law 932 = .ok (.aload_n 0, 1) := by decide +kernel
theorem dL_law_933 : decode cL_law 933 = .ok (.iload 4, 2) := by decide +kernel
theorem dL_law_935 : decode cL_law 935 = .ok (.iconst 1, 1) := by decide +kernel
theorem dL_law_936 : decode cL_law 936 = .ok (.iadd, 1) := by decide +kernel
theorem dL_law_937 : decode cL_law 937 = .ok (.iaload, 1) := by decide +kernel
theorem dL_law_938 : decode cL_law 938 = .ok (.invokevirtual 148, 3) := by decide +kernel
theorem dL_law_941 : decode cL_law 941 = .ok (.istore 6, 2) := by decide +kernel
theorem dL_law_943 : decode cL_law 943 = .ok (.aload_n 2, 1) := by decide +kernel
theorem dL_law_944 : decode cL_law 944 = .ok (.invokevirtual 101, 3) := by decide +kernel
theorem dL_law_947 : decode cL_law 947 = .ok (.iload 5, 2) := by decide +kernel
theorem dL_law_949 : decode cL_law 949 = .ok (.if_icmp .eq 5, 3) := by decide +kernel
theorem dL_law_952 : decode cL_law 952 = .ok (.iconst 0, 1) := by decide +kernel
theorem dL_law_953 : decode cL_law 953 = .ok (.ireturn, 1) := by decide +kernel
theorem dL_law_954 : decode cL_law 954 = .ok (.iload 5, 2) := by decide +kernel
theorem dL_law_956 : decode cL_law 956 = .ok (.ifCond .ne 15, 3) := by decide +kernel
theorem dL_law_959 : decode cL_law 959 = .ok (.aload_n 3, 1) := by decide +kernel
theorem dL_law_960 : decode cL_law 960 = .ok (.iconst 0, 1) := by decide +kernel
theorem dL_law_961 : decode cL_law 961 = .ok (.laload, 1) := by decide +kernel
theorem dL_law_962 : decode cL_law 962 = .ok (.iload 6, 2) := by decide +kernel
theorem dL_law_964 : decode cL_law 964 = .ok (.i2l, 1) := by decide +kernel
theorem dL_law_965 : decode cL_law 965 = .ok (.lcmp, 1) := by decide +kernel
theorem dL_law_966 : decode cL_law 966 = .ok (.ifCond .eq 5, 3) := by decide +kernel
theorem dL_law_969 : decode cL_law 969 = .ok (.iconst 0, 1) := by decide +kernel
theorem dL_law_970 : decode cL_law 970 = .ok (.ireturn, 1) := by decide +kernel
theorem dL_law_971 : decode cL_law 971 = .ok (.goto 731, 3) := by decide +kernel
theorem dL_law_974 : decode cL_law 974 = .ok (.aload_n 1, 1) := by decide +kernel
theorem dL_law_975 : decode cL_law 975 = .ok (.aload_n 0, 1) := by decide +kernel
theorem dL_law_976 : decode cL_law 976 = .ok (.iload 4, 2) := by decide +kernel
theorem dL_law_978 : decode cL_law 978 = .ok (.iconst 1, 1) := by decide +kernel
theorem dL_law_979 : decode cL_law 979 = .ok (.iadd, 1) := by decide +kernel
theorem dL_law_980 : decode cL_law 980 = .ok (.iaload, 1) := by decide +kernel
theorem dL_law_981 : decode cL_law 981 = .ok (.aload_n 0, 1) := by decide +kernel
theorem dL_law_982 : decode cL_law 982 = .ok (.iload 4, 2) := by decide +kernel
theorem dL_law_984 : decode cL_law 984 = .ok (.iconst 2, 1) := by decide +kernel
theorem dL_law_985 : decode cL_law 985 = .ok (.iadd, 1) := by decide +kernel
theorem dL_law_986 : decode cL_law 986 = .ok (.iaload, 1) := by decide +kernel
theorem dL_law_987 : decode cL_law 987 = .ok (.aload_n 3, 1) := by decide +kernel
theorem dL_law_988 : decode cL_law 988 = .ok (.invokestatic 149, 3) := by decide +kernel
theorem dL_law_991 : decode cL_law 991 = .ok (.istore 5, 2) := by decide +kernel
theorem dL_law_993 : decode cL_law 993 = .ok (.aload_n 2, 1) := by decide +kernel
theorem dL_law_994 : decode cL_law 994 = .ok (.aload_n 0, 1) := by decide +kernel
theorem dL_law_995 : decode cL_law 995 = .ok (.iload 4, 2) := by decide +kernel
theorem dL_law_997 : decode cL_law 997 = .ok (.iconst 1, 1) := by decide +kernel
theorem dL_law_998 : decode cL_law 998 = .ok (.iadd, 1) := by decide +kernel
theorem dL_law_999 : decode cL_law 999 = .ok (.iaload, 1) := by decide +kernel
theorem dL_law_1000 : decode cL_law 1000 = .ok (.aload_n 0, 1) := by decide +kernel
theorem dL_law_1001 : decode cL_law 1001 = .ok (.iload 4, 2) := by decide +kernel
theorem dL_law_1003 : decode cL_law 1003 = .ok (.iconst 2, 1) := by decide +kernel
theorem dL_law_1004 : decode cL_law 1004 = .ok (.iadd, 1) := by decide +kernel
theorem dL_law_1005 : decode cL_law 1005 = .ok (.iaload, 1) := by decide +kernel
theorem dL_law_1006 : decode cL_law 1006 = .ok (.invokevirtual 151, 3) := by decide +kernel
theorem dL_law_1009 : decode cL_law 1009 = .ok (.istore 6, 2) := by decide +kernel
theorem dL_law_1011 : decode cL_law 1011 = .ok (.aload_n 2, 1) := by decide +kernel
theorem dL_law_1012 : decode cL_law 1012 = .ok (.invokevirtual 101, 3) := by decide +kernel
theorem dL_law_1015 : decode cL_law 1015 = .ok (.iload 5, 2) := by decide +kernel
theorem dL_law_1017 : decode cL_law 1017 = .ok (.if_icmp .eq 5, 3) := by decide +kernel
theorem dL_law_1020 : decode cL_law 1020 = .ok (.iconst 0, 1) := by decide +kernel
theorem dL_law_1021 : decode cL_law 1021 = .ok (.ireturn, 1) := by decide +kernel
theorem dL_law_1022 : decode cL_law 1022 = .ok (.iload 5, 2) := by decide +kernel
theorem dL_law_1024 : decode cL_law 1024 = .ok (.ifCond .ne 15, 3) := by decide +kernel
theorem dL_law_1027 : decode cL_law 1027 = .ok (.aload_n 3, 1) := by decide +kernel
theorem dL_law_1028 : decode cL_law 1028 = .ok (.iconst 0, 1) := by decide +kernel
theorem dL_law_1029 : decode cL_law 1029 = .ok (.laload, 1) := by decide +kernel
theorem dL_law_1030 : decode cL_law 1030 = .ok (.iload 6, 2) := by decide +kernel
theorem dL_law_1032 : decode cL_law 1032 = .ok (.i2l, 1) := by decide +kernel
theorem dL_law_1033 : decode cL_law 1033 = .ok (.lcmp, 1) := by decide +kernel
theorem dL_law_1034 : decode cL_law 1034 = .ok (.ifCond .eq 5, 3) := by decide +kernel
theorem dL_law_1037 : decode cL_law 1037 = .ok (.iconst 0, 1) := by decide +kernel
theorem dL_law_1038 : decode cL_law 1038 = .ok (.ireturn, 1) := by decide +kernel
theorem dL_law_1039 : decode cL_law 1039 = .ok (.goto 663, 3) := by decide +kernel
theorem dL_law_1042 : decode cL_law 1042 = .ok (.aload_n 1, 1) := by decide +kernel
theorem dL_law_1043 : decode cL_law 1043 = .ok (.aload_n 3, 1) := by decide +kernel
theorem dL_law_1044 : decode cL_law 1044 = .ok (.invokestatic 152, 3) := by decide +kernel
theorem dL_law_1047 : decode cL_law 1047 = .ok (.istore 5, 2) := by decide +kernel
theorem dL_law_1049 : decode cL_law 1049 = .ok (.aload_n 2, 1) := by decide +kernel
theorem dL_law_1050 : decode cL_law 1050 = .ok (.invokevirtual 154, 3) := by decide +kernel
theorem dL_law_1053 : decode cL_law 1053 = .ok (.istore 6, 2) := by decide +kernel
theorem dL_law_1055 : decode cL_law 1055 = .ok (.aload_n 2, 1) := by decide +kernel
theorem dL_law_1056 : decode cL_law 1056 = .ok (.invokevirtual 101, 3) := by decide +kernel
theorem dL_law_1059 : decode cL_law 1059 = .ok (.iload 5, 2) := by decide +kernel
theorem dL_law_1061 : decode cL_law 1061 = .ok (.if_icmp .eq 5, 3) := by decide +kernel
theorem dL_law_1064 : decode cL_law 1064 = .ok (.iconst 0, 1) := by decide +kernel
theorem dL_law_1065 : decode cL_law 1065 = .ok (.ireturn, 1) := by decide +kernel
theorem dL_law_1066 : decode cL_law 1066 = .ok (.iload 5, 2) := by decide +kernel
theorem dL_law_1068 : decode cL_law 1068 = .ok (.ifCond .ne 15, 3) := by decide +kernel
theorem dL_law_1071 : decode cL_law 1071 = .ok (.aload_n 3, 1) := by decide +kernel
theorem dL_law_1072 : decode cL_law 1072 = .ok (.iconst 0, 1) := by decide +kernel
theorem dL_law_1073 : decode cL_law 1073 = .ok (.laload, 1) := by decide +kernel
theorem dL_law_1074 : decode cL_law 1074 = .ok (.iload 6, 2) := by decide +kernel
theorem dL_law_1076 : decode cL_law 1076 = .ok (.i2l, 1) := by decide +kernel
theorem dL_law_1077 : decode cL_law 1077 = .ok (.lcmp, 1) := by decide +kernel
theorem dL_law_1078 : decode cL_law 1078 = .ok (.ifCond .eq 5, 3) := by decide +kernel
theorem dL_law_1081 : decode cL_law 1081 = .ok (.iconst 0, 1) := by decide +kernel
theorem dL_law_1082 : decode cL_law 1082 = .ok (.ireturn, 1) := by decide +kernel
theorem dL_law_1083 : decode cL_law 1083 = .ok (.goto 619, 3) := by decide +kernel
theorem dL_law_1086 : decode cL_law 1086 = .ok (.aload_n 1, 1) := by decide +kernel
theorem dL_law_1087 : decode cL_law 1087 = .ok (.aload_n 0, 1) := by decide +kernel
theorem dL_law_1088 : decode cL_law 1088 = .ok (.iload 4, 2) := by decide +kernel
theorem dL_law_1090 : decode cL_law 1090 = .ok (.iconst 1, 1) := by decide +kernel
theorem dL_law_1091 : decode cL_law 1091 = .ok (.iadd, 1) := by decide +kernel
theorem dL_law_1092 : decode cL_law 1092 = .ok (.iaload, 1) := by decide +kernel
theorem dL_law_1093 : decode cL_law 1093 = .ok (.aload_n 0, 1) := by decide +kernel
theorem dL_law_1094 : decode cL_law 1094 = .ok (.iload 4, 2) := by decide +kernel
theorem dL_law_1096 : decode cL_law 1096 = .ok (.iconst 2, 1) := by decide +kernel
theorem dL_law_1097 : decode cL_law 1097 = .ok (.iadd, 1) := by decide +kernel
theorem dL_law_1098 : decode cL_law 1098 = .ok (.iaload, 1) := by decide +kernel
theorem dL_law_1099 : decode cL_law 1099 = .ok (.aload_n 3, 1) := by decide +kernel
theorem dL_law_1100 : decode cL_law 1100 = .ok (.invokestatic 155, 3) := by decide +kernel
theorem dL_law_1103 : decode cL_law 1103 = .ok (.istore 5, 2) := by decide +kernel
theorem dL_law_1105 : decode cL_law 1105 = .ok (.aload_n 2, 1) := by decide +kernel
theorem dL_law_1106 : decode cL_law 1106 = .ok (.aload_n 0, 1) := by decide +kernel
theorem dL_law_1107 : decode cL_law 1107 = .ok (.iload 4, 2) := by decide +kernel
theorem dL_law_1109 : decode cL_law 1109 = .ok (.iconst 1, 1) := by decide +kernel
theorem dL_law_1110 : decode cL_law 1110 = .ok (.iadd, 1) := by decide +kernel
theorem dL_law_1111 : decode cL_law 1111 = .ok (.iaload, 1) := by decide +kernel
theorem dL_law_1112 : decode cL_law 1112 = .ok (.aload_n 0, 1) := by decide +kernel
theorem dL_law_1113 : decode cL_law 1113 = .ok (.iload 4, 2) := by decide +kernel
theorem dL_law_1115 : decode cL_law 1115 = .ok (.iconst 2, 1) := by decide +kernel
theorem dL_law_1116 : decode cL_law 1116 = .ok (.iadd, 1) := by decide +kernel
theorem dL_law_1117 : decode cL_law 1117 = .ok (.iaload, 1) := by decide +kernel
theorem dL_law_1118 : decode cL_law 1118 = .ok (.invokevirtual 157, 3) := by decide +kernel
theorem dL_law_1121 : decode cL_law 1121 = .ok (.istore 6, 2) := by decide +kernel
theorem dL_law_1123 : decode cL_law 1123 = .ok (.aload_n 2, 1) := by decide +kernel
theorem dL_law_1124 : decode cL_law 1124 = .ok (.invokevirtual 101, 3) := by decide +kernel
theorem dL_law_1127 : decode cL_law 1127 = .ok (.iload 5, 2) := by decide +kernel
theorem dL_law_1129 : decode cL_law 1129 = .ok (.if_icmp .eq 5, 3) := by decide +kernel
theorem dL_law_1132 : decode cL_law 1132 = .ok (.iconst 0, 1) := by decide +kernel
theorem dL_law_1133 : decode cL_law 1133 = .ok (.ireturn, 1) := by decide +kernel
theorem dL_law_1134 : decode cL_law 1134 = .ok (.iload 5, 2) := by decide +kernel
theorem dL_law_1136 : decode cL_law 1136 = .ok (.ifCond .ne 15, 3) := by decide +kernel
theorem dL_law_1139 : decode cL_law 1139 = .ok (.aload_n 3, 1) := by decide +kernel
theorem dL_law_1140 : decode cL_law 1140 = .ok (.iconst 0, 1) := by decide +kernel
theorem dL_law_1141 : decode cL_law 1141 = .ok (.laload, 1) := by decide +kernel
theorem dL_law_1142 : decode cL_law 1142 = .ok (.iload 6, 2) := by decide +kernel
theorem dL_law_1144 : decode cL_law 1144 = .ok (.i2l, 1) := by decide +kernel
theorem dL_law_1145 : decode cL_law 1145 = .ok (.lcmp, 1) := by decide +kernel
theorem dL_law_1146 : decode cL_law 1146 = .ok (.ifCond .eq 5, 3) := by decide +kernel
theorem dL_law_1149 : decode cL_law 1149 = .ok (.iconst 0, 1) := by decide +kernel
theorem dL_law_1150 : decode cL_law 1150 = .ok (.ireturn, 1) := by decide +kernel
theorem dL_law_1151 : decode cL_law 1151 = .ok (.goto 551, 3) := by decide +kernel
theorem dL_law_1154 : decode cL_law 1154 = .ok (.aload_n 1, 1) := by decide +kernel
theorem dL_law_1155 : decode cL_law 1155 = .ok (.aload_n 0, 1) := by decide +kernel
theorem dL_law_1156 : decode cL_law 1156 = .ok (.iload 4, 2) := by decide +kernel
theorem dL_law_1158 : decode cL_law 1158 = .ok (.iconst 1, 1) := by decide +kernel
theorem dL_law_1159 : decode cL_law 1159 = .ok (.iadd, 1) := by decide +kernel
theorem dL_law_1160 : decode cL_law 1160 = .ok (.iaload, 1) := by decide +kernel
theorem dL_law_1161 : decode cL_law 1161 = .ok (.aload_n 3, 1) := by decide +kernel
theorem dL_law_1162 : decode cL_law 1162 = .ok (.invokestatic 158, 3) := by decide +kernel
theorem dL_law_1165 : decode cL_law 1165 = .ok (.istore 5, 2) := by decide +kernel
theorem dL_law_1167 : decode cL_law 1167 = .ok (.aload_n 2, 1) := by decide +kernel
theorem dL_law_1168 : decode cL_law 1168 = .ok (.aload_n 0, 1) := by decide +kernel
theorem dL_law_1169 : decode cL_law 1169 = .ok (.iload 4, 2) := by decide +kernel
theorem dL_law_1171 : decode cL_law 1171 = .ok (.iconst 1, 1) := by decide +kernel
theorem dL_law_1172 : decode cL_law 1172 = .ok (.iadd, 1) := by decide +kernel
theorem dL_law_1173 : decode cL_law 1173 = .ok (.iaload, 1) := by decide +kernel
theorem dL_law_1174 : decode cL_law 1174 = .ok (.invokevirtual 160, 3) := by decide +kernel
theorem dL_law_1177 : decode cL_law 1177 = .ok (.istore 6, 2) := by decide +kernel
theorem dL_law_1179 : decode cL_law 1179 = .ok (.aload_n 2, 1) := by decide +kernel
theorem dL_law_1180 : decode cL_law 1180 = .ok (.invokevirtual 101, 3) := by decide +kernel
theorem dL_law_1183 : decode cL_law 1183 = .ok (.iload 5, 2) := by decide +kernel
theorem dL_law_1185 : decode cL_law 1185 = .ok (.if_icmp .eq 5, 3) := by decide +kernel
theorem dL_law_1188 : decode cL_law 1188 = .ok (.iconst 0, 1) := by decide +kernel
theorem dL_law_1189 : decode cL_law 1189 = .ok (.ireturn, 1) := by decide +kernel
theorem dL_law_1190 : decode cL_law 1190 = .ok (.iload 5, 2) := by decide +kernel
theorem dL_law_1192 : decode cL_law 1192 = .ok (.ifCond .ne 15, 3) := by decide +kernel
theorem dL_law_1195 : decode cL_law 1195 = .ok (.aload_n 3, 1) := by decide +kernel
theorem dL_law_1196 : decode cL_law 1196 = .ok (.iconst 0, 1) := by decide +kernel
theorem dL_law_1197 : decode cL_law 1197 = .ok (.laload, 1) := by decide +kernel
theorem dL_law_1198 : decode cL_law 1198 = .ok (.iload 6, 2) := by decide +kernel
theorem dL_law_1200 : decode cL_law 1200 = .ok (.i2l, 1) := by decide +kernel
theorem dL_law_1201 : decode cL_law 1201 = .ok (.lcmp, 1) := by decide +kernel
theorem dL_law_1202 : decode cL_law 1202 = .ok (.ifCond .eq 5, 3) := by decide +kernel
theorem dL_law_1205 : decode cL_law 1205 = .ok (.iconst 0, 1) := by decide +kernel
theorem dL_law_1206 : decode cL_law 1206 = .ok (.ireturn, 1) := by decide +kernel
theorem dL_law_1207 : decode cL_law 1207 = .ok (.goto 495, 3) := by decide +kernel
theorem dL_law_1210 : decode cL_law 1210 = .ok (.aload_n 1, 1) := by decide +kernel
theorem dL_law_1211 : decode cL_law 1211 = .ok (.aload_n 0, 1) := by decide +kernel
theorem dL_law_1212 : decode cL_law 1212 = .ok (.iload 4, 2) := by decide +kernel
theorem dL_law_1214 : decode cL_law 1214 = .ok (.iconst 1, 1) := by decide +kernel
theorem dL_law_1215 : decode cL_law 1215 = .ok (.iadd, 1) := by decide +kernel
theorem dL_law_1216 : decode cL_law 1216 = .ok (.iaload, 1) := by decide +kernel
theorem dL_law_1217 : decode cL_law 1217 = .ok (.aload_n 3, 1) := by decide +kernel
theorem dL_law_1218 : decode cL_law 1218 = .ok (.invokestatic 161, 3) := by decide +kernel
theorem dL_law_1221 : decode cL_law 1221 = .ok (.istore 5, 2) := by decide +kernel
theorem dL_law_1223 : decode cL_law 1223 = .ok (.aload_n 2, 1) := by decide +kernel
theorem dL_law_1224 : decode cL_law 1224 = .ok (.aload_n 0, 1) := by decide +kernel
theorem dL_law_1225 : decode cL_law 1225 = .ok (.iload 4, 2) := by decide +kernel
theorem dL_law_1227 : decode cL_law 1227 = .ok (.iconst 1, 1) := by decide +kernel
theorem dL_law_1228 : decode cL_law 1228 = .ok (.iadd, 1) := by decide +kernel
theorem dL_law_1229 : decode cL_law 1229 = .ok (.iaload, 1) := by decide +kernel
theorem dL_law_1230 : decode cL_law 1230 = .ok (.invokevirtual 163, 3) := by decide +kernel
theorem dL_law_1233 : decode cL_law 1233 = .ok (.istore 6, 2) := by decide +kernel
theorem dL_law_1235 : decode cL_law 1235 = .ok (.aload_n 2, 1) := by decide +kernel
theorem dL_law_1236 : decode cL_law 1236 = .ok (.invokevirtual 101, 3) := by decide +kernel
theorem dL_law_1239 : decode cL_law 1239 = .ok (.iload 5, 2) := by decide +kernel
theorem dL_law_1241 : decode cL_law 1241 = .ok (.if_icmp .eq 5, 3) := by decide +kernel
theorem dL_law_1244 : decode cL_law 1244 = .ok (.iconst 0, 1) := by decide +kernel
theorem dL_law_1245 : decode cL_law 1245 = .ok (.ireturn, 1) := by decide +kernel
theorem dL_law_1246 : decode cL_law 1246 = .ok (.iload 5, 2) := by decide +kernel
theorem dL_law_1248 : decode cL_law 1248 = .ok (.ifCond .ne 15, 3) := by decide +kernel
theorem dL_law_1251 : decode cL_law 1251 = .ok (.aload_n 3, 1) := by decide +kernel
theorem dL_law_1252 : decode cL_law 1252 = .ok (.iconst 0, 1) := by decide +kernel
theorem dL_law_1253 : decode cL_law 1253 = .ok (.laload, 1) := by decide +kernel
theorem dL_law_1254 : decode cL_law 1254 = .ok (.iload 6, 2) := by decide +kernel
theorem dL_law_1256 : decode cL_law 1256 = .ok (.i2l, 1) := by decide +kernel
theorem dL_law_1257 : decode cL_law 1257 = .ok (.lcmp, 1) := by decide +kernel
theorem dL_law_1258 : decode cL_law 1258 = .ok (.ifCond .eq 5, 3) := by decide +kernel
theorem dL_law_1261 : decode cL_law 1261 = .ok (.iconst 0, 1) := by decide +kernel
theorem dL_law_1262 : decode cL_law 1262 = .ok (.ireturn, 1) := by decide +kernel
theorem dL_law_1263 : decode cL_law 1263 = .ok (.goto 439, 3) := by decide +kernel
theorem dL_law_1266 : decode cL_law 1266 = .ok (.aload_n 1, 1) := by decide +kernel
theorem dL_law_1267 : decode cL_law 1267 = .ok (.aload_n 0, 1) := by decide +kernel
theorem dL_law_1268 : decode cL_law 1268 = .ok (.iload 4, 2) := by decide +kernel
theorem dL_law_1270 : decode cL_law 1270 = .ok (.iconst 1, 1) := by decide +kernel
theorem dL_law_1271 : decode cL_law 1271 = .ok (.iadd, 1) := by decide +kernel
theorem dL_law_1272 : decode cL_law 1272 = .ok (.iaload, 1) := by decide +kernel
theorem dL_law_1273 : decode cL_law 1273 = .ok (.aload_n 3, 1) := by decide +kernel
theorem dL_law_1274 : decode cL_law 1274 = .ok (.invokestatic 164, 3) := by decide +kernel
theorem dL_law_1277 : decode cL_law 1277 = .ok (.istore 5, 2) := by decide +kernel
theorem dL_law_1279 : decode cL_law 1279 = .ok (.aload_n 2, 1) := by decide +kernel
theorem dL_law_1280 : decode cL_law 1280 = .ok (.aload_n 0, 1) := by decide +kernel
theorem dL_law_1281 : decode cL_law 1281 = .ok (.iload 4, 2) := by decide +kernel
theorem dL_law_1283 : decode cL_law 1283 = .ok (.iconst 1, 1) := by decide +kernel
theorem dL_law_1284 : decode cL_law 1284 = .ok (.iadd, 1) := by decide +kernel
theorem dL_law_1285 : decode cL_law 1285 = .ok (.iaload, 1) := by decide +kernel
theorem dL_law_1286 : decode cL_law 1286 = .ok (.invokevirtual 166, 3) := by decide +kernel
theorem dL_law_1289 : decode cL_law 1289 = .ok (.istore 6, 2) := by decide +kernel
theorem dL_law_1291 : decode cL_law 1291 = .ok (.aload_n 2, 1) := by decide +kernel
theorem dL_law_1292 : decode cL_law 1292 = .ok (.invokevirtual 101, 3) := by decide +kernel
theorem dL_law_1295 : decode cL_law 1295 = .ok (.iload 5, 2) := by decide +kernel
theorem dL_law_1297 : decode cL_law 1297 = .ok (.if_icmp .eq 5, 3) := by decide +kernel
theorem dL_law_1300 : decode cL_law 1300 = .ok (.iconst 0, 1) := by decide +kernel
theorem dL_law_1301 : decode cL_law 1301 = .ok (.ireturn, 1) := by decide +kernel
theorem dL_law_1302 : decode cL_law 1302 = .ok (.iload 5, 2) := by decide +kernel
theorem dL_law_1304 : decode cL_law 1304 = .ok (.ifCond .ne 15, 3) := by decide +kernel
theorem dL_law_1307 : decode cL_law 1307 = .ok (.aload_n 3, 1) := by decide +kernel
theorem dL_law_1308 : decode cL_law 1308 = .ok (.iconst 0, 1) := by decide +kernel
theorem dL_law_1309 : decode cL_law 1309 = .ok (.laload, 1) := by decide +kernel
theorem dL_law_1310 : decode cL_law 1310 = .ok (.iload 6, 2) := by decide +kernel
theorem dL_law_1312 : decode cL_law 1312 = .ok (.i2l, 1) := by decide +kernel
theorem dL_law_1313 : decode cL_law 1313 = .ok (.lcmp, 1) := by decide +kernel
theorem dL_law_1314 : decode cL_law 1314 = .ok (.ifCond .eq 5, 3) := by decide +kernel
theorem dL_law_1317 : decode cL_law 1317 = .ok (.iconst 0, 1) := by decide +kernel
theorem dL_law_1318 : decode cL_law 1318 = .ok (.ireturn, 1) := by decide +kernel
theorem dL_law_1319 : decode cL_law 1319 = .ok (.goto 383, 3) := by decide +kernel
theorem dL_law_1322 : decode cL_law 1322 = .ok (.aload_n 1, 1) := by decide +kernel
theorem dL_law_1323 : decode cL_law 1323 = .ok (.aload_n 0, 1) := by decide +kernel
theorem dL_law_1324 : decode cL_law 1324 = .ok (.iload 4, 2) := by decide +kernel
theorem dL_law_1326 : decode cL_law 1326 = .ok (.iconst 1, 1) := by decide +kernel
theorem dL_law_1327 : decode cL_law 1327 = .ok (.iadd, 1) := by decide +kernel
theorem dL_law_1328 : decode cL_law 1328 = .ok (.iaload, 1) := by decide +kernel
theorem dL_law_1329 : decode cL_law 1329 = .ok (.aload_n 0, 1) := by decide +kernel
theorem dL_law_1330 : decode cL_law 1330 = .ok (.iload 4, 2) := by decide +kernel
theorem dL_law_1332 : decode cL_law 1332 = .ok (.iconst 2, 1) := by decide +kernel
theorem dL_law_1333 : decode cL_law 1333 = .ok (.iadd, 1) := by decide +kernel
theorem dL_law_1334 : decode cL_law 1334 = .ok (.iaload, 1) := by decide +kernel
theorem dL_law_1335 : decode cL_law 1335 = .ok (.aload_n 3, 1) := by decide +kernel
theorem dL_law_1336 : decode cL_law 1336 = .ok (.invokestatic 167, 3) := by decide +kernel
theorem dL_law_1339 : decode cL_law 1339 = .ok (.istore 5, 2) := by decide +kernel
theorem dL_law_1341 : decode cL_law 1341 = .ok (.aload_n 2, 1) := by decide +kernel
theorem dL_law_1342 : decode cL_law 1342 = .ok (.aload_n 0, 1) := by decide +kernel
theorem dL_law_1343 : decode cL_law 1343 = .ok (.iload 4, 2) := by decide +kernel
theorem dL_law_1345 : decode cL_law 1345 = .ok (.iconst 1, 1) := by decide +kernel
theorem dL_law_1346 : decode cL_law 1346 = .ok (.iadd, 1) := by decide +kernel
theorem dL_law_1347 : decode cL_law 1347 = .ok (.iaload, 1) := by decide +kernel
theorem dL_law_1348 : decode cL_law 1348 = .ok (.aload_n 0, 1) := by decide +kernel
theorem dL_law_1349 : decode cL_law 1349 = .ok (.iload 4, 2) := by decide +kernel
theorem dL_law_1351 : decode cL_law 1351 = .ok (.iconst 2, 1) := by decide +kernel
theorem dL_law_1352 : decode cL_law 1352 = .ok (.iadd, 1) := by decide +kernel
theorem dL_law_1353 : decode cL_law 1353 = .ok (.iaload, 1) := by decide +kernel
theorem dL_law_1354 : decode cL_law 1354 = .ok (.invokevirtual 169, 3) := by decide +kernel
theorem dL_law_1357 : decode cL_law 1357 = .ok (.istore 6, 2) := by decide +kernel
theorem dL_law_1359 : decode cL_law 1359 = .ok (.aload_n 2, 1) := by decide +kernel
theorem dL_law_1360 : decode cL_law 1360 = .ok (.invokevirtual 101, 3) := by decide +kernel
theorem dL_law_1363 : decode cL_law 1363 = .ok (.iload 5, 2) := by decide +kernel
theorem dL_law_1365 : decode cL_law 1365 = .ok (.if_icmp .eq 5, 3) := by decide +kernel
theorem dL_law_1368 : decode cL_law 1368 = .ok (.iconst 0, 1) := by decide +kernel
theorem dL_law_1369 : decode cL_law 1369 = .ok (.ireturn, 1) := by decide +kernel
theorem dL_law_1370 : decode cL_law 1370 = .ok (.iload 5, 2) := by decide +kernel
theorem dL_law_1372 : decode cL_law 1372 = .ok (.ifCond .ne 15, 3) := by decide +kernel
theorem dL_law_1375 : decode cL_law 1375 = .ok (.aload_n 3, 1) := by decide +kernel
theorem dL_law_1376 : decode cL_law 1376 = .ok (.iconst 0, 1) := by decide +kernel
theorem dL_law_1377 : decode cL_law 1377 = .ok (.laload, 1) := by decide +kernel
theorem dL_law_1378 : decode cL_law 1378 = .ok (.iload 6, 2) := by decide +kernel
theorem dL_law_1380 : decode cL_law 1380 = .ok (.i2l, 1) := by decide +kernel
theorem dL_law_1381 : decode cL_law 1381 = .ok (.lcmp, 1) := by decide +kernel
theorem dL_law_1382 : decode cL_law 1382 = .ok (.ifCond .eq 5, 3) := by decide +kernel
theorem dL_law_1385 : decode cL_law 1385 = .ok (.iconst 0, 1) := by decide +kernel
theorem dL_law_1386 : decode cL_law 1386 = .ok (.ireturn, 1) := by decide +kernel
theorem dL_law_1387 : decode cL_law 1387 = .ok (.goto 315, 3) := by decide +kernel
theorem dL_law_1390 : decode cL_law 1390 = .ok (.aload_n 1, 1) := by decide +kernel
theorem dL_law_1391 : decode cL_law 1391 = .ok (.aload_n 0, 1) := by decide +kernel
theorem dL_law_1392 : decode cL_law 1392 = .ok (.iload 4, 2) := by decide +kernel
theorem dL_law_1394 : decode cL_law 1394 = .ok (.iconst 1, 1) := by decide +kernel
theorem dL_law_1395 : decode cL_law 1395 = .ok (.iadd, 1) := by decide +kernel
theorem dL_law_1396 : decode cL_law 1396 = .ok (.iaload, 1) := by decide +kernel
theorem dL_law_1397 : decode cL_law 1397 = .ok (.aload_n 0, 1) := by decide +kernel
theorem dL_law_1398 : decode cL_law 1398 = .ok (.iload 4, 2) := by decide +kernel
theorem dL_law_1400 : decode cL_law 1400 = .ok (.iconst 2, 1) := by decide +kernel
theorem dL_law_1401 : decode cL_law 1401 = .ok (.iadd, 1) := by decide +kernel
theorem dL_law_1402 : decode cL_law 1402 = .ok (.iaload, 1) := by decide +kernel
theorem dL_law_1403 : decode cL_law 1403 = .ok (.i2l, 1) := by decide +kernel
theorem dL_law_1404 : decode cL_law 1404 = .ok (.bipush 32, 2) := by decide +kernel
theorem dL_law_1406 : decode cL_law 1406 = .ok (.lshl, 1) := by decide +kernel
theorem dL_law_1407 : decode cL_law 1407 = .ok (.aload_n 0, 1) := by decide +kernel
theorem dL_law_1408 : decode cL_law 1408 = .ok (.iload 4, 2) := by decide +kernel
theorem dL_law_1410 : decode cL_law 1410 = .ok (.iconst 3, 1) := by decide +kernel
theorem dL_law_1411 : decode cL_law 1411 = .ok (.iadd, 1) := by decide +kernel
theorem dL_law_1412 : decode cL_law 1412 = .ok (.iaload, 1) := by decide +kernel
theorem dL_law_1413 : decode cL_law 1413 = .ok (.i2l, 1) := by decide +kernel
theorem dL_law_1414 : decode cL_law 1414 = .ok (.ldc2_w 170, 3) := by decide +kernel
theorem dL_law_1417 : decode cL_law 1417 = .ok (.land, 1) := by decide +kernel
theorem dL_law_1418 : decode cL_law 1418 = .ok (.lor, 1) := by decide +kernel
theorem dL_law_1419 : decode cL_law 1419 = .ok (.aload_n 3, 1) := by decide +kernel
theorem dL_law_1420 : decode cL_law 1420 = .ok (.invokestatic 172, 3) := by decide +kernel
theorem dL_law_1423 : decode cL_law 1423 = .ok (.istore 5, 2) := by decide +kernel
theorem dL_law_1425 : decode cL_law 1425 = .ok (.aload_n 2, 1) := by decide +kernel
theorem dL_law_1426 : decode cL_law 1426 = .ok (.aload_n 0, 1) := by decide +kernel
theorem dL_law_1427 : decode cL_law 1427 = .ok (.iload 4, 2) := by decide +kernel
theorem dL_law_1429 : decode cL_law 1429 = .ok (.iconst 1, 1) := by decide +kernel
theorem dL_law_1430 : decode cL_law 1430 = .ok (.iadd, 1) := by decide +kernel
theorem dL_law_1431 : decode cL_law 1431 = .ok (.iaload, 1) := by decide +kernel
theorem dL_law_1432 : decode cL_law 1432 = .ok (.aload_n 0, 1) := by decide +kernel
theorem dL_law_1433 : decode cL_law 1433 = .ok (.iload 4, 2) := by decide +kernel
theorem dL_law_1435 : decode cL_law 1435 = .ok (.iconst 2, 1) := by decide +kernel
theorem dL_law_1436 : decode cL_law 1436 = .ok (.iadd, 1) := by decide +kernel
theorem dL_law_1437 : decode cL_law 1437 = .ok (.iaload, 1) := by decide +kernel
theorem dL_law_1438 : decode cL_law 1438 = .ok (.i2l, 1) := by decide +kernel
theorem dL_law_1439 : decode cL_law 1439 = .ok (.bipush 32, 2) := by decide +kernel
theorem dL_law_1441 : decode cL_law 1441 = .ok (.lshl, 1) := by decide +kernel
theorem dL_law_1442 : decode cL_law 1442 = .ok (.aload_n 0, 1) := by decide +kernel
theorem dL_law_1443 : decode cL_law 1443 = .ok (.iload 4, 2) := by decide +kernel
theorem dL_law_1445 : decode cL_law 1445 = .ok (.iconst 3, 1) := by decide +kernel
theorem dL_law_1446 : decode cL_law 1446 = .ok (.iadd, 1) := by decide +kernel
theorem dL_law_1447 : decode cL_law 1447 = .ok (.iaload, 1) := by decide +kernel
theorem dL_law_1448 : decode cL_law 1448 = .ok (.i2l, 1) := by decide +kernel
theorem dL_law_1449 : decode cL_law 1449 = .ok (.ldc2_w 170, 3) := by decide +kernel
theorem dL_law_1452 : decode cL_law 1452 = .ok (.land, 1) := by decide +kernel
theorem dL_law_1453 : decode cL_law 1453 = .ok (.lor, 1) := by decide +kernel
theorem dL_law_1454 : decode cL_law 1454 = .ok (.invokevirtual 175, 3) := by decide +kernel
theorem dL_law_1457 : decode cL_law 1457 = .ok (.istore 6, 2) := by decide +kernel
theorem dL_law_1459 : decode cL_law 1459 = .ok (.aload_n 2, 1) := by decide +kernel
theorem dL_law_1460 : decode cL_law 1460 = .ok (.invokevirtual 101, 3) := by decide +kernel
theorem dL_law_1463 : decode cL_law 1463 = .ok (.iload 5, 2) := by decide +kernel
theorem dL_law_1465 : decode cL_law 1465 = .ok (.if_icmp .eq 5, 3) := by decide +kernel
theorem dL_law_1468 : decode cL_law 1468 = .ok (.iconst 0, 1) := by decide +kernel
theorem dL_law_1469 : decode cL_law 1469 = .ok (.ireturn, 1) := by decide +kernel
theorem dL_law_1470 : decode cL_law 1470 = .ok (.iload 5, 2) := by decide +kernel
theorem dL_law_1472 : decode cL_law 1472 = .ok (.ifCond .ne 15, 3) := by decide +kernel
theorem dL_law_1475 : decode cL_law 1475 = .ok (.aload_n 3, 1) := by decide +kernel
theorem dL_law_1476 : decode cL_law 1476 = .ok (.iconst 0, 1) := by decide +kernel
theorem dL_law_1477 : decode cL_law 1477 = .ok (.laload, 1) := by decide +kernel
theorem dL_law_1478 : decode cL_law 1478 = .ok (.iload 6, 2) := by decide +kernel
theorem dL_law_1480 : decode cL_law 1480 = .ok (.i2l, 1) := by decide +kernel
theorem dL_law_1481 : decode cL_law 1481 = .ok (.lcmp, 1) := by decide +kernel
theorem dL_law_1482 : decode cL_law 1482 = .ok (.ifCond .eq 5, 3) := by decide +kernel
theorem dL_law_1485 : decode cL_law 1485 = .ok (.iconst 0, 1) := by decide +kernel
theorem dL_law_1486 : decode cL_law 1486 = .ok (.ireturn, 1) := by decide +kernel
theorem dL_law_1487 : decode cL_law 1487 = .ok (.goto 215, 3) := by decide +kernel
theorem dL_law_1490 : decode cL_law 1490 = .ok (.aload_n 1, 1) := by decide +kernel
theorem dL_law_1491 : decode cL_law 1491 = .ok (.aload_n 0, 1) := by decide +kernel
theorem dL_law_1492 : decode cL_law 1492 = .ok (.iload 4, 2) := by decide +kernel
theorem dL_law_1494 : decode cL_law 1494 = .ok (.iconst 1, 1) := by decide +kernel
theorem dL_law_1495 : decode cL_law 1495 = .ok (.iadd, 1) := by decide +kernel
theorem dL_law_1496 : decode cL_law 1496 = .ok (.iaload, 1) := by decide +kernel
theorem dL_law_1497 : decode cL_law 1497 = .ok (.i2l, 1) := by decide +kernel
theorem dL_law_1498 : decode cL_law 1498 = .ok (.bipush 32, 2) := by decide +kernel
theorem dL_law_1500 : decode cL_law 1500 = .ok (.lshl, 1) := by decide +kernel
theorem dL_law_1501 : decode cL_law 1501 = .ok (.aload_n 0, 1) := by decide +kernel
theorem dL_law_1502 : decode cL_law 1502 = .ok (.iload 4, 2) := by decide +kernel
theorem dL_law_1504 : decode cL_law 1504 = .ok (.iconst 2, 1) := by decide +kernel
theorem dL_law_1505 : decode cL_law 1505 = .ok (.iadd, 1) := by decide +kernel
theorem dL_law_1506 : decode cL_law 1506 = .ok (.iaload, 1) := by decide +kernel
theorem dL_law_1507 : decode cL_law 1507 = .ok (.i2l, 1) := by decide +kernel
theorem dL_law_1508 : decode cL_law 1508 = .ok (.ldc2_w 170, 3) := by decide +kernel
theorem dL_law_1511 : decode cL_law 1511 = .ok (.land, 1) := by decide +kernel
theorem dL_law_1512 : decode cL_law 1512 = .ok (.lor, 1) := by decide +kernel
theorem dL_law_1513 : decode cL_law 1513 = .ok (.aload_n 0, 1) := by decide +kernel
theorem dL_law_1514 : decode cL_law 1514 = .ok (.iload 4, 2) := by decide +kernel
theorem dL_law_1516 : decode cL_law 1516 = .ok (.iconst 3, 1) := by decide +kernel
theorem dL_law_1517 : decode cL_law 1517 = .ok (.iadd, 1) := by decide +kernel
theorem dL_law_1518 : decode cL_law 1518 = .ok (.iaload, 1) := by decide +kernel
theorem dL_law_1519 : decode cL_law 1519 = .ok (.aload_n 3, 1) := by decide +kernel
theorem dL_law_1520 : decode cL_law 1520 = .ok (.invokestatic 176, 3) := by decide +kernel
theorem dL_law_1523 : decode cL_law 1523 = .ok (.istore 5, 2) := by decide +kernel
theorem dL_law_1525 : decode cL_law 1525 = .ok (.aload_n 2, 1) := by decide +kernel
theorem dL_law_1526 : decode cL_law 1526 = .ok (.aload_n 0, 1) := by decide +kernel
theorem dL_law_1527 : decode cL_law 1527 = .ok (.iload 4, 2) := by decide +kernel
theorem dL_law_1529 : decode cL_law 1529 = .ok (.iconst 1, 1) := by decide +kernel
theorem dL_law_1530 : decode cL_law 1530 = .ok (.iadd, 1) := by decide +kernel
theorem dL_law_1531 : decode cL_law 1531 = .ok (.iaload, 1) := by decide +kernel
theorem dL_law_1532 : decode cL_law 1532 = .ok (.i2l, 1) := by decide +kernel
theorem dL_law_1533 : decode cL_law 1533 = .ok (.bipush 32, 2) := by decide +kernel
theorem dL_law_1535 : decode cL_law 1535 = .ok (.lshl, 1) := by decide +kernel
theorem dL_law_1536 : decode cL_law 1536 = .ok (.aload_n 0, 1) := by decide +kernel
theorem dL_law_1537 : decode cL_law 1537 = .ok (.iload 4, 2) := by decide +kernel
theorem dL_law_1539 : decode cL_law 1539 = .ok (.iconst 2, 1) := by decide +kernel
theorem dL_law_1540 : decode cL_law 1540 = .ok (.iadd, 1) := by decide +kernel
theorem dL_law_1541 : decode cL_law 1541 = .ok (.iaload, 1) := by decide +kernel
theorem dL_law_1542 : decode cL_law 1542 = .ok (.i2l, 1) := by decide +kernel
theorem dL_law_1543 : decode cL_law 1543 = .ok (.ldc2_w 170, 3) := by decide +kernel
theorem dL_law_1546 : decode cL_law 1546 = .ok (.land, 1) := by decide +kernel
theorem dL_law_1547 : decode cL_law 1547 = .ok (.lor, 1) := by decide +kernel
theorem dL_law_1548 : decode cL_law 1548 = .ok (.aload_n 0, 1) := by decide +kernel
theorem dL_law_1549 : decode cL_law 1549 = .ok (.iload 4, 2) := by decide +kernel
theorem dL_law_1551 : decode cL_law 1551 = .ok (.iconst 3, 1) := by decide +kernel
theorem dL_law_1552 : decode cL_law 1552 = .ok (.iadd, 1) := by decide +kernel
theorem dL_law_1553 : decode cL_law 1553 = .ok (.iaload, 1) := by decide +kernel
theorem dL_law_1554 : decode cL_law 1554 = .ok (.invokevirtual 179, 3) := by decide +kernel
theorem dL_law_1557 : decode cL_law 1557 = .ok (.istore 6, 2) := by decide +kernel
theorem dL_law_1559 : decode cL_law 1559 = .ok (.aload_n 2, 1) := by decide +kernel
theorem dL_law_1560 : decode cL_law 1560 = .ok (.invokevirtual 101, 3) := by decide +kernel
theorem dL_law_1563 : decode cL_law 1563 = .ok (.iload 5, 2) := by decide +kernel
theorem dL_law_1565 : decode cL_law 1565 = .ok (.if_icmp .eq 5, 3) := by decide +kernel
theorem dL_law_1568 : decode cL_law 1568 = .ok (.iconst 0, 1) := by decide +kernel
theorem dL_law_1569 : decode cL_law 1569 = .ok (.ireturn, 1) := by decide +kernel
theorem dL_law_1570 : decode cL_law 1570 = .ok (.iload 5, 2) := by decide +kernel
theorem dL_law_1572 : decode cL_law 1572 = .ok (.ifCond .ne 15, 3) := by decide +kernel
theorem dL_law_1575 : decode cL_law 1575 = .ok (.aload_n 3, 1) := by decide +kernel
theorem dL_law_1576 : decode cL_law 1576 = .ok (.iconst 0, 1) := by decide +kernel
theorem dL_law_1577 : decode cL_law 1577 = .ok (.laload, 1) := by decide +kernel
theorem dL_law_1578 : decode cL_law 1578 = .ok (.iload 6, 2) := by decide +kernel
theorem dL_law_1580 : decode cL_law 1580 = .ok (.i2l, 1) := by decide +kernel
theorem dL_law_1581 : decode cL_law 1581 = .ok (.lcmp, 1) := by decide +kernel
theorem dL_law_1582 : decode cL_law 1582 = .ok (.ifCond .eq 5, 3) := by decide +kernel
theorem dL_law_1585 : decode cL_law 1585 = .ok (.iconst 0, 1) := by decide +kernel
theorem dL_law_1586 : decode cL_law 1586 = .ok (.ireturn, 1) := by decide +kernel
theorem dL_law_1587 : decode cL_law 1587 = .ok (.goto 115, 3) := by decide +kernel
theorem dL_law_1590 : decode cL_law 1590 = .ok (.aload_n 1, 1) := by decide +kernel
theorem dL_law_1591 : decode cL_law 1591 = .ok (.aload_n 0, 1) := by decide +kernel
theorem dL_law_1592 : decode cL_law 1592 = .ok (.iload 4, 2) := by decide +kernel
theorem dL_law_1594 : decode cL_law 1594 = .ok (.iconst 1, 1) := by decide +kernel
theorem dL_law_1595 : decode cL_law 1595 = .ok (.iadd, 1) := by decide +kernel
theorem dL_law_1596 : decode cL_law 1596 = .ok (.iaload, 1) := by decide +kernel
theorem dL_law_1597 : decode cL_law 1597 = .ok (.aload_n 3, 1) := by decide +kernel
theorem dL_law_1598 : decode cL_law 1598 = .ok (.invokestatic 180, 3) := by decide +kernel
theorem dL_law_1601 : decode cL_law 1601 = .ok (.istore 5, 2) := by decide +kernel
theorem dL_law_1603 : decode cL_law 1603 = .ok (.aload_n 2, 1) := by decide +kernel
theorem dL_law_1604 : decode cL_law 1604 = .ok (.aload_n 0, 1) := by decide +kernel
theorem dL_law_1605 : decode cL_law 1605 = .ok (.iload 4, 2) := by decide +kernel
theorem dL_law_1607 : decode cL_law 1607 = .ok (.iconst 1, 1) := by decide +kernel
theorem dL_law_1608 : decode cL_law 1608 = .ok (.iadd, 1) := by decide +kernel
theorem dL_law_1609 : decode cL_law 1609 = .ok (.iaload, 1) := by decide +kernel
theorem dL_law_1610 : decode cL_law 1610 = .ok (.invokevirtual 182, 3) := by decide +kernel
theorem dL_law_1613 : decode cL_law 1613 = .ok (.istore 6, 2) := by decide +kernel
theorem dL_law_1615 : decode cL_law 1615 = .ok (.aload_n 2, 1) := by decide +kernel
theorem dL_law_1616 : decode cL_law 1616 = .ok (.invokevirtual 101, 3) := by decide +kernel
theorem dL_law_1619 : decode cL_law 1619 = .ok (.iload 5, 2) := by decide +kernel
theorem dL_law_1621 : decode cL_law 1621 = .ok (.if_icmp .eq 5, 3) := by decide +kernel
theorem dL_law_1624 : decode cL_law 1624 = .ok (.iconst 0, 1) := by decide +kernel
theorem dL_law_1625 : decode cL_law 1625 = .ok (.ireturn, 1) := by decide +kernel
theorem dL_law_1626 : decode cL_law 1626 = .ok (.iload 5, 2) := by decide +kernel
theorem dL_law_1628 : decode cL_law 1628 = .ok (.ifCond .ne 15, 3) := by decide +kernel
theorem dL_law_1631 : decode cL_law 1631 = .ok (.aload_n 3, 1) := by decide +kernel
theorem dL_law_1632 : decode cL_law 1632 = .ok (.iconst 0, 1) := by decide +kernel
theorem dL_law_1633 : decode cL_law 1633 = .ok (.laload, 1) := by decide +kernel
theorem dL_law_1634 : decode cL_law 1634 = .ok (.iload 6, 2) := by decide +kernel
theorem dL_law_1636 : decode cL_law 1636 = .ok (.i2l, 1) := by decide +kernel
theorem dL_law_1637 : decode cL_law 1637 = .ok (.lcmp, 1) := by decide +kernel
theorem dL_law_1638 : decode cL_law 1638 = .ok (.ifCond .eq 5, 3) := by decide +kernel
theorem dL_law_1641 : decode cL_law 1641 = .ok (.iconst 0, 1) := by decide +kernel
theorem dL_law_1642 : decode cL_law 1642 = .ok (.ireturn, 1) := by decide +kernel
theorem dL_law_1643 : decode cL_law 1643 = .ok (.goto 59, 3) := by decide +kernel
theorem dL_law_1646 : decode cL_law 1646 = .ok (.aload_n 1, 1) := by decide +kernel
theorem dL_law_1647 : decode cL_law 1647 = .ok (.aload_n 0, 1) := by decide +kernel
theorem dL_law_1648 : decode cL_law 1648 = .ok (.iload 4, 2) := by decide +kernel
theorem dL_law_1650 : decode cL_law 1650 = .ok (.iconst 1, 1) := by decide +kernel
theorem dL_law_1651 : decode cL_law 1651 = .ok (.iadd, 1) := by decide +kernel
theorem dL_law_1652 : decode cL_law 1652 = .ok (.iaload, 1) := by decide +kernel
theorem dL_law_1653 : decode cL_law 1653 = .ok (.aload_n 3, 1) := by decide +kernel
theorem dL_law_1654 : decode cL_law 1654 = .ok (.invokestatic 183, 3) := by decide +kernel
theorem dL_law_1657 : decode cL_law 1657 = .ok (.istore 5, 2) := by decide +kernel
theorem dL_law_1659 : decode cL_law 1659 = .ok (.aload_n 2, 1) := by decide +kernel
theorem dL_law_1660 : decode cL_law 1660 = .ok (.aload_n 0, 1) := by decide +kernel
theorem dL_law_1661 : decode cL_law 1661 = .ok (.iload 4, 2) := by decide +kernel
theorem dL_law_1663 : decode cL_law 1663 = .ok (.iconst 1, 1) := by decide +kernel
theorem dL_law_1664 : decode cL_law 1664 = .ok (.iadd, 1) := by decide +kernel
theorem dL_law_1665 : decode cL_law 1665 = .ok (.iaload, 1) := by decide +kernel
theorem dL_law_1666 : decode cL_law 1666 = .ok (.invokevirtual 185, 3) := by decide +kernel
theorem dL_law_1669 : decode cL_law 1669 = .ok (.istore 6, 2) := by decide +kernel
theorem dL_law_1671 : decode cL_law 1671 = .ok (.aload_n 2, 1) := by decide +kernel
theorem dL_law_1672 : decode cL_law 1672 = .ok (.invokevirtual 101, 3) := by decide +kernel
theorem dL_law_1675 : decode cL_law 1675 = .ok (.iload 5, 2) := by decide +kernel
theorem dL_law_1677 : decode cL_law 1677 = .ok (.if_icmp .eq 5, 3) := by decide +kernel
theorem dL_law_1680 : decode cL_law 1680 = .ok (.iconst 0, 1) := by decide +kernel
theorem dL_law_1681 : decode cL_law 1681 = .ok (.ireturn, 1) := by decide +kernel
theorem dL_law_1682 : decode cL_law 1682 = .ok (.iload 5, 2) := by decide +kernel
theorem dL_law_1684 : decode cL_law 1684 = .ok (.ifCond .ne 15, 3) := by decide +kernel
theorem dL_law_1687 : decode cL_law 1687 = .ok (.aload_n 3, 1) := by decide +kernel
theorem dL_law_1688 : decode cL_law 1688 = .ok (.iconst 0, 1) := by decide +kernel
theorem dL_law_1689 : decode cL_law 1689 = .ok (.laload, 1) := by decide +kernel
theorem dL_law_1690 : decode cL_law 1690 = .ok (.iload 6, 2) := by decide +kernel
theorem dL_law_1692 : decode cL_law 1692 = .ok (.i2l, 1) := by decide +kernel
theorem dL_law_1693 : decode cL_law 1693 = .ok (.lcmp, 1) := by decide +kernel
theorem dL_law_1694 : decode cL_law 1694 = .ok (.ifCond .eq 5, 3) := by decide +kernel
theorem dL_law_1697 : decode cL_law 1697 = .ok (.iconst 0, 1) := by decide +kernel
theorem dL_law_1698 : decode cL_law 1698 = .ok (.ireturn, 1) := by decide +kernel
theorem dL_law_1699 : decode cL_law 1699 = .ok (.goto 3, 3) := by decide +kernel
theorem dL_law_1702 : decode cL_law 1702 = .ok (.iinc 4 6, 3) := by decide +kernel
theorem dL_law_1705 : decode cL_law 1705 = .ok (.goto (-1682), 3) := by decide +kernel
theorem dL_law_1708 : decode cL_law 1708 = .ok (.iconst 1, 1) := by decide +kernel
theorem dL_law_1709 : decode cL_law 1709 = .ok (.ireturn, 1) := by decide +kernel
abbrev vwCl : List vw_C := [(RJ4, TJ4, 4), (RX0, TX0, 10), (RX1, TX1, 11), (RX2, TX2, 2), (RX3, TX3, 5), (RX4, TX4, 7), (RX5, TX5, 19)]
