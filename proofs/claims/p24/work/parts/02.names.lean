/-! names, printed by program: classes, fields, methods; then the words of the tables by their places -/
def RX0 : String := "CapWallets$Rides"
def TX0 : u_T := fun k => match k with
  | 0 => ("CapWallets$Rides", "mates", "[I", true)
  | 1 => ("CapWallets$Rides", "fares", "[I", true)
  | 2 => ("CapWallets$Rides", "dayRides", "[I", true)
  | 3 => ("CapWallets$Rides", "dayAlone", "[I", true)
  | 4 => ("CapWallets$Rides", "dayFares", "[I", true)
  | 5 => ("CapWallets$Rides", "leaks", "[I", true)
  | 6 => ("CapWallets$Rides", "latest", "[I", true)
  | 7 => ("CapWallets$Rides", "dayCap", "I", false)
  | _ => ("CapWallets$Rides", "weekCap", "I", false)
def tyX0 : Nat → FieldType := fun k => match k with
  | 0 => .array .int
  | 1 => .array .int
  | 2 => .array .int
  | 3 => .array .int
  | 4 => .array .int
  | 5 => .array .int
  | 6 => .array .int
  | 7 => .int
  | _ => .int
theorem nmX0 : ∀ a, a < 9 → ∀ b, b < 9 → a ≠ b → (TX0 a).2.1 ≠ (TX0 b).2.1 := by decide +kernel
theorem tyX0_ok : ∀ k, k < 9 → parseFieldDescriptor (TX0 k).2.2.1 = some (tyX0 k) := by decide +kernel
abbrev cX0_init : ByteArray := prog_2_method_1_code
def yX0_init : MethodName := ⟨RX0, "<init>", "()V"⟩
abbrev cX0_readFrom : ByteArray := prog_2_method_2_code
def yX0_readFrom : MethodName := ⟨RX0, "readFrom", "(LCapWallets$TapRow;[I)V"⟩
abbrev cX0_findMates : ByteArray := prog_2_method_3_code
def yX0_findMates : MethodName := ⟨RX0, "findMates", "(LCapWallets$TapRow;I)V"⟩
abbrev cX0_isRide : ByteArray := prog_2_method_4_code
def yX0_isRide : MethodName := ⟨RX0, "isRide", "(III)Z"⟩
abbrev cX0_findFares : ByteArray := prog_2_method_5_code
def yX0_findFares : MethodName := ⟨RX0, "findFares", "(LCapWallets$TapRow;[I)V"⟩
abbrev cX0_addUp : ByteArray := prog_2_method_6_code
def yX0_addUp : MethodName := ⟨RX0, "addUp", "(LCapWallets$TapRow;)V"⟩
abbrev cX0_dayCost : ByteArray := prog_2_method_7_code
def yX0_dayCost : MethodName := ⟨RX0, "dayCost", "(II)I"⟩
abbrev cX0_weekDaysCost : ByteArray := prog_2_method_8_code
def yX0_weekDaysCost : MethodName := ⟨RX0, "weekDaysCost", "(II)I"⟩
abbrev cX0_weekCost : ByteArray := prog_2_method_9_code
def yX0_weekCost : MethodName := ⟨RX0, "weekCost", "(II)I"⟩
abbrev cX0_weekSum : ByteArray := prog_2_method_10_code
def yX0_weekSum : MethodName := ⟨RX0, "weekSum", "([III)I"⟩
def RX1 : String := "CapWallets$Rows"
def TX1 : u_T := fun k => match k with
  | _ => ("", "", "", false)
def tyX1 : Nat → FieldType := fun k => match k with
  | _ => .int
theorem nmX1 : ∀ a, a < 0 → ∀ b, b < 0 → a ≠ b → (TX1 a).2.1 ≠ (TX1 b).2.1 := by decide +kernel
theorem tyX1_ok : ∀ k, k < 0 → parseFieldDescriptor (TX1 k).2.2.1 = some (tyX1 k) := by decide +kernel
abbrev cX1_at : ByteArray := prog_3_method_2_code
def yX1_at : MethodName := ⟨RX1, "at", "([II)I"⟩
abbrev cX1_put : ByteArray := prog_3_method_3_code
def yX1_put : MethodName := ⟨RX1, "put", "([III)V"⟩
abbrev cX1_raise : ByteArray := prog_3_method_4_code
def yX1_raise : MethodName := ⟨RX1, "raise", "([III)V"⟩
abbrev cX1_fill : ByteArray := prog_3_method_5_code
def yX1_fill : MethodName := ⟨RX1, "fill", "([II)V"⟩
abbrev cX1_copy : ByteArray := prog_3_method_6_code
def yX1_copy : MethodName := ⟨RX1, "copy", "([I[I)V"⟩
abbrev cX1_sum : ByteArray := prog_3_method_7_code
def yX1_sum : MethodName := ⟨RX1, "sum", "([I)I"⟩
def RX2 : String := "CapWallets$Saves"
def TX2 : u_T := fun k => match k with
  | 0 => ("CapWallets$Saves", "ring", "[LCapWallets$State;", true)
  | 1 => ("CapWallets$Saves", "next", "I", false)
  | _ => ("CapWallets$Saves", "size", "I", false)
def tyX2 : Nat → FieldType := fun k => match k with
  | 0 => .array (.object "CapWallets$State")
  | 1 => .int
  | _ => .int
theorem nmX2 : ∀ a, a < 3 → ∀ b, b < 3 → a ≠ b → (TX2 a).2.1 ≠ (TX2 b).2.1 := by decide +kernel
theorem tyX2_ok : ∀ k, k < 3 → parseFieldDescriptor (TX2 k).2.2.1 = some (tyX2 k) := by decide +kernel
abbrev cX2_init : ByteArray := prog_4_method_1_code
def yX2_init : MethodName := ⟨RX2, "<init>", "()V"⟩
abbrev cX2_slot : ByteArray := prog_4_method_2_code
def yX2_slot : MethodName := ⟨RX2, "slot", "(I)LCapWallets$State;"⟩
abbrev cX2_push : ByteArray := prog_4_method_3_code
def yX2_push : MethodName := ⟨RX2, "push", "(LCapWallets$State;)V"⟩
abbrev cX2_popInto : ByteArray := prog_4_method_4_code
def yX2_popInto : MethodName := ⟨RX2, "popInto", "(LCapWallets$State;)V"⟩
def RX3 : String := "CapWallets$State"
def TX3 : u_T := fun k => match k with
  | 0 => ("CapWallets$State", "taps", "LCapWallets$TapRow;", true)
  | 1 => ("CapWallets$State", "settings", "[I", true)
  | 2 => ("CapWallets$State", "charged", "[I", true)
  | 3 => ("CapWallets$State", "claims", "[I", true)
  | 4 => ("CapWallets$State", "settlings", "[I", true)
  | 5 => ("CapWallets$State", "ledgerWeeks", "[I", true)
  | 6 => ("CapWallets$State", "ledgerSums", "[I", true)
  | 7 => ("CapWallets$State", "refunds", "I", false)
  | 8 => ("CapWallets$State", "refunded", "I", false)
  | _ => ("CapWallets$State", "refusals", "I", false)
def tyX3 : Nat → FieldType := fun k => match k with
  | 0 => .object "CapWallets$TapRow"
  | 1 => .array .int
  | 2 => .array .int
  | 3 => .array .int
  | 4 => .array .int
  | 5 => .array .int
  | 6 => .array .int
  | 7 => .int
  | 8 => .int
  | _ => .int
theorem nmX3 : ∀ a, a < 10 → ∀ b, b < 10 → a ≠ b → (TX3 a).2.1 ≠ (TX3 b).2.1 := by decide +kernel
theorem tyX3_ok : ∀ k, k < 10 → parseFieldDescriptor (TX3 k).2.2.1 = some (tyX3 k) := by decide +kernel
abbrev cX3_init : ByteArray := prog_5_method_1_code
def yX3_init : MethodName := ⟨RX3, "<init>", "()V"⟩
abbrev cX3_copyFrom : ByteArray := prog_5_method_2_code
def yX3_copyFrom : MethodName := ⟨RX3, "copyFrom", "(LCapWallets$State;)V"⟩
abbrev cX3_charge : ByteArray := prog_5_method_3_code
def yX3_charge : MethodName := ⟨RX3, "charge", "(III)I"⟩
abbrev cX3_enter : ByteArray := prog_5_method_4_code
def yX3_enter : MethodName := ⟨RX3, "enter", "([III)V"⟩
abbrev cX3_ledgerNumber : ByteArray := prog_5_method_5_code
def yX3_ledgerNumber : MethodName := ⟨RX3, "ledgerNumber", "(III)I"⟩
def RX4 : String := "CapWallets$Tap"
def TX4 : u_T := fun k => match k with
  | _ => ("", "", "", false)
def tyX4 : Nat → FieldType := fun k => match k with
  | _ => .int
theorem nmX4 : ∀ a, a < 0 → ∀ b, b < 0 → a ≠ b → (TX4 a).2.1 ≠ (TX4 b).2.1 := by decide +kernel
theorem tyX4_ok : ∀ k, k < 0 → parseFieldDescriptor (TX4 k).2.2.1 = some (tyX4 k) := by decide +kernel
abbrev cX4_make : ByteArray := prog_6_method_2_code
def yX4_make : MethodName := ⟨RX4, "make", "(IIIIZ)I"⟩
abbrev cX4_missingOf : ByteArray := prog_6_method_3_code
def yX4_missingOf : MethodName := ⟨RX4, "missingOf", "(III)I"⟩
abbrev cX4_timeOf : ByteArray := prog_6_method_4_code
def yX4_timeOf : MethodName := ⟨RX4, "timeOf", "(I)I"⟩
abbrev cX4_dayOf : ByteArray := prog_6_method_5_code
def yX4_dayOf : MethodName := ⟨RX4, "dayOf", "(I)I"⟩
abbrev cX4_weekOf : ByteArray := prog_6_method_6_code
def yX4_weekOf : MethodName := ⟨RX4, "weekOf", "(I)I"⟩
abbrev cX4_minuteOf : ByteArray := prog_6_method_7_code
def yX4_minuteOf : MethodName := ⟨RX4, "minuteOf", "(I)I"⟩
abbrev cX4_walletOf : ByteArray := prog_6_method_8_code
def yX4_walletOf : MethodName := ⟨RX4, "walletOf", "(I)I"⟩
abbrev cX4_stationOf : ByteArray := prog_6_method_9_code
def yX4_stationOf : MethodName := ⟨RX4, "stationOf", "(I)I"⟩
abbrev cX4_zoneOf : ByteArray := prog_6_method_10_code
def yX4_zoneOf : MethodName := ⟨RX4, "zoneOf", "(I)I"⟩
abbrev cX4_isIn : ByteArray := prog_6_method_11_code
def yX4_isIn : MethodName := ⟨RX4, "isIn", "(I)Z"⟩
abbrev cX4_isClaimed : ByteArray := prog_6_method_12_code
def yX4_isClaimed : MethodName := ⟨RX4, "isClaimed", "(I)Z"⟩
def RX5 : String := "CapWallets$TapRow"
def TX5 : u_T := fun k => match k with
  | 0 => ("CapWallets$TapRow", "taps", "[I", true)
  | _ => ("CapWallets$TapRow", "size", "I", false)
def tyX5 : Nat → FieldType := fun k => match k with
  | 0 => .array .int
  | _ => .int
theorem nmX5 : ∀ a, a < 2 → ∀ b, b < 2 → a ≠ b → (TX5 a).2.1 ≠ (TX5 b).2.1 := by decide +kernel
theorem tyX5_ok : ∀ k, k < 2 → parseFieldDescriptor (TX5 k).2.2.1 = some (tyX5 k) := by decide +kernel
abbrev cX5_init : ByteArray := prog_7_method_1_code
def yX5_init : MethodName := ⟨RX5, "<init>", "()V"⟩
abbrev cX5_tapAt : ByteArray := prog_7_method_2_code
def yX5_tapAt : MethodName := ⟨RX5, "tapAt", "(I)I"⟩
abbrev cX5_insert : ByteArray := prog_7_method_3_code
def yX5_insert : MethodName := ⟨RX5, "insert", "(I)I"⟩
abbrev cX5_takeAway : ByteArray := prog_7_method_4_code
def yX5_takeAway : MethodName := ⟨RX5, "takeAway", "(I)V"⟩
abbrev cX5_copyFrom : ByteArray := prog_7_method_5_code
def yX5_copyFrom : MethodName := ⟨RX5, "copyFrom", "(LCapWallets$TapRow;)V"⟩
def RX6 : String := "CapWallets$TextReader"
def TX6 : u_T := fun k => match k with
  | 0 => ("CapWallets$TextReader", "taps", "[I", true)
  | 1 => ("CapWallets$TextReader", "tapCount", "I", false)
  | 2 => ("CapWallets$TextReader", "stage", "I", false)
  | 3 => ("CapWallets$TextReader", "number", "I", false)
  | 4 => ("CapWallets$TextReader", "wallet", "I", false)
  | 5 => ("CapWallets$TextReader", "day", "I", false)
  | 6 => ("CapWallets$TextReader", "minute", "I", false)
  | _ => ("CapWallets$TextReader", "in", "Z", false)
def tyX6 : Nat → FieldType := fun k => match k with
  | 0 => .array .int
  | 1 => .int
  | 2 => .int
  | 3 => .int
  | 4 => .int
  | 5 => .int
  | 6 => .int
  | _ => .boolean
theorem nmX6 : ∀ a, a < 8 → ∀ b, b < 8 → a ≠ b → (TX6 a).2.1 ≠ (TX6 b).2.1 := by decide +kernel
theorem tyX6_ok : ∀ k, k < 8 → parseFieldDescriptor (TX6 k).2.2.1 = some (tyX6 k) := by decide +kernel
abbrev cX6_init : ByteArray := prog_8_method_1_code
def yX6_init : MethodName := ⟨RX6, "<init>", "()V"⟩
def RX7 : String := "CapWallets"
def TX7 : u_T := fun k => match k with
  | 0 => ("CapWallets", "state", "LCapWallets$State;", true)
  | 1 => ("CapWallets", "rides", "LCapWallets$Rides;", true)
  | 2 => ("CapWallets", "saves", "LCapWallets$Saves;", true)
  | 3 => ("CapWallets", "triedTaps", "LCapWallets$TapRow;", true)
  | 4 => ("CapWallets", "triedRides", "LCapWallets$Rides;", true)
  | 5 => ("CapWallets", "buffer", "[I", true)
  | 6 => ("CapWallets", "bufferLength", "I", false)
  | _ => ("CapWallets", "reader", "LCapWallets$TextReader;", true)
def tyX7 : Nat → FieldType := fun k => match k with
  | 0 => .object "CapWallets$State"
  | 1 => .object "CapWallets$Rides"
  | 2 => .object "CapWallets$Saves"
  | 3 => .object "CapWallets$TapRow"
  | 4 => .object "CapWallets$Rides"
  | 5 => .array .int
  | 6 => .int
  | _ => .object "CapWallets$TextReader"
theorem nmX7 : ∀ a, a < 8 → ∀ b, b < 8 → a ≠ b → (TX7 a).2.1 ≠ (TX7 b).2.1 := by decide +kernel
theorem tyX7_ok : ∀ k, k < 8 → parseFieldDescriptor (TX7 k).2.2.1 = some (tyX7 k) := by decide +kernel
abbrev cX7_init : ByteArray := prog_1_method_1_code
def yX7_init : MethodName := ⟨RX7, "<init>", "()V"⟩
abbrev cX7_tap : ByteArray := prog_1_method_2_code
def yX7_tap : MethodName := ⟨RX7, "tap", "(IIIIZ)I"⟩
abbrev cX7_remove : ByteArray := prog_1_method_3_code
def yX7_remove : MethodName := ⟨RX7, "remove", "(I)I"⟩
abbrev cX7_claim : ByteArray := prog_1_method_4_code
def yX7_claim : MethodName := ⟨RX7, "claim", "(III)I"⟩
abbrev cX7_settle : ByteArray := prog_1_method_5_code
def yX7_settle : MethodName := ⟨RX7, "settle", "(I)I"⟩
abbrev cX7_set : ByteArray := prog_1_method_6_code
def yX7_set : MethodName := ⟨RX7, "set", "(II)I"⟩
abbrev cX7_undo : ByteArray := prog_1_method_11_code
def yX7_undo : MethodName := ⟨RX7, "undo", "()I"⟩
abbrev cX7_tapOf : ByteArray := prog_1_method_12_code
def yX7_tapOf : MethodName := ⟨RX7, "tapOf", "(II)I"⟩
abbrev cX7_day : ByteArray := prog_1_method_13_code
def yX7_day : MethodName := ⟨RX7, "day", "(III)I"⟩
abbrev cX7_week : ByteArray := prog_1_method_14_code
def yX7_week : MethodName := ⟨RX7, "week", "(III)I"⟩
abbrev cX7_count : ByteArray := prog_1_method_15_code
def yX7_count : MethodName := ⟨RX7, "count", "(I)I"⟩
abbrev cX7_ledger : ByteArray := prog_1_method_16_code
def yX7_ledger : MethodName := ⟨RX7, "ledger", "(III)I"⟩
abbrev cX7_leaky : ByteArray := prog_1_method_19_code
def yX7_leaky : MethodName := ⟨RX7, "leaky", "()I"⟩
abbrev cX7_capShare : ByteArray := prog_1_method_21_code
def yX7_capShare : MethodName := ⟨RX7, "capShare", "()D"⟩
abbrev cX7_isBelow : ByteArray := prog_1_method_23_code
def yX7_isBelow : MethodName := ⟨RX7, "isBelow", "(II)Z"⟩
abbrev cX7_isWalletDay : ByteArray := prog_1_method_24_code
def yX7_isWalletDay : MethodName := ⟨RX7, "isWalletDay", "(II)Z"⟩
abbrev cX7_isMinuteStation : ByteArray := prog_1_method_25_code
def yX7_isMinuteStation : MethodName := ⟨RX7, "isMinuteStation", "(II)Z"⟩
abbrev cX7_isPlace : ByteArray := prog_1_method_26_code
def yX7_isPlace : MethodName := ⟨RX7, "isPlace", "(I)Z"⟩
abbrev cX7_readRides : ByteArray := prog_1_method_27_code
def yX7_readRides : MethodName := ⟨RX7, "readRides", "()V"⟩
abbrev cX7_refusal : ByteArray := prog_1_method_28_code
def yX7_refusal : MethodName := ⟨RX7, "refusal", "(III)I"⟩
abbrev cX7_wouldRideWith : ByteArray := prog_1_method_29_code
def yX7_wouldRideWith : MethodName := ⟨RX7, "wouldRideWith", "(II)Z"⟩
abbrev cX7_fillIn : ByteArray := prog_1_method_30_code
def yX7_fillIn : MethodName := ⟨RX7, "fillIn", "(III)V"⟩
abbrev cX7_tryTap : ByteArray := prog_1_method_31_code
def yX7_tryTap : MethodName := ⟨RX7, "tryTap", "(I)I"⟩
abbrev cX7_weekCell : ByteArray := prog_1_method_33_code
def yX7_weekCell : MethodName := ⟨RX7, "weekCell", "(II)I"⟩
abbrev cX7_dayCell : ByteArray := prog_1_method_34_code
def yX7_dayCell : MethodName := ⟨RX7, "dayCell", "(II)I"⟩
abbrev cX7_tapProperty : ByteArray := prog_1_method_35_code
def yX7_tapProperty : MethodName := ⟨RX7, "tapProperty", "(II)I"⟩
abbrev cX7_dayNumber : ByteArray := prog_1_method_36_code
def yX7_dayNumber : MethodName := ⟨RX7, "dayNumber", "(III)I"⟩
abbrev cX7_weekNumber : ByteArray := prog_1_method_37_code
def yX7_weekNumber : MethodName := ⟨RX7, "weekNumber", "(III)I"⟩
abbrev cX7_countNumber : ByteArray := prog_1_method_38_code
def yX7_countNumber : MethodName := ⟨RX7, "countNumber", "(I)I"⟩
abbrev cX7_costOfAll : ByteArray := prog_1_method_39_code
def yX7_costOfAll : MethodName := ⟨RX7, "costOfAll", "()I"⟩
abbrev cX7_weeksToSettleAnew : ByteArray := prog_1_method_40_code
def yX7_weeksToSettleAnew : MethodName := ⟨RX7, "weeksToSettleAnew", "()I"⟩
def RX8 : String := "CapWalletsModel"
def TX8 : u_T := fun k => match k with
  | _ => ("", "", "", false)
def tyX8 : Nat → FieldType := fun k => match k with
  | _ => .int
theorem nmX8 : ∀ a, a < 0 → ∀ b, b < 0 → a ≠ b → (TX8 a).2.1 ≠ (TX8 b).2.1 := by decide +kernel
theorem tyX8_ok : ∀ k, k < 0 → parseFieldDescriptor (TX8 k).2.2.1 = some (tyX8 k) := by decide +kernel
def RJ9 : String := "java/lang/Math"
def TJ9 : u_T := fun k => match k with
  | _ => ("", "", "", false)
def tyJ9 : Nat → FieldType := fun k => match k with
  | _ => .int
theorem nmJ9 : ∀ a, a < 0 → ∀ b, b < 0 → a ≠ b → (TJ9 a).2.1 ≠ (TJ9 b).2.1 := by decide +kernel
theorem tyJ9_ok : ∀ k, k < 0 → parseFieldDescriptor (TJ9 k).2.2.1 = some (tyJ9 k) := by decide +kernel
abbrev cJ9_abs_0f7a4 : ByteArray := prog_15_method_59_code
def yJ9_abs_0f7a4 : MethodName := ⟨RJ9, "abs", "(I)I"⟩
abbrev cJ9_min_7cf53 : ByteArray := prog_15_method_69_code
def yJ9_min_7cf53 : MethodName := ⟨RJ9, "min", "(II)I"⟩
def RJ0 : String := "java/lang/String"
def TJ0 : u_T := fun k => match k with
  | _ => ("", "", "", false)
def tyJ0 : Nat → FieldType := fun k => match k with
  | _ => .int
theorem nmJ0 : ∀ a, a < 0 → ∀ b, b < 0 → a ≠ b → (TJ0 a).2.1 ≠ (TJ0 b).2.1 := by decide +kernel
theorem tyJ0_ok : ∀ k, k < 0 → parseFieldDescriptor (TJ0 k).2.2.1 = some (tyJ0 k) := by decide +kernel
def RL : String := "CapWalletsLaw"
abbrev cL_cell : ByteArray := method_2_code
def yL_cell : MethodName := ⟨RL, "cell", "([II)I"⟩
abbrev cL_low : ByteArray := method_3_code
def yL_low : MethodName := ⟨RL, "low", "(II)I"⟩
abbrev cL_told : ByteArray := method_4_code
def yL_told : MethodName := ⟨RL, "told", "(LCapWallets;)J"⟩
abbrev cL_act : ByteArray := method_5_code
def yL_act : MethodName := ⟨RL, "act", "(LCapWallets;II)I"⟩
abbrev cL_now : ByteArray := method_6_code
def yL_now : MethodName := ⟨RL, "now", "(LCapWallets;I)I"⟩
abbrev cL_holds : ByteArray := method_7_code
def yL_holds : MethodName := ⟨RL, "holds", "(LCapWallets;)Z"⟩
abbrev cL_law : ByteArray := code
def yL_law : MethodName := ⟨RL, "law", "([I)Z"⟩
abbrev vwCl : List vw_C := [(RX0, TX0, 9), (RX2, TX2, 3), (RX3, TX3, 10), (RX5, TX5, 2), (RX6, TX6, 8), (RX7, TX7, 8)]
def wT : List Cond := lw_tbl.filter goodWord
theorem w_in {w : Cond} (h : w ∈ lw_tbl) (g : goodWord w = true) : w ∈ wT := List.mem_filter.mpr ⟨h, g⟩
theorem w_tab {w : Cond} (h : w ∈ tables_1) (g : goodWord w = true) : w ∈ wT := w_in (List.mem_append_right _ h) g
theorem w_sel {y : MethodName} {n : Nat} (h : (y, n) ∈ lw_privs) : Cond.selects y.cls y y ∈ wT := w_in (List.mem_append_left _ (List.mem_map.mpr ⟨(y, n), h, rfl⟩)) rfl
theorem w_good : ∀ w ∈ wT, w ∈ lw_tbl ∧ ((w.onTables && w.keeps) = true ∨ ∃ ty, w = .arrayClass ty) := fun w h => ⟨(List.mem_filter.mp h).1, good_of_word (List.mem_filter.mp h).2⟩
/-- a method's words: its own code first, then all words of the tables -/
def m_ws (y : MethodName) (cc : ByteArray) (n : Nat) (ret : Option FieldType) : List Cond := Cond.code y cc n ret :: wT
theorem wp_0_0 : Cond.selects "CapWallets$Rides" (⟨"CapWallets$Rides", "findMates", "(LCapWallets$TapRow;I)V"⟩ : MethodName) (⟨"CapWallets$Rides", "findMates", "(LCapWallets$TapRow;I)V"⟩ : MethodName) ∈ wT := w_sel (List.mem_append_left _ (List.mem_of_getElem? (i := 0) rfl))
theorem wp_0_1 : Cond.selects "CapWallets$Rides" (⟨"CapWallets$Rides", "findFares", "(LCapWallets$TapRow;[I)V"⟩ : MethodName) (⟨"CapWallets$Rides", "findFares", "(LCapWallets$TapRow;[I)V"⟩ : MethodName) ∈ wT := w_sel (List.mem_append_left _ (List.mem_of_getElem? (i := 1) rfl))
theorem wp_0_10 : Cond.selects "CapWallets" (⟨"CapWallets", "tapProperty", "(II)I"⟩ : MethodName) (⟨"CapWallets", "tapProperty", "(II)I"⟩ : MethodName) ∈ wT := w_sel (List.mem_append_left _ (List.mem_of_getElem? (i := 10) rfl))
theorem wp_0_11 : Cond.selects "CapWallets" (⟨"CapWallets", "weekNumber", "(III)I"⟩ : MethodName) (⟨"CapWallets", "weekNumber", "(III)I"⟩ : MethodName) ∈ wT := w_sel (List.mem_append_left _ (List.mem_of_getElem? (i := 11) rfl))
theorem wp_0_12 : Cond.selects "CapWallets" (⟨"CapWallets", "refusal", "(III)I"⟩ : MethodName) (⟨"CapWallets", "refusal", "(III)I"⟩ : MethodName) ∈ wT := w_sel (List.mem_append_left _ (List.mem_of_getElem? (i := 12) rfl))
theorem wp_0_13 : Cond.selects "CapWallets" (⟨"CapWallets", "wouldRideWith", "(II)Z"⟩ : MethodName) (⟨"CapWallets", "wouldRideWith", "(II)Z"⟩ : MethodName) ∈ wT := w_sel (List.mem_append_left _ (List.mem_of_getElem? (i := 13) rfl))
theorem wp_0_14 : Cond.selects "CapWallets" (⟨"CapWallets", "tryTap", "(I)I"⟩ : MethodName) (⟨"CapWallets", "tryTap", "(I)I"⟩ : MethodName) ∈ wT := w_sel (List.mem_append_left _ (List.mem_of_getElem? (i := 14) rfl))
theorem wp_0_15 : Cond.selects "CapWallets" (⟨"CapWallets", "fillIn", "(III)V"⟩ : MethodName) (⟨"CapWallets", "fillIn", "(III)V"⟩ : MethodName) ∈ wT := w_sel (List.mem_append_left _ (List.mem_of_getElem? (i := 15) rfl))
theorem wp_0_2 : Cond.selects "CapWallets$Rides" (⟨"CapWallets$Rides", "addUp", "(LCapWallets$TapRow;)V"⟩ : MethodName) (⟨"CapWallets$Rides", "addUp", "(LCapWallets$TapRow;)V"⟩ : MethodName) ∈ wT := w_sel (List.mem_append_left _ (List.mem_of_getElem? (i := 2) rfl))
theorem wp_0_4 : Cond.selects "CapWallets$Saves" (⟨"CapWallets$Saves", "slot", "(I)LCapWallets$State;"⟩ : MethodName) (⟨"CapWallets$Saves", "slot", "(I)LCapWallets$State;"⟩ : MethodName) ∈ wT := w_sel (List.mem_append_left _ (List.mem_of_getElem? (i := 4) rfl))
theorem wp_0_5 : Cond.selects "CapWallets" (⟨"CapWallets", "readRides", "()V"⟩ : MethodName) (⟨"CapWallets", "readRides", "()V"⟩ : MethodName) ∈ wT := w_sel (List.mem_append_left _ (List.mem_of_getElem? (i := 5) rfl))
theorem wp_0_6 : Cond.selects "CapWallets" (⟨"CapWallets", "countNumber", "(I)I"⟩ : MethodName) (⟨"CapWallets", "countNumber", "(I)I"⟩ : MethodName) ∈ wT := w_sel (List.mem_append_left _ (List.mem_of_getElem? (i := 6) rfl))
theorem wp_0_7 : Cond.selects "CapWallets" (⟨"CapWallets", "costOfAll", "()I"⟩ : MethodName) (⟨"CapWallets", "costOfAll", "()I"⟩ : MethodName) ∈ wT := w_sel (List.mem_append_left _ (List.mem_of_getElem? (i := 7) rfl))
theorem wp_0_8 : Cond.selects "CapWallets" (⟨"CapWallets", "weeksToSettleAnew", "()I"⟩ : MethodName) (⟨"CapWallets", "weeksToSettleAnew", "()I"⟩ : MethodName) ∈ wT := w_sel (List.mem_append_left _ (List.mem_of_getElem? (i := 8) rfl))
theorem wp_0_9 : Cond.selects "CapWallets" (⟨"CapWallets", "isPlace", "(I)Z"⟩ : MethodName) (⟨"CapWallets", "isPlace", "(I)Z"⟩ : MethodName) ∈ wT := w_sel (List.mem_append_left _ (List.mem_of_getElem? (i := 9) rfl))
theorem wp_1_0 : Cond.selects "CapWallets" (⟨"CapWallets", "dayNumber", "(III)I"⟩ : MethodName) (⟨"CapWallets", "dayNumber", "(III)I"⟩ : MethodName) ∈ wT := w_sel (List.mem_append_right _ (List.mem_of_getElem? (i := 0) rfl))
theorem wm_0_0 : (Jvm.Cond.initialized "CapWalletsLaw") ∈ wT := w_tab (List.mem_append_left _ (List.mem_of_getElem? (i := 0) rfl)) rfl
theorem wm_0_1 : (Jvm.Cond.initialized "CapWallets") ∈ wT := w_tab (List.mem_append_left _ (List.mem_of_getElem? (i := 1) rfl)) rfl
theorem wm_0_10 : (Jvm.Cond.initialized "java/lang/Throwable") ∈ wT := w_tab (List.mem_append_left _ (List.mem_of_getElem? (i := 10) rfl)) rfl
theorem wm_0_101 : (Jvm.Cond.fieldLink "CapWallets$Rides" (15 : Nat) "CapWallets$Rides" "fares" "[I") ∈ wT := w_tab (List.mem_append_left _ (List.mem_of_getElem? (i := 101) rfl)) rfl
theorem wm_0_103 : (Jvm.Cond.fieldLink "CapWallets$Rides" (18 : Nat) "CapWallets$Rides" "dayRides" "[I") ∈ wT := w_tab (List.mem_append_left _ (List.mem_of_getElem? (i := 103) rfl)) rfl
theorem wm_0_105 : (Jvm.Cond.fieldLink "CapWallets$Rides" (21 : Nat) "CapWallets$Rides" "dayAlone" "[I") ∈ wT := w_tab (List.mem_append_left _ (List.mem_of_getElem? (i := 105) rfl)) rfl
theorem wm_0_107 : (Jvm.Cond.fieldLink "CapWallets$Rides" (24 : Nat) "CapWallets$Rides" "dayFares" "[I") ∈ wT := w_tab (List.mem_append_left _ (List.mem_of_getElem? (i := 107) rfl)) rfl
theorem wm_0_109 : (Jvm.Cond.fieldLink "CapWallets$Rides" (27 : Nat) "CapWallets$Rides" "leaks" "[I") ∈ wT := w_tab (List.mem_append_left _ (List.mem_of_getElem? (i := 109) rfl)) rfl
theorem wm_0_11 : (Jvm.Cond.initialized "java/lang/Exception") ∈ wT := w_tab (List.mem_append_left _ (List.mem_of_getElem? (i := 11) rfl)) rfl
theorem wm_0_111 : (Jvm.Cond.fieldLink "CapWallets$Rides" (30 : Nat) "CapWallets$Rides" "latest" "[I") ∈ wT := w_tab (List.mem_append_left _ (List.mem_of_getElem? (i := 111) rfl)) rfl
theorem wm_0_112 : (Jvm.Cond.fieldLink "CapWallets$Rides" (33 : Nat) "CapWallets$Rides" "dayCap" "I") ∈ wT := w_tab (List.mem_append_left _ (List.mem_of_getElem? (i := 112) rfl)) rfl
theorem wm_0_113 : (Jvm.Cond.fieldLink "CapWallets$Rides" (37 : Nat) "CapWallets$Rides" "weekCap" "I") ∈ wT := w_tab (List.mem_append_left _ (List.mem_of_getElem? (i := 113) rfl)) rfl
theorem wm_0_114 : (Jvm.Cond.laysFinal "CapWallets$Rides" "CapWallets$Rides" "mates" "[I") ∈ wT := w_tab (List.mem_append_left _ (List.mem_of_getElem? (i := 114) rfl)) rfl
theorem wm_0_116 : (Jvm.Cond.laysFinal "CapWallets$Rides" "CapWallets$Rides" "fares" "[I") ∈ wT := w_tab (List.mem_append_left _ (List.mem_of_getElem? (i := 116) rfl)) rfl
theorem wm_0_118 : (Jvm.Cond.laysFinal "CapWallets$Rides" "CapWallets$Rides" "dayRides" "[I") ∈ wT := w_tab (List.mem_append_left _ (List.mem_of_getElem? (i := 118) rfl)) rfl
theorem wm_0_12 : (Jvm.Cond.initialized "java/lang/RuntimeException") ∈ wT := w_tab (List.mem_append_left _ (List.mem_of_getElem? (i := 12) rfl)) rfl
theorem wm_0_120 : (Jvm.Cond.laysFinal "CapWallets$Rides" "CapWallets$Rides" "dayAlone" "[I") ∈ wT := w_tab (List.mem_append_left _ (List.mem_of_getElem? (i := 120) rfl)) rfl
theorem wm_0_122 : (Jvm.Cond.laysFinal "CapWallets$Rides" "CapWallets$Rides" "dayFares" "[I") ∈ wT := w_tab (List.mem_append_left _ (List.mem_of_getElem? (i := 122) rfl)) rfl
theorem wm_0_124 : (Jvm.Cond.laysFinal "CapWallets$Rides" "CapWallets$Rides" "leaks" "[I") ∈ wT := w_tab (List.mem_append_left _ (List.mem_of_getElem? (i := 124) rfl)) rfl
theorem wm_0_126 : (Jvm.Cond.laysFinal "CapWallets$Rides" "CapWallets$Rides" "latest" "[I") ∈ wT := w_tab (List.mem_append_left _ (List.mem_of_getElem? (i := 126) rfl)) rfl
theorem wm_0_128 : (Jvm.Cond.lays "CapWallets$Rides" "CapWallets$Rides" "dayCap" "I") ∈ wT := w_tab (List.mem_append_left _ (List.mem_of_getElem? (i := 128) rfl)) rfl
theorem wm_0_13 : (Jvm.Cond.initialized "java/lang/IllegalArgumentException") ∈ wT := w_tab (List.mem_append_left _ (List.mem_of_getElem? (i := 13) rfl)) rfl
theorem wm_0_130 : (Jvm.Cond.lays "CapWallets$Rides" "CapWallets$Rides" "weekCap" "I") ∈ wT := w_tab (List.mem_append_left _ (List.mem_of_getElem? (i := 130) rfl)) rfl
theorem wm_0_133 : (Jvm.Cond.classLink "CapWallets" (23 : Nat) "CapWallets$Saves") ∈ wT := w_tab (List.mem_append_left _ (List.mem_of_getElem? (i := 133) rfl)) rfl
theorem wm_0_134 : (Jvm.Cond.instantiable "CapWallets$Saves" (3 : Nat)) ∈ wT := w_tab (List.mem_append_left _ (List.mem_of_getElem? (i := 134) rfl)) rfl
theorem wm_0_135 : (Jvm.Cond.methodLink "CapWallets" (25 : Nat) ({ cls := "CapWallets$Saves", name := "<init>", desc := "()V" } : Jvm.MethodName)) ∈ wT := w_tab (List.mem_append_left _ (List.mem_of_getElem? (i := 135) rfl)) rfl
theorem wm_0_136 : (Jvm.Cond.instanceMethod ({ cls := "CapWallets$Saves", name := "<init>", desc := "()V" } : Jvm.MethodName)) ∈ wT := w_tab (List.mem_append_left _ (List.mem_of_getElem? (i := 136) rfl)) rfl
theorem wm_0_137 : (Jvm.Cond.code ({ cls := "CapWallets$Saves", name := "<init>", desc := "()V" } : Jvm.MethodName) prog_4_method_1_code (2 : Nat) (Option.none : Option Jvm.ClassFile.FieldType)) ∈ wT := w_tab (List.mem_append_left _ (List.mem_of_getElem? (i := 137) rfl)) rfl
theorem wm_0_138 : (Jvm.Cond.methodLink "CapWallets$Saves" (3 : Nat) ({ cls := "java/lang/Object", name := "<init>", desc := "()V" } : Jvm.MethodName)) ∈ wT := w_tab (List.mem_append_left _ (List.mem_of_getElem? (i := 138) rfl)) rfl
theorem wm_0_139 : (Jvm.Cond.classLink "CapWallets$Saves" (9 : Nat) "CapWallets$State") ∈ wT := w_tab (List.mem_append_left _ (List.mem_of_getElem? (i := 139) rfl)) rfl
theorem wm_0_14 : (Jvm.Cond.initialized "java/lang/IllegalStateException") ∈ wT := w_tab (List.mem_append_left _ (List.mem_of_getElem? (i := 14) rfl)) rfl
theorem wm_0_141 : (Jvm.Cond.methodLink "CapWallets$Saves" (17 : Nat) ({ cls := "CapWallets$State", name := "<init>", desc := "()V" } : Jvm.MethodName)) ∈ wT := w_tab (List.mem_append_left _ (List.mem_of_getElem? (i := 141) rfl)) rfl
theorem wm_0_142 : (Jvm.Cond.fieldLink "CapWallets$Saves" (11 : Nat) "CapWallets$Saves" "ring" "[LCapWallets$State;") ∈ wT := w_tab (List.mem_append_left _ (List.mem_of_getElem? (i := 142) rfl)) rfl
theorem wm_0_143 : (Jvm.Cond.fieldLink "CapWallets$Saves" (18 : Nat) "CapWallets$Saves" "next" "I") ∈ wT := w_tab (List.mem_append_left _ (List.mem_of_getElem? (i := 143) rfl)) rfl
theorem wm_0_144 : (Jvm.Cond.fieldLink "CapWallets$Saves" (22 : Nat) "CapWallets$Saves" "size" "I") ∈ wT := w_tab (List.mem_append_left _ (List.mem_of_getElem? (i := 144) rfl)) rfl
theorem wm_0_146 : (Jvm.Cond.laysFinal "CapWallets$Saves" "CapWallets$Saves" "ring" "[LCapWallets$State;") ∈ wT := w_tab (List.mem_append_left _ (List.mem_of_getElem? (i := 146) rfl)) rfl
theorem wm_0_148 : (Jvm.Cond.lays "CapWallets$Saves" "CapWallets$Saves" "next" "I") ∈ wT := w_tab (List.mem_append_left _ (List.mem_of_getElem? (i := 148) rfl)) rfl
theorem wm_0_15 : (Jvm.Cond.initialized "java/lang/IndexOutOfBoundsException") ∈ wT := w_tab (List.mem_append_left _ (List.mem_of_getElem? (i := 15) rfl)) rfl
theorem wm_0_150 : (Jvm.Cond.lays "CapWallets$Saves" "CapWallets$Saves" "size" "I") ∈ wT := w_tab (List.mem_append_left _ (List.mem_of_getElem? (i := 150) rfl)) rfl
theorem wm_0_153 : (Jvm.Cond.classLink "CapWallets" (30 : Nat) "CapWallets$TapRow") ∈ wT := w_tab (List.mem_append_left _ (List.mem_of_getElem? (i := 153) rfl)) rfl
theorem wm_0_154 : (Jvm.Cond.methodLink "CapWallets" (32 : Nat) ({ cls := "CapWallets$TapRow", name := "<init>", desc := "()V" } : Jvm.MethodName)) ∈ wT := w_tab (List.mem_append_left _ (List.mem_of_getElem? (i := 154) rfl)) rfl
theorem wm_0_155 : (Jvm.Cond.classLink "CapWallets" (48 : Nat) "CapWallets$TextReader") ∈ wT := w_tab (List.mem_append_left _ (List.mem_of_getElem? (i := 155) rfl)) rfl
theorem wm_0_156 : (Jvm.Cond.instantiable "CapWallets$TextReader" (8 : Nat)) ∈ wT := w_tab (List.mem_append_left _ (List.mem_of_getElem? (i := 156) rfl)) rfl
theorem wm_0_157 : (Jvm.Cond.methodLink "CapWallets" (50 : Nat) ({ cls := "CapWallets$TextReader", name := "<init>", desc := "()V" } : Jvm.MethodName)) ∈ wT := w_tab (List.mem_append_left _ (List.mem_of_getElem? (i := 157) rfl)) rfl
theorem wm_0_158 : (Jvm.Cond.instanceMethod ({ cls := "CapWallets$TextReader", name := "<init>", desc := "()V" } : Jvm.MethodName)) ∈ wT := w_tab (List.mem_append_left _ (List.mem_of_getElem? (i := 158) rfl)) rfl
theorem wm_0_159 : (Jvm.Cond.code ({ cls := "CapWallets$TextReader", name := "<init>", desc := "()V" } : Jvm.MethodName) prog_8_method_1_code (1 : Nat) (Option.none : Option Jvm.ClassFile.FieldType)) ∈ wT := w_tab (List.mem_append_left _ (List.mem_of_getElem? (i := 159) rfl)) rfl
theorem wm_0_16 : (Jvm.Cond.classLink "CapWalletsLaw" (13 : Nat) "CapWallets") ∈ wT := w_tab (List.mem_append_left _ (List.mem_of_getElem? (i := 16) rfl)) rfl
theorem wm_0_160 : (Jvm.Cond.methodLink "CapWallets$TextReader" (3 : Nat) ({ cls := "java/lang/Object", name := "<init>", desc := "()V" } : Jvm.MethodName)) ∈ wT := w_tab (List.mem_append_left _ (List.mem_of_getElem? (i := 160) rfl)) rfl
theorem wm_0_161 : (Jvm.Cond.fieldLink "CapWallets$TextReader" (11 : Nat) "CapWallets$TextReader" "taps" "[I") ∈ wT := w_tab (List.mem_append_left _ (List.mem_of_getElem? (i := 161) rfl)) rfl
theorem wm_0_162 : (Jvm.Cond.fieldLink "CapWallets$TextReader" (15 : Nat) "CapWallets$TextReader" "tapCount" "I") ∈ wT := w_tab (List.mem_append_left _ (List.mem_of_getElem? (i := 162) rfl)) rfl
theorem wm_0_163 : (Jvm.Cond.fieldLink "CapWallets$TextReader" (19 : Nat) "CapWallets$TextReader" "stage" "I") ∈ wT := w_tab (List.mem_append_left _ (List.mem_of_getElem? (i := 163) rfl)) rfl
theorem wm_0_164 : (Jvm.Cond.fieldLink "CapWallets$TextReader" (22 : Nat) "CapWallets$TextReader" "number" "I") ∈ wT := w_tab (List.mem_append_left _ (List.mem_of_getElem? (i := 164) rfl)) rfl
theorem wm_0_165 : (Jvm.Cond.fieldLink "CapWallets$TextReader" (25 : Nat) "CapWallets$TextReader" "wallet" "I") ∈ wT := w_tab (List.mem_append_left _ (List.mem_of_getElem? (i := 165) rfl)) rfl
theorem wm_0_166 : (Jvm.Cond.fieldLink "CapWallets$TextReader" (28 : Nat) "CapWallets$TextReader" "day" "I") ∈ wT := w_tab (List.mem_append_left _ (List.mem_of_getElem? (i := 166) rfl)) rfl
theorem wm_0_167 : (Jvm.Cond.fieldLink "CapWallets$TextReader" (31 : Nat) "CapWallets$TextReader" "minute" "I") ∈ wT := w_tab (List.mem_append_left _ (List.mem_of_getElem? (i := 167) rfl)) rfl
theorem wm_0_168 : (Jvm.Cond.fieldLink "CapWallets$TextReader" (34 : Nat) "CapWallets$TextReader" "in" "Z") ∈ wT := w_tab (List.mem_append_left _ (List.mem_of_getElem? (i := 168) rfl)) rfl
theorem wm_0_169 : (Jvm.Cond.laysFinal "CapWallets$TextReader" "CapWallets$TextReader" "taps" "[I") ∈ wT := w_tab (List.mem_append_left _ (List.mem_of_getElem? (i := 169) rfl)) rfl
theorem wm_0_17 : (Jvm.Cond.instantiable "CapWallets" (8 : Nat)) ∈ wT := w_tab (List.mem_append_left _ (List.mem_of_getElem? (i := 17) rfl)) rfl
theorem wm_0_171 : (Jvm.Cond.lays "CapWallets$TextReader" "CapWallets$TextReader" "tapCount" "I") ∈ wT := w_tab (List.mem_append_left _ (List.mem_of_getElem? (i := 171) rfl)) rfl
theorem wm_0_173 : (Jvm.Cond.lays "CapWallets$TextReader" "CapWallets$TextReader" "stage" "I") ∈ wT := w_tab (List.mem_append_left _ (List.mem_of_getElem? (i := 173) rfl)) rfl
theorem wm_0_175 : (Jvm.Cond.lays "CapWallets$TextReader" "CapWallets$TextReader" "number" "I") ∈ wT := w_tab (List.mem_append_left _ (List.mem_of_getElem? (i := 175) rfl)) rfl
theorem wm_0_177 : (Jvm.Cond.lays "CapWallets$TextReader" "CapWallets$TextReader" "wallet" "I") ∈ wT := w_tab (List.mem_append_left _ (List.mem_of_getElem? (i := 177) rfl)) rfl
theorem wm_0_179 : (Jvm.Cond.lays "CapWallets$TextReader" "CapWallets$TextReader" "day" "I") ∈ wT := w_tab (List.mem_append_left _ (List.mem_of_getElem? (i := 179) rfl)) rfl
theorem wm_0_18 : (Jvm.Cond.methodLink "CapWalletsLaw" (68 : Nat) ({ cls := "CapWallets", name := "<init>", desc := "()V" } : Jvm.MethodName)) ∈ wT := w_tab (List.mem_append_left _ (List.mem_of_getElem? (i := 18) rfl)) rfl
theorem wm_0_181 : (Jvm.Cond.lays "CapWallets$TextReader" "CapWallets$TextReader" "minute" "I") ∈ wT := w_tab (List.mem_append_left _ (List.mem_of_getElem? (i := 181) rfl)) rfl
theorem wm_0_183 : (Jvm.Cond.lays "CapWallets$TextReader" "CapWallets$TextReader" "in" "Z") ∈ wT := w_tab (List.mem_append_left _ (List.mem_of_getElem? (i := 183) rfl)) rfl
theorem wm_0_186 : (Jvm.Cond.methodLink "CapWallets" (61 : Nat) ({ cls := "CapWallets$Rides", name := "readFrom", desc := "(LCapWallets$TapRow;[I)V" } : Jvm.MethodName)) ∈ wT := w_tab (List.mem_append_left _ (List.mem_of_getElem? (i := 186) rfl)) rfl
theorem wm_0_187 : (Jvm.Cond.instanceMethod ({ cls := "CapWallets$Rides", name := "readFrom", desc := "(LCapWallets$TapRow;[I)V" } : Jvm.MethodName)) ∈ wT := w_tab (List.mem_append_left _ (List.mem_of_getElem? (i := 187) rfl)) rfl
theorem wm_0_188 : (Jvm.Cond.selects "CapWallets$Rides" ({ cls := "CapWallets$Rides", name := "readFrom", desc := "(LCapWallets$TapRow;[I)V" } : Jvm.MethodName) ({ cls := "CapWallets$Rides", name := "readFrom", desc := "(LCapWallets$TapRow;[I)V" } : Jvm.MethodName)) ∈ wT := w_tab (List.mem_append_left _ (List.mem_of_getElem? (i := 188) rfl)) rfl
theorem wm_0_189 : (Jvm.Cond.code ({ cls := "CapWallets$Rides", name := "readFrom", desc := "(LCapWallets$TapRow;[I)V" } : Jvm.MethodName) prog_2_method_2_code (3 : Nat) (Option.none : Option Jvm.ClassFile.FieldType)) ∈ wT := w_tab (List.mem_append_left _ (List.mem_of_getElem? (i := 189) rfl)) rfl
theorem wm_0_19 : (Jvm.Cond.instanceMethod ({ cls := "CapWallets", name := "<init>", desc := "()V" } : Jvm.MethodName)) ∈ wT := w_tab (List.mem_append_left _ (List.mem_of_getElem? (i := 19) rfl)) rfl
theorem wm_0_190 : (Jvm.Cond.methodLink "CapWallets$Rides" (40 : Nat) ({ cls := "CapWallets$Rows", name := "at", desc := "([II)I" } : Jvm.MethodName)) ∈ wT := w_tab (List.mem_append_left _ (List.mem_of_getElem? (i := 190) rfl)) rfl
theorem wm_0_191 : (Jvm.Cond.static ({ cls := "CapWallets$Rows", name := "at", desc := "([II)I" } : Jvm.MethodName)) ∈ wT := w_tab (List.mem_append_left _ (List.mem_of_getElem? (i := 191) rfl)) rfl
theorem wm_0_192 : (Jvm.Cond.code ({ cls := "CapWallets$Rows", name := "at", desc := "([II)I" } : Jvm.MethodName) prog_3_method_2_code (2 : Nat) (Option.some Jvm.ClassFile.FieldType.int)) ∈ wT := w_tab (List.mem_append_left _ (List.mem_of_getElem? (i := 192) rfl)) rfl
theorem wm_0_193 : (Jvm.Cond.methodLink "CapWallets$Rides" (46 : Nat) ({ cls := "CapWallets$Rides", name := "findMates", desc := "(LCapWallets$TapRow;I)V" } : Jvm.MethodName)) ∈ wT := w_tab (List.mem_append_left _ (List.mem_of_getElem? (i := 193) rfl)) rfl
theorem wm_0_195 : (Jvm.Cond.instanceMethod ({ cls := "CapWallets$Rides", name := "findMates", desc := "(LCapWallets$TapRow;I)V" } : Jvm.MethodName)) ∈ wT := w_tab (List.mem_append_left _ (List.mem_of_getElem? (i := 195) rfl)) rfl
theorem wm_0_196 : (Jvm.Cond.code ({ cls := "CapWallets$Rides", name := "findMates", desc := "(LCapWallets$TapRow;I)V" } : Jvm.MethodName) prog_2_method_3_code (6 : Nat) (Option.none : Option Jvm.ClassFile.FieldType)) ∈ wT := w_tab (List.mem_append_left _ (List.mem_of_getElem? (i := 196) rfl)) rfl
theorem wm_0_197 : (Jvm.Cond.methodLink "CapWallets$Rides" (58 : Nat) ({ cls := "CapWallets$Rows", name := "fill", desc := "([II)V" } : Jvm.MethodName)) ∈ wT := w_tab (List.mem_append_left _ (List.mem_of_getElem? (i := 197) rfl)) rfl
theorem wm_0_198 : (Jvm.Cond.methodLink "CapWallets$Rides" (67 : Nat) ({ cls := "CapWallets$TapRow", name := "tapAt", desc := "(I)I" } : Jvm.MethodName)) ∈ wT := w_tab (List.mem_append_left _ (List.mem_of_getElem? (i := 198) rfl)) rfl
theorem wm_0_199 : (Jvm.Cond.instanceMethod ({ cls := "CapWallets$TapRow", name := "tapAt", desc := "(I)I" } : Jvm.MethodName)) ∈ wT := w_tab (List.mem_append_left _ (List.mem_of_getElem? (i := 199) rfl)) rfl
theorem wm_0_2 : (Jvm.Cond.initialized "CapWallets$State") ∈ wT := w_tab (List.mem_append_left _ (List.mem_of_getElem? (i := 2) rfl)) rfl
theorem wm_0_20 : (Jvm.Cond.code ({ cls := "CapWallets", name := "<init>", desc := "()V" } : Jvm.MethodName) prog_1_method_1_code (1 : Nat) (Option.none : Option Jvm.ClassFile.FieldType)) ∈ wT := w_tab (List.mem_append_left _ (List.mem_of_getElem? (i := 20) rfl)) rfl
theorem wm_0_200 : (Jvm.Cond.selects "CapWallets$TapRow" ({ cls := "CapWallets$TapRow", name := "tapAt", desc := "(I)I" } : Jvm.MethodName) ({ cls := "CapWallets$TapRow", name := "tapAt", desc := "(I)I" } : Jvm.MethodName)) ∈ wT := w_tab (List.mem_append_left _ (List.mem_of_getElem? (i := 200) rfl)) rfl
theorem wm_0_201 : (Jvm.Cond.code ({ cls := "CapWallets$TapRow", name := "tapAt", desc := "(I)I" } : Jvm.MethodName) prog_7_method_2_code (2 : Nat) (Option.some Jvm.ClassFile.FieldType.int)) ∈ wT := w_tab (List.mem_append_left _ (List.mem_of_getElem? (i := 201) rfl)) rfl
theorem wm_0_202 : (Jvm.Cond.methodLink "CapWallets$TapRow" (19 : Nat) ({ cls := "CapWallets$Rows", name := "at", desc := "([II)I" } : Jvm.MethodName)) ∈ wT := w_tab (List.mem_append_left _ (List.mem_of_getElem? (i := 202) rfl)) rfl
theorem wm_0_203 : (Jvm.Cond.methodLink "CapWallets$Rides" (71 : Nat) ({ cls := "CapWallets$Tap", name := "walletOf", desc := "(I)I" } : Jvm.MethodName)) ∈ wT := w_tab (List.mem_append_left _ (List.mem_of_getElem? (i := 203) rfl)) rfl
theorem wm_0_204 : (Jvm.Cond.static ({ cls := "CapWallets$Tap", name := "walletOf", desc := "(I)I" } : Jvm.MethodName)) ∈ wT := w_tab (List.mem_append_left _ (List.mem_of_getElem? (i := 204) rfl)) rfl
theorem wm_0_205 : (Jvm.Cond.code ({ cls := "CapWallets$Tap", name := "walletOf", desc := "(I)I" } : Jvm.MethodName) prog_6_method_8_code (1 : Nat) (Option.some Jvm.ClassFile.FieldType.int)) ∈ wT := w_tab (List.mem_append_left _ (List.mem_of_getElem? (i := 205) rfl)) rfl
theorem wm_0_206 : (Jvm.Cond.methodLink "CapWallets$Rides" (76 : Nat) ({ cls := "CapWallets$Rides", name := "isRide", desc := "(III)Z" } : Jvm.MethodName)) ∈ wT := w_tab (List.mem_append_left _ (List.mem_of_getElem? (i := 206) rfl)) rfl
theorem wm_0_207 : (Jvm.Cond.static ({ cls := "CapWallets$Rides", name := "isRide", desc := "(III)Z" } : Jvm.MethodName)) ∈ wT := w_tab (List.mem_append_left _ (List.mem_of_getElem? (i := 207) rfl)) rfl
theorem wm_0_208 : (Jvm.Cond.code ({ cls := "CapWallets$Rides", name := "isRide", desc := "(III)Z" } : Jvm.MethodName) prog_2_method_4_code (3 : Nat) (Option.some Jvm.ClassFile.FieldType.boolean)) ∈ wT := w_tab (List.mem_append_left _ (List.mem_of_getElem? (i := 208) rfl)) rfl
theorem wm_0_209 : (Jvm.Cond.methodLink "CapWallets$Rides" (84 : Nat) ({ cls := "CapWallets$Tap", name := "isIn", desc := "(I)Z" } : Jvm.MethodName)) ∈ wT := w_tab (List.mem_append_left _ (List.mem_of_getElem? (i := 209) rfl)) rfl
theorem wm_0_21 : (Jvm.Cond.methodLink "CapWallets" (1 : Nat) ({ cls := "java/lang/Object", name := "<init>", desc := "()V" } : Jvm.MethodName)) ∈ wT := w_tab (List.mem_append_left _ (List.mem_of_getElem? (i := 21) rfl)) rfl
theorem wm_0_210 : (Jvm.Cond.static ({ cls := "CapWallets$Tap", name := "isIn", desc := "(I)Z" } : Jvm.MethodName)) ∈ wT := w_tab (List.mem_append_left _ (List.mem_of_getElem? (i := 210) rfl)) rfl
theorem wm_0_211 : (Jvm.Cond.code ({ cls := "CapWallets$Tap", name := "isIn", desc := "(I)Z" } : Jvm.MethodName) prog_6_method_11_code (1 : Nat) (Option.some Jvm.ClassFile.FieldType.boolean)) ∈ wT := w_tab (List.mem_append_left _ (List.mem_of_getElem? (i := 211) rfl)) rfl
theorem wm_0_212 : (Jvm.Cond.methodLink "CapWallets$Rides" (88 : Nat) ({ cls := "CapWallets$Tap", name := "dayOf", desc := "(I)I" } : Jvm.MethodName)) ∈ wT := w_tab (List.mem_append_left _ (List.mem_of_getElem? (i := 212) rfl)) rfl
theorem wm_0_213 : (Jvm.Cond.static ({ cls := "CapWallets$Tap", name := "dayOf", desc := "(I)I" } : Jvm.MethodName)) ∈ wT := w_tab (List.mem_append_left _ (List.mem_of_getElem? (i := 213) rfl)) rfl
theorem wm_0_214 : (Jvm.Cond.code ({ cls := "CapWallets$Tap", name := "dayOf", desc := "(I)I" } : Jvm.MethodName) prog_6_method_5_code (1 : Nat) (Option.some Jvm.ClassFile.FieldType.int)) ∈ wT := w_tab (List.mem_append_left _ (List.mem_of_getElem? (i := 214) rfl)) rfl
theorem wm_0_215 : (Jvm.Cond.methodLink "CapWallets$Rides" (91 : Nat) ({ cls := "CapWallets$Tap", name := "minuteOf", desc := "(I)I" } : Jvm.MethodName)) ∈ wT := w_tab (List.mem_append_left _ (List.mem_of_getElem? (i := 215) rfl)) rfl
theorem wm_0_216 : (Jvm.Cond.static ({ cls := "CapWallets$Tap", name := "minuteOf", desc := "(I)I" } : Jvm.MethodName)) ∈ wT := w_tab (List.mem_append_left _ (List.mem_of_getElem? (i := 216) rfl)) rfl
theorem wm_0_217 : (Jvm.Cond.code ({ cls := "CapWallets$Tap", name := "minuteOf", desc := "(I)I" } : Jvm.MethodName) prog_6_method_7_code (1 : Nat) (Option.some Jvm.ClassFile.FieldType.int)) ∈ wT := w_tab (List.mem_append_left _ (List.mem_of_getElem? (i := 217) rfl)) rfl
theorem wm_0_218 : (Jvm.Cond.methodLink "CapWallets$Rides" (80 : Nat) ({ cls := "CapWallets$Rows", name := "put", desc := "([III)V" } : Jvm.MethodName)) ∈ wT := w_tab (List.mem_append_left _ (List.mem_of_getElem? (i := 218) rfl)) rfl
theorem wm_0_219 : (Jvm.Cond.static ({ cls := "CapWallets$Rows", name := "put", desc := "([III)V" } : Jvm.MethodName)) ∈ wT := w_tab (List.mem_append_left _ (List.mem_of_getElem? (i := 219) rfl)) rfl
theorem wm_0_220 : (Jvm.Cond.code ({ cls := "CapWallets$Rows", name := "put", desc := "([III)V" } : Jvm.MethodName) prog_3_method_3_code (3 : Nat) (Option.none : Option Jvm.ClassFile.FieldType)) ∈ wT := w_tab (List.mem_append_left _ (List.mem_of_getElem? (i := 220) rfl)) rfl
theorem wm_0_221 : (Jvm.Cond.methodLink "CapWallets$Rides" (50 : Nat) ({ cls := "CapWallets$Rides", name := "findFares", desc := "(LCapWallets$TapRow;[I)V" } : Jvm.MethodName)) ∈ wT := w_tab (List.mem_append_left _ (List.mem_of_getElem? (i := 221) rfl)) rfl
theorem wm_0_223 : (Jvm.Cond.instanceMethod ({ cls := "CapWallets$Rides", name := "findFares", desc := "(LCapWallets$TapRow;[I)V" } : Jvm.MethodName)) ∈ wT := w_tab (List.mem_append_left _ (List.mem_of_getElem? (i := 223) rfl)) rfl
theorem wm_0_224 : (Jvm.Cond.code ({ cls := "CapWallets$Rides", name := "findFares", desc := "(LCapWallets$TapRow;[I)V" } : Jvm.MethodName) prog_2_method_5_code (7 : Nat) (Option.none : Option Jvm.ClassFile.FieldType)) ∈ wT := w_tab (List.mem_append_left _ (List.mem_of_getElem? (i := 224) rfl)) rfl
theorem wm_0_225 : (Jvm.Cond.methodLink "CapWallets$Rides" (94 : Nat) ({ cls := "CapWallets$Tap", name := "zoneOf", desc := "(I)I" } : Jvm.MethodName)) ∈ wT := w_tab (List.mem_append_left _ (List.mem_of_getElem? (i := 225) rfl)) rfl
theorem wm_0_226 : (Jvm.Cond.static ({ cls := "CapWallets$Tap", name := "zoneOf", desc := "(I)I" } : Jvm.MethodName)) ∈ wT := w_tab (List.mem_append_left _ (List.mem_of_getElem? (i := 226) rfl)) rfl
theorem wm_0_227 : (Jvm.Cond.code ({ cls := "CapWallets$Tap", name := "zoneOf", desc := "(I)I" } : Jvm.MethodName) prog_6_method_10_code (1 : Nat) (Option.some Jvm.ClassFile.FieldType.int)) ∈ wT := w_tab (List.mem_append_left _ (List.mem_of_getElem? (i := 227) rfl)) rfl
theorem wm_0_228 : (Jvm.Cond.methodLink "CapWallets$Tap" (26 : Nat) ({ cls := "CapWallets$Tap", name := "stationOf", desc := "(I)I" } : Jvm.MethodName)) ∈ wT := w_tab (List.mem_append_left _ (List.mem_of_getElem? (i := 228) rfl)) rfl
theorem wm_0_229 : (Jvm.Cond.static ({ cls := "CapWallets$Tap", name := "stationOf", desc := "(I)I" } : Jvm.MethodName)) ∈ wT := w_tab (List.mem_append_left _ (List.mem_of_getElem? (i := 229) rfl)) rfl
theorem wm_0_230 : (Jvm.Cond.code ({ cls := "CapWallets$Tap", name := "stationOf", desc := "(I)I" } : Jvm.MethodName) prog_6_method_9_code (1 : Nat) (Option.some Jvm.ClassFile.FieldType.int)) ∈ wT := w_tab (List.mem_append_left _ (List.mem_of_getElem? (i := 230) rfl)) rfl
theorem wm_0_231 : (Jvm.Cond.methodLink "CapWallets$Rides" (97 : Nat) ({ cls := "java/lang/Math", name := "abs", desc := "(I)I" } : Jvm.MethodName)) ∈ wT := w_tab (List.mem_append_left _ (List.mem_of_getElem? (i := 231) rfl)) rfl
theorem wm_0_232 : (Jvm.Cond.static ({ cls := "java/lang/Math", name := "abs", desc := "(I)I" } : Jvm.MethodName)) ∈ wT := w_tab (List.mem_append_left _ (List.mem_of_getElem? (i := 232) rfl)) rfl
theorem wm_0_233 : (Jvm.Cond.code ({ cls := "java/lang/Math", name := "abs", desc := "(I)I" } : Jvm.MethodName) prog_15_method_59_code (1 : Nat) (Option.some Jvm.ClassFile.FieldType.int)) ∈ wT := w_tab (List.mem_append_left _ (List.mem_of_getElem? (i := 233) rfl)) rfl
theorem wm_0_234 : (Jvm.Cond.methodLink "CapWallets$Rides" (54 : Nat) ({ cls := "CapWallets$Rides", name := "addUp", desc := "(LCapWallets$TapRow;)V" } : Jvm.MethodName)) ∈ wT := w_tab (List.mem_append_left _ (List.mem_of_getElem? (i := 234) rfl)) rfl
theorem wm_0_236 : (Jvm.Cond.instanceMethod ({ cls := "CapWallets$Rides", name := "addUp", desc := "(LCapWallets$TapRow;)V" } : Jvm.MethodName)) ∈ wT := w_tab (List.mem_append_left _ (List.mem_of_getElem? (i := 236) rfl)) rfl
theorem wm_0_237 : (Jvm.Cond.code ({ cls := "CapWallets$Rides", name := "addUp", desc := "(LCapWallets$TapRow;)V" } : Jvm.MethodName) prog_2_method_6_code (6 : Nat) (Option.none : Option Jvm.ClassFile.FieldType)) ∈ wT := w_tab (List.mem_append_left _ (List.mem_of_getElem? (i := 237) rfl)) rfl
theorem wm_0_239 : (Jvm.Cond.static ({ cls := "CapWallets", name := "dayCell", desc := "(II)I" } : Jvm.MethodName)) ∈ wT := w_tab (List.mem_append_left _ (List.mem_of_getElem? (i := 239) rfl)) rfl
theorem wm_0_24 : (Jvm.Cond.classLink "CapWallets" (7 : Nat) "CapWallets$State") ∈ wT := w_tab (List.mem_append_left _ (List.mem_of_getElem? (i := 24) rfl)) rfl
theorem wm_0_25 : (Jvm.Cond.instantiable "CapWallets$State" (10 : Nat)) ∈ wT := w_tab (List.mem_append_left _ (List.mem_of_getElem? (i := 25) rfl)) rfl
theorem wm_0_26 : (Jvm.Cond.methodLink "CapWallets" (9 : Nat) ({ cls := "CapWallets$State", name := "<init>", desc := "()V" } : Jvm.MethodName)) ∈ wT := w_tab (List.mem_append_left _ (List.mem_of_getElem? (i := 26) rfl)) rfl
theorem wm_0_27 : (Jvm.Cond.instanceMethod ({ cls := "CapWallets$State", name := "<init>", desc := "()V" } : Jvm.MethodName)) ∈ wT := w_tab (List.mem_append_left _ (List.mem_of_getElem? (i := 27) rfl)) rfl
theorem wm_0_28 : (Jvm.Cond.code ({ cls := "CapWallets$State", name := "<init>", desc := "()V" } : Jvm.MethodName) prog_5_method_1_code (1 : Nat) (Option.none : Option Jvm.ClassFile.FieldType)) ∈ wT := w_tab (List.mem_append_left _ (List.mem_of_getElem? (i := 28) rfl)) rfl
theorem wm_0_29 : (Jvm.Cond.methodLink "CapWallets$State" (3 : Nat) ({ cls := "java/lang/Object", name := "<init>", desc := "()V" } : Jvm.MethodName)) ∈ wT := w_tab (List.mem_append_left _ (List.mem_of_getElem? (i := 29) rfl)) rfl
theorem wm_0_3 : (Jvm.Cond.initialized "CapWallets$TapRow") ∈ wT := w_tab (List.mem_append_left _ (List.mem_of_getElem? (i := 3) rfl)) rfl
theorem wm_0_30 : (Jvm.Cond.classLink "CapWallets$State" (9 : Nat) "CapWallets$TapRow") ∈ wT := w_tab (List.mem_append_left _ (List.mem_of_getElem? (i := 30) rfl)) rfl
theorem wm_0_31 : (Jvm.Cond.instantiable "CapWallets$TapRow" (2 : Nat)) ∈ wT := w_tab (List.mem_append_left _ (List.mem_of_getElem? (i := 31) rfl)) rfl
theorem wm_0_32 : (Jvm.Cond.methodLink "CapWallets$State" (11 : Nat) ({ cls := "CapWallets$TapRow", name := "<init>", desc := "()V" } : Jvm.MethodName)) ∈ wT := w_tab (List.mem_append_left _ (List.mem_of_getElem? (i := 32) rfl)) rfl
theorem wm_0_33 : (Jvm.Cond.instanceMethod ({ cls := "CapWallets$TapRow", name := "<init>", desc := "()V" } : Jvm.MethodName)) ∈ wT := w_tab (List.mem_append_left _ (List.mem_of_getElem? (i := 33) rfl)) rfl
theorem wm_0_34 : (Jvm.Cond.code ({ cls := "CapWallets$TapRow", name := "<init>", desc := "()V" } : Jvm.MethodName) prog_7_method_1_code (1 : Nat) (Option.none : Option Jvm.ClassFile.FieldType)) ∈ wT := w_tab (List.mem_append_left _ (List.mem_of_getElem? (i := 34) rfl)) rfl
theorem wm_0_35 : (Jvm.Cond.methodLink "CapWallets$TapRow" (3 : Nat) ({ cls := "java/lang/Object", name := "<init>", desc := "()V" } : Jvm.MethodName)) ∈ wT := w_tab (List.mem_append_left _ (List.mem_of_getElem? (i := 35) rfl)) rfl
theorem wm_0_36 : (Jvm.Cond.fieldLink "CapWallets$TapRow" (9 : Nat) "CapWallets$TapRow" "taps" "[I") ∈ wT := w_tab (List.mem_append_left _ (List.mem_of_getElem? (i := 36) rfl)) rfl
theorem wm_0_37 : (Jvm.Cond.fieldLink "CapWallets$TapRow" (15 : Nat) "CapWallets$TapRow" "size" "I") ∈ wT := w_tab (List.mem_append_left _ (List.mem_of_getElem? (i := 37) rfl)) rfl
theorem wm_0_4 : (Jvm.Cond.initialized "CapWallets$Rows") ∈ wT := w_tab (List.mem_append_left _ (List.mem_of_getElem? (i := 4) rfl)) rfl
theorem wm_0_40 : (Jvm.Cond.laysFinal "CapWallets$TapRow" "CapWallets$TapRow" "taps" "[I") ∈ wT := w_tab (List.mem_append_left _ (List.mem_of_getElem? (i := 40) rfl)) rfl
theorem wm_0_42 : (Jvm.Cond.lays "CapWallets$TapRow" "CapWallets$TapRow" "size" "I") ∈ wT := w_tab (List.mem_append_left _ (List.mem_of_getElem? (i := 42) rfl)) rfl
theorem wm_0_45 : (Jvm.Cond.arrayClass Jvm.ClassFile.FieldType.int) ∈ wT := w_tab (List.mem_append_left _ (List.mem_of_getElem? (i := 45) rfl)) rfl
theorem wm_0_48 : (Jvm.Cond.methodLink "CapWallets$State" (50 : Nat) ({ cls := "CapWallets$Rows", name := "copy", desc := "([I[I)V" } : Jvm.MethodName)) ∈ wT := w_tab (List.mem_append_left _ (List.mem_of_getElem? (i := 48) rfl)) rfl
theorem wm_0_49 : (Jvm.Cond.static ({ cls := "CapWallets$Rows", name := "copy", desc := "([I[I)V" } : Jvm.MethodName)) ∈ wT := w_tab (List.mem_append_left _ (List.mem_of_getElem? (i := 49) rfl)) rfl
theorem wm_0_5 : (Jvm.Cond.initialized "CapWallets$Rides") ∈ wT := w_tab (List.mem_append_left _ (List.mem_of_getElem? (i := 5) rfl)) rfl
theorem wm_0_50 : (Jvm.Cond.code ({ cls := "CapWallets$Rows", name := "copy", desc := "([I[I)V" } : Jvm.MethodName) prog_3_method_6_code (3 : Nat) (Option.none : Option Jvm.ClassFile.FieldType)) ∈ wT := w_tab (List.mem_append_left _ (List.mem_of_getElem? (i := 50) rfl)) rfl
theorem wm_0_51 : (Jvm.Cond.methodLink "CapWallets$State" (56 : Nat) ({ cls := "CapWallets$Rows", name := "fill", desc := "([II)V" } : Jvm.MethodName)) ∈ wT := w_tab (List.mem_append_left _ (List.mem_of_getElem? (i := 51) rfl)) rfl
theorem wm_0_52 : (Jvm.Cond.static ({ cls := "CapWallets$Rows", name := "fill", desc := "([II)V" } : Jvm.MethodName)) ∈ wT := w_tab (List.mem_append_left _ (List.mem_of_getElem? (i := 52) rfl)) rfl
theorem wm_0_53 : (Jvm.Cond.code ({ cls := "CapWallets$Rows", name := "fill", desc := "([II)V" } : Jvm.MethodName) prog_3_method_5_code (3 : Nat) (Option.none : Option Jvm.ClassFile.FieldType)) ∈ wT := w_tab (List.mem_append_left _ (List.mem_of_getElem? (i := 53) rfl)) rfl
theorem wm_0_54 : (Jvm.Cond.fieldLink "CapWallets$State" (12 : Nat) "CapWallets$State" "taps" "LCapWallets$TapRow;") ∈ wT := w_tab (List.mem_append_left _ (List.mem_of_getElem? (i := 54) rfl)) rfl
theorem wm_0_56 : (Jvm.Cond.fieldLink "CapWallets$State" (18 : Nat) "CapWallets$State" "settings" "[I") ∈ wT := w_tab (List.mem_append_left _ (List.mem_of_getElem? (i := 56) rfl)) rfl
theorem wm_0_58 : (Jvm.Cond.fieldLink "CapWallets$State" (22 : Nat) "CapWallets$State" "charged" "[I") ∈ wT := w_tab (List.mem_append_left _ (List.mem_of_getElem? (i := 58) rfl)) rfl
theorem wm_0_6 : (Jvm.Cond.initialized "CapWallets$Saves") ∈ wT := w_tab (List.mem_append_left _ (List.mem_of_getElem? (i := 6) rfl)) rfl
theorem wm_0_60 : (Jvm.Cond.fieldLink "CapWallets$State" (25 : Nat) "CapWallets$State" "claims" "[I") ∈ wT := w_tab (List.mem_append_left _ (List.mem_of_getElem? (i := 60) rfl)) rfl
theorem wm_0_62 : (Jvm.Cond.fieldLink "CapWallets$State" (28 : Nat) "CapWallets$State" "settlings" "[I") ∈ wT := w_tab (List.mem_append_left _ (List.mem_of_getElem? (i := 62) rfl)) rfl
theorem wm_0_64 : (Jvm.Cond.fieldLink "CapWallets$State" (31 : Nat) "CapWallets$State" "ledgerWeeks" "[I") ∈ wT := w_tab (List.mem_append_left _ (List.mem_of_getElem? (i := 64) rfl)) rfl
theorem wm_0_65 : (Jvm.Cond.fieldLink "CapWallets$State" (34 : Nat) "CapWallets$State" "ledgerSums" "[I") ∈ wT := w_tab (List.mem_append_left _ (List.mem_of_getElem? (i := 65) rfl)) rfl
theorem wm_0_66 : (Jvm.Cond.fieldLink "CapWallets$State" (37 : Nat) "CapWallets$State" "refunds" "I") ∈ wT := w_tab (List.mem_append_left _ (List.mem_of_getElem? (i := 66) rfl)) rfl
theorem wm_0_68 : (Jvm.Cond.fieldLink "CapWallets$State" (41 : Nat) "CapWallets$State" "refunded" "I") ∈ wT := w_tab (List.mem_append_left _ (List.mem_of_getElem? (i := 68) rfl)) rfl
theorem wm_0_7 : (Jvm.Cond.initialized "CapWallets$TextReader") ∈ wT := w_tab (List.mem_append_left _ (List.mem_of_getElem? (i := 7) rfl)) rfl
theorem wm_0_70 : (Jvm.Cond.fieldLink "CapWallets$State" (44 : Nat) "CapWallets$State" "refusals" "I") ∈ wT := w_tab (List.mem_append_left _ (List.mem_of_getElem? (i := 70) rfl)) rfl
theorem wm_0_72 : (Jvm.Cond.laysFinal "CapWallets$State" "CapWallets$State" "taps" "LCapWallets$TapRow;") ∈ wT := w_tab (List.mem_append_left _ (List.mem_of_getElem? (i := 72) rfl)) rfl
theorem wm_0_74 : (Jvm.Cond.laysFinal "CapWallets$State" "CapWallets$State" "settings" "[I") ∈ wT := w_tab (List.mem_append_left _ (List.mem_of_getElem? (i := 74) rfl)) rfl
theorem wm_0_76 : (Jvm.Cond.laysFinal "CapWallets$State" "CapWallets$State" "charged" "[I") ∈ wT := w_tab (List.mem_append_left _ (List.mem_of_getElem? (i := 76) rfl)) rfl
theorem wm_0_78 : (Jvm.Cond.laysFinal "CapWallets$State" "CapWallets$State" "claims" "[I") ∈ wT := w_tab (List.mem_append_left _ (List.mem_of_getElem? (i := 78) rfl)) rfl
theorem wm_0_8 : (Jvm.Cond.initialized "CapWallets$Tap") ∈ wT := w_tab (List.mem_append_left _ (List.mem_of_getElem? (i := 8) rfl)) rfl
theorem wm_0_80 : (Jvm.Cond.laysFinal "CapWallets$State" "CapWallets$State" "settlings" "[I") ∈ wT := w_tab (List.mem_append_left _ (List.mem_of_getElem? (i := 80) rfl)) rfl
theorem wm_0_82 : (Jvm.Cond.laysFinal "CapWallets$State" "CapWallets$State" "ledgerWeeks" "[I") ∈ wT := w_tab (List.mem_append_left _ (List.mem_of_getElem? (i := 82) rfl)) rfl
theorem wm_0_84 : (Jvm.Cond.laysFinal "CapWallets$State" "CapWallets$State" "ledgerSums" "[I") ∈ wT := w_tab (List.mem_append_left _ (List.mem_of_getElem? (i := 84) rfl)) rfl
theorem wm_0_86 : (Jvm.Cond.lays "CapWallets$State" "CapWallets$State" "refunds" "I") ∈ wT := w_tab (List.mem_append_left _ (List.mem_of_getElem? (i := 86) rfl)) rfl
theorem wm_0_88 : (Jvm.Cond.lays "CapWallets$State" "CapWallets$State" "refunded" "I") ∈ wT := w_tab (List.mem_append_left _ (List.mem_of_getElem? (i := 88) rfl)) rfl
theorem wm_0_9 : (Jvm.Cond.initialized "java/lang/Math") ∈ wT := w_tab (List.mem_append_left _ (List.mem_of_getElem? (i := 9) rfl)) rfl
theorem wm_0_90 : (Jvm.Cond.lays "CapWallets$State" "CapWallets$State" "refusals" "I") ∈ wT := w_tab (List.mem_append_left _ (List.mem_of_getElem? (i := 90) rfl)) rfl
theorem wm_0_93 : (Jvm.Cond.classLink "CapWallets" (16 : Nat) "CapWallets$Rides") ∈ wT := w_tab (List.mem_append_left _ (List.mem_of_getElem? (i := 93) rfl)) rfl
theorem wm_0_94 : (Jvm.Cond.instantiable "CapWallets$Rides" (9 : Nat)) ∈ wT := w_tab (List.mem_append_left _ (List.mem_of_getElem? (i := 94) rfl)) rfl
theorem wm_0_95 : (Jvm.Cond.methodLink "CapWallets" (18 : Nat) ({ cls := "CapWallets$Rides", name := "<init>", desc := "()V" } : Jvm.MethodName)) ∈ wT := w_tab (List.mem_append_left _ (List.mem_of_getElem? (i := 95) rfl)) rfl
theorem wm_0_96 : (Jvm.Cond.instanceMethod ({ cls := "CapWallets$Rides", name := "<init>", desc := "()V" } : Jvm.MethodName)) ∈ wT := w_tab (List.mem_append_left _ (List.mem_of_getElem? (i := 96) rfl)) rfl
theorem wm_0_97 : (Jvm.Cond.code ({ cls := "CapWallets$Rides", name := "<init>", desc := "()V" } : Jvm.MethodName) prog_2_method_1_code (1 : Nat) (Option.none : Option Jvm.ClassFile.FieldType)) ∈ wT := w_tab (List.mem_append_left _ (List.mem_of_getElem? (i := 97) rfl)) rfl
theorem wm_0_98 : (Jvm.Cond.methodLink "CapWallets$Rides" (3 : Nat) ({ cls := "java/lang/Object", name := "<init>", desc := "()V" } : Jvm.MethodName)) ∈ wT := w_tab (List.mem_append_left _ (List.mem_of_getElem? (i := 98) rfl)) rfl
theorem wm_0_99 : (Jvm.Cond.fieldLink "CapWallets$Rides" (9 : Nat) "CapWallets$Rides" "mates" "[I") ∈ wT := w_tab (List.mem_append_left _ (List.mem_of_getElem? (i := 99) rfl)) rfl
theorem wm_1_0 : (Jvm.Cond.code ({ cls := "CapWallets", name := "dayCell", desc := "(II)I" } : Jvm.MethodName) prog_1_method_34_code (2 : Nat) (Option.some Jvm.ClassFile.FieldType.int)) ∈ wT := w_tab (List.mem_append_right _ (List.mem_append_left _ (List.mem_of_getElem? (i := 0) rfl))) rfl
theorem wm_1_1 : (Jvm.Cond.methodLink "CapWallets$Rides" (106 : Nat) ({ cls := "CapWallets$Rows", name := "raise", desc := "([III)V" } : Jvm.MethodName)) ∈ wT := w_tab (List.mem_append_right _ (List.mem_append_left _ (List.mem_of_getElem? (i := 1) rfl))) rfl
theorem wm_1_10 : (Jvm.Cond.fieldLink "CapWallets" (33 : Nat) "CapWallets" "triedTaps" "LCapWallets$TapRow;") ∈ wT := w_tab (List.mem_append_right _ (List.mem_append_left _ (List.mem_of_getElem? (i := 10) rfl))) rfl
theorem wm_1_103 : (Jvm.Cond.arrayClass Jvm.ClassFile.FieldType.byte) ∈ wT := w_tab (List.mem_append_right _ (List.mem_append_left _ (List.mem_of_getElem? (i := 103) rfl))) rfl
theorem wm_1_104 : (Jvm.Cond.methodLink "CapWallets" (184 : Nat) ({ cls := "CapWallets$Saves", name := "popInto", desc := "(LCapWallets$State;)V" } : Jvm.MethodName)) ∈ wT := w_tab (List.mem_append_right _ (List.mem_append_left _ (List.mem_of_getElem? (i := 104) rfl))) rfl
theorem wm_1_105 : (Jvm.Cond.instanceMethod ({ cls := "CapWallets$Saves", name := "popInto", desc := "(LCapWallets$State;)V" } : Jvm.MethodName)) ∈ wT := w_tab (List.mem_append_right _ (List.mem_append_left _ (List.mem_of_getElem? (i := 105) rfl))) rfl
theorem wm_1_106 : (Jvm.Cond.selects "CapWallets$Saves" ({ cls := "CapWallets$Saves", name := "popInto", desc := "(LCapWallets$State;)V" } : Jvm.MethodName) ({ cls := "CapWallets$Saves", name := "popInto", desc := "(LCapWallets$State;)V" } : Jvm.MethodName)) ∈ wT := w_tab (List.mem_append_right _ (List.mem_append_left _ (List.mem_of_getElem? (i := 106) rfl))) rfl
theorem wm_1_107 : (Jvm.Cond.code ({ cls := "CapWallets$Saves", name := "popInto", desc := "(LCapWallets$State;)V" } : Jvm.MethodName) prog_4_method_4_code (3 : Nat) (Option.none : Option Jvm.ClassFile.FieldType)) ∈ wT := w_tab (List.mem_append_right _ (List.mem_append_left _ (List.mem_of_getElem? (i := 107) rfl))) rfl
theorem wm_1_108 : (Jvm.Cond.methodLink "CapWallets$Saves" (25 : Nat) ({ cls := "CapWallets$Saves", name := "slot", desc := "(I)LCapWallets$State;" } : Jvm.MethodName)) ∈ wT := w_tab (List.mem_append_right _ (List.mem_append_left _ (List.mem_of_getElem? (i := 108) rfl))) rfl
theorem wm_1_11 : (Jvm.Cond.fieldLink "CapWallets" (37 : Nat) "CapWallets" "triedRides" "LCapWallets$Rides;") ∈ wT := w_tab (List.mem_append_right _ (List.mem_append_left _ (List.mem_of_getElem? (i := 11) rfl))) rfl
theorem wm_1_110 : (Jvm.Cond.instanceMethod ({ cls := "CapWallets$Saves", name := "slot", desc := "(I)LCapWallets$State;" } : Jvm.MethodName)) ∈ wT := w_tab (List.mem_append_right _ (List.mem_append_left _ (List.mem_of_getElem? (i := 110) rfl))) rfl
theorem wm_1_111 : (Jvm.Cond.code ({ cls := "CapWallets$Saves", name := "slot", desc := "(I)LCapWallets$State;" } : Jvm.MethodName) prog_4_method_2_code (2 : Nat) (Option.some (Jvm.ClassFile.FieldType.object "CapWallets$State"))) ∈ wT := w_tab (List.mem_append_right _ (List.mem_append_left _ (List.mem_of_getElem? (i := 111) rfl))) rfl
theorem wm_1_112 : (Jvm.Cond.methodLink "CapWallets$Saves" (29 : Nat) ({ cls := "CapWallets$State", name := "copyFrom", desc := "(LCapWallets$State;)V" } : Jvm.MethodName)) ∈ wT := w_tab (List.mem_append_right _ (List.mem_append_left _ (List.mem_of_getElem? (i := 112) rfl))) rfl
theorem wm_1_113 : (Jvm.Cond.instanceMethod ({ cls := "CapWallets$State", name := "copyFrom", desc := "(LCapWallets$State;)V" } : Jvm.MethodName)) ∈ wT := w_tab (List.mem_append_right _ (List.mem_append_left _ (List.mem_of_getElem? (i := 113) rfl))) rfl
theorem wm_1_114 : (Jvm.Cond.selects "CapWallets$State" ({ cls := "CapWallets$State", name := "copyFrom", desc := "(LCapWallets$State;)V" } : Jvm.MethodName) ({ cls := "CapWallets$State", name := "copyFrom", desc := "(LCapWallets$State;)V" } : Jvm.MethodName)) ∈ wT := w_tab (List.mem_append_right _ (List.mem_append_left _ (List.mem_of_getElem? (i := 114) rfl))) rfl
theorem wm_1_115 : (Jvm.Cond.code ({ cls := "CapWallets$State", name := "copyFrom", desc := "(LCapWallets$State;)V" } : Jvm.MethodName) prog_5_method_2_code (2 : Nat) (Option.none : Option Jvm.ClassFile.FieldType)) ∈ wT := w_tab (List.mem_append_right _ (List.mem_append_left _ (List.mem_of_getElem? (i := 115) rfl))) rfl
theorem wm_1_116 : (Jvm.Cond.methodLink "CapWallets$State" (60 : Nat) ({ cls := "CapWallets$TapRow", name := "copyFrom", desc := "(LCapWallets$TapRow;)V" } : Jvm.MethodName)) ∈ wT := w_tab (List.mem_append_right _ (List.mem_append_left _ (List.mem_of_getElem? (i := 116) rfl))) rfl
theorem wm_1_117 : (Jvm.Cond.instanceMethod ({ cls := "CapWallets$TapRow", name := "copyFrom", desc := "(LCapWallets$TapRow;)V" } : Jvm.MethodName)) ∈ wT := w_tab (List.mem_append_right _ (List.mem_append_left _ (List.mem_of_getElem? (i := 117) rfl))) rfl
theorem wm_1_118 : (Jvm.Cond.selects "CapWallets$TapRow" ({ cls := "CapWallets$TapRow", name := "copyFrom", desc := "(LCapWallets$TapRow;)V" } : Jvm.MethodName) ({ cls := "CapWallets$TapRow", name := "copyFrom", desc := "(LCapWallets$TapRow;)V" } : Jvm.MethodName)) ∈ wT := w_tab (List.mem_append_right _ (List.mem_append_left _ (List.mem_of_getElem? (i := 118) rfl))) rfl
theorem wm_1_119 : (Jvm.Cond.code ({ cls := "CapWallets$TapRow", name := "copyFrom", desc := "(LCapWallets$TapRow;)V" } : Jvm.MethodName) prog_7_method_5_code (2 : Nat) (Option.none : Option Jvm.ClassFile.FieldType)) ∈ wT := w_tab (List.mem_append_right _ (List.mem_append_left _ (List.mem_of_getElem? (i := 119) rfl))) rfl
theorem wm_1_12 : (Jvm.Cond.fieldLink "CapWallets" (40 : Nat) "CapWallets" "buffer" "[I") ∈ wT := w_tab (List.mem_append_right _ (List.mem_append_left _ (List.mem_of_getElem? (i := 12) rfl))) rfl
theorem wm_1_120 : (Jvm.Cond.methodLink "CapWallets$TapRow" (38 : Nat) ({ cls := "CapWallets$Rows", name := "copy", desc := "([I[I)V" } : Jvm.MethodName)) ∈ wT := w_tab (List.mem_append_right _ (List.mem_append_left _ (List.mem_of_getElem? (i := 120) rfl))) rfl
theorem wm_1_121 : (Jvm.Cond.methodLink "CapWallets" (101 : Nat) ({ cls := "CapWallets", name := "readRides", desc := "()V" } : Jvm.MethodName)) ∈ wT := w_tab (List.mem_append_right _ (List.mem_append_left _ (List.mem_of_getElem? (i := 121) rfl))) rfl
theorem wm_1_123 : (Jvm.Cond.instanceMethod ({ cls := "CapWallets", name := "readRides", desc := "()V" } : Jvm.MethodName)) ∈ wT := w_tab (List.mem_append_right _ (List.mem_append_left _ (List.mem_of_getElem? (i := 123) rfl))) rfl
theorem wm_1_124 : (Jvm.Cond.code ({ cls := "CapWallets", name := "readRides", desc := "()V" } : Jvm.MethodName) prog_1_method_27_code (1 : Nat) (Option.none : Option Jvm.ClassFile.FieldType)) ∈ wT := w_tab (List.mem_append_right _ (List.mem_append_left _ (List.mem_of_getElem? (i := 124) rfl))) rfl
theorem wm_1_125 : (Jvm.Cond.methodLink "CapWalletsLaw" (12 : Nat) ({ cls := "CapWallets", name := "count", desc := "(I)I" } : Jvm.MethodName)) ∈ wT := w_tab (List.mem_append_right _ (List.mem_append_left _ (List.mem_of_getElem? (i := 125) rfl))) rfl
theorem wm_1_126 : (Jvm.Cond.instanceMethod ({ cls := "CapWallets", name := "count", desc := "(I)I" } : Jvm.MethodName)) ∈ wT := w_tab (List.mem_append_right _ (List.mem_append_left _ (List.mem_of_getElem? (i := 126) rfl))) rfl
theorem wm_1_127 : (Jvm.Cond.selects "CapWallets" ({ cls := "CapWallets", name := "count", desc := "(I)I" } : Jvm.MethodName) ({ cls := "CapWallets", name := "count", desc := "(I)I" } : Jvm.MethodName)) ∈ wT := w_tab (List.mem_append_right _ (List.mem_append_left _ (List.mem_of_getElem? (i := 127) rfl))) rfl
theorem wm_1_128 : (Jvm.Cond.code ({ cls := "CapWallets", name := "count", desc := "(I)I" } : Jvm.MethodName) prog_1_method_15_code (2 : Nat) (Option.some Jvm.ClassFile.FieldType.int)) ∈ wT := w_tab (List.mem_append_right _ (List.mem_append_left _ (List.mem_of_getElem? (i := 128) rfl))) rfl
theorem wm_1_129 : (Jvm.Cond.methodLink "CapWallets" (130 : Nat) ({ cls := "CapWallets", name := "isBelow", desc := "(II)Z" } : Jvm.MethodName)) ∈ wT := w_tab (List.mem_append_right _ (List.mem_append_left _ (List.mem_of_getElem? (i := 129) rfl))) rfl
theorem wm_1_13 : (Jvm.Cond.fieldLink "CapWallets" (44 : Nat) "CapWallets" "bufferLength" "I") ∈ wT := w_tab (List.mem_append_right _ (List.mem_append_left _ (List.mem_of_getElem? (i := 13) rfl))) rfl
theorem wm_1_130 : (Jvm.Cond.static ({ cls := "CapWallets", name := "isBelow", desc := "(II)Z" } : Jvm.MethodName)) ∈ wT := w_tab (List.mem_append_right _ (List.mem_append_left _ (List.mem_of_getElem? (i := 130) rfl))) rfl
theorem wm_1_131 : (Jvm.Cond.code ({ cls := "CapWallets", name := "isBelow", desc := "(II)Z" } : Jvm.MethodName) prog_1_method_23_code (2 : Nat) (Option.some Jvm.ClassFile.FieldType.boolean)) ∈ wT := w_tab (List.mem_append_right _ (List.mem_append_left _ (List.mem_of_getElem? (i := 131) rfl))) rfl
theorem wm_1_132 : (Jvm.Cond.classLink "CapWallets" (72 : Nat) "java/lang/IllegalArgumentException") ∈ wT := w_tab (List.mem_append_right _ (List.mem_append_left _ (List.mem_of_getElem? (i := 132) rfl))) rfl
theorem wm_1_133 : (Jvm.Cond.instantiable "java/lang/IllegalArgumentException" (6 : Nat)) ∈ wT := w_tab (List.mem_append_right _ (List.mem_append_left _ (List.mem_of_getElem? (i := 133) rfl))) rfl
theorem wm_1_14 : (Jvm.Cond.fieldLink "CapWallets" (51 : Nat) "CapWallets" "reader" "LCapWallets$TextReader;") ∈ wT := w_tab (List.mem_append_right _ (List.mem_append_left _ (List.mem_of_getElem? (i := 14) rfl))) rfl
theorem wm_1_142 : (Jvm.Cond.methodLink "CapWallets" (76 : Nat) ({ cls := "java/lang/IllegalArgumentException", name := "<init>", desc := "(Ljava/lang/String;)V" } : Jvm.MethodName)) ∈ wT := w_tab (List.mem_append_right _ (List.mem_append_left _ (List.mem_of_getElem? (i := 142) rfl))) rfl
theorem wm_1_148 : (Jvm.Cond.methodLink "CapWallets" (200 : Nat) ({ cls := "CapWallets", name := "countNumber", desc := "(I)I" } : Jvm.MethodName)) ∈ wT := w_tab (List.mem_append_right _ (List.mem_append_left _ (List.mem_of_getElem? (i := 148) rfl))) rfl
theorem wm_1_15 : (Jvm.Cond.laysFinal "CapWallets" "CapWallets" "state" "LCapWallets$State;") ∈ wT := w_tab (List.mem_append_right _ (List.mem_append_left _ (List.mem_of_getElem? (i := 15) rfl))) rfl
theorem wm_1_150 : (Jvm.Cond.instanceMethod ({ cls := "CapWallets", name := "countNumber", desc := "(I)I" } : Jvm.MethodName)) ∈ wT := w_tab (List.mem_append_right _ (List.mem_append_left _ (List.mem_of_getElem? (i := 150) rfl))) rfl
theorem wm_1_151 : (Jvm.Cond.code ({ cls := "CapWallets", name := "countNumber", desc := "(I)I" } : Jvm.MethodName) prog_1_method_38_code (2 : Nat) (Option.some Jvm.ClassFile.FieldType.int)) ∈ wT := w_tab (List.mem_append_right _ (List.mem_append_left _ (List.mem_of_getElem? (i := 151) rfl))) rfl
theorem wm_1_152 : (Jvm.Cond.methodLink "CapWallets" (220 : Nat) ({ cls := "CapWallets$Rows", name := "sum", desc := "([I)I" } : Jvm.MethodName)) ∈ wT := w_tab (List.mem_append_right _ (List.mem_append_left _ (List.mem_of_getElem? (i := 152) rfl))) rfl
theorem wm_1_153 : (Jvm.Cond.static ({ cls := "CapWallets$Rows", name := "sum", desc := "([I)I" } : Jvm.MethodName)) ∈ wT := w_tab (List.mem_append_right _ (List.mem_append_left _ (List.mem_of_getElem? (i := 153) rfl))) rfl
theorem wm_1_154 : (Jvm.Cond.code ({ cls := "CapWallets$Rows", name := "sum", desc := "([I)I" } : Jvm.MethodName) prog_3_method_7_code (6 : Nat) (Option.some Jvm.ClassFile.FieldType.int)) ∈ wT := w_tab (List.mem_append_right _ (List.mem_append_left _ (List.mem_of_getElem? (i := 154) rfl))) rfl
theorem wm_1_155 : (Jvm.Cond.methodLink "CapWallets" (224 : Nat) ({ cls := "CapWallets", name := "costOfAll", desc := "()I" } : Jvm.MethodName)) ∈ wT := w_tab (List.mem_append_right _ (List.mem_append_left _ (List.mem_of_getElem? (i := 155) rfl))) rfl
theorem wm_1_157 : (Jvm.Cond.instanceMethod ({ cls := "CapWallets", name := "costOfAll", desc := "()I" } : Jvm.MethodName)) ∈ wT := w_tab (List.mem_append_right _ (List.mem_append_left _ (List.mem_of_getElem? (i := 157) rfl))) rfl
theorem wm_1_158 : (Jvm.Cond.code ({ cls := "CapWallets", name := "costOfAll", desc := "()I" } : Jvm.MethodName) prog_1_method_39_code (4 : Nat) (Option.some Jvm.ClassFile.FieldType.int)) ∈ wT := w_tab (List.mem_append_right _ (List.mem_append_left _ (List.mem_of_getElem? (i := 158) rfl))) rfl
theorem wm_1_159 : (Jvm.Cond.methodLink "CapWallets" (135 : Nat) ({ cls := "CapWallets$Rides", name := "weekCost", desc := "(II)I" } : Jvm.MethodName)) ∈ wT := w_tab (List.mem_append_right _ (List.mem_append_left _ (List.mem_of_getElem? (i := 159) rfl))) rfl
theorem wm_1_160 : (Jvm.Cond.instanceMethod ({ cls := "CapWallets$Rides", name := "weekCost", desc := "(II)I" } : Jvm.MethodName)) ∈ wT := w_tab (List.mem_append_right _ (List.mem_append_left _ (List.mem_of_getElem? (i := 160) rfl))) rfl
theorem wm_1_161 : (Jvm.Cond.selects "CapWallets$Rides" ({ cls := "CapWallets$Rides", name := "weekCost", desc := "(II)I" } : Jvm.MethodName) ({ cls := "CapWallets$Rides", name := "weekCost", desc := "(II)I" } : Jvm.MethodName)) ∈ wT := w_tab (List.mem_append_right _ (List.mem_append_left _ (List.mem_of_getElem? (i := 161) rfl))) rfl
theorem wm_1_162 : (Jvm.Cond.code ({ cls := "CapWallets$Rides", name := "weekCost", desc := "(II)I" } : Jvm.MethodName) prog_2_method_9_code (3 : Nat) (Option.some Jvm.ClassFile.FieldType.int)) ∈ wT := w_tab (List.mem_append_right _ (List.mem_append_left _ (List.mem_of_getElem? (i := 162) rfl))) rfl
theorem wm_1_163 : (Jvm.Cond.methodLink "CapWallets$Rides" (118 : Nat) ({ cls := "CapWallets$Rides", name := "weekDaysCost", desc := "(II)I" } : Jvm.MethodName)) ∈ wT := w_tab (List.mem_append_right _ (List.mem_append_left _ (List.mem_of_getElem? (i := 163) rfl))) rfl
theorem wm_1_164 : (Jvm.Cond.instanceMethod ({ cls := "CapWallets$Rides", name := "weekDaysCost", desc := "(II)I" } : Jvm.MethodName)) ∈ wT := w_tab (List.mem_append_right _ (List.mem_append_left _ (List.mem_of_getElem? (i := 164) rfl))) rfl
theorem wm_1_165 : (Jvm.Cond.selects "CapWallets$Rides" ({ cls := "CapWallets$Rides", name := "weekDaysCost", desc := "(II)I" } : Jvm.MethodName) ({ cls := "CapWallets$Rides", name := "weekDaysCost", desc := "(II)I" } : Jvm.MethodName)) ∈ wT := w_tab (List.mem_append_right _ (List.mem_append_left _ (List.mem_of_getElem? (i := 165) rfl))) rfl
theorem wm_1_166 : (Jvm.Cond.code ({ cls := "CapWallets$Rides", name := "weekDaysCost", desc := "(II)I" } : Jvm.MethodName) prog_2_method_8_code (5 : Nat) (Option.some Jvm.ClassFile.FieldType.int)) ∈ wT := w_tab (List.mem_append_right _ (List.mem_append_left _ (List.mem_of_getElem? (i := 166) rfl))) rfl
theorem wm_1_167 : (Jvm.Cond.methodLink "CapWallets$Rides" (115 : Nat) ({ cls := "CapWallets$Rides", name := "dayCost", desc := "(II)I" } : Jvm.MethodName)) ∈ wT := w_tab (List.mem_append_right _ (List.mem_append_left _ (List.mem_of_getElem? (i := 167) rfl))) rfl
theorem wm_1_168 : (Jvm.Cond.instanceMethod ({ cls := "CapWallets$Rides", name := "dayCost", desc := "(II)I" } : Jvm.MethodName)) ∈ wT := w_tab (List.mem_append_right _ (List.mem_append_left _ (List.mem_of_getElem? (i := 168) rfl))) rfl
theorem wm_1_169 : (Jvm.Cond.selects "CapWallets$Rides" ({ cls := "CapWallets$Rides", name := "dayCost", desc := "(II)I" } : Jvm.MethodName) ({ cls := "CapWallets$Rides", name := "dayCost", desc := "(II)I" } : Jvm.MethodName)) ∈ wT := w_tab (List.mem_append_right _ (List.mem_append_left _ (List.mem_of_getElem? (i := 169) rfl))) rfl
theorem wm_1_17 : (Jvm.Cond.laysFinal "CapWallets" "CapWallets" "rides" "LCapWallets$Rides;") ∈ wT := w_tab (List.mem_append_right _ (List.mem_append_left _ (List.mem_of_getElem? (i := 17) rfl))) rfl
theorem wm_1_170 : (Jvm.Cond.code ({ cls := "CapWallets$Rides", name := "dayCost", desc := "(II)I" } : Jvm.MethodName) prog_2_method_7_code (3 : Nat) (Option.some Jvm.ClassFile.FieldType.int)) ∈ wT := w_tab (List.mem_append_right _ (List.mem_append_left _ (List.mem_of_getElem? (i := 170) rfl))) rfl
theorem wm_1_171 : (Jvm.Cond.methodLink "CapWallets$Rides" (112 : Nat) ({ cls := "java/lang/Math", name := "min", desc := "(II)I" } : Jvm.MethodName)) ∈ wT := w_tab (List.mem_append_right _ (List.mem_append_left _ (List.mem_of_getElem? (i := 171) rfl))) rfl
theorem wm_1_172 : (Jvm.Cond.static ({ cls := "java/lang/Math", name := "min", desc := "(II)I" } : Jvm.MethodName)) ∈ wT := w_tab (List.mem_append_right _ (List.mem_append_left _ (List.mem_of_getElem? (i := 172) rfl))) rfl
theorem wm_1_173 : (Jvm.Cond.code ({ cls := "java/lang/Math", name := "min", desc := "(II)I" } : Jvm.MethodName) prog_15_method_69_code (2 : Nat) (Option.some Jvm.ClassFile.FieldType.int)) ∈ wT := w_tab (List.mem_append_right _ (List.mem_append_left _ (List.mem_of_getElem? (i := 173) rfl))) rfl
theorem wm_1_174 : (Jvm.Cond.methodLink "CapWallets" (339 : Nat) ({ cls := "CapWallets", name := "weeksToSettleAnew", desc := "()I" } : Jvm.MethodName)) ∈ wT := w_tab (List.mem_append_right _ (List.mem_append_left _ (List.mem_of_getElem? (i := 174) rfl))) rfl
theorem wm_1_176 : (Jvm.Cond.instanceMethod ({ cls := "CapWallets", name := "weeksToSettleAnew", desc := "()I" } : Jvm.MethodName)) ∈ wT := w_tab (List.mem_append_right _ (List.mem_append_left _ (List.mem_of_getElem? (i := 176) rfl))) rfl
theorem wm_1_177 : (Jvm.Cond.code ({ cls := "CapWallets", name := "weeksToSettleAnew", desc := "()I" } : Jvm.MethodName) prog_1_method_40_code (6 : Nat) (Option.some Jvm.ClassFile.FieldType.int)) ∈ wT := w_tab (List.mem_append_right _ (List.mem_append_left _ (List.mem_of_getElem? (i := 177) rfl))) rfl
theorem wm_1_178 : (Jvm.Cond.methodLink "CapWallets" (277 : Nat) ({ cls := "CapWallets", name := "weekCell", desc := "(II)I" } : Jvm.MethodName)) ∈ wT := w_tab (List.mem_append_right _ (List.mem_append_left _ (List.mem_of_getElem? (i := 178) rfl))) rfl
theorem wm_1_179 : (Jvm.Cond.static ({ cls := "CapWallets", name := "weekCell", desc := "(II)I" } : Jvm.MethodName)) ∈ wT := w_tab (List.mem_append_right _ (List.mem_append_left _ (List.mem_of_getElem? (i := 179) rfl))) rfl
theorem wm_1_180 : (Jvm.Cond.code ({ cls := "CapWallets", name := "weekCell", desc := "(II)I" } : Jvm.MethodName) prog_1_method_33_code (2 : Nat) (Option.some Jvm.ClassFile.FieldType.int)) ∈ wT := w_tab (List.mem_append_right _ (List.mem_append_left _ (List.mem_of_getElem? (i := 180) rfl))) rfl
theorem wm_1_181 : (Jvm.Cond.methodLink "CapWallets" (148 : Nat) ({ cls := "CapWallets$Rows", name := "at", desc := "([II)I" } : Jvm.MethodName)) ∈ wT := w_tab (List.mem_append_right _ (List.mem_append_left _ (List.mem_of_getElem? (i := 181) rfl))) rfl
theorem wm_1_182 : (Jvm.Cond.methodLink "CapWalletsLaw" (69 : Nat) ({ cls := "CapWalletsLaw", name := "cell", desc := "([II)I" } : Jvm.MethodName)) ∈ wT := w_tab (List.mem_append_right _ (List.mem_append_left _ (List.mem_of_getElem? (i := 182) rfl))) rfl
theorem wm_1_183 : (Jvm.Cond.static ({ cls := "CapWalletsLaw", name := "cell", desc := "([II)I" } : Jvm.MethodName)) ∈ wT := w_tab (List.mem_append_right _ (List.mem_append_left _ (List.mem_of_getElem? (i := 183) rfl))) rfl
theorem wm_1_184 : (Jvm.Cond.code ({ cls := "CapWalletsLaw", name := "cell", desc := "([II)I" } : Jvm.MethodName) method_2_code (2 : Nat) (Option.some Jvm.ClassFile.FieldType.int)) ∈ wT := w_tab (List.mem_append_right _ (List.mem_append_left _ (List.mem_of_getElem? (i := 184) rfl))) rfl
theorem wm_1_185 : (Jvm.Cond.methodLink "CapWalletsLaw" (73 : Nat) ({ cls := "CapWalletsLaw", name := "told", desc := "(LCapWallets;)J" } : Jvm.MethodName)) ∈ wT := w_tab (List.mem_append_right _ (List.mem_append_left _ (List.mem_of_getElem? (i := 185) rfl))) rfl
theorem wm_1_186 : (Jvm.Cond.static ({ cls := "CapWalletsLaw", name := "told", desc := "(LCapWallets;)J" } : Jvm.MethodName)) ∈ wT := w_tab (List.mem_append_right _ (List.mem_append_left _ (List.mem_of_getElem? (i := 186) rfl))) rfl
theorem wm_1_187 : (Jvm.Cond.code ({ cls := "CapWalletsLaw", name := "told", desc := "(LCapWallets;)J" } : Jvm.MethodName) method_4_code (5 : Nat) (Option.some Jvm.ClassFile.FieldType.long)) ∈ wT := w_tab (List.mem_append_right _ (List.mem_append_left _ (List.mem_of_getElem? (i := 187) rfl))) rfl
theorem wm_1_188 : (Jvm.Cond.constantLong "CapWalletsLaw" (8 : Nat) (3 : Int64)) ∈ wT := w_tab (List.mem_append_right _ (List.mem_append_left _ (List.mem_of_getElem? (i := 188) rfl))) rfl
theorem wm_1_189 : (Jvm.Cond.constantLong "CapWalletsLaw" (10 : Nat) (31 : Int64)) ∈ wT := w_tab (List.mem_append_right _ (List.mem_append_left _ (List.mem_of_getElem? (i := 189) rfl))) rfl
theorem wm_1_19 : (Jvm.Cond.laysFinal "CapWallets" "CapWallets" "saves" "LCapWallets$Saves;") ∈ wT := w_tab (List.mem_append_right _ (List.mem_append_left _ (List.mem_of_getElem? (i := 19) rfl))) rfl
theorem wm_1_190 : (Jvm.Cond.methodLink "CapWalletsLaw" (18 : Nat) ({ cls := "CapWallets", name := "tapOf", desc := "(II)I" } : Jvm.MethodName)) ∈ wT := w_tab (List.mem_append_right _ (List.mem_append_left _ (List.mem_of_getElem? (i := 190) rfl))) rfl
theorem wm_1_191 : (Jvm.Cond.instanceMethod ({ cls := "CapWallets", name := "tapOf", desc := "(II)I" } : Jvm.MethodName)) ∈ wT := w_tab (List.mem_append_right _ (List.mem_append_left _ (List.mem_of_getElem? (i := 191) rfl))) rfl
theorem wm_1_192 : (Jvm.Cond.selects "CapWallets" ({ cls := "CapWallets", name := "tapOf", desc := "(II)I" } : Jvm.MethodName) ({ cls := "CapWallets", name := "tapOf", desc := "(II)I" } : Jvm.MethodName)) ∈ wT := w_tab (List.mem_append_right _ (List.mem_append_left _ (List.mem_of_getElem? (i := 192) rfl))) rfl
theorem wm_1_193 : (Jvm.Cond.code ({ cls := "CapWallets", name := "tapOf", desc := "(II)I" } : Jvm.MethodName) prog_1_method_12_code (3 : Nat) (Option.some Jvm.ClassFile.FieldType.int)) ∈ wT := w_tab (List.mem_append_right _ (List.mem_append_left _ (List.mem_of_getElem? (i := 193) rfl))) rfl
theorem wm_1_194 : (Jvm.Cond.methodLink "CapWallets" (104 : Nat) ({ cls := "CapWallets", name := "isPlace", desc := "(I)Z" } : Jvm.MethodName)) ∈ wT := w_tab (List.mem_append_right _ (List.mem_append_left _ (List.mem_of_getElem? (i := 194) rfl))) rfl
theorem wm_1_196 : (Jvm.Cond.instanceMethod ({ cls := "CapWallets", name := "isPlace", desc := "(I)Z" } : Jvm.MethodName)) ∈ wT := w_tab (List.mem_append_right _ (List.mem_append_left _ (List.mem_of_getElem? (i := 196) rfl))) rfl
theorem wm_1_197 : (Jvm.Cond.code ({ cls := "CapWallets", name := "isPlace", desc := "(I)Z" } : Jvm.MethodName) prog_1_method_26_code (2 : Nat) (Option.some Jvm.ClassFile.FieldType.boolean)) ∈ wT := w_tab (List.mem_append_right _ (List.mem_append_left _ (List.mem_of_getElem? (i := 197) rfl))) rfl
theorem wm_1_198 : (Jvm.Cond.classLink "CapWallets" (108 : Nat) "java/lang/IndexOutOfBoundsException") ∈ wT := w_tab (List.mem_append_right _ (List.mem_append_left _ (List.mem_of_getElem? (i := 198) rfl))) rfl
theorem wm_1_199 : (Jvm.Cond.instantiable "java/lang/IndexOutOfBoundsException" (6 : Nat)) ∈ wT := w_tab (List.mem_append_right _ (List.mem_append_left _ (List.mem_of_getElem? (i := 199) rfl))) rfl
theorem wm_1_2 : (Jvm.Cond.static ({ cls := "CapWallets$Rows", name := "raise", desc := "([III)V" } : Jvm.MethodName)) ∈ wT := w_tab (List.mem_append_right _ (List.mem_append_left _ (List.mem_of_getElem? (i := 2) rfl))) rfl
theorem wm_1_208 : (Jvm.Cond.methodLink "CapWallets" (112 : Nat) ({ cls := "java/lang/IndexOutOfBoundsException", name := "<init>", desc := "(Ljava/lang/String;)V" } : Jvm.MethodName)) ∈ wT := w_tab (List.mem_append_right _ (List.mem_append_left _ (List.mem_of_getElem? (i := 208) rfl))) rfl
theorem wm_1_21 : (Jvm.Cond.laysFinal "CapWallets" "CapWallets" "triedTaps" "LCapWallets$TapRow;") ∈ wT := w_tab (List.mem_append_right _ (List.mem_append_left _ (List.mem_of_getElem? (i := 21) rfl))) rfl
theorem wm_1_215 : (Jvm.Cond.methodLink "CapWallets" (189 : Nat) ({ cls := "CapWallets", name := "tapProperty", desc := "(II)I" } : Jvm.MethodName)) ∈ wT := w_tab (List.mem_append_right _ (List.mem_append_left _ (List.mem_of_getElem? (i := 215) rfl))) rfl
theorem wm_1_217 : (Jvm.Cond.instanceMethod ({ cls := "CapWallets", name := "tapProperty", desc := "(II)I" } : Jvm.MethodName)) ∈ wT := w_tab (List.mem_append_right _ (List.mem_append_left _ (List.mem_of_getElem? (i := 217) rfl))) rfl
theorem wm_1_218 : (Jvm.Cond.code ({ cls := "CapWallets", name := "tapProperty", desc := "(II)I" } : Jvm.MethodName) prog_1_method_35_code (4 : Nat) (Option.some Jvm.ClassFile.FieldType.int)) ∈ wT := w_tab (List.mem_append_right _ (List.mem_append_left _ (List.mem_of_getElem? (i := 218) rfl))) rfl
theorem wm_1_219 : (Jvm.Cond.methodLink "CapWallets" (259 : Nat) ({ cls := "CapWallets$TapRow", name := "tapAt", desc := "(I)I" } : Jvm.MethodName)) ∈ wT := w_tab (List.mem_append_right _ (List.mem_append_left _ (List.mem_of_getElem? (i := 219) rfl))) rfl
theorem wm_1_220 : (Jvm.Cond.methodLink "CapWallets" (271 : Nat) ({ cls := "CapWallets$Tap", name := "walletOf", desc := "(I)I" } : Jvm.MethodName)) ∈ wT := w_tab (List.mem_append_right _ (List.mem_append_left _ (List.mem_of_getElem? (i := 220) rfl))) rfl
theorem wm_1_221 : (Jvm.Cond.methodLink "CapWallets" (296 : Nat) ({ cls := "CapWallets$Tap", name := "dayOf", desc := "(I)I" } : Jvm.MethodName)) ∈ wT := w_tab (List.mem_append_right _ (List.mem_append_left _ (List.mem_of_getElem? (i := 221) rfl))) rfl
theorem wm_1_222 : (Jvm.Cond.methodLink "CapWallets" (265 : Nat) ({ cls := "CapWallets$Tap", name := "minuteOf", desc := "(I)I" } : Jvm.MethodName)) ∈ wT := w_tab (List.mem_append_right _ (List.mem_append_left _ (List.mem_of_getElem? (i := 222) rfl))) rfl
theorem wm_1_223 : (Jvm.Cond.methodLink "CapWallets" (299 : Nat) ({ cls := "CapWallets$Tap", name := "stationOf", desc := "(I)I" } : Jvm.MethodName)) ∈ wT := w_tab (List.mem_append_right _ (List.mem_append_left _ (List.mem_of_getElem? (i := 223) rfl))) rfl
theorem wm_1_224 : (Jvm.Cond.methodLink "CapWallets" (262 : Nat) ({ cls := "CapWallets$Tap", name := "isIn", desc := "(I)Z" } : Jvm.MethodName)) ∈ wT := w_tab (List.mem_append_right _ (List.mem_append_left _ (List.mem_of_getElem? (i := 224) rfl))) rfl
theorem wm_1_225 : (Jvm.Cond.methodLink "CapWallets" (305 : Nat) ({ cls := "CapWallets$Tap", name := "isClaimed", desc := "(I)Z" } : Jvm.MethodName)) ∈ wT := w_tab (List.mem_append_right _ (List.mem_append_left _ (List.mem_of_getElem? (i := 225) rfl))) rfl
theorem wm_1_226 : (Jvm.Cond.static ({ cls := "CapWallets$Tap", name := "isClaimed", desc := "(I)Z" } : Jvm.MethodName)) ∈ wT := w_tab (List.mem_append_right _ (List.mem_append_left _ (List.mem_of_getElem? (i := 226) rfl))) rfl
theorem wm_1_227 : (Jvm.Cond.code ({ cls := "CapWallets$Tap", name := "isClaimed", desc := "(I)Z" } : Jvm.MethodName) prog_6_method_12_code (1 : Nat) (Option.some Jvm.ClassFile.FieldType.boolean)) ∈ wT := w_tab (List.mem_append_right _ (List.mem_append_left _ (List.mem_of_getElem? (i := 227) rfl))) rfl
theorem wm_1_228 : (Jvm.Cond.methodLink "CapWalletsLaw" (22 : Nat) ({ cls := "CapWallets", name := "week", desc := "(III)I" } : Jvm.MethodName)) ∈ wT := w_tab (List.mem_append_right _ (List.mem_append_left _ (List.mem_of_getElem? (i := 228) rfl))) rfl
theorem wm_1_229 : (Jvm.Cond.instanceMethod ({ cls := "CapWallets", name := "week", desc := "(III)I" } : Jvm.MethodName)) ∈ wT := w_tab (List.mem_append_right _ (List.mem_append_left _ (List.mem_of_getElem? (i := 229) rfl))) rfl
theorem wm_1_23 : (Jvm.Cond.laysFinal "CapWallets" "CapWallets" "triedRides" "LCapWallets$Rides;") ∈ wT := w_tab (List.mem_append_right _ (List.mem_append_left _ (List.mem_of_getElem? (i := 23) rfl))) rfl
theorem wm_1_230 : (Jvm.Cond.selects "CapWallets" ({ cls := "CapWallets", name := "week", desc := "(III)I" } : Jvm.MethodName) ({ cls := "CapWallets", name := "week", desc := "(III)I" } : Jvm.MethodName)) ∈ wT := w_tab (List.mem_append_right _ (List.mem_append_left _ (List.mem_of_getElem? (i := 230) rfl))) rfl
theorem wm_1_231 : (Jvm.Cond.code ({ cls := "CapWallets", name := "week", desc := "(III)I" } : Jvm.MethodName) prog_1_method_14_code (4 : Nat) (Option.some Jvm.ClassFile.FieldType.int)) ∈ wT := w_tab (List.mem_append_right _ (List.mem_append_left _ (List.mem_of_getElem? (i := 231) rfl))) rfl
theorem wm_1_233 : (Jvm.Cond.methodLink "CapWallets" (195 : Nat) ({ cls := "CapWallets", name := "weekNumber", desc := "(III)I" } : Jvm.MethodName)) ∈ wT := w_tab (List.mem_append_right _ (List.mem_append_left _ (List.mem_of_getElem? (i := 233) rfl))) rfl
theorem wm_1_235 : (Jvm.Cond.instanceMethod ({ cls := "CapWallets", name := "weekNumber", desc := "(III)I" } : Jvm.MethodName)) ∈ wT := w_tab (List.mem_append_right _ (List.mem_append_left _ (List.mem_of_getElem? (i := 235) rfl))) rfl
theorem wm_1_236 : (Jvm.Cond.code ({ cls := "CapWallets", name := "weekNumber", desc := "(III)I" } : Jvm.MethodName) prog_1_method_37_code (4 : Nat) (Option.some Jvm.ClassFile.FieldType.int)) ∈ wT := w_tab (List.mem_append_right _ (List.mem_append_left _ (List.mem_of_getElem? (i := 236) rfl))) rfl
theorem wm_1_237 : (Jvm.Cond.methodLink "CapWallets" (320 : Nat) ({ cls := "CapWallets$Rides", name := "weekSum", desc := "([III)I" } : Jvm.MethodName)) ∈ wT := w_tab (List.mem_append_right _ (List.mem_append_left _ (List.mem_of_getElem? (i := 237) rfl))) rfl
theorem wm_1_238 : (Jvm.Cond.static ({ cls := "CapWallets$Rides", name := "weekSum", desc := "([III)I" } : Jvm.MethodName)) ∈ wT := w_tab (List.mem_append_right _ (List.mem_append_left _ (List.mem_of_getElem? (i := 238) rfl))) rfl
theorem wm_1_239 : (Jvm.Cond.code ({ cls := "CapWallets$Rides", name := "weekSum", desc := "([III)I" } : Jvm.MethodName) prog_2_method_10_code (5 : Nat) (Option.some Jvm.ClassFile.FieldType.int)) ∈ wT := w_tab (List.mem_append_right _ (List.mem_append_left _ (List.mem_of_getElem? (i := 239) rfl))) rfl
theorem wm_1_25 : (Jvm.Cond.laysFinal "CapWallets" "CapWallets" "buffer" "[I") ∈ wT := w_tab (List.mem_append_right _ (List.mem_append_left _ (List.mem_of_getElem? (i := 25) rfl))) rfl
theorem wm_1_27 : (Jvm.Cond.lays "CapWallets" "CapWallets" "bufferLength" "I") ∈ wT := w_tab (List.mem_append_right _ (List.mem_append_left _ (List.mem_of_getElem? (i := 27) rfl))) rfl
theorem wm_1_29 : (Jvm.Cond.laysFinal "CapWallets" "CapWallets" "reader" "LCapWallets$TextReader;") ∈ wT := w_tab (List.mem_append_right _ (List.mem_append_left _ (List.mem_of_getElem? (i := 29) rfl))) rfl
theorem wm_1_3 : (Jvm.Cond.code ({ cls := "CapWallets$Rows", name := "raise", desc := "([III)V" } : Jvm.MethodName) prog_3_method_4_code (3 : Nat) (Option.none : Option Jvm.ClassFile.FieldType)) ∈ wT := w_tab (List.mem_append_right _ (List.mem_append_left _ (List.mem_of_getElem? (i := 3) rfl))) rfl
theorem wm_1_32 : (Jvm.Cond.methodLink "CapWalletsLaw" (50 : Nat) ({ cls := "CapWallets", name := "undo", desc := "()I" } : Jvm.MethodName)) ∈ wT := w_tab (List.mem_append_right _ (List.mem_append_left _ (List.mem_of_getElem? (i := 32) rfl))) rfl
theorem wm_1_33 : (Jvm.Cond.instanceMethod ({ cls := "CapWallets", name := "undo", desc := "()I" } : Jvm.MethodName)) ∈ wT := w_tab (List.mem_append_right _ (List.mem_append_left _ (List.mem_of_getElem? (i := 33) rfl))) rfl
theorem wm_1_34 : (Jvm.Cond.selects "CapWallets" ({ cls := "CapWallets", name := "undo", desc := "()I" } : Jvm.MethodName) ({ cls := "CapWallets", name := "undo", desc := "()I" } : Jvm.MethodName)) ∈ wT := w_tab (List.mem_append_right _ (List.mem_append_left _ (List.mem_of_getElem? (i := 34) rfl))) rfl
theorem wm_1_35 : (Jvm.Cond.code ({ cls := "CapWallets", name := "undo", desc := "()I" } : Jvm.MethodName) prog_1_method_11_code (1 : Nat) (Option.some Jvm.ClassFile.FieldType.int)) ∈ wT := w_tab (List.mem_append_right _ (List.mem_append_left _ (List.mem_of_getElem? (i := 35) rfl))) rfl
theorem wm_1_36 : (Jvm.Cond.classLink "CapWallets" (82 : Nat) "java/lang/IllegalStateException") ∈ wT := w_tab (List.mem_append_right _ (List.mem_append_left _ (List.mem_of_getElem? (i := 36) rfl))) rfl
theorem wm_1_37 : (Jvm.Cond.instantiable "java/lang/IllegalStateException" (6 : Nat)) ∈ wT := w_tab (List.mem_append_right _ (List.mem_append_left _ (List.mem_of_getElem? (i := 37) rfl))) rfl
theorem wm_1_4 : (Jvm.Cond.methodLink "CapWallets$Rows" (7 : Nat) ({ cls := "CapWallets$Rows", name := "at", desc := "([II)I" } : Jvm.MethodName)) ∈ wT := w_tab (List.mem_append_right _ (List.mem_append_left _ (List.mem_of_getElem? (i := 4) rfl))) rfl
theorem wm_1_5 : (Jvm.Cond.methodLink "CapWallets$Rows" (13 : Nat) ({ cls := "CapWallets$Rows", name := "put", desc := "([III)V" } : Jvm.MethodName)) ∈ wT := w_tab (List.mem_append_right _ (List.mem_append_left _ (List.mem_of_getElem? (i := 5) rfl))) rfl
theorem wm_1_6 : (Jvm.Cond.methodLink "CapWallets$Rides" (109 : Nat) ({ cls := "CapWallets$Tap", name := "stationOf", desc := "(I)I" } : Jvm.MethodName)) ∈ wT := w_tab (List.mem_append_right _ (List.mem_append_left _ (List.mem_of_getElem? (i := 6) rfl))) rfl
theorem wm_1_7 : (Jvm.Cond.fieldLink "CapWallets" (10 : Nat) "CapWallets" "state" "LCapWallets$State;") ∈ wT := w_tab (List.mem_append_right _ (List.mem_append_left _ (List.mem_of_getElem? (i := 7) rfl))) rfl
theorem wm_1_75 : (Jvm.Cond.instantiable "java/lang/Throwable" (6 : Nat)) ∈ wT := w_tab (List.mem_append_right _ (List.mem_append_left _ (List.mem_of_getElem? (i := 75) rfl))) rfl
theorem wm_1_76 : (Jvm.Cond.native ({ cls := "java/lang/Throwable", name := "fillInStackTrace", desc := "(I)Ljava/lang/Throwable;" } : Jvm.MethodName)) ∈ wT := w_tab (List.mem_append_right _ (List.mem_append_left _ (List.mem_of_getElem? (i := 76) rfl))) rfl
theorem wm_1_78 : (Jvm.Cond.methodLink "CapWallets" (86 : Nat) ({ cls := "java/lang/IllegalStateException", name := "<init>", desc := "(Ljava/lang/String;)V" } : Jvm.MethodName)) ∈ wT := w_tab (List.mem_append_right _ (List.mem_append_left _ (List.mem_of_getElem? (i := 78) rfl))) rfl
theorem wm_1_8 : (Jvm.Cond.fieldLink "CapWallets" (19 : Nat) "CapWallets" "rides" "LCapWallets$Rides;") ∈ wT := w_tab (List.mem_append_right _ (List.mem_append_left _ (List.mem_of_getElem? (i := 8) rfl))) rfl
theorem wm_1_9 : (Jvm.Cond.fieldLink "CapWallets" (26 : Nat) "CapWallets" "saves" "LCapWallets$Saves;") ∈ wT := w_tab (List.mem_append_right _ (List.mem_append_left _ (List.mem_of_getElem? (i := 9) rfl))) rfl
theorem wm_2_0 : (Jvm.Cond.methodLink "CapWallets" (324 : Nat) ({ cls := "CapWallets$Rides", name := "weekDaysCost", desc := "(II)I" } : Jvm.MethodName)) ∈ wT := w_tab (List.mem_append_right _ (List.mem_append_right _ (List.mem_of_getElem? (i := 0) rfl))) rfl
theorem wm_2_1 : (Jvm.Cond.methodLink "CapWalletsLaw" (26 : Nat) ({ cls := "CapWallets", name := "ledger", desc := "(III)I" } : Jvm.MethodName)) ∈ wT := w_tab (List.mem_append_right _ (List.mem_append_right _ (List.mem_of_getElem? (i := 1) rfl))) rfl
theorem wm_2_10 : (Jvm.Cond.methodLink "CapWalletsLaw" (77 : Nat) ({ cls := "CapWalletsLaw", name := "act", desc := "(LCapWallets;II)I" } : Jvm.MethodName)) ∈ wT := w_tab (List.mem_append_right _ (List.mem_append_right _ (List.mem_of_getElem? (i := 10) rfl))) rfl
theorem wm_2_100 : (Jvm.Cond.methodLink "CapWallets" (123 : Nat) ({ cls := "CapWallets", name := "fillIn", desc := "(III)V" } : Jvm.MethodName)) ∈ wT := w_tab (List.mem_append_right _ (List.mem_append_right _ (List.mem_of_getElem? (i := 100) rfl))) rfl
theorem wm_2_102 : (Jvm.Cond.instanceMethod ({ cls := "CapWallets", name := "fillIn", desc := "(III)V" } : Jvm.MethodName)) ∈ wT := w_tab (List.mem_append_right _ (List.mem_append_right _ (List.mem_of_getElem? (i := 102) rfl))) rfl
theorem wm_2_103 : (Jvm.Cond.code ({ cls := "CapWallets", name := "fillIn", desc := "(III)V" } : Jvm.MethodName) prog_1_method_30_code (5 : Nat) (Option.none : Option Jvm.ClassFile.FieldType)) ∈ wT := w_tab (List.mem_append_right _ (List.mem_append_right _ (List.mem_of_getElem? (i := 103) rfl))) rfl
theorem wm_2_104 : (Jvm.Cond.methodLink "CapWallets" (289 : Nat) ({ cls := "CapWallets$Rows", name := "raise", desc := "([III)V" } : Jvm.MethodName)) ∈ wT := w_tab (List.mem_append_right _ (List.mem_append_right _ (List.mem_of_getElem? (i := 104) rfl))) rfl
theorem wm_2_105 : (Jvm.Cond.methodLink "CapWalletsLaw" (46 : Nat) ({ cls := "CapWallets", name := "tap", desc := "(IIIIZ)I" } : Jvm.MethodName)) ∈ wT := w_tab (List.mem_append_right _ (List.mem_append_right _ (List.mem_of_getElem? (i := 105) rfl))) rfl
theorem wm_2_106 : (Jvm.Cond.instanceMethod ({ cls := "CapWallets", name := "tap", desc := "(IIIIZ)I" } : Jvm.MethodName)) ∈ wT := w_tab (List.mem_append_right _ (List.mem_append_right _ (List.mem_of_getElem? (i := 106) rfl))) rfl
theorem wm_2_107 : (Jvm.Cond.selects "CapWallets" ({ cls := "CapWallets", name := "tap", desc := "(IIIIZ)I" } : Jvm.MethodName) ({ cls := "CapWallets", name := "tap", desc := "(IIIIZ)I" } : Jvm.MethodName)) ∈ wT := w_tab (List.mem_append_right _ (List.mem_append_right _ (List.mem_of_getElem? (i := 107) rfl))) rfl
theorem wm_2_108 : (Jvm.Cond.code ({ cls := "CapWallets", name := "tap", desc := "(IIIIZ)I" } : Jvm.MethodName) prog_1_method_2_code (7 : Nat) (Option.some Jvm.ClassFile.FieldType.int)) ∈ wT := w_tab (List.mem_append_right _ (List.mem_append_right _ (List.mem_of_getElem? (i := 108) rfl))) rfl
theorem wm_2_109 : (Jvm.Cond.methodLink "CapWallets" (65 : Nat) ({ cls := "CapWallets", name := "isWalletDay", desc := "(II)Z" } : Jvm.MethodName)) ∈ wT := w_tab (List.mem_append_right _ (List.mem_append_right _ (List.mem_of_getElem? (i := 109) rfl))) rfl
theorem wm_2_11 : (Jvm.Cond.static ({ cls := "CapWalletsLaw", name := "act", desc := "(LCapWallets;II)I" } : Jvm.MethodName)) ∈ wT := w_tab (List.mem_append_right _ (List.mem_append_right _ (List.mem_of_getElem? (i := 11) rfl))) rfl
theorem wm_2_110 : (Jvm.Cond.static ({ cls := "CapWallets", name := "isWalletDay", desc := "(II)Z" } : Jvm.MethodName)) ∈ wT := w_tab (List.mem_append_right _ (List.mem_append_right _ (List.mem_of_getElem? (i := 110) rfl))) rfl
theorem wm_2_111 : (Jvm.Cond.code ({ cls := "CapWallets", name := "isWalletDay", desc := "(II)Z" } : Jvm.MethodName) prog_1_method_24_code (2 : Nat) (Option.some Jvm.ClassFile.FieldType.boolean)) ∈ wT := w_tab (List.mem_append_right _ (List.mem_append_right _ (List.mem_of_getElem? (i := 111) rfl))) rfl
theorem wm_2_113 : (Jvm.Cond.methodLink "CapWallets" (91 : Nat) ({ cls := "CapWallets$Tap", name := "make", desc := "(IIIIZ)I" } : Jvm.MethodName)) ∈ wT := w_tab (List.mem_append_right _ (List.mem_append_right _ (List.mem_of_getElem? (i := 113) rfl))) rfl
theorem wm_2_114 : (Jvm.Cond.methodLink "CapWalletsLaw" (82 : Nat) ({ cls := "CapWalletsLaw", name := "holds", desc := "(LCapWallets;)Z" } : Jvm.MethodName)) ∈ wT := w_tab (List.mem_append_right _ (List.mem_append_right _ (List.mem_of_getElem? (i := 114) rfl))) rfl
theorem wm_2_115 : (Jvm.Cond.static ({ cls := "CapWalletsLaw", name := "holds", desc := "(LCapWallets;)Z" } : Jvm.MethodName)) ∈ wT := w_tab (List.mem_append_right _ (List.mem_append_right _ (List.mem_of_getElem? (i := 115) rfl))) rfl
theorem wm_2_116 : (Jvm.Cond.code ({ cls := "CapWalletsLaw", name := "holds", desc := "(LCapWallets;)Z" } : Jvm.MethodName) method_7_code (17 : Nat) (Option.some Jvm.ClassFile.FieldType.boolean)) ∈ wT := w_tab (List.mem_append_right _ (List.mem_append_right _ (List.mem_of_getElem? (i := 116) rfl))) rfl
theorem wm_2_117 : (Jvm.Cond.methodLink "CapWalletsLaw" (54 : Nat) ({ cls := "CapWalletsLaw", name := "now", desc := "(LCapWallets;I)I" } : Jvm.MethodName)) ∈ wT := w_tab (List.mem_append_right _ (List.mem_append_right _ (List.mem_of_getElem? (i := 117) rfl))) rfl
theorem wm_2_118 : (Jvm.Cond.static ({ cls := "CapWalletsLaw", name := "now", desc := "(LCapWallets;I)I" } : Jvm.MethodName)) ∈ wT := w_tab (List.mem_append_right _ (List.mem_append_right _ (List.mem_of_getElem? (i := 118) rfl))) rfl
theorem wm_2_119 : (Jvm.Cond.code ({ cls := "CapWalletsLaw", name := "now", desc := "(LCapWallets;I)I" } : Jvm.MethodName) method_6_code (3 : Nat) (Option.some Jvm.ClassFile.FieldType.int)) ∈ wT := w_tab (List.mem_append_right _ (List.mem_append_right _ (List.mem_of_getElem? (i := 119) rfl))) rfl
theorem wm_2_12 : (Jvm.Cond.code ({ cls := "CapWalletsLaw", name := "act", desc := "(LCapWallets;II)I" } : Jvm.MethodName) method_5_code (5 : Nat) (Option.some Jvm.ClassFile.FieldType.int)) ∈ wT := w_tab (List.mem_append_right _ (List.mem_append_right _ (List.mem_of_getElem? (i := 12) rfl))) rfl
theorem wm_2_120 : (Jvm.Cond.methodLink "CapWalletsLaw" (58 : Nat) ({ cls := "CapWallets", name := "day", desc := "(III)I" } : Jvm.MethodName)) ∈ wT := w_tab (List.mem_append_right _ (List.mem_append_right _ (List.mem_of_getElem? (i := 120) rfl))) rfl
theorem wm_2_121 : (Jvm.Cond.instanceMethod ({ cls := "CapWallets", name := "day", desc := "(III)I" } : Jvm.MethodName)) ∈ wT := w_tab (List.mem_append_right _ (List.mem_append_right _ (List.mem_of_getElem? (i := 121) rfl))) rfl
theorem wm_2_122 : (Jvm.Cond.selects "CapWallets" ({ cls := "CapWallets", name := "day", desc := "(III)I" } : Jvm.MethodName) ({ cls := "CapWallets", name := "day", desc := "(III)I" } : Jvm.MethodName)) ∈ wT := w_tab (List.mem_append_right _ (List.mem_append_right _ (List.mem_of_getElem? (i := 122) rfl))) rfl
theorem wm_2_123 : (Jvm.Cond.code ({ cls := "CapWallets", name := "day", desc := "(III)I" } : Jvm.MethodName) prog_1_method_13_code (4 : Nat) (Option.some Jvm.ClassFile.FieldType.int)) ∈ wT := w_tab (List.mem_append_right _ (List.mem_append_right _ (List.mem_of_getElem? (i := 123) rfl))) rfl
theorem wm_2_124 : (Jvm.Cond.methodLink "CapWallets" (192 : Nat) ({ cls := "CapWallets", name := "dayNumber", desc := "(III)I" } : Jvm.MethodName)) ∈ wT := w_tab (List.mem_append_right _ (List.mem_append_right _ (List.mem_of_getElem? (i := 124) rfl))) rfl
theorem wm_2_126 : (Jvm.Cond.instanceMethod ({ cls := "CapWallets", name := "dayNumber", desc := "(III)I" } : Jvm.MethodName)) ∈ wT := w_tab (List.mem_append_right _ (List.mem_append_right _ (List.mem_of_getElem? (i := 126) rfl))) rfl
theorem wm_2_127 : (Jvm.Cond.code ({ cls := "CapWallets", name := "dayNumber", desc := "(III)I" } : Jvm.MethodName) prog_1_method_36_code (4 : Nat) (Option.some Jvm.ClassFile.FieldType.int)) ∈ wT := w_tab (List.mem_append_right _ (List.mem_append_right _ (List.mem_of_getElem? (i := 127) rfl))) rfl
theorem wm_2_128 : (Jvm.Cond.methodLink "CapWallets" (311 : Nat) ({ cls := "CapWallets", name := "dayCell", desc := "(II)I" } : Jvm.MethodName)) ∈ wT := w_tab (List.mem_append_right _ (List.mem_append_right _ (List.mem_of_getElem? (i := 128) rfl))) rfl
theorem wm_2_129 : (Jvm.Cond.methodLink "CapWallets" (317 : Nat) ({ cls := "CapWallets$Rides", name := "dayCost", desc := "(II)I" } : Jvm.MethodName)) ∈ wT := w_tab (List.mem_append_right _ (List.mem_append_right _ (List.mem_of_getElem? (i := 129) rfl))) rfl
theorem wm_2_13 : (Jvm.Cond.methodLink "CapWalletsLaw" (29 : Nat) ({ cls := "CapWalletsLaw", name := "low", desc := "(II)I" } : Jvm.MethodName)) ∈ wT := w_tab (List.mem_append_right _ (List.mem_append_right _ (List.mem_of_getElem? (i := 13) rfl))) rfl
theorem wm_2_130 : (Jvm.Cond.methodLink "CapWalletsLaw" (61 : Nat) ({ cls := "CapWallets", name := "capShare", desc := "()D" } : Jvm.MethodName)) ∈ wT := w_tab (List.mem_append_right _ (List.mem_append_right _ (List.mem_of_getElem? (i := 130) rfl))) rfl
theorem wm_2_131 : (Jvm.Cond.instanceMethod ({ cls := "CapWallets", name := "capShare", desc := "()D" } : Jvm.MethodName)) ∈ wT := w_tab (List.mem_append_right _ (List.mem_append_right _ (List.mem_of_getElem? (i := 131) rfl))) rfl
theorem wm_2_132 : (Jvm.Cond.selects "CapWallets" ({ cls := "CapWallets", name := "capShare", desc := "()D" } : Jvm.MethodName) ({ cls := "CapWallets", name := "capShare", desc := "()D" } : Jvm.MethodName)) ∈ wT := w_tab (List.mem_append_right _ (List.mem_append_right _ (List.mem_of_getElem? (i := 132) rfl))) rfl
theorem wm_2_133 : (Jvm.Cond.code ({ cls := "CapWallets", name := "capShare", desc := "()D" } : Jvm.MethodName) prog_1_method_21_code (2 : Nat) (Option.some Jvm.ClassFile.FieldType.double)) ∈ wT := w_tab (List.mem_append_right _ (List.mem_append_right _ (List.mem_of_getElem? (i := 133) rfl))) rfl
theorem wm_2_134 : (Jvm.Cond.methodLink "CapWalletsLaw" (65 : Nat) ({ cls := "CapWallets", name := "leaky", desc := "()I" } : Jvm.MethodName)) ∈ wT := w_tab (List.mem_append_right _ (List.mem_append_right _ (List.mem_of_getElem? (i := 134) rfl))) rfl
theorem wm_2_135 : (Jvm.Cond.instanceMethod ({ cls := "CapWallets", name := "leaky", desc := "()I" } : Jvm.MethodName)) ∈ wT := w_tab (List.mem_append_right _ (List.mem_append_right _ (List.mem_of_getElem? (i := 135) rfl))) rfl
theorem wm_2_136 : (Jvm.Cond.selects "CapWallets" ({ cls := "CapWallets", name := "leaky", desc := "()I" } : Jvm.MethodName) ({ cls := "CapWallets", name := "leaky", desc := "()I" } : Jvm.MethodName)) ∈ wT := w_tab (List.mem_append_right _ (List.mem_append_right _ (List.mem_of_getElem? (i := 136) rfl))) rfl
theorem wm_2_137 : (Jvm.Cond.code ({ cls := "CapWallets", name := "leaky", desc := "()I" } : Jvm.MethodName) prog_1_method_19_code (5 : Nat) (Option.some Jvm.ClassFile.FieldType.int)) ∈ wT := w_tab (List.mem_append_right _ (List.mem_append_right _ (List.mem_of_getElem? (i := 137) rfl))) rfl
theorem wm_2_138 : (Jvm.Cond.constant "CapWalletsLaw" (81 : Nat) (100000 : Int32)) ∈ wT := w_tab (List.mem_append_right _ (List.mem_append_right _ (List.mem_of_getElem? (i := 138) rfl))) rfl
theorem wm_2_14 : (Jvm.Cond.static ({ cls := "CapWalletsLaw", name := "low", desc := "(II)I" } : Jvm.MethodName)) ∈ wT := w_tab (List.mem_append_right _ (List.mem_append_right _ (List.mem_of_getElem? (i := 14) rfl))) rfl
theorem wm_2_15 : (Jvm.Cond.code ({ cls := "CapWalletsLaw", name := "low", desc := "(II)I" } : Jvm.MethodName) method_3_code (2 : Nat) (Option.some Jvm.ClassFile.FieldType.int)) ∈ wT := w_tab (List.mem_append_right _ (List.mem_append_right _ (List.mem_of_getElem? (i := 15) rfl))) rfl
theorem wm_2_16 : (Jvm.Cond.constant "CapWalletsLaw" (7 : Nat) (2147483647 : Int32)) ∈ wT := w_tab (List.mem_append_right _ (List.mem_append_right _ (List.mem_of_getElem? (i := 16) rfl))) rfl
theorem wm_2_17 : (Jvm.Cond.methodLink "CapWalletsLaw" (34 : Nat) ({ cls := "CapWallets", name := "set", desc := "(II)I" } : Jvm.MethodName)) ∈ wT := w_tab (List.mem_append_right _ (List.mem_append_right _ (List.mem_of_getElem? (i := 17) rfl))) rfl
theorem wm_2_18 : (Jvm.Cond.instanceMethod ({ cls := "CapWallets", name := "set", desc := "(II)I" } : Jvm.MethodName)) ∈ wT := w_tab (List.mem_append_right _ (List.mem_append_right _ (List.mem_of_getElem? (i := 18) rfl))) rfl
theorem wm_2_19 : (Jvm.Cond.selects "CapWallets" ({ cls := "CapWallets", name := "set", desc := "(II)I" } : Jvm.MethodName) ({ cls := "CapWallets", name := "set", desc := "(II)I" } : Jvm.MethodName)) ∈ wT := w_tab (List.mem_append_right _ (List.mem_append_right _ (List.mem_of_getElem? (i := 19) rfl))) rfl
theorem wm_2_2 : (Jvm.Cond.instanceMethod ({ cls := "CapWallets", name := "ledger", desc := "(III)I" } : Jvm.MethodName)) ∈ wT := w_tab (List.mem_append_right _ (List.mem_append_right _ (List.mem_of_getElem? (i := 2) rfl))) rfl
theorem wm_2_20 : (Jvm.Cond.code ({ cls := "CapWallets", name := "set", desc := "(II)I" } : Jvm.MethodName) prog_1_method_6_code (4 : Nat) (Option.some Jvm.ClassFile.FieldType.int)) ∈ wT := w_tab (List.mem_append_right _ (List.mem_append_right _ (List.mem_of_getElem? (i := 20) rfl))) rfl
theorem wm_2_22 : (Jvm.Cond.fieldLink "CapWallets" (145 : Nat) "CapWallets" "LEAST_VALUES" "[I") ∈ wT := w_tab (List.mem_append_right _ (List.mem_append_right _ (List.mem_of_getElem? (i := 22) rfl))) rfl
theorem wm_2_24 : (Jvm.Cond.fieldLink "CapWallets" (154 : Nat) "CapWallets" "MOST_VALUES" "[I") ∈ wT := w_tab (List.mem_append_right _ (List.mem_append_right _ (List.mem_of_getElem? (i := 24) rfl))) rfl
theorem wm_2_27 : (Jvm.Cond.methodLink "CapWallets" (87 : Nat) ({ cls := "CapWallets$Saves", name := "push", desc := "(LCapWallets$State;)V" } : Jvm.MethodName)) ∈ wT := w_tab (List.mem_append_right _ (List.mem_append_right _ (List.mem_of_getElem? (i := 27) rfl))) rfl
theorem wm_2_28 : (Jvm.Cond.instanceMethod ({ cls := "CapWallets$Saves", name := "push", desc := "(LCapWallets$State;)V" } : Jvm.MethodName)) ∈ wT := w_tab (List.mem_append_right _ (List.mem_append_right _ (List.mem_of_getElem? (i := 28) rfl))) rfl
theorem wm_2_29 : (Jvm.Cond.selects "CapWallets$Saves" ({ cls := "CapWallets$Saves", name := "push", desc := "(LCapWallets$State;)V" } : Jvm.MethodName) ({ cls := "CapWallets$Saves", name := "push", desc := "(LCapWallets$State;)V" } : Jvm.MethodName)) ∈ wT := w_tab (List.mem_append_right _ (List.mem_append_right _ (List.mem_of_getElem? (i := 29) rfl))) rfl
theorem wm_2_3 : (Jvm.Cond.selects "CapWallets" ({ cls := "CapWallets", name := "ledger", desc := "(III)I" } : Jvm.MethodName) ({ cls := "CapWallets", name := "ledger", desc := "(III)I" } : Jvm.MethodName)) ∈ wT := w_tab (List.mem_append_right _ (List.mem_append_right _ (List.mem_of_getElem? (i := 3) rfl))) rfl
theorem wm_2_30 : (Jvm.Cond.code ({ cls := "CapWallets$Saves", name := "push", desc := "(LCapWallets$State;)V" } : Jvm.MethodName) prog_4_method_3_code (3 : Nat) (Option.none : Option Jvm.ClassFile.FieldType)) ∈ wT := w_tab (List.mem_append_right _ (List.mem_append_right _ (List.mem_of_getElem? (i := 30) rfl))) rfl
theorem wm_2_31 : (Jvm.Cond.methodLink "CapWallets$Saves" (33 : Nat) ({ cls := "java/lang/Math", name := "min", desc := "(II)I" } : Jvm.MethodName)) ∈ wT := w_tab (List.mem_append_right _ (List.mem_append_right _ (List.mem_of_getElem? (i := 31) rfl))) rfl
theorem wm_2_32 : (Jvm.Cond.methodLink "CapWallets" (159 : Nat) ({ cls := "CapWallets$Rows", name := "put", desc := "([III)V" } : Jvm.MethodName)) ∈ wT := w_tab (List.mem_append_right _ (List.mem_append_right _ (List.mem_of_getElem? (i := 32) rfl))) rfl
theorem wm_2_33 : (Jvm.Cond.methodLink "CapWalletsLaw" (37 : Nat) ({ cls := "CapWallets", name := "remove", desc := "(I)I" } : Jvm.MethodName)) ∈ wT := w_tab (List.mem_append_right _ (List.mem_append_right _ (List.mem_of_getElem? (i := 33) rfl))) rfl
theorem wm_2_34 : (Jvm.Cond.instanceMethod ({ cls := "CapWallets", name := "remove", desc := "(I)I" } : Jvm.MethodName)) ∈ wT := w_tab (List.mem_append_right _ (List.mem_append_right _ (List.mem_of_getElem? (i := 34) rfl))) rfl
theorem wm_2_35 : (Jvm.Cond.selects "CapWallets" ({ cls := "CapWallets", name := "remove", desc := "(I)I" } : Jvm.MethodName) ({ cls := "CapWallets", name := "remove", desc := "(I)I" } : Jvm.MethodName)) ∈ wT := w_tab (List.mem_append_right _ (List.mem_append_right _ (List.mem_of_getElem? (i := 35) rfl))) rfl
theorem wm_2_36 : (Jvm.Cond.code ({ cls := "CapWallets", name := "remove", desc := "(I)I" } : Jvm.MethodName) prog_1_method_3_code (2 : Nat) (Option.some Jvm.ClassFile.FieldType.int)) ∈ wT := w_tab (List.mem_append_right _ (List.mem_append_right _ (List.mem_of_getElem? (i := 36) rfl))) rfl
theorem wm_2_37 : (Jvm.Cond.methodLink "CapWallets" (113 : Nat) ({ cls := "CapWallets$TapRow", name := "takeAway", desc := "(I)V" } : Jvm.MethodName)) ∈ wT := w_tab (List.mem_append_right _ (List.mem_append_right _ (List.mem_of_getElem? (i := 37) rfl))) rfl
theorem wm_2_38 : (Jvm.Cond.instanceMethod ({ cls := "CapWallets$TapRow", name := "takeAway", desc := "(I)V" } : Jvm.MethodName)) ∈ wT := w_tab (List.mem_append_right _ (List.mem_append_right _ (List.mem_of_getElem? (i := 38) rfl))) rfl
theorem wm_2_39 : (Jvm.Cond.selects "CapWallets$TapRow" ({ cls := "CapWallets$TapRow", name := "takeAway", desc := "(I)V" } : Jvm.MethodName) ({ cls := "CapWallets$TapRow", name := "takeAway", desc := "(I)V" } : Jvm.MethodName)) ∈ wT := w_tab (List.mem_append_right _ (List.mem_append_right _ (List.mem_of_getElem? (i := 39) rfl))) rfl
theorem wm_2_4 : (Jvm.Cond.code ({ cls := "CapWallets", name := "ledger", desc := "(III)I" } : Jvm.MethodName) prog_1_method_16_code (4 : Nat) (Option.some Jvm.ClassFile.FieldType.int)) ∈ wT := w_tab (List.mem_append_right _ (List.mem_append_right _ (List.mem_of_getElem? (i := 4) rfl))) rfl
theorem wm_2_40 : (Jvm.Cond.code ({ cls := "CapWallets$TapRow", name := "takeAway", desc := "(I)V" } : Jvm.MethodName) prog_7_method_4_code (3 : Nat) (Option.none : Option Jvm.ClassFile.FieldType)) ∈ wT := w_tab (List.mem_append_right _ (List.mem_append_right _ (List.mem_of_getElem? (i := 40) rfl))) rfl
theorem wm_2_41 : (Jvm.Cond.methodLink "CapWallets$TapRow" (25 : Nat) ({ cls := "CapWallets$TapRow", name := "tapAt", desc := "(I)I" } : Jvm.MethodName)) ∈ wT := w_tab (List.mem_append_right _ (List.mem_append_right _ (List.mem_of_getElem? (i := 41) rfl))) rfl
theorem wm_2_42 : (Jvm.Cond.methodLink "CapWallets$TapRow" (34 : Nat) ({ cls := "CapWallets$Rows", name := "put", desc := "([III)V" } : Jvm.MethodName)) ∈ wT := w_tab (List.mem_append_right _ (List.mem_append_right _ (List.mem_of_getElem? (i := 42) rfl))) rfl
theorem wm_2_43 : (Jvm.Cond.methodLink "CapWalletsLaw" (40 : Nat) ({ cls := "CapWallets", name := "settle", desc := "(I)I" } : Jvm.MethodName)) ∈ wT := w_tab (List.mem_append_right _ (List.mem_append_right _ (List.mem_of_getElem? (i := 43) rfl))) rfl
theorem wm_2_44 : (Jvm.Cond.instanceMethod ({ cls := "CapWallets", name := "settle", desc := "(I)I" } : Jvm.MethodName)) ∈ wT := w_tab (List.mem_append_right _ (List.mem_append_right _ (List.mem_of_getElem? (i := 44) rfl))) rfl
theorem wm_2_45 : (Jvm.Cond.selects "CapWallets" ({ cls := "CapWallets", name := "settle", desc := "(I)I" } : Jvm.MethodName) ({ cls := "CapWallets", name := "settle", desc := "(I)I" } : Jvm.MethodName)) ∈ wT := w_tab (List.mem_append_right _ (List.mem_append_right _ (List.mem_of_getElem? (i := 45) rfl))) rfl
theorem wm_2_46 : (Jvm.Cond.code ({ cls := "CapWallets", name := "settle", desc := "(I)I" } : Jvm.MethodName) prog_1_method_5_code (4 : Nat) (Option.some Jvm.ClassFile.FieldType.int)) ∈ wT := w_tab (List.mem_append_right _ (List.mem_append_right _ (List.mem_of_getElem? (i := 46) rfl))) rfl
theorem wm_2_48 : (Jvm.Cond.methodLink "CapWallets" (139 : Nat) ({ cls := "CapWallets$State", name := "charge", desc := "(III)I" } : Jvm.MethodName)) ∈ wT := w_tab (List.mem_append_right _ (List.mem_append_right _ (List.mem_of_getElem? (i := 48) rfl))) rfl
theorem wm_2_49 : (Jvm.Cond.instanceMethod ({ cls := "CapWallets$State", name := "charge", desc := "(III)I" } : Jvm.MethodName)) ∈ wT := w_tab (List.mem_append_right _ (List.mem_append_right _ (List.mem_of_getElem? (i := 49) rfl))) rfl
theorem wm_2_5 : (Jvm.Cond.methodLink "CapWallets" (203 : Nat) ({ cls := "CapWallets$State", name := "ledgerNumber", desc := "(III)I" } : Jvm.MethodName)) ∈ wT := w_tab (List.mem_append_right _ (List.mem_append_right _ (List.mem_of_getElem? (i := 5) rfl))) rfl
theorem wm_2_50 : (Jvm.Cond.selects "CapWallets$State" ({ cls := "CapWallets$State", name := "charge", desc := "(III)I" } : Jvm.MethodName) ({ cls := "CapWallets$State", name := "charge", desc := "(III)I" } : Jvm.MethodName)) ∈ wT := w_tab (List.mem_append_right _ (List.mem_append_right _ (List.mem_of_getElem? (i := 50) rfl))) rfl
theorem wm_2_51 : (Jvm.Cond.code ({ cls := "CapWallets$State", name := "charge", desc := "(III)I" } : Jvm.MethodName) prog_5_method_3_code (6 : Nat) (Option.some Jvm.ClassFile.FieldType.int)) ∈ wT := w_tab (List.mem_append_right _ (List.mem_append_right _ (List.mem_of_getElem? (i := 51) rfl))) rfl
theorem wm_2_53 : (Jvm.Cond.methodLink "CapWallets$State" (72 : Nat) ({ cls := "CapWallets$Rows", name := "put", desc := "([III)V" } : Jvm.MethodName)) ∈ wT := w_tab (List.mem_append_right _ (List.mem_append_right _ (List.mem_of_getElem? (i := 53) rfl))) rfl
theorem wm_2_54 : (Jvm.Cond.methodLink "CapWallets$State" (76 : Nat) ({ cls := "CapWallets$Rows", name := "raise", desc := "([III)V" } : Jvm.MethodName)) ∈ wT := w_tab (List.mem_append_right _ (List.mem_append_right _ (List.mem_of_getElem? (i := 54) rfl))) rfl
theorem wm_2_55 : (Jvm.Cond.methodLink "CapWallets$State" (79 : Nat) ({ cls := "CapWallets$State", name := "enter", desc := "([III)V" } : Jvm.MethodName)) ∈ wT := w_tab (List.mem_append_right _ (List.mem_append_right _ (List.mem_of_getElem? (i := 55) rfl))) rfl
theorem wm_2_56 : (Jvm.Cond.static ({ cls := "CapWallets$State", name := "enter", desc := "([III)V" } : Jvm.MethodName)) ∈ wT := w_tab (List.mem_append_right _ (List.mem_append_right _ (List.mem_of_getElem? (i := 56) rfl))) rfl
theorem wm_2_57 : (Jvm.Cond.code ({ cls := "CapWallets$State", name := "enter", desc := "([III)V" } : Jvm.MethodName) prog_5_method_4_code (5 : Nat) (Option.none : Option Jvm.ClassFile.FieldType)) ∈ wT := w_tab (List.mem_append_right _ (List.mem_append_right _ (List.mem_of_getElem? (i := 57) rfl))) rfl
theorem wm_2_58 : (Jvm.Cond.constant "CapWallets$State" (82 : Nat) (100000 : Int32)) ∈ wT := w_tab (List.mem_append_right _ (List.mem_append_right _ (List.mem_of_getElem? (i := 58) rfl))) rfl
theorem wm_2_59 : (Jvm.Cond.constant "CapWallets" (142 : Nat) (100000 : Int32)) ∈ wT := w_tab (List.mem_append_right _ (List.mem_append_right _ (List.mem_of_getElem? (i := 59) rfl))) rfl
theorem wm_2_6 : (Jvm.Cond.instanceMethod ({ cls := "CapWallets$State", name := "ledgerNumber", desc := "(III)I" } : Jvm.MethodName)) ∈ wT := w_tab (List.mem_append_right _ (List.mem_append_right _ (List.mem_of_getElem? (i := 6) rfl))) rfl
theorem wm_2_60 : (Jvm.Cond.methodLink "CapWalletsLaw" (43 : Nat) ({ cls := "CapWallets", name := "claim", desc := "(III)I" } : Jvm.MethodName)) ∈ wT := w_tab (List.mem_append_right _ (List.mem_append_right _ (List.mem_of_getElem? (i := 60) rfl))) rfl
theorem wm_2_61 : (Jvm.Cond.instanceMethod ({ cls := "CapWallets", name := "claim", desc := "(III)I" } : Jvm.MethodName)) ∈ wT := w_tab (List.mem_append_right _ (List.mem_append_right _ (List.mem_of_getElem? (i := 61) rfl))) rfl
theorem wm_2_62 : (Jvm.Cond.selects "CapWallets" ({ cls := "CapWallets", name := "claim", desc := "(III)I" } : Jvm.MethodName) ({ cls := "CapWallets", name := "claim", desc := "(III)I" } : Jvm.MethodName)) ∈ wT := w_tab (List.mem_append_right _ (List.mem_append_right _ (List.mem_of_getElem? (i := 62) rfl))) rfl
theorem wm_2_63 : (Jvm.Cond.code ({ cls := "CapWallets", name := "claim", desc := "(III)I" } : Jvm.MethodName) prog_1_method_4_code (5 : Nat) (Option.some Jvm.ClassFile.FieldType.int)) ∈ wT := w_tab (List.mem_append_right _ (List.mem_append_right _ (List.mem_of_getElem? (i := 63) rfl))) rfl
theorem wm_2_64 : (Jvm.Cond.methodLink "CapWallets" (69 : Nat) ({ cls := "CapWallets", name := "isMinuteStation", desc := "(II)Z" } : Jvm.MethodName)) ∈ wT := w_tab (List.mem_append_right _ (List.mem_append_right _ (List.mem_of_getElem? (i := 64) rfl))) rfl
theorem wm_2_65 : (Jvm.Cond.static ({ cls := "CapWallets", name := "isMinuteStation", desc := "(II)Z" } : Jvm.MethodName)) ∈ wT := w_tab (List.mem_append_right _ (List.mem_append_right _ (List.mem_of_getElem? (i := 65) rfl))) rfl
theorem wm_2_66 : (Jvm.Cond.code ({ cls := "CapWallets", name := "isMinuteStation", desc := "(II)Z" } : Jvm.MethodName) prog_1_method_25_code (2 : Nat) (Option.some Jvm.ClassFile.FieldType.boolean)) ∈ wT := w_tab (List.mem_append_right _ (List.mem_append_right _ (List.mem_of_getElem? (i := 66) rfl))) rfl
theorem wm_2_68 : (Jvm.Cond.methodLink "CapWallets" (119 : Nat) ({ cls := "CapWallets", name := "refusal", desc := "(III)I" } : Jvm.MethodName)) ∈ wT := w_tab (List.mem_append_right _ (List.mem_append_right _ (List.mem_of_getElem? (i := 68) rfl))) rfl
theorem wm_2_7 : (Jvm.Cond.selects "CapWallets$State" ({ cls := "CapWallets$State", name := "ledgerNumber", desc := "(III)I" } : Jvm.MethodName) ({ cls := "CapWallets$State", name := "ledgerNumber", desc := "(III)I" } : Jvm.MethodName)) ∈ wT := w_tab (List.mem_append_right _ (List.mem_append_right _ (List.mem_of_getElem? (i := 7) rfl))) rfl
theorem wm_2_70 : (Jvm.Cond.instanceMethod ({ cls := "CapWallets", name := "refusal", desc := "(III)I" } : Jvm.MethodName)) ∈ wT := w_tab (List.mem_append_right _ (List.mem_append_right _ (List.mem_of_getElem? (i := 70) rfl))) rfl
theorem wm_2_71 : (Jvm.Cond.code ({ cls := "CapWallets", name := "refusal", desc := "(III)I" } : Jvm.MethodName) prog_1_method_28_code (5 : Nat) (Option.some Jvm.ClassFile.FieldType.int)) ∈ wT := w_tab (List.mem_append_right _ (List.mem_append_right _ (List.mem_of_getElem? (i := 71) rfl))) rfl
theorem wm_2_72 : (Jvm.Cond.methodLink "CapWallets" (274 : Nat) ({ cls := "CapWallets$Tap", name := "weekOf", desc := "(I)I" } : Jvm.MethodName)) ∈ wT := w_tab (List.mem_append_right _ (List.mem_append_right _ (List.mem_of_getElem? (i := 72) rfl))) rfl
theorem wm_2_73 : (Jvm.Cond.static ({ cls := "CapWallets$Tap", name := "weekOf", desc := "(I)I" } : Jvm.MethodName)) ∈ wT := w_tab (List.mem_append_right _ (List.mem_append_right _ (List.mem_of_getElem? (i := 73) rfl))) rfl
theorem wm_2_74 : (Jvm.Cond.code ({ cls := "CapWallets$Tap", name := "weekOf", desc := "(I)I" } : Jvm.MethodName) prog_6_method_6_code (1 : Nat) (Option.some Jvm.ClassFile.FieldType.int)) ∈ wT := w_tab (List.mem_append_right _ (List.mem_append_right _ (List.mem_of_getElem? (i := 74) rfl))) rfl
theorem wm_2_75 : (Jvm.Cond.methodLink "CapWallets$Tap" (15 : Nat) ({ cls := "CapWallets$Tap", name := "dayOf", desc := "(I)I" } : Jvm.MethodName)) ∈ wT := w_tab (List.mem_append_right _ (List.mem_append_right _ (List.mem_of_getElem? (i := 75) rfl))) rfl
theorem wm_2_76 : (Jvm.Cond.methodLink "CapWallets" (280 : Nat) ({ cls := "CapWallets$Tap", name := "missingOf", desc := "(III)I" } : Jvm.MethodName)) ∈ wT := w_tab (List.mem_append_right _ (List.mem_append_right _ (List.mem_of_getElem? (i := 76) rfl))) rfl
theorem wm_2_77 : (Jvm.Cond.static ({ cls := "CapWallets$Tap", name := "missingOf", desc := "(III)I" } : Jvm.MethodName)) ∈ wT := w_tab (List.mem_append_right _ (List.mem_append_right _ (List.mem_of_getElem? (i := 77) rfl))) rfl
theorem wm_2_78 : (Jvm.Cond.code ({ cls := "CapWallets$Tap", name := "missingOf", desc := "(III)I" } : Jvm.MethodName) prog_6_method_3_code (3 : Nat) (Option.some Jvm.ClassFile.FieldType.int)) ∈ wT := w_tab (List.mem_append_right _ (List.mem_append_right _ (List.mem_of_getElem? (i := 78) rfl))) rfl
theorem wm_2_79 : (Jvm.Cond.methodLink "CapWallets$Tap" (11 : Nat) ({ cls := "CapWallets$Tap", name := "walletOf", desc := "(I)I" } : Jvm.MethodName)) ∈ wT := w_tab (List.mem_append_right _ (List.mem_append_right _ (List.mem_of_getElem? (i := 79) rfl))) rfl
theorem wm_2_8 : (Jvm.Cond.code ({ cls := "CapWallets$State", name := "ledgerNumber", desc := "(III)I" } : Jvm.MethodName) prog_5_method_5_code (4 : Nat) (Option.some Jvm.ClassFile.FieldType.int)) ∈ wT := w_tab (List.mem_append_right _ (List.mem_append_right _ (List.mem_of_getElem? (i := 8) rfl))) rfl
theorem wm_2_80 : (Jvm.Cond.methodLink "CapWallets$Tap" (18 : Nat) ({ cls := "CapWallets$Tap", name := "isIn", desc := "(I)Z" } : Jvm.MethodName)) ∈ wT := w_tab (List.mem_append_right _ (List.mem_append_right _ (List.mem_of_getElem? (i := 80) rfl))) rfl
theorem wm_2_81 : (Jvm.Cond.methodLink "CapWallets$Tap" (22 : Nat) ({ cls := "CapWallets$Tap", name := "make", desc := "(IIIIZ)I" } : Jvm.MethodName)) ∈ wT := w_tab (List.mem_append_right _ (List.mem_append_right _ (List.mem_of_getElem? (i := 81) rfl))) rfl
theorem wm_2_82 : (Jvm.Cond.static ({ cls := "CapWallets$Tap", name := "make", desc := "(IIIIZ)I" } : Jvm.MethodName)) ∈ wT := w_tab (List.mem_append_right _ (List.mem_append_right _ (List.mem_of_getElem? (i := 82) rfl))) rfl
theorem wm_2_83 : (Jvm.Cond.code ({ cls := "CapWallets$Tap", name := "make", desc := "(IIIIZ)I" } : Jvm.MethodName) prog_6_method_2_code (5 : Nat) (Option.some Jvm.ClassFile.FieldType.int)) ∈ wT := w_tab (List.mem_append_right _ (List.mem_append_right _ (List.mem_of_getElem? (i := 83) rfl))) rfl
theorem wm_2_84 : (Jvm.Cond.methodLink "CapWallets" (283 : Nat) ({ cls := "CapWallets", name := "wouldRideWith", desc := "(II)Z" } : Jvm.MethodName)) ∈ wT := w_tab (List.mem_append_right _ (List.mem_append_right _ (List.mem_of_getElem? (i := 84) rfl))) rfl
theorem wm_2_86 : (Jvm.Cond.instanceMethod ({ cls := "CapWallets", name := "wouldRideWith", desc := "(II)Z" } : Jvm.MethodName)) ∈ wT := w_tab (List.mem_append_right _ (List.mem_append_right _ (List.mem_of_getElem? (i := 86) rfl))) rfl
theorem wm_2_87 : (Jvm.Cond.code ({ cls := "CapWallets", name := "wouldRideWith", desc := "(II)Z" } : Jvm.MethodName) prog_1_method_29_code (5 : Nat) (Option.some Jvm.ClassFile.FieldType.boolean)) ∈ wT := w_tab (List.mem_append_right _ (List.mem_append_right _ (List.mem_of_getElem? (i := 87) rfl))) rfl
theorem wm_2_88 : (Jvm.Cond.methodLink "CapWallets" (286 : Nat) ({ cls := "CapWallets", name := "tryTap", desc := "(I)I" } : Jvm.MethodName)) ∈ wT := w_tab (List.mem_append_right _ (List.mem_append_right _ (List.mem_of_getElem? (i := 88) rfl))) rfl
theorem wm_2_9 : (Jvm.Cond.methodLink "CapWallets$State" (68 : Nat) ({ cls := "CapWallets$Rows", name := "at", desc := "([II)I" } : Jvm.MethodName)) ∈ wT := w_tab (List.mem_append_right _ (List.mem_append_right _ (List.mem_of_getElem? (i := 9) rfl))) rfl
theorem wm_2_90 : (Jvm.Cond.instanceMethod ({ cls := "CapWallets", name := "tryTap", desc := "(I)I" } : Jvm.MethodName)) ∈ wT := w_tab (List.mem_append_right _ (List.mem_append_right _ (List.mem_of_getElem? (i := 90) rfl))) rfl
theorem wm_2_91 : (Jvm.Cond.code ({ cls := "CapWallets", name := "tryTap", desc := "(I)I" } : Jvm.MethodName) prog_1_method_31_code (3 : Nat) (Option.some Jvm.ClassFile.FieldType.int)) ∈ wT := w_tab (List.mem_append_right _ (List.mem_append_right _ (List.mem_of_getElem? (i := 91) rfl))) rfl
theorem wm_2_92 : (Jvm.Cond.methodLink "CapWallets" (292 : Nat) ({ cls := "CapWallets$TapRow", name := "copyFrom", desc := "(LCapWallets$TapRow;)V" } : Jvm.MethodName)) ∈ wT := w_tab (List.mem_append_right _ (List.mem_append_right _ (List.mem_of_getElem? (i := 92) rfl))) rfl
theorem wm_2_93 : (Jvm.Cond.methodLink "CapWallets" (97 : Nat) ({ cls := "CapWallets$TapRow", name := "insert", desc := "(I)I" } : Jvm.MethodName)) ∈ wT := w_tab (List.mem_append_right _ (List.mem_append_right _ (List.mem_of_getElem? (i := 93) rfl))) rfl
theorem wm_2_94 : (Jvm.Cond.instanceMethod ({ cls := "CapWallets$TapRow", name := "insert", desc := "(I)I" } : Jvm.MethodName)) ∈ wT := w_tab (List.mem_append_right _ (List.mem_append_right _ (List.mem_of_getElem? (i := 94) rfl))) rfl
theorem wm_2_95 : (Jvm.Cond.selects "CapWallets$TapRow" ({ cls := "CapWallets$TapRow", name := "insert", desc := "(I)I" } : Jvm.MethodName) ({ cls := "CapWallets$TapRow", name := "insert", desc := "(I)I" } : Jvm.MethodName)) ∈ wT := w_tab (List.mem_append_right _ (List.mem_append_right _ (List.mem_of_getElem? (i := 95) rfl))) rfl
theorem wm_2_96 : (Jvm.Cond.code ({ cls := "CapWallets$TapRow", name := "insert", desc := "(I)I" } : Jvm.MethodName) prog_7_method_3_code (3 : Nat) (Option.some Jvm.ClassFile.FieldType.int)) ∈ wT := w_tab (List.mem_append_right _ (List.mem_append_right _ (List.mem_of_getElem? (i := 96) rfl))) rfl
theorem wm_2_97 : (Jvm.Cond.methodLink "CapWallets$TapRow" (29 : Nat) ({ cls := "CapWallets$Tap", name := "timeOf", desc := "(I)I" } : Jvm.MethodName)) ∈ wT := w_tab (List.mem_append_right _ (List.mem_append_right _ (List.mem_of_getElem? (i := 97) rfl))) rfl
theorem wm_2_98 : (Jvm.Cond.static ({ cls := "CapWallets$Tap", name := "timeOf", desc := "(I)I" } : Jvm.MethodName)) ∈ wT := w_tab (List.mem_append_right _ (List.mem_append_right _ (List.mem_of_getElem? (i := 98) rfl))) rfl
theorem wm_2_99 : (Jvm.Cond.code ({ cls := "CapWallets$Tap", name := "timeOf", desc := "(I)I" } : Jvm.MethodName) prog_6_method_4_code (1 : Nat) (Option.some Jvm.ClassFile.FieldType.int)) ∈ wT := w_tab (List.mem_append_right _ (List.mem_append_right _ (List.mem_of_getElem? (i := 99) rfl))) rfl
theorem wi_X0 : ∀ w ∈ u_ws RX0 TX0 9, w ∈ wT := by
  intro w hw
  obtain ⟨k, hk, rfl⟩ := List.mem_map.mp hw
  match k, List.mem_range.mp hk with
  | 0, _ => exact wm_0_114
  | 1, _ => exact wm_0_116
  | 2, _ => exact wm_0_118
  | 3, _ => exact wm_0_120
  | 4, _ => exact wm_0_122
  | 5, _ => exact wm_0_124
  | 6, _ => exact wm_0_126
  | 7, _ => exact wm_0_128
  | 8, _ => exact wm_0_130
  | k + 9, h9 => exact absurd h9 (by omega)
theorem wi_X2 : ∀ w ∈ u_ws RX2 TX2 3, w ∈ wT := by
  intro w hw
  obtain ⟨k, hk, rfl⟩ := List.mem_map.mp hw
  match k, List.mem_range.mp hk with
  | 0, _ => exact wm_0_146
  | 1, _ => exact wm_0_148
  | 2, _ => exact wm_0_150
  | k + 3, h9 => exact absurd h9 (by omega)
theorem wi_X3 : ∀ w ∈ u_ws RX3 TX3 10, w ∈ wT := by
  intro w hw
  obtain ⟨k, hk, rfl⟩ := List.mem_map.mp hw
  match k, List.mem_range.mp hk with
  | 0, _ => exact wm_0_72
  | 1, _ => exact wm_0_74
  | 2, _ => exact wm_0_76
  | 3, _ => exact wm_0_78
  | 4, _ => exact wm_0_80
  | 5, _ => exact wm_0_82
  | 6, _ => exact wm_0_84
  | 7, _ => exact wm_0_86
  | 8, _ => exact wm_0_88
  | 9, _ => exact wm_0_90
  | k + 10, h9 => exact absurd h9 (by omega)
theorem wi_X5 : ∀ w ∈ u_ws RX5 TX5 2, w ∈ wT := by
  intro w hw
  obtain ⟨k, hk, rfl⟩ := List.mem_map.mp hw
  match k, List.mem_range.mp hk with
  | 0, _ => exact wm_0_40
  | 1, _ => exact wm_0_42
  | k + 2, h9 => exact absurd h9 (by omega)
theorem wi_X6 : ∀ w ∈ u_ws RX6 TX6 8, w ∈ wT := by
  intro w hw
  obtain ⟨k, hk, rfl⟩ := List.mem_map.mp hw
  match k, List.mem_range.mp hk with
  | 0, _ => exact wm_0_169
  | 1, _ => exact wm_0_171
  | 2, _ => exact wm_0_173
  | 3, _ => exact wm_0_175
  | 4, _ => exact wm_0_177
  | 5, _ => exact wm_0_179
  | 6, _ => exact wm_0_181
  | 7, _ => exact wm_0_183
  | k + 8, h9 => exact absurd h9 (by omega)
theorem wi_X7 : ∀ w ∈ u_ws RX7 TX7 8, w ∈ wT := by
  intro w hw
  obtain ⟨k, hk, rfl⟩ := List.mem_map.mp hw
  match k, List.mem_range.mp hk with
  | 0, _ => exact wm_1_15
  | 1, _ => exact wm_1_17
  | 2, _ => exact wm_1_19
  | 3, _ => exact wm_1_21
  | 4, _ => exact wm_1_23
  | 5, _ => exact wm_1_25
  | 6, _ => exact wm_1_27
  | 7, _ => exact wm_1_29
  | k + 8, h9 => exact absurd h9 (by omega)
