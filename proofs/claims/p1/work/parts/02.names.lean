def RX0 : String := "DroverPlan$Facts"
def TX0 : u_T := fun k => match k with
  | 0 => ("DroverPlan$Facts", "x", "[I", true)
  | 1 => ("DroverPlan$Facts", "y", "[I", true)
  | 2 => ("DroverPlan$Facts", "ways", "[I", true)
  | 3 => ("DroverPlan$Facts", "fine", "[I", true)
  | 4 => ("DroverPlan$Facts", "place", "[I", true)
  | 5 => ("DroverPlan$Facts", "opens", "[I", true)
  | 6 => ("DroverPlan$Facts", "closes", "[I", true)
  | 7 => ("DroverPlan$Facts", "minutes", "[I", true)
  | 8 => ("DroverPlan$Facts", "weight", "[I", true)
  | 9 => ("DroverPlan$Facts", "placeCount", "I", false)
  | 10 => ("DroverPlan$Facts", "jobCount", "I", false)
  | _ => ("DroverPlan$Facts", "clock", "I", false)
def tyX0 : Nat → FieldType := fun k => match k with
  | 0 => .array .int
  | 1 => .array .int
  | 2 => .array .int
  | 3 => .array .int
  | 4 => .array .int
  | 5 => .array .int
  | 6 => .array .int
  | 7 => .array .int
  | 8 => .array .int
  | 9 => .int
  | 10 => .int
  | _ => .int
abbrev wsX00 : List Cond := u_ws RX0 TX0 12
theorem nmX0 : ∀ a, a < 12 → ∀ b, b < 12 → a ≠ b → (TX0 a).2.1 ≠ (TX0 b).2.1 := by decide +kernel
theorem tyX0_ok : ∀ k, k < 12 → parseFieldDescriptor (TX0 k).2.2.1 = some (tyX0 k) := by decide +kernel
abbrev cX0_init : ByteArray := prog_2_method_1_code
def yX0_init : MethodName := ⟨RX0, "<init>", "()V"⟩
abbrev cX0_isPlace : ByteArray := prog_2_method_2_code
def yX0_isPlace : MethodName := ⟨RX0, "isPlace", "(I)Z"⟩
abbrev cX0_isStop : ByteArray := prog_2_method_3_code
def yX0_isStop : MethodName := ⟨RX0, "isStop", "(I)Z"⟩
abbrev cX0_wayBetween : ByteArray := prog_2_method_4_code
def yX0_wayBetween : MethodName := ⟨RX0, "wayBetween", "(II)I"⟩
abbrev cX0_tellPlace : ByteArray := prog_2_method_5_code
def yX0_tellPlace : MethodName := ⟨RX0, "tellPlace", "(II)I"⟩
abbrev cX0_tellJob : ByteArray := prog_2_method_6_code
def yX0_tellJob : MethodName := ⟨RX0, "tellJob", "(IIIII)I"⟩
abbrev cX0_tellStop : ByteArray := prog_2_method_7_code
def yX0_tellStop : MethodName := ⟨RX0, "tellStop", "(IIII)V"⟩
abbrev cX0_tellHours : ByteArray := prog_2_method_8_code
def yX0_tellHours : MethodName := ⟨RX0, "tellHours", "(III)V"⟩
def RX1 : String := "DroverPlan$Insertion"
def TX1 : u_T := fun k => match k with
  | 0 => ("DroverPlan$Insertion", "job", "I", false)
  | 1 => ("DroverPlan$Insertion", "vehicle", "I", false)
  | 2 => ("DroverPlan$Insertion", "i", "I", false)
  | 3 => ("DroverPlan$Insertion", "k", "I", false)
  | 4 => ("DroverPlan$Insertion", "adds", "I", false)
  | _ => ("DroverPlan$Insertion", "regret", "I", false)
def tyX1 : Nat → FieldType := fun k => match k with
  | 0 => .int
  | 1 => .int
  | 2 => .int
  | 3 => .int
  | 4 => .int
  | _ => .int
abbrev wsX10 : List Cond := u_ws RX1 TX1 6
theorem nmX1 : ∀ a, a < 6 → ∀ b, b < 6 → a ≠ b → (TX1 a).2.1 ≠ (TX1 b).2.1 := by decide +kernel
theorem tyX1_ok : ∀ k, k < 6 → parseFieldDescriptor (TX1 k).2.2.1 = some (tyX1 k) := by decide +kernel
abbrev cX1_init : ByteArray := prog_3_method_1_code
def yX1_init : MethodName := ⟨RX1, "<init>", "()V"⟩
abbrev cX1_become : ByteArray := prog_3_method_2_code
def yX1_become : MethodName := ⟨RX1, "become", "(LDroverPlan$Insertion;)V"⟩
abbrev cX1_comesBefore : ByteArray := prog_3_method_3_code
def yX1_comesBefore : MethodName := ⟨RX1, "comesBefore", "(LDroverPlan$Insertion;)Z"⟩
def RX2 : String := "DroverPlan$Row"
def TX2 : u_T := fun k => match k with
  | 0 => ("DroverPlan$Row", "stops", "[I", true)
  | _ => ("DroverPlan$Row", "many", "I", false)
def tyX2 : Nat → FieldType := fun k => match k with
  | 0 => .array .int
  | _ => .int
abbrev wsX20 : List Cond := u_ws RX2 TX2 2
theorem nmX2 : ∀ a, a < 2 → ∀ b, b < 2 → a ≠ b → (TX2 a).2.1 ≠ (TX2 b).2.1 := by decide +kernel
theorem tyX2_ok : ∀ k, k < 2 → parseFieldDescriptor (TX2 k).2.2.1 = some (tyX2 k) := by decide +kernel
abbrev cX2_init : ByteArray := prog_4_method_1_code
def yX2_init : MethodName := ⟨RX2, "<init>", "()V"⟩
abbrev cX2_at : ByteArray := prog_4_method_2_code
def yX2_at : MethodName := ⟨RX2, "at", "(I)I"⟩
abbrev cX2_find : ByteArray := prog_4_method_3_code
def yX2_find : MethodName := ⟨RX2, "find", "(I)I"⟩
abbrev cX2_holdsPair : ByteArray := prog_4_method_4_code
def yX2_holdsPair : MethodName := ⟨RX2, "holdsPair", "(II)Z"⟩
abbrev cX2_splitsJob : ByteArray := prog_4_method_5_code
def yX2_splitsJob : MethodName := ⟨RX2, "splitsJob", "(I)Z"⟩
abbrev cX2_add : ByteArray := prog_4_method_6_code
def yX2_add : MethodName := ⟨RX2, "add", "(I)V"⟩
abbrev cX2_addPart : ByteArray := prog_4_method_7_code
def yX2_addPart : MethodName := ⟨RX2, "addPart", "(LDroverPlan$Row;II)V"⟩
abbrev cX2_become : ByteArray := prog_4_method_8_code
def yX2_become : MethodName := ⟨RX2, "become", "(LDroverPlan$Row;)V"⟩
abbrev cX2_becomeWithout : ByteArray := prog_4_method_9_code
def yX2_becomeWithout : MethodName := ⟨RX2, "becomeWithout", "(LDroverPlan$Row;I)V"⟩
abbrev cX2_becomeWith : ByteArray := prog_4_method_10_code
def yX2_becomeWith : MethodName := ⟨RX2, "becomeWith", "(LDroverPlan$Row;III)V"⟩
abbrev cX2_becomeSwapped : ByteArray := prog_4_method_11_code
def yX2_becomeSwapped : MethodName := ⟨RX2, "becomeSwapped", "(LDroverPlan$Row;II)V"⟩
abbrev cX2_becomeTurned : ByteArray := prog_4_method_12_code
def yX2_becomeTurned : MethodName := ⟨RX2, "becomeTurned", "(LDroverPlan$Row;II)V"⟩
abbrev cX2_becomeJoined : ByteArray := prog_4_method_13_code
def yX2_becomeJoined : MethodName := ⟨RX2, "becomeJoined", "(LDroverPlan$Row;ILDroverPlan$Row;I)V"⟩
def RX3 : String := "DroverPlan$Trip"
def TX3 : u_T := fun k => match k with
  | 0 => ("DroverPlan$Trip", "where", "I", false)
  | 1 => ("DroverPlan$Trip", "arrive", "I", false)
  | 2 => ("DroverPlan$Trip", "begin", "I", false)
  | 3 => ("DroverPlan$Trip", "leave", "I", false)
  | 4 => ("DroverPlan$Trip", "load", "I", false)
  | 5 => ("DroverPlan$Trip", "set", "I", false)
  | 6 => ("DroverPlan$Trip", "waited", "I", false)
  | 7 => ("DroverPlan$Trip", "distance", "I", false)
  | 8 => ("DroverPlan$Trip", "carried", "I", false)
  | _ => ("DroverPlan$Trip", "right", "Z", false)
def tyX3 : Nat → FieldType := fun k => match k with
  | 0 => .int
  | 1 => .int
  | 2 => .int
  | 3 => .int
  | 4 => .int
  | 5 => .int
  | 6 => .int
  | 7 => .int
  | 8 => .int
  | _ => .boolean
abbrev wsX30 : List Cond := u_ws RX3 TX3 10
theorem nmX3 : ∀ a, a < 10 → ∀ b, b < 10 → a ≠ b → (TX3 a).2.1 ≠ (TX3 b).2.1 := by decide +kernel
theorem tyX3_ok : ∀ k, k < 10 → parseFieldDescriptor (TX3 k).2.2.1 = some (tyX3 k) := by decide +kernel
abbrev cX3_init : ByteArray := prog_5_method_1_code
def yX3_init : MethodName := ⟨RX3, "<init>", "()V"⟩
abbrev cX3_start : ByteArray := prog_5_method_2_code
def yX3_start : MethodName := ⟨RX3, "start", "(LDroverPlan$Vehicle;)V"⟩
abbrev cX3_goOn : ByteArray := prog_5_method_3_code
def yX3_goOn : MethodName := ⟨RX3, "goOn", "(II)V"⟩
abbrev cX3_visit : ByteArray := prog_5_method_4_code
def yX3_visit : MethodName := ⟨RX3, "visit", "(LDroverPlan$Facts;LDroverPlan$Vehicle;I)V"⟩
abbrev cX3_goHome : ByteArray := prog_5_method_5_code
def yX3_goHome : MethodName := ⟨RX3, "goHome", "(LDroverPlan$Facts;LDroverPlan$Vehicle;)V"⟩
abbrev cX3_ride : ByteArray := prog_5_method_6_code
def yX3_ride : MethodName := ⟨RX3, "ride", "(LDroverPlan$Facts;LDroverPlan$Vehicle;LDroverPlan$Row;)I"⟩
abbrev cX3_rideDelayed : ByteArray := prog_5_method_7_code
def yX3_rideDelayed : MethodName := ⟨RX3, "rideDelayed", "(LDroverPlan$Facts;LDroverPlan$Vehicle;LDroverPlan$Row;II)V"⟩
abbrev cX3_isRideRight : ByteArray := prog_5_method_8_code
def yX3_isRideRight : MethodName := ⟨RX3, "isRideRight", "(LDroverPlan$Facts;LDroverPlan$Vehicle;LDroverPlan$Row;)Z"⟩
abbrev cX3_isAllowed : ByteArray := prog_5_method_9_code
def yX3_isAllowed : MethodName := ⟨RX3, "isAllowed", "(LDroverPlan$Vehicle;)Z"⟩
def RX4 : String := "DroverPlan$Vehicle"
def TX4 : u_T := fun k => match k with
  | 0 => ("DroverPlan$Vehicle", "home", "I", false)
  | 1 => ("DroverPlan$Vehicle", "capacity", "I", false)
  | 2 => ("DroverPlan$Vehicle", "leaves", "I", false)
  | 3 => ("DroverPlan$Vehicle", "due", "I", false)
  | 4 => ("DroverPlan$Vehicle", "price", "I", false)
  | 5 => ("DroverPlan$Vehicle", "fixed", "I", false)
  | 6 => ("DroverPlan$Vehicle", "set", "I", false)
  | 7 => ("DroverPlan$Vehicle", "before", "I", false)
  | 8 => ("DroverPlan$Vehicle", "row", "LDroverPlan$Row;", true)
  | 9 => ("DroverPlan$Vehicle", "tried", "LDroverPlan$Row;", true)
  | _ => ("DroverPlan$Vehicle", "after", "LDroverPlan$Row;", true)
def tyX4 : Nat → FieldType := fun k => match k with
  | 0 => .int
  | 1 => .int
  | 2 => .int
  | 3 => .int
  | 4 => .int
  | 5 => .int
  | 6 => .int
  | 7 => .int
  | 8 => .object "DroverPlan$Row"
  | 9 => .object "DroverPlan$Row"
  | _ => .object "DroverPlan$Row"
abbrev wsX40 : List Cond := u_ws RX4 TX4 11
theorem nmX4 : ∀ a, a < 11 → ∀ b, b < 11 → a ≠ b → (TX4 a).2.1 ≠ (TX4 b).2.1 := by decide +kernel
theorem tyX4_ok : ∀ k, k < 11 → parseFieldDescriptor (TX4 k).2.2.1 = some (tyX4 k) := by decide +kernel
abbrev cX4_init : ByteArray := prog_6_method_1_code
def yX4_init : MethodName := ⟨RX4, "<init>", "()V"⟩
def RX5 : String := "DroverPlan"
def TX5 : u_T := fun k => match k with
  | 0 => ("DroverPlan", "facts", "LDroverPlan$Facts;", true)
  | 1 => ("DroverPlan", "fleet", "[LDroverPlan$Vehicle;", true)
  | 2 => ("DroverPlan", "trip", "LDroverPlan$Trip;", true)
  | 3 => ("DroverPlan", "shortened", "LDroverPlan$Row;", true)
  | 4 => ("DroverPlan", "found", "LDroverPlan$Insertion;", true)
  | 5 => ("DroverPlan", "best", "LDroverPlan$Insertion;", true)
  | 6 => ("DroverPlan", "chosen", "LDroverPlan$Insertion;", true)
  | 7 => ("DroverPlan", "fleetSize", "I", false)
  | _ => ("DroverPlan", "bestGain", "I", false)
def tyX5 : Nat → FieldType := fun k => match k with
  | 0 => .object "DroverPlan$Facts"
  | 1 => .array (.object "DroverPlan$Vehicle")
  | 2 => .object "DroverPlan$Trip"
  | 3 => .object "DroverPlan$Row"
  | 4 => .object "DroverPlan$Insertion"
  | 5 => .object "DroverPlan$Insertion"
  | 6 => .object "DroverPlan$Insertion"
  | 7 => .int
  | _ => .int
abbrev wsX50 : List Cond := u_ws RX5 TX5 9
theorem nmX5 : ∀ a, a < 9 → ∀ b, b < 9 → a ≠ b → (TX5 a).2.1 ≠ (TX5 b).2.1 := by decide +kernel
theorem tyX5_ok : ∀ k, k < 9 → parseFieldDescriptor (TX5 k).2.2.1 = some (tyX5 k) := by decide +kernel
abbrev cX5_init : ByteArray := prog_1_method_1_code
def yX5_init : MethodName := ⟨RX5, "<init>", "()V"⟩
abbrev cX5_addPlace : ByteArray := prog_1_method_2_code
def yX5_addPlace : MethodName := ⟨RX5, "addPlace", "(II)I"⟩
abbrev cX5_addVehicle : ByteArray := prog_1_method_3_code
def yX5_addVehicle : MethodName := ⟨RX5, "addVehicle", "(IIIIII)I"⟩
abbrev cX5_addJob : ByteArray := prog_1_method_4_code
def yX5_addJob : MethodName := ⟨RX5, "addJob", "(IIIII)I"⟩
abbrev cX5_setHours : ByteArray := prog_1_method_5_code
def yX5_setHours : MethodName := ⟨RX5, "setHours", "(IZII)Z"⟩
abbrev cX5_insert : ByteArray := prog_1_method_6_code
def yX5_insert : MethodName := ⟨RX5, "insert", "(I)I"⟩
abbrev cX5_insertAt : ByteArray := prog_1_method_7_code
def yX5_insertAt : MethodName := ⟨RX5, "insertAt", "(IIII)I"⟩
abbrev cX5_take : ByteArray := prog_1_method_8_code
def yX5_take : MethodName := ⟨RX5, "take", "(I)I"⟩
abbrev cX5_rebuild : ByteArray := prog_1_method_9_code
def yX5_rebuild : MethodName := ⟨RX5, "rebuild", "()I"⟩
abbrev cX5_ruin : ByteArray := prog_1_method_10_code
def yX5_ruin : MethodName := ⟨RX5, "ruin", "(I)I"⟩
abbrev cX5_change : ByteArray := prog_1_method_11_code
def yX5_change : MethodName := ⟨RX5, "change", "(I)I"⟩
abbrev cX5_improve : ByteArray := prog_1_method_12_code
def yX5_improve : MethodName := ⟨RX5, "improve", "(I)I"⟩
abbrev cX5_repair : ByteArray := prog_1_method_13_code
def yX5_repair : MethodName := ⟨RX5, "repair", "(I)I"⟩
abbrev cX5_advance : ByteArray := prog_1_method_14_code
def yX5_advance : MethodName := ⟨RX5, "advance", "(I)I"⟩
abbrev cX5_clock : ByteArray := prog_1_method_15_code
def yX5_clock : MethodName := ⟨RX5, "clock", "()I"⟩
abbrev cX5_places : ByteArray := prog_1_method_16_code
def yX5_places : MethodName := ⟨RX5, "places", "()I"⟩
abbrev cX5_vehicles : ByteArray := prog_1_method_17_code
def yX5_vehicles : MethodName := ⟨RX5, "vehicles", "()I"⟩
abbrev cX5_jobs : ByteArray := prog_1_method_18_code
def yX5_jobs : MethodName := ⟨RX5, "jobs", "()I"⟩
abbrev cX5_way : ByteArray := prog_1_method_19_code
def yX5_way : MethodName := ⟨RX5, "way", "(II)I"⟩
abbrev cX5_vehicleOf : ByteArray := prog_1_method_20_code
def yX5_vehicleOf : MethodName := ⟨RX5, "vehicleOf", "(I)I"⟩
abbrev cX5_isSet : ByteArray := prog_1_method_21_code
def yX5_isSet : MethodName := ⟨RX5, "isSet", "(I)Z"⟩
abbrev cX5_stops : ByteArray := prog_1_method_22_code
def yX5_stops : MethodName := ⟨RX5, "stops", "(I)I"⟩
abbrev cX5_setStops : ByteArray := prog_1_method_23_code
def yX5_setStops : MethodName := ⟨RX5, "setStops", "(I)I"⟩
abbrev cX5_jobAt : ByteArray := prog_1_method_24_code
def yX5_jobAt : MethodName := ⟨RX5, "jobAt", "(II)I"⟩
abbrev cX5_isFetched : ByteArray := prog_1_method_25_code
def yX5_isFetched : MethodName := ⟨RX5, "isFetched", "(II)Z"⟩
abbrev cX5_arrives : ByteArray := prog_1_method_26_code
def yX5_arrives : MethodName := ⟨RX5, "arrives", "(II)I"⟩
abbrev cX5_begins : ByteArray := prog_1_method_27_code
def yX5_begins : MethodName := ⟨RX5, "begins", "(II)I"⟩
abbrev cX5_loadBehind : ByteArray := prog_1_method_28_code
def yX5_loadBehind : MethodName := ⟨RX5, "loadBehind", "(II)I"⟩
abbrev cX5_slack : ByteArray := prog_1_method_29_code
def yX5_slack : MethodName := ⟨RX5, "slack", "(II)I"⟩
abbrev cX5_back : ByteArray := prog_1_method_30_code
def yX5_back : MethodName := ⟨RX5, "back", "(I)I"⟩
abbrev cX5_waits : ByteArray := prog_1_method_31_code
def yX5_waits : MethodName := ⟨RX5, "waits", "(I)I"⟩
abbrev cX5_isRight : ByteArray := prog_1_method_32_code
def yX5_isRight : MethodName := ⟨RX5, "isRight", "(I)Z"⟩
abbrev cX5_length : ByteArray := prog_1_method_33_code
def yX5_length : MethodName := ⟨RX5, "length", "(I)I"⟩
abbrev cX5_costOf : ByteArray := prog_1_method_34_code
def yX5_costOf : MethodName := ⟨RX5, "costOf", "(I)I"⟩
abbrev cX5_cost : ByteArray := prog_1_method_35_code
def yX5_cost : MethodName := ⟨RX5, "cost", "()I"⟩
abbrev cX5_fullness : ByteArray := prog_1_method_36_code
def yX5_fullness : MethodName := ⟨RX5, "fullness", "()D"⟩
abbrev cX5_wouldAdd : ByteArray := prog_1_method_37_code
def yX5_wouldAdd : MethodName := ⟨RX5, "wouldAdd", "(II)I"⟩
abbrev cX5_gain : ByteArray := prog_1_method_38_code
def yX5_gain : MethodName := ⟨RX5, "gain", "(I)I"⟩
abbrev cX5_laterBack : ByteArray := prog_1_method_39_code
def yX5_laterBack : MethodName := ⟨RX5, "laterBack", "(III)I"⟩
abbrev cX5_costWithout : ByteArray := prog_1_method_40_code
def yX5_costWithout : MethodName := ⟨RX5, "costWithout", "(I)I"⟩
abbrev cX5_digest : ByteArray := prog_1_method_41_code
def yX5_digest : MethodName := ⟨RX5, "digest", "()J"⟩
abbrev cX5_digestOfVehicle : ByteArray := prog_1_method_42_code
def yX5_digestOfVehicle : MethodName := ⟨RX5, "digestOfVehicle", "(JLDroverPlan$Vehicle;)J"⟩
abbrev cX5_isOutside : ByteArray := prog_1_method_43_code
def yX5_isOutside : MethodName := ⟨RX5, "isOutside", "(III)Z"⟩
abbrev cX5_checkHours : ByteArray := prog_1_method_44_code
def yX5_checkHours : MethodName := ⟨RX5, "checkHours", "(II)V"⟩
abbrev cX5_checkKind : ByteArray := prog_1_method_45_code
def yX5_checkKind : MethodName := ⟨RX5, "checkKind", "(I)V"⟩
abbrev cX5_checkPlace : ByteArray := prog_1_method_46_code
def yX5_checkPlace : MethodName := ⟨RX5, "checkPlace", "(I)V"⟩
abbrev cX5_checkVehicle : ByteArray := prog_1_method_47_code
def yX5_checkVehicle : MethodName := ⟨RX5, "checkVehicle", "(I)V"⟩
abbrev cX5_checkStop : ByteArray := prog_1_method_48_code
def yX5_checkStop : MethodName := ⟨RX5, "checkStop", "(II)V"⟩
abbrev cX5_checkJob : ByteArray := prog_1_method_49_code
def yX5_checkJob : MethodName := ⟨RX5, "checkJob", "(I)V"⟩
abbrev cX5_checkOpen : ByteArray := prog_1_method_50_code
def yX5_checkOpen : MethodName := ⟨RX5, "checkOpen", "(I)V"⟩
abbrev cX5_fetchOf : ByteArray := prog_1_method_51_code
def yX5_fetchOf : MethodName := ⟨RX5, "fetchOf", "(I)I"⟩
abbrev cX5_bringOf : ByteArray := prog_1_method_52_code
def yX5_bringOf : MethodName := ⟨RX5, "bringOf", "(I)I"⟩
abbrev cX5_jobOf : ByteArray := prog_1_method_53_code
def yX5_jobOf : MethodName := ⟨RX5, "jobOf", "(I)I"⟩
abbrev cX5_isFetch : ByteArray := prog_1_method_54_code
def yX5_isFetch : MethodName := ⟨RX5, "isFetch", "(I)Z"⟩
abbrev cX5_carrierOf : ByteArray := prog_1_method_55_code
def yX5_carrierOf : MethodName := ⟨RX5, "carrierOf", "(I)I"⟩
abbrev cX5_isBound : ByteArray := prog_1_method_56_code
def yX5_isBound : MethodName := ⟨RX5, "isBound", "(I)Z"⟩
abbrev cX5_isMovable : ByteArray := prog_1_method_57_code
def yX5_isMovable : MethodName := ⟨RX5, "isMovable", "(I)Z"⟩
abbrev cX5_takeOut : ByteArray := prog_1_method_58_code
def yX5_takeOut : MethodName := ⟨RX5, "takeOut", "(I)V"⟩
abbrev cX5_rideWhole : ByteArray := prog_1_method_59_code
def yX5_rideWhole : MethodName := ⟨RX5, "rideWhole", "(LDroverPlan$Vehicle;)V"⟩
abbrev cX5_rideTo : ByteArray := prog_1_method_60_code
def yX5_rideTo : MethodName := ⟨RX5, "rideTo", "(LDroverPlan$Vehicle;I)V"⟩
abbrev cX5_areAllRight : ByteArray := prog_1_method_61_code
def yX5_areAllRight : MethodName := ⟨RX5, "areAllRight", "()Z"⟩
abbrev cX5_costOfAll : ByteArray := prog_1_method_62_code
def yX5_costOfAll : MethodName := ⟨RX5, "costOfAll", "()I"⟩
abbrev cX5_savedWithout : ByteArray := prog_1_method_63_code
def yX5_savedWithout : MethodName := ⟨RX5, "savedWithout", "(I)I"⟩
abbrev cX5_slackBehind : ByteArray := prog_1_method_64_code
def yX5_slackBehind : MethodName := ⟨RX5, "slackBehind", "(LDroverPlan$Vehicle;II)I"⟩
abbrev cX5_detour : ByteArray := prog_1_method_65_code
def yX5_detour : MethodName := ⟨RX5, "detour", "(III)I"⟩
abbrev cX5_placeAt : ByteArray := prog_1_method_66_code
def yX5_placeAt : MethodName := ⟨RX5, "placeAt", "(LDroverPlan$Vehicle;LDroverPlan$Row;I)I"⟩
abbrev cX5_addsAt : ByteArray := prog_1_method_67_code
def yX5_addsAt : MethodName := ⟨RX5, "addsAt", "(LDroverPlan$Vehicle;LDroverPlan$Row;III)I"⟩
abbrev cX5_searchInsertion : ByteArray := prog_1_method_68_code
def yX5_searchInsertion : MethodName := ⟨RX5, "searchInsertion", "(ILDroverPlan$Vehicle;LDroverPlan$Row;I)V"⟩
abbrev cX5_searchAllVehicles : ByteArray := prog_1_method_69_code
def yX5_searchAllVehicles : MethodName := ⟨RX5, "searchAllVehicles", "(I)V"⟩
abbrev cX5_put : ByteArray := prog_1_method_70_code
def yX5_put : MethodName := ⟨RX5, "put", "(LDroverPlan$Insertion;)V"⟩
abbrev cX5_chooseByRegret : ByteArray := prog_1_method_71_code
def yX5_chooseByRegret : MethodName := ⟨RX5, "chooseByRegret", "()Z"⟩
abbrev cX5_dearestJob : ByteArray := prog_1_method_72_code
def yX5_dearestJob : MethodName := ⟨RX5, "dearestJob", "()I"⟩
abbrev cX5_jobToRepair : ByteArray := prog_1_method_73_code
def yX5_jobToRepair : MethodName := ⟨RX5, "jobToRepair", "(LDroverPlan$Vehicle;)I"⟩
abbrev cX5_startSearch : ByteArray := prog_1_method_74_code
def yX5_startSearch : MethodName := ⟨RX5, "startSearch", "()V"⟩
abbrev cX5_searchKind : ByteArray := prog_1_method_75_code
def yX5_searchKind : MethodName := ⟨RX5, "searchKind", "(I)V"⟩
abbrev cX5_makeBestChange : ByteArray := prog_1_method_76_code
def yX5_makeBestChange : MethodName := ⟨RX5, "makeBestChange", "()V"⟩
abbrev cX5_keep : ByteArray := prog_1_method_77_code
def yX5_keep : MethodName := ⟨RX5, "keep", "(ILDroverPlan$Vehicle;LDroverPlan$Vehicle;)V"⟩
abbrev cX5_offer : ByteArray := prog_1_method_78_code
def yX5_offer : MethodName := ⟨RX5, "offer", "(LDroverPlan$Vehicle;LDroverPlan$Vehicle;)V"⟩
abbrev cX5_searchMoves : ByteArray := prog_1_method_79_code
def yX5_searchMoves : MethodName := ⟨RX5, "searchMoves", "()V"⟩
abbrev cX5_searchSwaps : ByteArray := prog_1_method_80_code
def yX5_searchSwaps : MethodName := ⟨RX5, "searchSwaps", "()V"⟩
abbrev cX5_searchTurns : ByteArray := prog_1_method_81_code
def yX5_searchTurns : MethodName := ⟨RX5, "searchTurns", "()V"⟩
abbrev cX5_searchEnds : ByteArray := prog_1_method_82_code
def yX5_searchEnds : MethodName := ⟨RX5, "searchEnds", "()V"⟩
def RX6 : String := "DroverPlanModel"
def TX6 : u_T := fun k => match k with
  | 0 => ("DroverPlanModel", "thrown", "I", false)
  | 1 => ("DroverPlanModel", "places", "I", false)
  | 2 => ("DroverPlanModel", "vehicles", "I", false)
  | 3 => ("DroverPlanModel", "jobs", "I", false)
  | 4 => ("DroverPlanModel", "clock", "I", false)
  | 5 => ("DroverPlanModel", "place", "[[I", true)
  | 6 => ("DroverPlanModel", "vehicle", "[[I", true)
  | 7 => ("DroverPlanModel", "job", "[[I", true)
  | 8 => ("DroverPlanModel", "route", "[[I", false)
  | 9 => ("DroverPlanModel", "most", "I", false)
  | 10 => ("DroverPlanModel", "bestPlan", "[[I", false)
  | _ => ("DroverPlanModel", "sum", "J", false)
def tyX6 : Nat → FieldType := fun k => match k with
  | 0 => .int
  | 1 => .int
  | 2 => .int
  | 3 => .int
  | 4 => .int
  | 5 => .array (.array .int)
  | 6 => .array (.array .int)
  | 7 => .array (.array .int)
  | 8 => .array (.array .int)
  | 9 => .int
  | 10 => .array (.array .int)
  | _ => .long
abbrev wsX60 : List Cond := u_ws RX6 TX6 12
theorem nmX6 : ∀ a, a < 12 → ∀ b, b < 12 → a ≠ b → (TX6 a).2.1 ≠ (TX6 b).2.1 := by decide +kernel
theorem tyX6_ok : ∀ k, k < 12 → parseFieldDescriptor (TX6 k).2.2.1 = some (tyX6 k) := by decide +kernel
abbrev cX6_init : ByteArray := prog_8_method_1_code
def yX6_init : MethodName := ⟨RX6, "<init>", "()V"⟩
abbrev cX6_thrown : ByteArray := prog_8_method_2_code
def yX6_thrown : MethodName := ⟨RX6, "thrown", "()I"⟩
abbrev cX6_refuse : ByteArray := prog_8_method_3_code
def yX6_refuse : MethodName := ⟨RX6, "refuse", "(I)I"⟩
abbrev cX6_is : ByteArray := prog_8_method_4_code
def yX6_is : MethodName := ⟨RX6, "is", "(III)Z"⟩
abbrev cX6_isPlace : ByteArray := prog_8_method_5_code
def yX6_isPlace : MethodName := ⟨RX6, "isPlace", "(I)Z"⟩
abbrev cX6_isVehicle : ByteArray := prog_8_method_6_code
def yX6_isVehicle : MethodName := ⟨RX6, "isVehicle", "(I)Z"⟩
abbrev cX6_isJob : ByteArray := prog_8_method_7_code
def yX6_isJob : MethodName := ⟨RX6, "isJob", "(I)Z"⟩
abbrev cX6_wayOf : ByteArray := prog_8_method_8_code
def yX6_wayOf : MethodName := ⟨RX6, "wayOf", "(II)I"⟩
abbrev cX6_placeOf : ByteArray := prog_8_method_9_code
def yX6_placeOf : MethodName := ⟨RX6, "placeOf", "(I)I"⟩
abbrev cX6_placeAhead : ByteArray := prog_8_method_10_code
def yX6_placeAhead : MethodName := ⟨RX6, "placeAhead", "(I[II)I"⟩
abbrev cX6_hour : ByteArray := prog_8_method_11_code
def yX6_hour : MethodName := ⟨RX6, "hour", "(II)I"⟩
abbrev cX6_times : ByteArray := prog_8_method_12_code
def yX6_times : MethodName := ⟨RX6, "times", "(I[I)[[I"⟩
abbrev cX6_backOf : ByteArray := prog_8_method_13_code
def yX6_backOf : MethodName := ⟨RX6, "backOf", "(I[I)I"⟩
abbrev cX6_isRightOne : ByteArray := prog_8_method_14_code
def yX6_isRightOne : MethodName := ⟨RX6, "isRightOne", "(I[I)Z"⟩
abbrev cX6_setOf : ByteArray := prog_8_method_15_code
def yX6_setOf : MethodName := ⟨RX6, "setOf", "(I[I)I"⟩
abbrev cX6_lengthOf : ByteArray := prog_8_method_16_code
def yX6_lengthOf : MethodName := ⟨RX6, "lengthOf", "(I[I)I"⟩
abbrev cX6_costOne : ByteArray := prog_8_method_17_code
def yX6_costOne : MethodName := ⟨RX6, "costOne", "(I[I)I"⟩
abbrev cX6_areRight : ByteArray := prog_8_method_18_code
def yX6_areRight : MethodName := ⟨RX6, "areRight", "()Z"⟩
abbrev cX6_may : ByteArray := prog_8_method_19_code
def yX6_may : MethodName := ⟨RX6, "may", "(I[I)Z"⟩
abbrev cX6_find : ByteArray := prog_8_method_20_code
def yX6_find : MethodName := ⟨RX6, "find", "([II)I"⟩
abbrev cX6_whose : ByteArray := prog_8_method_21_code
def yX6_whose : MethodName := ⟨RX6, "whose", "(I)I"⟩
abbrev cX6_isSetJob : ByteArray := prog_8_method_22_code
def yX6_isSetJob : MethodName := ⟨RX6, "isSetJob", "(I)Z"⟩
abbrev cX6_without : ByteArray := prog_8_method_23_code
def yX6_without : MethodName := ⟨RX6, "without", "([II)[I"⟩
abbrev cX6_with : ByteArray := prog_8_method_24_code
def yX6_with : MethodName := ⟨RX6, "with", "([IIII)[I"⟩
abbrev cX6_joined : ByteArray := prog_8_method_25_code
def yX6_joined : MethodName := ⟨RX6, "joined", "([II[II)[I"⟩
abbrev cX6_areWhole : ByteArray := prog_8_method_26_code
def yX6_areWhole : MethodName := ⟨RX6, "areWhole", "([I)Z"⟩
abbrev cX6_bestInto : ByteArray := prog_8_method_27_code
def yX6_bestInto : MethodName := ⟨RX6, "bestInto", "(II[I)[I"⟩
abbrev cX6_bestOf : ByteArray := prog_8_method_28_code
def yX6_bestOf : MethodName := ⟨RX6, "bestOf", "(I)[I"⟩
abbrev cX6_regret : ByteArray := prog_8_method_29_code
def yX6_regret : MethodName := ⟨RX6, "regret", "(I[I)I"⟩
abbrev cX6_costOfRoutes : ByteArray := prog_8_method_30_code
def yX6_costOfRoutes : MethodName := ⟨RX6, "costOfRoutes", "([[I)I"⟩
abbrev cX6_look : ByteArray := prog_8_method_31_code
def yX6_look : MethodName := ⟨RX6, "look", "(I[II[I)V"⟩
abbrev cX6_lookAtMoves : ByteArray := prog_8_method_32_code
def yX6_lookAtMoves : MethodName := ⟨RX6, "lookAtMoves", "()V"⟩
abbrev cX6_swapped : ByteArray := prog_8_method_33_code
def yX6_swapped : MethodName := ⟨RX6, "swapped", "([III)[I"⟩
abbrev cX6_lookAtSwaps : ByteArray := prog_8_method_34_code
def yX6_lookAtSwaps : MethodName := ⟨RX6, "lookAtSwaps", "()V"⟩
abbrev cX6_lookAtTurns : ByteArray := prog_8_method_35_code
def yX6_lookAtTurns : MethodName := ⟨RX6, "lookAtTurns", "()V"⟩
abbrev cX6_lookAtEnds : ByteArray := prog_8_method_36_code
def yX6_lookAtEnds : MethodName := ⟨RX6, "lookAtEnds", "()V"⟩
abbrev cX6_gainOf : ByteArray := prog_8_method_37_code
def yX6_gainOf : MethodName := ⟨RX6, "gainOf", "(I)I"⟩
abbrev cX6_make : ByteArray := prog_8_method_38_code
def yX6_make : MethodName := ⟨RX6, "make", "(I)I"⟩
abbrev cX6_addPlace : ByteArray := prog_8_method_39_code
def yX6_addPlace : MethodName := ⟨RX6, "addPlace", "(II)I"⟩
abbrev cX6_addVehicle : ByteArray := prog_8_method_40_code
def yX6_addVehicle : MethodName := ⟨RX6, "addVehicle", "(IIIIII)I"⟩
abbrev cX6_addJob : ByteArray := prog_8_method_41_code
def yX6_addJob : MethodName := ⟨RX6, "addJob", "(IIIII)I"⟩
abbrev cX6_setHours : ByteArray := prog_8_method_42_code
def yX6_setHours : MethodName := ⟨RX6, "setHours", "(IZII)Z"⟩
abbrev cX6_put : ByteArray := prog_8_method_43_code
def yX6_put : MethodName := ⟨RX6, "put", "(I[I)I"⟩
abbrev cX6_insert : ByteArray := prog_8_method_44_code
def yX6_insert : MethodName := ⟨RX6, "insert", "(I)I"⟩
abbrev cX6_insertAt : ByteArray := prog_8_method_45_code
def yX6_insertAt : MethodName := ⟨RX6, "insertAt", "(IIII)I"⟩
abbrev cX6_saved : ByteArray := prog_8_method_46_code
def yX6_saved : MethodName := ⟨RX6, "saved", "(I)I"⟩
abbrev cX6_takeOut : ByteArray := prog_8_method_47_code
def yX6_takeOut : MethodName := ⟨RX6, "takeOut", "(I)I"⟩
abbrev cX6_take : ByteArray := prog_8_method_48_code
def yX6_take : MethodName := ⟨RX6, "take", "(I)I"⟩
abbrev cX6_nextToPut : ByteArray := prog_8_method_49_code
def yX6_nextToPut : MethodName := ⟨RX6, "nextToPut", "()[I"⟩
abbrev cX6_rebuild : ByteArray := prog_8_method_50_code
def yX6_rebuild : MethodName := ⟨RX6, "rebuild", "()I"⟩
abbrev cX6_ruin : ByteArray := prog_8_method_51_code
def yX6_ruin : MethodName := ⟨RX6, "ruin", "(I)I"⟩
abbrev cX6_change : ByteArray := prog_8_method_52_code
def yX6_change : MethodName := ⟨RX6, "change", "(I)I"⟩
abbrev cX6_improve : ByteArray := prog_8_method_53_code
def yX6_improve : MethodName := ⟨RX6, "improve", "(I)I"⟩
abbrev cX6_toTake : ByteArray := prog_8_method_54_code
def yX6_toTake : MethodName := ⟨RX6, "toTake", "(I)I"⟩
abbrev cX6_repair : ByteArray := prog_8_method_55_code
def yX6_repair : MethodName := ⟨RX6, "repair", "(I)I"⟩
abbrev cX6_setNow : ByteArray := prog_8_method_56_code
def yX6_setNow : MethodName := ⟨RX6, "setNow", "()I"⟩
abbrev cX6_advance : ByteArray := prog_8_method_57_code
def yX6_advance : MethodName := ⟨RX6, "advance", "(I)I"⟩
abbrev cX6_clock : ByteArray := prog_8_method_58_code
def yX6_clock : MethodName := ⟨RX6, "clock", "()I"⟩
abbrev cX6_places : ByteArray := prog_8_method_59_code
def yX6_places : MethodName := ⟨RX6, "places", "()I"⟩
abbrev cX6_vehicles : ByteArray := prog_8_method_60_code
def yX6_vehicles : MethodName := ⟨RX6, "vehicles", "()I"⟩
abbrev cX6_jobs : ByteArray := prog_8_method_61_code
def yX6_jobs : MethodName := ⟨RX6, "jobs", "()I"⟩
abbrev cX6_way : ByteArray := prog_8_method_62_code
def yX6_way : MethodName := ⟨RX6, "way", "(II)I"⟩
abbrev cX6_vehicleOf : ByteArray := prog_8_method_63_code
def yX6_vehicleOf : MethodName := ⟨RX6, "vehicleOf", "(I)I"⟩
abbrev cX6_isSet : ByteArray := prog_8_method_64_code
def yX6_isSet : MethodName := ⟨RX6, "isSet", "(I)Z"⟩
abbrev cX6_stops : ByteArray := prog_8_method_65_code
def yX6_stops : MethodName := ⟨RX6, "stops", "(I)I"⟩
abbrev cX6_setStops : ByteArray := prog_8_method_66_code
def yX6_setStops : MethodName := ⟨RX6, "setStops", "(I)I"⟩
abbrev cX6_hasStop : ByteArray := prog_8_method_67_code
def yX6_hasStop : MethodName := ⟨RX6, "hasStop", "(II)Z"⟩
abbrev cX6_jobAt : ByteArray := prog_8_method_68_code
def yX6_jobAt : MethodName := ⟨RX6, "jobAt", "(II)I"⟩
abbrev cX6_isFetched : ByteArray := prog_8_method_69_code
def yX6_isFetched : MethodName := ⟨RX6, "isFetched", "(II)Z"⟩
abbrev cX6_arrives : ByteArray := prog_8_method_70_code
def yX6_arrives : MethodName := ⟨RX6, "arrives", "(II)I"⟩
abbrev cX6_begins : ByteArray := prog_8_method_71_code
def yX6_begins : MethodName := ⟨RX6, "begins", "(II)I"⟩
abbrev cX6_loadBehind : ByteArray := prog_8_method_72_code
def yX6_loadBehind : MethodName := ⟨RX6, "loadBehind", "(II)I"⟩
abbrev cX6_backLater : ByteArray := prog_8_method_73_code
def yX6_backLater : MethodName := ⟨RX6, "backLater", "(IIIZ)I"⟩
abbrev cX6_slackAt : ByteArray := prog_8_method_74_code
def yX6_slackAt : MethodName := ⟨RX6, "slackAt", "(II)I"⟩
abbrev cX6_slack : ByteArray := prog_8_method_75_code
def yX6_slack : MethodName := ⟨RX6, "slack", "(II)I"⟩
abbrev cX6_back : ByteArray := prog_8_method_76_code
def yX6_back : MethodName := ⟨RX6, "back", "(I)I"⟩
abbrev cX6_waitsOf : ByteArray := prog_8_method_77_code
def yX6_waitsOf : MethodName := ⟨RX6, "waitsOf", "(I)I"⟩
abbrev cX6_waits : ByteArray := prog_8_method_78_code
def yX6_waits : MethodName := ⟨RX6, "waits", "(I)I"⟩
abbrev cX6_isRight : ByteArray := prog_8_method_79_code
def yX6_isRight : MethodName := ⟨RX6, "isRight", "(I)Z"⟩
abbrev cX6_length : ByteArray := prog_8_method_80_code
def yX6_length : MethodName := ⟨RX6, "length", "(I)I"⟩
abbrev cX6_costOf : ByteArray := prog_8_method_81_code
def yX6_costOf : MethodName := ⟨RX6, "costOf", "(I)I"⟩
abbrev cX6_costAll : ByteArray := prog_8_method_82_code
def yX6_costAll : MethodName := ⟨RX6, "costAll", "()I"⟩
abbrev cX6_cost : ByteArray := prog_8_method_83_code
def yX6_cost : MethodName := ⟨RX6, "cost", "()I"⟩
abbrev cX6_fullness : ByteArray := prog_8_method_84_code
def yX6_fullness : MethodName := ⟨RX6, "fullness", "()D"⟩
abbrev cX6_wouldAdd : ByteArray := prog_8_method_85_code
def yX6_wouldAdd : MethodName := ⟨RX6, "wouldAdd", "(II)I"⟩
abbrev cX6_gain : ByteArray := prog_8_method_86_code
def yX6_gain : MethodName := ⟨RX6, "gain", "(I)I"⟩
abbrev cX6_laterBack : ByteArray := prog_8_method_87_code
def yX6_laterBack : MethodName := ⟨RX6, "laterBack", "(III)I"⟩
abbrev cX6_costWithout : ByteArray := prog_8_method_88_code
def yX6_costWithout : MethodName := ⟨RX6, "costWithout", "(I)I"⟩
abbrev cX6_add : ByteArray := prog_8_method_89_code
def yX6_add : MethodName := ⟨RX6, "add", "(I)V"⟩
abbrev cX6_addVehicle_ : ByteArray := prog_8_method_90_code
def yX6_addVehicle_ : MethodName := ⟨RX6, "addVehicle", "(I)V"⟩
abbrev cX6_digest : ByteArray := prog_8_method_91_code
def yX6_digest : MethodName := ⟨RX6, "digest", "()J"⟩
def RL : String := "DroverPlanLaw"
abbrev cL_addPlace : ByteArray := method_3_code
def yL_addPlace : MethodName := ⟨RL, "addPlace", "(LDroverPlan;II[J)I"⟩
abbrev cL_addVehicle : ByteArray := method_4_code
def yL_addVehicle : MethodName := ⟨RL, "addVehicle", "(LDroverPlan;IIIIII[J)I"⟩
abbrev cL_addJob : ByteArray := method_5_code
def yL_addJob : MethodName := ⟨RL, "addJob", "(LDroverPlan;IIIII[J)I"⟩
abbrev cL_setHours : ByteArray := method_6_code
def yL_setHours : MethodName := ⟨RL, "setHours", "(LDroverPlan;IZII[J)I"⟩
abbrev cL_insert : ByteArray := method_7_code
def yL_insert : MethodName := ⟨RL, "insert", "(LDroverPlan;I[J)I"⟩
abbrev cL_insertAt : ByteArray := method_8_code
def yL_insertAt : MethodName := ⟨RL, "insertAt", "(LDroverPlan;IIII[J)I"⟩
abbrev cL_take : ByteArray := method_9_code
def yL_take : MethodName := ⟨RL, "take", "(LDroverPlan;I[J)I"⟩
abbrev cL_ruin : ByteArray := method_10_code
def yL_ruin : MethodName := ⟨RL, "ruin", "(LDroverPlan;I[J)I"⟩
abbrev cL_change : ByteArray := method_11_code
def yL_change : MethodName := ⟨RL, "change", "(LDroverPlan;I[J)I"⟩
abbrev cL_improve : ByteArray := method_12_code
def yL_improve : MethodName := ⟨RL, "improve", "(LDroverPlan;I[J)I"⟩
abbrev cL_repair : ByteArray := method_13_code
def yL_repair : MethodName := ⟨RL, "repair", "(LDroverPlan;I[J)I"⟩
abbrev cL_advance : ByteArray := method_14_code
def yL_advance : MethodName := ⟨RL, "advance", "(LDroverPlan;I[J)I"⟩
abbrev cL_way : ByteArray := method_15_code
def yL_way : MethodName := ⟨RL, "way", "(LDroverPlan;II[J)I"⟩
abbrev cL_vehicleOf : ByteArray := method_16_code
def yL_vehicleOf : MethodName := ⟨RL, "vehicleOf", "(LDroverPlan;I[J)I"⟩
abbrev cL_isSet : ByteArray := method_17_code
def yL_isSet : MethodName := ⟨RL, "isSet", "(LDroverPlan;I[J)I"⟩
abbrev cL_stops : ByteArray := method_18_code
def yL_stops : MethodName := ⟨RL, "stops", "(LDroverPlan;I[J)I"⟩
abbrev cL_setStops : ByteArray := method_19_code
def yL_setStops : MethodName := ⟨RL, "setStops", "(LDroverPlan;I[J)I"⟩
abbrev cL_jobAt : ByteArray := method_20_code
def yL_jobAt : MethodName := ⟨RL, "jobAt", "(LDroverPlan;II[J)I"⟩
abbrev cL_isFetched : ByteArray := method_21_code
def yL_isFetched : MethodName := ⟨RL, "isFetched", "(LDroverPlan;II[J)I"⟩
abbrev cL_arrives : ByteArray := method_22_code
def yL_arrives : MethodName := ⟨RL, "arrives", "(LDroverPlan;II[J)I"⟩
abbrev cL_begins : ByteArray := method_23_code
def yL_begins : MethodName := ⟨RL, "begins", "(LDroverPlan;II[J)I"⟩
abbrev cL_loadBehind : ByteArray := method_24_code
def yL_loadBehind : MethodName := ⟨RL, "loadBehind", "(LDroverPlan;II[J)I"⟩
abbrev cL_slack : ByteArray := method_25_code
def yL_slack : MethodName := ⟨RL, "slack", "(LDroverPlan;II[J)I"⟩
abbrev cL_back : ByteArray := method_26_code
def yL_back : MethodName := ⟨RL, "back", "(LDroverPlan;I[J)I"⟩
abbrev cL_waits : ByteArray := method_27_code
def yL_waits : MethodName := ⟨RL, "waits", "(LDroverPlan;I[J)I"⟩
abbrev cL_isRight : ByteArray := method_28_code
def yL_isRight : MethodName := ⟨RL, "isRight", "(LDroverPlan;I[J)I"⟩
abbrev cL_length : ByteArray := method_29_code
def yL_length : MethodName := ⟨RL, "length", "(LDroverPlan;I[J)I"⟩
abbrev cL_costOf : ByteArray := method_30_code
def yL_costOf : MethodName := ⟨RL, "costOf", "(LDroverPlan;I[J)I"⟩
abbrev cL_wouldAdd : ByteArray := method_31_code
def yL_wouldAdd : MethodName := ⟨RL, "wouldAdd", "(LDroverPlan;II[J)I"⟩
abbrev cL_gain : ByteArray := method_32_code
def yL_gain : MethodName := ⟨RL, "gain", "(LDroverPlan;I[J)I"⟩
abbrev cL_laterBack : ByteArray := method_33_code
def yL_laterBack : MethodName := ⟨RL, "laterBack", "(LDroverPlan;III[J)I"⟩
abbrev cL_costWithout : ByteArray := method_34_code
def yL_costWithout : MethodName := ⟨RL, "costWithout", "(LDroverPlan;I[J)I"⟩
abbrev cL_law : ByteArray := code
def yL_law : MethodName := ⟨RL, "law", "([I)Z"⟩
def TB : List Cond := lw_tbl.filter goodWord
theorem tb_t (i : Nat) {w : Cond} (h : tables_1[i]? = some w) (g : goodWord w = true) : w ∈ TB := List.mem_filter.mpr ⟨List.mem_append_right _ (List.mem_of_getElem? h), g⟩
theorem tb_s (i : Nat) {q : MethodName × Nat} (h : lw_privs[i]? = some q) : Cond.selects q.1.cls q.1 q.1 ∈ TB := List.mem_filter.mpr ⟨List.mem_append_left _ (List.mem_map.mpr ⟨q, List.mem_of_getElem? h, rfl⟩), rfl⟩
theorem tb_good {c d : Cond} (hd : d ∈ TB) : GoodIn (c :: TB) (d :: TB) := fun w hw => by
  rcases List.mem_cons.mp hw with rfl | h
  · exact ⟨List.mem_cons_of_mem _ hd, good_of_word (List.mem_filter.mp hd).2⟩
  · exact ⟨List.mem_cons_of_mem _ h, good_of_word (List.mem_filter.mp h).2⟩
theorem tb_in {c w : Cond} (h : w ∈ TB) : w ∈ c :: TB := List.mem_cons_of_mem _ h
theorem tb_goodV {c d : Cond} {own C : String} {idx : Nat} {y : MethodName} (h1 : Cond.methodLink own idx y ∈ TB) (h2 : Cond.instanceMethod y ∈ TB) (h3 : Cond.selects C y y ∈ TB) (h4 : Cond.initialized C ∈ TB) (hd : d ∈ TB) : GoodIn (c :: TB) (wsV own idx C y (d :: TB)) := fun w hw => by
  have k : ∀ z, z ∈ TB → z ∈ c :: TB ∧ ((z.onTables && z.keeps) = true ∨ ∃ ty, z = .arrayClass ty) := fun z hz => ⟨List.mem_cons_of_mem _ hz, good_of_word (List.mem_filter.mp hz).2⟩
  rcases List.mem_append.mp hw with h | h
  · rcases List.mem_cons.mp h with rfl | h
    · exact k _ h1
    rcases List.mem_cons.mp h with rfl | h
    · exact k _ h2
    rcases List.mem_cons.mp h with rfl | h
    · exact k _ h3
    rcases List.mem_cons.mp h with rfl | h
    · exact k _ h4
    cases h
  · exact tb_good hd w h
theorem tb_goodS {c d : Cond} {own : String} {idx : Nat} {y : MethodName} (h1 : Cond.methodLink own idx y ∈ TB) (h2 : Cond.static y ∈ TB) (h4 : Cond.initialized own ∈ TB) (hd : d ∈ TB) : GoodIn (c :: TB) (wsS own idx y (d :: TB)) := fun w hw => by
  have k : ∀ z, z ∈ TB → z ∈ c :: TB ∧ ((z.onTables && z.keeps) = true ∨ ∃ ty, z = .arrayClass ty) := fun z hz => ⟨List.mem_cons_of_mem _ hz, good_of_word (List.mem_filter.mp hz).2⟩
  rcases List.mem_append.mp hw with h | h
  · rcases List.mem_cons.mp h with rfl | h
    · exact k _ h1
    rcases List.mem_cons.mp h with rfl | h
    · exact k _ h2
    rcases List.mem_cons.mp h with rfl | h
    · exact k _ h4
    cases h
  · exact tb_good hd w h
set_option maxRecDepth 100000 in
theorem q_ini_L : Cond.initialized RL ∈ TB := tb_t 0 (by decide +kernel) (by decide +kernel)
set_option maxRecDepth 100000 in
theorem q_ini_X5 : Cond.initialized RX5 ∈ TB := tb_t 1 (by decide +kernel) (by decide +kernel)
set_option maxRecDepth 100000 in
theorem q_ini_X0 : Cond.initialized RX0 ∈ TB := tb_t 2 (by decide +kernel) (by decide +kernel)
set_option maxRecDepth 100000 in
theorem q_ini_X4 : Cond.initialized RX4 ∈ TB := tb_t 3 (by decide +kernel) (by decide +kernel)
set_option maxRecDepth 100000 in
theorem q_ini_X2 : Cond.initialized RX2 ∈ TB := tb_t 4 (by decide +kernel) (by decide +kernel)
set_option maxRecDepth 100000 in
theorem q_ini_X3 : Cond.initialized RX3 ∈ TB := tb_t 5 (by decide +kernel) (by decide +kernel)
set_option maxRecDepth 100000 in
theorem q_ini_X1 : Cond.initialized RX1 ∈ TB := tb_t 6 (by decide +kernel) (by decide +kernel)
set_option maxRecDepth 100000 in
theorem q_ini_X6 : Cond.initialized RX6 ∈ TB := tb_t 7 (by decide +kernel) (by decide +kernel)
set_option maxRecDepth 100000 in
theorem q_cl_L_8 : Cond.classLink RL 8 "DroverPlan" ∈ TB := tb_t 26 (by decide +kernel) (by decide +kernel)
set_option maxRecDepth 100000 in
theorem q_in_X5 : Cond.instantiable RX5 9 ∈ TB := tb_t 27 (by decide +kernel) (by decide +kernel)
set_option maxRecDepth 100000 in
theorem q_ml_L_120 : Cond.methodLink RL 120 yX5_init ∈ TB := tb_t 28 (by decide +kernel) (by decide +kernel)
set_option maxRecDepth 100000 in
theorem q_im_X5_init : Cond.instanceMethod yX5_init ∈ TB := tb_t 29 (by decide +kernel) (by decide +kernel)
set_option maxRecDepth 100000 in
theorem q_co_X5_init : Cond.code yX5_init cX5_init 2 none ∈ TB := tb_t 30 (by decide +kernel) (by decide +kernel)
set_option maxRecDepth 100000 in
theorem q_ml_X5_3 : Cond.methodLink RX5 3 ⟨"java/lang/Object", "<init>", "()V"⟩ ∈ TB := tb_t 31 (by decide +kernel) (by decide +kernel)
set_option maxRecDepth 100000 in
theorem q_im_obj : Cond.instanceMethod ⟨"java/lang/Object", "<init>", "()V"⟩ ∈ TB := tb_t 32 (by decide +kernel) (by decide +kernel)
set_option maxRecDepth 100000 in
theorem q_co_obj : Cond.code ⟨"java/lang/Object", "<init>", "()V"⟩ object_method_1_code 1 none ∈ TB := tb_t 33 (by decide +kernel) (by decide +kernel)
set_option maxRecDepth 100000 in
theorem q_cl_X5_9 : Cond.classLink RX5 9 "DroverPlan$Facts" ∈ TB := tb_t 34 (by decide +kernel) (by decide +kernel)
set_option maxRecDepth 100000 in
theorem q_in_X0 : Cond.instantiable RX0 12 ∈ TB := tb_t 35 (by decide +kernel) (by decide +kernel)
set_option maxRecDepth 100000 in
theorem q_ml_X5_11 : Cond.methodLink RX5 11 yX0_init ∈ TB := tb_t 36 (by decide +kernel) (by decide +kernel)
set_option maxRecDepth 100000 in
theorem q_im_X0_init : Cond.instanceMethod yX0_init ∈ TB := tb_t 37 (by decide +kernel) (by decide +kernel)
set_option maxRecDepth 100000 in
theorem q_co_X0_init : Cond.code yX0_init cX0_init 1 none ∈ TB := tb_t 38 (by decide +kernel) (by decide +kernel)
set_option maxRecDepth 100000 in
theorem q_ml_X0_3 : Cond.methodLink RX0 3 ⟨"java/lang/Object", "<init>", "()V"⟩ ∈ TB := tb_t 39 (by decide +kernel) (by decide +kernel)
set_option maxRecDepth 100000 in
theorem q_fl_X0_9 : Cond.fieldLink RX0 9 "DroverPlan$Facts" "x" "[I" ∈ TB := tb_t 40 (by decide +kernel) (by decide +kernel)
set_option maxRecDepth 100000 in
theorem q_fl_X0_15 : Cond.fieldLink RX0 15 "DroverPlan$Facts" "y" "[I" ∈ TB := tb_t 41 (by decide +kernel) (by decide +kernel)
set_option maxRecDepth 100000 in
theorem q_fl_X0_18 : Cond.fieldLink RX0 18 "DroverPlan$Facts" "ways" "[I" ∈ TB := tb_t 42 (by decide +kernel) (by decide +kernel)
set_option maxRecDepth 100000 in
theorem q_fl_X0_21 : Cond.fieldLink RX0 21 "DroverPlan$Facts" "fine" "[I" ∈ TB := tb_t 43 (by decide +kernel) (by decide +kernel)
set_option maxRecDepth 100000 in
theorem q_fl_X0_24 : Cond.fieldLink RX0 24 "DroverPlan$Facts" "place" "[I" ∈ TB := tb_t 45 (by decide +kernel) (by decide +kernel)
set_option maxRecDepth 100000 in
theorem q_fl_X0_27 : Cond.fieldLink RX0 27 "DroverPlan$Facts" "opens" "[I" ∈ TB := tb_t 48 (by decide +kernel) (by decide +kernel)
set_option maxRecDepth 100000 in
theorem q_fl_X0_30 : Cond.fieldLink RX0 30 "DroverPlan$Facts" "closes" "[I" ∈ TB := tb_t 51 (by decide +kernel) (by decide +kernel)
set_option maxRecDepth 100000 in
theorem q_fl_X0_33 : Cond.fieldLink RX0 33 "DroverPlan$Facts" "minutes" "[I" ∈ TB := tb_t 54 (by decide +kernel) (by decide +kernel)
set_option maxRecDepth 100000 in
theorem q_fl_X0_36 : Cond.fieldLink RX0 36 "DroverPlan$Facts" "weight" "[I" ∈ TB := tb_t 57 (by decide +kernel) (by decide +kernel)
set_option maxRecDepth 100000 in
theorem q_fl_X0_39 : Cond.fieldLink RX0 39 "DroverPlan$Facts" "placeCount" "I" ∈ TB := tb_t 59 (by decide +kernel) (by decide +kernel)
set_option maxRecDepth 100000 in
theorem q_fl_X5_61 : Cond.fieldLink RX5 61 "DroverPlan$Facts" "placeCount" "I" ∈ TB := tb_t 60 (by decide +kernel) (by decide +kernel)
set_option maxRecDepth 100000 in
theorem q_fl_X5_111 : Cond.fieldLink RX5 111 "DroverPlan$Facts" "jobCount" "I" ∈ TB := tb_t 62 (by decide +kernel) (by decide +kernel)
set_option maxRecDepth 100000 in
theorem q_fl_X5_241 : Cond.fieldLink RX5 241 "DroverPlan$Facts" "clock" "I" ∈ TB := tb_t 64 (by decide +kernel) (by decide +kernel)
set_option maxRecDepth 100000 in
theorem q_la_X0_0 : u_lay RX0 TX0 0 ∈ TB := tb_t 65 (by decide +kernel) (by decide +kernel)
set_option maxRecDepth 100000 in
theorem q_la_X0_1 : u_lay RX0 TX0 1 ∈ TB := tb_t 67 (by decide +kernel) (by decide +kernel)
set_option maxRecDepth 100000 in
theorem q_la_X0_2 : u_lay RX0 TX0 2 ∈ TB := tb_t 69 (by decide +kernel) (by decide +kernel)
set_option maxRecDepth 100000 in
theorem q_la_X0_3 : u_lay RX0 TX0 3 ∈ TB := tb_t 71 (by decide +kernel) (by decide +kernel)
set_option maxRecDepth 100000 in
theorem q_la_X0_4 : u_lay RX0 TX0 4 ∈ TB := tb_t 73 (by decide +kernel) (by decide +kernel)
set_option maxRecDepth 100000 in
theorem q_la_X0_5 : u_lay RX0 TX0 5 ∈ TB := tb_t 75 (by decide +kernel) (by decide +kernel)
set_option maxRecDepth 100000 in
theorem q_la_X0_6 : u_lay RX0 TX0 6 ∈ TB := tb_t 77 (by decide +kernel) (by decide +kernel)
set_option maxRecDepth 100000 in
theorem q_la_X0_7 : u_lay RX0 TX0 7 ∈ TB := tb_t 79 (by decide +kernel) (by decide +kernel)
set_option maxRecDepth 100000 in
theorem q_la_X0_8 : u_lay RX0 TX0 8 ∈ TB := tb_t 81 (by decide +kernel) (by decide +kernel)
set_option maxRecDepth 100000 in
theorem q_la_X0_9 : u_lay RX0 TX0 9 ∈ TB := tb_t 83 (by decide +kernel) (by decide +kernel)
set_option maxRecDepth 100000 in
theorem q_la_X0_10 : u_lay RX0 TX0 10 ∈ TB := tb_t 85 (by decide +kernel) (by decide +kernel)
set_option maxRecDepth 100000 in
theorem q_la_X0_11 : u_lay RX0 TX0 11 ∈ TB := tb_t 87 (by decide +kernel) (by decide +kernel)
set_option maxRecDepth 100000 in
theorem q_ac_int : Cond.arrayClass .int ∈ TB := tb_t 90 (by decide +kernel) (by decide +kernel)
set_option maxRecDepth 100000 in
theorem q_cl_X5_16 : Cond.classLink RX5 16 "DroverPlan$Vehicle" ∈ TB := tb_t 91 (by decide +kernel) (by decide +kernel)
set_option maxRecDepth 100000 in
theorem q_in_X4 : Cond.instantiable RX4 11 ∈ TB := tb_t 93 (by decide +kernel) (by decide +kernel)
set_option maxRecDepth 100000 in
theorem q_ml_X5_22 : Cond.methodLink RX5 22 yX4_init ∈ TB := tb_t 94 (by decide +kernel) (by decide +kernel)
set_option maxRecDepth 100000 in
theorem q_im_X4_init : Cond.instanceMethod yX4_init ∈ TB := tb_t 95 (by decide +kernel) (by decide +kernel)
set_option maxRecDepth 100000 in
theorem q_co_X4_init : Cond.code yX4_init cX4_init 1 none ∈ TB := tb_t 96 (by decide +kernel) (by decide +kernel)
set_option maxRecDepth 100000 in
theorem q_ml_X4_1 : Cond.methodLink RX4 1 ⟨"java/lang/Object", "<init>", "()V"⟩ ∈ TB := tb_t 97 (by decide +kernel) (by decide +kernel)
set_option maxRecDepth 100000 in
theorem q_cl_X4_7 : Cond.classLink RX4 7 "DroverPlan$Row" ∈ TB := tb_t 98 (by decide +kernel) (by decide +kernel)
set_option maxRecDepth 100000 in
theorem q_in_X2 : Cond.instantiable RX2 2 ∈ TB := tb_t 99 (by decide +kernel) (by decide +kernel)
set_option maxRecDepth 100000 in
theorem q_ml_X4_9 : Cond.methodLink RX4 9 yX2_init ∈ TB := tb_t 100 (by decide +kernel) (by decide +kernel)
set_option maxRecDepth 100000 in
theorem q_im_X2_init : Cond.instanceMethod yX2_init ∈ TB := tb_t 101 (by decide +kernel) (by decide +kernel)
set_option maxRecDepth 100000 in
theorem q_co_X2_init : Cond.code yX2_init cX2_init 1 none ∈ TB := tb_t 102 (by decide +kernel) (by decide +kernel)
set_option maxRecDepth 100000 in
theorem q_ml_X2_3 : Cond.methodLink RX2 3 ⟨"java/lang/Object", "<init>", "()V"⟩ ∈ TB := tb_t 103 (by decide +kernel) (by decide +kernel)
set_option maxRecDepth 100000 in
theorem q_fl_X2_9 : Cond.fieldLink RX2 9 "DroverPlan$Row" "stops" "[I" ∈ TB := tb_t 104 (by decide +kernel) (by decide +kernel)
set_option maxRecDepth 100000 in
theorem q_la_X2_0 : u_lay RX2 TX2 0 ∈ TB := tb_t 108 (by decide +kernel) (by decide +kernel)
set_option maxRecDepth 100000 in
theorem q_la_X2_1 : u_lay RX2 TX2 1 ∈ TB := tb_t 110 (by decide +kernel) (by decide +kernel)
set_option maxRecDepth 100000 in
theorem q_fl_X4_10 : Cond.fieldLink RX4 10 "DroverPlan$Vehicle" "row" "LDroverPlan$Row;" ∈ TB := tb_t 128 (by decide +kernel) (by decide +kernel)
set_option maxRecDepth 100000 in
theorem q_fl_X4_16 : Cond.fieldLink RX4 16 "DroverPlan$Vehicle" "tried" "LDroverPlan$Row;" ∈ TB := tb_t 130 (by decide +kernel) (by decide +kernel)
set_option maxRecDepth 100000 in
theorem q_fl_X4_19 : Cond.fieldLink RX4 19 "DroverPlan$Vehicle" "after" "LDroverPlan$Row;" ∈ TB := tb_t 132 (by decide +kernel) (by decide +kernel)
set_option maxRecDepth 100000 in
theorem q_la_X4_0 : u_lay RX4 TX4 0 ∈ TB := tb_t 134 (by decide +kernel) (by decide +kernel)
set_option maxRecDepth 100000 in
theorem q_la_X4_1 : u_lay RX4 TX4 1 ∈ TB := tb_t 136 (by decide +kernel) (by decide +kernel)
set_option maxRecDepth 100000 in
theorem q_la_X4_2 : u_lay RX4 TX4 2 ∈ TB := tb_t 138 (by decide +kernel) (by decide +kernel)
set_option maxRecDepth 100000 in
theorem q_la_X4_3 : u_lay RX4 TX4 3 ∈ TB := tb_t 140 (by decide +kernel) (by decide +kernel)
set_option maxRecDepth 100000 in
theorem q_la_X4_4 : u_lay RX4 TX4 4 ∈ TB := tb_t 142 (by decide +kernel) (by decide +kernel)
set_option maxRecDepth 100000 in
theorem q_la_X4_5 : u_lay RX4 TX4 5 ∈ TB := tb_t 144 (by decide +kernel) (by decide +kernel)
set_option maxRecDepth 100000 in
theorem q_la_X4_6 : u_lay RX4 TX4 6 ∈ TB := tb_t 146 (by decide +kernel) (by decide +kernel)
set_option maxRecDepth 100000 in
theorem q_la_X4_7 : u_lay RX4 TX4 7 ∈ TB := tb_t 148 (by decide +kernel) (by decide +kernel)
set_option maxRecDepth 100000 in
theorem q_la_X4_8 : u_lay RX4 TX4 8 ∈ TB := tb_t 150 (by decide +kernel) (by decide +kernel)
set_option maxRecDepth 100000 in
theorem q_la_X4_9 : u_lay RX4 TX4 9 ∈ TB := tb_t 152 (by decide +kernel) (by decide +kernel)
set_option maxRecDepth 100000 in
theorem q_la_X4_10 : u_lay RX4 TX4 10 ∈ TB := tb_t 154 (by decide +kernel) (by decide +kernel)
set_option maxRecDepth 100000 in
theorem q_cl_X5_23 : Cond.classLink RX5 23 "DroverPlan$Trip" ∈ TB := tb_t 157 (by decide +kernel) (by decide +kernel)
set_option maxRecDepth 100000 in
theorem q_in_X3 : Cond.instantiable RX3 10 ∈ TB := tb_t 158 (by decide +kernel) (by decide +kernel)
set_option maxRecDepth 100000 in
theorem q_im_X3_init : Cond.instanceMethod yX3_init ∈ TB := tb_t 160 (by decide +kernel) (by decide +kernel)
set_option maxRecDepth 100000 in
theorem q_co_X3_init : Cond.code yX3_init cX3_init 1 none ∈ TB := tb_t 161 (by decide +kernel) (by decide +kernel)
set_option maxRecDepth 100000 in
theorem q_ml_X3_1 : Cond.methodLink RX3 1 ⟨"java/lang/Object", "<init>", "()V"⟩ ∈ TB := tb_t 162 (by decide +kernel) (by decide +kernel)
set_option maxRecDepth 100000 in
theorem q_la_X3_0 : u_lay RX3 TX3 0 ∈ TB := tb_t 181 (by decide +kernel) (by decide +kernel)
set_option maxRecDepth 100000 in
theorem q_la_X3_1 : u_lay RX3 TX3 1 ∈ TB := tb_t 183 (by decide +kernel) (by decide +kernel)
set_option maxRecDepth 100000 in
theorem q_la_X3_2 : u_lay RX3 TX3 2 ∈ TB := tb_t 185 (by decide +kernel) (by decide +kernel)
set_option maxRecDepth 100000 in
theorem q_la_X3_3 : u_lay RX3 TX3 3 ∈ TB := tb_t 187 (by decide +kernel) (by decide +kernel)
set_option maxRecDepth 100000 in
theorem q_la_X3_4 : u_lay RX3 TX3 4 ∈ TB := tb_t 189 (by decide +kernel) (by decide +kernel)
set_option maxRecDepth 100000 in
theorem q_la_X3_5 : u_lay RX3 TX3 5 ∈ TB := tb_t 191 (by decide +kernel) (by decide +kernel)
set_option maxRecDepth 100000 in
theorem q_la_X3_6 : u_lay RX3 TX3 6 ∈ TB := tb_t 193 (by decide +kernel) (by decide +kernel)
set_option maxRecDepth 100000 in
theorem q_la_X3_7 : u_lay RX3 TX3 7 ∈ TB := tb_t 195 (by decide +kernel) (by decide +kernel)
set_option maxRecDepth 100000 in
theorem q_la_X3_8 : u_lay RX3 TX3 8 ∈ TB := tb_t 197 (by decide +kernel) (by decide +kernel)
set_option maxRecDepth 100000 in
theorem q_la_X3_9 : u_lay RX3 TX3 9 ∈ TB := tb_t 199 (by decide +kernel) (by decide +kernel)
set_option maxRecDepth 100000 in
theorem q_cl_X5_30 : Cond.classLink RX5 30 "DroverPlan$Row" ∈ TB := tb_t 202 (by decide +kernel) (by decide +kernel)
set_option maxRecDepth 100000 in
theorem q_ml_X5_32 : Cond.methodLink RX5 32 yX2_init ∈ TB := tb_t 203 (by decide +kernel) (by decide +kernel)
set_option maxRecDepth 100000 in
theorem q_cl_X5_37 : Cond.classLink RX5 37 "DroverPlan$Insertion" ∈ TB := tb_t 204 (by decide +kernel) (by decide +kernel)
set_option maxRecDepth 100000 in
theorem q_in_X1 : Cond.instantiable RX1 6 ∈ TB := tb_t 205 (by decide +kernel) (by decide +kernel)
set_option maxRecDepth 100000 in
theorem q_im_X1_init : Cond.instanceMethod yX1_init ∈ TB := tb_t 207 (by decide +kernel) (by decide +kernel)
set_option maxRecDepth 100000 in
theorem q_co_X1_init : Cond.code yX1_init cX1_init 1 none ∈ TB := tb_t 208 (by decide +kernel) (by decide +kernel)
set_option maxRecDepth 100000 in
theorem q_ml_X1_1 : Cond.methodLink RX1 1 ⟨"java/lang/Object", "<init>", "()V"⟩ ∈ TB := tb_t 209 (by decide +kernel) (by decide +kernel)
set_option maxRecDepth 100000 in
theorem q_la_X1_0 : u_lay RX1 TX1 0 ∈ TB := tb_t 222 (by decide +kernel) (by decide +kernel)
set_option maxRecDepth 100000 in
theorem q_la_X1_1 : u_lay RX1 TX1 1 ∈ TB := tb_t 224 (by decide +kernel) (by decide +kernel)
set_option maxRecDepth 100000 in
theorem q_la_X1_2 : u_lay RX1 TX1 2 ∈ TB := tb_t 226 (by decide +kernel) (by decide +kernel)
set_option maxRecDepth 100000 in
theorem q_la_X1_3 : u_lay RX1 TX1 3 ∈ TB := tb_t 228 (by decide +kernel) (by decide +kernel)
set_option maxRecDepth 100000 in
theorem q_la_X1_4 : u_lay RX1 TX1 4 ∈ TB := tb_t 230 (by decide +kernel) (by decide +kernel)
set_option maxRecDepth 100000 in
theorem q_la_X1_5 : u_lay RX1 TX1 5 ∈ TB := tb_t 232 (by decide +kernel) (by decide +kernel)
set_option maxRecDepth 100000 in
theorem q_fl_X5_12 : Cond.fieldLink RX5 12 "DroverPlan" "facts" "LDroverPlan$Facts;" ∈ TB := tb_t 235 (by decide +kernel) (by decide +kernel)
set_option maxRecDepth 100000 in
theorem q_fl_X5_18 : Cond.fieldLink RX5 18 "DroverPlan" "fleet" "[LDroverPlan$Vehicle;" ∈ TB := tb_t 236 (by decide +kernel) (by decide +kernel)
set_option maxRecDepth 100000 in
theorem q_fl_X5_26 : Cond.fieldLink RX5 26 "DroverPlan" "trip" "LDroverPlan$Trip;" ∈ TB := tb_t 237 (by decide +kernel) (by decide +kernel)
set_option maxRecDepth 100000 in
theorem q_fl_X5_33 : Cond.fieldLink RX5 33 "DroverPlan" "shortened" "LDroverPlan$Row;" ∈ TB := tb_t 238 (by decide +kernel) (by decide +kernel)
set_option maxRecDepth 100000 in
theorem q_fl_X5_40 : Cond.fieldLink RX5 40 "DroverPlan" "found" "LDroverPlan$Insertion;" ∈ TB := tb_t 239 (by decide +kernel) (by decide +kernel)
set_option maxRecDepth 100000 in
theorem q_fl_X5_44 : Cond.fieldLink RX5 44 "DroverPlan" "best" "LDroverPlan$Insertion;" ∈ TB := tb_t 240 (by decide +kernel) (by decide +kernel)
set_option maxRecDepth 100000 in
theorem q_fl_X5_47 : Cond.fieldLink RX5 47 "DroverPlan" "chosen" "LDroverPlan$Insertion;" ∈ TB := tb_t 241 (by decide +kernel) (by decide +kernel)
set_option maxRecDepth 100000 in
theorem q_fl_X5_86 : Cond.fieldLink RX5 86 "DroverPlan" "fleetSize" "I" ∈ TB := tb_t 242 (by decide +kernel) (by decide +kernel)
set_option maxRecDepth 100000 in
theorem q_fl_X5_226 : Cond.fieldLink RX5 226 "DroverPlan" "bestGain" "I" ∈ TB := tb_t 243 (by decide +kernel) (by decide +kernel)
set_option maxRecDepth 100000 in
theorem q_la_X5_0 : u_lay RX5 TX5 0 ∈ TB := tb_t 244 (by decide +kernel) (by decide +kernel)
set_option maxRecDepth 100000 in
theorem q_la_X5_1 : u_lay RX5 TX5 1 ∈ TB := tb_t 246 (by decide +kernel) (by decide +kernel)
set_option maxRecDepth 100000 in
theorem q_la_X5_2 : u_lay RX5 TX5 2 ∈ TB := tb_t 248 (by decide +kernel) (by decide +kernel)
set_option maxRecDepth 100000 in
theorem q_la_X5_3 : u_lay RX5 TX5 3 ∈ TB := tb_t 250 (by decide +kernel) (by decide +kernel)
set_option maxRecDepth 100000 in
theorem q_la_X5_4 : u_lay RX5 TX5 4 ∈ TB := tb_t 252 (by decide +kernel) (by decide +kernel)
set_option maxRecDepth 100000 in
theorem q_la_X5_5 : u_lay RX5 TX5 5 ∈ TB := tb_t 254 (by decide +kernel) (by decide +kernel)
set_option maxRecDepth 100000 in
theorem q_la_X5_6 : u_lay RX5 TX5 6 ∈ TB := tb_t 256 (by decide +kernel) (by decide +kernel)
set_option maxRecDepth 100000 in
theorem q_la_X5_7 : u_lay RX5 TX5 7 ∈ TB := tb_t 258 (by decide +kernel) (by decide +kernel)
set_option maxRecDepth 100000 in
theorem q_la_X5_8 : u_lay RX5 TX5 8 ∈ TB := tb_t 260 (by decide +kernel) (by decide +kernel)
set_option maxRecDepth 100000 in
theorem q_ml_L_157 : Cond.methodLink RL 157 yX5_rebuild ∈ TB := tb_t 263 (by decide +kernel) (by decide +kernel)
set_option maxRecDepth 100000 in
theorem q_im_X5_rebuild : Cond.instanceMethod yX5_rebuild ∈ TB := tb_t 264 (by decide +kernel) (by decide +kernel)
set_option maxRecDepth 100000 in
theorem q_se_X5_rebuild : Cond.selects RX5 yX5_rebuild yX5_rebuild ∈ TB := tb_t 265 (by decide +kernel) (by decide +kernel)
set_option maxRecDepth 100000 in
theorem q_co_X5_rebuild : Cond.code yX5_rebuild cX5_rebuild 2 (some .int) ∈ TB := tb_t 266 (by decide +kernel) (by decide +kernel)
set_option maxRecDepth 100000 in
theorem q_ml_X5_205 : Cond.methodLink RX5 205 yX5_chooseByRegret ∈ TB := tb_t 267 (by decide +kernel) (by decide +kernel)
set_option maxRecDepth 100000 in
theorem q_im_X5_chooseByRegret : Cond.instanceMethod yX5_chooseByRegret ∈ TB := tb_t 269 (by decide +kernel) (by decide +kernel)
set_option maxRecDepth 100000 in
theorem q_co_X5_chooseByRegret : Cond.code yX5_chooseByRegret cX5_chooseByRegret 4 (some .boolean) ∈ TB := tb_t 270 (by decide +kernel) (by decide +kernel)
set_option maxRecDepth 100000 in
theorem q_ml_L_176 : Cond.methodLink RL 176 yX5_clock ∈ TB := tb_t 379 (by decide +kernel) (by decide +kernel)
set_option maxRecDepth 100000 in
theorem q_im_X5_clock : Cond.instanceMethod yX5_clock ∈ TB := tb_t 380 (by decide +kernel) (by decide +kernel)
set_option maxRecDepth 100000 in
theorem q_se_X5_clock : Cond.selects RX5 yX5_clock yX5_clock ∈ TB := tb_t 381 (by decide +kernel) (by decide +kernel)
set_option maxRecDepth 100000 in
theorem q_co_X5_clock : Cond.code yX5_clock cX5_clock 1 (some .int) ∈ TB := tb_t 382 (by decide +kernel) (by decide +kernel)
set_option maxRecDepth 100000 in
theorem q_ml_L_180 : Cond.methodLink RL 180 yX5_places ∈ TB := tb_t 383 (by decide +kernel) (by decide +kernel)
set_option maxRecDepth 100000 in
theorem q_im_X5_places : Cond.instanceMethod yX5_places ∈ TB := tb_t 384 (by decide +kernel) (by decide +kernel)
set_option maxRecDepth 100000 in
theorem q_se_X5_places : Cond.selects RX5 yX5_places yX5_places ∈ TB := tb_t 385 (by decide +kernel) (by decide +kernel)
set_option maxRecDepth 100000 in
theorem q_co_X5_places : Cond.code yX5_places cX5_places 1 (some .int) ∈ TB := tb_t 386 (by decide +kernel) (by decide +kernel)
set_option maxRecDepth 100000 in
theorem q_ml_L_184 : Cond.methodLink RL 184 yX5_vehicles ∈ TB := tb_t 387 (by decide +kernel) (by decide +kernel)
set_option maxRecDepth 100000 in
theorem q_im_X5_vehicles : Cond.instanceMethod yX5_vehicles ∈ TB := tb_t 388 (by decide +kernel) (by decide +kernel)
set_option maxRecDepth 100000 in
theorem q_se_X5_vehicles : Cond.selects RX5 yX5_vehicles yX5_vehicles ∈ TB := tb_t 389 (by decide +kernel) (by decide +kernel)
set_option maxRecDepth 100000 in
theorem q_co_X5_vehicles : Cond.code yX5_vehicles cX5_vehicles 1 (some .int) ∈ TB := tb_t 390 (by decide +kernel) (by decide +kernel)
set_option maxRecDepth 100000 in
theorem q_ml_L_188 : Cond.methodLink RL 188 yX5_jobs ∈ TB := tb_t 391 (by decide +kernel) (by decide +kernel)
set_option maxRecDepth 100000 in
theorem q_im_X5_jobs : Cond.instanceMethod yX5_jobs ∈ TB := tb_t 392 (by decide +kernel) (by decide +kernel)
set_option maxRecDepth 100000 in
theorem q_se_X5_jobs : Cond.selects RX5 yX5_jobs yX5_jobs ∈ TB := tb_t 393 (by decide +kernel) (by decide +kernel)
set_option maxRecDepth 100000 in
theorem q_co_X5_jobs : Cond.code yX5_jobs cX5_jobs 1 (some .int) ∈ TB := tb_t 394 (by decide +kernel) (by decide +kernel)
set_option maxRecDepth 100000 in
theorem q_ml_L_240 : Cond.methodLink RL 240 yX5_cost ∈ TB := tb_t 395 (by decide +kernel) (by decide +kernel)
set_option maxRecDepth 100000 in
theorem q_im_X5_cost : Cond.instanceMethod yX5_cost ∈ TB := tb_t 396 (by decide +kernel) (by decide +kernel)
set_option maxRecDepth 100000 in
theorem q_se_X5_cost : Cond.selects RX5 yX5_cost yX5_cost ∈ TB := tb_t 397 (by decide +kernel) (by decide +kernel)
set_option maxRecDepth 100000 in
theorem q_co_X5_cost : Cond.code yX5_cost cX5_cost 1 (some .int) ∈ TB := tb_t 398 (by decide +kernel) (by decide +kernel)
set_option maxRecDepth 100000 in
theorem q_ml_X5_293 : Cond.methodLink RX5 293 yX5_costOfAll ∈ TB := tb_t 399 (by decide +kernel) (by decide +kernel)
set_option maxRecDepth 100000 in
theorem q_im_X5_costOfAll : Cond.instanceMethod yX5_costOfAll ∈ TB := tb_t 401 (by decide +kernel) (by decide +kernel)
set_option maxRecDepth 100000 in
theorem q_co_X5_costOfAll : Cond.code yX5_costOfAll cX5_costOfAll 3 (some .int) ∈ TB := tb_t 402 (by decide +kernel) (by decide +kernel)
set_option maxRecDepth 100000 in
theorem q_ml_L_244 : Cond.methodLink RL 244 yX5_fullness ∈ TB := tb_t 407 (by decide +kernel) (by decide +kernel)
set_option maxRecDepth 100000 in
theorem q_im_X5_fullness : Cond.instanceMethod yX5_fullness ∈ TB := tb_t 408 (by decide +kernel) (by decide +kernel)
set_option maxRecDepth 100000 in
theorem q_se_X5_fullness : Cond.selects RX5 yX5_fullness yX5_fullness ∈ TB := tb_t 409 (by decide +kernel) (by decide +kernel)
set_option maxRecDepth 100000 in
theorem q_co_X5_fullness : Cond.code yX5_fullness cX5_fullness 5 (some .double) ∈ TB := tb_t 410 (by decide +kernel) (by decide +kernel)
set_option maxRecDepth 100000 in
theorem q_ml_L_262 : Cond.methodLink RL 262 yX5_digest ∈ TB := tb_t 415 (by decide +kernel) (by decide +kernel)
set_option maxRecDepth 100000 in
theorem q_im_X5_digest : Cond.instanceMethod yX5_digest ∈ TB := tb_t 416 (by decide +kernel) (by decide +kernel)
set_option maxRecDepth 100000 in
theorem q_se_X5_digest : Cond.selects RX5 yX5_digest yX5_digest ∈ TB := tb_t 417 (by decide +kernel) (by decide +kernel)
set_option maxRecDepth 100000 in
theorem q_co_X5_digest : Cond.code yX5_digest cX5_digest 4 (some .long) ∈ TB := tb_t 418 (by decide +kernel) (by decide +kernel)
set_option maxRecDepth 100000 in
theorem q_cg_X5_314 : Cond.constantLong RX5 314 (58033) ∈ TB := tb_t 419 (by decide +kernel) (by decide +kernel)
set_option maxRecDepth 100000 in
theorem q_cg_X5_316 : Cond.constantLong RX5 316 (31) ∈ TB := tb_t 420 (by decide +kernel) (by decide +kernel)
set_option maxRecDepth 100000 in
theorem q_ml_X5_217 : Cond.methodLink RX5 217 yX5_startSearch ∈ TB := tb_t 444 (by decide +kernel) (by decide +kernel)
set_option maxRecDepth 100000 in
theorem q_im_X5_startSearch : Cond.instanceMethod yX5_startSearch ∈ TB := tb_t 446 (by decide +kernel) (by decide +kernel)
set_option maxRecDepth 100000 in
theorem q_co_X5_startSearch : Cond.code yX5_startSearch cX5_startSearch 3 none ∈ TB := tb_t 447 (by decide +kernel) (by decide +kernel)
set_option maxRecDepth 100000 in
theorem q_ml_X5_220 : Cond.methodLink RX5 220 yX5_searchKind ∈ TB := tb_t 448 (by decide +kernel) (by decide +kernel)
set_option maxRecDepth 100000 in
theorem q_im_X5_searchKind : Cond.instanceMethod yX5_searchKind ∈ TB := tb_t 450 (by decide +kernel) (by decide +kernel)
set_option maxRecDepth 100000 in
theorem q_co_X5_searchKind : Cond.code yX5_searchKind cX5_searchKind 2 none ∈ TB := tb_t 451 (by decide +kernel) (by decide +kernel)
set_option maxRecDepth 100000 in
theorem q_ml_X5_414 : Cond.methodLink RX5 414 yX5_searchMoves ∈ TB := tb_t 452 (by decide +kernel) (by decide +kernel)
set_option maxRecDepth 100000 in
theorem q_im_X5_searchMoves : Cond.instanceMethod yX5_searchMoves ∈ TB := tb_t 454 (by decide +kernel) (by decide +kernel)
set_option maxRecDepth 100000 in
theorem q_co_X5_searchMoves : Cond.code yX5_searchMoves cX5_searchMoves 9 none ∈ TB := tb_t 455 (by decide +kernel) (by decide +kernel)
set_option maxRecDepth 100000 in
theorem q_ml_X5_417 : Cond.methodLink RX5 417 yX5_searchSwaps ∈ TB := tb_t 465 (by decide +kernel) (by decide +kernel)
set_option maxRecDepth 100000 in
theorem q_im_X5_searchSwaps : Cond.instanceMethod yX5_searchSwaps ∈ TB := tb_t 467 (by decide +kernel) (by decide +kernel)
set_option maxRecDepth 100000 in
theorem q_co_X5_searchSwaps : Cond.code yX5_searchSwaps cX5_searchSwaps 5 none ∈ TB := tb_t 468 (by decide +kernel) (by decide +kernel)
set_option maxRecDepth 100000 in
theorem q_ml_X5_420 : Cond.methodLink RX5 420 yX5_searchTurns ∈ TB := tb_t 478 (by decide +kernel) (by decide +kernel)
set_option maxRecDepth 100000 in
theorem q_im_X5_searchTurns : Cond.instanceMethod yX5_searchTurns ∈ TB := tb_t 480 (by decide +kernel) (by decide +kernel)
set_option maxRecDepth 100000 in
theorem q_co_X5_searchTurns : Cond.code yX5_searchTurns cX5_searchTurns 5 none ∈ TB := tb_t 481 (by decide +kernel) (by decide +kernel)
set_option maxRecDepth 100000 in
theorem q_ml_X5_423 : Cond.methodLink RX5 423 yX5_searchEnds ∈ TB := tb_t 491 (by decide +kernel) (by decide +kernel)
set_option maxRecDepth 100000 in
theorem q_im_X5_searchEnds : Cond.instanceMethod yX5_searchEnds ∈ TB := tb_t 493 (by decide +kernel) (by decide +kernel)
set_option maxRecDepth 100000 in
theorem q_co_X5_searchEnds : Cond.code yX5_searchEnds cX5_searchEnds 7 none ∈ TB := tb_t 494 (by decide +kernel) (by decide +kernel)
set_option maxRecDepth 100000 in
theorem q_ml_L_124 : Cond.methodLink RL 124 yL_addPlace ∈ TB := tb_t 503 (by decide +kernel) (by decide +kernel)
set_option maxRecDepth 100000 in
theorem q_st_L_addPlace : Cond.static yL_addPlace ∈ TB := tb_t 504 (by decide +kernel) (by decide +kernel)
set_option maxRecDepth 100000 in
theorem q_cw_L_addPlace : Cond.codeWith yL_addPlace cL_addPlace 5 (some .int) [(0, 10, 13, 13), (0, 10, 17, 15)] ∈ TB := tb_t 505 (by decide +kernel) (by decide +kernel)
set_option maxRecDepth 100000 in
theorem q_cl_L_13 : Cond.classLink RL 13 "java/lang/IllegalArgumentException" ∈ TB := tb_t 506 (by decide +kernel) (by decide +kernel)
set_option maxRecDepth 100000 in
theorem q_ml_L_7 : Cond.methodLink RL 7 yX5_addPlace ∈ TB := tb_t 508 (by decide +kernel) (by decide +kernel)
set_option maxRecDepth 100000 in
theorem q_im_X5_addPlace : Cond.instanceMethod yX5_addPlace ∈ TB := tb_t 509 (by decide +kernel) (by decide +kernel)
set_option maxRecDepth 100000 in
theorem q_se_X5_addPlace : Cond.selects RX5 yX5_addPlace yX5_addPlace ∈ TB := tb_t 510 (by decide +kernel) (by decide +kernel)
set_option maxRecDepth 100000 in
theorem q_co_X5_addPlace : Cond.code yX5_addPlace cX5_addPlace 3 (some .int) ∈ TB := tb_t 511 (by decide +kernel) (by decide +kernel)
set_option maxRecDepth 100000 in
theorem q_ml_X5_50 : Cond.methodLink RX5 50 yX5_isOutside ∈ TB := tb_t 512 (by decide +kernel) (by decide +kernel)
set_option maxRecDepth 100000 in
theorem q_st_X5_isOutside : Cond.static yX5_isOutside ∈ TB := tb_t 513 (by decide +kernel) (by decide +kernel)
set_option maxRecDepth 100000 in
theorem q_co_X5_isOutside : Cond.code yX5_isOutside cX5_isOutside 3 (some .boolean) ∈ TB := tb_t 514 (by decide +kernel) (by decide +kernel)
set_option maxRecDepth 100000 in
theorem q_ml_X5_70 : Cond.methodLink RX5 70 yX0_tellPlace ∈ TB := tb_t 599 (by decide +kernel) (by decide +kernel)
set_option maxRecDepth 100000 in
theorem q_im_X0_tellPlace : Cond.instanceMethod yX0_tellPlace ∈ TB := tb_t 600 (by decide +kernel) (by decide +kernel)
set_option maxRecDepth 100000 in
theorem q_se_X0_tellPlace : Cond.selects RX0 yX0_tellPlace yX0_tellPlace ∈ TB := tb_t 601 (by decide +kernel) (by decide +kernel)
set_option maxRecDepth 100000 in
theorem q_co_X0_tellPlace : Cond.code yX0_tellPlace cX0_tellPlace 6 (some .int) ∈ TB := tb_t 602 (by decide +kernel) (by decide +kernel)
set_option maxRecDepth 100000 in
theorem q_ml_X0_46 : Cond.methodLink RX0 46 ⟨"java/lang/Math", "abs", "(I)I"⟩ ∈ TB := tb_t 603 (by decide +kernel) (by decide +kernel)
set_option maxRecDepth 100000 in
theorem q_ml_L_134 : Cond.methodLink RL 134 yL_addVehicle ∈ TB := tb_t 606 (by decide +kernel) (by decide +kernel)
set_option maxRecDepth 100000 in
theorem q_st_L_addVehicle : Cond.static yL_addVehicle ∈ TB := tb_t 607 (by decide +kernel) (by decide +kernel)
set_option maxRecDepth 100000 in
theorem q_cw_L_addVehicle : Cond.codeWith yL_addVehicle cL_addVehicle 9 (some .int) [(0, 18, 21, 21), (0, 18, 25, 13), (0, 18, 29, 15)] ∈ TB := tb_t 608 (by decide +kernel) (by decide +kernel)
set_option maxRecDepth 100000 in
theorem q_cl_L_21 : Cond.classLink RL 21 "java/lang/IndexOutOfBoundsException" ∈ TB := tb_t 609 (by decide +kernel) (by decide +kernel)
set_option maxRecDepth 100000 in
theorem q_ml_L_17 : Cond.methodLink RL 17 yX5_addVehicle ∈ TB := tb_t 610 (by decide +kernel) (by decide +kernel)
set_option maxRecDepth 100000 in
theorem q_im_X5_addVehicle : Cond.instanceMethod yX5_addVehicle ∈ TB := tb_t 611 (by decide +kernel) (by decide +kernel)
set_option maxRecDepth 100000 in
theorem q_se_X5_addVehicle : Cond.selects RX5 yX5_addVehicle yX5_addVehicle ∈ TB := tb_t 612 (by decide +kernel) (by decide +kernel)
set_option maxRecDepth 100000 in
theorem q_co_X5_addVehicle : Cond.code yX5_addVehicle cX5_addVehicle 8 (some .int) ∈ TB := tb_t 613 (by decide +kernel) (by decide +kernel)
set_option maxRecDepth 100000 in
theorem q_ml_X5_74 : Cond.methodLink RX5 74 yX5_checkPlace ∈ TB := tb_t 614 (by decide +kernel) (by decide +kernel)
set_option maxRecDepth 100000 in
theorem q_im_X5_checkPlace : Cond.instanceMethod yX5_checkPlace ∈ TB := tb_t 616 (by decide +kernel) (by decide +kernel)
set_option maxRecDepth 100000 in
theorem q_co_X5_checkPlace : Cond.code yX5_checkPlace cX5_checkPlace 2 none ∈ TB := tb_t 617 (by decide +kernel) (by decide +kernel)
set_option maxRecDepth 100000 in
theorem q_ml_X5_333 : Cond.methodLink RX5 333 yX0_isPlace ∈ TB := tb_t 618 (by decide +kernel) (by decide +kernel)
set_option maxRecDepth 100000 in
theorem q_im_X0_isPlace : Cond.instanceMethod yX0_isPlace ∈ TB := tb_t 619 (by decide +kernel) (by decide +kernel)
set_option maxRecDepth 100000 in
theorem q_se_X0_isPlace : Cond.selects RX0 yX0_isPlace yX0_isPlace ∈ TB := tb_t 620 (by decide +kernel) (by decide +kernel)
set_option maxRecDepth 100000 in
theorem q_co_X0_isPlace : Cond.code yX0_isPlace cX0_isPlace 2 (some .boolean) ∈ TB := tb_t 621 (by decide +kernel) (by decide +kernel)
set_option maxRecDepth 100000 in
theorem q_ml_L_138 : Cond.methodLink RL 138 yL_addJob ∈ TB := tb_t 645 (by decide +kernel) (by decide +kernel)
set_option maxRecDepth 100000 in
theorem q_st_L_addJob : Cond.static yL_addJob ∈ TB := tb_t 646 (by decide +kernel) (by decide +kernel)
set_option maxRecDepth 100000 in
theorem q_cw_L_addJob : Cond.codeWith yL_addJob cL_addJob 8 (some .int) [(0, 16, 19, 21), (0, 16, 23, 13), (0, 16, 27, 15)] ∈ TB := tb_t 647 (by decide +kernel) (by decide +kernel)
set_option maxRecDepth 100000 in
theorem q_ml_L_23 : Cond.methodLink RL 23 yX5_addJob ∈ TB := tb_t 648 (by decide +kernel) (by decide +kernel)
set_option maxRecDepth 100000 in
theorem q_im_X5_addJob : Cond.instanceMethod yX5_addJob ∈ TB := tb_t 649 (by decide +kernel) (by decide +kernel)
set_option maxRecDepth 100000 in
theorem q_se_X5_addJob : Cond.selects RX5 yX5_addJob yX5_addJob ∈ TB := tb_t 650 (by decide +kernel) (by decide +kernel)
set_option maxRecDepth 100000 in
theorem q_co_X5_addJob : Cond.code yX5_addJob cX5_addJob 6 (some .int) ∈ TB := tb_t 651 (by decide +kernel) (by decide +kernel)
set_option maxRecDepth 100000 in
theorem q_ml_L_142 : Cond.methodLink RL 142 yL_setHours ∈ TB := tb_t 669 (by decide +kernel) (by decide +kernel)
set_option maxRecDepth 100000 in
theorem q_st_L_setHours : Cond.static yL_setHours ∈ TB := tb_t 670 (by decide +kernel) (by decide +kernel)
set_option maxRecDepth 100000 in
theorem q_cw_L_setHours : Cond.codeWith yL_setHours cL_setHours 7 (some .int) [(0, 21, 24, 21), (0, 21, 28, 13), (0, 21, 32, 15)] ∈ TB := tb_t 671 (by decide +kernel) (by decide +kernel)
set_option maxRecDepth 100000 in
theorem q_ml_L_27 : Cond.methodLink RL 27 yX5_setHours ∈ TB := tb_t 672 (by decide +kernel) (by decide +kernel)
set_option maxRecDepth 100000 in
theorem q_im_X5_setHours : Cond.instanceMethod yX5_setHours ∈ TB := tb_t 673 (by decide +kernel) (by decide +kernel)
set_option maxRecDepth 100000 in
theorem q_se_X5_setHours : Cond.selects RX5 yX5_setHours yX5_setHours ∈ TB := tb_t 674 (by decide +kernel) (by decide +kernel)
set_option maxRecDepth 100000 in
theorem q_co_X5_setHours : Cond.code yX5_setHours cX5_setHours 5 (some .boolean) ∈ TB := tb_t 675 (by decide +kernel) (by decide +kernel)
set_option maxRecDepth 100000 in
theorem q_ml_X5_120 : Cond.methodLink RX5 120 yX5_checkJob ∈ TB := tb_t 676 (by decide +kernel) (by decide +kernel)
set_option maxRecDepth 100000 in
theorem q_im_X5_checkJob : Cond.instanceMethod yX5_checkJob ∈ TB := tb_t 678 (by decide +kernel) (by decide +kernel)
set_option maxRecDepth 100000 in
theorem q_co_X5_checkJob : Cond.code yX5_checkJob cX5_checkJob 2 none ∈ TB := tb_t 679 (by decide +kernel) (by decide +kernel)
set_option maxRecDepth 100000 in
theorem q_ml_X5_140 : Cond.methodLink RX5 140 yX5_areAllRight ∈ TB := tb_t 683 (by decide +kernel) (by decide +kernel)
set_option maxRecDepth 100000 in
theorem q_im_X5_areAllRight : Cond.instanceMethod yX5_areAllRight ∈ TB := tb_t 685 (by decide +kernel) (by decide +kernel)
set_option maxRecDepth 100000 in
theorem q_co_X5_areAllRight : Cond.code yX5_areAllRight cX5_areAllRight 2 (some .boolean) ∈ TB := tb_t 686 (by decide +kernel) (by decide +kernel)
set_option maxRecDepth 100000 in
theorem q_ml_L_146 : Cond.methodLink RL 146 yL_insert ∈ TB := tb_t 687 (by decide +kernel) (by decide +kernel)
set_option maxRecDepth 100000 in
theorem q_st_L_insert : Cond.static yL_insert ∈ TB := tb_t 688 (by decide +kernel) (by decide +kernel)
set_option maxRecDepth 100000 in
theorem q_cw_L_insert : Cond.codeWith yL_insert cL_insert 4 (some .int) [(0, 9, 12, 21), (0, 9, 15, 15)] ∈ TB := tb_t 689 (by decide +kernel) (by decide +kernel)
set_option maxRecDepth 100000 in
theorem q_ml_L_31 : Cond.methodLink RL 31 yX5_insert ∈ TB := tb_t 690 (by decide +kernel) (by decide +kernel)
set_option maxRecDepth 100000 in
theorem q_im_X5_insert : Cond.instanceMethod yX5_insert ∈ TB := tb_t 691 (by decide +kernel) (by decide +kernel)
set_option maxRecDepth 100000 in
theorem q_se_X5_insert : Cond.selects RX5 yX5_insert yX5_insert ∈ TB := tb_t 692 (by decide +kernel) (by decide +kernel)
set_option maxRecDepth 100000 in
theorem q_co_X5_insert : Cond.code yX5_insert cX5_insert 2 (some .int) ∈ TB := tb_t 693 (by decide +kernel) (by decide +kernel)
set_option maxRecDepth 100000 in
theorem q_ml_L_150 : Cond.methodLink RL 150 yL_insertAt ∈ TB := tb_t 699 (by decide +kernel) (by decide +kernel)
set_option maxRecDepth 100000 in
theorem q_st_L_insertAt : Cond.static yL_insertAt ∈ TB := tb_t 700 (by decide +kernel) (by decide +kernel)
set_option maxRecDepth 100000 in
theorem q_cw_L_insertAt : Cond.codeWith yL_insertAt cL_insertAt 7 (some .int) [(0, 14, 17, 21), (0, 14, 21, 13), (0, 14, 25, 15)] ∈ TB := tb_t 701 (by decide +kernel) (by decide +kernel)
set_option maxRecDepth 100000 in
theorem q_ml_L_35 : Cond.methodLink RL 35 yX5_insertAt ∈ TB := tb_t 702 (by decide +kernel) (by decide +kernel)
set_option maxRecDepth 100000 in
theorem q_im_X5_insertAt : Cond.instanceMethod yX5_insertAt ∈ TB := tb_t 703 (by decide +kernel) (by decide +kernel)
set_option maxRecDepth 100000 in
theorem q_se_X5_insertAt : Cond.selects RX5 yX5_insertAt yX5_insertAt ∈ TB := tb_t 704 (by decide +kernel) (by decide +kernel)
set_option maxRecDepth 100000 in
theorem q_co_X5_insertAt : Cond.code yX5_insertAt cX5_insertAt 7 (some .int) ∈ TB := tb_t 705 (by decide +kernel) (by decide +kernel)
set_option maxRecDepth 100000 in
theorem q_ml_X5_157 : Cond.methodLink RX5 157 yX5_checkVehicle ∈ TB := tb_t 706 (by decide +kernel) (by decide +kernel)
set_option maxRecDepth 100000 in
theorem q_im_X5_checkVehicle : Cond.instanceMethod yX5_checkVehicle ∈ TB := tb_t 708 (by decide +kernel) (by decide +kernel)
set_option maxRecDepth 100000 in
theorem q_co_X5_checkVehicle : Cond.code yX5_checkVehicle cX5_checkVehicle 2 none ∈ TB := tb_t 709 (by decide +kernel) (by decide +kernel)
set_option maxRecDepth 100000 in
theorem q_ml_L_154 : Cond.methodLink RL 154 yL_take ∈ TB := tb_t 712 (by decide +kernel) (by decide +kernel)
set_option maxRecDepth 100000 in
theorem q_st_L_take : Cond.static yL_take ∈ TB := tb_t 713 (by decide +kernel) (by decide +kernel)
set_option maxRecDepth 100000 in
theorem q_cw_L_take : Cond.codeWith yL_take cL_take 4 (some .int) [(0, 9, 12, 21), (0, 9, 15, 15)] ∈ TB := tb_t 714 (by decide +kernel) (by decide +kernel)
set_option maxRecDepth 100000 in
theorem q_ml_L_39 : Cond.methodLink RL 39 yX5_take ∈ TB := tb_t 715 (by decide +kernel) (by decide +kernel)
set_option maxRecDepth 100000 in
theorem q_im_X5_take : Cond.instanceMethod yX5_take ∈ TB := tb_t 716 (by decide +kernel) (by decide +kernel)
set_option maxRecDepth 100000 in
theorem q_se_X5_take : Cond.selects RX5 yX5_take yX5_take ∈ TB := tb_t 717 (by decide +kernel) (by decide +kernel)
set_option maxRecDepth 100000 in
theorem q_co_X5_take : Cond.code yX5_take cX5_take 3 (some .int) ∈ TB := tb_t 718 (by decide +kernel) (by decide +kernel)
set_option maxRecDepth 100000 in
theorem q_ml_L_161 : Cond.methodLink RL 161 yL_ruin ∈ TB := tb_t 728 (by decide +kernel) (by decide +kernel)
set_option maxRecDepth 100000 in
theorem q_st_L_ruin : Cond.static yL_ruin ∈ TB := tb_t 729 (by decide +kernel) (by decide +kernel)
set_option maxRecDepth 100000 in
theorem q_cw_L_ruin : Cond.codeWith yL_ruin cL_ruin 4 (some .int) [(0, 9, 12, 13)] ∈ TB := tb_t 730 (by decide +kernel) (by decide +kernel)
set_option maxRecDepth 100000 in
theorem q_ml_L_42 : Cond.methodLink RL 42 yX5_ruin ∈ TB := tb_t 731 (by decide +kernel) (by decide +kernel)
set_option maxRecDepth 100000 in
theorem q_im_X5_ruin : Cond.instanceMethod yX5_ruin ∈ TB := tb_t 732 (by decide +kernel) (by decide +kernel)
set_option maxRecDepth 100000 in
theorem q_se_X5_ruin : Cond.selects RX5 yX5_ruin yX5_ruin ∈ TB := tb_t 733 (by decide +kernel) (by decide +kernel)
set_option maxRecDepth 100000 in
theorem q_co_X5_ruin : Cond.code yX5_ruin cX5_ruin 4 (some .int) ∈ TB := tb_t 734 (by decide +kernel) (by decide +kernel)
set_option maxRecDepth 100000 in
theorem q_ml_X5_210 : Cond.methodLink RX5 210 yX5_dearestJob ∈ TB := tb_t 736 (by decide +kernel) (by decide +kernel)
set_option maxRecDepth 100000 in
theorem q_im_X5_dearestJob : Cond.instanceMethod yX5_dearestJob ∈ TB := tb_t 738 (by decide +kernel) (by decide +kernel)
set_option maxRecDepth 100000 in
theorem q_co_X5_dearestJob : Cond.code yX5_dearestJob cX5_dearestJob 5 (some .int) ∈ TB := tb_t 739 (by decide +kernel) (by decide +kernel)
set_option maxRecDepth 100000 in
theorem q_ml_L_164 : Cond.methodLink RL 164 yL_change ∈ TB := tb_t 744 (by decide +kernel) (by decide +kernel)
set_option maxRecDepth 100000 in
theorem q_st_L_change : Cond.static yL_change ∈ TB := tb_t 745 (by decide +kernel) (by decide +kernel)
set_option maxRecDepth 100000 in
theorem q_cw_L_change : Cond.codeWith yL_change cL_change 4 (some .int) [(0, 9, 12, 13)] ∈ TB := tb_t 746 (by decide +kernel) (by decide +kernel)
set_option maxRecDepth 100000 in
theorem q_ml_L_45 : Cond.methodLink RL 45 yX5_change ∈ TB := tb_t 747 (by decide +kernel) (by decide +kernel)
set_option maxRecDepth 100000 in
theorem q_im_X5_change : Cond.instanceMethod yX5_change ∈ TB := tb_t 748 (by decide +kernel) (by decide +kernel)
set_option maxRecDepth 100000 in
theorem q_se_X5_change : Cond.selects RX5 yX5_change yX5_change ∈ TB := tb_t 749 (by decide +kernel) (by decide +kernel)
set_option maxRecDepth 100000 in
theorem q_co_X5_change : Cond.code yX5_change cX5_change 2 (some .int) ∈ TB := tb_t 750 (by decide +kernel) (by decide +kernel)
set_option maxRecDepth 100000 in
theorem q_ml_X5_214 : Cond.methodLink RX5 214 yX5_checkKind ∈ TB := tb_t 751 (by decide +kernel) (by decide +kernel)
set_option maxRecDepth 100000 in
theorem q_st_X5_checkKind : Cond.static yX5_checkKind ∈ TB := tb_t 752 (by decide +kernel) (by decide +kernel)
set_option maxRecDepth 100000 in
theorem q_co_X5_checkKind : Cond.code yX5_checkKind cX5_checkKind 1 none ∈ TB := tb_t 753 (by decide +kernel) (by decide +kernel)
set_option maxRecDepth 100000 in
theorem q_ml_X5_223 : Cond.methodLink RX5 223 yX5_makeBestChange ∈ TB := tb_t 755 (by decide +kernel) (by decide +kernel)
set_option maxRecDepth 100000 in
theorem q_im_X5_makeBestChange : Cond.instanceMethod yX5_makeBestChange ∈ TB := tb_t 757 (by decide +kernel) (by decide +kernel)
set_option maxRecDepth 100000 in
theorem q_co_X5_makeBestChange : Cond.code yX5_makeBestChange cX5_makeBestChange 2 none ∈ TB := tb_t 758 (by decide +kernel) (by decide +kernel)
set_option maxRecDepth 100000 in
theorem q_ml_L_167 : Cond.methodLink RL 167 yL_improve ∈ TB := tb_t 759 (by decide +kernel) (by decide +kernel)
set_option maxRecDepth 100000 in
theorem q_st_L_improve : Cond.static yL_improve ∈ TB := tb_t 760 (by decide +kernel) (by decide +kernel)
set_option maxRecDepth 100000 in
theorem q_cw_L_improve : Cond.codeWith yL_improve cL_improve 4 (some .int) [(0, 9, 12, 13)] ∈ TB := tb_t 761 (by decide +kernel) (by decide +kernel)
set_option maxRecDepth 100000 in
theorem q_ml_L_48 : Cond.methodLink RL 48 yX5_improve ∈ TB := tb_t 762 (by decide +kernel) (by decide +kernel)
set_option maxRecDepth 100000 in
theorem q_im_X5_improve : Cond.instanceMethod yX5_improve ∈ TB := tb_t 763 (by decide +kernel) (by decide +kernel)
set_option maxRecDepth 100000 in
theorem q_se_X5_improve : Cond.selects RX5 yX5_improve yX5_improve ∈ TB := tb_t 764 (by decide +kernel) (by decide +kernel)
set_option maxRecDepth 100000 in
theorem q_co_X5_improve : Cond.code yX5_improve cX5_improve 5 (some .int) ∈ TB := tb_t 765 (by decide +kernel) (by decide +kernel)
set_option maxRecDepth 100000 in
theorem q_ml_L_170 : Cond.methodLink RL 170 yL_repair ∈ TB := tb_t 767 (by decide +kernel) (by decide +kernel)
set_option maxRecDepth 100000 in
theorem q_st_L_repair : Cond.static yL_repair ∈ TB := tb_t 768 (by decide +kernel) (by decide +kernel)
set_option maxRecDepth 100000 in
theorem q_cw_L_repair : Cond.codeWith yL_repair cL_repair 4 (some .int) [(0, 9, 12, 21)] ∈ TB := tb_t 769 (by decide +kernel) (by decide +kernel)
set_option maxRecDepth 100000 in
theorem q_ml_L_51 : Cond.methodLink RL 51 yX5_repair ∈ TB := tb_t 770 (by decide +kernel) (by decide +kernel)
set_option maxRecDepth 100000 in
theorem q_im_X5_repair : Cond.instanceMethod yX5_repair ∈ TB := tb_t 771 (by decide +kernel) (by decide +kernel)
set_option maxRecDepth 100000 in
theorem q_se_X5_repair : Cond.selects RX5 yX5_repair yX5_repair ∈ TB := tb_t 772 (by decide +kernel) (by decide +kernel)
set_option maxRecDepth 100000 in
theorem q_co_X5_repair : Cond.code yX5_repair cX5_repair 5 (some .int) ∈ TB := tb_t 773 (by decide +kernel) (by decide +kernel)
set_option maxRecDepth 100000 in
theorem q_ml_L_173 : Cond.methodLink RL 173 yL_advance ∈ TB := tb_t 778 (by decide +kernel) (by decide +kernel)
set_option maxRecDepth 100000 in
theorem q_st_L_advance : Cond.static yL_advance ∈ TB := tb_t 779 (by decide +kernel) (by decide +kernel)
set_option maxRecDepth 100000 in
theorem q_cw_L_advance : Cond.codeWith yL_advance cL_advance 4 (some .int) [(0, 9, 12, 13), (0, 9, 15, 15)] ∈ TB := tb_t 780 (by decide +kernel) (by decide +kernel)
set_option maxRecDepth 100000 in
theorem q_ml_L_54 : Cond.methodLink RL 54 yX5_advance ∈ TB := tb_t 781 (by decide +kernel) (by decide +kernel)
set_option maxRecDepth 100000 in
theorem q_im_X5_advance : Cond.instanceMethod yX5_advance ∈ TB := tb_t 782 (by decide +kernel) (by decide +kernel)
set_option maxRecDepth 100000 in
theorem q_se_X5_advance : Cond.selects RX5 yX5_advance yX5_advance ∈ TB := tb_t 783 (by decide +kernel) (by decide +kernel)
set_option maxRecDepth 100000 in
theorem q_co_X5_advance : Cond.code yX5_advance cX5_advance 5 (some .int) ∈ TB := tb_t 784 (by decide +kernel) (by decide +kernel)
set_option maxRecDepth 100000 in
theorem q_ml_L_192 : Cond.methodLink RL 192 yL_way ∈ TB := tb_t 787 (by decide +kernel) (by decide +kernel)
set_option maxRecDepth 100000 in
theorem q_st_L_way : Cond.static yL_way ∈ TB := tb_t 788 (by decide +kernel) (by decide +kernel)
set_option maxRecDepth 100000 in
theorem q_cw_L_way : Cond.codeWith yL_way cL_way 5 (some .int) [(0, 10, 13, 21)] ∈ TB := tb_t 789 (by decide +kernel) (by decide +kernel)
set_option maxRecDepth 100000 in
theorem q_ml_L_57 : Cond.methodLink RL 57 yX5_way ∈ TB := tb_t 790 (by decide +kernel) (by decide +kernel)
set_option maxRecDepth 100000 in
theorem q_im_X5_way : Cond.instanceMethod yX5_way ∈ TB := tb_t 791 (by decide +kernel) (by decide +kernel)
set_option maxRecDepth 100000 in
theorem q_se_X5_way : Cond.selects RX5 yX5_way yX5_way ∈ TB := tb_t 792 (by decide +kernel) (by decide +kernel)
set_option maxRecDepth 100000 in
theorem q_co_X5_way : Cond.code yX5_way cX5_way 3 (some .int) ∈ TB := tb_t 793 (by decide +kernel) (by decide +kernel)
set_option maxRecDepth 100000 in
theorem q_ml_L_195 : Cond.methodLink RL 195 yL_vehicleOf ∈ TB := tb_t 794 (by decide +kernel) (by decide +kernel)
set_option maxRecDepth 100000 in
theorem q_st_L_vehicleOf : Cond.static yL_vehicleOf ∈ TB := tb_t 795 (by decide +kernel) (by decide +kernel)
set_option maxRecDepth 100000 in
theorem q_cw_L_vehicleOf : Cond.codeWith yL_vehicleOf cL_vehicleOf 4 (some .int) [(0, 9, 12, 21)] ∈ TB := tb_t 796 (by decide +kernel) (by decide +kernel)
set_option maxRecDepth 100000 in
theorem q_ml_L_60 : Cond.methodLink RL 60 yX5_vehicleOf ∈ TB := tb_t 797 (by decide +kernel) (by decide +kernel)
set_option maxRecDepth 100000 in
theorem q_im_X5_vehicleOf : Cond.instanceMethod yX5_vehicleOf ∈ TB := tb_t 798 (by decide +kernel) (by decide +kernel)
set_option maxRecDepth 100000 in
theorem q_se_X5_vehicleOf : Cond.selects RX5 yX5_vehicleOf yX5_vehicleOf ∈ TB := tb_t 799 (by decide +kernel) (by decide +kernel)
set_option maxRecDepth 100000 in
theorem q_co_X5_vehicleOf : Cond.code yX5_vehicleOf cX5_vehicleOf 2 (some .int) ∈ TB := tb_t 800 (by decide +kernel) (by decide +kernel)
set_option maxRecDepth 100000 in
theorem q_ml_L_198 : Cond.methodLink RL 198 yL_isSet ∈ TB := tb_t 801 (by decide +kernel) (by decide +kernel)
set_option maxRecDepth 100000 in
theorem q_st_L_isSet : Cond.static yL_isSet ∈ TB := tb_t 802 (by decide +kernel) (by decide +kernel)
set_option maxRecDepth 100000 in
theorem q_cw_L_isSet : Cond.codeWith yL_isSet cL_isSet 4 (some .int) [(0, 16, 19, 21)] ∈ TB := tb_t 803 (by decide +kernel) (by decide +kernel)
set_option maxRecDepth 100000 in
theorem q_ml_L_63 : Cond.methodLink RL 63 yX5_isSet ∈ TB := tb_t 804 (by decide +kernel) (by decide +kernel)
set_option maxRecDepth 100000 in
theorem q_im_X5_isSet : Cond.instanceMethod yX5_isSet ∈ TB := tb_t 805 (by decide +kernel) (by decide +kernel)
set_option maxRecDepth 100000 in
theorem q_se_X5_isSet : Cond.selects RX5 yX5_isSet yX5_isSet ∈ TB := tb_t 806 (by decide +kernel) (by decide +kernel)
set_option maxRecDepth 100000 in
theorem q_co_X5_isSet : Cond.code yX5_isSet cX5_isSet 2 (some .boolean) ∈ TB := tb_t 807 (by decide +kernel) (by decide +kernel)
set_option maxRecDepth 100000 in
theorem q_ml_L_201 : Cond.methodLink RL 201 yL_stops ∈ TB := tb_t 808 (by decide +kernel) (by decide +kernel)
set_option maxRecDepth 100000 in
theorem q_st_L_stops : Cond.static yL_stops ∈ TB := tb_t 809 (by decide +kernel) (by decide +kernel)
set_option maxRecDepth 100000 in
theorem q_cw_L_stops : Cond.codeWith yL_stops cL_stops 4 (some .int) [(0, 9, 12, 21)] ∈ TB := tb_t 810 (by decide +kernel) (by decide +kernel)
set_option maxRecDepth 100000 in
theorem q_ml_L_67 : Cond.methodLink RL 67 yX5_stops ∈ TB := tb_t 811 (by decide +kernel) (by decide +kernel)
set_option maxRecDepth 100000 in
theorem q_im_X5_stops : Cond.instanceMethod yX5_stops ∈ TB := tb_t 812 (by decide +kernel) (by decide +kernel)
set_option maxRecDepth 100000 in
theorem q_se_X5_stops : Cond.selects RX5 yX5_stops yX5_stops ∈ TB := tb_t 813 (by decide +kernel) (by decide +kernel)
set_option maxRecDepth 100000 in
theorem q_co_X5_stops : Cond.code yX5_stops cX5_stops 2 (some .int) ∈ TB := tb_t 814 (by decide +kernel) (by decide +kernel)
set_option maxRecDepth 100000 in
theorem q_ml_L_204 : Cond.methodLink RL 204 yL_setStops ∈ TB := tb_t 815 (by decide +kernel) (by decide +kernel)
set_option maxRecDepth 100000 in
theorem q_st_L_setStops : Cond.static yL_setStops ∈ TB := tb_t 816 (by decide +kernel) (by decide +kernel)
set_option maxRecDepth 100000 in
theorem q_cw_L_setStops : Cond.codeWith yL_setStops cL_setStops 4 (some .int) [(0, 9, 12, 21)] ∈ TB := tb_t 817 (by decide +kernel) (by decide +kernel)
set_option maxRecDepth 100000 in
theorem q_ml_L_70 : Cond.methodLink RL 70 yX5_setStops ∈ TB := tb_t 818 (by decide +kernel) (by decide +kernel)
set_option maxRecDepth 100000 in
theorem q_im_X5_setStops : Cond.instanceMethod yX5_setStops ∈ TB := tb_t 819 (by decide +kernel) (by decide +kernel)
set_option maxRecDepth 100000 in
theorem q_se_X5_setStops : Cond.selects RX5 yX5_setStops yX5_setStops ∈ TB := tb_t 820 (by decide +kernel) (by decide +kernel)
set_option maxRecDepth 100000 in
theorem q_co_X5_setStops : Cond.code yX5_setStops cX5_setStops 2 (some .int) ∈ TB := tb_t 821 (by decide +kernel) (by decide +kernel)
set_option maxRecDepth 100000 in
theorem q_ml_L_207 : Cond.methodLink RL 207 yL_jobAt ∈ TB := tb_t 822 (by decide +kernel) (by decide +kernel)
set_option maxRecDepth 100000 in
theorem q_st_L_jobAt : Cond.static yL_jobAt ∈ TB := tb_t 823 (by decide +kernel) (by decide +kernel)
set_option maxRecDepth 100000 in
theorem q_cw_L_jobAt : Cond.codeWith yL_jobAt cL_jobAt 5 (some .int) [(0, 10, 13, 21)] ∈ TB := tb_t 824 (by decide +kernel) (by decide +kernel)
set_option maxRecDepth 100000 in
theorem q_ml_L_73 : Cond.methodLink RL 73 yX5_jobAt ∈ TB := tb_t 825 (by decide +kernel) (by decide +kernel)
set_option maxRecDepth 100000 in
theorem q_im_X5_jobAt : Cond.instanceMethod yX5_jobAt ∈ TB := tb_t 826 (by decide +kernel) (by decide +kernel)
set_option maxRecDepth 100000 in
theorem q_se_X5_jobAt : Cond.selects RX5 yX5_jobAt yX5_jobAt ∈ TB := tb_t 827 (by decide +kernel) (by decide +kernel)
set_option maxRecDepth 100000 in
theorem q_co_X5_jobAt : Cond.code yX5_jobAt cX5_jobAt 3 (some .int) ∈ TB := tb_t 828 (by decide +kernel) (by decide +kernel)
set_option maxRecDepth 100000 in
theorem q_ml_X5_250 : Cond.methodLink RX5 250 yX5_checkStop ∈ TB := tb_t 829 (by decide +kernel) (by decide +kernel)
set_option maxRecDepth 100000 in
theorem q_im_X5_checkStop : Cond.instanceMethod yX5_checkStop ∈ TB := tb_t 831 (by decide +kernel) (by decide +kernel)
set_option maxRecDepth 100000 in
theorem q_co_X5_checkStop : Cond.code yX5_checkStop cX5_checkStop 3 none ∈ TB := tb_t 832 (by decide +kernel) (by decide +kernel)
set_option maxRecDepth 100000 in
theorem q_ml_L_210 : Cond.methodLink RL 210 yL_isFetched ∈ TB := tb_t 834 (by decide +kernel) (by decide +kernel)
set_option maxRecDepth 100000 in
theorem q_st_L_isFetched : Cond.static yL_isFetched ∈ TB := tb_t 835 (by decide +kernel) (by decide +kernel)
set_option maxRecDepth 100000 in
theorem q_cw_L_isFetched : Cond.codeWith yL_isFetched cL_isFetched 5 (some .int) [(0, 17, 20, 21)] ∈ TB := tb_t 836 (by decide +kernel) (by decide +kernel)
set_option maxRecDepth 100000 in
theorem q_ml_L_76 : Cond.methodLink RL 76 yX5_isFetched ∈ TB := tb_t 837 (by decide +kernel) (by decide +kernel)
set_option maxRecDepth 100000 in
theorem q_im_X5_isFetched : Cond.instanceMethod yX5_isFetched ∈ TB := tb_t 838 (by decide +kernel) (by decide +kernel)
set_option maxRecDepth 100000 in
theorem q_se_X5_isFetched : Cond.selects RX5 yX5_isFetched yX5_isFetched ∈ TB := tb_t 839 (by decide +kernel) (by decide +kernel)
set_option maxRecDepth 100000 in
theorem q_co_X5_isFetched : Cond.code yX5_isFetched cX5_isFetched 3 (some .boolean) ∈ TB := tb_t 840 (by decide +kernel) (by decide +kernel)
set_option maxRecDepth 100000 in
theorem q_ml_L_213 : Cond.methodLink RL 213 yL_arrives ∈ TB := tb_t 841 (by decide +kernel) (by decide +kernel)
set_option maxRecDepth 100000 in
theorem q_st_L_arrives : Cond.static yL_arrives ∈ TB := tb_t 842 (by decide +kernel) (by decide +kernel)
set_option maxRecDepth 100000 in
theorem q_cw_L_arrives : Cond.codeWith yL_arrives cL_arrives 5 (some .int) [(0, 10, 13, 21)] ∈ TB := tb_t 843 (by decide +kernel) (by decide +kernel)
set_option maxRecDepth 100000 in
theorem q_ml_L_80 : Cond.methodLink RL 80 yX5_arrives ∈ TB := tb_t 844 (by decide +kernel) (by decide +kernel)
set_option maxRecDepth 100000 in
theorem q_im_X5_arrives : Cond.instanceMethod yX5_arrives ∈ TB := tb_t 845 (by decide +kernel) (by decide +kernel)
set_option maxRecDepth 100000 in
theorem q_se_X5_arrives : Cond.selects RX5 yX5_arrives yX5_arrives ∈ TB := tb_t 846 (by decide +kernel) (by decide +kernel)
set_option maxRecDepth 100000 in
theorem q_co_X5_arrives : Cond.code yX5_arrives cX5_arrives 3 (some .int) ∈ TB := tb_t 847 (by decide +kernel) (by decide +kernel)
set_option maxRecDepth 100000 in
theorem q_ml_L_216 : Cond.methodLink RL 216 yL_begins ∈ TB := tb_t 852 (by decide +kernel) (by decide +kernel)
set_option maxRecDepth 100000 in
theorem q_st_L_begins : Cond.static yL_begins ∈ TB := tb_t 853 (by decide +kernel) (by decide +kernel)
set_option maxRecDepth 100000 in
theorem q_cw_L_begins : Cond.codeWith yL_begins cL_begins 5 (some .int) [(0, 10, 13, 21)] ∈ TB := tb_t 854 (by decide +kernel) (by decide +kernel)
set_option maxRecDepth 100000 in
theorem q_ml_L_83 : Cond.methodLink RL 83 yX5_begins ∈ TB := tb_t 855 (by decide +kernel) (by decide +kernel)
set_option maxRecDepth 100000 in
theorem q_im_X5_begins : Cond.instanceMethod yX5_begins ∈ TB := tb_t 856 (by decide +kernel) (by decide +kernel)
set_option maxRecDepth 100000 in
theorem q_se_X5_begins : Cond.selects RX5 yX5_begins yX5_begins ∈ TB := tb_t 857 (by decide +kernel) (by decide +kernel)
set_option maxRecDepth 100000 in
theorem q_co_X5_begins : Cond.code yX5_begins cX5_begins 3 (some .int) ∈ TB := tb_t 858 (by decide +kernel) (by decide +kernel)
set_option maxRecDepth 100000 in
theorem q_ml_L_219 : Cond.methodLink RL 219 yL_loadBehind ∈ TB := tb_t 859 (by decide +kernel) (by decide +kernel)
set_option maxRecDepth 100000 in
theorem q_st_L_loadBehind : Cond.static yL_loadBehind ∈ TB := tb_t 860 (by decide +kernel) (by decide +kernel)
set_option maxRecDepth 100000 in
theorem q_cw_L_loadBehind : Cond.codeWith yL_loadBehind cL_loadBehind 5 (some .int) [(0, 10, 13, 21)] ∈ TB := tb_t 861 (by decide +kernel) (by decide +kernel)
set_option maxRecDepth 100000 in
theorem q_ml_L_86 : Cond.methodLink RL 86 yX5_loadBehind ∈ TB := tb_t 862 (by decide +kernel) (by decide +kernel)
set_option maxRecDepth 100000 in
theorem q_im_X5_loadBehind : Cond.instanceMethod yX5_loadBehind ∈ TB := tb_t 863 (by decide +kernel) (by decide +kernel)
set_option maxRecDepth 100000 in
theorem q_se_X5_loadBehind : Cond.selects RX5 yX5_loadBehind yX5_loadBehind ∈ TB := tb_t 864 (by decide +kernel) (by decide +kernel)
set_option maxRecDepth 100000 in
theorem q_co_X5_loadBehind : Cond.code yX5_loadBehind cX5_loadBehind 3 (some .int) ∈ TB := tb_t 865 (by decide +kernel) (by decide +kernel)
set_option maxRecDepth 100000 in
theorem q_ml_L_222 : Cond.methodLink RL 222 yL_slack ∈ TB := tb_t 866 (by decide +kernel) (by decide +kernel)
set_option maxRecDepth 100000 in
theorem q_st_L_slack : Cond.static yL_slack ∈ TB := tb_t 867 (by decide +kernel) (by decide +kernel)
set_option maxRecDepth 100000 in
theorem q_cw_L_slack : Cond.codeWith yL_slack cL_slack 5 (some .int) [(0, 10, 13, 21)] ∈ TB := tb_t 868 (by decide +kernel) (by decide +kernel)
set_option maxRecDepth 100000 in
theorem q_ml_L_89 : Cond.methodLink RL 89 yX5_slack ∈ TB := tb_t 869 (by decide +kernel) (by decide +kernel)
set_option maxRecDepth 100000 in
theorem q_im_X5_slack : Cond.instanceMethod yX5_slack ∈ TB := tb_t 870 (by decide +kernel) (by decide +kernel)
set_option maxRecDepth 100000 in
theorem q_se_X5_slack : Cond.selects RX5 yX5_slack yX5_slack ∈ TB := tb_t 871 (by decide +kernel) (by decide +kernel)
set_option maxRecDepth 100000 in
theorem q_co_X5_slack : Cond.code yX5_slack cX5_slack 3 (some .int) ∈ TB := tb_t 872 (by decide +kernel) (by decide +kernel)
set_option maxRecDepth 100000 in
theorem q_ml_L_225 : Cond.methodLink RL 225 yL_back ∈ TB := tb_t 873 (by decide +kernel) (by decide +kernel)
set_option maxRecDepth 100000 in
theorem q_st_L_back : Cond.static yL_back ∈ TB := tb_t 874 (by decide +kernel) (by decide +kernel)
set_option maxRecDepth 100000 in
theorem q_cw_L_back : Cond.codeWith yL_back cL_back 4 (some .int) [(0, 9, 12, 21)] ∈ TB := tb_t 875 (by decide +kernel) (by decide +kernel)
set_option maxRecDepth 100000 in
theorem q_ml_L_92 : Cond.methodLink RL 92 yX5_back ∈ TB := tb_t 876 (by decide +kernel) (by decide +kernel)
set_option maxRecDepth 100000 in
theorem q_im_X5_back : Cond.instanceMethod yX5_back ∈ TB := tb_t 877 (by decide +kernel) (by decide +kernel)
set_option maxRecDepth 100000 in
theorem q_se_X5_back : Cond.selects RX5 yX5_back yX5_back ∈ TB := tb_t 878 (by decide +kernel) (by decide +kernel)
set_option maxRecDepth 100000 in
theorem q_co_X5_back : Cond.code yX5_back cX5_back 2 (some .int) ∈ TB := tb_t 879 (by decide +kernel) (by decide +kernel)
set_option maxRecDepth 100000 in
theorem q_ml_L_228 : Cond.methodLink RL 228 yL_waits ∈ TB := tb_t 880 (by decide +kernel) (by decide +kernel)
set_option maxRecDepth 100000 in
theorem q_st_L_waits : Cond.static yL_waits ∈ TB := tb_t 881 (by decide +kernel) (by decide +kernel)
set_option maxRecDepth 100000 in
theorem q_cw_L_waits : Cond.codeWith yL_waits cL_waits 4 (some .int) [(0, 9, 12, 21)] ∈ TB := tb_t 882 (by decide +kernel) (by decide +kernel)
set_option maxRecDepth 100000 in
theorem q_ml_L_95 : Cond.methodLink RL 95 yX5_waits ∈ TB := tb_t 883 (by decide +kernel) (by decide +kernel)
set_option maxRecDepth 100000 in
theorem q_im_X5_waits : Cond.instanceMethod yX5_waits ∈ TB := tb_t 884 (by decide +kernel) (by decide +kernel)
set_option maxRecDepth 100000 in
theorem q_se_X5_waits : Cond.selects RX5 yX5_waits yX5_waits ∈ TB := tb_t 885 (by decide +kernel) (by decide +kernel)
set_option maxRecDepth 100000 in
theorem q_co_X5_waits : Cond.code yX5_waits cX5_waits 2 (some .int) ∈ TB := tb_t 886 (by decide +kernel) (by decide +kernel)
set_option maxRecDepth 100000 in
theorem q_ml_L_231 : Cond.methodLink RL 231 yL_isRight ∈ TB := tb_t 887 (by decide +kernel) (by decide +kernel)
set_option maxRecDepth 100000 in
theorem q_st_L_isRight : Cond.static yL_isRight ∈ TB := tb_t 888 (by decide +kernel) (by decide +kernel)
set_option maxRecDepth 100000 in
theorem q_cw_L_isRight : Cond.codeWith yL_isRight cL_isRight 4 (some .int) [(0, 16, 19, 21)] ∈ TB := tb_t 889 (by decide +kernel) (by decide +kernel)
set_option maxRecDepth 100000 in
theorem q_ml_L_98 : Cond.methodLink RL 98 yX5_isRight ∈ TB := tb_t 890 (by decide +kernel) (by decide +kernel)
set_option maxRecDepth 100000 in
theorem q_im_X5_isRight : Cond.instanceMethod yX5_isRight ∈ TB := tb_t 891 (by decide +kernel) (by decide +kernel)
set_option maxRecDepth 100000 in
theorem q_se_X5_isRight : Cond.selects RX5 yX5_isRight yX5_isRight ∈ TB := tb_t 892 (by decide +kernel) (by decide +kernel)
set_option maxRecDepth 100000 in
theorem q_co_X5_isRight : Cond.code yX5_isRight cX5_isRight 2 (some .boolean) ∈ TB := tb_t 893 (by decide +kernel) (by decide +kernel)
set_option maxRecDepth 100000 in
theorem q_ml_L_234 : Cond.methodLink RL 234 yL_length ∈ TB := tb_t 894 (by decide +kernel) (by decide +kernel)
set_option maxRecDepth 100000 in
theorem q_st_L_length : Cond.static yL_length ∈ TB := tb_t 895 (by decide +kernel) (by decide +kernel)
set_option maxRecDepth 100000 in
theorem q_cw_L_length : Cond.codeWith yL_length cL_length 4 (some .int) [(0, 9, 12, 21)] ∈ TB := tb_t 896 (by decide +kernel) (by decide +kernel)
set_option maxRecDepth 100000 in
theorem q_ml_L_101 : Cond.methodLink RL 101 yX5_length ∈ TB := tb_t 897 (by decide +kernel) (by decide +kernel)
set_option maxRecDepth 100000 in
theorem q_im_X5_length : Cond.instanceMethod yX5_length ∈ TB := tb_t 898 (by decide +kernel) (by decide +kernel)
set_option maxRecDepth 100000 in
theorem q_se_X5_length : Cond.selects RX5 yX5_length yX5_length ∈ TB := tb_t 899 (by decide +kernel) (by decide +kernel)
set_option maxRecDepth 100000 in
theorem q_co_X5_length : Cond.code yX5_length cX5_length 2 (some .int) ∈ TB := tb_t 900 (by decide +kernel) (by decide +kernel)
set_option maxRecDepth 100000 in
theorem q_ml_L_237 : Cond.methodLink RL 237 yL_costOf ∈ TB := tb_t 901 (by decide +kernel) (by decide +kernel)
set_option maxRecDepth 100000 in
theorem q_st_L_costOf : Cond.static yL_costOf ∈ TB := tb_t 902 (by decide +kernel) (by decide +kernel)
set_option maxRecDepth 100000 in
theorem q_cw_L_costOf : Cond.codeWith yL_costOf cL_costOf 4 (some .int) [(0, 9, 12, 21)] ∈ TB := tb_t 903 (by decide +kernel) (by decide +kernel)
set_option maxRecDepth 100000 in
theorem q_ml_L_104 : Cond.methodLink RL 104 yX5_costOf ∈ TB := tb_t 904 (by decide +kernel) (by decide +kernel)
set_option maxRecDepth 100000 in
theorem q_im_X5_costOf : Cond.instanceMethod yX5_costOf ∈ TB := tb_t 905 (by decide +kernel) (by decide +kernel)
set_option maxRecDepth 100000 in
theorem q_se_X5_costOf : Cond.selects RX5 yX5_costOf yX5_costOf ∈ TB := tb_t 906 (by decide +kernel) (by decide +kernel)
set_option maxRecDepth 100000 in
theorem q_co_X5_costOf : Cond.code yX5_costOf cX5_costOf 2 (some .int) ∈ TB := tb_t 907 (by decide +kernel) (by decide +kernel)
set_option maxRecDepth 100000 in
theorem q_ml_L_249 : Cond.methodLink RL 249 yL_wouldAdd ∈ TB := tb_t 908 (by decide +kernel) (by decide +kernel)
set_option maxRecDepth 100000 in
theorem q_st_L_wouldAdd : Cond.static yL_wouldAdd ∈ TB := tb_t 909 (by decide +kernel) (by decide +kernel)
set_option maxRecDepth 100000 in
theorem q_cw_L_wouldAdd : Cond.codeWith yL_wouldAdd cL_wouldAdd 5 (some .int) [(0, 10, 13, 21), (0, 10, 17, 15)] ∈ TB := tb_t 910 (by decide +kernel) (by decide +kernel)
set_option maxRecDepth 100000 in
theorem q_ml_L_107 : Cond.methodLink RL 107 yX5_wouldAdd ∈ TB := tb_t 911 (by decide +kernel) (by decide +kernel)
set_option maxRecDepth 100000 in
theorem q_im_X5_wouldAdd : Cond.instanceMethod yX5_wouldAdd ∈ TB := tb_t 912 (by decide +kernel) (by decide +kernel)
set_option maxRecDepth 100000 in
theorem q_se_X5_wouldAdd : Cond.selects RX5 yX5_wouldAdd yX5_wouldAdd ∈ TB := tb_t 913 (by decide +kernel) (by decide +kernel)
set_option maxRecDepth 100000 in
theorem q_co_X5_wouldAdd : Cond.code yX5_wouldAdd cX5_wouldAdd 4 (some .int) ∈ TB := tb_t 914 (by decide +kernel) (by decide +kernel)
set_option maxRecDepth 100000 in
theorem q_ml_L_252 : Cond.methodLink RL 252 yL_gain ∈ TB := tb_t 915 (by decide +kernel) (by decide +kernel)
set_option maxRecDepth 100000 in
theorem q_st_L_gain : Cond.static yL_gain ∈ TB := tb_t 916 (by decide +kernel) (by decide +kernel)
set_option maxRecDepth 100000 in
theorem q_cw_L_gain : Cond.codeWith yL_gain cL_gain 4 (some .int) [(0, 9, 12, 13)] ∈ TB := tb_t 917 (by decide +kernel) (by decide +kernel)
set_option maxRecDepth 100000 in
theorem q_ml_L_110 : Cond.methodLink RL 110 yX5_gain ∈ TB := tb_t 918 (by decide +kernel) (by decide +kernel)
set_option maxRecDepth 100000 in
theorem q_im_X5_gain : Cond.instanceMethod yX5_gain ∈ TB := tb_t 919 (by decide +kernel) (by decide +kernel)
set_option maxRecDepth 100000 in
theorem q_se_X5_gain : Cond.selects RX5 yX5_gain yX5_gain ∈ TB := tb_t 920 (by decide +kernel) (by decide +kernel)
set_option maxRecDepth 100000 in
theorem q_co_X5_gain : Cond.code yX5_gain cX5_gain 2 (some .int) ∈ TB := tb_t 921 (by decide +kernel) (by decide +kernel)
set_option maxRecDepth 100000 in
theorem q_ml_L_255 : Cond.methodLink RL 255 yL_laterBack ∈ TB := tb_t 922 (by decide +kernel) (by decide +kernel)
set_option maxRecDepth 100000 in
theorem q_st_L_laterBack : Cond.static yL_laterBack ∈ TB := tb_t 923 (by decide +kernel) (by decide +kernel)
set_option maxRecDepth 100000 in
theorem q_cw_L_laterBack : Cond.codeWith yL_laterBack cL_laterBack 6 (some .int) [(0, 12, 15, 21), (0, 12, 19, 13)] ∈ TB := tb_t 924 (by decide +kernel) (by decide +kernel)
set_option maxRecDepth 100000 in
theorem q_ml_L_113 : Cond.methodLink RL 113 yX5_laterBack ∈ TB := tb_t 925 (by decide +kernel) (by decide +kernel)
set_option maxRecDepth 100000 in
theorem q_im_X5_laterBack : Cond.instanceMethod yX5_laterBack ∈ TB := tb_t 926 (by decide +kernel) (by decide +kernel)
set_option maxRecDepth 100000 in
theorem q_se_X5_laterBack : Cond.selects RX5 yX5_laterBack yX5_laterBack ∈ TB := tb_t 927 (by decide +kernel) (by decide +kernel)
set_option maxRecDepth 100000 in
theorem q_co_X5_laterBack : Cond.code yX5_laterBack cX5_laterBack 6 (some .int) ∈ TB := tb_t 928 (by decide +kernel) (by decide +kernel)
set_option maxRecDepth 100000 in
theorem q_ml_L_259 : Cond.methodLink RL 259 yL_costWithout ∈ TB := tb_t 934 (by decide +kernel) (by decide +kernel)
set_option maxRecDepth 100000 in
theorem q_st_L_costWithout : Cond.static yL_costWithout ∈ TB := tb_t 935 (by decide +kernel) (by decide +kernel)
set_option maxRecDepth 100000 in
theorem q_cw_L_costWithout : Cond.codeWith yL_costWithout cL_costWithout 4 (some .int) [(0, 9, 12, 21)] ∈ TB := tb_t 936 (by decide +kernel) (by decide +kernel)
set_option maxRecDepth 100000 in
theorem q_ml_L_117 : Cond.methodLink RL 117 yX5_costWithout ∈ TB := tb_t 937 (by decide +kernel) (by decide +kernel)
set_option maxRecDepth 100000 in
theorem q_im_X5_costWithout : Cond.instanceMethod yX5_costWithout ∈ TB := tb_t 938 (by decide +kernel) (by decide +kernel)
set_option maxRecDepth 100000 in
theorem q_se_X5_costWithout : Cond.selects RX5 yX5_costWithout yX5_costWithout ∈ TB := tb_t 939 (by decide +kernel) (by decide +kernel)
set_option maxRecDepth 100000 in
theorem q_co_X5_costWithout : Cond.code yX5_costWithout cX5_costWithout 3 (some .int) ∈ TB := tb_t 940 (by decide +kernel) (by decide +kernel)
set_option maxRecDepth 100000 in
theorem q_cl_L_121 : Cond.classLink RL 121 "DroverPlanModel" ∈ TB := tb_t 941 (by decide +kernel) (by decide +kernel)
set_option maxRecDepth 100000 in
theorem q_in_X6 : Cond.instantiable RX6 12 ∈ TB := tb_t 942 (by decide +kernel) (by decide +kernel)
set_option maxRecDepth 100000 in
theorem q_ml_L_123 : Cond.methodLink RL 123 yX6_init ∈ TB := tb_t 943 (by decide +kernel) (by decide +kernel)
set_option maxRecDepth 100000 in
theorem q_im_X6_init : Cond.instanceMethod yX6_init ∈ TB := tb_t 944 (by decide +kernel) (by decide +kernel)
set_option maxRecDepth 100000 in
theorem q_co_X6_init : Cond.code yX6_init cX6_init 1 none ∈ TB := tb_t 945 (by decide +kernel) (by decide +kernel)
set_option maxRecDepth 100000 in
theorem q_ml_X6_1 : Cond.methodLink RX6 1 ⟨"java/lang/Object", "<init>", "()V"⟩ ∈ TB := tb_t 946 (by decide +kernel) (by decide +kernel)
set_option maxRecDepth 100000 in
theorem q_cl_X6_9 : Cond.classLink RX6 9 "[I" ∈ TB := tb_t 947 (by decide +kernel) (by decide +kernel)
set_option maxRecDepth 100000 in
theorem q_fl_X6_24 : Cond.fieldLink RX6 24 "DroverPlanModel" "thrown" "I" ∈ TB := tb_t 949 (by decide +kernel) (by decide +kernel)
set_option maxRecDepth 100000 in
theorem q_fl_X6_28 : Cond.fieldLink RX6 28 "DroverPlanModel" "places" "I" ∈ TB := tb_t 950 (by decide +kernel) (by decide +kernel)
set_option maxRecDepth 100000 in
theorem q_fl_X6_35 : Cond.fieldLink RX6 35 "DroverPlanModel" "vehicles" "I" ∈ TB := tb_t 951 (by decide +kernel) (by decide +kernel)
set_option maxRecDepth 100000 in
theorem q_fl_X6_38 : Cond.fieldLink RX6 38 "DroverPlanModel" "jobs" "I" ∈ TB := tb_t 952 (by decide +kernel) (by decide +kernel)
set_option maxRecDepth 100000 in
theorem q_fl_X6_73 : Cond.fieldLink RX6 73 "DroverPlanModel" "clock" "I" ∈ TB := tb_t 953 (by decide +kernel) (by decide +kernel)
set_option maxRecDepth 100000 in
theorem q_fl_X6_11 : Cond.fieldLink RX6 11 "DroverPlanModel" "place" "[[I" ∈ TB := tb_t 954 (by decide +kernel) (by decide +kernel)
set_option maxRecDepth 100000 in
theorem q_fl_X6_15 : Cond.fieldLink RX6 15 "DroverPlanModel" "vehicle" "[[I" ∈ TB := tb_t 955 (by decide +kernel) (by decide +kernel)
set_option maxRecDepth 100000 in
theorem q_fl_X6_18 : Cond.fieldLink RX6 18 "DroverPlanModel" "job" "[[I" ∈ TB := tb_t 956 (by decide +kernel) (by decide +kernel)
set_option maxRecDepth 100000 in
theorem q_fl_X6_21 : Cond.fieldLink RX6 21 "DroverPlanModel" "route" "[[I" ∈ TB := tb_t 957 (by decide +kernel) (by decide +kernel)
set_option maxRecDepth 100000 in
theorem q_fl_X6_123 : Cond.fieldLink RX6 123 "DroverPlanModel" "most" "I" ∈ TB := tb_t 958 (by decide +kernel) (by decide +kernel)
set_option maxRecDepth 100000 in
theorem q_fl_X6_126 : Cond.fieldLink RX6 126 "DroverPlanModel" "bestPlan" "[[I" ∈ TB := tb_t 959 (by decide +kernel) (by decide +kernel)
set_option maxRecDepth 100000 in
theorem q_fl_X6_237 : Cond.fieldLink RX6 237 "DroverPlanModel" "sum" "J" ∈ TB := tb_t 960 (by decide +kernel) (by decide +kernel)
set_option maxRecDepth 100000 in
theorem q_la_X6_0 : u_lay RX6 TX6 0 ∈ TB := tb_t 961 (by decide +kernel) (by decide +kernel)
set_option maxRecDepth 100000 in
theorem q_la_X6_1 : u_lay RX6 TX6 1 ∈ TB := tb_t 963 (by decide +kernel) (by decide +kernel)
set_option maxRecDepth 100000 in
theorem q_la_X6_2 : u_lay RX6 TX6 2 ∈ TB := tb_t 965 (by decide +kernel) (by decide +kernel)
set_option maxRecDepth 100000 in
theorem q_la_X6_3 : u_lay RX6 TX6 3 ∈ TB := tb_t 967 (by decide +kernel) (by decide +kernel)
set_option maxRecDepth 100000 in
theorem q_la_X6_4 : u_lay RX6 TX6 4 ∈ TB := tb_t 969 (by decide +kernel) (by decide +kernel)
set_option maxRecDepth 100000 in
theorem q_la_X6_5 : u_lay RX6 TX6 5 ∈ TB := tb_t 971 (by decide +kernel) (by decide +kernel)
set_option maxRecDepth 100000 in
theorem q_la_X6_6 : u_lay RX6 TX6 6 ∈ TB := tb_t 973 (by decide +kernel) (by decide +kernel)
set_option maxRecDepth 100000 in
theorem q_la_X6_7 : u_lay RX6 TX6 7 ∈ TB := tb_t 975 (by decide +kernel) (by decide +kernel)
set_option maxRecDepth 100000 in
theorem q_la_X6_8 : u_lay RX6 TX6 8 ∈ TB := tb_t 977 (by decide +kernel) (by decide +kernel)
set_option maxRecDepth 100000 in
theorem q_la_X6_9 : u_lay RX6 TX6 9 ∈ TB := tb_t 979 (by decide +kernel) (by decide +kernel)
set_option maxRecDepth 100000 in
theorem q_la_X6_10 : u_lay RX6 TX6 10 ∈ TB := tb_t 981 (by decide +kernel) (by decide +kernel)
set_option maxRecDepth 100000 in
theorem q_la_X6_11 : u_lay RX6 TX6 11 ∈ TB := tb_t 983 (by decide +kernel) (by decide +kernel)
set_option maxRecDepth 100000 in
theorem q_ml_L_130 : Cond.methodLink RL 130 yX6_thrown ∈ TB := tb_t 986 (by decide +kernel) (by decide +kernel)
set_option maxRecDepth 100000 in
theorem q_im_X6_thrown : Cond.instanceMethod yX6_thrown ∈ TB := tb_t 987 (by decide +kernel) (by decide +kernel)
set_option maxRecDepth 100000 in
theorem q_se_X6_thrown : Cond.selects RX6 yX6_thrown yX6_thrown ∈ TB := tb_t 988 (by decide +kernel) (by decide +kernel)
set_option maxRecDepth 100000 in
theorem q_co_X6_thrown : Cond.code yX6_thrown cX6_thrown 1 (some .int) ∈ TB := tb_t 989 (by decide +kernel) (by decide +kernel)
set_option maxRecDepth 100000 in
theorem q_ml_L_129 : Cond.methodLink RL 129 yX6_addPlace ∈ TB := tb_t 990 (by decide +kernel) (by decide +kernel)
set_option maxRecDepth 100000 in
theorem q_im_X6_addPlace : Cond.instanceMethod yX6_addPlace ∈ TB := tb_t 991 (by decide +kernel) (by decide +kernel)
set_option maxRecDepth 100000 in
theorem q_se_X6_addPlace : Cond.selects RX6 yX6_addPlace yX6_addPlace ∈ TB := tb_t 992 (by decide +kernel) (by decide +kernel)
set_option maxRecDepth 100000 in
theorem q_co_X6_addPlace : Cond.code yX6_addPlace cX6_addPlace 4 (some .int) ∈ TB := tb_t 993 (by decide +kernel) (by decide +kernel)
set_option maxRecDepth 100000 in
theorem q_ml_X6_31 : Cond.methodLink RX6 31 yX6_is ∈ TB := tb_t 994 (by decide +kernel) (by decide +kernel)
set_option maxRecDepth 100000 in
theorem q_st_X6_is : Cond.static yX6_is ∈ TB := tb_t 995 (by decide +kernel) (by decide +kernel)
set_option maxRecDepth 100000 in
theorem q_co_X6_is : Cond.code yX6_is cX6_is 3 (some .boolean) ∈ TB := tb_t 996 (by decide +kernel) (by decide +kernel)
set_option maxRecDepth 100000 in
theorem q_ml_X6_171 : Cond.methodLink RX6 171 yX6_refuse ∈ TB := tb_t 997 (by decide +kernel) (by decide +kernel)
set_option maxRecDepth 100000 in
theorem q_im_X6_refuse : Cond.instanceMethod yX6_refuse ∈ TB := tb_t 999 (by decide +kernel) (by decide +kernel)
set_option maxRecDepth 100000 in
theorem q_co_X6_refuse : Cond.code yX6_refuse cX6_refuse 2 (some .int) ∈ TB := tb_t 1000 (by decide +kernel) (by decide +kernel)
set_option maxRecDepth 100000 in
theorem q_ml_L_137 : Cond.methodLink RL 137 yX6_addVehicle ∈ TB := tb_t 1001 (by decide +kernel) (by decide +kernel)
set_option maxRecDepth 100000 in
theorem q_im_X6_addVehicle : Cond.instanceMethod yX6_addVehicle ∈ TB := tb_t 1002 (by decide +kernel) (by decide +kernel)
set_option maxRecDepth 100000 in
theorem q_se_X6_addVehicle : Cond.selects RX6 yX6_addVehicle yX6_addVehicle ∈ TB := tb_t 1003 (by decide +kernel) (by decide +kernel)
set_option maxRecDepth 100000 in
theorem q_co_X6_addVehicle : Cond.code yX6_addVehicle cX6_addVehicle 8 (some .int) ∈ TB := tb_t 1004 (by decide +kernel) (by decide +kernel)
set_option maxRecDepth 100000 in
theorem q_ml_X6_174 : Cond.methodLink RX6 174 yX6_isPlace ∈ TB := tb_t 1005 (by decide +kernel) (by decide +kernel)
set_option maxRecDepth 100000 in
theorem q_im_X6_isPlace : Cond.instanceMethod yX6_isPlace ∈ TB := tb_t 1007 (by decide +kernel) (by decide +kernel)
set_option maxRecDepth 100000 in
theorem q_co_X6_isPlace : Cond.code yX6_isPlace cX6_isPlace 2 (some .boolean) ∈ TB := tb_t 1008 (by decide +kernel) (by decide +kernel)
set_option maxRecDepth 100000 in
theorem q_ml_L_141 : Cond.methodLink RL 141 yX6_addJob ∈ TB := tb_t 1009 (by decide +kernel) (by decide +kernel)
set_option maxRecDepth 100000 in
theorem q_im_X6_addJob : Cond.instanceMethod yX6_addJob ∈ TB := tb_t 1010 (by decide +kernel) (by decide +kernel)
set_option maxRecDepth 100000 in
theorem q_se_X6_addJob : Cond.selects RX6 yX6_addJob yX6_addJob ∈ TB := tb_t 1011 (by decide +kernel) (by decide +kernel)
set_option maxRecDepth 100000 in
theorem q_co_X6_addJob : Cond.code yX6_addJob cX6_addJob 7 (some .int) ∈ TB := tb_t 1012 (by decide +kernel) (by decide +kernel)
set_option maxRecDepth 100000 in
theorem q_ml_L_145 : Cond.methodLink RL 145 yX6_setHours ∈ TB := tb_t 1013 (by decide +kernel) (by decide +kernel)
set_option maxRecDepth 100000 in
theorem q_im_X6_setHours : Cond.instanceMethod yX6_setHours ∈ TB := tb_t 1014 (by decide +kernel) (by decide +kernel)
set_option maxRecDepth 100000 in
theorem q_se_X6_setHours : Cond.selects RX6 yX6_setHours yX6_setHours ∈ TB := tb_t 1015 (by decide +kernel) (by decide +kernel)
set_option maxRecDepth 100000 in
theorem q_co_X6_setHours : Cond.code yX6_setHours cX6_setHours 5 (some .boolean) ∈ TB := tb_t 1016 (by decide +kernel) (by decide +kernel)
set_option maxRecDepth 100000 in
theorem q_ml_X6_177 : Cond.methodLink RX6 177 yX6_isJob ∈ TB := tb_t 1017 (by decide +kernel) (by decide +kernel)
set_option maxRecDepth 100000 in
theorem q_im_X6_isJob : Cond.instanceMethod yX6_isJob ∈ TB := tb_t 1019 (by decide +kernel) (by decide +kernel)
set_option maxRecDepth 100000 in
theorem q_co_X6_isJob : Cond.code yX6_isJob cX6_isJob 2 (some .boolean) ∈ TB := tb_t 1020 (by decide +kernel) (by decide +kernel)
set_option maxRecDepth 100000 in
theorem q_ml_X6_180 : Cond.methodLink RX6 180 yX6_areRight ∈ TB := tb_t 1059 (by decide +kernel) (by decide +kernel)
set_option maxRecDepth 100000 in
theorem q_im_X6_areRight : Cond.instanceMethod yX6_areRight ∈ TB := tb_t 1061 (by decide +kernel) (by decide +kernel)
set_option maxRecDepth 100000 in
theorem q_co_X6_areRight : Cond.code yX6_areRight cX6_areRight 3 (some .boolean) ∈ TB := tb_t 1062 (by decide +kernel) (by decide +kernel)
set_option maxRecDepth 100000 in
theorem q_ml_L_149 : Cond.methodLink RL 149 yX6_insert ∈ TB := tb_t 1071 (by decide +kernel) (by decide +kernel)
set_option maxRecDepth 100000 in
theorem q_im_X6_insert : Cond.instanceMethod yX6_insert ∈ TB := tb_t 1072 (by decide +kernel) (by decide +kernel)
set_option maxRecDepth 100000 in
theorem q_se_X6_insert : Cond.selects RX6 yX6_insert yX6_insert ∈ TB := tb_t 1073 (by decide +kernel) (by decide +kernel)
set_option maxRecDepth 100000 in
theorem q_co_X6_insert : Cond.code yX6_insert cX6_insert 2 (some .int) ∈ TB := tb_t 1074 (by decide +kernel) (by decide +kernel)
set_option maxRecDepth 100000 in
theorem q_ml_L_153 : Cond.methodLink RL 153 yX6_insertAt ∈ TB := tb_t 1102 (by decide +kernel) (by decide +kernel)
set_option maxRecDepth 100000 in
theorem q_im_X6_insertAt : Cond.instanceMethod yX6_insertAt ∈ TB := tb_t 1103 (by decide +kernel) (by decide +kernel)
set_option maxRecDepth 100000 in
theorem q_se_X6_insertAt : Cond.selects RX6 yX6_insertAt yX6_insertAt ∈ TB := tb_t 1104 (by decide +kernel) (by decide +kernel)
set_option maxRecDepth 100000 in
theorem q_co_X6_insertAt : Cond.code yX6_insertAt cX6_insertAt 7 (some .int) ∈ TB := tb_t 1105 (by decide +kernel) (by decide +kernel)
set_option maxRecDepth 100000 in
theorem q_ml_X6_191 : Cond.methodLink RX6 191 yX6_isVehicle ∈ TB := tb_t 1106 (by decide +kernel) (by decide +kernel)
set_option maxRecDepth 100000 in
theorem q_im_X6_isVehicle : Cond.instanceMethod yX6_isVehicle ∈ TB := tb_t 1108 (by decide +kernel) (by decide +kernel)
set_option maxRecDepth 100000 in
theorem q_co_X6_isVehicle : Cond.code yX6_isVehicle cX6_isVehicle 2 (some .boolean) ∈ TB := tb_t 1109 (by decide +kernel) (by decide +kernel)
set_option maxRecDepth 100000 in
theorem q_ml_L_156 : Cond.methodLink RL 156 yX6_take ∈ TB := tb_t 1110 (by decide +kernel) (by decide +kernel)
set_option maxRecDepth 100000 in
theorem q_im_X6_take : Cond.instanceMethod yX6_take ∈ TB := tb_t 1111 (by decide +kernel) (by decide +kernel)
set_option maxRecDepth 100000 in
theorem q_se_X6_take : Cond.selects RX6 yX6_take yX6_take ∈ TB := tb_t 1112 (by decide +kernel) (by decide +kernel)
set_option maxRecDepth 100000 in
theorem q_co_X6_take : Cond.code yX6_take cX6_take 2 (some .int) ∈ TB := tb_t 1113 (by decide +kernel) (by decide +kernel)
set_option maxRecDepth 100000 in
theorem q_ml_L_160 : Cond.methodLink RL 160 yX6_rebuild ∈ TB := tb_t 1139 (by decide +kernel) (by decide +kernel)
set_option maxRecDepth 100000 in
theorem q_im_X6_rebuild : Cond.instanceMethod yX6_rebuild ∈ TB := tb_t 1140 (by decide +kernel) (by decide +kernel)
set_option maxRecDepth 100000 in
theorem q_se_X6_rebuild : Cond.selects RX6 yX6_rebuild yX6_rebuild ∈ TB := tb_t 1141 (by decide +kernel) (by decide +kernel)
set_option maxRecDepth 100000 in
theorem q_co_X6_rebuild : Cond.code yX6_rebuild cX6_rebuild 3 (some .int) ∈ TB := tb_t 1142 (by decide +kernel) (by decide +kernel)
set_option maxRecDepth 100000 in
theorem q_ml_X6_203 : Cond.methodLink RX6 203 yX6_nextToPut ∈ TB := tb_t 1143 (by decide +kernel) (by decide +kernel)
set_option maxRecDepth 100000 in
theorem q_im_X6_nextToPut : Cond.instanceMethod yX6_nextToPut ∈ TB := tb_t 1145 (by decide +kernel) (by decide +kernel)
set_option maxRecDepth 100000 in
theorem q_co_X6_nextToPut : Cond.code yX6_nextToPut cX6_nextToPut 7 (some (.array .int)) ∈ TB := tb_t 1146 (by decide +kernel) (by decide +kernel)
set_option maxRecDepth 100000 in
theorem q_ml_L_163 : Cond.methodLink RL 163 yX6_ruin ∈ TB := tb_t 1386 (by decide +kernel) (by decide +kernel)
set_option maxRecDepth 100000 in
theorem q_im_X6_ruin : Cond.instanceMethod yX6_ruin ∈ TB := tb_t 1387 (by decide +kernel) (by decide +kernel)
set_option maxRecDepth 100000 in
theorem q_se_X6_ruin : Cond.selects RX6 yX6_ruin yX6_ruin ∈ TB := tb_t 1388 (by decide +kernel) (by decide +kernel)
set_option maxRecDepth 100000 in
theorem q_co_X6_ruin : Cond.code yX6_ruin cX6_ruin 5 (some .int) ∈ TB := tb_t 1389 (by decide +kernel) (by decide +kernel)
set_option maxRecDepth 100000 in
theorem q_ml_L_166 : Cond.methodLink RL 166 yX6_change ∈ TB := tb_t 1390 (by decide +kernel) (by decide +kernel)
set_option maxRecDepth 100000 in
theorem q_im_X6_change : Cond.instanceMethod yX6_change ∈ TB := tb_t 1391 (by decide +kernel) (by decide +kernel)
set_option maxRecDepth 100000 in
theorem q_se_X6_change : Cond.selects RX6 yX6_change yX6_change ∈ TB := tb_t 1392 (by decide +kernel) (by decide +kernel)
set_option maxRecDepth 100000 in
theorem q_co_X6_change : Cond.code yX6_change cX6_change 2 (some .int) ∈ TB := tb_t 1393 (by decide +kernel) (by decide +kernel)
set_option maxRecDepth 100000 in
theorem q_ml_X6_210 : Cond.methodLink RX6 210 yX6_make ∈ TB := tb_t 1394 (by decide +kernel) (by decide +kernel)
set_option maxRecDepth 100000 in
theorem q_im_X6_make : Cond.instanceMethod yX6_make ∈ TB := tb_t 1396 (by decide +kernel) (by decide +kernel)
set_option maxRecDepth 100000 in
theorem q_co_X6_make : Cond.code yX6_make cX6_make 3 (some .int) ∈ TB := tb_t 1397 (by decide +kernel) (by decide +kernel)
set_option maxRecDepth 100000 in
theorem q_ml_X6_168 : Cond.methodLink RX6 168 yX6_gainOf ∈ TB := tb_t 1398 (by decide +kernel) (by decide +kernel)
set_option maxRecDepth 100000 in
theorem q_im_X6_gainOf : Cond.instanceMethod yX6_gainOf ∈ TB := tb_t 1400 (by decide +kernel) (by decide +kernel)
set_option maxRecDepth 100000 in
theorem q_co_X6_gainOf : Cond.code yX6_gainOf cX6_gainOf 2 (some .int) ∈ TB := tb_t 1401 (by decide +kernel) (by decide +kernel)
set_option maxRecDepth 100000 in
theorem q_ml_X6_156 : Cond.methodLink RX6 156 yX6_lookAtMoves ∈ TB := tb_t 1402 (by decide +kernel) (by decide +kernel)
set_option maxRecDepth 100000 in
theorem q_im_X6_lookAtMoves : Cond.instanceMethod yX6_lookAtMoves ∈ TB := tb_t 1404 (by decide +kernel) (by decide +kernel)
set_option maxRecDepth 100000 in
theorem q_co_X6_lookAtMoves : Cond.code yX6_lookAtMoves cX6_lookAtMoves 8 none ∈ TB := tb_t 1405 (by decide +kernel) (by decide +kernel)
set_option maxRecDepth 100000 in
theorem q_ml_X6_119 : Cond.methodLink RX6 119 yX6_costOfRoutes ∈ TB := tb_t 1410 (by decide +kernel) (by decide +kernel)
set_option maxRecDepth 100000 in
theorem q_im_X6_costOfRoutes : Cond.instanceMethod yX6_costOfRoutes ∈ TB := tb_t 1412 (by decide +kernel) (by decide +kernel)
set_option maxRecDepth 100000 in
theorem q_co_X6_costOfRoutes : Cond.code yX6_costOfRoutes cX6_costOfRoutes 4 (some .int) ∈ TB := tb_t 1413 (by decide +kernel) (by decide +kernel)
set_option maxRecDepth 100000 in
theorem q_ml_X6_159 : Cond.methodLink RX6 159 yX6_lookAtSwaps ∈ TB := tb_t 1414 (by decide +kernel) (by decide +kernel)
set_option maxRecDepth 100000 in
theorem q_im_X6_lookAtSwaps : Cond.instanceMethod yX6_lookAtSwaps ∈ TB := tb_t 1416 (by decide +kernel) (by decide +kernel)
set_option maxRecDepth 100000 in
theorem q_co_X6_lookAtSwaps : Cond.code yX6_lookAtSwaps cX6_lookAtSwaps 5 none ∈ TB := tb_t 1417 (by decide +kernel) (by decide +kernel)
set_option maxRecDepth 100000 in
theorem q_ml_X6_162 : Cond.methodLink RX6 162 yX6_lookAtTurns ∈ TB := tb_t 1422 (by decide +kernel) (by decide +kernel)
set_option maxRecDepth 100000 in
theorem q_im_X6_lookAtTurns : Cond.instanceMethod yX6_lookAtTurns ∈ TB := tb_t 1424 (by decide +kernel) (by decide +kernel)
set_option maxRecDepth 100000 in
theorem q_co_X6_lookAtTurns : Cond.code yX6_lookAtTurns cX6_lookAtTurns 6 none ∈ TB := tb_t 1425 (by decide +kernel) (by decide +kernel)
set_option maxRecDepth 100000 in
theorem q_ml_X6_165 : Cond.methodLink RX6 165 yX6_lookAtEnds ∈ TB := tb_t 1429 (by decide +kernel) (by decide +kernel)
set_option maxRecDepth 100000 in
theorem q_im_X6_lookAtEnds : Cond.instanceMethod yX6_lookAtEnds ∈ TB := tb_t 1431 (by decide +kernel) (by decide +kernel)
set_option maxRecDepth 100000 in
theorem q_co_X6_lookAtEnds : Cond.code yX6_lookAtEnds cX6_lookAtEnds 7 none ∈ TB := tb_t 1432 (by decide +kernel) (by decide +kernel)
set_option maxRecDepth 100000 in
theorem q_ml_L_169 : Cond.methodLink RL 169 yX6_improve ∈ TB := tb_t 1437 (by decide +kernel) (by decide +kernel)
set_option maxRecDepth 100000 in
theorem q_im_X6_improve : Cond.instanceMethod yX6_improve ∈ TB := tb_t 1438 (by decide +kernel) (by decide +kernel)
set_option maxRecDepth 100000 in
theorem q_se_X6_improve : Cond.selects RX6 yX6_improve yX6_improve ∈ TB := tb_t 1439 (by decide +kernel) (by decide +kernel)
set_option maxRecDepth 100000 in
theorem q_co_X6_improve : Cond.code yX6_improve cX6_improve 6 (some .int) ∈ TB := tb_t 1440 (by decide +kernel) (by decide +kernel)
set_option maxRecDepth 100000 in
theorem q_ml_L_172 : Cond.methodLink RL 172 yX6_repair ∈ TB := tb_t 1441 (by decide +kernel) (by decide +kernel)
set_option maxRecDepth 100000 in
theorem q_im_X6_repair : Cond.instanceMethod yX6_repair ∈ TB := tb_t 1442 (by decide +kernel) (by decide +kernel)
set_option maxRecDepth 100000 in
theorem q_se_X6_repair : Cond.selects RX6 yX6_repair yX6_repair ∈ TB := tb_t 1443 (by decide +kernel) (by decide +kernel)
set_option maxRecDepth 100000 in
theorem q_co_X6_repair : Cond.code yX6_repair cX6_repair 3 (some .int) ∈ TB := tb_t 1444 (by decide +kernel) (by decide +kernel)
set_option maxRecDepth 100000 in
theorem q_ml_L_175 : Cond.methodLink RL 175 yX6_advance ∈ TB := tb_t 1449 (by decide +kernel) (by decide +kernel)
set_option maxRecDepth 100000 in
theorem q_im_X6_advance : Cond.instanceMethod yX6_advance ∈ TB := tb_t 1450 (by decide +kernel) (by decide +kernel)
set_option maxRecDepth 100000 in
theorem q_se_X6_advance : Cond.selects RX6 yX6_advance yX6_advance ∈ TB := tb_t 1451 (by decide +kernel) (by decide +kernel)
set_option maxRecDepth 100000 in
theorem q_co_X6_advance : Cond.code yX6_advance cX6_advance 3 (some .int) ∈ TB := tb_t 1452 (by decide +kernel) (by decide +kernel)
set_option maxRecDepth 100000 in
theorem q_ml_X6_216 : Cond.methodLink RX6 216 yX6_setNow ∈ TB := tb_t 1453 (by decide +kernel) (by decide +kernel)
set_option maxRecDepth 100000 in
theorem q_im_X6_setNow : Cond.instanceMethod yX6_setNow ∈ TB := tb_t 1455 (by decide +kernel) (by decide +kernel)
set_option maxRecDepth 100000 in
theorem q_co_X6_setNow : Cond.code yX6_setNow cX6_setNow 3 (some .int) ∈ TB := tb_t 1456 (by decide +kernel) (by decide +kernel)
set_option maxRecDepth 100000 in
theorem q_ml_L_179 : Cond.methodLink RL 179 yX6_clock ∈ TB := tb_t 1457 (by decide +kernel) (by decide +kernel)
set_option maxRecDepth 100000 in
theorem q_im_X6_clock : Cond.instanceMethod yX6_clock ∈ TB := tb_t 1458 (by decide +kernel) (by decide +kernel)
set_option maxRecDepth 100000 in
theorem q_se_X6_clock : Cond.selects RX6 yX6_clock yX6_clock ∈ TB := tb_t 1459 (by decide +kernel) (by decide +kernel)
set_option maxRecDepth 100000 in
theorem q_co_X6_clock : Cond.code yX6_clock cX6_clock 1 (some .int) ∈ TB := tb_t 1460 (by decide +kernel) (by decide +kernel)
set_option maxRecDepth 100000 in
theorem q_ml_L_183 : Cond.methodLink RL 183 yX6_places ∈ TB := tb_t 1461 (by decide +kernel) (by decide +kernel)
set_option maxRecDepth 100000 in
theorem q_im_X6_places : Cond.instanceMethod yX6_places ∈ TB := tb_t 1462 (by decide +kernel) (by decide +kernel)
set_option maxRecDepth 100000 in
theorem q_se_X6_places : Cond.selects RX6 yX6_places yX6_places ∈ TB := tb_t 1463 (by decide +kernel) (by decide +kernel)
set_option maxRecDepth 100000 in
theorem q_co_X6_places : Cond.code yX6_places cX6_places 1 (some .int) ∈ TB := tb_t 1464 (by decide +kernel) (by decide +kernel)
set_option maxRecDepth 100000 in
theorem q_ml_L_187 : Cond.methodLink RL 187 yX6_vehicles ∈ TB := tb_t 1465 (by decide +kernel) (by decide +kernel)
set_option maxRecDepth 100000 in
theorem q_im_X6_vehicles : Cond.instanceMethod yX6_vehicles ∈ TB := tb_t 1466 (by decide +kernel) (by decide +kernel)
set_option maxRecDepth 100000 in
theorem q_se_X6_vehicles : Cond.selects RX6 yX6_vehicles yX6_vehicles ∈ TB := tb_t 1467 (by decide +kernel) (by decide +kernel)
set_option maxRecDepth 100000 in
theorem q_co_X6_vehicles : Cond.code yX6_vehicles cX6_vehicles 1 (some .int) ∈ TB := tb_t 1468 (by decide +kernel) (by decide +kernel)
set_option maxRecDepth 100000 in
theorem q_ml_L_191 : Cond.methodLink RL 191 yX6_jobs ∈ TB := tb_t 1469 (by decide +kernel) (by decide +kernel)
set_option maxRecDepth 100000 in
theorem q_im_X6_jobs : Cond.instanceMethod yX6_jobs ∈ TB := tb_t 1470 (by decide +kernel) (by decide +kernel)
set_option maxRecDepth 100000 in
theorem q_se_X6_jobs : Cond.selects RX6 yX6_jobs yX6_jobs ∈ TB := tb_t 1471 (by decide +kernel) (by decide +kernel)
set_option maxRecDepth 100000 in
theorem q_co_X6_jobs : Cond.code yX6_jobs cX6_jobs 1 (some .int) ∈ TB := tb_t 1472 (by decide +kernel) (by decide +kernel)
set_option maxRecDepth 100000 in
theorem q_ml_L_194 : Cond.methodLink RL 194 yX6_way ∈ TB := tb_t 1473 (by decide +kernel) (by decide +kernel)
set_option maxRecDepth 100000 in
theorem q_im_X6_way : Cond.instanceMethod yX6_way ∈ TB := tb_t 1474 (by decide +kernel) (by decide +kernel)
set_option maxRecDepth 100000 in
theorem q_se_X6_way : Cond.selects RX6 yX6_way yX6_way ∈ TB := tb_t 1475 (by decide +kernel) (by decide +kernel)
set_option maxRecDepth 100000 in
theorem q_co_X6_way : Cond.code yX6_way cX6_way 3 (some .int) ∈ TB := tb_t 1476 (by decide +kernel) (by decide +kernel)
set_option maxRecDepth 100000 in
theorem q_ml_L_197 : Cond.methodLink RL 197 yX6_vehicleOf ∈ TB := tb_t 1477 (by decide +kernel) (by decide +kernel)
set_option maxRecDepth 100000 in
theorem q_im_X6_vehicleOf : Cond.instanceMethod yX6_vehicleOf ∈ TB := tb_t 1478 (by decide +kernel) (by decide +kernel)
set_option maxRecDepth 100000 in
theorem q_se_X6_vehicleOf : Cond.selects RX6 yX6_vehicleOf yX6_vehicleOf ∈ TB := tb_t 1479 (by decide +kernel) (by decide +kernel)
set_option maxRecDepth 100000 in
theorem q_co_X6_vehicleOf : Cond.code yX6_vehicleOf cX6_vehicleOf 2 (some .int) ∈ TB := tb_t 1480 (by decide +kernel) (by decide +kernel)
set_option maxRecDepth 100000 in
theorem q_ml_L_200 : Cond.methodLink RL 200 yX6_isSet ∈ TB := tb_t 1481 (by decide +kernel) (by decide +kernel)
set_option maxRecDepth 100000 in
theorem q_im_X6_isSet : Cond.instanceMethod yX6_isSet ∈ TB := tb_t 1482 (by decide +kernel) (by decide +kernel)
set_option maxRecDepth 100000 in
theorem q_se_X6_isSet : Cond.selects RX6 yX6_isSet yX6_isSet ∈ TB := tb_t 1483 (by decide +kernel) (by decide +kernel)
set_option maxRecDepth 100000 in
theorem q_co_X6_isSet : Cond.code yX6_isSet cX6_isSet 2 (some .boolean) ∈ TB := tb_t 1484 (by decide +kernel) (by decide +kernel)
set_option maxRecDepth 100000 in
theorem q_ml_L_203 : Cond.methodLink RL 203 yX6_stops ∈ TB := tb_t 1485 (by decide +kernel) (by decide +kernel)
set_option maxRecDepth 100000 in
theorem q_im_X6_stops : Cond.instanceMethod yX6_stops ∈ TB := tb_t 1486 (by decide +kernel) (by decide +kernel)
set_option maxRecDepth 100000 in
theorem q_se_X6_stops : Cond.selects RX6 yX6_stops yX6_stops ∈ TB := tb_t 1487 (by decide +kernel) (by decide +kernel)
set_option maxRecDepth 100000 in
theorem q_co_X6_stops : Cond.code yX6_stops cX6_stops 2 (some .int) ∈ TB := tb_t 1488 (by decide +kernel) (by decide +kernel)
set_option maxRecDepth 100000 in
theorem q_ml_L_206 : Cond.methodLink RL 206 yX6_setStops ∈ TB := tb_t 1489 (by decide +kernel) (by decide +kernel)
set_option maxRecDepth 100000 in
theorem q_im_X6_setStops : Cond.instanceMethod yX6_setStops ∈ TB := tb_t 1490 (by decide +kernel) (by decide +kernel)
set_option maxRecDepth 100000 in
theorem q_se_X6_setStops : Cond.selects RX6 yX6_setStops yX6_setStops ∈ TB := tb_t 1491 (by decide +kernel) (by decide +kernel)
set_option maxRecDepth 100000 in
theorem q_co_X6_setStops : Cond.code yX6_setStops cX6_setStops 2 (some .int) ∈ TB := tb_t 1492 (by decide +kernel) (by decide +kernel)
set_option maxRecDepth 100000 in
theorem q_ml_L_209 : Cond.methodLink RL 209 yX6_jobAt ∈ TB := tb_t 1493 (by decide +kernel) (by decide +kernel)
set_option maxRecDepth 100000 in
theorem q_im_X6_jobAt : Cond.instanceMethod yX6_jobAt ∈ TB := tb_t 1494 (by decide +kernel) (by decide +kernel)
set_option maxRecDepth 100000 in
theorem q_se_X6_jobAt : Cond.selects RX6 yX6_jobAt yX6_jobAt ∈ TB := tb_t 1495 (by decide +kernel) (by decide +kernel)
set_option maxRecDepth 100000 in
theorem q_co_X6_jobAt : Cond.code yX6_jobAt cX6_jobAt 3 (some .int) ∈ TB := tb_t 1496 (by decide +kernel) (by decide +kernel)
set_option maxRecDepth 100000 in
theorem q_ml_X6_220 : Cond.methodLink RX6 220 yX6_hasStop ∈ TB := tb_t 1497 (by decide +kernel) (by decide +kernel)
set_option maxRecDepth 100000 in
theorem q_im_X6_hasStop : Cond.instanceMethod yX6_hasStop ∈ TB := tb_t 1499 (by decide +kernel) (by decide +kernel)
set_option maxRecDepth 100000 in
theorem q_co_X6_hasStop : Cond.code yX6_hasStop cX6_hasStop 3 (some .boolean) ∈ TB := tb_t 1500 (by decide +kernel) (by decide +kernel)
set_option maxRecDepth 100000 in
theorem q_ml_L_212 : Cond.methodLink RL 212 yX6_isFetched ∈ TB := tb_t 1501 (by decide +kernel) (by decide +kernel)
set_option maxRecDepth 100000 in
theorem q_im_X6_isFetched : Cond.instanceMethod yX6_isFetched ∈ TB := tb_t 1502 (by decide +kernel) (by decide +kernel)
set_option maxRecDepth 100000 in
theorem q_se_X6_isFetched : Cond.selects RX6 yX6_isFetched yX6_isFetched ∈ TB := tb_t 1503 (by decide +kernel) (by decide +kernel)
set_option maxRecDepth 100000 in
theorem q_co_X6_isFetched : Cond.code yX6_isFetched cX6_isFetched 3 (some .boolean) ∈ TB := tb_t 1504 (by decide +kernel) (by decide +kernel)
set_option maxRecDepth 100000 in
theorem q_ml_L_215 : Cond.methodLink RL 215 yX6_arrives ∈ TB := tb_t 1505 (by decide +kernel) (by decide +kernel)
set_option maxRecDepth 100000 in
theorem q_im_X6_arrives : Cond.instanceMethod yX6_arrives ∈ TB := tb_t 1506 (by decide +kernel) (by decide +kernel)
set_option maxRecDepth 100000 in
theorem q_se_X6_arrives : Cond.selects RX6 yX6_arrives yX6_arrives ∈ TB := tb_t 1507 (by decide +kernel) (by decide +kernel)
set_option maxRecDepth 100000 in
theorem q_co_X6_arrives : Cond.code yX6_arrives cX6_arrives 3 (some .int) ∈ TB := tb_t 1508 (by decide +kernel) (by decide +kernel)
set_option maxRecDepth 100000 in
theorem q_ml_L_218 : Cond.methodLink RL 218 yX6_begins ∈ TB := tb_t 1509 (by decide +kernel) (by decide +kernel)
set_option maxRecDepth 100000 in
theorem q_im_X6_begins : Cond.instanceMethod yX6_begins ∈ TB := tb_t 1510 (by decide +kernel) (by decide +kernel)
set_option maxRecDepth 100000 in
theorem q_se_X6_begins : Cond.selects RX6 yX6_begins yX6_begins ∈ TB := tb_t 1511 (by decide +kernel) (by decide +kernel)
set_option maxRecDepth 100000 in
theorem q_co_X6_begins : Cond.code yX6_begins cX6_begins 3 (some .int) ∈ TB := tb_t 1512 (by decide +kernel) (by decide +kernel)
set_option maxRecDepth 100000 in
theorem q_ml_L_221 : Cond.methodLink RL 221 yX6_loadBehind ∈ TB := tb_t 1513 (by decide +kernel) (by decide +kernel)
set_option maxRecDepth 100000 in
theorem q_im_X6_loadBehind : Cond.instanceMethod yX6_loadBehind ∈ TB := tb_t 1514 (by decide +kernel) (by decide +kernel)
set_option maxRecDepth 100000 in
theorem q_se_X6_loadBehind : Cond.selects RX6 yX6_loadBehind yX6_loadBehind ∈ TB := tb_t 1515 (by decide +kernel) (by decide +kernel)
set_option maxRecDepth 100000 in
theorem q_co_X6_loadBehind : Cond.code yX6_loadBehind cX6_loadBehind 3 (some .int) ∈ TB := tb_t 1516 (by decide +kernel) (by decide +kernel)
set_option maxRecDepth 100000 in
theorem q_ml_L_224 : Cond.methodLink RL 224 yX6_slack ∈ TB := tb_t 1517 (by decide +kernel) (by decide +kernel)
set_option maxRecDepth 100000 in
theorem q_im_X6_slack : Cond.instanceMethod yX6_slack ∈ TB := tb_t 1518 (by decide +kernel) (by decide +kernel)
set_option maxRecDepth 100000 in
theorem q_se_X6_slack : Cond.selects RX6 yX6_slack yX6_slack ∈ TB := tb_t 1519 (by decide +kernel) (by decide +kernel)
set_option maxRecDepth 100000 in
theorem q_co_X6_slack : Cond.code yX6_slack cX6_slack 3 (some .int) ∈ TB := tb_t 1520 (by decide +kernel) (by decide +kernel)
set_option maxRecDepth 100000 in
theorem q_ml_L_227 : Cond.methodLink RL 227 yX6_back ∈ TB := tb_t 1529 (by decide +kernel) (by decide +kernel)
set_option maxRecDepth 100000 in
theorem q_im_X6_back : Cond.instanceMethod yX6_back ∈ TB := tb_t 1530 (by decide +kernel) (by decide +kernel)
set_option maxRecDepth 100000 in
theorem q_se_X6_back : Cond.selects RX6 yX6_back yX6_back ∈ TB := tb_t 1531 (by decide +kernel) (by decide +kernel)
set_option maxRecDepth 100000 in
theorem q_co_X6_back : Cond.code yX6_back cX6_back 2 (some .int) ∈ TB := tb_t 1532 (by decide +kernel) (by decide +kernel)
set_option maxRecDepth 100000 in
theorem q_ml_L_230 : Cond.methodLink RL 230 yX6_waits ∈ TB := tb_t 1533 (by decide +kernel) (by decide +kernel)
set_option maxRecDepth 100000 in
theorem q_im_X6_waits : Cond.instanceMethod yX6_waits ∈ TB := tb_t 1534 (by decide +kernel) (by decide +kernel)
set_option maxRecDepth 100000 in
theorem q_se_X6_waits : Cond.selects RX6 yX6_waits yX6_waits ∈ TB := tb_t 1535 (by decide +kernel) (by decide +kernel)
set_option maxRecDepth 100000 in
theorem q_co_X6_waits : Cond.code yX6_waits cX6_waits 2 (some .int) ∈ TB := tb_t 1536 (by decide +kernel) (by decide +kernel)
set_option maxRecDepth 100000 in
theorem q_ml_L_233 : Cond.methodLink RL 233 yX6_isRight ∈ TB := tb_t 1541 (by decide +kernel) (by decide +kernel)
set_option maxRecDepth 100000 in
theorem q_im_X6_isRight : Cond.instanceMethod yX6_isRight ∈ TB := tb_t 1542 (by decide +kernel) (by decide +kernel)
set_option maxRecDepth 100000 in
theorem q_se_X6_isRight : Cond.selects RX6 yX6_isRight yX6_isRight ∈ TB := tb_t 1543 (by decide +kernel) (by decide +kernel)
set_option maxRecDepth 100000 in
theorem q_co_X6_isRight : Cond.code yX6_isRight cX6_isRight 2 (some .boolean) ∈ TB := tb_t 1544 (by decide +kernel) (by decide +kernel)
set_option maxRecDepth 100000 in
theorem q_ml_L_236 : Cond.methodLink RL 236 yX6_length ∈ TB := tb_t 1545 (by decide +kernel) (by decide +kernel)
set_option maxRecDepth 100000 in
theorem q_im_X6_length : Cond.instanceMethod yX6_length ∈ TB := tb_t 1546 (by decide +kernel) (by decide +kernel)
set_option maxRecDepth 100000 in
theorem q_se_X6_length : Cond.selects RX6 yX6_length yX6_length ∈ TB := tb_t 1547 (by decide +kernel) (by decide +kernel)
set_option maxRecDepth 100000 in
theorem q_co_X6_length : Cond.code yX6_length cX6_length 2 (some .int) ∈ TB := tb_t 1548 (by decide +kernel) (by decide +kernel)
set_option maxRecDepth 100000 in
theorem q_ml_L_239 : Cond.methodLink RL 239 yX6_costOf ∈ TB := tb_t 1549 (by decide +kernel) (by decide +kernel)
set_option maxRecDepth 100000 in
theorem q_im_X6_costOf : Cond.instanceMethod yX6_costOf ∈ TB := tb_t 1550 (by decide +kernel) (by decide +kernel)
set_option maxRecDepth 100000 in
theorem q_se_X6_costOf : Cond.selects RX6 yX6_costOf yX6_costOf ∈ TB := tb_t 1551 (by decide +kernel) (by decide +kernel)
set_option maxRecDepth 100000 in
theorem q_co_X6_costOf : Cond.code yX6_costOf cX6_costOf 2 (some .int) ∈ TB := tb_t 1552 (by decide +kernel) (by decide +kernel)
set_option maxRecDepth 100000 in
theorem q_ml_L_243 : Cond.methodLink RL 243 yX6_cost ∈ TB := tb_t 1553 (by decide +kernel) (by decide +kernel)
set_option maxRecDepth 100000 in
theorem q_im_X6_cost : Cond.instanceMethod yX6_cost ∈ TB := tb_t 1554 (by decide +kernel) (by decide +kernel)
set_option maxRecDepth 100000 in
theorem q_se_X6_cost : Cond.selects RX6 yX6_cost yX6_cost ∈ TB := tb_t 1555 (by decide +kernel) (by decide +kernel)
set_option maxRecDepth 100000 in
theorem q_co_X6_cost : Cond.code yX6_cost cX6_cost 1 (some .int) ∈ TB := tb_t 1556 (by decide +kernel) (by decide +kernel)
set_option maxRecDepth 100000 in
theorem q_ml_X6_234 : Cond.methodLink RX6 234 yX6_costAll ∈ TB := tb_t 1557 (by decide +kernel) (by decide +kernel)
set_option maxRecDepth 100000 in
theorem q_im_X6_costAll : Cond.instanceMethod yX6_costAll ∈ TB := tb_t 1559 (by decide +kernel) (by decide +kernel)
set_option maxRecDepth 100000 in
theorem q_co_X6_costAll : Cond.code yX6_costAll cX6_costAll 3 (some .int) ∈ TB := tb_t 1560 (by decide +kernel) (by decide +kernel)
set_option maxRecDepth 100000 in
theorem q_ml_L_248 : Cond.methodLink RL 248 yX6_fullness ∈ TB := tb_t 1561 (by decide +kernel) (by decide +kernel)
set_option maxRecDepth 100000 in
theorem q_im_X6_fullness : Cond.instanceMethod yX6_fullness ∈ TB := tb_t 1562 (by decide +kernel) (by decide +kernel)
set_option maxRecDepth 100000 in
theorem q_se_X6_fullness : Cond.selects RX6 yX6_fullness yX6_fullness ∈ TB := tb_t 1563 (by decide +kernel) (by decide +kernel)
set_option maxRecDepth 100000 in
theorem q_co_X6_fullness : Cond.code yX6_fullness cX6_fullness 6 (some .double) ∈ TB := tb_t 1564 (by decide +kernel) (by decide +kernel)
set_option maxRecDepth 100000 in
theorem q_ml_L_251 : Cond.methodLink RL 251 yX6_wouldAdd ∈ TB := tb_t 1565 (by decide +kernel) (by decide +kernel)
set_option maxRecDepth 100000 in
theorem q_im_X6_wouldAdd : Cond.instanceMethod yX6_wouldAdd ∈ TB := tb_t 1566 (by decide +kernel) (by decide +kernel)
set_option maxRecDepth 100000 in
theorem q_se_X6_wouldAdd : Cond.selects RX6 yX6_wouldAdd yX6_wouldAdd ∈ TB := tb_t 1567 (by decide +kernel) (by decide +kernel)
set_option maxRecDepth 100000 in
theorem q_co_X6_wouldAdd : Cond.code yX6_wouldAdd cX6_wouldAdd 4 (some .int) ∈ TB := tb_t 1568 (by decide +kernel) (by decide +kernel)
set_option maxRecDepth 100000 in
theorem q_ml_L_254 : Cond.methodLink RL 254 yX6_gain ∈ TB := tb_t 1569 (by decide +kernel) (by decide +kernel)
set_option maxRecDepth 100000 in
theorem q_im_X6_gain : Cond.instanceMethod yX6_gain ∈ TB := tb_t 1570 (by decide +kernel) (by decide +kernel)
set_option maxRecDepth 100000 in
theorem q_se_X6_gain : Cond.selects RX6 yX6_gain yX6_gain ∈ TB := tb_t 1571 (by decide +kernel) (by decide +kernel)
set_option maxRecDepth 100000 in
theorem q_co_X6_gain : Cond.code yX6_gain cX6_gain 2 (some .int) ∈ TB := tb_t 1572 (by decide +kernel) (by decide +kernel)
set_option maxRecDepth 100000 in
theorem q_ml_L_258 : Cond.methodLink RL 258 yX6_laterBack ∈ TB := tb_t 1573 (by decide +kernel) (by decide +kernel)
set_option maxRecDepth 100000 in
theorem q_im_X6_laterBack : Cond.instanceMethod yX6_laterBack ∈ TB := tb_t 1574 (by decide +kernel) (by decide +kernel)
set_option maxRecDepth 100000 in
theorem q_se_X6_laterBack : Cond.selects RX6 yX6_laterBack yX6_laterBack ∈ TB := tb_t 1575 (by decide +kernel) (by decide +kernel)
set_option maxRecDepth 100000 in
theorem q_co_X6_laterBack : Cond.code yX6_laterBack cX6_laterBack 4 (some .int) ∈ TB := tb_t 1576 (by decide +kernel) (by decide +kernel)
set_option maxRecDepth 100000 in
theorem q_ml_L_261 : Cond.methodLink RL 261 yX6_costWithout ∈ TB := tb_t 1577 (by decide +kernel) (by decide +kernel)
set_option maxRecDepth 100000 in
theorem q_im_X6_costWithout : Cond.instanceMethod yX6_costWithout ∈ TB := tb_t 1578 (by decide +kernel) (by decide +kernel)
set_option maxRecDepth 100000 in
theorem q_se_X6_costWithout : Cond.selects RX6 yX6_costWithout yX6_costWithout ∈ TB := tb_t 1579 (by decide +kernel) (by decide +kernel)
set_option maxRecDepth 100000 in
theorem q_co_X6_costWithout : Cond.code yX6_costWithout cX6_costWithout 2 (some .int) ∈ TB := tb_t 1580 (by decide +kernel) (by decide +kernel)
set_option maxRecDepth 100000 in
theorem q_ml_L_266 : Cond.methodLink RL 266 yX6_digest ∈ TB := tb_t 1581 (by decide +kernel) (by decide +kernel)
set_option maxRecDepth 100000 in
theorem q_im_X6_digest : Cond.instanceMethod yX6_digest ∈ TB := tb_t 1582 (by decide +kernel) (by decide +kernel)
set_option maxRecDepth 100000 in
theorem q_se_X6_digest : Cond.selects RX6 yX6_digest yX6_digest ∈ TB := tb_t 1583 (by decide +kernel) (by decide +kernel)
set_option maxRecDepth 100000 in
theorem q_co_X6_digest : Cond.code yX6_digest cX6_digest 6 (some .long) ∈ TB := tb_t 1584 (by decide +kernel) (by decide +kernel)
set_option maxRecDepth 100000 in
theorem q_cg_X6_247 : Cond.constantLong RX6 247 (58033) ∈ TB := tb_t 1585 (by decide +kernel) (by decide +kernel)
set_option maxRecDepth 100000 in
theorem q_ml_X6_243 : Cond.methodLink RX6 243 yX6_add ∈ TB := tb_t 1586 (by decide +kernel) (by decide +kernel)
set_option maxRecDepth 100000 in
theorem q_im_X6_add : Cond.instanceMethod yX6_add ∈ TB := tb_t 1588 (by decide +kernel) (by decide +kernel)
set_option maxRecDepth 100000 in
theorem q_co_X6_add : Cond.code yX6_add cX6_add 2 none ∈ TB := tb_t 1589 (by decide +kernel) (by decide +kernel)
set_option maxRecDepth 100000 in
theorem q_cg_X6_241 : Cond.constantLong RX6 241 (31) ∈ TB := tb_t 1590 (by decide +kernel) (by decide +kernel)
set_option maxRecDepth 100000 in
theorem q_ac_long : Cond.arrayClass .long ∈ TB := tb_t 1595 (by decide +kernel) (by decide +kernel)
set_option maxRecDepth 100000 in
theorem q_se_X5_chooseByRegret : Cond.selects RX5 yX5_chooseByRegret yX5_chooseByRegret ∈ TB := tb_s 0 (q := (yX5_chooseByRegret, 9)) (by decide +kernel)
set_option maxRecDepth 100000 in
theorem q_se_X5_costOfAll : Cond.selects RX5 yX5_costOfAll yX5_costOfAll ∈ TB := tb_s 12 (q := (yX5_costOfAll, 9)) (by decide +kernel)
set_option maxRecDepth 100000 in
theorem q_se_X5_startSearch : Cond.selects RX5 yX5_startSearch yX5_startSearch ∈ TB := tb_s 17 (q := (yX5_startSearch, 9)) (by decide +kernel)
set_option maxRecDepth 100000 in
theorem q_se_X5_searchKind : Cond.selects RX5 yX5_searchKind yX5_searchKind ∈ TB := tb_s 18 (q := (yX5_searchKind, 9)) (by decide +kernel)
set_option maxRecDepth 100000 in
theorem q_se_X5_searchMoves : Cond.selects RX5 yX5_searchMoves yX5_searchMoves ∈ TB := tb_s 19 (q := (yX5_searchMoves, 9)) (by decide +kernel)
set_option maxRecDepth 100000 in
theorem q_se_X5_searchSwaps : Cond.selects RX5 yX5_searchSwaps yX5_searchSwaps ∈ TB := tb_s 21 (q := (yX5_searchSwaps, 9)) (by decide +kernel)
set_option maxRecDepth 100000 in
theorem q_se_X5_searchTurns : Cond.selects RX5 yX5_searchTurns yX5_searchTurns ∈ TB := tb_s 23 (q := (yX5_searchTurns, 9)) (by decide +kernel)
set_option maxRecDepth 100000 in
theorem q_se_X5_searchEnds : Cond.selects RX5 yX5_searchEnds yX5_searchEnds ∈ TB := tb_s 24 (q := (yX5_searchEnds, 9)) (by decide +kernel)
set_option maxRecDepth 100000 in
theorem q_se_X5_checkPlace : Cond.selects RX5 yX5_checkPlace yX5_checkPlace ∈ TB := tb_s 26 (q := (yX5_checkPlace, 9)) (by decide +kernel)
set_option maxRecDepth 100000 in
theorem q_se_X5_checkJob : Cond.selects RX5 yX5_checkJob yX5_checkJob ∈ TB := tb_s 28 (q := (yX5_checkJob, 9)) (by decide +kernel)
set_option maxRecDepth 100000 in
theorem q_se_X5_areAllRight : Cond.selects RX5 yX5_areAllRight yX5_areAllRight ∈ TB := tb_s 29 (q := (yX5_areAllRight, 9)) (by decide +kernel)
set_option maxRecDepth 100000 in
theorem q_se_X5_checkVehicle : Cond.selects RX5 yX5_checkVehicle yX5_checkVehicle ∈ TB := tb_s 31 (q := (yX5_checkVehicle, 9)) (by decide +kernel)
set_option maxRecDepth 100000 in
theorem q_se_X5_dearestJob : Cond.selects RX5 yX5_dearestJob yX5_dearestJob ∈ TB := tb_s 34 (q := (yX5_dearestJob, 9)) (by decide +kernel)
set_option maxRecDepth 100000 in
theorem q_se_X5_makeBestChange : Cond.selects RX5 yX5_makeBestChange yX5_makeBestChange ∈ TB := tb_s 36 (q := (yX5_makeBestChange, 9)) (by decide +kernel)
set_option maxRecDepth 100000 in
theorem q_se_X5_checkStop : Cond.selects RX5 yX5_checkStop yX5_checkStop ∈ TB := tb_s 38 (q := (yX5_checkStop, 9)) (by decide +kernel)
set_option maxRecDepth 100000 in
theorem q_se_X6_refuse : Cond.selects RX6 yX6_refuse yX6_refuse ∈ TB := tb_s 40 (q := (yX6_refuse, 12)) (by decide +kernel)
set_option maxRecDepth 100000 in
theorem q_se_X6_isPlace : Cond.selects RX6 yX6_isPlace yX6_isPlace ∈ TB := tb_s 41 (q := (yX6_isPlace, 12)) (by decide +kernel)
set_option maxRecDepth 100000 in
theorem q_se_X6_isJob : Cond.selects RX6 yX6_isJob yX6_isJob ∈ TB := tb_s 42 (q := (yX6_isJob, 12)) (by decide +kernel)
set_option maxRecDepth 100000 in
theorem q_se_X6_areRight : Cond.selects RX6 yX6_areRight yX6_areRight ∈ TB := tb_s 51 (q := (yX6_areRight, 12)) (by decide +kernel)
set_option maxRecDepth 100000 in
theorem q_se_X6_isVehicle : Cond.selects RX6 yX6_isVehicle yX6_isVehicle ∈ TB := tb_s 60 (q := (yX6_isVehicle, 12)) (by decide +kernel)
set_option maxRecDepth 100000 in
theorem q_se_X6_nextToPut : Cond.selects RX6 yX6_nextToPut yX6_nextToPut ∈ TB := tb_s 63 (q := (yX6_nextToPut, 12)) (by decide +kernel)
set_option maxRecDepth 100000 in
theorem q_se_X6_make : Cond.selects RX6 yX6_make yX6_make ∈ TB := tb_s 65 (q := (yX6_make, 12)) (by decide +kernel)
set_option maxRecDepth 100000 in
theorem q_se_X6_gainOf : Cond.selects RX6 yX6_gainOf yX6_gainOf ∈ TB := tb_s 66 (q := (yX6_gainOf, 12)) (by decide +kernel)
set_option maxRecDepth 100000 in
theorem q_se_X6_lookAtMoves : Cond.selects RX6 yX6_lookAtMoves yX6_lookAtMoves ∈ TB := tb_s 67 (q := (yX6_lookAtMoves, 12)) (by decide +kernel)
set_option maxRecDepth 100000 in
theorem q_se_X6_costOfRoutes : Cond.selects RX6 yX6_costOfRoutes yX6_costOfRoutes ∈ TB := tb_s 69 (q := (yX6_costOfRoutes, 12)) (by decide +kernel)
set_option maxRecDepth 100000 in
theorem q_se_X6_lookAtSwaps : Cond.selects RX6 yX6_lookAtSwaps yX6_lookAtSwaps ∈ TB := tb_s 70 (q := (yX6_lookAtSwaps, 12)) (by decide +kernel)
set_option maxRecDepth 100000 in
theorem q_se_X6_lookAtTurns : Cond.selects RX6 yX6_lookAtTurns yX6_lookAtTurns ∈ TB := tb_s 71 (q := (yX6_lookAtTurns, 12)) (by decide +kernel)
set_option maxRecDepth 100000 in
theorem q_se_X6_lookAtEnds : Cond.selects RX6 yX6_lookAtEnds yX6_lookAtEnds ∈ TB := tb_s 72 (q := (yX6_lookAtEnds, 12)) (by decide +kernel)
set_option maxRecDepth 100000 in
theorem q_se_X6_setNow : Cond.selects RX6 yX6_setNow yX6_setNow ∈ TB := tb_s 74 (q := (yX6_setNow, 12)) (by decide +kernel)
set_option maxRecDepth 100000 in
theorem q_se_X6_hasStop : Cond.selects RX6 yX6_hasStop yX6_hasStop ∈ TB := tb_s 75 (q := (yX6_hasStop, 12)) (by decide +kernel)
set_option maxRecDepth 100000 in
theorem q_se_X6_costAll : Cond.selects RX6 yX6_costAll yX6_costAll ∈ TB := tb_s 79 (q := (yX6_costAll, 12)) (by decide +kernel)
set_option maxRecDepth 100000 in
theorem q_se_X6_add : Cond.selects RX6 yX6_add yX6_add ∈ TB := tb_s 80 (q := (yX6_add, 12)) (by decide +kernel)
theorem inX0 : ∀ w ∈ u_ws RX0 TX0 12, w ∈ TB := by
  intro w hw
  obtain ⟨k, hk, rfl⟩ := List.mem_map.mp hw
  have hk := List.mem_range.mp hk
  rcases (show k = 0 ∨ k = 1 ∨ k = 2 ∨ k = 3 ∨ k = 4 ∨ k = 5 ∨ k = 6 ∨ k = 7 ∨ k = 8 ∨ k = 9 ∨ k = 10 ∨ k = 11 by omega) with rfl | rfl | rfl | rfl | rfl | rfl | rfl | rfl | rfl | rfl | rfl | rfl
  · exact q_la_X0_0
  · exact q_la_X0_1
  · exact q_la_X0_2
  · exact q_la_X0_3
  · exact q_la_X0_4
  · exact q_la_X0_5
  · exact q_la_X0_6
  · exact q_la_X0_7
  · exact q_la_X0_8
  · exact q_la_X0_9
  · exact q_la_X0_10
  · exact q_la_X0_11
theorem inX1 : ∀ w ∈ u_ws RX1 TX1 6, w ∈ TB := by
  intro w hw
  obtain ⟨k, hk, rfl⟩ := List.mem_map.mp hw
  have hk := List.mem_range.mp hk
  rcases (show k = 0 ∨ k = 1 ∨ k = 2 ∨ k = 3 ∨ k = 4 ∨ k = 5 by omega) with rfl | rfl | rfl | rfl | rfl | rfl
  · exact q_la_X1_0
  · exact q_la_X1_1
  · exact q_la_X1_2
  · exact q_la_X1_3
  · exact q_la_X1_4
  · exact q_la_X1_5
theorem inX2 : ∀ w ∈ u_ws RX2 TX2 2, w ∈ TB := by
  intro w hw
  obtain ⟨k, hk, rfl⟩ := List.mem_map.mp hw
  have hk := List.mem_range.mp hk
  rcases (show k = 0 ∨ k = 1 by omega) with rfl | rfl
  · exact q_la_X2_0
  · exact q_la_X2_1
theorem inX3 : ∀ w ∈ u_ws RX3 TX3 10, w ∈ TB := by
  intro w hw
  obtain ⟨k, hk, rfl⟩ := List.mem_map.mp hw
  have hk := List.mem_range.mp hk
  rcases (show k = 0 ∨ k = 1 ∨ k = 2 ∨ k = 3 ∨ k = 4 ∨ k = 5 ∨ k = 6 ∨ k = 7 ∨ k = 8 ∨ k = 9 by omega) with rfl | rfl | rfl | rfl | rfl | rfl | rfl | rfl | rfl | rfl
  · exact q_la_X3_0
  · exact q_la_X3_1
  · exact q_la_X3_2
  · exact q_la_X3_3
  · exact q_la_X3_4
  · exact q_la_X3_5
  · exact q_la_X3_6
  · exact q_la_X3_7
  · exact q_la_X3_8
  · exact q_la_X3_9
theorem inX4 : ∀ w ∈ u_ws RX4 TX4 11, w ∈ TB := by
  intro w hw
  obtain ⟨k, hk, rfl⟩ := List.mem_map.mp hw
  have hk := List.mem_range.mp hk
  rcases (show k = 0 ∨ k = 1 ∨ k = 2 ∨ k = 3 ∨ k = 4 ∨ k = 5 ∨ k = 6 ∨ k = 7 ∨ k = 8 ∨ k = 9 ∨ k = 10 by omega) with rfl | rfl | rfl | rfl | rfl | rfl | rfl | rfl | rfl | rfl | rfl
  · exact q_la_X4_0
  · exact q_la_X4_1
  · exact q_la_X4_2
  · exact q_la_X4_3
  · exact q_la_X4_4
  · exact q_la_X4_5
  · exact q_la_X4_6
  · exact q_la_X4_7
  · exact q_la_X4_8
  · exact q_la_X4_9
  · exact q_la_X4_10
theorem inX5 : ∀ w ∈ u_ws RX5 TX5 9, w ∈ TB := by
  intro w hw
  obtain ⟨k, hk, rfl⟩ := List.mem_map.mp hw
  have hk := List.mem_range.mp hk
  rcases (show k = 0 ∨ k = 1 ∨ k = 2 ∨ k = 3 ∨ k = 4 ∨ k = 5 ∨ k = 6 ∨ k = 7 ∨ k = 8 by omega) with rfl | rfl | rfl | rfl | rfl | rfl | rfl | rfl | rfl
  · exact q_la_X5_0
  · exact q_la_X5_1
  · exact q_la_X5_2
  · exact q_la_X5_3
  · exact q_la_X5_4
  · exact q_la_X5_5
  · exact q_la_X5_6
  · exact q_la_X5_7
  · exact q_la_X5_8
theorem inX6 : ∀ w ∈ u_ws RX6 TX6 12, w ∈ TB := by
  intro w hw
  obtain ⟨k, hk, rfl⟩ := List.mem_map.mp hw
  have hk := List.mem_range.mp hk
  rcases (show k = 0 ∨ k = 1 ∨ k = 2 ∨ k = 3 ∨ k = 4 ∨ k = 5 ∨ k = 6 ∨ k = 7 ∨ k = 8 ∨ k = 9 ∨ k = 10 ∨ k = 11 by omega) with rfl | rfl | rfl | rfl | rfl | rfl | rfl | rfl | rfl | rfl | rfl | rfl
  · exact q_la_X6_0
  · exact q_la_X6_1
  · exact q_la_X6_2
  · exact q_la_X6_3
  · exact q_la_X6_4
  · exact q_la_X6_5
  · exact q_la_X6_6
  · exact q_la_X6_7
  · exact q_la_X6_8
  · exact q_la_X6_9
  · exact q_la_X6_10
  · exact q_la_X6_11
def va_AA (U : State) : Prop := (Cond.arrayOver (.array .int)).before #[] U = true
theorem va_AA.of {A : Array Value} {U : State} (h : (Cond.arrayOver (.array .int)).before A U = true) : va_AA U := h
theorem va_AA.use {A : Array Value} {U : State} (h : va_AA U) : (Cond.arrayOver (.array .int)).before A U = true := h
theorem va_AA.moved {u U : State} (hvm : u.vm.Alike U.vm) (h : va_AA u) : va_AA U := by
  obtain ⟨comp, c, k, h1, h2, h3, h4, h5⟩ := arrayOverA_spec h
  obtain ⟨k', hk', he⟩ := hvm.2.2 _ _ h3
  have hi : (U.vm.classes.findIdx? fun (x : Class) => match x.kind with | .array component _ => component == comp | _ => false) = some c := by
    refine (va_idx_bare U.vm comp).symm.trans ?_
    first | rw [hvm.bare_eq] | rw [← hvm.bare_eq]
    exact (va_idx_bare u.vm comp).trans h2
  have hkind : k'.kind = .array comp (.array .int) := by rw [he]; exact h4
  have f1 : U.vm.findClass (FieldType.array .int).toString = some comp := by rw [hvm.findClass]; exact h1
  have f2 : U.vm.findClass ("[" ++ (FieldType.array .int).toString) = some c := by rw [hvm.findClass]; exact h5
  unfold va_AA Cond.before Cond.holds
  simp only [Cond.value]
  rw [f1, Option.bind_some]
  refine (congrArg (fun o : Option Nat => (o.bind (fun c => (U.vm.classes[c]?).map fun (k : Class) => match k.kind with | .array _ ty => decide (ty = FieldType.array .int) && decide (U.vm.findClass ("[" ++ (FieldType.array .int).toString) = some c) | _ => false) == some true)) hi).trans ?_
  simp [hk', hkind, f2]

def NW (U : State) : Prop := va_Nw (Cond.methodLinkNest RX5 25 yX3_init "DroverPlan") U ∧ va_Nw (Cond.methodLinkNest RX5 39 yX1_init "DroverPlan") U ∧ va_Nw (Cond.methodLinkNest RX2 44 yX5_fetchOf "DroverPlan") U ∧ va_Nw (Cond.methodLinkNest RX2 26 yX5_bringOf "DroverPlan") U ∧ va_Nw (Cond.methodLinkNest RX2 23 yX5_jobOf "DroverPlan") U ∧ va_Nw (Cond.methodLinkNest RX2 32 yX5_isFetch "DroverPlan") U ∧ va_Nw (Cond.methodLinkNest RX0 52 yX5_fetchOf "DroverPlan") U ∧ va_Nw (Cond.methodLinkNest RX0 59 yX5_bringOf "DroverPlan") U ∧ va_AO "DroverPlan$Vehicle" U ∧ va_AA U
theorem q_mn_X5_25 {U : State} (h : NW U) : va_Nw (Cond.methodLinkNest RX5 25 yX3_init "DroverPlan") U := h.1
theorem q_mn_X5_39 {U : State} (h : NW U) : va_Nw (Cond.methodLinkNest RX5 39 yX1_init "DroverPlan") U := h.2.1
theorem q_mn_X2_44 {U : State} (h : NW U) : va_Nw (Cond.methodLinkNest RX2 44 yX5_fetchOf "DroverPlan") U := h.2.2.1
theorem q_mn_X2_26 {U : State} (h : NW U) : va_Nw (Cond.methodLinkNest RX2 26 yX5_bringOf "DroverPlan") U := h.2.2.2.1
theorem q_mn_X2_23 {U : State} (h : NW U) : va_Nw (Cond.methodLinkNest RX2 23 yX5_jobOf "DroverPlan") U := h.2.2.2.2.1
theorem q_mn_X2_32 {U : State} (h : NW U) : va_Nw (Cond.methodLinkNest RX2 32 yX5_isFetch "DroverPlan") U := h.2.2.2.2.2.1
theorem q_mn_X0_52 {U : State} (h : NW U) : va_Nw (Cond.methodLinkNest RX0 52 yX5_fetchOf "DroverPlan") U := h.2.2.2.2.2.2.1
theorem q_mn_X0_59 {U : State} (h : NW U) : va_Nw (Cond.methodLinkNest RX0 59 yX5_bringOf "DroverPlan") U := h.2.2.2.2.2.2.2.1
theorem NW.ao {U : State} (h : NW U) : va_AO "DroverPlan$Vehicle" U := h.2.2.2.2.2.2.2.2.1
theorem NW.aa {U : State} (h : NW U) : va_AA U := h.2.2.2.2.2.2.2.2.2
theorem NW.warm {s U : State} (hW : s.WarmedH U.vm) (h : NW s) : NW U := ⟨va_Nw.warmM hW (q_mn_X5_25 h), va_Nw.warmM hW (q_mn_X5_39 h), va_Nw.warmM hW (q_mn_X2_44 h), va_Nw.warmM hW (q_mn_X2_26 h), va_Nw.warmM hW (q_mn_X2_23 h), va_Nw.warmM hW (q_mn_X2_32 h), va_Nw.warmM hW (q_mn_X0_52 h), va_Nw.warmM hW (q_mn_X0_59 h), va_AO.moved hW.alike h.ao, va_AA.moved hW.alike h.aa⟩
theorem NW.same {s U : State} (hv : s.vm = U.vm) (h : NW s) : NW U := ⟨va_Nw.same rfl hv (q_mn_X5_25 h), va_Nw.same rfl hv (q_mn_X5_39 h), va_Nw.same rfl hv (q_mn_X2_44 h), va_Nw.same rfl hv (q_mn_X2_26 h), va_Nw.same rfl hv (q_mn_X2_23 h), va_Nw.same rfl hv (q_mn_X2_32 h), va_Nw.same rfl hv (q_mn_X0_52 h), va_Nw.same rfl hv (q_mn_X0_59 h), va_AO.moved (hv ▸ Vm.Alike.refl _) h.ao, va_AA.moved (hv ▸ Vm.Alike.refl _) h.aa⟩
abbrev cls : List vw_C := [(RX0, TX0, 12), (RX1, TX1, 6), (RX2, TX2, 2), (RX3, TX3, 10), (RX4, TX4, 11), (RX5, TX5, 9), (RX6, TX6, 12)]
