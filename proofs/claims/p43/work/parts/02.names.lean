def RX0 : String := "DroverPlan$Facts"
def TX0 : u_T := fun k => match k with
  | 0 => ("DroverPlan$Facts", "x", "[I", true)
  | 1 => ("DroverPlan$Facts", "y", "[I", true)
  | 2 => ("DroverPlan$Facts", "ways", "[I", true)
  | 3 => ("DroverPlan$Facts", "fine", "[I", true)
  | 4 => ("DroverPlan$Facts", "place", "[I", true)
  | 5 => ("DroverPlan$Facts", "opens", "[I", true)
  | 6 => ("DroverPlan$Facts", "closes", "[I", true)
  | 7 => ("DroverPlan$Facts", "minutes", "[I", true)
  | 8 => ("DroverPlan$Facts", "weight", "[I", true)
  | 9 => ("DroverPlan$Facts", "placeCount", "I", false)
  | 10 => ("DroverPlan$Facts", "jobCount", "I", false)
  | _ => ("DroverPlan$Facts", "clock", "I", false)
def tyX0 : Nat → FieldType := fun k => match k with
  | 0 => .array .int
  | 1 => .array .int
  | 2 => .array .int
  | 3 => .array .int
  | 4 => .array .int
  | 5 => .array .int
  | 6 => .array .int
  | 7 => .array .int
  | 8 => .array .int
  | 9 => .int
  | 10 => .int
  | _ => .int
abbrev wsX00 : List Cond := u_ws RX0 TX0 12
theorem nmX0 : ∀ a, a < 12 → ∀ b, b < 12 → a ≠ b → (TX0 a).2.1 ≠ (TX0 b).2.1 := by decide +kernel
theorem tyX0_ok : ∀ k, k < 12 → parseFieldDescriptor (TX0 k).2.2.1 = some (tyX0 k) := by decide +kernel
abbrev cX0_init : ByteArray := prog_2_method_1_code
def yX0_init : MethodName := ⟨RX0, "<init>", "()V"⟩
abbrev cX0_isPlace : ByteArray := prog_2_method_2_code
def yX0_isPlace : MethodName := ⟨RX0, "isPlace", "(I)Z"⟩
abbrev cX0_isStop : ByteArray := prog_2_method_3_code
def yX0_isStop : MethodName := ⟨RX0, "isStop", "(I)Z"⟩
abbrev cX0_wayBetween : ByteArray := prog_2_method_4_code
def yX0_wayBetween : MethodName := ⟨RX0, "wayBetween", "(II)I"⟩
abbrev cX0_tellPlace : ByteArray := prog_2_method_5_code
def yX0_tellPlace : MethodName := ⟨RX0, "tellPlace", "(II)I"⟩
abbrev cX0_tellJob : ByteArray := prog_2_method_6_code
def yX0_tellJob : MethodName := ⟨RX0, "tellJob", "(IIIII)I"⟩
abbrev cX0_tellStop : ByteArray := prog_2_method_7_code
def yX0_tellStop : MethodName := ⟨RX0, "tellStop", "(IIII)V"⟩
abbrev cX0_tellHours : ByteArray := prog_2_method_8_code
def yX0_tellHours : MethodName := ⟨RX0, "tellHours", "(III)V"⟩
def RX1 : String := "DroverPlan$Insertion"
def TX1 : u_T := fun k => match k with
  | 0 => ("DroverPlan$Insertion", "job", "I", false)
  | 1 => ("DroverPlan$Insertion", "vehicle", "I", false)
  | 2 => ("DroverPlan$Insertion", "i", "I", false)
  | 3 => ("DroverPlan$Insertion", "k", "I", false)
  | 4 => ("DroverPlan$Insertion", "adds", "I", false)
  | _ => ("DroverPlan$Insertion", "regret", "I", false)
def tyX1 : Nat → FieldType := fun k => match k with
  | 0 => .int
  | 1 => .int
  | 2 => .int
  | 3 => .int
  | 4 => .int
  | _ => .int
abbrev wsX10 : List Cond := u_ws RX1 TX1 6
theorem nmX1 : ∀ a, a < 6 → ∀ b, b < 6 → a ≠ b → (TX1 a).2.1 ≠ (TX1 b).2.1 := by decide +kernel
theorem tyX1_ok : ∀ k, k < 6 → parseFieldDescriptor (TX1 k).2.2.1 = some (tyX1 k) := by decide +kernel
abbrev cX1_init : ByteArray := prog_3_method_1_code
def yX1_init : MethodName := ⟨RX1, "<init>", "()V"⟩
abbrev cX1_become : ByteArray := prog_3_method_2_code
def yX1_become : MethodName := ⟨RX1, "become", "(LDroverPlan$Insertion;)V"⟩
abbrev cX1_comesBefore : ByteArray := prog_3_method_3_code
def yX1_comesBefore : MethodName := ⟨RX1, "comesBefore", "(LDroverPlan$Insertion;)Z"⟩
def RX2 : String := "DroverPlan$Row"
def TX2 : u_T := fun k => match k with
  | 0 => ("DroverPlan$Row", "stops", "[I", true)
  | _ => ("DroverPlan$Row", "many", "I", false)
def tyX2 : Nat → FieldType := fun k => match k with
  | 0 => .array .int
  | _ => .int
abbrev wsX20 : List Cond := u_ws RX2 TX2 2
theorem nmX2 : ∀ a, a < 2 → ∀ b, b < 2 → a ≠ b → (TX2 a).2.1 ≠ (TX2 b).2.1 := by decide +kernel
theorem tyX2_ok : ∀ k, k < 2 → parseFieldDescriptor (TX2 k).2.2.1 = some (tyX2 k) := by decide +kernel
abbrev cX2_init : ByteArray := prog_4_method_1_code
def yX2_init : MethodName := ⟨RX2, "<init>", "()V"⟩
abbrev cX2_at : ByteArray := prog_4_method_2_code
def yX2_at : MethodName := ⟨RX2, "at", "(I)I"⟩
abbrev cX2_find : ByteArray := prog_4_method_3_code
def yX2_find : MethodName := ⟨RX2, "find", "(I)I"⟩
abbrev cX2_holdsPair : ByteArray := prog_4_method_4_code
def yX2_holdsPair : MethodName := ⟨RX2, "holdsPair", "(II)Z"⟩
abbrev cX2_splitsJob : ByteArray := prog_4_method_5_code
def yX2_splitsJob : MethodName := ⟨RX2, "splitsJob", "(I)Z"⟩
abbrev cX2_add : ByteArray := prog_4_method_6_code
def yX2_add : MethodName := ⟨RX2, "add", "(I)V"⟩
abbrev cX2_addPart : ByteArray := prog_4_method_7_code
def yX2_addPart : MethodName := ⟨RX2, "addPart", "(LDroverPlan$Row;II)V"⟩
abbrev cX2_become : ByteArray := prog_4_method_8_code
def yX2_become : MethodName := ⟨RX2, "become", "(LDroverPlan$Row;)V"⟩
abbrev cX2_becomeWithout : ByteArray := prog_4_method_9_code
def yX2_becomeWithout : MethodName := ⟨RX2, "becomeWithout", "(LDroverPlan$Row;I)V"⟩
abbrev cX2_becomeWith : ByteArray := prog_4_method_10_code
def yX2_becomeWith : MethodName := ⟨RX2, "becomeWith", "(LDroverPlan$Row;III)V"⟩
abbrev cX2_becomeSwapped : ByteArray := prog_4_method_11_code
def yX2_becomeSwapped : MethodName := ⟨RX2, "becomeSwapped", "(LDroverPlan$Row;II)V"⟩
abbrev cX2_becomeTurned : ByteArray := prog_4_method_12_code
def yX2_becomeTurned : MethodName := ⟨RX2, "becomeTurned", "(LDroverPlan$Row;II)V"⟩
abbrev cX2_becomeJoined : ByteArray := prog_4_method_13_code
def yX2_becomeJoined : MethodName := ⟨RX2, "becomeJoined", "(LDroverPlan$Row;ILDroverPlan$Row;I)V"⟩
def RX3 : String := "DroverPlan$Trip"
def TX3 : u_T := fun k => match k with
  | 0 => ("DroverPlan$Trip", "where", "I", false)
  | 1 => ("DroverPlan$Trip", "arrive", "I", false)
  | 2 => ("DroverPlan$Trip", "begin", "I", false)
  | 3 => ("DroverPlan$Trip", "leave", "I", false)
  | 4 => ("DroverPlan$Trip", "load", "I", false)
  | 5 => ("DroverPlan$Trip", "set", "I", false)
  | 6 => ("DroverPlan$Trip", "waited", "I", false)
  | 7 => ("DroverPlan$Trip", "distance", "I", false)
  | 8 => ("DroverPlan$Trip", "carried", "I", false)
  | _ => ("DroverPlan$Trip", "right", "Z", false)
def tyX3 : Nat → FieldType := fun k => match k with
  | 0 => .int
  | 1 => .int
  | 2 => .int
  | 3 => .int
  | 4 => .int
  | 5 => .int
  | 6 => .int
  | 7 => .int
  | 8 => .int
  | _ => .boolean
abbrev wsX30 : List Cond := u_ws RX3 TX3 10
theorem nmX3 : ∀ a, a < 10 → ∀ b, b < 10 → a ≠ b → (TX3 a).2.1 ≠ (TX3 b).2.1 := by decide +kernel
theorem tyX3_ok : ∀ k, k < 10 → parseFieldDescriptor (TX3 k).2.2.1 = some (tyX3 k) := by decide +kernel
abbrev cX3_init : ByteArray := prog_5_method_1_code
def yX3_init : MethodName := ⟨RX3, "<init>", "()V"⟩
abbrev cX3_start : ByteArray := prog_5_method_2_code
def yX3_start : MethodName := ⟨RX3, "start", "(LDroverPlan$Vehicle;)V"⟩
abbrev cX3_goOn : ByteArray := prog_5_method_3_code
def yX3_goOn : MethodName := ⟨RX3, "goOn", "(II)V"⟩
abbrev cX3_visit : ByteArray := prog_5_method_4_code
def yX3_visit : MethodName := ⟨RX3, "visit", "(LDroverPlan$Facts;LDroverPlan$Vehicle;I)V"⟩
abbrev cX3_goHome : ByteArray := prog_5_method_5_code
def yX3_goHome : MethodName := ⟨RX3, "goHome", "(LDroverPlan$Facts;LDroverPlan$Vehicle;)V"⟩
abbrev cX3_ride : ByteArray := prog_5_method_6_code
def yX3_ride : MethodName := ⟨RX3, "ride", "(LDroverPlan$Facts;LDroverPlan$Vehicle;LDroverPlan$Row;)I"⟩
abbrev cX3_isRideRight : ByteArray := prog_5_method_8_code
def yX3_isRideRight : MethodName := ⟨RX3, "isRideRight", "(LDroverPlan$Facts;LDroverPlan$Vehicle;LDroverPlan$Row;)Z"⟩
abbrev cX3_isAllowed : ByteArray := prog_5_method_9_code
def yX3_isAllowed : MethodName := ⟨RX3, "isAllowed", "(LDroverPlan$Vehicle;)Z"⟩
def RX4 : String := "DroverPlan$Vehicle"
def TX4 : u_T := fun k => match k with
  | 0 => ("DroverPlan$Vehicle", "home", "I", false)
  | 1 => ("DroverPlan$Vehicle", "capacity", "I", false)
  | 2 => ("DroverPlan$Vehicle", "leaves", "I", false)
  | 3 => ("DroverPlan$Vehicle", "due", "I", false)
  | 4 => ("DroverPlan$Vehicle", "price", "I", false)
  | 5 => ("DroverPlan$Vehicle", "fixed", "I", false)
  | 6 => ("DroverPlan$Vehicle", "set", "I", false)
  | 7 => ("DroverPlan$Vehicle", "before", "I", false)
  | 8 => ("DroverPlan$Vehicle", "row", "LDroverPlan$Row;", true)
  | 9 => ("DroverPlan$Vehicle", "tried", "LDroverPlan$Row;", true)
  | _ => ("DroverPlan$Vehicle", "after", "LDroverPlan$Row;", true)
def tyX4 : Nat → FieldType := fun k => match k with
  | 0 => .int
  | 1 => .int
  | 2 => .int
  | 3 => .int
  | 4 => .int
  | 5 => .int
  | 6 => .int
  | 7 => .int
  | 8 => .object "DroverPlan$Row"
  | 9 => .object "DroverPlan$Row"
  | _ => .object "DroverPlan$Row"
abbrev wsX40 : List Cond := u_ws RX4 TX4 11
theorem nmX4 : ∀ a, a < 11 → ∀ b, b < 11 → a ≠ b → (TX4 a).2.1 ≠ (TX4 b).2.1 := by decide +kernel
theorem tyX4_ok : ∀ k, k < 11 → parseFieldDescriptor (TX4 k).2.2.1 = some (tyX4 k) := by decide +kernel
abbrev cX4_init : ByteArray := prog_6_method_1_code
def yX4_init : MethodName := ⟨RX4, "<init>", "()V"⟩
def RX5 : String := "DroverPlan"
def TX5 : u_T := fun k => match k with
  | 0 => ("DroverPlan", "facts", "LDroverPlan$Facts;", true)
  | 1 => ("DroverPlan", "fleet", "[LDroverPlan$Vehicle;", true)
  | 2 => ("DroverPlan", "trip", "LDroverPlan$Trip;", true)
  | 3 => ("DroverPlan", "shortened", "LDroverPlan$Row;", true)
  | 4 => ("DroverPlan", "found", "LDroverPlan$Insertion;", true)
  | 5 => ("DroverPlan", "best", "LDroverPlan$Insertion;", true)
  | 6 => ("DroverPlan", "chosen", "LDroverPlan$Insertion;", true)
  | 7 => ("DroverPlan", "fleetSize", "I", false)
  | _ => ("DroverPlan", "bestGain", "I", false)
def tyX5 : Nat → FieldType := fun k => match k with
  | 0 => .object "DroverPlan$Facts"
  | 1 => .array (.object "DroverPlan$Vehicle")
  | 2 => .object "DroverPlan$Trip"
  | 3 => .object "DroverPlan$Row"
  | 4 => .object "DroverPlan$Insertion"
  | 5 => .object "DroverPlan$Insertion"
  | 6 => .object "DroverPlan$Insertion"
  | 7 => .int
  | _ => .int
abbrev wsX50 : List Cond := u_ws RX5 TX5 9
theorem nmX5 : ∀ a, a < 9 → ∀ b, b < 9 → a ≠ b → (TX5 a).2.1 ≠ (TX5 b).2.1 := by decide +kernel
theorem tyX5_ok : ∀ k, k < 9 → parseFieldDescriptor (TX5 k).2.2.1 = some (tyX5 k) := by decide +kernel
abbrev cX5_init : ByteArray := prog_1_method_1_code
def yX5_init : MethodName := ⟨RX5, "<init>", "()V"⟩
abbrev cX5_addPlace : ByteArray := prog_1_method_2_code
def yX5_addPlace : MethodName := ⟨RX5, "addPlace", "(II)I"⟩
abbrev cX5_addVehicle : ByteArray := prog_1_method_3_code
def yX5_addVehicle : MethodName := ⟨RX5, "addVehicle", "(IIIIII)I"⟩
abbrev cX5_addJob : ByteArray := prog_1_method_4_code
def yX5_addJob : MethodName := ⟨RX5, "addJob", "(IIIII)I"⟩
abbrev cX5_setHours : ByteArray := prog_1_method_5_code
def yX5_setHours : MethodName := ⟨RX5, "setHours", "(IZII)Z"⟩
abbrev cX5_insert : ByteArray := prog_1_method_6_code
def yX5_insert : MethodName := ⟨RX5, "insert", "(I)I"⟩
abbrev cX5_insertAt : ByteArray := prog_1_method_7_code
def yX5_insertAt : MethodName := ⟨RX5, "insertAt", "(IIII)I"⟩
abbrev cX5_take : ByteArray := prog_1_method_8_code
def yX5_take : MethodName := ⟨RX5, "take", "(I)I"⟩
abbrev cX5_rebuild : ByteArray := prog_1_method_9_code
def yX5_rebuild : MethodName := ⟨RX5, "rebuild", "()I"⟩
abbrev cX5_ruin : ByteArray := prog_1_method_10_code
def yX5_ruin : MethodName := ⟨RX5, "ruin", "(I)I"⟩
abbrev cX5_change : ByteArray := prog_1_method_11_code
def yX5_change : MethodName := ⟨RX5, "change", "(I)I"⟩
abbrev cX5_improve : ByteArray := prog_1_method_12_code
def yX5_improve : MethodName := ⟨RX5, "improve", "(I)I"⟩
abbrev cX5_repair : ByteArray := prog_1_method_13_code
def yX5_repair : MethodName := ⟨RX5, "repair", "(I)I"⟩
abbrev cX5_advance : ByteArray := prog_1_method_14_code
def yX5_advance : MethodName := ⟨RX5, "advance", "(I)I"⟩
abbrev cX5_vehicles : ByteArray := prog_1_method_17_code
def yX5_vehicles : MethodName := ⟨RX5, "vehicles", "()I"⟩
abbrev cX5_jobs : ByteArray := prog_1_method_18_code
def yX5_jobs : MethodName := ⟨RX5, "jobs", "()I"⟩
abbrev cX5_vehicleOf : ByteArray := prog_1_method_20_code
def yX5_vehicleOf : MethodName := ⟨RX5, "vehicleOf", "(I)I"⟩
abbrev cX5_isSet : ByteArray := prog_1_method_21_code
def yX5_isSet : MethodName := ⟨RX5, "isSet", "(I)Z"⟩
abbrev cX5_stops : ByteArray := prog_1_method_22_code
def yX5_stops : MethodName := ⟨RX5, "stops", "(I)I"⟩
abbrev cX5_setStops : ByteArray := prog_1_method_23_code
def yX5_setStops : MethodName := ⟨RX5, "setStops", "(I)I"⟩
abbrev cX5_jobAt : ByteArray := prog_1_method_24_code
def yX5_jobAt : MethodName := ⟨RX5, "jobAt", "(II)I"⟩
abbrev cX5_isFetched : ByteArray := prog_1_method_25_code
def yX5_isFetched : MethodName := ⟨RX5, "isFetched", "(II)Z"⟩
abbrev cX5_arrives : ByteArray := prog_1_method_26_code
def yX5_arrives : MethodName := ⟨RX5, "arrives", "(II)I"⟩
abbrev cX5_begins : ByteArray := prog_1_method_27_code
def yX5_begins : MethodName := ⟨RX5, "begins", "(II)I"⟩
abbrev cX5_loadBehind : ByteArray := prog_1_method_28_code
def yX5_loadBehind : MethodName := ⟨RX5, "loadBehind", "(II)I"⟩
abbrev cX5_slack : ByteArray := prog_1_method_29_code
def yX5_slack : MethodName := ⟨RX5, "slack", "(II)I"⟩
abbrev cX5_back : ByteArray := prog_1_method_30_code
def yX5_back : MethodName := ⟨RX5, "back", "(I)I"⟩
abbrev cX5_waits : ByteArray := prog_1_method_31_code
def yX5_waits : MethodName := ⟨RX5, "waits", "(I)I"⟩
abbrev cX5_isRight : ByteArray := prog_1_method_32_code
def yX5_isRight : MethodName := ⟨RX5, "isRight", "(I)Z"⟩
abbrev cX5_costOf : ByteArray := prog_1_method_34_code
def yX5_costOf : MethodName := ⟨RX5, "costOf", "(I)I"⟩
abbrev cX5_cost : ByteArray := prog_1_method_35_code
def yX5_cost : MethodName := ⟨RX5, "cost", "()I"⟩
abbrev cX5_fullness : ByteArray := prog_1_method_36_code
def yX5_fullness : MethodName := ⟨RX5, "fullness", "()D"⟩
abbrev cX5_gain : ByteArray := prog_1_method_38_code
def yX5_gain : MethodName := ⟨RX5, "gain", "(I)I"⟩
abbrev cX5_costWithout : ByteArray := prog_1_method_40_code
def yX5_costWithout : MethodName := ⟨RX5, "costWithout", "(I)I"⟩
abbrev cX5_digest : ByteArray := prog_1_method_41_code
def yX5_digest : MethodName := ⟨RX5, "digest", "()J"⟩
abbrev cX5_digestOfVehicle : ByteArray := prog_1_method_42_code
def yX5_digestOfVehicle : MethodName := ⟨RX5, "digestOfVehicle", "(JLDroverPlan$Vehicle;)J"⟩
abbrev cX5_isOutside : ByteArray := prog_1_method_43_code
def yX5_isOutside : MethodName := ⟨RX5, "isOutside", "(III)Z"⟩
abbrev cX5_checkHours : ByteArray := prog_1_method_44_code
def yX5_checkHours : MethodName := ⟨RX5, "checkHours", "(II)V"⟩
abbrev cX5_checkKind : ByteArray := prog_1_method_45_code
def yX5_checkKind : MethodName := ⟨RX5, "checkKind", "(I)V"⟩
abbrev cX5_checkPlace : ByteArray := prog_1_method_46_code
def yX5_checkPlace : MethodName := ⟨RX5, "checkPlace", "(I)V"⟩
abbrev cX5_checkVehicle : ByteArray := prog_1_method_47_code
def yX5_checkVehicle : MethodName := ⟨RX5, "checkVehicle", "(I)V"⟩
abbrev cX5_checkStop : ByteArray := prog_1_method_48_code
def yX5_checkStop : MethodName := ⟨RX5, "checkStop", "(II)V"⟩
abbrev cX5_checkJob : ByteArray := prog_1_method_49_code
def yX5_checkJob : MethodName := ⟨RX5, "checkJob", "(I)V"⟩
abbrev cX5_checkOpen : ByteArray := prog_1_method_50_code
def yX5_checkOpen : MethodName := ⟨RX5, "checkOpen", "(I)V"⟩
abbrev cX5_fetchOf : ByteArray := prog_1_method_51_code
def yX5_fetchOf : MethodName := ⟨RX5, "fetchOf", "(I)I"⟩
abbrev cX5_bringOf : ByteArray := prog_1_method_52_code
def yX5_bringOf : MethodName := ⟨RX5, "bringOf", "(I)I"⟩
abbrev cX5_jobOf : ByteArray := prog_1_method_53_code
def yX5_jobOf : MethodName := ⟨RX5, "jobOf", "(I)I"⟩
abbrev cX5_isFetch : ByteArray := prog_1_method_54_code
def yX5_isFetch : MethodName := ⟨RX5, "isFetch", "(I)Z"⟩
abbrev cX5_carrierOf : ByteArray := prog_1_method_55_code
def yX5_carrierOf : MethodName := ⟨RX5, "carrierOf", "(I)I"⟩
abbrev cX5_isBound : ByteArray := prog_1_method_56_code
def yX5_isBound : MethodName := ⟨RX5, "isBound", "(I)Z"⟩
abbrev cX5_isMovable : ByteArray := prog_1_method_57_code
def yX5_isMovable : MethodName := ⟨RX5, "isMovable", "(I)Z"⟩
abbrev cX5_takeOut : ByteArray := prog_1_method_58_code
def yX5_takeOut : MethodName := ⟨RX5, "takeOut", "(I)V"⟩
abbrev cX5_rideWhole : ByteArray := prog_1_method_59_code
def yX5_rideWhole : MethodName := ⟨RX5, "rideWhole", "(LDroverPlan$Vehicle;)V"⟩
abbrev cX5_rideTo : ByteArray := prog_1_method_60_code
def yX5_rideTo : MethodName := ⟨RX5, "rideTo", "(LDroverPlan$Vehicle;I)V"⟩
abbrev cX5_areAllRight : ByteArray := prog_1_method_61_code
def yX5_areAllRight : MethodName := ⟨RX5, "areAllRight", "()Z"⟩
abbrev cX5_costOfAll : ByteArray := prog_1_method_62_code
def yX5_costOfAll : MethodName := ⟨RX5, "costOfAll", "()I"⟩
abbrev cX5_savedWithout : ByteArray := prog_1_method_63_code
def yX5_savedWithout : MethodName := ⟨RX5, "savedWithout", "(I)I"⟩
abbrev cX5_slackBehind : ByteArray := prog_1_method_64_code
def yX5_slackBehind : MethodName := ⟨RX5, "slackBehind", "(LDroverPlan$Vehicle;II)I"⟩
abbrev cX5_detour : ByteArray := prog_1_method_65_code
def yX5_detour : MethodName := ⟨RX5, "detour", "(III)I"⟩
abbrev cX5_placeAt : ByteArray := prog_1_method_66_code
def yX5_placeAt : MethodName := ⟨RX5, "placeAt", "(LDroverPlan$Vehicle;LDroverPlan$Row;I)I"⟩
abbrev cX5_addsAt : ByteArray := prog_1_method_67_code
def yX5_addsAt : MethodName := ⟨RX5, "addsAt", "(LDroverPlan$Vehicle;LDroverPlan$Row;III)I"⟩
abbrev cX5_searchInsertion : ByteArray := prog_1_method_68_code
def yX5_searchInsertion : MethodName := ⟨RX5, "searchInsertion", "(ILDroverPlan$Vehicle;LDroverPlan$Row;I)V"⟩
abbrev cX5_searchAllVehicles : ByteArray := prog_1_method_69_code
def yX5_searchAllVehicles : MethodName := ⟨RX5, "searchAllVehicles", "(I)V"⟩
abbrev cX5_put : ByteArray := prog_1_method_70_code
def yX5_put : MethodName := ⟨RX5, "put", "(LDroverPlan$Insertion;)V"⟩
abbrev cX5_chooseByRegret : ByteArray := prog_1_method_71_code
def yX5_chooseByRegret : MethodName := ⟨RX5, "chooseByRegret", "()Z"⟩
abbrev cX5_dearestJob : ByteArray := prog_1_method_72_code
def yX5_dearestJob : MethodName := ⟨RX5, "dearestJob", "()I"⟩
abbrev cX5_jobToRepair : ByteArray := prog_1_method_73_code
def yX5_jobToRepair : MethodName := ⟨RX5, "jobToRepair", "(LDroverPlan$Vehicle;)I"⟩
abbrev cX5_startSearch : ByteArray := prog_1_method_74_code
def yX5_startSearch : MethodName := ⟨RX5, "startSearch", "()V"⟩
abbrev cX5_searchKind : ByteArray := prog_1_method_75_code
def yX5_searchKind : MethodName := ⟨RX5, "searchKind", "(I)V"⟩
abbrev cX5_makeBestChange : ByteArray := prog_1_method_76_code
def yX5_makeBestChange : MethodName := ⟨RX5, "makeBestChange", "()V"⟩
abbrev cX5_keep : ByteArray := prog_1_method_77_code
def yX5_keep : MethodName := ⟨RX5, "keep", "(ILDroverPlan$Vehicle;LDroverPlan$Vehicle;)V"⟩
abbrev cX5_offer : ByteArray := prog_1_method_78_code
def yX5_offer : MethodName := ⟨RX5, "offer", "(LDroverPlan$Vehicle;LDroverPlan$Vehicle;)V"⟩
abbrev cX5_searchMoves : ByteArray := prog_1_method_79_code
def yX5_searchMoves : MethodName := ⟨RX5, "searchMoves", "()V"⟩
abbrev cX5_searchSwaps : ByteArray := prog_1_method_80_code
def yX5_searchSwaps : MethodName := ⟨RX5, "searchSwaps", "()V"⟩
abbrev cX5_searchTurns : ByteArray := prog_1_method_81_code
def yX5_searchTurns : MethodName := ⟨RX5, "searchTurns", "()V"⟩
abbrev cX5_searchEnds : ByteArray := prog_1_method_82_code
def yX5_searchEnds : MethodName := ⟨RX5, "searchEnds", "()V"⟩
def RL : String := "DroverPlanLaw"
abbrev cL_below : ByteArray := method_2_code
def yL_below : MethodName := ⟨RL, "below", "(II)I"⟩
abbrev cL_cell : ByteArray := method_3_code
def yL_cell : MethodName := ⟨RL, "cell", "([II)I"⟩
abbrev cL_law : ByteArray := code
def yL_law : MethodName := ⟨RL, "law", "([I)Z"⟩
abbrev cL_act : ByteArray := method_5_code
def yL_act : MethodName := ⟨RL, "act", "(LDroverPlan;I)Z"⟩
abbrev cL_isSound : ByteArray := method_6_code
def yL_isSound : MethodName := ⟨RL, "isSound", "(LDroverPlan;)Z"⟩
/-- the words of the tables that a method may ask of its caller -/
def TB : List Cond := lw_tbl.filter goodWord
theorem tb_t (i : Nat) {w : Cond} (h : tables_1[i]? = some w) (g : goodWord w = true) : w ∈ TB := List.mem_filter.mpr ⟨List.mem_append_right _ (List.mem_of_getElem? h), g⟩
theorem tb_s (i : Nat) {q : MethodName × Nat} (h : lw_privs[i]? = some q) : Cond.selects q.1.cls q.1 q.1 ∈ TB := List.mem_filter.mpr ⟨List.mem_append_left _ (List.mem_map.mpr ⟨q, List.mem_of_getElem? h, rfl⟩), rfl⟩
theorem tb_good {c d : Cond} (hd : d ∈ TB) : GoodIn (c :: TB) (d :: TB) := fun w hw => by
  rcases List.mem_cons.mp hw with rfl | h
  · exact ⟨List.mem_cons_of_mem _ hd, good_of_word (List.mem_filter.mp hd).2⟩
  · exact ⟨List.mem_cons_of_mem _ h, good_of_word (List.mem_filter.mp h).2⟩
theorem tb_in {c w : Cond} (h : w ∈ TB) : w ∈ c :: TB := List.mem_cons_of_mem _ h
theorem tb_goodV {c d : Cond} {own C : String} {idx : Nat} {y : MethodName} (h1 : Cond.methodLink own idx y ∈ TB) (h2 : Cond.instanceMethod y ∈ TB) (h3 : Cond.selects C y y ∈ TB) (h4 : Cond.initialized C ∈ TB) (hd : d ∈ TB) : GoodIn (c :: TB) (wsV own idx C y (d :: TB)) := fun w hw => by
  have k : ∀ z, z ∈ TB → z ∈ c :: TB ∧ ((z.onTables && z.keeps) = true ∨ ∃ ty, z = .arrayClass ty) := fun z hz => ⟨List.mem_cons_of_mem _ hz, good_of_word (List.mem_filter.mp hz).2⟩
  rcases List.mem_append.mp hw with h | h
  · rcases List.mem_cons.mp h with rfl | h
    · exact k _ h1
    rcases List.mem_cons.mp h with rfl | h
    · exact k _ h2
    rcases List.mem_cons.mp h with rfl | h
    · exact k _ h3
    rcases List.mem_cons.mp h with rfl | h
    · exact k _ h4
    cases h
  · exact tb_good hd w h
theorem tb_goodS {c d : Cond} {own : String} {idx : Nat} {y : MethodName} (h1 : Cond.methodLink own idx y ∈ TB) (h2 : Cond.static y ∈ TB) (h4 : Cond.initialized own ∈ TB) (hd : d ∈ TB) : GoodIn (c :: TB) (wsS own idx y (d :: TB)) := fun w hw => by
  have k : ∀ z, z ∈ TB → z ∈ c :: TB ∧ ((z.onTables && z.keeps) = true ∨ ∃ ty, z = .arrayClass ty) := fun z hz => ⟨List.mem_cons_of_mem _ hz, good_of_word (List.mem_filter.mp hz).2⟩
  rcases List.mem_append.mp hw with h | h
  · rcases List.mem_cons.mp h with rfl | h
    · exact k _ h1
    rcases List.mem_cons.mp h with rfl | h
    · exact k _ h2
    rcases List.mem_cons.mp h with rfl | h
    · exact k _ h4
    cases h
  · exact tb_good hd w h
set_option maxRecDepth 100000 in
theorem q_ini_L : Cond.initialized RL ∈ TB := tb_t 0 (by decide +kernel) (by decide +kernel)
set_option maxRecDepth 100000 in
theorem q_ini_X5 : Cond.initialized RX5 ∈ TB := tb_t 1 (by decide +kernel) (by decide +kernel)
set_option maxRecDepth 100000 in
theorem q_ini_X0 : Cond.initialized RX0 ∈ TB := tb_t 2 (by decide +kernel) (by decide +kernel)
set_option maxRecDepth 100000 in
theorem q_ini_X4 : Cond.initialized RX4 ∈ TB := tb_t 3 (by decide +kernel) (by decide +kernel)
set_option maxRecDepth 100000 in
theorem q_ini_X2 : Cond.initialized RX2 ∈ TB := tb_t 4 (by decide +kernel) (by decide +kernel)
set_option maxRecDepth 100000 in
theorem q_ini_X3 : Cond.initialized RX3 ∈ TB := tb_t 5 (by decide +kernel) (by decide +kernel)
set_option maxRecDepth 100000 in
theorem q_ini_X1 : Cond.initialized RX1 ∈ TB := tb_t 6 (by decide +kernel) (by decide +kernel)
set_option maxRecDepth 100000 in
theorem q_cl_L_9 : Cond.classLink RL 9 "DroverPlan" ∈ TB := tb_t 14 (by decide +kernel) (by decide +kernel)
set_option maxRecDepth 100000 in
theorem q_in_X5 : Cond.instantiable RX5 9 ∈ TB := tb_t 15 (by decide +kernel) (by decide +kernel)
set_option maxRecDepth 100000 in
theorem q_ml_L_11 : Cond.methodLink RL 11 yX5_init ∈ TB := tb_t 16 (by decide +kernel) (by decide +kernel)
set_option maxRecDepth 100000 in
theorem q_im_X5_init : Cond.instanceMethod yX5_init ∈ TB := tb_t 17 (by decide +kernel) (by decide +kernel)
set_option maxRecDepth 100000 in
theorem q_co_X5_init : Cond.code yX5_init cX5_init 2 none ∈ TB := tb_t 18 (by decide +kernel) (by decide +kernel)
set_option maxRecDepth 100000 in
theorem q_ml_X5_3 : Cond.methodLink RX5 3 ⟨"java/lang/Object", "<init>", "()V"⟩ ∈ TB := tb_t 19 (by decide +kernel) (by decide +kernel)
set_option maxRecDepth 100000 in
theorem q_im_obj : Cond.instanceMethod ⟨"java/lang/Object", "<init>", "()V"⟩ ∈ TB := tb_t 20 (by decide +kernel) (by decide +kernel)
set_option maxRecDepth 100000 in
theorem q_co_obj : Cond.code ⟨"java/lang/Object", "<init>", "()V"⟩ object_method_1_code 1 none ∈ TB := tb_t 21 (by decide +kernel) (by decide +kernel)
set_option maxRecDepth 100000 in
theorem q_cl_X5_9 : Cond.classLink RX5 9 "DroverPlan$Facts" ∈ TB := tb_t 22 (by decide +kernel) (by decide +kernel)
set_option maxRecDepth 100000 in
theorem q_in_X0 : Cond.instantiable RX0 12 ∈ TB := tb_t 23 (by decide +kernel) (by decide +kernel)
set_option maxRecDepth 100000 in
theorem q_ml_X5_11 : Cond.methodLink RX5 11 yX0_init ∈ TB := tb_t 24 (by decide +kernel) (by decide +kernel)
set_option maxRecDepth 100000 in
theorem q_im_X0_init : Cond.instanceMethod yX0_init ∈ TB := tb_t 25 (by decide +kernel) (by decide +kernel)
set_option maxRecDepth 100000 in
theorem q_co_X0_init : Cond.code yX0_init cX0_init 1 none ∈ TB := tb_t 26 (by decide +kernel) (by decide +kernel)
set_option maxRecDepth 100000 in
theorem q_ml_X0_3 : Cond.methodLink RX0 3 ⟨"java/lang/Object", "<init>", "()V"⟩ ∈ TB := tb_t 27 (by decide +kernel) (by decide +kernel)
set_option maxRecDepth 100000 in
theorem q_fl_X0_9 : Cond.fieldLink RX0 9 "DroverPlan$Facts" "x" "[I" ∈ TB := tb_t 28 (by decide +kernel) (by decide +kernel)
set_option maxRecDepth 100000 in
theorem q_fl_X0_15 : Cond.fieldLink RX0 15 "DroverPlan$Facts" "y" "[I" ∈ TB := tb_t 29 (by decide +kernel) (by decide +kernel)
set_option maxRecDepth 100000 in
theorem q_fl_X0_18 : Cond.fieldLink RX0 18 "DroverPlan$Facts" "ways" "[I" ∈ TB := tb_t 30 (by decide +kernel) (by decide +kernel)
set_option maxRecDepth 100000 in
theorem q_fl_X0_21 : Cond.fieldLink RX0 21 "DroverPlan$Facts" "fine" "[I" ∈ TB := tb_t 31 (by decide +kernel) (by decide +kernel)
set_option maxRecDepth 100000 in
theorem q_fl_X5_310 : Cond.fieldLink RX5 310 "DroverPlan$Facts" "fine" "[I" ∈ TB := tb_t 32 (by decide +kernel) (by decide +kernel)
set_option maxRecDepth 100000 in
theorem q_fl_X0_24 : Cond.fieldLink RX0 24 "DroverPlan$Facts" "place" "[I" ∈ TB := tb_t 33 (by decide +kernel) (by decide +kernel)
set_option maxRecDepth 100000 in
theorem q_fl_X3_58 : Cond.fieldLink RX3 58 "DroverPlan$Facts" "place" "[I" ∈ TB := tb_t 34 (by decide +kernel) (by decide +kernel)
set_option maxRecDepth 100000 in
theorem q_fl_X5_359 : Cond.fieldLink RX5 359 "DroverPlan$Facts" "place" "[I" ∈ TB := tb_t 35 (by decide +kernel) (by decide +kernel)
set_option maxRecDepth 100000 in
theorem q_fl_X0_27 : Cond.fieldLink RX0 27 "DroverPlan$Facts" "opens" "[I" ∈ TB := tb_t 36 (by decide +kernel) (by decide +kernel)
set_option maxRecDepth 100000 in
theorem q_fl_X3_70 : Cond.fieldLink RX3 70 "DroverPlan$Facts" "opens" "[I" ∈ TB := tb_t 37 (by decide +kernel) (by decide +kernel)
set_option maxRecDepth 100000 in
theorem q_fl_X5_373 : Cond.fieldLink RX5 373 "DroverPlan$Facts" "opens" "[I" ∈ TB := tb_t 38 (by decide +kernel) (by decide +kernel)
set_option maxRecDepth 100000 in
theorem q_fl_X0_30 : Cond.fieldLink RX0 30 "DroverPlan$Facts" "closes" "[I" ∈ TB := tb_t 39 (by decide +kernel) (by decide +kernel)
set_option maxRecDepth 100000 in
theorem q_fl_X3_84 : Cond.fieldLink RX3 84 "DroverPlan$Facts" "closes" "[I" ∈ TB := tb_t 40 (by decide +kernel) (by decide +kernel)
set_option maxRecDepth 100000 in
theorem q_fl_X5_362 : Cond.fieldLink RX5 362 "DroverPlan$Facts" "closes" "[I" ∈ TB := tb_t 41 (by decide +kernel) (by decide +kernel)
set_option maxRecDepth 100000 in
theorem q_fl_X0_33 : Cond.fieldLink RX0 33 "DroverPlan$Facts" "minutes" "[I" ∈ TB := tb_t 42 (by decide +kernel) (by decide +kernel)
set_option maxRecDepth 100000 in
theorem q_fl_X3_78 : Cond.fieldLink RX3 78 "DroverPlan$Facts" "minutes" "[I" ∈ TB := tb_t 43 (by decide +kernel) (by decide +kernel)
set_option maxRecDepth 100000 in
theorem q_fl_X5_365 : Cond.fieldLink RX5 365 "DroverPlan$Facts" "minutes" "[I" ∈ TB := tb_t 44 (by decide +kernel) (by decide +kernel)
set_option maxRecDepth 100000 in
theorem q_fl_X0_36 : Cond.fieldLink RX0 36 "DroverPlan$Facts" "weight" "[I" ∈ TB := tb_t 45 (by decide +kernel) (by decide +kernel)
set_option maxRecDepth 100000 in
theorem q_fl_X3_81 : Cond.fieldLink RX3 81 "DroverPlan$Facts" "weight" "[I" ∈ TB := tb_t 46 (by decide +kernel) (by decide +kernel)
set_option maxRecDepth 100000 in
theorem q_fl_X0_39 : Cond.fieldLink RX0 39 "DroverPlan$Facts" "placeCount" "I" ∈ TB := tb_t 47 (by decide +kernel) (by decide +kernel)
set_option maxRecDepth 100000 in
theorem q_fl_X5_61 : Cond.fieldLink RX5 61 "DroverPlan$Facts" "placeCount" "I" ∈ TB := tb_t 48 (by decide +kernel) (by decide +kernel)
set_option maxRecDepth 100000 in
theorem q_fl_X0_43 : Cond.fieldLink RX0 43 "DroverPlan$Facts" "jobCount" "I" ∈ TB := tb_t 49 (by decide +kernel) (by decide +kernel)
set_option maxRecDepth 100000 in
theorem q_fl_X5_111 : Cond.fieldLink RX5 111 "DroverPlan$Facts" "jobCount" "I" ∈ TB := tb_t 50 (by decide +kernel) (by decide +kernel)
set_option maxRecDepth 100000 in
theorem q_fl_X3_55 : Cond.fieldLink RX3 55 "DroverPlan$Facts" "clock" "I" ∈ TB := tb_t 51 (by decide +kernel) (by decide +kernel)
set_option maxRecDepth 100000 in
theorem q_fl_X5_241 : Cond.fieldLink RX5 241 "DroverPlan$Facts" "clock" "I" ∈ TB := tb_t 52 (by decide +kernel) (by decide +kernel)
set_option maxRecDepth 100000 in
theorem q_la_X0_0 : u_lay RX0 TX0 0 ∈ TB := tb_t 53 (by decide +kernel) (by decide +kernel)
set_option maxRecDepth 100000 in
theorem q_la_X0_1 : u_lay RX0 TX0 1 ∈ TB := tb_t 55 (by decide +kernel) (by decide +kernel)
set_option maxRecDepth 100000 in
theorem q_la_X0_2 : u_lay RX0 TX0 2 ∈ TB := tb_t 57 (by decide +kernel) (by decide +kernel)
set_option maxRecDepth 100000 in
theorem q_la_X0_3 : u_lay RX0 TX0 3 ∈ TB := tb_t 59 (by decide +kernel) (by decide +kernel)
set_option maxRecDepth 100000 in
theorem q_la_X0_4 : u_lay RX0 TX0 4 ∈ TB := tb_t 61 (by decide +kernel) (by decide +kernel)
set_option maxRecDepth 100000 in
theorem q_la_X0_5 : u_lay RX0 TX0 5 ∈ TB := tb_t 63 (by decide +kernel) (by decide +kernel)
set_option maxRecDepth 100000 in
theorem q_la_X0_6 : u_lay RX0 TX0 6 ∈ TB := tb_t 65 (by decide +kernel) (by decide +kernel)
set_option maxRecDepth 100000 in
theorem q_la_X0_7 : u_lay RX0 TX0 7 ∈ TB := tb_t 67 (by decide +kernel) (by decide +kernel)
set_option maxRecDepth 100000 in
theorem q_la_X0_8 : u_lay RX0 TX0 8 ∈ TB := tb_t 69 (by decide +kernel) (by decide +kernel)
set_option maxRecDepth 100000 in
theorem q_la_X0_9 : u_lay RX0 TX0 9 ∈ TB := tb_t 71 (by decide +kernel) (by decide +kernel)
set_option maxRecDepth 100000 in
theorem q_la_X0_10 : u_lay RX0 TX0 10 ∈ TB := tb_t 73 (by decide +kernel) (by decide +kernel)
set_option maxRecDepth 100000 in
theorem q_la_X0_11 : u_lay RX0 TX0 11 ∈ TB := tb_t 75 (by decide +kernel) (by decide +kernel)
set_option maxRecDepth 100000 in
theorem q_ac_int : Cond.arrayClass .int ∈ TB := tb_t 78 (by decide +kernel) (by decide +kernel)
set_option maxRecDepth 100000 in
theorem q_cl_X5_16 : Cond.classLink RX5 16 "DroverPlan$Vehicle" ∈ TB := tb_t 79 (by decide +kernel) (by decide +kernel)
set_option maxRecDepth 100000 in
theorem q_in_X4 : Cond.instantiable RX4 11 ∈ TB := tb_t 81 (by decide +kernel) (by decide +kernel)
set_option maxRecDepth 100000 in
theorem q_ml_X5_22 : Cond.methodLink RX5 22 yX4_init ∈ TB := tb_t 82 (by decide +kernel) (by decide +kernel)
set_option maxRecDepth 100000 in
theorem q_im_X4_init : Cond.instanceMethod yX4_init ∈ TB := tb_t 83 (by decide +kernel) (by decide +kernel)
set_option maxRecDepth 100000 in
theorem q_co_X4_init : Cond.code yX4_init cX4_init 1 none ∈ TB := tb_t 84 (by decide +kernel) (by decide +kernel)
set_option maxRecDepth 100000 in
theorem q_ml_X4_1 : Cond.methodLink RX4 1 ⟨"java/lang/Object", "<init>", "()V"⟩ ∈ TB := tb_t 85 (by decide +kernel) (by decide +kernel)
set_option maxRecDepth 100000 in
theorem q_cl_X4_7 : Cond.classLink RX4 7 "DroverPlan$Row" ∈ TB := tb_t 86 (by decide +kernel) (by decide +kernel)
set_option maxRecDepth 100000 in
theorem q_in_X2 : Cond.instantiable RX2 2 ∈ TB := tb_t 87 (by decide +kernel) (by decide +kernel)
set_option maxRecDepth 100000 in
theorem q_ml_X4_9 : Cond.methodLink RX4 9 yX2_init ∈ TB := tb_t 88 (by decide +kernel) (by decide +kernel)
set_option maxRecDepth 100000 in
theorem q_im_X2_init : Cond.instanceMethod yX2_init ∈ TB := tb_t 89 (by decide +kernel) (by decide +kernel)
set_option maxRecDepth 100000 in
theorem q_co_X2_init : Cond.code yX2_init cX2_init 1 none ∈ TB := tb_t 90 (by decide +kernel) (by decide +kernel)
set_option maxRecDepth 100000 in
theorem q_ml_X2_3 : Cond.methodLink RX2 3 ⟨"java/lang/Object", "<init>", "()V"⟩ ∈ TB := tb_t 91 (by decide +kernel) (by decide +kernel)
set_option maxRecDepth 100000 in
theorem q_fl_X2_9 : Cond.fieldLink RX2 9 "DroverPlan$Row" "stops" "[I" ∈ TB := tb_t 92 (by decide +kernel) (by decide +kernel)
set_option maxRecDepth 100000 in
theorem q_fl_X2_15 : Cond.fieldLink RX2 15 "DroverPlan$Row" "many" "I" ∈ TB := tb_t 93 (by decide +kernel) (by decide +kernel)
set_option maxRecDepth 100000 in
theorem q_fl_X3_97 : Cond.fieldLink RX3 97 "DroverPlan$Row" "many" "I" ∈ TB := tb_t 94 (by decide +kernel) (by decide +kernel)
set_option maxRecDepth 100000 in
theorem q_fl_X5_163 : Cond.fieldLink RX5 163 "DroverPlan$Row" "many" "I" ∈ TB := tb_t 95 (by decide +kernel) (by decide +kernel)
set_option maxRecDepth 100000 in
theorem q_la_X2_0 : u_lay RX2 TX2 0 ∈ TB := tb_t 96 (by decide +kernel) (by decide +kernel)
set_option maxRecDepth 100000 in
theorem q_la_X2_1 : u_lay RX2 TX2 1 ∈ TB := tb_t 98 (by decide +kernel) (by decide +kernel)
set_option maxRecDepth 100000 in
theorem q_fl_X3_7 : Cond.fieldLink RX3 7 "DroverPlan$Vehicle" "home" "I" ∈ TB := tb_t 101 (by decide +kernel) (by decide +kernel)
set_option maxRecDepth 100000 in
theorem q_fl_X5_91 : Cond.fieldLink RX5 91 "DroverPlan$Vehicle" "home" "I" ∈ TB := tb_t 102 (by decide +kernel) (by decide +kernel)
set_option maxRecDepth 100000 in
theorem q_fl_X5_94 : Cond.fieldLink RX5 94 "DroverPlan$Vehicle" "capacity" "I" ∈ TB := tb_t 103 (by decide +kernel) (by decide +kernel)
set_option maxRecDepth 100000 in
theorem q_fl_X3_87 : Cond.fieldLink RX3 87 "DroverPlan$Vehicle" "capacity" "I" ∈ TB := tb_t 104 (by decide +kernel) (by decide +kernel)
set_option maxRecDepth 100000 in
theorem q_fl_X3_18 : Cond.fieldLink RX3 18 "DroverPlan$Vehicle" "leaves" "I" ∈ TB := tb_t 105 (by decide +kernel) (by decide +kernel)
set_option maxRecDepth 100000 in
theorem q_fl_X5_97 : Cond.fieldLink RX5 97 "DroverPlan$Vehicle" "leaves" "I" ∈ TB := tb_t 106 (by decide +kernel) (by decide +kernel)
set_option maxRecDepth 100000 in
theorem q_fl_X5_100 : Cond.fieldLink RX5 100 "DroverPlan$Vehicle" "due" "I" ∈ TB := tb_t 107 (by decide +kernel) (by decide +kernel)
set_option maxRecDepth 100000 in
theorem q_fl_X3_90 : Cond.fieldLink RX3 90 "DroverPlan$Vehicle" "due" "I" ∈ TB := tb_t 108 (by decide +kernel) (by decide +kernel)
set_option maxRecDepth 100000 in
theorem q_fl_X5_103 : Cond.fieldLink RX5 103 "DroverPlan$Vehicle" "price" "I" ∈ TB := tb_t 109 (by decide +kernel) (by decide +kernel)
set_option maxRecDepth 100000 in
theorem q_fl_X3_117 : Cond.fieldLink RX3 117 "DroverPlan$Vehicle" "price" "I" ∈ TB := tb_t 110 (by decide +kernel) (by decide +kernel)
set_option maxRecDepth 100000 in
theorem q_fl_X5_106 : Cond.fieldLink RX5 106 "DroverPlan$Vehicle" "fixed" "I" ∈ TB := tb_t 111 (by decide +kernel) (by decide +kernel)
set_option maxRecDepth 100000 in
theorem q_fl_X3_114 : Cond.fieldLink RX3 114 "DroverPlan$Vehicle" "fixed" "I" ∈ TB := tb_t 112 (by decide +kernel) (by decide +kernel)
set_option maxRecDepth 100000 in
theorem q_fl_X5_179 : Cond.fieldLink RX5 179 "DroverPlan$Vehicle" "set" "I" ∈ TB := tb_t 113 (by decide +kernel) (by decide +kernel)
set_option maxRecDepth 100000 in
theorem q_fl_X3_120 : Cond.fieldLink RX3 120 "DroverPlan$Vehicle" "set" "I" ∈ TB := tb_t 114 (by decide +kernel) (by decide +kernel)
set_option maxRecDepth 100000 in
theorem q_fl_X5_411 : Cond.fieldLink RX5 411 "DroverPlan$Vehicle" "before" "I" ∈ TB := tb_t 115 (by decide +kernel) (by decide +kernel)
set_option maxRecDepth 100000 in
theorem q_fl_X4_10 : Cond.fieldLink RX4 10 "DroverPlan$Vehicle" "row" "LDroverPlan$Row;" ∈ TB := tb_t 116 (by decide +kernel) (by decide +kernel)
set_option maxRecDepth 100000 in
theorem q_fl_X5_160 : Cond.fieldLink RX5 160 "DroverPlan$Vehicle" "row" "LDroverPlan$Row;" ∈ TB := tb_t 117 (by decide +kernel) (by decide +kernel)
set_option maxRecDepth 100000 in
theorem q_fl_X4_16 : Cond.fieldLink RX4 16 "DroverPlan$Vehicle" "tried" "LDroverPlan$Row;" ∈ TB := tb_t 118 (by decide +kernel) (by decide +kernel)
set_option maxRecDepth 100000 in
theorem q_fl_X5_168 : Cond.fieldLink RX5 168 "DroverPlan$Vehicle" "tried" "LDroverPlan$Row;" ∈ TB := tb_t 119 (by decide +kernel) (by decide +kernel)
set_option maxRecDepth 100000 in
theorem q_fl_X4_19 : Cond.fieldLink RX4 19 "DroverPlan$Vehicle" "after" "LDroverPlan$Row;" ∈ TB := tb_t 120 (by decide +kernel) (by decide +kernel)
set_option maxRecDepth 100000 in
theorem q_fl_X5_408 : Cond.fieldLink RX5 408 "DroverPlan$Vehicle" "after" "LDroverPlan$Row;" ∈ TB := tb_t 121 (by decide +kernel) (by decide +kernel)
set_option maxRecDepth 100000 in
theorem q_la_X4_0 : u_lay RX4 TX4 0 ∈ TB := tb_t 122 (by decide +kernel) (by decide +kernel)
set_option maxRecDepth 100000 in
theorem q_la_X4_1 : u_lay RX4 TX4 1 ∈ TB := tb_t 124 (by decide +kernel) (by decide +kernel)
set_option maxRecDepth 100000 in
theorem q_la_X4_2 : u_lay RX4 TX4 2 ∈ TB := tb_t 126 (by decide +kernel) (by decide +kernel)
set_option maxRecDepth 100000 in
theorem q_la_X4_3 : u_lay RX4 TX4 3 ∈ TB := tb_t 128 (by decide +kernel) (by decide +kernel)
set_option maxRecDepth 100000 in
theorem q_la_X4_4 : u_lay RX4 TX4 4 ∈ TB := tb_t 130 (by decide +kernel) (by decide +kernel)
set_option maxRecDepth 100000 in
theorem q_la_X4_5 : u_lay RX4 TX4 5 ∈ TB := tb_t 132 (by decide +kernel) (by decide +kernel)
set_option maxRecDepth 100000 in
theorem q_la_X4_6 : u_lay RX4 TX4 6 ∈ TB := tb_t 134 (by decide +kernel) (by decide +kernel)
set_option maxRecDepth 100000 in
theorem q_la_X4_7 : u_lay RX4 TX4 7 ∈ TB := tb_t 136 (by decide +kernel) (by decide +kernel)
set_option maxRecDepth 100000 in
theorem q_la_X4_8 : u_lay RX4 TX4 8 ∈ TB := tb_t 138 (by decide +kernel) (by decide +kernel)
set_option maxRecDepth 100000 in
theorem q_la_X4_9 : u_lay RX4 TX4 9 ∈ TB := tb_t 140 (by decide +kernel) (by decide +kernel)
set_option maxRecDepth 100000 in
theorem q_la_X4_10 : u_lay RX4 TX4 10 ∈ TB := tb_t 142 (by decide +kernel) (by decide +kernel)
set_option maxRecDepth 100000 in
theorem q_cl_X5_23 : Cond.classLink RX5 23 "DroverPlan$Trip" ∈ TB := tb_t 145 (by decide +kernel) (by decide +kernel)
set_option maxRecDepth 100000 in
theorem q_in_X3 : Cond.instantiable RX3 10 ∈ TB := tb_t 146 (by decide +kernel) (by decide +kernel)
set_option maxRecDepth 100000 in
theorem q_im_X3_init : Cond.instanceMethod yX3_init ∈ TB := tb_t 148 (by decide +kernel) (by decide +kernel)
set_option maxRecDepth 100000 in
theorem q_co_X3_init : Cond.code yX3_init cX3_init 1 none ∈ TB := tb_t 149 (by decide +kernel) (by decide +kernel)
set_option maxRecDepth 100000 in
theorem q_ml_X3_1 : Cond.methodLink RX3 1 ⟨"java/lang/Object", "<init>", "()V"⟩ ∈ TB := tb_t 150 (by decide +kernel) (by decide +kernel)
set_option maxRecDepth 100000 in
theorem q_fl_X3_13 : Cond.fieldLink RX3 13 "DroverPlan$Trip" "where" "I" ∈ TB := tb_t 151 (by decide +kernel) (by decide +kernel)
set_option maxRecDepth 100000 in
theorem q_fl_X3_21 : Cond.fieldLink RX3 21 "DroverPlan$Trip" "arrive" "I" ∈ TB := tb_t 152 (by decide +kernel) (by decide +kernel)
set_option maxRecDepth 100000 in
theorem q_fl_X5_266 : Cond.fieldLink RX5 266 "DroverPlan$Trip" "arrive" "I" ∈ TB := tb_t 153 (by decide +kernel) (by decide +kernel)
set_option maxRecDepth 100000 in
theorem q_fl_X3_24 : Cond.fieldLink RX3 24 "DroverPlan$Trip" "begin" "I" ∈ TB := tb_t 154 (by decide +kernel) (by decide +kernel)
set_option maxRecDepth 100000 in
theorem q_fl_X5_269 : Cond.fieldLink RX5 269 "DroverPlan$Trip" "begin" "I" ∈ TB := tb_t 155 (by decide +kernel) (by decide +kernel)
set_option maxRecDepth 100000 in
theorem q_fl_X3_27 : Cond.fieldLink RX3 27 "DroverPlan$Trip" "leave" "I" ∈ TB := tb_t 156 (by decide +kernel) (by decide +kernel)
set_option maxRecDepth 100000 in
theorem q_fl_X3_30 : Cond.fieldLink RX3 30 "DroverPlan$Trip" "load" "I" ∈ TB := tb_t 157 (by decide +kernel) (by decide +kernel)
set_option maxRecDepth 100000 in
theorem q_fl_X5_272 : Cond.fieldLink RX5 272 "DroverPlan$Trip" "load" "I" ∈ TB := tb_t 158 (by decide +kernel) (by decide +kernel)
set_option maxRecDepth 100000 in
theorem q_fl_X3_33 : Cond.fieldLink RX3 33 "DroverPlan$Trip" "set" "I" ∈ TB := tb_t 159 (by decide +kernel) (by decide +kernel)
set_option maxRecDepth 100000 in
theorem q_fl_X5_246 : Cond.fieldLink RX5 246 "DroverPlan$Trip" "set" "I" ∈ TB := tb_t 160 (by decide +kernel) (by decide +kernel)
set_option maxRecDepth 100000 in
theorem q_fl_X3_36 : Cond.fieldLink RX3 36 "DroverPlan$Trip" "waited" "I" ∈ TB := tb_t 161 (by decide +kernel) (by decide +kernel)
set_option maxRecDepth 100000 in
theorem q_fl_X5_283 : Cond.fieldLink RX5 283 "DroverPlan$Trip" "waited" "I" ∈ TB := tb_t 162 (by decide +kernel) (by decide +kernel)
set_option maxRecDepth 100000 in
theorem q_fl_X3_39 : Cond.fieldLink RX3 39 "DroverPlan$Trip" "distance" "I" ∈ TB := tb_t 163 (by decide +kernel) (by decide +kernel)
set_option maxRecDepth 100000 in
theorem q_fl_X5_290 : Cond.fieldLink RX5 290 "DroverPlan$Trip" "distance" "I" ∈ TB := tb_t 164 (by decide +kernel) (by decide +kernel)
set_option maxRecDepth 100000 in
theorem q_fl_X3_42 : Cond.fieldLink RX3 42 "DroverPlan$Trip" "carried" "I" ∈ TB := tb_t 165 (by decide +kernel) (by decide +kernel)
set_option maxRecDepth 100000 in
theorem q_fl_X5_296 : Cond.fieldLink RX5 296 "DroverPlan$Trip" "carried" "I" ∈ TB := tb_t 166 (by decide +kernel) (by decide +kernel)
set_option maxRecDepth 100000 in
theorem q_fl_X3_45 : Cond.fieldLink RX3 45 "DroverPlan$Trip" "right" "Z" ∈ TB := tb_t 167 (by decide +kernel) (by decide +kernel)
set_option maxRecDepth 100000 in
theorem q_fl_X5_286 : Cond.fieldLink RX5 286 "DroverPlan$Trip" "right" "Z" ∈ TB := tb_t 168 (by decide +kernel) (by decide +kernel)
set_option maxRecDepth 100000 in
theorem q_la_X3_0 : u_lay RX3 TX3 0 ∈ TB := tb_t 169 (by decide +kernel) (by decide +kernel)
set_option maxRecDepth 100000 in
theorem q_la_X3_1 : u_lay RX3 TX3 1 ∈ TB := tb_t 171 (by decide +kernel) (by decide +kernel)
set_option maxRecDepth 100000 in
theorem q_la_X3_2 : u_lay RX3 TX3 2 ∈ TB := tb_t 173 (by decide +kernel) (by decide +kernel)
set_option maxRecDepth 100000 in
theorem q_la_X3_3 : u_lay RX3 TX3 3 ∈ TB := tb_t 175 (by decide +kernel) (by decide +kernel)
set_option maxRecDepth 100000 in
theorem q_la_X3_4 : u_lay RX3 TX3 4 ∈ TB := tb_t 177 (by decide +kernel) (by decide +kernel)
set_option maxRecDepth 100000 in
theorem q_la_X3_5 : u_lay RX3 TX3 5 ∈ TB := tb_t 179 (by decide +kernel) (by decide +kernel)
set_option maxRecDepth 100000 in
theorem q_la_X3_6 : u_lay RX3 TX3 6 ∈ TB := tb_t 181 (by decide +kernel) (by decide +kernel)
set_option maxRecDepth 100000 in
theorem q_la_X3_7 : u_lay RX3 TX3 7 ∈ TB := tb_t 183 (by decide +kernel) (by decide +kernel)
set_option maxRecDepth 100000 in
theorem q_la_X3_8 : u_lay RX3 TX3 8 ∈ TB := tb_t 185 (by decide +kernel) (by decide +kernel)
set_option maxRecDepth 100000 in
theorem q_la_X3_9 : u_lay RX3 TX3 9 ∈ TB := tb_t 187 (by decide +kernel) (by decide +kernel)
set_option maxRecDepth 100000 in
theorem q_cl_X5_30 : Cond.classLink RX5 30 "DroverPlan$Row" ∈ TB := tb_t 190 (by decide +kernel) (by decide +kernel)
set_option maxRecDepth 100000 in
theorem q_ml_X5_32 : Cond.methodLink RX5 32 yX2_init ∈ TB := tb_t 191 (by decide +kernel) (by decide +kernel)
set_option maxRecDepth 100000 in
theorem q_cl_X5_37 : Cond.classLink RX5 37 "DroverPlan$Insertion" ∈ TB := tb_t 192 (by decide +kernel) (by decide +kernel)
set_option maxRecDepth 100000 in
theorem q_in_X1 : Cond.instantiable RX1 6 ∈ TB := tb_t 193 (by decide +kernel) (by decide +kernel)
set_option maxRecDepth 100000 in
theorem q_im_X1_init : Cond.instanceMethod yX1_init ∈ TB := tb_t 195 (by decide +kernel) (by decide +kernel)
set_option maxRecDepth 100000 in
theorem q_co_X1_init : Cond.code yX1_init cX1_init 1 none ∈ TB := tb_t 196 (by decide +kernel) (by decide +kernel)
set_option maxRecDepth 100000 in
theorem q_ml_X1_1 : Cond.methodLink RX1 1 ⟨"java/lang/Object", "<init>", "()V"⟩ ∈ TB := tb_t 197 (by decide +kernel) (by decide +kernel)
set_option maxRecDepth 100000 in
theorem q_fl_X1_7 : Cond.fieldLink RX1 7 "DroverPlan$Insertion" "job" "I" ∈ TB := tb_t 198 (by decide +kernel) (by decide +kernel)
set_option maxRecDepth 100000 in
theorem q_fl_X5_390 : Cond.fieldLink RX5 390 "DroverPlan$Insertion" "job" "I" ∈ TB := tb_t 199 (by decide +kernel) (by decide +kernel)
set_option maxRecDepth 100000 in
theorem q_fl_X1_13 : Cond.fieldLink RX1 13 "DroverPlan$Insertion" "vehicle" "I" ∈ TB := tb_t 200 (by decide +kernel) (by decide +kernel)
set_option maxRecDepth 100000 in
theorem q_fl_X5_393 : Cond.fieldLink RX5 393 "DroverPlan$Insertion" "vehicle" "I" ∈ TB := tb_t 201 (by decide +kernel) (by decide +kernel)
set_option maxRecDepth 100000 in
theorem q_fl_X1_16 : Cond.fieldLink RX1 16 "DroverPlan$Insertion" "i" "I" ∈ TB := tb_t 202 (by decide +kernel) (by decide +kernel)
set_option maxRecDepth 100000 in
theorem q_fl_X5_384 : Cond.fieldLink RX5 384 "DroverPlan$Insertion" "i" "I" ∈ TB := tb_t 203 (by decide +kernel) (by decide +kernel)
set_option maxRecDepth 100000 in
theorem q_fl_X1_19 : Cond.fieldLink RX1 19 "DroverPlan$Insertion" "k" "I" ∈ TB := tb_t 204 (by decide +kernel) (by decide +kernel)
set_option maxRecDepth 100000 in
theorem q_fl_X5_387 : Cond.fieldLink RX5 387 "DroverPlan$Insertion" "k" "I" ∈ TB := tb_t 205 (by decide +kernel) (by decide +kernel)
set_option maxRecDepth 100000 in
theorem q_fl_X1_22 : Cond.fieldLink RX1 22 "DroverPlan$Insertion" "adds" "I" ∈ TB := tb_t 206 (by decide +kernel) (by decide +kernel)
set_option maxRecDepth 100000 in
theorem q_fl_X5_154 : Cond.fieldLink RX5 154 "DroverPlan$Insertion" "adds" "I" ∈ TB := tb_t 207 (by decide +kernel) (by decide +kernel)
set_option maxRecDepth 100000 in
theorem q_fl_X1_25 : Cond.fieldLink RX1 25 "DroverPlan$Insertion" "regret" "I" ∈ TB := tb_t 208 (by decide +kernel) (by decide +kernel)
set_option maxRecDepth 100000 in
theorem q_fl_X5_396 : Cond.fieldLink RX5 396 "DroverPlan$Insertion" "regret" "I" ∈ TB := tb_t 209 (by decide +kernel) (by decide +kernel)
set_option maxRecDepth 100000 in
theorem q_la_X1_0 : u_lay RX1 TX1 0 ∈ TB := tb_t 210 (by decide +kernel) (by decide +kernel)
set_option maxRecDepth 100000 in
theorem q_la_X1_1 : u_lay RX1 TX1 1 ∈ TB := tb_t 212 (by decide +kernel) (by decide +kernel)
set_option maxRecDepth 100000 in
theorem q_la_X1_2 : u_lay RX1 TX1 2 ∈ TB := tb_t 214 (by decide +kernel) (by decide +kernel)
set_option maxRecDepth 100000 in
theorem q_la_X1_3 : u_lay RX1 TX1 3 ∈ TB := tb_t 216 (by decide +kernel) (by decide +kernel)
set_option maxRecDepth 100000 in
theorem q_la_X1_4 : u_lay RX1 TX1 4 ∈ TB := tb_t 218 (by decide +kernel) (by decide +kernel)
set_option maxRecDepth 100000 in
theorem q_la_X1_5 : u_lay RX1 TX1 5 ∈ TB := tb_t 220 (by decide +kernel) (by decide +kernel)
set_option maxRecDepth 100000 in
theorem q_fl_X5_12 : Cond.fieldLink RX5 12 "DroverPlan" "facts" "LDroverPlan$Facts;" ∈ TB := tb_t 223 (by decide +kernel) (by decide +kernel)
set_option maxRecDepth 100000 in
theorem q_fl_X5_18 : Cond.fieldLink RX5 18 "DroverPlan" "fleet" "[LDroverPlan$Vehicle;" ∈ TB := tb_t 224 (by decide +kernel) (by decide +kernel)
set_option maxRecDepth 100000 in
theorem q_fl_X5_26 : Cond.fieldLink RX5 26 "DroverPlan" "trip" "LDroverPlan$Trip;" ∈ TB := tb_t 225 (by decide +kernel) (by decide +kernel)
set_option maxRecDepth 100000 in
theorem q_fl_X5_33 : Cond.fieldLink RX5 33 "DroverPlan" "shortened" "LDroverPlan$Row;" ∈ TB := tb_t 226 (by decide +kernel) (by decide +kernel)
set_option maxRecDepth 100000 in
theorem q_fl_X5_40 : Cond.fieldLink RX5 40 "DroverPlan" "found" "LDroverPlan$Insertion;" ∈ TB := tb_t 227 (by decide +kernel) (by decide +kernel)
set_option maxRecDepth 100000 in
theorem q_fl_X5_44 : Cond.fieldLink RX5 44 "DroverPlan" "best" "LDroverPlan$Insertion;" ∈ TB := tb_t 228 (by decide +kernel) (by decide +kernel)
set_option maxRecDepth 100000 in
theorem q_fl_X5_47 : Cond.fieldLink RX5 47 "DroverPlan" "chosen" "LDroverPlan$Insertion;" ∈ TB := tb_t 229 (by decide +kernel) (by decide +kernel)
set_option maxRecDepth 100000 in
theorem q_fl_X5_86 : Cond.fieldLink RX5 86 "DroverPlan" "fleetSize" "I" ∈ TB := tb_t 230 (by decide +kernel) (by decide +kernel)
set_option maxRecDepth 100000 in
theorem q_fl_X5_226 : Cond.fieldLink RX5 226 "DroverPlan" "bestGain" "I" ∈ TB := tb_t 231 (by decide +kernel) (by decide +kernel)
set_option maxRecDepth 100000 in
theorem q_la_X5_0 : u_lay RX5 TX5 0 ∈ TB := tb_t 232 (by decide +kernel) (by decide +kernel)
set_option maxRecDepth 100000 in
theorem q_la_X5_1 : u_lay RX5 TX5 1 ∈ TB := tb_t 234 (by decide +kernel) (by decide +kernel)
set_option maxRecDepth 100000 in
theorem q_la_X5_2 : u_lay RX5 TX5 2 ∈ TB := tb_t 236 (by decide +kernel) (by decide +kernel)
set_option maxRecDepth 100000 in
theorem q_la_X5_3 : u_lay RX5 TX5 3 ∈ TB := tb_t 238 (by decide +kernel) (by decide +kernel)
set_option maxRecDepth 100000 in
theorem q_la_X5_4 : u_lay RX5 TX5 4 ∈ TB := tb_t 240 (by decide +kernel) (by decide +kernel)
set_option maxRecDepth 100000 in
theorem q_la_X5_5 : u_lay RX5 TX5 5 ∈ TB := tb_t 242 (by decide +kernel) (by decide +kernel)
set_option maxRecDepth 100000 in
theorem q_la_X5_6 : u_lay RX5 TX5 6 ∈ TB := tb_t 244 (by decide +kernel) (by decide +kernel)
set_option maxRecDepth 100000 in
theorem q_la_X5_7 : u_lay RX5 TX5 7 ∈ TB := tb_t 246 (by decide +kernel) (by decide +kernel)
set_option maxRecDepth 100000 in
theorem q_la_X5_8 : u_lay RX5 TX5 8 ∈ TB := tb_t 248 (by decide +kernel) (by decide +kernel)
set_option maxRecDepth 100000 in
theorem q_ml_L_22 : Cond.methodLink RL 22 yX5_digest ∈ TB := tb_t 251 (by decide +kernel) (by decide +kernel)
set_option maxRecDepth 100000 in
theorem q_im_X5_digest : Cond.instanceMethod yX5_digest ∈ TB := tb_t 252 (by decide +kernel) (by decide +kernel)
set_option maxRecDepth 100000 in
theorem q_se_X5_digest : Cond.selects RX5 yX5_digest yX5_digest ∈ TB := tb_t 253 (by decide +kernel) (by decide +kernel)
set_option maxRecDepth 100000 in
theorem q_co_X5_digest : Cond.code yX5_digest cX5_digest 4 (some .long) ∈ TB := tb_t 254 (by decide +kernel) (by decide +kernel)
set_option maxRecDepth 100000 in
theorem q_cg_X5_314 : Cond.constantLong RX5 314 (58033) ∈ TB := tb_t 255 (by decide +kernel) (by decide +kernel)
set_option maxRecDepth 100000 in
theorem q_cg_X5_316 : Cond.constantLong RX5 316 (31) ∈ TB := tb_t 256 (by decide +kernel) (by decide +kernel)
set_option maxRecDepth 100000 in
theorem q_ml_X5_293 : Cond.methodLink RX5 293 yX5_costOfAll ∈ TB := tb_t 257 (by decide +kernel) (by decide +kernel)
set_option maxRecDepth 100000 in
theorem q_im_X5_costOfAll : Cond.instanceMethod yX5_costOfAll ∈ TB := tb_t 259 (by decide +kernel) (by decide +kernel)
set_option maxRecDepth 100000 in
theorem q_co_X5_costOfAll : Cond.code yX5_costOfAll cX5_costOfAll 3 (some .int) ∈ TB := tb_t 260 (by decide +kernel) (by decide +kernel)
set_option maxRecDepth 100000 in
theorem q_ml_X5_175 : Cond.methodLink RX5 175 yX3_ride ∈ TB := tb_t 261 (by decide +kernel) (by decide +kernel)
set_option maxRecDepth 100000 in
theorem q_im_X3_ride : Cond.instanceMethod yX3_ride ∈ TB := tb_t 262 (by decide +kernel) (by decide +kernel)
set_option maxRecDepth 100000 in
theorem q_se_X3_ride : Cond.selects RX3 yX3_ride yX3_ride ∈ TB := tb_t 263 (by decide +kernel) (by decide +kernel)
set_option maxRecDepth 100000 in
theorem q_co_X3_ride : Cond.code yX3_ride cX3_ride 5 (some .int) ∈ TB := tb_t 264 (by decide +kernel) (by decide +kernel)
set_option maxRecDepth 100000 in
theorem q_ml_X3_93 : Cond.methodLink RX3 93 yX3_start ∈ TB := tb_t 265 (by decide +kernel) (by decide +kernel)
set_option maxRecDepth 100000 in
theorem q_im_X3_start : Cond.instanceMethod yX3_start ∈ TB := tb_t 266 (by decide +kernel) (by decide +kernel)
set_option maxRecDepth 100000 in
theorem q_se_X3_start : Cond.selects RX3 yX3_start yX3_start ∈ TB := tb_t 267 (by decide +kernel) (by decide +kernel)
set_option maxRecDepth 100000 in
theorem q_co_X3_start : Cond.code yX3_start cX3_start 2 none ∈ TB := tb_t 268 (by decide +kernel) (by decide +kernel)
set_option maxRecDepth 100000 in
theorem q_ml_X3_102 : Cond.methodLink RX3 102 yX2_at ∈ TB := tb_t 269 (by decide +kernel) (by decide +kernel)
set_option maxRecDepth 100000 in
theorem q_im_X2_at : Cond.instanceMethod yX2_at ∈ TB := tb_t 270 (by decide +kernel) (by decide +kernel)
set_option maxRecDepth 100000 in
theorem q_se_X2_at : Cond.selects RX2 yX2_at yX2_at ∈ TB := tb_t 271 (by decide +kernel) (by decide +kernel)
set_option maxRecDepth 100000 in
theorem q_co_X2_at : Cond.code yX2_at cX2_at 2 (some .int) ∈ TB := tb_t 272 (by decide +kernel) (by decide +kernel)
set_option maxRecDepth 100000 in
theorem q_ml_X3_106 : Cond.methodLink RX3 106 yX3_visit ∈ TB := tb_t 273 (by decide +kernel) (by decide +kernel)
set_option maxRecDepth 100000 in
theorem q_im_X3_visit : Cond.instanceMethod yX3_visit ∈ TB := tb_t 274 (by decide +kernel) (by decide +kernel)
set_option maxRecDepth 100000 in
theorem q_se_X3_visit : Cond.selects RX3 yX3_visit yX3_visit ∈ TB := tb_t 275 (by decide +kernel) (by decide +kernel)
set_option maxRecDepth 100000 in
theorem q_co_X3_visit : Cond.code yX3_visit cX3_visit 5 none ∈ TB := tb_t 276 (by decide +kernel) (by decide +kernel)
set_option maxRecDepth 100000 in
theorem q_ml_X3_49 : Cond.methodLink RX3 49 yX0_isStop ∈ TB := tb_t 277 (by decide +kernel) (by decide +kernel)
set_option maxRecDepth 100000 in
theorem q_im_X0_isStop : Cond.instanceMethod yX0_isStop ∈ TB := tb_t 278 (by decide +kernel) (by decide +kernel)
set_option maxRecDepth 100000 in
theorem q_se_X0_isStop : Cond.selects RX0 yX0_isStop yX0_isStop ∈ TB := tb_t 279 (by decide +kernel) (by decide +kernel)
set_option maxRecDepth 100000 in
theorem q_co_X0_isStop : Cond.code yX0_isStop cX0_isStop 2 (some .boolean) ∈ TB := tb_t 280 (by decide +kernel) (by decide +kernel)
set_option maxRecDepth 100000 in
theorem q_ml_X3_62 : Cond.methodLink RX3 62 yX0_wayBetween ∈ TB := tb_t 281 (by decide +kernel) (by decide +kernel)
set_option maxRecDepth 100000 in
theorem q_im_X0_wayBetween : Cond.instanceMethod yX0_wayBetween ∈ TB := tb_t 282 (by decide +kernel) (by decide +kernel)
set_option maxRecDepth 100000 in
theorem q_se_X0_wayBetween : Cond.selects RX0 yX0_wayBetween yX0_wayBetween ∈ TB := tb_t 283 (by decide +kernel) (by decide +kernel)
set_option maxRecDepth 100000 in
theorem q_co_X0_wayBetween : Cond.code yX0_wayBetween cX0_wayBetween 3 (some .int) ∈ TB := tb_t 284 (by decide +kernel) (by decide +kernel)
set_option maxRecDepth 100000 in
theorem q_ml_X3_66 : Cond.methodLink RX3 66 yX3_goOn ∈ TB := tb_t 285 (by decide +kernel) (by decide +kernel)
set_option maxRecDepth 100000 in
theorem q_im_X3_goOn : Cond.instanceMethod yX3_goOn ∈ TB := tb_t 287 (by decide +kernel) (by decide +kernel)
set_option maxRecDepth 100000 in
theorem q_co_X3_goOn : Cond.code yX3_goOn cX3_goOn 3 none ∈ TB := tb_t 288 (by decide +kernel) (by decide +kernel)
set_option maxRecDepth 100000 in
theorem q_ml_X3_73 : Cond.methodLink RX3 73 ⟨"java/lang/Math", "max", "(II)I"⟩ ∈ TB := tb_t 289 (by decide +kernel) (by decide +kernel)
set_option maxRecDepth 100000 in
theorem q_ml_X3_110 : Cond.methodLink RX3 110 yX3_goHome ∈ TB := tb_t 292 (by decide +kernel) (by decide +kernel)
set_option maxRecDepth 100000 in
theorem q_im_X3_goHome : Cond.instanceMethod yX3_goHome ∈ TB := tb_t 294 (by decide +kernel) (by decide +kernel)
set_option maxRecDepth 100000 in
theorem q_co_X3_goHome : Cond.code yX3_goHome cX3_goHome 3 none ∈ TB := tb_t 295 (by decide +kernel) (by decide +kernel)
set_option maxRecDepth 100000 in
theorem q_ml_X5_194 : Cond.methodLink RX5 194 yX5_carrierOf ∈ TB := tb_t 296 (by decide +kernel) (by decide +kernel)
set_option maxRecDepth 100000 in
theorem q_im_X5_carrierOf : Cond.instanceMethod yX5_carrierOf ∈ TB := tb_t 298 (by decide +kernel) (by decide +kernel)
set_option maxRecDepth 100000 in
theorem q_co_X5_carrierOf : Cond.code yX5_carrierOf cX5_carrierOf 3 (some .int) ∈ TB := tb_t 299 (by decide +kernel) (by decide +kernel)
set_option maxRecDepth 100000 in
theorem q_ml_X5_129 : Cond.methodLink RX5 129 yX5_fetchOf ∈ TB := tb_t 300 (by decide +kernel) (by decide +kernel)
set_option maxRecDepth 100000 in
theorem q_st_X5_fetchOf : Cond.static yX5_fetchOf ∈ TB := tb_t 301 (by decide +kernel) (by decide +kernel)
set_option maxRecDepth 100000 in
theorem q_co_X5_fetchOf : Cond.code yX5_fetchOf cX5_fetchOf 1 (some .int) ∈ TB := tb_t 302 (by decide +kernel) (by decide +kernel)
set_option maxRecDepth 100000 in
theorem q_ml_X5_349 : Cond.methodLink RX5 349 yX2_find ∈ TB := tb_t 303 (by decide +kernel) (by decide +kernel)
set_option maxRecDepth 100000 in
theorem q_im_X2_find : Cond.instanceMethod yX2_find ∈ TB := tb_t 304 (by decide +kernel) (by decide +kernel)
set_option maxRecDepth 100000 in
theorem q_se_X2_find : Cond.selects RX2 yX2_find yX2_find ∈ TB := tb_t 305 (by decide +kernel) (by decide +kernel)
set_option maxRecDepth 100000 in
theorem q_co_X2_find : Cond.code yX2_find cX2_find 3 (some .int) ∈ TB := tb_t 306 (by decide +kernel) (by decide +kernel)
set_option maxRecDepth 100000 in
theorem q_ml_X5_318 : Cond.methodLink RX5 318 yX5_digestOfVehicle ∈ TB := tb_t 307 (by decide +kernel) (by decide +kernel)
set_option maxRecDepth 100000 in
theorem q_im_X5_digestOfVehicle : Cond.instanceMethod yX5_digestOfVehicle ∈ TB := tb_t 309 (by decide +kernel) (by decide +kernel)
set_option maxRecDepth 100000 in
theorem q_co_X5_digestOfVehicle : Cond.code yX5_digestOfVehicle cX5_digestOfVehicle 9 (some .long) ∈ TB := tb_t 310 (by decide +kernel) (by decide +kernel)
set_option maxRecDepth 100000 in
theorem q_ml_X5_322 : Cond.methodLink RX5 322 yX3_start ∈ TB := tb_t 311 (by decide +kernel) (by decide +kernel)
set_option maxRecDepth 100000 in
theorem q_ml_X5_253 : Cond.methodLink RX5 253 yX2_at ∈ TB := tb_t 312 (by decide +kernel) (by decide +kernel)
set_option maxRecDepth 100000 in
theorem q_ml_X5_325 : Cond.methodLink RX5 325 yX3_visit ∈ TB := tb_t 313 (by decide +kernel) (by decide +kernel)
set_option maxRecDepth 100000 in
theorem q_ml_X5_256 : Cond.methodLink RX5 256 yX5_jobOf ∈ TB := tb_t 314 (by decide +kernel) (by decide +kernel)
set_option maxRecDepth 100000 in
theorem q_st_X5_jobOf : Cond.static yX5_jobOf ∈ TB := tb_t 315 (by decide +kernel) (by decide +kernel)
set_option maxRecDepth 100000 in
theorem q_co_X5_jobOf : Cond.code yX5_jobOf cX5_jobOf 1 (some .int) ∈ TB := tb_t 316 (by decide +kernel) (by decide +kernel)
set_option maxRecDepth 100000 in
theorem q_ml_X5_259 : Cond.methodLink RX5 259 yX5_isFetch ∈ TB := tb_t 317 (by decide +kernel) (by decide +kernel)
set_option maxRecDepth 100000 in
theorem q_st_X5_isFetch : Cond.static yX5_isFetch ∈ TB := tb_t 318 (by decide +kernel) (by decide +kernel)
set_option maxRecDepth 100000 in
theorem q_co_X5_isFetch : Cond.code yX5_isFetch cX5_isFetch 1 (some .boolean) ∈ TB := tb_t 319 (by decide +kernel) (by decide +kernel)
set_option maxRecDepth 100000 in
theorem q_ml_X5_275 : Cond.methodLink RX5 275 yX5_slackBehind ∈ TB := tb_t 320 (by decide +kernel) (by decide +kernel)
set_option maxRecDepth 100000 in
theorem q_im_X5_slackBehind : Cond.instanceMethod yX5_slackBehind ∈ TB := tb_t 322 (by decide +kernel) (by decide +kernel)
set_option maxRecDepth 100000 in
theorem q_co_X5_slackBehind : Cond.code yX5_slackBehind cX5_slackBehind 9 (some .int) ∈ TB := tb_t 323 (by decide +kernel) (by decide +kernel)
set_option maxRecDepth 100000 in
theorem q_ml_X5_356 : Cond.methodLink RX5 356 yX0_isStop ∈ TB := tb_t 324 (by decide +kernel) (by decide +kernel)
set_option maxRecDepth 100000 in
theorem q_ml_X5_247 : Cond.methodLink RX5 247 yX0_wayBetween ∈ TB := tb_t 325 (by decide +kernel) (by decide +kernel)
set_option maxRecDepth 100000 in
theorem q_ml_X5_368 : Cond.methodLink RX5 368 ⟨"java/lang/Math", "min", "(II)I"⟩ ∈ TB := tb_t 326 (by decide +kernel) (by decide +kernel)
set_option maxRecDepth 100000 in
theorem q_ml_X5_123 : Cond.methodLink RX5 123 yX5_isBound ∈ TB := tb_t 329 (by decide +kernel) (by decide +kernel)
set_option maxRecDepth 100000 in
theorem q_im_X5_isBound : Cond.instanceMethod yX5_isBound ∈ TB := tb_t 331 (by decide +kernel) (by decide +kernel)
set_option maxRecDepth 100000 in
theorem q_co_X5_isBound : Cond.code yX5_isBound cX5_isBound 4 (some .boolean) ∈ TB := tb_t 332 (by decide +kernel) (by decide +kernel)
set_option maxRecDepth 100000 in
theorem q_ml_X5_217 : Cond.methodLink RX5 217 yX5_startSearch ∈ TB := tb_t 333 (by decide +kernel) (by decide +kernel)
set_option maxRecDepth 100000 in
theorem q_im_X5_startSearch : Cond.instanceMethod yX5_startSearch ∈ TB := tb_t 335 (by decide +kernel) (by decide +kernel)
set_option maxRecDepth 100000 in
theorem q_co_X5_startSearch : Cond.code yX5_startSearch cX5_startSearch 3 none ∈ TB := tb_t 336 (by decide +kernel) (by decide +kernel)
set_option maxRecDepth 100000 in
theorem q_ml_X5_190 : Cond.methodLink RX5 190 yX2_become ∈ TB := tb_t 337 (by decide +kernel) (by decide +kernel)
set_option maxRecDepth 100000 in
theorem q_im_X2_become : Cond.instanceMethod yX2_become ∈ TB := tb_t 338 (by decide +kernel) (by decide +kernel)
set_option maxRecDepth 100000 in
theorem q_se_X2_become : Cond.selects RX2 yX2_become yX2_become ∈ TB := tb_t 339 (by decide +kernel) (by decide +kernel)
set_option maxRecDepth 100000 in
theorem q_co_X2_become : Cond.code yX2_become cX2_become 3 none ∈ TB := tb_t 340 (by decide +kernel) (by decide +kernel)
set_option maxRecDepth 100000 in
theorem q_ml_X2_36 : Cond.methodLink RX2 36 yX2_add ∈ TB := tb_t 341 (by decide +kernel) (by decide +kernel)
set_option maxRecDepth 100000 in
theorem q_im_X2_add : Cond.instanceMethod yX2_add ∈ TB := tb_t 343 (by decide +kernel) (by decide +kernel)
set_option maxRecDepth 100000 in
theorem q_co_X2_add : Cond.code yX2_add cX2_add 2 none ∈ TB := tb_t 344 (by decide +kernel) (by decide +kernel)
set_option maxRecDepth 100000 in
theorem q_ml_X5_220 : Cond.methodLink RX5 220 yX5_searchKind ∈ TB := tb_t 345 (by decide +kernel) (by decide +kernel)
set_option maxRecDepth 100000 in
theorem q_im_X5_searchKind : Cond.instanceMethod yX5_searchKind ∈ TB := tb_t 347 (by decide +kernel) (by decide +kernel)
set_option maxRecDepth 100000 in
theorem q_co_X5_searchKind : Cond.code yX5_searchKind cX5_searchKind 2 none ∈ TB := tb_t 348 (by decide +kernel) (by decide +kernel)
set_option maxRecDepth 100000 in
theorem q_ml_X5_414 : Cond.methodLink RX5 414 yX5_searchMoves ∈ TB := tb_t 349 (by decide +kernel) (by decide +kernel)
set_option maxRecDepth 100000 in
theorem q_im_X5_searchMoves : Cond.instanceMethod yX5_searchMoves ∈ TB := tb_t 351 (by decide +kernel) (by decide +kernel)
set_option maxRecDepth 100000 in
theorem q_co_X5_searchMoves : Cond.code yX5_searchMoves cX5_searchMoves 9 none ∈ TB := tb_t 352 (by decide +kernel) (by decide +kernel)
set_option maxRecDepth 100000 in
theorem q_ml_X5_352 : Cond.methodLink RX5 352 yX2_becomeWithout ∈ TB := tb_t 353 (by decide +kernel) (by decide +kernel)
set_option maxRecDepth 100000 in
theorem q_im_X2_becomeWithout : Cond.instanceMethod yX2_becomeWithout ∈ TB := tb_t 354 (by decide +kernel) (by decide +kernel)
set_option maxRecDepth 100000 in
theorem q_se_X2_becomeWithout : Cond.selects RX2 yX2_becomeWithout yX2_becomeWithout ∈ TB := tb_t 355 (by decide +kernel) (by decide +kernel)
set_option maxRecDepth 100000 in
theorem q_co_X2_becomeWithout : Cond.code yX2_becomeWithout cX2_becomeWithout 4 none ∈ TB := tb_t 356 (by decide +kernel) (by decide +kernel)
set_option maxRecDepth 100000 in
theorem q_ml_X2_19 : Cond.methodLink RX2 19 yX2_at ∈ TB := tb_t 357 (by decide +kernel) (by decide +kernel)
set_option maxRecDepth 100000 in
theorem q_ml_X5_182 : Cond.methodLink RX5 182 yX3_isAllowed ∈ TB := tb_t 359 (by decide +kernel) (by decide +kernel)
set_option maxRecDepth 100000 in
theorem q_im_X3_isAllowed : Cond.instanceMethod yX3_isAllowed ∈ TB := tb_t 360 (by decide +kernel) (by decide +kernel)
set_option maxRecDepth 100000 in
theorem q_se_X3_isAllowed : Cond.selects RX3 yX3_isAllowed yX3_isAllowed ∈ TB := tb_t 361 (by decide +kernel) (by decide +kernel)
set_option maxRecDepth 100000 in
theorem q_co_X3_isAllowed : Cond.code yX3_isAllowed cX3_isAllowed 2 (some .boolean) ∈ TB := tb_t 362 (by decide +kernel) (by decide +kernel)
set_option maxRecDepth 100000 in
theorem q_ml_X5_300 : Cond.methodLink RX5 300 yX5_searchInsertion ∈ TB := tb_t 363 (by decide +kernel) (by decide +kernel)
set_option maxRecDepth 100000 in
theorem q_im_X5_searchInsertion : Cond.instanceMethod yX5_searchInsertion ∈ TB := tb_t 365 (by decide +kernel) (by decide +kernel)
set_option maxRecDepth 100000 in
theorem q_co_X5_searchInsertion : Cond.code yX5_searchInsertion cX5_searchInsertion 9 none ∈ TB := tb_t 366 (by decide +kernel) (by decide +kernel)
set_option maxRecDepth 100000 in
theorem q_ml_X5_186 : Cond.methodLink RX5 186 yX5_addsAt ∈ TB := tb_t 367 (by decide +kernel) (by decide +kernel)
set_option maxRecDepth 100000 in
theorem q_im_X5_addsAt : Cond.instanceMethod yX5_addsAt ∈ TB := tb_t 369 (by decide +kernel) (by decide +kernel)
set_option maxRecDepth 100000 in
theorem q_co_X5_addsAt : Cond.code yX5_addsAt cX5_addsAt 13 (some .int) ∈ TB := tb_t 370 (by decide +kernel) (by decide +kernel)
set_option maxRecDepth 100000 in
theorem q_ml_X5_133 : Cond.methodLink RX5 133 yX5_bringOf ∈ TB := tb_t 371 (by decide +kernel) (by decide +kernel)
set_option maxRecDepth 100000 in
theorem q_st_X5_bringOf : Cond.static yX5_bringOf ∈ TB := tb_t 372 (by decide +kernel) (by decide +kernel)
set_option maxRecDepth 100000 in
theorem q_co_X5_bringOf : Cond.code yX5_bringOf cX5_bringOf 1 (some .int) ∈ TB := tb_t 373 (by decide +kernel) (by decide +kernel)
set_option maxRecDepth 100000 in
theorem q_ml_X5_376 : Cond.methodLink RX5 376 yX5_placeAt ∈ TB := tb_t 374 (by decide +kernel) (by decide +kernel)
set_option maxRecDepth 100000 in
theorem q_im_X5_placeAt : Cond.instanceMethod yX5_placeAt ∈ TB := tb_t 376 (by decide +kernel) (by decide +kernel)
set_option maxRecDepth 100000 in
theorem q_co_X5_placeAt : Cond.code yX5_placeAt cX5_placeAt 5 (some .int) ∈ TB := tb_t 377 (by decide +kernel) (by decide +kernel)
set_option maxRecDepth 100000 in
theorem q_ml_X5_380 : Cond.methodLink RX5 380 yX5_detour ∈ TB := tb_t 378 (by decide +kernel) (by decide +kernel)
set_option maxRecDepth 100000 in
theorem q_im_X5_detour : Cond.instanceMethod yX5_detour ∈ TB := tb_t 380 (by decide +kernel) (by decide +kernel)
set_option maxRecDepth 100000 in
theorem q_co_X5_detour : Cond.code yX5_detour cX5_detour 4 (some .int) ∈ TB := tb_t 381 (by decide +kernel) (by decide +kernel)
set_option maxRecDepth 100000 in
theorem q_ml_X5_171 : Cond.methodLink RX5 171 yX2_becomeWith ∈ TB := tb_t 382 (by decide +kernel) (by decide +kernel)
set_option maxRecDepth 100000 in
theorem q_im_X2_becomeWith : Cond.instanceMethod yX2_becomeWith ∈ TB := tb_t 383 (by decide +kernel) (by decide +kernel)
set_option maxRecDepth 100000 in
theorem q_se_X2_becomeWith : Cond.selects RX2 yX2_becomeWith yX2_becomeWith ∈ TB := tb_t 384 (by decide +kernel) (by decide +kernel)
set_option maxRecDepth 100000 in
theorem q_co_X2_becomeWith : Cond.code yX2_becomeWith cX2_becomeWith 5 none ∈ TB := tb_t 385 (by decide +kernel) (by decide +kernel)
set_option maxRecDepth 100000 in
theorem q_ml_X2_40 : Cond.methodLink RX2 40 yX2_addPart ∈ TB := tb_t 386 (by decide +kernel) (by decide +kernel)
set_option maxRecDepth 100000 in
theorem q_im_X2_addPart : Cond.instanceMethod yX2_addPart ∈ TB := tb_t 388 (by decide +kernel) (by decide +kernel)
set_option maxRecDepth 100000 in
theorem q_co_X2_addPart : Cond.code yX2_addPart cX2_addPart 5 none ∈ TB := tb_t 389 (by decide +kernel) (by decide +kernel)
set_option maxRecDepth 100000 in
theorem q_ml_X5_231 : Cond.methodLink RX5 231 yX3_isRideRight ∈ TB := tb_t 392 (by decide +kernel) (by decide +kernel)
set_option maxRecDepth 100000 in
theorem q_im_X3_isRideRight : Cond.instanceMethod yX3_isRideRight ∈ TB := tb_t 393 (by decide +kernel) (by decide +kernel)
set_option maxRecDepth 100000 in
theorem q_se_X3_isRideRight : Cond.selects RX3 yX3_isRideRight yX3_isRideRight ∈ TB := tb_t 394 (by decide +kernel) (by decide +kernel)
set_option maxRecDepth 100000 in
theorem q_co_X3_isRideRight : Cond.code yX3_isRideRight cX3_isRideRight 5 (some .boolean) ∈ TB := tb_t 395 (by decide +kernel) (by decide +kernel)
set_option maxRecDepth 100000 in
theorem q_ml_X5_426 : Cond.methodLink RX5 426 yX5_keep ∈ TB := tb_t 396 (by decide +kernel) (by decide +kernel)
set_option maxRecDepth 100000 in
theorem q_im_X5_keep : Cond.instanceMethod yX5_keep ∈ TB := tb_t 398 (by decide +kernel) (by decide +kernel)
set_option maxRecDepth 100000 in
theorem q_co_X5_keep : Cond.code yX5_keep cX5_keep 6 none ∈ TB := tb_t 399 (by decide +kernel) (by decide +kernel)
set_option maxRecDepth 100000 in
theorem q_ml_X5_417 : Cond.methodLink RX5 417 yX5_searchSwaps ∈ TB := tb_t 400 (by decide +kernel) (by decide +kernel)
set_option maxRecDepth 100000 in
theorem q_im_X5_searchSwaps : Cond.instanceMethod yX5_searchSwaps ∈ TB := tb_t 402 (by decide +kernel) (by decide +kernel)
set_option maxRecDepth 100000 in
theorem q_co_X5_searchSwaps : Cond.code yX5_searchSwaps cX5_searchSwaps 5 none ∈ TB := tb_t 403 (by decide +kernel) (by decide +kernel)
set_option maxRecDepth 100000 in
theorem q_ml_X5_430 : Cond.methodLink RX5 430 yX2_becomeSwapped ∈ TB := tb_t 404 (by decide +kernel) (by decide +kernel)
set_option maxRecDepth 100000 in
theorem q_im_X2_becomeSwapped : Cond.instanceMethod yX2_becomeSwapped ∈ TB := tb_t 405 (by decide +kernel) (by decide +kernel)
set_option maxRecDepth 100000 in
theorem q_se_X2_becomeSwapped : Cond.selects RX2 yX2_becomeSwapped yX2_becomeSwapped ∈ TB := tb_t 406 (by decide +kernel) (by decide +kernel)
set_option maxRecDepth 100000 in
theorem q_co_X2_becomeSwapped : Cond.code yX2_becomeSwapped cX2_becomeSwapped 8 none ∈ TB := tb_t 407 (by decide +kernel) (by decide +kernel)
set_option maxRecDepth 100000 in
theorem q_ml_X5_434 : Cond.methodLink RX5 434 yX5_offer ∈ TB := tb_t 409 (by decide +kernel) (by decide +kernel)
set_option maxRecDepth 100000 in
theorem q_im_X5_offer : Cond.instanceMethod yX5_offer ∈ TB := tb_t 411 (by decide +kernel) (by decide +kernel)
set_option maxRecDepth 100000 in
theorem q_co_X5_offer : Cond.code yX5_offer cX5_offer 4 none ∈ TB := tb_t 412 (by decide +kernel) (by decide +kernel)
set_option maxRecDepth 100000 in
theorem q_ml_X5_420 : Cond.methodLink RX5 420 yX5_searchTurns ∈ TB := tb_t 413 (by decide +kernel) (by decide +kernel)
set_option maxRecDepth 100000 in
theorem q_im_X5_searchTurns : Cond.instanceMethod yX5_searchTurns ∈ TB := tb_t 415 (by decide +kernel) (by decide +kernel)
set_option maxRecDepth 100000 in
theorem q_co_X5_searchTurns : Cond.code yX5_searchTurns cX5_searchTurns 5 none ∈ TB := tb_t 416 (by decide +kernel) (by decide +kernel)
set_option maxRecDepth 100000 in
theorem q_ml_X5_438 : Cond.methodLink RX5 438 yX2_holdsPair ∈ TB := tb_t 417 (by decide +kernel) (by decide +kernel)
set_option maxRecDepth 100000 in
theorem q_im_X2_holdsPair : Cond.instanceMethod yX2_holdsPair ∈ TB := tb_t 418 (by decide +kernel) (by decide +kernel)
set_option maxRecDepth 100000 in
theorem q_se_X2_holdsPair : Cond.selects RX2 yX2_holdsPair yX2_holdsPair ∈ TB := tb_t 419 (by decide +kernel) (by decide +kernel)
set_option maxRecDepth 100000 in
theorem q_co_X2_holdsPair : Cond.code yX2_holdsPair cX2_holdsPair 6 (some .boolean) ∈ TB := tb_t 420 (by decide +kernel) (by decide +kernel)
set_option maxRecDepth 100000 in
theorem q_ml_X2_29 : Cond.methodLink RX2 29 yX2_find ∈ TB := tb_t 421 (by decide +kernel) (by decide +kernel)
set_option maxRecDepth 100000 in
theorem q_ml_X5_442 : Cond.methodLink RX5 442 yX2_becomeTurned ∈ TB := tb_t 422 (by decide +kernel) (by decide +kernel)
set_option maxRecDepth 100000 in
theorem q_im_X2_becomeTurned : Cond.instanceMethod yX2_becomeTurned ∈ TB := tb_t 423 (by decide +kernel) (by decide +kernel)
set_option maxRecDepth 100000 in
theorem q_se_X2_becomeTurned : Cond.selects RX2 yX2_becomeTurned yX2_becomeTurned ∈ TB := tb_t 424 (by decide +kernel) (by decide +kernel)
set_option maxRecDepth 100000 in
theorem q_co_X2_becomeTurned : Cond.code yX2_becomeTurned cX2_becomeTurned 5 none ∈ TB := tb_t 425 (by decide +kernel) (by decide +kernel)
set_option maxRecDepth 100000 in
theorem q_ml_X5_423 : Cond.methodLink RX5 423 yX5_searchEnds ∈ TB := tb_t 426 (by decide +kernel) (by decide +kernel)
set_option maxRecDepth 100000 in
theorem q_im_X5_searchEnds : Cond.instanceMethod yX5_searchEnds ∈ TB := tb_t 428 (by decide +kernel) (by decide +kernel)
set_option maxRecDepth 100000 in
theorem q_co_X5_searchEnds : Cond.code yX5_searchEnds cX5_searchEnds 7 none ∈ TB := tb_t 429 (by decide +kernel) (by decide +kernel)
set_option maxRecDepth 100000 in
theorem q_ml_X5_445 : Cond.methodLink RX5 445 yX2_splitsJob ∈ TB := tb_t 430 (by decide +kernel) (by decide +kernel)
set_option maxRecDepth 100000 in
theorem q_im_X2_splitsJob : Cond.instanceMethod yX2_splitsJob ∈ TB := tb_t 431 (by decide +kernel) (by decide +kernel)
set_option maxRecDepth 100000 in
theorem q_se_X2_splitsJob : Cond.selects RX2 yX2_splitsJob yX2_splitsJob ∈ TB := tb_t 432 (by decide +kernel) (by decide +kernel)
set_option maxRecDepth 100000 in
theorem q_co_X2_splitsJob : Cond.code yX2_splitsJob cX2_splitsJob 3 (some .boolean) ∈ TB := tb_t 433 (by decide +kernel) (by decide +kernel)
set_option maxRecDepth 100000 in
theorem q_ml_X5_448 : Cond.methodLink RX5 448 yX2_becomeJoined ∈ TB := tb_t 434 (by decide +kernel) (by decide +kernel)
set_option maxRecDepth 100000 in
theorem q_im_X2_becomeJoined : Cond.instanceMethod yX2_becomeJoined ∈ TB := tb_t 435 (by decide +kernel) (by decide +kernel)
set_option maxRecDepth 100000 in
theorem q_se_X2_becomeJoined : Cond.selects RX2 yX2_becomeJoined yX2_becomeJoined ∈ TB := tb_t 436 (by decide +kernel) (by decide +kernel)
set_option maxRecDepth 100000 in
theorem q_co_X2_becomeJoined : Cond.code yX2_becomeJoined cX2_becomeJoined 5 none ∈ TB := tb_t 437 (by decide +kernel) (by decide +kernel)
set_option maxRecDepth 100000 in
theorem q_ml_L_12 : Cond.methodLink RL 12 yL_cell ∈ TB := tb_t 438 (by decide +kernel) (by decide +kernel)
set_option maxRecDepth 100000 in
theorem q_st_L_cell : Cond.static yL_cell ∈ TB := tb_t 439 (by decide +kernel) (by decide +kernel)
set_option maxRecDepth 100000 in
theorem q_co_L_cell : Cond.code yL_cell cL_cell 2 (some .int) ∈ TB := tb_t 440 (by decide +kernel) (by decide +kernel)
set_option maxRecDepth 100000 in
theorem q_cn_L_8 : Cond.constant RL 8 (790386105) ∈ TB := tb_t 441 (by decide +kernel) (by decide +kernel)
set_option maxRecDepth 100000 in
theorem q_ml_L_18 : Cond.methodLink RL 18 yL_act ∈ TB := tb_t 442 (by decide +kernel) (by decide +kernel)
set_option maxRecDepth 100000 in
theorem q_st_L_act : Cond.static yL_act ∈ TB := tb_t 443 (by decide +kernel) (by decide +kernel)
set_option maxRecDepth 100000 in
theorem q_cl_L_103 : Cond.classLink RL 103 "java/lang/IndexOutOfBoundsException" ∈ TB := tb_t 445 (by decide +kernel) (by decide +kernel)
set_option maxRecDepth 100000 in
theorem q_cl_L_105 : Cond.classLink RL 105 "java/lang/IllegalArgumentException" ∈ TB := tb_t 446 (by decide +kernel) (by decide +kernel)
set_option maxRecDepth 100000 in
theorem q_cl_L_107 : Cond.classLink RL 107 "java/lang/IllegalStateException" ∈ TB := tb_t 447 (by decide +kernel) (by decide +kernel)
set_option maxRecDepth 100000 in
theorem q_ml_L_30 : Cond.methodLink RL 30 yX5_jobs ∈ TB := tb_t 448 (by decide +kernel) (by decide +kernel)
set_option maxRecDepth 100000 in
theorem q_im_X5_jobs : Cond.instanceMethod yX5_jobs ∈ TB := tb_t 449 (by decide +kernel) (by decide +kernel)
set_option maxRecDepth 100000 in
theorem q_se_X5_jobs : Cond.selects RX5 yX5_jobs yX5_jobs ∈ TB := tb_t 450 (by decide +kernel) (by decide +kernel)
set_option maxRecDepth 100000 in
theorem q_co_X5_jobs : Cond.code yX5_jobs cX5_jobs 1 (some .int) ∈ TB := tb_t 451 (by decide +kernel) (by decide +kernel)
set_option maxRecDepth 100000 in
theorem q_ml_L_34 : Cond.methodLink RL 34 ⟨"java/lang/Math", "max", "(II)I"⟩ ∈ TB := tb_t 452 (by decide +kernel) (by decide +kernel)
set_option maxRecDepth 100000 in
theorem q_ml_L_40 : Cond.methodLink RL 40 yL_below ∈ TB := tb_t 453 (by decide +kernel) (by decide +kernel)
set_option maxRecDepth 100000 in
theorem q_st_L_below : Cond.static yL_below ∈ TB := tb_t 454 (by decide +kernel) (by decide +kernel)
set_option maxRecDepth 100000 in
theorem q_co_L_below : Cond.code yL_below cL_below 2 (some .int) ∈ TB := tb_t 455 (by decide +kernel) (by decide +kernel)
set_option maxRecDepth 100000 in
theorem q_cn_L_7 : Cond.constant RL 7 (2147483647) ∈ TB := tb_t 456 (by decide +kernel) (by decide +kernel)
set_option maxRecDepth 100000 in
theorem q_ml_L_43 : Cond.methodLink RL 43 yX5_vehicles ∈ TB := tb_t 457 (by decide +kernel) (by decide +kernel)
set_option maxRecDepth 100000 in
theorem q_im_X5_vehicles : Cond.instanceMethod yX5_vehicles ∈ TB := tb_t 458 (by decide +kernel) (by decide +kernel)
set_option maxRecDepth 100000 in
theorem q_se_X5_vehicles : Cond.selects RX5 yX5_vehicles yX5_vehicles ∈ TB := tb_t 459 (by decide +kernel) (by decide +kernel)
set_option maxRecDepth 100000 in
theorem q_co_X5_vehicles : Cond.code yX5_vehicles cX5_vehicles 1 (some .int) ∈ TB := tb_t 460 (by decide +kernel) (by decide +kernel)
set_option maxRecDepth 100000 in
theorem q_ml_L_46 : Cond.methodLink RL 46 yX5_cost ∈ TB := tb_t 461 (by decide +kernel) (by decide +kernel)
set_option maxRecDepth 100000 in
theorem q_im_X5_cost : Cond.instanceMethod yX5_cost ∈ TB := tb_t 462 (by decide +kernel) (by decide +kernel)
set_option maxRecDepth 100000 in
theorem q_se_X5_cost : Cond.selects RX5 yX5_cost yX5_cost ∈ TB := tb_t 463 (by decide +kernel) (by decide +kernel)
set_option maxRecDepth 100000 in
theorem q_co_X5_cost : Cond.code yX5_cost cX5_cost 1 (some .int) ∈ TB := tb_t 464 (by decide +kernel) (by decide +kernel)
set_option maxRecDepth 100000 in
theorem q_ml_L_49 : Cond.methodLink RL 49 yX5_addPlace ∈ TB := tb_t 465 (by decide +kernel) (by decide +kernel)
set_option maxRecDepth 100000 in
theorem q_im_X5_addPlace : Cond.instanceMethod yX5_addPlace ∈ TB := tb_t 466 (by decide +kernel) (by decide +kernel)
set_option maxRecDepth 100000 in
theorem q_se_X5_addPlace : Cond.selects RX5 yX5_addPlace yX5_addPlace ∈ TB := tb_t 467 (by decide +kernel) (by decide +kernel)
set_option maxRecDepth 100000 in
theorem q_co_X5_addPlace : Cond.code yX5_addPlace cX5_addPlace 3 (some .int) ∈ TB := tb_t 468 (by decide +kernel) (by decide +kernel)
set_option maxRecDepth 100000 in
theorem q_ml_X5_50 : Cond.methodLink RX5 50 yX5_isOutside ∈ TB := tb_t 469 (by decide +kernel) (by decide +kernel)
set_option maxRecDepth 100000 in
theorem q_st_X5_isOutside : Cond.static yX5_isOutside ∈ TB := tb_t 470 (by decide +kernel) (by decide +kernel)
set_option maxRecDepth 100000 in
theorem q_co_X5_isOutside : Cond.code yX5_isOutside cX5_isOutside 3 (some .boolean) ∈ TB := tb_t 471 (by decide +kernel) (by decide +kernel)
set_option maxRecDepth 100000 in
theorem q_cl_X5_54 : Cond.classLink RX5 54 "java/lang/IllegalArgumentException" ∈ TB := tb_t 472 (by decide +kernel) (by decide +kernel)
set_option maxRecDepth 100000 in
theorem q_ml_X5_58 : Cond.methodLink RX5 58 ⟨"java/lang/IllegalArgumentException", "<init>", "(Ljava/lang/String;)V"⟩ ∈ TB := tb_t 514 (by decide +kernel) (by decide +kernel)
set_option maxRecDepth 100000 in
theorem q_ac_byte : Cond.arrayClass .byte ∈ TB := tb_t 539 (by decide +kernel) (by decide +kernel)
set_option maxRecDepth 100000 in
theorem q_cl_X5_65 : Cond.classLink RX5 65 "java/lang/IllegalStateException" ∈ TB := tb_t 540 (by decide +kernel) (by decide +kernel)
set_option maxRecDepth 100000 in
theorem q_ml_X5_69 : Cond.methodLink RX5 69 ⟨"java/lang/IllegalStateException", "<init>", "(Ljava/lang/String;)V"⟩ ∈ TB := tb_t 550 (by decide +kernel) (by decide +kernel)
set_option maxRecDepth 100000 in
theorem q_ml_X5_70 : Cond.methodLink RX5 70 yX0_tellPlace ∈ TB := tb_t 556 (by decide +kernel) (by decide +kernel)
set_option maxRecDepth 100000 in
theorem q_im_X0_tellPlace : Cond.instanceMethod yX0_tellPlace ∈ TB := tb_t 557 (by decide +kernel) (by decide +kernel)
set_option maxRecDepth 100000 in
theorem q_se_X0_tellPlace : Cond.selects RX0 yX0_tellPlace yX0_tellPlace ∈ TB := tb_t 558 (by decide +kernel) (by decide +kernel)
set_option maxRecDepth 100000 in
theorem q_co_X0_tellPlace : Cond.code yX0_tellPlace cX0_tellPlace 6 (some .int) ∈ TB := tb_t 559 (by decide +kernel) (by decide +kernel)
set_option maxRecDepth 100000 in
theorem q_ml_X0_46 : Cond.methodLink RX0 46 ⟨"java/lang/Math", "abs", "(I)I"⟩ ∈ TB := tb_t 560 (by decide +kernel) (by decide +kernel)
set_option maxRecDepth 100000 in
theorem q_ml_L_52 : Cond.methodLink RL 52 yX5_addVehicle ∈ TB := tb_t 563 (by decide +kernel) (by decide +kernel)
set_option maxRecDepth 100000 in
theorem q_im_X5_addVehicle : Cond.instanceMethod yX5_addVehicle ∈ TB := tb_t 564 (by decide +kernel) (by decide +kernel)
set_option maxRecDepth 100000 in
theorem q_se_X5_addVehicle : Cond.selects RX5 yX5_addVehicle yX5_addVehicle ∈ TB := tb_t 565 (by decide +kernel) (by decide +kernel)
set_option maxRecDepth 100000 in
theorem q_co_X5_addVehicle : Cond.code yX5_addVehicle cX5_addVehicle 8 (some .int) ∈ TB := tb_t 566 (by decide +kernel) (by decide +kernel)
set_option maxRecDepth 100000 in
theorem q_ml_X5_74 : Cond.methodLink RX5 74 yX5_checkPlace ∈ TB := tb_t 567 (by decide +kernel) (by decide +kernel)
set_option maxRecDepth 100000 in
theorem q_im_X5_checkPlace : Cond.instanceMethod yX5_checkPlace ∈ TB := tb_t 569 (by decide +kernel) (by decide +kernel)
set_option maxRecDepth 100000 in
theorem q_co_X5_checkPlace : Cond.code yX5_checkPlace cX5_checkPlace 2 none ∈ TB := tb_t 570 (by decide +kernel) (by decide +kernel)
set_option maxRecDepth 100000 in
theorem q_ml_X5_333 : Cond.methodLink RX5 333 yX0_isPlace ∈ TB := tb_t 571 (by decide +kernel) (by decide +kernel)
set_option maxRecDepth 100000 in
theorem q_im_X0_isPlace : Cond.instanceMethod yX0_isPlace ∈ TB := tb_t 572 (by decide +kernel) (by decide +kernel)
set_option maxRecDepth 100000 in
theorem q_se_X0_isPlace : Cond.selects RX0 yX0_isPlace yX0_isPlace ∈ TB := tb_t 573 (by decide +kernel) (by decide +kernel)
set_option maxRecDepth 100000 in
theorem q_co_X0_isPlace : Cond.code yX0_isPlace cX0_isPlace 2 (some .boolean) ∈ TB := tb_t 574 (by decide +kernel) (by decide +kernel)
set_option maxRecDepth 100000 in
theorem q_cl_X5_336 : Cond.classLink RX5 336 "java/lang/IndexOutOfBoundsException" ∈ TB := tb_t 575 (by decide +kernel) (by decide +kernel)
set_option maxRecDepth 100000 in
theorem q_ml_X5_340 : Cond.methodLink RX5 340 ⟨"java/lang/IndexOutOfBoundsException", "<init>", "(Ljava/lang/String;)V"⟩ ∈ TB := tb_t 585 (by decide +kernel) (by decide +kernel)
set_option maxRecDepth 100000 in
theorem q_ml_X5_80 : Cond.methodLink RX5 80 yX5_checkHours ∈ TB := tb_t 592 (by decide +kernel) (by decide +kernel)
set_option maxRecDepth 100000 in
theorem q_st_X5_checkHours : Cond.static yX5_checkHours ∈ TB := tb_t 593 (by decide +kernel) (by decide +kernel)
set_option maxRecDepth 100000 in
theorem q_co_X5_checkHours : Cond.code yX5_checkHours cX5_checkHours 2 none ∈ TB := tb_t 594 (by decide +kernel) (by decide +kernel)
set_option maxRecDepth 100000 in
theorem q_ml_L_56 : Cond.methodLink RL 56 yX5_addJob ∈ TB := tb_t 598 (by decide +kernel) (by decide +kernel)
set_option maxRecDepth 100000 in
theorem q_im_X5_addJob : Cond.instanceMethod yX5_addJob ∈ TB := tb_t 599 (by decide +kernel) (by decide +kernel)
set_option maxRecDepth 100000 in
theorem q_se_X5_addJob : Cond.selects RX5 yX5_addJob yX5_addJob ∈ TB := tb_t 600 (by decide +kernel) (by decide +kernel)
set_option maxRecDepth 100000 in
theorem q_co_X5_addJob : Cond.code yX5_addJob cX5_addJob 6 (some .int) ∈ TB := tb_t 601 (by decide +kernel) (by decide +kernel)
set_option maxRecDepth 100000 in
theorem q_ml_X5_116 : Cond.methodLink RX5 116 yX0_tellJob ∈ TB := tb_t 604 (by decide +kernel) (by decide +kernel)
set_option maxRecDepth 100000 in
theorem q_im_X0_tellJob : Cond.instanceMethod yX0_tellJob ∈ TB := tb_t 605 (by decide +kernel) (by decide +kernel)
set_option maxRecDepth 100000 in
theorem q_se_X0_tellJob : Cond.selects RX0 yX0_tellJob yX0_tellJob ∈ TB := tb_t 606 (by decide +kernel) (by decide +kernel)
set_option maxRecDepth 100000 in
theorem q_co_X0_tellJob : Cond.code yX0_tellJob cX0_tellJob 7 (some .int) ∈ TB := tb_t 607 (by decide +kernel) (by decide +kernel)
set_option maxRecDepth 100000 in
theorem q_ml_X0_55 : Cond.methodLink RX0 55 yX0_tellStop ∈ TB := tb_t 609 (by decide +kernel) (by decide +kernel)
set_option maxRecDepth 100000 in
theorem q_im_X0_tellStop : Cond.instanceMethod yX0_tellStop ∈ TB := tb_t 611 (by decide +kernel) (by decide +kernel)
set_option maxRecDepth 100000 in
theorem q_co_X0_tellStop : Cond.code yX0_tellStop cX0_tellStop 5 none ∈ TB := tb_t 612 (by decide +kernel) (by decide +kernel)
set_option maxRecDepth 100000 in
theorem q_ml_X0_62 : Cond.methodLink RX0 62 yX0_isStop ∈ TB := tb_t 613 (by decide +kernel) (by decide +kernel)
set_option maxRecDepth 100000 in
theorem q_ml_X0_66 : Cond.methodLink RX0 66 yX0_tellHours ∈ TB := tb_t 614 (by decide +kernel) (by decide +kernel)
set_option maxRecDepth 100000 in
theorem q_im_X0_tellHours : Cond.instanceMethod yX0_tellHours ∈ TB := tb_t 615 (by decide +kernel) (by decide +kernel)
set_option maxRecDepth 100000 in
theorem q_se_X0_tellHours : Cond.selects RX0 yX0_tellHours yX0_tellHours ∈ TB := tb_t 616 (by decide +kernel) (by decide +kernel)
set_option maxRecDepth 100000 in
theorem q_co_X0_tellHours : Cond.code yX0_tellHours cX0_tellHours 4 none ∈ TB := tb_t 617 (by decide +kernel) (by decide +kernel)
set_option maxRecDepth 100000 in
theorem q_ml_L_60 : Cond.methodLink RL 60 yX5_setHours ∈ TB := tb_t 619 (by decide +kernel) (by decide +kernel)
set_option maxRecDepth 100000 in
theorem q_im_X5_setHours : Cond.instanceMethod yX5_setHours ∈ TB := tb_t 620 (by decide +kernel) (by decide +kernel)
set_option maxRecDepth 100000 in
theorem q_se_X5_setHours : Cond.selects RX5 yX5_setHours yX5_setHours ∈ TB := tb_t 621 (by decide +kernel) (by decide +kernel)
set_option maxRecDepth 100000 in
theorem q_co_X5_setHours : Cond.code yX5_setHours cX5_setHours 5 (some .boolean) ∈ TB := tb_t 622 (by decide +kernel) (by decide +kernel)
set_option maxRecDepth 100000 in
theorem q_ml_X5_120 : Cond.methodLink RX5 120 yX5_checkJob ∈ TB := tb_t 623 (by decide +kernel) (by decide +kernel)
set_option maxRecDepth 100000 in
theorem q_im_X5_checkJob : Cond.instanceMethod yX5_checkJob ∈ TB := tb_t 625 (by decide +kernel) (by decide +kernel)
set_option maxRecDepth 100000 in
theorem q_co_X5_checkJob : Cond.code yX5_checkJob cX5_checkJob 2 none ∈ TB := tb_t 626 (by decide +kernel) (by decide +kernel)
set_option maxRecDepth 100000 in
theorem q_ml_X5_136 : Cond.methodLink RX5 136 yX0_tellHours ∈ TB := tb_t 629 (by decide +kernel) (by decide +kernel)
set_option maxRecDepth 100000 in
theorem q_ml_X5_140 : Cond.methodLink RX5 140 yX5_areAllRight ∈ TB := tb_t 630 (by decide +kernel) (by decide +kernel)
set_option maxRecDepth 100000 in
theorem q_im_X5_areAllRight : Cond.instanceMethod yX5_areAllRight ∈ TB := tb_t 632 (by decide +kernel) (by decide +kernel)
set_option maxRecDepth 100000 in
theorem q_co_X5_areAllRight : Cond.code yX5_areAllRight cX5_areAllRight 2 (some .boolean) ∈ TB := tb_t 633 (by decide +kernel) (by decide +kernel)
set_option maxRecDepth 100000 in
theorem q_ml_L_64 : Cond.methodLink RL 64 yX5_insert ∈ TB := tb_t 634 (by decide +kernel) (by decide +kernel)
set_option maxRecDepth 100000 in
theorem q_im_X5_insert : Cond.instanceMethod yX5_insert ∈ TB := tb_t 635 (by decide +kernel) (by decide +kernel)
set_option maxRecDepth 100000 in
theorem q_se_X5_insert : Cond.selects RX5 yX5_insert yX5_insert ∈ TB := tb_t 636 (by decide +kernel) (by decide +kernel)
set_option maxRecDepth 100000 in
theorem q_co_X5_insert : Cond.code yX5_insert cX5_insert 2 (some .int) ∈ TB := tb_t 637 (by decide +kernel) (by decide +kernel)
set_option maxRecDepth 100000 in
theorem q_ml_X5_144 : Cond.methodLink RX5 144 yX5_checkOpen ∈ TB := tb_t 638 (by decide +kernel) (by decide +kernel)
set_option maxRecDepth 100000 in
theorem q_im_X5_checkOpen : Cond.instanceMethod yX5_checkOpen ∈ TB := tb_t 640 (by decide +kernel) (by decide +kernel)
set_option maxRecDepth 100000 in
theorem q_co_X5_checkOpen : Cond.code yX5_checkOpen cX5_checkOpen 2 none ∈ TB := tb_t 641 (by decide +kernel) (by decide +kernel)
set_option maxRecDepth 100000 in
theorem q_ml_X5_147 : Cond.methodLink RX5 147 yX5_searchAllVehicles ∈ TB := tb_t 643 (by decide +kernel) (by decide +kernel)
set_option maxRecDepth 100000 in
theorem q_im_X5_searchAllVehicles : Cond.instanceMethod yX5_searchAllVehicles ∈ TB := tb_t 645 (by decide +kernel) (by decide +kernel)
set_option maxRecDepth 100000 in
theorem q_co_X5_searchAllVehicles : Cond.code yX5_searchAllVehicles cX5_searchAllVehicles 5 none ∈ TB := tb_t 646 (by decide +kernel) (by decide +kernel)
set_option maxRecDepth 100000 in
theorem q_cn_X5_299 : Cond.constant RX5 299 (1000000) ∈ TB := tb_t 647 (by decide +kernel) (by decide +kernel)
set_option maxRecDepth 100000 in
theorem q_ml_X5_150 : Cond.methodLink RX5 150 yX5_put ∈ TB := tb_t 648 (by decide +kernel) (by decide +kernel)
set_option maxRecDepth 100000 in
theorem q_im_X5_put : Cond.instanceMethod yX5_put ∈ TB := tb_t 650 (by decide +kernel) (by decide +kernel)
set_option maxRecDepth 100000 in
theorem q_co_X5_put : Cond.code yX5_put cX5_put 3 none ∈ TB := tb_t 651 (by decide +kernel) (by decide +kernel)
set_option maxRecDepth 100000 in
theorem q_ml_L_68 : Cond.methodLink RL 68 yX5_insertAt ∈ TB := tb_t 652 (by decide +kernel) (by decide +kernel)
set_option maxRecDepth 100000 in
theorem q_im_X5_insertAt : Cond.instanceMethod yX5_insertAt ∈ TB := tb_t 653 (by decide +kernel) (by decide +kernel)
set_option maxRecDepth 100000 in
theorem q_se_X5_insertAt : Cond.selects RX5 yX5_insertAt yX5_insertAt ∈ TB := tb_t 654 (by decide +kernel) (by decide +kernel)
set_option maxRecDepth 100000 in
theorem q_co_X5_insertAt : Cond.code yX5_insertAt cX5_insertAt 7 (some .int) ∈ TB := tb_t 655 (by decide +kernel) (by decide +kernel)
set_option maxRecDepth 100000 in
theorem q_ml_X5_157 : Cond.methodLink RX5 157 yX5_checkVehicle ∈ TB := tb_t 656 (by decide +kernel) (by decide +kernel)
set_option maxRecDepth 100000 in
theorem q_im_X5_checkVehicle : Cond.instanceMethod yX5_checkVehicle ∈ TB := tb_t 658 (by decide +kernel) (by decide +kernel)
set_option maxRecDepth 100000 in
theorem q_co_X5_checkVehicle : Cond.code yX5_checkVehicle cX5_checkVehicle 2 none ∈ TB := tb_t 659 (by decide +kernel) (by decide +kernel)
set_option maxRecDepth 100000 in
theorem q_ml_L_72 : Cond.methodLink RL 72 yX5_take ∈ TB := tb_t 662 (by decide +kernel) (by decide +kernel)
set_option maxRecDepth 100000 in
theorem q_im_X5_take : Cond.instanceMethod yX5_take ∈ TB := tb_t 663 (by decide +kernel) (by decide +kernel)
set_option maxRecDepth 100000 in
theorem q_se_X5_take : Cond.selects RX5 yX5_take yX5_take ∈ TB := tb_t 664 (by decide +kernel) (by decide +kernel)
set_option maxRecDepth 100000 in
theorem q_co_X5_take : Cond.code yX5_take cX5_take 3 (some .int) ∈ TB := tb_t 665 (by decide +kernel) (by decide +kernel)
set_option maxRecDepth 100000 in
theorem q_ml_X5_199 : Cond.methodLink RX5 199 yX5_savedWithout ∈ TB := tb_t 667 (by decide +kernel) (by decide +kernel)
set_option maxRecDepth 100000 in
theorem q_im_X5_savedWithout : Cond.instanceMethod yX5_savedWithout ∈ TB := tb_t 669 (by decide +kernel) (by decide +kernel)
set_option maxRecDepth 100000 in
theorem q_co_X5_savedWithout : Cond.code yX5_savedWithout cX5_savedWithout 4 (some .int) ∈ TB := tb_t 670 (by decide +kernel) (by decide +kernel)
set_option maxRecDepth 100000 in
theorem q_ml_X5_202 : Cond.methodLink RX5 202 yX5_takeOut ∈ TB := tb_t 671 (by decide +kernel) (by decide +kernel)
set_option maxRecDepth 100000 in
theorem q_im_X5_takeOut : Cond.instanceMethod yX5_takeOut ∈ TB := tb_t 673 (by decide +kernel) (by decide +kernel)
set_option maxRecDepth 100000 in
theorem q_co_X5_takeOut : Cond.code yX5_takeOut cX5_takeOut 4 none ∈ TB := tb_t 674 (by decide +kernel) (by decide +kernel)
set_option maxRecDepth 100000 in
theorem q_ml_L_75 : Cond.methodLink RL 75 yX5_rebuild ∈ TB := tb_t 675 (by decide +kernel) (by decide +kernel)
set_option maxRecDepth 100000 in
theorem q_im_X5_rebuild : Cond.instanceMethod yX5_rebuild ∈ TB := tb_t 676 (by decide +kernel) (by decide +kernel)
set_option maxRecDepth 100000 in
theorem q_se_X5_rebuild : Cond.selects RX5 yX5_rebuild yX5_rebuild ∈ TB := tb_t 677 (by decide +kernel) (by decide +kernel)
set_option maxRecDepth 100000 in
theorem q_co_X5_rebuild : Cond.code yX5_rebuild cX5_rebuild 2 (some .int) ∈ TB := tb_t 678 (by decide +kernel) (by decide +kernel)
set_option maxRecDepth 100000 in
theorem q_ml_X5_205 : Cond.methodLink RX5 205 yX5_chooseByRegret ∈ TB := tb_t 679 (by decide +kernel) (by decide +kernel)
set_option maxRecDepth 100000 in
theorem q_im_X5_chooseByRegret : Cond.instanceMethod yX5_chooseByRegret ∈ TB := tb_t 681 (by decide +kernel) (by decide +kernel)
set_option maxRecDepth 100000 in
theorem q_co_X5_chooseByRegret : Cond.code yX5_chooseByRegret cX5_chooseByRegret 4 (some .boolean) ∈ TB := tb_t 682 (by decide +kernel) (by decide +kernel)
set_option maxRecDepth 100000 in
theorem q_ml_X5_399 : Cond.methodLink RX5 399 yX1_comesBefore ∈ TB := tb_t 683 (by decide +kernel) (by decide +kernel)
set_option maxRecDepth 100000 in
theorem q_im_X1_comesBefore : Cond.instanceMethod yX1_comesBefore ∈ TB := tb_t 684 (by decide +kernel) (by decide +kernel)
set_option maxRecDepth 100000 in
theorem q_se_X1_comesBefore : Cond.selects RX1 yX1_comesBefore yX1_comesBefore ∈ TB := tb_t 685 (by decide +kernel) (by decide +kernel)
set_option maxRecDepth 100000 in
theorem q_co_X1_comesBefore : Cond.code yX1_comesBefore cX1_comesBefore 2 (some .boolean) ∈ TB := tb_t 686 (by decide +kernel) (by decide +kernel)
set_option maxRecDepth 100000 in
theorem q_ml_X5_403 : Cond.methodLink RX5 403 yX1_become ∈ TB := tb_t 687 (by decide +kernel) (by decide +kernel)
set_option maxRecDepth 100000 in
theorem q_im_X1_become : Cond.instanceMethod yX1_become ∈ TB := tb_t 688 (by decide +kernel) (by decide +kernel)
set_option maxRecDepth 100000 in
theorem q_se_X1_become : Cond.selects RX1 yX1_become yX1_become ∈ TB := tb_t 689 (by decide +kernel) (by decide +kernel)
set_option maxRecDepth 100000 in
theorem q_co_X1_become : Cond.code yX1_become cX1_become 2 none ∈ TB := tb_t 690 (by decide +kernel) (by decide +kernel)
set_option maxRecDepth 100000 in
theorem q_ml_L_78 : Cond.methodLink RL 78 yX5_ruin ∈ TB := tb_t 691 (by decide +kernel) (by decide +kernel)
set_option maxRecDepth 100000 in
theorem q_im_X5_ruin : Cond.instanceMethod yX5_ruin ∈ TB := tb_t 692 (by decide +kernel) (by decide +kernel)
set_option maxRecDepth 100000 in
theorem q_se_X5_ruin : Cond.selects RX5 yX5_ruin yX5_ruin ∈ TB := tb_t 693 (by decide +kernel) (by decide +kernel)
set_option maxRecDepth 100000 in
theorem q_co_X5_ruin : Cond.code yX5_ruin cX5_ruin 4 (some .int) ∈ TB := tb_t 694 (by decide +kernel) (by decide +kernel)
set_option maxRecDepth 100000 in
theorem q_ml_X5_210 : Cond.methodLink RX5 210 yX5_dearestJob ∈ TB := tb_t 696 (by decide +kernel) (by decide +kernel)
set_option maxRecDepth 100000 in
theorem q_im_X5_dearestJob : Cond.instanceMethod yX5_dearestJob ∈ TB := tb_t 698 (by decide +kernel) (by decide +kernel)
set_option maxRecDepth 100000 in
theorem q_co_X5_dearestJob : Cond.code yX5_dearestJob cX5_dearestJob 5 (some .int) ∈ TB := tb_t 699 (by decide +kernel) (by decide +kernel)
set_option maxRecDepth 100000 in
theorem q_ml_X5_405 : Cond.methodLink RX5 405 yX5_isMovable ∈ TB := tb_t 700 (by decide +kernel) (by decide +kernel)
set_option maxRecDepth 100000 in
theorem q_im_X5_isMovable : Cond.instanceMethod yX5_isMovable ∈ TB := tb_t 702 (by decide +kernel) (by decide +kernel)
set_option maxRecDepth 100000 in
theorem q_co_X5_isMovable : Cond.code yX5_isMovable cX5_isMovable 2 (some .boolean) ∈ TB := tb_t 703 (by decide +kernel) (by decide +kernel)
set_option maxRecDepth 100000 in
theorem q_ml_L_81 : Cond.methodLink RL 81 yX5_improve ∈ TB := tb_t 704 (by decide +kernel) (by decide +kernel)
set_option maxRecDepth 100000 in
theorem q_im_X5_improve : Cond.instanceMethod yX5_improve ∈ TB := tb_t 705 (by decide +kernel) (by decide +kernel)
set_option maxRecDepth 100000 in
theorem q_se_X5_improve : Cond.selects RX5 yX5_improve yX5_improve ∈ TB := tb_t 706 (by decide +kernel) (by decide +kernel)
set_option maxRecDepth 100000 in
theorem q_co_X5_improve : Cond.code yX5_improve cX5_improve 5 (some .int) ∈ TB := tb_t 707 (by decide +kernel) (by decide +kernel)
set_option maxRecDepth 100000 in
theorem q_ml_X5_223 : Cond.methodLink RX5 223 yX5_makeBestChange ∈ TB := tb_t 709 (by decide +kernel) (by decide +kernel)
set_option maxRecDepth 100000 in
theorem q_im_X5_makeBestChange : Cond.instanceMethod yX5_makeBestChange ∈ TB := tb_t 711 (by decide +kernel) (by decide +kernel)
set_option maxRecDepth 100000 in
theorem q_co_X5_makeBestChange : Cond.code yX5_makeBestChange cX5_makeBestChange 2 none ∈ TB := tb_t 712 (by decide +kernel) (by decide +kernel)
set_option maxRecDepth 100000 in
theorem q_ml_L_84 : Cond.methodLink RL 84 yX5_repair ∈ TB := tb_t 713 (by decide +kernel) (by decide +kernel)
set_option maxRecDepth 100000 in
theorem q_im_X5_repair : Cond.instanceMethod yX5_repair ∈ TB := tb_t 714 (by decide +kernel) (by decide +kernel)
set_option maxRecDepth 100000 in
theorem q_se_X5_repair : Cond.selects RX5 yX5_repair yX5_repair ∈ TB := tb_t 715 (by decide +kernel) (by decide +kernel)
set_option maxRecDepth 100000 in
theorem q_co_X5_repair : Cond.code yX5_repair cX5_repair 5 (some .int) ∈ TB := tb_t 716 (by decide +kernel) (by decide +kernel)
set_option maxRecDepth 100000 in
theorem q_ml_X5_235 : Cond.methodLink RX5 235 yX5_jobToRepair ∈ TB := tb_t 717 (by decide +kernel) (by decide +kernel)
set_option maxRecDepth 100000 in
theorem q_im_X5_jobToRepair : Cond.instanceMethod yX5_jobToRepair ∈ TB := tb_t 719 (by decide +kernel) (by decide +kernel)
set_option maxRecDepth 100000 in
theorem q_co_X5_jobToRepair : Cond.code yX5_jobToRepair cX5_jobToRepair 7 (some .int) ∈ TB := tb_t 720 (by decide +kernel) (by decide +kernel)
set_option maxRecDepth 100000 in
theorem q_ml_L_87 : Cond.methodLink RL 87 yX5_isRight ∈ TB := tb_t 721 (by decide +kernel) (by decide +kernel)
set_option maxRecDepth 100000 in
theorem q_im_X5_isRight : Cond.instanceMethod yX5_isRight ∈ TB := tb_t 722 (by decide +kernel) (by decide +kernel)
set_option maxRecDepth 100000 in
theorem q_se_X5_isRight : Cond.selects RX5 yX5_isRight yX5_isRight ∈ TB := tb_t 723 (by decide +kernel) (by decide +kernel)
set_option maxRecDepth 100000 in
theorem q_co_X5_isRight : Cond.code yX5_isRight cX5_isRight 2 (some .boolean) ∈ TB := tb_t 724 (by decide +kernel) (by decide +kernel)
set_option maxRecDepth 100000 in
theorem q_ml_X5_279 : Cond.methodLink RX5 279 yX5_rideWhole ∈ TB := tb_t 725 (by decide +kernel) (by decide +kernel)
set_option maxRecDepth 100000 in
theorem q_im_X5_rideWhole : Cond.instanceMethod yX5_rideWhole ∈ TB := tb_t 727 (by decide +kernel) (by decide +kernel)
set_option maxRecDepth 100000 in
theorem q_co_X5_rideWhole : Cond.code yX5_rideWhole cX5_rideWhole 2 none ∈ TB := tb_t 728 (by decide +kernel) (by decide +kernel)
set_option maxRecDepth 100000 in
theorem q_ml_L_91 : Cond.methodLink RL 91 yX5_setStops ∈ TB := tb_t 729 (by decide +kernel) (by decide +kernel)
set_option maxRecDepth 100000 in
theorem q_im_X5_setStops : Cond.instanceMethod yX5_setStops ∈ TB := tb_t 730 (by decide +kernel) (by decide +kernel)
set_option maxRecDepth 100000 in
theorem q_se_X5_setStops : Cond.selects RX5 yX5_setStops yX5_setStops ∈ TB := tb_t 731 (by decide +kernel) (by decide +kernel)
set_option maxRecDepth 100000 in
theorem q_co_X5_setStops : Cond.code yX5_setStops cX5_setStops 2 (some .int) ∈ TB := tb_t 732 (by decide +kernel) (by decide +kernel)
set_option maxRecDepth 100000 in
theorem q_ml_L_94 : Cond.methodLink RL 94 yX5_gain ∈ TB := tb_t 733 (by decide +kernel) (by decide +kernel)
set_option maxRecDepth 100000 in
theorem q_im_X5_gain : Cond.instanceMethod yX5_gain ∈ TB := tb_t 734 (by decide +kernel) (by decide +kernel)
set_option maxRecDepth 100000 in
theorem q_se_X5_gain : Cond.selects RX5 yX5_gain yX5_gain ∈ TB := tb_t 735 (by decide +kernel) (by decide +kernel)
set_option maxRecDepth 100000 in
theorem q_co_X5_gain : Cond.code yX5_gain cX5_gain 2 (some .int) ∈ TB := tb_t 736 (by decide +kernel) (by decide +kernel)
set_option maxRecDepth 100000 in
theorem q_ml_X5_214 : Cond.methodLink RX5 214 yX5_checkKind ∈ TB := tb_t 737 (by decide +kernel) (by decide +kernel)
set_option maxRecDepth 100000 in
theorem q_st_X5_checkKind : Cond.static yX5_checkKind ∈ TB := tb_t 738 (by decide +kernel) (by decide +kernel)
set_option maxRecDepth 100000 in
theorem q_co_X5_checkKind : Cond.code yX5_checkKind cX5_checkKind 1 none ∈ TB := tb_t 739 (by decide +kernel) (by decide +kernel)
set_option maxRecDepth 100000 in
theorem q_ml_L_97 : Cond.methodLink RL 97 yX5_change ∈ TB := tb_t 741 (by decide +kernel) (by decide +kernel)
set_option maxRecDepth 100000 in
theorem q_im_X5_change : Cond.instanceMethod yX5_change ∈ TB := tb_t 742 (by decide +kernel) (by decide +kernel)
set_option maxRecDepth 100000 in
theorem q_se_X5_change : Cond.selects RX5 yX5_change yX5_change ∈ TB := tb_t 743 (by decide +kernel) (by decide +kernel)
set_option maxRecDepth 100000 in
theorem q_co_X5_change : Cond.code yX5_change cX5_change 2 (some .int) ∈ TB := tb_t 744 (by decide +kernel) (by decide +kernel)
set_option maxRecDepth 100000 in
theorem q_ml_L_100 : Cond.methodLink RL 100 yX5_advance ∈ TB := tb_t 745 (by decide +kernel) (by decide +kernel)
set_option maxRecDepth 100000 in
theorem q_im_X5_advance : Cond.instanceMethod yX5_advance ∈ TB := tb_t 746 (by decide +kernel) (by decide +kernel)
set_option maxRecDepth 100000 in
theorem q_se_X5_advance : Cond.selects RX5 yX5_advance yX5_advance ∈ TB := tb_t 747 (by decide +kernel) (by decide +kernel)
set_option maxRecDepth 100000 in
theorem q_co_X5_advance : Cond.code yX5_advance cX5_advance 5 (some .int) ∈ TB := tb_t 748 (by decide +kernel) (by decide +kernel)
set_option maxRecDepth 100000 in
theorem q_ml_L_26 : Cond.methodLink RL 26 yL_isSound ∈ TB := tb_t 751 (by decide +kernel) (by decide +kernel)
set_option maxRecDepth 100000 in
theorem q_st_L_isSound : Cond.static yL_isSound ∈ TB := tb_t 752 (by decide +kernel) (by decide +kernel)
set_option maxRecDepth 100000 in
theorem q_co_L_isSound : Cond.code yL_isSound cL_isSound 8 (some .boolean) ∈ TB := tb_t 753 (by decide +kernel) (by decide +kernel)
set_option maxRecDepth 100000 in
theorem q_ml_L_109 : Cond.methodLink RL 109 yX5_costOf ∈ TB := tb_t 754 (by decide +kernel) (by decide +kernel)
set_option maxRecDepth 100000 in
theorem q_im_X5_costOf : Cond.instanceMethod yX5_costOf ∈ TB := tb_t 755 (by decide +kernel) (by decide +kernel)
set_option maxRecDepth 100000 in
theorem q_se_X5_costOf : Cond.selects RX5 yX5_costOf yX5_costOf ∈ TB := tb_t 756 (by decide +kernel) (by decide +kernel)
set_option maxRecDepth 100000 in
theorem q_co_X5_costOf : Cond.code yX5_costOf cX5_costOf 2 (some .int) ∈ TB := tb_t 757 (by decide +kernel) (by decide +kernel)
set_option maxRecDepth 100000 in
theorem q_ml_L_112 : Cond.methodLink RL 112 yX5_stops ∈ TB := tb_t 758 (by decide +kernel) (by decide +kernel)
set_option maxRecDepth 100000 in
theorem q_im_X5_stops : Cond.instanceMethod yX5_stops ∈ TB := tb_t 759 (by decide +kernel) (by decide +kernel)
set_option maxRecDepth 100000 in
theorem q_se_X5_stops : Cond.selects RX5 yX5_stops yX5_stops ∈ TB := tb_t 760 (by decide +kernel) (by decide +kernel)
set_option maxRecDepth 100000 in
theorem q_co_X5_stops : Cond.code yX5_stops cX5_stops 2 (some .int) ∈ TB := tb_t 761 (by decide +kernel) (by decide +kernel)
set_option maxRecDepth 100000 in
theorem q_ml_L_115 : Cond.methodLink RL 115 yX5_jobAt ∈ TB := tb_t 762 (by decide +kernel) (by decide +kernel)
set_option maxRecDepth 100000 in
theorem q_im_X5_jobAt : Cond.instanceMethod yX5_jobAt ∈ TB := tb_t 763 (by decide +kernel) (by decide +kernel)
set_option maxRecDepth 100000 in
theorem q_se_X5_jobAt : Cond.selects RX5 yX5_jobAt yX5_jobAt ∈ TB := tb_t 764 (by decide +kernel) (by decide +kernel)
set_option maxRecDepth 100000 in
theorem q_co_X5_jobAt : Cond.code yX5_jobAt cX5_jobAt 3 (some .int) ∈ TB := tb_t 765 (by decide +kernel) (by decide +kernel)
set_option maxRecDepth 100000 in
theorem q_ml_X5_250 : Cond.methodLink RX5 250 yX5_checkStop ∈ TB := tb_t 766 (by decide +kernel) (by decide +kernel)
set_option maxRecDepth 100000 in
theorem q_im_X5_checkStop : Cond.instanceMethod yX5_checkStop ∈ TB := tb_t 768 (by decide +kernel) (by decide +kernel)
set_option maxRecDepth 100000 in
theorem q_co_X5_checkStop : Cond.code yX5_checkStop cX5_checkStop 3 none ∈ TB := tb_t 769 (by decide +kernel) (by decide +kernel)
set_option maxRecDepth 100000 in
theorem q_ml_L_118 : Cond.methodLink RL 118 yX5_vehicleOf ∈ TB := tb_t 771 (by decide +kernel) (by decide +kernel)
set_option maxRecDepth 100000 in
theorem q_im_X5_vehicleOf : Cond.instanceMethod yX5_vehicleOf ∈ TB := tb_t 772 (by decide +kernel) (by decide +kernel)
set_option maxRecDepth 100000 in
theorem q_se_X5_vehicleOf : Cond.selects RX5 yX5_vehicleOf yX5_vehicleOf ∈ TB := tb_t 773 (by decide +kernel) (by decide +kernel)
set_option maxRecDepth 100000 in
theorem q_co_X5_vehicleOf : Cond.code yX5_vehicleOf cX5_vehicleOf 2 (some .int) ∈ TB := tb_t 774 (by decide +kernel) (by decide +kernel)
set_option maxRecDepth 100000 in
theorem q_ml_L_121 : Cond.methodLink RL 121 yX5_isFetched ∈ TB := tb_t 775 (by decide +kernel) (by decide +kernel)
set_option maxRecDepth 100000 in
theorem q_im_X5_isFetched : Cond.instanceMethod yX5_isFetched ∈ TB := tb_t 776 (by decide +kernel) (by decide +kernel)
set_option maxRecDepth 100000 in
theorem q_se_X5_isFetched : Cond.selects RX5 yX5_isFetched yX5_isFetched ∈ TB := tb_t 777 (by decide +kernel) (by decide +kernel)
set_option maxRecDepth 100000 in
theorem q_co_X5_isFetched : Cond.code yX5_isFetched cX5_isFetched 3 (some .boolean) ∈ TB := tb_t 778 (by decide +kernel) (by decide +kernel)
set_option maxRecDepth 100000 in
theorem q_ml_L_125 : Cond.methodLink RL 125 yX5_arrives ∈ TB := tb_t 779 (by decide +kernel) (by decide +kernel)
set_option maxRecDepth 100000 in
theorem q_im_X5_arrives : Cond.instanceMethod yX5_arrives ∈ TB := tb_t 780 (by decide +kernel) (by decide +kernel)
set_option maxRecDepth 100000 in
theorem q_se_X5_arrives : Cond.selects RX5 yX5_arrives yX5_arrives ∈ TB := tb_t 781 (by decide +kernel) (by decide +kernel)
set_option maxRecDepth 100000 in
theorem q_co_X5_arrives : Cond.code yX5_arrives cX5_arrives 3 (some .int) ∈ TB := tb_t 782 (by decide +kernel) (by decide +kernel)
set_option maxRecDepth 100000 in
theorem q_ml_X5_262 : Cond.methodLink RX5 262 yX5_rideTo ∈ TB := tb_t 783 (by decide +kernel) (by decide +kernel)
set_option maxRecDepth 100000 in
theorem q_im_X5_rideTo : Cond.instanceMethod yX5_rideTo ∈ TB := tb_t 785 (by decide +kernel) (by decide +kernel)
set_option maxRecDepth 100000 in
theorem q_co_X5_rideTo : Cond.code yX5_rideTo cX5_rideTo 4 none ∈ TB := tb_t 786 (by decide +kernel) (by decide +kernel)
set_option maxRecDepth 100000 in
theorem q_ml_L_128 : Cond.methodLink RL 128 yX5_begins ∈ TB := tb_t 787 (by decide +kernel) (by decide +kernel)
set_option maxRecDepth 100000 in
theorem q_im_X5_begins : Cond.instanceMethod yX5_begins ∈ TB := tb_t 788 (by decide +kernel) (by decide +kernel)
set_option maxRecDepth 100000 in
theorem q_se_X5_begins : Cond.selects RX5 yX5_begins yX5_begins ∈ TB := tb_t 789 (by decide +kernel) (by decide +kernel)
set_option maxRecDepth 100000 in
theorem q_co_X5_begins : Cond.code yX5_begins cX5_begins 3 (some .int) ∈ TB := tb_t 790 (by decide +kernel) (by decide +kernel)
set_option maxRecDepth 100000 in
theorem q_ml_L_131 : Cond.methodLink RL 131 yX5_loadBehind ∈ TB := tb_t 791 (by decide +kernel) (by decide +kernel)
set_option maxRecDepth 100000 in
theorem q_im_X5_loadBehind : Cond.instanceMethod yX5_loadBehind ∈ TB := tb_t 792 (by decide +kernel) (by decide +kernel)
set_option maxRecDepth 100000 in
theorem q_se_X5_loadBehind : Cond.selects RX5 yX5_loadBehind yX5_loadBehind ∈ TB := tb_t 793 (by decide +kernel) (by decide +kernel)
set_option maxRecDepth 100000 in
theorem q_co_X5_loadBehind : Cond.code yX5_loadBehind cX5_loadBehind 3 (some .int) ∈ TB := tb_t 794 (by decide +kernel) (by decide +kernel)
set_option maxRecDepth 100000 in
theorem q_ml_L_134 : Cond.methodLink RL 134 yX5_slack ∈ TB := tb_t 795 (by decide +kernel) (by decide +kernel)
set_option maxRecDepth 100000 in
theorem q_im_X5_slack : Cond.instanceMethod yX5_slack ∈ TB := tb_t 796 (by decide +kernel) (by decide +kernel)
set_option maxRecDepth 100000 in
theorem q_se_X5_slack : Cond.selects RX5 yX5_slack yX5_slack ∈ TB := tb_t 797 (by decide +kernel) (by decide +kernel)
set_option maxRecDepth 100000 in
theorem q_co_X5_slack : Cond.code yX5_slack cX5_slack 3 (some .int) ∈ TB := tb_t 798 (by decide +kernel) (by decide +kernel)
set_option maxRecDepth 100000 in
theorem q_ml_L_137 : Cond.methodLink RL 137 yX5_isSet ∈ TB := tb_t 799 (by decide +kernel) (by decide +kernel)
set_option maxRecDepth 100000 in
theorem q_im_X5_isSet : Cond.instanceMethod yX5_isSet ∈ TB := tb_t 800 (by decide +kernel) (by decide +kernel)
set_option maxRecDepth 100000 in
theorem q_se_X5_isSet : Cond.selects RX5 yX5_isSet yX5_isSet ∈ TB := tb_t 801 (by decide +kernel) (by decide +kernel)
set_option maxRecDepth 100000 in
theorem q_co_X5_isSet : Cond.code yX5_isSet cX5_isSet 2 (some .boolean) ∈ TB := tb_t 802 (by decide +kernel) (by decide +kernel)
set_option maxRecDepth 100000 in
theorem q_ml_L_140 : Cond.methodLink RL 140 yX5_back ∈ TB := tb_t 803 (by decide +kernel) (by decide +kernel)
set_option maxRecDepth 100000 in
theorem q_im_X5_back : Cond.instanceMethod yX5_back ∈ TB := tb_t 804 (by decide +kernel) (by decide +kernel)
set_option maxRecDepth 100000 in
theorem q_se_X5_back : Cond.selects RX5 yX5_back yX5_back ∈ TB := tb_t 805 (by decide +kernel) (by decide +kernel)
set_option maxRecDepth 100000 in
theorem q_co_X5_back : Cond.code yX5_back cX5_back 2 (some .int) ∈ TB := tb_t 806 (by decide +kernel) (by decide +kernel)
set_option maxRecDepth 100000 in
theorem q_ml_L_143 : Cond.methodLink RL 143 yX5_waits ∈ TB := tb_t 807 (by decide +kernel) (by decide +kernel)
set_option maxRecDepth 100000 in
theorem q_im_X5_waits : Cond.instanceMethod yX5_waits ∈ TB := tb_t 808 (by decide +kernel) (by decide +kernel)
set_option maxRecDepth 100000 in
theorem q_se_X5_waits : Cond.selects RX5 yX5_waits yX5_waits ∈ TB := tb_t 809 (by decide +kernel) (by decide +kernel)
set_option maxRecDepth 100000 in
theorem q_co_X5_waits : Cond.code yX5_waits cX5_waits 2 (some .int) ∈ TB := tb_t 810 (by decide +kernel) (by decide +kernel)
set_option maxRecDepth 100000 in
theorem q_ml_L_146 : Cond.methodLink RL 146 yX5_costWithout ∈ TB := tb_t 811 (by decide +kernel) (by decide +kernel)
set_option maxRecDepth 100000 in
theorem q_im_X5_costWithout : Cond.instanceMethod yX5_costWithout ∈ TB := tb_t 812 (by decide +kernel) (by decide +kernel)
set_option maxRecDepth 100000 in
theorem q_se_X5_costWithout : Cond.selects RX5 yX5_costWithout yX5_costWithout ∈ TB := tb_t 813 (by decide +kernel) (by decide +kernel)
set_option maxRecDepth 100000 in
theorem q_co_X5_costWithout : Cond.code yX5_costWithout cX5_costWithout 3 (some .int) ∈ TB := tb_t 814 (by decide +kernel) (by decide +kernel)
set_option maxRecDepth 100000 in
theorem q_ml_L_149 : Cond.methodLink RL 149 yX5_fullness ∈ TB := tb_t 815 (by decide +kernel) (by decide +kernel)
set_option maxRecDepth 100000 in
theorem q_im_X5_fullness : Cond.instanceMethod yX5_fullness ∈ TB := tb_t 816 (by decide +kernel) (by decide +kernel)
set_option maxRecDepth 100000 in
theorem q_se_X5_fullness : Cond.selects RX5 yX5_fullness yX5_fullness ∈ TB := tb_t 817 (by decide +kernel) (by decide +kernel)
set_option maxRecDepth 100000 in
theorem q_co_X5_fullness : Cond.code yX5_fullness cX5_fullness 5 (some .double) ∈ TB := tb_t 818 (by decide +kernel) (by decide +kernel)
set_option maxRecDepth 100000 in
theorem q_se_X5_costOfAll : Cond.selects RX5 yX5_costOfAll yX5_costOfAll ∈ TB := tb_s 0 (q := (yX5_costOfAll, 9)) (by decide +kernel)
set_option maxRecDepth 100000 in
theorem q_se_X3_goOn : Cond.selects RX3 yX3_goOn yX3_goOn ∈ TB := tb_s 1 (q := (yX3_goOn, 10)) (by decide +kernel)
set_option maxRecDepth 100000 in
theorem q_se_X3_goHome : Cond.selects RX3 yX3_goHome yX3_goHome ∈ TB := tb_s 2 (q := (yX3_goHome, 10)) (by decide +kernel)
set_option maxRecDepth 100000 in
theorem q_se_X5_carrierOf : Cond.selects RX5 yX5_carrierOf yX5_carrierOf ∈ TB := tb_s 3 (q := (yX5_carrierOf, 9)) (by decide +kernel)
set_option maxRecDepth 100000 in
theorem q_se_X5_digestOfVehicle : Cond.selects RX5 yX5_digestOfVehicle yX5_digestOfVehicle ∈ TB := tb_s 4 (q := (yX5_digestOfVehicle, 9)) (by decide +kernel)
set_option maxRecDepth 100000 in
theorem q_se_X5_slackBehind : Cond.selects RX5 yX5_slackBehind yX5_slackBehind ∈ TB := tb_s 5 (q := (yX5_slackBehind, 9)) (by decide +kernel)
set_option maxRecDepth 100000 in
theorem q_se_X5_isBound : Cond.selects RX5 yX5_isBound yX5_isBound ∈ TB := tb_s 6 (q := (yX5_isBound, 9)) (by decide +kernel)
set_option maxRecDepth 100000 in
theorem q_se_X5_startSearch : Cond.selects RX5 yX5_startSearch yX5_startSearch ∈ TB := tb_s 7 (q := (yX5_startSearch, 9)) (by decide +kernel)
set_option maxRecDepth 100000 in
theorem q_se_X2_add : Cond.selects RX2 yX2_add yX2_add ∈ TB := tb_s 8 (q := (yX2_add, 2)) (by decide +kernel)
set_option maxRecDepth 100000 in
theorem q_se_X5_searchKind : Cond.selects RX5 yX5_searchKind yX5_searchKind ∈ TB := tb_s 9 (q := (yX5_searchKind, 9)) (by decide +kernel)
set_option maxRecDepth 100000 in
theorem q_se_X5_searchMoves : Cond.selects RX5 yX5_searchMoves yX5_searchMoves ∈ TB := tb_s 10 (q := (yX5_searchMoves, 9)) (by decide +kernel)
set_option maxRecDepth 100000 in
theorem q_se_X5_searchInsertion : Cond.selects RX5 yX5_searchInsertion yX5_searchInsertion ∈ TB := tb_s 11 (q := (yX5_searchInsertion, 9)) (by decide +kernel)
set_option maxRecDepth 100000 in
theorem q_se_X5_addsAt : Cond.selects RX5 yX5_addsAt yX5_addsAt ∈ TB := tb_s 12 (q := (yX5_addsAt, 9)) (by decide +kernel)
set_option maxRecDepth 100000 in
theorem q_se_X5_placeAt : Cond.selects RX5 yX5_placeAt yX5_placeAt ∈ TB := tb_s 13 (q := (yX5_placeAt, 9)) (by decide +kernel)
set_option maxRecDepth 100000 in
theorem q_se_X5_detour : Cond.selects RX5 yX5_detour yX5_detour ∈ TB := tb_s 14 (q := (yX5_detour, 9)) (by decide +kernel)
set_option maxRecDepth 100000 in
theorem q_se_X2_addPart : Cond.selects RX2 yX2_addPart yX2_addPart ∈ TB := tb_s 15 (q := (yX2_addPart, 2)) (by decide +kernel)
set_option maxRecDepth 100000 in
theorem q_se_X5_keep : Cond.selects RX5 yX5_keep yX5_keep ∈ TB := tb_s 16 (q := (yX5_keep, 9)) (by decide +kernel)
set_option maxRecDepth 100000 in
theorem q_se_X5_searchSwaps : Cond.selects RX5 yX5_searchSwaps yX5_searchSwaps ∈ TB := tb_s 17 (q := (yX5_searchSwaps, 9)) (by decide +kernel)
set_option maxRecDepth 100000 in
theorem q_se_X5_offer : Cond.selects RX5 yX5_offer yX5_offer ∈ TB := tb_s 18 (q := (yX5_offer, 9)) (by decide +kernel)
set_option maxRecDepth 100000 in
theorem q_se_X5_searchTurns : Cond.selects RX5 yX5_searchTurns yX5_searchTurns ∈ TB := tb_s 19 (q := (yX5_searchTurns, 9)) (by decide +kernel)
set_option maxRecDepth 100000 in
theorem q_se_X5_searchEnds : Cond.selects RX5 yX5_searchEnds yX5_searchEnds ∈ TB := tb_s 20 (q := (yX5_searchEnds, 9)) (by decide +kernel)
set_option maxRecDepth 100000 in
theorem q_se_X5_checkPlace : Cond.selects RX5 yX5_checkPlace yX5_checkPlace ∈ TB := tb_s 22 (q := (yX5_checkPlace, 9)) (by decide +kernel)
set_option maxRecDepth 100000 in
theorem q_se_X0_tellStop : Cond.selects RX0 yX0_tellStop yX0_tellStop ∈ TB := tb_s 23 (q := (yX0_tellStop, 12)) (by decide +kernel)
set_option maxRecDepth 100000 in
theorem q_se_X5_checkJob : Cond.selects RX5 yX5_checkJob yX5_checkJob ∈ TB := tb_s 24 (q := (yX5_checkJob, 9)) (by decide +kernel)
set_option maxRecDepth 100000 in
theorem q_se_X5_areAllRight : Cond.selects RX5 yX5_areAllRight yX5_areAllRight ∈ TB := tb_s 25 (q := (yX5_areAllRight, 9)) (by decide +kernel)
set_option maxRecDepth 100000 in
theorem q_se_X5_checkOpen : Cond.selects RX5 yX5_checkOpen yX5_checkOpen ∈ TB := tb_s 26 (q := (yX5_checkOpen, 9)) (by decide +kernel)
set_option maxRecDepth 100000 in
theorem q_se_X5_searchAllVehicles : Cond.selects RX5 yX5_searchAllVehicles yX5_searchAllVehicles ∈ TB := tb_s 27 (q := (yX5_searchAllVehicles, 9)) (by decide +kernel)
set_option maxRecDepth 100000 in
theorem q_se_X5_put : Cond.selects RX5 yX5_put yX5_put ∈ TB := tb_s 28 (q := (yX5_put, 9)) (by decide +kernel)
set_option maxRecDepth 100000 in
theorem q_se_X5_checkVehicle : Cond.selects RX5 yX5_checkVehicle yX5_checkVehicle ∈ TB := tb_s 29 (q := (yX5_checkVehicle, 9)) (by decide +kernel)
set_option maxRecDepth 100000 in
theorem q_se_X5_savedWithout : Cond.selects RX5 yX5_savedWithout yX5_savedWithout ∈ TB := tb_s 30 (q := (yX5_savedWithout, 9)) (by decide +kernel)
set_option maxRecDepth 100000 in
theorem q_se_X5_takeOut : Cond.selects RX5 yX5_takeOut yX5_takeOut ∈ TB := tb_s 31 (q := (yX5_takeOut, 9)) (by decide +kernel)
set_option maxRecDepth 100000 in
theorem q_se_X5_chooseByRegret : Cond.selects RX5 yX5_chooseByRegret yX5_chooseByRegret ∈ TB := tb_s 32 (q := (yX5_chooseByRegret, 9)) (by decide +kernel)
set_option maxRecDepth 100000 in
theorem q_se_X5_dearestJob : Cond.selects RX5 yX5_dearestJob yX5_dearestJob ∈ TB := tb_s 33 (q := (yX5_dearestJob, 9)) (by decide +kernel)
set_option maxRecDepth 100000 in
theorem q_se_X5_isMovable : Cond.selects RX5 yX5_isMovable yX5_isMovable ∈ TB := tb_s 34 (q := (yX5_isMovable, 9)) (by decide +kernel)
set_option maxRecDepth 100000 in
theorem q_se_X5_makeBestChange : Cond.selects RX5 yX5_makeBestChange yX5_makeBestChange ∈ TB := tb_s 35 (q := (yX5_makeBestChange, 9)) (by decide +kernel)
set_option maxRecDepth 100000 in
theorem q_se_X5_jobToRepair : Cond.selects RX5 yX5_jobToRepair yX5_jobToRepair ∈ TB := tb_s 36 (q := (yX5_jobToRepair, 9)) (by decide +kernel)
set_option maxRecDepth 100000 in
theorem q_se_X5_rideWhole : Cond.selects RX5 yX5_rideWhole yX5_rideWhole ∈ TB := tb_s 37 (q := (yX5_rideWhole, 9)) (by decide +kernel)
set_option maxRecDepth 100000 in
theorem q_se_X5_checkStop : Cond.selects RX5 yX5_checkStop yX5_checkStop ∈ TB := tb_s 38 (q := (yX5_checkStop, 9)) (by decide +kernel)
set_option maxRecDepth 100000 in
theorem q_se_X5_rideTo : Cond.selects RX5 yX5_rideTo yX5_rideTo ∈ TB := tb_s 39 (q := (yX5_rideTo, 9)) (by decide +kernel)
theorem inX0 : ∀ w ∈ u_ws RX0 TX0 12, w ∈ TB := by
  intro w hw
  obtain ⟨k, hk, rfl⟩ := List.mem_map.mp hw
  have hk := List.mem_range.mp hk
  rcases (show k = 0 ∨ k = 1 ∨ k = 2 ∨ k = 3 ∨ k = 4 ∨ k = 5 ∨ k = 6 ∨ k = 7 ∨ k = 8 ∨ k = 9 ∨ k = 10 ∨ k = 11 by omega) with rfl | rfl | rfl | rfl | rfl | rfl | rfl | rfl | rfl | rfl | rfl | rfl
  · exact q_la_X0_0
  · exact q_la_X0_1
  · exact q_la_X0_2
  · exact q_la_X0_3
  · exact q_la_X0_4
  · exact q_la_X0_5
  · exact q_la_X0_6
  · exact q_la_X0_7
  · exact q_la_X0_8
  · exact q_la_X0_9
  · exact q_la_X0_10
  · exact q_la_X0_11
theorem inX1 : ∀ w ∈ u_ws RX1 TX1 6, w ∈ TB := by
  intro w hw
  obtain ⟨k, hk, rfl⟩ := List.mem_map.mp hw
  have hk := List.mem_range.mp hk
  rcases (show k = 0 ∨ k = 1 ∨ k = 2 ∨ k = 3 ∨ k = 4 ∨ k = 5 by omega) with rfl | rfl | rfl | rfl | rfl | rfl
  · exact q_la_X1_0
  · exact q_la_X1_1
  · exact q_la_X1_2
  · exact q_la_X1_3
  · exact q_la_X1_4
  · exact q_la_X1_5
theorem inX2 : ∀ w ∈ u_ws RX2 TX2 2, w ∈ TB := by
  intro w hw
  obtain ⟨k, hk, rfl⟩ := List.mem_map.mp hw
  have hk := List.mem_range.mp hk
  rcases (show k = 0 ∨ k = 1 by omega) with rfl | rfl
  · exact q_la_X2_0
  · exact q_la_X2_1
theorem inX3 : ∀ w ∈ u_ws RX3 TX3 10, w ∈ TB := by
  intro w hw
  obtain ⟨k, hk, rfl⟩ := List.mem_map.mp hw
  have hk := List.mem_range.mp hk
  rcases (show k = 0 ∨ k = 1 ∨ k = 2 ∨ k = 3 ∨ k = 4 ∨ k = 5 ∨ k = 6 ∨ k = 7 ∨ k = 8 ∨ k = 9 by omega) with rfl | rfl | rfl | rfl | rfl | rfl | rfl | rfl | rfl | rfl
  · exact q_la_X3_0
  · exact q_la_X3_1
  · exact q_la_X3_2
  · exact q_la_X3_3
  · exact q_la_X3_4
  · exact q_la_X3_5
  · exact q_la_X3_6
  · exact q_la_X3_7
  · exact q_la_X3_8
  · exact q_la_X3_9
theorem inX4 : ∀ w ∈ u_ws RX4 TX4 11, w ∈ TB := by
  intro w hw
  obtain ⟨k, hk, rfl⟩ := List.mem_map.mp hw
  have hk := List.mem_range.mp hk
  rcases (show k = 0 ∨ k = 1 ∨ k = 2 ∨ k = 3 ∨ k = 4 ∨ k = 5 ∨ k = 6 ∨ k = 7 ∨ k = 8 ∨ k = 9 ∨ k = 10 by omega) with rfl | rfl | rfl | rfl | rfl | rfl | rfl | rfl | rfl | rfl | rfl
  · exact q_la_X4_0
  · exact q_la_X4_1
  · exact q_la_X4_2
  · exact q_la_X4_3
  · exact q_la_X4_4
  · exact q_la_X4_5
  · exact q_la_X4_6
  · exact q_la_X4_7
  · exact q_la_X4_8
  · exact q_la_X4_9
  · exact q_la_X4_10
theorem inX5 : ∀ w ∈ u_ws RX5 TX5 9, w ∈ TB := by
  intro w hw
  obtain ⟨k, hk, rfl⟩ := List.mem_map.mp hw
  have hk := List.mem_range.mp hk
  rcases (show k = 0 ∨ k = 1 ∨ k = 2 ∨ k = 3 ∨ k = 4 ∨ k = 5 ∨ k = 6 ∨ k = 7 ∨ k = 8 by omega) with rfl | rfl | rfl | rfl | rfl | rfl | rfl | rfl | rfl
  · exact q_la_X5_0
  · exact q_la_X5_1
  · exact q_la_X5_2
  · exact q_la_X5_3
  · exact q_la_X5_4
  · exact q_la_X5_5
  · exact q_la_X5_6
  · exact q_la_X5_7
  · exact q_la_X5_8
/-- the links to private methods of nest mates -/
def NW (U : State) : Prop := va_Nw (Cond.methodLinkNest RX5 25 yX3_init "DroverPlan") U ∧ va_Nw (Cond.methodLinkNest RX5 39 yX1_init "DroverPlan") U ∧ va_Nw (Cond.methodLinkNest RX2 23 yX5_jobOf "DroverPlan") U ∧ va_Nw (Cond.methodLinkNest RX2 44 yX5_fetchOf "DroverPlan") U ∧ va_Nw (Cond.methodLinkNest RX2 26 yX5_bringOf "DroverPlan") U ∧ va_Nw (Cond.methodLinkNest RX2 32 yX5_isFetch "DroverPlan") U ∧ va_Nw (Cond.methodLinkNest RX0 52 yX5_fetchOf "DroverPlan") U ∧ va_Nw (Cond.methodLinkNest RX0 59 yX5_bringOf "DroverPlan") U ∧ va_AO "DroverPlan$Vehicle" U
theorem q_mn_X5_25 {U : State} (h : NW U) : va_Nw (Cond.methodLinkNest RX5 25 yX3_init "DroverPlan") U := h.1
theorem q_mn_X5_39 {U : State} (h : NW U) : va_Nw (Cond.methodLinkNest RX5 39 yX1_init "DroverPlan") U := h.2.1
theorem q_mn_X2_23 {U : State} (h : NW U) : va_Nw (Cond.methodLinkNest RX2 23 yX5_jobOf "DroverPlan") U := h.2.2.1
theorem q_mn_X2_44 {U : State} (h : NW U) : va_Nw (Cond.methodLinkNest RX2 44 yX5_fetchOf "DroverPlan") U := h.2.2.2.1
theorem q_mn_X2_26 {U : State} (h : NW U) : va_Nw (Cond.methodLinkNest RX2 26 yX5_bringOf "DroverPlan") U := h.2.2.2.2.1
theorem q_mn_X2_32 {U : State} (h : NW U) : va_Nw (Cond.methodLinkNest RX2 32 yX5_isFetch "DroverPlan") U := h.2.2.2.2.2.1
theorem q_mn_X0_52 {U : State} (h : NW U) : va_Nw (Cond.methodLinkNest RX0 52 yX5_fetchOf "DroverPlan") U := h.2.2.2.2.2.2.1
theorem q_mn_X0_59 {U : State} (h : NW U) : va_Nw (Cond.methodLinkNest RX0 59 yX5_bringOf "DroverPlan") U := h.2.2.2.2.2.2.2.1
theorem NW.ao {U : State} (h : NW U) : va_AO "DroverPlan$Vehicle" U := h.2.2.2.2.2.2.2.2
theorem NW.warm {s U : State} (hW : s.WarmedH U.vm) (h : NW s) : NW U := ⟨va_Nw.warmM hW (q_mn_X5_25 h), va_Nw.warmM hW (q_mn_X5_39 h), va_Nw.warmM hW (q_mn_X2_23 h), va_Nw.warmM hW (q_mn_X2_44 h), va_Nw.warmM hW (q_mn_X2_26 h), va_Nw.warmM hW (q_mn_X2_32 h), va_Nw.warmM hW (q_mn_X0_52 h), va_Nw.warmM hW (q_mn_X0_59 h), va_AO.moved hW.alike h.ao⟩
theorem NW.same {s U : State} (hv : s.vm = U.vm) (h : NW s) : NW U := ⟨va_Nw.same rfl hv (q_mn_X5_25 h), va_Nw.same rfl hv (q_mn_X5_39 h), va_Nw.same rfl hv (q_mn_X2_23 h), va_Nw.same rfl hv (q_mn_X2_44 h), va_Nw.same rfl hv (q_mn_X2_26 h), va_Nw.same rfl hv (q_mn_X2_32 h), va_Nw.same rfl hv (q_mn_X0_52 h), va_Nw.same rfl hv (q_mn_X0_59 h), va_AO.moved (hv ▸ Vm.Alike.refl _) h.ao⟩
/-- the classes of the program's own objects -/
abbrev cls : List vw_C := [(RX0, TX0, 12), (RX1, TX1, 6), (RX2, TX2, 2), (RX3, TX3, 10), (RX4, TX4, 11), (RX5, TX5, 9)]
