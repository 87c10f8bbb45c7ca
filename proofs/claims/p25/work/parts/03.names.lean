/-! ===== BEGIN printed: names, fields, word lists, decode rows ===== -/
def RX0 : String := "Connectory$Booking"
def TX0 : u_T := fun k => match k with
  | 0 => ("Connectory$Booking", "journey", "LConnectory$Journey;", true)
  | 1 => ("Connectory$Booking", "fare", "I", true)
  | 2 => ("Connectory$Booking", "made", "I", true)
  | _ => ("Connectory$Booking", "state", "I", false)
def tyX0 : Nat → FieldType := fun k => match k with
  | 0 => .object "Connectory$Journey"
  | 1 => .int
  | 2 => .int
  | _ => .int
theorem nmX0 : ∀ a, a < 4 → ∀ b, b < 4 → a ≠ b → (TX0 a).2.1 ≠ (TX0 b).2.1 := by decide +kernel
theorem tyX0_ok : ∀ k, k < 4 → parseFieldDescriptor (TX0 k).2.2.1 = some (tyX0 k) := by decide +kernel
abbrev cX0_init : ByteArray := prog_2_method_1_code
def yX0_init : MethodName := ⟨RX0, "<init>", "(LConnectory$Journey;II)V"⟩
abbrev cX0_isOpen : ByteArray := prog_2_method_2_code
def yX0_isOpen : MethodName := ⟨RX0, "isOpen", "()Z"⟩
abbrev cX0_amount : ByteArray := prog_2_method_3_code
def yX0_amount : MethodName := ⟨RX0, "amount", "()I"⟩
def RX1 : String := "Connectory$Fares"
def TX1 : u_T := fun k => match k with
  | 0 => ("Connectory$Fares", "bases", "[I", true)
  | 1 => ("Connectory$Fares", "cents", "[I", true)
  | 2 => ("Connectory$Fares", "surcharges", "[I", true)
  | _ => ("Connectory$Fares", "least", "[I", true)
def tyX1 : Nat → FieldType := fun k => match k with
  | 0 => .array .int
  | 1 => .array .int
  | 2 => .array .int
  | _ => .array .int
theorem nmX1 : ∀ a, a < 4 → ∀ b, b < 4 → a ≠ b → (TX1 a).2.1 ≠ (TX1 b).2.1 := by decide +kernel
theorem tyX1_ok : ∀ k, k < 4 → parseFieldDescriptor (TX1 k).2.2.1 = some (tyX1 k) := by decide +kernel
abbrev cX1_init : ByteArray := prog_3_method_1_code
def yX1_init : MethodName := ⟨RX1, "<init>", "()V"⟩
abbrev cX1_setPrices : ByteArray := prog_3_method_2_code
def yX1_setPrices : MethodName := ⟨RX1, "setPrices", "(IIII)V"⟩
abbrev cX1_ticket : ByteArray := prog_3_method_3_code
def yX1_ticket : MethodName := ⟨RX1, "ticket", "(II)I"⟩
abbrev cX1_fareOf : ByteArray := prog_3_method_4_code
def yX1_fareOf : MethodName := ⟨RX1, "fareOf", "(LConnectory$Journey;)I"⟩
abbrev cX1_ticketsFrom : ByteArray := prog_3_method_5_code
def yX1_ticketsFrom : MethodName := ⟨RX1, "ticketsFrom", "(LConnectory$Ride;I)V"⟩
def RX2 : String := "Connectory$Journey"
def TX2 : u_T := fun k => match k with
  | 0 => ("Connectory$Journey", "time", "I", true)
  | 1 => ("Connectory$Journey", "first", "LConnectory$Ride;", true)
  | 2 => ("Connectory$Journey", "size", "I", true)
  | 3 => ("Connectory$Journey", "walking", "I", true)
  | _ => ("Connectory$Journey", "end", "I", true)
def tyX2 : Nat → FieldType := fun k => match k with
  | 0 => .int
  | 1 => .object "Connectory$Ride"
  | 2 => .int
  | 3 => .int
  | _ => .int
theorem nmX2 : ∀ a, a < 5 → ∀ b, b < 5 → a ≠ b → (TX2 a).2.1 ≠ (TX2 b).2.1 := by decide +kernel
theorem tyX2_ok : ∀ k, k < 5 → parseFieldDescriptor (TX2 k).2.2.1 = some (tyX2 k) := by decide +kernel
abbrev cX2_init : ByteArray := prog_4_method_1_code
def yX2_init : MethodName := ⟨RX2, "<init>", "(ILConnectory$Ride;III)V"⟩
abbrev cX2_rideAt : ByteArray := prog_4_method_2_code
def yX2_rideAt : MethodName := ⟨RX2, "rideAt", "(I)LConnectory$Ride;"⟩
abbrev cX2_goesBy : ByteArray := prog_4_method_3_code
def yX2_goesBy : MethodName := ⟨RX2, "goesBy", "(LConnectory$Trip;I)Z"⟩
abbrev cX2_chance : ByteArray := prog_4_method_4_code
def yX2_chance : MethodName := ⟨RX2, "chance", "()D"⟩
abbrev cX2_carbon : ByteArray := prog_4_method_5_code
def yX2_carbon : MethodName := ⟨RX2, "carbon", "()D"⟩
abbrev cX2_score : ByteArray := prog_4_method_6_code
def yX2_score : MethodName := ⟨RX2, "score", "()D"⟩
abbrev cX2_isBroken : ByteArray := prog_4_method_7_code
def yX2_isBroken : MethodName := ⟨RX2, "isBroken", "()Z"⟩
abbrev cX2_endNow : ByteArray := prog_4_method_8_code
def yX2_endNow : MethodName := ⟨RX2, "endNow", "()I"⟩
def RX3 : String := "Connectory$Network"
def TX3 : u_T := fun k => match k with
  | 0 => ("Connectory$Network", "transfers", "[I", true)
  | 1 => ("Connectory$Network", "walks", "[I", true)
  | 2 => ("Connectory$Network", "trips", "Ljava/util/ArrayList;", true)
  | _ => ("Connectory$Network", "stops", "I", false)
def tyX3 : Nat → FieldType := fun k => match k with
  | 0 => .array .int
  | 1 => .array .int
  | 2 => .object "java/util/ArrayList"
  | _ => .int
theorem nmX3 : ∀ a, a < 4 → ∀ b, b < 4 → a ≠ b → (TX3 a).2.1 ≠ (TX3 b).2.1 := by decide +kernel
theorem tyX3_ok : ∀ k, k < 4 → parseFieldDescriptor (TX3 k).2.2.1 = some (tyX3 k) := by decide +kernel
abbrev cX3_init : ByteArray := prog_5_method_1_code
def yX3_init : MethodName := ⟨RX3, "<init>", "()V"⟩
abbrev cX3_addStop : ByteArray := prog_5_method_2_code
def yX3_addStop : MethodName := ⟨RX3, "addStop", "(I)I"⟩
abbrev cX3_transferAt : ByteArray := prog_5_method_3_code
def yX3_transferAt : MethodName := ⟨RX3, "transferAt", "(I)I"⟩
abbrev cX3_walk : ByteArray := prog_5_method_4_code
def yX3_walk : MethodName := ⟨RX3, "walk", "(II)I"⟩
abbrev cX3_setWalk : ByteArray := prog_5_method_5_code
def yX3_setWalk : MethodName := ⟨RX3, "setWalk", "(III)V"⟩
def RX4 : String := "Connectory$Ride"
def TX4 : u_T := fun k => match k with
  | 0 => ("Connectory$Ride", "trip", "LConnectory$Trip;", true)
  | 1 => ("Connectory$Ride", "day", "I", true)
  | 2 => ("Connectory$Ride", "board", "I", true)
  | 3 => ("Connectory$Ride", "leave", "I", true)
  | 4 => ("Connectory$Ride", "next", "LConnectory$Ride;", true)
  | _ => ("Connectory$Ride", "changing", "I", false)
def tyX4 : Nat → FieldType := fun k => match k with
  | 0 => .object "Connectory$Trip"
  | 1 => .int
  | 2 => .int
  | 3 => .int
  | 4 => .object "Connectory$Ride"
  | _ => .int
theorem nmX4 : ∀ a, a < 6 → ∀ b, b < 6 → a ≠ b → (TX4 a).2.1 ≠ (TX4 b).2.1 := by decide +kernel
theorem tyX4_ok : ∀ k, k < 6 → parseFieldDescriptor (TX4 k).2.2.1 = some (tyX4 k) := by decide +kernel
abbrev cX4_init : ByteArray := prog_6_method_1_code
def yX4_init : MethodName := ⟨RX4, "<init>", "(LConnectory$Trip;IIILConnectory$Ride;)V"⟩
abbrev cX4_boardsAt : ByteArray := prog_6_method_2_code
def yX4_boardsAt : MethodName := ⟨RX4, "boardsAt", "()I"⟩
abbrev cX4_departs : ByteArray := prog_6_method_3_code
def yX4_departs : MethodName := ⟨RX4, "departs", "()I"⟩
abbrev cX4_arrives : ByteArray := prog_6_method_4_code
def yX4_arrives : MethodName := ⟨RX4, "arrives", "()I"⟩
abbrev cX4_length : ByteArray := prog_6_method_5_code
def yX4_length : MethodName := ⟨RX4, "length", "()I"⟩
abbrev cX4_tell : ByteArray := prog_6_method_6_code
def yX4_tell : MethodName := ⟨RX4, "tell", "(I)I"⟩
def RX5 : String := "Connectory$Search"
def TX5 : u_T := fun k => match k with
  | 0 => ("Connectory$Search", "network", "LConnectory$Network;", true)
  | 1 => ("Connectory$Search", "arrivals", "[I", true)
  | 2 => ("Connectory$Search", "readies", "[I", true)
  | 3 => ("Connectory$Search", "from", "I", false)
  | 4 => ("Connectory$Search", "to", "I", false)
  | 5 => ("Connectory$Search", "time", "I", false)
  | 6 => ("Connectory$Search", "firstDay", "I", false)
  | _ => ("Connectory$Search", "lastDay", "I", false)
def tyX5 : Nat → FieldType := fun k => match k with
  | 0 => .object "Connectory$Network"
  | 1 => .array .int
  | 2 => .array .int
  | 3 => .int
  | 4 => .int
  | 5 => .int
  | 6 => .int
  | _ => .int
theorem nmX5 : ∀ a, a < 8 → ∀ b, b < 8 → a ≠ b → (TX5 a).2.1 ≠ (TX5 b).2.1 := by decide +kernel
theorem tyX5_ok : ∀ k, k < 8 → parseFieldDescriptor (TX5 k).2.2.1 = some (tyX5 k) := by decide +kernel
abbrev cX5_init : ByteArray := prog_7_method_1_code
def yX5_init : MethodName := ⟨RX5, "<init>", "(LConnectory$Network;)V"⟩
abbrev cX5_seek : ByteArray := prog_7_method_2_code
def yX5_seek : MethodName := ⟨RX5, "seek", "(IIII)V"⟩
abbrev cX5_setOut : ByteArray := prog_7_method_3_code
def yX5_setOut : MethodName := ⟨RX5, "setOut", "()V"⟩
abbrev cX5_rideOn : ByteArray := prog_7_method_4_code
def yX5_rideOn : MethodName := ⟨RX5, "rideOn", "(I)V"⟩
abbrev cX5_rideRun : ByteArray := prog_7_method_5_code
def yX5_rideRun : MethodName := ⟨RX5, "rideRun", "(LConnectory$Trip;II)V"⟩
abbrev cX5_changeAll : ByteArray := prog_7_method_6_code
def yX5_changeAll : MethodName := ⟨RX5, "changeAll", "(I)V"⟩
abbrev cX5_arrivalAt : ByteArray := prog_7_method_7_code
def yX5_arrivalAt : MethodName := ⟨RX5, "arrivalAt", "(II)I"⟩
abbrev cX5_readyAt : ByteArray := prog_7_method_8_code
def yX5_readyAt : MethodName := ⟨RX5, "readyAt", "(II)I"⟩
abbrev cX5_changing : ByteArray := prog_7_method_9_code
def yX5_changing : MethodName := ⟨RX5, "changing", "(II)I"⟩
abbrev cX5_readyFrom : ByteArray := prog_7_method_10_code
def yX5_readyFrom : MethodName := ⟨RX5, "readyFrom", "(III)I"⟩
abbrev cX5_endFrom : ByteArray := prog_7_method_11_code
def yX5_endFrom : MethodName := ⟨RX5, "endFrom", "(II)I"⟩
abbrev cX5_end : ByteArray := prog_7_method_12_code
def yX5_end : MethodName := ⟨RX5, "end", "(I)I"⟩
abbrev cX5_tell : ByteArray := prog_7_method_13_code
def yX5_tell : MethodName := ⟨RX5, "tell", "(I)LConnectory$Journey;"⟩
abbrev cX5_lastStop : ByteArray := prog_7_method_14_code
def yX5_lastStop : MethodName := ⟨RX5, "lastStop", "(II)I"⟩
abbrev cX5_rideTo : ByteArray := prog_7_method_15_code
def yX5_rideTo : MethodName := ⟨RX5, "rideTo", "(IILConnectory$Ride;)LConnectory$Ride;"⟩
abbrev cX5_leavingPlace : ByteArray := prog_7_method_16_code
def yX5_leavingPlace : MethodName := ⟨RX5, "leavingPlace", "(LConnectory$Trip;III)I"⟩
abbrev cX5_boardingPlace : ByteArray := prog_7_method_17_code
def yX5_boardingPlace : MethodName := ⟨RX5, "boardingPlace", "(LConnectory$Trip;III)I"⟩
abbrev cX5_stopAhead : ByteArray := prog_7_method_18_code
def yX5_stopAhead : MethodName := ⟨RX5, "stopAhead", "(LConnectory$Ride;I)I"⟩
abbrev cX5_minutesAhead : ByteArray := prog_7_method_19_code
def yX5_minutesAhead : MethodName := ⟨RX5, "minutesAhead", "(ILConnectory$Ride;I)I"⟩
def RX6 : String := "Connectory$Trial"
def TX6 : u_T := fun k => match k with
  | 0 => ("Connectory$Trial", "network", "LConnectory$Network;", true)
  | 1 => ("Connectory$Trial", "to", "I", false)
  | 2 => ("Connectory$Trial", "firstDay", "I", false)
  | 3 => ("Connectory$Trial", "lastDay", "I", false)
  | _ => ("Connectory$Trial", "least", "I", false)
def tyX6 : Nat → FieldType := fun k => match k with
  | 0 => .object "Connectory$Network"
  | 1 => .int
  | 2 => .int
  | 3 => .int
  | _ => .int
theorem nmX6 : ∀ a, a < 5 → ∀ b, b < 5 → a ≠ b → (TX6 a).2.1 ≠ (TX6 b).2.1 := by decide +kernel
theorem tyX6_ok : ∀ k, k < 5 → parseFieldDescriptor (TX6 k).2.2.1 = some (tyX6 k) := by decide +kernel
abbrev cX6_init : ByteArray := prog_8_method_1_code
def yX6_init : MethodName := ⟨RX6, "<init>", "(LConnectory$Network;)V"⟩
abbrev cX6_tryAll : ByteArray := prog_8_method_2_code
def yX6_tryAll : MethodName := ⟨RX6, "tryAll", "(IIII)I"⟩
abbrev cX6_goOn : ByteArray := prog_8_method_3_code
def yX6_goOn : MethodName := ⟨RX6, "goOn", "(IIII)V"⟩
abbrev cX6_tryRun : ByteArray := prog_8_method_4_code
def yX6_tryRun : MethodName := ⟨RX6, "tryRun", "(LConnectory$Trip;IIIII)V"⟩
abbrev cX6_leaveAt : ByteArray := prog_8_method_5_code
def yX6_leaveAt : MethodName := ⟨RX6, "leaveAt", "(III)V"⟩
def RX7 : String := "Connectory$Trip"
def TX7 : u_T := fun k => match k with
  | 0 => ("Connectory$Trip", "number", "I", true)
  | 1 => ("Connectory$Trip", "mode", "I", true)
  | 2 => ("Connectory$Trip", "firm", "I", true)
  | 3 => ("Connectory$Trip", "seats", "I", true)
  | 4 => ("Connectory$Trip", "stops", "[I", true)
  | 5 => ("Connectory$Trip", "reached", "[I", true)
  | 6 => ("Connectory$Trip", "left", "[I", true)
  | 7 => ("Connectory$Trip", "there", "[Z", true)
  | 8 => ("Connectory$Trip", "delays", "[I", true)
  | 9 => ("Connectory$Trip", "notes", "[I", true)
  | 10 => ("Connectory$Trip", "size", "I", false)
  | _ => ("Connectory$Trip", "noted", "I", false)
def tyX7 : Nat → FieldType := fun k => match k with
  | 0 => .int
  | 1 => .int
  | 2 => .int
  | 3 => .int
  | 4 => .array .int
  | 5 => .array .int
  | 6 => .array .int
  | 7 => .array .boolean
  | 8 => .array .int
  | 9 => .array .int
  | 10 => .int
  | _ => .int
theorem nmX7 : ∀ a, a < 12 → ∀ b, b < 12 → a ≠ b → (TX7 a).2.1 ≠ (TX7 b).2.1 := by decide +kernel
theorem tyX7_ok : ∀ k, k < 12 → parseFieldDescriptor (TX7 k).2.2.1 = some (tyX7 k) := by decide +kernel
abbrev cX7_init : ByteArray := prog_9_method_1_code
def yX7_init : MethodName := ⟨RX7, "<init>", "(IIII)V"⟩
abbrev cX7_setWeek : ByteArray := prog_9_method_2_code
def yX7_setWeek : MethodName := ⟨RX7, "setWeek", "(I)V"⟩
abbrev cX7_begin : ByteArray := prog_9_method_3_code
def yX7_begin : MethodName := ⟨RX7, "begin", "(II)V"⟩
abbrev cX7_goOn : ByteArray := prog_9_method_4_code
def yX7_goOn : MethodName := ⟨RX7, "goOn", "(III)V"⟩
abbrev cX7_isThere : ByteArray := prog_9_method_5_code
def yX7_isThere : MethodName := ⟨RX7, "isThere", "(I)Z"⟩
abbrev cX7_setThere : ByteArray := prog_9_method_6_code
def yX7_setThere : MethodName := ⟨RX7, "setThere", "(IZ)V"⟩
abbrev cX7_goes : ByteArray := prog_9_method_7_code
def yX7_goes : MethodName := ⟨RX7, "goes", "(I)Z"⟩
abbrev cX7_stopAt : ByteArray := prog_9_method_8_code
def yX7_stopAt : MethodName := ⟨RX7, "stopAt", "(I)I"⟩
abbrev cX7_reaches : ByteArray := prog_9_method_9_code
def yX7_reaches : MethodName := ⟨RX7, "reaches", "(II)I"⟩
abbrev cX7_leaves : ByteArray := prog_9_method_10_code
def yX7_leaves : MethodName := ⟨RX7, "leaves", "(II)I"⟩
abbrev cX7_chanceWithin : ByteArray := prog_9_method_11_code
def yX7_chanceWithin : MethodName := ⟨RX7, "chanceWithin", "(I)D"⟩
def RX8 : String := "Connectory"
def TX8 : u_T := fun k => match k with
  | 0 => ("Connectory", "network", "LConnectory$Network;", true)
  | 1 => ("Connectory", "search", "LConnectory$Search;", true)
  | 2 => ("Connectory", "trial", "LConnectory$Trial;", true)
  | 3 => ("Connectory", "fares", "LConnectory$Fares;", true)
  | 4 => ("Connectory", "bookings", "Ljava/util/ArrayList;", true)
  | _ => ("Connectory", "now", "I", false)
def tyX8 : Nat → FieldType := fun k => match k with
  | 0 => .object "Connectory$Network"
  | 1 => .object "Connectory$Search"
  | 2 => .object "Connectory$Trial"
  | 3 => .object "Connectory$Fares"
  | 4 => .object "java/util/ArrayList"
  | _ => .int
theorem nmX8 : ∀ a, a < 6 → ∀ b, b < 6 → a ≠ b → (TX8 a).2.1 ≠ (TX8 b).2.1 := by decide +kernel
theorem tyX8_ok : ∀ k, k < 6 → parseFieldDescriptor (TX8 k).2.2.1 = some (tyX8 k) := by decide +kernel
abbrev cX8_init : ByteArray := prog_1_method_1_code
def yX8_init : MethodName := ⟨RX8, "<init>", "()V"⟩
abbrev cX8_stop : ByteArray := prog_1_method_2_code
def yX8_stop : MethodName := ⟨RX8, "stop", "(I)I"⟩
abbrev cX8_footway : ByteArray := prog_1_method_3_code
def yX8_footway : MethodName := ⟨RX8, "footway", "(III)I"⟩
abbrev cX8_trip : ByteArray := prog_1_method_4_code
def yX8_trip : MethodName := ⟨RX8, "trip", "(IIIIII)I"⟩
abbrev cX8_calls : ByteArray := prog_1_method_5_code
def yX8_calls : MethodName := ⟨RX8, "calls", "(IIII)I"⟩
abbrev cX8_runs : ByteArray := prog_1_method_6_code
def yX8_runs : MethodName := ⟨RX8, "runs", "(IIZ)Z"⟩
abbrev cX8_delay : ByteArray := prog_1_method_7_code
def yX8_delay : MethodName := ⟨RX8, "delay", "(III)I"⟩
abbrev cX8_note : ByteArray := prog_1_method_8_code
def yX8_note : MethodName := ⟨RX8, "note", "(II)I"⟩
abbrev cX8_prices : ByteArray := prog_1_method_9_code
def yX8_prices : MethodName := ⟨RX8, "prices", "(IIII)V"⟩
abbrev cX8_arrival : ByteArray := prog_1_method_10_code
def yX8_arrival : MethodName := ⟨RX8, "arrival", "(IIII)I"⟩
abbrev cX8_arrivalAnew : ByteArray := prog_1_method_11_code
def yX8_arrivalAnew : MethodName := ⟨RX8, "arrivalAnew", "(IIII)I"⟩
abbrev cX8_front : ByteArray := prog_1_method_12_code
def yX8_front : MethodName := ⟨RX8, "front", "(III)I"⟩
abbrev cX8_ride : ByteArray := prog_1_method_13_code
def yX8_ride : MethodName := ⟨RX8, "ride", "(IIIIII)I"⟩
abbrev cX8_journey : ByteArray := prog_1_method_14_code
def yX8_journey : MethodName := ⟨RX8, "journey", "(IIIII)D"⟩
abbrev cX8_best : ByteArray := prog_1_method_15_code
def yX8_best : MethodName := ⟨RX8, "best", "(III)I"⟩
abbrev cX8_book : ByteArray := prog_1_method_16_code
def yX8_book : MethodName := ⟨RX8, "book", "(IIII)I"⟩
abbrev cX8_buy : ByteArray := prog_1_method_17_code
def yX8_buy : MethodName := ⟨RX8, "buy", "(I)I"⟩
abbrev cX8_right : ByteArray := prog_1_method_18_code
def yX8_right : MethodName := ⟨RX8, "right", "(I)I"⟩
abbrev cX8_claim : ByteArray := prog_1_method_19_code
def yX8_claim : MethodName := ⟨RX8, "claim", "(I)I"⟩
abbrev cX8_concerned : ByteArray := prog_1_method_20_code
def yX8_concerned : MethodName := ⟨RX8, "concerned", "(II)I"⟩
abbrev cX8_seats : ByteArray := prog_1_method_21_code
def yX8_seats : MethodName := ⟨RX8, "seats", "(II)I"⟩
abbrev cX8_pass : ByteArray := prog_1_method_22_code
def yX8_pass : MethodName := ⟨RX8, "pass", "(I)I"⟩
abbrev cX8_ofBooking : ByteArray := prog_1_method_23_code
def yX8_ofBooking : MethodName := ⟨RX8, "ofBooking", "(II)I"⟩
abbrev cX8_needRange : ByteArray := prog_1_method_24_code
def yX8_needRange : MethodName := ⟨RX8, "needRange", "(III)V"⟩
abbrev cX8_needFirm : ByteArray := prog_1_method_25_code
def yX8_needFirm : MethodName := ⟨RX8, "needFirm", "(I)V"⟩
abbrev cX8_needStop : ByteArray := prog_1_method_26_code
def yX8_needStop : MethodName := ⟨RX8, "needStop", "(I)V"⟩
abbrev cX8_needWay : ByteArray := prog_1_method_27_code
def yX8_needWay : MethodName := ⟨RX8, "needWay", "(III)V"⟩
abbrev cX8_tripOf : ByteArray := prog_1_method_28_code
def yX8_tripOf : MethodName := ⟨RX8, "tripOf", "(I)LConnectory$Trip;"⟩
abbrev cX8_bookingOf : ByteArray := prog_1_method_29_code
def yX8_bookingOf : MethodName := ⟨RX8, "bookingOf", "(I)LConnectory$Booking;"⟩
abbrev cX8_timeOrNone : ByteArray := prog_1_method_30_code
def yX8_timeOrNone : MethodName := ⟨RX8, "timeOrNone", "(I)I"⟩
abbrev cX8_isBooked : ByteArray := prog_1_method_31_code
def yX8_isBooked : MethodName := ⟨RX8, "isBooked", "(LConnectory$Trip;)Z"⟩
abbrev cX8_hasSeats : ByteArray := prog_1_method_32_code
def yX8_hasSeats : MethodName := ⟨RX8, "hasSeats", "(LConnectory$Journey;)Z"⟩
abbrev cX8_freeSeats : ByteArray := prog_1_method_33_code
def yX8_freeSeats : MethodName := ⟨RX8, "freeSeats", "(LConnectory$Trip;I)I"⟩
abbrev cX8_at : ByteArray := prog_1_method_34_code
def yX8_at : MethodName := ⟨RX8, "at", "([II)I"⟩
abbrev cX8_put : ByteArray := prog_1_method_35_code
def yX8_put : MethodName := ⟨RX8, "put", "([III)V"⟩
abbrev cX8_firstDayFor : ByteArray := prog_1_method_36_code
def yX8_firstDayFor : MethodName := ⟨RX8, "firstDayFor", "(I)I"⟩
abbrev cX8_lastDayFor : ByteArray := prog_1_method_37_code
def yX8_lastDayFor : MethodName := ⟨RX8, "lastDayFor", "(I)I"⟩
def RX9 : String := "ConnectoryModel"
def TX9 : u_T := fun k => match k with
  | _ => ("", "", "", false)
def tyX9 : Nat → FieldType := fun k => match k with
  | _ => .int
theorem nmX9 : ∀ a, a < 0 → ∀ b, b < 0 → a ≠ b → (TX9 a).2.1 ≠ (TX9 b).2.1 := by decide +kernel
theorem tyX9_ok : ∀ k, k < 0 → parseFieldDescriptor (TX9 k).2.2.1 = some (tyX9 k) := by decide +kernel
def RJx145de : String := "java/io/Serializable"
def TJx145de : u_T := fun k => match k with
  | _ => ("", "", "", false)
def tyJx145de : Nat → FieldType := fun k => match k with
  | _ => .int
theorem nmJx145de : ∀ a, a < 0 → ∀ b, b < 0 → a ≠ b → (TJx145de a).2.1 ≠ (TJx145de b).2.1 := by decide +kernel
theorem tyJx145de_ok : ∀ k, k < 0 → parseFieldDescriptor (TJx145de k).2.2.1 = some (tyJx145de k) := by decide +kernel
def RJx8e188 : String := "java/lang/Cloneable"
def TJx8e188 : u_T := fun k => match k with
  | _ => ("", "", "", false)
def tyJx8e188 : Nat → FieldType := fun k => match k with
  | _ => .int
theorem nmJx8e188 : ∀ a, a < 0 → ∀ b, b < 0 → a ≠ b → (TJx8e188 a).2.1 ≠ (TJx8e188 b).2.1 := by decide +kernel
theorem tyJx8e188_ok : ∀ k, k < 0 → parseFieldDescriptor (TJx8e188 k).2.2.1 = some (tyJx8e188 k) := by decide +kernel
def RJxab1ab : String := "java/lang/Iterable"
def TJxab1ab : u_T := fun k => match k with
  | _ => ("", "", "", false)
def tyJxab1ab : Nat → FieldType := fun k => match k with
  | _ => .int
theorem nmJxab1ab : ∀ a, a < 0 → ∀ b, b < 0 → a ≠ b → (TJxab1ab a).2.1 ≠ (TJxab1ab b).2.1 := by decide +kernel
theorem tyJxab1ab_ok : ∀ k, k < 0 → parseFieldDescriptor (TJxab1ab k).2.2.1 = some (tyJxab1ab k) := by decide +kernel
def RJ9 : String := "java/lang/Math"
def TJ9 : u_T := fun k => match k with
  | _ => ("", "", "", false)
def tyJ9 : Nat → FieldType := fun k => match k with
  | _ => .int
theorem nmJ9 : ∀ a, a < 0 → ∀ b, b < 0 → a ≠ b → (TJ9 a).2.1 ≠ (TJ9 b).2.1 := by decide +kernel
theorem tyJ9_ok : ∀ k, k < 0 → parseFieldDescriptor (TJ9 k).2.2.1 = some (tyJ9 k) := by decide +kernel
abbrev cJ9_max_7cf53 : ByteArray := prog_19_method_65_code
def yJ9_max_7cf53 : MethodName := ⟨RJ9, "max", "(II)I"⟩
abbrev cJ9_min_7cf53 : ByteArray := prog_19_method_69_code
def yJ9_min_7cf53 : MethodName := ⟨RJ9, "min", "(II)I"⟩
def RJ0 : String := "java/lang/String"
def TJ0 : u_T := fun k => match k with
  | _ => ("", "", "", false)
def tyJ0 : Nat → FieldType := fun k => match k with
  | _ => .int
theorem nmJ0 : ∀ a, a < 0 → ∀ b, b < 0 → a ≠ b → (TJ0 a).2.1 ≠ (TJ0 b).2.1 := by decide +kernel
theorem tyJ0_ok : ∀ k, k < 0 → parseFieldDescriptor (TJ0 k).2.2.1 = some (tyJ0 k) := by decide +kernel
def RJ10 : String := "java/lang/System"
def TJ10 : u_T := fun k => match k with
  | _ => ("", "", "", false)
def tyJ10 : Nat → FieldType := fun k => match k with
  | _ => .int
theorem nmJ10 : ∀ a, a < 0 → ∀ b, b < 0 → a ≠ b → (TJ10 a).2.1 ≠ (TJ10 b).2.1 := by decide +kernel
theorem tyJ10_ok : ∀ k, k < 0 → parseFieldDescriptor (TJ10 k).2.2.1 = some (tyJ10 k) := by decide +kernel
def RJxa1e45 : String := "java/util/AbstractCollection"
def TJxa1e45 : u_T := fun k => match k with
  | _ => ("", "", "", false)
def tyJxa1e45 : Nat → FieldType := fun k => match k with
  | _ => .int
theorem nmJxa1e45 : ∀ a, a < 0 → ∀ b, b < 0 → a ≠ b → (TJxa1e45 a).2.1 ≠ (TJxa1e45 b).2.1 := by decide +kernel
theorem tyJxa1e45_ok : ∀ k, k < 0 → parseFieldDescriptor (TJxa1e45 k).2.2.1 = some (tyJxa1e45 k) := by decide +kernel
abbrev cJxa1e45_init_da8c8 : ByteArray := prog_24_method_1_code
def yJxa1e45_init_da8c8 : MethodName := ⟨RJxa1e45, "<init>", "()V"⟩
def RJxc12de : String := "java/util/AbstractList"
def TJxc12de : u_T := fun k => match k with
  | _ => ("", "", "", false)
def tyJxc12de : Nat → FieldType := fun k => match k with
  | _ => .int
theorem nmJxc12de : ∀ a, a < 0 → ∀ b, b < 0 → a ≠ b → (TJxc12de a).2.1 ≠ (TJxc12de b).2.1 := by decide +kernel
theorem tyJxc12de_ok : ∀ k, k < 0 → parseFieldDescriptor (TJxc12de k).2.2.1 = some (tyJxc12de k) := by decide +kernel
abbrev cJxc12de_init_da8c8 : ByteArray := prog_25_method_1_code
def yJxc12de_init_da8c8 : MethodName := ⟨RJxc12de, "<init>", "()V"⟩
def RJx4a65c : String := "java/util/ArrayList"
def TJx4a65c : u_T := fun k => match k with
  | 0 => ("java/util/AbstractList", "modCount", "I", false)
  | 1 => ("java/util/ArrayList", "elementData", "[Ljava/lang/Object;", false)
  | _ => ("java/util/ArrayList", "size", "I", false)
def tyJx4a65c : Nat → FieldType := fun k => match k with
  | 0 => .int
  | 1 => .array (.object "java/lang/Object")
  | _ => .int
theorem nmJx4a65c : ∀ a, a < 3 → ∀ b, b < 3 → a ≠ b → (TJx4a65c a).2.1 ≠ (TJx4a65c b).2.1 := by decide +kernel
theorem tyJx4a65c_ok : ∀ k, k < 3 → parseFieldDescriptor (TJx4a65c k).2.2.1 = some (tyJx4a65c k) := by decide +kernel
abbrev cJx4a65c_init_da8c8 : ByteArray := prog_26_method_2_code
def yJx4a65c_init_da8c8 : MethodName := ⟨RJx4a65c, "<init>", "()V"⟩
abbrev cJx4a65c_grow_92f84 : ByteArray := prog_26_method_6_code
def yJx4a65c_grow_92f84 : MethodName := ⟨RJx4a65c, "grow", "(I)[Ljava/lang/Object;"⟩
abbrev cJx4a65c_grow_d5877 : ByteArray := prog_26_method_7_code
def yJx4a65c_grow_d5877 : MethodName := ⟨RJx4a65c, "grow", "()[Ljava/lang/Object;"⟩
abbrev cJx4a65c_size_8abf5 : ByteArray := prog_26_method_8_code
def yJx4a65c_size_8abf5 : MethodName := ⟨RJx4a65c, "size", "()I"⟩
abbrev cJx4a65c_elementData_915e3 : ByteArray := prog_26_method_18_code
def yJx4a65c_elementData_915e3 : MethodName := ⟨RJx4a65c, "elementData", "(I)Ljava/lang/Object;"⟩
abbrev cJx4a65c_get_915e3 : ByteArray := prog_26_method_20_code
def yJx4a65c_get_915e3 : MethodName := ⟨RJx4a65c, "get", "(I)Ljava/lang/Object;"⟩
abbrev cJx4a65c_add_72be8 : ByteArray := prog_26_method_24_code
def yJx4a65c_add_72be8 : MethodName := ⟨RJx4a65c, "add", "(Ljava/lang/Object;[Ljava/lang/Object;I)V"⟩
abbrev cJx4a65c_add_9ea2d : ByteArray := prog_26_method_25_code
def yJx4a65c_add_9ea2d : MethodName := ⟨RJx4a65c, "add", "(Ljava/lang/Object;)Z"⟩
def RJ7 : String := "java/util/Arrays"
def TJ7 : u_T := fun k => match k with
  | _ => ("", "", "", false)
def tyJ7 : Nat → FieldType := fun k => match k with
  | _ => .int
theorem nmJ7 : ∀ a, a < 0 → ∀ b, b < 0 → a ≠ b → (TJ7 a).2.1 ≠ (TJ7 b).2.1 := by decide +kernel
theorem tyJ7_ok : ∀ k, k < 0 → parseFieldDescriptor (TJ7 k).2.2.1 = some (tyJ7 k) := by decide +kernel
abbrev cJ7_fill_53178 : ByteArray := prog_27_method_103_code
def yJ7_fill_53178 : MethodName := ⟨RJ7, "fill", "([II)V"⟩
abbrev cJ7_copyOf_1904c : ByteArray := prog_27_method_119_code
def yJ7_copyOf_1904c : MethodName := ⟨RJ7, "copyOf", "([Ljava/lang/Object;I)[Ljava/lang/Object;"⟩
abbrev cJ7_copyOf_6403c : ByteArray := prog_27_method_120_code
def yJ7_copyOf_6403c : MethodName := ⟨RJ7, "copyOf", "([Ljava/lang/Object;ILjava/lang/Class;)[Ljava/lang/Object;"⟩
def RJx5ef63 : String := "java/util/Collection"
def TJx5ef63 : u_T := fun k => match k with
  | _ => ("", "", "", false)
def tyJx5ef63 : Nat → FieldType := fun k => match k with
  | _ => .int
theorem nmJx5ef63 : ∀ a, a < 0 → ∀ b, b < 0 → a ≠ b → (TJx5ef63 a).2.1 ≠ (TJx5ef63 b).2.1 := by decide +kernel
theorem tyJx5ef63_ok : ∀ k, k < 0 → parseFieldDescriptor (TJx5ef63 k).2.2.1 = some (tyJx5ef63 k) := by decide +kernel
def RJxbd725 : String := "java/util/List"
def TJxbd725 : u_T := fun k => match k with
  | _ => ("", "", "", false)
def tyJxbd725 : Nat → FieldType := fun k => match k with
  | _ => .int
theorem nmJxbd725 : ∀ a, a < 0 → ∀ b, b < 0 → a ≠ b → (TJxbd725 a).2.1 ≠ (TJxbd725 b).2.1 := by decide +kernel
theorem tyJxbd725_ok : ∀ k, k < 0 → parseFieldDescriptor (TJxbd725 k).2.2.1 = some (tyJxbd725 k) := by decide +kernel
def RJ15 : String := "java/util/Objects"
def TJ15 : u_T := fun k => match k with
  | _ => ("", "", "", false)
def tyJ15 : Nat → FieldType := fun k => match k with
  | _ => .int
theorem nmJ15 : ∀ a, a < 0 → ∀ b, b < 0 → a ≠ b → (TJ15 a).2.1 ≠ (TJ15 b).2.1 := by decide +kernel
theorem tyJ15_ok : ∀ k, k < 0 → parseFieldDescriptor (TJ15 k).2.2.1 = some (tyJ15 k) := by decide +kernel
abbrev cJ15_checkIndex_7cf53 : ByteArray := prog_30_method_17_code
def yJ15_checkIndex_7cf53 : MethodName := ⟨RJ15, "checkIndex", "(II)I"⟩
def RJxf0a74 : String := "java/util/RandomAccess"
def TJxf0a74 : u_T := fun k => match k with
  | _ => ("", "", "", false)
def tyJxf0a74 : Nat → FieldType := fun k => match k with
  | _ => .int
theorem nmJxf0a74 : ∀ a, a < 0 → ∀ b, b < 0 → a ≠ b → (TJxf0a74 a).2.1 ≠ (TJxf0a74 b).2.1 := by decide +kernel
theorem tyJxf0a74_ok : ∀ k, k < 0 → parseFieldDescriptor (TJxf0a74 k).2.2.1 = some (tyJxf0a74 k) := by decide +kernel
def RJxa66e6 : String := "java/util/SequencedCollection"
def TJxa66e6 : u_T := fun k => match k with
  | _ => ("", "", "", false)
def tyJxa66e6 : Nat → FieldType := fun k => match k with
  | _ => .int
theorem nmJxa66e6 : ∀ a, a < 0 → ∀ b, b < 0 → a ≠ b → (TJxa66e6 a).2.1 ≠ (TJxa66e6 b).2.1 := by decide +kernel
theorem tyJxa66e6_ok : ∀ k, k < 0 → parseFieldDescriptor (TJxa66e6 k).2.2.1 = some (tyJxa66e6 k) := by decide +kernel
def RJ8 : String := "jdk/internal/util/ArraysSupport"
def TJ8 : u_T := fun k => match k with
  | _ => ("", "", "", false)
def tyJ8 : Nat → FieldType := fun k => match k with
  | _ => .int
theorem nmJ8 : ∀ a, a < 0 → ∀ b, b < 0 → a ≠ b → (TJ8 a).2.1 ≠ (TJ8 b).2.1 := by decide +kernel
theorem tyJ8_ok : ∀ k, k < 0 → parseFieldDescriptor (TJ8 k).2.2.1 = some (tyJ8 k) := by decide +kernel
abbrev cJ8_newLength_cabcc : ByteArray := prog_33_method_27_code
def yJ8_newLength_cabcc : MethodName := ⟨RJ8, "newLength", "(III)I"⟩
abbrev cJ8_hugeLength_7cf53 : ByteArray := prog_33_method_28_code
def yJ8_hugeLength_7cf53 : MethodName := ⟨RJ8, "hugeLength", "(II)I"⟩
def RJ3 : String := "jdk/internal/util/Preconditions"
def TJ3 : u_T := fun k => match k with
  | _ => ("", "", "", false)
def tyJ3 : Nat → FieldType := fun k => match k with
  | _ => .int
theorem nmJ3 : ∀ a, a < 0 → ∀ b, b < 0 → a ≠ b → (TJ3 a).2.1 ≠ (TJ3 b).2.1 := by decide +kernel
theorem tyJ3_ok : ∀ k, k < 0 → parseFieldDescriptor (TJ3 k).2.2.1 = some (tyJ3 k) := by decide +kernel
abbrev cJ3_checkIndex_8e157 : ByteArray := prog_34_method_11_code
def yJ3_checkIndex_8e157 : MethodName := ⟨RJ3, "checkIndex", "(IILjava/util/function/BiFunction;)I"⟩
def RL : String := "ConnectoryLaw"
abbrev cL_cell : ByteArray := method_2_code
def yL_cell : MethodName := ⟨RL, "cell", "([II)I"⟩
abbrev cL_some : ByteArray := method_3_code
def yL_some : MethodName := ⟨RL, "some", "(II)I"⟩
abbrev cL_call : ByteArray := method_4_code
def yL_call : MethodName := ⟨RL, "call", "(LConnectory;IIIII)I"⟩
abbrev cL_does : ByteArray := method_5_code
def yL_does : MethodName := ⟨RL, "does", "(LConnectory;IIIII)I"⟩
abbrev cL_trip : ByteArray := method_6_code
def yL_trip : MethodName := ⟨RL, "trip", "(LConnectory;IIIIII)I"⟩
abbrev cL_ride : ByteArray := method_7_code
def yL_ride : MethodName := ⟨RL, "ride", "(LConnectory;IIIIII)I"⟩
abbrev cL_journey : ByteArray := method_8_code
def yL_journey : MethodName := ⟨RL, "journey", "(LConnectory;IIIII)D"⟩
abbrev cL_all : ByteArray := method_9_code
def yL_all : MethodName := ⟨RL, "all", "(LConnectory;[I)J"⟩
abbrev cL_both : ByteArray := method_10_code
def yL_both : MethodName := ⟨RL, "both", "(LConnectory;LConnectory;IIIII)I"⟩
abbrev cL_land : ByteArray := method_11_code
def yL_land : MethodName := ⟨RL, "land", "(LConnectory;LConnectory;[III)Z"⟩
abbrev cL_runs : ByteArray := method_12_code
def yL_runs : MethodName := ⟨RL, "runs", "(LConnectory;LConnectory;[III)Z"⟩
abbrev cL_ways : ByteArray := method_13_code
def yL_ways : MethodName := ⟨RL, "ways", "(LConnectory;LConnectory;[III)Z"⟩
abbrev cL_bookings : ByteArray := method_14_code
def yL_bookings : MethodName := ⟨RL, "bookings", "(LConnectory;LConnectory;[III)Z"⟩
abbrev cL_refused : ByteArray := method_15_code
def yL_refused : MethodName := ⟨RL, "refused", "(LConnectory;[I)Z"⟩
abbrev cL_law : ByteArray := code
def yL_law : MethodName := ⟨RL, "law", "([I)Z"⟩
abbrev vwCl : List vw_C := [(RJx4a65c, TJx4a65c, 3), (RX0, TX0, 4), (RX1, TX1, 4), (RX2, TX2, 5), (RX3, TX3, 4), (RX4, TX4, 6), (RX5, TX5, 8), (RX6, TX6, 5), (RX7, TX7, 12), (RX8, TX8, 6)]
/-! THE CLAIM OUT OF ONE WALK OF THE LAW'S BODY. Your part is whole_start (and what it stands on); all else here is the same for every law, but numbers. -/
def R_law : String := "ConnectoryLaw"
def lw_P (b : Addr) (xs : List Int32) (args : Array Value) (s : State) : Prop := args = #[.ref b] ∧ s.IntsAt b xs ∧ xs.length ≤ 260 ∧ (Jvm.Cond.and given_1 narrow_1).before args s = true
/-- what a walk over the start with the record d0 says of its end, said of the start itself -/
theorem lw_closed {s t : State} {o : Outcome} {d0 : Drawn} {L : List Loc} {k n : Nat} (hd0 : s.drawn.sameBut d0 lw_cs) (hv : ∃ v, o = .returned v) (hW : (s.setDrawn d0).WarmedH t.vm) (hs : (s.setDrawn d0).sameButNew ({ t with vm := s.vm } : State) L k n) : State.butDraws s t lw_cs (fun t1 => Framed s o t1 L k n) := by
  have h2 : t.drawn = d0 := congrArg State.drawn hs.1
  refine ⟨⟨hv, hW, State.sameButNew.setDrawn hs s.drawn⟩, ?_, by decide⟩
  rw [h2]
  exact hd0
def lw_Q (_ : Array Value) (s : State) (o : Outcome) (t : State) : Prop := o = .returned (some (.int 1)) ∧ State.butDraws s t lw_cs (fun t1 => Framed s o t1 [] 600074 7301549)
def lw_Z (below : List Frame) (a : Array Value) (s : State) : State → Prop := fun t => ∃ o, t.status = .running ∧ Ended t below o ∧ lw_Q a s o t
/-- the law's own end, with 1 on the stack, nothing written that was there before, its room as the claim has it; d0: the record of draws at this point (at the entry s.drawn: begin with 'refine W.base ?_' and 'have hd0 := Drawn.sameBut.refl s.drawn lw_cs') -/
theorem lw_ret {p : Program} {l : Launch} {e : Env} {s : State} {m : MethodId} {below : List Frame} {meth : Method} {c : Code} {b : Nat} {d0 : Drawn} (hd0 : s.drawn.sameBut d0 lw_cs) (hx : p.tables.exec = Jvm.exec) (hb : c.code = code) (hr : meth.sig.returnType = ret) (hlocks : meth.locks = false) {pc : Nat} {H : Heap} {ls : Array Slot} (hdg : decode code pc = .ok (.ireturn, 1)) : W p l e room_1 (s.setDrawn d0) m #[Value.ref b] below meth c H [] 600074 7301549 (lw_Z below #[Value.ref b] s) (F0 m pc ls [.int 1]) := by
  intro T hT X
  obtain ⟨fs, hret, hrun, hended, hW, hframe⟩ := X.leave (v := some (.int 1)) (hlocks := hlocks) (fun h => by rw [hr] at h; cases h)
  have hmeth' : T.vm.method? m = some meth := X.method'
  refine ⟨T.setFrames fs, ?_, .returned (some (.int 1)), hrun, hended, rfl, lw_closed hd0 ⟨_, rfl⟩ hW hframe⟩
  jvm_step X.here [X.here.top, hx, hb, hdg, hmeth', hr, ret, narrow_b1]
  (try refine ⟨rfl, ?_⟩); (try refine ⟨rfl, ?_⟩)
  first | (intro acts; rw [hret _ acts rfl rfl rfl]) | rw [hret _ _ rfl rfl rfl]
  exact Steps.refl _
/-- what holds at the law's entry: the machine, the code, the tables' words (any of lw_tbl by 'hts w (by decide +kernel)'), the script of L ints xs at the cell b, what the Statement gives of the start (any of its parts by flat_of_before) -/
def lw_At (p : Program) (s : State) (m : MethodId) (meth : Method) (c : Code) (b L : Nat) (xs : Nat → Int32) : Prop :=
  p.tables.exec = Jvm.exec ∧ c.code = code ∧ meth.sig.returnType = ret ∧ c.maxLocals = 9 ∧ s.vm.findClass R_law = some m.cls ∧ (∀ w ∈ lw_tbl, w.before #[Value.ref b] s = true) ∧ va_X b L xs s s.heap ∧ b < s.heap.size ∧ meth.locks = false ∧ (Jvm.Cond.and given_1 narrow_1).before #[Value.ref b] s = true
