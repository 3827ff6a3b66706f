def RX0 : String := "Platterhouse$Film"
def TX0 : u_T := fun k => match k with
  | 0 => ("Platterhouse$Film", "number", "I", true)
  | 1 => ("Platterhouse$Film", "length", "I", true)
  | 2 => ("Platterhouse$Film", "age", "I", true)
  | 3 => ("Platterhouse$Film", "price", "I", true)
  | 4 => ("Platterhouse$Film", "first", "I", false)
  | 5 => ("Platterhouse$Film", "step", "I", false)
  | 6 => ("Platterhouse$Film", "floor", "I", false)
  | 7 => ("Platterhouse$Film", "nut", "I", false)
  | _ => ("Platterhouse$Film", "keep", "I", false)
def tyX0 : Nat → FieldType := fun k => match k with
  | 0 => .int
  | 1 => .int
  | 2 => .int
  | 3 => .int
  | 4 => .int
  | 5 => .int
  | 6 => .int
  | 7 => .int
  | _ => .int
theorem nmX0 : ∀ a, a < 9 → ∀ b, b < 9 → a ≠ b → (TX0 a).2.1 ≠ (TX0 b).2.1 := by decide +kernel
theorem tyX0_ok : ∀ k, k < 9 → parseFieldDescriptor (TX0 k).2.2.1 = some (tyX0 k) := by decide +kernel
abbrev cX0_init : ByteArray := prog_2_method_1_code
def yX0_init : MethodName := ⟨RX0, "<init>", "(IIII)V"⟩
abbrev cX0_ownersOf : ByteArray := prog_2_method_2_code
def yX0_ownersOf : MethodName := ⟨RX0, "ownersOf", "(II)I"⟩
def RX1 : String := "Platterhouse$Hall"
def TX1 : u_T := fun k => match k with
  | 0 => ("Platterhouse$Hall", "number", "I", true)
  | 1 => ("Platterhouse$Hall", "rows", "I", true)
  | 2 => ("Platterhouse$Hall", "seats", "I", true)
  | 3 => ("Platterhouse$Hall", "burned", "I", false)
  | _ => ("Platterhouse$Hall", "mayBurn", "I", false)
def tyX1 : Nat → FieldType := fun k => match k with
  | 0 => .int
  | 1 => .int
  | 2 => .int
  | 3 => .int
  | _ => .int
theorem nmX1 : ∀ a, a < 5 → ∀ b, b < 5 → a ≠ b → (TX1 a).2.1 ≠ (TX1 b).2.1 := by decide +kernel
theorem tyX1_ok : ∀ k, k < 5 → parseFieldDescriptor (TX1 k).2.2.1 = some (tyX1 k) := by decide +kernel
abbrev cX1_init : ByteArray := prog_3_method_1_code
def yX1_init : MethodName := ⟨RX1, "<init>", "(III)V"⟩
def RX2 : String := "Platterhouse$Hold"
def TX2 : u_T := fun k => match k with
  | 0 => ("Platterhouse$Hold", "show", "LPlatterhouse$Show;", true)
  | 1 => ("Platterhouse$Hold", "place", "I", true)
  | 2 => ("Platterhouse$Hold", "until", "I", true)
  | _ => ("Platterhouse$Hold", "hasEnded", "Z", false)
def tyX2 : Nat → FieldType := fun k => match k with
  | 0 => .object "Platterhouse$Show"
  | 1 => .int
  | 2 => .int
  | _ => .boolean
theorem nmX2 : ∀ a, a < 4 → ∀ b, b < 4 → a ≠ b → (TX2 a).2.1 ≠ (TX2 b).2.1 := by decide +kernel
theorem tyX2_ok : ∀ k, k < 4 → parseFieldDescriptor (TX2 k).2.2.1 = some (tyX2 k) := by decide +kernel
abbrev cX2_init : ByteArray := prog_4_method_1_code
def yX2_init : MethodName := ⟨RX2, "<init>", "(LPlatterhouse$Show;II)V"⟩
def RX3 : String := "Platterhouse$Key"
def TX3 : u_T := fun k => match k with
  | 0 => ("Platterhouse$Key", "film", "I", true)
  | 1 => ("Platterhouse$Key", "hall", "I", true)
  | 2 => ("Platterhouse$Key", "from", "I", true)
  | _ => ("Platterhouse$Key", "to", "I", true)
def tyX3 : Nat → FieldType := fun k => match k with
  | 0 => .int
  | 1 => .int
  | 2 => .int
  | _ => .int
theorem nmX3 : ∀ a, a < 4 → ∀ b, b < 4 → a ≠ b → (TX3 a).2.1 ≠ (TX3 b).2.1 := by decide +kernel
theorem tyX3_ok : ∀ k, k < 4 → parseFieldDescriptor (TX3 k).2.2.1 = some (tyX3 k) := by decide +kernel
abbrev cX3_init : ByteArray := prog_5_method_1_code
def yX3_init : MethodName := ⟨RX3, "<init>", "(IIII)V"⟩
def RX4 : String := "Platterhouse$Line"
def TX4 : u_T := fun k => match k with
  | 0 => ("Platterhouse$Line", "ages", "[I", true)
  | 1 => ("Platterhouse$Line", "members", "I", false)
  | _ => ("Platterhouse$Line", "size", "I", false)
def tyX4 : Nat → FieldType := fun k => match k with
  | 0 => .array .int
  | 1 => .int
  | _ => .int
theorem nmX4 : ∀ a, a < 3 → ∀ b, b < 3 → a ≠ b → (TX4 a).2.1 ≠ (TX4 b).2.1 := by decide +kernel
theorem tyX4_ok : ∀ k, k < 3 → parseFieldDescriptor (TX4 k).2.2.1 = some (tyX4 k) := by decide +kernel
abbrev cX4_init : ByteArray := prog_6_method_1_code
def yX4_init : MethodName := ⟨RX4, "<init>", "()V"⟩
abbrev cX4_comeIn : ByteArray := prog_6_method_2_code
def yX4_comeIn : MethodName := ⟨RX4, "comeIn", "(IZ)I"⟩
abbrev cX4_takeFirst : ByteArray := prog_6_method_3_code
def yX4_takeFirst : MethodName := ⟨RX4, "takeFirst", "()I"⟩
abbrev cX4_clearAway : ByteArray := prog_6_method_4_code
def yX4_clearAway : MethodName := ⟨RX4, "clearAway", "()V"⟩
def RX5 : String := "Platterhouse$Show"
def TX5 : u_T := fun k => match k with
  | 0 => ("Platterhouse$Show", "number", "I", true)
  | 1 => ("Platterhouse$Show", "film", "LPlatterhouse$Film;", true)
  | 2 => ("Platterhouse$Show", "hall", "LPlatterhouse$Hall;", true)
  | 3 => ("Platterhouse$Show", "start", "I", true)
  | 4 => ("Platterhouse$Show", "places", "[I", true)
  | 5 => ("Platterhouse$Show", "line", "LPlatterhouse$Line;", true)
  | 6 => ("Platterhouse$Show", "state", "I", false)
  | _ => ("Platterhouse$Show", "paid", "I", false)
def tyX5 : Nat → FieldType := fun k => match k with
  | 0 => .int
  | 1 => .object "Platterhouse$Film"
  | 2 => .object "Platterhouse$Hall"
  | 3 => .int
  | 4 => .array .int
  | 5 => .object "Platterhouse$Line"
  | 6 => .int
  | _ => .int
theorem nmX5 : ∀ a, a < 8 → ∀ b, b < 8 → a ≠ b → (TX5 a).2.1 ≠ (TX5 b).2.1 := by decide +kernel
theorem tyX5_ok : ∀ k, k < 8 → parseFieldDescriptor (TX5 k).2.2.1 = some (tyX5 k) := by decide +kernel
abbrev cX5_init : ByteArray := prog_7_method_1_code
def yX5_init : MethodName := ⟨RX5, "<init>", "(ILPlatterhouse$Film;LPlatterhouse$Hall;I)V"⟩
abbrev cX5_end : ByteArray := prog_7_method_2_code
def yX5_end : MethodName := ⟨RX5, "end", "()I"⟩
abbrev cX5_week : ByteArray := prog_7_method_3_code
def yX5_week : MethodName := ⟨RX5, "week", "()I"⟩
abbrev cX5_isToCome : ByteArray := prog_7_method_4_code
def yX5_isToCome : MethodName := ⟨RX5, "isToCome", "()Z"⟩
abbrev cX5_priceFor : ByteArray := prog_7_method_5_code
def yX5_priceFor : MethodName := ⟨RX5, "priceFor", "(I)I"⟩
abbrev cX5_rowOf : ByteArray := prog_7_method_6_code
def yX5_rowOf : MethodName := ⟨RX5, "rowOf", "(I)I"⟩
abbrev cX5_seatOf : ByteArray := prog_7_method_7_code
def yX5_seatOf : MethodName := ⟨RX5, "seatOf", "(I)I"⟩
abbrev cX5_countFree : ByteArray := prog_7_method_8_code
def yX5_countFree : MethodName := ⟨RX5, "countFree", "()I"⟩
abbrev cX5_countHeld : ByteArray := prog_7_method_9_code
def yX5_countHeld : MethodName := ⟨RX5, "countHeld", "()I"⟩
abbrev cX5_countSold : ByteArray := prog_7_method_10_code
def yX5_countSold : MethodName := ⟨RX5, "countSold", "()I"⟩
abbrev cX5_clearPlaces : ByteArray := prog_7_method_11_code
def yX5_clearPlaces : MethodName := ⟨RX5, "clearPlaces", "()V"⟩
abbrev cX5_placeForGroup : ByteArray := prog_7_method_12_code
def yX5_placeForGroup : MethodName := ⟨RX5, "placeForGroup", "(I)I"⟩
abbrev cX5_bestInRow : ByteArray := prog_7_method_13_code
def yX5_bestInRow : MethodName := ⟨RX5, "bestInRow", "(II)I"⟩
abbrev cX5_areFree : ByteArray := prog_7_method_14_code
def yX5_areFree : MethodName := ⟨RX5, "areFree", "(II)Z"⟩
def RX6 : String := "Platterhouse$Ticket"
def TX6 : u_T := fun k => match k with
  | 0 => ("Platterhouse$Ticket", "show", "LPlatterhouse$Show;", true)
  | 1 => ("Platterhouse$Ticket", "place", "I", true)
  | 2 => ("Platterhouse$Ticket", "age", "I", true)
  | 3 => ("Platterhouse$Ticket", "paid", "I", false)
  | _ => ("Platterhouse$Ticket", "isGivenBack", "Z", false)
def tyX6 : Nat → FieldType := fun k => match k with
  | 0 => .object "Platterhouse$Show"
  | 1 => .int
  | 2 => .int
  | 3 => .int
  | _ => .boolean
theorem nmX6 : ∀ a, a < 5 → ∀ b, b < 5 → a ≠ b → (TX6 a).2.1 ≠ (TX6 b).2.1 := by decide +kernel
theorem tyX6_ok : ∀ k, k < 5 → parseFieldDescriptor (TX6 k).2.2.1 = some (tyX6 k) := by decide +kernel
abbrev cX6_init : ByteArray := prog_8_method_1_code
def yX6_init : MethodName := ⟨RX6, "<init>", "(LPlatterhouse$Show;III)V"⟩
abbrev cX6_payBack : ByteArray := prog_8_method_2_code
def yX6_payBack : MethodName := ⟨RX6, "payBack", "(I)I"⟩
def RX7 : String := "Platterhouse"
def TX7 : u_T := fun k => match k with
  | 0 => ("Platterhouse", "halls", "Ljava/util/ArrayList;", true)
  | 1 => ("Platterhouse", "films", "Ljava/util/ArrayList;", true)
  | 2 => ("Platterhouse", "keys", "Ljava/util/ArrayList;", true)
  | 3 => ("Platterhouse", "shows", "Ljava/util/ArrayList;", true)
  | 4 => ("Platterhouse", "holds", "Ljava/util/ArrayList;", true)
  | 5 => ("Platterhouse", "tickets", "Ljava/util/ArrayList;", true)
  | 6 => ("Platterhouse", "minute", "I", false)
  | _ => ("Platterhouse", "spreadMinutes", "I", false)
def tyX7 : Nat → FieldType := fun k => match k with
  | 0 => .object "java/util/ArrayList"
  | 1 => .object "java/util/ArrayList"
  | 2 => .object "java/util/ArrayList"
  | 3 => .object "java/util/ArrayList"
  | 4 => .object "java/util/ArrayList"
  | 5 => .object "java/util/ArrayList"
  | 6 => .int
  | _ => .int
theorem nmX7 : ∀ a, a < 8 → ∀ b, b < 8 → a ≠ b → (TX7 a).2.1 ≠ (TX7 b).2.1 := by decide +kernel
theorem tyX7_ok : ∀ k, k < 8 → parseFieldDescriptor (TX7 k).2.2.1 = some (tyX7 k) := by decide +kernel
abbrev cX7_init : ByteArray := prog_1_method_1_code
def yX7_init : MethodName := ⟨RX7, "<init>", "()V"⟩
abbrev cX7_hall : ByteArray := prog_1_method_2_code
def yX7_hall : MethodName := ⟨RX7, "hall", "(II)I"⟩
abbrev cX7_lamp : ByteArray := prog_1_method_3_code
def yX7_lamp : MethodName := ⟨RX7, "lamp", "(IIZ)I"⟩
abbrev cX7_film : ByteArray := prog_1_method_4_code
def yX7_film : MethodName := ⟨RX7, "film", "(III)I"⟩
abbrev cX7_terms : ByteArray := prog_1_method_5_code
def yX7_terms : MethodName := ⟨RX7, "terms", "(IIIIII)V"⟩
abbrev cX7_key : ByteArray := prog_1_method_6_code
def yX7_key : MethodName := ⟨RX7, "key", "(IIII)I"⟩
abbrev cX7_spread : ByteArray := prog_1_method_7_code
def yX7_spread : MethodName := ⟨RX7, "spread", "(I)I"⟩
abbrev cX7_show : ByteArray := prog_1_method_8_code
def yX7_show : MethodName := ⟨RX7, "show", "(III)I"⟩
abbrev cX7_cancel : ByteArray := prog_1_method_9_code
def yX7_cancel : MethodName := ⟨RX7, "cancel", "(I)I"⟩
abbrev cX7_breaks : ByteArray := prog_1_method_10_code
def yX7_breaks : MethodName := ⟨RX7, "breaks", "(I)I"⟩
abbrev cX7_pass : ByteArray := prog_1_method_11_code
def yX7_pass : MethodName := ⟨RX7, "pass", "(I)I"⟩
abbrev cX7_hold : ByteArray := prog_1_method_12_code
def yX7_hold : MethodName := ⟨RX7, "hold", "(IIII)I"⟩
abbrev cX7_letGo : ByteArray := prog_1_method_13_code
def yX7_letGo : MethodName := ⟨RX7, "letGo", "(I)I"⟩
abbrev cX7_buy : ByteArray := prog_1_method_14_code
def yX7_buy : MethodName := ⟨RX7, "buy", "(II)I"⟩
abbrev cX7_sell : ByteArray := prog_1_method_15_code
def yX7_sell : MethodName := ⟨RX7, "sell", "(IIII)I"⟩
abbrev cX7_group : ByteArray := prog_1_method_16_code
def yX7_group : MethodName := ⟨RX7, "group", "(III)I"⟩
abbrev cX7_giveBack : ByteArray := prog_1_method_17_code
def yX7_giveBack : MethodName := ⟨RX7, "giveBack", "(I)I"⟩
abbrev cX7_join : ByteArray := prog_1_method_18_code
def yX7_join : MethodName := ⟨RX7, "join", "(IIZ)I"⟩
abbrev cX7_fits : ByteArray := prog_1_method_19_code
def yX7_fits : MethodName := ⟨RX7, "fits", "(III)I"⟩
abbrev cX7_first : ByteArray := prog_1_method_20_code
def yX7_first : MethodName := ⟨RX7, "first", "(III)I"⟩
abbrev cX7_price : ByteArray := prog_1_method_21_code
def yX7_price : MethodName := ⟨RX7, "price", "(II)I"⟩
abbrev cX7_seat : ByteArray := prog_1_method_22_code
def yX7_seat : MethodName := ⟨RX7, "seat", "(III)I"⟩
abbrev cX7_ofShow : ByteArray := prog_1_method_23_code
def yX7_ofShow : MethodName := ⟨RX7, "ofShow", "(II)I"⟩
abbrev cX7_ofTicket : ByteArray := prog_1_method_24_code
def yX7_ofTicket : MethodName := ⟨RX7, "ofTicket", "(II)I"⟩
abbrev cX7_ofHall : ByteArray := prog_1_method_25_code
def yX7_ofHall : MethodName := ⟨RX7, "ofHall", "(II)I"⟩
abbrev cX7_takings : ByteArray := prog_1_method_26_code
def yX7_takings : MethodName := ⟨RX7, "takings", "(II)I"⟩
abbrev cX7_takingsAnew : ByteArray := prog_1_method_27_code
def yX7_takingsAnew : MethodName := ⟨RX7, "takingsAnew", "(II)I"⟩
abbrev cX7_share : ByteArray := prog_1_method_28_code
def yX7_share : MethodName := ⟨RX7, "share", "(II)I"⟩
abbrev cX7_mustStay : ByteArray := prog_1_method_29_code
def yX7_mustStay : MethodName := ⟨RX7, "mustStay", "(II)Z"⟩
abbrev cX7_audit : ByteArray := prog_1_method_30_code
def yX7_audit : MethodName := ⟨RX7, "audit", "(II)I"⟩
abbrev cX7_all : ByteArray := prog_1_method_31_code
def yX7_all : MethodName := ⟨RX7, "all", "(I)I"⟩
abbrev cX7_needWithin : ByteArray := prog_1_method_32_code
def yX7_needWithin : MethodName := ⟨RX7, "needWithin", "(III)V"⟩
abbrev cX7_needPlanned : ByteArray := prog_1_method_33_code
def yX7_needPlanned : MethodName := ⟨RX7, "needPlanned", "(LPlatterhouse$Show;)V"⟩
abbrev cX7_needFree : ByteArray := prog_1_method_34_code
def yX7_needFree : MethodName := ⟨RX7, "needFree", "(LPlatterhouse$Show;I)V"⟩
abbrev cX7_needOldEnough : ByteArray := prog_1_method_35_code
def yX7_needOldEnough : MethodName := ⟨RX7, "needOldEnough", "(LPlatterhouse$Show;I)V"⟩
abbrev cX7_needTickets : ByteArray := prog_1_method_36_code
def yX7_needTickets : MethodName := ⟨RX7, "needTickets", "(I)V"⟩
abbrev cX7_needTicket : ByteArray := prog_1_method_37_code
def yX7_needTicket : MethodName := ⟨RX7, "needTicket", "(I)V"⟩
abbrev cX7_needHold : ByteArray := prog_1_method_38_code
def yX7_needHold : MethodName := ⟨RX7, "needHold", "(I)V"⟩
abbrev cX7_hallAt : ByteArray := prog_1_method_39_code
def yX7_hallAt : MethodName := ⟨RX7, "hallAt", "(I)LPlatterhouse$Hall;"⟩
abbrev cX7_filmAt : ByteArray := prog_1_method_40_code
def yX7_filmAt : MethodName := ⟨RX7, "filmAt", "(I)LPlatterhouse$Film;"⟩
abbrev cX7_showAt : ByteArray := prog_1_method_41_code
def yX7_showAt : MethodName := ⟨RX7, "showAt", "(I)LPlatterhouse$Show;"⟩
abbrev cX7_ticketAt : ByteArray := prog_1_method_42_code
def yX7_ticketAt : MethodName := ⟨RX7, "ticketAt", "(I)LPlatterhouse$Ticket;"⟩
abbrev cX7_openHoldAt : ByteArray := prog_1_method_43_code
def yX7_openHoldAt : MethodName := ⟨RX7, "openHoldAt", "(I)LPlatterhouse$Hold;"⟩
abbrev cX7_placeAt : ByteArray := prog_1_method_44_code
def yX7_placeAt : MethodName := ⟨RX7, "placeAt", "(LPlatterhouse$Show;II)I"⟩
abbrev cX7_reasonAgainst : ByteArray := prog_1_method_45_code
def yX7_reasonAgainst : MethodName := ⟨RX7, "reasonAgainst", "(LPlatterhouse$Film;LPlatterhouse$Hall;I)I"⟩
abbrev cX7_isOpen : ByteArray := prog_1_method_46_code
def yX7_isOpen : MethodName := ⟨RX7, "isOpen", "(LPlatterhouse$Film;LPlatterhouse$Hall;I)Z"⟩
abbrev cX7_isHallTaken : ByteArray := prog_1_method_47_code
def yX7_isHallTaken : MethodName := ⟨RX7, "isHallTaken", "(LPlatterhouse$Film;LPlatterhouse$Hall;I)Z"⟩
abbrev cX7_isTooCloseToOthers : ByteArray := prog_1_method_48_code
def yX7_isTooCloseToOthers : MethodName := ⟨RX7, "isTooCloseToOthers", "(LPlatterhouse$Hall;I)Z"⟩
abbrev cX7_isLampTooOld : ByteArray := prog_1_method_49_code
def yX7_isLampTooOld : MethodName := ⟨RX7, "isLampTooOld", "(LPlatterhouse$Film;LPlatterhouse$Hall;)Z"⟩
abbrev cX7_nextChance : ByteArray := prog_1_method_50_code
def yX7_nextChance : MethodName := ⟨RX7, "nextChance", "(I)I"⟩
abbrev cX7_nearerAhead : ByteArray := prog_1_method_51_code
def yX7_nearerAhead : MethodName := ⟨RX7, "nearerAhead", "(III)I"⟩
abbrev cX7_runningIn : ByteArray := prog_1_method_52_code
def yX7_runningIn : MethodName := ⟨RX7, "runningIn", "(LPlatterhouse$Hall;)I"⟩
abbrev cX7_nextChange : ByteArray := prog_1_method_53_code
def yX7_nextChange : MethodName := ⟨RX7, "nextChange", "(I)I"⟩
abbrev cX7_endHolds : ByteArray := prog_1_method_54_code
def yX7_endHolds : MethodName := ⟨RX7, "endHolds", "()V"⟩
abbrev cX7_endShows : ByteArray := prog_1_method_55_code
def yX7_endShows : MethodName := ⟨RX7, "endShows", "()V"⟩
abbrev cX7_startShows : ByteArray := prog_1_method_56_code
def yX7_startShows : MethodName := ⟨RX7, "startShows", "()V"⟩
abbrev cX7_addTicket : ByteArray := prog_1_method_57_code
def yX7_addTicket : MethodName := ⟨RX7, "addTicket", "(LPlatterhouse$Show;II)I"⟩
abbrev cX7_endUnbought : ByteArray := prog_1_method_58_code
def yX7_endUnbought : MethodName := ⟨RX7, "endUnbought", "(LPlatterhouse$Hold;)I"⟩
abbrev cX7_freePlace : ByteArray := prog_1_method_59_code
def yX7_freePlace : MethodName := ⟨RX7, "freePlace", "(LPlatterhouse$Show;I)I"⟩
abbrev cX7_countOpenHolds : ByteArray := prog_1_method_60_code
def yX7_countOpenHolds : MethodName := ⟨RX7, "countOpenHolds", "()I"⟩
abbrev cX7_paidFor : ByteArray := prog_1_method_61_code
def yX7_paidFor : MethodName := ⟨RX7, "paidFor", "(II)I"⟩
abbrev cX7_openingOf : ByteArray := prog_1_method_62_code
def yX7_openingOf : MethodName := ⟨RX7, "openingOf", "(LPlatterhouse$Film;)I"⟩
abbrev cX7_takenIn : ByteArray := prog_1_method_63_code
def yX7_takenIn : MethodName := ⟨RX7, "takenIn", "(LPlatterhouse$Film;I)I"⟩
def RX8 : String := "PlatterhouseModel"
def TX8 : u_T := fun k => match k with
  | _ => ("", "", "", false)
def tyX8 : Nat → FieldType := fun k => match k with
  | _ => .int
theorem nmX8 : ∀ a, a < 0 → ∀ b, b < 0 → a ≠ b → (TX8 a).2.1 ≠ (TX8 b).2.1 := by decide +kernel
theorem tyX8_ok : ∀ k, k < 0 → parseFieldDescriptor (TX8 k).2.2.1 = some (tyX8 k) := by decide +kernel
def RJx145de : String := "java/io/Serializable"
def TJx145de : u_T := fun k => match k with
  | _ => ("", "", "", false)
def tyJx145de : Nat → FieldType := fun k => match k with
  | _ => .int
theorem nmJx145de : ∀ a, a < 0 → ∀ b, b < 0 → a ≠ b → (TJx145de a).2.1 ≠ (TJx145de b).2.1 := by decide +kernel
theorem tyJx145de_ok : ∀ k, k < 0 → parseFieldDescriptor (TJx145de k).2.2.1 = some (tyJx145de k) := by decide +kernel
def RJx8e188 : String := "java/lang/Cloneable"
def TJx8e188 : u_T := fun k => match k with
  | _ => ("", "", "", false)
def tyJx8e188 : Nat → FieldType := fun k => match k with
  | _ => .int
theorem nmJx8e188 : ∀ a, a < 0 → ∀ b, b < 0 → a ≠ b → (TJx8e188 a).2.1 ≠ (TJx8e188 b).2.1 := by decide +kernel
theorem tyJx8e188_ok : ∀ k, k < 0 → parseFieldDescriptor (TJx8e188 k).2.2.1 = some (tyJx8e188 k) := by decide +kernel
def RJxab1ab : String := "java/lang/Iterable"
def TJxab1ab : u_T := fun k => match k with
  | _ => ("", "", "", false)
def tyJxab1ab : Nat → FieldType := fun k => match k with
  | _ => .int
theorem nmJxab1ab : ∀ a, a < 0 → ∀ b, b < 0 → a ≠ b → (TJxab1ab a).2.1 ≠ (TJxab1ab b).2.1 := by decide +kernel
theorem tyJxab1ab_ok : ∀ k, k < 0 → parseFieldDescriptor (TJxab1ab k).2.2.1 = some (tyJxab1ab k) := by decide +kernel
def RJ9 : String := "java/lang/Math"
def TJ9 : u_T := fun k => match k with
  | _ => ("", "", "", false)
def tyJ9 : Nat → FieldType := fun k => match k with
  | _ => .int
theorem nmJ9 : ∀ a, a < 0 → ∀ b, b < 0 → a ≠ b → (TJ9 a).2.1 ≠ (TJ9 b).2.1 := by decide +kernel
theorem tyJ9_ok : ∀ k, k < 0 → parseFieldDescriptor (TJ9 k).2.2.1 = some (tyJ9 k) := by decide +kernel
abbrev cJ9_abs_0f7a4 : ByteArray := prog_18_method_59_code
def yJ9_abs_0f7a4 : MethodName := ⟨RJ9, "abs", "(I)I"⟩
abbrev cJ9_max_7cf53 : ByteArray := prog_18_method_65_code
def yJ9_max_7cf53 : MethodName := ⟨RJ9, "max", "(II)I"⟩
abbrev cJ9_min_7cf53 : ByteArray := prog_18_method_69_code
def yJ9_min_7cf53 : MethodName := ⟨RJ9, "min", "(II)I"⟩
def RJ0 : String := "java/lang/String"
def TJ0 : u_T := fun k => match k with
  | _ => ("", "", "", false)
def tyJ0 : Nat → FieldType := fun k => match k with
  | _ => .int
theorem nmJ0 : ∀ a, a < 0 → ∀ b, b < 0 → a ≠ b → (TJ0 a).2.1 ≠ (TJ0 b).2.1 := by decide +kernel
theorem tyJ0_ok : ∀ k, k < 0 → parseFieldDescriptor (TJ0 k).2.2.1 = some (tyJ0 k) := by decide +kernel
def RJ10 : String := "java/lang/System"
def TJ10 : u_T := fun k => match k with
  | _ => ("", "", "", false)
def tyJ10 : Nat → FieldType := fun k => match k with
  | _ => .int
theorem nmJ10 : ∀ a, a < 0 → ∀ b, b < 0 → a ≠ b → (TJ10 a).2.1 ≠ (TJ10 b).2.1 := by decide +kernel
theorem tyJ10_ok : ∀ k, k < 0 → parseFieldDescriptor (TJ10 k).2.2.1 = some (tyJ10 k) := by decide +kernel
def RJxa1e45 : String := "java/util/AbstractCollection"
def TJxa1e45 : u_T := fun k => match k with
  | _ => ("", "", "", false)
def tyJxa1e45 : Nat → FieldType := fun k => match k with
  | _ => .int
theorem nmJxa1e45 : ∀ a, a < 0 → ∀ b, b < 0 → a ≠ b → (TJxa1e45 a).2.1 ≠ (TJxa1e45 b).2.1 := by decide +kernel
theorem tyJxa1e45_ok : ∀ k, k < 0 → parseFieldDescriptor (TJxa1e45 k).2.2.1 = some (tyJxa1e45 k) := by decide +kernel
abbrev cJxa1e45_init_da8c8 : ByteArray := prog_23_method_1_code
def yJxa1e45_init_da8c8 : MethodName := ⟨RJxa1e45, "<init>", "()V"⟩
def RJxc12de : String := "java/util/AbstractList"
def TJxc12de : u_T := fun k => match k with
  | _ => ("", "", "", false)
def tyJxc12de : Nat → FieldType := fun k => match k with
  | _ => .int
theorem nmJxc12de : ∀ a, a < 0 → ∀ b, b < 0 → a ≠ b → (TJxc12de a).2.1 ≠ (TJxc12de b).2.1 := by decide +kernel
theorem tyJxc12de_ok : ∀ k, k < 0 → parseFieldDescriptor (TJxc12de k).2.2.1 = some (tyJxc12de k) := by decide +kernel
abbrev cJxc12de_init_da8c8 : ByteArray := prog_24_method_1_code
def yJxc12de_init_da8c8 : MethodName := ⟨RJxc12de, "<init>", "()V"⟩
def RJx4a65c : String := "java/util/ArrayList"
def TJx4a65c : u_T := fun k => match k with
  | 0 => ("java/util/AbstractList", "modCount", "I", false)
  | 1 => ("java/util/ArrayList", "elementData", "[Ljava/lang/Object;", false)
  | _ => ("java/util/ArrayList", "size", "I", false)
def tyJx4a65c : Nat → FieldType := fun k => match k with
  | 0 => .int
  | 1 => .array (.object "java/lang/Object")
  | _ => .int
theorem nmJx4a65c : ∀ a, a < 3 → ∀ b, b < 3 → a ≠ b → (TJx4a65c a).2.1 ≠ (TJx4a65c b).2.1 := by decide +kernel
theorem tyJx4a65c_ok : ∀ k, k < 3 → parseFieldDescriptor (TJx4a65c k).2.2.1 = some (tyJx4a65c k) := by decide +kernel
abbrev cJx4a65c_init_da8c8 : ByteArray := prog_25_method_2_code
def yJx4a65c_init_da8c8 : MethodName := ⟨RJx4a65c, "<init>", "()V"⟩
abbrev cJx4a65c_grow_92f84 : ByteArray := prog_25_method_6_code
def yJx4a65c_grow_92f84 : MethodName := ⟨RJx4a65c, "grow", "(I)[Ljava/lang/Object;"⟩
abbrev cJx4a65c_grow_d5877 : ByteArray := prog_25_method_7_code
def yJx4a65c_grow_d5877 : MethodName := ⟨RJx4a65c, "grow", "()[Ljava/lang/Object;"⟩
abbrev cJx4a65c_size_8abf5 : ByteArray := prog_25_method_8_code
def yJx4a65c_size_8abf5 : MethodName := ⟨RJx4a65c, "size", "()I"⟩
abbrev cJx4a65c_elementData_915e3 : ByteArray := prog_25_method_18_code
def yJx4a65c_elementData_915e3 : MethodName := ⟨RJx4a65c, "elementData", "(I)Ljava/lang/Object;"⟩
abbrev cJx4a65c_get_915e3 : ByteArray := prog_25_method_20_code
def yJx4a65c_get_915e3 : MethodName := ⟨RJx4a65c, "get", "(I)Ljava/lang/Object;"⟩
abbrev cJx4a65c_add_72be8 : ByteArray := prog_25_method_24_code
def yJx4a65c_add_72be8 : MethodName := ⟨RJx4a65c, "add", "(Ljava/lang/Object;[Ljava/lang/Object;I)V"⟩
abbrev cJx4a65c_add_9ea2d : ByteArray := prog_25_method_25_code
def yJx4a65c_add_9ea2d : MethodName := ⟨RJx4a65c, "add", "(Ljava/lang/Object;)Z"⟩
def RJ7 : String := "java/util/Arrays"
def TJ7 : u_T := fun k => match k with
  | _ => ("", "", "", false)
def tyJ7 : Nat → FieldType := fun k => match k with
  | _ => .int
theorem nmJ7 : ∀ a, a < 0 → ∀ b, b < 0 → a ≠ b → (TJ7 a).2.1 ≠ (TJ7 b).2.1 := by decide +kernel
theorem tyJ7_ok : ∀ k, k < 0 → parseFieldDescriptor (TJ7 k).2.2.1 = some (tyJ7 k) := by decide +kernel
abbrev cJ7_fill_53178 : ByteArray := prog_26_method_103_code
def yJ7_fill_53178 : MethodName := ⟨RJ7, "fill", "([II)V"⟩
abbrev cJ7_copyOf_1904c : ByteArray := prog_26_method_119_code
def yJ7_copyOf_1904c : MethodName := ⟨RJ7, "copyOf", "([Ljava/lang/Object;I)[Ljava/lang/Object;"⟩
abbrev cJ7_copyOf_6403c : ByteArray := prog_26_method_120_code
def yJ7_copyOf_6403c : MethodName := ⟨RJ7, "copyOf", "([Ljava/lang/Object;ILjava/lang/Class;)[Ljava/lang/Object;"⟩
def RJx5ef63 : String := "java/util/Collection"
def TJx5ef63 : u_T := fun k => match k with
  | _ => ("", "", "", false)
def tyJx5ef63 : Nat → FieldType := fun k => match k with
  | _ => .int
theorem nmJx5ef63 : ∀ a, a < 0 → ∀ b, b < 0 → a ≠ b → (TJx5ef63 a).2.1 ≠ (TJx5ef63 b).2.1 := by decide +kernel
theorem tyJx5ef63_ok : ∀ k, k < 0 → parseFieldDescriptor (TJx5ef63 k).2.2.1 = some (tyJx5ef63 k) := by decide +kernel
def RJxbd725 : String := "java/util/List"
def TJxbd725 : u_T := fun k => match k with
  | _ => ("", "", "", false)
def tyJxbd725 : Nat → FieldType := fun k => match k with
  | _ => .int
theorem nmJxbd725 : ∀ a, a < 0 → ∀ b, b < 0 → a ≠ b → (TJxbd725 a).2.1 ≠ (TJxbd725 b).2.1 := by decide +kernel
theorem tyJxbd725_ok : ∀ k, k < 0 → parseFieldDescriptor (TJxbd725 k).2.2.1 = some (tyJxbd725 k) := by decide +kernel
def RJ15 : String := "java/util/Objects"
def TJ15 : u_T := fun k => match k with
  | _ => ("", "", "", false)
def tyJ15 : Nat → FieldType := fun k => match k with
  | _ => .int
theorem nmJ15 : ∀ a, a < 0 → ∀ b, b < 0 → a ≠ b → (TJ15 a).2.1 ≠ (TJ15 b).2.1 := by decide +kernel
theorem tyJ15_ok : ∀ k, k < 0 → parseFieldDescriptor (TJ15 k).2.2.1 = some (tyJ15 k) := by decide +kernel
abbrev cJ15_checkIndex_7cf53 : ByteArray := prog_29_method_17_code
def yJ15_checkIndex_7cf53 : MethodName := ⟨RJ15, "checkIndex", "(II)I"⟩
def RJxf0a74 : String := "java/util/RandomAccess"
def TJxf0a74 : u_T := fun k => match k with
  | _ => ("", "", "", false)
def tyJxf0a74 : Nat → FieldType := fun k => match k with
  | _ => .int
theorem nmJxf0a74 : ∀ a, a < 0 → ∀ b, b < 0 → a ≠ b → (TJxf0a74 a).2.1 ≠ (TJxf0a74 b).2.1 := by decide +kernel
theorem tyJxf0a74_ok : ∀ k, k < 0 → parseFieldDescriptor (TJxf0a74 k).2.2.1 = some (tyJxf0a74 k) := by decide +kernel
def RJxa66e6 : String := "java/util/SequencedCollection"
def TJxa66e6 : u_T := fun k => match k with
  | _ => ("", "", "", false)
def tyJxa66e6 : Nat → FieldType := fun k => match k with
  | _ => .int
theorem nmJxa66e6 : ∀ a, a < 0 → ∀ b, b < 0 → a ≠ b → (TJxa66e6 a).2.1 ≠ (TJxa66e6 b).2.1 := by decide +kernel
theorem tyJxa66e6_ok : ∀ k, k < 0 → parseFieldDescriptor (TJxa66e6 k).2.2.1 = some (tyJxa66e6 k) := by decide +kernel
def RJ8 : String := "jdk/internal/util/ArraysSupport"
def TJ8 : u_T := fun k => match k with
  | _ => ("", "", "", false)
def tyJ8 : Nat → FieldType := fun k => match k with
  | _ => .int
theorem nmJ8 : ∀ a, a < 0 → ∀ b, b < 0 → a ≠ b → (TJ8 a).2.1 ≠ (TJ8 b).2.1 := by decide +kernel
theorem tyJ8_ok : ∀ k, k < 0 → parseFieldDescriptor (TJ8 k).2.2.1 = some (tyJ8 k) := by decide +kernel
abbrev cJ8_newLength_cabcc : ByteArray := prog_32_method_27_code
def yJ8_newLength_cabcc : MethodName := ⟨RJ8, "newLength", "(III)I"⟩
abbrev cJ8_hugeLength_7cf53 : ByteArray := prog_32_method_28_code
def yJ8_hugeLength_7cf53 : MethodName := ⟨RJ8, "hugeLength", "(II)I"⟩
def RJ3 : String := "jdk/internal/util/Preconditions"
def TJ3 : u_T := fun k => match k with
  | _ => ("", "", "", false)
def tyJ3 : Nat → FieldType := fun k => match k with
  | _ => .int
theorem nmJ3 : ∀ a, a < 0 → ∀ b, b < 0 → a ≠ b → (TJ3 a).2.1 ≠ (TJ3 b).2.1 := by decide +kernel
theorem tyJ3_ok : ∀ k, k < 0 → parseFieldDescriptor (TJ3 k).2.2.1 = some (tyJ3 k) := by decide +kernel
abbrev cJ3_checkIndex_8e157 : ByteArray := prog_33_method_11_code
def yJ3_checkIndex_8e157 : MethodName := ⟨RJ3, "checkIndex", "(IILjava/util/function/BiFunction;)I"⟩
def RL : String := "PlatterhouseLaw"
abbrev cL_part : ByteArray := method_2_code
def yL_part : MethodName := ⟨RL, "part", "([III)I"⟩
abbrev cL_does : ByteArray := method_3_code
def yL_does : MethodName := ⟨RL, "does", "(LPlatterhouse;IIIIII)I"⟩
abbrev cL_state : ByteArray := method_4_code
def yL_state : MethodName := ⟨RL, "state", "([II)I"⟩
abbrev cL_end : ByteArray := method_5_code
def yL_end : MethodName := ⟨RL, "end", "([I[II)I"⟩
abbrev cL_fits : ByteArray := method_6_code
def yL_fits : MethodName := ⟨RL, "fits", "([I[I[I[I[IIII)I"⟩
abbrev cL_price : ByteArray := method_7_code
def yL_price : MethodName := ⟨RL, "price", "([I[III)I"⟩
abbrev cL_sells : ByteArray := method_8_code
def yL_sells : MethodName := ⟨RL, "sells", "([I[I[I[I[I[IIII)I"⟩
abbrev cL_people : ByteArray := method_9_code
def yL_people : MethodName := ⟨RL, "people", "([II)I"⟩
abbrev cL_frees : ByteArray := method_10_code
def yL_frees : MethodName := ⟨RL, "frees", "([I[I[I[I[I[I[III)I"⟩
abbrev cL_minute : ByteArray := method_11_code
def yL_minute : MethodName := ⟨RL, "minute", "([I[I[I[I[I[I[I[I[I)V"⟩
abbrev cL_takings : ByteArray := method_12_code
def yL_takings : MethodName := ⟨RL, "takings", "([I[I[I[III)I"⟩
abbrev cL_isSo : ByteArray := method_13_code
def yL_isSo : MethodName := ⟨RL, "isSo", "(LPlatterhouse;[I[I[I[I[I[I[I[I[I[III)Z"⟩
abbrev cL_isTold : ByteArray := method_14_code
def yL_isTold : MethodName := ⟨RL, "isTold", "(LPlatterhouse;[I[I[I[I[IIII)Z"⟩
abbrev cL_isSeat : ByteArray := method_15_code
def yL_isSeat : MethodName := ⟨RL, "isSeat", "(LPlatterhouse;[I[I[I[I[I[I[I[I[IIII)Z"⟩
abbrev cL_isShown : ByteArray := method_16_code
def yL_isShown : MethodName := ⟨RL, "isShown", "(LPlatterhouse;[I[I[I[I[I[I[I[I[IIII)Z"⟩
abbrev cL_law : ByteArray := code
def yL_law : MethodName := ⟨RL, "law", "([I)Z"⟩
abbrev vwCl : List vw_C := [(RJx4a65c, TJx4a65c, 3), (RX0, TX0, 9), (RX1, TX1, 5), (RX2, TX2, 4), (RX3, TX3, 4), (RX4, TX4, 3), (RX5, TX5, 8), (RX6, TX6, 5), (RX7, TX7, 8)]
