def RX0 : String := "Prorates$1"
def TX0 : u_T := fun k => match k with
  | _ => ("", "", "", false)
def tyX0 : Nat → FieldType := fun k => match k with
  | _ => .int
abbrev wsX00 : List Cond := u_ws RX0 TX0 0
theorem nmX0 : ∀ a, a < 0 → ∀ b, b < 0 → a ≠ b → (TX0 a).2.1 ≠ (TX0 b).2.1 := by decide +kernel
theorem tyX0_ok : ∀ k, k < 0 → parseFieldDescriptor (TX0 k).2.2.1 = some (tyX0 k) := by decide +kernel
def RX1 : String := "Prorates$Book"
def TX1 : u_T := fun k => match k with
  | 0 => ("Prorates$Book", "lines", "I", false)
  | 1 => ("Prorates$Book", "places", "I", false)
  | 2 => ("Prorates$Book", "carriers", "I", false)
  | 3 => ("Prorates$Book", "legs", "I", false)
  | 4 => ("Prorates$Book", "bands", "I", false)
  | 5 => ("Prorates$Book", "provisos", "I", false)
  | 6 => ("Prorates$Book", "bases", "I", false)
  | 7 => ("Prorates$Book", "rate", "I", false)
  | 8 => ("Prorates$Book", "rateTold", "Z", false)
  | 9 => ("Prorates$Book", "tickets", "I", false)
  | 10 => ("Prorates$Book", "placeNames", "[J", true)
  | 11 => ("Prorates$Book", "carrierNames", "[J", true)
  | 12 => ("Prorates$Book", "ticketNames", "[J", true)
  | 13 => ("Prorates$Book", "legMiles", "[[I", true)
  | 14 => ("Prorates$Book", "distances", "[[I", true)
  | 15 => ("Prorates$Book", "bandRows", "[[I", true)
  | 16 => ("Prorates$Book", "provisoRows", "[[I", true)
  | 17 => ("Prorates$Book", "baseRows", "[[I", true)
  | 18 => ("Prorates$Book", "ticketRows", "[[I", true)
  | _ => ("Prorates$Book", "stops", "[[I", true)
def tyX1 : Nat → FieldType := fun k => match k with
  | 0 => .int
  | 1 => .int
  | 2 => .int
  | 3 => .int
  | 4 => .int
  | 5 => .int
  | 6 => .int
  | 7 => .int
  | 8 => .boolean
  | 9 => .int
  | 10 => .array .long
  | 11 => .array .long
  | 12 => .array .long
  | 13 => .array (.array .int)
  | 14 => .array (.array .int)
  | 15 => .array (.array .int)
  | 16 => .array (.array .int)
  | 17 => .array (.array .int)
  | 18 => .array (.array .int)
  | _ => .array (.array .int)
abbrev wsX10 : List Cond := u_ws RX1 TX1 20
theorem nmX1 : ∀ a, a < 20 → ∀ b, b < 20 → a ≠ b → (TX1 a).2.1 ≠ (TX1 b).2.1 := by decide +kernel
theorem tyX1_ok : ∀ k, k < 20 → parseFieldDescriptor (TX1 k).2.2.1 = some (tyX1 k) := by decide +kernel
abbrev cX1_init : ByteArray := prog_3_method_1_code
def yX1_init : MethodName := ⟨RX1, "<init>", "()V"⟩
abbrev cX1_empty : ByteArray := prog_3_method_2_code
def yX1_empty : MethodName := ⟨RX1, "empty", "()V"⟩
abbrev cX1_indexOf : ByteArray := prog_3_method_3_code
def yX1_indexOf : MethodName := ⟨RX1, "indexOf", "(J[JI)I"⟩
abbrev cX1_placeNamed : ByteArray := prog_3_method_4_code
def yX1_placeNamed : MethodName := ⟨RX1, "placeNamed", "(J)I"⟩
abbrev cX1_carrierNamed : ByteArray := prog_3_method_5_code
def yX1_carrierNamed : MethodName := ⟨RX1, "carrierNamed", "(J)I"⟩
abbrev cX1_knows : ByteArray := prog_3_method_6_code
def yX1_knows : MethodName := ⟨RX1, "knows", "(J)Z"⟩
abbrev cX1_addPlace : ByteArray := prog_3_method_7_code
def yX1_addPlace : MethodName := ⟨RX1, "addPlace", "(J)V"⟩
abbrev cX1_addCarrier : ByteArray := prog_3_method_8_code
def yX1_addCarrier : MethodName := ⟨RX1, "addCarrier", "(J)V"⟩
abbrev cX1_addLeg : ByteArray := prog_3_method_9_code
def yX1_addLeg : MethodName := ⟨RX1, "addLeg", "(III)V"⟩
abbrev cX1_lastBand : ByteArray := prog_3_method_10_code
def yX1_lastBand : MethodName := ⟨RX1, "lastBand", "()I"⟩
abbrev cX1_addBand : ByteArray := prog_3_method_11_code
def yX1_addBand : MethodName := ⟨RX1, "addBand", "(II)V"⟩
abbrev cX1_addProviso : ByteArray := prog_3_method_12_code
def yX1_addProviso : MethodName := ⟨RX1, "addProviso", "(IIIIII)V"⟩
abbrev cX1_addBase : ByteArray := prog_3_method_13_code
def yX1_addBase : MethodName := ⟨RX1, "addBase", "(IIII)V"⟩
abbrev cX1_beginTicket : ByteArray := prog_3_method_14_code
def yX1_beginTicket : MethodName := ⟨RX1, "beginTicket", "(III)V"⟩
abbrev cX1_addCoupon : ByteArray := prog_3_method_15_code
def yX1_addCoupon : MethodName := ⟨RX1, "addCoupon", "(III)V"⟩
abbrev cX1_endTicket : ByteArray := prog_3_method_16_code
def yX1_endTicket : MethodName := ⟨RX1, "endTicket", "(J)V"⟩
abbrev cX1_hasWay : ByteArray := prog_3_method_17_code
def yX1_hasWay : MethodName := ⟨RX1, "hasWay", "(II)Z"⟩
abbrev cX1_weightOf : ByteArray := prog_3_method_19_code
def yX1_weightOf : MethodName := ⟨RX1, "weightOf", "(I)I"⟩
abbrev cX1_isPair : ByteArray := prog_3_method_20_code
def yX1_isPair : MethodName := ⟨RX1, "isPair", "(IIII)Z"⟩
abbrev cX1_baseOf : ByteArray := prog_3_method_21_code
def yX1_baseOf : MethodName := ⟨RX1, "baseOf", "(III)I"⟩
abbrev cX1_fareOf : ByteArray := prog_3_method_22_code
def yX1_fareOf : MethodName := ⟨RX1, "fareOf", "(I)I"⟩
abbrev cX1_howOf : ByteArray := prog_3_method_23_code
def yX1_howOf : MethodName := ⟨RX1, "howOf", "(I)I"⟩
abbrev cX1_couponsOf : ByteArray := prog_3_method_24_code
def yX1_couponsOf : MethodName := ⟨RX1, "couponsOf", "(I)I"⟩
abbrev cX1_carrierTold : ByteArray := prog_3_method_25_code
def yX1_carrierTold : MethodName := ⟨RX1, "carrierTold", "(II)I"⟩
abbrev cX1_milesOf : ByteArray := prog_3_method_26_code
def yX1_milesOf : MethodName := ⟨RX1, "milesOf", "(II)I"⟩
def RX2 : String := "Prorates$Ledger"
def TX2 : u_T := fun k => match k with
  | 0 => ("Prorates$Ledger", "issuers", "[I", true)
  | 1 => ("Prorates$Ledger", "flown", "[I", true)
  | 2 => ("Prorates$Ledger", "refunded", "[Z", true)
  | 3 => ("Prorates$Ledger", "carriers", "[[I", true)
  | 4 => ("Prorates$Ledger", "shares", "[[I", true)
  | 5 => ("Prorates$Ledger", "bills", "[[I", true)
  | 6 => ("Prorates$Ledger", "cleared", "[I", true)
  | 7 => ("Prorates$Ledger", "steps", "[[I", true)
  | 8 => ("Prorates$Ledger", "billsBefore", "[[I", true)
  | 9 => ("Prorates$Ledger", "firstStep", "I", false)
  | _ => ("Prorates$Ledger", "stepCount", "I", false)
def tyX2 : Nat → FieldType := fun k => match k with
  | 0 => .array .int
  | 1 => .array .int
  | 2 => .array .boolean
  | 3 => .array (.array .int)
  | 4 => .array (.array .int)
  | 5 => .array (.array .int)
  | 6 => .array .int
  | 7 => .array (.array .int)
  | 8 => .array (.array .int)
  | 9 => .int
  | _ => .int
abbrev wsX20 : List Cond := u_ws RX2 TX2 11
theorem nmX2 : ∀ a, a < 11 → ∀ b, b < 11 → a ≠ b → (TX2 a).2.1 ≠ (TX2 b).2.1 := by decide +kernel
theorem tyX2_ok : ∀ k, k < 11 → parseFieldDescriptor (TX2 k).2.2.1 = some (tyX2 k) := by decide +kernel
abbrev cX2_init : ByteArray := prog_4_method_1_code
def yX2_init : MethodName := ⟨RX2, "<init>", "()V"⟩
abbrev cX2_open : ByteArray := prog_4_method_2_code
def yX2_open : MethodName := ⟨RX2, "open", "(LProrates$Book;)V"⟩
abbrev cX2_addStep : ByteArray := prog_4_method_3_code
def yX2_addStep : MethodName := ⟨RX2, "addStep", "(IIII)I"⟩
abbrev cX2_addToBill : ByteArray := prog_4_method_4_code
def yX2_addToBill : MethodName := ⟨RX2, "addToBill", "(III)V"⟩
abbrev cX2_flyNext : ByteArray := prog_4_method_5_code
def yX2_flyNext : MethodName := ⟨RX2, "flyNext", "(II)V"⟩
abbrev cX2_endorseTo : ByteArray := prog_4_method_6_code
def yX2_endorseTo : MethodName := ⟨RX2, "endorseTo", "(III)V"⟩
def RX3 : String := "Prorates$Reader"
def TX3 : u_T := fun k => match k with
  | 0 => ("Prorates$Reader", "tape", "[I", true)
  | 1 => ("Prorates$Reader", "book", "LProrates$Book;", false)
  | 2 => ("Prorates$Reader", "end", "I", false)
  | 3 => ("Prorates$Reader", "at", "I", false)
  | 4 => ("Prorates$Reader", "token", "LProrates$Token;", false)
  | 5 => ("Prorates$Reader", "place", "I", false)
  | 6 => ("Prorates$Reader", "name", "J", false)
  | 7 => ("Prorates$Reader", "number", "I", false)
  | 8 => ("Prorates$Reader", "placeTaken", "I", false)
  | 9 => ("Prorates$Reader", "fault", "I", false)
  | _ => ("Prorates$Reader", "faultPlace", "I", false)
def tyX3 : Nat → FieldType := fun k => match k with
  | 0 => .array .int
  | 1 => .object "Prorates$Book"
  | 2 => .int
  | 3 => .int
  | 4 => .object "Prorates$Token"
  | 5 => .int
  | 6 => .long
  | 7 => .int
  | 8 => .int
  | 9 => .int
  | _ => .int
abbrev wsX30 : List Cond := u_ws RX3 TX3 11
theorem nmX3 : ∀ a, a < 11 → ∀ b, b < 11 → a ≠ b → (TX3 a).2.1 ≠ (TX3 b).2.1 := by decide +kernel
theorem tyX3_ok : ∀ k, k < 11 → parseFieldDescriptor (TX3 k).2.2.1 = some (tyX3 k) := by decide +kernel
abbrev cX3_init : ByteArray := prog_5_method_1_code
def yX3_init : MethodName := ⟨RX3, "<init>", "([ILProrates$Book;)V"⟩
abbrev cX3_open : ByteArray := prog_5_method_2_code
def yX3_open : MethodName := ⟨RX3, "open", "(LProrates$Book;I)V"⟩
abbrev cX3_hasLine : ByteArray := prog_5_method_3_code
def yX3_hasLine : MethodName := ⟨RX3, "hasLine", "()Z"⟩
abbrev cX3_step : ByteArray := prog_5_method_4_code
def yX3_step : MethodName := ⟨RX3, "step", "()V"⟩
abbrev cX3_scanWord : ByteArray := prog_5_method_5_code
def yX3_scanWord : MethodName := ⟨RX3, "scanWord", "()V"⟩
abbrev cX3_scanNumber : ByteArray := prog_5_method_6_code
def yX3_scanNumber : MethodName := ⟨RX3, "scanNumber", "()V"⟩
abbrev cX3_failAt : ByteArray := prog_5_method_7_code
def yX3_failAt : MethodName := ⟨RX3, "failAt", "(II)Z"⟩
abbrev cX3_failHere : ByteArray := prog_5_method_8_code
def yX3_failHere : MethodName := ⟨RX3, "failHere", "(I)Z"⟩
abbrev cX3_failTaken : ByteArray := prog_5_method_9_code
def yX3_failTaken : MethodName := ⟨RX3, "failTaken", "(I)Z"⟩
abbrev cX3_readLine : ByteArray := prog_5_method_10_code
def yX3_readLine : MethodName := ⟨RX3, "readLine", "()Z"⟩
abbrev cX3_takeSemicolon : ByteArray := prog_5_method_11_code
def yX3_takeSemicolon : MethodName := ⟨RX3, "takeSemicolon", "()Z"⟩
abbrev cX3_takeNewName : ByteArray := prog_5_method_12_code
def yX3_takeNewName : MethodName := ⟨RX3, "takeNewName", "()J"⟩
abbrev cX3_takePlace : ByteArray := prog_5_method_13_code
def yX3_takePlace : MethodName := ⟨RX3, "takePlace", "(I)I"⟩
abbrev cX3_takeCarrier : ByteArray := prog_5_method_14_code
def yX3_takeCarrier : MethodName := ⟨RX3, "takeCarrier", "(I)I"⟩
abbrev cX3_takeNumber : ByteArray := prog_5_method_15_code
def yX3_takeNumber : MethodName := ⟨RX3, "takeNumber", "(II)I"⟩
abbrev cX3_takeKind : ByteArray := prog_5_method_16_code
def yX3_takeKind : MethodName := ⟨RX3, "takeKind", "()I"⟩
abbrev cX3_kindOf : ByteArray := prog_5_method_17_code
def yX3_kindOf : MethodName := ⟨RX3, "kindOf", "(LProrates$Token;)I"⟩
abbrev cX3_takeHow : ByteArray := prog_5_method_18_code
def yX3_takeHow : MethodName := ⟨RX3, "takeHow", "()I"⟩
abbrev cX3_readPlace : ByteArray := prog_5_method_19_code
def yX3_readPlace : MethodName := ⟨RX3, "readPlace", "()Z"⟩
abbrev cX3_readCarrier : ByteArray := prog_5_method_20_code
def yX3_readCarrier : MethodName := ⟨RX3, "readCarrier", "()Z"⟩
abbrev cX3_readLeg : ByteArray := prog_5_method_21_code
def yX3_readLeg : MethodName := ⟨RX3, "readLeg", "()Z"⟩
abbrev cX3_readBand : ByteArray := prog_5_method_22_code
def yX3_readBand : MethodName := ⟨RX3, "readBand", "()Z"⟩
abbrev cX3_readProviso : ByteArray := prog_5_method_23_code
def yX3_readProviso : MethodName := ⟨RX3, "readProviso", "()Z"⟩
abbrev cX3_readBase : ByteArray := prog_5_method_24_code
def yX3_readBase : MethodName := ⟨RX3, "readBase", "()Z"⟩
abbrev cX3_readRate : ByteArray := prog_5_method_25_code
def yX3_readRate : MethodName := ⟨RX3, "readRate", "()Z"⟩
abbrev cX3_readTicket : ByteArray := prog_5_method_26_code
def yX3_readTicket : MethodName := ⟨RX3, "readTicket", "()Z"⟩
abbrev cX3_readCoupon : ByteArray := prog_5_method_27_code
def yX3_readCoupon : MethodName := ⟨RX3, "readCoupon", "(II)I"⟩
def RX4 : String := "Prorates$Settlement"
def TX4 : u_T := fun k => match k with
  | 0 => ("Prorates$Settlement", "nets", "[I", true)
  | 1 => ("Prorates$Settlement", "rows", "[[I", true)
  | _ => ("Prorates$Settlement", "count", "I", false)
def tyX4 : Nat → FieldType := fun k => match k with
  | 0 => .array .int
  | 1 => .array (.array .int)
  | _ => .int
abbrev wsX40 : List Cond := u_ws RX4 TX4 3
theorem nmX4 : ∀ a, a < 3 → ∀ b, b < 3 → a ≠ b → (TX4 a).2.1 ≠ (TX4 b).2.1 := by decide +kernel
theorem tyX4_ok : ∀ k, k < 3 → parseFieldDescriptor (TX4 k).2.2.1 = some (tyX4 k) := by decide +kernel
abbrev cX4_init : ByteArray := prog_6_method_1_code
def yX4_init : MethodName := ⟨RX4, "<init>", "()V"⟩
def RX5 : String := "Prorates$Sharing"
def TX5 : u_T := fun k => match k with
  | 0 => ("Prorates$Sharing", "book", "LProrates$Book;", false)
  | 1 => ("Prorates$Sharing", "ticket", "I", false)
  | 2 => ("Prorates$Sharing", "count", "I", false)
  | 3 => ("Prorates$Sharing", "flown", "I", false)
  | 4 => ("Prorates$Sharing", "how", "I", false)
  | 5 => ("Prorates$Sharing", "skipped", "I", false)
  | 6 => ("Prorates$Sharing", "carriers", "[I", true)
  | 7 => ("Prorates$Sharing", "held", "[I", true)
  | 8 => ("Prorates$Sharing", "kind", "[I", true)
  | 9 => ("Prorates$Sharing", "by", "[I", true)
  | 10 => ("Prorates$Sharing", "value", "[J", true)
  | 11 => ("Prorates$Sharing", "factor", "[J", true)
  | 12 => ("Prorates$Sharing", "share", "[I", true)
  | 13 => ("Prorates$Sharing", "rest", "[J", true)
  | 14 => ("Prorates$Sharing", "among", "[Z", true)
  | 15 => ("Prorates$Sharing", "pool", "J", false)
  | 16 => ("Prorates$Sharing", "rounds", "I", false)
  | _ => ("Prorates$Sharing", "left", "I", false)
def tyX5 : Nat → FieldType := fun k => match k with
  | 0 => .object "Prorates$Book"
  | 1 => .int
  | 2 => .int
  | 3 => .int
  | 4 => .int
  | 5 => .int
  | 6 => .array .int
  | 7 => .array .int
  | 8 => .array .int
  | 9 => .array .int
  | 10 => .array .long
  | 11 => .array .long
  | 12 => .array .int
  | 13 => .array .long
  | 14 => .array .boolean
  | 15 => .long
  | 16 => .int
  | _ => .int
abbrev wsX50 : List Cond := u_ws RX5 TX5 18
theorem nmX5 : ∀ a, a < 18 → ∀ b, b < 18 → a ≠ b → (TX5 a).2.1 ≠ (TX5 b).2.1 := by decide +kernel
theorem tyX5_ok : ∀ k, k < 18 → parseFieldDescriptor (TX5 k).2.2.1 = some (tyX5 k) := by decide +kernel
abbrev cX5_init : ByteArray := prog_7_method_1_code
def yX5_init : MethodName := ⟨RX5, "<init>", "(LProrates$Book;)V"⟩
abbrev cX5_take : ByteArray := prog_7_method_2_code
def yX5_take : MethodName := ⟨RX5, "take", "(LProrates$Book;LProrates$Ledger;I)V"⟩
abbrev cX5_forgetProvisosAndFlown : ByteArray := prog_7_method_3_code
def yX5_forgetProvisosAndFlown : MethodName := ⟨RX5, "forgetProvisosAndFlown", "()V"⟩
abbrev cX5_prorate : ByteArray := prog_7_method_4_code
def yX5_prorate : MethodName := ⟨RX5, "prorate", "()V"⟩
abbrev cX5_weigh : ByteArray := prog_7_method_5_code
def yX5_weigh : MethodName := ⟨RX5, "weigh", "(I)V"⟩
abbrev cX5_provisoHolding : ByteArray := prog_7_method_6_code
def yX5_provisoHolding : MethodName := ⟨RX5, "provisoHolding", "(I)I"⟩
abbrev cX5_canHold : ByteArray := prog_7_method_7_code
def yX5_canHold : MethodName := ⟨RX5, "canHold", "([II)Z"⟩
abbrev cX5_isOnAnother : ByteArray := prog_7_method_8_code
def yX5_isOnAnother : MethodName := ⟨RX5, "isOnAnother", "(II)Z"⟩
abbrev cX5_factorOf : ByteArray := prog_7_method_9_code
def yX5_factorOf : MethodName := ⟨RX5, "factorOf", "(I)J"⟩
abbrev cX5_settleFixed : ByteArray := prog_7_method_10_code
def yX5_settleFixed : MethodName := ⟨RX5, "settleFixed", "()Z"⟩
abbrev cX5_raiseToLeasts : ByteArray := prog_7_method_11_code
def yX5_raiseToLeasts : MethodName := ⟨RX5, "raiseToLeasts", "()Z"⟩
abbrev cX5_lowerToMosts : ByteArray := prog_7_method_12_code
def yX5_lowerToMosts : MethodName := ⟨RX5, "lowerToMosts", "()Z"⟩
abbrev cX5_openFactors : ByteArray := prog_7_method_13_code
def yX5_openFactors : MethodName := ⟨RX5, "openFactors", "()J"⟩
abbrev cX5_setBeyond : ByteArray := prog_7_method_14_code
def yX5_setBeyond : MethodName := ⟨RX5, "setBeyond", "(I)J"⟩
abbrev cX5_giveValues : ByteArray := prog_7_method_15_code
def yX5_giveValues : MethodName := ⟨RX5, "giveValues", "(J)V"⟩
abbrev cX5_partAmong : ByteArray := prog_7_method_16_code
def yX5_partAmong : MethodName := ⟨RX5, "partAmong", "(I)V"⟩
abbrev cX5_partPool : ByteArray := prog_7_method_17_code
def yX5_partPool : MethodName := ⟨RX5, "partPool", "([J)V"⟩
abbrev cX5_giveCentsLeft : ByteArray := prog_7_method_18_code
def yX5_giveCentsLeft : MethodName := ⟨RX5, "giveCentsLeft", "()V"⟩
abbrev cX5_greatestRest : ByteArray := prog_7_method_19_code
def yX5_greatestRest : MethodName := ⟨RX5, "greatestRest", "()I"⟩
def RX6 : String := "Prorates$Token"
def TX6 : u_T := fun k => match k with
  | _ => ("", "", "", false)
def tyX6 : Nat → FieldType := fun k => match k with
  | _ => .int
abbrev wsX60 : List Cond := u_ws RX6 TX6 0
theorem nmX6 : ∀ a, a < 0 → ∀ b, b < 0 → a ≠ b → (TX6 a).2.1 ≠ (TX6 b).2.1 := by decide +kernel
theorem tyX6_ok : ∀ k, k < 0 → parseFieldDescriptor (TX6 k).2.2.1 = some (tyX6 k) := by decide +kernel
def RX7 : String := "Prorates"
def TX7 : u_T := fun k => match k with
  | 0 => ("Prorates", "tape", "[I", true)
  | 1 => ("Prorates", "fed", "I", false)
  | 2 => ("Prorates", "told", "LProrates$Book;", false)
  | 3 => ("Prorates", "draft", "LProrates$Book;", false)
  | 4 => ("Prorates", "reader", "LProrates$Reader;", true)
  | 5 => ("Prorates", "ledger", "LProrates$Ledger;", true)
  | 6 => ("Prorates", "sharing", "LProrates$Sharing;", true)
  | 7 => ("Prorates", "settlement", "LProrates$Settlement;", true)
  | 8 => ("Prorates", "before", "[I", true)
  | _ => ("Prorates", "sums", "[I", true)
def tyX7 : Nat → FieldType := fun k => match k with
  | 0 => .array .int
  | 1 => .int
  | 2 => .object "Prorates$Book"
  | 3 => .object "Prorates$Book"
  | 4 => .object "Prorates$Reader"
  | 5 => .object "Prorates$Ledger"
  | 6 => .object "Prorates$Sharing"
  | 7 => .object "Prorates$Settlement"
  | 8 => .array .int
  | _ => .array .int
abbrev wsX70 : List Cond := u_ws RX7 TX7 10
theorem nmX7 : ∀ a, a < 10 → ∀ b, b < 10 → a ≠ b → (TX7 a).2.1 ≠ (TX7 b).2.1 := by decide +kernel
theorem tyX7_ok : ∀ k, k < 10 → parseFieldDescriptor (TX7 k).2.2.1 = some (tyX7 k) := by decide +kernel
abbrev cX7_init : ByteArray := prog_1_method_1_code
def yX7_init : MethodName := ⟨RX7, "<init>", "()V"⟩
abbrev cX7_feed : ByteArray := prog_1_method_2_code
def yX7_feed : MethodName := ⟨RX7, "feed", "(IIIII)I"⟩
abbrev cX7_feedNumber : ByteArray := prog_1_method_3_code
def yX7_feedNumber : MethodName := ⟨RX7, "feedNumber", "(I)V"⟩
abbrev cX7_text : ByteArray := prog_1_method_4_code
def yX7_text : MethodName := ⟨RX7, "text", "(I)I"⟩
abbrev cX7_isCarrier : ByteArray := prog_1_method_7_code
def yX7_isCarrier : MethodName := ⟨RX7, "isCarrier", "(I)Z"⟩
abbrev cX7_isProviso : ByteArray := prog_1_method_8_code
def yX7_isProviso : MethodName := ⟨RX7, "isProviso", "(I)Z"⟩
abbrev cX7_isTicket : ByteArray := prog_1_method_9_code
def yX7_isTicket : MethodName := ⟨RX7, "isTicket", "(I)Z"⟩
abbrev cX7_isCoupon : ByteArray := prog_1_method_10_code
def yX7_isCoupon : MethodName := ⟨RX7, "isCoupon", "(II)Z"⟩
abbrev cX7_ticket : ByteArray := prog_1_method_17_code
def yX7_ticket : MethodName := ⟨RX7, "ticket", "(II)I"⟩
abbrev cX7_milesTogether : ByteArray := prog_1_method_18_code
def yX7_milesTogether : MethodName := ⟨RX7, "milesTogether", "(I)I"⟩
abbrev cX7_flownTogether : ByteArray := prog_1_method_19_code
def yX7_flownTogether : MethodName := ⟨RX7, "flownTogether", "(I)I"⟩
abbrev cX7_coupon : ByteArray := prog_1_method_20_code
def yX7_coupon : MethodName := ⟨RX7, "coupon", "(III)I"⟩
abbrev cX7_prorateNow : ByteArray := prog_1_method_21_code
def yX7_prorateNow : MethodName := ⟨RX7, "prorateNow", "(I)V"⟩
abbrev cX7_prorateStraight : ByteArray := prog_1_method_22_code
def yX7_prorateStraight : MethodName := ⟨RX7, "prorateStraight", "(I)V"⟩
abbrev cX7_prorateWithout : ByteArray := prog_1_method_23_code
def yX7_prorateWithout : MethodName := ⟨RX7, "prorateWithout", "(II)V"⟩
abbrev cX7_shareNow : ByteArray := prog_1_method_24_code
def yX7_shareNow : MethodName := ⟨RX7, "shareNow", "(II)I"⟩
abbrev cX7_share : ByteArray := prog_1_method_26_code
def yX7_share : MethodName := ⟨RX7, "share", "(II)I"⟩
abbrev cX7_rounds : ByteArray := prog_1_method_28_code
def yX7_rounds : MethodName := ⟨RX7, "rounds", "(I)I"⟩
abbrev cX7_left : ByteArray := prog_1_method_29_code
def yX7_left : MethodName := ⟨RX7, "left", "(I)I"⟩
abbrev cX7_straight : ByteArray := prog_1_method_30_code
def yX7_straight : MethodName := ⟨RX7, "straight", "(II)I"⟩
abbrev cX7_other : ByteArray := prog_1_method_31_code
def yX7_other : MethodName := ⟨RX7, "other", "(II)I"⟩
abbrev cX7_without : ByteArray := prog_1_method_32_code
def yX7_without : MethodName := ⟨RX7, "without", "(III)I"⟩
abbrev cX7_matters : ByteArray := prog_1_method_33_code
def yX7_matters : MethodName := ⟨RX7, "matters", "(I)I"⟩
abbrev cX7_sharesDiffer : ByteArray := prog_1_method_34_code
def yX7_sharesDiffer : MethodName := ⟨RX7, "sharesDiffer", "()Z"⟩
abbrev cX7_keepSharesBefore : ByteArray := prog_1_method_35_code
def yX7_keepSharesBefore : MethodName := ⟨RX7, "keepSharesBefore", "(I)V"⟩
abbrev cX7_fly : ByteArray := prog_1_method_39_code
def yX7_fly : MethodName := ⟨RX7, "fly", "(II)I"⟩
abbrev cX7_endorsingRefused : ByteArray := prog_1_method_40_code
def yX7_endorsingRefused : MethodName := ⟨RX7, "endorsingRefused", "(III)I"⟩
abbrev cX7_endorse : ByteArray := prog_1_method_41_code
def yX7_endorse : MethodName := ⟨RX7, "endorse", "(III)I"⟩
def RX8 : String := "ProratesLaw$Found"
def TX8 : u_T := fun k => match k with
  | 0 => ("ProratesLaw$Found", "whole", "[J", true)
  | 1 => ("ProratesLaw$Found", "up", "[J", true)
  | 2 => ("ProratesLaw$Found", "share", "[I", true)
  | 3 => ("ProratesLaw$Found", "by", "[I", true)
  | 4 => ("ProratesLaw$Found", "down", "J", false)
  | 5 => ("ProratesLaw$Found", "rounds", "I", false)
  | _ => ("ProratesLaw$Found", "left", "I", false)
def tyX8 : Nat → FieldType := fun k => match k with
  | 0 => .array .long
  | 1 => .array .long
  | 2 => .array .int
  | 3 => .array .int
  | 4 => .long
  | 5 => .int
  | _ => .int
abbrev wsX80 : List Cond := u_ws RX8 TX8 7
theorem nmX8 : ∀ a, a < 7 → ∀ b, b < 7 → a ≠ b → (TX8 a).2.1 ≠ (TX8 b).2.1 := by decide +kernel
theorem tyX8_ok : ∀ k, k < 7 → parseFieldDescriptor (TX8 k).2.2.1 = some (tyX8 k) := by decide +kernel
abbrev cX8_init : ByteArray := prog_10_method_1_code
def yX8_init : MethodName := ⟨RX8, "<init>", "(I)V"⟩
abbrev cX8_parts : ByteArray := prog_10_method_2_code
def yX8_parts : MethodName := ⟨RX8, "parts", "(J[J[Z)V"⟩
abbrev cX8_cuts : ByteArray := prog_10_method_3_code
def yX8_cuts : MethodName := ⟨RX8, "cuts", "([ZJ)V"⟩
def RX9 : String := "ProratesModel"
def TX9 : u_T := fun k => match k with
  | _ => ("", "", "", false)
def tyX9 : Nat → FieldType := fun k => match k with
  | _ => .int
abbrev wsX90 : List Cond := u_ws RX9 TX9 0
theorem nmX9 : ∀ a, a < 0 → ∀ b, b < 0 → a ≠ b → (TX9 a).2.1 ≠ (TX9 b).2.1 := by decide +kernel
theorem tyX9_ok : ∀ k, k < 0 → parseFieldDescriptor (TX9 k).2.2.1 = some (tyX9 k) := by decide +kernel
def RJx145de : String := "java/io/Serializable"
def TJx145de : u_T := fun k => match k with
  | _ => ("", "", "", false)
def tyJx145de : Nat → FieldType := fun k => match k with
  | _ => .int
theorem nmJx145de : ∀ a, a < 0 → ∀ b, b < 0 → a ≠ b → (TJx145de a).2.1 ≠ (TJx145de b).2.1 := by decide +kernel
theorem tyJx145de_ok : ∀ k, k < 0 → parseFieldDescriptor (TJx145de k).2.2.1 = some (tyJx145de k) := by decide +kernel
def RJ5 : String := "java/lang/AbstractStringBuilder"
def TJ5 : u_T := fun k => match k with
  | _ => ("", "", "", false)
def tyJ5 : Nat → FieldType := fun k => match k with
  | _ => .int
abbrev wsJ50 : List Cond := u_ws RJ5 TJ5 0
theorem nmJ5 : ∀ a, a < 0 → ∀ b, b < 0 → a ≠ b → (TJ5 a).2.1 ≠ (TJ5 b).2.1 := by decide +kernel
theorem tyJ5_ok : ∀ k, k < 0 → parseFieldDescriptor (TJ5 k).2.2.1 = some (tyJ5 k) := by decide +kernel
abbrev cJ5_init_d00df : ByteArray := prog_13_method_2_code
def yJ5_init_d00df : MethodName := ⟨RJ5, "<init>", "(I)V"⟩
abbrev cJ5_length_8abf5 : ByteArray := prog_13_method_6_code
def yJ5_length_8abf5 : MethodName := ⟨RJ5, "length", "()I"⟩
abbrev cJ5_ensureCapacityInternal_d00df : ByteArray := prog_13_method_9_code
def yJ5_ensureCapacityInternal_d00df : MethodName := ⟨RJ5, "ensureCapacityInternal", "(I)V"⟩
abbrev cJ5_newCapacity_0f7a4 : ByteArray := prog_13_method_10_code
def yJ5_newCapacity_0f7a4 : MethodName := ⟨RJ5, "newCapacity", "(I)I"⟩
abbrev cJ5_inflate_da8c8 : ByteArray := prog_13_method_11_code
def yJ5_inflate_da8c8 : MethodName := ⟨RJ5, "inflate", "()V"⟩
abbrev cJ5_append_cf1ce : ByteArray := prog_13_method_22_code
def yJ5_append_cf1ce : MethodName := ⟨RJ5, "append", "(Ljava/lang/String;)Ljava/lang/AbstractStringBuilder;"⟩
abbrev cJ5_appendNull_278bc : ByteArray := prog_13_method_26_code
def yJ5_appendNull_278bc : MethodName := ⟨RJ5, "appendNull", "()Ljava/lang/AbstractStringBuilder;"⟩
abbrev cJ5_append_3fe6f : ByteArray := prog_13_method_31_code
def yJ5_append_3fe6f : MethodName := ⟨RJ5, "append", "(C)Ljava/lang/AbstractStringBuilder;"⟩
abbrev cJ5_append_c97b9 : ByteArray := prog_13_method_32_code
def yJ5_append_c97b9 : MethodName := ⟨RJ5, "append", "(I)Ljava/lang/AbstractStringBuilder;"⟩
abbrev cJ5_getValue_6d5f1 : ByteArray := prog_13_method_64_code
def yJ5_getValue_6d5f1 : MethodName := ⟨RJ5, "getValue", "()[B"⟩
abbrev cJ5_isLatin1_aae02 : ByteArray := prog_13_method_68_code
def yJ5_isLatin1_aae02 : MethodName := ⟨RJ5, "isLatin1", "()Z"⟩
abbrev cJ5_inflateIfNeededFor_a7421 : ByteArray := prog_13_method_71_code
def yJ5_inflateIfNeededFor_a7421 : MethodName := ⟨RJ5, "inflateIfNeededFor", "(Ljava/lang/String;)V"⟩
abbrev cJ5_putStringAt_47b60 : ByteArray := prog_13_method_73_code
def yJ5_putStringAt_47b60 : MethodName := ⟨RJ5, "putStringAt", "(ILjava/lang/String;)V"⟩
def RJx2cfe8 : String := "java/lang/Appendable"
def TJx2cfe8 : u_T := fun k => match k with
  | _ => ("", "", "", false)
def tyJx2cfe8 : Nat → FieldType := fun k => match k with
  | _ => .int
theorem nmJx2cfe8 : ∀ a, a < 0 → ∀ b, b < 0 → a ≠ b → (TJx2cfe8 a).2.1 ≠ (TJx2cfe8 b).2.1 := by decide +kernel
theorem tyJx2cfe8_ok : ∀ k, k < 0 → parseFieldDescriptor (TJx2cfe8 k).2.2.1 = some (tyJx2cfe8 k) := by decide +kernel
def RJx9f9b0 : String := "java/lang/CharSequence"
def TJx9f9b0 : u_T := fun k => match k with
  | _ => ("", "", "", false)
def tyJx9f9b0 : Nat → FieldType := fun k => match k with
  | _ => .int
theorem nmJx9f9b0 : ∀ a, a < 0 → ∀ b, b < 0 → a ≠ b → (TJx9f9b0 a).2.1 ≠ (TJx9f9b0 b).2.1 := by decide +kernel
theorem tyJx9f9b0_ok : ∀ k, k < 0 → parseFieldDescriptor (TJx9f9b0 k).2.2.1 = some (tyJx9f9b0 k) := by decide +kernel
def RJx8e188 : String := "java/lang/Cloneable"
def TJx8e188 : u_T := fun k => match k with
  | _ => ("", "", "", false)
def tyJx8e188 : Nat → FieldType := fun k => match k with
  | _ => .int
theorem nmJx8e188 : ∀ a, a < 0 → ∀ b, b < 0 → a ≠ b → (TJx8e188 a).2.1 ≠ (TJx8e188 b).2.1 := by decide +kernel
theorem tyJx8e188_ok : ∀ k, k < 0 → parseFieldDescriptor (TJx8e188 k).2.2.1 = some (tyJx8e188 k) := by decide +kernel
def RJxb160c : String := "java/lang/Comparable"
def TJxb160c : u_T := fun k => match k with
  | _ => ("", "", "", false)
def tyJxb160c : Nat → FieldType := fun k => match k with
  | _ => .int
theorem nmJxb160c : ∀ a, a < 0 → ∀ b, b < 0 → a ≠ b → (TJxb160c a).2.1 ≠ (TJxb160c b).2.1 := by decide +kernel
theorem tyJxb160c_ok : ∀ k, k < 0 → parseFieldDescriptor (TJxb160c k).2.2.1 = some (tyJxb160c k) := by decide +kernel
def RJx29ce0 : String := "java/lang/Enum"
def TJx29ce0 : u_T := fun k => match k with
  | _ => ("", "", "", false)
def tyJx29ce0 : Nat → FieldType := fun k => match k with
  | _ => .int
theorem nmJx29ce0 : ∀ a, a < 0 → ∀ b, b < 0 → a ≠ b → (TJx29ce0 a).2.1 ≠ (TJx29ce0 b).2.1 := by decide +kernel
theorem tyJx29ce0_ok : ∀ k, k < 0 → parseFieldDescriptor (TJx29ce0 k).2.2.1 = some (tyJx29ce0 k) := by decide +kernel
abbrev cJx29ce0_ordinal_8abf5 : ByteArray := prog_18_method_2_code
def yJx29ce0_ordinal_8abf5 : MethodName := ⟨RJx29ce0, "ordinal", "()I"⟩
def RJ6 : String := "java/lang/Integer"
def TJ6 : u_T := fun k => match k with
  | _ => ("", "", "", false)
def tyJ6 : Nat → FieldType := fun k => match k with
  | _ => .int
abbrev wsJ60 : List Cond := u_ws RJ6 TJ6 0
theorem nmJ6 : ∀ a, a < 0 → ∀ b, b < 0 → a ≠ b → (TJ6 a).2.1 ≠ (TJ6 b).2.1 := by decide +kernel
theorem tyJ6_ok : ∀ k, k < 0 → parseFieldDescriptor (TJ6 k).2.2.1 = some (tyJ6 k) := by decide +kernel
abbrev cJ6_getChars_ba4f3 : ByteArray := prog_21_method_12_code
def yJ6_getChars_ba4f3 : MethodName := ⟨RJ6, "getChars", "(II[B)I"⟩
abbrev cJ6_stringSize_0f7a4 : ByteArray := prog_21_method_13_code
def yJ6_stringSize_0f7a4 : MethodName := ⟨RJ6, "stringSize", "(I)I"⟩
def RJ9 : String := "java/lang/Math"
def TJ9 : u_T := fun k => match k with
  | _ => ("", "", "", false)
def tyJ9 : Nat → FieldType := fun k => match k with
  | _ => .int
abbrev wsJ90 : List Cond := u_ws RJ9 TJ9 0
theorem nmJ9 : ∀ a, a < 0 → ∀ b, b < 0 → a ≠ b → (TJ9 a).2.1 ≠ (TJ9 b).2.1 := by decide +kernel
theorem tyJ9_ok : ∀ k, k < 0 → parseFieldDescriptor (TJ9 k).2.2.1 = some (tyJ9 k) := by decide +kernel
abbrev cJ9_max_7cf53 : ByteArray := prog_22_method_65_code
def yJ9_max_7cf53 : MethodName := ⟨RJ9, "max", "(II)I"⟩
abbrev cJ9_min_7cf53 : ByteArray := prog_22_method_69_code
def yJ9_min_7cf53 : MethodName := ⟨RJ9, "min", "(II)I"⟩
def RJxd2413 : String := "java/lang/Number"
def TJxd2413 : u_T := fun k => match k with
  | _ => ("", "", "", false)
def tyJxd2413 : Nat → FieldType := fun k => match k with
  | _ => .int
theorem nmJxd2413 : ∀ a, a < 0 → ∀ b, b < 0 → a ≠ b → (TJxd2413 a).2.1 ≠ (TJxd2413 b).2.1 := by decide +kernel
theorem tyJxd2413_ok : ∀ k, k < 0 → parseFieldDescriptor (TJxd2413 k).2.2.1 = some (tyJxd2413 k) := by decide +kernel
def RJ0 : String := "java/lang/String"
def TJ0 : u_T := fun k => match k with
  | 0 => ("java/lang/String", "value", "[B", true)
  | 1 => ("java/lang/String", "coder", "B", true)
  | 2 => ("java/lang/String", "hash", "I", false)
  | _ => ("java/lang/String", "hashIsZero", "Z", false)
def tyJ0 : Nat → FieldType := fun k => match k with
  | 0 => .array .byte
  | 1 => .byte
  | 2 => .int
  | _ => .boolean
abbrev wsJ00 : List Cond := u_ws RJ0 TJ0 4
theorem nmJ0 : ∀ a, a < 4 → ∀ b, b < 4 → a ≠ b → (TJ0 a).2.1 ≠ (TJ0 b).2.1 := by decide +kernel
theorem tyJ0_ok : ∀ k, k < 4 → parseFieldDescriptor (TJ0 k).2.2.1 = some (tyJ0 k) := by decide +kernel
abbrev cJ0_init_81219 : ByteArray := prog_25_method_53_code
def yJ0_init_81219 : MethodName := ⟨RJ0, "<init>", "(Ljava/lang/StringBuilder;)V"⟩
abbrev cJ0_length_8abf5 : ByteArray := prog_25_method_54_code
def yJ0_length_8abf5 : MethodName := ⟨RJ0, "length", "()I"⟩
abbrev cJ0_charAt_5068e : ByteArray := prog_25_method_56_code
def yJ0_charAt_5068e : MethodName := ⟨RJ0, "charAt", "(I)C"⟩
abbrev cJ0_getBytes_840e7 : ByteArray := prog_25_method_147_code
def yJ0_getBytes_840e7 : MethodName := ⟨RJ0, "getBytes", "([BIB)V"⟩
abbrev cJ0_init_db425 : ByteArray := prog_25_method_150_code
def yJ0_init_db425 : MethodName := ⟨RJ0, "<init>", "(Ljava/lang/AbstractStringBuilder;Ljava/lang/Void;)V"⟩
abbrev cJ0_coder_7d493 : ByteArray := prog_25_method_152_code
def yJ0_coder_7d493 : MethodName := ⟨RJ0, "coder", "()B"⟩
abbrev cJ0_isLatin1_aae02 : ByteArray := prog_25_method_154_code
def yJ0_isLatin1_aae02 : MethodName := ⟨RJ0, "isLatin1", "()Z"⟩
abbrev cJ0_checkIndex_df160 : ByteArray := prog_25_method_155_code
def yJ0_checkIndex_df160 : MethodName := ⟨RJ0, "checkIndex", "(II)V"⟩
abbrev cJ0_checkBoundsOffCount_cabcc : ByteArray := prog_25_method_157_code
def yJ0_checkBoundsOffCount_cabcc : MethodName := ⟨RJ0, "checkBoundsOffCount", "(III)I"⟩
abbrev cJ0_checkBoundsBeginEnd_23922 : ByteArray := prog_25_method_158_code
def yJ0_checkBoundsBeginEnd_23922 : MethodName := ⟨RJ0, "checkBoundsBeginEnd", "(III)V"⟩
def RJ4 : String := "java/lang/StringBuilder"
def TJ4 : u_T := fun k => match k with
  | 0 => ("java/lang/AbstractStringBuilder", "value", "[B", false)
  | 1 => ("java/lang/AbstractStringBuilder", "coder", "B", false)
  | 2 => ("java/lang/AbstractStringBuilder", "maybeLatin1", "Z", false)
  | _ => ("java/lang/AbstractStringBuilder", "count", "I", false)
def tyJ4 : Nat → FieldType := fun k => match k with
  | 0 => .array .byte
  | 1 => .byte
  | 2 => .boolean
  | _ => .int
abbrev wsJ40 : List Cond := u_ws RJ4 TJ4 4
theorem nmJ4 : ∀ a, a < 4 → ∀ b, b < 4 → a ≠ b → (TJ4 a).2.1 ≠ (TJ4 b).2.1 := by decide +kernel
theorem tyJ4_ok : ∀ k, k < 4 → parseFieldDescriptor (TJ4 k).2.2.1 = some (tyJ4 k) := by decide +kernel
abbrev cJ4_init_da8c8 : ByteArray := prog_26_method_1_code
def yJ4_init_da8c8 : MethodName := ⟨RJ4, "<init>", "()V"⟩
abbrev cJ4_append_15ec4 : ByteArray := prog_26_method_7_code
def yJ4_append_15ec4 : MethodName := ⟨RJ4, "append", "(Ljava/lang/String;)Ljava/lang/StringBuilder;"⟩
abbrev cJ4_append_cf468 : ByteArray := prog_26_method_14_code
def yJ4_append_cf468 : MethodName := ⟨RJ4, "append", "(C)Ljava/lang/StringBuilder;"⟩
abbrev cJ4_append_bf812 : ByteArray := prog_26_method_15_code
def yJ4_append_bf812 : MethodName := ⟨RJ4, "append", "(I)Ljava/lang/StringBuilder;"⟩
abbrev cJ4_toString_0e30d : ByteArray := prog_26_method_42_code
def yJ4_toString_0e30d : MethodName := ⟨RJ4, "toString", "()Ljava/lang/String;"⟩
abbrev cJ4_length_8abf5 : ByteArray := prog_26_method_93_code
def yJ4_length_8abf5 : MethodName := ⟨RJ4, "length", "()I"⟩
def RJ1 : String := "java/lang/StringLatin1"
def TJ1 : u_T := fun k => match k with
  | _ => ("", "", "", false)
def tyJ1 : Nat → FieldType := fun k => match k with
  | _ => .int
abbrev wsJ10 : List Cond := u_ws RJ1 TJ1 0
theorem nmJ1 : ∀ a, a < 0 → ∀ b, b < 0 → a ≠ b → (TJ1 a).2.1 ≠ (TJ1 b).2.1 := by decide +kernel
theorem tyJ1_ok : ∀ k, k < 0 → parseFieldDescriptor (TJ1 k).2.2.1 = some (tyJ1 k) := by decide +kernel
abbrev cJ1_charAt_3b067 : ByteArray := prog_27_method_2_code
def yJ1_charAt_3b067 : MethodName := ⟨RJ1, "charAt", "([BI)C"⟩
abbrev cJ1_canEncode_fc78d : ByteArray := prog_27_method_3_code
def yJ1_canEncode_fc78d : MethodName := ⟨RJ1, "canEncode", "(C)Z"⟩
abbrev cJ1_inflate_0e8fd : ByteArray := prog_27_method_50_code
def yJ1_inflate_0e8fd : MethodName := ⟨RJ1, "inflate", "([BI[BII)V"⟩
def RJ2 : String := "java/lang/StringUTF16"
def TJ2 : u_T := fun k => match k with
  | _ => ("", "", "", false)
def tyJ2 : Nat → FieldType := fun k => match k with
  | _ => .int
abbrev wsJ20 : List Cond := u_ws RJ2 TJ2 0
theorem nmJ2 : ∀ a, a < 0 → ∀ b, b < 0 → a ≠ b → (TJ2 a).2.1 ≠ (TJ2 b).2.1 := by decide +kernel
theorem tyJ2_ok : ∀ k, k < 0 → parseFieldDescriptor (TJ2 k).2.2.1 = some (tyJ2 k) := by decide +kernel
abbrev cJ2_newBytesFor_77867 : ByteArray := prog_28_method_2_code
def yJ2_newBytesFor_77867 : MethodName := ⟨RJ2, "newBytesFor", "(I)[B"⟩
abbrev cJ2_newBytesLength_0f7a4 : ByteArray := prog_28_method_3_code
def yJ2_newBytesLength_0f7a4 : MethodName := ⟨RJ2, "newBytesLength", "(I)I"⟩
abbrev cJ2_putChar_b72d1 : ByteArray := prog_28_method_4_code
def yJ2_putChar_b72d1 : MethodName := ⟨RJ2, "putChar", "([BII)V"⟩
abbrev cJ2_getChar_3b067 : ByteArray := prog_28_method_5_code
def yJ2_getChar_3b067 : MethodName := ⟨RJ2, "getChar", "([BI)C"⟩
abbrev cJ2_length_9d52b : ByteArray := prog_28_method_6_code
def yJ2_length_9d52b : MethodName := ⟨RJ2, "length", "([B)I"⟩
abbrev cJ2_coderFromArrayLen_85cad : ByteArray := prog_28_method_15_code
def yJ2_coderFromArrayLen_85cad : MethodName := ⟨RJ2, "coderFromArrayLen", "([BI)B"⟩
abbrev cJ2_compress_39247 : ByteArray := prog_28_method_17_code
def yJ2_compress_39247 : MethodName := ⟨RJ2, "compress", "([BII)[B"⟩
abbrev cJ2_compress_5af95 : ByteArray := prog_28_method_22_code
def yJ2_compress_5af95 : MethodName := ⟨RJ2, "compress", "([BI[BII)I"⟩
abbrev cJ2_putCharSB_b72d1 : ByteArray := prog_28_method_71_code
def yJ2_putCharSB_b72d1 : MethodName := ⟨RJ2, "putCharSB", "([BII)V"⟩
abbrev cJ2_getChars_46870 : ByteArray := prog_28_method_77_code
def yJ2_getChars_46870 : MethodName := ⟨RJ2, "getChars", "(III[B)I"⟩
abbrev cJ2_putCharsAt_cd4e5 : ByteArray := prog_28_method_81_code
def yJ2_putCharsAt_cd4e5 : MethodName := ⟨RJ2, "putCharsAt", "([BICCCC)I"⟩
abbrev cJ2_charAt_3b067 : ByteArray := prog_28_method_83_code
def yJ2_charAt_3b067 : MethodName := ⟨RJ2, "charAt", "([BI)C"⟩
abbrev cJ2_inflate_0e8fd : ByteArray := prog_28_method_86_code
def yJ2_inflate_0e8fd : MethodName := ⟨RJ2, "inflate", "([BI[BII)V"⟩
abbrev cJ2_getChars_ba4f3 : ByteArray := prog_28_method_89_code
def yJ2_getChars_ba4f3 : MethodName := ⟨RJ2, "getChars", "(II[B)I"⟩
abbrev cJ2_checkIndex_2214a : ByteArray := prog_28_method_91_code
def yJ2_checkIndex_2214a : MethodName := ⟨RJ2, "checkIndex", "(I[B)V"⟩
abbrev cJ2_checkBoundsBeginEnd_d044e : ByteArray := prog_28_method_93_code
def yJ2_checkBoundsBeginEnd_d044e : MethodName := ⟨RJ2, "checkBoundsBeginEnd", "(II[B)V"⟩
abbrev cJ2_checkBoundsOffCount_d044e : ByteArray := prog_28_method_94_code
def yJ2_checkBoundsOffCount_d044e : MethodName := ⟨RJ2, "checkBoundsOffCount", "(II[B)V"⟩
def RJ10 : String := "java/lang/System"
def TJ10 : u_T := fun k => match k with
  | _ => ("", "", "", false)
def tyJ10 : Nat → FieldType := fun k => match k with
  | _ => .int
theorem nmJ10 : ∀ a, a < 0 → ∀ b, b < 0 → a ≠ b → (TJ10 a).2.1 ≠ (TJ10 b).2.1 := by decide +kernel
theorem tyJ10_ok : ∀ k, k < 0 → parseFieldDescriptor (TJ10 k).2.2.1 = some (tyJ10 k) := by decide +kernel
def RJxfd54e : String := "java/lang/constant/Constable"
def TJxfd54e : u_T := fun k => match k with
  | _ => ("", "", "", false)
def tyJxfd54e : Nat → FieldType := fun k => match k with
  | _ => .int
theorem nmJxfd54e : ∀ a, a < 0 → ∀ b, b < 0 → a ≠ b → (TJxfd54e a).2.1 ≠ (TJxfd54e b).2.1 := by decide +kernel
theorem tyJxfd54e_ok : ∀ k, k < 0 → parseFieldDescriptor (TJxfd54e k).2.2.1 = some (tyJxfd54e k) := by decide +kernel
def RJx3cf43 : String := "java/lang/constant/ConstantDesc"
def TJx3cf43 : u_T := fun k => match k with
  | _ => ("", "", "", false)
def tyJx3cf43 : Nat → FieldType := fun k => match k with
  | _ => .int
theorem nmJx3cf43 : ∀ a, a < 0 → ∀ b, b < 0 → a ≠ b → (TJx3cf43 a).2.1 ≠ (TJx3cf43 b).2.1 := by decide +kernel
theorem tyJx3cf43_ok : ∀ k, k < 0 → parseFieldDescriptor (TJx3cf43 k).2.2.1 = some (tyJx3cf43 k) := by decide +kernel
def RJ7 : String := "java/util/Arrays"
def TJ7 : u_T := fun k => match k with
  | _ => ("", "", "", false)
def tyJ7 : Nat → FieldType := fun k => match k with
  | _ => .int
abbrev wsJ70 : List Cond := u_ws RJ7 TJ7 0
theorem nmJ7 : ∀ a, a < 0 → ∀ b, b < 0 → a ≠ b → (TJ7 a).2.1 ≠ (TJ7 b).2.1 := by decide +kernel
theorem tyJ7_ok : ∀ k, k < 0 → parseFieldDescriptor (TJ7 k).2.2.1 = some (tyJ7 k) := by decide +kernel
abbrev cJ7_copyOf_9075b : ByteArray := prog_33_method_121_code
def yJ7_copyOf_9075b : MethodName := ⟨RJ7, "copyOf", "([BI)[B"⟩
abbrev cJ7_checkLength_df160 : ByteArray := prog_33_method_131_code
def yJ7_checkLength_df160 : MethodName := ⟨RJ7, "checkLength", "(II)V"⟩
abbrev cJ7_copyOfRange_39247 : ByteArray := prog_33_method_132_code
def yJ7_copyOfRange_39247 : MethodName := ⟨RJ7, "copyOfRange", "([BII)[B"⟩
abbrev cJ7_copyOfRangeByte_39247 : ByteArray := prog_33_method_133_code
def yJ7_copyOfRangeByte_39247 : MethodName := ⟨RJ7, "copyOfRangeByte", "([BII)[B"⟩
def RJ8 : String := "jdk/internal/util/ArraysSupport"
def TJ8 : u_T := fun k => match k with
  | _ => ("", "", "", false)
def tyJ8 : Nat → FieldType := fun k => match k with
  | _ => .int
abbrev wsJ80 : List Cond := u_ws RJ8 TJ8 0
theorem nmJ8 : ∀ a, a < 0 → ∀ b, b < 0 → a ≠ b → (TJ8 a).2.1 ≠ (TJ8 b).2.1 := by decide +kernel
theorem tyJ8_ok : ∀ k, k < 0 → parseFieldDescriptor (TJ8 k).2.2.1 = some (tyJ8 k) := by decide +kernel
abbrev cJ8_newLength_cabcc : ByteArray := prog_35_method_27_code
def yJ8_newLength_cabcc : MethodName := ⟨RJ8, "newLength", "(III)I"⟩
abbrev cJ8_hugeLength_7cf53 : ByteArray := prog_35_method_28_code
def yJ8_hugeLength_7cf53 : MethodName := ⟨RJ8, "hugeLength", "(II)I"⟩
def RJ3 : String := "jdk/internal/util/Preconditions"
def TJ3 : u_T := fun k => match k with
  | _ => ("", "", "", false)
def tyJ3 : Nat → FieldType := fun k => match k with
  | _ => .int
abbrev wsJ30 : List Cond := u_ws RJ3 TJ3 0
theorem nmJ3 : ∀ a, a < 0 → ∀ b, b < 0 → a ≠ b → (TJ3 a).2.1 ≠ (TJ3 b).2.1 := by decide +kernel
theorem tyJ3_ok : ∀ k, k < 0 → parseFieldDescriptor (TJ3 k).2.2.1 = some (tyJ3 k) := by decide +kernel
abbrev cJ3_checkIndex_8e157 : ByteArray := prog_36_method_11_code
def yJ3_checkIndex_8e157 : MethodName := ⟨RJ3, "checkIndex", "(IILjava/util/function/BiFunction;)I"⟩
abbrev cJ3_checkFromToIndex_8c36e : ByteArray := prog_36_method_12_code
def yJ3_checkFromToIndex_8c36e : MethodName := ⟨RJ3, "checkFromToIndex", "(IIILjava/util/function/BiFunction;)I"⟩
abbrev cJ3_checkFromIndexSize_8c36e : ByteArray := prog_36_method_13_code
def yJ3_checkFromIndexSize_8c36e : MethodName := ⟨RJ3, "checkFromIndexSize", "(IIILjava/util/function/BiFunction;)I"⟩
def RL : String := "ProratesLaw"
abbrev cL_cell : ByteArray := method_2_code
def yL_cell : MethodName := ⟨RL, "cell", "([II)I"⟩
abbrev cL_in : ByteArray := method_3_code
def yL_in : MethodName := ⟨RL, "in", "(II)I"⟩
abbrev cL_put : ByteArray := method_4_code
def yL_put : MethodName := ⟨RL, "put", "(LProrates;Ljava/lang/String;)V"⟩
abbrev cL_lines : ByteArray := method_5_code
def yL_lines : MethodName := ⟨RL, "lines", "(Ljava/lang/String;)I"⟩
abbrev cL_places : ByteArray := method_6_code
def yL_places : MethodName := ⟨RL, "places", "([I)I"⟩
abbrev cL_carriers : ByteArray := method_7_code
def yL_carriers : MethodName := ⟨RL, "carriers", "([I)I"⟩
abbrev cL_provisos : ByteArray := method_8_code
def yL_provisos : MethodName := ⟨RL, "provisos", "([I)I"⟩
abbrev cL_bands : ByteArray := method_9_code
def yL_bands : MethodName := ⟨RL, "bands", "([I)I"⟩
abbrev cL_tickets : ByteArray := method_10_code
def yL_tickets : MethodName := ⟨RL, "tickets", "([I)I"⟩
abbrev cL_bases : ByteArray := method_11_code
def yL_bases : MethodName := ⟨RL, "bases", "([I)I"⟩
abbrev cL_rate : ByteArray := method_12_code
def yL_rate : MethodName := ⟨RL, "rate", "([I)I"⟩
abbrev cL_leg : ByteArray := method_13_code
def yL_leg : MethodName := ⟨RL, "leg", "([II)I"⟩
abbrev cL_ring : ByteArray := method_14_code
def yL_ring : MethodName := ⟨RL, "ring", "([I)I"⟩
abbrev cL_upTo : ByteArray := method_15_code
def yL_upTo : MethodName := ⟨RL, "upTo", "([II)I"⟩
abbrev cL_weight : ByteArray := method_16_code
def yL_weight : MethodName := ⟨RL, "weight", "([II)I"⟩
abbrev cL_pro : ByteArray := method_17_code
def yL_pro : MethodName := ⟨RL, "pro", "([III)I"⟩
abbrev cL_base : ByteArray := method_18_code
def yL_base : MethodName := ⟨RL, "base", "([III)I"⟩
abbrev cL_isBase : ByteArray := method_19_code
def yL_isBase : MethodName := ⟨RL, "isBase", "([II)Z"⟩
abbrev cL_fare : ByteArray := method_20_code
def yL_fare : MethodName := ⟨RL, "fare", "([II)I"⟩
abbrev cL_how : ByteArray := method_21_code
def yL_how : MethodName := ⟨RL, "how", "([II)I"⟩
abbrev cL_coupons : ByteArray := method_22_code
def yL_coupons : MethodName := ⟨RL, "coupons", "([II)I"⟩
abbrev cL_carrier : ByteArray := method_23_code
def yL_carrier : MethodName := ⟨RL, "carrier", "([III)I"⟩
abbrev cL_at : ByteArray := method_24_code
def yL_at : MethodName := ⟨RL, "at", "([III)I"⟩
abbrev cL_place : ByteArray := method_25_code
def yL_place : MethodName := ⟨RL, "place", "(I)Ljava/lang/String;"⟩
abbrev cL_company : ByteArray := method_26_code
def yL_company : MethodName := ⟨RL, "company", "(I)Ljava/lang/String;"⟩
abbrev cL_text : ByteArray := method_27_code
def yL_text : MethodName := ⟨RL, "text", "([I)Ljava/lang/String;"⟩
abbrev cL_desk : ByteArray := method_28_code
def yL_desk : MethodName := ⟨RL, "desk", "([I)LProrates;"⟩
abbrev cL_miles : ByteArray := method_29_code
def yL_miles : MethodName := ⟨RL, "miles", "([III)I"⟩
abbrev cL_weightOf : ByteArray := method_30_code
def yL_weightOf : MethodName := ⟨RL, "weightOf", "([II)I"⟩
abbrev cL_baseOf : ByteArray := method_31_code
def yL_baseOf : MethodName := ⟨RL, "baseOf", "([IIII)I"⟩
abbrev cL_factor : ByteArray := method_32_code
def yL_factor : MethodName := ⟨RL, "factor", "([IIIII)J"⟩
abbrev cL_holds : ByteArray := method_33_code
def yL_holds : MethodName := ⟨RL, "holds", "([II[III)I"⟩
abbrev cL_many : ByteArray := method_34_code
def yL_many : MethodName := ⟨RL, "many", "([Z)I"⟩
abbrev cL_found : ByteArray := method_35_code
def yL_found : MethodName := ⟨RL, "found", "([III[I[IIZ)LProratesLaw$Found;"⟩
abbrev cL_works : ByteArray := method_36_code
def yL_works : MethodName := ⟨RL, "works", "(LProratesLaw$Found;J[Z[J[J[I)V"⟩
abbrev cL_isLike : ByteArray := method_37_code
def yL_isLike : MethodName := ⟨RL, "isLike", "(LProrates;ILProratesLaw$Found;)Z"⟩
abbrev cL_law : ByteArray := code
def yL_law : MethodName := ⟨RL, "law", "([I)Z"⟩
abbrev vwCl : List vw_C := [(RX1, TX1, 20), (RX2, TX2, 11), (RX3, TX3, 11), (RX4, TX4, 3), (RX5, TX5, 18), (RX7, TX7, 10), (RX8, TX8, 7), (RJ0, TJ0, 4), (RJ4, TJ4, 4)]
