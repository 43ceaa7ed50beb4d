/-! NAMES (printed) -/
def RX0 : String := "ConsentQueue$1"
def TX0 : u_T := fun k => match k with
  | _ => ("", "", "", false)
def tyX0 : Nat → FieldType := fun k => match k with
  | _ => .int
abbrev wsX00 : List Cond := u_ws RX0 TX0 0
theorem nmX0 : ∀ a, a < 0 → ∀ b, b < 0 → a ≠ b → (TX0 a).2.1 ≠ (TX0 b).2.1 := by decide +kernel
theorem tyX0_ok : ∀ k, k < 0 → parseFieldDescriptor (TX0 k).2.2.1 = some (tyX0 k) := by decide +kernel
def RX1 : String := "ConsentQueue$Command"
def TX1 : u_T := fun k => match k with
  | _ => ("", "", "", false)
def tyX1 : Nat → FieldType := fun k => match k with
  | _ => .int
abbrev wsX10 : List Cond := u_ws RX1 TX1 0
theorem nmX1 : ∀ a, a < 0 → ∀ b, b < 0 → a ≠ b → (TX1 a).2.1 ≠ (TX1 b).2.1 := by decide +kernel
theorem tyX1_ok : ∀ k, k < 0 → parseFieldDescriptor (TX1 k).2.2.1 = some (tyX1 k) := by decide +kernel
def RX2 : String := "ConsentQueue$CommandText"
def TX2 : u_T := fun k => match k with
  | 0 => ("ConsentQueue$CommandText", "bytes", "[B", true)
  | 1 => ("ConsentQueue$CommandText", "length", "I", false)
  | 2 => ("ConsentQueue$CommandText", "position", "I", false)
  | 3 => ("ConsentQueue$CommandText", "fault", "I", false)
  | 4 => ("ConsentQueue$CommandText", "command", "LConsentQueue$Command;", false)
  | _ => ("ConsentQueue$CommandText", "numbers", "[I", true)
def tyX2 : Nat → FieldType := fun k => match k with
  | 0 => .array .byte
  | 1 => .int
  | 2 => .int
  | 3 => .int
  | 4 => .object "ConsentQueue$Command"
  | _ => .array .int
abbrev wsX20 : List Cond := u_ws RX2 TX2 6
theorem nmX2 : ∀ a, a < 6 → ∀ b, b < 6 → a ≠ b → (TX2 a).2.1 ≠ (TX2 b).2.1 := by decide +kernel
theorem tyX2_ok : ∀ k, k < 6 → parseFieldDescriptor (TX2 k).2.2.1 = some (tyX2 k) := by decide +kernel
abbrev cX2_init : ByteArray := prog_4_method_1_code
def yX2_init : MethodName := ⟨RX2, "<init>", "()V"⟩
abbrev cX2_byteAt : ByteArray := prog_4_method_3_code
def yX2_byteAt : MethodName := ⟨RX2, "byteAt", "(I)I"⟩
abbrev cX2_number : ByteArray := prog_4_method_4_code
def yX2_number : MethodName := ⟨RX2, "number", "(I)I"⟩
abbrev cX2_findFault : ByteArray := prog_4_method_5_code
def yX2_findFault : MethodName := ⟨RX2, "findFault", "()I"⟩
abbrev cX2_startReading : ByteArray := prog_4_method_6_code
def yX2_startReading : MethodName := ⟨RX2, "startReading", "()V"⟩
abbrev cX2_hasCommand : ByteArray := prog_4_method_7_code
def yX2_hasCommand : MethodName := ⟨RX2, "hasCommand", "()Z"⟩
abbrev cX2_readCommand : ByteArray := prog_4_method_8_code
def yX2_readCommand : MethodName := ⟨RX2, "readCommand", "()V"⟩
abbrev cX2_readNumber : ByteArray := prog_4_method_9_code
def yX2_readNumber : MethodName := ⟨RX2, "readNumber", "(I)V"⟩
abbrev cX2_readDigits : ByteArray := prog_4_method_10_code
def yX2_readDigits : MethodName := ⟨RX2, "readDigits", "()I"⟩
abbrev cX2_readSemicolon : ByteArray := prog_4_method_11_code
def yX2_readSemicolon : MethodName := ⟨RX2, "readSemicolon", "()V"⟩
abbrev cX2_skipSpaces : ByteArray := prog_4_method_12_code
def yX2_skipSpaces : MethodName := ⟨RX2, "skipSpaces", "()V"⟩
abbrev cX2_skipLetters : ByteArray := prog_4_method_13_code
def yX2_skipLetters : MethodName := ⟨RX2, "skipLetters", "()V"⟩
abbrev cX2_commandSpelled : ByteArray := prog_4_method_14_code
def yX2_commandSpelled : MethodName := ⟨RX2, "commandSpelled", "(II)LConsentQueue$Command;"⟩
abbrev cX2_isSpelled : ByteArray := prog_4_method_15_code
def yX2_isSpelled : MethodName := ⟨RX2, "isSpelled", "(Ljava/lang/String;II)Z"⟩
abbrev cX2_isLetter : ByteArray := prog_4_method_16_code
def yX2_isLetter : MethodName := ⟨RX2, "isLetter", "(I)Z"⟩
abbrev cX2_isDigit : ByteArray := prog_4_method_17_code
def yX2_isDigit : MethodName := ⟨RX2, "isDigit", "(I)Z"⟩
def RX3 : String := "ConsentQueue$History"
def TX3 : u_T := fun k => match k with
  | 0 => ("ConsentQueue$History", "saved", "[LConsentQueue$Line;", true)
  | _ => ("ConsentQueue$History", "size", "I", false)
def tyX3 : Nat → FieldType := fun k => match k with
  | 0 => .array (.object "ConsentQueue$Line")
  | _ => .int
abbrev wsX30 : List Cond := u_ws RX3 TX3 2
theorem nmX3 : ∀ a, a < 2 → ∀ b, b < 2 → a ≠ b → (TX3 a).2.1 ≠ (TX3 b).2.1 := by decide +kernel
theorem tyX3_ok : ∀ k, k < 2 → parseFieldDescriptor (TX3 k).2.2.1 = some (tyX3 k) := by decide +kernel
abbrev cX3_init : ByteArray := prog_5_method_1_code
def yX3_init : MethodName := ⟨RX3, "<init>", "()V"⟩
abbrev cX3_push : ByteArray := prog_5_method_2_code
def yX3_push : MethodName := ⟨RX3, "push", "(LConsentQueue$Line;)V"⟩
abbrev cX3_dropOldest : ByteArray := prog_5_method_3_code
def yX3_dropOldest : MethodName := ⟨RX3, "dropOldest", "()V"⟩
abbrev cX3_popInto : ByteArray := prog_5_method_4_code
def yX3_popInto : MethodName := ⟨RX3, "popInto", "(LConsentQueue$Line;)V"⟩
def RX4 : String := "ConsentQueue$Line"
def TX4 : u_T := fun k => match k with
  | 0 => ("ConsentQueue$Line", "members", "[LConsentQueue$Member;", true)
  | 1 => ("ConsentQueue$Line", "nobody", "LConsentQueue$Member;", true)
  | 2 => ("ConsentQueue$Line", "count", "I", false)
  | 3 => ("ConsentQueue$Line", "split", "I", false)
  | 4 => ("ConsentQueue$Line", "swaps", "I", false)
  | 5 => ("ConsentQueue$Line", "paid", "I", false)
  | 6 => ("ConsentQueue$Line", "served", "I", false)
  | _ => ("ConsentQueue$Line", "joined", "I", false)
def tyX4 : Nat → FieldType := fun k => match k with
  | 0 => .array (.object "ConsentQueue$Member")
  | 1 => .object "ConsentQueue$Member"
  | 2 => .int
  | 3 => .int
  | 4 => .int
  | 5 => .int
  | 6 => .int
  | _ => .int
abbrev wsX40 : List Cond := u_ws RX4 TX4 8
theorem nmX4 : ∀ a, a < 8 → ∀ b, b < 8 → a ≠ b → (TX4 a).2.1 ≠ (TX4 b).2.1 := by decide +kernel
theorem tyX4_ok : ∀ k, k < 8 → parseFieldDescriptor (TX4 k).2.2.1 = some (tyX4 k) := by decide +kernel
abbrev cX4_init : ByteArray := prog_6_method_1_code
def yX4_init : MethodName := ⟨RX4, "<init>", "()V"⟩
abbrev cX4_copyFrom : ByteArray := prog_6_method_2_code
def yX4_copyFrom : MethodName := ⟨RX4, "copyFrom", "(LConsentQueue$Line;)V"⟩
abbrev cX4_memberAt : ByteArray := prog_6_method_3_code
def yX4_memberAt : MethodName := ⟨RX4, "memberAt", "(I)LConsentQueue$Member;"⟩
abbrev cX4_placeOf : ByteArray := prog_6_method_4_code
def yX4_placeOf : MethodName := ⟨RX4, "placeOf", "(I)I"⟩
abbrev cX4_insert : ByteArray := prog_6_method_5_code
def yX4_insert : MethodName := ⟨RX4, "insert", "(III)I"⟩
abbrev cX4_removeMember : ByteArray := prog_6_method_6_code
def yX4_removeMember : MethodName := ⟨RX4, "removeMember", "(I)I"⟩
abbrev cX4_serveFirst : ByteArray := prog_6_method_7_code
def yX4_serveFirst : MethodName := ⟨RX4, "serveFirst", "()I"⟩
abbrev cX4_removeAt : ByteArray := prog_6_method_8_code
def yX4_removeAt : MethodName := ⟨RX4, "removeAt", "(I)V"⟩
abbrev cX4_tell : ByteArray := prog_6_method_9_code
def yX4_tell : MethodName := ⟨RX4, "tell", "(II)I"⟩
abbrev cX4_tellTruth : ByteArray := prog_6_method_10_code
def yX4_tellTruth : MethodName := ⟨RX4, "tellTruth", "()V"⟩
abbrev cX4_makeOffer : ByteArray := prog_6_method_11_code
def yX4_makeOffer : MethodName := ⟨RX4, "makeOffer", "(II)I"⟩
abbrev cX4_setFriends : ByteArray := prog_6_method_12_code
def yX4_setFriends : MethodName := ⟨RX4, "setFriends", "(IZ)I"⟩
abbrev cX4_swapAsOffered : ByteArray := prog_6_method_13_code
def yX4_swapAsOffered : MethodName := ⟨RX4, "swapAsOffered", "(I)I"⟩
abbrev cX4_swapFairly : ByteArray := prog_6_method_14_code
def yX4_swapFairly : MethodName := ⟨RX4, "swapFairly", "(I)I"⟩
abbrev cX4_swapAt : ByteArray := prog_6_method_15_code
def yX4_swapAt : MethodName := ⟨RX4, "swapAt", "(II)I"⟩
abbrev cX4_settleDown : ByteArray := prog_6_method_16_code
def yX4_settleDown : MethodName := ⟨RX4, "settleDown", "()I"⟩
abbrev cX4_keenestPair : ByteArray := prog_6_method_17_code
def yX4_keenestPair : MethodName := ⟨RX4, "keenestPair", "()I"⟩
abbrev cX4_gain : ByteArray := prog_6_method_18_code
def yX4_gain : MethodName := ⟨RX4, "gain", "(I)I"⟩
abbrev cX4_loss : ByteArray := prog_6_method_19_code
def yX4_loss : MethodName := ⟨RX4, "loss", "(I)I"⟩
abbrev cX4_surplus : ByteArray := prog_6_method_20_code
def yX4_surplus : MethodName := ⟨RX4, "surplus", "(I)I"⟩
abbrev cX4_fairPrice : ByteArray := prog_6_method_21_code
def yX4_fairPrice : MethodName := ⟨RX4, "fairPrice", "(I)I"⟩
abbrev cX4_areFriends : ByteArray := prog_6_method_22_code
def yX4_areFriends : MethodName := ⟨RX4, "areFriends", "(I)Z"⟩
abbrev cX4_isHeldByFriends : ByteArray := prog_6_method_23_code
def yX4_isHeldByFriends : MethodName := ⟨RX4, "isHeldByFriends", "(I)Z"⟩
abbrev cX4_wouldSwap : ByteArray := prog_6_method_24_code
def yX4_wouldSwap : MethodName := ⟨RX4, "wouldSwap", "(I)Z"⟩
abbrev cX4_wouldTake : ByteArray := prog_6_method_25_code
def yX4_wouldTake : MethodName := ⟨RX4, "wouldTake", "(I)Z"⟩
abbrev cX4_hindrance : ByteArray := prog_6_method_26_code
def yX4_hindrance : MethodName := ⟨RX4, "hindrance", "(I)I"⟩
abbrev cX4_pairValue : ByteArray := prog_6_method_27_code
def yX4_pairValue : MethodName := ⟨RX4, "pairValue", "(II)I"⟩
abbrev cX4_waitAt : ByteArray := prog_6_method_28_code
def yX4_waitAt : MethodName := ⟨RX4, "waitAt", "(I)I"⟩
abbrev cX4_costAt : ByteArray := prog_6_method_29_code
def yX4_costAt : MethodName := ⟨RX4, "costAt", "(I)I"⟩
abbrev cX4_friendsAt : ByteArray := prog_6_method_30_code
def yX4_friendsAt : MethodName := ⟨RX4, "friendsAt", "(I)I"⟩
abbrev cX4_memberValue : ByteArray := prog_6_method_31_code
def yX4_memberValue : MethodName := ⟨RX4, "memberValue", "(II)I"⟩
abbrev cX4_cost : ByteArray := prog_6_method_32_code
def yX4_cost : MethodName := ⟨RX4, "cost", "()I"⟩
abbrev cX4_toldCost : ByteArray := prog_6_method_33_code
def yX4_toldCost : MethodName := ⟨RX4, "toldCost", "()I"⟩
abbrev cX4_bestCost : ByteArray := prog_6_method_34_code
def yX4_bestCost : MethodName := ⟨RX4, "bestCost", "()I"⟩
abbrev cX4_wrongPairs : ByteArray := prog_6_method_35_code
def yX4_wrongPairs : MethodName := ⟨RX4, "wrongPairs", "()I"⟩
abbrev cX4_waitingCost : ByteArray := prog_6_method_36_code
def yX4_waitingCost : MethodName := ⟨RX4, "waitingCost", "(II)I"⟩
abbrev cX4_willingPairs : ByteArray := prog_6_method_37_code
def yX4_willingPairs : MethodName := ⟨RX4, "willingPairs", "()I"⟩
abbrev cX4_offers : ByteArray := prog_6_method_38_code
def yX4_offers : MethodName := ⟨RX4, "offers", "()I"⟩
abbrev cX4_welcomeOffers : ByteArray := prog_6_method_39_code
def yX4_welcomeOffers : MethodName := ⟨RX4, "welcomeOffers", "()I"⟩
abbrev cX4_friendPairs : ByteArray := prog_6_method_40_code
def yX4_friendPairs : MethodName := ⟨RX4, "friendPairs", "()I"⟩
abbrev cX4_wholeValue : ByteArray := prog_6_method_41_code
def yX4_wholeValue : MethodName := ⟨RX4, "wholeValue", "(I)I"⟩
def RX5 : String := "ConsentQueue$Member"
def TX5 : u_T := fun k => match k with
  | 0 => ("ConsentQueue$Member", "number", "I", false)
  | 1 => ("ConsentQueue$Member", "worth", "I", false)
  | 2 => ("ConsentQueue$Member", "told", "I", false)
  | 3 => ("ConsentQueue$Member", "service", "I", false)
  | 4 => ("ConsentQueue$Member", "money", "I", false)
  | 5 => ("ConsentQueue$Member", "offer", "I", false)
  | _ => ("ConsentQueue$Member", "friendAhead", "Z", false)
def tyX5 : Nat → FieldType := fun k => match k with
  | 0 => .int
  | 1 => .int
  | 2 => .int
  | 3 => .int
  | 4 => .int
  | 5 => .int
  | _ => .boolean
abbrev wsX50 : List Cond := u_ws RX5 TX5 7
theorem nmX5 : ∀ a, a < 7 → ∀ b, b < 7 → a ≠ b → (TX5 a).2.1 ≠ (TX5 b).2.1 := by decide +kernel
theorem tyX5_ok : ∀ k, k < 7 → parseFieldDescriptor (TX5 k).2.2.1 = some (tyX5 k) := by decide +kernel
abbrev cX5_init : ByteArray := prog_7_method_1_code
def yX5_init : MethodName := ⟨RX5, "<init>", "()V"⟩
abbrev cX5_copyFrom : ByteArray := prog_7_method_2_code
def yX5_copyFrom : MethodName := ⟨RX5, "copyFrom", "(LConsentQueue$Member;)V"⟩
abbrev cX5_begin : ByteArray := prog_7_method_3_code
def yX5_begin : MethodName := ⟨RX5, "begin", "(III)V"⟩
abbrev cX5_loseOneAhead : ByteArray := prog_7_method_4_code
def yX5_loseOneAhead : MethodName := ⟨RX5, "loseOneAhead", "()V"⟩
def RX6 : String := "ConsentQueue"
def TX6 : u_T := fun k => match k with
  | 0 => ("ConsentQueue", "line", "LConsentQueue$Line;", true)
  | 1 => ("ConsentQueue", "trial", "LConsentQueue$Line;", true)
  | 2 => ("ConsentQueue", "history", "LConsentQueue$History;", true)
  | _ => ("ConsentQueue", "text", "LConsentQueue$CommandText;", true)
def tyX6 : Nat → FieldType := fun k => match k with
  | 0 => .object "ConsentQueue$Line"
  | 1 => .object "ConsentQueue$Line"
  | 2 => .object "ConsentQueue$History"
  | _ => .object "ConsentQueue$CommandText"
abbrev wsX60 : List Cond := u_ws RX6 TX6 4
theorem nmX6 : ∀ a, a < 4 → ∀ b, b < 4 → a ≠ b → (TX6 a).2.1 ≠ (TX6 b).2.1 := by decide +kernel
theorem tyX6_ok : ∀ k, k < 4 → parseFieldDescriptor (TX6 k).2.2.1 = some (tyX6 k) := by decide +kernel
abbrev cX6_init : ByteArray := prog_1_method_1_code
def yX6_init : MethodName := ⟨RX6, "<init>", "()V"⟩
abbrev cX6_join : ByteArray := prog_1_method_2_code
def yX6_join : MethodName := ⟨RX6, "join", "(II)I"⟩
abbrev cX6_joinAt : ByteArray := prog_1_method_3_code
def yX6_joinAt : MethodName := ⟨RX6, "joinAt", "(III)I"⟩
abbrev cX6_leave : ByteArray := prog_1_method_4_code
def yX6_leave : MethodName := ⟨RX6, "leave", "(I)I"⟩
abbrev cX6_serve : ByteArray := prog_1_method_5_code
def yX6_serve : MethodName := ⟨RX6, "serve", "()I"⟩
abbrev cX6_say : ByteArray := prog_1_method_6_code
def yX6_say : MethodName := ⟨RX6, "say", "(II)I"⟩
abbrev cX6_setSplit : ByteArray := prog_1_method_7_code
def yX6_setSplit : MethodName := ⟨RX6, "setSplit", "(I)I"⟩
abbrev cX6_offer : ByteArray := prog_1_method_8_code
def yX6_offer : MethodName := ⟨RX6, "offer", "(II)I"⟩
abbrev cX6_take : ByteArray := prog_1_method_9_code
def yX6_take : MethodName := ⟨RX6, "take", "(I)I"⟩
abbrev cX6_swap : ByteArray := prog_1_method_10_code
def yX6_swap : MethodName := ⟨RX6, "swap", "(I)I"⟩
abbrev cX6_befriend : ByteArray := prog_1_method_11_code
def yX6_befriend : MethodName := ⟨RX6, "befriend", "(I)I"⟩
abbrev cX6_part : ByteArray := prog_1_method_12_code
def yX6_part : MethodName := ⟨RX6, "part", "(I)I"⟩
abbrev cX6_settle : ByteArray := prog_1_method_13_code
def yX6_settle : MethodName := ⟨RX6, "settle", "()I"⟩
abbrev cX6_member : ByteArray := prog_1_method_14_code
def yX6_member : MethodName := ⟨RX6, "member", "(II)I"⟩
abbrev cX6_at : ByteArray := prog_1_method_15_code
def yX6_at : MethodName := ⟨RX6, "at", "(I)I"⟩
abbrev cX6_pair : ByteArray := prog_1_method_16_code
def yX6_pair : MethodName := ⟨RX6, "pair", "(II)I"⟩
abbrev cX6_whole : ByteArray := prog_1_method_17_code
def yX6_whole : MethodName := ⟨RX6, "whole", "(I)I"⟩
abbrev cX6_reason : ByteArray := prog_1_method_18_code
def yX6_reason : MethodName := ⟨RX6, "reason", "(I)I"⟩
abbrev cX6_settledPlace : ByteArray := prog_1_method_19_code
def yX6_settledPlace : MethodName := ⟨RX6, "settledPlace", "(I)I"⟩
abbrev cX6_profit : ByteArray := prog_1_method_20_code
def yX6_profit : MethodName := ⟨RX6, "profit", "(II)I"⟩
abbrev cX6_bestLie : ByteArray := prog_1_method_21_code
def yX6_bestLie : MethodName := ⟨RX6, "bestLie", "(I)I"⟩
abbrev cX6_honestCost : ByteArray := prog_1_method_22_code
def yX6_honestCost : MethodName := ⟨RX6, "honestCost", "()I"⟩
abbrev cX6_disorder : ByteArray := prog_1_method_23_code
def yX6_disorder : MethodName := ⟨RX6, "disorder", "()I"⟩
abbrev cX6_runCommands : ByteArray := prog_1_method_26_code
def yX6_runCommands : MethodName := ⟨RX6, "runCommands", "()I"⟩
abbrev cX6_undo : ByteArray := prog_1_method_27_code
def yX6_undo : MethodName := ⟨RX6, "undo", "()I"⟩
abbrev cX6_digest : ByteArray := prog_1_method_28_code
def yX6_digest : MethodName := ⟨RX6, "digest", "()J"⟩
abbrev cX6_digestMembers : ByteArray := prog_1_method_29_code
def yX6_digestMembers : MethodName := ⟨RX6, "digestMembers", "(J)J"⟩
abbrev cX6_digestPairs : ByteArray := prog_1_method_30_code
def yX6_digestPairs : MethodName := ⟨RX6, "digestPairs", "(J)J"⟩
abbrev cX6_wholeValue : ByteArray := prog_1_method_31_code
def yX6_wholeValue : MethodName := ⟨RX6, "wholeValue", "(I)I"⟩
abbrev cX6_profitAt : ByteArray := prog_1_method_32_code
def yX6_profitAt : MethodName := ⟨RX6, "profitAt", "(II)I"⟩
abbrev cX6_perform : ByteArray := prog_1_method_33_code
def yX6_perform : MethodName := ⟨RX6, "perform", "(LConsentQueue$Command;III)I"⟩
abbrev cX6_carryOutRead : ByteArray := prog_1_method_34_code
def yX6_carryOutRead : MethodName := ⟨RX6, "carryOutRead", "(LConsentQueue$Command;)Z"⟩
abbrev cX6_faultOf : ByteArray := prog_1_method_35_code
def yX6_faultOf : MethodName := ⟨RX6, "faultOf", "(LConsentQueue$Command;III)I"⟩
abbrev cX6_carryOut : ByteArray := prog_1_method_36_code
def yX6_carryOut : MethodName := ⟨RX6, "carryOut", "(LConsentQueue$Command;III)I"⟩
abbrev cX6_joinFault : ByteArray := prog_1_method_37_code
def yX6_joinFault : MethodName := ⟨RX6, "joinFault", "(III)I"⟩
abbrev cX6_offerFault : ByteArray := prog_1_method_38_code
def yX6_offerFault : MethodName := ⟨RX6, "offerFault", "(II)I"⟩
abbrev cX6_takeFault : ByteArray := prog_1_method_39_code
def yX6_takeFault : MethodName := ⟨RX6, "takeFault", "(I)I"⟩
abbrev cX6_memberFault : ByteArray := prog_1_method_40_code
def yX6_memberFault : MethodName := ⟨RX6, "memberFault", "(IZ)I"⟩
abbrev cX6_pairFault : ByteArray := prog_1_method_41_code
def yX6_pairFault : MethodName := ⟨RX6, "pairFault", "(IZI)I"⟩
abbrev cX6_isWithin : ByteArray := prog_1_method_42_code
def yX6_isWithin : MethodName := ⟨RX6, "isWithin", "(III)Z"⟩
abbrev cX6_refuse : ByteArray := prog_1_method_43_code
def yX6_refuse : MethodName := ⟨RX6, "refuse", "(I)V"⟩
def RX7 : String := "ConsentQueueModel"
def TX7 : u_T := fun k => match k with
  | _ => ("", "", "", false)
def tyX7 : Nat → FieldType := fun k => match k with
  | _ => .int
abbrev wsX70 : List Cond := u_ws RX7 TX7 0
theorem nmX7 : ∀ a, a < 0 → ∀ b, b < 0 → a ≠ b → (TX7 a).2.1 ≠ (TX7 b).2.1 := by decide +kernel
theorem tyX7_ok : ∀ k, k < 0 → parseFieldDescriptor (TX7 k).2.2.1 = some (tyX7 k) := by decide +kernel
def RJx29ce0 : String := "java/lang/Enum"
def TJx29ce0 : u_T := fun k => match k with
  | _ => ("", "", "", false)
def tyJx29ce0 : Nat → FieldType := fun k => match k with
  | _ => .int
abbrev wsJx29ce00 : List Cond := u_ws RJx29ce0 TJx29ce0 0
theorem nmJx29ce0 : ∀ a, a < 0 → ∀ b, b < 0 → a ≠ b → (TJx29ce0 a).2.1 ≠ (TJx29ce0 b).2.1 := by decide +kernel
theorem tyJx29ce0_ok : ∀ k, k < 0 → parseFieldDescriptor (TJx29ce0 k).2.2.1 = some (tyJx29ce0 k) := by decide +kernel
abbrev cJx29ce0_ordinal_8abf5 : ByteArray := prog_10_method_2_code
def yJx29ce0_ordinal_8abf5 : MethodName := ⟨RJx29ce0, "ordinal", "()I"⟩
def RJ9 : String := "java/lang/Math"
def TJ9 : u_T := fun k => match k with
  | _ => ("", "", "", false)
def tyJ9 : Nat → FieldType := fun k => match k with
  | _ => .int
abbrev wsJ90 : List Cond := u_ws RJ9 TJ9 0
theorem nmJ9 : ∀ a, a < 0 → ∀ b, b < 0 → a ≠ b → (TJ9 a).2.1 ≠ (TJ9 b).2.1 := by decide +kernel
theorem tyJ9_ok : ∀ k, k < 0 → parseFieldDescriptor (TJ9 k).2.2.1 = some (tyJ9 k) := by decide +kernel
abbrev cJ9_min_7cf53 : ByteArray := prog_15_method_69_code
def yJ9_min_7cf53 : MethodName := ⟨RJ9, "min", "(II)I"⟩
def RJ0 : String := "java/lang/String"
def TJ0 : u_T := fun k => match k with
  | _ => ("", "", "", false)
def tyJ0 : Nat → FieldType := fun k => match k with
  | _ => .int
abbrev wsJ00 : List Cond := u_ws RJ0 TJ0 0
theorem nmJ0 : ∀ a, a < 0 → ∀ b, b < 0 → a ≠ b → (TJ0 a).2.1 ≠ (TJ0 b).2.1 := by decide +kernel
theorem tyJ0_ok : ∀ k, k < 0 → parseFieldDescriptor (TJ0 k).2.2.1 = some (tyJ0 k) := by decide +kernel
abbrev cJ0_length_8abf5 : ByteArray := prog_17_method_54_code
def yJ0_length_8abf5 : MethodName := ⟨RJ0, "length", "()I"⟩
abbrev cJ0_charAt_5068e : ByteArray := prog_17_method_56_code
def yJ0_charAt_5068e : MethodName := ⟨RJ0, "charAt", "(I)C"⟩
abbrev cJ0_coder_7d493 : ByteArray := prog_17_method_152_code
def yJ0_coder_7d493 : MethodName := ⟨RJ0, "coder", "()B"⟩
abbrev cJ0_isLatin1_aae02 : ByteArray := prog_17_method_154_code
def yJ0_isLatin1_aae02 : MethodName := ⟨RJ0, "isLatin1", "()Z"⟩
abbrev cJ0_checkIndex_df160 : ByteArray := prog_17_method_155_code
def yJ0_checkIndex_df160 : MethodName := ⟨RJ0, "checkIndex", "(II)V"⟩
def RJ1 : String := "java/lang/StringLatin1"
def TJ1 : u_T := fun k => match k with
  | _ => ("", "", "", false)
def tyJ1 : Nat → FieldType := fun k => match k with
  | _ => .int
abbrev wsJ10 : List Cond := u_ws RJ1 TJ1 0
theorem nmJ1 : ∀ a, a < 0 → ∀ b, b < 0 → a ≠ b → (TJ1 a).2.1 ≠ (TJ1 b).2.1 := by decide +kernel
theorem tyJ1_ok : ∀ k, k < 0 → parseFieldDescriptor (TJ1 k).2.2.1 = some (tyJ1 k) := by decide +kernel
abbrev cJ1_charAt_3b067 : ByteArray := prog_18_method_2_code
def yJ1_charAt_3b067 : MethodName := ⟨RJ1, "charAt", "([BI)C"⟩
def RJ2 : String := "java/lang/StringUTF16"
def TJ2 : u_T := fun k => match k with
  | _ => ("", "", "", false)
def tyJ2 : Nat → FieldType := fun k => match k with
  | _ => .int
abbrev wsJ20 : List Cond := u_ws RJ2 TJ2 0
theorem nmJ2 : ∀ a, a < 0 → ∀ b, b < 0 → a ≠ b → (TJ2 a).2.1 ≠ (TJ2 b).2.1 := by decide +kernel
theorem tyJ2_ok : ∀ k, k < 0 → parseFieldDescriptor (TJ2 k).2.2.1 = some (tyJ2 k) := by decide +kernel
abbrev cJ2_getChar_3b067 : ByteArray := prog_19_method_5_code
def yJ2_getChar_3b067 : MethodName := ⟨RJ2, "getChar", "([BI)C"⟩
abbrev cJ2_length_9d52b : ByteArray := prog_19_method_6_code
def yJ2_length_9d52b : MethodName := ⟨RJ2, "length", "([B)I"⟩
abbrev cJ2_charAt_3b067 : ByteArray := prog_19_method_83_code
def yJ2_charAt_3b067 : MethodName := ⟨RJ2, "charAt", "([BI)C"⟩
abbrev cJ2_checkIndex_2214a : ByteArray := prog_19_method_91_code
def yJ2_checkIndex_2214a : MethodName := ⟨RJ2, "checkIndex", "(I[B)V"⟩
def RJ3 : String := "jdk/internal/util/Preconditions"
def TJ3 : u_T := fun k => match k with
  | _ => ("", "", "", false)
def tyJ3 : Nat → FieldType := fun k => match k with
  | _ => .int
abbrev wsJ30 : List Cond := u_ws RJ3 TJ3 0
theorem nmJ3 : ∀ a, a < 0 → ∀ b, b < 0 → a ≠ b → (TJ3 a).2.1 ≠ (TJ3 b).2.1 := by decide +kernel
theorem tyJ3_ok : ∀ k, k < 0 → parseFieldDescriptor (TJ3 k).2.2.1 = some (tyJ3 k) := by decide +kernel
abbrev cJ3_checkIndex_8e157 : ByteArray := prog_21_method_11_code
def yJ3_checkIndex_8e157 : MethodName := ⟨RJ3, "checkIndex", "(IILjava/util/function/BiFunction;)I"⟩
def RL : String := "ConsentQueueLaw"
abbrev cL_cell : ByteArray := method_2_code
def yL_cell : MethodName := ⟨RL, "cell", "([II)I"⟩
abbrev cL_low : ByteArray := method_3_code
def yL_low : MethodName := ⟨RL, "low", "(II)I"⟩
abbrev cL_rules : ByteArray := method_4_code
def yL_rules : MethodName := ⟨RL, "rules", "(LConsentQueue;)Z"⟩
abbrev cL_money : ByteArray := method_5_code
def yL_money : MethodName := ⟨RL, "money", "(LConsentQueue;)I"⟩
abbrev cL_settles : ByteArray := method_6_code
def yL_settles : MethodName := ⟨RL, "settles", "(LConsentQueue;I)Z"⟩
abbrev cL_changes : ByteArray := method_7_code
def yL_changes : MethodName := ⟨RL, "changes", "(LConsentQueue;II)Z"⟩
abbrev cL_law : ByteArray := code
def yL_law : MethodName := ⟨RL, "law", "([I)Z"⟩
theorem inX0 : ∀ w ∈ wsX00, w ∈ lw_tbl := by decide +kernel
theorem inX1 : ∀ w ∈ wsX10, w ∈ lw_tbl := by decide +kernel
theorem inX7 : ∀ w ∈ wsX70, w ∈ lw_tbl := by decide +kernel
theorem inJx29ce0 : ∀ w ∈ wsJx29ce00, w ∈ lw_tbl := by decide +kernel
theorem inJ9 : ∀ w ∈ wsJ90, w ∈ lw_tbl := by decide +kernel
theorem inJ0 : ∀ w ∈ wsJ00, w ∈ lw_tbl := by decide +kernel
theorem inJ1 : ∀ w ∈ wsJ10, w ∈ lw_tbl := by decide +kernel
theorem inJ2 : ∀ w ∈ wsJ20, w ∈ lw_tbl := by decide +kernel
theorem inJ3 : ∀ w ∈ wsJ30, w ∈ lw_tbl := by decide +kernel
abbrev vwCl : List vw_C := [(RX2, TX2, 6), (RX3, TX3, 2), (RX4, TX4, 8), (RX5, TX5, 7), (RX6, TX6, 4)]
