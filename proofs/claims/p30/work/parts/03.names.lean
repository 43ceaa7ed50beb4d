/-! ===== BEGIN printed: names, fields, word lists, decode rows ===== -/
def RX0 : String := "ConsentQueue$1"
def TX0 : u_T := fun k => match k with
  | _ => ("", "", "", false)
def tyX0 : Nat → FieldType := fun k => match k with
  | _ => .int
abbrev wsX00 : List Cond := u_ws RX0 TX0 0
theorem nmX0 : ∀ a, a < 0 → ∀ b, b < 0 → a ≠ b → (TX0 a).2.1 ≠ (TX0 b).2.1 := by decide +kernel
theorem tyX0_ok : ∀ k, k < 0 → parseFieldDescriptor (TX0 k).2.2.1 = some (tyX0 k) := by decide +kernel
def RX1 : String := "ConsentQueue$Command"
def TX1 : u_T := fun k => match k with
  | _ => ("", "", "", false)
def tyX1 : Nat → FieldType := fun k => match k with
  | _ => .int
abbrev wsX10 : List Cond := u_ws RX1 TX1 0
theorem nmX1 : ∀ a, a < 0 → ∀ b, b < 0 → a ≠ b → (TX1 a).2.1 ≠ (TX1 b).2.1 := by decide +kernel
theorem tyX1_ok : ∀ k, k < 0 → parseFieldDescriptor (TX1 k).2.2.1 = some (tyX1 k) := by decide +kernel
def RX2 : String := "ConsentQueue$CommandText"
def TX2 : u_T := fun k => match k with
  | 0 => ("ConsentQueue$CommandText", "bytes", "[B", true)
  | 1 => ("ConsentQueue$CommandText", "length", "I", false)
  | 2 => ("ConsentQueue$CommandText", "position", "I", false)
  | 3 => ("ConsentQueue$CommandText", "fault", "I", false)
  | 4 => ("ConsentQueue$CommandText", "command", "LConsentQueue$Command;", false)
  | _ => ("ConsentQueue$CommandText", "numbers", "[I", true)
def tyX2 : Nat → FieldType := fun k => match k with
  | 0 => .array .byte
  | 1 => .int
  | 2 => .int
  | 3 => .int
  | 4 => .object "ConsentQueue$Command"
  | _ => .array .int
abbrev wsX20 : List Cond := u_ws RX2 TX2 6
theorem nmX2 : ∀ a, a < 6 → ∀ b, b < 6 → a ≠ b → (TX2 a).2.1 ≠ (TX2 b).2.1 := by decide +kernel
theorem tyX2_ok : ∀ k, k < 6 → parseFieldDescriptor (TX2 k).2.2.1 = some (tyX2 k) := by decide +kernel
abbrev cX2_init : ByteArray := prog_4_method_1_code
def yX2_init : MethodName := ⟨RX2, "<init>", "()V"⟩
abbrev cX2_byteAt : ByteArray := prog_4_method_3_code
def yX2_byteAt : MethodName := ⟨RX2, "byteAt", "(I)I"⟩
abbrev cX2_number : ByteArray := prog_4_method_4_code
def yX2_number : MethodName := ⟨RX2, "number", "(I)I"⟩
abbrev cX2_findFault : ByteArray := prog_4_method_5_code
def yX2_findFault : MethodName := ⟨RX2, "findFault", "()I"⟩
abbrev cX2_startReading : ByteArray := prog_4_method_6_code
def yX2_startReading : MethodName := ⟨RX2, "startReading", "()V"⟩
abbrev cX2_hasCommand : ByteArray := prog_4_method_7_code
def yX2_hasCommand : MethodName := ⟨RX2, "hasCommand", "()Z"⟩
abbrev cX2_readCommand : ByteArray := prog_4_method_8_code
def yX2_readCommand : MethodName := ⟨RX2, "readCommand", "()V"⟩
abbrev cX2_readNumber : ByteArray := prog_4_method_9_code
def yX2_readNumber : MethodName := ⟨RX2, "readNumber", "(I)V"⟩
abbrev cX2_readDigits : ByteArray := prog_4_method_10_code
def yX2_readDigits : MethodName := ⟨RX2, "readDigits", "()I"⟩
abbrev cX2_readSemicolon : ByteArray := prog_4_method_11_code
def yX2_readSemicolon : MethodName := ⟨RX2, "readSemicolon", "()V"⟩
abbrev cX2_skipSpaces : ByteArray := prog_4_method_12_code
def yX2_skipSpaces : MethodName := ⟨RX2, "skipSpaces", "()V"⟩
abbrev cX2_skipLetters : ByteArray := prog_4_method_13_code
def yX2_skipLetters : MethodName := ⟨RX2, "skipLetters", "()V"⟩
abbrev cX2_commandSpelled : ByteArray := prog_4_method_14_code
def yX2_commandSpelled : MethodName := ⟨RX2, "commandSpelled", "(II)LConsentQueue$Command;"⟩
abbrev cX2_isSpelled : ByteArray := prog_4_method_15_code
def yX2_isSpelled : MethodName := ⟨RX2, "isSpelled", "(Ljava/lang/String;II)Z"⟩
abbrev cX2_isLetter : ByteArray := prog_4_method_16_code
def yX2_isLetter : MethodName := ⟨RX2, "isLetter", "(I)Z"⟩
abbrev cX2_isDigit : ByteArray := prog_4_method_17_code
def yX2_isDigit : MethodName := ⟨RX2, "isDigit", "(I)Z"⟩
def RX3 : String := "ConsentQueue$History"
def TX3 : u_T := fun k => match k with
  | 0 => ("ConsentQueue$History", "saved", "[LConsentQueue$Line;", true)
  | _ => ("ConsentQueue$History", "size", "I", false)
def tyX3 : Nat → FieldType := fun k => match k with
  | 0 => .array (.object "ConsentQueue$Line")
  | _ => .int
abbrev wsX30 : List Cond := u_ws RX3 TX3 2
theorem nmX3 : ∀ a, a < 2 → ∀ b, b < 2 → a ≠ b → (TX3 a).2.1 ≠ (TX3 b).2.1 := by decide +kernel
theorem tyX3_ok : ∀ k, k < 2 → parseFieldDescriptor (TX3 k).2.2.1 = some (tyX3 k) := by decide +kernel
abbrev cX3_init : ByteArray := prog_5_method_1_code
def yX3_init : MethodName := ⟨RX3, "<init>", "()V"⟩
abbrev cX3_push : ByteArray := prog_5_method_2_code
def yX3_push : MethodName := ⟨RX3, "push", "(LConsentQueue$Line;)V"⟩
abbrev cX3_dropOldest : ByteArray := prog_5_method_3_code
def yX3_dropOldest : MethodName := ⟨RX3, "dropOldest", "()V"⟩
abbrev cX3_popInto : ByteArray := prog_5_method_4_code
def yX3_popInto : MethodName := ⟨RX3, "popInto", "(LConsentQueue$Line;)V"⟩
def RX4 : String := "ConsentQueue$Line"
def TX4 : u_T := fun k => match k with
  | 0 => ("ConsentQueue$Line", "members", "[LConsentQueue$Member;", true)
  | 1 => ("ConsentQueue$Line", "nobody", "LConsentQueue$Member;", true)
  | 2 => ("ConsentQueue$Line", "count", "I", false)
  | 3 => ("ConsentQueue$Line", "split", "I", false)
  | 4 => ("ConsentQueue$Line", "swaps", "I", false)
  | 5 => ("ConsentQueue$Line", "paid", "I", false)
  | 6 => ("ConsentQueue$Line", "served", "I", false)
  | _ => ("ConsentQueue$Line", "joined", "I", false)
def tyX4 : Nat → FieldType := fun k => match k with
  | 0 => .array (.object "ConsentQueue$Member")
  | 1 => .object "ConsentQueue$Member"
  | 2 => .int
  | 3 => .int
  | 4 => .int
  | 5 => .int
  | 6 => .int
  | _ => .int
abbrev wsX40 : List Cond := u_ws RX4 TX4 8
theorem nmX4 : ∀ a, a < 8 → ∀ b, b < 8 → a ≠ b → (TX4 a).2.1 ≠ (TX4 b).2.1 := by decide +kernel
theorem tyX4_ok : ∀ k, k < 8 → parseFieldDescriptor (TX4 k).2.2.1 = some (tyX4 k) := by decide +kernel
abbrev cX4_init : ByteArray := prog_6_method_1_code
def yX4_init : MethodName := ⟨RX4, "<init>", "()V"⟩
abbrev cX4_copyFrom : ByteArray := prog_6_method_2_code
def yX4_copyFrom : MethodName := ⟨RX4, "copyFrom", "(LConsentQueue$Line;)V"⟩
abbrev cX4_memberAt : ByteArray := prog_6_method_3_code
def yX4_memberAt : MethodName := ⟨RX4, "memberAt", "(I)LConsentQueue$Member;"⟩
abbrev cX4_placeOf : ByteArray := prog_6_method_4_code
def yX4_placeOf : MethodName := ⟨RX4, "placeOf", "(I)I"⟩
abbrev cX4_insert : ByteArray := prog_6_method_5_code
def yX4_insert : MethodName := ⟨RX4, "insert", "(III)I"⟩
abbrev cX4_removeMember : ByteArray := prog_6_method_6_code
def yX4_removeMember : MethodName := ⟨RX4, "removeMember", "(I)I"⟩
abbrev cX4_serveFirst : ByteArray := prog_6_method_7_code
def yX4_serveFirst : MethodName := ⟨RX4, "serveFirst", "()I"⟩
abbrev cX4_removeAt : ByteArray := prog_6_method_8_code
def yX4_removeAt : MethodName := ⟨RX4, "removeAt", "(I)V"⟩
abbrev cX4_tell : ByteArray := prog_6_method_9_code
def yX4_tell : MethodName := ⟨RX4, "tell", "(II)I"⟩
abbrev cX4_tellTruth : ByteArray := prog_6_method_10_code
def yX4_tellTruth : MethodName := ⟨RX4, "tellTruth", "()V"⟩
abbrev cX4_makeOffer : ByteArray := prog_6_method_11_code
def yX4_makeOffer : MethodName := ⟨RX4, "makeOffer", "(II)I"⟩
abbrev cX4_setFriends : ByteArray := prog_6_method_12_code
def yX4_setFriends : MethodName := ⟨RX4, "setFriends", "(IZ)I"⟩
abbrev cX4_swapAsOffered : ByteArray := prog_6_method_13_code
def yX4_swapAsOffered : MethodName := ⟨RX4, "swapAsOffered", "(I)I"⟩
abbrev cX4_swapFairly : ByteArray := prog_6_method_14_code
def yX4_swapFairly : MethodName := ⟨RX4, "swapFairly", "(I)I"⟩
abbrev cX4_swapAt : ByteArray := prog_6_method_15_code
def yX4_swapAt : MethodName := ⟨RX4, "swapAt", "(II)I"⟩
abbrev cX4_settleDown : ByteArray := prog_6_method_16_code
def yX4_settleDown : MethodName := ⟨RX4, "settleDown", "()I"⟩
abbrev cX4_keenestPair : ByteArray := prog_6_method_17_code
def yX4_keenestPair : MethodName := ⟨RX4, "keenestPair", "()I"⟩
abbrev cX4_gain : ByteArray := prog_6_method_18_code
def yX4_gain : MethodName := ⟨RX4, "gain", "(I)I"⟩
abbrev cX4_loss : ByteArray := prog_6_method_19_code
def yX4_loss : MethodName := ⟨RX4, "loss", "(I)I"⟩
abbrev cX4_surplus : ByteArray := prog_6_method_20_code
def yX4_surplus : MethodName := ⟨RX4, "surplus", "(I)I"⟩
abbrev cX4_fairPrice : ByteArray := prog_6_method_21_code
def yX4_fairPrice : MethodName := ⟨RX4, "fairPrice", "(I)I"⟩
abbrev cX4_areFriends : ByteArray := prog_6_method_22_code
def yX4_areFriends : MethodName := ⟨RX4, "areFriends", "(I)Z"⟩
abbrev cX4_isHeldByFriends : ByteArray := prog_6_method_23_code
def yX4_isHeldByFriends : MethodName := ⟨RX4, "isHeldByFriends", "(I)Z"⟩
abbrev cX4_wouldSwap : ByteArray := prog_6_method_24_code
def yX4_wouldSwap : MethodName := ⟨RX4, "wouldSwap", "(I)Z"⟩
abbrev cX4_wouldTake : ByteArray := prog_6_method_25_code
def yX4_wouldTake : MethodName := ⟨RX4, "wouldTake", "(I)Z"⟩
abbrev cX4_hindrance : ByteArray := prog_6_method_26_code
def yX4_hindrance : MethodName := ⟨RX4, "hindrance", "(I)I"⟩
abbrev cX4_pairValue : ByteArray := prog_6_method_27_code
def yX4_pairValue : MethodName := ⟨RX4, "pairValue", "(II)I"⟩
abbrev cX4_waitAt : ByteArray := prog_6_method_28_code
def yX4_waitAt : MethodName := ⟨RX4, "waitAt", "(I)I"⟩
abbrev cX4_costAt : ByteArray := prog_6_method_29_code
def yX4_costAt : MethodName := ⟨RX4, "costAt", "(I)I"⟩
abbrev cX4_friendsAt : ByteArray := prog_6_method_30_code
def yX4_friendsAt : MethodName := ⟨RX4, "friendsAt", "(I)I"⟩
abbrev cX4_memberValue : ByteArray := prog_6_method_31_code
def yX4_memberValue : MethodName := ⟨RX4, "memberValue", "(II)I"⟩
abbrev cX4_cost : ByteArray := prog_6_method_32_code
def yX4_cost : MethodName := ⟨RX4, "cost", "()I"⟩
abbrev cX4_toldCost : ByteArray := prog_6_method_33_code
def yX4_toldCost : MethodName := ⟨RX4, "toldCost", "()I"⟩
abbrev cX4_bestCost : ByteArray := prog_6_method_34_code
def yX4_bestCost : MethodName := ⟨RX4, "bestCost", "()I"⟩
abbrev cX4_wrongPairs : ByteArray := prog_6_method_35_code
def yX4_wrongPairs : MethodName := ⟨RX4, "wrongPairs", "()I"⟩
abbrev cX4_waitingCost : ByteArray := prog_6_method_36_code
def yX4_waitingCost : MethodName := ⟨RX4, "waitingCost", "(II)I"⟩
abbrev cX4_willingPairs : ByteArray := prog_6_method_37_code
def yX4_willingPairs : MethodName := ⟨RX4, "willingPairs", "()I"⟩
abbrev cX4_offers : ByteArray := prog_6_method_38_code
def yX4_offers : MethodName := ⟨RX4, "offers", "()I"⟩
abbrev cX4_welcomeOffers : ByteArray := prog_6_method_39_code
def yX4_welcomeOffers : MethodName := ⟨RX4, "welcomeOffers", "()I"⟩
abbrev cX4_friendPairs : ByteArray := prog_6_method_40_code
def yX4_friendPairs : MethodName := ⟨RX4, "friendPairs", "()I"⟩
abbrev cX4_wholeValue : ByteArray := prog_6_method_41_code
def yX4_wholeValue : MethodName := ⟨RX4, "wholeValue", "(I)I"⟩
def RX5 : String := "ConsentQueue$Member"
def TX5 : u_T := fun k => match k with
  | 0 => ("ConsentQueue$Member", "number", "I", false)
  | 1 => ("ConsentQueue$Member", "worth", "I", false)
  | 2 => ("ConsentQueue$Member", "told", "I", false)
  | 3 => ("ConsentQueue$Member", "service", "I", false)
  | 4 => ("ConsentQueue$Member", "money", "I", false)
  | 5 => ("ConsentQueue$Member", "offer", "I", false)
  | _ => ("ConsentQueue$Member", "friendAhead", "Z", false)
def tyX5 : Nat → FieldType := fun k => match k with
  | 0 => .int
  | 1 => .int
  | 2 => .int
  | 3 => .int
  | 4 => .int
  | 5 => .int
  | _ => .boolean
abbrev wsX50 : List Cond := u_ws RX5 TX5 7
theorem nmX5 : ∀ a, a < 7 → ∀ b, b < 7 → a ≠ b → (TX5 a).2.1 ≠ (TX5 b).2.1 := by decide +kernel
theorem tyX5_ok : ∀ k, k < 7 → parseFieldDescriptor (TX5 k).2.2.1 = some (tyX5 k) := by decide +kernel
abbrev cX5_init : ByteArray := prog_7_method_1_code
def yX5_init : MethodName := ⟨RX5, "<init>", "()V"⟩
abbrev cX5_copyFrom : ByteArray := prog_7_method_2_code
def yX5_copyFrom : MethodName := ⟨RX5, "copyFrom", "(LConsentQueue$Member;)V"⟩
abbrev cX5_begin : ByteArray := prog_7_method_3_code
def yX5_begin : MethodName := ⟨RX5, "begin", "(III)V"⟩
abbrev cX5_loseOneAhead : ByteArray := prog_7_method_4_code
def yX5_loseOneAhead : MethodName := ⟨RX5, "loseOneAhead", "()V"⟩
def RX6 : String := "ConsentQueue"
def TX6 : u_T := fun k => match k with
  | 0 => ("ConsentQueue", "line", "LConsentQueue$Line;", true)
  | 1 => ("ConsentQueue", "trial", "LConsentQueue$Line;", true)
  | 2 => ("ConsentQueue", "history", "LConsentQueue$History;", true)
  | _ => ("ConsentQueue", "text", "LConsentQueue$CommandText;", true)
def tyX6 : Nat → FieldType := fun k => match k with
  | 0 => .object "ConsentQueue$Line"
  | 1 => .object "ConsentQueue$Line"
  | 2 => .object "ConsentQueue$History"
  | _ => .object "ConsentQueue$CommandText"
abbrev wsX60 : List Cond := u_ws RX6 TX6 4
theorem nmX6 : ∀ a, a < 4 → ∀ b, b < 4 → a ≠ b → (TX6 a).2.1 ≠ (TX6 b).2.1 := by decide +kernel
theorem tyX6_ok : ∀ k, k < 4 → parseFieldDescriptor (TX6 k).2.2.1 = some (tyX6 k) := by decide +kernel
abbrev cX6_init : ByteArray := prog_1_method_1_code
def yX6_init : MethodName := ⟨RX6, "<init>", "()V"⟩
abbrev cX6_join : ByteArray := prog_1_method_2_code
def yX6_join : MethodName := ⟨RX6, "join", "(II)I"⟩
abbrev cX6_joinAt : ByteArray := prog_1_method_3_code
def yX6_joinAt : MethodName := ⟨RX6, "joinAt", "(III)I"⟩
abbrev cX6_leave : ByteArray := prog_1_method_4_code
def yX6_leave : MethodName := ⟨RX6, "leave", "(I)I"⟩
abbrev cX6_serve : ByteArray := prog_1_method_5_code
def yX6_serve : MethodName := ⟨RX6, "serve", "()I"⟩
abbrev cX6_say : ByteArray := prog_1_method_6_code
def yX6_say : MethodName := ⟨RX6, "say", "(II)I"⟩
abbrev cX6_setSplit : ByteArray := prog_1_method_7_code
def yX6_setSplit : MethodName := ⟨RX6, "setSplit", "(I)I"⟩
abbrev cX6_offer : ByteArray := prog_1_method_8_code
def yX6_offer : MethodName := ⟨RX6, "offer", "(II)I"⟩
abbrev cX6_take : ByteArray := prog_1_method_9_code
def yX6_take : MethodName := ⟨RX6, "take", "(I)I"⟩
abbrev cX6_swap : ByteArray := prog_1_method_10_code
def yX6_swap : MethodName := ⟨RX6, "swap", "(I)I"⟩
abbrev cX6_befriend : ByteArray := prog_1_method_11_code
def yX6_befriend : MethodName := ⟨RX6, "befriend", "(I)I"⟩
abbrev cX6_part : ByteArray := prog_1_method_12_code
def yX6_part : MethodName := ⟨RX6, "part", "(I)I"⟩
abbrev cX6_settle : ByteArray := prog_1_method_13_code
def yX6_settle : MethodName := ⟨RX6, "settle", "()I"⟩
abbrev cX6_member : ByteArray := prog_1_method_14_code
def yX6_member : MethodName := ⟨RX6, "member", "(II)I"⟩
abbrev cX6_at : ByteArray := prog_1_method_15_code
def yX6_at : MethodName := ⟨RX6, "at", "(I)I"⟩
abbrev cX6_pair : ByteArray := prog_1_method_16_code
def yX6_pair : MethodName := ⟨RX6, "pair", "(II)I"⟩
abbrev cX6_whole : ByteArray := prog_1_method_17_code
def yX6_whole : MethodName := ⟨RX6, "whole", "(I)I"⟩
abbrev cX6_reason : ByteArray := prog_1_method_18_code
def yX6_reason : MethodName := ⟨RX6, "reason", "(I)I"⟩
abbrev cX6_settledPlace : ByteArray := prog_1_method_19_code
def yX6_settledPlace : MethodName := ⟨RX6, "settledPlace", "(I)I"⟩
abbrev cX6_profit : ByteArray := prog_1_method_20_code
def yX6_profit : MethodName := ⟨RX6, "profit", "(II)I"⟩
abbrev cX6_bestLie : ByteArray := prog_1_method_21_code
def yX6_bestLie : MethodName := ⟨RX6, "bestLie", "(I)I"⟩
abbrev cX6_honestCost : ByteArray := prog_1_method_22_code
def yX6_honestCost : MethodName := ⟨RX6, "honestCost", "()I"⟩
abbrev cX6_disorder : ByteArray := prog_1_method_23_code
def yX6_disorder : MethodName := ⟨RX6, "disorder", "()I"⟩
abbrev cX6_runCommands : ByteArray := prog_1_method_26_code
def yX6_runCommands : MethodName := ⟨RX6, "runCommands", "()I"⟩
abbrev cX6_undo : ByteArray := prog_1_method_27_code
def yX6_undo : MethodName := ⟨RX6, "undo", "()I"⟩
abbrev cX6_digest : ByteArray := prog_1_method_28_code
def yX6_digest : MethodName := ⟨RX6, "digest", "()J"⟩
abbrev cX6_digestMembers : ByteArray := prog_1_method_29_code
def yX6_digestMembers : MethodName := ⟨RX6, "digestMembers", "(J)J"⟩
abbrev cX6_digestPairs : ByteArray := prog_1_method_30_code
def yX6_digestPairs : MethodName := ⟨RX6, "digestPairs", "(J)J"⟩
abbrev cX6_wholeValue : ByteArray := prog_1_method_31_code
def yX6_wholeValue : MethodName := ⟨RX6, "wholeValue", "(I)I"⟩
abbrev cX6_profitAt : ByteArray := prog_1_method_32_code
def yX6_profitAt : MethodName := ⟨RX6, "profitAt", "(II)I"⟩
abbrev cX6_perform : ByteArray := prog_1_method_33_code
def yX6_perform : MethodName := ⟨RX6, "perform", "(LConsentQueue$Command;III)I"⟩
abbrev cX6_carryOutRead : ByteArray := prog_1_method_34_code
def yX6_carryOutRead : MethodName := ⟨RX6, "carryOutRead", "(LConsentQueue$Command;)Z"⟩
abbrev cX6_faultOf : ByteArray := prog_1_method_35_code
def yX6_faultOf : MethodName := ⟨RX6, "faultOf", "(LConsentQueue$Command;III)I"⟩
abbrev cX6_carryOut : ByteArray := prog_1_method_36_code
def yX6_carryOut : MethodName := ⟨RX6, "carryOut", "(LConsentQueue$Command;III)I"⟩
abbrev cX6_joinFault : ByteArray := prog_1_method_37_code
def yX6_joinFault : MethodName := ⟨RX6, "joinFault", "(III)I"⟩
abbrev cX6_offerFault : ByteArray := prog_1_method_38_code
def yX6_offerFault : MethodName := ⟨RX6, "offerFault", "(II)I"⟩
abbrev cX6_takeFault : ByteArray := prog_1_method_39_code
def yX6_takeFault : MethodName := ⟨RX6, "takeFault", "(I)I"⟩
abbrev cX6_memberFault : ByteArray := prog_1_method_40_code
def yX6_memberFault : MethodName := ⟨RX6, "memberFault", "(IZ)I"⟩
abbrev cX6_pairFault : ByteArray := prog_1_method_41_code
def yX6_pairFault : MethodName := ⟨RX6, "pairFault", "(IZI)I"⟩
abbrev cX6_isWithin : ByteArray := prog_1_method_42_code
def yX6_isWithin : MethodName := ⟨RX6, "isWithin", "(III)Z"⟩
abbrev cX6_refuse : ByteArray := prog_1_method_43_code
def yX6_refuse : MethodName := ⟨RX6, "refuse", "(I)V"⟩
def RX7 : String := "ConsentQueueModel"
def TX7 : u_T := fun k => match k with
  | _ => ("", "", "", false)
def tyX7 : Nat → FieldType := fun k => match k with
  | _ => .int
abbrev wsX70 : List Cond := u_ws RX7 TX7 0
theorem nmX7 : ∀ a, a < 0 → ∀ b, b < 0 → a ≠ b → (TX7 a).2.1 ≠ (TX7 b).2.1 := by decide +kernel
theorem tyX7_ok : ∀ k, k < 0 → parseFieldDescriptor (TX7 k).2.2.1 = some (tyX7 k) := by decide +kernel
def RJx29ce0 : String := "java/lang/Enum"
def TJx29ce0 : u_T := fun k => match k with
  | _ => ("", "", "", false)
def tyJx29ce0 : Nat → FieldType := fun k => match k with
  | _ => .int
abbrev wsJx29ce00 : List Cond := u_ws RJx29ce0 TJx29ce0 0
theorem nmJx29ce0 : ∀ a, a < 0 → ∀ b, b < 0 → a ≠ b → (TJx29ce0 a).2.1 ≠ (TJx29ce0 b).2.1 := by decide +kernel
theorem tyJx29ce0_ok : ∀ k, k < 0 → parseFieldDescriptor (TJx29ce0 k).2.2.1 = some (tyJx29ce0 k) := by decide +kernel
abbrev cJx29ce0_ordinal_8abf5 : ByteArray := prog_10_method_2_code
def yJx29ce0_ordinal_8abf5 : MethodName := ⟨RJx29ce0, "ordinal", "()I"⟩
def RJ9 : String := "java/lang/Math"
def TJ9 : u_T := fun k => match k with
  | _ => ("", "", "", false)
def tyJ9 : Nat → FieldType := fun k => match k with
  | _ => .int
abbrev wsJ90 : List Cond := u_ws RJ9 TJ9 0
theorem nmJ9 : ∀ a, a < 0 → ∀ b, b < 0 → a ≠ b → (TJ9 a).2.1 ≠ (TJ9 b).2.1 := by decide +kernel
theorem tyJ9_ok : ∀ k, k < 0 → parseFieldDescriptor (TJ9 k).2.2.1 = some (tyJ9 k) := by decide +kernel
abbrev cJ9_min_7cf53 : ByteArray := prog_15_method_69_code
def yJ9_min_7cf53 : MethodName := ⟨RJ9, "min", "(II)I"⟩
def RJ0 : String := "java/lang/String"
def TJ0 : u_T := fun k => match k with
  | _ => ("", "", "", false)
def tyJ0 : Nat → FieldType := fun k => match k with
  | _ => .int
abbrev wsJ00 : List Cond := u_ws RJ0 TJ0 0
theorem nmJ0 : ∀ a, a < 0 → ∀ b, b < 0 → a ≠ b → (TJ0 a).2.1 ≠ (TJ0 b).2.1 := by decide +kernel
theorem tyJ0_ok : ∀ k, k < 0 → parseFieldDescriptor (TJ0 k).2.2.1 = some (tyJ0 k) := by decide +kernel
abbrev cJ0_length_8abf5 : ByteArray := prog_17_method_54_code
def yJ0_length_8abf5 : MethodName := ⟨RJ0, "length", "()I"⟩
abbrev cJ0_charAt_5068e : ByteArray := prog_17_method_56_code
def yJ0_charAt_5068e : MethodName := ⟨RJ0, "charAt", "(I)C"⟩
abbrev cJ0_coder_7d493 : ByteArray := prog_17_method_152_code
def yJ0_coder_7d493 : MethodName := ⟨RJ0, "coder", "()B"⟩
abbrev cJ0_isLatin1_aae02 : ByteArray := prog_17_method_154_code
def yJ0_isLatin1_aae02 : MethodName := ⟨RJ0, "isLatin1", "()Z"⟩
abbrev cJ0_checkIndex_df160 : ByteArray := prog_17_method_155_code
def yJ0_checkIndex_df160 : MethodName := ⟨RJ0, "checkIndex", "(II)V"⟩
def RJ1 : String := "java/lang/StringLatin1"
def TJ1 : u_T := fun k => match k with
  | _ => ("", "", "", false)
def tyJ1 : Nat → FieldType := fun k => match k with
  | _ => .int
abbrev wsJ10 : List Cond := u_ws RJ1 TJ1 0
theorem nmJ1 : ∀ a, a < 0 → ∀ b, b < 0 → a ≠ b → (TJ1 a).2.1 ≠ (TJ1 b).2.1 := by decide +kernel
theorem tyJ1_ok : ∀ k, k < 0 → parseFieldDescriptor (TJ1 k).2.2.1 = some (tyJ1 k) := by decide +kernel
abbrev cJ1_charAt_3b067 : ByteArray := prog_18_method_2_code
def yJ1_charAt_3b067 : MethodName := ⟨RJ1, "charAt", "([BI)C"⟩
def RJ2 : String := "java/lang/StringUTF16"
def TJ2 : u_T := fun k => match k with
  | _ => ("", "", "", false)
def tyJ2 : Nat → FieldType := fun k => match k with
  | _ => .int
abbrev wsJ20 : List Cond := u_ws RJ2 TJ2 0
theorem nmJ2 : ∀ a, a < 0 → ∀ b, b < 0 → a ≠ b → (TJ2 a).2.1 ≠ (TJ2 b).2.1 := by decide +kernel
theorem tyJ2_ok : ∀ k, k < 0 → parseFieldDescriptor (TJ2 k).2.2.1 = some (tyJ2 k) := by decide +kernel
abbrev cJ2_getChar_3b067 : ByteArray := prog_19_method_5_code
def yJ2_getChar_3b067 : MethodName := ⟨RJ2, "getChar", "([BI)C"⟩
abbrev cJ2_length_9d52b : ByteArray := prog_19_method_6_code
def yJ2_length_9d52b : MethodName := ⟨RJ2, "length", "([B)I"⟩
abbrev cJ2_charAt_3b067 : ByteArray := prog_19_method_83_code
def yJ2_charAt_3b067 : MethodName := ⟨RJ2, "charAt", "([BI)C"⟩
abbrev cJ2_checkIndex_2214a : ByteArray := prog_19_method_91_code
def yJ2_checkIndex_2214a : MethodName := ⟨RJ2, "checkIndex", "(I[B)V"⟩
def RJ3 : String := "jdk/internal/util/Preconditions"
def TJ3 : u_T := fun k => match k with
  | _ => ("", "", "", false)
def tyJ3 : Nat → FieldType := fun k => match k with
  | _ => .int
abbrev wsJ30 : List Cond := u_ws RJ3 TJ3 0
theorem nmJ3 : ∀ a, a < 0 → ∀ b, b < 0 → a ≠ b → (TJ3 a).2.1 ≠ (TJ3 b).2.1 := by decide +kernel
theorem tyJ3_ok : ∀ k, k < 0 → parseFieldDescriptor (TJ3 k).2.2.1 = some (tyJ3 k) := by decide +kernel
abbrev cJ3_checkIndex_8e157 : ByteArray := prog_21_method_11_code
def yJ3_checkIndex_8e157 : MethodName := ⟨RJ3, "checkIndex", "(IILjava/util/function/BiFunction;)I"⟩
def RL : String := "ConsentQueueLaw"
abbrev cL_cell : ByteArray := method_2_code
def yL_cell : MethodName := ⟨RL, "cell", "([II)I"⟩
abbrev cL_low : ByteArray := method_3_code
def yL_low : MethodName := ⟨RL, "low", "(II)I"⟩
abbrev cL_rules : ByteArray := method_4_code
def yL_rules : MethodName := ⟨RL, "rules", "(LConsentQueue;)Z"⟩
abbrev cL_money : ByteArray := method_5_code
def yL_money : MethodName := ⟨RL, "money", "(LConsentQueue;)I"⟩
abbrev cL_settles : ByteArray := method_6_code
def yL_settles : MethodName := ⟨RL, "settles", "(LConsentQueue;I)Z"⟩
abbrev cL_changes : ByteArray := method_7_code
def yL_changes : MethodName := ⟨RL, "changes", "(LConsentQueue;II)Z"⟩
abbrev cL_law : ByteArray := code
def yL_law : MethodName := ⟨RL, "law", "([I)Z"⟩
def wsX2_init : List Cond := .code yX2_init cX2_init 1 none :: ([.methodLink RX2 3 objectInit, .instanceMethod objectInit, .code objectInit ⟨#[0xb1]⟩ 1 none, .arrayClass .byte, .fieldLink RX2 9 "ConsentQueue$CommandText" "bytes" "[B", .fieldLink RX2 15 "ConsentQueue$CommandText" "fault" "I", .arrayClass .int, .fieldLink RX2 19 "ConsentQueue$CommandText" "numbers" "[I"] ++ wsX20)
def wsX2_byteAt : List Cond := .code yX2_byteAt cX2_byteAt 2 (some .int) :: ([.fieldLink RX2 23 "ConsentQueue$CommandText" "length" "I", .fieldLink RX2 9 "ConsentQueue$CommandText" "bytes" "[B"] ++ wsX20)
def wsX2_number : List Cond := .code yX2_number cX2_number 2 (some .int) :: ([.fieldLink RX2 19 "ConsentQueue$CommandText" "numbers" "[I"] ++ wsX20)
def wsX2_startReading : List Cond := .code yX2_startReading cX2_startReading 1 none :: ([.fieldLink RX2 36 "ConsentQueue$CommandText" "position" "I", .fieldLink RX2 15 "ConsentQueue$CommandText" "fault" "I", .fieldLink RX2 39 "ConsentQueue$CommandText" "command" "LConsentQueue$Command;"] ++ wsX20)
def wsX2_skipSpaces : List Cond := .code yX2_skipSpaces cX2_skipSpaces 1 none :: ([.fieldLink RX2 36 "ConsentQueue$CommandText" "position" "I", .fieldLink RX2 23 "ConsentQueue$CommandText" "length" "I", .methodLink RX2 64 yX2_byteAt, .instanceMethod yX2_byteAt, .selects RX2 yX2_byteAt yX2_byteAt, .initialized RX2, .code yX2_byteAt cX2_byteAt 2 (some .int), .fieldLink RX2 9 "ConsentQueue$CommandText" "bytes" "[B"] ++ wsX20)
def wsX2_hasCommand : List Cond := .code yX2_hasCommand cX2_hasCommand 1 (some .boolean) :: ([.fieldLink RX2 15 "ConsentQueue$CommandText" "fault" "I", .fieldLink RX2 36 "ConsentQueue$CommandText" "position" "I", .fieldLink RX2 23 "ConsentQueue$CommandText" "length" "I", .methodLink RX2 43 yX2_skipSpaces, .instanceMethod yX2_skipSpaces, .selects RX2 yX2_skipSpaces yX2_skipSpaces, .initialized RX2, .code yX2_skipSpaces cX2_skipSpaces 1 none, .methodLink RX2 64 yX2_byteAt, .instanceMethod yX2_byteAt, .selects RX2 yX2_byteAt yX2_byteAt, .code yX2_byteAt cX2_byteAt 2 (some .int), .fieldLink RX2 9 "ConsentQueue$CommandText" "bytes" "[B"] ++ wsX20)
def wsX2_isLetter : List Cond := .code yX2_isLetter cX2_isLetter 1 (some .boolean) :: ([])
def wsX2_skipLetters : List Cond := .code yX2_skipLetters cX2_skipLetters 1 none :: ([.fieldLink RX2 36 "ConsentQueue$CommandText" "position" "I", .fieldLink RX2 23 "ConsentQueue$CommandText" "length" "I", .methodLink RX2 64 yX2_byteAt, .instanceMethod yX2_byteAt, .selects RX2 yX2_byteAt yX2_byteAt, .initialized RX2, .code yX2_byteAt cX2_byteAt 2 (some .int), .fieldLink RX2 9 "ConsentQueue$CommandText" "bytes" "[B", .methodLink RX2 76 yX2_isLetter, .static yX2_isLetter, .code yX2_isLetter cX2_isLetter 1 (some .boolean)] ++ wsX20)
def wsJ0_coder_7d493 : List Cond := .code yJ0_coder_7d493 cJ0_coder_7d493 1 (some .byte) :: ([.fieldLink RJ0 38 "java/lang/String" "COMPACT_STRINGS" "Z", .fieldLink RJ0 15 "java/lang/String" "coder" "B"])
def wsJ0_length_8abf5 : List Cond := .code yJ0_length_8abf5 cJ0_length_8abf5 1 (some .int) :: ([.fieldLink RJ0 9 "java/lang/String" "value" "[B", .methodLink RJ0 335 yJ0_coder_7d493, .instanceMethod yJ0_coder_7d493, .selects RJ0 yJ0_coder_7d493 yJ0_coder_7d493, .initialized RJ0, .code yJ0_coder_7d493 cJ0_coder_7d493 1 (some .byte), .fieldLink RJ0 38 "java/lang/String" "COMPACT_STRINGS" "Z", .fieldLink RJ0 15 "java/lang/String" "coder" "B"])
def wsJ0_isLatin1_aae02 : List Cond := .code yJ0_isLatin1_aae02 cJ0_isLatin1_aae02 1 (some .boolean) :: ([.fieldLink RJ0 38 "java/lang/String" "COMPACT_STRINGS" "Z", .fieldLink RJ0 15 "java/lang/String" "coder" "B"])
def wsJ3_checkIndex_8e157 : List Cond := .code yJ3_checkIndex_8e157 cJ3_checkIndex_8e157 3 (some .int) :: ([])
def wsJ0_checkIndex_df160 : List Cond := .code yJ0_checkIndex_df160 cJ0_checkIndex_df160 2 none :: ([.fieldLink RJ0 1053 "jdk/internal/util/Preconditions" "SIOOBE_FORMATTER" "Ljava/util/function/BiFunction;", .methodLink RJ0 1059 yJ3_checkIndex_8e157, .static yJ3_checkIndex_8e157, .initialized RJ3, .code yJ3_checkIndex_8e157 cJ3_checkIndex_8e157 3 (some .int)])
def wsJ1_charAt_3b067 : List Cond := .code yJ1_charAt_3b067 cJ1_charAt_3b067 2 (some .char) :: ([.methodLink RJ1 9 yJ0_checkIndex_df160, .static yJ0_checkIndex_df160, .initialized RJ0, .code yJ0_checkIndex_df160 cJ0_checkIndex_df160 2 none, .fieldLink RJ0 1053 "jdk/internal/util/Preconditions" "SIOOBE_FORMATTER" "Ljava/util/function/BiFunction;", .methodLink RJ0 1059 yJ3_checkIndex_8e157, .static yJ3_checkIndex_8e157, .initialized RJ3, .code yJ3_checkIndex_8e157 cJ3_checkIndex_8e157 3 (some .int)])
def wsJ2_length_9d52b : List Cond := .code yJ2_length_9d52b cJ2_length_9d52b 1 (some .int) :: ([])
def wsJ2_checkIndex_2214a : List Cond := .code yJ2_checkIndex_2214a cJ2_checkIndex_2214a 2 none :: ([.methodLink RJ2 48 yJ2_length_9d52b, .static yJ2_length_9d52b, .initialized RJ2, .code yJ2_length_9d52b cJ2_length_9d52b 1 (some .int), .methodLink RJ2 414 yJ0_checkIndex_df160, .static yJ0_checkIndex_df160, .initialized RJ0, .code yJ0_checkIndex_df160 cJ0_checkIndex_df160 2 none, .fieldLink RJ0 1053 "jdk/internal/util/Preconditions" "SIOOBE_FORMATTER" "Ljava/util/function/BiFunction;", .methodLink RJ0 1059 yJ3_checkIndex_8e157, .static yJ3_checkIndex_8e157, .initialized RJ3, .code yJ3_checkIndex_8e157 cJ3_checkIndex_8e157 3 (some .int)])
def wsJ2_getChar_3b067 : List Cond := .code yJ2_getChar_3b067 cJ2_getChar_3b067 2 (some .char) :: ([.fieldLink RJ2 44 "java/lang/StringUTF16" "$assertionsDisabled" "Z", .fieldLink RJ2 59 "java/lang/StringUTF16" "HI_BYTE_SHIFT" "I", .fieldLink RJ2 63 "java/lang/StringUTF16" "LO_BYTE_SHIFT" "I", .methodLink RJ2 48 yJ2_length_9d52b, .static yJ2_length_9d52b, .initialized RJ2, .code yJ2_length_9d52b cJ2_length_9d52b 1 (some .int)])
def wsJ2_charAt_3b067 : List Cond := .code yJ2_charAt_3b067 cJ2_charAt_3b067 2 (some .char) :: ([.methodLink RJ2 67 yJ2_checkIndex_2214a, .static yJ2_checkIndex_2214a, .initialized RJ2, .code yJ2_checkIndex_2214a cJ2_checkIndex_2214a 2 none, .methodLink RJ2 48 yJ2_length_9d52b, .static yJ2_length_9d52b, .code yJ2_length_9d52b cJ2_length_9d52b 1 (some .int), .methodLink RJ2 414 yJ0_checkIndex_df160, .static yJ0_checkIndex_df160, .initialized RJ0, .code yJ0_checkIndex_df160 cJ0_checkIndex_df160 2 none, .fieldLink RJ0 1053 "jdk/internal/util/Preconditions" "SIOOBE_FORMATTER" "Ljava/util/function/BiFunction;", .methodLink RJ0 1059 yJ3_checkIndex_8e157, .static yJ3_checkIndex_8e157, .initialized RJ3, .code yJ3_checkIndex_8e157 cJ3_checkIndex_8e157 3 (some .int), .methodLink RJ2 71 yJ2_getChar_3b067, .static yJ2_getChar_3b067, .code yJ2_getChar_3b067 cJ2_getChar_3b067 2 (some .char), .fieldLink RJ2 44 "java/lang/StringUTF16" "$assertionsDisabled" "Z", .fieldLink RJ2 59 "java/lang/StringUTF16" "HI_BYTE_SHIFT" "I", .fieldLink RJ2 63 "java/lang/StringUTF16" "LO_BYTE_SHIFT" "I"])
def wsJ0_charAt_5068e_r1 : List Cond := [Cond.fieldLink RJ0 9 "java/lang/String" "value" "[B", Cond.methodLink RJ0 492 yJ0_isLatin1_aae02, Cond.instanceMethod yJ0_isLatin1_aae02, Cond.selects RJ0 yJ0_isLatin1_aae02 yJ0_isLatin1_aae02, Cond.initialized RJ0, Cond.code yJ0_isLatin1_aae02 cJ0_isLatin1_aae02 1 (some .boolean), Cond.fieldLink RJ0 38 "java/lang/String" "COMPACT_STRINGS" "Z", Cond.fieldLink RJ0 15 "java/lang/String" "coder" "B", Cond.methodLink RJ0 495 yJ1_charAt_3b067, Cond.static yJ1_charAt_3b067, Cond.initialized RJ1, Cond.code yJ1_charAt_3b067 cJ1_charAt_3b067 2 (some .char), Cond.methodLink RJ1 9 yJ0_checkIndex_df160, Cond.static yJ0_checkIndex_df160, Cond.code yJ0_checkIndex_df160 cJ0_checkIndex_df160 2 none, Cond.fieldLink RJ0 1053 "jdk/internal/util/Preconditions" "SIOOBE_FORMATTER" "Ljava/util/function/BiFunction;", Cond.methodLink RJ0 1059 yJ3_checkIndex_8e157, Cond.static yJ3_checkIndex_8e157, Cond.initialized RJ3, Cond.code yJ3_checkIndex_8e157 cJ3_checkIndex_8e157 3 (some .int), Cond.methodLink RJ0 498 yJ2_charAt_3b067, Cond.static yJ2_charAt_3b067, Cond.initialized RJ2, Cond.code yJ2_charAt_3b067 cJ2_charAt_3b067 2 (some .char)]
def wsJ0_charAt_5068e_r2 : List Cond := [Cond.methodLink RJ2 67 yJ2_checkIndex_2214a, Cond.static yJ2_checkIndex_2214a, Cond.code yJ2_checkIndex_2214a cJ2_checkIndex_2214a 2 none, Cond.methodLink RJ2 48 yJ2_length_9d52b, Cond.static yJ2_length_9d52b, Cond.code yJ2_length_9d52b cJ2_length_9d52b 1 (some .int), Cond.methodLink RJ2 414 yJ0_checkIndex_df160, Cond.methodLink RJ2 71 yJ2_getChar_3b067, Cond.static yJ2_getChar_3b067, Cond.code yJ2_getChar_3b067 cJ2_getChar_3b067 2 (some .char), Cond.fieldLink RJ2 44 "java/lang/StringUTF16" "$assertionsDisabled" "Z", Cond.fieldLink RJ2 59 "java/lang/StringUTF16" "HI_BYTE_SHIFT" "I", Cond.fieldLink RJ2 63 "java/lang/StringUTF16" "LO_BYTE_SHIFT" "I"]
def wsJ0_charAt_5068e : List Cond := .code yJ0_charAt_5068e cJ0_charAt_5068e 2 (some .char) :: ((wsJ0_charAt_5068e_r1 ++ wsJ0_charAt_5068e_r2))
def wsX2_isSpelled_r1 : List Cond := [Cond.methodLink RX2 91 yJ0_length_8abf5, Cond.instanceMethod yJ0_length_8abf5, Cond.selects RJ0 yJ0_length_8abf5 yJ0_length_8abf5, Cond.initialized RJ0, Cond.code yJ0_length_8abf5 cJ0_length_8abf5 1 (some .int), Cond.fieldLink RJ0 9 "java/lang/String" "value" "[B", Cond.methodLink RJ0 335 yJ0_coder_7d493, Cond.instanceMethod yJ0_coder_7d493, Cond.selects RJ0 yJ0_coder_7d493 yJ0_coder_7d493, Cond.code yJ0_coder_7d493 cJ0_coder_7d493 1 (some .byte), Cond.fieldLink RJ0 38 "java/lang/String" "COMPACT_STRINGS" "Z", Cond.fieldLink RJ0 15 "java/lang/String" "coder" "B", Cond.methodLink RX2 95 yJ0_charAt_5068e, Cond.instanceMethod yJ0_charAt_5068e, Cond.selects RJ0 yJ0_charAt_5068e yJ0_charAt_5068e, Cond.code yJ0_charAt_5068e cJ0_charAt_5068e 2 (some .char), Cond.methodLink RJ0 492 yJ0_isLatin1_aae02, Cond.instanceMethod yJ0_isLatin1_aae02, Cond.selects RJ0 yJ0_isLatin1_aae02 yJ0_isLatin1_aae02, Cond.code yJ0_isLatin1_aae02 cJ0_isLatin1_aae02 1 (some .boolean), Cond.methodLink RJ0 495 yJ1_charAt_3b067, Cond.static yJ1_charAt_3b067, Cond.initialized RJ1, Cond.code yJ1_charAt_3b067 cJ1_charAt_3b067 2 (some .char)]
def wsX2_isSpelled_r2 : List Cond := [Cond.methodLink RJ1 9 yJ0_checkIndex_df160, Cond.static yJ0_checkIndex_df160, Cond.code yJ0_checkIndex_df160 cJ0_checkIndex_df160 2 none, Cond.fieldLink RJ0 1053 "jdk/internal/util/Preconditions" "SIOOBE_FORMATTER" "Ljava/util/function/BiFunction;", Cond.methodLink RJ0 1059 yJ3_checkIndex_8e157, Cond.static yJ3_checkIndex_8e157, Cond.initialized RJ3, Cond.code yJ3_checkIndex_8e157 cJ3_checkIndex_8e157 3 (some .int), Cond.methodLink RJ0 498 yJ2_charAt_3b067, Cond.static yJ2_charAt_3b067, Cond.initialized RJ2, Cond.code yJ2_charAt_3b067 cJ2_charAt_3b067 2 (some .char), Cond.methodLink RJ2 67 yJ2_checkIndex_2214a, Cond.static yJ2_checkIndex_2214a, Cond.code yJ2_checkIndex_2214a cJ2_checkIndex_2214a 2 none, Cond.methodLink RJ2 48 yJ2_length_9d52b, Cond.static yJ2_length_9d52b, Cond.code yJ2_length_9d52b cJ2_length_9d52b 1 (some .int), Cond.methodLink RJ2 414 yJ0_checkIndex_df160, Cond.methodLink RJ2 71 yJ2_getChar_3b067, Cond.static yJ2_getChar_3b067, Cond.code yJ2_getChar_3b067 cJ2_getChar_3b067 2 (some .char), Cond.fieldLink RJ2 44 "java/lang/StringUTF16" "$assertionsDisabled" "Z", Cond.fieldLink RJ2 59 "java/lang/StringUTF16" "HI_BYTE_SHIFT" "I"]
def wsX2_isSpelled_r3 : List Cond := [Cond.fieldLink RJ2 63 "java/lang/StringUTF16" "LO_BYTE_SHIFT" "I", Cond.methodLink RX2 64 yX2_byteAt, Cond.instanceMethod yX2_byteAt, Cond.selects RX2 yX2_byteAt yX2_byteAt, Cond.initialized RX2, Cond.code yX2_byteAt cX2_byteAt 2 (some .int), Cond.fieldLink RX2 23 "ConsentQueue$CommandText" "length" "I", Cond.fieldLink RX2 9 "ConsentQueue$CommandText" "bytes" "[B"]
def wsX2_isSpelled : List Cond := .code yX2_isSpelled cX2_isSpelled 5 (some .boolean) :: ((wsX2_isSpelled_r1 ++ (wsX2_isSpelled_r2 ++ wsX2_isSpelled_r3)) ++ wsX20)
def wsX2_commandSpelled_r1 : List Cond := [Cond.methodLink RX2 87 yX2_isSpelled, Cond.instanceMethod yX2_isSpelled, Cond.selects RX2 yX2_isSpelled yX2_isSpelled, Cond.initialized RX2, Cond.code yX2_isSpelled cX2_isSpelled 5 (some .boolean), Cond.methodLink RX2 91 yJ0_length_8abf5, Cond.instanceMethod yJ0_length_8abf5, Cond.selects RJ0 yJ0_length_8abf5 yJ0_length_8abf5, Cond.initialized RJ0, Cond.code yJ0_length_8abf5 cJ0_length_8abf5 1 (some .int), Cond.fieldLink RJ0 9 "java/lang/String" "value" "[B", Cond.methodLink RJ0 335 yJ0_coder_7d493, Cond.instanceMethod yJ0_coder_7d493, Cond.selects RJ0 yJ0_coder_7d493 yJ0_coder_7d493, Cond.code yJ0_coder_7d493 cJ0_coder_7d493 1 (some .byte), Cond.fieldLink RJ0 38 "java/lang/String" "COMPACT_STRINGS" "Z", Cond.fieldLink RJ0 15 "java/lang/String" "coder" "B", Cond.methodLink RX2 95 yJ0_charAt_5068e, Cond.instanceMethod yJ0_charAt_5068e, Cond.selects RJ0 yJ0_charAt_5068e yJ0_charAt_5068e, Cond.code yJ0_charAt_5068e cJ0_charAt_5068e 2 (some .char), Cond.methodLink RJ0 492 yJ0_isLatin1_aae02, Cond.instanceMethod yJ0_isLatin1_aae02, Cond.selects RJ0 yJ0_isLatin1_aae02 yJ0_isLatin1_aae02]
def wsX2_commandSpelled_r2 : List Cond := [Cond.code yJ0_isLatin1_aae02 cJ0_isLatin1_aae02 1 (some .boolean), Cond.methodLink RJ0 495 yJ1_charAt_3b067, Cond.static yJ1_charAt_3b067, Cond.initialized RJ1, Cond.code yJ1_charAt_3b067 cJ1_charAt_3b067 2 (some .char), Cond.methodLink RJ1 9 yJ0_checkIndex_df160, Cond.static yJ0_checkIndex_df160, Cond.code yJ0_checkIndex_df160 cJ0_checkIndex_df160 2 none, Cond.fieldLink RJ0 1053 "jdk/internal/util/Preconditions" "SIOOBE_FORMATTER" "Ljava/util/function/BiFunction;", Cond.methodLink RJ0 1059 yJ3_checkIndex_8e157, Cond.static yJ3_checkIndex_8e157, Cond.initialized RJ3, Cond.code yJ3_checkIndex_8e157 cJ3_checkIndex_8e157 3 (some .int), Cond.methodLink RJ0 498 yJ2_charAt_3b067, Cond.static yJ2_charAt_3b067, Cond.initialized RJ2, Cond.code yJ2_charAt_3b067 cJ2_charAt_3b067 2 (some .char), Cond.methodLink RJ2 67 yJ2_checkIndex_2214a, Cond.static yJ2_checkIndex_2214a, Cond.code yJ2_checkIndex_2214a cJ2_checkIndex_2214a 2 none, Cond.methodLink RJ2 48 yJ2_length_9d52b, Cond.static yJ2_length_9d52b, Cond.code yJ2_length_9d52b cJ2_length_9d52b 1 (some .int), Cond.methodLink RJ2 414 yJ0_checkIndex_df160]
def wsX2_commandSpelled_r3 : List Cond := [Cond.methodLink RJ2 71 yJ2_getChar_3b067, Cond.static yJ2_getChar_3b067, Cond.code yJ2_getChar_3b067 cJ2_getChar_3b067 2 (some .char), Cond.fieldLink RJ2 44 "java/lang/StringUTF16" "$assertionsDisabled" "Z", Cond.fieldLink RJ2 59 "java/lang/StringUTF16" "HI_BYTE_SHIFT" "I", Cond.fieldLink RJ2 63 "java/lang/StringUTF16" "LO_BYTE_SHIFT" "I", Cond.methodLink RX2 64 yX2_byteAt, Cond.instanceMethod yX2_byteAt, Cond.selects RX2 yX2_byteAt yX2_byteAt, Cond.code yX2_byteAt cX2_byteAt 2 (some .int), Cond.fieldLink RX2 23 "ConsentQueue$CommandText" "length" "I", Cond.fieldLink RX2 9 "ConsentQueue$CommandText" "bytes" "[B"]
def wsX2_commandSpelled : List Cond := .code yX2_commandSpelled cX2_commandSpelled 7 (some (.object "ConsentQueue$Command")) :: ((wsX2_commandSpelled_r1 ++ (wsX2_commandSpelled_r2 ++ wsX2_commandSpelled_r3)) ++ wsX20)
def wsX2_isDigit : List Cond := .code yX2_isDigit cX2_isDigit 1 (some .boolean) :: ([])
def wsX2_readDigits : List Cond := .code yX2_readDigits cX2_readDigits 3 (some .int) :: ([.fieldLink RX2 36 "ConsentQueue$CommandText" "position" "I", .methodLink RX2 64 yX2_byteAt, .instanceMethod yX2_byteAt, .selects RX2 yX2_byteAt yX2_byteAt, .initialized RX2, .code yX2_byteAt cX2_byteAt 2 (some .int), .fieldLink RX2 23 "ConsentQueue$CommandText" "length" "I", .fieldLink RX2 9 "ConsentQueue$CommandText" "bytes" "[B", .methodLink RX2 68 yX2_isDigit, .static yX2_isDigit, .code yX2_isDigit cX2_isDigit 1 (some .boolean)] ++ wsX20)
def wsX2_readNumber : List Cond := .code yX2_readNumber cX2_readNumber 4 none :: ([.fieldLink RX2 36 "ConsentQueue$CommandText" "position" "I", .fieldLink RX2 15 "ConsentQueue$CommandText" "fault" "I", .fieldLink RX2 19 "ConsentQueue$CommandText" "numbers" "[I", .methodLink RX2 43 yX2_skipSpaces, .instanceMethod yX2_skipSpaces, .selects RX2 yX2_skipSpaces yX2_skipSpaces, .initialized RX2, .code yX2_skipSpaces cX2_skipSpaces 1 none, .fieldLink RX2 23 "ConsentQueue$CommandText" "length" "I", .methodLink RX2 64 yX2_byteAt, .instanceMethod yX2_byteAt, .selects RX2 yX2_byteAt yX2_byteAt, .code yX2_byteAt cX2_byteAt 2 (some .int), .fieldLink RX2 9 "ConsentQueue$CommandText" "bytes" "[B", .methodLink RX2 68 yX2_isDigit, .static yX2_isDigit, .code yX2_isDigit cX2_isDigit 1 (some .boolean), .methodLink RX2 72 yX2_readDigits, .instanceMethod yX2_readDigits, .selects RX2 yX2_readDigits yX2_readDigits, .code yX2_readDigits cX2_readDigits 3 (some .int)] ++ wsX20)
def wsX2_readSemicolon : List Cond := .code yX2_readSemicolon cX2_readSemicolon 1 none :: ([.fieldLink RX2 36 "ConsentQueue$CommandText" "position" "I", .fieldLink RX2 15 "ConsentQueue$CommandText" "fault" "I", .methodLink RX2 43 yX2_skipSpaces, .instanceMethod yX2_skipSpaces, .selects RX2 yX2_skipSpaces yX2_skipSpaces, .initialized RX2, .code yX2_skipSpaces cX2_skipSpaces 1 none, .fieldLink RX2 23 "ConsentQueue$CommandText" "length" "I", .methodLink RX2 64 yX2_byteAt, .instanceMethod yX2_byteAt, .selects RX2 yX2_byteAt yX2_byteAt, .code yX2_byteAt cX2_byteAt 2 (some .int), .fieldLink RX2 9 "ConsentQueue$CommandText" "bytes" "[B"] ++ wsX20)
def wsX2_readCommand_r1 : List Cond := [Cond.fieldLink RX2 36 "ConsentQueue$CommandText" "position" "I", Cond.fieldLink RX2 39 "ConsentQueue$CommandText" "command" "LConsentQueue$Command;", Cond.fieldLink RX2 15 "ConsentQueue$CommandText" "fault" "I", Cond.methodLink RX2 46 yX2_skipLetters, Cond.instanceMethod yX2_skipLetters, Cond.selects RX2 yX2_skipLetters yX2_skipLetters, Cond.initialized RX2, Cond.code yX2_skipLetters cX2_skipLetters 1 none, Cond.fieldLink RX2 23 "ConsentQueue$CommandText" "length" "I", Cond.methodLink RX2 64 yX2_byteAt, Cond.instanceMethod yX2_byteAt, Cond.selects RX2 yX2_byteAt yX2_byteAt, Cond.code yX2_byteAt cX2_byteAt 2 (some .int), Cond.fieldLink RX2 9 "ConsentQueue$CommandText" "bytes" "[B", Cond.methodLink RX2 76 yX2_isLetter, Cond.static yX2_isLetter, Cond.code yX2_isLetter cX2_isLetter 1 (some .boolean), Cond.methodLink RX2 49 yX2_commandSpelled, Cond.instanceMethod yX2_commandSpelled, Cond.selects RX2 yX2_commandSpelled yX2_commandSpelled, Cond.code yX2_commandSpelled cX2_commandSpelled 7 (some (.object "ConsentQueue$Command")), Cond.methodLink RX2 87 yX2_isSpelled, Cond.instanceMethod yX2_isSpelled, Cond.selects RX2 yX2_isSpelled yX2_isSpelled]
def wsX2_readCommand_r2 : List Cond := [Cond.code yX2_isSpelled cX2_isSpelled 5 (some .boolean), Cond.methodLink RX2 91 yJ0_length_8abf5, Cond.instanceMethod yJ0_length_8abf5, Cond.selects RJ0 yJ0_length_8abf5 yJ0_length_8abf5, Cond.initialized RJ0, Cond.code yJ0_length_8abf5 cJ0_length_8abf5 1 (some .int), Cond.fieldLink RJ0 9 "java/lang/String" "value" "[B", Cond.methodLink RJ0 335 yJ0_coder_7d493, Cond.instanceMethod yJ0_coder_7d493, Cond.selects RJ0 yJ0_coder_7d493 yJ0_coder_7d493, Cond.code yJ0_coder_7d493 cJ0_coder_7d493 1 (some .byte), Cond.fieldLink RJ0 38 "java/lang/String" "COMPACT_STRINGS" "Z", Cond.fieldLink RJ0 15 "java/lang/String" "coder" "B", Cond.methodLink RX2 95 yJ0_charAt_5068e, Cond.instanceMethod yJ0_charAt_5068e, Cond.selects RJ0 yJ0_charAt_5068e yJ0_charAt_5068e, Cond.code yJ0_charAt_5068e cJ0_charAt_5068e 2 (some .char), Cond.methodLink RJ0 492 yJ0_isLatin1_aae02, Cond.instanceMethod yJ0_isLatin1_aae02, Cond.selects RJ0 yJ0_isLatin1_aae02 yJ0_isLatin1_aae02, Cond.code yJ0_isLatin1_aae02 cJ0_isLatin1_aae02 1 (some .boolean), Cond.methodLink RJ0 495 yJ1_charAt_3b067, Cond.static yJ1_charAt_3b067, Cond.initialized RJ1]
def wsX2_readCommand_r3 : List Cond := [Cond.code yJ1_charAt_3b067 cJ1_charAt_3b067 2 (some .char), Cond.methodLink RJ1 9 yJ0_checkIndex_df160, Cond.static yJ0_checkIndex_df160, Cond.code yJ0_checkIndex_df160 cJ0_checkIndex_df160 2 none, Cond.fieldLink RJ0 1053 "jdk/internal/util/Preconditions" "SIOOBE_FORMATTER" "Ljava/util/function/BiFunction;", Cond.methodLink RJ0 1059 yJ3_checkIndex_8e157, Cond.static yJ3_checkIndex_8e157, Cond.initialized RJ3, Cond.code yJ3_checkIndex_8e157 cJ3_checkIndex_8e157 3 (some .int), Cond.methodLink RJ0 498 yJ2_charAt_3b067, Cond.static yJ2_charAt_3b067, Cond.initialized RJ2, Cond.code yJ2_charAt_3b067 cJ2_charAt_3b067 2 (some .char), Cond.methodLink RJ2 67 yJ2_checkIndex_2214a, Cond.static yJ2_checkIndex_2214a, Cond.code yJ2_checkIndex_2214a cJ2_checkIndex_2214a 2 none, Cond.methodLink RJ2 48 yJ2_length_9d52b, Cond.static yJ2_length_9d52b, Cond.code yJ2_length_9d52b cJ2_length_9d52b 1 (some .int), Cond.methodLink RJ2 414 yJ0_checkIndex_df160, Cond.methodLink RJ2 71 yJ2_getChar_3b067, Cond.static yJ2_getChar_3b067, Cond.code yJ2_getChar_3b067 cJ2_getChar_3b067 2 (some .char), Cond.fieldLink RJ2 44 "java/lang/StringUTF16" "$assertionsDisabled" "Z"]
def wsX2_readCommand_r4 : List Cond := [Cond.fieldLink RJ2 59 "java/lang/StringUTF16" "HI_BYTE_SHIFT" "I", Cond.fieldLink RJ2 63 "java/lang/StringUTF16" "LO_BYTE_SHIFT" "I", Cond.methodLink RX2 57 yX2_readNumber, Cond.instanceMethod yX2_readNumber, Cond.selects RX2 yX2_readNumber yX2_readNumber, Cond.code yX2_readNumber cX2_readNumber 4 none, Cond.fieldLink RX2 19 "ConsentQueue$CommandText" "numbers" "[I", Cond.methodLink RX2 43 yX2_skipSpaces, Cond.instanceMethod yX2_skipSpaces, Cond.selects RX2 yX2_skipSpaces yX2_skipSpaces, Cond.code yX2_skipSpaces cX2_skipSpaces 1 none, Cond.methodLink RX2 68 yX2_isDigit, Cond.static yX2_isDigit, Cond.code yX2_isDigit cX2_isDigit 1 (some .boolean), Cond.methodLink RX2 72 yX2_readDigits, Cond.instanceMethod yX2_readDigits, Cond.selects RX2 yX2_readDigits yX2_readDigits, Cond.code yX2_readDigits cX2_readDigits 3 (some .int), Cond.methodLink RX2 61 yX2_readSemicolon, Cond.instanceMethod yX2_readSemicolon, Cond.selects RX2 yX2_readSemicolon yX2_readSemicolon, Cond.code yX2_readSemicolon cX2_readSemicolon 1 none]
def wsX2_readCommand : List Cond := .code yX2_readCommand cX2_readCommand 4 none :: ((wsX2_readCommand_r1 ++ (wsX2_readCommand_r2 ++ (wsX2_readCommand_r3 ++ wsX2_readCommand_r4))) ++ wsX20)
def wsX2_findFault_r1 : List Cond := [Cond.fieldLink RX2 15 "ConsentQueue$CommandText" "fault" "I", Cond.methodLink RX2 26 yX2_startReading, Cond.instanceMethod yX2_startReading, Cond.selects RX2 yX2_startReading yX2_startReading, Cond.initialized RX2, Cond.code yX2_startReading cX2_startReading 1 none, Cond.fieldLink RX2 36 "ConsentQueue$CommandText" "position" "I", Cond.fieldLink RX2 39 "ConsentQueue$CommandText" "command" "LConsentQueue$Command;", Cond.methodLink RX2 29 yX2_hasCommand, Cond.instanceMethod yX2_hasCommand, Cond.selects RX2 yX2_hasCommand yX2_hasCommand, Cond.code yX2_hasCommand cX2_hasCommand 1 (some .boolean), Cond.fieldLink RX2 23 "ConsentQueue$CommandText" "length" "I", Cond.methodLink RX2 43 yX2_skipSpaces, Cond.instanceMethod yX2_skipSpaces, Cond.selects RX2 yX2_skipSpaces yX2_skipSpaces, Cond.code yX2_skipSpaces cX2_skipSpaces 1 none, Cond.methodLink RX2 64 yX2_byteAt, Cond.instanceMethod yX2_byteAt, Cond.selects RX2 yX2_byteAt yX2_byteAt, Cond.code yX2_byteAt cX2_byteAt 2 (some .int), Cond.fieldLink RX2 9 "ConsentQueue$CommandText" "bytes" "[B", Cond.methodLink RX2 33 yX2_readCommand, Cond.instanceMethod yX2_readCommand]
def wsX2_findFault_r2 : List Cond := [Cond.selects RX2 yX2_readCommand yX2_readCommand, Cond.code yX2_readCommand cX2_readCommand 4 none, Cond.methodLink RX2 46 yX2_skipLetters, Cond.instanceMethod yX2_skipLetters, Cond.selects RX2 yX2_skipLetters yX2_skipLetters, Cond.code yX2_skipLetters cX2_skipLetters 1 none, Cond.methodLink RX2 76 yX2_isLetter, Cond.static yX2_isLetter, Cond.code yX2_isLetter cX2_isLetter 1 (some .boolean), Cond.methodLink RX2 49 yX2_commandSpelled, Cond.instanceMethod yX2_commandSpelled, Cond.selects RX2 yX2_commandSpelled yX2_commandSpelled, Cond.code yX2_commandSpelled cX2_commandSpelled 7 (some (.object "ConsentQueue$Command")), Cond.methodLink RX2 87 yX2_isSpelled, Cond.instanceMethod yX2_isSpelled, Cond.selects RX2 yX2_isSpelled yX2_isSpelled, Cond.code yX2_isSpelled cX2_isSpelled 5 (some .boolean), Cond.methodLink RX2 91 yJ0_length_8abf5, Cond.instanceMethod yJ0_length_8abf5, Cond.selects RJ0 yJ0_length_8abf5 yJ0_length_8abf5, Cond.initialized RJ0, Cond.code yJ0_length_8abf5 cJ0_length_8abf5 1 (some .int), Cond.fieldLink RJ0 9 "java/lang/String" "value" "[B", Cond.methodLink RJ0 335 yJ0_coder_7d493]
def wsX2_findFault_r3 : List Cond := [Cond.instanceMethod yJ0_coder_7d493, Cond.selects RJ0 yJ0_coder_7d493 yJ0_coder_7d493, Cond.code yJ0_coder_7d493 cJ0_coder_7d493 1 (some .byte), Cond.fieldLink RJ0 38 "java/lang/String" "COMPACT_STRINGS" "Z", Cond.fieldLink RJ0 15 "java/lang/String" "coder" "B", Cond.methodLink RX2 95 yJ0_charAt_5068e, Cond.instanceMethod yJ0_charAt_5068e, Cond.selects RJ0 yJ0_charAt_5068e yJ0_charAt_5068e, Cond.code yJ0_charAt_5068e cJ0_charAt_5068e 2 (some .char), Cond.methodLink RJ0 492 yJ0_isLatin1_aae02, Cond.instanceMethod yJ0_isLatin1_aae02, Cond.selects RJ0 yJ0_isLatin1_aae02 yJ0_isLatin1_aae02, Cond.code yJ0_isLatin1_aae02 cJ0_isLatin1_aae02 1 (some .boolean), Cond.methodLink RJ0 495 yJ1_charAt_3b067, Cond.static yJ1_charAt_3b067, Cond.initialized RJ1, Cond.code yJ1_charAt_3b067 cJ1_charAt_3b067 2 (some .char), Cond.methodLink RJ1 9 yJ0_checkIndex_df160, Cond.static yJ0_checkIndex_df160, Cond.code yJ0_checkIndex_df160 cJ0_checkIndex_df160 2 none, Cond.fieldLink RJ0 1053 "jdk/internal/util/Preconditions" "SIOOBE_FORMATTER" "Ljava/util/function/BiFunction;", Cond.methodLink RJ0 1059 yJ3_checkIndex_8e157, Cond.static yJ3_checkIndex_8e157, Cond.initialized RJ3]
def wsX2_findFault_r4 : List Cond := [Cond.code yJ3_checkIndex_8e157 cJ3_checkIndex_8e157 3 (some .int), Cond.methodLink RJ0 498 yJ2_charAt_3b067, Cond.static yJ2_charAt_3b067, Cond.initialized RJ2, Cond.code yJ2_charAt_3b067 cJ2_charAt_3b067 2 (some .char), Cond.methodLink RJ2 67 yJ2_checkIndex_2214a, Cond.static yJ2_checkIndex_2214a, Cond.code yJ2_checkIndex_2214a cJ2_checkIndex_2214a 2 none, Cond.methodLink RJ2 48 yJ2_length_9d52b, Cond.static yJ2_length_9d52b, Cond.code yJ2_length_9d52b cJ2_length_9d52b 1 (some .int), Cond.methodLink RJ2 414 yJ0_checkIndex_df160, Cond.methodLink RJ2 71 yJ2_getChar_3b067, Cond.static yJ2_getChar_3b067, Cond.code yJ2_getChar_3b067 cJ2_getChar_3b067 2 (some .char), Cond.fieldLink RJ2 44 "java/lang/StringUTF16" "$assertionsDisabled" "Z", Cond.fieldLink RJ2 59 "java/lang/StringUTF16" "HI_BYTE_SHIFT" "I", Cond.fieldLink RJ2 63 "java/lang/StringUTF16" "LO_BYTE_SHIFT" "I", Cond.methodLink RX2 57 yX2_readNumber, Cond.instanceMethod yX2_readNumber, Cond.selects RX2 yX2_readNumber yX2_readNumber, Cond.code yX2_readNumber cX2_readNumber 4 none, Cond.fieldLink RX2 19 "ConsentQueue$CommandText" "numbers" "[I", Cond.methodLink RX2 68 yX2_isDigit]
def wsX2_findFault_r5 : List Cond := [Cond.static yX2_isDigit, Cond.code yX2_isDigit cX2_isDigit 1 (some .boolean), Cond.methodLink RX2 72 yX2_readDigits, Cond.instanceMethod yX2_readDigits, Cond.selects RX2 yX2_readDigits yX2_readDigits, Cond.code yX2_readDigits cX2_readDigits 3 (some .int), Cond.methodLink RX2 61 yX2_readSemicolon, Cond.instanceMethod yX2_readSemicolon, Cond.selects RX2 yX2_readSemicolon yX2_readSemicolon, Cond.code yX2_readSemicolon cX2_readSemicolon 1 none]
def wsX2_findFault : List Cond := .code yX2_findFault cX2_findFault 2 (some .int) :: ((wsX2_findFault_r1 ++ (wsX2_findFault_r2 ++ (wsX2_findFault_r3 ++ (wsX2_findFault_r4 ++ wsX2_findFault_r5)))) ++ wsX20)
def wsX5_init : List Cond := .code yX5_init cX5_init 1 none :: ([.methodLink RX5 3 objectInit, .instanceMethod objectInit, .code objectInit ⟨#[0xb1]⟩ 1 none, .fieldLink RX5 9 "ConsentQueue$Member" "number" "I", .fieldLink RX5 15 "ConsentQueue$Member" "offer" "I"] ++ wsX50)
def wsX4_init : List Cond := .code yX4_init cX4_init 2 none :: ([.methodLink RX4 3 objectInit, .instanceMethod objectInit, .code objectInit ⟨#[0xb1]⟩ 1 none, .classLink RX4 9 RX5, .fieldLink RX4 11 "ConsentQueue$Line" "members" "[LConsentQueue$Member;", .instantiable RX5 7, .initialized RX5, .fieldLink RX4 18 "ConsentQueue$Line" "nobody" "LConsentQueue$Member;", .fieldLink RX4 22 "ConsentQueue$Line" "split" "I", .instanceMethod yX5_init, .code yX5_init cX5_init 1 none, .methodLink RX5 3 objectInit, .fieldLink RX5 9 "ConsentQueue$Member" "number" "I", .fieldLink RX5 15 "ConsentQueue$Member" "offer" "I"] ++ wsX40 ++ wsX50)
def wsX3_init : List Cond := .code yX3_init cX3_init 2 none :: ([.methodLink RX3 3 objectInit, .instanceMethod objectInit, .code objectInit ⟨#[0xb1]⟩ 1 none, .classLink RX3 9 RX4, .fieldLink RX3 11 "ConsentQueue$History" "saved" "[LConsentQueue$Line;", .instantiable RX4 8, .initialized RX4, .instanceMethod yX4_init, .code yX4_init cX4_init 2 none, .methodLink RX4 3 objectInit, .classLink RX4 9 RX5, .fieldLink RX4 11 "ConsentQueue$Line" "members" "[LConsentQueue$Member;", .instantiable RX5 7, .initialized RX5, .fieldLink RX4 18 "ConsentQueue$Line" "nobody" "LConsentQueue$Member;", .fieldLink RX4 22 "ConsentQueue$Line" "split" "I", .instanceMethod yX5_init, .code yX5_init cX5_init 1 none, .methodLink RX5 3 objectInit, .fieldLink RX5 9 "ConsentQueue$Member" "number" "I", .fieldLink RX5 15 "ConsentQueue$Member" "offer" "I"] ++ wsX30 ++ wsX40 ++ wsX50)
def wsX3_dropOldest : List Cond := .code yX3_dropOldest cX3_dropOldest 3 none :: ([.fieldLink RX3 11 "ConsentQueue$History" "saved" "[LConsentQueue$Line;", .fieldLink RX3 18 "ConsentQueue$History" "size" "I"] ++ wsX30)
def wsX4_memberAt : List Cond := .code yX4_memberAt cX4_memberAt 3 (some (.object "ConsentQueue$Member")) :: ([.fieldLink RX4 26 "ConsentQueue$Line" "count" "I", .fieldLink RX4 11 "ConsentQueue$Line" "members" "[LConsentQueue$Member;", .fieldLink RX4 18 "ConsentQueue$Line" "nobody" "LConsentQueue$Member;"] ++ wsX40)
def wsX5_copyFrom : List Cond := .code yX5_copyFrom cX5_copyFrom 2 none :: ([.fieldLink RX5 9 "ConsentQueue$Member" "number" "I", .fieldLink RX5 18 "ConsentQueue$Member" "worth" "I", .fieldLink RX5 21 "ConsentQueue$Member" "told" "I", .fieldLink RX5 24 "ConsentQueue$Member" "service" "I", .fieldLink RX5 27 "ConsentQueue$Member" "money" "I", .fieldLink RX5 15 "ConsentQueue$Member" "offer" "I", .fieldLink RX5 30 "ConsentQueue$Member" "friendAhead" "Z"] ++ wsX50)
def wsX4_copyFrom : List Cond := .code yX4_copyFrom cX4_copyFrom 3 none :: ([.fieldLink RX4 26 "ConsentQueue$Line" "count" "I", .fieldLink RX4 22 "ConsentQueue$Line" "split" "I", .fieldLink RX4 29 "ConsentQueue$Line" "swaps" "I", .fieldLink RX4 32 "ConsentQueue$Line" "paid" "I", .fieldLink RX4 35 "ConsentQueue$Line" "served" "I", .fieldLink RX4 38 "ConsentQueue$Line" "joined" "I", .methodLink RX4 41 yX4_memberAt, .instanceMethod yX4_memberAt, .selects RX4 yX4_memberAt yX4_memberAt, .initialized RX4, .code yX4_memberAt cX4_memberAt 3 (some (.object "ConsentQueue$Member")), .fieldLink RX4 11 "ConsentQueue$Line" "members" "[LConsentQueue$Member;", .fieldLink RX4 18 "ConsentQueue$Line" "nobody" "LConsentQueue$Member;", .instanceMethod yX5_copyFrom, .initialized RX5, .selects RX5 yX5_copyFrom yX5_copyFrom, .code yX5_copyFrom cX5_copyFrom 2 none, .fieldLink RX5 9 "ConsentQueue$Member" "number" "I", .fieldLink RX5 18 "ConsentQueue$Member" "worth" "I", .fieldLink RX5 21 "ConsentQueue$Member" "told" "I", .fieldLink RX5 24 "ConsentQueue$Member" "service" "I", .fieldLink RX5 27 "ConsentQueue$Member" "money" "I", .fieldLink RX5 15 "ConsentQueue$Member" "offer" "I", .fieldLink RX5 30 "ConsentQueue$Member" "friendAhead" "Z"] ++ wsX40 ++ wsX50)
def wsX3_push_r1 : List Cond := [Cond.fieldLink RX3 18 "ConsentQueue$History" "size" "I", Cond.fieldLink RX3 11 "ConsentQueue$History" "saved" "[LConsentQueue$Line;", Cond.methodLink RX3 22 yX3_dropOldest, Cond.instanceMethod yX3_dropOldest, Cond.selects RX3 yX3_dropOldest yX3_dropOldest, Cond.initialized RX3, Cond.code yX3_dropOldest cX3_dropOldest 3 none, Cond.instanceMethod yX4_copyFrom, Cond.initialized RX4, Cond.selects RX4 yX4_copyFrom yX4_copyFrom, Cond.code yX4_copyFrom cX4_copyFrom 3 none, Cond.fieldLink RX4 26 "ConsentQueue$Line" "count" "I", Cond.fieldLink RX4 22 "ConsentQueue$Line" "split" "I", Cond.fieldLink RX4 29 "ConsentQueue$Line" "swaps" "I", Cond.fieldLink RX4 32 "ConsentQueue$Line" "paid" "I", Cond.fieldLink RX4 35 "ConsentQueue$Line" "served" "I", Cond.fieldLink RX4 38 "ConsentQueue$Line" "joined" "I", Cond.methodLink RX4 41 yX4_memberAt, Cond.instanceMethod yX4_memberAt, Cond.selects RX4 yX4_memberAt yX4_memberAt, Cond.code yX4_memberAt cX4_memberAt 3 (some (.object "ConsentQueue$Member")), Cond.fieldLink RX4 11 "ConsentQueue$Line" "members" "[LConsentQueue$Member;", Cond.fieldLink RX4 18 "ConsentQueue$Line" "nobody" "LConsentQueue$Member;", Cond.instanceMethod yX5_copyFrom]
def wsX3_push_r2 : List Cond := [Cond.initialized RX5, Cond.selects RX5 yX5_copyFrom yX5_copyFrom, Cond.code yX5_copyFrom cX5_copyFrom 2 none, Cond.fieldLink RX5 9 "ConsentQueue$Member" "number" "I", Cond.fieldLink RX5 18 "ConsentQueue$Member" "worth" "I", Cond.fieldLink RX5 21 "ConsentQueue$Member" "told" "I", Cond.fieldLink RX5 24 "ConsentQueue$Member" "service" "I", Cond.fieldLink RX5 27 "ConsentQueue$Member" "money" "I", Cond.fieldLink RX5 15 "ConsentQueue$Member" "offer" "I", Cond.fieldLink RX5 30 "ConsentQueue$Member" "friendAhead" "Z"]
def wsX3_push : List Cond := .code yX3_push cX3_push 3 none :: ((wsX3_push_r1 ++ wsX3_push_r2) ++ wsX30 ++ wsX40 ++ wsX50)
def wsX3_popInto_r1 : List Cond := [Cond.fieldLink RX3 18 "ConsentQueue$History" "size" "I", Cond.fieldLink RX3 11 "ConsentQueue$History" "saved" "[LConsentQueue$Line;", Cond.instanceMethod yX4_copyFrom, Cond.initialized RX4, Cond.selects RX4 yX4_copyFrom yX4_copyFrom, Cond.code yX4_copyFrom cX4_copyFrom 3 none, Cond.fieldLink RX4 26 "ConsentQueue$Line" "count" "I", Cond.fieldLink RX4 22 "ConsentQueue$Line" "split" "I", Cond.fieldLink RX4 29 "ConsentQueue$Line" "swaps" "I", Cond.fieldLink RX4 32 "ConsentQueue$Line" "paid" "I", Cond.fieldLink RX4 35 "ConsentQueue$Line" "served" "I", Cond.fieldLink RX4 38 "ConsentQueue$Line" "joined" "I", Cond.methodLink RX4 41 yX4_memberAt, Cond.instanceMethod yX4_memberAt, Cond.selects RX4 yX4_memberAt yX4_memberAt, Cond.code yX4_memberAt cX4_memberAt 3 (some (.object "ConsentQueue$Member")), Cond.fieldLink RX4 11 "ConsentQueue$Line" "members" "[LConsentQueue$Member;", Cond.fieldLink RX4 18 "ConsentQueue$Line" "nobody" "LConsentQueue$Member;", Cond.instanceMethod yX5_copyFrom, Cond.initialized RX5, Cond.selects RX5 yX5_copyFrom yX5_copyFrom, Cond.code yX5_copyFrom cX5_copyFrom 2 none, Cond.fieldLink RX5 9 "ConsentQueue$Member" "number" "I", Cond.fieldLink RX5 18 "ConsentQueue$Member" "worth" "I"]
def wsX3_popInto_r2 : List Cond := [Cond.fieldLink RX5 21 "ConsentQueue$Member" "told" "I", Cond.fieldLink RX5 24 "ConsentQueue$Member" "service" "I", Cond.fieldLink RX5 27 "ConsentQueue$Member" "money" "I", Cond.fieldLink RX5 15 "ConsentQueue$Member" "offer" "I", Cond.fieldLink RX5 30 "ConsentQueue$Member" "friendAhead" "Z"]
def wsX3_popInto : List Cond := .code yX3_popInto cX3_popInto 3 none :: ((wsX3_popInto_r1 ++ wsX3_popInto_r2) ++ wsX30 ++ wsX40 ++ wsX50)
def wsX4_placeOf : List Cond := .code yX4_placeOf cX4_placeOf 3 (some .int) :: ([.fieldLink RX4 26 "ConsentQueue$Line" "count" "I", .methodLink RX4 41 yX4_memberAt, .instanceMethod yX4_memberAt, .selects RX4 yX4_memberAt yX4_memberAt, .initialized RX4, .code yX4_memberAt cX4_memberAt 3 (some (.object "ConsentQueue$Member")), .fieldLink RX4 11 "ConsentQueue$Line" "members" "[LConsentQueue$Member;", .fieldLink RX4 18 "ConsentQueue$Line" "nobody" "LConsentQueue$Member;"] ++ wsX40 ++ wsX50)
def wsX5_loseOneAhead : List Cond := .code yX5_loseOneAhead cX5_loseOneAhead 1 none :: ([.fieldLink RX5 15 "ConsentQueue$Member" "offer" "I", .fieldLink RX5 30 "ConsentQueue$Member" "friendAhead" "Z"] ++ wsX50)
def wsX5_begin : List Cond := .code yX5_begin cX5_begin 4 none :: ([.fieldLink RX5 9 "ConsentQueue$Member" "number" "I", .fieldLink RX5 18 "ConsentQueue$Member" "worth" "I", .fieldLink RX5 21 "ConsentQueue$Member" "told" "I", .fieldLink RX5 24 "ConsentQueue$Member" "service" "I", .fieldLink RX5 27 "ConsentQueue$Member" "money" "I", .methodLink RX5 34 yX5_loseOneAhead, .instanceMethod yX5_loseOneAhead, .selects RX5 yX5_loseOneAhead yX5_loseOneAhead, .initialized RX5, .code yX5_loseOneAhead cX5_loseOneAhead 1 none, .fieldLink RX5 15 "ConsentQueue$Member" "offer" "I", .fieldLink RX5 30 "ConsentQueue$Member" "friendAhead" "Z"] ++ wsX50)
def wsX4_insert : List Cond := .code yX4_insert cX4_insert 6 (some .int) :: ([.fieldLink RX4 26 "ConsentQueue$Line" "count" "I", .fieldLink RX4 11 "ConsentQueue$Line" "members" "[LConsentQueue$Member;", .fieldLink RX4 38 "ConsentQueue$Line" "joined" "I", .instanceMethod yX5_begin, .initialized RX5, .selects RX5 yX5_begin yX5_begin, .code yX5_begin cX5_begin 4 none, .fieldLink RX5 9 "ConsentQueue$Member" "number" "I", .fieldLink RX5 18 "ConsentQueue$Member" "worth" "I", .fieldLink RX5 21 "ConsentQueue$Member" "told" "I", .fieldLink RX5 24 "ConsentQueue$Member" "service" "I", .fieldLink RX5 27 "ConsentQueue$Member" "money" "I", .methodLink RX5 34 yX5_loseOneAhead, .instanceMethod yX5_loseOneAhead, .selects RX5 yX5_loseOneAhead yX5_loseOneAhead, .code yX5_loseOneAhead cX5_loseOneAhead 1 none, .fieldLink RX5 15 "ConsentQueue$Member" "offer" "I", .fieldLink RX5 30 "ConsentQueue$Member" "friendAhead" "Z", .methodLink RX4 41 yX4_memberAt, .instanceMethod yX4_memberAt, .selects RX4 yX4_memberAt yX4_memberAt, .initialized RX4, .code yX4_memberAt cX4_memberAt 3 (some (.object "ConsentQueue$Member")), .fieldLink RX4 18 "ConsentQueue$Line" "nobody" "LConsentQueue$Member;"] ++ wsX40 ++ wsX50)
def wsX4_removeAt : List Cond := .code yX4_removeAt cX4_removeAt 4 none :: ([.fieldLink RX4 26 "ConsentQueue$Line" "count" "I", .fieldLink RX4 11 "ConsentQueue$Line" "members" "[LConsentQueue$Member;", .methodLink RX4 41 yX4_memberAt, .instanceMethod yX4_memberAt, .selects RX4 yX4_memberAt yX4_memberAt, .initialized RX4, .code yX4_memberAt cX4_memberAt 3 (some (.object "ConsentQueue$Member")), .fieldLink RX4 18 "ConsentQueue$Line" "nobody" "LConsentQueue$Member;", .instanceMethod yX5_loseOneAhead, .initialized RX5, .selects RX5 yX5_loseOneAhead yX5_loseOneAhead, .code yX5_loseOneAhead cX5_loseOneAhead 1 none, .fieldLink RX5 15 "ConsentQueue$Member" "offer" "I", .fieldLink RX5 30 "ConsentQueue$Member" "friendAhead" "Z"] ++ wsX40 ++ wsX50)
def wsX4_removeMember : List Cond := .code yX4_removeMember cX4_removeMember 3 (some .int) :: ([.methodLink RX4 59 yX4_placeOf, .instanceMethod yX4_placeOf, .selects RX4 yX4_placeOf yX4_placeOf, .initialized RX4, .code yX4_placeOf cX4_placeOf 3 (some .int), .fieldLink RX4 26 "ConsentQueue$Line" "count" "I", .methodLink RX4 41 yX4_memberAt, .instanceMethod yX4_memberAt, .selects RX4 yX4_memberAt yX4_memberAt, .code yX4_memberAt cX4_memberAt 3 (some (.object "ConsentQueue$Member")), .fieldLink RX4 11 "ConsentQueue$Line" "members" "[LConsentQueue$Member;", .fieldLink RX4 18 "ConsentQueue$Line" "nobody" "LConsentQueue$Member;", .methodLink RX4 63 yX4_removeAt, .instanceMethod yX4_removeAt, .selects RX4 yX4_removeAt yX4_removeAt, .code yX4_removeAt cX4_removeAt 4 none, .instanceMethod yX5_loseOneAhead, .initialized RX5, .selects RX5 yX5_loseOneAhead yX5_loseOneAhead, .code yX5_loseOneAhead cX5_loseOneAhead 1 none, .fieldLink RX5 15 "ConsentQueue$Member" "offer" "I", .fieldLink RX5 30 "ConsentQueue$Member" "friendAhead" "Z"] ++ wsX40 ++ wsX50)
def wsX4_serveFirst : List Cond := .code yX4_serveFirst cX4_serveFirst 2 (some .int) :: ([.fieldLink RX4 35 "ConsentQueue$Line" "served" "I", .methodLink RX4 41 yX4_memberAt, .instanceMethod yX4_memberAt, .selects RX4 yX4_memberAt yX4_memberAt, .initialized RX4, .code yX4_memberAt cX4_memberAt 3 (some (.object "ConsentQueue$Member")), .fieldLink RX4 26 "ConsentQueue$Line" "count" "I", .fieldLink RX4 11 "ConsentQueue$Line" "members" "[LConsentQueue$Member;", .fieldLink RX4 18 "ConsentQueue$Line" "nobody" "LConsentQueue$Member;", .methodLink RX4 63 yX4_removeAt, .instanceMethod yX4_removeAt, .selects RX4 yX4_removeAt yX4_removeAt, .code yX4_removeAt cX4_removeAt 4 none, .instanceMethod yX5_loseOneAhead, .initialized RX5, .selects RX5 yX5_loseOneAhead yX5_loseOneAhead, .code yX5_loseOneAhead cX5_loseOneAhead 1 none, .fieldLink RX5 15 "ConsentQueue$Member" "offer" "I", .fieldLink RX5 30 "ConsentQueue$Member" "friendAhead" "Z"] ++ wsX50 ++ wsX40)
def wsX4_tell : List Cond := .code yX4_tell cX4_tell 5 (some .int) :: ([.methodLink RX4 41 yX4_memberAt, .instanceMethod yX4_memberAt, .selects RX4 yX4_memberAt yX4_memberAt, .initialized RX4, .code yX4_memberAt cX4_memberAt 3 (some (.object "ConsentQueue$Member")), .fieldLink RX4 26 "ConsentQueue$Line" "count" "I", .fieldLink RX4 11 "ConsentQueue$Line" "members" "[LConsentQueue$Member;", .fieldLink RX4 18 "ConsentQueue$Line" "nobody" "LConsentQueue$Member;"] ++ wsX50 ++ wsX40)
def wsX4_tellTruth : List Cond := .code yX4_tellTruth cX4_tellTruth 2 none :: ([.fieldLink RX4 26 "ConsentQueue$Line" "count" "I", .methodLink RX4 41 yX4_memberAt, .instanceMethod yX4_memberAt, .selects RX4 yX4_memberAt yX4_memberAt, .initialized RX4, .code yX4_memberAt cX4_memberAt 3 (some (.object "ConsentQueue$Member")), .fieldLink RX4 11 "ConsentQueue$Line" "members" "[LConsentQueue$Member;", .fieldLink RX4 18 "ConsentQueue$Line" "nobody" "LConsentQueue$Member;"] ++ wsX40 ++ wsX50)
def wsX4_makeOffer : List Cond := .code yX4_makeOffer cX4_makeOffer 5 (some .int) :: ([.methodLink RX4 41 yX4_memberAt, .instanceMethod yX4_memberAt, .selects RX4 yX4_memberAt yX4_memberAt, .initialized RX4, .code yX4_memberAt cX4_memberAt 3 (some (.object "ConsentQueue$Member")), .fieldLink RX4 26 "ConsentQueue$Line" "count" "I", .fieldLink RX4 11 "ConsentQueue$Line" "members" "[LConsentQueue$Member;", .fieldLink RX4 18 "ConsentQueue$Line" "nobody" "LConsentQueue$Member;"] ++ wsX50 ++ wsX40)
def wsX4_areFriends : List Cond := .code yX4_areFriends cX4_areFriends 2 (some .boolean) :: ([.methodLink RX4 41 yX4_memberAt, .instanceMethod yX4_memberAt, .selects RX4 yX4_memberAt yX4_memberAt, .initialized RX4, .code yX4_memberAt cX4_memberAt 3 (some (.object "ConsentQueue$Member")), .fieldLink RX4 26 "ConsentQueue$Line" "count" "I", .fieldLink RX4 11 "ConsentQueue$Line" "members" "[LConsentQueue$Member;", .fieldLink RX4 18 "ConsentQueue$Line" "nobody" "LConsentQueue$Member;"] ++ wsX50 ++ wsX40)
def wsX4_friendPairs : List Cond := .code yX4_friendPairs cX4_friendPairs 3 (some .int) :: ([.fieldLink RX4 26 "ConsentQueue$Line" "count" "I", .methodLink RX4 116 yX4_areFriends, .instanceMethod yX4_areFriends, .selects RX4 yX4_areFriends yX4_areFriends, .initialized RX4, .code yX4_areFriends cX4_areFriends 2 (some .boolean), .methodLink RX4 41 yX4_memberAt, .instanceMethod yX4_memberAt, .selects RX4 yX4_memberAt yX4_memberAt, .code yX4_memberAt cX4_memberAt 3 (some (.object "ConsentQueue$Member")), .fieldLink RX4 11 "ConsentQueue$Line" "members" "[LConsentQueue$Member;", .fieldLink RX4 18 "ConsentQueue$Line" "nobody" "LConsentQueue$Member;"] ++ wsX40 ++ wsX50)
def wsX4_setFriends : List Cond := .code yX4_setFriends cX4_setFriends 3 (some .int) :: ([.methodLink RX4 41 yX4_memberAt, .instanceMethod yX4_memberAt, .selects RX4 yX4_memberAt yX4_memberAt, .initialized RX4, .code yX4_memberAt cX4_memberAt 3 (some (.object "ConsentQueue$Member")), .fieldLink RX4 26 "ConsentQueue$Line" "count" "I", .fieldLink RX4 11 "ConsentQueue$Line" "members" "[LConsentQueue$Member;", .fieldLink RX4 18 "ConsentQueue$Line" "nobody" "LConsentQueue$Member;", .methodLink RX4 80 yX4_friendPairs, .instanceMethod yX4_friendPairs, .selects RX4 yX4_friendPairs yX4_friendPairs, .code yX4_friendPairs cX4_friendPairs 3 (some .int), .methodLink RX4 116 yX4_areFriends, .instanceMethod yX4_areFriends, .selects RX4 yX4_areFriends yX4_areFriends, .code yX4_areFriends cX4_areFriends 2 (some .boolean)] ++ wsX50 ++ wsX40)
def wsX4_swapAt : List Cond := .code yX4_swapAt cX4_swapAt 5 (some .int) :: ([.fieldLink RX4 26 "ConsentQueue$Line" "count" "I", .fieldLink RX4 11 "ConsentQueue$Line" "members" "[LConsentQueue$Member;", .fieldLink RX4 29 "ConsentQueue$Line" "swaps" "I", .fieldLink RX4 32 "ConsentQueue$Line" "paid" "I", .methodLink RX4 41 yX4_memberAt, .instanceMethod yX4_memberAt, .selects RX4 yX4_memberAt yX4_memberAt, .initialized RX4, .code yX4_memberAt cX4_memberAt 3 (some (.object "ConsentQueue$Member")), .fieldLink RX4 18 "ConsentQueue$Line" "nobody" "LConsentQueue$Member;", .instanceMethod yX5_loseOneAhead, .initialized RX5, .selects RX5 yX5_loseOneAhead yX5_loseOneAhead, .code yX5_loseOneAhead cX5_loseOneAhead 1 none, .fieldLink RX5 15 "ConsentQueue$Member" "offer" "I", .fieldLink RX5 30 "ConsentQueue$Member" "friendAhead" "Z"] ++ wsX40 ++ wsX50)
def wsX4_swapAsOffered : List Cond := .code yX4_swapAsOffered cX4_swapAsOffered 2 (some .int) :: ([.methodLink RX4 41 yX4_memberAt, .instanceMethod yX4_memberAt, .selects RX4 yX4_memberAt yX4_memberAt, .initialized RX4, .code yX4_memberAt cX4_memberAt 3 (some (.object "ConsentQueue$Member")), .fieldLink RX4 26 "ConsentQueue$Line" "count" "I", .fieldLink RX4 11 "ConsentQueue$Line" "members" "[LConsentQueue$Member;", .fieldLink RX4 18 "ConsentQueue$Line" "nobody" "LConsentQueue$Member;", .methodLink RX4 84 yX4_swapAt, .instanceMethod yX4_swapAt, .selects RX4 yX4_swapAt yX4_swapAt, .code yX4_swapAt cX4_swapAt 5 (some .int), .fieldLink RX4 29 "ConsentQueue$Line" "swaps" "I", .fieldLink RX4 32 "ConsentQueue$Line" "paid" "I", .instanceMethod yX5_loseOneAhead, .initialized RX5, .selects RX5 yX5_loseOneAhead yX5_loseOneAhead, .code yX5_loseOneAhead cX5_loseOneAhead 1 none, .fieldLink RX5 15 "ConsentQueue$Member" "offer" "I", .fieldLink RX5 30 "ConsentQueue$Member" "friendAhead" "Z"] ++ wsX50 ++ wsX40)
def wsX4_fairPrice : List Cond := .code yX4_fairPrice cX4_fairPrice 6 (some .int) :: ([.fieldLink RX4 22 "ConsentQueue$Line" "split" "I", .methodLink RX4 41 yX4_memberAt, .instanceMethod yX4_memberAt, .selects RX4 yX4_memberAt yX4_memberAt, .initialized RX4, .code yX4_memberAt cX4_memberAt 3 (some (.object "ConsentQueue$Member")), .fieldLink RX4 26 "ConsentQueue$Line" "count" "I", .fieldLink RX4 11 "ConsentQueue$Line" "members" "[LConsentQueue$Member;", .fieldLink RX4 18 "ConsentQueue$Line" "nobody" "LConsentQueue$Member;"] ++ wsX50 ++ wsX40)
def wsX4_swapFairly_r1 : List Cond := [Cond.methodLink RX4 88 yX4_fairPrice, Cond.instanceMethod yX4_fairPrice, Cond.selects RX4 yX4_fairPrice yX4_fairPrice, Cond.initialized RX4, Cond.code yX4_fairPrice cX4_fairPrice 6 (some .int), Cond.fieldLink RX4 22 "ConsentQueue$Line" "split" "I", Cond.methodLink RX4 41 yX4_memberAt, Cond.instanceMethod yX4_memberAt, Cond.selects RX4 yX4_memberAt yX4_memberAt, Cond.code yX4_memberAt cX4_memberAt 3 (some (.object "ConsentQueue$Member")), Cond.fieldLink RX4 26 "ConsentQueue$Line" "count" "I", Cond.fieldLink RX4 11 "ConsentQueue$Line" "members" "[LConsentQueue$Member;", Cond.fieldLink RX4 18 "ConsentQueue$Line" "nobody" "LConsentQueue$Member;", Cond.methodLink RX4 84 yX4_swapAt, Cond.instanceMethod yX4_swapAt, Cond.selects RX4 yX4_swapAt yX4_swapAt, Cond.code yX4_swapAt cX4_swapAt 5 (some .int), Cond.fieldLink RX4 29 "ConsentQueue$Line" "swaps" "I", Cond.fieldLink RX4 32 "ConsentQueue$Line" "paid" "I", Cond.instanceMethod yX5_loseOneAhead, Cond.initialized RX5, Cond.selects RX5 yX5_loseOneAhead yX5_loseOneAhead, Cond.code yX5_loseOneAhead cX5_loseOneAhead 1 none, Cond.fieldLink RX5 15 "ConsentQueue$Member" "offer" "I"]
def wsX4_swapFairly_r2 : List Cond := [Cond.fieldLink RX5 30 "ConsentQueue$Member" "friendAhead" "Z"]
def wsX4_swapFairly : List Cond := .code yX4_swapFairly cX4_swapFairly 2 (some .int) :: ((wsX4_swapFairly_r1 ++ wsX4_swapFairly_r2) ++ wsX50 ++ wsX40)
def wsX4_surplus : List Cond := .code yX4_surplus cX4_surplus 4 (some .int) :: ([.methodLink RX4 41 yX4_memberAt, .instanceMethod yX4_memberAt, .selects RX4 yX4_memberAt yX4_memberAt, .initialized RX4, .code yX4_memberAt cX4_memberAt 3 (some (.object "ConsentQueue$Member")), .fieldLink RX4 26 "ConsentQueue$Line" "count" "I", .fieldLink RX4 11 "ConsentQueue$Line" "members" "[LConsentQueue$Member;", .fieldLink RX4 18 "ConsentQueue$Line" "nobody" "LConsentQueue$Member;"] ++ wsX50 ++ wsX40)
def wsX4_isHeldByFriends : List Cond := .code yX4_isHeldByFriends cX4_isHeldByFriends 2 (some .boolean) :: ([.methodLink RX4 41 yX4_memberAt, .instanceMethod yX4_memberAt, .selects RX4 yX4_memberAt yX4_memberAt, .initialized RX4, .code yX4_memberAt cX4_memberAt 3 (some (.object "ConsentQueue$Member")), .fieldLink RX4 26 "ConsentQueue$Line" "count" "I", .fieldLink RX4 11 "ConsentQueue$Line" "members" "[LConsentQueue$Member;", .fieldLink RX4 18 "ConsentQueue$Line" "nobody" "LConsentQueue$Member;"] ++ wsX50 ++ wsX40)
def wsX4_keenestPair : List Cond := .code yX4_keenestPair cX4_keenestPair 5 (some .int) :: ([.fieldLink RX4 26 "ConsentQueue$Line" "count" "I", .methodLink RX4 100 yX4_surplus, .instanceMethod yX4_surplus, .selects RX4 yX4_surplus yX4_surplus, .initialized RX4, .code yX4_surplus cX4_surplus 4 (some .int), .methodLink RX4 41 yX4_memberAt, .instanceMethod yX4_memberAt, .selects RX4 yX4_memberAt yX4_memberAt, .code yX4_memberAt cX4_memberAt 3 (some (.object "ConsentQueue$Member")), .fieldLink RX4 11 "ConsentQueue$Line" "members" "[LConsentQueue$Member;", .fieldLink RX4 18 "ConsentQueue$Line" "nobody" "LConsentQueue$Member;", .methodLink RX4 103 yX4_isHeldByFriends, .instanceMethod yX4_isHeldByFriends, .selects RX4 yX4_isHeldByFriends yX4_isHeldByFriends, .code yX4_isHeldByFriends cX4_isHeldByFriends 2 (some .boolean)] ++ wsX40 ++ wsX50)
def wsX4_settleDown_r1 : List Cond := [Cond.methodLink RX4 94 yX4_keenestPair, Cond.instanceMethod yX4_keenestPair, Cond.selects RX4 yX4_keenestPair yX4_keenestPair, Cond.initialized RX4, Cond.code yX4_keenestPair cX4_keenestPair 5 (some .int), Cond.fieldLink RX4 26 "ConsentQueue$Line" "count" "I", Cond.methodLink RX4 100 yX4_surplus, Cond.instanceMethod yX4_surplus, Cond.selects RX4 yX4_surplus yX4_surplus, Cond.code yX4_surplus cX4_surplus 4 (some .int), Cond.methodLink RX4 41 yX4_memberAt, Cond.instanceMethod yX4_memberAt, Cond.selects RX4 yX4_memberAt yX4_memberAt, Cond.code yX4_memberAt cX4_memberAt 3 (some (.object "ConsentQueue$Member")), Cond.fieldLink RX4 11 "ConsentQueue$Line" "members" "[LConsentQueue$Member;", Cond.fieldLink RX4 18 "ConsentQueue$Line" "nobody" "LConsentQueue$Member;", Cond.methodLink RX4 103 yX4_isHeldByFriends, Cond.instanceMethod yX4_isHeldByFriends, Cond.selects RX4 yX4_isHeldByFriends yX4_isHeldByFriends, Cond.code yX4_isHeldByFriends cX4_isHeldByFriends 2 (some .boolean), Cond.methodLink RX4 97 yX4_swapFairly, Cond.instanceMethod yX4_swapFairly, Cond.selects RX4 yX4_swapFairly yX4_swapFairly, Cond.code yX4_swapFairly cX4_swapFairly 2 (some .int)]
def wsX4_settleDown_r2 : List Cond := [Cond.methodLink RX4 88 yX4_fairPrice, Cond.instanceMethod yX4_fairPrice, Cond.selects RX4 yX4_fairPrice yX4_fairPrice, Cond.code yX4_fairPrice cX4_fairPrice 6 (some .int), Cond.fieldLink RX4 22 "ConsentQueue$Line" "split" "I", Cond.methodLink RX4 84 yX4_swapAt, Cond.instanceMethod yX4_swapAt, Cond.selects RX4 yX4_swapAt yX4_swapAt, Cond.code yX4_swapAt cX4_swapAt 5 (some .int), Cond.fieldLink RX4 29 "ConsentQueue$Line" "swaps" "I", Cond.fieldLink RX4 32 "ConsentQueue$Line" "paid" "I", Cond.instanceMethod yX5_loseOneAhead, Cond.initialized RX5, Cond.selects RX5 yX5_loseOneAhead yX5_loseOneAhead, Cond.code yX5_loseOneAhead cX5_loseOneAhead 1 none, Cond.fieldLink RX5 15 "ConsentQueue$Member" "offer" "I", Cond.fieldLink RX5 30 "ConsentQueue$Member" "friendAhead" "Z"]
def wsX4_settleDown : List Cond := .code yX4_settleDown cX4_settleDown 3 (some .int) :: ((wsX4_settleDown_r1 ++ wsX4_settleDown_r2) ++ wsX40 ++ wsX50)
def wsX4_gain : List Cond := .code yX4_gain cX4_gain 2 (some .int) :: ([.methodLink RX4 41 yX4_memberAt, .instanceMethod yX4_memberAt, .selects RX4 yX4_memberAt yX4_memberAt, .initialized RX4, .code yX4_memberAt cX4_memberAt 3 (some (.object "ConsentQueue$Member")), .fieldLink RX4 26 "ConsentQueue$Line" "count" "I", .fieldLink RX4 11 "ConsentQueue$Line" "members" "[LConsentQueue$Member;", .fieldLink RX4 18 "ConsentQueue$Line" "nobody" "LConsentQueue$Member;"] ++ wsX50 ++ wsX40)
def wsX4_loss : List Cond := .code yX4_loss cX4_loss 2 (some .int) :: ([.methodLink RX4 41 yX4_memberAt, .instanceMethod yX4_memberAt, .selects RX4 yX4_memberAt yX4_memberAt, .initialized RX4, .code yX4_memberAt cX4_memberAt 3 (some (.object "ConsentQueue$Member")), .fieldLink RX4 26 "ConsentQueue$Line" "count" "I", .fieldLink RX4 11 "ConsentQueue$Line" "members" "[LConsentQueue$Member;", .fieldLink RX4 18 "ConsentQueue$Line" "nobody" "LConsentQueue$Member;"] ++ wsX50 ++ wsX40)
def wsX4_hindrance : List Cond := .code yX4_hindrance cX4_hindrance 2 (some .int) :: ([.methodLink RX4 116 yX4_areFriends, .instanceMethod yX4_areFriends, .selects RX4 yX4_areFriends yX4_areFriends, .initialized RX4, .code yX4_areFriends cX4_areFriends 2 (some .boolean), .methodLink RX4 41 yX4_memberAt, .instanceMethod yX4_memberAt, .selects RX4 yX4_memberAt yX4_memberAt, .code yX4_memberAt cX4_memberAt 3 (some (.object "ConsentQueue$Member")), .fieldLink RX4 26 "ConsentQueue$Line" "count" "I", .fieldLink RX4 11 "ConsentQueue$Line" "members" "[LConsentQueue$Member;", .fieldLink RX4 18 "ConsentQueue$Line" "nobody" "LConsentQueue$Member;", .methodLink RX4 100 yX4_surplus, .instanceMethod yX4_surplus, .selects RX4 yX4_surplus yX4_surplus, .code yX4_surplus cX4_surplus 4 (some .int)] ++ wsX50 ++ wsX40)
def wsX4_wouldSwap : List Cond := .code yX4_wouldSwap cX4_wouldSwap 2 (some .boolean) :: ([.methodLink RX4 110 yX4_hindrance, .instanceMethod yX4_hindrance, .selects RX4 yX4_hindrance yX4_hindrance, .initialized RX4, .code yX4_hindrance cX4_hindrance 2 (some .int), .methodLink RX4 116 yX4_areFriends, .instanceMethod yX4_areFriends, .selects RX4 yX4_areFriends yX4_areFriends, .code yX4_areFriends cX4_areFriends 2 (some .boolean), .methodLink RX4 41 yX4_memberAt, .instanceMethod yX4_memberAt, .selects RX4 yX4_memberAt yX4_memberAt, .code yX4_memberAt cX4_memberAt 3 (some (.object "ConsentQueue$Member")), .fieldLink RX4 26 "ConsentQueue$Line" "count" "I", .fieldLink RX4 11 "ConsentQueue$Line" "members" "[LConsentQueue$Member;", .fieldLink RX4 18 "ConsentQueue$Line" "nobody" "LConsentQueue$Member;", .methodLink RX4 100 yX4_surplus, .instanceMethod yX4_surplus, .selects RX4 yX4_surplus yX4_surplus, .code yX4_surplus cX4_surplus 4 (some .int)] ++ wsX50 ++ wsX40)
def wsX4_wouldTake : List Cond := .code yX4_wouldTake cX4_wouldTake 3 (some .boolean) :: ([.methodLink RX4 41 yX4_memberAt, .instanceMethod yX4_memberAt, .selects RX4 yX4_memberAt yX4_memberAt, .initialized RX4, .code yX4_memberAt cX4_memberAt 3 (some (.object "ConsentQueue$Member")), .fieldLink RX4 26 "ConsentQueue$Line" "count" "I", .fieldLink RX4 11 "ConsentQueue$Line" "members" "[LConsentQueue$Member;", .fieldLink RX4 18 "ConsentQueue$Line" "nobody" "LConsentQueue$Member;", .methodLink RX4 113 yX4_loss, .instanceMethod yX4_loss, .selects RX4 yX4_loss yX4_loss, .code yX4_loss cX4_loss 2 (some .int), .methodLink RX4 103 yX4_isHeldByFriends, .instanceMethod yX4_isHeldByFriends, .selects RX4 yX4_isHeldByFriends yX4_isHeldByFriends, .code yX4_isHeldByFriends cX4_isHeldByFriends 2 (some .boolean)] ++ wsX50 ++ wsX40)
def wsX4_pairValue_r1 : List Cond := [Cond.methodLink RX4 119 yX4_gain, Cond.instanceMethod yX4_gain, Cond.selects RX4 yX4_gain yX4_gain, Cond.initialized RX4, Cond.code yX4_gain cX4_gain 2 (some .int), Cond.methodLink RX4 41 yX4_memberAt, Cond.instanceMethod yX4_memberAt, Cond.selects RX4 yX4_memberAt yX4_memberAt, Cond.code yX4_memberAt cX4_memberAt 3 (some (.object "ConsentQueue$Member")), Cond.fieldLink RX4 26 "ConsentQueue$Line" "count" "I", Cond.fieldLink RX4 11 "ConsentQueue$Line" "members" "[LConsentQueue$Member;", Cond.fieldLink RX4 18 "ConsentQueue$Line" "nobody" "LConsentQueue$Member;", Cond.methodLink RX4 113 yX4_loss, Cond.instanceMethod yX4_loss, Cond.selects RX4 yX4_loss yX4_loss, Cond.code yX4_loss cX4_loss 2 (some .int), Cond.methodLink RX4 100 yX4_surplus, Cond.instanceMethod yX4_surplus, Cond.selects RX4 yX4_surplus yX4_surplus, Cond.code yX4_surplus cX4_surplus 4 (some .int), Cond.methodLink RX4 88 yX4_fairPrice, Cond.instanceMethod yX4_fairPrice, Cond.selects RX4 yX4_fairPrice yX4_fairPrice, Cond.code yX4_fairPrice cX4_fairPrice 6 (some .int)]
def wsX4_pairValue_r2 : List Cond := [Cond.fieldLink RX4 22 "ConsentQueue$Line" "split" "I", Cond.methodLink RX4 116 yX4_areFriends, Cond.instanceMethod yX4_areFriends, Cond.selects RX4 yX4_areFriends yX4_areFriends, Cond.code yX4_areFriends cX4_areFriends 2 (some .boolean)]
def wsX4_pairValue : List Cond := .code yX4_pairValue cX4_pairValue 3 (some .int) :: ((wsX4_pairValue_r1 ++ wsX4_pairValue_r2) ++ wsX50 ++ wsX40)
def wsX4_waitAt : List Cond := .code yX4_waitAt cX4_waitAt 4 (some .int) :: ([.fieldLink RX4 26 "ConsentQueue$Line" "count" "I", .methodLink RX4 41 yX4_memberAt, .instanceMethod yX4_memberAt, .selects RX4 yX4_memberAt yX4_memberAt, .initialized RX4, .code yX4_memberAt cX4_memberAt 3 (some (.object "ConsentQueue$Member")), .fieldLink RX4 11 "ConsentQueue$Line" "members" "[LConsentQueue$Member;", .fieldLink RX4 18 "ConsentQueue$Line" "nobody" "LConsentQueue$Member;"] ++ wsX40 ++ wsX50)
def wsX4_costAt : List Cond := .code yX4_costAt cX4_costAt 2 (some .int) :: ([.methodLink RX4 41 yX4_memberAt, .instanceMethod yX4_memberAt, .selects RX4 yX4_memberAt yX4_memberAt, .initialized RX4, .code yX4_memberAt cX4_memberAt 3 (some (.object "ConsentQueue$Member")), .fieldLink RX4 26 "ConsentQueue$Line" "count" "I", .fieldLink RX4 11 "ConsentQueue$Line" "members" "[LConsentQueue$Member;", .fieldLink RX4 18 "ConsentQueue$Line" "nobody" "LConsentQueue$Member;", .methodLink RX4 122 yX4_waitAt, .instanceMethod yX4_waitAt, .selects RX4 yX4_waitAt yX4_waitAt, .code yX4_waitAt cX4_waitAt 4 (some .int)] ++ wsX50 ++ wsX40)
def wsX4_friendsAt : List Cond := .code yX4_friendsAt cX4_friendsAt 2 (some .int) :: ([.methodLink RX4 116 yX4_areFriends, .instanceMethod yX4_areFriends, .selects RX4 yX4_areFriends yX4_areFriends, .initialized RX4, .code yX4_areFriends cX4_areFriends 2 (some .boolean), .methodLink RX4 41 yX4_memberAt, .instanceMethod yX4_memberAt, .selects RX4 yX4_memberAt yX4_memberAt, .code yX4_memberAt cX4_memberAt 3 (some (.object "ConsentQueue$Member")), .fieldLink RX4 26 "ConsentQueue$Line" "count" "I", .fieldLink RX4 11 "ConsentQueue$Line" "members" "[LConsentQueue$Member;", .fieldLink RX4 18 "ConsentQueue$Line" "nobody" "LConsentQueue$Member;"] ++ wsX50 ++ wsX40)
def wsX4_memberValue : List Cond := .code yX4_memberValue cX4_memberValue 4 (some .int) :: ([.methodLink RX4 41 yX4_memberAt, .instanceMethod yX4_memberAt, .selects RX4 yX4_memberAt yX4_memberAt, .initialized RX4, .code yX4_memberAt cX4_memberAt 3 (some (.object "ConsentQueue$Member")), .fieldLink RX4 26 "ConsentQueue$Line" "count" "I", .fieldLink RX4 11 "ConsentQueue$Line" "members" "[LConsentQueue$Member;", .fieldLink RX4 18 "ConsentQueue$Line" "nobody" "LConsentQueue$Member;", .methodLink RX4 122 yX4_waitAt, .instanceMethod yX4_waitAt, .selects RX4 yX4_waitAt yX4_waitAt, .code yX4_waitAt cX4_waitAt 4 (some .int), .methodLink RX4 125 yX4_costAt, .instanceMethod yX4_costAt, .selects RX4 yX4_costAt yX4_costAt, .code yX4_costAt cX4_costAt 2 (some .int), .methodLink RX4 128 yX4_friendsAt, .instanceMethod yX4_friendsAt, .selects RX4 yX4_friendsAt yX4_friendsAt, .code yX4_friendsAt cX4_friendsAt 2 (some .int), .methodLink RX4 116 yX4_areFriends, .instanceMethod yX4_areFriends, .selects RX4 yX4_areFriends yX4_areFriends, .code yX4_areFriends cX4_areFriends 2 (some .boolean)] ++ wsX50 ++ wsX40)
def wsX4_cost : List Cond := .code yX4_cost cX4_cost 3 (some .int) :: ([.fieldLink RX4 26 "ConsentQueue$Line" "count" "I", .methodLink RX4 125 yX4_costAt, .instanceMethod yX4_costAt, .selects RX4 yX4_costAt yX4_costAt, .initialized RX4, .code yX4_costAt cX4_costAt 2 (some .int), .methodLink RX4 41 yX4_memberAt, .instanceMethod yX4_memberAt, .selects RX4 yX4_memberAt yX4_memberAt, .code yX4_memberAt cX4_memberAt 3 (some (.object "ConsentQueue$Member")), .fieldLink RX4 11 "ConsentQueue$Line" "members" "[LConsentQueue$Member;", .fieldLink RX4 18 "ConsentQueue$Line" "nobody" "LConsentQueue$Member;", .methodLink RX4 122 yX4_waitAt, .instanceMethod yX4_waitAt, .selects RX4 yX4_waitAt yX4_waitAt, .code yX4_waitAt cX4_waitAt 4 (some .int)] ++ wsX40 ++ wsX50)
def wsX4_toldCost : List Cond := .code yX4_toldCost cX4_toldCost 3 (some .int) :: ([.fieldLink RX4 26 "ConsentQueue$Line" "count" "I", .methodLink RX4 41 yX4_memberAt, .instanceMethod yX4_memberAt, .selects RX4 yX4_memberAt yX4_memberAt, .initialized RX4, .code yX4_memberAt cX4_memberAt 3 (some (.object "ConsentQueue$Member")), .fieldLink RX4 11 "ConsentQueue$Line" "members" "[LConsentQueue$Member;", .fieldLink RX4 18 "ConsentQueue$Line" "nobody" "LConsentQueue$Member;", .methodLink RX4 122 yX4_waitAt, .instanceMethod yX4_waitAt, .selects RX4 yX4_waitAt yX4_waitAt, .code yX4_waitAt cX4_waitAt 4 (some .int)] ++ wsX40 ++ wsX50)
def wsX4_waitingCost : List Cond := .code yX4_waitingCost cX4_waitingCost 3 (some .int) :: ([.methodLink RX4 41 yX4_memberAt, .instanceMethod yX4_memberAt, .selects RX4 yX4_memberAt yX4_memberAt, .initialized RX4, .code yX4_memberAt cX4_memberAt 3 (some (.object "ConsentQueue$Member")), .fieldLink RX4 26 "ConsentQueue$Line" "count" "I", .fieldLink RX4 11 "ConsentQueue$Line" "members" "[LConsentQueue$Member;", .fieldLink RX4 18 "ConsentQueue$Line" "nobody" "LConsentQueue$Member;"] ++ wsX50 ++ wsX40)
def wsX4_bestCost : List Cond := .code yX4_bestCost cX4_bestCost 4 (some .int) :: ([.fieldLink RX4 26 "ConsentQueue$Line" "count" "I", .methodLink RX4 134 Lib.Math.min.name, .static Lib.Math.min.name, .initialized "java/lang/Math", .code Lib.Math.min.name Lib.Math.min.code 2 (some .int), .methodLink RX4 131 yX4_waitingCost, .instanceMethod yX4_waitingCost, .selects RX4 yX4_waitingCost yX4_waitingCost, .initialized RX4, .code yX4_waitingCost cX4_waitingCost 3 (some .int), .methodLink RX4 41 yX4_memberAt, .instanceMethod yX4_memberAt, .selects RX4 yX4_memberAt yX4_memberAt, .code yX4_memberAt cX4_memberAt 3 (some (.object "ConsentQueue$Member")), .fieldLink RX4 11 "ConsentQueue$Line" "members" "[LConsentQueue$Member;", .fieldLink RX4 18 "ConsentQueue$Line" "nobody" "LConsentQueue$Member;"] ++ wsX40 ++ wsX50)
def wsX4_wrongPairs : List Cond := .code yX4_wrongPairs cX4_wrongPairs 4 (some .int) :: ([.fieldLink RX4 26 "ConsentQueue$Line" "count" "I", .methodLink RX4 131 yX4_waitingCost, .instanceMethod yX4_waitingCost, .selects RX4 yX4_waitingCost yX4_waitingCost, .initialized RX4, .code yX4_waitingCost cX4_waitingCost 3 (some .int), .methodLink RX4 41 yX4_memberAt, .instanceMethod yX4_memberAt, .selects RX4 yX4_memberAt yX4_memberAt, .code yX4_memberAt cX4_memberAt 3 (some (.object "ConsentQueue$Member")), .fieldLink RX4 11 "ConsentQueue$Line" "members" "[LConsentQueue$Member;", .fieldLink RX4 18 "ConsentQueue$Line" "nobody" "LConsentQueue$Member;"] ++ wsX40 ++ wsX50)
def wsX4_willingPairs : List Cond := .code yX4_willingPairs cX4_willingPairs 3 (some .int) :: ([.fieldLink RX4 26 "ConsentQueue$Line" "count" "I", .methodLink RX4 110 yX4_hindrance, .instanceMethod yX4_hindrance, .selects RX4 yX4_hindrance yX4_hindrance, .initialized RX4, .code yX4_hindrance cX4_hindrance 2 (some .int), .methodLink RX4 116 yX4_areFriends, .instanceMethod yX4_areFriends, .selects RX4 yX4_areFriends yX4_areFriends, .code yX4_areFriends cX4_areFriends 2 (some .boolean), .methodLink RX4 41 yX4_memberAt, .instanceMethod yX4_memberAt, .selects RX4 yX4_memberAt yX4_memberAt, .code yX4_memberAt cX4_memberAt 3 (some (.object "ConsentQueue$Member")), .fieldLink RX4 11 "ConsentQueue$Line" "members" "[LConsentQueue$Member;", .fieldLink RX4 18 "ConsentQueue$Line" "nobody" "LConsentQueue$Member;", .methodLink RX4 100 yX4_surplus, .instanceMethod yX4_surplus, .selects RX4 yX4_surplus yX4_surplus, .code yX4_surplus cX4_surplus 4 (some .int)] ++ wsX40 ++ wsX50)
def wsX4_offers : List Cond := .code yX4_offers cX4_offers 3 (some .int) :: ([.fieldLink RX4 26 "ConsentQueue$Line" "count" "I", .methodLink RX4 41 yX4_memberAt, .instanceMethod yX4_memberAt, .selects RX4 yX4_memberAt yX4_memberAt, .initialized RX4, .code yX4_memberAt cX4_memberAt 3 (some (.object "ConsentQueue$Member")), .fieldLink RX4 11 "ConsentQueue$Line" "members" "[LConsentQueue$Member;", .fieldLink RX4 18 "ConsentQueue$Line" "nobody" "LConsentQueue$Member;"] ++ wsX40 ++ wsX50)
def wsX4_welcomeOffers : List Cond := .code yX4_welcomeOffers cX4_welcomeOffers 3 (some .int) :: ([.fieldLink RX4 26 "ConsentQueue$Line" "count" "I", .methodLink RX4 139 yX4_wouldTake, .instanceMethod yX4_wouldTake, .selects RX4 yX4_wouldTake yX4_wouldTake, .initialized RX4, .code yX4_wouldTake cX4_wouldTake 3 (some .boolean), .methodLink RX4 41 yX4_memberAt, .instanceMethod yX4_memberAt, .selects RX4 yX4_memberAt yX4_memberAt, .code yX4_memberAt cX4_memberAt 3 (some (.object "ConsentQueue$Member")), .fieldLink RX4 11 "ConsentQueue$Line" "members" "[LConsentQueue$Member;", .fieldLink RX4 18 "ConsentQueue$Line" "nobody" "LConsentQueue$Member;", .methodLink RX4 113 yX4_loss, .instanceMethod yX4_loss, .selects RX4 yX4_loss yX4_loss, .code yX4_loss cX4_loss 2 (some .int), .methodLink RX4 103 yX4_isHeldByFriends, .instanceMethod yX4_isHeldByFriends, .selects RX4 yX4_isHeldByFriends yX4_isHeldByFriends, .code yX4_isHeldByFriends cX4_isHeldByFriends 2 (some .boolean)] ++ wsX40 ++ wsX50)
def wsX4_wholeValue_r1 : List Cond := [Cond.fieldLink RX4 26 "ConsentQueue$Line" "count" "I", Cond.fieldLink RX4 22 "ConsentQueue$Line" "split" "I", Cond.fieldLink RX4 29 "ConsentQueue$Line" "swaps" "I", Cond.fieldLink RX4 32 "ConsentQueue$Line" "paid" "I", Cond.fieldLink RX4 35 "ConsentQueue$Line" "served" "I", Cond.fieldLink RX4 38 "ConsentQueue$Line" "joined" "I", Cond.methodLink RX4 142 yX4_cost, Cond.instanceMethod yX4_cost, Cond.selects RX4 yX4_cost yX4_cost, Cond.initialized RX4, Cond.code yX4_cost cX4_cost 3 (some .int), Cond.methodLink RX4 125 yX4_costAt, Cond.instanceMethod yX4_costAt, Cond.selects RX4 yX4_costAt yX4_costAt, Cond.code yX4_costAt cX4_costAt 2 (some .int), Cond.methodLink RX4 41 yX4_memberAt, Cond.instanceMethod yX4_memberAt, Cond.selects RX4 yX4_memberAt yX4_memberAt, Cond.code yX4_memberAt cX4_memberAt 3 (some (.object "ConsentQueue$Member")), Cond.fieldLink RX4 11 "ConsentQueue$Line" "members" "[LConsentQueue$Member;", Cond.fieldLink RX4 18 "ConsentQueue$Line" "nobody" "LConsentQueue$Member;", Cond.methodLink RX4 122 yX4_waitAt, Cond.instanceMethod yX4_waitAt, Cond.selects RX4 yX4_waitAt yX4_waitAt]
def wsX4_wholeValue_r2 : List Cond := [Cond.code yX4_waitAt cX4_waitAt 4 (some .int), Cond.methodLink RX4 145 yX4_toldCost, Cond.instanceMethod yX4_toldCost, Cond.selects RX4 yX4_toldCost yX4_toldCost, Cond.code yX4_toldCost cX4_toldCost 3 (some .int), Cond.methodLink RX4 148 yX4_bestCost, Cond.instanceMethod yX4_bestCost, Cond.selects RX4 yX4_bestCost yX4_bestCost, Cond.code yX4_bestCost cX4_bestCost 4 (some .int), Cond.methodLink RX4 134 Lib.Math.min.name, Cond.static Lib.Math.min.name, Cond.initialized "java/lang/Math", Cond.code Lib.Math.min.name Lib.Math.min.code 2 (some .int), Cond.methodLink RX4 131 yX4_waitingCost, Cond.instanceMethod yX4_waitingCost, Cond.selects RX4 yX4_waitingCost yX4_waitingCost, Cond.code yX4_waitingCost cX4_waitingCost 3 (some .int), Cond.methodLink RX4 151 yX4_willingPairs, Cond.instanceMethod yX4_willingPairs, Cond.selects RX4 yX4_willingPairs yX4_willingPairs, Cond.code yX4_willingPairs cX4_willingPairs 3 (some .int), Cond.methodLink RX4 110 yX4_hindrance, Cond.instanceMethod yX4_hindrance, Cond.selects RX4 yX4_hindrance yX4_hindrance]
def wsX4_wholeValue_r3 : List Cond := [Cond.code yX4_hindrance cX4_hindrance 2 (some .int), Cond.methodLink RX4 116 yX4_areFriends, Cond.instanceMethod yX4_areFriends, Cond.selects RX4 yX4_areFriends yX4_areFriends, Cond.code yX4_areFriends cX4_areFriends 2 (some .boolean), Cond.methodLink RX4 100 yX4_surplus, Cond.instanceMethod yX4_surplus, Cond.selects RX4 yX4_surplus yX4_surplus, Cond.code yX4_surplus cX4_surplus 4 (some .int), Cond.methodLink RX4 154 yX4_offers, Cond.instanceMethod yX4_offers, Cond.selects RX4 yX4_offers yX4_offers, Cond.code yX4_offers cX4_offers 3 (some .int), Cond.methodLink RX4 157 yX4_welcomeOffers, Cond.instanceMethod yX4_welcomeOffers, Cond.selects RX4 yX4_welcomeOffers yX4_welcomeOffers, Cond.code yX4_welcomeOffers cX4_welcomeOffers 3 (some .int), Cond.methodLink RX4 139 yX4_wouldTake, Cond.instanceMethod yX4_wouldTake, Cond.selects RX4 yX4_wouldTake yX4_wouldTake, Cond.code yX4_wouldTake cX4_wouldTake 3 (some .boolean), Cond.methodLink RX4 113 yX4_loss, Cond.instanceMethod yX4_loss, Cond.selects RX4 yX4_loss yX4_loss]
def wsX4_wholeValue_r4 : List Cond := [Cond.code yX4_loss cX4_loss 2 (some .int), Cond.methodLink RX4 103 yX4_isHeldByFriends, Cond.instanceMethod yX4_isHeldByFriends, Cond.selects RX4 yX4_isHeldByFriends yX4_isHeldByFriends, Cond.code yX4_isHeldByFriends cX4_isHeldByFriends 2 (some .boolean), Cond.methodLink RX4 80 yX4_friendPairs, Cond.instanceMethod yX4_friendPairs, Cond.selects RX4 yX4_friendPairs yX4_friendPairs, Cond.code yX4_friendPairs cX4_friendPairs 3 (some .int)]
def wsX4_wholeValue : List Cond := .code yX4_wholeValue cX4_wholeValue 2 (some .int) :: ((wsX4_wholeValue_r1 ++ (wsX4_wholeValue_r2 ++ (wsX4_wholeValue_r3 ++ wsX4_wholeValue_r4))) ++ wsX40 ++ wsX50)
def wsX6_init_r1 : List Cond := [Cond.methodLink RX6 1 objectInit, Cond.instanceMethod objectInit, Cond.code objectInit ⟨#[0xb1]⟩ 1 none, Cond.classLink RX6 7 RX4, Cond.instantiable RX4 8, Cond.initialized RX4, Cond.fieldLink RX6 10 "ConsentQueue" "line" "LConsentQueue$Line;", Cond.fieldLink RX6 16 "ConsentQueue" "trial" "LConsentQueue$Line;", Cond.classLink RX6 19 RX3, Cond.instantiable RX3 2, Cond.initialized RX3, Cond.fieldLink RX6 22 "ConsentQueue" "history" "LConsentQueue$History;", Cond.classLink RX6 26 RX2, Cond.instantiable RX2 6, Cond.initialized RX2, Cond.fieldLink RX6 29 "ConsentQueue" "text" "LConsentQueue$CommandText;", Cond.instanceMethod yX4_init, Cond.code yX4_init cX4_init 2 none, Cond.methodLink RX4 3 objectInit, Cond.classLink RX4 9 RX5, Cond.fieldLink RX4 11 "ConsentQueue$Line" "members" "[LConsentQueue$Member;", Cond.instantiable RX5 7, Cond.initialized RX5, Cond.fieldLink RX4 18 "ConsentQueue$Line" "nobody" "LConsentQueue$Member;"]
def wsX6_init_r2 : List Cond := [Cond.fieldLink RX4 22 "ConsentQueue$Line" "split" "I", Cond.instanceMethod yX5_init, Cond.code yX5_init cX5_init 1 none, Cond.methodLink RX5 3 objectInit, Cond.fieldLink RX5 9 "ConsentQueue$Member" "number" "I", Cond.fieldLink RX5 15 "ConsentQueue$Member" "offer" "I", Cond.instanceMethod yX3_init, Cond.code yX3_init cX3_init 2 none, Cond.methodLink RX3 3 objectInit, Cond.classLink RX3 9 RX4, Cond.fieldLink RX3 11 "ConsentQueue$History" "saved" "[LConsentQueue$Line;", Cond.instanceMethod yX2_init, Cond.code yX2_init cX2_init 1 none, Cond.methodLink RX2 3 objectInit, Cond.arrayClass .byte, Cond.fieldLink RX2 9 "ConsentQueue$CommandText" "bytes" "[B", Cond.fieldLink RX2 15 "ConsentQueue$CommandText" "fault" "I", Cond.arrayClass .int, Cond.fieldLink RX2 19 "ConsentQueue$CommandText" "numbers" "[I"]
def wsX6_init : List Cond := .code yX6_init cX6_init 1 none :: ((wsX6_init_r1 ++ wsX6_init_r2) ++ wsX40 ++ wsX60 ++ wsX30 ++ wsX20 ++ wsX50)
def wsJx29ce0_ordinal_8abf5 : List Cond := .code yJx29ce0_ordinal_8abf5 cJx29ce0_ordinal_8abf5 1 (some .int) :: ([.fieldLink RJx29ce0 7 "java/lang/Enum" "ordinal" "I"])
def wsX6_isWithin : List Cond := .code yX6_isWithin cX6_isWithin 3 (some .boolean) :: ([])
def wsX6_joinFault : List Cond := .code yX6_joinFault cX6_joinFault 5 (some .int) :: ([.fieldLink RX6 10 "ConsentQueue" "line" "LConsentQueue$Line;", .methodLink RX6 55 yX6_isWithin, .static yX6_isWithin, .initialized RX6, .code yX6_isWithin cX6_isWithin 3 (some .boolean), .instanceMethod yX4_memberAt, .initialized RX4, .selects RX4 yX4_memberAt yX4_memberAt, .code yX4_memberAt cX4_memberAt 3 (some (.object "ConsentQueue$Member")), .fieldLink RX4 26 "ConsentQueue$Line" "count" "I", .fieldLink RX4 11 "ConsentQueue$Line" "members" "[LConsentQueue$Member;", .fieldLink RX4 18 "ConsentQueue$Line" "nobody" "LConsentQueue$Member;"] ++ wsX60 ++ wsX40 ++ wsX50)
def wsX6_memberFault : List Cond := .code yX6_memberFault cX6_memberFault 3 (some .int) :: ([])
def wsX6_offerFault : List Cond := .code yX6_offerFault cX6_offerFault 4 (some .int) :: ([.methodLink RX6 55 yX6_isWithin, .static yX6_isWithin, .initialized RX6, .code yX6_isWithin cX6_isWithin 3 (some .boolean), .methodLink RX6 93 yX6_memberFault, .instanceMethod yX6_memberFault, .selects RX6 yX6_memberFault yX6_memberFault, .code yX6_memberFault cX6_memberFault 3 (some .int)])
def wsX6_takeFault_r1 : List Cond := [Cond.fieldLink RX6 10 "ConsentQueue" "line" "LConsentQueue$Line;", Cond.methodLink RX6 93 yX6_memberFault, Cond.instanceMethod yX6_memberFault, Cond.selects RX6 yX6_memberFault yX6_memberFault, Cond.initialized RX6, Cond.code yX6_memberFault cX6_memberFault 3 (some .int), Cond.instanceMethod yX4_wouldTake, Cond.initialized RX4, Cond.selects RX4 yX4_wouldTake yX4_wouldTake, Cond.code yX4_wouldTake cX4_wouldTake 3 (some .boolean), Cond.methodLink RX4 41 yX4_memberAt, Cond.instanceMethod yX4_memberAt, Cond.selects RX4 yX4_memberAt yX4_memberAt, Cond.code yX4_memberAt cX4_memberAt 3 (some (.object "ConsentQueue$Member")), Cond.fieldLink RX4 26 "ConsentQueue$Line" "count" "I", Cond.fieldLink RX4 11 "ConsentQueue$Line" "members" "[LConsentQueue$Member;", Cond.fieldLink RX4 18 "ConsentQueue$Line" "nobody" "LConsentQueue$Member;", Cond.methodLink RX4 113 yX4_loss, Cond.instanceMethod yX4_loss, Cond.selects RX4 yX4_loss yX4_loss, Cond.code yX4_loss cX4_loss 2 (some .int), Cond.methodLink RX4 103 yX4_isHeldByFriends, Cond.instanceMethod yX4_isHeldByFriends, Cond.selects RX4 yX4_isHeldByFriends yX4_isHeldByFriends]
def wsX6_takeFault_r2 : List Cond := [Cond.code yX4_isHeldByFriends cX4_isHeldByFriends 2 (some .boolean)]
def wsX6_takeFault : List Cond := .code yX6_takeFault cX6_takeFault 3 (some .int) :: ((wsX6_takeFault_r1 ++ wsX6_takeFault_r2) ++ wsX60 ++ wsX50 ++ wsX40)
def wsX6_pairFault : List Cond := .code yX6_pairFault cX6_pairFault 4 (some .int) :: ([.fieldLink RX6 10 "ConsentQueue" "line" "LConsentQueue$Line;", .methodLink RX6 55 yX6_isWithin, .static yX6_isWithin, .initialized RX6, .code yX6_isWithin cX6_isWithin 3 (some .boolean)] ++ wsX60 ++ wsX40)
def wsX6_faultOf_r1 : List Cond := [Cond.fieldLink RX6 206 "ConsentQueue$1" "$SwitchMap$ConsentQueue$Command" "[I", Cond.fieldLink RX6 10 "ConsentQueue" "line" "LConsentQueue$Line;", Cond.methodLink RX6 212 ⟨"ConsentQueue$Command", "ordinal", "()I"⟩, Cond.sameMethod "ConsentQueue$Command" "java/lang/Enum" "ordinal" "()I", Cond.selects RX1 ⟨"ConsentQueue$Command", "ordinal", "()I"⟩ yJx29ce0_ordinal_8abf5, Cond.instanceMethod yJx29ce0_ordinal_8abf5, Cond.initialized RJx29ce0, Cond.code yJx29ce0_ordinal_8abf5 cJx29ce0_ordinal_8abf5 1 (some .int), Cond.fieldLink RJx29ce0 7 "java/lang/Enum" "ordinal" "I", Cond.methodLink RX6 215 yX6_joinFault, Cond.instanceMethod yX6_joinFault, Cond.selects RX6 yX6_joinFault yX6_joinFault, Cond.initialized RX6, Cond.code yX6_joinFault cX6_joinFault 5 (some .int), Cond.methodLink RX6 55 yX6_isWithin, Cond.static yX6_isWithin, Cond.code yX6_isWithin cX6_isWithin 3 (some .boolean), Cond.instanceMethod yX4_memberAt, Cond.initialized RX4, Cond.selects RX4 yX4_memberAt yX4_memberAt, Cond.code yX4_memberAt cX4_memberAt 3 (some (.object "ConsentQueue$Member")), Cond.fieldLink RX4 26 "ConsentQueue$Line" "count" "I", Cond.fieldLink RX4 11 "ConsentQueue$Line" "members" "[LConsentQueue$Member;", Cond.fieldLink RX4 18 "ConsentQueue$Line" "nobody" "LConsentQueue$Member;"]
def wsX6_faultOf_r2 : List Cond := [Cond.instanceMethod yX4_placeOf, Cond.selects RX4 yX4_placeOf yX4_placeOf, Cond.code yX4_placeOf cX4_placeOf 3 (some .int), Cond.methodLink RX4 41 yX4_memberAt, Cond.methodLink RX6 93 yX6_memberFault, Cond.instanceMethod yX6_memberFault, Cond.selects RX6 yX6_memberFault yX6_memberFault, Cond.code yX6_memberFault cX6_memberFault 3 (some .int), Cond.methodLink RX6 219 yX6_offerFault, Cond.instanceMethod yX6_offerFault, Cond.selects RX6 yX6_offerFault yX6_offerFault, Cond.code yX6_offerFault cX6_offerFault 4 (some .int), Cond.methodLink RX6 222 yX6_takeFault, Cond.instanceMethod yX6_takeFault, Cond.selects RX6 yX6_takeFault yX6_takeFault, Cond.code yX6_takeFault cX6_takeFault 3 (some .int), Cond.instanceMethod yX4_wouldTake, Cond.selects RX4 yX4_wouldTake yX4_wouldTake, Cond.code yX4_wouldTake cX4_wouldTake 3 (some .boolean), Cond.methodLink RX4 113 yX4_loss, Cond.instanceMethod yX4_loss, Cond.selects RX4 yX4_loss yX4_loss, Cond.code yX4_loss cX4_loss 2 (some .int), Cond.methodLink RX4 103 yX4_isHeldByFriends]
def wsX6_faultOf_r3 : List Cond := [Cond.instanceMethod yX4_isHeldByFriends, Cond.selects RX4 yX4_isHeldByFriends yX4_isHeldByFriends, Cond.code yX4_isHeldByFriends cX4_isHeldByFriends 2 (some .boolean), Cond.instanceMethod yX4_wouldSwap, Cond.selects RX4 yX4_wouldSwap yX4_wouldSwap, Cond.code yX4_wouldSwap cX4_wouldSwap 2 (some .boolean), Cond.methodLink RX4 110 yX4_hindrance, Cond.instanceMethod yX4_hindrance, Cond.selects RX4 yX4_hindrance yX4_hindrance, Cond.code yX4_hindrance cX4_hindrance 2 (some .int), Cond.methodLink RX4 116 yX4_areFriends, Cond.instanceMethod yX4_areFriends, Cond.selects RX4 yX4_areFriends yX4_areFriends, Cond.code yX4_areFriends cX4_areFriends 2 (some .boolean), Cond.methodLink RX4 100 yX4_surplus, Cond.instanceMethod yX4_surplus, Cond.selects RX4 yX4_surplus yX4_surplus, Cond.code yX4_surplus cX4_surplus 4 (some .int), Cond.methodLink RX6 110 yX6_pairFault, Cond.instanceMethod yX6_pairFault, Cond.selects RX6 yX6_pairFault yX6_pairFault, Cond.code yX6_pairFault cX6_pairFault 4 (some .int)]
def wsX6_faultOf : List Cond := .code yX6_faultOf cX6_faultOf 5 (some .int) :: ((wsX6_faultOf_r1 ++ (wsX6_faultOf_r2 ++ wsX6_faultOf_r3)) ++ wsX60 ++ wsX40 ++ wsX50)
def wsX6_refuse : List Cond := .code yX6_refuse cX6_refuse 1 none :: ([.classLink RX6 263 "java/lang/IndexOutOfBoundsException", .initialized "java/lang/IndexOutOfBoundsException", .classLink RX6 270 "java/lang/IllegalArgumentException", .initialized "java/lang/IllegalArgumentException", .classLink RX6 275 "java/lang/IllegalStateException", .initialized "java/lang/IllegalStateException"] ++ (vx_atS RX6 267 "java/lang/IndexOutOfBoundsException" ["java/lang/RuntimeException", "java/lang/Exception"]).filter goodWord ++ (vx_atS RX6 274 "java/lang/IllegalArgumentException" ["java/lang/RuntimeException", "java/lang/Exception"]).filter goodWord ++ (vx_atS RX6 279 "java/lang/IllegalStateException" ["java/lang/RuntimeException", "java/lang/Exception"]).filter goodWord)
def wsX6_carryOut_r1 : List Cond := [Cond.fieldLink RX6 206 "ConsentQueue$1" "$SwitchMap$ConsentQueue$Command" "[I", Cond.fieldLink RX6 10 "ConsentQueue" "line" "LConsentQueue$Line;", Cond.methodLink RX6 212 ⟨"ConsentQueue$Command", "ordinal", "()I"⟩, Cond.sameMethod "ConsentQueue$Command" "java/lang/Enum" "ordinal" "()I", Cond.selects RX1 ⟨"ConsentQueue$Command", "ordinal", "()I"⟩ yJx29ce0_ordinal_8abf5, Cond.instanceMethod yJx29ce0_ordinal_8abf5, Cond.initialized RJx29ce0, Cond.code yJx29ce0_ordinal_8abf5 cJx29ce0_ordinal_8abf5 1 (some .int), Cond.fieldLink RJx29ce0 7 "java/lang/Enum" "ordinal" "I", Cond.instanceMethod yX4_insert, Cond.initialized RX4, Cond.selects RX4 yX4_insert yX4_insert, Cond.code yX4_insert cX4_insert 6 (some .int), Cond.fieldLink RX4 26 "ConsentQueue$Line" "count" "I", Cond.fieldLink RX4 11 "ConsentQueue$Line" "members" "[LConsentQueue$Member;", Cond.fieldLink RX4 38 "ConsentQueue$Line" "joined" "I", Cond.instanceMethod yX5_begin, Cond.initialized RX5, Cond.selects RX5 yX5_begin yX5_begin, Cond.code yX5_begin cX5_begin 4 none, Cond.fieldLink RX5 9 "ConsentQueue$Member" "number" "I", Cond.fieldLink RX5 18 "ConsentQueue$Member" "worth" "I", Cond.fieldLink RX5 21 "ConsentQueue$Member" "told" "I", Cond.fieldLink RX5 24 "ConsentQueue$Member" "service" "I"]
def wsX6_carryOut_r2 : List Cond := [Cond.fieldLink RX5 27 "ConsentQueue$Member" "money" "I", Cond.methodLink RX5 34 yX5_loseOneAhead, Cond.instanceMethod yX5_loseOneAhead, Cond.selects RX5 yX5_loseOneAhead yX5_loseOneAhead, Cond.code yX5_loseOneAhead cX5_loseOneAhead 1 none, Cond.fieldLink RX5 15 "ConsentQueue$Member" "offer" "I", Cond.fieldLink RX5 30 "ConsentQueue$Member" "friendAhead" "Z", Cond.methodLink RX4 41 yX4_memberAt, Cond.instanceMethod yX4_memberAt, Cond.selects RX4 yX4_memberAt yX4_memberAt, Cond.code yX4_memberAt cX4_memberAt 3 (some (.object "ConsentQueue$Member")), Cond.fieldLink RX4 18 "ConsentQueue$Line" "nobody" "LConsentQueue$Member;", Cond.instanceMethod yX4_removeMember, Cond.selects RX4 yX4_removeMember yX4_removeMember, Cond.code yX4_removeMember cX4_removeMember 3 (some .int), Cond.methodLink RX4 59 yX4_placeOf, Cond.instanceMethod yX4_placeOf, Cond.selects RX4 yX4_placeOf yX4_placeOf, Cond.code yX4_placeOf cX4_placeOf 3 (some .int), Cond.methodLink RX4 63 yX4_removeAt, Cond.instanceMethod yX4_removeAt, Cond.selects RX4 yX4_removeAt yX4_removeAt, Cond.code yX4_removeAt cX4_removeAt 4 none, Cond.instanceMethod yX4_tell]
def wsX6_carryOut_r3 : List Cond := [Cond.selects RX4 yX4_tell yX4_tell, Cond.code yX4_tell cX4_tell 5 (some .int), Cond.instanceMethod yX4_makeOffer, Cond.selects RX4 yX4_makeOffer yX4_makeOffer, Cond.code yX4_makeOffer cX4_makeOffer 5 (some .int), Cond.instanceMethod yX4_swapAsOffered, Cond.selects RX4 yX4_swapAsOffered yX4_swapAsOffered, Cond.code yX4_swapAsOffered cX4_swapAsOffered 2 (some .int), Cond.methodLink RX4 84 yX4_swapAt, Cond.instanceMethod yX4_swapAt, Cond.selects RX4 yX4_swapAt yX4_swapAt, Cond.code yX4_swapAt cX4_swapAt 5 (some .int), Cond.fieldLink RX4 29 "ConsentQueue$Line" "swaps" "I", Cond.fieldLink RX4 32 "ConsentQueue$Line" "paid" "I", Cond.instanceMethod yX4_swapFairly, Cond.selects RX4 yX4_swapFairly yX4_swapFairly, Cond.code yX4_swapFairly cX4_swapFairly 2 (some .int), Cond.methodLink RX4 88 yX4_fairPrice, Cond.instanceMethod yX4_fairPrice, Cond.selects RX4 yX4_fairPrice yX4_fairPrice, Cond.code yX4_fairPrice cX4_fairPrice 6 (some .int), Cond.fieldLink RX4 22 "ConsentQueue$Line" "split" "I", Cond.instanceMethod yX4_setFriends, Cond.selects RX4 yX4_setFriends yX4_setFriends]
def wsX6_carryOut_r4 : List Cond := [Cond.code yX4_setFriends cX4_setFriends 3 (some .int), Cond.methodLink RX4 80 yX4_friendPairs, Cond.instanceMethod yX4_friendPairs, Cond.selects RX4 yX4_friendPairs yX4_friendPairs, Cond.code yX4_friendPairs cX4_friendPairs 3 (some .int), Cond.methodLink RX4 116 yX4_areFriends, Cond.instanceMethod yX4_areFriends, Cond.selects RX4 yX4_areFriends yX4_areFriends, Cond.code yX4_areFriends cX4_areFriends 2 (some .boolean), Cond.instanceMethod yX4_serveFirst, Cond.selects RX4 yX4_serveFirst yX4_serveFirst, Cond.code yX4_serveFirst cX4_serveFirst 2 (some .int), Cond.fieldLink RX4 35 "ConsentQueue$Line" "served" "I", Cond.instanceMethod yX4_settleDown, Cond.selects RX4 yX4_settleDown yX4_settleDown, Cond.code yX4_settleDown cX4_settleDown 3 (some .int), Cond.methodLink RX4 94 yX4_keenestPair, Cond.instanceMethod yX4_keenestPair, Cond.selects RX4 yX4_keenestPair yX4_keenestPair, Cond.code yX4_keenestPair cX4_keenestPair 5 (some .int), Cond.methodLink RX4 100 yX4_surplus, Cond.instanceMethod yX4_surplus, Cond.selects RX4 yX4_surplus yX4_surplus, Cond.code yX4_surplus cX4_surplus 4 (some .int)]
def wsX6_carryOut_r5 : List Cond := [Cond.methodLink RX4 103 yX4_isHeldByFriends, Cond.instanceMethod yX4_isHeldByFriends, Cond.selects RX4 yX4_isHeldByFriends yX4_isHeldByFriends, Cond.code yX4_isHeldByFriends cX4_isHeldByFriends 2 (some .boolean), Cond.methodLink RX4 97 yX4_swapFairly]
def wsX6_carryOut : List Cond := .code yX6_carryOut cX6_carryOut 5 (some .int) :: ((wsX6_carryOut_r1 ++ (wsX6_carryOut_r2 ++ (wsX6_carryOut_r3 ++ (wsX6_carryOut_r4 ++ wsX6_carryOut_r5)))) ++ wsX60 ++ wsX40 ++ wsX50)
def wsX6_perform_r1 : List Cond := [Cond.fieldLink RX6 22 "ConsentQueue" "history" "LConsentQueue$History;", Cond.fieldLink RX6 10 "ConsentQueue" "line" "LConsentQueue$Line;", Cond.methodLink RX6 198 yX6_faultOf, Cond.instanceMethod yX6_faultOf, Cond.selects RX6 yX6_faultOf yX6_faultOf, Cond.initialized RX6, Cond.code yX6_faultOf cX6_faultOf 5 (some .int), Cond.fieldLink RX6 206 "ConsentQueue$1" "$SwitchMap$ConsentQueue$Command" "[I", Cond.methodLink RX6 212 ⟨"ConsentQueue$Command", "ordinal", "()I"⟩, Cond.sameMethod "ConsentQueue$Command" "java/lang/Enum" "ordinal" "()I", Cond.selects RX1 ⟨"ConsentQueue$Command", "ordinal", "()I"⟩ yJx29ce0_ordinal_8abf5, Cond.instanceMethod yJx29ce0_ordinal_8abf5, Cond.initialized RJx29ce0, Cond.code yJx29ce0_ordinal_8abf5 cJx29ce0_ordinal_8abf5 1 (some .int), Cond.fieldLink RJx29ce0 7 "java/lang/Enum" "ordinal" "I", Cond.methodLink RX6 215 yX6_joinFault, Cond.instanceMethod yX6_joinFault, Cond.selects RX6 yX6_joinFault yX6_joinFault, Cond.code yX6_joinFault cX6_joinFault 5 (some .int), Cond.methodLink RX6 55 yX6_isWithin, Cond.static yX6_isWithin, Cond.code yX6_isWithin cX6_isWithin 3 (some .boolean), Cond.instanceMethod yX4_memberAt, Cond.initialized RX4]
def wsX6_perform_r2 : List Cond := [Cond.selects RX4 yX4_memberAt yX4_memberAt, Cond.code yX4_memberAt cX4_memberAt 3 (some (.object "ConsentQueue$Member")), Cond.fieldLink RX4 26 "ConsentQueue$Line" "count" "I", Cond.fieldLink RX4 11 "ConsentQueue$Line" "members" "[LConsentQueue$Member;", Cond.fieldLink RX4 18 "ConsentQueue$Line" "nobody" "LConsentQueue$Member;", Cond.instanceMethod yX4_placeOf, Cond.selects RX4 yX4_placeOf yX4_placeOf, Cond.code yX4_placeOf cX4_placeOf 3 (some .int), Cond.methodLink RX4 41 yX4_memberAt, Cond.methodLink RX6 93 yX6_memberFault, Cond.instanceMethod yX6_memberFault, Cond.selects RX6 yX6_memberFault yX6_memberFault, Cond.code yX6_memberFault cX6_memberFault 3 (some .int), Cond.methodLink RX6 219 yX6_offerFault, Cond.instanceMethod yX6_offerFault, Cond.selects RX6 yX6_offerFault yX6_offerFault, Cond.code yX6_offerFault cX6_offerFault 4 (some .int), Cond.methodLink RX6 222 yX6_takeFault, Cond.instanceMethod yX6_takeFault, Cond.selects RX6 yX6_takeFault yX6_takeFault, Cond.code yX6_takeFault cX6_takeFault 3 (some .int), Cond.instanceMethod yX4_wouldTake, Cond.selects RX4 yX4_wouldTake yX4_wouldTake, Cond.code yX4_wouldTake cX4_wouldTake 3 (some .boolean)]
def wsX6_perform_r3 : List Cond := [Cond.methodLink RX4 113 yX4_loss, Cond.instanceMethod yX4_loss, Cond.selects RX4 yX4_loss yX4_loss, Cond.code yX4_loss cX4_loss 2 (some .int), Cond.methodLink RX4 103 yX4_isHeldByFriends, Cond.instanceMethod yX4_isHeldByFriends, Cond.selects RX4 yX4_isHeldByFriends yX4_isHeldByFriends, Cond.code yX4_isHeldByFriends cX4_isHeldByFriends 2 (some .boolean), Cond.instanceMethod yX4_wouldSwap, Cond.selects RX4 yX4_wouldSwap yX4_wouldSwap, Cond.code yX4_wouldSwap cX4_wouldSwap 2 (some .boolean), Cond.methodLink RX4 110 yX4_hindrance, Cond.instanceMethod yX4_hindrance, Cond.selects RX4 yX4_hindrance yX4_hindrance, Cond.code yX4_hindrance cX4_hindrance 2 (some .int), Cond.methodLink RX4 116 yX4_areFriends, Cond.instanceMethod yX4_areFriends, Cond.selects RX4 yX4_areFriends yX4_areFriends, Cond.code yX4_areFriends cX4_areFriends 2 (some .boolean), Cond.methodLink RX4 100 yX4_surplus, Cond.instanceMethod yX4_surplus, Cond.selects RX4 yX4_surplus yX4_surplus, Cond.code yX4_surplus cX4_surplus 4 (some .int), Cond.methodLink RX6 110 yX6_pairFault]
def wsX6_perform_r4 : List Cond := [Cond.instanceMethod yX6_pairFault, Cond.selects RX6 yX6_pairFault yX6_pairFault, Cond.code yX6_pairFault cX6_pairFault 4 (some .int), Cond.methodLink RX6 59 yX6_refuse, Cond.static yX6_refuse, Cond.code yX6_refuse cX6_refuse 1 none, Cond.classLink RX6 263 "java/lang/IndexOutOfBoundsException", Cond.initialized "java/lang/IndexOutOfBoundsException", Cond.classLink RX6 270 "java/lang/IllegalArgumentException", Cond.initialized "java/lang/IllegalArgumentException", Cond.classLink RX6 275 "java/lang/IllegalStateException", Cond.initialized "java/lang/IllegalStateException", Cond.instanceMethod yX3_push, Cond.initialized RX3, Cond.selects RX3 yX3_push yX3_push, Cond.code yX3_push cX3_push 3 none, Cond.fieldLink RX3 18 "ConsentQueue$History" "size" "I", Cond.fieldLink RX3 11 "ConsentQueue$History" "saved" "[LConsentQueue$Line;", Cond.methodLink RX3 22 yX3_dropOldest, Cond.instanceMethod yX3_dropOldest, Cond.selects RX3 yX3_dropOldest yX3_dropOldest, Cond.code yX3_dropOldest cX3_dropOldest 3 none, Cond.instanceMethod yX4_copyFrom, Cond.selects RX4 yX4_copyFrom yX4_copyFrom]
def wsX6_perform_r5 : List Cond := [Cond.code yX4_copyFrom cX4_copyFrom 3 none, Cond.fieldLink RX4 22 "ConsentQueue$Line" "split" "I", Cond.fieldLink RX4 29 "ConsentQueue$Line" "swaps" "I", Cond.fieldLink RX4 32 "ConsentQueue$Line" "paid" "I", Cond.fieldLink RX4 35 "ConsentQueue$Line" "served" "I", Cond.fieldLink RX4 38 "ConsentQueue$Line" "joined" "I", Cond.instanceMethod yX5_copyFrom, Cond.initialized RX5, Cond.selects RX5 yX5_copyFrom yX5_copyFrom, Cond.code yX5_copyFrom cX5_copyFrom 2 none, Cond.fieldLink RX5 9 "ConsentQueue$Member" "number" "I", Cond.fieldLink RX5 18 "ConsentQueue$Member" "worth" "I", Cond.fieldLink RX5 21 "ConsentQueue$Member" "told" "I", Cond.fieldLink RX5 24 "ConsentQueue$Member" "service" "I", Cond.fieldLink RX5 27 "ConsentQueue$Member" "money" "I", Cond.fieldLink RX5 15 "ConsentQueue$Member" "offer" "I", Cond.fieldLink RX5 30 "ConsentQueue$Member" "friendAhead" "Z", Cond.methodLink RX6 201 yX6_carryOut, Cond.instanceMethod yX6_carryOut, Cond.selects RX6 yX6_carryOut yX6_carryOut, Cond.code yX6_carryOut cX6_carryOut 5 (some .int), Cond.instanceMethod yX4_insert, Cond.selects RX4 yX4_insert yX4_insert, Cond.code yX4_insert cX4_insert 6 (some .int)]
def wsX6_perform_r6 : List Cond := [Cond.instanceMethod yX5_begin, Cond.selects RX5 yX5_begin yX5_begin, Cond.code yX5_begin cX5_begin 4 none, Cond.methodLink RX5 34 yX5_loseOneAhead, Cond.instanceMethod yX5_loseOneAhead, Cond.selects RX5 yX5_loseOneAhead yX5_loseOneAhead, Cond.code yX5_loseOneAhead cX5_loseOneAhead 1 none, Cond.instanceMethod yX4_removeMember, Cond.selects RX4 yX4_removeMember yX4_removeMember, Cond.code yX4_removeMember cX4_removeMember 3 (some .int), Cond.methodLink RX4 59 yX4_placeOf, Cond.methodLink RX4 63 yX4_removeAt, Cond.instanceMethod yX4_removeAt, Cond.selects RX4 yX4_removeAt yX4_removeAt, Cond.code yX4_removeAt cX4_removeAt 4 none, Cond.instanceMethod yX4_tell, Cond.selects RX4 yX4_tell yX4_tell, Cond.code yX4_tell cX4_tell 5 (some .int), Cond.instanceMethod yX4_makeOffer, Cond.selects RX4 yX4_makeOffer yX4_makeOffer, Cond.code yX4_makeOffer cX4_makeOffer 5 (some .int), Cond.instanceMethod yX4_swapAsOffered, Cond.selects RX4 yX4_swapAsOffered yX4_swapAsOffered, Cond.code yX4_swapAsOffered cX4_swapAsOffered 2 (some .int)]
def wsX6_perform_r7 : List Cond := [Cond.methodLink RX4 84 yX4_swapAt, Cond.instanceMethod yX4_swapAt, Cond.selects RX4 yX4_swapAt yX4_swapAt, Cond.code yX4_swapAt cX4_swapAt 5 (some .int), Cond.instanceMethod yX4_swapFairly, Cond.selects RX4 yX4_swapFairly yX4_swapFairly, Cond.code yX4_swapFairly cX4_swapFairly 2 (some .int), Cond.methodLink RX4 88 yX4_fairPrice, Cond.instanceMethod yX4_fairPrice, Cond.selects RX4 yX4_fairPrice yX4_fairPrice, Cond.code yX4_fairPrice cX4_fairPrice 6 (some .int), Cond.instanceMethod yX4_setFriends, Cond.selects RX4 yX4_setFriends yX4_setFriends, Cond.code yX4_setFriends cX4_setFriends 3 (some .int), Cond.methodLink RX4 80 yX4_friendPairs, Cond.instanceMethod yX4_friendPairs, Cond.selects RX4 yX4_friendPairs yX4_friendPairs, Cond.code yX4_friendPairs cX4_friendPairs 3 (some .int), Cond.instanceMethod yX4_serveFirst, Cond.selects RX4 yX4_serveFirst yX4_serveFirst, Cond.code yX4_serveFirst cX4_serveFirst 2 (some .int), Cond.instanceMethod yX4_settleDown, Cond.selects RX4 yX4_settleDown yX4_settleDown, Cond.code yX4_settleDown cX4_settleDown 3 (some .int)]
def wsX6_perform_r8 : List Cond := [Cond.methodLink RX4 94 yX4_keenestPair, Cond.instanceMethod yX4_keenestPair, Cond.selects RX4 yX4_keenestPair yX4_keenestPair, Cond.code yX4_keenestPair cX4_keenestPair 5 (some .int), Cond.methodLink RX4 97 yX4_swapFairly]
def wsX6_perform : List Cond := .code yX6_perform cX6_perform 5 (some .int) :: ((wsX6_perform_r1 ++ (wsX6_perform_r2 ++ (wsX6_perform_r3 ++ (wsX6_perform_r4 ++ (wsX6_perform_r5 ++ (wsX6_perform_r6 ++ (wsX6_perform_r7 ++ wsX6_perform_r8))))))) ++ wsX60 ++ wsX40 ++ wsX50 ++ wsX30 ++ (vx_atS RX6 267 "java/lang/IndexOutOfBoundsException" ["java/lang/RuntimeException", "java/lang/Exception"]).filter goodWord ++ (vx_atS RX6 274 "java/lang/IllegalArgumentException" ["java/lang/RuntimeException", "java/lang/Exception"]).filter goodWord ++ (vx_atS RX6 279 "java/lang/IllegalStateException" ["java/lang/RuntimeException", "java/lang/Exception"]).filter goodWord)
def wsX6_join_r1 : List Cond := [Cond.fieldLink RX6 33 "ConsentQueue$Command" "JOIN" "LConsentQueue$Command;", Cond.methodLink RX6 39 yX6_perform, Cond.instanceMethod yX6_perform, Cond.selects RX6 yX6_perform yX6_perform, Cond.initialized RX6, Cond.code yX6_perform cX6_perform 5 (some .int), Cond.fieldLink RX6 22 "ConsentQueue" "history" "LConsentQueue$History;", Cond.fieldLink RX6 10 "ConsentQueue" "line" "LConsentQueue$Line;", Cond.methodLink RX6 198 yX6_faultOf, Cond.instanceMethod yX6_faultOf, Cond.selects RX6 yX6_faultOf yX6_faultOf, Cond.code yX6_faultOf cX6_faultOf 5 (some .int), Cond.fieldLink RX6 206 "ConsentQueue$1" "$SwitchMap$ConsentQueue$Command" "[I", Cond.methodLink RX6 212 ⟨"ConsentQueue$Command", "ordinal", "()I"⟩, Cond.sameMethod "ConsentQueue$Command" "java/lang/Enum" "ordinal" "()I", Cond.selects RX1 ⟨"ConsentQueue$Command", "ordinal", "()I"⟩ yJx29ce0_ordinal_8abf5, Cond.instanceMethod yJx29ce0_ordinal_8abf5, Cond.initialized RJx29ce0, Cond.code yJx29ce0_ordinal_8abf5 cJx29ce0_ordinal_8abf5 1 (some .int), Cond.fieldLink RJx29ce0 7 "java/lang/Enum" "ordinal" "I", Cond.methodLink RX6 215 yX6_joinFault, Cond.instanceMethod yX6_joinFault, Cond.selects RX6 yX6_joinFault yX6_joinFault, Cond.code yX6_joinFault cX6_joinFault 5 (some .int)]
def wsX6_join_r2 : List Cond := [Cond.methodLink RX6 55 yX6_isWithin, Cond.static yX6_isWithin, Cond.code yX6_isWithin cX6_isWithin 3 (some .boolean), Cond.instanceMethod yX4_memberAt, Cond.initialized RX4, Cond.selects RX4 yX4_memberAt yX4_memberAt, Cond.code yX4_memberAt cX4_memberAt 3 (some (.object "ConsentQueue$Member")), Cond.fieldLink RX4 26 "ConsentQueue$Line" "count" "I", Cond.fieldLink RX4 11 "ConsentQueue$Line" "members" "[LConsentQueue$Member;", Cond.fieldLink RX4 18 "ConsentQueue$Line" "nobody" "LConsentQueue$Member;", Cond.instanceMethod yX4_placeOf, Cond.selects RX4 yX4_placeOf yX4_placeOf, Cond.code yX4_placeOf cX4_placeOf 3 (some .int), Cond.methodLink RX4 41 yX4_memberAt, Cond.methodLink RX6 93 yX6_memberFault, Cond.instanceMethod yX6_memberFault, Cond.selects RX6 yX6_memberFault yX6_memberFault, Cond.code yX6_memberFault cX6_memberFault 3 (some .int), Cond.methodLink RX6 219 yX6_offerFault, Cond.instanceMethod yX6_offerFault, Cond.selects RX6 yX6_offerFault yX6_offerFault, Cond.code yX6_offerFault cX6_offerFault 4 (some .int), Cond.methodLink RX6 222 yX6_takeFault, Cond.instanceMethod yX6_takeFault]
def wsX6_join_r3 : List Cond := [Cond.selects RX6 yX6_takeFault yX6_takeFault, Cond.code yX6_takeFault cX6_takeFault 3 (some .int), Cond.instanceMethod yX4_wouldTake, Cond.selects RX4 yX4_wouldTake yX4_wouldTake, Cond.code yX4_wouldTake cX4_wouldTake 3 (some .boolean), Cond.methodLink RX4 113 yX4_loss, Cond.instanceMethod yX4_loss, Cond.selects RX4 yX4_loss yX4_loss, Cond.code yX4_loss cX4_loss 2 (some .int), Cond.methodLink RX4 103 yX4_isHeldByFriends, Cond.instanceMethod yX4_isHeldByFriends, Cond.selects RX4 yX4_isHeldByFriends yX4_isHeldByFriends, Cond.code yX4_isHeldByFriends cX4_isHeldByFriends 2 (some .boolean), Cond.instanceMethod yX4_wouldSwap, Cond.selects RX4 yX4_wouldSwap yX4_wouldSwap, Cond.code yX4_wouldSwap cX4_wouldSwap 2 (some .boolean), Cond.methodLink RX4 110 yX4_hindrance, Cond.instanceMethod yX4_hindrance, Cond.selects RX4 yX4_hindrance yX4_hindrance, Cond.code yX4_hindrance cX4_hindrance 2 (some .int), Cond.methodLink RX4 116 yX4_areFriends, Cond.instanceMethod yX4_areFriends, Cond.selects RX4 yX4_areFriends yX4_areFriends, Cond.code yX4_areFriends cX4_areFriends 2 (some .boolean)]
def wsX6_join_r4 : List Cond := [Cond.methodLink RX4 100 yX4_surplus, Cond.instanceMethod yX4_surplus, Cond.selects RX4 yX4_surplus yX4_surplus, Cond.code yX4_surplus cX4_surplus 4 (some .int), Cond.methodLink RX6 110 yX6_pairFault, Cond.instanceMethod yX6_pairFault, Cond.selects RX6 yX6_pairFault yX6_pairFault, Cond.code yX6_pairFault cX6_pairFault 4 (some .int), Cond.methodLink RX6 59 yX6_refuse, Cond.static yX6_refuse, Cond.code yX6_refuse cX6_refuse 1 none, Cond.classLink RX6 263 "java/lang/IndexOutOfBoundsException", Cond.initialized "java/lang/IndexOutOfBoundsException", Cond.classLink RX6 270 "java/lang/IllegalArgumentException", Cond.initialized "java/lang/IllegalArgumentException", Cond.classLink RX6 275 "java/lang/IllegalStateException", Cond.initialized "java/lang/IllegalStateException", Cond.instanceMethod yX3_push, Cond.initialized RX3, Cond.selects RX3 yX3_push yX3_push, Cond.code yX3_push cX3_push 3 none, Cond.fieldLink RX3 18 "ConsentQueue$History" "size" "I", Cond.fieldLink RX3 11 "ConsentQueue$History" "saved" "[LConsentQueue$Line;", Cond.methodLink RX3 22 yX3_dropOldest]
def wsX6_join_r5 : List Cond := [Cond.instanceMethod yX3_dropOldest, Cond.selects RX3 yX3_dropOldest yX3_dropOldest, Cond.code yX3_dropOldest cX3_dropOldest 3 none, Cond.instanceMethod yX4_copyFrom, Cond.selects RX4 yX4_copyFrom yX4_copyFrom, Cond.code yX4_copyFrom cX4_copyFrom 3 none, Cond.fieldLink RX4 22 "ConsentQueue$Line" "split" "I", Cond.fieldLink RX4 29 "ConsentQueue$Line" "swaps" "I", Cond.fieldLink RX4 32 "ConsentQueue$Line" "paid" "I", Cond.fieldLink RX4 35 "ConsentQueue$Line" "served" "I", Cond.fieldLink RX4 38 "ConsentQueue$Line" "joined" "I", Cond.instanceMethod yX5_copyFrom, Cond.initialized RX5, Cond.selects RX5 yX5_copyFrom yX5_copyFrom, Cond.code yX5_copyFrom cX5_copyFrom 2 none, Cond.fieldLink RX5 9 "ConsentQueue$Member" "number" "I", Cond.fieldLink RX5 18 "ConsentQueue$Member" "worth" "I", Cond.fieldLink RX5 21 "ConsentQueue$Member" "told" "I", Cond.fieldLink RX5 24 "ConsentQueue$Member" "service" "I", Cond.fieldLink RX5 27 "ConsentQueue$Member" "money" "I", Cond.fieldLink RX5 15 "ConsentQueue$Member" "offer" "I", Cond.fieldLink RX5 30 "ConsentQueue$Member" "friendAhead" "Z", Cond.methodLink RX6 201 yX6_carryOut, Cond.instanceMethod yX6_carryOut]
def wsX6_join_r6 : List Cond := [Cond.selects RX6 yX6_carryOut yX6_carryOut, Cond.code yX6_carryOut cX6_carryOut 5 (some .int), Cond.instanceMethod yX4_insert, Cond.selects RX4 yX4_insert yX4_insert, Cond.code yX4_insert cX4_insert 6 (some .int), Cond.instanceMethod yX5_begin, Cond.selects RX5 yX5_begin yX5_begin, Cond.code yX5_begin cX5_begin 4 none, Cond.methodLink RX5 34 yX5_loseOneAhead, Cond.instanceMethod yX5_loseOneAhead, Cond.selects RX5 yX5_loseOneAhead yX5_loseOneAhead, Cond.code yX5_loseOneAhead cX5_loseOneAhead 1 none, Cond.instanceMethod yX4_removeMember, Cond.selects RX4 yX4_removeMember yX4_removeMember, Cond.code yX4_removeMember cX4_removeMember 3 (some .int), Cond.methodLink RX4 59 yX4_placeOf, Cond.methodLink RX4 63 yX4_removeAt, Cond.instanceMethod yX4_removeAt, Cond.selects RX4 yX4_removeAt yX4_removeAt, Cond.code yX4_removeAt cX4_removeAt 4 none, Cond.instanceMethod yX4_tell, Cond.selects RX4 yX4_tell yX4_tell, Cond.code yX4_tell cX4_tell 5 (some .int), Cond.instanceMethod yX4_makeOffer]
def wsX6_join_r7 : List Cond := [Cond.selects RX4 yX4_makeOffer yX4_makeOffer, Cond.code yX4_makeOffer cX4_makeOffer 5 (some .int), Cond.instanceMethod yX4_swapAsOffered, Cond.selects RX4 yX4_swapAsOffered yX4_swapAsOffered, Cond.code yX4_swapAsOffered cX4_swapAsOffered 2 (some .int), Cond.methodLink RX4 84 yX4_swapAt, Cond.instanceMethod yX4_swapAt, Cond.selects RX4 yX4_swapAt yX4_swapAt, Cond.code yX4_swapAt cX4_swapAt 5 (some .int), Cond.instanceMethod yX4_swapFairly, Cond.selects RX4 yX4_swapFairly yX4_swapFairly, Cond.code yX4_swapFairly cX4_swapFairly 2 (some .int), Cond.methodLink RX4 88 yX4_fairPrice, Cond.instanceMethod yX4_fairPrice, Cond.selects RX4 yX4_fairPrice yX4_fairPrice, Cond.code yX4_fairPrice cX4_fairPrice 6 (some .int), Cond.instanceMethod yX4_setFriends, Cond.selects RX4 yX4_setFriends yX4_setFriends, Cond.code yX4_setFriends cX4_setFriends 3 (some .int), Cond.methodLink RX4 80 yX4_friendPairs, Cond.instanceMethod yX4_friendPairs, Cond.selects RX4 yX4_friendPairs yX4_friendPairs, Cond.code yX4_friendPairs cX4_friendPairs 3 (some .int), Cond.instanceMethod yX4_serveFirst]
def wsX6_join_r8 : List Cond := [Cond.selects RX4 yX4_serveFirst yX4_serveFirst, Cond.code yX4_serveFirst cX4_serveFirst 2 (some .int), Cond.instanceMethod yX4_settleDown, Cond.selects RX4 yX4_settleDown yX4_settleDown, Cond.code yX4_settleDown cX4_settleDown 3 (some .int), Cond.methodLink RX4 94 yX4_keenestPair, Cond.instanceMethod yX4_keenestPair, Cond.selects RX4 yX4_keenestPair yX4_keenestPair, Cond.code yX4_keenestPair cX4_keenestPair 5 (some .int), Cond.methodLink RX4 97 yX4_swapFairly]
def wsX6_join : List Cond := .code yX6_join cX6_join 3 (some .int) :: ((wsX6_join_r1 ++ (wsX6_join_r2 ++ (wsX6_join_r3 ++ (wsX6_join_r4 ++ (wsX6_join_r5 ++ (wsX6_join_r6 ++ (wsX6_join_r7 ++ wsX6_join_r8))))))) ++ wsX60 ++ wsX40 ++ wsX50 ++ wsX30 ++ (vx_atS RX6 267 "java/lang/IndexOutOfBoundsException" ["java/lang/RuntimeException", "java/lang/Exception"]).filter goodWord ++ (vx_atS RX6 274 "java/lang/IllegalArgumentException" ["java/lang/RuntimeException", "java/lang/Exception"]).filter goodWord ++ (vx_atS RX6 279 "java/lang/IllegalStateException" ["java/lang/RuntimeException", "java/lang/Exception"]).filter goodWord)
def wsX6_joinAt_r1 : List Cond := [Cond.fieldLink RX6 43 "ConsentQueue$Command" "PUSH" "LConsentQueue$Command;", Cond.methodLink RX6 39 yX6_perform, Cond.instanceMethod yX6_perform, Cond.selects RX6 yX6_perform yX6_perform, Cond.initialized RX6, Cond.code yX6_perform cX6_perform 5 (some .int), Cond.fieldLink RX6 22 "ConsentQueue" "history" "LConsentQueue$History;", Cond.fieldLink RX6 10 "ConsentQueue" "line" "LConsentQueue$Line;", Cond.methodLink RX6 198 yX6_faultOf, Cond.instanceMethod yX6_faultOf, Cond.selects RX6 yX6_faultOf yX6_faultOf, Cond.code yX6_faultOf cX6_faultOf 5 (some .int), Cond.fieldLink RX6 206 "ConsentQueue$1" "$SwitchMap$ConsentQueue$Command" "[I", Cond.methodLink RX6 212 ⟨"ConsentQueue$Command", "ordinal", "()I"⟩, Cond.sameMethod "ConsentQueue$Command" "java/lang/Enum" "ordinal" "()I", Cond.selects RX1 ⟨"ConsentQueue$Command", "ordinal", "()I"⟩ yJx29ce0_ordinal_8abf5, Cond.instanceMethod yJx29ce0_ordinal_8abf5, Cond.initialized RJx29ce0, Cond.code yJx29ce0_ordinal_8abf5 cJx29ce0_ordinal_8abf5 1 (some .int), Cond.fieldLink RJx29ce0 7 "java/lang/Enum" "ordinal" "I", Cond.methodLink RX6 215 yX6_joinFault, Cond.instanceMethod yX6_joinFault, Cond.selects RX6 yX6_joinFault yX6_joinFault, Cond.code yX6_joinFault cX6_joinFault 5 (some .int)]
def wsX6_joinAt_r2 : List Cond := [Cond.methodLink RX6 55 yX6_isWithin, Cond.static yX6_isWithin, Cond.code yX6_isWithin cX6_isWithin 3 (some .boolean), Cond.instanceMethod yX4_memberAt, Cond.initialized RX4, Cond.selects RX4 yX4_memberAt yX4_memberAt, Cond.code yX4_memberAt cX4_memberAt 3 (some (.object "ConsentQueue$Member")), Cond.fieldLink RX4 26 "ConsentQueue$Line" "count" "I", Cond.fieldLink RX4 11 "ConsentQueue$Line" "members" "[LConsentQueue$Member;", Cond.fieldLink RX4 18 "ConsentQueue$Line" "nobody" "LConsentQueue$Member;", Cond.instanceMethod yX4_placeOf, Cond.selects RX4 yX4_placeOf yX4_placeOf, Cond.code yX4_placeOf cX4_placeOf 3 (some .int), Cond.methodLink RX4 41 yX4_memberAt, Cond.methodLink RX6 93 yX6_memberFault, Cond.instanceMethod yX6_memberFault, Cond.selects RX6 yX6_memberFault yX6_memberFault, Cond.code yX6_memberFault cX6_memberFault 3 (some .int), Cond.methodLink RX6 219 yX6_offerFault, Cond.instanceMethod yX6_offerFault, Cond.selects RX6 yX6_offerFault yX6_offerFault, Cond.code yX6_offerFault cX6_offerFault 4 (some .int), Cond.methodLink RX6 222 yX6_takeFault, Cond.instanceMethod yX6_takeFault]
def wsX6_joinAt_r3 : List Cond := [Cond.selects RX6 yX6_takeFault yX6_takeFault, Cond.code yX6_takeFault cX6_takeFault 3 (some .int), Cond.instanceMethod yX4_wouldTake, Cond.selects RX4 yX4_wouldTake yX4_wouldTake, Cond.code yX4_wouldTake cX4_wouldTake 3 (some .boolean), Cond.methodLink RX4 113 yX4_loss, Cond.instanceMethod yX4_loss, Cond.selects RX4 yX4_loss yX4_loss, Cond.code yX4_loss cX4_loss 2 (some .int), Cond.methodLink RX4 103 yX4_isHeldByFriends, Cond.instanceMethod yX4_isHeldByFriends, Cond.selects RX4 yX4_isHeldByFriends yX4_isHeldByFriends, Cond.code yX4_isHeldByFriends cX4_isHeldByFriends 2 (some .boolean), Cond.instanceMethod yX4_wouldSwap, Cond.selects RX4 yX4_wouldSwap yX4_wouldSwap, Cond.code yX4_wouldSwap cX4_wouldSwap 2 (some .boolean), Cond.methodLink RX4 110 yX4_hindrance, Cond.instanceMethod yX4_hindrance, Cond.selects RX4 yX4_hindrance yX4_hindrance, Cond.code yX4_hindrance cX4_hindrance 2 (some .int), Cond.methodLink RX4 116 yX4_areFriends, Cond.instanceMethod yX4_areFriends, Cond.selects RX4 yX4_areFriends yX4_areFriends, Cond.code yX4_areFriends cX4_areFriends 2 (some .boolean)]
def wsX6_joinAt_r4 : List Cond := [Cond.methodLink RX4 100 yX4_surplus, Cond.instanceMethod yX4_surplus, Cond.selects RX4 yX4_surplus yX4_surplus, Cond.code yX4_surplus cX4_surplus 4 (some .int), Cond.methodLink RX6 110 yX6_pairFault, Cond.instanceMethod yX6_pairFault, Cond.selects RX6 yX6_pairFault yX6_pairFault, Cond.code yX6_pairFault cX6_pairFault 4 (some .int), Cond.methodLink RX6 59 yX6_refuse, Cond.static yX6_refuse, Cond.code yX6_refuse cX6_refuse 1 none, Cond.classLink RX6 263 "java/lang/IndexOutOfBoundsException", Cond.initialized "java/lang/IndexOutOfBoundsException", Cond.classLink RX6 270 "java/lang/IllegalArgumentException", Cond.initialized "java/lang/IllegalArgumentException", Cond.classLink RX6 275 "java/lang/IllegalStateException", Cond.initialized "java/lang/IllegalStateException", Cond.instanceMethod yX3_push, Cond.initialized RX3, Cond.selects RX3 yX3_push yX3_push, Cond.code yX3_push cX3_push 3 none, Cond.fieldLink RX3 18 "ConsentQueue$History" "size" "I", Cond.fieldLink RX3 11 "ConsentQueue$History" "saved" "[LConsentQueue$Line;", Cond.methodLink RX3 22 yX3_dropOldest]
def wsX6_joinAt_r5 : List Cond := [Cond.instanceMethod yX3_dropOldest, Cond.selects RX3 yX3_dropOldest yX3_dropOldest, Cond.code yX3_dropOldest cX3_dropOldest 3 none, Cond.instanceMethod yX4_copyFrom, Cond.selects RX4 yX4_copyFrom yX4_copyFrom, Cond.code yX4_copyFrom cX4_copyFrom 3 none, Cond.fieldLink RX4 22 "ConsentQueue$Line" "split" "I", Cond.fieldLink RX4 29 "ConsentQueue$Line" "swaps" "I", Cond.fieldLink RX4 32 "ConsentQueue$Line" "paid" "I", Cond.fieldLink RX4 35 "ConsentQueue$Line" "served" "I", Cond.fieldLink RX4 38 "ConsentQueue$Line" "joined" "I", Cond.instanceMethod yX5_copyFrom, Cond.initialized RX5, Cond.selects RX5 yX5_copyFrom yX5_copyFrom, Cond.code yX5_copyFrom cX5_copyFrom 2 none, Cond.fieldLink RX5 9 "ConsentQueue$Member" "number" "I", Cond.fieldLink RX5 18 "ConsentQueue$Member" "worth" "I", Cond.fieldLink RX5 21 "ConsentQueue$Member" "told" "I", Cond.fieldLink RX5 24 "ConsentQueue$Member" "service" "I", Cond.fieldLink RX5 27 "ConsentQueue$Member" "money" "I", Cond.fieldLink RX5 15 "ConsentQueue$Member" "offer" "I", Cond.fieldLink RX5 30 "ConsentQueue$Member" "friendAhead" "Z", Cond.methodLink RX6 201 yX6_carryOut, Cond.instanceMethod yX6_carryOut]
def wsX6_joinAt_r6 : List Cond := [Cond.selects RX6 yX6_carryOut yX6_carryOut, Cond.code yX6_carryOut cX6_carryOut 5 (some .int), Cond.instanceMethod yX4_insert, Cond.selects RX4 yX4_insert yX4_insert, Cond.code yX4_insert cX4_insert 6 (some .int), Cond.instanceMethod yX5_begin, Cond.selects RX5 yX5_begin yX5_begin, Cond.code yX5_begin cX5_begin 4 none, Cond.methodLink RX5 34 yX5_loseOneAhead, Cond.instanceMethod yX5_loseOneAhead, Cond.selects RX5 yX5_loseOneAhead yX5_loseOneAhead, Cond.code yX5_loseOneAhead cX5_loseOneAhead 1 none, Cond.instanceMethod yX4_removeMember, Cond.selects RX4 yX4_removeMember yX4_removeMember, Cond.code yX4_removeMember cX4_removeMember 3 (some .int), Cond.methodLink RX4 59 yX4_placeOf, Cond.methodLink RX4 63 yX4_removeAt, Cond.instanceMethod yX4_removeAt, Cond.selects RX4 yX4_removeAt yX4_removeAt, Cond.code yX4_removeAt cX4_removeAt 4 none, Cond.instanceMethod yX4_tell, Cond.selects RX4 yX4_tell yX4_tell, Cond.code yX4_tell cX4_tell 5 (some .int), Cond.instanceMethod yX4_makeOffer]
def wsX6_joinAt_r7 : List Cond := [Cond.selects RX4 yX4_makeOffer yX4_makeOffer, Cond.code yX4_makeOffer cX4_makeOffer 5 (some .int), Cond.instanceMethod yX4_swapAsOffered, Cond.selects RX4 yX4_swapAsOffered yX4_swapAsOffered, Cond.code yX4_swapAsOffered cX4_swapAsOffered 2 (some .int), Cond.methodLink RX4 84 yX4_swapAt, Cond.instanceMethod yX4_swapAt, Cond.selects RX4 yX4_swapAt yX4_swapAt, Cond.code yX4_swapAt cX4_swapAt 5 (some .int), Cond.instanceMethod yX4_swapFairly, Cond.selects RX4 yX4_swapFairly yX4_swapFairly, Cond.code yX4_swapFairly cX4_swapFairly 2 (some .int), Cond.methodLink RX4 88 yX4_fairPrice, Cond.instanceMethod yX4_fairPrice, Cond.selects RX4 yX4_fairPrice yX4_fairPrice, Cond.code yX4_fairPrice cX4_fairPrice 6 (some .int), Cond.instanceMethod yX4_setFriends, Cond.selects RX4 yX4_setFriends yX4_setFriends, Cond.code yX4_setFriends cX4_setFriends 3 (some .int), Cond.methodLink RX4 80 yX4_friendPairs, Cond.instanceMethod yX4_friendPairs, Cond.selects RX4 yX4_friendPairs yX4_friendPairs, Cond.code yX4_friendPairs cX4_friendPairs 3 (some .int), Cond.instanceMethod yX4_serveFirst]
def wsX6_joinAt_r8 : List Cond := [Cond.selects RX4 yX4_serveFirst yX4_serveFirst, Cond.code yX4_serveFirst cX4_serveFirst 2 (some .int), Cond.instanceMethod yX4_settleDown, Cond.selects RX4 yX4_settleDown yX4_settleDown, Cond.code yX4_settleDown cX4_settleDown 3 (some .int), Cond.methodLink RX4 94 yX4_keenestPair, Cond.instanceMethod yX4_keenestPair, Cond.selects RX4 yX4_keenestPair yX4_keenestPair, Cond.code yX4_keenestPair cX4_keenestPair 5 (some .int), Cond.methodLink RX4 97 yX4_swapFairly]
def wsX6_joinAt : List Cond := .code yX6_joinAt cX6_joinAt 4 (some .int) :: ((wsX6_joinAt_r1 ++ (wsX6_joinAt_r2 ++ (wsX6_joinAt_r3 ++ (wsX6_joinAt_r4 ++ (wsX6_joinAt_r5 ++ (wsX6_joinAt_r6 ++ (wsX6_joinAt_r7 ++ wsX6_joinAt_r8))))))) ++ wsX60 ++ wsX40 ++ wsX50 ++ wsX30 ++ (vx_atS RX6 267 "java/lang/IndexOutOfBoundsException" ["java/lang/RuntimeException", "java/lang/Exception"]).filter goodWord ++ (vx_atS RX6 274 "java/lang/IllegalArgumentException" ["java/lang/RuntimeException", "java/lang/Exception"]).filter goodWord ++ (vx_atS RX6 279 "java/lang/IllegalStateException" ["java/lang/RuntimeException", "java/lang/Exception"]).filter goodWord)
def wsX6_leave_r1 : List Cond := [Cond.fieldLink RX6 46 "ConsentQueue$Command" "LEAVE" "LConsentQueue$Command;", Cond.methodLink RX6 39 yX6_perform, Cond.instanceMethod yX6_perform, Cond.selects RX6 yX6_perform yX6_perform, Cond.initialized RX6, Cond.code yX6_perform cX6_perform 5 (some .int), Cond.fieldLink RX6 22 "ConsentQueue" "history" "LConsentQueue$History;", Cond.fieldLink RX6 10 "ConsentQueue" "line" "LConsentQueue$Line;", Cond.methodLink RX6 198 yX6_faultOf, Cond.instanceMethod yX6_faultOf, Cond.selects RX6 yX6_faultOf yX6_faultOf, Cond.code yX6_faultOf cX6_faultOf 5 (some .int), Cond.fieldLink RX6 206 "ConsentQueue$1" "$SwitchMap$ConsentQueue$Command" "[I", Cond.methodLink RX6 212 ⟨"ConsentQueue$Command", "ordinal", "()I"⟩, Cond.sameMethod "ConsentQueue$Command" "java/lang/Enum" "ordinal" "()I", Cond.selects RX1 ⟨"ConsentQueue$Command", "ordinal", "()I"⟩ yJx29ce0_ordinal_8abf5, Cond.instanceMethod yJx29ce0_ordinal_8abf5, Cond.initialized RJx29ce0, Cond.code yJx29ce0_ordinal_8abf5 cJx29ce0_ordinal_8abf5 1 (some .int), Cond.fieldLink RJx29ce0 7 "java/lang/Enum" "ordinal" "I", Cond.methodLink RX6 215 yX6_joinFault, Cond.instanceMethod yX6_joinFault, Cond.selects RX6 yX6_joinFault yX6_joinFault, Cond.code yX6_joinFault cX6_joinFault 5 (some .int)]
def wsX6_leave_r2 : List Cond := [Cond.methodLink RX6 55 yX6_isWithin, Cond.static yX6_isWithin, Cond.code yX6_isWithin cX6_isWithin 3 (some .boolean), Cond.instanceMethod yX4_memberAt, Cond.initialized RX4, Cond.selects RX4 yX4_memberAt yX4_memberAt, Cond.code yX4_memberAt cX4_memberAt 3 (some (.object "ConsentQueue$Member")), Cond.fieldLink RX4 26 "ConsentQueue$Line" "count" "I", Cond.fieldLink RX4 11 "ConsentQueue$Line" "members" "[LConsentQueue$Member;", Cond.fieldLink RX4 18 "ConsentQueue$Line" "nobody" "LConsentQueue$Member;", Cond.instanceMethod yX4_placeOf, Cond.selects RX4 yX4_placeOf yX4_placeOf, Cond.code yX4_placeOf cX4_placeOf 3 (some .int), Cond.methodLink RX4 41 yX4_memberAt, Cond.methodLink RX6 93 yX6_memberFault, Cond.instanceMethod yX6_memberFault, Cond.selects RX6 yX6_memberFault yX6_memberFault, Cond.code yX6_memberFault cX6_memberFault 3 (some .int), Cond.methodLink RX6 219 yX6_offerFault, Cond.instanceMethod yX6_offerFault, Cond.selects RX6 yX6_offerFault yX6_offerFault, Cond.code yX6_offerFault cX6_offerFault 4 (some .int), Cond.methodLink RX6 222 yX6_takeFault, Cond.instanceMethod yX6_takeFault]
def wsX6_leave_r3 : List Cond := [Cond.selects RX6 yX6_takeFault yX6_takeFault, Cond.code yX6_takeFault cX6_takeFault 3 (some .int), Cond.instanceMethod yX4_wouldTake, Cond.selects RX4 yX4_wouldTake yX4_wouldTake, Cond.code yX4_wouldTake cX4_wouldTake 3 (some .boolean), Cond.methodLink RX4 113 yX4_loss, Cond.instanceMethod yX4_loss, Cond.selects RX4 yX4_loss yX4_loss, Cond.code yX4_loss cX4_loss 2 (some .int), Cond.methodLink RX4 103 yX4_isHeldByFriends, Cond.instanceMethod yX4_isHeldByFriends, Cond.selects RX4 yX4_isHeldByFriends yX4_isHeldByFriends, Cond.code yX4_isHeldByFriends cX4_isHeldByFriends 2 (some .boolean), Cond.instanceMethod yX4_wouldSwap, Cond.selects RX4 yX4_wouldSwap yX4_wouldSwap, Cond.code yX4_wouldSwap cX4_wouldSwap 2 (some .boolean), Cond.methodLink RX4 110 yX4_hindrance, Cond.instanceMethod yX4_hindrance, Cond.selects RX4 yX4_hindrance yX4_hindrance, Cond.code yX4_hindrance cX4_hindrance 2 (some .int), Cond.methodLink RX4 116 yX4_areFriends, Cond.instanceMethod yX4_areFriends, Cond.selects RX4 yX4_areFriends yX4_areFriends, Cond.code yX4_areFriends cX4_areFriends 2 (some .boolean)]
def wsX6_leave_r4 : List Cond := [Cond.methodLink RX4 100 yX4_surplus, Cond.instanceMethod yX4_surplus, Cond.selects RX4 yX4_surplus yX4_surplus, Cond.code yX4_surplus cX4_surplus 4 (some .int), Cond.methodLink RX6 110 yX6_pairFault, Cond.instanceMethod yX6_pairFault, Cond.selects RX6 yX6_pairFault yX6_pairFault, Cond.code yX6_pairFault cX6_pairFault 4 (some .int), Cond.methodLink RX6 59 yX6_refuse, Cond.static yX6_refuse, Cond.code yX6_refuse cX6_refuse 1 none, Cond.classLink RX6 263 "java/lang/IndexOutOfBoundsException", Cond.initialized "java/lang/IndexOutOfBoundsException", Cond.classLink RX6 270 "java/lang/IllegalArgumentException", Cond.initialized "java/lang/IllegalArgumentException", Cond.classLink RX6 275 "java/lang/IllegalStateException", Cond.initialized "java/lang/IllegalStateException", Cond.instanceMethod yX3_push, Cond.initialized RX3, Cond.selects RX3 yX3_push yX3_push, Cond.code yX3_push cX3_push 3 none, Cond.fieldLink RX3 18 "ConsentQueue$History" "size" "I", Cond.fieldLink RX3 11 "ConsentQueue$History" "saved" "[LConsentQueue$Line;", Cond.methodLink RX3 22 yX3_dropOldest]
def wsX6_leave_r5 : List Cond := [Cond.instanceMethod yX3_dropOldest, Cond.selects RX3 yX3_dropOldest yX3_dropOldest, Cond.code yX3_dropOldest cX3_dropOldest 3 none, Cond.instanceMethod yX4_copyFrom, Cond.selects RX4 yX4_copyFrom yX4_copyFrom, Cond.code yX4_copyFrom cX4_copyFrom 3 none, Cond.fieldLink RX4 22 "ConsentQueue$Line" "split" "I", Cond.fieldLink RX4 29 "ConsentQueue$Line" "swaps" "I", Cond.fieldLink RX4 32 "ConsentQueue$Line" "paid" "I", Cond.fieldLink RX4 35 "ConsentQueue$Line" "served" "I", Cond.fieldLink RX4 38 "ConsentQueue$Line" "joined" "I", Cond.instanceMethod yX5_copyFrom, Cond.initialized RX5, Cond.selects RX5 yX5_copyFrom yX5_copyFrom, Cond.code yX5_copyFrom cX5_copyFrom 2 none, Cond.fieldLink RX5 9 "ConsentQueue$Member" "number" "I", Cond.fieldLink RX5 18 "ConsentQueue$Member" "worth" "I", Cond.fieldLink RX5 21 "ConsentQueue$Member" "told" "I", Cond.fieldLink RX5 24 "ConsentQueue$Member" "service" "I", Cond.fieldLink RX5 27 "ConsentQueue$Member" "money" "I", Cond.fieldLink RX5 15 "ConsentQueue$Member" "offer" "I", Cond.fieldLink RX5 30 "ConsentQueue$Member" "friendAhead" "Z", Cond.methodLink RX6 201 yX6_carryOut, Cond.instanceMethod yX6_carryOut]
def wsX6_leave_r6 : List Cond := [Cond.selects RX6 yX6_carryOut yX6_carryOut, Cond.code yX6_carryOut cX6_carryOut 5 (some .int), Cond.instanceMethod yX4_insert, Cond.selects RX4 yX4_insert yX4_insert, Cond.code yX4_insert cX4_insert 6 (some .int), Cond.instanceMethod yX5_begin, Cond.selects RX5 yX5_begin yX5_begin, Cond.code yX5_begin cX5_begin 4 none, Cond.methodLink RX5 34 yX5_loseOneAhead, Cond.instanceMethod yX5_loseOneAhead, Cond.selects RX5 yX5_loseOneAhead yX5_loseOneAhead, Cond.code yX5_loseOneAhead cX5_loseOneAhead 1 none, Cond.instanceMethod yX4_removeMember, Cond.selects RX4 yX4_removeMember yX4_removeMember, Cond.code yX4_removeMember cX4_removeMember 3 (some .int), Cond.methodLink RX4 59 yX4_placeOf, Cond.methodLink RX4 63 yX4_removeAt, Cond.instanceMethod yX4_removeAt, Cond.selects RX4 yX4_removeAt yX4_removeAt, Cond.code yX4_removeAt cX4_removeAt 4 none, Cond.instanceMethod yX4_tell, Cond.selects RX4 yX4_tell yX4_tell, Cond.code yX4_tell cX4_tell 5 (some .int), Cond.instanceMethod yX4_makeOffer]
def wsX6_leave_r7 : List Cond := [Cond.selects RX4 yX4_makeOffer yX4_makeOffer, Cond.code yX4_makeOffer cX4_makeOffer 5 (some .int), Cond.instanceMethod yX4_swapAsOffered, Cond.selects RX4 yX4_swapAsOffered yX4_swapAsOffered, Cond.code yX4_swapAsOffered cX4_swapAsOffered 2 (some .int), Cond.methodLink RX4 84 yX4_swapAt, Cond.instanceMethod yX4_swapAt, Cond.selects RX4 yX4_swapAt yX4_swapAt, Cond.code yX4_swapAt cX4_swapAt 5 (some .int), Cond.instanceMethod yX4_swapFairly, Cond.selects RX4 yX4_swapFairly yX4_swapFairly, Cond.code yX4_swapFairly cX4_swapFairly 2 (some .int), Cond.methodLink RX4 88 yX4_fairPrice, Cond.instanceMethod yX4_fairPrice, Cond.selects RX4 yX4_fairPrice yX4_fairPrice, Cond.code yX4_fairPrice cX4_fairPrice 6 (some .int), Cond.instanceMethod yX4_setFriends, Cond.selects RX4 yX4_setFriends yX4_setFriends, Cond.code yX4_setFriends cX4_setFriends 3 (some .int), Cond.methodLink RX4 80 yX4_friendPairs, Cond.instanceMethod yX4_friendPairs, Cond.selects RX4 yX4_friendPairs yX4_friendPairs, Cond.code yX4_friendPairs cX4_friendPairs 3 (some .int), Cond.instanceMethod yX4_serveFirst]
def wsX6_leave_r8 : List Cond := [Cond.selects RX4 yX4_serveFirst yX4_serveFirst, Cond.code yX4_serveFirst cX4_serveFirst 2 (some .int), Cond.instanceMethod yX4_settleDown, Cond.selects RX4 yX4_settleDown yX4_settleDown, Cond.code yX4_settleDown cX4_settleDown 3 (some .int), Cond.methodLink RX4 94 yX4_keenestPair, Cond.instanceMethod yX4_keenestPair, Cond.selects RX4 yX4_keenestPair yX4_keenestPair, Cond.code yX4_keenestPair cX4_keenestPair 5 (some .int), Cond.methodLink RX4 97 yX4_swapFairly]
def wsX6_leave : List Cond := .code yX6_leave cX6_leave 2 (some .int) :: ((wsX6_leave_r1 ++ (wsX6_leave_r2 ++ (wsX6_leave_r3 ++ (wsX6_leave_r4 ++ (wsX6_leave_r5 ++ (wsX6_leave_r6 ++ (wsX6_leave_r7 ++ wsX6_leave_r8))))))) ++ wsX60 ++ wsX40 ++ wsX50 ++ wsX30 ++ (vx_atS RX6 267 "java/lang/IndexOutOfBoundsException" ["java/lang/RuntimeException", "java/lang/Exception"]).filter goodWord ++ (vx_atS RX6 274 "java/lang/IllegalArgumentException" ["java/lang/RuntimeException", "java/lang/Exception"]).filter goodWord ++ (vx_atS RX6 279 "java/lang/IllegalStateException" ["java/lang/RuntimeException", "java/lang/Exception"]).filter goodWord)
def wsX6_serve_r1 : List Cond := [Cond.fieldLink RX6 49 "ConsentQueue$Command" "SERVE" "LConsentQueue$Command;", Cond.methodLink RX6 39 yX6_perform, Cond.instanceMethod yX6_perform, Cond.selects RX6 yX6_perform yX6_perform, Cond.initialized RX6, Cond.code yX6_perform cX6_perform 5 (some .int), Cond.fieldLink RX6 22 "ConsentQueue" "history" "LConsentQueue$History;", Cond.fieldLink RX6 10 "ConsentQueue" "line" "LConsentQueue$Line;", Cond.methodLink RX6 198 yX6_faultOf, Cond.instanceMethod yX6_faultOf, Cond.selects RX6 yX6_faultOf yX6_faultOf, Cond.code yX6_faultOf cX6_faultOf 5 (some .int), Cond.fieldLink RX6 206 "ConsentQueue$1" "$SwitchMap$ConsentQueue$Command" "[I", Cond.methodLink RX6 212 ⟨"ConsentQueue$Command", "ordinal", "()I"⟩, Cond.sameMethod "ConsentQueue$Command" "java/lang/Enum" "ordinal" "()I", Cond.selects RX1 ⟨"ConsentQueue$Command", "ordinal", "()I"⟩ yJx29ce0_ordinal_8abf5, Cond.instanceMethod yJx29ce0_ordinal_8abf5, Cond.initialized RJx29ce0, Cond.code yJx29ce0_ordinal_8abf5 cJx29ce0_ordinal_8abf5 1 (some .int), Cond.fieldLink RJx29ce0 7 "java/lang/Enum" "ordinal" "I", Cond.methodLink RX6 215 yX6_joinFault, Cond.instanceMethod yX6_joinFault, Cond.selects RX6 yX6_joinFault yX6_joinFault, Cond.code yX6_joinFault cX6_joinFault 5 (some .int)]
def wsX6_serve_r2 : List Cond := [Cond.methodLink RX6 55 yX6_isWithin, Cond.static yX6_isWithin, Cond.code yX6_isWithin cX6_isWithin 3 (some .boolean), Cond.instanceMethod yX4_memberAt, Cond.initialized RX4, Cond.selects RX4 yX4_memberAt yX4_memberAt, Cond.code yX4_memberAt cX4_memberAt 3 (some (.object "ConsentQueue$Member")), Cond.fieldLink RX4 26 "ConsentQueue$Line" "count" "I", Cond.fieldLink RX4 11 "ConsentQueue$Line" "members" "[LConsentQueue$Member;", Cond.fieldLink RX4 18 "ConsentQueue$Line" "nobody" "LConsentQueue$Member;", Cond.instanceMethod yX4_placeOf, Cond.selects RX4 yX4_placeOf yX4_placeOf, Cond.code yX4_placeOf cX4_placeOf 3 (some .int), Cond.methodLink RX4 41 yX4_memberAt, Cond.methodLink RX6 93 yX6_memberFault, Cond.instanceMethod yX6_memberFault, Cond.selects RX6 yX6_memberFault yX6_memberFault, Cond.code yX6_memberFault cX6_memberFault 3 (some .int), Cond.methodLink RX6 219 yX6_offerFault, Cond.instanceMethod yX6_offerFault, Cond.selects RX6 yX6_offerFault yX6_offerFault, Cond.code yX6_offerFault cX6_offerFault 4 (some .int), Cond.methodLink RX6 222 yX6_takeFault, Cond.instanceMethod yX6_takeFault]
def wsX6_serve_r3 : List Cond := [Cond.selects RX6 yX6_takeFault yX6_takeFault, Cond.code yX6_takeFault cX6_takeFault 3 (some .int), Cond.instanceMethod yX4_wouldTake, Cond.selects RX4 yX4_wouldTake yX4_wouldTake, Cond.code yX4_wouldTake cX4_wouldTake 3 (some .boolean), Cond.methodLink RX4 113 yX4_loss, Cond.instanceMethod yX4_loss, Cond.selects RX4 yX4_loss yX4_loss, Cond.code yX4_loss cX4_loss 2 (some .int), Cond.methodLink RX4 103 yX4_isHeldByFriends, Cond.instanceMethod yX4_isHeldByFriends, Cond.selects RX4 yX4_isHeldByFriends yX4_isHeldByFriends, Cond.code yX4_isHeldByFriends cX4_isHeldByFriends 2 (some .boolean), Cond.instanceMethod yX4_wouldSwap, Cond.selects RX4 yX4_wouldSwap yX4_wouldSwap, Cond.code yX4_wouldSwap cX4_wouldSwap 2 (some .boolean), Cond.methodLink RX4 110 yX4_hindrance, Cond.instanceMethod yX4_hindrance, Cond.selects RX4 yX4_hindrance yX4_hindrance, Cond.code yX4_hindrance cX4_hindrance 2 (some .int), Cond.methodLink RX4 116 yX4_areFriends, Cond.instanceMethod yX4_areFriends, Cond.selects RX4 yX4_areFriends yX4_areFriends, Cond.code yX4_areFriends cX4_areFriends 2 (some .boolean)]
def wsX6_serve_r4 : List Cond := [Cond.methodLink RX4 100 yX4_surplus, Cond.instanceMethod yX4_surplus, Cond.selects RX4 yX4_surplus yX4_surplus, Cond.code yX4_surplus cX4_surplus 4 (some .int), Cond.methodLink RX6 110 yX6_pairFault, Cond.instanceMethod yX6_pairFault, Cond.selects RX6 yX6_pairFault yX6_pairFault, Cond.code yX6_pairFault cX6_pairFault 4 (some .int), Cond.methodLink RX6 59 yX6_refuse, Cond.static yX6_refuse, Cond.code yX6_refuse cX6_refuse 1 none, Cond.classLink RX6 263 "java/lang/IndexOutOfBoundsException", Cond.initialized "java/lang/IndexOutOfBoundsException", Cond.classLink RX6 270 "java/lang/IllegalArgumentException", Cond.initialized "java/lang/IllegalArgumentException", Cond.classLink RX6 275 "java/lang/IllegalStateException", Cond.initialized "java/lang/IllegalStateException", Cond.instanceMethod yX3_push, Cond.initialized RX3, Cond.selects RX3 yX3_push yX3_push, Cond.code yX3_push cX3_push 3 none, Cond.fieldLink RX3 18 "ConsentQueue$History" "size" "I", Cond.fieldLink RX3 11 "ConsentQueue$History" "saved" "[LConsentQueue$Line;", Cond.methodLink RX3 22 yX3_dropOldest]
def wsX6_serve_r5 : List Cond := [Cond.instanceMethod yX3_dropOldest, Cond.selects RX3 yX3_dropOldest yX3_dropOldest, Cond.code yX3_dropOldest cX3_dropOldest 3 none, Cond.instanceMethod yX4_copyFrom, Cond.selects RX4 yX4_copyFrom yX4_copyFrom, Cond.code yX4_copyFrom cX4_copyFrom 3 none, Cond.fieldLink RX4 22 "ConsentQueue$Line" "split" "I", Cond.fieldLink RX4 29 "ConsentQueue$Line" "swaps" "I", Cond.fieldLink RX4 32 "ConsentQueue$Line" "paid" "I", Cond.fieldLink RX4 35 "ConsentQueue$Line" "served" "I", Cond.fieldLink RX4 38 "ConsentQueue$Line" "joined" "I", Cond.instanceMethod yX5_copyFrom, Cond.initialized RX5, Cond.selects RX5 yX5_copyFrom yX5_copyFrom, Cond.code yX5_copyFrom cX5_copyFrom 2 none, Cond.fieldLink RX5 9 "ConsentQueue$Member" "number" "I", Cond.fieldLink RX5 18 "ConsentQueue$Member" "worth" "I", Cond.fieldLink RX5 21 "ConsentQueue$Member" "told" "I", Cond.fieldLink RX5 24 "ConsentQueue$Member" "service" "I", Cond.fieldLink RX5 27 "ConsentQueue$Member" "money" "I", Cond.fieldLink RX5 15 "ConsentQueue$Member" "offer" "I", Cond.fieldLink RX5 30 "ConsentQueue$Member" "friendAhead" "Z", Cond.methodLink RX6 201 yX6_carryOut, Cond.instanceMethod yX6_carryOut]
def wsX6_serve_r6 : List Cond := [Cond.selects RX6 yX6_carryOut yX6_carryOut, Cond.code yX6_carryOut cX6_carryOut 5 (some .int), Cond.instanceMethod yX4_insert, Cond.selects RX4 yX4_insert yX4_insert, Cond.code yX4_insert cX4_insert 6 (some .int), Cond.instanceMethod yX5_begin, Cond.selects RX5 yX5_begin yX5_begin, Cond.code yX5_begin cX5_begin 4 none, Cond.methodLink RX5 34 yX5_loseOneAhead, Cond.instanceMethod yX5_loseOneAhead, Cond.selects RX5 yX5_loseOneAhead yX5_loseOneAhead, Cond.code yX5_loseOneAhead cX5_loseOneAhead 1 none, Cond.instanceMethod yX4_removeMember, Cond.selects RX4 yX4_removeMember yX4_removeMember, Cond.code yX4_removeMember cX4_removeMember 3 (some .int), Cond.methodLink RX4 59 yX4_placeOf, Cond.methodLink RX4 63 yX4_removeAt, Cond.instanceMethod yX4_removeAt, Cond.selects RX4 yX4_removeAt yX4_removeAt, Cond.code yX4_removeAt cX4_removeAt 4 none, Cond.instanceMethod yX4_tell, Cond.selects RX4 yX4_tell yX4_tell, Cond.code yX4_tell cX4_tell 5 (some .int), Cond.instanceMethod yX4_makeOffer]
def wsX6_serve_r7 : List Cond := [Cond.selects RX4 yX4_makeOffer yX4_makeOffer, Cond.code yX4_makeOffer cX4_makeOffer 5 (some .int), Cond.instanceMethod yX4_swapAsOffered, Cond.selects RX4 yX4_swapAsOffered yX4_swapAsOffered, Cond.code yX4_swapAsOffered cX4_swapAsOffered 2 (some .int), Cond.methodLink RX4 84 yX4_swapAt, Cond.instanceMethod yX4_swapAt, Cond.selects RX4 yX4_swapAt yX4_swapAt, Cond.code yX4_swapAt cX4_swapAt 5 (some .int), Cond.instanceMethod yX4_swapFairly, Cond.selects RX4 yX4_swapFairly yX4_swapFairly, Cond.code yX4_swapFairly cX4_swapFairly 2 (some .int), Cond.methodLink RX4 88 yX4_fairPrice, Cond.instanceMethod yX4_fairPrice, Cond.selects RX4 yX4_fairPrice yX4_fairPrice, Cond.code yX4_fairPrice cX4_fairPrice 6 (some .int), Cond.instanceMethod yX4_setFriends, Cond.selects RX4 yX4_setFriends yX4_setFriends, Cond.code yX4_setFriends cX4_setFriends 3 (some .int), Cond.methodLink RX4 80 yX4_friendPairs, Cond.instanceMethod yX4_friendPairs, Cond.selects RX4 yX4_friendPairs yX4_friendPairs, Cond.code yX4_friendPairs cX4_friendPairs 3 (some .int), Cond.instanceMethod yX4_serveFirst]
def wsX6_serve_r8 : List Cond := [Cond.selects RX4 yX4_serveFirst yX4_serveFirst, Cond.code yX4_serveFirst cX4_serveFirst 2 (some .int), Cond.instanceMethod yX4_settleDown, Cond.selects RX4 yX4_settleDown yX4_settleDown, Cond.code yX4_settleDown cX4_settleDown 3 (some .int), Cond.methodLink RX4 94 yX4_keenestPair, Cond.instanceMethod yX4_keenestPair, Cond.selects RX4 yX4_keenestPair yX4_keenestPair, Cond.code yX4_keenestPair cX4_keenestPair 5 (some .int), Cond.methodLink RX4 97 yX4_swapFairly]
def wsX6_serve : List Cond := .code yX6_serve cX6_serve 1 (some .int) :: ((wsX6_serve_r1 ++ (wsX6_serve_r2 ++ (wsX6_serve_r3 ++ (wsX6_serve_r4 ++ (wsX6_serve_r5 ++ (wsX6_serve_r6 ++ (wsX6_serve_r7 ++ wsX6_serve_r8))))))) ++ wsX60 ++ wsX40 ++ wsX50 ++ wsX30 ++ (vx_atS RX6 267 "java/lang/IndexOutOfBoundsException" ["java/lang/RuntimeException", "java/lang/Exception"]).filter goodWord ++ (vx_atS RX6 274 "java/lang/IllegalArgumentException" ["java/lang/RuntimeException", "java/lang/Exception"]).filter goodWord ++ (vx_atS RX6 279 "java/lang/IllegalStateException" ["java/lang/RuntimeException", "java/lang/Exception"]).filter goodWord)
def wsX6_say_r1 : List Cond := [Cond.fieldLink RX6 52 "ConsentQueue$Command" "SAY" "LConsentQueue$Command;", Cond.methodLink RX6 39 yX6_perform, Cond.instanceMethod yX6_perform, Cond.selects RX6 yX6_perform yX6_perform, Cond.initialized RX6, Cond.code yX6_perform cX6_perform 5 (some .int), Cond.fieldLink RX6 22 "ConsentQueue" "history" "LConsentQueue$History;", Cond.fieldLink RX6 10 "ConsentQueue" "line" "LConsentQueue$Line;", Cond.methodLink RX6 198 yX6_faultOf, Cond.instanceMethod yX6_faultOf, Cond.selects RX6 yX6_faultOf yX6_faultOf, Cond.code yX6_faultOf cX6_faultOf 5 (some .int), Cond.fieldLink RX6 206 "ConsentQueue$1" "$SwitchMap$ConsentQueue$Command" "[I", Cond.methodLink RX6 212 ⟨"ConsentQueue$Command", "ordinal", "()I"⟩, Cond.sameMethod "ConsentQueue$Command" "java/lang/Enum" "ordinal" "()I", Cond.selects RX1 ⟨"ConsentQueue$Command", "ordinal", "()I"⟩ yJx29ce0_ordinal_8abf5, Cond.instanceMethod yJx29ce0_ordinal_8abf5, Cond.initialized RJx29ce0, Cond.code yJx29ce0_ordinal_8abf5 cJx29ce0_ordinal_8abf5 1 (some .int), Cond.fieldLink RJx29ce0 7 "java/lang/Enum" "ordinal" "I", Cond.methodLink RX6 215 yX6_joinFault, Cond.instanceMethod yX6_joinFault, Cond.selects RX6 yX6_joinFault yX6_joinFault, Cond.code yX6_joinFault cX6_joinFault 5 (some .int)]
def wsX6_say_r2 : List Cond := [Cond.methodLink RX6 55 yX6_isWithin, Cond.static yX6_isWithin, Cond.code yX6_isWithin cX6_isWithin 3 (some .boolean), Cond.instanceMethod yX4_memberAt, Cond.initialized RX4, Cond.selects RX4 yX4_memberAt yX4_memberAt, Cond.code yX4_memberAt cX4_memberAt 3 (some (.object "ConsentQueue$Member")), Cond.fieldLink RX4 26 "ConsentQueue$Line" "count" "I", Cond.fieldLink RX4 11 "ConsentQueue$Line" "members" "[LConsentQueue$Member;", Cond.fieldLink RX4 18 "ConsentQueue$Line" "nobody" "LConsentQueue$Member;", Cond.instanceMethod yX4_placeOf, Cond.selects RX4 yX4_placeOf yX4_placeOf, Cond.code yX4_placeOf cX4_placeOf 3 (some .int), Cond.methodLink RX4 41 yX4_memberAt, Cond.methodLink RX6 93 yX6_memberFault, Cond.instanceMethod yX6_memberFault, Cond.selects RX6 yX6_memberFault yX6_memberFault, Cond.code yX6_memberFault cX6_memberFault 3 (some .int), Cond.methodLink RX6 219 yX6_offerFault, Cond.instanceMethod yX6_offerFault, Cond.selects RX6 yX6_offerFault yX6_offerFault, Cond.code yX6_offerFault cX6_offerFault 4 (some .int), Cond.methodLink RX6 222 yX6_takeFault, Cond.instanceMethod yX6_takeFault]
def wsX6_say_r3 : List Cond := [Cond.selects RX6 yX6_takeFault yX6_takeFault, Cond.code yX6_takeFault cX6_takeFault 3 (some .int), Cond.instanceMethod yX4_wouldTake, Cond.selects RX4 yX4_wouldTake yX4_wouldTake, Cond.code yX4_wouldTake cX4_wouldTake 3 (some .boolean), Cond.methodLink RX4 113 yX4_loss, Cond.instanceMethod yX4_loss, Cond.selects RX4 yX4_loss yX4_loss, Cond.code yX4_loss cX4_loss 2 (some .int), Cond.methodLink RX4 103 yX4_isHeldByFriends, Cond.instanceMethod yX4_isHeldByFriends, Cond.selects RX4 yX4_isHeldByFriends yX4_isHeldByFriends, Cond.code yX4_isHeldByFriends cX4_isHeldByFriends 2 (some .boolean), Cond.instanceMethod yX4_wouldSwap, Cond.selects RX4 yX4_wouldSwap yX4_wouldSwap, Cond.code yX4_wouldSwap cX4_wouldSwap 2 (some .boolean), Cond.methodLink RX4 110 yX4_hindrance, Cond.instanceMethod yX4_hindrance, Cond.selects RX4 yX4_hindrance yX4_hindrance, Cond.code yX4_hindrance cX4_hindrance 2 (some .int), Cond.methodLink RX4 116 yX4_areFriends, Cond.instanceMethod yX4_areFriends, Cond.selects RX4 yX4_areFriends yX4_areFriends, Cond.code yX4_areFriends cX4_areFriends 2 (some .boolean)]
def wsX6_say_r4 : List Cond := [Cond.methodLink RX4 100 yX4_surplus, Cond.instanceMethod yX4_surplus, Cond.selects RX4 yX4_surplus yX4_surplus, Cond.code yX4_surplus cX4_surplus 4 (some .int), Cond.methodLink RX6 110 yX6_pairFault, Cond.instanceMethod yX6_pairFault, Cond.selects RX6 yX6_pairFault yX6_pairFault, Cond.code yX6_pairFault cX6_pairFault 4 (some .int), Cond.methodLink RX6 59 yX6_refuse, Cond.static yX6_refuse, Cond.code yX6_refuse cX6_refuse 1 none, Cond.classLink RX6 263 "java/lang/IndexOutOfBoundsException", Cond.initialized "java/lang/IndexOutOfBoundsException", Cond.classLink RX6 270 "java/lang/IllegalArgumentException", Cond.initialized "java/lang/IllegalArgumentException", Cond.classLink RX6 275 "java/lang/IllegalStateException", Cond.initialized "java/lang/IllegalStateException", Cond.instanceMethod yX3_push, Cond.initialized RX3, Cond.selects RX3 yX3_push yX3_push, Cond.code yX3_push cX3_push 3 none, Cond.fieldLink RX3 18 "ConsentQueue$History" "size" "I", Cond.fieldLink RX3 11 "ConsentQueue$History" "saved" "[LConsentQueue$Line;", Cond.methodLink RX3 22 yX3_dropOldest]
def wsX6_say_r5 : List Cond := [Cond.instanceMethod yX3_dropOldest, Cond.selects RX3 yX3_dropOldest yX3_dropOldest, Cond.code yX3_dropOldest cX3_dropOldest 3 none, Cond.instanceMethod yX4_copyFrom, Cond.selects RX4 yX4_copyFrom yX4_copyFrom, Cond.code yX4_copyFrom cX4_copyFrom 3 none, Cond.fieldLink RX4 22 "ConsentQueue$Line" "split" "I", Cond.fieldLink RX4 29 "ConsentQueue$Line" "swaps" "I", Cond.fieldLink RX4 32 "ConsentQueue$Line" "paid" "I", Cond.fieldLink RX4 35 "ConsentQueue$Line" "served" "I", Cond.fieldLink RX4 38 "ConsentQueue$Line" "joined" "I", Cond.instanceMethod yX5_copyFrom, Cond.initialized RX5, Cond.selects RX5 yX5_copyFrom yX5_copyFrom, Cond.code yX5_copyFrom cX5_copyFrom 2 none, Cond.fieldLink RX5 9 "ConsentQueue$Member" "number" "I", Cond.fieldLink RX5 18 "ConsentQueue$Member" "worth" "I", Cond.fieldLink RX5 21 "ConsentQueue$Member" "told" "I", Cond.fieldLink RX5 24 "ConsentQueue$Member" "service" "I", Cond.fieldLink RX5 27 "ConsentQueue$Member" "money" "I", Cond.fieldLink RX5 15 "ConsentQueue$Member" "offer" "I", Cond.fieldLink RX5 30 "ConsentQueue$Member" "friendAhead" "Z", Cond.methodLink RX6 201 yX6_carryOut, Cond.instanceMethod yX6_carryOut]
def wsX6_say_r6 : List Cond := [Cond.selects RX6 yX6_carryOut yX6_carryOut, Cond.code yX6_carryOut cX6_carryOut 5 (some .int), Cond.instanceMethod yX4_insert, Cond.selects RX4 yX4_insert yX4_insert, Cond.code yX4_insert cX4_insert 6 (some .int), Cond.instanceMethod yX5_begin, Cond.selects RX5 yX5_begin yX5_begin, Cond.code yX5_begin cX5_begin 4 none, Cond.methodLink RX5 34 yX5_loseOneAhead, Cond.instanceMethod yX5_loseOneAhead, Cond.selects RX5 yX5_loseOneAhead yX5_loseOneAhead, Cond.code yX5_loseOneAhead cX5_loseOneAhead 1 none, Cond.instanceMethod yX4_removeMember, Cond.selects RX4 yX4_removeMember yX4_removeMember, Cond.code yX4_removeMember cX4_removeMember 3 (some .int), Cond.methodLink RX4 59 yX4_placeOf, Cond.methodLink RX4 63 yX4_removeAt, Cond.instanceMethod yX4_removeAt, Cond.selects RX4 yX4_removeAt yX4_removeAt, Cond.code yX4_removeAt cX4_removeAt 4 none, Cond.instanceMethod yX4_tell, Cond.selects RX4 yX4_tell yX4_tell, Cond.code yX4_tell cX4_tell 5 (some .int), Cond.instanceMethod yX4_makeOffer]
def wsX6_say_r7 : List Cond := [Cond.selects RX4 yX4_makeOffer yX4_makeOffer, Cond.code yX4_makeOffer cX4_makeOffer 5 (some .int), Cond.instanceMethod yX4_swapAsOffered, Cond.selects RX4 yX4_swapAsOffered yX4_swapAsOffered, Cond.code yX4_swapAsOffered cX4_swapAsOffered 2 (some .int), Cond.methodLink RX4 84 yX4_swapAt, Cond.instanceMethod yX4_swapAt, Cond.selects RX4 yX4_swapAt yX4_swapAt, Cond.code yX4_swapAt cX4_swapAt 5 (some .int), Cond.instanceMethod yX4_swapFairly, Cond.selects RX4 yX4_swapFairly yX4_swapFairly, Cond.code yX4_swapFairly cX4_swapFairly 2 (some .int), Cond.methodLink RX4 88 yX4_fairPrice, Cond.instanceMethod yX4_fairPrice, Cond.selects RX4 yX4_fairPrice yX4_fairPrice, Cond.code yX4_fairPrice cX4_fairPrice 6 (some .int), Cond.instanceMethod yX4_setFriends, Cond.selects RX4 yX4_setFriends yX4_setFriends, Cond.code yX4_setFriends cX4_setFriends 3 (some .int), Cond.methodLink RX4 80 yX4_friendPairs, Cond.instanceMethod yX4_friendPairs, Cond.selects RX4 yX4_friendPairs yX4_friendPairs, Cond.code yX4_friendPairs cX4_friendPairs 3 (some .int), Cond.instanceMethod yX4_serveFirst]
def wsX6_say_r8 : List Cond := [Cond.selects RX4 yX4_serveFirst yX4_serveFirst, Cond.code yX4_serveFirst cX4_serveFirst 2 (some .int), Cond.instanceMethod yX4_settleDown, Cond.selects RX4 yX4_settleDown yX4_settleDown, Cond.code yX4_settleDown cX4_settleDown 3 (some .int), Cond.methodLink RX4 94 yX4_keenestPair, Cond.instanceMethod yX4_keenestPair, Cond.selects RX4 yX4_keenestPair yX4_keenestPair, Cond.code yX4_keenestPair cX4_keenestPair 5 (some .int), Cond.methodLink RX4 97 yX4_swapFairly]
def wsX6_say : List Cond := .code yX6_say cX6_say 3 (some .int) :: ((wsX6_say_r1 ++ (wsX6_say_r2 ++ (wsX6_say_r3 ++ (wsX6_say_r4 ++ (wsX6_say_r5 ++ (wsX6_say_r6 ++ (wsX6_say_r7 ++ wsX6_say_r8))))))) ++ wsX60 ++ wsX40 ++ wsX50 ++ wsX30 ++ (vx_atS RX6 267 "java/lang/IndexOutOfBoundsException" ["java/lang/RuntimeException", "java/lang/Exception"]).filter goodWord ++ (vx_atS RX6 274 "java/lang/IllegalArgumentException" ["java/lang/RuntimeException", "java/lang/Exception"]).filter goodWord ++ (vx_atS RX6 279 "java/lang/IllegalStateException" ["java/lang/RuntimeException", "java/lang/Exception"]).filter goodWord)
def wsX6_setSplit_r1 : List Cond := [Cond.fieldLink RX6 22 "ConsentQueue" "history" "LConsentQueue$History;", Cond.fieldLink RX6 10 "ConsentQueue" "line" "LConsentQueue$Line;", Cond.methodLink RX6 55 yX6_isWithin, Cond.static yX6_isWithin, Cond.initialized RX6, Cond.code yX6_isWithin cX6_isWithin 3 (some .boolean), Cond.methodLink RX6 59 yX6_refuse, Cond.static yX6_refuse, Cond.code yX6_refuse cX6_refuse 1 none, Cond.classLink RX6 263 "java/lang/IndexOutOfBoundsException", Cond.initialized "java/lang/IndexOutOfBoundsException", Cond.classLink RX6 270 "java/lang/IllegalArgumentException", Cond.initialized "java/lang/IllegalArgumentException", Cond.classLink RX6 275 "java/lang/IllegalStateException", Cond.initialized "java/lang/IllegalStateException", Cond.instanceMethod yX3_push, Cond.initialized RX3, Cond.selects RX3 yX3_push yX3_push, Cond.code yX3_push cX3_push 3 none, Cond.fieldLink RX3 18 "ConsentQueue$History" "size" "I", Cond.fieldLink RX3 11 "ConsentQueue$History" "saved" "[LConsentQueue$Line;", Cond.methodLink RX3 22 yX3_dropOldest, Cond.instanceMethod yX3_dropOldest, Cond.selects RX3 yX3_dropOldest yX3_dropOldest]
def wsX6_setSplit_r2 : List Cond := [Cond.code yX3_dropOldest cX3_dropOldest 3 none, Cond.instanceMethod yX4_copyFrom, Cond.initialized RX4, Cond.selects RX4 yX4_copyFrom yX4_copyFrom, Cond.code yX4_copyFrom cX4_copyFrom 3 none, Cond.fieldLink RX4 26 "ConsentQueue$Line" "count" "I", Cond.fieldLink RX4 22 "ConsentQueue$Line" "split" "I", Cond.fieldLink RX4 29 "ConsentQueue$Line" "swaps" "I", Cond.fieldLink RX4 32 "ConsentQueue$Line" "paid" "I", Cond.fieldLink RX4 35 "ConsentQueue$Line" "served" "I", Cond.fieldLink RX4 38 "ConsentQueue$Line" "joined" "I", Cond.methodLink RX4 41 yX4_memberAt, Cond.instanceMethod yX4_memberAt, Cond.selects RX4 yX4_memberAt yX4_memberAt, Cond.code yX4_memberAt cX4_memberAt 3 (some (.object "ConsentQueue$Member")), Cond.fieldLink RX4 11 "ConsentQueue$Line" "members" "[LConsentQueue$Member;", Cond.fieldLink RX4 18 "ConsentQueue$Line" "nobody" "LConsentQueue$Member;", Cond.instanceMethod yX5_copyFrom, Cond.initialized RX5, Cond.selects RX5 yX5_copyFrom yX5_copyFrom, Cond.code yX5_copyFrom cX5_copyFrom 2 none, Cond.fieldLink RX5 9 "ConsentQueue$Member" "number" "I", Cond.fieldLink RX5 18 "ConsentQueue$Member" "worth" "I", Cond.fieldLink RX5 21 "ConsentQueue$Member" "told" "I"]
def wsX6_setSplit_r3 : List Cond := [Cond.fieldLink RX5 24 "ConsentQueue$Member" "service" "I", Cond.fieldLink RX5 27 "ConsentQueue$Member" "money" "I", Cond.fieldLink RX5 15 "ConsentQueue$Member" "offer" "I", Cond.fieldLink RX5 30 "ConsentQueue$Member" "friendAhead" "Z"]
def wsX6_setSplit : List Cond := .code yX6_setSplit cX6_setSplit 3 (some .int) :: ((wsX6_setSplit_r1 ++ (wsX6_setSplit_r2 ++ wsX6_setSplit_r3)) ++ wsX60 ++ wsX40 ++ wsX30 ++ wsX50 ++ (vx_atS RX6 267 "java/lang/IndexOutOfBoundsException" ["java/lang/RuntimeException", "java/lang/Exception"]).filter goodWord ++ (vx_atS RX6 274 "java/lang/IllegalArgumentException" ["java/lang/RuntimeException", "java/lang/Exception"]).filter goodWord ++ (vx_atS RX6 279 "java/lang/IllegalStateException" ["java/lang/RuntimeException", "java/lang/Exception"]).filter goodWord)
def wsX6_offer_r1 : List Cond := [Cond.fieldLink RX6 71 "ConsentQueue$Command" "OFFER" "LConsentQueue$Command;", Cond.methodLink RX6 39 yX6_perform, Cond.instanceMethod yX6_perform, Cond.selects RX6 yX6_perform yX6_perform, Cond.initialized RX6, Cond.code yX6_perform cX6_perform 5 (some .int), Cond.fieldLink RX6 22 "ConsentQueue" "history" "LConsentQueue$History;", Cond.fieldLink RX6 10 "ConsentQueue" "line" "LConsentQueue$Line;", Cond.methodLink RX6 198 yX6_faultOf, Cond.instanceMethod yX6_faultOf, Cond.selects RX6 yX6_faultOf yX6_faultOf, Cond.code yX6_faultOf cX6_faultOf 5 (some .int), Cond.fieldLink RX6 206 "ConsentQueue$1" "$SwitchMap$ConsentQueue$Command" "[I", Cond.methodLink RX6 212 ⟨"ConsentQueue$Command", "ordinal", "()I"⟩, Cond.sameMethod "ConsentQueue$Command" "java/lang/Enum" "ordinal" "()I", Cond.selects RX1 ⟨"ConsentQueue$Command", "ordinal", "()I"⟩ yJx29ce0_ordinal_8abf5, Cond.instanceMethod yJx29ce0_ordinal_8abf5, Cond.initialized RJx29ce0, Cond.code yJx29ce0_ordinal_8abf5 cJx29ce0_ordinal_8abf5 1 (some .int), Cond.fieldLink RJx29ce0 7 "java/lang/Enum" "ordinal" "I", Cond.methodLink RX6 215 yX6_joinFault, Cond.instanceMethod yX6_joinFault, Cond.selects RX6 yX6_joinFault yX6_joinFault, Cond.code yX6_joinFault cX6_joinFault 5 (some .int)]
def wsX6_offer_r2 : List Cond := [Cond.methodLink RX6 55 yX6_isWithin, Cond.static yX6_isWithin, Cond.code yX6_isWithin cX6_isWithin 3 (some .boolean), Cond.instanceMethod yX4_memberAt, Cond.initialized RX4, Cond.selects RX4 yX4_memberAt yX4_memberAt, Cond.code yX4_memberAt cX4_memberAt 3 (some (.object "ConsentQueue$Member")), Cond.fieldLink RX4 26 "ConsentQueue$Line" "count" "I", Cond.fieldLink RX4 11 "ConsentQueue$Line" "members" "[LConsentQueue$Member;", Cond.fieldLink RX4 18 "ConsentQueue$Line" "nobody" "LConsentQueue$Member;", Cond.instanceMethod yX4_placeOf, Cond.selects RX4 yX4_placeOf yX4_placeOf, Cond.code yX4_placeOf cX4_placeOf 3 (some .int), Cond.methodLink RX4 41 yX4_memberAt, Cond.methodLink RX6 93 yX6_memberFault, Cond.instanceMethod yX6_memberFault, Cond.selects RX6 yX6_memberFault yX6_memberFault, Cond.code yX6_memberFault cX6_memberFault 3 (some .int), Cond.methodLink RX6 219 yX6_offerFault, Cond.instanceMethod yX6_offerFault, Cond.selects RX6 yX6_offerFault yX6_offerFault, Cond.code yX6_offerFault cX6_offerFault 4 (some .int), Cond.methodLink RX6 222 yX6_takeFault, Cond.instanceMethod yX6_takeFault]
def wsX6_offer_r3 : List Cond := [Cond.selects RX6 yX6_takeFault yX6_takeFault, Cond.code yX6_takeFault cX6_takeFault 3 (some .int), Cond.instanceMethod yX4_wouldTake, Cond.selects RX4 yX4_wouldTake yX4_wouldTake, Cond.code yX4_wouldTake cX4_wouldTake 3 (some .boolean), Cond.methodLink RX4 113 yX4_loss, Cond.instanceMethod yX4_loss, Cond.selects RX4 yX4_loss yX4_loss, Cond.code yX4_loss cX4_loss 2 (some .int), Cond.methodLink RX4 103 yX4_isHeldByFriends, Cond.instanceMethod yX4_isHeldByFriends, Cond.selects RX4 yX4_isHeldByFriends yX4_isHeldByFriends, Cond.code yX4_isHeldByFriends cX4_isHeldByFriends 2 (some .boolean), Cond.instanceMethod yX4_wouldSwap, Cond.selects RX4 yX4_wouldSwap yX4_wouldSwap, Cond.code yX4_wouldSwap cX4_wouldSwap 2 (some .boolean), Cond.methodLink RX4 110 yX4_hindrance, Cond.instanceMethod yX4_hindrance, Cond.selects RX4 yX4_hindrance yX4_hindrance, Cond.code yX4_hindrance cX4_hindrance 2 (some .int), Cond.methodLink RX4 116 yX4_areFriends, Cond.instanceMethod yX4_areFriends, Cond.selects RX4 yX4_areFriends yX4_areFriends, Cond.code yX4_areFriends cX4_areFriends 2 (some .boolean)]
def wsX6_offer_r4 : List Cond := [Cond.methodLink RX4 100 yX4_surplus, Cond.instanceMethod yX4_surplus, Cond.selects RX4 yX4_surplus yX4_surplus, Cond.code yX4_surplus cX4_surplus 4 (some .int), Cond.methodLink RX6 110 yX6_pairFault, Cond.instanceMethod yX6_pairFault, Cond.selects RX6 yX6_pairFault yX6_pairFault, Cond.code yX6_pairFault cX6_pairFault 4 (some .int), Cond.methodLink RX6 59 yX6_refuse, Cond.static yX6_refuse, Cond.code yX6_refuse cX6_refuse 1 none, Cond.classLink RX6 263 "java/lang/IndexOutOfBoundsException", Cond.initialized "java/lang/IndexOutOfBoundsException", Cond.classLink RX6 270 "java/lang/IllegalArgumentException", Cond.initialized "java/lang/IllegalArgumentException", Cond.classLink RX6 275 "java/lang/IllegalStateException", Cond.initialized "java/lang/IllegalStateException", Cond.instanceMethod yX3_push, Cond.initialized RX3, Cond.selects RX3 yX3_push yX3_push, Cond.code yX3_push cX3_push 3 none, Cond.fieldLink RX3 18 "ConsentQueue$History" "size" "I", Cond.fieldLink RX3 11 "ConsentQueue$History" "saved" "[LConsentQueue$Line;", Cond.methodLink RX3 22 yX3_dropOldest]
def wsX6_offer_r5 : List Cond := [Cond.instanceMethod yX3_dropOldest, Cond.selects RX3 yX3_dropOldest yX3_dropOldest, Cond.code yX3_dropOldest cX3_dropOldest 3 none, Cond.instanceMethod yX4_copyFrom, Cond.selects RX4 yX4_copyFrom yX4_copyFrom, Cond.code yX4_copyFrom cX4_copyFrom 3 none, Cond.fieldLink RX4 22 "ConsentQueue$Line" "split" "I", Cond.fieldLink RX4 29 "ConsentQueue$Line" "swaps" "I", Cond.fieldLink RX4 32 "ConsentQueue$Line" "paid" "I", Cond.fieldLink RX4 35 "ConsentQueue$Line" "served" "I", Cond.fieldLink RX4 38 "ConsentQueue$Line" "joined" "I", Cond.instanceMethod yX5_copyFrom, Cond.initialized RX5, Cond.selects RX5 yX5_copyFrom yX5_copyFrom, Cond.code yX5_copyFrom cX5_copyFrom 2 none, Cond.fieldLink RX5 9 "ConsentQueue$Member" "number" "I", Cond.fieldLink RX5 18 "ConsentQueue$Member" "worth" "I", Cond.fieldLink RX5 21 "ConsentQueue$Member" "told" "I", Cond.fieldLink RX5 24 "ConsentQueue$Member" "service" "I", Cond.fieldLink RX5 27 "ConsentQueue$Member" "money" "I", Cond.fieldLink RX5 15 "ConsentQueue$Member" "offer" "I", Cond.fieldLink RX5 30 "ConsentQueue$Member" "friendAhead" "Z", Cond.methodLink RX6 201 yX6_carryOut, Cond.instanceMethod yX6_carryOut]
def wsX6_offer_r6 : List Cond := [Cond.selects RX6 yX6_carryOut yX6_carryOut, Cond.code yX6_carryOut cX6_carryOut 5 (some .int), Cond.instanceMethod yX4_insert, Cond.selects RX4 yX4_insert yX4_insert, Cond.code yX4_insert cX4_insert 6 (some .int), Cond.instanceMethod yX5_begin, Cond.selects RX5 yX5_begin yX5_begin, Cond.code yX5_begin cX5_begin 4 none, Cond.methodLink RX5 34 yX5_loseOneAhead, Cond.instanceMethod yX5_loseOneAhead, Cond.selects RX5 yX5_loseOneAhead yX5_loseOneAhead, Cond.code yX5_loseOneAhead cX5_loseOneAhead 1 none, Cond.instanceMethod yX4_removeMember, Cond.selects RX4 yX4_removeMember yX4_removeMember, Cond.code yX4_removeMember cX4_removeMember 3 (some .int), Cond.methodLink RX4 59 yX4_placeOf, Cond.methodLink RX4 63 yX4_removeAt, Cond.instanceMethod yX4_removeAt, Cond.selects RX4 yX4_removeAt yX4_removeAt, Cond.code yX4_removeAt cX4_removeAt 4 none, Cond.instanceMethod yX4_tell, Cond.selects RX4 yX4_tell yX4_tell, Cond.code yX4_tell cX4_tell 5 (some .int), Cond.instanceMethod yX4_makeOffer]
def wsX6_offer_r7 : List Cond := [Cond.selects RX4 yX4_makeOffer yX4_makeOffer, Cond.code yX4_makeOffer cX4_makeOffer 5 (some .int), Cond.instanceMethod yX4_swapAsOffered, Cond.selects RX4 yX4_swapAsOffered yX4_swapAsOffered, Cond.code yX4_swapAsOffered cX4_swapAsOffered 2 (some .int), Cond.methodLink RX4 84 yX4_swapAt, Cond.instanceMethod yX4_swapAt, Cond.selects RX4 yX4_swapAt yX4_swapAt, Cond.code yX4_swapAt cX4_swapAt 5 (some .int), Cond.instanceMethod yX4_swapFairly, Cond.selects RX4 yX4_swapFairly yX4_swapFairly, Cond.code yX4_swapFairly cX4_swapFairly 2 (some .int), Cond.methodLink RX4 88 yX4_fairPrice, Cond.instanceMethod yX4_fairPrice, Cond.selects RX4 yX4_fairPrice yX4_fairPrice, Cond.code yX4_fairPrice cX4_fairPrice 6 (some .int), Cond.instanceMethod yX4_setFriends, Cond.selects RX4 yX4_setFriends yX4_setFriends, Cond.code yX4_setFriends cX4_setFriends 3 (some .int), Cond.methodLink RX4 80 yX4_friendPairs, Cond.instanceMethod yX4_friendPairs, Cond.selects RX4 yX4_friendPairs yX4_friendPairs, Cond.code yX4_friendPairs cX4_friendPairs 3 (some .int), Cond.instanceMethod yX4_serveFirst]
def wsX6_offer_r8 : List Cond := [Cond.selects RX4 yX4_serveFirst yX4_serveFirst, Cond.code yX4_serveFirst cX4_serveFirst 2 (some .int), Cond.instanceMethod yX4_settleDown, Cond.selects RX4 yX4_settleDown yX4_settleDown, Cond.code yX4_settleDown cX4_settleDown 3 (some .int), Cond.methodLink RX4 94 yX4_keenestPair, Cond.instanceMethod yX4_keenestPair, Cond.selects RX4 yX4_keenestPair yX4_keenestPair, Cond.code yX4_keenestPair cX4_keenestPair 5 (some .int), Cond.methodLink RX4 97 yX4_swapFairly]
def wsX6_offer : List Cond := .code yX6_offer cX6_offer 3 (some .int) :: ((wsX6_offer_r1 ++ (wsX6_offer_r2 ++ (wsX6_offer_r3 ++ (wsX6_offer_r4 ++ (wsX6_offer_r5 ++ (wsX6_offer_r6 ++ (wsX6_offer_r7 ++ wsX6_offer_r8))))))) ++ wsX60 ++ wsX40 ++ wsX50 ++ wsX30 ++ (vx_atS RX6 267 "java/lang/IndexOutOfBoundsException" ["java/lang/RuntimeException", "java/lang/Exception"]).filter goodWord ++ (vx_atS RX6 274 "java/lang/IllegalArgumentException" ["java/lang/RuntimeException", "java/lang/Exception"]).filter goodWord ++ (vx_atS RX6 279 "java/lang/IllegalStateException" ["java/lang/RuntimeException", "java/lang/Exception"]).filter goodWord)
def wsX6_take_r1 : List Cond := [Cond.fieldLink RX6 74 "ConsentQueue$Command" "TAKE" "LConsentQueue$Command;", Cond.methodLink RX6 39 yX6_perform, Cond.instanceMethod yX6_perform, Cond.selects RX6 yX6_perform yX6_perform, Cond.initialized RX6, Cond.code yX6_perform cX6_perform 5 (some .int), Cond.fieldLink RX6 22 "ConsentQueue" "history" "LConsentQueue$History;", Cond.fieldLink RX6 10 "ConsentQueue" "line" "LConsentQueue$Line;", Cond.methodLink RX6 198 yX6_faultOf, Cond.instanceMethod yX6_faultOf, Cond.selects RX6 yX6_faultOf yX6_faultOf, Cond.code yX6_faultOf cX6_faultOf 5 (some .int), Cond.fieldLink RX6 206 "ConsentQueue$1" "$SwitchMap$ConsentQueue$Command" "[I", Cond.methodLink RX6 212 ⟨"ConsentQueue$Command", "ordinal", "()I"⟩, Cond.sameMethod "ConsentQueue$Command" "java/lang/Enum" "ordinal" "()I", Cond.selects RX1 ⟨"ConsentQueue$Command", "ordinal", "()I"⟩ yJx29ce0_ordinal_8abf5, Cond.instanceMethod yJx29ce0_ordinal_8abf5, Cond.initialized RJx29ce0, Cond.code yJx29ce0_ordinal_8abf5 cJx29ce0_ordinal_8abf5 1 (some .int), Cond.fieldLink RJx29ce0 7 "java/lang/Enum" "ordinal" "I", Cond.methodLink RX6 215 yX6_joinFault, Cond.instanceMethod yX6_joinFault, Cond.selects RX6 yX6_joinFault yX6_joinFault, Cond.code yX6_joinFault cX6_joinFault 5 (some .int)]
def wsX6_take_r2 : List Cond := [Cond.methodLink RX6 55 yX6_isWithin, Cond.static yX6_isWithin, Cond.code yX6_isWithin cX6_isWithin 3 (some .boolean), Cond.instanceMethod yX4_memberAt, Cond.initialized RX4, Cond.selects RX4 yX4_memberAt yX4_memberAt, Cond.code yX4_memberAt cX4_memberAt 3 (some (.object "ConsentQueue$Member")), Cond.fieldLink RX4 26 "ConsentQueue$Line" "count" "I", Cond.fieldLink RX4 11 "ConsentQueue$Line" "members" "[LConsentQueue$Member;", Cond.fieldLink RX4 18 "ConsentQueue$Line" "nobody" "LConsentQueue$Member;", Cond.instanceMethod yX4_placeOf, Cond.selects RX4 yX4_placeOf yX4_placeOf, Cond.code yX4_placeOf cX4_placeOf 3 (some .int), Cond.methodLink RX4 41 yX4_memberAt, Cond.methodLink RX6 93 yX6_memberFault, Cond.instanceMethod yX6_memberFault, Cond.selects RX6 yX6_memberFault yX6_memberFault, Cond.code yX6_memberFault cX6_memberFault 3 (some .int), Cond.methodLink RX6 219 yX6_offerFault, Cond.instanceMethod yX6_offerFault, Cond.selects RX6 yX6_offerFault yX6_offerFault, Cond.code yX6_offerFault cX6_offerFault 4 (some .int), Cond.methodLink RX6 222 yX6_takeFault, Cond.instanceMethod yX6_takeFault]
def wsX6_take_r3 : List Cond := [Cond.selects RX6 yX6_takeFault yX6_takeFault, Cond.code yX6_takeFault cX6_takeFault 3 (some .int), Cond.instanceMethod yX4_wouldTake, Cond.selects RX4 yX4_wouldTake yX4_wouldTake, Cond.code yX4_wouldTake cX4_wouldTake 3 (some .boolean), Cond.methodLink RX4 113 yX4_loss, Cond.instanceMethod yX4_loss, Cond.selects RX4 yX4_loss yX4_loss, Cond.code yX4_loss cX4_loss 2 (some .int), Cond.methodLink RX4 103 yX4_isHeldByFriends, Cond.instanceMethod yX4_isHeldByFriends, Cond.selects RX4 yX4_isHeldByFriends yX4_isHeldByFriends, Cond.code yX4_isHeldByFriends cX4_isHeldByFriends 2 (some .boolean), Cond.instanceMethod yX4_wouldSwap, Cond.selects RX4 yX4_wouldSwap yX4_wouldSwap, Cond.code yX4_wouldSwap cX4_wouldSwap 2 (some .boolean), Cond.methodLink RX4 110 yX4_hindrance, Cond.instanceMethod yX4_hindrance, Cond.selects RX4 yX4_hindrance yX4_hindrance, Cond.code yX4_hindrance cX4_hindrance 2 (some .int), Cond.methodLink RX4 116 yX4_areFriends, Cond.instanceMethod yX4_areFriends, Cond.selects RX4 yX4_areFriends yX4_areFriends, Cond.code yX4_areFriends cX4_areFriends 2 (some .boolean)]
def wsX6_take_r4 : List Cond := [Cond.methodLink RX4 100 yX4_surplus, Cond.instanceMethod yX4_surplus, Cond.selects RX4 yX4_surplus yX4_surplus, Cond.code yX4_surplus cX4_surplus 4 (some .int), Cond.methodLink RX6 110 yX6_pairFault, Cond.instanceMethod yX6_pairFault, Cond.selects RX6 yX6_pairFault yX6_pairFault, Cond.code yX6_pairFault cX6_pairFault 4 (some .int), Cond.methodLink RX6 59 yX6_refuse, Cond.static yX6_refuse, Cond.code yX6_refuse cX6_refuse 1 none, Cond.classLink RX6 263 "java/lang/IndexOutOfBoundsException", Cond.initialized "java/lang/IndexOutOfBoundsException", Cond.classLink RX6 270 "java/lang/IllegalArgumentException", Cond.initialized "java/lang/IllegalArgumentException", Cond.classLink RX6 275 "java/lang/IllegalStateException", Cond.initialized "java/lang/IllegalStateException", Cond.instanceMethod yX3_push, Cond.initialized RX3, Cond.selects RX3 yX3_push yX3_push, Cond.code yX3_push cX3_push 3 none, Cond.fieldLink RX3 18 "ConsentQueue$History" "size" "I", Cond.fieldLink RX3 11 "ConsentQueue$History" "saved" "[LConsentQueue$Line;", Cond.methodLink RX3 22 yX3_dropOldest]
def wsX6_take_r5 : List Cond := [Cond.instanceMethod yX3_dropOldest, Cond.selects RX3 yX3_dropOldest yX3_dropOldest, Cond.code yX3_dropOldest cX3_dropOldest 3 none, Cond.instanceMethod yX4_copyFrom, Cond.selects RX4 yX4_copyFrom yX4_copyFrom, Cond.code yX4_copyFrom cX4_copyFrom 3 none, Cond.fieldLink RX4 22 "ConsentQueue$Line" "split" "I", Cond.fieldLink RX4 29 "ConsentQueue$Line" "swaps" "I", Cond.fieldLink RX4 32 "ConsentQueue$Line" "paid" "I", Cond.fieldLink RX4 35 "ConsentQueue$Line" "served" "I", Cond.fieldLink RX4 38 "ConsentQueue$Line" "joined" "I", Cond.instanceMethod yX5_copyFrom, Cond.initialized RX5, Cond.selects RX5 yX5_copyFrom yX5_copyFrom, Cond.code yX5_copyFrom cX5_copyFrom 2 none, Cond.fieldLink RX5 9 "ConsentQueue$Member" "number" "I", Cond.fieldLink RX5 18 "ConsentQueue$Member" "worth" "I", Cond.fieldLink RX5 21 "ConsentQueue$Member" "told" "I", Cond.fieldLink RX5 24 "ConsentQueue$Member" "service" "I", Cond.fieldLink RX5 27 "ConsentQueue$Member" "money" "I", Cond.fieldLink RX5 15 "ConsentQueue$Member" "offer" "I", Cond.fieldLink RX5 30 "ConsentQueue$Member" "friendAhead" "Z", Cond.methodLink RX6 201 yX6_carryOut, Cond.instanceMethod yX6_carryOut]
def wsX6_take_r6 : List Cond := [Cond.selects RX6 yX6_carryOut yX6_carryOut, Cond.code yX6_carryOut cX6_carryOut 5 (some .int), Cond.instanceMethod yX4_insert, Cond.selects RX4 yX4_insert yX4_insert, Cond.code yX4_insert cX4_insert 6 (some .int), Cond.instanceMethod yX5_begin, Cond.selects RX5 yX5_begin yX5_begin, Cond.code yX5_begin cX5_begin 4 none, Cond.methodLink RX5 34 yX5_loseOneAhead, Cond.instanceMethod yX5_loseOneAhead, Cond.selects RX5 yX5_loseOneAhead yX5_loseOneAhead, Cond.code yX5_loseOneAhead cX5_loseOneAhead 1 none, Cond.instanceMethod yX4_removeMember, Cond.selects RX4 yX4_removeMember yX4_removeMember, Cond.code yX4_removeMember cX4_removeMember 3 (some .int), Cond.methodLink RX4 59 yX4_placeOf, Cond.methodLink RX4 63 yX4_removeAt, Cond.instanceMethod yX4_removeAt, Cond.selects RX4 yX4_removeAt yX4_removeAt, Cond.code yX4_removeAt cX4_removeAt 4 none, Cond.instanceMethod yX4_tell, Cond.selects RX4 yX4_tell yX4_tell, Cond.code yX4_tell cX4_tell 5 (some .int), Cond.instanceMethod yX4_makeOffer]
def wsX6_take_r7 : List Cond := [Cond.selects RX4 yX4_makeOffer yX4_makeOffer, Cond.code yX4_makeOffer cX4_makeOffer 5 (some .int), Cond.instanceMethod yX4_swapAsOffered, Cond.selects RX4 yX4_swapAsOffered yX4_swapAsOffered, Cond.code yX4_swapAsOffered cX4_swapAsOffered 2 (some .int), Cond.methodLink RX4 84 yX4_swapAt, Cond.instanceMethod yX4_swapAt, Cond.selects RX4 yX4_swapAt yX4_swapAt, Cond.code yX4_swapAt cX4_swapAt 5 (some .int), Cond.instanceMethod yX4_swapFairly, Cond.selects RX4 yX4_swapFairly yX4_swapFairly, Cond.code yX4_swapFairly cX4_swapFairly 2 (some .int), Cond.methodLink RX4 88 yX4_fairPrice, Cond.instanceMethod yX4_fairPrice, Cond.selects RX4 yX4_fairPrice yX4_fairPrice, Cond.code yX4_fairPrice cX4_fairPrice 6 (some .int), Cond.instanceMethod yX4_setFriends, Cond.selects RX4 yX4_setFriends yX4_setFriends, Cond.code yX4_setFriends cX4_setFriends 3 (some .int), Cond.methodLink RX4 80 yX4_friendPairs, Cond.instanceMethod yX4_friendPairs, Cond.selects RX4 yX4_friendPairs yX4_friendPairs, Cond.code yX4_friendPairs cX4_friendPairs 3 (some .int), Cond.instanceMethod yX4_serveFirst]
def wsX6_take_r8 : List Cond := [Cond.selects RX4 yX4_serveFirst yX4_serveFirst, Cond.code yX4_serveFirst cX4_serveFirst 2 (some .int), Cond.instanceMethod yX4_settleDown, Cond.selects RX4 yX4_settleDown yX4_settleDown, Cond.code yX4_settleDown cX4_settleDown 3 (some .int), Cond.methodLink RX4 94 yX4_keenestPair, Cond.instanceMethod yX4_keenestPair, Cond.selects RX4 yX4_keenestPair yX4_keenestPair, Cond.code yX4_keenestPair cX4_keenestPair 5 (some .int), Cond.methodLink RX4 97 yX4_swapFairly]
def wsX6_take : List Cond := .code yX6_take cX6_take 2 (some .int) :: ((wsX6_take_r1 ++ (wsX6_take_r2 ++ (wsX6_take_r3 ++ (wsX6_take_r4 ++ (wsX6_take_r5 ++ (wsX6_take_r6 ++ (wsX6_take_r7 ++ wsX6_take_r8))))))) ++ wsX60 ++ wsX40 ++ wsX50 ++ wsX30 ++ (vx_atS RX6 267 "java/lang/IndexOutOfBoundsException" ["java/lang/RuntimeException", "java/lang/Exception"]).filter goodWord ++ (vx_atS RX6 274 "java/lang/IllegalArgumentException" ["java/lang/RuntimeException", "java/lang/Exception"]).filter goodWord ++ (vx_atS RX6 279 "java/lang/IllegalStateException" ["java/lang/RuntimeException", "java/lang/Exception"]).filter goodWord)
def wsX6_swap_r1 : List Cond := [Cond.fieldLink RX6 77 "ConsentQueue$Command" "SWAP" "LConsentQueue$Command;", Cond.methodLink RX6 39 yX6_perform, Cond.instanceMethod yX6_perform, Cond.selects RX6 yX6_perform yX6_perform, Cond.initialized RX6, Cond.code yX6_perform cX6_perform 5 (some .int), Cond.fieldLink RX6 22 "ConsentQueue" "history" "LConsentQueue$History;", Cond.fieldLink RX6 10 "ConsentQueue" "line" "LConsentQueue$Line;", Cond.methodLink RX6 198 yX6_faultOf, Cond.instanceMethod yX6_faultOf, Cond.selects RX6 yX6_faultOf yX6_faultOf, Cond.code yX6_faultOf cX6_faultOf 5 (some .int), Cond.fieldLink RX6 206 "ConsentQueue$1" "$SwitchMap$ConsentQueue$Command" "[I", Cond.methodLink RX6 212 ⟨"ConsentQueue$Command", "ordinal", "()I"⟩, Cond.sameMethod "ConsentQueue$Command" "java/lang/Enum" "ordinal" "()I", Cond.selects RX1 ⟨"ConsentQueue$Command", "ordinal", "()I"⟩ yJx29ce0_ordinal_8abf5, Cond.instanceMethod yJx29ce0_ordinal_8abf5, Cond.initialized RJx29ce0, Cond.code yJx29ce0_ordinal_8abf5 cJx29ce0_ordinal_8abf5 1 (some .int), Cond.fieldLink RJx29ce0 7 "java/lang/Enum" "ordinal" "I", Cond.methodLink RX6 215 yX6_joinFault, Cond.instanceMethod yX6_joinFault, Cond.selects RX6 yX6_joinFault yX6_joinFault, Cond.code yX6_joinFault cX6_joinFault 5 (some .int)]
def wsX6_swap_r2 : List Cond := [Cond.methodLink RX6 55 yX6_isWithin, Cond.static yX6_isWithin, Cond.code yX6_isWithin cX6_isWithin 3 (some .boolean), Cond.instanceMethod yX4_memberAt, Cond.initialized RX4, Cond.selects RX4 yX4_memberAt yX4_memberAt, Cond.code yX4_memberAt cX4_memberAt 3 (some (.object "ConsentQueue$Member")), Cond.fieldLink RX4 26 "ConsentQueue$Line" "count" "I", Cond.fieldLink RX4 11 "ConsentQueue$Line" "members" "[LConsentQueue$Member;", Cond.fieldLink RX4 18 "ConsentQueue$Line" "nobody" "LConsentQueue$Member;", Cond.instanceMethod yX4_placeOf, Cond.selects RX4 yX4_placeOf yX4_placeOf, Cond.code yX4_placeOf cX4_placeOf 3 (some .int), Cond.methodLink RX4 41 yX4_memberAt, Cond.methodLink RX6 93 yX6_memberFault, Cond.instanceMethod yX6_memberFault, Cond.selects RX6 yX6_memberFault yX6_memberFault, Cond.code yX6_memberFault cX6_memberFault 3 (some .int), Cond.methodLink RX6 219 yX6_offerFault, Cond.instanceMethod yX6_offerFault, Cond.selects RX6 yX6_offerFault yX6_offerFault, Cond.code yX6_offerFault cX6_offerFault 4 (some .int), Cond.methodLink RX6 222 yX6_takeFault, Cond.instanceMethod yX6_takeFault]
def wsX6_swap_r3 : List Cond := [Cond.selects RX6 yX6_takeFault yX6_takeFault, Cond.code yX6_takeFault cX6_takeFault 3 (some .int), Cond.instanceMethod yX4_wouldTake, Cond.selects RX4 yX4_wouldTake yX4_wouldTake, Cond.code yX4_wouldTake cX4_wouldTake 3 (some .boolean), Cond.methodLink RX4 113 yX4_loss, Cond.instanceMethod yX4_loss, Cond.selects RX4 yX4_loss yX4_loss, Cond.code yX4_loss cX4_loss 2 (some .int), Cond.methodLink RX4 103 yX4_isHeldByFriends, Cond.instanceMethod yX4_isHeldByFriends, Cond.selects RX4 yX4_isHeldByFriends yX4_isHeldByFriends, Cond.code yX4_isHeldByFriends cX4_isHeldByFriends 2 (some .boolean), Cond.instanceMethod yX4_wouldSwap, Cond.selects RX4 yX4_wouldSwap yX4_wouldSwap, Cond.code yX4_wouldSwap cX4_wouldSwap 2 (some .boolean), Cond.methodLink RX4 110 yX4_hindrance, Cond.instanceMethod yX4_hindrance, Cond.selects RX4 yX4_hindrance yX4_hindrance, Cond.code yX4_hindrance cX4_hindrance 2 (some .int), Cond.methodLink RX4 116 yX4_areFriends, Cond.instanceMethod yX4_areFriends, Cond.selects RX4 yX4_areFriends yX4_areFriends, Cond.code yX4_areFriends cX4_areFriends 2 (some .boolean)]
def wsX6_swap_r4 : List Cond := [Cond.methodLink RX4 100 yX4_surplus, Cond.instanceMethod yX4_surplus, Cond.selects RX4 yX4_surplus yX4_surplus, Cond.code yX4_surplus cX4_surplus 4 (some .int), Cond.methodLink RX6 110 yX6_pairFault, Cond.instanceMethod yX6_pairFault, Cond.selects RX6 yX6_pairFault yX6_pairFault, Cond.code yX6_pairFault cX6_pairFault 4 (some .int), Cond.methodLink RX6 59 yX6_refuse, Cond.static yX6_refuse, Cond.code yX6_refuse cX6_refuse 1 none, Cond.classLink RX6 263 "java/lang/IndexOutOfBoundsException", Cond.initialized "java/lang/IndexOutOfBoundsException", Cond.classLink RX6 270 "java/lang/IllegalArgumentException", Cond.initialized "java/lang/IllegalArgumentException", Cond.classLink RX6 275 "java/lang/IllegalStateException", Cond.initialized "java/lang/IllegalStateException", Cond.instanceMethod yX3_push, Cond.initialized RX3, Cond.selects RX3 yX3_push yX3_push, Cond.code yX3_push cX3_push 3 none, Cond.fieldLink RX3 18 "ConsentQueue$History" "size" "I", Cond.fieldLink RX3 11 "ConsentQueue$History" "saved" "[LConsentQueue$Line;", Cond.methodLink RX3 22 yX3_dropOldest]
def wsX6_swap_r5 : List Cond := [Cond.instanceMethod yX3_dropOldest, Cond.selects RX3 yX3_dropOldest yX3_dropOldest, Cond.code yX3_dropOldest cX3_dropOldest 3 none, Cond.instanceMethod yX4_copyFrom, Cond.selects RX4 yX4_copyFrom yX4_copyFrom, Cond.code yX4_copyFrom cX4_copyFrom 3 none, Cond.fieldLink RX4 22 "ConsentQueue$Line" "split" "I", Cond.fieldLink RX4 29 "ConsentQueue$Line" "swaps" "I", Cond.fieldLink RX4 32 "ConsentQueue$Line" "paid" "I", Cond.fieldLink RX4 35 "ConsentQueue$Line" "served" "I", Cond.fieldLink RX4 38 "ConsentQueue$Line" "joined" "I", Cond.instanceMethod yX5_copyFrom, Cond.initialized RX5, Cond.selects RX5 yX5_copyFrom yX5_copyFrom, Cond.code yX5_copyFrom cX5_copyFrom 2 none, Cond.fieldLink RX5 9 "ConsentQueue$Member" "number" "I", Cond.fieldLink RX5 18 "ConsentQueue$Member" "worth" "I", Cond.fieldLink RX5 21 "ConsentQueue$Member" "told" "I", Cond.fieldLink RX5 24 "ConsentQueue$Member" "service" "I", Cond.fieldLink RX5 27 "ConsentQueue$Member" "money" "I", Cond.fieldLink RX5 15 "ConsentQueue$Member" "offer" "I", Cond.fieldLink RX5 30 "ConsentQueue$Member" "friendAhead" "Z", Cond.methodLink RX6 201 yX6_carryOut, Cond.instanceMethod yX6_carryOut]
def wsX6_swap_r6 : List Cond := [Cond.selects RX6 yX6_carryOut yX6_carryOut, Cond.code yX6_carryOut cX6_carryOut 5 (some .int), Cond.instanceMethod yX4_insert, Cond.selects RX4 yX4_insert yX4_insert, Cond.code yX4_insert cX4_insert 6 (some .int), Cond.instanceMethod yX5_begin, Cond.selects RX5 yX5_begin yX5_begin, Cond.code yX5_begin cX5_begin 4 none, Cond.methodLink RX5 34 yX5_loseOneAhead, Cond.instanceMethod yX5_loseOneAhead, Cond.selects RX5 yX5_loseOneAhead yX5_loseOneAhead, Cond.code yX5_loseOneAhead cX5_loseOneAhead 1 none, Cond.instanceMethod yX4_removeMember, Cond.selects RX4 yX4_removeMember yX4_removeMember, Cond.code yX4_removeMember cX4_removeMember 3 (some .int), Cond.methodLink RX4 59 yX4_placeOf, Cond.methodLink RX4 63 yX4_removeAt, Cond.instanceMethod yX4_removeAt, Cond.selects RX4 yX4_removeAt yX4_removeAt, Cond.code yX4_removeAt cX4_removeAt 4 none, Cond.instanceMethod yX4_tell, Cond.selects RX4 yX4_tell yX4_tell, Cond.code yX4_tell cX4_tell 5 (some .int), Cond.instanceMethod yX4_makeOffer]
def wsX6_swap_r7 : List Cond := [Cond.selects RX4 yX4_makeOffer yX4_makeOffer, Cond.code yX4_makeOffer cX4_makeOffer 5 (some .int), Cond.instanceMethod yX4_swapAsOffered, Cond.selects RX4 yX4_swapAsOffered yX4_swapAsOffered, Cond.code yX4_swapAsOffered cX4_swapAsOffered 2 (some .int), Cond.methodLink RX4 84 yX4_swapAt, Cond.instanceMethod yX4_swapAt, Cond.selects RX4 yX4_swapAt yX4_swapAt, Cond.code yX4_swapAt cX4_swapAt 5 (some .int), Cond.instanceMethod yX4_swapFairly, Cond.selects RX4 yX4_swapFairly yX4_swapFairly, Cond.code yX4_swapFairly cX4_swapFairly 2 (some .int), Cond.methodLink RX4 88 yX4_fairPrice, Cond.instanceMethod yX4_fairPrice, Cond.selects RX4 yX4_fairPrice yX4_fairPrice, Cond.code yX4_fairPrice cX4_fairPrice 6 (some .int), Cond.instanceMethod yX4_setFriends, Cond.selects RX4 yX4_setFriends yX4_setFriends, Cond.code yX4_setFriends cX4_setFriends 3 (some .int), Cond.methodLink RX4 80 yX4_friendPairs, Cond.instanceMethod yX4_friendPairs, Cond.selects RX4 yX4_friendPairs yX4_friendPairs, Cond.code yX4_friendPairs cX4_friendPairs 3 (some .int), Cond.instanceMethod yX4_serveFirst]
def wsX6_swap_r8 : List Cond := [Cond.selects RX4 yX4_serveFirst yX4_serveFirst, Cond.code yX4_serveFirst cX4_serveFirst 2 (some .int), Cond.instanceMethod yX4_settleDown, Cond.selects RX4 yX4_settleDown yX4_settleDown, Cond.code yX4_settleDown cX4_settleDown 3 (some .int), Cond.methodLink RX4 94 yX4_keenestPair, Cond.instanceMethod yX4_keenestPair, Cond.selects RX4 yX4_keenestPair yX4_keenestPair, Cond.code yX4_keenestPair cX4_keenestPair 5 (some .int), Cond.methodLink RX4 97 yX4_swapFairly]
def wsX6_swap : List Cond := .code yX6_swap cX6_swap 2 (some .int) :: ((wsX6_swap_r1 ++ (wsX6_swap_r2 ++ (wsX6_swap_r3 ++ (wsX6_swap_r4 ++ (wsX6_swap_r5 ++ (wsX6_swap_r6 ++ (wsX6_swap_r7 ++ wsX6_swap_r8))))))) ++ wsX60 ++ wsX40 ++ wsX50 ++ wsX30 ++ (vx_atS RX6 267 "java/lang/IndexOutOfBoundsException" ["java/lang/RuntimeException", "java/lang/Exception"]).filter goodWord ++ (vx_atS RX6 274 "java/lang/IllegalArgumentException" ["java/lang/RuntimeException", "java/lang/Exception"]).filter goodWord ++ (vx_atS RX6 279 "java/lang/IllegalStateException" ["java/lang/RuntimeException", "java/lang/Exception"]).filter goodWord)
def wsX6_befriend_r1 : List Cond := [Cond.fieldLink RX6 80 "ConsentQueue$Command" "FRIEND" "LConsentQueue$Command;", Cond.methodLink RX6 39 yX6_perform, Cond.instanceMethod yX6_perform, Cond.selects RX6 yX6_perform yX6_perform, Cond.initialized RX6, Cond.code yX6_perform cX6_perform 5 (some .int), Cond.fieldLink RX6 22 "ConsentQueue" "history" "LConsentQueue$History;", Cond.fieldLink RX6 10 "ConsentQueue" "line" "LConsentQueue$Line;", Cond.methodLink RX6 198 yX6_faultOf, Cond.instanceMethod yX6_faultOf, Cond.selects RX6 yX6_faultOf yX6_faultOf, Cond.code yX6_faultOf cX6_faultOf 5 (some .int), Cond.fieldLink RX6 206 "ConsentQueue$1" "$SwitchMap$ConsentQueue$Command" "[I", Cond.methodLink RX6 212 ⟨"ConsentQueue$Command", "ordinal", "()I"⟩, Cond.sameMethod "ConsentQueue$Command" "java/lang/Enum" "ordinal" "()I", Cond.selects RX1 ⟨"ConsentQueue$Command", "ordinal", "()I"⟩ yJx29ce0_ordinal_8abf5, Cond.instanceMethod yJx29ce0_ordinal_8abf5, Cond.initialized RJx29ce0, Cond.code yJx29ce0_ordinal_8abf5 cJx29ce0_ordinal_8abf5 1 (some .int), Cond.fieldLink RJx29ce0 7 "java/lang/Enum" "ordinal" "I", Cond.methodLink RX6 215 yX6_joinFault, Cond.instanceMethod yX6_joinFault, Cond.selects RX6 yX6_joinFault yX6_joinFault, Cond.code yX6_joinFault cX6_joinFault 5 (some .int)]
def wsX6_befriend_r2 : List Cond := [Cond.methodLink RX6 55 yX6_isWithin, Cond.static yX6_isWithin, Cond.code yX6_isWithin cX6_isWithin 3 (some .boolean), Cond.instanceMethod yX4_memberAt, Cond.initialized RX4, Cond.selects RX4 yX4_memberAt yX4_memberAt, Cond.code yX4_memberAt cX4_memberAt 3 (some (.object "ConsentQueue$Member")), Cond.fieldLink RX4 26 "ConsentQueue$Line" "count" "I", Cond.fieldLink RX4 11 "ConsentQueue$Line" "members" "[LConsentQueue$Member;", Cond.fieldLink RX4 18 "ConsentQueue$Line" "nobody" "LConsentQueue$Member;", Cond.instanceMethod yX4_placeOf, Cond.selects RX4 yX4_placeOf yX4_placeOf, Cond.code yX4_placeOf cX4_placeOf 3 (some .int), Cond.methodLink RX4 41 yX4_memberAt, Cond.methodLink RX6 93 yX6_memberFault, Cond.instanceMethod yX6_memberFault, Cond.selects RX6 yX6_memberFault yX6_memberFault, Cond.code yX6_memberFault cX6_memberFault 3 (some .int), Cond.methodLink RX6 219 yX6_offerFault, Cond.instanceMethod yX6_offerFault, Cond.selects RX6 yX6_offerFault yX6_offerFault, Cond.code yX6_offerFault cX6_offerFault 4 (some .int), Cond.methodLink RX6 222 yX6_takeFault, Cond.instanceMethod yX6_takeFault]
def wsX6_befriend_r3 : List Cond := [Cond.selects RX6 yX6_takeFault yX6_takeFault, Cond.code yX6_takeFault cX6_takeFault 3 (some .int), Cond.instanceMethod yX4_wouldTake, Cond.selects RX4 yX4_wouldTake yX4_wouldTake, Cond.code yX4_wouldTake cX4_wouldTake 3 (some .boolean), Cond.methodLink RX4 113 yX4_loss, Cond.instanceMethod yX4_loss, Cond.selects RX4 yX4_loss yX4_loss, Cond.code yX4_loss cX4_loss 2 (some .int), Cond.methodLink RX4 103 yX4_isHeldByFriends, Cond.instanceMethod yX4_isHeldByFriends, Cond.selects RX4 yX4_isHeldByFriends yX4_isHeldByFriends, Cond.code yX4_isHeldByFriends cX4_isHeldByFriends 2 (some .boolean), Cond.instanceMethod yX4_wouldSwap, Cond.selects RX4 yX4_wouldSwap yX4_wouldSwap, Cond.code yX4_wouldSwap cX4_wouldSwap 2 (some .boolean), Cond.methodLink RX4 110 yX4_hindrance, Cond.instanceMethod yX4_hindrance, Cond.selects RX4 yX4_hindrance yX4_hindrance, Cond.code yX4_hindrance cX4_hindrance 2 (some .int), Cond.methodLink RX4 116 yX4_areFriends, Cond.instanceMethod yX4_areFriends, Cond.selects RX4 yX4_areFriends yX4_areFriends, Cond.code yX4_areFriends cX4_areFriends 2 (some .boolean)]
def wsX6_befriend_r4 : List Cond := [Cond.methodLink RX4 100 yX4_surplus, Cond.instanceMethod yX4_surplus, Cond.selects RX4 yX4_surplus yX4_surplus, Cond.code yX4_surplus cX4_surplus 4 (some .int), Cond.methodLink RX6 110 yX6_pairFault, Cond.instanceMethod yX6_pairFault, Cond.selects RX6 yX6_pairFault yX6_pairFault, Cond.code yX6_pairFault cX6_pairFault 4 (some .int), Cond.methodLink RX6 59 yX6_refuse, Cond.static yX6_refuse, Cond.code yX6_refuse cX6_refuse 1 none, Cond.classLink RX6 263 "java/lang/IndexOutOfBoundsException", Cond.initialized "java/lang/IndexOutOfBoundsException", Cond.classLink RX6 270 "java/lang/IllegalArgumentException", Cond.initialized "java/lang/IllegalArgumentException", Cond.classLink RX6 275 "java/lang/IllegalStateException", Cond.initialized "java/lang/IllegalStateException", Cond.instanceMethod yX3_push, Cond.initialized RX3, Cond.selects RX3 yX3_push yX3_push, Cond.code yX3_push cX3_push 3 none, Cond.fieldLink RX3 18 "ConsentQueue$History" "size" "I", Cond.fieldLink RX3 11 "ConsentQueue$History" "saved" "[LConsentQueue$Line;", Cond.methodLink RX3 22 yX3_dropOldest]
def wsX6_befriend_r5 : List Cond := [Cond.instanceMethod yX3_dropOldest, Cond.selects RX3 yX3_dropOldest yX3_dropOldest, Cond.code yX3_dropOldest cX3_dropOldest 3 none, Cond.instanceMethod yX4_copyFrom, Cond.selects RX4 yX4_copyFrom yX4_copyFrom, Cond.code yX4_copyFrom cX4_copyFrom 3 none, Cond.fieldLink RX4 22 "ConsentQueue$Line" "split" "I", Cond.fieldLink RX4 29 "ConsentQueue$Line" "swaps" "I", Cond.fieldLink RX4 32 "ConsentQueue$Line" "paid" "I", Cond.fieldLink RX4 35 "ConsentQueue$Line" "served" "I", Cond.fieldLink RX4 38 "ConsentQueue$Line" "joined" "I", Cond.instanceMethod yX5_copyFrom, Cond.initialized RX5, Cond.selects RX5 yX5_copyFrom yX5_copyFrom, Cond.code yX5_copyFrom cX5_copyFrom 2 none, Cond.fieldLink RX5 9 "ConsentQueue$Member" "number" "I", Cond.fieldLink RX5 18 "ConsentQueue$Member" "worth" "I", Cond.fieldLink RX5 21 "ConsentQueue$Member" "told" "I", Cond.fieldLink RX5 24 "ConsentQueue$Member" "service" "I", Cond.fieldLink RX5 27 "ConsentQueue$Member" "money" "I", Cond.fieldLink RX5 15 "ConsentQueue$Member" "offer" "I", Cond.fieldLink RX5 30 "ConsentQueue$Member" "friendAhead" "Z", Cond.methodLink RX6 201 yX6_carryOut, Cond.instanceMethod yX6_carryOut]
def wsX6_befriend_r6 : List Cond := [Cond.selects RX6 yX6_carryOut yX6_carryOut, Cond.code yX6_carryOut cX6_carryOut 5 (some .int), Cond.instanceMethod yX4_insert, Cond.selects RX4 yX4_insert yX4_insert, Cond.code yX4_insert cX4_insert 6 (some .int), Cond.instanceMethod yX5_begin, Cond.selects RX5 yX5_begin yX5_begin, Cond.code yX5_begin cX5_begin 4 none, Cond.methodLink RX5 34 yX5_loseOneAhead, Cond.instanceMethod yX5_loseOneAhead, Cond.selects RX5 yX5_loseOneAhead yX5_loseOneAhead, Cond.code yX5_loseOneAhead cX5_loseOneAhead 1 none, Cond.instanceMethod yX4_removeMember, Cond.selects RX4 yX4_removeMember yX4_removeMember, Cond.code yX4_removeMember cX4_removeMember 3 (some .int), Cond.methodLink RX4 59 yX4_placeOf, Cond.methodLink RX4 63 yX4_removeAt, Cond.instanceMethod yX4_removeAt, Cond.selects RX4 yX4_removeAt yX4_removeAt, Cond.code yX4_removeAt cX4_removeAt 4 none, Cond.instanceMethod yX4_tell, Cond.selects RX4 yX4_tell yX4_tell, Cond.code yX4_tell cX4_tell 5 (some .int), Cond.instanceMethod yX4_makeOffer]
def wsX6_befriend_r7 : List Cond := [Cond.selects RX4 yX4_makeOffer yX4_makeOffer, Cond.code yX4_makeOffer cX4_makeOffer 5 (some .int), Cond.instanceMethod yX4_swapAsOffered, Cond.selects RX4 yX4_swapAsOffered yX4_swapAsOffered, Cond.code yX4_swapAsOffered cX4_swapAsOffered 2 (some .int), Cond.methodLink RX4 84 yX4_swapAt, Cond.instanceMethod yX4_swapAt, Cond.selects RX4 yX4_swapAt yX4_swapAt, Cond.code yX4_swapAt cX4_swapAt 5 (some .int), Cond.instanceMethod yX4_swapFairly, Cond.selects RX4 yX4_swapFairly yX4_swapFairly, Cond.code yX4_swapFairly cX4_swapFairly 2 (some .int), Cond.methodLink RX4 88 yX4_fairPrice, Cond.instanceMethod yX4_fairPrice, Cond.selects RX4 yX4_fairPrice yX4_fairPrice, Cond.code yX4_fairPrice cX4_fairPrice 6 (some .int), Cond.instanceMethod yX4_setFriends, Cond.selects RX4 yX4_setFriends yX4_setFriends, Cond.code yX4_setFriends cX4_setFriends 3 (some .int), Cond.methodLink RX4 80 yX4_friendPairs, Cond.instanceMethod yX4_friendPairs, Cond.selects RX4 yX4_friendPairs yX4_friendPairs, Cond.code yX4_friendPairs cX4_friendPairs 3 (some .int), Cond.instanceMethod yX4_serveFirst]
def wsX6_befriend_r8 : List Cond := [Cond.selects RX4 yX4_serveFirst yX4_serveFirst, Cond.code yX4_serveFirst cX4_serveFirst 2 (some .int), Cond.instanceMethod yX4_settleDown, Cond.selects RX4 yX4_settleDown yX4_settleDown, Cond.code yX4_settleDown cX4_settleDown 3 (some .int), Cond.methodLink RX4 94 yX4_keenestPair, Cond.instanceMethod yX4_keenestPair, Cond.selects RX4 yX4_keenestPair yX4_keenestPair, Cond.code yX4_keenestPair cX4_keenestPair 5 (some .int), Cond.methodLink RX4 97 yX4_swapFairly]
def wsX6_befriend : List Cond := .code yX6_befriend cX6_befriend 2 (some .int) :: ((wsX6_befriend_r1 ++ (wsX6_befriend_r2 ++ (wsX6_befriend_r3 ++ (wsX6_befriend_r4 ++ (wsX6_befriend_r5 ++ (wsX6_befriend_r6 ++ (wsX6_befriend_r7 ++ wsX6_befriend_r8))))))) ++ wsX60 ++ wsX40 ++ wsX50 ++ wsX30 ++ (vx_atS RX6 267 "java/lang/IndexOutOfBoundsException" ["java/lang/RuntimeException", "java/lang/Exception"]).filter goodWord ++ (vx_atS RX6 274 "java/lang/IllegalArgumentException" ["java/lang/RuntimeException", "java/lang/Exception"]).filter goodWord ++ (vx_atS RX6 279 "java/lang/IllegalStateException" ["java/lang/RuntimeException", "java/lang/Exception"]).filter goodWord)
def wsX6_part_r1 : List Cond := [Cond.fieldLink RX6 83 "ConsentQueue$Command" "PART" "LConsentQueue$Command;", Cond.methodLink RX6 39 yX6_perform, Cond.instanceMethod yX6_perform, Cond.selects RX6 yX6_perform yX6_perform, Cond.initialized RX6, Cond.code yX6_perform cX6_perform 5 (some .int), Cond.fieldLink RX6 22 "ConsentQueue" "history" "LConsentQueue$History;", Cond.fieldLink RX6 10 "ConsentQueue" "line" "LConsentQueue$Line;", Cond.methodLink RX6 198 yX6_faultOf, Cond.instanceMethod yX6_faultOf, Cond.selects RX6 yX6_faultOf yX6_faultOf, Cond.code yX6_faultOf cX6_faultOf 5 (some .int), Cond.fieldLink RX6 206 "ConsentQueue$1" "$SwitchMap$ConsentQueue$Command" "[I", Cond.methodLink RX6 212 ⟨"ConsentQueue$Command", "ordinal", "()I"⟩, Cond.sameMethod "ConsentQueue$Command" "java/lang/Enum" "ordinal" "()I", Cond.selects RX1 ⟨"ConsentQueue$Command", "ordinal", "()I"⟩ yJx29ce0_ordinal_8abf5, Cond.instanceMethod yJx29ce0_ordinal_8abf5, Cond.initialized RJx29ce0, Cond.code yJx29ce0_ordinal_8abf5 cJx29ce0_ordinal_8abf5 1 (some .int), Cond.fieldLink RJx29ce0 7 "java/lang/Enum" "ordinal" "I", Cond.methodLink RX6 215 yX6_joinFault, Cond.instanceMethod yX6_joinFault, Cond.selects RX6 yX6_joinFault yX6_joinFault, Cond.code yX6_joinFault cX6_joinFault 5 (some .int)]
def wsX6_part_r2 : List Cond := [Cond.methodLink RX6 55 yX6_isWithin, Cond.static yX6_isWithin, Cond.code yX6_isWithin cX6_isWithin 3 (some .boolean), Cond.instanceMethod yX4_memberAt, Cond.initialized RX4, Cond.selects RX4 yX4_memberAt yX4_memberAt, Cond.code yX4_memberAt cX4_memberAt 3 (some (.object "ConsentQueue$Member")), Cond.fieldLink RX4 26 "ConsentQueue$Line" "count" "I", Cond.fieldLink RX4 11 "ConsentQueue$Line" "members" "[LConsentQueue$Member;", Cond.fieldLink RX4 18 "ConsentQueue$Line" "nobody" "LConsentQueue$Member;", Cond.instanceMethod yX4_placeOf, Cond.selects RX4 yX4_placeOf yX4_placeOf, Cond.code yX4_placeOf cX4_placeOf 3 (some .int), Cond.methodLink RX4 41 yX4_memberAt, Cond.methodLink RX6 93 yX6_memberFault, Cond.instanceMethod yX6_memberFault, Cond.selects RX6 yX6_memberFault yX6_memberFault, Cond.code yX6_memberFault cX6_memberFault 3 (some .int), Cond.methodLink RX6 219 yX6_offerFault, Cond.instanceMethod yX6_offerFault, Cond.selects RX6 yX6_offerFault yX6_offerFault, Cond.code yX6_offerFault cX6_offerFault 4 (some .int), Cond.methodLink RX6 222 yX6_takeFault, Cond.instanceMethod yX6_takeFault]
def wsX6_part_r3 : List Cond := [Cond.selects RX6 yX6_takeFault yX6_takeFault, Cond.code yX6_takeFault cX6_takeFault 3 (some .int), Cond.instanceMethod yX4_wouldTake, Cond.selects RX4 yX4_wouldTake yX4_wouldTake, Cond.code yX4_wouldTake cX4_wouldTake 3 (some .boolean), Cond.methodLink RX4 113 yX4_loss, Cond.instanceMethod yX4_loss, Cond.selects RX4 yX4_loss yX4_loss, Cond.code yX4_loss cX4_loss 2 (some .int), Cond.methodLink RX4 103 yX4_isHeldByFriends, Cond.instanceMethod yX4_isHeldByFriends, Cond.selects RX4 yX4_isHeldByFriends yX4_isHeldByFriends, Cond.code yX4_isHeldByFriends cX4_isHeldByFriends 2 (some .boolean), Cond.instanceMethod yX4_wouldSwap, Cond.selects RX4 yX4_wouldSwap yX4_wouldSwap, Cond.code yX4_wouldSwap cX4_wouldSwap 2 (some .boolean), Cond.methodLink RX4 110 yX4_hindrance, Cond.instanceMethod yX4_hindrance, Cond.selects RX4 yX4_hindrance yX4_hindrance, Cond.code yX4_hindrance cX4_hindrance 2 (some .int), Cond.methodLink RX4 116 yX4_areFriends, Cond.instanceMethod yX4_areFriends, Cond.selects RX4 yX4_areFriends yX4_areFriends, Cond.code yX4_areFriends cX4_areFriends 2 (some .boolean)]
def wsX6_part_r4 : List Cond := [Cond.methodLink RX4 100 yX4_surplus, Cond.instanceMethod yX4_surplus, Cond.selects RX4 yX4_surplus yX4_surplus, Cond.code yX4_surplus cX4_surplus 4 (some .int), Cond.methodLink RX6 110 yX6_pairFault, Cond.instanceMethod yX6_pairFault, Cond.selects RX6 yX6_pairFault yX6_pairFault, Cond.code yX6_pairFault cX6_pairFault 4 (some .int), Cond.methodLink RX6 59 yX6_refuse, Cond.static yX6_refuse, Cond.code yX6_refuse cX6_refuse 1 none, Cond.classLink RX6 263 "java/lang/IndexOutOfBoundsException", Cond.initialized "java/lang/IndexOutOfBoundsException", Cond.classLink RX6 270 "java/lang/IllegalArgumentException", Cond.initialized "java/lang/IllegalArgumentException", Cond.classLink RX6 275 "java/lang/IllegalStateException", Cond.initialized "java/lang/IllegalStateException", Cond.instanceMethod yX3_push, Cond.initialized RX3, Cond.selects RX3 yX3_push yX3_push, Cond.code yX3_push cX3_push 3 none, Cond.fieldLink RX3 18 "ConsentQueue$History" "size" "I", Cond.fieldLink RX3 11 "ConsentQueue$History" "saved" "[LConsentQueue$Line;", Cond.methodLink RX3 22 yX3_dropOldest]
def wsX6_part_r5 : List Cond := [Cond.instanceMethod yX3_dropOldest, Cond.selects RX3 yX3_dropOldest yX3_dropOldest, Cond.code yX3_dropOldest cX3_dropOldest 3 none, Cond.instanceMethod yX4_copyFrom, Cond.selects RX4 yX4_copyFrom yX4_copyFrom, Cond.code yX4_copyFrom cX4_copyFrom 3 none, Cond.fieldLink RX4 22 "ConsentQueue$Line" "split" "I", Cond.fieldLink RX4 29 "ConsentQueue$Line" "swaps" "I", Cond.fieldLink RX4 32 "ConsentQueue$Line" "paid" "I", Cond.fieldLink RX4 35 "ConsentQueue$Line" "served" "I", Cond.fieldLink RX4 38 "ConsentQueue$Line" "joined" "I", Cond.instanceMethod yX5_copyFrom, Cond.initialized RX5, Cond.selects RX5 yX5_copyFrom yX5_copyFrom, Cond.code yX5_copyFrom cX5_copyFrom 2 none, Cond.fieldLink RX5 9 "ConsentQueue$Member" "number" "I", Cond.fieldLink RX5 18 "ConsentQueue$Member" "worth" "I", Cond.fieldLink RX5 21 "ConsentQueue$Member" "told" "I", Cond.fieldLink RX5 24 "ConsentQueue$Member" "service" "I", Cond.fieldLink RX5 27 "ConsentQueue$Member" "money" "I", Cond.fieldLink RX5 15 "ConsentQueue$Member" "offer" "I", Cond.fieldLink RX5 30 "ConsentQueue$Member" "friendAhead" "Z", Cond.methodLink RX6 201 yX6_carryOut, Cond.instanceMethod yX6_carryOut]
def wsX6_part_r6 : List Cond := [Cond.selects RX6 yX6_carryOut yX6_carryOut, Cond.code yX6_carryOut cX6_carryOut 5 (some .int), Cond.instanceMethod yX4_insert, Cond.selects RX4 yX4_insert yX4_insert, Cond.code yX4_insert cX4_insert 6 (some .int), Cond.instanceMethod yX5_begin, Cond.selects RX5 yX5_begin yX5_begin, Cond.code yX5_begin cX5_begin 4 none, Cond.methodLink RX5 34 yX5_loseOneAhead, Cond.instanceMethod yX5_loseOneAhead, Cond.selects RX5 yX5_loseOneAhead yX5_loseOneAhead, Cond.code yX5_loseOneAhead cX5_loseOneAhead 1 none, Cond.instanceMethod yX4_removeMember, Cond.selects RX4 yX4_removeMember yX4_removeMember, Cond.code yX4_removeMember cX4_removeMember 3 (some .int), Cond.methodLink RX4 59 yX4_placeOf, Cond.methodLink RX4 63 yX4_removeAt, Cond.instanceMethod yX4_removeAt, Cond.selects RX4 yX4_removeAt yX4_removeAt, Cond.code yX4_removeAt cX4_removeAt 4 none, Cond.instanceMethod yX4_tell, Cond.selects RX4 yX4_tell yX4_tell, Cond.code yX4_tell cX4_tell 5 (some .int), Cond.instanceMethod yX4_makeOffer]
def wsX6_part_r7 : List Cond := [Cond.selects RX4 yX4_makeOffer yX4_makeOffer, Cond.code yX4_makeOffer cX4_makeOffer 5 (some .int), Cond.instanceMethod yX4_swapAsOffered, Cond.selects RX4 yX4_swapAsOffered yX4_swapAsOffered, Cond.code yX4_swapAsOffered cX4_swapAsOffered 2 (some .int), Cond.methodLink RX4 84 yX4_swapAt, Cond.instanceMethod yX4_swapAt, Cond.selects RX4 yX4_swapAt yX4_swapAt, Cond.code yX4_swapAt cX4_swapAt 5 (some .int), Cond.instanceMethod yX4_swapFairly, Cond.selects RX4 yX4_swapFairly yX4_swapFairly, Cond.code yX4_swapFairly cX4_swapFairly 2 (some .int), Cond.methodLink RX4 88 yX4_fairPrice, Cond.instanceMethod yX4_fairPrice, Cond.selects RX4 yX4_fairPrice yX4_fairPrice, Cond.code yX4_fairPrice cX4_fairPrice 6 (some .int), Cond.instanceMethod yX4_setFriends, Cond.selects RX4 yX4_setFriends yX4_setFriends, Cond.code yX4_setFriends cX4_setFriends 3 (some .int), Cond.methodLink RX4 80 yX4_friendPairs, Cond.instanceMethod yX4_friendPairs, Cond.selects RX4 yX4_friendPairs yX4_friendPairs, Cond.code yX4_friendPairs cX4_friendPairs 3 (some .int), Cond.instanceMethod yX4_serveFirst]
def wsX6_part_r8 : List Cond := [Cond.selects RX4 yX4_serveFirst yX4_serveFirst, Cond.code yX4_serveFirst cX4_serveFirst 2 (some .int), Cond.instanceMethod yX4_settleDown, Cond.selects RX4 yX4_settleDown yX4_settleDown, Cond.code yX4_settleDown cX4_settleDown 3 (some .int), Cond.methodLink RX4 94 yX4_keenestPair, Cond.instanceMethod yX4_keenestPair, Cond.selects RX4 yX4_keenestPair yX4_keenestPair, Cond.code yX4_keenestPair cX4_keenestPair 5 (some .int), Cond.methodLink RX4 97 yX4_swapFairly]
def wsX6_part : List Cond := .code yX6_part cX6_part 2 (some .int) :: ((wsX6_part_r1 ++ (wsX6_part_r2 ++ (wsX6_part_r3 ++ (wsX6_part_r4 ++ (wsX6_part_r5 ++ (wsX6_part_r6 ++ (wsX6_part_r7 ++ wsX6_part_r8))))))) ++ wsX60 ++ wsX40 ++ wsX50 ++ wsX30 ++ (vx_atS RX6 267 "java/lang/IndexOutOfBoundsException" ["java/lang/RuntimeException", "java/lang/Exception"]).filter goodWord ++ (vx_atS RX6 274 "java/lang/IllegalArgumentException" ["java/lang/RuntimeException", "java/lang/Exception"]).filter goodWord ++ (vx_atS RX6 279 "java/lang/IllegalStateException" ["java/lang/RuntimeException", "java/lang/Exception"]).filter goodWord)
def wsX6_settle_r1 : List Cond := [Cond.fieldLink RX6 86 "ConsentQueue$Command" "SETTLE" "LConsentQueue$Command;", Cond.methodLink RX6 39 yX6_perform, Cond.instanceMethod yX6_perform, Cond.selects RX6 yX6_perform yX6_perform, Cond.initialized RX6, Cond.code yX6_perform cX6_perform 5 (some .int), Cond.fieldLink RX6 22 "ConsentQueue" "history" "LConsentQueue$History;", Cond.fieldLink RX6 10 "ConsentQueue" "line" "LConsentQueue$Line;", Cond.methodLink RX6 198 yX6_faultOf, Cond.instanceMethod yX6_faultOf, Cond.selects RX6 yX6_faultOf yX6_faultOf, Cond.code yX6_faultOf cX6_faultOf 5 (some .int), Cond.fieldLink RX6 206 "ConsentQueue$1" "$SwitchMap$ConsentQueue$Command" "[I", Cond.methodLink RX6 212 ⟨"ConsentQueue$Command", "ordinal", "()I"⟩, Cond.sameMethod "ConsentQueue$Command" "java/lang/Enum" "ordinal" "()I", Cond.selects RX1 ⟨"ConsentQueue$Command", "ordinal", "()I"⟩ yJx29ce0_ordinal_8abf5, Cond.instanceMethod yJx29ce0_ordinal_8abf5, Cond.initialized RJx29ce0, Cond.code yJx29ce0_ordinal_8abf5 cJx29ce0_ordinal_8abf5 1 (some .int), Cond.fieldLink RJx29ce0 7 "java/lang/Enum" "ordinal" "I", Cond.methodLink RX6 215 yX6_joinFault, Cond.instanceMethod yX6_joinFault, Cond.selects RX6 yX6_joinFault yX6_joinFault, Cond.code yX6_joinFault cX6_joinFault 5 (some .int)]
def wsX6_settle_r2 : List Cond := [Cond.methodLink RX6 55 yX6_isWithin, Cond.static yX6_isWithin, Cond.code yX6_isWithin cX6_isWithin 3 (some .boolean), Cond.instanceMethod yX4_memberAt, Cond.initialized RX4, Cond.selects RX4 yX4_memberAt yX4_memberAt, Cond.code yX4_memberAt cX4_memberAt 3 (some (.object "ConsentQueue$Member")), Cond.fieldLink RX4 26 "ConsentQueue$Line" "count" "I", Cond.fieldLink RX4 11 "ConsentQueue$Line" "members" "[LConsentQueue$Member;", Cond.fieldLink RX4 18 "ConsentQueue$Line" "nobody" "LConsentQueue$Member;", Cond.instanceMethod yX4_placeOf, Cond.selects RX4 yX4_placeOf yX4_placeOf, Cond.code yX4_placeOf cX4_placeOf 3 (some .int), Cond.methodLink RX4 41 yX4_memberAt, Cond.methodLink RX6 93 yX6_memberFault, Cond.instanceMethod yX6_memberFault, Cond.selects RX6 yX6_memberFault yX6_memberFault, Cond.code yX6_memberFault cX6_memberFault 3 (some .int), Cond.methodLink RX6 219 yX6_offerFault, Cond.instanceMethod yX6_offerFault, Cond.selects RX6 yX6_offerFault yX6_offerFault, Cond.code yX6_offerFault cX6_offerFault 4 (some .int), Cond.methodLink RX6 222 yX6_takeFault, Cond.instanceMethod yX6_takeFault]
def wsX6_settle_r3 : List Cond := [Cond.selects RX6 yX6_takeFault yX6_takeFault, Cond.code yX6_takeFault cX6_takeFault 3 (some .int), Cond.instanceMethod yX4_wouldTake, Cond.selects RX4 yX4_wouldTake yX4_wouldTake, Cond.code yX4_wouldTake cX4_wouldTake 3 (some .boolean), Cond.methodLink RX4 113 yX4_loss, Cond.instanceMethod yX4_loss, Cond.selects RX4 yX4_loss yX4_loss, Cond.code yX4_loss cX4_loss 2 (some .int), Cond.methodLink RX4 103 yX4_isHeldByFriends, Cond.instanceMethod yX4_isHeldByFriends, Cond.selects RX4 yX4_isHeldByFriends yX4_isHeldByFriends, Cond.code yX4_isHeldByFriends cX4_isHeldByFriends 2 (some .boolean), Cond.instanceMethod yX4_wouldSwap, Cond.selects RX4 yX4_wouldSwap yX4_wouldSwap, Cond.code yX4_wouldSwap cX4_wouldSwap 2 (some .boolean), Cond.methodLink RX4 110 yX4_hindrance, Cond.instanceMethod yX4_hindrance, Cond.selects RX4 yX4_hindrance yX4_hindrance, Cond.code yX4_hindrance cX4_hindrance 2 (some .int), Cond.methodLink RX4 116 yX4_areFriends, Cond.instanceMethod yX4_areFriends, Cond.selects RX4 yX4_areFriends yX4_areFriends, Cond.code yX4_areFriends cX4_areFriends 2 (some .boolean)]
def wsX6_settle_r4 : List Cond := [Cond.methodLink RX4 100 yX4_surplus, Cond.instanceMethod yX4_surplus, Cond.selects RX4 yX4_surplus yX4_surplus, Cond.code yX4_surplus cX4_surplus 4 (some .int), Cond.methodLink RX6 110 yX6_pairFault, Cond.instanceMethod yX6_pairFault, Cond.selects RX6 yX6_pairFault yX6_pairFault, Cond.code yX6_pairFault cX6_pairFault 4 (some .int), Cond.methodLink RX6 59 yX6_refuse, Cond.static yX6_refuse, Cond.code yX6_refuse cX6_refuse 1 none, Cond.classLink RX6 263 "java/lang/IndexOutOfBoundsException", Cond.initialized "java/lang/IndexOutOfBoundsException", Cond.classLink RX6 270 "java/lang/IllegalArgumentException", Cond.initialized "java/lang/IllegalArgumentException", Cond.classLink RX6 275 "java/lang/IllegalStateException", Cond.initialized "java/lang/IllegalStateException", Cond.instanceMethod yX3_push, Cond.initialized RX3, Cond.selects RX3 yX3_push yX3_push, Cond.code yX3_push cX3_push 3 none, Cond.fieldLink RX3 18 "ConsentQueue$History" "size" "I", Cond.fieldLink RX3 11 "ConsentQueue$History" "saved" "[LConsentQueue$Line;", Cond.methodLink RX3 22 yX3_dropOldest]
def wsX6_settle_r5 : List Cond := [Cond.instanceMethod yX3_dropOldest, Cond.selects RX3 yX3_dropOldest yX3_dropOldest, Cond.code yX3_dropOldest cX3_dropOldest 3 none, Cond.instanceMethod yX4_copyFrom, Cond.selects RX4 yX4_copyFrom yX4_copyFrom, Cond.code yX4_copyFrom cX4_copyFrom 3 none, Cond.fieldLink RX4 22 "ConsentQueue$Line" "split" "I", Cond.fieldLink RX4 29 "ConsentQueue$Line" "swaps" "I", Cond.fieldLink RX4 32 "ConsentQueue$Line" "paid" "I", Cond.fieldLink RX4 35 "ConsentQueue$Line" "served" "I", Cond.fieldLink RX4 38 "ConsentQueue$Line" "joined" "I", Cond.instanceMethod yX5_copyFrom, Cond.initialized RX5, Cond.selects RX5 yX5_copyFrom yX5_copyFrom, Cond.code yX5_copyFrom cX5_copyFrom 2 none, Cond.fieldLink RX5 9 "ConsentQueue$Member" "number" "I", Cond.fieldLink RX5 18 "ConsentQueue$Member" "worth" "I", Cond.fieldLink RX5 21 "ConsentQueue$Member" "told" "I", Cond.fieldLink RX5 24 "ConsentQueue$Member" "service" "I", Cond.fieldLink RX5 27 "ConsentQueue$Member" "money" "I", Cond.fieldLink RX5 15 "ConsentQueue$Member" "offer" "I", Cond.fieldLink RX5 30 "ConsentQueue$Member" "friendAhead" "Z", Cond.methodLink RX6 201 yX6_carryOut, Cond.instanceMethod yX6_carryOut]
def wsX6_settle_r6 : List Cond := [Cond.selects RX6 yX6_carryOut yX6_carryOut, Cond.code yX6_carryOut cX6_carryOut 5 (some .int), Cond.instanceMethod yX4_insert, Cond.selects RX4 yX4_insert yX4_insert, Cond.code yX4_insert cX4_insert 6 (some .int), Cond.instanceMethod yX5_begin, Cond.selects RX5 yX5_begin yX5_begin, Cond.code yX5_begin cX5_begin 4 none, Cond.methodLink RX5 34 yX5_loseOneAhead, Cond.instanceMethod yX5_loseOneAhead, Cond.selects RX5 yX5_loseOneAhead yX5_loseOneAhead, Cond.code yX5_loseOneAhead cX5_loseOneAhead 1 none, Cond.instanceMethod yX4_removeMember, Cond.selects RX4 yX4_removeMember yX4_removeMember, Cond.code yX4_removeMember cX4_removeMember 3 (some .int), Cond.methodLink RX4 59 yX4_placeOf, Cond.methodLink RX4 63 yX4_removeAt, Cond.instanceMethod yX4_removeAt, Cond.selects RX4 yX4_removeAt yX4_removeAt, Cond.code yX4_removeAt cX4_removeAt 4 none, Cond.instanceMethod yX4_tell, Cond.selects RX4 yX4_tell yX4_tell, Cond.code yX4_tell cX4_tell 5 (some .int), Cond.instanceMethod yX4_makeOffer]
def wsX6_settle_r7 : List Cond := [Cond.selects RX4 yX4_makeOffer yX4_makeOffer, Cond.code yX4_makeOffer cX4_makeOffer 5 (some .int), Cond.instanceMethod yX4_swapAsOffered, Cond.selects RX4 yX4_swapAsOffered yX4_swapAsOffered, Cond.code yX4_swapAsOffered cX4_swapAsOffered 2 (some .int), Cond.methodLink RX4 84 yX4_swapAt, Cond.instanceMethod yX4_swapAt, Cond.selects RX4 yX4_swapAt yX4_swapAt, Cond.code yX4_swapAt cX4_swapAt 5 (some .int), Cond.instanceMethod yX4_swapFairly, Cond.selects RX4 yX4_swapFairly yX4_swapFairly, Cond.code yX4_swapFairly cX4_swapFairly 2 (some .int), Cond.methodLink RX4 88 yX4_fairPrice, Cond.instanceMethod yX4_fairPrice, Cond.selects RX4 yX4_fairPrice yX4_fairPrice, Cond.code yX4_fairPrice cX4_fairPrice 6 (some .int), Cond.instanceMethod yX4_setFriends, Cond.selects RX4 yX4_setFriends yX4_setFriends, Cond.code yX4_setFriends cX4_setFriends 3 (some .int), Cond.methodLink RX4 80 yX4_friendPairs, Cond.instanceMethod yX4_friendPairs, Cond.selects RX4 yX4_friendPairs yX4_friendPairs, Cond.code yX4_friendPairs cX4_friendPairs 3 (some .int), Cond.instanceMethod yX4_serveFirst]
def wsX6_settle_r8 : List Cond := [Cond.selects RX4 yX4_serveFirst yX4_serveFirst, Cond.code yX4_serveFirst cX4_serveFirst 2 (some .int), Cond.instanceMethod yX4_settleDown, Cond.selects RX4 yX4_settleDown yX4_settleDown, Cond.code yX4_settleDown cX4_settleDown 3 (some .int), Cond.methodLink RX4 94 yX4_keenestPair, Cond.instanceMethod yX4_keenestPair, Cond.selects RX4 yX4_keenestPair yX4_keenestPair, Cond.code yX4_keenestPair cX4_keenestPair 5 (some .int), Cond.methodLink RX4 97 yX4_swapFairly]
def wsX6_settle : List Cond := .code yX6_settle cX6_settle 1 (some .int) :: ((wsX6_settle_r1 ++ (wsX6_settle_r2 ++ (wsX6_settle_r3 ++ (wsX6_settle_r4 ++ (wsX6_settle_r5 ++ (wsX6_settle_r6 ++ (wsX6_settle_r7 ++ wsX6_settle_r8))))))) ++ wsX60 ++ wsX40 ++ wsX50 ++ wsX30 ++ (vx_atS RX6 267 "java/lang/IndexOutOfBoundsException" ["java/lang/RuntimeException", "java/lang/Exception"]).filter goodWord ++ (vx_atS RX6 274 "java/lang/IllegalArgumentException" ["java/lang/RuntimeException", "java/lang/Exception"]).filter goodWord ++ (vx_atS RX6 279 "java/lang/IllegalStateException" ["java/lang/RuntimeException", "java/lang/Exception"]).filter goodWord)
def wsX6_member_r1 : List Cond := [Cond.fieldLink RX6 10 "ConsentQueue" "line" "LConsentQueue$Line;", Cond.instanceMethod yX4_placeOf, Cond.initialized RX4, Cond.selects RX4 yX4_placeOf yX4_placeOf, Cond.code yX4_placeOf cX4_placeOf 3 (some .int), Cond.fieldLink RX4 26 "ConsentQueue$Line" "count" "I", Cond.methodLink RX4 41 yX4_memberAt, Cond.instanceMethod yX4_memberAt, Cond.selects RX4 yX4_memberAt yX4_memberAt, Cond.code yX4_memberAt cX4_memberAt 3 (some (.object "ConsentQueue$Member")), Cond.fieldLink RX4 11 "ConsentQueue$Line" "members" "[LConsentQueue$Member;", Cond.fieldLink RX4 18 "ConsentQueue$Line" "nobody" "LConsentQueue$Member;", Cond.methodLink RX6 55 yX6_isWithin, Cond.static yX6_isWithin, Cond.initialized RX6, Cond.code yX6_isWithin cX6_isWithin 3 (some .boolean), Cond.methodLink RX6 93 yX6_memberFault, Cond.instanceMethod yX6_memberFault, Cond.selects RX6 yX6_memberFault yX6_memberFault, Cond.code yX6_memberFault cX6_memberFault 3 (some .int), Cond.methodLink RX6 59 yX6_refuse, Cond.static yX6_refuse, Cond.code yX6_refuse cX6_refuse 1 none, Cond.classLink RX6 263 "java/lang/IndexOutOfBoundsException"]
def wsX6_member_r2 : List Cond := [Cond.initialized "java/lang/IndexOutOfBoundsException", Cond.classLink RX6 270 "java/lang/IllegalArgumentException", Cond.initialized "java/lang/IllegalArgumentException", Cond.classLink RX6 275 "java/lang/IllegalStateException", Cond.initialized "java/lang/IllegalStateException", Cond.instanceMethod yX4_memberValue, Cond.selects RX4 yX4_memberValue yX4_memberValue, Cond.code yX4_memberValue cX4_memberValue 4 (some .int), Cond.methodLink RX4 122 yX4_waitAt, Cond.instanceMethod yX4_waitAt, Cond.selects RX4 yX4_waitAt yX4_waitAt, Cond.code yX4_waitAt cX4_waitAt 4 (some .int), Cond.methodLink RX4 125 yX4_costAt, Cond.instanceMethod yX4_costAt, Cond.selects RX4 yX4_costAt yX4_costAt, Cond.code yX4_costAt cX4_costAt 2 (some .int), Cond.methodLink RX4 128 yX4_friendsAt, Cond.instanceMethod yX4_friendsAt, Cond.selects RX4 yX4_friendsAt yX4_friendsAt, Cond.code yX4_friendsAt cX4_friendsAt 2 (some .int), Cond.methodLink RX4 116 yX4_areFriends, Cond.instanceMethod yX4_areFriends, Cond.selects RX4 yX4_areFriends yX4_areFriends, Cond.code yX4_areFriends cX4_areFriends 2 (some .boolean)]
def wsX6_member : List Cond := .code yX6_member cX6_member 4 (some .int) :: ((wsX6_member_r1 ++ wsX6_member_r2) ++ wsX60 ++ wsX40 ++ wsX50 ++ (vx_atS RX6 267 "java/lang/IndexOutOfBoundsException" ["java/lang/RuntimeException", "java/lang/Exception"]).filter goodWord ++ (vx_atS RX6 274 "java/lang/IllegalArgumentException" ["java/lang/RuntimeException", "java/lang/Exception"]).filter goodWord ++ (vx_atS RX6 279 "java/lang/IllegalStateException" ["java/lang/RuntimeException", "java/lang/Exception"]).filter goodWord)
def wsX6_at : List Cond := .code yX6_at cX6_at 2 (some .int) :: ([.fieldLink RX6 10 "ConsentQueue" "line" "LConsentQueue$Line;", .methodLink RX6 59 yX6_refuse, .static yX6_refuse, .initialized RX6, .code yX6_refuse cX6_refuse 1 none, .classLink RX6 263 "java/lang/IndexOutOfBoundsException", .initialized "java/lang/IndexOutOfBoundsException", .classLink RX6 270 "java/lang/IllegalArgumentException", .initialized "java/lang/IllegalArgumentException", .classLink RX6 275 "java/lang/IllegalStateException", .initialized "java/lang/IllegalStateException", .instanceMethod yX4_memberAt, .initialized RX4, .selects RX4 yX4_memberAt yX4_memberAt, .code yX4_memberAt cX4_memberAt 3 (some (.object "ConsentQueue$Member")), .fieldLink RX4 26 "ConsentQueue$Line" "count" "I", .fieldLink RX4 11 "ConsentQueue$Line" "members" "[LConsentQueue$Member;", .fieldLink RX4 18 "ConsentQueue$Line" "nobody" "LConsentQueue$Member;"] ++ wsX60 ++ wsX50 ++ wsX40 ++ (vx_atS RX6 267 "java/lang/IndexOutOfBoundsException" ["java/lang/RuntimeException", "java/lang/Exception"]).filter goodWord ++ (vx_atS RX6 274 "java/lang/IllegalArgumentException" ["java/lang/RuntimeException", "java/lang/Exception"]).filter goodWord ++ (vx_atS RX6 279 "java/lang/IllegalStateException" ["java/lang/RuntimeException", "java/lang/Exception"]).filter goodWord)
def wsX6_pair_r1 : List Cond := [Cond.fieldLink RX6 10 "ConsentQueue" "line" "LConsentQueue$Line;", Cond.methodLink RX6 55 yX6_isWithin, Cond.static yX6_isWithin, Cond.initialized RX6, Cond.code yX6_isWithin cX6_isWithin 3 (some .boolean), Cond.methodLink RX6 110 yX6_pairFault, Cond.instanceMethod yX6_pairFault, Cond.selects RX6 yX6_pairFault yX6_pairFault, Cond.code yX6_pairFault cX6_pairFault 4 (some .int), Cond.methodLink RX6 59 yX6_refuse, Cond.static yX6_refuse, Cond.code yX6_refuse cX6_refuse 1 none, Cond.classLink RX6 263 "java/lang/IndexOutOfBoundsException", Cond.initialized "java/lang/IndexOutOfBoundsException", Cond.classLink RX6 270 "java/lang/IllegalArgumentException", Cond.initialized "java/lang/IllegalArgumentException", Cond.classLink RX6 275 "java/lang/IllegalStateException", Cond.initialized "java/lang/IllegalStateException", Cond.instanceMethod yX4_pairValue, Cond.initialized RX4, Cond.selects RX4 yX4_pairValue yX4_pairValue, Cond.code yX4_pairValue cX4_pairValue 3 (some .int), Cond.methodLink RX4 119 yX4_gain, Cond.instanceMethod yX4_gain]
def wsX6_pair_r2 : List Cond := [Cond.selects RX4 yX4_gain yX4_gain, Cond.code yX4_gain cX4_gain 2 (some .int), Cond.methodLink RX4 41 yX4_memberAt, Cond.instanceMethod yX4_memberAt, Cond.selects RX4 yX4_memberAt yX4_memberAt, Cond.code yX4_memberAt cX4_memberAt 3 (some (.object "ConsentQueue$Member")), Cond.fieldLink RX4 26 "ConsentQueue$Line" "count" "I", Cond.fieldLink RX4 11 "ConsentQueue$Line" "members" "[LConsentQueue$Member;", Cond.fieldLink RX4 18 "ConsentQueue$Line" "nobody" "LConsentQueue$Member;", Cond.methodLink RX4 113 yX4_loss, Cond.instanceMethod yX4_loss, Cond.selects RX4 yX4_loss yX4_loss, Cond.code yX4_loss cX4_loss 2 (some .int), Cond.methodLink RX4 100 yX4_surplus, Cond.instanceMethod yX4_surplus, Cond.selects RX4 yX4_surplus yX4_surplus, Cond.code yX4_surplus cX4_surplus 4 (some .int), Cond.methodLink RX4 88 yX4_fairPrice, Cond.instanceMethod yX4_fairPrice, Cond.selects RX4 yX4_fairPrice yX4_fairPrice, Cond.code yX4_fairPrice cX4_fairPrice 6 (some .int), Cond.fieldLink RX4 22 "ConsentQueue$Line" "split" "I", Cond.methodLink RX4 116 yX4_areFriends, Cond.instanceMethod yX4_areFriends]
def wsX6_pair_r3 : List Cond := [Cond.selects RX4 yX4_areFriends yX4_areFriends, Cond.code yX4_areFriends cX4_areFriends 2 (some .boolean)]
def wsX6_pair : List Cond := .code yX6_pair cX6_pair 3 (some .int) :: ((wsX6_pair_r1 ++ (wsX6_pair_r2 ++ wsX6_pair_r3)) ++ wsX60 ++ wsX40 ++ wsX50 ++ (vx_atS RX6 267 "java/lang/IndexOutOfBoundsException" ["java/lang/RuntimeException", "java/lang/Exception"]).filter goodWord ++ (vx_atS RX6 274 "java/lang/IllegalArgumentException" ["java/lang/RuntimeException", "java/lang/Exception"]).filter goodWord ++ (vx_atS RX6 279 "java/lang/IllegalStateException" ["java/lang/RuntimeException", "java/lang/Exception"]).filter goodWord)
def wsX6_wholeValue_r1 : List Cond := [Cond.fieldLink RX6 29 "ConsentQueue" "text" "LConsentQueue$CommandText;", Cond.fieldLink RX6 10 "ConsentQueue" "line" "LConsentQueue$Line;", Cond.instanceMethod yX4_wholeValue, Cond.initialized RX4, Cond.selects RX4 yX4_wholeValue yX4_wholeValue, Cond.code yX4_wholeValue cX4_wholeValue 2 (some .int), Cond.fieldLink RX4 26 "ConsentQueue$Line" "count" "I", Cond.fieldLink RX4 22 "ConsentQueue$Line" "split" "I", Cond.fieldLink RX4 29 "ConsentQueue$Line" "swaps" "I", Cond.fieldLink RX4 32 "ConsentQueue$Line" "paid" "I", Cond.fieldLink RX4 35 "ConsentQueue$Line" "served" "I", Cond.fieldLink RX4 38 "ConsentQueue$Line" "joined" "I", Cond.methodLink RX4 142 yX4_cost, Cond.instanceMethod yX4_cost, Cond.selects RX4 yX4_cost yX4_cost, Cond.code yX4_cost cX4_cost 3 (some .int), Cond.methodLink RX4 125 yX4_costAt, Cond.instanceMethod yX4_costAt, Cond.selects RX4 yX4_costAt yX4_costAt, Cond.code yX4_costAt cX4_costAt 2 (some .int), Cond.methodLink RX4 41 yX4_memberAt, Cond.instanceMethod yX4_memberAt, Cond.selects RX4 yX4_memberAt yX4_memberAt, Cond.code yX4_memberAt cX4_memberAt 3 (some (.object "ConsentQueue$Member"))]
def wsX6_wholeValue_r2 : List Cond := [Cond.fieldLink RX4 11 "ConsentQueue$Line" "members" "[LConsentQueue$Member;", Cond.fieldLink RX4 18 "ConsentQueue$Line" "nobody" "LConsentQueue$Member;", Cond.methodLink RX4 122 yX4_waitAt, Cond.instanceMethod yX4_waitAt, Cond.selects RX4 yX4_waitAt yX4_waitAt, Cond.code yX4_waitAt cX4_waitAt 4 (some .int), Cond.methodLink RX4 145 yX4_toldCost, Cond.instanceMethod yX4_toldCost, Cond.selects RX4 yX4_toldCost yX4_toldCost, Cond.code yX4_toldCost cX4_toldCost 3 (some .int), Cond.methodLink RX4 148 yX4_bestCost, Cond.instanceMethod yX4_bestCost, Cond.selects RX4 yX4_bestCost yX4_bestCost, Cond.code yX4_bestCost cX4_bestCost 4 (some .int), Cond.methodLink RX4 134 Lib.Math.min.name, Cond.static Lib.Math.min.name, Cond.initialized "java/lang/Math", Cond.code Lib.Math.min.name Lib.Math.min.code 2 (some .int), Cond.methodLink RX4 131 yX4_waitingCost, Cond.instanceMethod yX4_waitingCost, Cond.selects RX4 yX4_waitingCost yX4_waitingCost, Cond.code yX4_waitingCost cX4_waitingCost 3 (some .int), Cond.methodLink RX4 151 yX4_willingPairs, Cond.instanceMethod yX4_willingPairs]
def wsX6_wholeValue_r3 : List Cond := [Cond.selects RX4 yX4_willingPairs yX4_willingPairs, Cond.code yX4_willingPairs cX4_willingPairs 3 (some .int), Cond.methodLink RX4 110 yX4_hindrance, Cond.instanceMethod yX4_hindrance, Cond.selects RX4 yX4_hindrance yX4_hindrance, Cond.code yX4_hindrance cX4_hindrance 2 (some .int), Cond.methodLink RX4 116 yX4_areFriends, Cond.instanceMethod yX4_areFriends, Cond.selects RX4 yX4_areFriends yX4_areFriends, Cond.code yX4_areFriends cX4_areFriends 2 (some .boolean), Cond.methodLink RX4 100 yX4_surplus, Cond.instanceMethod yX4_surplus, Cond.selects RX4 yX4_surplus yX4_surplus, Cond.code yX4_surplus cX4_surplus 4 (some .int), Cond.methodLink RX4 154 yX4_offers, Cond.instanceMethod yX4_offers, Cond.selects RX4 yX4_offers yX4_offers, Cond.code yX4_offers cX4_offers 3 (some .int), Cond.methodLink RX4 157 yX4_welcomeOffers, Cond.instanceMethod yX4_welcomeOffers, Cond.selects RX4 yX4_welcomeOffers yX4_welcomeOffers, Cond.code yX4_welcomeOffers cX4_welcomeOffers 3 (some .int), Cond.methodLink RX4 139 yX4_wouldTake, Cond.instanceMethod yX4_wouldTake]
def wsX6_wholeValue_r4 : List Cond := [Cond.selects RX4 yX4_wouldTake yX4_wouldTake, Cond.code yX4_wouldTake cX4_wouldTake 3 (some .boolean), Cond.methodLink RX4 113 yX4_loss, Cond.instanceMethod yX4_loss, Cond.selects RX4 yX4_loss yX4_loss, Cond.code yX4_loss cX4_loss 2 (some .int), Cond.methodLink RX4 103 yX4_isHeldByFriends, Cond.instanceMethod yX4_isHeldByFriends, Cond.selects RX4 yX4_isHeldByFriends yX4_isHeldByFriends, Cond.code yX4_isHeldByFriends cX4_isHeldByFriends 2 (some .boolean), Cond.methodLink RX4 80 yX4_friendPairs, Cond.instanceMethod yX4_friendPairs, Cond.selects RX4 yX4_friendPairs yX4_friendPairs, Cond.code yX4_friendPairs cX4_friendPairs 3 (some .int)]
def wsX6_wholeValue : List Cond := .code yX6_wholeValue cX6_wholeValue 2 (some .int) :: ((wsX6_wholeValue_r1 ++ (wsX6_wholeValue_r2 ++ (wsX6_wholeValue_r3 ++ wsX6_wholeValue_r4))) ++ wsX60 ++ wsX20 ++ wsX40 ++ wsX50)
def wsX6_whole_r1 : List Cond := [Cond.methodLink RX6 55 yX6_isWithin, Cond.static yX6_isWithin, Cond.initialized RX6, Cond.code yX6_isWithin cX6_isWithin 3 (some .boolean), Cond.methodLink RX6 59 yX6_refuse, Cond.static yX6_refuse, Cond.code yX6_refuse cX6_refuse 1 none, Cond.classLink RX6 263 "java/lang/IndexOutOfBoundsException", Cond.initialized "java/lang/IndexOutOfBoundsException", Cond.classLink RX6 270 "java/lang/IllegalArgumentException", Cond.initialized "java/lang/IllegalArgumentException", Cond.classLink RX6 275 "java/lang/IllegalStateException", Cond.initialized "java/lang/IllegalStateException", Cond.methodLink RX6 117 yX6_wholeValue, Cond.instanceMethod yX6_wholeValue, Cond.selects RX6 yX6_wholeValue yX6_wholeValue, Cond.code yX6_wholeValue cX6_wholeValue 2 (some .int), Cond.fieldLink RX6 29 "ConsentQueue" "text" "LConsentQueue$CommandText;", Cond.fieldLink RX6 10 "ConsentQueue" "line" "LConsentQueue$Line;", Cond.instanceMethod yX4_wholeValue, Cond.initialized RX4, Cond.selects RX4 yX4_wholeValue yX4_wholeValue, Cond.code yX4_wholeValue cX4_wholeValue 2 (some .int), Cond.fieldLink RX4 26 "ConsentQueue$Line" "count" "I"]
def wsX6_whole_r2 : List Cond := [Cond.fieldLink RX4 22 "ConsentQueue$Line" "split" "I", Cond.fieldLink RX4 29 "ConsentQueue$Line" "swaps" "I", Cond.fieldLink RX4 32 "ConsentQueue$Line" "paid" "I", Cond.fieldLink RX4 35 "ConsentQueue$Line" "served" "I", Cond.fieldLink RX4 38 "ConsentQueue$Line" "joined" "I", Cond.methodLink RX4 142 yX4_cost, Cond.instanceMethod yX4_cost, Cond.selects RX4 yX4_cost yX4_cost, Cond.code yX4_cost cX4_cost 3 (some .int), Cond.methodLink RX4 125 yX4_costAt, Cond.instanceMethod yX4_costAt, Cond.selects RX4 yX4_costAt yX4_costAt, Cond.code yX4_costAt cX4_costAt 2 (some .int), Cond.methodLink RX4 41 yX4_memberAt, Cond.instanceMethod yX4_memberAt, Cond.selects RX4 yX4_memberAt yX4_memberAt, Cond.code yX4_memberAt cX4_memberAt 3 (some (.object "ConsentQueue$Member")), Cond.fieldLink RX4 11 "ConsentQueue$Line" "members" "[LConsentQueue$Member;", Cond.fieldLink RX4 18 "ConsentQueue$Line" "nobody" "LConsentQueue$Member;", Cond.methodLink RX4 122 yX4_waitAt, Cond.instanceMethod yX4_waitAt, Cond.selects RX4 yX4_waitAt yX4_waitAt, Cond.code yX4_waitAt cX4_waitAt 4 (some .int), Cond.methodLink RX4 145 yX4_toldCost]
def wsX6_whole_r3 : List Cond := [Cond.instanceMethod yX4_toldCost, Cond.selects RX4 yX4_toldCost yX4_toldCost, Cond.code yX4_toldCost cX4_toldCost 3 (some .int), Cond.methodLink RX4 148 yX4_bestCost, Cond.instanceMethod yX4_bestCost, Cond.selects RX4 yX4_bestCost yX4_bestCost, Cond.code yX4_bestCost cX4_bestCost 4 (some .int), Cond.methodLink RX4 134 Lib.Math.min.name, Cond.static Lib.Math.min.name, Cond.initialized "java/lang/Math", Cond.code Lib.Math.min.name Lib.Math.min.code 2 (some .int), Cond.methodLink RX4 131 yX4_waitingCost, Cond.instanceMethod yX4_waitingCost, Cond.selects RX4 yX4_waitingCost yX4_waitingCost, Cond.code yX4_waitingCost cX4_waitingCost 3 (some .int), Cond.methodLink RX4 151 yX4_willingPairs, Cond.instanceMethod yX4_willingPairs, Cond.selects RX4 yX4_willingPairs yX4_willingPairs, Cond.code yX4_willingPairs cX4_willingPairs 3 (some .int), Cond.methodLink RX4 110 yX4_hindrance, Cond.instanceMethod yX4_hindrance, Cond.selects RX4 yX4_hindrance yX4_hindrance, Cond.code yX4_hindrance cX4_hindrance 2 (some .int), Cond.methodLink RX4 116 yX4_areFriends]
def wsX6_whole_r4 : List Cond := [Cond.instanceMethod yX4_areFriends, Cond.selects RX4 yX4_areFriends yX4_areFriends, Cond.code yX4_areFriends cX4_areFriends 2 (some .boolean), Cond.methodLink RX4 100 yX4_surplus, Cond.instanceMethod yX4_surplus, Cond.selects RX4 yX4_surplus yX4_surplus, Cond.code yX4_surplus cX4_surplus 4 (some .int), Cond.methodLink RX4 154 yX4_offers, Cond.instanceMethod yX4_offers, Cond.selects RX4 yX4_offers yX4_offers, Cond.code yX4_offers cX4_offers 3 (some .int), Cond.methodLink RX4 157 yX4_welcomeOffers, Cond.instanceMethod yX4_welcomeOffers, Cond.selects RX4 yX4_welcomeOffers yX4_welcomeOffers, Cond.code yX4_welcomeOffers cX4_welcomeOffers 3 (some .int), Cond.methodLink RX4 139 yX4_wouldTake, Cond.instanceMethod yX4_wouldTake, Cond.selects RX4 yX4_wouldTake yX4_wouldTake, Cond.code yX4_wouldTake cX4_wouldTake 3 (some .boolean), Cond.methodLink RX4 113 yX4_loss, Cond.instanceMethod yX4_loss, Cond.selects RX4 yX4_loss yX4_loss, Cond.code yX4_loss cX4_loss 2 (some .int), Cond.methodLink RX4 103 yX4_isHeldByFriends]
def wsX6_whole_r5 : List Cond := [Cond.instanceMethod yX4_isHeldByFriends, Cond.selects RX4 yX4_isHeldByFriends yX4_isHeldByFriends, Cond.code yX4_isHeldByFriends cX4_isHeldByFriends 2 (some .boolean), Cond.methodLink RX4 80 yX4_friendPairs, Cond.instanceMethod yX4_friendPairs, Cond.selects RX4 yX4_friendPairs yX4_friendPairs, Cond.code yX4_friendPairs cX4_friendPairs 3 (some .int)]
def wsX6_whole : List Cond := .code yX6_whole cX6_whole 2 (some .int) :: ((wsX6_whole_r1 ++ (wsX6_whole_r2 ++ (wsX6_whole_r3 ++ (wsX6_whole_r4 ++ wsX6_whole_r5)))) ++ wsX60 ++ wsX20 ++ wsX40 ++ wsX50 ++ (vx_atS RX6 267 "java/lang/IndexOutOfBoundsException" ["java/lang/RuntimeException", "java/lang/Exception"]).filter goodWord ++ (vx_atS RX6 274 "java/lang/IllegalArgumentException" ["java/lang/RuntimeException", "java/lang/Exception"]).filter goodWord ++ (vx_atS RX6 279 "java/lang/IllegalStateException" ["java/lang/RuntimeException", "java/lang/Exception"]).filter goodWord)
def wsX6_reason_r1 : List Cond := [Cond.fieldLink RX6 10 "ConsentQueue" "line" "LConsentQueue$Line;", Cond.methodLink RX6 110 yX6_pairFault, Cond.instanceMethod yX6_pairFault, Cond.selects RX6 yX6_pairFault yX6_pairFault, Cond.initialized RX6, Cond.code yX6_pairFault cX6_pairFault 4 (some .int), Cond.methodLink RX6 55 yX6_isWithin, Cond.static yX6_isWithin, Cond.code yX6_isWithin cX6_isWithin 3 (some .boolean), Cond.methodLink RX6 59 yX6_refuse, Cond.static yX6_refuse, Cond.code yX6_refuse cX6_refuse 1 none, Cond.classLink RX6 263 "java/lang/IndexOutOfBoundsException", Cond.initialized "java/lang/IndexOutOfBoundsException", Cond.classLink RX6 270 "java/lang/IllegalArgumentException", Cond.initialized "java/lang/IllegalArgumentException", Cond.classLink RX6 275 "java/lang/IllegalStateException", Cond.initialized "java/lang/IllegalStateException", Cond.instanceMethod yX4_hindrance, Cond.initialized RX4, Cond.selects RX4 yX4_hindrance yX4_hindrance, Cond.code yX4_hindrance cX4_hindrance 2 (some .int), Cond.methodLink RX4 116 yX4_areFriends, Cond.instanceMethod yX4_areFriends]
def wsX6_reason_r2 : List Cond := [Cond.selects RX4 yX4_areFriends yX4_areFriends, Cond.code yX4_areFriends cX4_areFriends 2 (some .boolean), Cond.methodLink RX4 41 yX4_memberAt, Cond.instanceMethod yX4_memberAt, Cond.selects RX4 yX4_memberAt yX4_memberAt, Cond.code yX4_memberAt cX4_memberAt 3 (some (.object "ConsentQueue$Member")), Cond.fieldLink RX4 26 "ConsentQueue$Line" "count" "I", Cond.fieldLink RX4 11 "ConsentQueue$Line" "members" "[LConsentQueue$Member;", Cond.fieldLink RX4 18 "ConsentQueue$Line" "nobody" "LConsentQueue$Member;", Cond.methodLink RX4 100 yX4_surplus, Cond.instanceMethod yX4_surplus, Cond.selects RX4 yX4_surplus yX4_surplus, Cond.code yX4_surplus cX4_surplus 4 (some .int)]
def wsX6_reason : List Cond := .code yX6_reason cX6_reason 2 (some .int) :: ((wsX6_reason_r1 ++ wsX6_reason_r2) ++ wsX60 ++ wsX40 ++ wsX50 ++ (vx_atS RX6 267 "java/lang/IndexOutOfBoundsException" ["java/lang/RuntimeException", "java/lang/Exception"]).filter goodWord ++ (vx_atS RX6 274 "java/lang/IllegalArgumentException" ["java/lang/RuntimeException", "java/lang/Exception"]).filter goodWord ++ (vx_atS RX6 279 "java/lang/IllegalStateException" ["java/lang/RuntimeException", "java/lang/Exception"]).filter goodWord)
def wsX6_settledPlace_r1 : List Cond := [Cond.fieldLink RX6 10 "ConsentQueue" "line" "LConsentQueue$Line;", Cond.fieldLink RX6 16 "ConsentQueue" "trial" "LConsentQueue$Line;", Cond.instanceMethod yX4_placeOf, Cond.initialized RX4, Cond.selects RX4 yX4_placeOf yX4_placeOf, Cond.code yX4_placeOf cX4_placeOf 3 (some .int), Cond.fieldLink RX4 26 "ConsentQueue$Line" "count" "I", Cond.methodLink RX4 41 yX4_memberAt, Cond.instanceMethod yX4_memberAt, Cond.selects RX4 yX4_memberAt yX4_memberAt, Cond.code yX4_memberAt cX4_memberAt 3 (some (.object "ConsentQueue$Member")), Cond.fieldLink RX4 11 "ConsentQueue$Line" "members" "[LConsentQueue$Member;", Cond.fieldLink RX4 18 "ConsentQueue$Line" "nobody" "LConsentQueue$Member;", Cond.methodLink RX6 93 yX6_memberFault, Cond.instanceMethod yX6_memberFault, Cond.selects RX6 yX6_memberFault yX6_memberFault, Cond.initialized RX6, Cond.code yX6_memberFault cX6_memberFault 3 (some .int), Cond.methodLink RX6 59 yX6_refuse, Cond.static yX6_refuse, Cond.code yX6_refuse cX6_refuse 1 none, Cond.classLink RX6 263 "java/lang/IndexOutOfBoundsException", Cond.initialized "java/lang/IndexOutOfBoundsException", Cond.classLink RX6 270 "java/lang/IllegalArgumentException"]
def wsX6_settledPlace_r2 : List Cond := [Cond.initialized "java/lang/IllegalArgumentException", Cond.classLink RX6 275 "java/lang/IllegalStateException", Cond.initialized "java/lang/IllegalStateException", Cond.instanceMethod yX4_copyFrom, Cond.selects RX4 yX4_copyFrom yX4_copyFrom, Cond.code yX4_copyFrom cX4_copyFrom 3 none, Cond.fieldLink RX4 22 "ConsentQueue$Line" "split" "I", Cond.fieldLink RX4 29 "ConsentQueue$Line" "swaps" "I", Cond.fieldLink RX4 32 "ConsentQueue$Line" "paid" "I", Cond.fieldLink RX4 35 "ConsentQueue$Line" "served" "I", Cond.fieldLink RX4 38 "ConsentQueue$Line" "joined" "I", Cond.instanceMethod yX5_copyFrom, Cond.initialized RX5, Cond.selects RX5 yX5_copyFrom yX5_copyFrom, Cond.code yX5_copyFrom cX5_copyFrom 2 none, Cond.fieldLink RX5 9 "ConsentQueue$Member" "number" "I", Cond.fieldLink RX5 18 "ConsentQueue$Member" "worth" "I", Cond.fieldLink RX5 21 "ConsentQueue$Member" "told" "I", Cond.fieldLink RX5 24 "ConsentQueue$Member" "service" "I", Cond.fieldLink RX5 27 "ConsentQueue$Member" "money" "I", Cond.fieldLink RX5 15 "ConsentQueue$Member" "offer" "I", Cond.fieldLink RX5 30 "ConsentQueue$Member" "friendAhead" "Z", Cond.instanceMethod yX4_settleDown, Cond.selects RX4 yX4_settleDown yX4_settleDown]
def wsX6_settledPlace_r3 : List Cond := [Cond.code yX4_settleDown cX4_settleDown 3 (some .int), Cond.methodLink RX4 94 yX4_keenestPair, Cond.instanceMethod yX4_keenestPair, Cond.selects RX4 yX4_keenestPair yX4_keenestPair, Cond.code yX4_keenestPair cX4_keenestPair 5 (some .int), Cond.methodLink RX4 100 yX4_surplus, Cond.instanceMethod yX4_surplus, Cond.selects RX4 yX4_surplus yX4_surplus, Cond.code yX4_surplus cX4_surplus 4 (some .int), Cond.methodLink RX4 103 yX4_isHeldByFriends, Cond.instanceMethod yX4_isHeldByFriends, Cond.selects RX4 yX4_isHeldByFriends yX4_isHeldByFriends, Cond.code yX4_isHeldByFriends cX4_isHeldByFriends 2 (some .boolean), Cond.methodLink RX4 97 yX4_swapFairly, Cond.instanceMethod yX4_swapFairly, Cond.selects RX4 yX4_swapFairly yX4_swapFairly, Cond.code yX4_swapFairly cX4_swapFairly 2 (some .int), Cond.methodLink RX4 88 yX4_fairPrice, Cond.instanceMethod yX4_fairPrice, Cond.selects RX4 yX4_fairPrice yX4_fairPrice, Cond.code yX4_fairPrice cX4_fairPrice 6 (some .int), Cond.methodLink RX4 84 yX4_swapAt, Cond.instanceMethod yX4_swapAt, Cond.selects RX4 yX4_swapAt yX4_swapAt]
def wsX6_settledPlace_r4 : List Cond := [Cond.code yX4_swapAt cX4_swapAt 5 (some .int), Cond.instanceMethod yX5_loseOneAhead, Cond.selects RX5 yX5_loseOneAhead yX5_loseOneAhead, Cond.code yX5_loseOneAhead cX5_loseOneAhead 1 none]
def wsX6_settledPlace : List Cond := .code yX6_settledPlace cX6_settledPlace 2 (some .int) :: ((wsX6_settledPlace_r1 ++ (wsX6_settledPlace_r2 ++ (wsX6_settledPlace_r3 ++ wsX6_settledPlace_r4))) ++ wsX60 ++ wsX40 ++ wsX50 ++ (vx_atS RX6 267 "java/lang/IndexOutOfBoundsException" ["java/lang/RuntimeException", "java/lang/Exception"]).filter goodWord ++ (vx_atS RX6 274 "java/lang/IllegalArgumentException" ["java/lang/RuntimeException", "java/lang/Exception"]).filter goodWord ++ (vx_atS RX6 279 "java/lang/IllegalStateException" ["java/lang/RuntimeException", "java/lang/Exception"]).filter goodWord)
def wsX6_profitAt_r1 : List Cond := [Cond.fieldLink RX6 10 "ConsentQueue" "line" "LConsentQueue$Line;", Cond.fieldLink RX6 16 "ConsentQueue" "trial" "LConsentQueue$Line;", Cond.instanceMethod yX4_memberAt, Cond.initialized RX4, Cond.selects RX4 yX4_memberAt yX4_memberAt, Cond.code yX4_memberAt cX4_memberAt 3 (some (.object "ConsentQueue$Member")), Cond.fieldLink RX4 26 "ConsentQueue$Line" "count" "I", Cond.fieldLink RX4 11 "ConsentQueue$Line" "members" "[LConsentQueue$Member;", Cond.fieldLink RX4 18 "ConsentQueue$Line" "nobody" "LConsentQueue$Member;", Cond.instanceMethod yX4_copyFrom, Cond.selects RX4 yX4_copyFrom yX4_copyFrom, Cond.code yX4_copyFrom cX4_copyFrom 3 none, Cond.fieldLink RX4 22 "ConsentQueue$Line" "split" "I", Cond.fieldLink RX4 29 "ConsentQueue$Line" "swaps" "I", Cond.fieldLink RX4 32 "ConsentQueue$Line" "paid" "I", Cond.fieldLink RX4 35 "ConsentQueue$Line" "served" "I", Cond.fieldLink RX4 38 "ConsentQueue$Line" "joined" "I", Cond.methodLink RX4 41 yX4_memberAt, Cond.instanceMethod yX5_copyFrom, Cond.initialized RX5, Cond.selects RX5 yX5_copyFrom yX5_copyFrom, Cond.code yX5_copyFrom cX5_copyFrom 2 none, Cond.fieldLink RX5 9 "ConsentQueue$Member" "number" "I", Cond.fieldLink RX5 18 "ConsentQueue$Member" "worth" "I"]
def wsX6_profitAt_r2 : List Cond := [Cond.fieldLink RX5 21 "ConsentQueue$Member" "told" "I", Cond.fieldLink RX5 24 "ConsentQueue$Member" "service" "I", Cond.fieldLink RX5 27 "ConsentQueue$Member" "money" "I", Cond.fieldLink RX5 15 "ConsentQueue$Member" "offer" "I", Cond.fieldLink RX5 30 "ConsentQueue$Member" "friendAhead" "Z", Cond.instanceMethod yX4_settleDown, Cond.selects RX4 yX4_settleDown yX4_settleDown, Cond.code yX4_settleDown cX4_settleDown 3 (some .int), Cond.methodLink RX4 94 yX4_keenestPair, Cond.instanceMethod yX4_keenestPair, Cond.selects RX4 yX4_keenestPair yX4_keenestPair, Cond.code yX4_keenestPair cX4_keenestPair 5 (some .int), Cond.methodLink RX4 100 yX4_surplus, Cond.instanceMethod yX4_surplus, Cond.selects RX4 yX4_surplus yX4_surplus, Cond.code yX4_surplus cX4_surplus 4 (some .int), Cond.methodLink RX4 103 yX4_isHeldByFriends, Cond.instanceMethod yX4_isHeldByFriends, Cond.selects RX4 yX4_isHeldByFriends yX4_isHeldByFriends, Cond.code yX4_isHeldByFriends cX4_isHeldByFriends 2 (some .boolean), Cond.methodLink RX4 97 yX4_swapFairly, Cond.instanceMethod yX4_swapFairly, Cond.selects RX4 yX4_swapFairly yX4_swapFairly, Cond.code yX4_swapFairly cX4_swapFairly 2 (some .int)]
def wsX6_profitAt_r3 : List Cond := [Cond.methodLink RX4 88 yX4_fairPrice, Cond.instanceMethod yX4_fairPrice, Cond.selects RX4 yX4_fairPrice yX4_fairPrice, Cond.code yX4_fairPrice cX4_fairPrice 6 (some .int), Cond.methodLink RX4 84 yX4_swapAt, Cond.instanceMethod yX4_swapAt, Cond.selects RX4 yX4_swapAt yX4_swapAt, Cond.code yX4_swapAt cX4_swapAt 5 (some .int), Cond.instanceMethod yX5_loseOneAhead, Cond.selects RX5 yX5_loseOneAhead yX5_loseOneAhead, Cond.code yX5_loseOneAhead cX5_loseOneAhead 1 none, Cond.instanceMethod yX4_placeOf, Cond.selects RX4 yX4_placeOf yX4_placeOf, Cond.code yX4_placeOf cX4_placeOf 3 (some .int), Cond.instanceMethod yX4_costAt, Cond.selects RX4 yX4_costAt yX4_costAt, Cond.code yX4_costAt cX4_costAt 2 (some .int), Cond.methodLink RX4 122 yX4_waitAt, Cond.instanceMethod yX4_waitAt, Cond.selects RX4 yX4_waitAt yX4_waitAt, Cond.code yX4_waitAt cX4_waitAt 4 (some .int)]
def wsX6_profitAt : List Cond := .code yX6_profitAt cX6_profitAt 6 (some .int) :: ((wsX6_profitAt_r1 ++ (wsX6_profitAt_r2 ++ wsX6_profitAt_r3)) ++ wsX60 ++ wsX50 ++ wsX40)
def wsX6_profit_r1 : List Cond := [Cond.fieldLink RX6 10 "ConsentQueue" "line" "LConsentQueue$Line;", Cond.instanceMethod yX4_placeOf, Cond.initialized RX4, Cond.selects RX4 yX4_placeOf yX4_placeOf, Cond.code yX4_placeOf cX4_placeOf 3 (some .int), Cond.fieldLink RX4 26 "ConsentQueue$Line" "count" "I", Cond.methodLink RX4 41 yX4_memberAt, Cond.instanceMethod yX4_memberAt, Cond.selects RX4 yX4_memberAt yX4_memberAt, Cond.code yX4_memberAt cX4_memberAt 3 (some (.object "ConsentQueue$Member")), Cond.fieldLink RX4 11 "ConsentQueue$Line" "members" "[LConsentQueue$Member;", Cond.fieldLink RX4 18 "ConsentQueue$Line" "nobody" "LConsentQueue$Member;", Cond.methodLink RX6 55 yX6_isWithin, Cond.static yX6_isWithin, Cond.initialized RX6, Cond.code yX6_isWithin cX6_isWithin 3 (some .boolean), Cond.methodLink RX6 93 yX6_memberFault, Cond.instanceMethod yX6_memberFault, Cond.selects RX6 yX6_memberFault yX6_memberFault, Cond.code yX6_memberFault cX6_memberFault 3 (some .int), Cond.methodLink RX6 59 yX6_refuse, Cond.static yX6_refuse, Cond.code yX6_refuse cX6_refuse 1 none, Cond.classLink RX6 263 "java/lang/IndexOutOfBoundsException"]
def wsX6_profit_r2 : List Cond := [Cond.initialized "java/lang/IndexOutOfBoundsException", Cond.classLink RX6 270 "java/lang/IllegalArgumentException", Cond.initialized "java/lang/IllegalArgumentException", Cond.classLink RX6 275 "java/lang/IllegalStateException", Cond.initialized "java/lang/IllegalStateException", Cond.methodLink RX6 130 yX6_profitAt, Cond.instanceMethod yX6_profitAt, Cond.selects RX6 yX6_profitAt yX6_profitAt, Cond.code yX6_profitAt cX6_profitAt 6 (some .int), Cond.fieldLink RX6 16 "ConsentQueue" "trial" "LConsentQueue$Line;", Cond.instanceMethod yX4_copyFrom, Cond.selects RX4 yX4_copyFrom yX4_copyFrom, Cond.code yX4_copyFrom cX4_copyFrom 3 none, Cond.fieldLink RX4 22 "ConsentQueue$Line" "split" "I", Cond.fieldLink RX4 29 "ConsentQueue$Line" "swaps" "I", Cond.fieldLink RX4 32 "ConsentQueue$Line" "paid" "I", Cond.fieldLink RX4 35 "ConsentQueue$Line" "served" "I", Cond.fieldLink RX4 38 "ConsentQueue$Line" "joined" "I", Cond.instanceMethod yX5_copyFrom, Cond.initialized RX5, Cond.selects RX5 yX5_copyFrom yX5_copyFrom, Cond.code yX5_copyFrom cX5_copyFrom 2 none, Cond.fieldLink RX5 9 "ConsentQueue$Member" "number" "I", Cond.fieldLink RX5 18 "ConsentQueue$Member" "worth" "I"]
def wsX6_profit_r3 : List Cond := [Cond.fieldLink RX5 21 "ConsentQueue$Member" "told" "I", Cond.fieldLink RX5 24 "ConsentQueue$Member" "service" "I", Cond.fieldLink RX5 27 "ConsentQueue$Member" "money" "I", Cond.fieldLink RX5 15 "ConsentQueue$Member" "offer" "I", Cond.fieldLink RX5 30 "ConsentQueue$Member" "friendAhead" "Z", Cond.instanceMethod yX4_settleDown, Cond.selects RX4 yX4_settleDown yX4_settleDown, Cond.code yX4_settleDown cX4_settleDown 3 (some .int), Cond.methodLink RX4 94 yX4_keenestPair, Cond.instanceMethod yX4_keenestPair, Cond.selects RX4 yX4_keenestPair yX4_keenestPair, Cond.code yX4_keenestPair cX4_keenestPair 5 (some .int), Cond.methodLink RX4 100 yX4_surplus, Cond.instanceMethod yX4_surplus, Cond.selects RX4 yX4_surplus yX4_surplus, Cond.code yX4_surplus cX4_surplus 4 (some .int), Cond.methodLink RX4 103 yX4_isHeldByFriends, Cond.instanceMethod yX4_isHeldByFriends, Cond.selects RX4 yX4_isHeldByFriends yX4_isHeldByFriends, Cond.code yX4_isHeldByFriends cX4_isHeldByFriends 2 (some .boolean), Cond.methodLink RX4 97 yX4_swapFairly, Cond.instanceMethod yX4_swapFairly, Cond.selects RX4 yX4_swapFairly yX4_swapFairly, Cond.code yX4_swapFairly cX4_swapFairly 2 (some .int)]
def wsX6_profit_r4 : List Cond := [Cond.methodLink RX4 88 yX4_fairPrice, Cond.instanceMethod yX4_fairPrice, Cond.selects RX4 yX4_fairPrice yX4_fairPrice, Cond.code yX4_fairPrice cX4_fairPrice 6 (some .int), Cond.methodLink RX4 84 yX4_swapAt, Cond.instanceMethod yX4_swapAt, Cond.selects RX4 yX4_swapAt yX4_swapAt, Cond.code yX4_swapAt cX4_swapAt 5 (some .int), Cond.instanceMethod yX5_loseOneAhead, Cond.selects RX5 yX5_loseOneAhead yX5_loseOneAhead, Cond.code yX5_loseOneAhead cX5_loseOneAhead 1 none, Cond.instanceMethod yX4_costAt, Cond.selects RX4 yX4_costAt yX4_costAt, Cond.code yX4_costAt cX4_costAt 2 (some .int), Cond.methodLink RX4 122 yX4_waitAt, Cond.instanceMethod yX4_waitAt, Cond.selects RX4 yX4_waitAt yX4_waitAt, Cond.code yX4_waitAt cX4_waitAt 4 (some .int)]
def wsX6_profit : List Cond := .code yX6_profit cX6_profit 4 (some .int) :: ((wsX6_profit_r1 ++ (wsX6_profit_r2 ++ (wsX6_profit_r3 ++ wsX6_profit_r4))) ++ wsX60 ++ wsX40 ++ wsX50 ++ (vx_atS RX6 267 "java/lang/IndexOutOfBoundsException" ["java/lang/RuntimeException", "java/lang/Exception"]).filter goodWord ++ (vx_atS RX6 274 "java/lang/IllegalArgumentException" ["java/lang/RuntimeException", "java/lang/Exception"]).filter goodWord ++ (vx_atS RX6 279 "java/lang/IllegalStateException" ["java/lang/RuntimeException", "java/lang/Exception"]).filter goodWord)
def wsX6_bestLie_r1 : List Cond := [Cond.fieldLink RX6 10 "ConsentQueue" "line" "LConsentQueue$Line;", Cond.instanceMethod yX4_placeOf, Cond.initialized RX4, Cond.selects RX4 yX4_placeOf yX4_placeOf, Cond.code yX4_placeOf cX4_placeOf 3 (some .int), Cond.fieldLink RX4 26 "ConsentQueue$Line" "count" "I", Cond.methodLink RX4 41 yX4_memberAt, Cond.instanceMethod yX4_memberAt, Cond.selects RX4 yX4_memberAt yX4_memberAt, Cond.code yX4_memberAt cX4_memberAt 3 (some (.object "ConsentQueue$Member")), Cond.fieldLink RX4 11 "ConsentQueue$Line" "members" "[LConsentQueue$Member;", Cond.fieldLink RX4 18 "ConsentQueue$Line" "nobody" "LConsentQueue$Member;", Cond.methodLink RX6 93 yX6_memberFault, Cond.instanceMethod yX6_memberFault, Cond.selects RX6 yX6_memberFault yX6_memberFault, Cond.initialized RX6, Cond.code yX6_memberFault cX6_memberFault 3 (some .int), Cond.methodLink RX6 59 yX6_refuse, Cond.static yX6_refuse, Cond.code yX6_refuse cX6_refuse 1 none, Cond.classLink RX6 263 "java/lang/IndexOutOfBoundsException", Cond.initialized "java/lang/IndexOutOfBoundsException", Cond.classLink RX6 270 "java/lang/IllegalArgumentException", Cond.initialized "java/lang/IllegalArgumentException"]
def wsX6_bestLie_r2 : List Cond := [Cond.classLink RX6 275 "java/lang/IllegalStateException", Cond.initialized "java/lang/IllegalStateException", Cond.methodLink RX6 130 yX6_profitAt, Cond.instanceMethod yX6_profitAt, Cond.selects RX6 yX6_profitAt yX6_profitAt, Cond.code yX6_profitAt cX6_profitAt 6 (some .int), Cond.fieldLink RX6 16 "ConsentQueue" "trial" "LConsentQueue$Line;", Cond.instanceMethod yX4_copyFrom, Cond.selects RX4 yX4_copyFrom yX4_copyFrom, Cond.code yX4_copyFrom cX4_copyFrom 3 none, Cond.fieldLink RX4 22 "ConsentQueue$Line" "split" "I", Cond.fieldLink RX4 29 "ConsentQueue$Line" "swaps" "I", Cond.fieldLink RX4 32 "ConsentQueue$Line" "paid" "I", Cond.fieldLink RX4 35 "ConsentQueue$Line" "served" "I", Cond.fieldLink RX4 38 "ConsentQueue$Line" "joined" "I", Cond.instanceMethod yX5_copyFrom, Cond.initialized RX5, Cond.selects RX5 yX5_copyFrom yX5_copyFrom, Cond.code yX5_copyFrom cX5_copyFrom 2 none, Cond.fieldLink RX5 9 "ConsentQueue$Member" "number" "I", Cond.fieldLink RX5 18 "ConsentQueue$Member" "worth" "I", Cond.fieldLink RX5 21 "ConsentQueue$Member" "told" "I", Cond.fieldLink RX5 24 "ConsentQueue$Member" "service" "I", Cond.fieldLink RX5 27 "ConsentQueue$Member" "money" "I"]
def wsX6_bestLie_r3 : List Cond := [Cond.fieldLink RX5 15 "ConsentQueue$Member" "offer" "I", Cond.fieldLink RX5 30 "ConsentQueue$Member" "friendAhead" "Z", Cond.instanceMethod yX4_settleDown, Cond.selects RX4 yX4_settleDown yX4_settleDown, Cond.code yX4_settleDown cX4_settleDown 3 (some .int), Cond.methodLink RX4 94 yX4_keenestPair, Cond.instanceMethod yX4_keenestPair, Cond.selects RX4 yX4_keenestPair yX4_keenestPair, Cond.code yX4_keenestPair cX4_keenestPair 5 (some .int), Cond.methodLink RX4 100 yX4_surplus, Cond.instanceMethod yX4_surplus, Cond.selects RX4 yX4_surplus yX4_surplus, Cond.code yX4_surplus cX4_surplus 4 (some .int), Cond.methodLink RX4 103 yX4_isHeldByFriends, Cond.instanceMethod yX4_isHeldByFriends, Cond.selects RX4 yX4_isHeldByFriends yX4_isHeldByFriends, Cond.code yX4_isHeldByFriends cX4_isHeldByFriends 2 (some .boolean), Cond.methodLink RX4 97 yX4_swapFairly, Cond.instanceMethod yX4_swapFairly, Cond.selects RX4 yX4_swapFairly yX4_swapFairly, Cond.code yX4_swapFairly cX4_swapFairly 2 (some .int), Cond.methodLink RX4 88 yX4_fairPrice, Cond.instanceMethod yX4_fairPrice, Cond.selects RX4 yX4_fairPrice yX4_fairPrice]
def wsX6_bestLie_r4 : List Cond := [Cond.code yX4_fairPrice cX4_fairPrice 6 (some .int), Cond.methodLink RX4 84 yX4_swapAt, Cond.instanceMethod yX4_swapAt, Cond.selects RX4 yX4_swapAt yX4_swapAt, Cond.code yX4_swapAt cX4_swapAt 5 (some .int), Cond.instanceMethod yX5_loseOneAhead, Cond.selects RX5 yX5_loseOneAhead yX5_loseOneAhead, Cond.code yX5_loseOneAhead cX5_loseOneAhead 1 none, Cond.instanceMethod yX4_costAt, Cond.selects RX4 yX4_costAt yX4_costAt, Cond.code yX4_costAt cX4_costAt 2 (some .int), Cond.methodLink RX4 122 yX4_waitAt, Cond.instanceMethod yX4_waitAt, Cond.selects RX4 yX4_waitAt yX4_waitAt, Cond.code yX4_waitAt cX4_waitAt 4 (some .int)]
def wsX6_bestLie : List Cond := .code yX6_bestLie cX6_bestLie 7 (some .int) :: ((wsX6_bestLie_r1 ++ (wsX6_bestLie_r2 ++ (wsX6_bestLie_r3 ++ wsX6_bestLie_r4))) ++ wsX60 ++ wsX40 ++ wsX50 ++ (vx_atS RX6 267 "java/lang/IndexOutOfBoundsException" ["java/lang/RuntimeException", "java/lang/Exception"]).filter goodWord ++ (vx_atS RX6 274 "java/lang/IllegalArgumentException" ["java/lang/RuntimeException", "java/lang/Exception"]).filter goodWord ++ (vx_atS RX6 279 "java/lang/IllegalStateException" ["java/lang/RuntimeException", "java/lang/Exception"]).filter goodWord)
def wsX6_honestCost_r1 : List Cond := [Cond.fieldLink RX6 16 "ConsentQueue" "trial" "LConsentQueue$Line;", Cond.fieldLink RX6 10 "ConsentQueue" "line" "LConsentQueue$Line;", Cond.instanceMethod yX4_copyFrom, Cond.initialized RX4, Cond.selects RX4 yX4_copyFrom yX4_copyFrom, Cond.code yX4_copyFrom cX4_copyFrom 3 none, Cond.fieldLink RX4 26 "ConsentQueue$Line" "count" "I", Cond.fieldLink RX4 22 "ConsentQueue$Line" "split" "I", Cond.fieldLink RX4 29 "ConsentQueue$Line" "swaps" "I", Cond.fieldLink RX4 32 "ConsentQueue$Line" "paid" "I", Cond.fieldLink RX4 35 "ConsentQueue$Line" "served" "I", Cond.fieldLink RX4 38 "ConsentQueue$Line" "joined" "I", Cond.methodLink RX4 41 yX4_memberAt, Cond.instanceMethod yX4_memberAt, Cond.selects RX4 yX4_memberAt yX4_memberAt, Cond.code yX4_memberAt cX4_memberAt 3 (some (.object "ConsentQueue$Member")), Cond.fieldLink RX4 11 "ConsentQueue$Line" "members" "[LConsentQueue$Member;", Cond.fieldLink RX4 18 "ConsentQueue$Line" "nobody" "LConsentQueue$Member;", Cond.instanceMethod yX5_copyFrom, Cond.initialized RX5, Cond.selects RX5 yX5_copyFrom yX5_copyFrom, Cond.code yX5_copyFrom cX5_copyFrom 2 none, Cond.fieldLink RX5 9 "ConsentQueue$Member" "number" "I", Cond.fieldLink RX5 18 "ConsentQueue$Member" "worth" "I"]
def wsX6_honestCost_r2 : List Cond := [Cond.fieldLink RX5 21 "ConsentQueue$Member" "told" "I", Cond.fieldLink RX5 24 "ConsentQueue$Member" "service" "I", Cond.fieldLink RX5 27 "ConsentQueue$Member" "money" "I", Cond.fieldLink RX5 15 "ConsentQueue$Member" "offer" "I", Cond.fieldLink RX5 30 "ConsentQueue$Member" "friendAhead" "Z", Cond.instanceMethod yX4_tellTruth, Cond.selects RX4 yX4_tellTruth yX4_tellTruth, Cond.code yX4_tellTruth cX4_tellTruth 2 none, Cond.instanceMethod yX4_settleDown, Cond.selects RX4 yX4_settleDown yX4_settleDown, Cond.code yX4_settleDown cX4_settleDown 3 (some .int), Cond.methodLink RX4 94 yX4_keenestPair, Cond.instanceMethod yX4_keenestPair, Cond.selects RX4 yX4_keenestPair yX4_keenestPair, Cond.code yX4_keenestPair cX4_keenestPair 5 (some .int), Cond.methodLink RX4 100 yX4_surplus, Cond.instanceMethod yX4_surplus, Cond.selects RX4 yX4_surplus yX4_surplus, Cond.code yX4_surplus cX4_surplus 4 (some .int), Cond.methodLink RX4 103 yX4_isHeldByFriends, Cond.instanceMethod yX4_isHeldByFriends, Cond.selects RX4 yX4_isHeldByFriends yX4_isHeldByFriends, Cond.code yX4_isHeldByFriends cX4_isHeldByFriends 2 (some .boolean), Cond.methodLink RX4 97 yX4_swapFairly]
def wsX6_honestCost_r3 : List Cond := [Cond.instanceMethod yX4_swapFairly, Cond.selects RX4 yX4_swapFairly yX4_swapFairly, Cond.code yX4_swapFairly cX4_swapFairly 2 (some .int), Cond.methodLink RX4 88 yX4_fairPrice, Cond.instanceMethod yX4_fairPrice, Cond.selects RX4 yX4_fairPrice yX4_fairPrice, Cond.code yX4_fairPrice cX4_fairPrice 6 (some .int), Cond.methodLink RX4 84 yX4_swapAt, Cond.instanceMethod yX4_swapAt, Cond.selects RX4 yX4_swapAt yX4_swapAt, Cond.code yX4_swapAt cX4_swapAt 5 (some .int), Cond.instanceMethod yX5_loseOneAhead, Cond.selects RX5 yX5_loseOneAhead yX5_loseOneAhead, Cond.code yX5_loseOneAhead cX5_loseOneAhead 1 none, Cond.instanceMethod yX4_cost, Cond.selects RX4 yX4_cost yX4_cost, Cond.code yX4_cost cX4_cost 3 (some .int), Cond.methodLink RX4 125 yX4_costAt, Cond.instanceMethod yX4_costAt, Cond.selects RX4 yX4_costAt yX4_costAt, Cond.code yX4_costAt cX4_costAt 2 (some .int), Cond.methodLink RX4 122 yX4_waitAt, Cond.instanceMethod yX4_waitAt, Cond.selects RX4 yX4_waitAt yX4_waitAt]
def wsX6_honestCost_r4 : List Cond := [Cond.code yX4_waitAt cX4_waitAt 4 (some .int)]
def wsX6_honestCost : List Cond := .code yX6_honestCost cX6_honestCost 1 (some .int) :: ((wsX6_honestCost_r1 ++ (wsX6_honestCost_r2 ++ (wsX6_honestCost_r3 ++ wsX6_honestCost_r4))) ++ wsX60 ++ wsX40 ++ wsX50)
def wsX6_disorder : List Cond := .code yX6_disorder cX6_disorder 1 (some .int) :: ([.fieldLink RX6 10 "ConsentQueue" "line" "LConsentQueue$Line;", .instanceMethod yX4_wrongPairs, .initialized RX4, .selects RX4 yX4_wrongPairs yX4_wrongPairs, .code yX4_wrongPairs cX4_wrongPairs 4 (some .int), .fieldLink RX4 26 "ConsentQueue$Line" "count" "I", .methodLink RX4 131 yX4_waitingCost, .instanceMethod yX4_waitingCost, .selects RX4 yX4_waitingCost yX4_waitingCost, .code yX4_waitingCost cX4_waitingCost 3 (some .int), .methodLink RX4 41 yX4_memberAt, .instanceMethod yX4_memberAt, .selects RX4 yX4_memberAt yX4_memberAt, .code yX4_memberAt cX4_memberAt 3 (some (.object "ConsentQueue$Member")), .fieldLink RX4 11 "ConsentQueue$Line" "members" "[LConsentQueue$Member;", .fieldLink RX4 18 "ConsentQueue$Line" "nobody" "LConsentQueue$Member;"] ++ wsX60 ++ wsX40 ++ wsX50)
def wsX6_carryOutRead_r1 : List Cond := [Cond.fieldLink RX6 29 "ConsentQueue" "text" "LConsentQueue$CommandText;", Cond.instanceMethod yX2_number, Cond.initialized RX2, Cond.selects RX2 yX2_number yX2_number, Cond.code yX2_number cX2_number 2 (some .int), Cond.fieldLink RX2 19 "ConsentQueue$CommandText" "numbers" "[I", Cond.methodLink RX6 198 yX6_faultOf, Cond.instanceMethod yX6_faultOf, Cond.selects RX6 yX6_faultOf yX6_faultOf, Cond.initialized RX6, Cond.code yX6_faultOf cX6_faultOf 5 (some .int), Cond.fieldLink RX6 206 "ConsentQueue$1" "$SwitchMap$ConsentQueue$Command" "[I", Cond.fieldLink RX6 10 "ConsentQueue" "line" "LConsentQueue$Line;", Cond.methodLink RX6 212 ⟨"ConsentQueue$Command", "ordinal", "()I"⟩, Cond.sameMethod "ConsentQueue$Command" "java/lang/Enum" "ordinal" "()I", Cond.selects RX1 ⟨"ConsentQueue$Command", "ordinal", "()I"⟩ yJx29ce0_ordinal_8abf5, Cond.instanceMethod yJx29ce0_ordinal_8abf5, Cond.initialized RJx29ce0, Cond.code yJx29ce0_ordinal_8abf5 cJx29ce0_ordinal_8abf5 1 (some .int), Cond.fieldLink RJx29ce0 7 "java/lang/Enum" "ordinal" "I", Cond.methodLink RX6 215 yX6_joinFault, Cond.instanceMethod yX6_joinFault, Cond.selects RX6 yX6_joinFault yX6_joinFault, Cond.code yX6_joinFault cX6_joinFault 5 (some .int)]
def wsX6_carryOutRead_r2 : List Cond := [Cond.methodLink RX6 55 yX6_isWithin, Cond.static yX6_isWithin, Cond.code yX6_isWithin cX6_isWithin 3 (some .boolean), Cond.instanceMethod yX4_memberAt, Cond.initialized RX4, Cond.selects RX4 yX4_memberAt yX4_memberAt, Cond.code yX4_memberAt cX4_memberAt 3 (some (.object "ConsentQueue$Member")), Cond.fieldLink RX4 26 "ConsentQueue$Line" "count" "I", Cond.fieldLink RX4 11 "ConsentQueue$Line" "members" "[LConsentQueue$Member;", Cond.fieldLink RX4 18 "ConsentQueue$Line" "nobody" "LConsentQueue$Member;", Cond.instanceMethod yX4_placeOf, Cond.selects RX4 yX4_placeOf yX4_placeOf, Cond.code yX4_placeOf cX4_placeOf 3 (some .int), Cond.methodLink RX4 41 yX4_memberAt, Cond.methodLink RX6 93 yX6_memberFault, Cond.instanceMethod yX6_memberFault, Cond.selects RX6 yX6_memberFault yX6_memberFault, Cond.code yX6_memberFault cX6_memberFault 3 (some .int), Cond.methodLink RX6 219 yX6_offerFault, Cond.instanceMethod yX6_offerFault, Cond.selects RX6 yX6_offerFault yX6_offerFault, Cond.code yX6_offerFault cX6_offerFault 4 (some .int), Cond.methodLink RX6 222 yX6_takeFault, Cond.instanceMethod yX6_takeFault]
def wsX6_carryOutRead_r3 : List Cond := [Cond.selects RX6 yX6_takeFault yX6_takeFault, Cond.code yX6_takeFault cX6_takeFault 3 (some .int), Cond.instanceMethod yX4_wouldTake, Cond.selects RX4 yX4_wouldTake yX4_wouldTake, Cond.code yX4_wouldTake cX4_wouldTake 3 (some .boolean), Cond.methodLink RX4 113 yX4_loss, Cond.instanceMethod yX4_loss, Cond.selects RX4 yX4_loss yX4_loss, Cond.code yX4_loss cX4_loss 2 (some .int), Cond.methodLink RX4 103 yX4_isHeldByFriends, Cond.instanceMethod yX4_isHeldByFriends, Cond.selects RX4 yX4_isHeldByFriends yX4_isHeldByFriends, Cond.code yX4_isHeldByFriends cX4_isHeldByFriends 2 (some .boolean), Cond.instanceMethod yX4_wouldSwap, Cond.selects RX4 yX4_wouldSwap yX4_wouldSwap, Cond.code yX4_wouldSwap cX4_wouldSwap 2 (some .boolean), Cond.methodLink RX4 110 yX4_hindrance, Cond.instanceMethod yX4_hindrance, Cond.selects RX4 yX4_hindrance yX4_hindrance, Cond.code yX4_hindrance cX4_hindrance 2 (some .int), Cond.methodLink RX4 116 yX4_areFriends, Cond.instanceMethod yX4_areFriends, Cond.selects RX4 yX4_areFriends yX4_areFriends, Cond.code yX4_areFriends cX4_areFriends 2 (some .boolean)]
def wsX6_carryOutRead_r4 : List Cond := [Cond.methodLink RX4 100 yX4_surplus, Cond.instanceMethod yX4_surplus, Cond.selects RX4 yX4_surplus yX4_surplus, Cond.code yX4_surplus cX4_surplus 4 (some .int), Cond.methodLink RX6 110 yX6_pairFault, Cond.instanceMethod yX6_pairFault, Cond.selects RX6 yX6_pairFault yX6_pairFault, Cond.code yX6_pairFault cX6_pairFault 4 (some .int), Cond.methodLink RX6 201 yX6_carryOut, Cond.instanceMethod yX6_carryOut, Cond.selects RX6 yX6_carryOut yX6_carryOut, Cond.code yX6_carryOut cX6_carryOut 5 (some .int), Cond.instanceMethod yX4_insert, Cond.selects RX4 yX4_insert yX4_insert, Cond.code yX4_insert cX4_insert 6 (some .int), Cond.fieldLink RX4 38 "ConsentQueue$Line" "joined" "I", Cond.instanceMethod yX5_begin, Cond.initialized RX5, Cond.selects RX5 yX5_begin yX5_begin, Cond.code yX5_begin cX5_begin 4 none, Cond.fieldLink RX5 9 "ConsentQueue$Member" "number" "I", Cond.fieldLink RX5 18 "ConsentQueue$Member" "worth" "I", Cond.fieldLink RX5 21 "ConsentQueue$Member" "told" "I", Cond.fieldLink RX5 24 "ConsentQueue$Member" "service" "I"]
def wsX6_carryOutRead_r5 : List Cond := [Cond.fieldLink RX5 27 "ConsentQueue$Member" "money" "I", Cond.methodLink RX5 34 yX5_loseOneAhead, Cond.instanceMethod yX5_loseOneAhead, Cond.selects RX5 yX5_loseOneAhead yX5_loseOneAhead, Cond.code yX5_loseOneAhead cX5_loseOneAhead 1 none, Cond.fieldLink RX5 15 "ConsentQueue$Member" "offer" "I", Cond.fieldLink RX5 30 "ConsentQueue$Member" "friendAhead" "Z", Cond.instanceMethod yX4_removeMember, Cond.selects RX4 yX4_removeMember yX4_removeMember, Cond.code yX4_removeMember cX4_removeMember 3 (some .int), Cond.methodLink RX4 59 yX4_placeOf, Cond.methodLink RX4 63 yX4_removeAt, Cond.instanceMethod yX4_removeAt, Cond.selects RX4 yX4_removeAt yX4_removeAt, Cond.code yX4_removeAt cX4_removeAt 4 none, Cond.instanceMethod yX4_tell, Cond.selects RX4 yX4_tell yX4_tell, Cond.code yX4_tell cX4_tell 5 (some .int), Cond.instanceMethod yX4_makeOffer, Cond.selects RX4 yX4_makeOffer yX4_makeOffer, Cond.code yX4_makeOffer cX4_makeOffer 5 (some .int), Cond.instanceMethod yX4_swapAsOffered, Cond.selects RX4 yX4_swapAsOffered yX4_swapAsOffered, Cond.code yX4_swapAsOffered cX4_swapAsOffered 2 (some .int)]
def wsX6_carryOutRead_r6 : List Cond := [Cond.methodLink RX4 84 yX4_swapAt, Cond.instanceMethod yX4_swapAt, Cond.selects RX4 yX4_swapAt yX4_swapAt, Cond.code yX4_swapAt cX4_swapAt 5 (some .int), Cond.fieldLink RX4 29 "ConsentQueue$Line" "swaps" "I", Cond.fieldLink RX4 32 "ConsentQueue$Line" "paid" "I", Cond.instanceMethod yX4_swapFairly, Cond.selects RX4 yX4_swapFairly yX4_swapFairly, Cond.code yX4_swapFairly cX4_swapFairly 2 (some .int), Cond.methodLink RX4 88 yX4_fairPrice, Cond.instanceMethod yX4_fairPrice, Cond.selects RX4 yX4_fairPrice yX4_fairPrice, Cond.code yX4_fairPrice cX4_fairPrice 6 (some .int), Cond.fieldLink RX4 22 "ConsentQueue$Line" "split" "I", Cond.instanceMethod yX4_setFriends, Cond.selects RX4 yX4_setFriends yX4_setFriends, Cond.code yX4_setFriends cX4_setFriends 3 (some .int), Cond.methodLink RX4 80 yX4_friendPairs, Cond.instanceMethod yX4_friendPairs, Cond.selects RX4 yX4_friendPairs yX4_friendPairs, Cond.code yX4_friendPairs cX4_friendPairs 3 (some .int), Cond.instanceMethod yX4_serveFirst, Cond.selects RX4 yX4_serveFirst yX4_serveFirst, Cond.code yX4_serveFirst cX4_serveFirst 2 (some .int)]
def wsX6_carryOutRead_r7 : List Cond := [Cond.fieldLink RX4 35 "ConsentQueue$Line" "served" "I", Cond.instanceMethod yX4_settleDown, Cond.selects RX4 yX4_settleDown yX4_settleDown, Cond.code yX4_settleDown cX4_settleDown 3 (some .int), Cond.methodLink RX4 94 yX4_keenestPair, Cond.instanceMethod yX4_keenestPair, Cond.selects RX4 yX4_keenestPair yX4_keenestPair, Cond.code yX4_keenestPair cX4_keenestPair 5 (some .int), Cond.methodLink RX4 97 yX4_swapFairly]
def wsX6_carryOutRead : List Cond := .code yX6_carryOutRead cX6_carryOutRead 5 (some .boolean) :: ((wsX6_carryOutRead_r1 ++ (wsX6_carryOutRead_r2 ++ (wsX6_carryOutRead_r3 ++ (wsX6_carryOutRead_r4 ++ (wsX6_carryOutRead_r5 ++ (wsX6_carryOutRead_r6 ++ wsX6_carryOutRead_r7)))))) ++ wsX60 ++ wsX20 ++ wsX40 ++ wsX50)
def wsX6_runCommands_r1 : List Cond := [Cond.fieldLink RX6 29 "ConsentQueue" "text" "LConsentQueue$CommandText;", Cond.fieldLink RX6 22 "ConsentQueue" "history" "LConsentQueue$History;", Cond.fieldLink RX6 10 "ConsentQueue" "line" "LConsentQueue$Line;", Cond.instanceMethod yX2_findFault, Cond.initialized RX2, Cond.selects RX2 yX2_findFault yX2_findFault, Cond.code yX2_findFault cX2_findFault 2 (some .int), Cond.fieldLink RX2 15 "ConsentQueue$CommandText" "fault" "I", Cond.methodLink RX2 26 yX2_startReading, Cond.instanceMethod yX2_startReading, Cond.selects RX2 yX2_startReading yX2_startReading, Cond.code yX2_startReading cX2_startReading 1 none, Cond.fieldLink RX2 36 "ConsentQueue$CommandText" "position" "I", Cond.fieldLink RX2 39 "ConsentQueue$CommandText" "command" "LConsentQueue$Command;", Cond.methodLink RX2 29 yX2_hasCommand, Cond.instanceMethod yX2_hasCommand, Cond.selects RX2 yX2_hasCommand yX2_hasCommand, Cond.code yX2_hasCommand cX2_hasCommand 1 (some .boolean), Cond.fieldLink RX2 23 "ConsentQueue$CommandText" "length" "I", Cond.methodLink RX2 43 yX2_skipSpaces, Cond.instanceMethod yX2_skipSpaces, Cond.selects RX2 yX2_skipSpaces yX2_skipSpaces, Cond.code yX2_skipSpaces cX2_skipSpaces 1 none, Cond.methodLink RX2 64 yX2_byteAt]
def wsX6_runCommands_r2 : List Cond := [Cond.instanceMethod yX2_byteAt, Cond.selects RX2 yX2_byteAt yX2_byteAt, Cond.code yX2_byteAt cX2_byteAt 2 (some .int), Cond.fieldLink RX2 9 "ConsentQueue$CommandText" "bytes" "[B", Cond.methodLink RX2 33 yX2_readCommand, Cond.instanceMethod yX2_readCommand, Cond.selects RX2 yX2_readCommand yX2_readCommand, Cond.code yX2_readCommand cX2_readCommand 4 none, Cond.methodLink RX2 46 yX2_skipLetters, Cond.instanceMethod yX2_skipLetters, Cond.selects RX2 yX2_skipLetters yX2_skipLetters, Cond.code yX2_skipLetters cX2_skipLetters 1 none, Cond.methodLink RX2 76 yX2_isLetter, Cond.static yX2_isLetter, Cond.code yX2_isLetter cX2_isLetter 1 (some .boolean), Cond.methodLink RX2 49 yX2_commandSpelled, Cond.instanceMethod yX2_commandSpelled, Cond.selects RX2 yX2_commandSpelled yX2_commandSpelled, Cond.code yX2_commandSpelled cX2_commandSpelled 7 (some (.object "ConsentQueue$Command")), Cond.methodLink RX2 87 yX2_isSpelled, Cond.instanceMethod yX2_isSpelled, Cond.selects RX2 yX2_isSpelled yX2_isSpelled, Cond.code yX2_isSpelled cX2_isSpelled 5 (some .boolean), Cond.methodLink RX2 91 yJ0_length_8abf5]
def wsX6_runCommands_r3 : List Cond := [Cond.instanceMethod yJ0_length_8abf5, Cond.selects RJ0 yJ0_length_8abf5 yJ0_length_8abf5, Cond.initialized RJ0, Cond.code yJ0_length_8abf5 cJ0_length_8abf5 1 (some .int), Cond.fieldLink RJ0 9 "java/lang/String" "value" "[B", Cond.methodLink RJ0 335 yJ0_coder_7d493, Cond.instanceMethod yJ0_coder_7d493, Cond.selects RJ0 yJ0_coder_7d493 yJ0_coder_7d493, Cond.code yJ0_coder_7d493 cJ0_coder_7d493 1 (some .byte), Cond.fieldLink RJ0 38 "java/lang/String" "COMPACT_STRINGS" "Z", Cond.fieldLink RJ0 15 "java/lang/String" "coder" "B", Cond.methodLink RX2 95 yJ0_charAt_5068e, Cond.instanceMethod yJ0_charAt_5068e, Cond.selects RJ0 yJ0_charAt_5068e yJ0_charAt_5068e, Cond.code yJ0_charAt_5068e cJ0_charAt_5068e 2 (some .char), Cond.methodLink RJ0 492 yJ0_isLatin1_aae02, Cond.instanceMethod yJ0_isLatin1_aae02, Cond.selects RJ0 yJ0_isLatin1_aae02 yJ0_isLatin1_aae02, Cond.code yJ0_isLatin1_aae02 cJ0_isLatin1_aae02 1 (some .boolean), Cond.methodLink RJ0 495 yJ1_charAt_3b067, Cond.static yJ1_charAt_3b067, Cond.initialized RJ1, Cond.code yJ1_charAt_3b067 cJ1_charAt_3b067 2 (some .char), Cond.methodLink RJ1 9 yJ0_checkIndex_df160]
def wsX6_runCommands_r4 : List Cond := [Cond.static yJ0_checkIndex_df160, Cond.code yJ0_checkIndex_df160 cJ0_checkIndex_df160 2 none, Cond.fieldLink RJ0 1053 "jdk/internal/util/Preconditions" "SIOOBE_FORMATTER" "Ljava/util/function/BiFunction;", Cond.methodLink RJ0 1059 yJ3_checkIndex_8e157, Cond.static yJ3_checkIndex_8e157, Cond.initialized RJ3, Cond.code yJ3_checkIndex_8e157 cJ3_checkIndex_8e157 3 (some .int), Cond.methodLink RJ0 498 yJ2_charAt_3b067, Cond.static yJ2_charAt_3b067, Cond.initialized RJ2, Cond.code yJ2_charAt_3b067 cJ2_charAt_3b067 2 (some .char), Cond.methodLink RJ2 67 yJ2_checkIndex_2214a, Cond.static yJ2_checkIndex_2214a, Cond.code yJ2_checkIndex_2214a cJ2_checkIndex_2214a 2 none, Cond.methodLink RJ2 48 yJ2_length_9d52b, Cond.static yJ2_length_9d52b, Cond.code yJ2_length_9d52b cJ2_length_9d52b 1 (some .int), Cond.methodLink RJ2 414 yJ0_checkIndex_df160, Cond.methodLink RJ2 71 yJ2_getChar_3b067, Cond.static yJ2_getChar_3b067, Cond.code yJ2_getChar_3b067 cJ2_getChar_3b067 2 (some .char), Cond.fieldLink RJ2 44 "java/lang/StringUTF16" "$assertionsDisabled" "Z", Cond.fieldLink RJ2 59 "java/lang/StringUTF16" "HI_BYTE_SHIFT" "I", Cond.fieldLink RJ2 63 "java/lang/StringUTF16" "LO_BYTE_SHIFT" "I"]
def wsX6_runCommands_r5 : List Cond := [Cond.methodLink RX2 57 yX2_readNumber, Cond.instanceMethod yX2_readNumber, Cond.selects RX2 yX2_readNumber yX2_readNumber, Cond.code yX2_readNumber cX2_readNumber 4 none, Cond.fieldLink RX2 19 "ConsentQueue$CommandText" "numbers" "[I", Cond.methodLink RX2 68 yX2_isDigit, Cond.static yX2_isDigit, Cond.code yX2_isDigit cX2_isDigit 1 (some .boolean), Cond.methodLink RX2 72 yX2_readDigits, Cond.instanceMethod yX2_readDigits, Cond.selects RX2 yX2_readDigits yX2_readDigits, Cond.code yX2_readDigits cX2_readDigits 3 (some .int), Cond.methodLink RX2 61 yX2_readSemicolon, Cond.instanceMethod yX2_readSemicolon, Cond.selects RX2 yX2_readSemicolon yX2_readSemicolon, Cond.code yX2_readSemicolon cX2_readSemicolon 1 none, Cond.instanceMethod yX3_push, Cond.initialized RX3, Cond.selects RX3 yX3_push yX3_push, Cond.code yX3_push cX3_push 3 none, Cond.fieldLink RX3 18 "ConsentQueue$History" "size" "I", Cond.fieldLink RX3 11 "ConsentQueue$History" "saved" "[LConsentQueue$Line;", Cond.methodLink RX3 22 yX3_dropOldest, Cond.instanceMethod yX3_dropOldest]
def wsX6_runCommands_r6 : List Cond := [Cond.selects RX3 yX3_dropOldest yX3_dropOldest, Cond.code yX3_dropOldest cX3_dropOldest 3 none, Cond.instanceMethod yX4_copyFrom, Cond.initialized RX4, Cond.selects RX4 yX4_copyFrom yX4_copyFrom, Cond.code yX4_copyFrom cX4_copyFrom 3 none, Cond.fieldLink RX4 26 "ConsentQueue$Line" "count" "I", Cond.fieldLink RX4 22 "ConsentQueue$Line" "split" "I", Cond.fieldLink RX4 29 "ConsentQueue$Line" "swaps" "I", Cond.fieldLink RX4 32 "ConsentQueue$Line" "paid" "I", Cond.fieldLink RX4 35 "ConsentQueue$Line" "served" "I", Cond.fieldLink RX4 38 "ConsentQueue$Line" "joined" "I", Cond.methodLink RX4 41 yX4_memberAt, Cond.instanceMethod yX4_memberAt, Cond.selects RX4 yX4_memberAt yX4_memberAt, Cond.code yX4_memberAt cX4_memberAt 3 (some (.object "ConsentQueue$Member")), Cond.fieldLink RX4 11 "ConsentQueue$Line" "members" "[LConsentQueue$Member;", Cond.fieldLink RX4 18 "ConsentQueue$Line" "nobody" "LConsentQueue$Member;", Cond.instanceMethod yX5_copyFrom, Cond.initialized RX5, Cond.selects RX5 yX5_copyFrom yX5_copyFrom, Cond.code yX5_copyFrom cX5_copyFrom 2 none, Cond.fieldLink RX5 9 "ConsentQueue$Member" "number" "I", Cond.fieldLink RX5 18 "ConsentQueue$Member" "worth" "I"]
def wsX6_runCommands_r7 : List Cond := [Cond.fieldLink RX5 21 "ConsentQueue$Member" "told" "I", Cond.fieldLink RX5 24 "ConsentQueue$Member" "service" "I", Cond.fieldLink RX5 27 "ConsentQueue$Member" "money" "I", Cond.fieldLink RX5 15 "ConsentQueue$Member" "offer" "I", Cond.fieldLink RX5 30 "ConsentQueue$Member" "friendAhead" "Z", Cond.methodLink RX6 164 yX6_carryOutRead, Cond.instanceMethod yX6_carryOutRead, Cond.selects RX6 yX6_carryOutRead yX6_carryOutRead, Cond.initialized RX6, Cond.code yX6_carryOutRead cX6_carryOutRead 5 (some .boolean), Cond.instanceMethod yX2_number, Cond.selects RX2 yX2_number yX2_number, Cond.code yX2_number cX2_number 2 (some .int), Cond.methodLink RX6 198 yX6_faultOf, Cond.instanceMethod yX6_faultOf, Cond.selects RX6 yX6_faultOf yX6_faultOf, Cond.code yX6_faultOf cX6_faultOf 5 (some .int), Cond.fieldLink RX6 206 "ConsentQueue$1" "$SwitchMap$ConsentQueue$Command" "[I", Cond.methodLink RX6 212 ⟨"ConsentQueue$Command", "ordinal", "()I"⟩, Cond.sameMethod "ConsentQueue$Command" "java/lang/Enum" "ordinal" "()I", Cond.selects RX1 ⟨"ConsentQueue$Command", "ordinal", "()I"⟩ yJx29ce0_ordinal_8abf5, Cond.instanceMethod yJx29ce0_ordinal_8abf5, Cond.initialized RJx29ce0, Cond.code yJx29ce0_ordinal_8abf5 cJx29ce0_ordinal_8abf5 1 (some .int)]
def wsX6_runCommands_r8 : List Cond := [Cond.fieldLink RJx29ce0 7 "java/lang/Enum" "ordinal" "I", Cond.methodLink RX6 215 yX6_joinFault, Cond.instanceMethod yX6_joinFault, Cond.selects RX6 yX6_joinFault yX6_joinFault, Cond.code yX6_joinFault cX6_joinFault 5 (some .int), Cond.methodLink RX6 55 yX6_isWithin, Cond.static yX6_isWithin, Cond.code yX6_isWithin cX6_isWithin 3 (some .boolean), Cond.instanceMethod yX4_placeOf, Cond.selects RX4 yX4_placeOf yX4_placeOf, Cond.code yX4_placeOf cX4_placeOf 3 (some .int), Cond.methodLink RX6 93 yX6_memberFault, Cond.instanceMethod yX6_memberFault, Cond.selects RX6 yX6_memberFault yX6_memberFault, Cond.code yX6_memberFault cX6_memberFault 3 (some .int), Cond.methodLink RX6 219 yX6_offerFault, Cond.instanceMethod yX6_offerFault, Cond.selects RX6 yX6_offerFault yX6_offerFault, Cond.code yX6_offerFault cX6_offerFault 4 (some .int), Cond.methodLink RX6 222 yX6_takeFault, Cond.instanceMethod yX6_takeFault, Cond.selects RX6 yX6_takeFault yX6_takeFault, Cond.code yX6_takeFault cX6_takeFault 3 (some .int), Cond.instanceMethod yX4_wouldTake]
def wsX6_runCommands_r9 : List Cond := [Cond.selects RX4 yX4_wouldTake yX4_wouldTake, Cond.code yX4_wouldTake cX4_wouldTake 3 (some .boolean), Cond.methodLink RX4 113 yX4_loss, Cond.instanceMethod yX4_loss, Cond.selects RX4 yX4_loss yX4_loss, Cond.code yX4_loss cX4_loss 2 (some .int), Cond.methodLink RX4 103 yX4_isHeldByFriends, Cond.instanceMethod yX4_isHeldByFriends, Cond.selects RX4 yX4_isHeldByFriends yX4_isHeldByFriends, Cond.code yX4_isHeldByFriends cX4_isHeldByFriends 2 (some .boolean), Cond.instanceMethod yX4_wouldSwap, Cond.selects RX4 yX4_wouldSwap yX4_wouldSwap, Cond.code yX4_wouldSwap cX4_wouldSwap 2 (some .boolean), Cond.methodLink RX4 110 yX4_hindrance, Cond.instanceMethod yX4_hindrance, Cond.selects RX4 yX4_hindrance yX4_hindrance, Cond.code yX4_hindrance cX4_hindrance 2 (some .int), Cond.methodLink RX4 116 yX4_areFriends, Cond.instanceMethod yX4_areFriends, Cond.selects RX4 yX4_areFriends yX4_areFriends, Cond.code yX4_areFriends cX4_areFriends 2 (some .boolean), Cond.methodLink RX4 100 yX4_surplus, Cond.instanceMethod yX4_surplus, Cond.selects RX4 yX4_surplus yX4_surplus]
def wsX6_runCommands_r10 : List Cond := [Cond.code yX4_surplus cX4_surplus 4 (some .int), Cond.methodLink RX6 110 yX6_pairFault, Cond.instanceMethod yX6_pairFault, Cond.selects RX6 yX6_pairFault yX6_pairFault, Cond.code yX6_pairFault cX6_pairFault 4 (some .int), Cond.methodLink RX6 201 yX6_carryOut, Cond.instanceMethod yX6_carryOut, Cond.selects RX6 yX6_carryOut yX6_carryOut, Cond.code yX6_carryOut cX6_carryOut 5 (some .int), Cond.instanceMethod yX4_insert, Cond.selects RX4 yX4_insert yX4_insert, Cond.code yX4_insert cX4_insert 6 (some .int), Cond.instanceMethod yX5_begin, Cond.selects RX5 yX5_begin yX5_begin, Cond.code yX5_begin cX5_begin 4 none, Cond.methodLink RX5 34 yX5_loseOneAhead, Cond.instanceMethod yX5_loseOneAhead, Cond.selects RX5 yX5_loseOneAhead yX5_loseOneAhead, Cond.code yX5_loseOneAhead cX5_loseOneAhead 1 none, Cond.instanceMethod yX4_removeMember, Cond.selects RX4 yX4_removeMember yX4_removeMember, Cond.code yX4_removeMember cX4_removeMember 3 (some .int), Cond.methodLink RX4 59 yX4_placeOf, Cond.methodLink RX4 63 yX4_removeAt]
def wsX6_runCommands_r11 : List Cond := [Cond.instanceMethod yX4_removeAt, Cond.selects RX4 yX4_removeAt yX4_removeAt, Cond.code yX4_removeAt cX4_removeAt 4 none, Cond.instanceMethod yX4_tell, Cond.selects RX4 yX4_tell yX4_tell, Cond.code yX4_tell cX4_tell 5 (some .int), Cond.instanceMethod yX4_makeOffer, Cond.selects RX4 yX4_makeOffer yX4_makeOffer, Cond.code yX4_makeOffer cX4_makeOffer 5 (some .int), Cond.instanceMethod yX4_swapAsOffered, Cond.selects RX4 yX4_swapAsOffered yX4_swapAsOffered, Cond.code yX4_swapAsOffered cX4_swapAsOffered 2 (some .int), Cond.methodLink RX4 84 yX4_swapAt, Cond.instanceMethod yX4_swapAt, Cond.selects RX4 yX4_swapAt yX4_swapAt, Cond.code yX4_swapAt cX4_swapAt 5 (some .int), Cond.instanceMethod yX4_swapFairly, Cond.selects RX4 yX4_swapFairly yX4_swapFairly, Cond.code yX4_swapFairly cX4_swapFairly 2 (some .int), Cond.methodLink RX4 88 yX4_fairPrice, Cond.instanceMethod yX4_fairPrice, Cond.selects RX4 yX4_fairPrice yX4_fairPrice, Cond.code yX4_fairPrice cX4_fairPrice 6 (some .int), Cond.instanceMethod yX4_setFriends]
def wsX6_runCommands_r12 : List Cond := [Cond.selects RX4 yX4_setFriends yX4_setFriends, Cond.code yX4_setFriends cX4_setFriends 3 (some .int), Cond.methodLink RX4 80 yX4_friendPairs, Cond.instanceMethod yX4_friendPairs, Cond.selects RX4 yX4_friendPairs yX4_friendPairs, Cond.code yX4_friendPairs cX4_friendPairs 3 (some .int), Cond.instanceMethod yX4_serveFirst, Cond.selects RX4 yX4_serveFirst yX4_serveFirst, Cond.code yX4_serveFirst cX4_serveFirst 2 (some .int), Cond.instanceMethod yX4_settleDown, Cond.selects RX4 yX4_settleDown yX4_settleDown, Cond.code yX4_settleDown cX4_settleDown 3 (some .int), Cond.methodLink RX4 94 yX4_keenestPair, Cond.instanceMethod yX4_keenestPair, Cond.selects RX4 yX4_keenestPair yX4_keenestPair, Cond.code yX4_keenestPair cX4_keenestPair 5 (some .int), Cond.methodLink RX4 97 yX4_swapFairly]
def wsX6_runCommands : List Cond := .code yX6_runCommands cX6_runCommands 4 (some .int) :: ((wsX6_runCommands_r1 ++ (wsX6_runCommands_r2 ++ (wsX6_runCommands_r3 ++ (wsX6_runCommands_r4 ++ (wsX6_runCommands_r5 ++ (wsX6_runCommands_r6 ++ (wsX6_runCommands_r7 ++ (wsX6_runCommands_r8 ++ (wsX6_runCommands_r9 ++ (wsX6_runCommands_r10 ++ (wsX6_runCommands_r11 ++ wsX6_runCommands_r12))))))))))) ++ wsX60 ++ wsX20 ++ wsX30 ++ wsX40 ++ wsX50)
def wsX6_undo_r1 : List Cond := [Cond.fieldLink RX6 22 "ConsentQueue" "history" "LConsentQueue$History;", Cond.fieldLink RX6 10 "ConsentQueue" "line" "LConsentQueue$Line;", Cond.methodLink RX6 59 yX6_refuse, Cond.static yX6_refuse, Cond.initialized RX6, Cond.code yX6_refuse cX6_refuse 1 none, Cond.classLink RX6 263 "java/lang/IndexOutOfBoundsException", Cond.initialized "java/lang/IndexOutOfBoundsException", Cond.classLink RX6 270 "java/lang/IllegalArgumentException", Cond.initialized "java/lang/IllegalArgumentException", Cond.classLink RX6 275 "java/lang/IllegalStateException", Cond.initialized "java/lang/IllegalStateException", Cond.instanceMethod yX3_popInto, Cond.initialized RX3, Cond.selects RX3 yX3_popInto yX3_popInto, Cond.code yX3_popInto cX3_popInto 3 none, Cond.fieldLink RX3 18 "ConsentQueue$History" "size" "I", Cond.fieldLink RX3 11 "ConsentQueue$History" "saved" "[LConsentQueue$Line;", Cond.instanceMethod yX4_copyFrom, Cond.initialized RX4, Cond.selects RX4 yX4_copyFrom yX4_copyFrom, Cond.code yX4_copyFrom cX4_copyFrom 3 none, Cond.fieldLink RX4 26 "ConsentQueue$Line" "count" "I", Cond.fieldLink RX4 22 "ConsentQueue$Line" "split" "I"]
def wsX6_undo_r2 : List Cond := [Cond.fieldLink RX4 29 "ConsentQueue$Line" "swaps" "I", Cond.fieldLink RX4 32 "ConsentQueue$Line" "paid" "I", Cond.fieldLink RX4 35 "ConsentQueue$Line" "served" "I", Cond.fieldLink RX4 38 "ConsentQueue$Line" "joined" "I", Cond.methodLink RX4 41 yX4_memberAt, Cond.instanceMethod yX4_memberAt, Cond.selects RX4 yX4_memberAt yX4_memberAt, Cond.code yX4_memberAt cX4_memberAt 3 (some (.object "ConsentQueue$Member")), Cond.fieldLink RX4 11 "ConsentQueue$Line" "members" "[LConsentQueue$Member;", Cond.fieldLink RX4 18 "ConsentQueue$Line" "nobody" "LConsentQueue$Member;", Cond.instanceMethod yX5_copyFrom, Cond.initialized RX5, Cond.selects RX5 yX5_copyFrom yX5_copyFrom, Cond.code yX5_copyFrom cX5_copyFrom 2 none, Cond.fieldLink RX5 9 "ConsentQueue$Member" "number" "I", Cond.fieldLink RX5 18 "ConsentQueue$Member" "worth" "I", Cond.fieldLink RX5 21 "ConsentQueue$Member" "told" "I", Cond.fieldLink RX5 24 "ConsentQueue$Member" "service" "I", Cond.fieldLink RX5 27 "ConsentQueue$Member" "money" "I", Cond.fieldLink RX5 15 "ConsentQueue$Member" "offer" "I", Cond.fieldLink RX5 30 "ConsentQueue$Member" "friendAhead" "Z"]
def wsX6_undo : List Cond := .code yX6_undo cX6_undo 1 (some .int) :: ((wsX6_undo_r1 ++ wsX6_undo_r2) ++ wsX60 ++ wsX30 ++ wsX40 ++ wsX50 ++ (vx_atS RX6 267 "java/lang/IndexOutOfBoundsException" ["java/lang/RuntimeException", "java/lang/Exception"]).filter goodWord ++ (vx_atS RX6 274 "java/lang/IllegalArgumentException" ["java/lang/RuntimeException", "java/lang/Exception"]).filter goodWord ++ (vx_atS RX6 279 "java/lang/IllegalStateException" ["java/lang/RuntimeException", "java/lang/Exception"]).filter goodWord)
def wsX6_digestMembers_r1 : List Cond := [Cond.fieldLink RX6 10 "ConsentQueue" "line" "LConsentQueue$Line;", Cond.constantLong RX6 176 (31), Cond.instanceMethod yX4_memberAt, Cond.initialized RX4, Cond.selects RX4 yX4_memberAt yX4_memberAt, Cond.code yX4_memberAt cX4_memberAt 3 (some (.object "ConsentQueue$Member")), Cond.fieldLink RX4 26 "ConsentQueue$Line" "count" "I", Cond.fieldLink RX4 11 "ConsentQueue$Line" "members" "[LConsentQueue$Member;", Cond.fieldLink RX4 18 "ConsentQueue$Line" "nobody" "LConsentQueue$Member;", Cond.instanceMethod yX4_memberValue, Cond.selects RX4 yX4_memberValue yX4_memberValue, Cond.code yX4_memberValue cX4_memberValue 4 (some .int), Cond.methodLink RX4 41 yX4_memberAt, Cond.methodLink RX4 122 yX4_waitAt, Cond.instanceMethod yX4_waitAt, Cond.selects RX4 yX4_waitAt yX4_waitAt, Cond.code yX4_waitAt cX4_waitAt 4 (some .int), Cond.methodLink RX4 125 yX4_costAt, Cond.instanceMethod yX4_costAt, Cond.selects RX4 yX4_costAt yX4_costAt, Cond.code yX4_costAt cX4_costAt 2 (some .int), Cond.methodLink RX4 128 yX4_friendsAt, Cond.instanceMethod yX4_friendsAt, Cond.selects RX4 yX4_friendsAt yX4_friendsAt]
def wsX6_digestMembers_r2 : List Cond := [Cond.code yX4_friendsAt cX4_friendsAt 2 (some .int), Cond.methodLink RX4 116 yX4_areFriends, Cond.instanceMethod yX4_areFriends, Cond.selects RX4 yX4_areFriends yX4_areFriends, Cond.code yX4_areFriends cX4_areFriends 2 (some .boolean)]
def wsX6_digestMembers : List Cond := .code yX6_digestMembers cX6_digestMembers 7 (some .long) :: ((wsX6_digestMembers_r1 ++ wsX6_digestMembers_r2) ++ wsX60 ++ wsX40 ++ wsX50)
def wsX6_digestPairs_r1 : List Cond := [Cond.fieldLink RX6 10 "ConsentQueue" "line" "LConsentQueue$Line;", Cond.constantLong RX6 176 (31), Cond.instanceMethod yX4_pairValue, Cond.initialized RX4, Cond.selects RX4 yX4_pairValue yX4_pairValue, Cond.code yX4_pairValue cX4_pairValue 3 (some .int), Cond.methodLink RX4 119 yX4_gain, Cond.instanceMethod yX4_gain, Cond.selects RX4 yX4_gain yX4_gain, Cond.code yX4_gain cX4_gain 2 (some .int), Cond.methodLink RX4 41 yX4_memberAt, Cond.instanceMethod yX4_memberAt, Cond.selects RX4 yX4_memberAt yX4_memberAt, Cond.code yX4_memberAt cX4_memberAt 3 (some (.object "ConsentQueue$Member")), Cond.fieldLink RX4 26 "ConsentQueue$Line" "count" "I", Cond.fieldLink RX4 11 "ConsentQueue$Line" "members" "[LConsentQueue$Member;", Cond.fieldLink RX4 18 "ConsentQueue$Line" "nobody" "LConsentQueue$Member;", Cond.methodLink RX4 113 yX4_loss, Cond.instanceMethod yX4_loss, Cond.selects RX4 yX4_loss yX4_loss, Cond.code yX4_loss cX4_loss 2 (some .int), Cond.methodLink RX4 100 yX4_surplus, Cond.instanceMethod yX4_surplus, Cond.selects RX4 yX4_surplus yX4_surplus]
def wsX6_digestPairs_r2 : List Cond := [Cond.code yX4_surplus cX4_surplus 4 (some .int), Cond.methodLink RX4 88 yX4_fairPrice, Cond.instanceMethod yX4_fairPrice, Cond.selects RX4 yX4_fairPrice yX4_fairPrice, Cond.code yX4_fairPrice cX4_fairPrice 6 (some .int), Cond.fieldLink RX4 22 "ConsentQueue$Line" "split" "I", Cond.methodLink RX4 116 yX4_areFriends, Cond.instanceMethod yX4_areFriends, Cond.selects RX4 yX4_areFriends yX4_areFriends, Cond.code yX4_areFriends cX4_areFriends 2 (some .boolean), Cond.instanceMethod yX4_hindrance, Cond.selects RX4 yX4_hindrance yX4_hindrance, Cond.code yX4_hindrance cX4_hindrance 2 (some .int)]
def wsX6_digestPairs : List Cond := .code yX6_digestPairs cX6_digestPairs 7 (some .long) :: ((wsX6_digestPairs_r1 ++ wsX6_digestPairs_r2) ++ wsX60 ++ wsX40 ++ wsX50)
def wsX6_digest_r1 : List Cond := [Cond.constantLong RX6 174 (1359102), Cond.fieldLink RX6 22 "ConsentQueue" "history" "LConsentQueue$History;", Cond.constantLong RX6 176 (31), Cond.fieldLink RX6 10 "ConsentQueue" "line" "LConsentQueue$Line;", Cond.methodLink RX6 117 yX6_wholeValue, Cond.instanceMethod yX6_wholeValue, Cond.selects RX6 yX6_wholeValue yX6_wholeValue, Cond.initialized RX6, Cond.code yX6_wholeValue cX6_wholeValue 2 (some .int), Cond.fieldLink RX6 29 "ConsentQueue" "text" "LConsentQueue$CommandText;", Cond.instanceMethod yX4_wholeValue, Cond.initialized RX4, Cond.selects RX4 yX4_wholeValue yX4_wholeValue, Cond.code yX4_wholeValue cX4_wholeValue 2 (some .int), Cond.fieldLink RX4 26 "ConsentQueue$Line" "count" "I", Cond.fieldLink RX4 22 "ConsentQueue$Line" "split" "I", Cond.fieldLink RX4 29 "ConsentQueue$Line" "swaps" "I", Cond.fieldLink RX4 32 "ConsentQueue$Line" "paid" "I", Cond.fieldLink RX4 35 "ConsentQueue$Line" "served" "I", Cond.fieldLink RX4 38 "ConsentQueue$Line" "joined" "I", Cond.methodLink RX4 142 yX4_cost, Cond.instanceMethod yX4_cost, Cond.selects RX4 yX4_cost yX4_cost, Cond.code yX4_cost cX4_cost 3 (some .int)]
def wsX6_digest_r2 : List Cond := [Cond.methodLink RX4 125 yX4_costAt, Cond.instanceMethod yX4_costAt, Cond.selects RX4 yX4_costAt yX4_costAt, Cond.code yX4_costAt cX4_costAt 2 (some .int), Cond.methodLink RX4 41 yX4_memberAt, Cond.instanceMethod yX4_memberAt, Cond.selects RX4 yX4_memberAt yX4_memberAt, Cond.code yX4_memberAt cX4_memberAt 3 (some (.object "ConsentQueue$Member")), Cond.fieldLink RX4 11 "ConsentQueue$Line" "members" "[LConsentQueue$Member;", Cond.fieldLink RX4 18 "ConsentQueue$Line" "nobody" "LConsentQueue$Member;", Cond.methodLink RX4 122 yX4_waitAt, Cond.instanceMethod yX4_waitAt, Cond.selects RX4 yX4_waitAt yX4_waitAt, Cond.code yX4_waitAt cX4_waitAt 4 (some .int), Cond.methodLink RX4 145 yX4_toldCost, Cond.instanceMethod yX4_toldCost, Cond.selects RX4 yX4_toldCost yX4_toldCost, Cond.code yX4_toldCost cX4_toldCost 3 (some .int), Cond.methodLink RX4 148 yX4_bestCost, Cond.instanceMethod yX4_bestCost, Cond.selects RX4 yX4_bestCost yX4_bestCost, Cond.code yX4_bestCost cX4_bestCost 4 (some .int), Cond.methodLink RX4 134 Lib.Math.min.name, Cond.static Lib.Math.min.name]
def wsX6_digest_r3 : List Cond := [Cond.initialized "java/lang/Math", Cond.code Lib.Math.min.name Lib.Math.min.code 2 (some .int), Cond.methodLink RX4 131 yX4_waitingCost, Cond.instanceMethod yX4_waitingCost, Cond.selects RX4 yX4_waitingCost yX4_waitingCost, Cond.code yX4_waitingCost cX4_waitingCost 3 (some .int), Cond.methodLink RX4 151 yX4_willingPairs, Cond.instanceMethod yX4_willingPairs, Cond.selects RX4 yX4_willingPairs yX4_willingPairs, Cond.code yX4_willingPairs cX4_willingPairs 3 (some .int), Cond.methodLink RX4 110 yX4_hindrance, Cond.instanceMethod yX4_hindrance, Cond.selects RX4 yX4_hindrance yX4_hindrance, Cond.code yX4_hindrance cX4_hindrance 2 (some .int), Cond.methodLink RX4 116 yX4_areFriends, Cond.instanceMethod yX4_areFriends, Cond.selects RX4 yX4_areFriends yX4_areFriends, Cond.code yX4_areFriends cX4_areFriends 2 (some .boolean), Cond.methodLink RX4 100 yX4_surplus, Cond.instanceMethod yX4_surplus, Cond.selects RX4 yX4_surplus yX4_surplus, Cond.code yX4_surplus cX4_surplus 4 (some .int), Cond.methodLink RX4 154 yX4_offers, Cond.instanceMethod yX4_offers]
def wsX6_digest_r4 : List Cond := [Cond.selects RX4 yX4_offers yX4_offers, Cond.code yX4_offers cX4_offers 3 (some .int), Cond.methodLink RX4 157 yX4_welcomeOffers, Cond.instanceMethod yX4_welcomeOffers, Cond.selects RX4 yX4_welcomeOffers yX4_welcomeOffers, Cond.code yX4_welcomeOffers cX4_welcomeOffers 3 (some .int), Cond.methodLink RX4 139 yX4_wouldTake, Cond.instanceMethod yX4_wouldTake, Cond.selects RX4 yX4_wouldTake yX4_wouldTake, Cond.code yX4_wouldTake cX4_wouldTake 3 (some .boolean), Cond.methodLink RX4 113 yX4_loss, Cond.instanceMethod yX4_loss, Cond.selects RX4 yX4_loss yX4_loss, Cond.code yX4_loss cX4_loss 2 (some .int), Cond.methodLink RX4 103 yX4_isHeldByFriends, Cond.instanceMethod yX4_isHeldByFriends, Cond.selects RX4 yX4_isHeldByFriends yX4_isHeldByFriends, Cond.code yX4_isHeldByFriends cX4_isHeldByFriends 2 (some .boolean), Cond.methodLink RX4 80 yX4_friendPairs, Cond.instanceMethod yX4_friendPairs, Cond.selects RX4 yX4_friendPairs yX4_friendPairs, Cond.code yX4_friendPairs cX4_friendPairs 3 (some .int), Cond.methodLink RX6 178 yX6_digestMembers, Cond.instanceMethod yX6_digestMembers]
def wsX6_digest_r5 : List Cond := [Cond.selects RX6 yX6_digestMembers yX6_digestMembers, Cond.code yX6_digestMembers cX6_digestMembers 7 (some .long), Cond.instanceMethod yX4_memberValue, Cond.selects RX4 yX4_memberValue yX4_memberValue, Cond.code yX4_memberValue cX4_memberValue 4 (some .int), Cond.methodLink RX4 128 yX4_friendsAt, Cond.instanceMethod yX4_friendsAt, Cond.selects RX4 yX4_friendsAt yX4_friendsAt, Cond.code yX4_friendsAt cX4_friendsAt 2 (some .int), Cond.methodLink RX6 182 yX6_digestPairs, Cond.instanceMethod yX6_digestPairs, Cond.selects RX6 yX6_digestPairs yX6_digestPairs, Cond.code yX6_digestPairs cX6_digestPairs 7 (some .long), Cond.instanceMethod yX4_pairValue, Cond.selects RX4 yX4_pairValue yX4_pairValue, Cond.code yX4_pairValue cX4_pairValue 3 (some .int), Cond.methodLink RX4 119 yX4_gain, Cond.instanceMethod yX4_gain, Cond.selects RX4 yX4_gain yX4_gain, Cond.code yX4_gain cX4_gain 2 (some .int), Cond.methodLink RX4 88 yX4_fairPrice, Cond.instanceMethod yX4_fairPrice, Cond.selects RX4 yX4_fairPrice yX4_fairPrice, Cond.code yX4_fairPrice cX4_fairPrice 6 (some .int)]
def wsX6_digest_r6 : List Cond := [Cond.instanceMethod yX4_wrongPairs, Cond.selects RX4 yX4_wrongPairs yX4_wrongPairs, Cond.code yX4_wrongPairs cX4_wrongPairs 4 (some .int)]
def wsX6_digest : List Cond := .code yX6_digest cX6_digest 4 (some .long) :: ((wsX6_digest_r1 ++ (wsX6_digest_r2 ++ (wsX6_digest_r3 ++ (wsX6_digest_r4 ++ (wsX6_digest_r5 ++ wsX6_digest_r6))))) ++ wsX60 ++ wsX30 ++ wsX20 ++ wsX40 ++ wsX50)
def wsJ9_min_7cf53 : List Cond := .code yJ9_min_7cf53 cJ9_min_7cf53 2 (some .int) :: ([])
def wsL_cell : List Cond := .code yL_cell cL_cell 2 (some .int) :: ([])
def wsL_low : List Cond := .code yL_low cL_low 2 (some .int) :: ([.constant RL 7 (2147483647)])
def wsL_rules_r1 : List Cond := [Cond.methodLink RL 8 yX6_whole, Cond.instanceMethod yX6_whole, Cond.selects RX6 yX6_whole yX6_whole, Cond.initialized RX6, Cond.code yX6_whole cX6_whole 2 (some .int), Cond.methodLink RX6 55 yX6_isWithin, Cond.static yX6_isWithin, Cond.code yX6_isWithin cX6_isWithin 3 (some .boolean), Cond.methodLink RX6 59 yX6_refuse, Cond.static yX6_refuse, Cond.code yX6_refuse cX6_refuse 1 none, Cond.classLink RX6 263 "java/lang/IndexOutOfBoundsException", Cond.initialized "java/lang/IndexOutOfBoundsException", Cond.classLink RX6 270 "java/lang/IllegalArgumentException", Cond.initialized "java/lang/IllegalArgumentException", Cond.classLink RX6 275 "java/lang/IllegalStateException", Cond.initialized "java/lang/IllegalStateException", Cond.methodLink RX6 117 yX6_wholeValue, Cond.instanceMethod yX6_wholeValue, Cond.selects RX6 yX6_wholeValue yX6_wholeValue, Cond.code yX6_wholeValue cX6_wholeValue 2 (some .int), Cond.fieldLink RX6 29 "ConsentQueue" "text" "LConsentQueue$CommandText;", Cond.fieldLink RX6 10 "ConsentQueue" "line" "LConsentQueue$Line;", Cond.instanceMethod yX4_wholeValue]
def wsL_rules_r2 : List Cond := [Cond.initialized RX4, Cond.selects RX4 yX4_wholeValue yX4_wholeValue, Cond.code yX4_wholeValue cX4_wholeValue 2 (some .int), Cond.fieldLink RX4 26 "ConsentQueue$Line" "count" "I", Cond.fieldLink RX4 22 "ConsentQueue$Line" "split" "I", Cond.fieldLink RX4 29 "ConsentQueue$Line" "swaps" "I", Cond.fieldLink RX4 32 "ConsentQueue$Line" "paid" "I", Cond.fieldLink RX4 35 "ConsentQueue$Line" "served" "I", Cond.fieldLink RX4 38 "ConsentQueue$Line" "joined" "I", Cond.methodLink RX4 142 yX4_cost, Cond.instanceMethod yX4_cost, Cond.selects RX4 yX4_cost yX4_cost, Cond.code yX4_cost cX4_cost 3 (some .int), Cond.methodLink RX4 125 yX4_costAt, Cond.instanceMethod yX4_costAt, Cond.selects RX4 yX4_costAt yX4_costAt, Cond.code yX4_costAt cX4_costAt 2 (some .int), Cond.methodLink RX4 41 yX4_memberAt, Cond.instanceMethod yX4_memberAt, Cond.selects RX4 yX4_memberAt yX4_memberAt, Cond.code yX4_memberAt cX4_memberAt 3 (some (.object "ConsentQueue$Member")), Cond.fieldLink RX4 11 "ConsentQueue$Line" "members" "[LConsentQueue$Member;", Cond.fieldLink RX4 18 "ConsentQueue$Line" "nobody" "LConsentQueue$Member;", Cond.methodLink RX4 122 yX4_waitAt]
def wsL_rules_r3 : List Cond := [Cond.instanceMethod yX4_waitAt, Cond.selects RX4 yX4_waitAt yX4_waitAt, Cond.code yX4_waitAt cX4_waitAt 4 (some .int), Cond.methodLink RX4 145 yX4_toldCost, Cond.instanceMethod yX4_toldCost, Cond.selects RX4 yX4_toldCost yX4_toldCost, Cond.code yX4_toldCost cX4_toldCost 3 (some .int), Cond.methodLink RX4 148 yX4_bestCost, Cond.instanceMethod yX4_bestCost, Cond.selects RX4 yX4_bestCost yX4_bestCost, Cond.code yX4_bestCost cX4_bestCost 4 (some .int), Cond.methodLink RX4 134 Lib.Math.min.name, Cond.static Lib.Math.min.name, Cond.initialized "java/lang/Math", Cond.code Lib.Math.min.name Lib.Math.min.code 2 (some .int), Cond.methodLink RX4 131 yX4_waitingCost, Cond.instanceMethod yX4_waitingCost, Cond.selects RX4 yX4_waitingCost yX4_waitingCost, Cond.code yX4_waitingCost cX4_waitingCost 3 (some .int), Cond.methodLink RX4 151 yX4_willingPairs, Cond.instanceMethod yX4_willingPairs, Cond.selects RX4 yX4_willingPairs yX4_willingPairs, Cond.code yX4_willingPairs cX4_willingPairs 3 (some .int), Cond.methodLink RX4 110 yX4_hindrance]
def wsL_rules_r4 : List Cond := [Cond.instanceMethod yX4_hindrance, Cond.selects RX4 yX4_hindrance yX4_hindrance, Cond.code yX4_hindrance cX4_hindrance 2 (some .int), Cond.methodLink RX4 116 yX4_areFriends, Cond.instanceMethod yX4_areFriends, Cond.selects RX4 yX4_areFriends yX4_areFriends, Cond.code yX4_areFriends cX4_areFriends 2 (some .boolean), Cond.methodLink RX4 100 yX4_surplus, Cond.instanceMethod yX4_surplus, Cond.selects RX4 yX4_surplus yX4_surplus, Cond.code yX4_surplus cX4_surplus 4 (some .int), Cond.methodLink RX4 154 yX4_offers, Cond.instanceMethod yX4_offers, Cond.selects RX4 yX4_offers yX4_offers, Cond.code yX4_offers cX4_offers 3 (some .int), Cond.methodLink RX4 157 yX4_welcomeOffers, Cond.instanceMethod yX4_welcomeOffers, Cond.selects RX4 yX4_welcomeOffers yX4_welcomeOffers, Cond.code yX4_welcomeOffers cX4_welcomeOffers 3 (some .int), Cond.methodLink RX4 139 yX4_wouldTake, Cond.instanceMethod yX4_wouldTake, Cond.selects RX4 yX4_wouldTake yX4_wouldTake, Cond.code yX4_wouldTake cX4_wouldTake 3 (some .boolean), Cond.methodLink RX4 113 yX4_loss]
def wsL_rules_r5 : List Cond := [Cond.instanceMethod yX4_loss, Cond.selects RX4 yX4_loss yX4_loss, Cond.code yX4_loss cX4_loss 2 (some .int), Cond.methodLink RX4 103 yX4_isHeldByFriends, Cond.instanceMethod yX4_isHeldByFriends, Cond.selects RX4 yX4_isHeldByFriends yX4_isHeldByFriends, Cond.code yX4_isHeldByFriends cX4_isHeldByFriends 2 (some .boolean), Cond.methodLink RX4 80 yX4_friendPairs, Cond.instanceMethod yX4_friendPairs, Cond.selects RX4 yX4_friendPairs yX4_friendPairs, Cond.code yX4_friendPairs cX4_friendPairs 3 (some .int), Cond.methodLink RL 14 yX6_at, Cond.instanceMethod yX6_at, Cond.selects RX6 yX6_at yX6_at, Cond.code yX6_at cX6_at 2 (some .int), Cond.methodLink RL 17 yX6_member, Cond.instanceMethod yX6_member, Cond.selects RX6 yX6_member yX6_member, Cond.code yX6_member cX6_member 4 (some .int), Cond.instanceMethod yX4_placeOf, Cond.selects RX4 yX4_placeOf yX4_placeOf, Cond.code yX4_placeOf cX4_placeOf 3 (some .int), Cond.methodLink RX6 93 yX6_memberFault, Cond.instanceMethod yX6_memberFault]
def wsL_rules_r6 : List Cond := [Cond.selects RX6 yX6_memberFault yX6_memberFault, Cond.code yX6_memberFault cX6_memberFault 3 (some .int), Cond.instanceMethod yX4_memberValue, Cond.selects RX4 yX4_memberValue yX4_memberValue, Cond.code yX4_memberValue cX4_memberValue 4 (some .int), Cond.methodLink RX4 128 yX4_friendsAt, Cond.instanceMethod yX4_friendsAt, Cond.selects RX4 yX4_friendsAt yX4_friendsAt, Cond.code yX4_friendsAt cX4_friendsAt 2 (some .int), Cond.methodLink RL 21 yX6_reason, Cond.instanceMethod yX6_reason, Cond.selects RX6 yX6_reason yX6_reason, Cond.code yX6_reason cX6_reason 2 (some .int), Cond.methodLink RX6 110 yX6_pairFault, Cond.instanceMethod yX6_pairFault, Cond.selects RX6 yX6_pairFault yX6_pairFault, Cond.code yX6_pairFault cX6_pairFault 4 (some .int), Cond.methodLink RL 24 yX6_pair, Cond.instanceMethod yX6_pair, Cond.selects RX6 yX6_pair yX6_pair, Cond.code yX6_pair cX6_pair 3 (some .int), Cond.instanceMethod yX4_pairValue, Cond.selects RX4 yX4_pairValue yX4_pairValue, Cond.code yX4_pairValue cX4_pairValue 3 (some .int)]
def wsL_rules_r7 : List Cond := [Cond.methodLink RX4 119 yX4_gain, Cond.instanceMethod yX4_gain, Cond.selects RX4 yX4_gain yX4_gain, Cond.code yX4_gain cX4_gain 2 (some .int), Cond.methodLink RX4 88 yX4_fairPrice, Cond.instanceMethod yX4_fairPrice, Cond.selects RX4 yX4_fairPrice yX4_fairPrice, Cond.code yX4_fairPrice cX4_fairPrice 6 (some .int), Cond.methodLink RL 27 yX6_disorder, Cond.instanceMethod yX6_disorder, Cond.selects RX6 yX6_disorder yX6_disorder, Cond.code yX6_disorder cX6_disorder 1 (some .int), Cond.instanceMethod yX4_wrongPairs, Cond.selects RX4 yX4_wrongPairs yX4_wrongPairs, Cond.code yX4_wrongPairs cX4_wrongPairs 4 (some .int), Cond.methodLink RL 31 yX6_honestCost, Cond.instanceMethod yX6_honestCost, Cond.selects RX6 yX6_honestCost yX6_honestCost, Cond.code yX6_honestCost cX6_honestCost 1 (some .int), Cond.fieldLink RX6 16 "ConsentQueue" "trial" "LConsentQueue$Line;", Cond.instanceMethod yX4_copyFrom, Cond.selects RX4 yX4_copyFrom yX4_copyFrom, Cond.code yX4_copyFrom cX4_copyFrom 3 none, Cond.instanceMethod yX5_copyFrom]
def wsL_rules_r8 : List Cond := [Cond.initialized RX5, Cond.selects RX5 yX5_copyFrom yX5_copyFrom, Cond.code yX5_copyFrom cX5_copyFrom 2 none, Cond.fieldLink RX5 9 "ConsentQueue$Member" "number" "I", Cond.fieldLink RX5 18 "ConsentQueue$Member" "worth" "I", Cond.fieldLink RX5 21 "ConsentQueue$Member" "told" "I", Cond.fieldLink RX5 24 "ConsentQueue$Member" "service" "I", Cond.fieldLink RX5 27 "ConsentQueue$Member" "money" "I", Cond.fieldLink RX5 15 "ConsentQueue$Member" "offer" "I", Cond.fieldLink RX5 30 "ConsentQueue$Member" "friendAhead" "Z", Cond.instanceMethod yX4_tellTruth, Cond.selects RX4 yX4_tellTruth yX4_tellTruth, Cond.code yX4_tellTruth cX4_tellTruth 2 none, Cond.instanceMethod yX4_settleDown, Cond.selects RX4 yX4_settleDown yX4_settleDown, Cond.code yX4_settleDown cX4_settleDown 3 (some .int), Cond.methodLink RX4 94 yX4_keenestPair, Cond.instanceMethod yX4_keenestPair, Cond.selects RX4 yX4_keenestPair yX4_keenestPair, Cond.code yX4_keenestPair cX4_keenestPair 5 (some .int), Cond.methodLink RX4 97 yX4_swapFairly, Cond.instanceMethod yX4_swapFairly, Cond.selects RX4 yX4_swapFairly yX4_swapFairly, Cond.code yX4_swapFairly cX4_swapFairly 2 (some .int)]
def wsL_rules_r9 : List Cond := [Cond.methodLink RX4 84 yX4_swapAt, Cond.instanceMethod yX4_swapAt, Cond.selects RX4 yX4_swapAt yX4_swapAt, Cond.code yX4_swapAt cX4_swapAt 5 (some .int), Cond.instanceMethod yX5_loseOneAhead, Cond.selects RX5 yX5_loseOneAhead yX5_loseOneAhead, Cond.code yX5_loseOneAhead cX5_loseOneAhead 1 none]
def wsL_rules : List Cond := .code yL_rules cL_rules 22 (some .boolean) :: ((wsL_rules_r1 ++ (wsL_rules_r2 ++ (wsL_rules_r3 ++ (wsL_rules_r4 ++ (wsL_rules_r5 ++ (wsL_rules_r6 ++ (wsL_rules_r7 ++ (wsL_rules_r8 ++ wsL_rules_r9)))))))) ++ wsX60 ++ wsX20 ++ wsX40 ++ wsX50 ++ (vx_atS RX6 267 "java/lang/IndexOutOfBoundsException" ["java/lang/RuntimeException", "java/lang/Exception"]).filter goodWord ++ (vx_atS RX6 274 "java/lang/IllegalArgumentException" ["java/lang/RuntimeException", "java/lang/Exception"]).filter goodWord ++ (vx_atS RX6 279 "java/lang/IllegalStateException" ["java/lang/RuntimeException", "java/lang/Exception"]).filter goodWord)
def wsL_money_r1 : List Cond := [Cond.methodLink RL 8 yX6_whole, Cond.instanceMethod yX6_whole, Cond.selects RX6 yX6_whole yX6_whole, Cond.initialized RX6, Cond.code yX6_whole cX6_whole 2 (some .int), Cond.methodLink RX6 55 yX6_isWithin, Cond.static yX6_isWithin, Cond.code yX6_isWithin cX6_isWithin 3 (some .boolean), Cond.methodLink RX6 59 yX6_refuse, Cond.static yX6_refuse, Cond.code yX6_refuse cX6_refuse 1 none, Cond.classLink RX6 263 "java/lang/IndexOutOfBoundsException", Cond.initialized "java/lang/IndexOutOfBoundsException", Cond.classLink RX6 270 "java/lang/IllegalArgumentException", Cond.initialized "java/lang/IllegalArgumentException", Cond.classLink RX6 275 "java/lang/IllegalStateException", Cond.initialized "java/lang/IllegalStateException", Cond.methodLink RX6 117 yX6_wholeValue, Cond.instanceMethod yX6_wholeValue, Cond.selects RX6 yX6_wholeValue yX6_wholeValue, Cond.code yX6_wholeValue cX6_wholeValue 2 (some .int), Cond.fieldLink RX6 29 "ConsentQueue" "text" "LConsentQueue$CommandText;", Cond.fieldLink RX6 10 "ConsentQueue" "line" "LConsentQueue$Line;", Cond.instanceMethod yX4_wholeValue]
def wsL_money_r2 : List Cond := [Cond.initialized RX4, Cond.selects RX4 yX4_wholeValue yX4_wholeValue, Cond.code yX4_wholeValue cX4_wholeValue 2 (some .int), Cond.fieldLink RX4 26 "ConsentQueue$Line" "count" "I", Cond.fieldLink RX4 22 "ConsentQueue$Line" "split" "I", Cond.fieldLink RX4 29 "ConsentQueue$Line" "swaps" "I", Cond.fieldLink RX4 32 "ConsentQueue$Line" "paid" "I", Cond.fieldLink RX4 35 "ConsentQueue$Line" "served" "I", Cond.fieldLink RX4 38 "ConsentQueue$Line" "joined" "I", Cond.methodLink RX4 142 yX4_cost, Cond.instanceMethod yX4_cost, Cond.selects RX4 yX4_cost yX4_cost, Cond.code yX4_cost cX4_cost 3 (some .int), Cond.methodLink RX4 125 yX4_costAt, Cond.instanceMethod yX4_costAt, Cond.selects RX4 yX4_costAt yX4_costAt, Cond.code yX4_costAt cX4_costAt 2 (some .int), Cond.methodLink RX4 41 yX4_memberAt, Cond.instanceMethod yX4_memberAt, Cond.selects RX4 yX4_memberAt yX4_memberAt, Cond.code yX4_memberAt cX4_memberAt 3 (some (.object "ConsentQueue$Member")), Cond.fieldLink RX4 11 "ConsentQueue$Line" "members" "[LConsentQueue$Member;", Cond.fieldLink RX4 18 "ConsentQueue$Line" "nobody" "LConsentQueue$Member;", Cond.methodLink RX4 122 yX4_waitAt]
def wsL_money_r3 : List Cond := [Cond.instanceMethod yX4_waitAt, Cond.selects RX4 yX4_waitAt yX4_waitAt, Cond.code yX4_waitAt cX4_waitAt 4 (some .int), Cond.methodLink RX4 145 yX4_toldCost, Cond.instanceMethod yX4_toldCost, Cond.selects RX4 yX4_toldCost yX4_toldCost, Cond.code yX4_toldCost cX4_toldCost 3 (some .int), Cond.methodLink RX4 148 yX4_bestCost, Cond.instanceMethod yX4_bestCost, Cond.selects RX4 yX4_bestCost yX4_bestCost, Cond.code yX4_bestCost cX4_bestCost 4 (some .int), Cond.methodLink RX4 134 Lib.Math.min.name, Cond.static Lib.Math.min.name, Cond.initialized "java/lang/Math", Cond.code Lib.Math.min.name Lib.Math.min.code 2 (some .int), Cond.methodLink RX4 131 yX4_waitingCost, Cond.instanceMethod yX4_waitingCost, Cond.selects RX4 yX4_waitingCost yX4_waitingCost, Cond.code yX4_waitingCost cX4_waitingCost 3 (some .int), Cond.methodLink RX4 151 yX4_willingPairs, Cond.instanceMethod yX4_willingPairs, Cond.selects RX4 yX4_willingPairs yX4_willingPairs, Cond.code yX4_willingPairs cX4_willingPairs 3 (some .int), Cond.methodLink RX4 110 yX4_hindrance]
def wsL_money_r4 : List Cond := [Cond.instanceMethod yX4_hindrance, Cond.selects RX4 yX4_hindrance yX4_hindrance, Cond.code yX4_hindrance cX4_hindrance 2 (some .int), Cond.methodLink RX4 116 yX4_areFriends, Cond.instanceMethod yX4_areFriends, Cond.selects RX4 yX4_areFriends yX4_areFriends, Cond.code yX4_areFriends cX4_areFriends 2 (some .boolean), Cond.methodLink RX4 100 yX4_surplus, Cond.instanceMethod yX4_surplus, Cond.selects RX4 yX4_surplus yX4_surplus, Cond.code yX4_surplus cX4_surplus 4 (some .int), Cond.methodLink RX4 154 yX4_offers, Cond.instanceMethod yX4_offers, Cond.selects RX4 yX4_offers yX4_offers, Cond.code yX4_offers cX4_offers 3 (some .int), Cond.methodLink RX4 157 yX4_welcomeOffers, Cond.instanceMethod yX4_welcomeOffers, Cond.selects RX4 yX4_welcomeOffers yX4_welcomeOffers, Cond.code yX4_welcomeOffers cX4_welcomeOffers 3 (some .int), Cond.methodLink RX4 139 yX4_wouldTake, Cond.instanceMethod yX4_wouldTake, Cond.selects RX4 yX4_wouldTake yX4_wouldTake, Cond.code yX4_wouldTake cX4_wouldTake 3 (some .boolean), Cond.methodLink RX4 113 yX4_loss]
def wsL_money_r5 : List Cond := [Cond.instanceMethod yX4_loss, Cond.selects RX4 yX4_loss yX4_loss, Cond.code yX4_loss cX4_loss 2 (some .int), Cond.methodLink RX4 103 yX4_isHeldByFriends, Cond.instanceMethod yX4_isHeldByFriends, Cond.selects RX4 yX4_isHeldByFriends yX4_isHeldByFriends, Cond.code yX4_isHeldByFriends cX4_isHeldByFriends 2 (some .boolean), Cond.methodLink RX4 80 yX4_friendPairs, Cond.instanceMethod yX4_friendPairs, Cond.selects RX4 yX4_friendPairs yX4_friendPairs, Cond.code yX4_friendPairs cX4_friendPairs 3 (some .int), Cond.methodLink RL 14 yX6_at, Cond.instanceMethod yX6_at, Cond.selects RX6 yX6_at yX6_at, Cond.code yX6_at cX6_at 2 (some .int), Cond.methodLink RL 17 yX6_member, Cond.instanceMethod yX6_member, Cond.selects RX6 yX6_member yX6_member, Cond.code yX6_member cX6_member 4 (some .int), Cond.instanceMethod yX4_placeOf, Cond.selects RX4 yX4_placeOf yX4_placeOf, Cond.code yX4_placeOf cX4_placeOf 3 (some .int), Cond.methodLink RX6 93 yX6_memberFault, Cond.instanceMethod yX6_memberFault]
def wsL_money_r6 : List Cond := [Cond.selects RX6 yX6_memberFault yX6_memberFault, Cond.code yX6_memberFault cX6_memberFault 3 (some .int), Cond.instanceMethod yX4_memberValue, Cond.selects RX4 yX4_memberValue yX4_memberValue, Cond.code yX4_memberValue cX4_memberValue 4 (some .int), Cond.methodLink RX4 128 yX4_friendsAt, Cond.instanceMethod yX4_friendsAt, Cond.selects RX4 yX4_friendsAt yX4_friendsAt, Cond.code yX4_friendsAt cX4_friendsAt 2 (some .int)]
def wsL_money : List Cond := .code yL_money cL_money 3 (some .int) :: ((wsL_money_r1 ++ (wsL_money_r2 ++ (wsL_money_r3 ++ (wsL_money_r4 ++ (wsL_money_r5 ++ wsL_money_r6))))) ++ wsX60 ++ wsX20 ++ wsX40 ++ wsX50 ++ (vx_atS RX6 267 "java/lang/IndexOutOfBoundsException" ["java/lang/RuntimeException", "java/lang/Exception"]).filter goodWord ++ (vx_atS RX6 274 "java/lang/IllegalArgumentException" ["java/lang/RuntimeException", "java/lang/Exception"]).filter goodWord ++ (vx_atS RX6 279 "java/lang/IllegalStateException" ["java/lang/RuntimeException", "java/lang/Exception"]).filter goodWord)
def wsL_settles_r1 : List Cond := [Cond.methodLink RL 8 yX6_whole, Cond.instanceMethod yX6_whole, Cond.selects RX6 yX6_whole yX6_whole, Cond.initialized RX6, Cond.code yX6_whole cX6_whole 2 (some .int), Cond.methodLink RX6 55 yX6_isWithin, Cond.static yX6_isWithin, Cond.code yX6_isWithin cX6_isWithin 3 (some .boolean), Cond.methodLink RX6 59 yX6_refuse, Cond.static yX6_refuse, Cond.code yX6_refuse cX6_refuse 1 none, Cond.classLink RX6 263 "java/lang/IndexOutOfBoundsException", Cond.initialized "java/lang/IndexOutOfBoundsException", Cond.classLink RX6 270 "java/lang/IllegalArgumentException", Cond.initialized "java/lang/IllegalArgumentException", Cond.classLink RX6 275 "java/lang/IllegalStateException", Cond.initialized "java/lang/IllegalStateException", Cond.methodLink RX6 117 yX6_wholeValue, Cond.instanceMethod yX6_wholeValue, Cond.selects RX6 yX6_wholeValue yX6_wholeValue, Cond.code yX6_wholeValue cX6_wholeValue 2 (some .int), Cond.fieldLink RX6 29 "ConsentQueue" "text" "LConsentQueue$CommandText;", Cond.fieldLink RX6 10 "ConsentQueue" "line" "LConsentQueue$Line;", Cond.instanceMethod yX4_wholeValue]
def wsL_settles_r2 : List Cond := [Cond.initialized RX4, Cond.selects RX4 yX4_wholeValue yX4_wholeValue, Cond.code yX4_wholeValue cX4_wholeValue 2 (some .int), Cond.fieldLink RX4 26 "ConsentQueue$Line" "count" "I", Cond.fieldLink RX4 22 "ConsentQueue$Line" "split" "I", Cond.fieldLink RX4 29 "ConsentQueue$Line" "swaps" "I", Cond.fieldLink RX4 32 "ConsentQueue$Line" "paid" "I", Cond.fieldLink RX4 35 "ConsentQueue$Line" "served" "I", Cond.fieldLink RX4 38 "ConsentQueue$Line" "joined" "I", Cond.methodLink RX4 142 yX4_cost, Cond.instanceMethod yX4_cost, Cond.selects RX4 yX4_cost yX4_cost, Cond.code yX4_cost cX4_cost 3 (some .int), Cond.methodLink RX4 125 yX4_costAt, Cond.instanceMethod yX4_costAt, Cond.selects RX4 yX4_costAt yX4_costAt, Cond.code yX4_costAt cX4_costAt 2 (some .int), Cond.methodLink RX4 41 yX4_memberAt, Cond.instanceMethod yX4_memberAt, Cond.selects RX4 yX4_memberAt yX4_memberAt, Cond.code yX4_memberAt cX4_memberAt 3 (some (.object "ConsentQueue$Member")), Cond.fieldLink RX4 11 "ConsentQueue$Line" "members" "[LConsentQueue$Member;", Cond.fieldLink RX4 18 "ConsentQueue$Line" "nobody" "LConsentQueue$Member;", Cond.methodLink RX4 122 yX4_waitAt]
def wsL_settles_r3 : List Cond := [Cond.instanceMethod yX4_waitAt, Cond.selects RX4 yX4_waitAt yX4_waitAt, Cond.code yX4_waitAt cX4_waitAt 4 (some .int), Cond.methodLink RX4 145 yX4_toldCost, Cond.instanceMethod yX4_toldCost, Cond.selects RX4 yX4_toldCost yX4_toldCost, Cond.code yX4_toldCost cX4_toldCost 3 (some .int), Cond.methodLink RX4 148 yX4_bestCost, Cond.instanceMethod yX4_bestCost, Cond.selects RX4 yX4_bestCost yX4_bestCost, Cond.code yX4_bestCost cX4_bestCost 4 (some .int), Cond.methodLink RX4 134 Lib.Math.min.name, Cond.static Lib.Math.min.name, Cond.initialized "java/lang/Math", Cond.code Lib.Math.min.name Lib.Math.min.code 2 (some .int), Cond.methodLink RX4 131 yX4_waitingCost, Cond.instanceMethod yX4_waitingCost, Cond.selects RX4 yX4_waitingCost yX4_waitingCost, Cond.code yX4_waitingCost cX4_waitingCost 3 (some .int), Cond.methodLink RX4 151 yX4_willingPairs, Cond.instanceMethod yX4_willingPairs, Cond.selects RX4 yX4_willingPairs yX4_willingPairs, Cond.code yX4_willingPairs cX4_willingPairs 3 (some .int), Cond.methodLink RX4 110 yX4_hindrance]
def wsL_settles_r4 : List Cond := [Cond.instanceMethod yX4_hindrance, Cond.selects RX4 yX4_hindrance yX4_hindrance, Cond.code yX4_hindrance cX4_hindrance 2 (some .int), Cond.methodLink RX4 116 yX4_areFriends, Cond.instanceMethod yX4_areFriends, Cond.selects RX4 yX4_areFriends yX4_areFriends, Cond.code yX4_areFriends cX4_areFriends 2 (some .boolean), Cond.methodLink RX4 100 yX4_surplus, Cond.instanceMethod yX4_surplus, Cond.selects RX4 yX4_surplus yX4_surplus, Cond.code yX4_surplus cX4_surplus 4 (some .int), Cond.methodLink RX4 154 yX4_offers, Cond.instanceMethod yX4_offers, Cond.selects RX4 yX4_offers yX4_offers, Cond.code yX4_offers cX4_offers 3 (some .int), Cond.methodLink RX4 157 yX4_welcomeOffers, Cond.instanceMethod yX4_welcomeOffers, Cond.selects RX4 yX4_welcomeOffers yX4_welcomeOffers, Cond.code yX4_welcomeOffers cX4_welcomeOffers 3 (some .int), Cond.methodLink RX4 139 yX4_wouldTake, Cond.instanceMethod yX4_wouldTake, Cond.selects RX4 yX4_wouldTake yX4_wouldTake, Cond.code yX4_wouldTake cX4_wouldTake 3 (some .boolean), Cond.methodLink RX4 113 yX4_loss]
def wsL_settles_r5 : List Cond := [Cond.instanceMethod yX4_loss, Cond.selects RX4 yX4_loss yX4_loss, Cond.code yX4_loss cX4_loss 2 (some .int), Cond.methodLink RX4 103 yX4_isHeldByFriends, Cond.instanceMethod yX4_isHeldByFriends, Cond.selects RX4 yX4_isHeldByFriends yX4_isHeldByFriends, Cond.code yX4_isHeldByFriends cX4_isHeldByFriends 2 (some .boolean), Cond.methodLink RX4 80 yX4_friendPairs, Cond.instanceMethod yX4_friendPairs, Cond.selects RX4 yX4_friendPairs yX4_friendPairs, Cond.code yX4_friendPairs cX4_friendPairs 3 (some .int), Cond.methodLink RL 34 yL_money, Cond.static yL_money, Cond.initialized RL, Cond.code yL_money cL_money 3 (some .int), Cond.methodLink RL 14 yX6_at, Cond.instanceMethod yX6_at, Cond.selects RX6 yX6_at yX6_at, Cond.code yX6_at cX6_at 2 (some .int), Cond.methodLink RL 17 yX6_member, Cond.instanceMethod yX6_member, Cond.selects RX6 yX6_member yX6_member, Cond.code yX6_member cX6_member 4 (some .int), Cond.instanceMethod yX4_placeOf]
def wsL_settles_r6 : List Cond := [Cond.selects RX4 yX4_placeOf yX4_placeOf, Cond.code yX4_placeOf cX4_placeOf 3 (some .int), Cond.methodLink RX6 93 yX6_memberFault, Cond.instanceMethod yX6_memberFault, Cond.selects RX6 yX6_memberFault yX6_memberFault, Cond.code yX6_memberFault cX6_memberFault 3 (some .int), Cond.instanceMethod yX4_memberValue, Cond.selects RX4 yX4_memberValue yX4_memberValue, Cond.code yX4_memberValue cX4_memberValue 4 (some .int), Cond.methodLink RX4 128 yX4_friendsAt, Cond.instanceMethod yX4_friendsAt, Cond.selects RX4 yX4_friendsAt yX4_friendsAt, Cond.code yX4_friendsAt cX4_friendsAt 2 (some .int), Cond.methodLink RL 40 yX6_settledPlace, Cond.instanceMethod yX6_settledPlace, Cond.selects RX6 yX6_settledPlace yX6_settledPlace, Cond.code yX6_settledPlace cX6_settledPlace 2 (some .int), Cond.fieldLink RX6 16 "ConsentQueue" "trial" "LConsentQueue$Line;", Cond.instanceMethod yX4_copyFrom, Cond.selects RX4 yX4_copyFrom yX4_copyFrom, Cond.code yX4_copyFrom cX4_copyFrom 3 none, Cond.instanceMethod yX5_copyFrom, Cond.initialized RX5, Cond.selects RX5 yX5_copyFrom yX5_copyFrom]
def wsL_settles_r7 : List Cond := [Cond.code yX5_copyFrom cX5_copyFrom 2 none, Cond.fieldLink RX5 9 "ConsentQueue$Member" "number" "I", Cond.fieldLink RX5 18 "ConsentQueue$Member" "worth" "I", Cond.fieldLink RX5 21 "ConsentQueue$Member" "told" "I", Cond.fieldLink RX5 24 "ConsentQueue$Member" "service" "I", Cond.fieldLink RX5 27 "ConsentQueue$Member" "money" "I", Cond.fieldLink RX5 15 "ConsentQueue$Member" "offer" "I", Cond.fieldLink RX5 30 "ConsentQueue$Member" "friendAhead" "Z", Cond.instanceMethod yX4_settleDown, Cond.selects RX4 yX4_settleDown yX4_settleDown, Cond.code yX4_settleDown cX4_settleDown 3 (some .int), Cond.methodLink RX4 94 yX4_keenestPair, Cond.instanceMethod yX4_keenestPair, Cond.selects RX4 yX4_keenestPair yX4_keenestPair, Cond.code yX4_keenestPair cX4_keenestPair 5 (some .int), Cond.methodLink RX4 97 yX4_swapFairly, Cond.instanceMethod yX4_swapFairly, Cond.selects RX4 yX4_swapFairly yX4_swapFairly, Cond.code yX4_swapFairly cX4_swapFairly 2 (some .int), Cond.methodLink RX4 88 yX4_fairPrice, Cond.instanceMethod yX4_fairPrice, Cond.selects RX4 yX4_fairPrice yX4_fairPrice, Cond.code yX4_fairPrice cX4_fairPrice 6 (some .int), Cond.methodLink RX4 84 yX4_swapAt]
def wsL_settles_r8 : List Cond := [Cond.instanceMethod yX4_swapAt, Cond.selects RX4 yX4_swapAt yX4_swapAt, Cond.code yX4_swapAt cX4_swapAt 5 (some .int), Cond.instanceMethod yX5_loseOneAhead, Cond.selects RX5 yX5_loseOneAhead yX5_loseOneAhead, Cond.code yX5_loseOneAhead cX5_loseOneAhead 1 none, Cond.methodLink RL 43 yX6_profit, Cond.instanceMethod yX6_profit, Cond.selects RX6 yX6_profit yX6_profit, Cond.code yX6_profit cX6_profit 4 (some .int), Cond.methodLink RX6 130 yX6_profitAt, Cond.instanceMethod yX6_profitAt, Cond.selects RX6 yX6_profitAt yX6_profitAt, Cond.code yX6_profitAt cX6_profitAt 6 (some .int), Cond.methodLink RL 46 yX6_bestLie, Cond.instanceMethod yX6_bestLie, Cond.selects RX6 yX6_bestLie yX6_bestLie, Cond.code yX6_bestLie cX6_bestLie 7 (some .int), Cond.methodLink RL 49 yX6_settle, Cond.instanceMethod yX6_settle, Cond.selects RX6 yX6_settle yX6_settle, Cond.code yX6_settle cX6_settle 1 (some .int), Cond.fieldLink RX6 86 "ConsentQueue$Command" "SETTLE" "LConsentQueue$Command;", Cond.methodLink RX6 39 yX6_perform]
def wsL_settles_r9 : List Cond := [Cond.instanceMethod yX6_perform, Cond.selects RX6 yX6_perform yX6_perform, Cond.code yX6_perform cX6_perform 5 (some .int), Cond.fieldLink RX6 22 "ConsentQueue" "history" "LConsentQueue$History;", Cond.methodLink RX6 198 yX6_faultOf, Cond.instanceMethod yX6_faultOf, Cond.selects RX6 yX6_faultOf yX6_faultOf, Cond.code yX6_faultOf cX6_faultOf 5 (some .int), Cond.fieldLink RX6 206 "ConsentQueue$1" "$SwitchMap$ConsentQueue$Command" "[I", Cond.methodLink RX6 212 ⟨"ConsentQueue$Command", "ordinal", "()I"⟩, Cond.sameMethod "ConsentQueue$Command" "java/lang/Enum" "ordinal" "()I", Cond.selects RX1 ⟨"ConsentQueue$Command", "ordinal", "()I"⟩ yJx29ce0_ordinal_8abf5, Cond.instanceMethod yJx29ce0_ordinal_8abf5, Cond.initialized RJx29ce0, Cond.code yJx29ce0_ordinal_8abf5 cJx29ce0_ordinal_8abf5 1 (some .int), Cond.fieldLink RJx29ce0 7 "java/lang/Enum" "ordinal" "I", Cond.methodLink RX6 215 yX6_joinFault, Cond.instanceMethod yX6_joinFault, Cond.selects RX6 yX6_joinFault yX6_joinFault, Cond.code yX6_joinFault cX6_joinFault 5 (some .int), Cond.methodLink RX6 219 yX6_offerFault, Cond.instanceMethod yX6_offerFault, Cond.selects RX6 yX6_offerFault yX6_offerFault, Cond.code yX6_offerFault cX6_offerFault 4 (some .int)]
def wsL_settles_r10 : List Cond := [Cond.methodLink RX6 222 yX6_takeFault, Cond.instanceMethod yX6_takeFault, Cond.selects RX6 yX6_takeFault yX6_takeFault, Cond.code yX6_takeFault cX6_takeFault 3 (some .int), Cond.instanceMethod yX4_wouldSwap, Cond.selects RX4 yX4_wouldSwap yX4_wouldSwap, Cond.code yX4_wouldSwap cX4_wouldSwap 2 (some .boolean), Cond.methodLink RX6 110 yX6_pairFault, Cond.instanceMethod yX6_pairFault, Cond.selects RX6 yX6_pairFault yX6_pairFault, Cond.code yX6_pairFault cX6_pairFault 4 (some .int), Cond.instanceMethod yX3_push, Cond.initialized RX3, Cond.selects RX3 yX3_push yX3_push, Cond.code yX3_push cX3_push 3 none, Cond.fieldLink RX3 18 "ConsentQueue$History" "size" "I", Cond.fieldLink RX3 11 "ConsentQueue$History" "saved" "[LConsentQueue$Line;", Cond.methodLink RX3 22 yX3_dropOldest, Cond.instanceMethod yX3_dropOldest, Cond.selects RX3 yX3_dropOldest yX3_dropOldest, Cond.code yX3_dropOldest cX3_dropOldest 3 none, Cond.methodLink RX6 201 yX6_carryOut, Cond.instanceMethod yX6_carryOut, Cond.selects RX6 yX6_carryOut yX6_carryOut]
def wsL_settles_r11 : List Cond := [Cond.code yX6_carryOut cX6_carryOut 5 (some .int), Cond.instanceMethod yX4_insert, Cond.selects RX4 yX4_insert yX4_insert, Cond.code yX4_insert cX4_insert 6 (some .int), Cond.instanceMethod yX5_begin, Cond.selects RX5 yX5_begin yX5_begin, Cond.code yX5_begin cX5_begin 4 none, Cond.methodLink RX5 34 yX5_loseOneAhead, Cond.instanceMethod yX4_removeMember, Cond.selects RX4 yX4_removeMember yX4_removeMember, Cond.code yX4_removeMember cX4_removeMember 3 (some .int), Cond.methodLink RX4 59 yX4_placeOf, Cond.methodLink RX4 63 yX4_removeAt, Cond.instanceMethod yX4_removeAt, Cond.selects RX4 yX4_removeAt yX4_removeAt, Cond.code yX4_removeAt cX4_removeAt 4 none, Cond.instanceMethod yX4_tell, Cond.selects RX4 yX4_tell yX4_tell, Cond.code yX4_tell cX4_tell 5 (some .int), Cond.instanceMethod yX4_makeOffer, Cond.selects RX4 yX4_makeOffer yX4_makeOffer, Cond.code yX4_makeOffer cX4_makeOffer 5 (some .int), Cond.instanceMethod yX4_swapAsOffered, Cond.selects RX4 yX4_swapAsOffered yX4_swapAsOffered]
def wsL_settles_r12 : List Cond := [Cond.code yX4_swapAsOffered cX4_swapAsOffered 2 (some .int), Cond.instanceMethod yX4_setFriends, Cond.selects RX4 yX4_setFriends yX4_setFriends, Cond.code yX4_setFriends cX4_setFriends 3 (some .int), Cond.instanceMethod yX4_serveFirst, Cond.selects RX4 yX4_serveFirst yX4_serveFirst, Cond.code yX4_serveFirst cX4_serveFirst 2 (some .int)]
def wsL_settles : List Cond := .code yL_settles cL_settles 12 (some .boolean) :: ((wsL_settles_r1 ++ (wsL_settles_r2 ++ (wsL_settles_r3 ++ (wsL_settles_r4 ++ (wsL_settles_r5 ++ (wsL_settles_r6 ++ (wsL_settles_r7 ++ (wsL_settles_r8 ++ (wsL_settles_r9 ++ (wsL_settles_r10 ++ (wsL_settles_r11 ++ wsL_settles_r12))))))))))) ++ wsX60 ++ wsX20 ++ wsX40 ++ wsX50 ++ wsX30 ++ (vx_atS RX6 267 "java/lang/IndexOutOfBoundsException" ["java/lang/RuntimeException", "java/lang/Exception"]).filter goodWord ++ (vx_atS RX6 274 "java/lang/IllegalArgumentException" ["java/lang/RuntimeException", "java/lang/Exception"]).filter goodWord ++ (vx_atS RX6 279 "java/lang/IllegalStateException" ["java/lang/RuntimeException", "java/lang/Exception"]).filter goodWord)
def wsL_changes_r1 : List Cond := [Cond.methodLink RL 8 yX6_whole, Cond.instanceMethod yX6_whole, Cond.selects RX6 yX6_whole yX6_whole, Cond.initialized RX6, Cond.code yX6_whole cX6_whole 2 (some .int), Cond.methodLink RX6 55 yX6_isWithin, Cond.static yX6_isWithin, Cond.code yX6_isWithin cX6_isWithin 3 (some .boolean), Cond.methodLink RX6 59 yX6_refuse, Cond.static yX6_refuse, Cond.code yX6_refuse cX6_refuse 1 none, Cond.classLink RX6 263 "java/lang/IndexOutOfBoundsException", Cond.initialized "java/lang/IndexOutOfBoundsException", Cond.classLink RX6 270 "java/lang/IllegalArgumentException", Cond.initialized "java/lang/IllegalArgumentException", Cond.classLink RX6 275 "java/lang/IllegalStateException", Cond.initialized "java/lang/IllegalStateException", Cond.methodLink RX6 117 yX6_wholeValue, Cond.instanceMethod yX6_wholeValue, Cond.selects RX6 yX6_wholeValue yX6_wholeValue, Cond.code yX6_wholeValue cX6_wholeValue 2 (some .int), Cond.fieldLink RX6 29 "ConsentQueue" "text" "LConsentQueue$CommandText;", Cond.fieldLink RX6 10 "ConsentQueue" "line" "LConsentQueue$Line;", Cond.instanceMethod yX4_wholeValue]
def wsL_changes_r2 : List Cond := [Cond.initialized RX4, Cond.selects RX4 yX4_wholeValue yX4_wholeValue, Cond.code yX4_wholeValue cX4_wholeValue 2 (some .int), Cond.fieldLink RX4 26 "ConsentQueue$Line" "count" "I", Cond.fieldLink RX4 22 "ConsentQueue$Line" "split" "I", Cond.fieldLink RX4 29 "ConsentQueue$Line" "swaps" "I", Cond.fieldLink RX4 32 "ConsentQueue$Line" "paid" "I", Cond.fieldLink RX4 35 "ConsentQueue$Line" "served" "I", Cond.fieldLink RX4 38 "ConsentQueue$Line" "joined" "I", Cond.methodLink RX4 142 yX4_cost, Cond.instanceMethod yX4_cost, Cond.selects RX4 yX4_cost yX4_cost, Cond.code yX4_cost cX4_cost 3 (some .int), Cond.methodLink RX4 125 yX4_costAt, Cond.instanceMethod yX4_costAt, Cond.selects RX4 yX4_costAt yX4_costAt, Cond.code yX4_costAt cX4_costAt 2 (some .int), Cond.methodLink RX4 41 yX4_memberAt, Cond.instanceMethod yX4_memberAt, Cond.selects RX4 yX4_memberAt yX4_memberAt, Cond.code yX4_memberAt cX4_memberAt 3 (some (.object "ConsentQueue$Member")), Cond.fieldLink RX4 11 "ConsentQueue$Line" "members" "[LConsentQueue$Member;", Cond.fieldLink RX4 18 "ConsentQueue$Line" "nobody" "LConsentQueue$Member;", Cond.methodLink RX4 122 yX4_waitAt]
def wsL_changes_r3 : List Cond := [Cond.instanceMethod yX4_waitAt, Cond.selects RX4 yX4_waitAt yX4_waitAt, Cond.code yX4_waitAt cX4_waitAt 4 (some .int), Cond.methodLink RX4 145 yX4_toldCost, Cond.instanceMethod yX4_toldCost, Cond.selects RX4 yX4_toldCost yX4_toldCost, Cond.code yX4_toldCost cX4_toldCost 3 (some .int), Cond.methodLink RX4 148 yX4_bestCost, Cond.instanceMethod yX4_bestCost, Cond.selects RX4 yX4_bestCost yX4_bestCost, Cond.code yX4_bestCost cX4_bestCost 4 (some .int), Cond.methodLink RX4 134 Lib.Math.min.name, Cond.static Lib.Math.min.name, Cond.initialized "java/lang/Math", Cond.code Lib.Math.min.name Lib.Math.min.code 2 (some .int), Cond.methodLink RX4 131 yX4_waitingCost, Cond.instanceMethod yX4_waitingCost, Cond.selects RX4 yX4_waitingCost yX4_waitingCost, Cond.code yX4_waitingCost cX4_waitingCost 3 (some .int), Cond.methodLink RX4 151 yX4_willingPairs, Cond.instanceMethod yX4_willingPairs, Cond.selects RX4 yX4_willingPairs yX4_willingPairs, Cond.code yX4_willingPairs cX4_willingPairs 3 (some .int), Cond.methodLink RX4 110 yX4_hindrance]
def wsL_changes_r4 : List Cond := [Cond.instanceMethod yX4_hindrance, Cond.selects RX4 yX4_hindrance yX4_hindrance, Cond.code yX4_hindrance cX4_hindrance 2 (some .int), Cond.methodLink RX4 116 yX4_areFriends, Cond.instanceMethod yX4_areFriends, Cond.selects RX4 yX4_areFriends yX4_areFriends, Cond.code yX4_areFriends cX4_areFriends 2 (some .boolean), Cond.methodLink RX4 100 yX4_surplus, Cond.instanceMethod yX4_surplus, Cond.selects RX4 yX4_surplus yX4_surplus, Cond.code yX4_surplus cX4_surplus 4 (some .int), Cond.methodLink RX4 154 yX4_offers, Cond.instanceMethod yX4_offers, Cond.selects RX4 yX4_offers yX4_offers, Cond.code yX4_offers cX4_offers 3 (some .int), Cond.methodLink RX4 157 yX4_welcomeOffers, Cond.instanceMethod yX4_welcomeOffers, Cond.selects RX4 yX4_welcomeOffers yX4_welcomeOffers, Cond.code yX4_welcomeOffers cX4_welcomeOffers 3 (some .int), Cond.methodLink RX4 139 yX4_wouldTake, Cond.instanceMethod yX4_wouldTake, Cond.selects RX4 yX4_wouldTake yX4_wouldTake, Cond.code yX4_wouldTake cX4_wouldTake 3 (some .boolean), Cond.methodLink RX4 113 yX4_loss]
def wsL_changes_r5 : List Cond := [Cond.instanceMethod yX4_loss, Cond.selects RX4 yX4_loss yX4_loss, Cond.code yX4_loss cX4_loss 2 (some .int), Cond.methodLink RX4 103 yX4_isHeldByFriends, Cond.instanceMethod yX4_isHeldByFriends, Cond.selects RX4 yX4_isHeldByFriends yX4_isHeldByFriends, Cond.code yX4_isHeldByFriends cX4_isHeldByFriends 2 (some .boolean), Cond.methodLink RX4 80 yX4_friendPairs, Cond.instanceMethod yX4_friendPairs, Cond.selects RX4 yX4_friendPairs yX4_friendPairs, Cond.code yX4_friendPairs cX4_friendPairs 3 (some .int), Cond.methodLink RL 52 yL_low, Cond.static yL_low, Cond.initialized RL, Cond.code yL_low cL_low 2 (some .int), Cond.constant RL 7 (2147483647), Cond.methodLink RL 55 yX6_serve, Cond.instanceMethod yX6_serve, Cond.selects RX6 yX6_serve yX6_serve, Cond.code yX6_serve cX6_serve 1 (some .int), Cond.fieldLink RX6 49 "ConsentQueue$Command" "SERVE" "LConsentQueue$Command;", Cond.methodLink RX6 39 yX6_perform, Cond.instanceMethod yX6_perform, Cond.selects RX6 yX6_perform yX6_perform]
def wsL_changes_r6 : List Cond := [Cond.code yX6_perform cX6_perform 5 (some .int), Cond.fieldLink RX6 22 "ConsentQueue" "history" "LConsentQueue$History;", Cond.methodLink RX6 198 yX6_faultOf, Cond.instanceMethod yX6_faultOf, Cond.selects RX6 yX6_faultOf yX6_faultOf, Cond.code yX6_faultOf cX6_faultOf 5 (some .int), Cond.fieldLink RX6 206 "ConsentQueue$1" "$SwitchMap$ConsentQueue$Command" "[I", Cond.methodLink RX6 212 ⟨"ConsentQueue$Command", "ordinal", "()I"⟩, Cond.sameMethod "ConsentQueue$Command" "java/lang/Enum" "ordinal" "()I", Cond.selects RX1 ⟨"ConsentQueue$Command", "ordinal", "()I"⟩ yJx29ce0_ordinal_8abf5, Cond.instanceMethod yJx29ce0_ordinal_8abf5, Cond.initialized RJx29ce0, Cond.code yJx29ce0_ordinal_8abf5 cJx29ce0_ordinal_8abf5 1 (some .int), Cond.fieldLink RJx29ce0 7 "java/lang/Enum" "ordinal" "I", Cond.methodLink RX6 215 yX6_joinFault, Cond.instanceMethod yX6_joinFault, Cond.selects RX6 yX6_joinFault yX6_joinFault, Cond.code yX6_joinFault cX6_joinFault 5 (some .int), Cond.instanceMethod yX4_placeOf, Cond.selects RX4 yX4_placeOf yX4_placeOf, Cond.code yX4_placeOf cX4_placeOf 3 (some .int), Cond.methodLink RX6 93 yX6_memberFault, Cond.instanceMethod yX6_memberFault, Cond.selects RX6 yX6_memberFault yX6_memberFault]
def wsL_changes_r7 : List Cond := [Cond.code yX6_memberFault cX6_memberFault 3 (some .int), Cond.methodLink RX6 219 yX6_offerFault, Cond.instanceMethod yX6_offerFault, Cond.selects RX6 yX6_offerFault yX6_offerFault, Cond.code yX6_offerFault cX6_offerFault 4 (some .int), Cond.methodLink RX6 222 yX6_takeFault, Cond.instanceMethod yX6_takeFault, Cond.selects RX6 yX6_takeFault yX6_takeFault, Cond.code yX6_takeFault cX6_takeFault 3 (some .int), Cond.instanceMethod yX4_wouldSwap, Cond.selects RX4 yX4_wouldSwap yX4_wouldSwap, Cond.code yX4_wouldSwap cX4_wouldSwap 2 (some .boolean), Cond.methodLink RX6 110 yX6_pairFault, Cond.instanceMethod yX6_pairFault, Cond.selects RX6 yX6_pairFault yX6_pairFault, Cond.code yX6_pairFault cX6_pairFault 4 (some .int), Cond.instanceMethod yX3_push, Cond.initialized RX3, Cond.selects RX3 yX3_push yX3_push, Cond.code yX3_push cX3_push 3 none, Cond.fieldLink RX3 18 "ConsentQueue$History" "size" "I", Cond.fieldLink RX3 11 "ConsentQueue$History" "saved" "[LConsentQueue$Line;", Cond.methodLink RX3 22 yX3_dropOldest, Cond.instanceMethod yX3_dropOldest]
def wsL_changes_r8 : List Cond := [Cond.selects RX3 yX3_dropOldest yX3_dropOldest, Cond.code yX3_dropOldest cX3_dropOldest 3 none, Cond.instanceMethod yX4_copyFrom, Cond.selects RX4 yX4_copyFrom yX4_copyFrom, Cond.code yX4_copyFrom cX4_copyFrom 3 none, Cond.instanceMethod yX5_copyFrom, Cond.initialized RX5, Cond.selects RX5 yX5_copyFrom yX5_copyFrom, Cond.code yX5_copyFrom cX5_copyFrom 2 none, Cond.fieldLink RX5 9 "ConsentQueue$Member" "number" "I", Cond.fieldLink RX5 18 "ConsentQueue$Member" "worth" "I", Cond.fieldLink RX5 21 "ConsentQueue$Member" "told" "I", Cond.fieldLink RX5 24 "ConsentQueue$Member" "service" "I", Cond.fieldLink RX5 27 "ConsentQueue$Member" "money" "I", Cond.fieldLink RX5 15 "ConsentQueue$Member" "offer" "I", Cond.fieldLink RX5 30 "ConsentQueue$Member" "friendAhead" "Z", Cond.methodLink RX6 201 yX6_carryOut, Cond.instanceMethod yX6_carryOut, Cond.selects RX6 yX6_carryOut yX6_carryOut, Cond.code yX6_carryOut cX6_carryOut 5 (some .int), Cond.instanceMethod yX4_insert, Cond.selects RX4 yX4_insert yX4_insert, Cond.code yX4_insert cX4_insert 6 (some .int), Cond.instanceMethod yX5_begin]
def wsL_changes_r9 : List Cond := [Cond.selects RX5 yX5_begin yX5_begin, Cond.code yX5_begin cX5_begin 4 none, Cond.methodLink RX5 34 yX5_loseOneAhead, Cond.instanceMethod yX5_loseOneAhead, Cond.selects RX5 yX5_loseOneAhead yX5_loseOneAhead, Cond.code yX5_loseOneAhead cX5_loseOneAhead 1 none, Cond.instanceMethod yX4_removeMember, Cond.selects RX4 yX4_removeMember yX4_removeMember, Cond.code yX4_removeMember cX4_removeMember 3 (some .int), Cond.methodLink RX4 59 yX4_placeOf, Cond.methodLink RX4 63 yX4_removeAt, Cond.instanceMethod yX4_removeAt, Cond.selects RX4 yX4_removeAt yX4_removeAt, Cond.code yX4_removeAt cX4_removeAt 4 none, Cond.instanceMethod yX4_tell, Cond.selects RX4 yX4_tell yX4_tell, Cond.code yX4_tell cX4_tell 5 (some .int), Cond.instanceMethod yX4_makeOffer, Cond.selects RX4 yX4_makeOffer yX4_makeOffer, Cond.code yX4_makeOffer cX4_makeOffer 5 (some .int), Cond.instanceMethod yX4_swapAsOffered, Cond.selects RX4 yX4_swapAsOffered yX4_swapAsOffered, Cond.code yX4_swapAsOffered cX4_swapAsOffered 2 (some .int), Cond.methodLink RX4 84 yX4_swapAt]
def wsL_changes_r10 : List Cond := [Cond.instanceMethod yX4_swapAt, Cond.selects RX4 yX4_swapAt yX4_swapAt, Cond.code yX4_swapAt cX4_swapAt 5 (some .int), Cond.instanceMethod yX4_swapFairly, Cond.selects RX4 yX4_swapFairly yX4_swapFairly, Cond.code yX4_swapFairly cX4_swapFairly 2 (some .int), Cond.methodLink RX4 88 yX4_fairPrice, Cond.instanceMethod yX4_fairPrice, Cond.selects RX4 yX4_fairPrice yX4_fairPrice, Cond.code yX4_fairPrice cX4_fairPrice 6 (some .int), Cond.instanceMethod yX4_setFriends, Cond.selects RX4 yX4_setFriends yX4_setFriends, Cond.code yX4_setFriends cX4_setFriends 3 (some .int), Cond.instanceMethod yX4_serveFirst, Cond.selects RX4 yX4_serveFirst yX4_serveFirst, Cond.code yX4_serveFirst cX4_serveFirst 2 (some .int), Cond.instanceMethod yX4_settleDown, Cond.selects RX4 yX4_settleDown yX4_settleDown, Cond.code yX4_settleDown cX4_settleDown 3 (some .int), Cond.methodLink RX4 94 yX4_keenestPair, Cond.instanceMethod yX4_keenestPair, Cond.selects RX4 yX4_keenestPair yX4_keenestPair, Cond.code yX4_keenestPair cX4_keenestPair 5 (some .int), Cond.methodLink RX4 97 yX4_swapFairly]
def wsL_changes_r11 : List Cond := [Cond.methodLink RL 24 yX6_pair, Cond.instanceMethod yX6_pair, Cond.selects RX6 yX6_pair yX6_pair, Cond.code yX6_pair cX6_pair 3 (some .int), Cond.instanceMethod yX4_pairValue, Cond.selects RX4 yX4_pairValue yX4_pairValue, Cond.code yX4_pairValue cX4_pairValue 3 (some .int), Cond.methodLink RX4 119 yX4_gain, Cond.instanceMethod yX4_gain, Cond.selects RX4 yX4_gain yX4_gain, Cond.code yX4_gain cX4_gain 2 (some .int), Cond.methodLink RL 58 yX6_joinAt, Cond.instanceMethod yX6_joinAt, Cond.selects RX6 yX6_joinAt yX6_joinAt, Cond.code yX6_joinAt cX6_joinAt 4 (some .int), Cond.fieldLink RX6 43 "ConsentQueue$Command" "PUSH" "LConsentQueue$Command;", Cond.methodLink RL 62 yX6_join, Cond.instanceMethod yX6_join, Cond.selects RX6 yX6_join yX6_join, Cond.code yX6_join cX6_join 3 (some .int), Cond.fieldLink RX6 33 "ConsentQueue$Command" "JOIN" "LConsentQueue$Command;", Cond.methodLink RL 17 yX6_member, Cond.instanceMethod yX6_member, Cond.selects RX6 yX6_member yX6_member]
def wsL_changes_r12 : List Cond := [Cond.code yX6_member cX6_member 4 (some .int), Cond.instanceMethod yX4_memberValue, Cond.selects RX4 yX4_memberValue yX4_memberValue, Cond.code yX4_memberValue cX4_memberValue 4 (some .int), Cond.methodLink RX4 128 yX4_friendsAt, Cond.instanceMethod yX4_friendsAt, Cond.selects RX4 yX4_friendsAt yX4_friendsAt, Cond.code yX4_friendsAt cX4_friendsAt 2 (some .int), Cond.methodLink RL 14 yX6_at, Cond.instanceMethod yX6_at, Cond.selects RX6 yX6_at yX6_at, Cond.code yX6_at cX6_at 2 (some .int), Cond.methodLink RL 65 yX6_leave, Cond.instanceMethod yX6_leave, Cond.selects RX6 yX6_leave yX6_leave, Cond.code yX6_leave cX6_leave 2 (some .int), Cond.fieldLink RX6 46 "ConsentQueue$Command" "LEAVE" "LConsentQueue$Command;", Cond.methodLink RL 68 yX6_say, Cond.instanceMethod yX6_say, Cond.selects RX6 yX6_say yX6_say, Cond.code yX6_say cX6_say 3 (some .int), Cond.fieldLink RX6 52 "ConsentQueue$Command" "SAY" "LConsentQueue$Command;", Cond.methodLink RL 71 yX6_offer, Cond.instanceMethod yX6_offer]
def wsL_changes_r13 : List Cond := [Cond.selects RX6 yX6_offer yX6_offer, Cond.code yX6_offer cX6_offer 3 (some .int), Cond.fieldLink RX6 71 "ConsentQueue$Command" "OFFER" "LConsentQueue$Command;", Cond.methodLink RL 74 yL_settles, Cond.static yL_settles, Cond.code yL_settles cL_settles 12 (some .boolean), Cond.methodLink RL 34 yL_money, Cond.static yL_money, Cond.code yL_money cL_money 3 (some .int), Cond.methodLink RL 40 yX6_settledPlace, Cond.instanceMethod yX6_settledPlace, Cond.selects RX6 yX6_settledPlace yX6_settledPlace, Cond.code yX6_settledPlace cX6_settledPlace 2 (some .int), Cond.fieldLink RX6 16 "ConsentQueue" "trial" "LConsentQueue$Line;", Cond.methodLink RL 43 yX6_profit, Cond.instanceMethod yX6_profit, Cond.selects RX6 yX6_profit yX6_profit, Cond.code yX6_profit cX6_profit 4 (some .int), Cond.methodLink RX6 130 yX6_profitAt, Cond.instanceMethod yX6_profitAt, Cond.selects RX6 yX6_profitAt yX6_profitAt, Cond.code yX6_profitAt cX6_profitAt 6 (some .int), Cond.methodLink RL 46 yX6_bestLie, Cond.instanceMethod yX6_bestLie]
def wsL_changes_r14 : List Cond := [Cond.selects RX6 yX6_bestLie yX6_bestLie, Cond.code yX6_bestLie cX6_bestLie 7 (some .int), Cond.methodLink RL 49 yX6_settle, Cond.instanceMethod yX6_settle, Cond.selects RX6 yX6_settle yX6_settle, Cond.code yX6_settle cX6_settle 1 (some .int), Cond.fieldLink RX6 86 "ConsentQueue$Command" "SETTLE" "LConsentQueue$Command;", Cond.methodLink RL 78 yX6_setSplit, Cond.instanceMethod yX6_setSplit, Cond.selects RX6 yX6_setSplit yX6_setSplit, Cond.code yX6_setSplit cX6_setSplit 3 (some .int), Cond.methodLink RL 21 yX6_reason, Cond.instanceMethod yX6_reason, Cond.selects RX6 yX6_reason yX6_reason, Cond.code yX6_reason cX6_reason 2 (some .int), Cond.methodLink RL 81 yX6_take, Cond.instanceMethod yX6_take, Cond.selects RX6 yX6_take yX6_take, Cond.code yX6_take cX6_take 2 (some .int), Cond.fieldLink RX6 74 "ConsentQueue$Command" "TAKE" "LConsentQueue$Command;", Cond.methodLink RL 84 yX6_swap, Cond.instanceMethod yX6_swap, Cond.selects RX6 yX6_swap yX6_swap, Cond.code yX6_swap cX6_swap 2 (some .int)]
def wsL_changes_r15 : List Cond := [Cond.fieldLink RX6 77 "ConsentQueue$Command" "SWAP" "LConsentQueue$Command;", Cond.methodLink RL 87 yX6_part, Cond.instanceMethod yX6_part, Cond.selects RX6 yX6_part yX6_part, Cond.code yX6_part cX6_part 2 (some .int), Cond.fieldLink RX6 83 "ConsentQueue$Command" "PART" "LConsentQueue$Command;", Cond.methodLink RL 90 yX6_befriend, Cond.instanceMethod yX6_befriend, Cond.selects RX6 yX6_befriend yX6_befriend, Cond.code yX6_befriend cX6_befriend 2 (some .int), Cond.fieldLink RX6 80 "ConsentQueue$Command" "FRIEND" "LConsentQueue$Command;"]
def wsL_changes : List Cond := .code yL_changes cL_changes 15 (some .boolean) :: ((wsL_changes_r1 ++ (wsL_changes_r2 ++ (wsL_changes_r3 ++ (wsL_changes_r4 ++ (wsL_changes_r5 ++ (wsL_changes_r6 ++ (wsL_changes_r7 ++ (wsL_changes_r8 ++ (wsL_changes_r9 ++ (wsL_changes_r10 ++ (wsL_changes_r11 ++ (wsL_changes_r12 ++ (wsL_changes_r13 ++ (wsL_changes_r14 ++ wsL_changes_r15)))))))))))))) ++ wsX60 ++ wsX20 ++ wsX40 ++ wsX50 ++ wsX30 ++ (vx_atS RX6 267 "java/lang/IndexOutOfBoundsException" ["java/lang/RuntimeException", "java/lang/Exception"]).filter goodWord ++ (vx_atS RX6 274 "java/lang/IllegalArgumentException" ["java/lang/RuntimeException", "java/lang/Exception"]).filter goodWord ++ (vx_atS RX6 279 "java/lang/IllegalStateException" ["java/lang/RuntimeException", "java/lang/Exception"]).filter goodWord)
def wsL_law0_r1 : List Cond := [Cond.classLink RL 9 RX6, Cond.instantiable RX6 4, Cond.initialized RX6, Cond.methodLink RL 93 yX6_init, Cond.instanceMethod yX6_init, Cond.code yX6_init cX6_init 1 none, Cond.methodLink RX6 1 objectInit, Cond.instanceMethod objectInit, Cond.code objectInit ⟨#[0xb1]⟩ 1 none, Cond.classLink RX6 7 RX4, Cond.instantiable RX4 8, Cond.initialized RX4, Cond.fieldLink RX6 10 "ConsentQueue" "line" "LConsentQueue$Line;", Cond.fieldLink RX6 16 "ConsentQueue" "trial" "LConsentQueue$Line;", Cond.classLink RX6 19 RX3, Cond.instantiable RX3 2, Cond.initialized RX3, Cond.fieldLink RX6 22 "ConsentQueue" "history" "LConsentQueue$History;", Cond.classLink RX6 26 RX2, Cond.instantiable RX2 6, Cond.initialized RX2, Cond.fieldLink RX6 29 "ConsentQueue" "text" "LConsentQueue$CommandText;", Cond.instanceMethod yX4_init, Cond.code yX4_init cX4_init 2 none]
def wsL_law0_r2 : List Cond := [Cond.methodLink RX4 3 objectInit, Cond.classLink RX4 9 RX5, Cond.fieldLink RX4 11 "ConsentQueue$Line" "members" "[LConsentQueue$Member;", Cond.instantiable RX5 7, Cond.initialized RX5, Cond.fieldLink RX4 18 "ConsentQueue$Line" "nobody" "LConsentQueue$Member;", Cond.fieldLink RX4 22 "ConsentQueue$Line" "split" "I", Cond.instanceMethod yX5_init, Cond.code yX5_init cX5_init 1 none, Cond.methodLink RX5 3 objectInit, Cond.fieldLink RX5 9 "ConsentQueue$Member" "number" "I", Cond.fieldLink RX5 15 "ConsentQueue$Member" "offer" "I", Cond.instanceMethod yX3_init, Cond.code yX3_init cX3_init 2 none, Cond.methodLink RX3 3 objectInit, Cond.classLink RX3 9 RX4, Cond.fieldLink RX3 11 "ConsentQueue$History" "saved" "[LConsentQueue$Line;", Cond.instanceMethod yX2_init, Cond.code yX2_init cX2_init 1 none, Cond.methodLink RX2 3 objectInit, Cond.arrayClass .byte, Cond.fieldLink RX2 9 "ConsentQueue$CommandText" "bytes" "[B", Cond.fieldLink RX2 15 "ConsentQueue$CommandText" "fault" "I", Cond.arrayClass .int]
def wsL_law0_r3 : List Cond := [Cond.fieldLink RX2 19 "ConsentQueue$CommandText" "numbers" "[I", Cond.methodLink RL 8 yX6_whole, Cond.instanceMethod yX6_whole, Cond.selects RX6 yX6_whole yX6_whole, Cond.code yX6_whole cX6_whole 2 (some .int), Cond.methodLink RX6 55 yX6_isWithin, Cond.static yX6_isWithin, Cond.code yX6_isWithin cX6_isWithin 3 (some .boolean), Cond.methodLink RX6 59 yX6_refuse, Cond.static yX6_refuse, Cond.code yX6_refuse cX6_refuse 1 none, Cond.classLink RX6 263 "java/lang/IndexOutOfBoundsException", Cond.initialized "java/lang/IndexOutOfBoundsException", Cond.classLink RX6 270 "java/lang/IllegalArgumentException", Cond.initialized "java/lang/IllegalArgumentException", Cond.classLink RX6 275 "java/lang/IllegalStateException", Cond.initialized "java/lang/IllegalStateException", Cond.methodLink RX6 117 yX6_wholeValue, Cond.instanceMethod yX6_wholeValue, Cond.selects RX6 yX6_wholeValue yX6_wholeValue, Cond.code yX6_wholeValue cX6_wholeValue 2 (some .int), Cond.instanceMethod yX4_wholeValue, Cond.selects RX4 yX4_wholeValue yX4_wholeValue, Cond.code yX4_wholeValue cX4_wholeValue 2 (some .int)]
def wsL_law0_r4 : List Cond := [Cond.fieldLink RX4 26 "ConsentQueue$Line" "count" "I", Cond.fieldLink RX4 29 "ConsentQueue$Line" "swaps" "I", Cond.fieldLink RX4 32 "ConsentQueue$Line" "paid" "I", Cond.fieldLink RX4 35 "ConsentQueue$Line" "served" "I", Cond.fieldLink RX4 38 "ConsentQueue$Line" "joined" "I", Cond.methodLink RX4 142 yX4_cost, Cond.instanceMethod yX4_cost, Cond.selects RX4 yX4_cost yX4_cost, Cond.code yX4_cost cX4_cost 3 (some .int), Cond.methodLink RX4 125 yX4_costAt, Cond.instanceMethod yX4_costAt, Cond.selects RX4 yX4_costAt yX4_costAt, Cond.code yX4_costAt cX4_costAt 2 (some .int), Cond.methodLink RX4 41 yX4_memberAt, Cond.instanceMethod yX4_memberAt, Cond.selects RX4 yX4_memberAt yX4_memberAt, Cond.code yX4_memberAt cX4_memberAt 3 (some (.object "ConsentQueue$Member")), Cond.methodLink RX4 122 yX4_waitAt, Cond.instanceMethod yX4_waitAt, Cond.selects RX4 yX4_waitAt yX4_waitAt, Cond.code yX4_waitAt cX4_waitAt 4 (some .int), Cond.methodLink RX4 145 yX4_toldCost, Cond.instanceMethod yX4_toldCost, Cond.selects RX4 yX4_toldCost yX4_toldCost]
def wsL_law0_r5 : List Cond := [Cond.code yX4_toldCost cX4_toldCost 3 (some .int), Cond.methodLink RX4 148 yX4_bestCost, Cond.instanceMethod yX4_bestCost, Cond.selects RX4 yX4_bestCost yX4_bestCost, Cond.code yX4_bestCost cX4_bestCost 4 (some .int), Cond.methodLink RX4 134 Lib.Math.min.name, Cond.static Lib.Math.min.name, Cond.initialized "java/lang/Math", Cond.code Lib.Math.min.name Lib.Math.min.code 2 (some .int), Cond.methodLink RX4 131 yX4_waitingCost, Cond.instanceMethod yX4_waitingCost, Cond.selects RX4 yX4_waitingCost yX4_waitingCost, Cond.code yX4_waitingCost cX4_waitingCost 3 (some .int), Cond.methodLink RX4 151 yX4_willingPairs, Cond.instanceMethod yX4_willingPairs, Cond.selects RX4 yX4_willingPairs yX4_willingPairs, Cond.code yX4_willingPairs cX4_willingPairs 3 (some .int), Cond.methodLink RX4 110 yX4_hindrance, Cond.instanceMethod yX4_hindrance, Cond.selects RX4 yX4_hindrance yX4_hindrance, Cond.code yX4_hindrance cX4_hindrance 2 (some .int), Cond.methodLink RX4 116 yX4_areFriends, Cond.instanceMethod yX4_areFriends, Cond.selects RX4 yX4_areFriends yX4_areFriends]
def wsL_law0_r6 : List Cond := [Cond.code yX4_areFriends cX4_areFriends 2 (some .boolean), Cond.methodLink RX4 100 yX4_surplus, Cond.instanceMethod yX4_surplus, Cond.selects RX4 yX4_surplus yX4_surplus, Cond.code yX4_surplus cX4_surplus 4 (some .int), Cond.methodLink RX4 154 yX4_offers, Cond.instanceMethod yX4_offers, Cond.selects RX4 yX4_offers yX4_offers, Cond.code yX4_offers cX4_offers 3 (some .int), Cond.methodLink RX4 157 yX4_welcomeOffers, Cond.instanceMethod yX4_welcomeOffers, Cond.selects RX4 yX4_welcomeOffers yX4_welcomeOffers, Cond.code yX4_welcomeOffers cX4_welcomeOffers 3 (some .int), Cond.methodLink RX4 139 yX4_wouldTake, Cond.instanceMethod yX4_wouldTake, Cond.selects RX4 yX4_wouldTake yX4_wouldTake, Cond.code yX4_wouldTake cX4_wouldTake 3 (some .boolean), Cond.methodLink RX4 113 yX4_loss, Cond.instanceMethod yX4_loss, Cond.selects RX4 yX4_loss yX4_loss, Cond.code yX4_loss cX4_loss 2 (some .int), Cond.methodLink RX4 103 yX4_isHeldByFriends, Cond.instanceMethod yX4_isHeldByFriends, Cond.selects RX4 yX4_isHeldByFriends yX4_isHeldByFriends]
def wsL_law0_r7 : List Cond := [Cond.code yX4_isHeldByFriends cX4_isHeldByFriends 2 (some .boolean), Cond.methodLink RX4 80 yX4_friendPairs, Cond.instanceMethod yX4_friendPairs, Cond.selects RX4 yX4_friendPairs yX4_friendPairs, Cond.code yX4_friendPairs cX4_friendPairs 3 (some .int), Cond.methodLink RL 14 yX6_at, Cond.instanceMethod yX6_at, Cond.selects RX6 yX6_at yX6_at, Cond.code yX6_at cX6_at 2 (some .int), Cond.methodLink RL 94 yX6_runCommands, Cond.instanceMethod yX6_runCommands, Cond.selects RX6 yX6_runCommands yX6_runCommands, Cond.code yX6_runCommands cX6_runCommands 4 (some .int), Cond.instanceMethod yX2_findFault, Cond.selects RX2 yX2_findFault yX2_findFault, Cond.code yX2_findFault cX2_findFault 2 (some .int), Cond.methodLink RX2 26 yX2_startReading, Cond.instanceMethod yX2_startReading, Cond.selects RX2 yX2_startReading yX2_startReading, Cond.code yX2_startReading cX2_startReading 1 none, Cond.fieldLink RX2 36 "ConsentQueue$CommandText" "position" "I", Cond.fieldLink RX2 39 "ConsentQueue$CommandText" "command" "LConsentQueue$Command;", Cond.methodLink RX2 29 yX2_hasCommand, Cond.instanceMethod yX2_hasCommand]
def wsL_law0_r8 : List Cond := [Cond.selects RX2 yX2_hasCommand yX2_hasCommand, Cond.code yX2_hasCommand cX2_hasCommand 1 (some .boolean), Cond.fieldLink RX2 23 "ConsentQueue$CommandText" "length" "I", Cond.methodLink RX2 43 yX2_skipSpaces, Cond.instanceMethod yX2_skipSpaces, Cond.selects RX2 yX2_skipSpaces yX2_skipSpaces, Cond.code yX2_skipSpaces cX2_skipSpaces 1 none, Cond.methodLink RX2 64 yX2_byteAt, Cond.instanceMethod yX2_byteAt, Cond.selects RX2 yX2_byteAt yX2_byteAt, Cond.code yX2_byteAt cX2_byteAt 2 (some .int), Cond.methodLink RX2 33 yX2_readCommand, Cond.instanceMethod yX2_readCommand, Cond.selects RX2 yX2_readCommand yX2_readCommand, Cond.code yX2_readCommand cX2_readCommand 4 none, Cond.methodLink RX2 46 yX2_skipLetters, Cond.instanceMethod yX2_skipLetters, Cond.selects RX2 yX2_skipLetters yX2_skipLetters, Cond.code yX2_skipLetters cX2_skipLetters 1 none, Cond.methodLink RX2 76 yX2_isLetter, Cond.static yX2_isLetter, Cond.code yX2_isLetter cX2_isLetter 1 (some .boolean), Cond.methodLink RX2 49 yX2_commandSpelled, Cond.instanceMethod yX2_commandSpelled]
def wsL_law0_r9 : List Cond := [Cond.selects RX2 yX2_commandSpelled yX2_commandSpelled, Cond.code yX2_commandSpelled cX2_commandSpelled 7 (some (.object "ConsentQueue$Command")), Cond.methodLink RX2 87 yX2_isSpelled, Cond.instanceMethod yX2_isSpelled, Cond.selects RX2 yX2_isSpelled yX2_isSpelled, Cond.code yX2_isSpelled cX2_isSpelled 5 (some .boolean), Cond.methodLink RX2 91 yJ0_length_8abf5, Cond.instanceMethod yJ0_length_8abf5, Cond.selects RJ0 yJ0_length_8abf5 yJ0_length_8abf5, Cond.initialized RJ0, Cond.code yJ0_length_8abf5 cJ0_length_8abf5 1 (some .int), Cond.fieldLink RJ0 9 "java/lang/String" "value" "[B", Cond.methodLink RJ0 335 yJ0_coder_7d493, Cond.instanceMethod yJ0_coder_7d493, Cond.selects RJ0 yJ0_coder_7d493 yJ0_coder_7d493, Cond.code yJ0_coder_7d493 cJ0_coder_7d493 1 (some .byte), Cond.fieldLink RJ0 38 "java/lang/String" "COMPACT_STRINGS" "Z", Cond.fieldLink RJ0 15 "java/lang/String" "coder" "B", Cond.methodLink RX2 95 yJ0_charAt_5068e, Cond.instanceMethod yJ0_charAt_5068e, Cond.selects RJ0 yJ0_charAt_5068e yJ0_charAt_5068e, Cond.code yJ0_charAt_5068e cJ0_charAt_5068e 2 (some .char), Cond.methodLink RJ0 492 yJ0_isLatin1_aae02, Cond.instanceMethod yJ0_isLatin1_aae02]
def wsL_law0_r10 : List Cond := [Cond.selects RJ0 yJ0_isLatin1_aae02 yJ0_isLatin1_aae02, Cond.code yJ0_isLatin1_aae02 cJ0_isLatin1_aae02 1 (some .boolean), Cond.methodLink RJ0 495 yJ1_charAt_3b067, Cond.static yJ1_charAt_3b067, Cond.initialized RJ1, Cond.code yJ1_charAt_3b067 cJ1_charAt_3b067 2 (some .char), Cond.methodLink RJ1 9 yJ0_checkIndex_df160, Cond.static yJ0_checkIndex_df160, Cond.code yJ0_checkIndex_df160 cJ0_checkIndex_df160 2 none, Cond.fieldLink RJ0 1053 "jdk/internal/util/Preconditions" "SIOOBE_FORMATTER" "Ljava/util/function/BiFunction;", Cond.methodLink RJ0 1059 yJ3_checkIndex_8e157, Cond.static yJ3_checkIndex_8e157, Cond.initialized RJ3, Cond.code yJ3_checkIndex_8e157 cJ3_checkIndex_8e157 3 (some .int), Cond.methodLink RJ0 498 yJ2_charAt_3b067, Cond.static yJ2_charAt_3b067, Cond.initialized RJ2, Cond.code yJ2_charAt_3b067 cJ2_charAt_3b067 2 (some .char), Cond.methodLink RJ2 67 yJ2_checkIndex_2214a, Cond.static yJ2_checkIndex_2214a, Cond.code yJ2_checkIndex_2214a cJ2_checkIndex_2214a 2 none, Cond.methodLink RJ2 48 yJ2_length_9d52b, Cond.static yJ2_length_9d52b, Cond.code yJ2_length_9d52b cJ2_length_9d52b 1 (some .int)]
def wsL_law0_r11 : List Cond := [Cond.methodLink RJ2 414 yJ0_checkIndex_df160, Cond.methodLink RJ2 71 yJ2_getChar_3b067, Cond.static yJ2_getChar_3b067, Cond.code yJ2_getChar_3b067 cJ2_getChar_3b067 2 (some .char), Cond.fieldLink RJ2 44 "java/lang/StringUTF16" "$assertionsDisabled" "Z", Cond.fieldLink RJ2 59 "java/lang/StringUTF16" "HI_BYTE_SHIFT" "I", Cond.fieldLink RJ2 63 "java/lang/StringUTF16" "LO_BYTE_SHIFT" "I", Cond.methodLink RX2 57 yX2_readNumber, Cond.instanceMethod yX2_readNumber, Cond.selects RX2 yX2_readNumber yX2_readNumber, Cond.code yX2_readNumber cX2_readNumber 4 none, Cond.methodLink RX2 68 yX2_isDigit, Cond.static yX2_isDigit, Cond.code yX2_isDigit cX2_isDigit 1 (some .boolean), Cond.methodLink RX2 72 yX2_readDigits, Cond.instanceMethod yX2_readDigits, Cond.selects RX2 yX2_readDigits yX2_readDigits, Cond.code yX2_readDigits cX2_readDigits 3 (some .int), Cond.methodLink RX2 61 yX2_readSemicolon, Cond.instanceMethod yX2_readSemicolon, Cond.selects RX2 yX2_readSemicolon yX2_readSemicolon, Cond.code yX2_readSemicolon cX2_readSemicolon 1 none, Cond.instanceMethod yX3_push, Cond.selects RX3 yX3_push yX3_push]
def wsL_law0_r12 : List Cond := [Cond.code yX3_push cX3_push 3 none, Cond.fieldLink RX3 18 "ConsentQueue$History" "size" "I", Cond.methodLink RX3 22 yX3_dropOldest, Cond.instanceMethod yX3_dropOldest, Cond.selects RX3 yX3_dropOldest yX3_dropOldest, Cond.code yX3_dropOldest cX3_dropOldest 3 none, Cond.instanceMethod yX4_copyFrom, Cond.selects RX4 yX4_copyFrom yX4_copyFrom, Cond.code yX4_copyFrom cX4_copyFrom 3 none, Cond.instanceMethod yX5_copyFrom, Cond.selects RX5 yX5_copyFrom yX5_copyFrom, Cond.code yX5_copyFrom cX5_copyFrom 2 none, Cond.fieldLink RX5 18 "ConsentQueue$Member" "worth" "I", Cond.fieldLink RX5 21 "ConsentQueue$Member" "told" "I", Cond.fieldLink RX5 24 "ConsentQueue$Member" "service" "I", Cond.fieldLink RX5 27 "ConsentQueue$Member" "money" "I", Cond.fieldLink RX5 30 "ConsentQueue$Member" "friendAhead" "Z", Cond.methodLink RX6 164 yX6_carryOutRead, Cond.instanceMethod yX6_carryOutRead, Cond.selects RX6 yX6_carryOutRead yX6_carryOutRead, Cond.code yX6_carryOutRead cX6_carryOutRead 5 (some .boolean), Cond.instanceMethod yX2_number, Cond.selects RX2 yX2_number yX2_number, Cond.code yX2_number cX2_number 2 (some .int)]
def wsL_law0_r13 : List Cond := [Cond.methodLink RX6 198 yX6_faultOf, Cond.instanceMethod yX6_faultOf, Cond.selects RX6 yX6_faultOf yX6_faultOf, Cond.code yX6_faultOf cX6_faultOf 5 (some .int), Cond.fieldLink RX6 206 "ConsentQueue$1" "$SwitchMap$ConsentQueue$Command" "[I", Cond.methodLink RX6 212 ⟨"ConsentQueue$Command", "ordinal", "()I"⟩, Cond.sameMethod "ConsentQueue$Command" "java/lang/Enum" "ordinal" "()I", Cond.selects RX1 ⟨"ConsentQueue$Command", "ordinal", "()I"⟩ yJx29ce0_ordinal_8abf5, Cond.instanceMethod yJx29ce0_ordinal_8abf5, Cond.initialized RJx29ce0, Cond.code yJx29ce0_ordinal_8abf5 cJx29ce0_ordinal_8abf5 1 (some .int), Cond.fieldLink RJx29ce0 7 "java/lang/Enum" "ordinal" "I", Cond.methodLink RX6 215 yX6_joinFault, Cond.instanceMethod yX6_joinFault, Cond.selects RX6 yX6_joinFault yX6_joinFault, Cond.code yX6_joinFault cX6_joinFault 5 (some .int), Cond.instanceMethod yX4_placeOf, Cond.selects RX4 yX4_placeOf yX4_placeOf, Cond.code yX4_placeOf cX4_placeOf 3 (some .int), Cond.methodLink RX6 93 yX6_memberFault, Cond.instanceMethod yX6_memberFault, Cond.selects RX6 yX6_memberFault yX6_memberFault, Cond.code yX6_memberFault cX6_memberFault 3 (some .int), Cond.methodLink RX6 219 yX6_offerFault]
def wsL_law0_r14 : List Cond := [Cond.instanceMethod yX6_offerFault, Cond.selects RX6 yX6_offerFault yX6_offerFault, Cond.code yX6_offerFault cX6_offerFault 4 (some .int), Cond.methodLink RX6 222 yX6_takeFault, Cond.instanceMethod yX6_takeFault, Cond.selects RX6 yX6_takeFault yX6_takeFault, Cond.code yX6_takeFault cX6_takeFault 3 (some .int), Cond.instanceMethod yX4_wouldSwap, Cond.selects RX4 yX4_wouldSwap yX4_wouldSwap, Cond.code yX4_wouldSwap cX4_wouldSwap 2 (some .boolean), Cond.methodLink RX6 110 yX6_pairFault, Cond.instanceMethod yX6_pairFault, Cond.selects RX6 yX6_pairFault yX6_pairFault, Cond.code yX6_pairFault cX6_pairFault 4 (some .int), Cond.methodLink RX6 201 yX6_carryOut, Cond.instanceMethod yX6_carryOut, Cond.selects RX6 yX6_carryOut yX6_carryOut, Cond.code yX6_carryOut cX6_carryOut 5 (some .int), Cond.instanceMethod yX4_insert, Cond.selects RX4 yX4_insert yX4_insert, Cond.code yX4_insert cX4_insert 6 (some .int), Cond.instanceMethod yX5_begin, Cond.selects RX5 yX5_begin yX5_begin, Cond.code yX5_begin cX5_begin 4 none]
def wsL_law0_r15 : List Cond := [Cond.methodLink RX5 34 yX5_loseOneAhead, Cond.instanceMethod yX5_loseOneAhead, Cond.selects RX5 yX5_loseOneAhead yX5_loseOneAhead, Cond.code yX5_loseOneAhead cX5_loseOneAhead 1 none, Cond.instanceMethod yX4_removeMember, Cond.selects RX4 yX4_removeMember yX4_removeMember, Cond.code yX4_removeMember cX4_removeMember 3 (some .int), Cond.methodLink RX4 59 yX4_placeOf, Cond.methodLink RX4 63 yX4_removeAt, Cond.instanceMethod yX4_removeAt, Cond.selects RX4 yX4_removeAt yX4_removeAt, Cond.code yX4_removeAt cX4_removeAt 4 none, Cond.instanceMethod yX4_tell, Cond.selects RX4 yX4_tell yX4_tell, Cond.code yX4_tell cX4_tell 5 (some .int), Cond.instanceMethod yX4_makeOffer, Cond.selects RX4 yX4_makeOffer yX4_makeOffer, Cond.code yX4_makeOffer cX4_makeOffer 5 (some .int), Cond.instanceMethod yX4_swapAsOffered, Cond.selects RX4 yX4_swapAsOffered yX4_swapAsOffered, Cond.code yX4_swapAsOffered cX4_swapAsOffered 2 (some .int), Cond.methodLink RX4 84 yX4_swapAt, Cond.instanceMethod yX4_swapAt, Cond.selects RX4 yX4_swapAt yX4_swapAt]
def wsL_law0_r16 : List Cond := [Cond.code yX4_swapAt cX4_swapAt 5 (some .int), Cond.instanceMethod yX4_swapFairly, Cond.selects RX4 yX4_swapFairly yX4_swapFairly, Cond.code yX4_swapFairly cX4_swapFairly 2 (some .int), Cond.methodLink RX4 88 yX4_fairPrice, Cond.instanceMethod yX4_fairPrice, Cond.selects RX4 yX4_fairPrice yX4_fairPrice, Cond.code yX4_fairPrice cX4_fairPrice 6 (some .int), Cond.instanceMethod yX4_setFriends, Cond.selects RX4 yX4_setFriends yX4_setFriends, Cond.code yX4_setFriends cX4_setFriends 3 (some .int), Cond.instanceMethod yX4_serveFirst, Cond.selects RX4 yX4_serveFirst yX4_serveFirst, Cond.code yX4_serveFirst cX4_serveFirst 2 (some .int), Cond.instanceMethod yX4_settleDown, Cond.selects RX4 yX4_settleDown yX4_settleDown, Cond.code yX4_settleDown cX4_settleDown 3 (some .int), Cond.methodLink RX4 94 yX4_keenestPair, Cond.instanceMethod yX4_keenestPair, Cond.selects RX4 yX4_keenestPair yX4_keenestPair, Cond.code yX4_keenestPair cX4_keenestPair 5 (some .int), Cond.methodLink RX4 97 yX4_swapFairly, Cond.methodLink RL 97 yX6_undo, Cond.instanceMethod yX6_undo]
def wsL_law0_r17 : List Cond := [Cond.selects RX6 yX6_undo yX6_undo, Cond.code yX6_undo cX6_undo 1 (some .int), Cond.instanceMethod yX3_popInto, Cond.selects RX3 yX3_popInto yX3_popInto, Cond.code yX3_popInto cX3_popInto 3 none, Cond.methodLink RL 49 yX6_settle, Cond.instanceMethod yX6_settle, Cond.selects RX6 yX6_settle yX6_settle, Cond.code yX6_settle cX6_settle 1 (some .int), Cond.fieldLink RX6 86 "ConsentQueue$Command" "SETTLE" "LConsentQueue$Command;", Cond.methodLink RX6 39 yX6_perform, Cond.instanceMethod yX6_perform, Cond.selects RX6 yX6_perform yX6_perform, Cond.code yX6_perform cX6_perform 5 (some .int), Cond.methodLink RL 27 yX6_disorder, Cond.instanceMethod yX6_disorder, Cond.selects RX6 yX6_disorder yX6_disorder, Cond.code yX6_disorder cX6_disorder 1 (some .int), Cond.instanceMethod yX4_wrongPairs, Cond.selects RX4 yX4_wrongPairs yX4_wrongPairs, Cond.code yX4_wrongPairs cX4_wrongPairs 4 (some .int), Cond.methodLink RL 100 yL_cell, Cond.static yL_cell, Cond.initialized RL]
def wsL_law0_r18 : List Cond := [Cond.code yL_cell cL_cell 2 (some .int), Cond.methodLink RL 104 yL_changes, Cond.static yL_changes, Cond.code yL_changes cL_changes 15 (some .boolean), Cond.methodLink RL 52 yL_low, Cond.static yL_low, Cond.code yL_low cL_low 2 (some .int), Cond.constant RL 7 (2147483647), Cond.methodLink RL 55 yX6_serve, Cond.instanceMethod yX6_serve, Cond.selects RX6 yX6_serve yX6_serve, Cond.code yX6_serve cX6_serve 1 (some .int), Cond.fieldLink RX6 49 "ConsentQueue$Command" "SERVE" "LConsentQueue$Command;", Cond.methodLink RL 24 yX6_pair, Cond.instanceMethod yX6_pair, Cond.selects RX6 yX6_pair yX6_pair, Cond.code yX6_pair cX6_pair 3 (some .int), Cond.instanceMethod yX4_pairValue, Cond.selects RX4 yX4_pairValue yX4_pairValue, Cond.code yX4_pairValue cX4_pairValue 3 (some .int), Cond.methodLink RX4 119 yX4_gain, Cond.instanceMethod yX4_gain, Cond.selects RX4 yX4_gain yX4_gain, Cond.code yX4_gain cX4_gain 2 (some .int)]
def wsL_law0_r19 : List Cond := [Cond.methodLink RL 58 yX6_joinAt, Cond.instanceMethod yX6_joinAt, Cond.selects RX6 yX6_joinAt yX6_joinAt, Cond.code yX6_joinAt cX6_joinAt 4 (some .int), Cond.fieldLink RX6 43 "ConsentQueue$Command" "PUSH" "LConsentQueue$Command;", Cond.methodLink RL 62 yX6_join, Cond.instanceMethod yX6_join, Cond.selects RX6 yX6_join yX6_join, Cond.code yX6_join cX6_join 3 (some .int), Cond.fieldLink RX6 33 "ConsentQueue$Command" "JOIN" "LConsentQueue$Command;", Cond.methodLink RL 17 yX6_member, Cond.instanceMethod yX6_member, Cond.selects RX6 yX6_member yX6_member, Cond.code yX6_member cX6_member 4 (some .int), Cond.instanceMethod yX4_memberValue, Cond.selects RX4 yX4_memberValue yX4_memberValue, Cond.code yX4_memberValue cX4_memberValue 4 (some .int), Cond.methodLink RX4 128 yX4_friendsAt, Cond.instanceMethod yX4_friendsAt, Cond.selects RX4 yX4_friendsAt yX4_friendsAt, Cond.code yX4_friendsAt cX4_friendsAt 2 (some .int), Cond.methodLink RL 65 yX6_leave, Cond.instanceMethod yX6_leave, Cond.selects RX6 yX6_leave yX6_leave]
def wsL_law0_r20 : List Cond := [Cond.code yX6_leave cX6_leave 2 (some .int), Cond.fieldLink RX6 46 "ConsentQueue$Command" "LEAVE" "LConsentQueue$Command;", Cond.methodLink RL 68 yX6_say, Cond.instanceMethod yX6_say, Cond.selects RX6 yX6_say yX6_say, Cond.code yX6_say cX6_say 3 (some .int), Cond.fieldLink RX6 52 "ConsentQueue$Command" "SAY" "LConsentQueue$Command;", Cond.methodLink RL 71 yX6_offer, Cond.instanceMethod yX6_offer, Cond.selects RX6 yX6_offer yX6_offer, Cond.code yX6_offer cX6_offer 3 (some .int), Cond.fieldLink RX6 71 "ConsentQueue$Command" "OFFER" "LConsentQueue$Command;", Cond.methodLink RL 74 yL_settles, Cond.static yL_settles, Cond.code yL_settles cL_settles 12 (some .boolean), Cond.methodLink RL 34 yL_money, Cond.static yL_money, Cond.code yL_money cL_money 3 (some .int), Cond.methodLink RL 40 yX6_settledPlace, Cond.instanceMethod yX6_settledPlace, Cond.selects RX6 yX6_settledPlace yX6_settledPlace, Cond.code yX6_settledPlace cX6_settledPlace 2 (some .int), Cond.methodLink RL 43 yX6_profit, Cond.instanceMethod yX6_profit]
def wsL_law0_r21 : List Cond := [Cond.selects RX6 yX6_profit yX6_profit, Cond.code yX6_profit cX6_profit 4 (some .int), Cond.methodLink RX6 130 yX6_profitAt, Cond.instanceMethod yX6_profitAt, Cond.selects RX6 yX6_profitAt yX6_profitAt, Cond.code yX6_profitAt cX6_profitAt 6 (some .int), Cond.methodLink RL 46 yX6_bestLie, Cond.instanceMethod yX6_bestLie, Cond.selects RX6 yX6_bestLie yX6_bestLie, Cond.code yX6_bestLie cX6_bestLie 7 (some .int), Cond.methodLink RL 78 yX6_setSplit, Cond.instanceMethod yX6_setSplit, Cond.selects RX6 yX6_setSplit yX6_setSplit, Cond.code yX6_setSplit cX6_setSplit 3 (some .int), Cond.methodLink RL 21 yX6_reason, Cond.instanceMethod yX6_reason, Cond.selects RX6 yX6_reason yX6_reason, Cond.code yX6_reason cX6_reason 2 (some .int), Cond.methodLink RL 81 yX6_take, Cond.instanceMethod yX6_take, Cond.selects RX6 yX6_take yX6_take, Cond.code yX6_take cX6_take 2 (some .int), Cond.fieldLink RX6 74 "ConsentQueue$Command" "TAKE" "LConsentQueue$Command;", Cond.methodLink RL 84 yX6_swap]
def wsL_law0_r22 : List Cond := [Cond.instanceMethod yX6_swap, Cond.selects RX6 yX6_swap yX6_swap, Cond.code yX6_swap cX6_swap 2 (some .int), Cond.fieldLink RX6 77 "ConsentQueue$Command" "SWAP" "LConsentQueue$Command;", Cond.methodLink RL 87 yX6_part, Cond.instanceMethod yX6_part, Cond.selects RX6 yX6_part yX6_part, Cond.code yX6_part cX6_part 2 (some .int), Cond.fieldLink RX6 83 "ConsentQueue$Command" "PART" "LConsentQueue$Command;", Cond.methodLink RL 90 yX6_befriend, Cond.instanceMethod yX6_befriend, Cond.selects RX6 yX6_befriend yX6_befriend, Cond.code yX6_befriend cX6_befriend 2 (some .int), Cond.fieldLink RX6 80 "ConsentQueue$Command" "FRIEND" "LConsentQueue$Command;", Cond.methodLink RL 108 yL_rules, Cond.static yL_rules, Cond.code yL_rules cL_rules 22 (some .boolean), Cond.methodLink RL 31 yX6_honestCost, Cond.instanceMethod yX6_honestCost, Cond.selects RX6 yX6_honestCost yX6_honestCost, Cond.code yX6_honestCost cX6_honestCost 1 (some .int), Cond.instanceMethod yX4_tellTruth, Cond.selects RX4 yX4_tellTruth yX4_tellTruth, Cond.code yX4_tellTruth cX4_tellTruth 2 none]
def wsL_law0_r23 : List Cond := [Cond.methodLink RL 112 yX6_digest, Cond.instanceMethod yX6_digest, Cond.selects RX6 yX6_digest yX6_digest, Cond.code yX6_digest cX6_digest 4 (some .long), Cond.constantLong RX6 174 (1359102), Cond.constantLong RX6 176 (31), Cond.methodLink RX6 178 yX6_digestMembers, Cond.instanceMethod yX6_digestMembers, Cond.selects RX6 yX6_digestMembers yX6_digestMembers, Cond.code yX6_digestMembers cX6_digestMembers 7 (some .long), Cond.methodLink RX6 182 yX6_digestPairs, Cond.instanceMethod yX6_digestPairs, Cond.selects RX6 yX6_digestPairs yX6_digestPairs, Cond.code yX6_digestPairs cX6_digestPairs 7 (some .long)]
def wsL_law0 : List Cond := (wsL_law0_r1 ++ (wsL_law0_r2 ++ (wsL_law0_r3 ++ (wsL_law0_r4 ++ (wsL_law0_r5 ++ (wsL_law0_r6 ++ (wsL_law0_r7 ++ (wsL_law0_r8 ++ (wsL_law0_r9 ++ (wsL_law0_r10 ++ (wsL_law0_r11 ++ (wsL_law0_r12 ++ (wsL_law0_r13 ++ (wsL_law0_r14 ++ (wsL_law0_r15 ++ (wsL_law0_r16 ++ (wsL_law0_r17 ++ (wsL_law0_r18 ++ (wsL_law0_r19 ++ (wsL_law0_r20 ++ (wsL_law0_r21 ++ (wsL_law0_r22 ++ wsL_law0_r23)))))))))))))))))))))) ++ wsX60 ++ wsX40 ++ wsX30 ++ wsX20 ++ wsX50 ++ ([] : List Cond)
def wsL_law : List Cond := wsL_law0 ++ (vx_atS RX6 267 "java/lang/IndexOutOfBoundsException" ["java/lang/RuntimeException", "java/lang/Exception"]).filter goodWord ++ (vx_atS RX6 274 "java/lang/IllegalArgumentException" ["java/lang/RuntimeException", "java/lang/Exception"]).filter goodWord ++ (vx_atS RX6 279 "java/lang/IllegalStateException" ["java/lang/RuntimeException", "java/lang/Exception"]).filter goodWord
set_option maxRecDepth 20000 in
theorem wsL_law_in0 : ∀ w ∈ wsL_law0, w ∈ lw_tbl := fun w h => (goodIn_p wsL_law0 [97, 100, 105, 112, 178, 195, 516, 239, 242, 520, 524, 528, 532, 357, 536, 540, 544, 551, 548, 555, 424, 428, 432, 559, 563, 408, 412, 416, 495, 512, 576, 580, 584, 588, 592, 596, 600, 604, 607, 611, 617, 621, 625, 631, 635, 638, 641, 646, 649, 652, 655, 659, 669, 672, 676, 680, 345, 349, 353, 361, 687, 691, 375, 383, 387, 392, 396, 400, 404, 420, 436, 441, 445, 449, 453, 458, 463, 467, 471, 475, 479, 483, 487, 491, 499, 503, 507, 695, 699, 365, 371, 568, 572, 733, 761, 764, 769, 748, 725, 729, 775, 781, 740, 713, 717, 787, 793, 799, 804, 807, 811, 815, 819, 824, 236, 744, 828, 834, 840, 846, 736, 752, 757, 703, 709, 721] (by decide +kernel) (by decide +kernel) w h).1
theorem wsL_law_x0 : ∀ w ∈ (vx_atS RX6 267 "java/lang/IndexOutOfBoundsException" ["java/lang/RuntimeException", "java/lang/Exception"]).filter goodWord, w ∈ lw_tbl := by decide +kernel
theorem wsL_law_x1 : ∀ w ∈ (vx_atS RX6 274 "java/lang/IllegalArgumentException" ["java/lang/RuntimeException", "java/lang/Exception"]).filter goodWord, w ∈ lw_tbl := by decide +kernel
theorem wsL_law_x2 : ∀ w ∈ (vx_atS RX6 279 "java/lang/IllegalStateException" ["java/lang/RuntimeException", "java/lang/Exception"]).filter goodWord, w ∈ lw_tbl := by decide +kernel
theorem wsL_law_in : ∀ w ∈ wsL_law, w ∈ lw_tbl := fun w h => (List.mem_append.mp h).elim (fun h => (List.mem_append.mp h).elim (fun h => (List.mem_append.mp h).elim (fun h => wsL_law_in0 w h) (fun h => wsL_law_x0 w h)) (fun h => wsL_law_x1 w h)) (fun h => wsL_law_x2 w h)
theorem inX0 : ∀ w ∈ wsX00, w ∈ lw_tbl := by decide +kernel
theorem inX1 : ∀ w ∈ wsX10, w ∈ lw_tbl := by decide +kernel
theorem inlX2 : ∀ w ∈ wsX20, w ∈ wsL_law := fun _ h => List.mem_append_left _ (List.mem_append_left _ (List.mem_append_left _ (List.mem_append_left _ (List.mem_append_left _ (List.mem_append_right _ h)))))
theorem inX2 : ∀ w ∈ wsX20, w ∈ lw_tbl := fun w h => wsL_law_in w (inlX2 w h)
theorem inlX3 : ∀ w ∈ wsX30, w ∈ wsL_law := fun _ h => List.mem_append_left _ (List.mem_append_left _ (List.mem_append_left _ (List.mem_append_left _ (List.mem_append_left _ (List.mem_append_left _ (List.mem_append_right _ h))))))
theorem inX3 : ∀ w ∈ wsX30, w ∈ lw_tbl := fun w h => wsL_law_in w (inlX3 w h)
theorem inlX4 : ∀ w ∈ wsX40, w ∈ wsL_law := fun _ h => List.mem_append_left _ (List.mem_append_left _ (List.mem_append_left _ (List.mem_append_left _ (List.mem_append_left _ (List.mem_append_left _ (List.mem_append_left _ (List.mem_append_right _ h)))))))
theorem inX4 : ∀ w ∈ wsX40, w ∈ lw_tbl := fun w h => wsL_law_in w (inlX4 w h)
theorem inlX5 : ∀ w ∈ wsX50, w ∈ wsL_law := fun _ h => List.mem_append_left _ (List.mem_append_left _ (List.mem_append_left _ (List.mem_append_left _ (List.mem_append_right _ h))))
theorem inX5 : ∀ w ∈ wsX50, w ∈ lw_tbl := fun w h => wsL_law_in w (inlX5 w h)
theorem inlX6 : ∀ w ∈ wsX60, w ∈ wsL_law := fun _ h => List.mem_append_left _ (List.mem_append_left _ (List.mem_append_left _ (List.mem_append_left _ (List.mem_append_left _ (List.mem_append_left _ (List.mem_append_left _ (List.mem_append_left _ (List.mem_append_right _ h))))))))
theorem inX6 : ∀ w ∈ wsX60, w ∈ lw_tbl := fun w h => wsL_law_in w (inlX6 w h)
theorem inX7 : ∀ w ∈ wsX70, w ∈ lw_tbl := by decide +kernel
theorem inJx29ce0 : ∀ w ∈ wsJx29ce00, w ∈ lw_tbl := by decide +kernel
theorem inJ9 : ∀ w ∈ wsJ90, w ∈ lw_tbl := by decide +kernel
theorem inJ0 : ∀ w ∈ wsJ00, w ∈ lw_tbl := by decide +kernel
theorem inJ1 : ∀ w ∈ wsJ10, w ∈ lw_tbl := by decide +kernel
theorem inJ2 : ∀ w ∈ wsJ20, w ∈ lw_tbl := by decide +kernel
theorem inJ3 : ∀ w ∈ wsJ30, w ∈ lw_tbl := by decide +kernel
theorem dX2_init_0 : decode cX2_init 0 = .ok (.aload_n 0, 1) := by decide +kernel
theorem dX2_init_1 : decode cX2_init 1 = .ok (.invokespecial 3, 3) := by decide +kernel
theorem dX2_init_4 : decode cX2_init 4 = .ok (.aload_n 0, 1) := by decide +kernel
theorem dX2_init_5 : decode cX2_init 5 = .ok (.sipush 150, 3) := by decide +kernel
theorem dX2_init_8 : decode cX2_init 8 = .ok (.newarray .byte, 2) := by decide +kernel
theorem dX2_init_10 : decode cX2_init 10 = .ok (.putfield 9, 3) := by decide +kernel
theorem dX2_init_13 : decode cX2_init 13 = .ok (.aload_n 0, 1) := by decide +kernel
theorem dX2_init_14 : decode cX2_init 14 = .ok (.iconst (-1), 1) := by decide +kernel
theorem dX2_init_15 : decode cX2_init 15 = .ok (.putfield 15, 3) := by decide +kernel
theorem dX2_init_18 : decode cX2_init 18 = .ok (.aload_n 0, 1) := by decide +kernel
theorem dX2_init_19 : decode cX2_init 19 = .ok (.iconst 3, 1) := by decide +kernel
theorem dX2_init_20 : decode cX2_init 20 = .ok (.newarray .int, 2) := by decide +kernel
theorem dX2_init_22 : decode cX2_init 22 = .ok (.putfield 19, 3) := by decide +kernel
theorem dX2_init_25 : decode cX2_init 25 = .ok (.return_, 1) := by decide +kernel
theorem dX2_byteAt_0 : decode cX2_byteAt 0 = .ok (.iload_n 1, 1) := by decide +kernel
theorem dX2_byteAt_1 : decode cX2_byteAt 1 = .ok (.ifCond .lt 29, 3) := by decide +kernel
theorem dX2_byteAt_4 : decode cX2_byteAt 4 = .ok (.iload_n 1, 1) := by decide +kernel
theorem dX2_byteAt_5 : decode cX2_byteAt 5 = .ok (.aload_n 0, 1) := by decide +kernel
theorem dX2_byteAt_6 : decode cX2_byteAt 6 = .ok (.getfield 23, 3) := by decide +kernel
theorem dX2_byteAt_9 : decode cX2_byteAt 9 = .ok (.if_icmp .ge 21, 3) := by decide +kernel
theorem dX2_byteAt_12 : decode cX2_byteAt 12 = .ok (.iload_n 1, 1) := by decide +kernel
theorem dX2_byteAt_13 : decode cX2_byteAt 13 = .ok (.aload_n 0, 1) := by decide +kernel
theorem dX2_byteAt_14 : decode cX2_byteAt 14 = .ok (.getfield 9, 3) := by decide +kernel
theorem dX2_byteAt_17 : decode cX2_byteAt 17 = .ok (.arraylength, 1) := by decide +kernel
theorem dX2_byteAt_18 : decode cX2_byteAt 18 = .ok (.if_icmp .ge 12, 3) := by decide +kernel
theorem dX2_byteAt_21 : decode cX2_byteAt 21 = .ok (.aload_n 0, 1) := by decide +kernel
theorem dX2_byteAt_22 : decode cX2_byteAt 22 = .ok (.getfield 9, 3) := by decide +kernel
theorem dX2_byteAt_25 : decode cX2_byteAt 25 = .ok (.iload_n 1, 1) := by decide +kernel
theorem dX2_byteAt_26 : decode cX2_byteAt 26 = .ok (.baload, 1) := by decide +kernel
theorem dX2_byteAt_27 : decode cX2_byteAt 27 = .ok (.goto 4, 3) := by decide +kernel
theorem dX2_byteAt_30 : decode cX2_byteAt 30 = .ok (.iconst (-1), 1) := by decide +kernel
theorem dX2_byteAt_31 : decode cX2_byteAt 31 = .ok (.ireturn, 1) := by decide +kernel
theorem dX2_number_0 : decode cX2_number 0 = .ok (.iload_n 1, 1) := by decide +kernel
theorem dX2_number_1 : decode cX2_number 1 = .ok (.ifCond .lt 21, 3) := by decide +kernel
theorem dX2_number_4 : decode cX2_number 4 = .ok (.iload_n 1, 1) := by decide +kernel
theorem dX2_number_5 : decode cX2_number 5 = .ok (.aload_n 0, 1) := by decide +kernel
theorem dX2_number_6 : decode cX2_number 6 = .ok (.getfield 19, 3) := by decide +kernel
theorem dX2_number_9 : decode cX2_number 9 = .ok (.arraylength, 1) := by decide +kernel
theorem dX2_number_10 : decode cX2_number 10 = .ok (.if_icmp .ge 12, 3) := by decide +kernel
theorem dX2_number_13 : decode cX2_number 13 = .ok (.aload_n 0, 1) := by decide +kernel
theorem dX2_number_14 : decode cX2_number 14 = .ok (.getfield 19, 3) := by decide +kernel
theorem dX2_number_17 : decode cX2_number 17 = .ok (.iload_n 1, 1) := by decide +kernel
theorem dX2_number_18 : decode cX2_number 18 = .ok (.iaload, 1) := by decide +kernel
theorem dX2_number_19 : decode cX2_number 19 = .ok (.goto 4, 3) := by decide +kernel
theorem dX2_number_22 : decode cX2_number 22 = .ok (.iconst 0, 1) := by decide +kernel
theorem dX2_number_23 : decode cX2_number 23 = .ok (.ireturn, 1) := by decide +kernel
set_option maxRecDepth 20000 in
theorem ggX2_findFault_X2_startReading : GoodIn wsX2_findFault wsX2_startReading := goodIn_r _ [6, 7, 1, 8, 107, 108, 109, 110, 111, 112] (by decide +kernel) (by decide +kernel)
set_option maxRecDepth 20000 in
theorem gX2_findFault_X2_startReading : GoodIn wsX2_findFault (wsV RX2 26 RX2 yX2_startReading wsX2_startReading) := goodIn_app (goodIn_of _ (by decide +kernel)) ggX2_findFault_X2_startReading
set_option maxRecDepth 20000 in
theorem ggX2_findFault_X2_hasCommand : GoodIn wsX2_findFault wsX2_hasCommand := goodIn_r _ [12, 1, 7, 13, 14, 15, 16, 5, 17, 18, 19, 20, 21, 22, 107, 108, 109, 110, 111, 112] (by decide +kernel) (by decide +kernel)
set_option maxRecDepth 20000 in
theorem gX2_findFault_X2_hasCommand : GoodIn wsX2_findFault (wsV RX2 29 RX2 yX2_hasCommand wsX2_hasCommand) := goodIn_app (goodIn_of _ (by decide +kernel)) ggX2_findFault_X2_hasCommand
set_option maxRecDepth 20000 in
theorem ggX2_findFault_X2_readCommand : GoodIn wsX2_findFault wsX2_readCommand := goodIn_r _ [26, 7, 8, 1, 27, 28, 29, 5, 30, 13, 18, 19, 20, 21, 22, 31, 32, 33, 34, 35, 36, 37, 38, 39, 40, 41, 42, 43, 44, 45, 46, 47, 48, 49, 50, 51, 52, 53, 54, 55, 56, 57, 58, 59, 60, 61, 62, 63, 64, 65, 66, 67, 68, 69, 70, 71, 72, 73, 74, 75, 76, 77, 78, 79, 80, 81, 82, 83, 84, 85, 86, 87, 88, 89, 90, 91, 92, 93, 94, 95, 14, 15, 16, 17, 96, 97, 98, 99, 100, 101, 102, 103, 104, 105, 106, 107, 108, 109, 110, 111, 112] (by decide +kernel) (by decide +kernel)
set_option maxRecDepth 20000 in
theorem gX2_findFault_X2_readCommand : GoodIn wsX2_findFault (wsV RX2 33 RX2 yX2_readCommand wsX2_readCommand) := goodIn_app (goodIn_of _ (by decide +kernel)) ggX2_findFault_X2_readCommand
theorem dX2_findFault_0 : decode cX2_findFault 0 = .ok (.aload_n 0, 1) := by decide +kernel
theorem dX2_findFault_1 : decode cX2_findFault 1 = .ok (.invokevirtual 26, 3) := by decide +kernel
theorem dX2_findFault_4 : decode cX2_findFault 4 = .ok (.iconst 0, 1) := by decide +kernel
theorem dX2_findFault_5 : decode cX2_findFault 5 = .ok (.istore_n 1, 1) := by decide +kernel
theorem dX2_findFault_6 : decode cX2_findFault 6 = .ok (.iload_n 1, 1) := by decide +kernel
theorem dX2_findFault_7 : decode cX2_findFault 7 = .ok (.sipush 150, 3) := by decide +kernel
theorem dX2_findFault_10 : decode cX2_findFault 10 = .ok (.if_icmp .ge 20, 3) := by decide +kernel
theorem dX2_findFault_13 : decode cX2_findFault 13 = .ok (.aload_n 0, 1) := by decide +kernel
theorem dX2_findFault_14 : decode cX2_findFault 14 = .ok (.invokevirtual 29, 3) := by decide +kernel
theorem dX2_findFault_17 : decode cX2_findFault 17 = .ok (.ifCond .eq 13, 3) := by decide +kernel
theorem dX2_findFault_20 : decode cX2_findFault 20 = .ok (.aload_n 0, 1) := by decide +kernel
theorem dX2_findFault_21 : decode cX2_findFault 21 = .ok (.invokevirtual 33, 3) := by decide +kernel
theorem dX2_findFault_24 : decode cX2_findFault 24 = .ok (.iinc 1 1, 3) := by decide +kernel
theorem dX2_findFault_27 : decode cX2_findFault 27 = .ok (.goto (-21), 3) := by decide +kernel
theorem dX2_findFault_30 : decode cX2_findFault 30 = .ok (.aload_n 0, 1) := by decide +kernel
theorem dX2_findFault_31 : decode cX2_findFault 31 = .ok (.getfield 15, 3) := by decide +kernel
theorem dX2_findFault_34 : decode cX2_findFault 34 = .ok (.ireturn, 1) := by decide +kernel
theorem dX2_startReading_0 : decode cX2_startReading 0 = .ok (.aload_n 0, 1) := by decide +kernel
theorem dX2_startReading_1 : decode cX2_startReading 1 = .ok (.iconst 0, 1) := by decide +kernel
theorem dX2_startReading_2 : decode cX2_startReading 2 = .ok (.putfield 36, 3) := by decide +kernel
theorem dX2_startReading_5 : decode cX2_startReading 5 = .ok (.aload_n 0, 1) := by decide +kernel
theorem dX2_startReading_6 : decode cX2_startReading 6 = .ok (.iconst (-1), 1) := by decide +kernel
theorem dX2_startReading_7 : decode cX2_startReading 7 = .ok (.putfield 15, 3) := by decide +kernel
theorem dX2_startReading_10 : decode cX2_startReading 10 = .ok (.aload_n 0, 1) := by decide +kernel
theorem dX2_startReading_11 : decode cX2_startReading 11 = .ok (.aconst_null, 1) := by decide +kernel
theorem dX2_startReading_12 : decode cX2_startReading 12 = .ok (.putfield 39, 3) := by decide +kernel
theorem dX2_startReading_15 : decode cX2_startReading 15 = .ok (.return_, 1) := by decide +kernel
set_option maxRecDepth 20000 in
theorem ggX2_hasCommand_X2_skipSpaces : GoodIn wsX2_hasCommand wsX2_skipSpaces := goodIn_r _ [8, 2, 3, 9, 10, 11, 7, 12, 13, 14, 15, 16, 17, 18, 19] (by decide +kernel) (by decide +kernel)
set_option maxRecDepth 20000 in
theorem gX2_hasCommand_X2_skipSpaces : GoodIn wsX2_hasCommand (wsV RX2 43 RX2 yX2_skipSpaces wsX2_skipSpaces) := goodIn_app (goodIn_of _ (by decide +kernel)) ggX2_hasCommand_X2_skipSpaces
theorem dX2_hasCommand_0 : decode cX2_hasCommand 0 = .ok (.aload_n 0, 1) := by decide +kernel
theorem dX2_hasCommand_1 : decode cX2_hasCommand 1 = .ok (.getfield 15, 3) := by decide +kernel
theorem dX2_hasCommand_4 : decode cX2_hasCommand 4 = .ok (.iconst (-1), 1) := by decide +kernel
theorem dX2_hasCommand_5 : decode cX2_hasCommand 5 = .ok (.if_icmp .eq 5, 3) := by decide +kernel
theorem dX2_hasCommand_8 : decode cX2_hasCommand 8 = .ok (.iconst 0, 1) := by decide +kernel
theorem dX2_hasCommand_9 : decode cX2_hasCommand 9 = .ok (.ireturn, 1) := by decide +kernel
theorem dX2_hasCommand_10 : decode cX2_hasCommand 10 = .ok (.aload_n 0, 1) := by decide +kernel
theorem dX2_hasCommand_11 : decode cX2_hasCommand 11 = .ok (.invokevirtual 43, 3) := by decide +kernel
theorem dX2_hasCommand_14 : decode cX2_hasCommand 14 = .ok (.aload_n 0, 1) := by decide +kernel
theorem dX2_hasCommand_15 : decode cX2_hasCommand 15 = .ok (.getfield 36, 3) := by decide +kernel
theorem dX2_hasCommand_18 : decode cX2_hasCommand 18 = .ok (.aload_n 0, 1) := by decide +kernel
theorem dX2_hasCommand_19 : decode cX2_hasCommand 19 = .ok (.getfield 23, 3) := by decide +kernel
theorem dX2_hasCommand_22 : decode cX2_hasCommand 22 = .ok (.if_icmp .ge 7, 3) := by decide +kernel
theorem dX2_hasCommand_25 : decode cX2_hasCommand 25 = .ok (.iconst 1, 1) := by decide +kernel
theorem dX2_hasCommand_26 : decode cX2_hasCommand 26 = .ok (.goto 4, 3) := by decide +kernel
theorem dX2_hasCommand_29 : decode cX2_hasCommand 29 = .ok (.iconst 0, 1) := by decide +kernel
theorem dX2_hasCommand_30 : decode cX2_hasCommand 30 = .ok (.ireturn, 1) := by decide +kernel
set_option maxRecDepth 20000 in
theorem ggX2_readCommand_X2_skipLetters : GoodIn wsX2_readCommand wsX2_skipLetters := goodIn_r _ [8, 1, 9, 10, 11, 12, 7, 13, 14, 15, 16, 17, 95, 96, 97, 98, 99, 100] (by decide +kernel) (by decide +kernel)
set_option maxRecDepth 20000 in
theorem gX2_readCommand_X2_skipLetters : GoodIn wsX2_readCommand (wsV RX2 46 RX2 yX2_skipLetters wsX2_skipLetters) := goodIn_app (goodIn_of _ (by decide +kernel)) ggX2_readCommand_X2_skipLetters
set_option maxRecDepth 20000 in
theorem ggX2_readCommand_X2_commandSpelled : GoodIn wsX2_readCommand wsX2_commandSpelled := goodIn_r _ [21, 22, 23, 24, 7, 25, 26, 27, 28, 29, 30, 31, 32, 33, 34, 35, 36, 37, 38, 39, 40, 41, 42, 43, 44, 45, 46, 47, 48, 49, 50, 51, 52, 53, 54, 55, 56, 57, 58, 59, 60, 61, 62, 63, 64, 65, 66, 67, 68, 69, 70, 71, 72, 73, 74, 10, 11, 12, 13, 9, 14, 95, 96, 97, 98, 99, 100] (by decide +kernel) (by decide +kernel)
set_option maxRecDepth 20000 in
theorem gX2_readCommand_X2_commandSpelled : GoodIn wsX2_readCommand (wsV RX2 49 RX2 yX2_commandSpelled wsX2_commandSpelled) := goodIn_app (goodIn_of _ (by decide +kernel)) ggX2_readCommand_X2_commandSpelled
set_option maxRecDepth 20000 in
theorem ggX2_readCommand_X2_readNumber : GoodIn wsX2_readCommand wsX2_readNumber := goodIn_r _ [78, 1, 3, 79, 80, 81, 82, 7, 83, 9, 10, 11, 12, 13, 14, 84, 85, 86, 87, 88, 89, 90, 95, 96, 97, 98, 99, 100] (by decide +kernel) (by decide +kernel)
set_option maxRecDepth 20000 in
theorem gX2_readCommand_X2_readNumber : GoodIn wsX2_readCommand (wsV RX2 57 RX2 yX2_readNumber wsX2_readNumber) := goodIn_app (goodIn_of _ (by decide +kernel)) ggX2_readCommand_X2_readNumber
set_option maxRecDepth 20000 in
theorem ggX2_readCommand_X2_readSemicolon : GoodIn wsX2_readCommand wsX2_readSemicolon := goodIn_r _ [94, 1, 3, 80, 81, 82, 7, 83, 9, 10, 11, 12, 13, 14, 95, 96, 97, 98, 99, 100] (by decide +kernel) (by decide +kernel)
set_option maxRecDepth 20000 in
theorem gX2_readCommand_X2_readSemicolon : GoodIn wsX2_readCommand (wsV RX2 61 RX2 yX2_readSemicolon wsX2_readSemicolon) := goodIn_app (goodIn_of _ (by decide +kernel)) ggX2_readCommand_X2_readSemicolon
theorem dX2_readCommand_0 : decode cX2_readCommand 0 = .ok (.aload_n 0, 1) := by decide +kernel
theorem dX2_readCommand_1 : decode cX2_readCommand 1 = .ok (.getfield 36, 3) := by decide +kernel
theorem dX2_readCommand_4 : decode cX2_readCommand 4 = .ok (.istore_n 1, 1) := by decide +kernel
theorem dX2_readCommand_5 : decode cX2_readCommand 5 = .ok (.aload_n 0, 1) := by decide +kernel
theorem dX2_readCommand_6 : decode cX2_readCommand 6 = .ok (.invokevirtual 46, 3) := by decide +kernel
theorem dX2_readCommand_9 : decode cX2_readCommand 9 = .ok (.aload_n 0, 1) := by decide +kernel
theorem dX2_readCommand_10 : decode cX2_readCommand 10 = .ok (.iload_n 1, 1) := by decide +kernel
theorem dX2_readCommand_11 : decode cX2_readCommand 11 = .ok (.aload_n 0, 1) := by decide +kernel
theorem dX2_readCommand_12 : decode cX2_readCommand 12 = .ok (.getfield 36, 3) := by decide +kernel
theorem dX2_readCommand_15 : decode cX2_readCommand 15 = .ok (.invokevirtual 49, 3) := by decide +kernel
theorem dX2_readCommand_18 : decode cX2_readCommand 18 = .ok (.astore_n 2, 1) := by decide +kernel
theorem dX2_readCommand_19 : decode cX2_readCommand 19 = .ok (.aload_n 0, 1) := by decide +kernel
theorem dX2_readCommand_20 : decode cX2_readCommand 20 = .ok (.aload_n 2, 1) := by decide +kernel
theorem dX2_readCommand_21 : decode cX2_readCommand 21 = .ok (.putfield 39, 3) := by decide +kernel
theorem dX2_readCommand_24 : decode cX2_readCommand 24 = .ok (.aload_n 2, 1) := by decide +kernel
theorem dX2_readCommand_25 : decode cX2_readCommand 25 = .ok (.ifnonnull 9, 3) := by decide +kernel
theorem dX2_readCommand_28 : decode cX2_readCommand 28 = .ok (.aload_n 0, 1) := by decide +kernel
theorem dX2_readCommand_29 : decode cX2_readCommand 29 = .ok (.iload_n 1, 1) := by decide +kernel
theorem dX2_readCommand_30 : decode cX2_readCommand 30 = .ok (.putfield 15, 3) := by decide +kernel
theorem dX2_readCommand_33 : decode cX2_readCommand 33 = .ok (.return_, 1) := by decide +kernel
theorem dX2_readCommand_34 : decode cX2_readCommand 34 = .ok (.iconst 0, 1) := by decide +kernel
theorem dX2_readCommand_35 : decode cX2_readCommand 35 = .ok (.istore_n 3, 1) := by decide +kernel
theorem dX2_readCommand_36 : decode cX2_readCommand 36 = .ok (.iload_n 3, 1) := by decide +kernel
theorem dX2_readCommand_37 : decode cX2_readCommand 37 = .ok (.aload_n 2, 1) := by decide +kernel
theorem dX2_readCommand_38 : decode cX2_readCommand 38 = .ok (.getfield 53, 3) := by decide +kernel
theorem dX2_readCommand_41 : decode cX2_readCommand 41 = .ok (.if_icmp .ge 22, 3) := by decide +kernel
theorem dX2_readCommand_44 : decode cX2_readCommand 44 = .ok (.aload_n 0, 1) := by decide +kernel
theorem dX2_readCommand_45 : decode cX2_readCommand 45 = .ok (.getfield 15, 3) := by decide +kernel
theorem dX2_readCommand_48 : decode cX2_readCommand 48 = .ok (.iconst (-1), 1) := by decide +kernel
theorem dX2_readCommand_49 : decode cX2_readCommand 49 = .ok (.if_icmp .ne 14, 3) := by decide +kernel
theorem dX2_readCommand_52 : decode cX2_readCommand 52 = .ok (.aload_n 0, 1) := by decide +kernel
theorem dX2_readCommand_53 : decode cX2_readCommand 53 = .ok (.iload_n 3, 1) := by decide +kernel
theorem dX2_readCommand_54 : decode cX2_readCommand 54 = .ok (.invokevirtual 57, 3) := by decide +kernel
theorem dX2_readCommand_57 : decode cX2_readCommand 57 = .ok (.iinc 3 1, 3) := by decide +kernel
theorem dX2_readCommand_60 : decode cX2_readCommand 60 = .ok (.goto (-24), 3) := by decide +kernel
theorem dX2_readCommand_63 : decode cX2_readCommand 63 = .ok (.aload_n 0, 1) := by decide +kernel
theorem dX2_readCommand_64 : decode cX2_readCommand 64 = .ok (.getfield 15, 3) := by decide +kernel
theorem dX2_readCommand_67 : decode cX2_readCommand 67 = .ok (.iconst (-1), 1) := by decide +kernel
theorem dX2_readCommand_68 : decode cX2_readCommand 68 = .ok (.if_icmp .ne 7, 3) := by decide +kernel
theorem dX2_readCommand_71 : decode cX2_readCommand 71 = .ok (.aload_n 0, 1) := by decide +kernel
theorem dX2_readCommand_72 : decode cX2_readCommand 72 = .ok (.invokevirtual 61, 3) := by decide +kernel
theorem dX2_readCommand_75 : decode cX2_readCommand 75 = .ok (.return_, 1) := by decide +kernel
set_option maxRecDepth 20000 in
theorem ggX2_readNumber_X2_skipSpaces : GoodIn wsX2_readNumber wsX2_skipSpaces := goodIn_r _ [8, 1, 9, 10, 11, 12, 7, 13, 14, 22, 23, 24, 25, 26, 27] (by decide +kernel) (by decide +kernel)
set_option maxRecDepth 20000 in
theorem gX2_readNumber_X2_skipSpaces : GoodIn wsX2_readNumber (wsV RX2 43 RX2 yX2_skipSpaces wsX2_skipSpaces) := goodIn_app (goodIn_of _ (by decide +kernel)) ggX2_readNumber_X2_skipSpaces
set_option maxRecDepth 20000 in
theorem ggX2_readNumber_X2_byteAt : GoodIn wsX2_readNumber wsX2_byteAt := goodIn_r _ [13, 9, 14, 22, 23, 24, 25, 26, 27] (by decide +kernel) (by decide +kernel)
set_option maxRecDepth 20000 in
theorem gX2_readNumber_X2_byteAt : GoodIn wsX2_readNumber (wsV RX2 64 RX2 yX2_byteAt wsX2_byteAt) := goodIn_app (goodIn_of _ (by decide +kernel)) ggX2_readNumber_X2_byteAt
set_option maxRecDepth 20000 in
theorem ggX2_readNumber_X2_isDigit : GoodIn wsX2_readNumber wsX2_isDigit := goodIn_r _ [17] (by decide +kernel) (by decide +kernel)
set_option maxRecDepth 20000 in
theorem gX2_readNumber_X2_isDigit : GoodIn wsX2_readNumber (va_wsS RX2 68 yX2_isDigit wsX2_isDigit) := goodIn_app (goodIn_of _ (by decide +kernel)) ggX2_readNumber_X2_isDigit
set_option maxRecDepth 20000 in
theorem ggX2_readNumber_X2_readDigits : GoodIn wsX2_readNumber wsX2_readDigits := goodIn_r _ [21, 1, 10, 11, 12, 7, 13, 9, 14, 15, 16, 17, 22, 23, 24, 25, 26, 27] (by decide +kernel) (by decide +kernel)
set_option maxRecDepth 20000 in
theorem gX2_readNumber_X2_readDigits : GoodIn wsX2_readNumber (wsV RX2 72 RX2 yX2_readDigits wsX2_readDigits) := goodIn_app (goodIn_of _ (by decide +kernel)) ggX2_readNumber_X2_readDigits
theorem dX2_readNumber_0 : decode cX2_readNumber 0 = .ok (.aload_n 0, 1) := by decide +kernel
theorem dX2_readNumber_1 : decode cX2_readNumber 1 = .ok (.getfield 36, 3) := by decide +kernel
theorem dX2_readNumber_4 : decode cX2_readNumber 4 = .ok (.istore_n 2, 1) := by decide +kernel
theorem dX2_readNumber_5 : decode cX2_readNumber 5 = .ok (.aload_n 0, 1) := by decide +kernel
theorem dX2_readNumber_6 : decode cX2_readNumber 6 = .ok (.invokevirtual 43, 3) := by decide +kernel
theorem dX2_readNumber_9 : decode cX2_readNumber 9 = .ok (.aload_n 0, 1) := by decide +kernel
theorem dX2_readNumber_10 : decode cX2_readNumber 10 = .ok (.getfield 36, 3) := by decide +kernel
theorem dX2_readNumber_13 : decode cX2_readNumber 13 = .ok (.iload_n 2, 1) := by decide +kernel
theorem dX2_readNumber_14 : decode cX2_readNumber 14 = .ok (.if_icmp .eq 17, 3) := by decide +kernel
theorem dX2_readNumber_17 : decode cX2_readNumber 17 = .ok (.aload_n 0, 1) := by decide +kernel
theorem dX2_readNumber_18 : decode cX2_readNumber 18 = .ok (.aload_n 0, 1) := by decide +kernel
theorem dX2_readNumber_19 : decode cX2_readNumber 19 = .ok (.getfield 36, 3) := by decide +kernel
theorem dX2_readNumber_22 : decode cX2_readNumber 22 = .ok (.invokevirtual 64, 3) := by decide +kernel
theorem dX2_readNumber_25 : decode cX2_readNumber 25 = .ok (.invokestatic 68, 3) := by decide +kernel
theorem dX2_readNumber_28 : decode cX2_readNumber 28 = .ok (.ifCond .ne 12, 3) := by decide +kernel
theorem dX2_readNumber_31 : decode cX2_readNumber 31 = .ok (.aload_n 0, 1) := by decide +kernel
theorem dX2_readNumber_32 : decode cX2_readNumber 32 = .ok (.aload_n 0, 1) := by decide +kernel
theorem dX2_readNumber_33 : decode cX2_readNumber 33 = .ok (.getfield 36, 3) := by decide +kernel
theorem dX2_readNumber_36 : decode cX2_readNumber 36 = .ok (.putfield 15, 3) := by decide +kernel
theorem dX2_readNumber_39 : decode cX2_readNumber 39 = .ok (.return_, 1) := by decide +kernel
theorem dX2_readNumber_40 : decode cX2_readNumber 40 = .ok (.aload_n 0, 1) := by decide +kernel
theorem dX2_readNumber_41 : decode cX2_readNumber 41 = .ok (.invokevirtual 72, 3) := by decide +kernel
theorem dX2_readNumber_44 : decode cX2_readNumber 44 = .ok (.istore_n 3, 1) := by decide +kernel
theorem dX2_readNumber_45 : decode cX2_readNumber 45 = .ok (.iload_n 1, 1) := by decide +kernel
theorem dX2_readNumber_46 : decode cX2_readNumber 46 = .ok (.ifCond .lt 19, 3) := by decide +kernel
theorem dX2_readNumber_49 : decode cX2_readNumber 49 = .ok (.iload_n 1, 1) := by decide +kernel
theorem dX2_readNumber_50 : decode cX2_readNumber 50 = .ok (.aload_n 0, 1) := by decide +kernel
theorem dX2_readNumber_51 : decode cX2_readNumber 51 = .ok (.getfield 19, 3) := by decide +kernel
theorem dX2_readNumber_54 : decode cX2_readNumber 54 = .ok (.arraylength, 1) := by decide +kernel
theorem dX2_readNumber_55 : decode cX2_readNumber 55 = .ok (.if_icmp .ge 10, 3) := by decide +kernel
theorem dX2_readNumber_58 : decode cX2_readNumber 58 = .ok (.aload_n 0, 1) := by decide +kernel
theorem dX2_readNumber_59 : decode cX2_readNumber 59 = .ok (.getfield 19, 3) := by decide +kernel
theorem dX2_readNumber_62 : decode cX2_readNumber 62 = .ok (.iload_n 1, 1) := by decide +kernel
theorem dX2_readNumber_63 : decode cX2_readNumber 63 = .ok (.iload_n 3, 1) := by decide +kernel
theorem dX2_readNumber_64 : decode cX2_readNumber 64 = .ok (.iastore, 1) := by decide +kernel
theorem dX2_readNumber_65 : decode cX2_readNumber 65 = .ok (.return_, 1) := by decide +kernel
set_option maxRecDepth 20000 in
theorem ggX2_readDigits_X2_byteAt : GoodIn wsX2_readDigits wsX2_byteAt := goodIn_r _ [6, 7, 8, 12, 13, 14, 15, 16, 17] (by decide +kernel) (by decide +kernel)
set_option maxRecDepth 20000 in
theorem gX2_readDigits_X2_byteAt : GoodIn wsX2_readDigits (wsV RX2 64 RX2 yX2_byteAt wsX2_byteAt) := goodIn_app (goodIn_of _ (by decide +kernel)) ggX2_readDigits_X2_byteAt
set_option maxRecDepth 20000 in
theorem ggX2_readDigits_X2_isDigit : GoodIn wsX2_readDigits wsX2_isDigit := goodIn_r _ [11] (by decide +kernel) (by decide +kernel)
set_option maxRecDepth 20000 in
theorem gX2_readDigits_X2_isDigit : GoodIn wsX2_readDigits (va_wsS RX2 68 yX2_isDigit wsX2_isDigit) := goodIn_app (goodIn_of _ (by decide +kernel)) ggX2_readDigits_X2_isDigit
theorem dX2_readDigits_0 : decode cX2_readDigits 0 = .ok (.iconst 0, 1) := by decide +kernel
theorem dX2_readDigits_1 : decode cX2_readDigits 1 = .ok (.istore_n 1, 1) := by decide +kernel
theorem dX2_readDigits_2 : decode cX2_readDigits 2 = .ok (.iconst 0, 1) := by decide +kernel
theorem dX2_readDigits_3 : decode cX2_readDigits 3 = .ok (.istore_n 2, 1) := by decide +kernel
theorem dX2_readDigits_4 : decode cX2_readDigits 4 = .ok (.iload_n 2, 1) := by decide +kernel
theorem dX2_readDigits_5 : decode cX2_readDigits 5 = .ok (.iconst 4, 1) := by decide +kernel
theorem dX2_readDigits_6 : decode cX2_readDigits 6 = .ok (.if_icmp .ge 50, 3) := by decide +kernel
theorem dX2_readDigits_9 : decode cX2_readDigits 9 = .ok (.aload_n 0, 1) := by decide +kernel
theorem dX2_readDigits_10 : decode cX2_readDigits 10 = .ok (.aload_n 0, 1) := by decide +kernel
theorem dX2_readDigits_11 : decode cX2_readDigits 11 = .ok (.getfield 36, 3) := by decide +kernel
theorem dX2_readDigits_14 : decode cX2_readDigits 14 = .ok (.invokevirtual 64, 3) := by decide +kernel
theorem dX2_readDigits_17 : decode cX2_readDigits 17 = .ok (.invokestatic 68, 3) := by decide +kernel
theorem dX2_readDigits_20 : decode cX2_readDigits 20 = .ok (.ifCond .eq 36, 3) := by decide +kernel
theorem dX2_readDigits_23 : decode cX2_readDigits 23 = .ok (.bipush 10, 2) := by decide +kernel
theorem dX2_readDigits_25 : decode cX2_readDigits 25 = .ok (.iload_n 1, 1) := by decide +kernel
theorem dX2_readDigits_26 : decode cX2_readDigits 26 = .ok (.imul, 1) := by decide +kernel
theorem dX2_readDigits_27 : decode cX2_readDigits 27 = .ok (.aload_n 0, 1) := by decide +kernel
theorem dX2_readDigits_28 : decode cX2_readDigits 28 = .ok (.aload_n 0, 1) := by decide +kernel
theorem dX2_readDigits_29 : decode cX2_readDigits 29 = .ok (.getfield 36, 3) := by decide +kernel
theorem dX2_readDigits_32 : decode cX2_readDigits 32 = .ok (.invokevirtual 64, 3) := by decide +kernel
theorem dX2_readDigits_35 : decode cX2_readDigits 35 = .ok (.iadd, 1) := by decide +kernel
theorem dX2_readDigits_36 : decode cX2_readDigits 36 = .ok (.bipush 48, 2) := by decide +kernel
theorem dX2_readDigits_38 : decode cX2_readDigits 38 = .ok (.isub, 1) := by decide +kernel
theorem dX2_readDigits_39 : decode cX2_readDigits 39 = .ok (.istore_n 1, 1) := by decide +kernel
theorem dX2_readDigits_40 : decode cX2_readDigits 40 = .ok (.aload_n 0, 1) := by decide +kernel
theorem dX2_readDigits_41 : decode cX2_readDigits 41 = .ok (.dup, 1) := by decide +kernel
theorem dX2_readDigits_42 : decode cX2_readDigits 42 = .ok (.getfield 36, 3) := by decide +kernel
theorem dX2_readDigits_45 : decode cX2_readDigits 45 = .ok (.iconst 1, 1) := by decide +kernel
theorem dX2_readDigits_46 : decode cX2_readDigits 46 = .ok (.iadd, 1) := by decide +kernel
theorem dX2_readDigits_47 : decode cX2_readDigits 47 = .ok (.putfield 36, 3) := by decide +kernel
theorem dX2_readDigits_50 : decode cX2_readDigits 50 = .ok (.iinc 2 1, 3) := by decide +kernel
theorem dX2_readDigits_53 : decode cX2_readDigits 53 = .ok (.goto (-49), 3) := by decide +kernel
theorem dX2_readDigits_56 : decode cX2_readDigits 56 = .ok (.iload_n 1, 1) := by decide +kernel
theorem dX2_readDigits_57 : decode cX2_readDigits 57 = .ok (.ireturn, 1) := by decide +kernel
set_option maxRecDepth 20000 in
theorem ggX2_readSemicolon_X2_skipSpaces : GoodIn wsX2_readSemicolon wsX2_skipSpaces := goodIn_r _ [7, 1, 8, 9, 10, 11, 6, 12, 13, 14, 15, 16, 17, 18, 19] (by decide +kernel) (by decide +kernel)
set_option maxRecDepth 20000 in
theorem gX2_readSemicolon_X2_skipSpaces : GoodIn wsX2_readSemicolon (wsV RX2 43 RX2 yX2_skipSpaces wsX2_skipSpaces) := goodIn_app (goodIn_of _ (by decide +kernel)) ggX2_readSemicolon_X2_skipSpaces
set_option maxRecDepth 20000 in
theorem ggX2_readSemicolon_X2_byteAt : GoodIn wsX2_readSemicolon wsX2_byteAt := goodIn_r _ [12, 8, 13, 14, 15, 16, 17, 18, 19] (by decide +kernel) (by decide +kernel)
set_option maxRecDepth 20000 in
theorem gX2_readSemicolon_X2_byteAt : GoodIn wsX2_readSemicolon (wsV RX2 64 RX2 yX2_byteAt wsX2_byteAt) := goodIn_app (goodIn_of _ (by decide +kernel)) ggX2_readSemicolon_X2_byteAt
theorem dX2_readSemicolon_0 : decode cX2_readSemicolon 0 = .ok (.aload_n 0, 1) := by decide +kernel
theorem dX2_readSemicolon_1 : decode cX2_readSemicolon 1 = .ok (.invokevirtual 43, 3) := by decide +kernel
theorem dX2_readSemicolon_4 : decode cX2_readSemicolon 4 = .ok (.aload_n 0, 1) := by decide +kernel
theorem dX2_readSemicolon_5 : decode cX2_readSemicolon 5 = .ok (.aload_n 0, 1) := by decide +kernel
theorem dX2_readSemicolon_6 : decode cX2_readSemicolon 6 = .ok (.getfield 36, 3) := by decide +kernel
theorem dX2_readSemicolon_9 : decode cX2_readSemicolon 9 = .ok (.invokevirtual 64, 3) := by decide +kernel
theorem dX2_readSemicolon_12 : decode cX2_readSemicolon 12 = .ok (.bipush 59, 2) := by decide +kernel
theorem dX2_readSemicolon_14 : decode cX2_readSemicolon 14 = .ok (.if_icmp .ne 16, 3) := by decide +kernel
theorem dX2_readSemicolon_17 : decode cX2_readSemicolon 17 = .ok (.aload_n 0, 1) := by decide +kernel
theorem dX2_readSemicolon_18 : decode cX2_readSemicolon 18 = .ok (.dup, 1) := by decide +kernel
theorem dX2_readSemicolon_19 : decode cX2_readSemicolon 19 = .ok (.getfield 36, 3) := by decide +kernel
theorem dX2_readSemicolon_22 : decode cX2_readSemicolon 22 = .ok (.iconst 1, 1) := by decide +kernel
theorem dX2_readSemicolon_23 : decode cX2_readSemicolon 23 = .ok (.iadd, 1) := by decide +kernel
theorem dX2_readSemicolon_24 : decode cX2_readSemicolon 24 = .ok (.putfield 36, 3) := by decide +kernel
theorem dX2_readSemicolon_27 : decode cX2_readSemicolon 27 = .ok (.goto 11, 3) := by decide +kernel
theorem dX2_readSemicolon_30 : decode cX2_readSemicolon 30 = .ok (.aload_n 0, 1) := by decide +kernel
theorem dX2_readSemicolon_31 : decode cX2_readSemicolon 31 = .ok (.aload_n 0, 1) := by decide +kernel
theorem dX2_readSemicolon_32 : decode cX2_readSemicolon 32 = .ok (.getfield 36, 3) := by decide +kernel
theorem dX2_readSemicolon_35 : decode cX2_readSemicolon 35 = .ok (.putfield 15, 3) := by decide +kernel
theorem dX2_readSemicolon_38 : decode cX2_readSemicolon 38 = .ok (.return_, 1) := by decide +kernel
set_option maxRecDepth 20000 in
theorem ggX2_skipSpaces_X2_byteAt : GoodIn wsX2_skipSpaces wsX2_byteAt := goodIn_r _ [7, 2, 8, 9, 10, 11, 12, 13, 14] (by decide +kernel) (by decide +kernel)
set_option maxRecDepth 20000 in
theorem gX2_skipSpaces_X2_byteAt : GoodIn wsX2_skipSpaces (wsV RX2 64 RX2 yX2_byteAt wsX2_byteAt) := goodIn_app (goodIn_of _ (by decide +kernel)) ggX2_skipSpaces_X2_byteAt
theorem dX2_skipSpaces_0 : decode cX2_skipSpaces 0 = .ok (.aload_n 0, 1) := by decide +kernel
theorem dX2_skipSpaces_1 : decode cX2_skipSpaces 1 = .ok (.getfield 36, 3) := by decide +kernel
theorem dX2_skipSpaces_4 : decode cX2_skipSpaces 4 = .ok (.aload_n 0, 1) := by decide +kernel
theorem dX2_skipSpaces_5 : decode cX2_skipSpaces 5 = .ok (.getfield 23, 3) := by decide +kernel
theorem dX2_skipSpaces_8 : decode cX2_skipSpaces 8 = .ok (.if_icmp .ge 29, 3) := by decide +kernel
theorem dX2_skipSpaces_11 : decode cX2_skipSpaces 11 = .ok (.aload_n 0, 1) := by decide +kernel
theorem dX2_skipSpaces_12 : decode cX2_skipSpaces 12 = .ok (.aload_n 0, 1) := by decide +kernel
theorem dX2_skipSpaces_13 : decode cX2_skipSpaces 13 = .ok (.getfield 36, 3) := by decide +kernel
theorem dX2_skipSpaces_16 : decode cX2_skipSpaces 16 = .ok (.invokevirtual 64, 3) := by decide +kernel
theorem dX2_skipSpaces_19 : decode cX2_skipSpaces 19 = .ok (.bipush 32, 2) := by decide +kernel
theorem dX2_skipSpaces_21 : decode cX2_skipSpaces 21 = .ok (.if_icmp .ne 16, 3) := by decide +kernel
theorem dX2_skipSpaces_24 : decode cX2_skipSpaces 24 = .ok (.aload_n 0, 1) := by decide +kernel
theorem dX2_skipSpaces_25 : decode cX2_skipSpaces 25 = .ok (.dup, 1) := by decide +kernel
theorem dX2_skipSpaces_26 : decode cX2_skipSpaces 26 = .ok (.getfield 36, 3) := by decide +kernel
theorem dX2_skipSpaces_29 : decode cX2_skipSpaces 29 = .ok (.iconst 1, 1) := by decide +kernel
theorem dX2_skipSpaces_30 : decode cX2_skipSpaces 30 = .ok (.iadd, 1) := by decide +kernel
theorem dX2_skipSpaces_31 : decode cX2_skipSpaces 31 = .ok (.putfield 36, 3) := by decide +kernel
theorem dX2_skipSpaces_34 : decode cX2_skipSpaces 34 = .ok (.goto (-34), 3) := by decide +kernel
theorem dX2_skipSpaces_37 : decode cX2_skipSpaces 37 = .ok (.return_, 1) := by decide +kernel
set_option maxRecDepth 20000 in
theorem ggX2_skipLetters_X2_byteAt : GoodIn wsX2_skipLetters wsX2_byteAt := goodIn_r _ [7, 2, 8, 12, 13, 14, 15, 16, 17] (by decide +kernel) (by decide +kernel)
set_option maxRecDepth 20000 in
theorem gX2_skipLetters_X2_byteAt : GoodIn wsX2_skipLetters (wsV RX2 64 RX2 yX2_byteAt wsX2_byteAt) := goodIn_app (goodIn_of _ (by decide +kernel)) ggX2_skipLetters_X2_byteAt
set_option maxRecDepth 20000 in
theorem ggX2_skipLetters_X2_isLetter : GoodIn wsX2_skipLetters wsX2_isLetter := goodIn_r _ [11] (by decide +kernel) (by decide +kernel)
set_option maxRecDepth 20000 in
theorem gX2_skipLetters_X2_isLetter : GoodIn wsX2_skipLetters (va_wsS RX2 76 yX2_isLetter wsX2_isLetter) := goodIn_app (goodIn_of _ (by decide +kernel)) ggX2_skipLetters_X2_isLetter
theorem dX2_skipLetters_0 : decode cX2_skipLetters 0 = .ok (.aload_n 0, 1) := by decide +kernel
theorem dX2_skipLetters_1 : decode cX2_skipLetters 1 = .ok (.getfield 36, 3) := by decide +kernel
theorem dX2_skipLetters_4 : decode cX2_skipLetters 4 = .ok (.aload_n 0, 1) := by decide +kernel
theorem dX2_skipLetters_5 : decode cX2_skipLetters 5 = .ok (.getfield 23, 3) := by decide +kernel
theorem dX2_skipLetters_8 : decode cX2_skipLetters 8 = .ok (.if_icmp .ge 30, 3) := by decide +kernel
theorem dX2_skipLetters_11 : decode cX2_skipLetters 11 = .ok (.aload_n 0, 1) := by decide +kernel
theorem dX2_skipLetters_12 : decode cX2_skipLetters 12 = .ok (.aload_n 0, 1) := by decide +kernel
theorem dX2_skipLetters_13 : decode cX2_skipLetters 13 = .ok (.getfield 36, 3) := by decide +kernel
theorem dX2_skipLetters_16 : decode cX2_skipLetters 16 = .ok (.invokevirtual 64, 3) := by decide +kernel
theorem dX2_skipLetters_19 : decode cX2_skipLetters 19 = .ok (.invokestatic 76, 3) := by decide +kernel
theorem dX2_skipLetters_22 : decode cX2_skipLetters 22 = .ok (.ifCond .eq 16, 3) := by decide +kernel
theorem dX2_skipLetters_25 : decode cX2_skipLetters 25 = .ok (.aload_n 0, 1) := by decide +kernel
theorem dX2_skipLetters_26 : decode cX2_skipLetters 26 = .ok (.dup, 1) := by decide +kernel
theorem dX2_skipLetters_27 : decode cX2_skipLetters 27 = .ok (.getfield 36, 3) := by decide +kernel
theorem dX2_skipLetters_30 : decode cX2_skipLetters 30 = .ok (.iconst 1, 1) := by decide +kernel
theorem dX2_skipLetters_31 : decode cX2_skipLetters 31 = .ok (.iadd, 1) := by decide +kernel
theorem dX2_skipLetters_32 : decode cX2_skipLetters 32 = .ok (.putfield 36, 3) := by decide +kernel
theorem dX2_skipLetters_35 : decode cX2_skipLetters 35 = .ok (.goto (-35), 3) := by decide +kernel
theorem dX2_skipLetters_38 : decode cX2_skipLetters 38 = .ok (.return_, 1) := by decide +kernel
set_option maxRecDepth 20000 in
theorem ggX2_commandSpelled_X2_isSpelled : GoodIn wsX2_commandSpelled wsX2_isSpelled := goodIn_r _ [5, 6, 7, 8, 9, 10, 11, 12, 13, 14, 15, 16, 17, 18, 19, 20, 21, 22, 23, 24, 25, 26, 27, 28, 29, 30, 31, 32, 33, 34, 35, 36, 37, 38, 39, 40, 41, 42, 43, 44, 45, 46, 47, 48, 49, 50, 51, 52, 53, 54, 55, 56, 57, 4, 58, 59, 60, 61, 62, 63, 64, 65, 66] (by decide +kernel) (by decide +kernel)
set_option maxRecDepth 20000 in
theorem gX2_commandSpelled_X2_isSpelled : GoodIn wsX2_commandSpelled (wsV RX2 87 RX2 yX2_isSpelled wsX2_isSpelled) := goodIn_app (goodIn_of _ (by decide +kernel)) ggX2_commandSpelled_X2_isSpelled
theorem dX2_commandSpelled_0 : decode cX2_commandSpelled 0 = .ok (.getstatic 79, 3) := by decide +kernel
theorem dX2_commandSpelled_3 : decode cX2_commandSpelled 3 = .ok (.astore_n 3, 1) := by decide +kernel
theorem dX2_commandSpelled_4 : decode cX2_commandSpelled 4 = .ok (.aload_n 3, 1) := by decide +kernel
theorem dX2_commandSpelled_5 : decode cX2_commandSpelled 5 = .ok (.arraylength, 1) := by decide +kernel
theorem dX2_commandSpelled_6 : decode cX2_commandSpelled 6 = .ok (.istore 4, 2) := by decide +kernel
theorem dX2_commandSpelled_8 : decode cX2_commandSpelled 8 = .ok (.iconst 0, 1) := by decide +kernel
theorem dX2_commandSpelled_9 : decode cX2_commandSpelled 9 = .ok (.istore 5, 2) := by decide +kernel
theorem dX2_commandSpelled_11 : decode cX2_commandSpelled 11 = .ok (.iload 5, 2) := by decide +kernel
theorem dX2_commandSpelled_13 : decode cX2_commandSpelled 13 = .ok (.iload 4, 2) := by decide +kernel
theorem dX2_commandSpelled_15 : decode cX2_commandSpelled 15 = .ok (.if_icmp .ge 37, 3) := by decide +kernel
theorem dX2_commandSpelled_18 : decode cX2_commandSpelled 18 = .ok (.aload_n 3, 1) := by decide +kernel
theorem dX2_commandSpelled_19 : decode cX2_commandSpelled 19 = .ok (.iload 5, 2) := by decide +kernel
theorem dX2_commandSpelled_21 : decode cX2_commandSpelled 21 = .ok (.aaload, 1) := by decide +kernel
theorem dX2_commandSpelled_22 : decode cX2_commandSpelled 22 = .ok (.astore 6, 2) := by decide +kernel
theorem dX2_commandSpelled_24 : decode cX2_commandSpelled 24 = .ok (.aload 6, 2) := by decide +kernel
theorem dX2_commandSpelled_26 : decode cX2_commandSpelled 26 = .ok (.ifnull 20, 3) := by decide +kernel
theorem dX2_commandSpelled_29 : decode cX2_commandSpelled 29 = .ok (.aload_n 0, 1) := by decide +kernel
theorem dX2_commandSpelled_30 : decode cX2_commandSpelled 30 = .ok (.aload 6, 2) := by decide +kernel
theorem dX2_commandSpelled_32 : decode cX2_commandSpelled 32 = .ok (.getfield 83, 3) := by decide +kernel
theorem dX2_commandSpelled_35 : decode cX2_commandSpelled 35 = .ok (.iload_n 1, 1) := by decide +kernel
theorem dX2_commandSpelled_36 : decode cX2_commandSpelled 36 = .ok (.iload_n 2, 1) := by decide +kernel
theorem dX2_commandSpelled_37 : decode cX2_commandSpelled 37 = .ok (.invokevirtual 87, 3) := by decide +kernel
theorem dX2_commandSpelled_40 : decode cX2_commandSpelled 40 = .ok (.ifCond .eq 6, 3) := by decide +kernel
theorem dX2_commandSpelled_43 : decode cX2_commandSpelled 43 = .ok (.aload 6, 2) := by decide +kernel
theorem dX2_commandSpelled_45 : decode cX2_commandSpelled 45 = .ok (.areturn, 1) := by decide +kernel
theorem dX2_commandSpelled_46 : decode cX2_commandSpelled 46 = .ok (.iinc 5 1, 3) := by decide +kernel
theorem dX2_commandSpelled_49 : decode cX2_commandSpelled 49 = .ok (.goto (-38), 3) := by decide +kernel
theorem dX2_commandSpelled_52 : decode cX2_commandSpelled 52 = .ok (.aconst_null, 1) := by decide +kernel
theorem dX2_commandSpelled_53 : decode cX2_commandSpelled 53 = .ok (.areturn, 1) := by decide +kernel
set_option maxRecDepth 20000 in
theorem ggX2_isSpelled_J0_length_8abf5 : GoodIn wsX2_isSpelled wsJ0_length_8abf5 := goodIn_r _ [5, 6, 7, 8, 9, 4, 10, 11, 12] (by decide +kernel) (by decide +kernel)
set_option maxRecDepth 20000 in
theorem gX2_isSpelled_J0_length_8abf5 : GoodIn wsX2_isSpelled (wsV RX2 91 RJ0 yJ0_length_8abf5 wsJ0_length_8abf5) := goodIn_app (goodIn_of _ (by decide +kernel)) ggX2_isSpelled_J0_length_8abf5
set_option maxRecDepth 20000 in
theorem ggX2_isSpelled_J0_charAt_5068e : GoodIn wsX2_isSpelled wsJ0_charAt_5068e := goodIn_r _ [16, 6, 17, 18, 19, 4, 20, 11, 12, 21, 22, 23, 24, 25, 26, 27, 28, 29, 30, 31, 32, 33, 34, 35, 36, 37, 38, 39, 40, 41, 42, 43, 44, 45, 46, 47, 48, 49] (by decide +kernel) (by decide +kernel)
set_option maxRecDepth 20000 in
theorem gX2_isSpelled_J0_charAt_5068e : GoodIn wsX2_isSpelled (wsV RX2 95 RJ0 yJ0_charAt_5068e wsJ0_charAt_5068e) := goodIn_app (goodIn_of _ (by decide +kernel)) ggX2_isSpelled_J0_charAt_5068e
set_option maxRecDepth 20000 in
theorem ggX2_isSpelled_X2_byteAt : GoodIn wsX2_isSpelled wsX2_byteAt := goodIn_r _ [54, 55, 56, 57, 58, 59, 60, 61, 62] (by decide +kernel) (by decide +kernel)
set_option maxRecDepth 20000 in
theorem gX2_isSpelled_X2_byteAt : GoodIn wsX2_isSpelled (wsV RX2 64 RX2 yX2_byteAt wsX2_byteAt) := goodIn_app (goodIn_of _ (by decide +kernel)) ggX2_isSpelled_X2_byteAt
theorem dX2_isSpelled_0 : decode cX2_isSpelled 0 = .ok (.aload_n 1, 1) := by decide +kernel
theorem dX2_isSpelled_1 : decode cX2_isSpelled 1 = .ok (.ifnull 13, 3) := by decide +kernel
theorem dX2_isSpelled_4 : decode cX2_isSpelled 4 = .ok (.iload_n 3, 1) := by decide +kernel
theorem dX2_isSpelled_5 : decode cX2_isSpelled 5 = .ok (.iload_n 2, 1) := by decide +kernel
theorem dX2_isSpelled_6 : decode cX2_isSpelled 6 = .ok (.isub, 1) := by decide +kernel
theorem dX2_isSpelled_7 : decode cX2_isSpelled 7 = .ok (.aload_n 1, 1) := by decide +kernel
theorem dX2_isSpelled_8 : decode cX2_isSpelled 8 = .ok (.invokevirtual 91, 3) := by decide +kernel
theorem dX2_isSpelled_11 : decode cX2_isSpelled 11 = .ok (.if_icmp .eq 5, 3) := by decide +kernel
theorem dX2_isSpelled_14 : decode cX2_isSpelled 14 = .ok (.iconst 0, 1) := by decide +kernel
theorem dX2_isSpelled_15 : decode cX2_isSpelled 15 = .ok (.ireturn, 1) := by decide +kernel
theorem dX2_isSpelled_16 : decode cX2_isSpelled 16 = .ok (.iconst 0, 1) := by decide +kernel
theorem dX2_isSpelled_17 : decode cX2_isSpelled 17 = .ok (.istore 4, 2) := by decide +kernel
theorem dX2_isSpelled_19 : decode cX2_isSpelled 19 = .ok (.iload 4, 2) := by decide +kernel
theorem dX2_isSpelled_21 : decode cX2_isSpelled 21 = .ok (.aload_n 1, 1) := by decide +kernel
theorem dX2_isSpelled_22 : decode cX2_isSpelled 22 = .ok (.invokevirtual 91, 3) := by decide +kernel
theorem dX2_isSpelled_25 : decode cX2_isSpelled 25 = .ok (.if_icmp .ge 28, 3) := by decide +kernel
theorem dX2_isSpelled_28 : decode cX2_isSpelled 28 = .ok (.aload_n 1, 1) := by decide +kernel
theorem dX2_isSpelled_29 : decode cX2_isSpelled 29 = .ok (.iload 4, 2) := by decide +kernel
theorem dX2_isSpelled_31 : decode cX2_isSpelled 31 = .ok (.invokevirtual 95, 3) := by decide +kernel
theorem dX2_isSpelled_34 : decode cX2_isSpelled 34 = .ok (.aload_n 0, 1) := by decide +kernel
theorem dX2_isSpelled_35 : decode cX2_isSpelled 35 = .ok (.iload_n 2, 1) := by decide +kernel
theorem dX2_isSpelled_36 : decode cX2_isSpelled 36 = .ok (.iload 4, 2) := by decide +kernel
theorem dX2_isSpelled_38 : decode cX2_isSpelled 38 = .ok (.iadd, 1) := by decide +kernel
theorem dX2_isSpelled_39 : decode cX2_isSpelled 39 = .ok (.invokevirtual 64, 3) := by decide +kernel
theorem dX2_isSpelled_42 : decode cX2_isSpelled 42 = .ok (.if_icmp .eq 5, 3) := by decide +kernel
theorem dX2_isSpelled_45 : decode cX2_isSpelled 45 = .ok (.iconst 0, 1) := by decide +kernel
theorem dX2_isSpelled_46 : decode cX2_isSpelled 46 = .ok (.ireturn, 1) := by decide +kernel
theorem dX2_isSpelled_47 : decode cX2_isSpelled 47 = .ok (.iinc 4 1, 3) := by decide +kernel
theorem dX2_isSpelled_50 : decode cX2_isSpelled 50 = .ok (.goto (-31), 3) := by decide +kernel
theorem dX2_isSpelled_53 : decode cX2_isSpelled 53 = .ok (.iconst 1, 1) := by decide +kernel
theorem dX2_isSpelled_54 : decode cX2_isSpelled 54 = .ok (.ireturn, 1) := by decide +kernel
theorem dX2_isLetter_0 : decode cX2_isLetter 0 = .ok (.iload_n 0, 1) := by decide +kernel
theorem dX2_isLetter_1 : decode cX2_isLetter 1 = .ok (.bipush 97, 2) := by decide +kernel
theorem dX2_isLetter_3 : decode cX2_isLetter 3 = .ok (.if_icmp .lt 13, 3) := by decide +kernel
theorem dX2_isLetter_6 : decode cX2_isLetter 6 = .ok (.iload_n 0, 1) := by decide +kernel
theorem dX2_isLetter_7 : decode cX2_isLetter 7 = .ok (.bipush 122, 2) := by decide +kernel
theorem dX2_isLetter_9 : decode cX2_isLetter 9 = .ok (.if_icmp .gt 7, 3) := by decide +kernel
theorem dX2_isLetter_12 : decode cX2_isLetter 12 = .ok (.iconst 1, 1) := by decide +kernel
theorem dX2_isLetter_13 : decode cX2_isLetter 13 = .ok (.goto 4, 3) := by decide +kernel
theorem dX2_isLetter_16 : decode cX2_isLetter 16 = .ok (.iconst 0, 1) := by decide +kernel
theorem dX2_isLetter_17 : decode cX2_isLetter 17 = .ok (.ireturn, 1) := by decide +kernel
theorem dX2_isDigit_0 : decode cX2_isDigit 0 = .ok (.iload_n 0, 1) := by decide +kernel
theorem dX2_isDigit_1 : decode cX2_isDigit 1 = .ok (.bipush 48, 2) := by decide +kernel
theorem dX2_isDigit_3 : decode cX2_isDigit 3 = .ok (.if_icmp .lt 13, 3) := by decide +kernel
theorem dX2_isDigit_6 : decode cX2_isDigit 6 = .ok (.iload_n 0, 1) := by decide +kernel
theorem dX2_isDigit_7 : decode cX2_isDigit 7 = .ok (.bipush 57, 2) := by decide +kernel
theorem dX2_isDigit_9 : decode cX2_isDigit 9 = .ok (.if_icmp .gt 7, 3) := by decide +kernel
theorem dX2_isDigit_12 : decode cX2_isDigit 12 = .ok (.iconst 1, 1) := by decide +kernel
theorem dX2_isDigit_13 : decode cX2_isDigit 13 = .ok (.goto 4, 3) := by decide +kernel
theorem dX2_isDigit_16 : decode cX2_isDigit 16 = .ok (.iconst 0, 1) := by decide +kernel
theorem dX2_isDigit_17 : decode cX2_isDigit 17 = .ok (.ireturn, 1) := by decide +kernel
set_option maxRecDepth 20000 in
theorem ggX3_init_X4_init : GoodIn wsX3_init wsX4_init := goodIn_r _ [9, 10, 2, 3, 11, 12, 13, 14, 15, 16, 17, 18, 19, 20, 21, 24, 25, 26, 27, 28, 29, 30, 31, 32, 33, 34, 35, 36, 37, 38] (by decide +kernel) (by decide +kernel)
set_option maxRecDepth 20000 in
theorem gX3_init_X4_init_n17 : GoodIn wsX3_init (wsX4_init) := ggX3_init_X4_init
theorem dX3_init_0 : decode cX3_init 0 = .ok (.aload_n 0, 1) := by decide +kernel
theorem dX3_init_1 : decode cX3_init 1 = .ok (.invokespecial 3, 3) := by decide +kernel
theorem dX3_init_4 : decode cX3_init 4 = .ok (.aload_n 0, 1) := by decide +kernel
theorem dX3_init_5 : decode cX3_init 5 = .ok (.iconst 4, 1) := by decide +kernel
theorem dX3_init_6 : decode cX3_init 6 = .ok (.anewarray 9, 3) := by decide +kernel
theorem dX3_init_9 : decode cX3_init 9 = .ok (.putfield 11, 3) := by decide +kernel
theorem dX3_init_12 : decode cX3_init 12 = .ok (.iconst 0, 1) := by decide +kernel
theorem dX3_init_13 : decode cX3_init 13 = .ok (.istore_n 1, 1) := by decide +kernel
theorem dX3_init_14 : decode cX3_init 14 = .ok (.iload_n 1, 1) := by decide +kernel
theorem dX3_init_15 : decode cX3_init 15 = .ok (.aload_n 0, 1) := by decide +kernel
theorem dX3_init_16 : decode cX3_init 16 = .ok (.getfield 11, 3) := by decide +kernel
theorem dX3_init_19 : decode cX3_init 19 = .ok (.arraylength, 1) := by decide +kernel
theorem dX3_init_20 : decode cX3_init 20 = .ok (.if_icmp .ge 22, 3) := by decide +kernel
theorem dX3_init_23 : decode cX3_init 23 = .ok (.aload_n 0, 1) := by decide +kernel
theorem dX3_init_24 : decode cX3_init 24 = .ok (.getfield 11, 3) := by decide +kernel
theorem dX3_init_27 : decode cX3_init 27 = .ok (.iload_n 1, 1) := by decide +kernel
theorem dX3_init_28 : decode cX3_init 28 = .ok (.new 9, 3) := by decide +kernel
theorem dX3_init_31 : decode cX3_init 31 = .ok (.dup, 1) := by decide +kernel
theorem dX3_init_32 : decode cX3_init 32 = .ok (.invokespecial 17, 3) := by decide +kernel
theorem dX3_init_35 : decode cX3_init 35 = .ok (.aastore, 1) := by decide +kernel
theorem dX3_init_36 : decode cX3_init 36 = .ok (.iinc 1 1, 3) := by decide +kernel
theorem dX3_init_39 : decode cX3_init 39 = .ok (.goto (-25), 3) := by decide +kernel
theorem dX3_init_42 : decode cX3_init 42 = .ok (.return_, 1) := by decide +kernel
set_option maxRecDepth 20000 in
theorem ggX3_push_X3_dropOldest : GoodIn wsX3_push wsX3_dropOldest := goodIn_r _ [7, 2, 1, 35, 36] (by decide +kernel) (by decide +kernel)
set_option maxRecDepth 20000 in
theorem gX3_push_X3_dropOldest : GoodIn wsX3_push (wsV RX3 22 RX3 yX3_dropOldest wsX3_dropOldest) := goodIn_app (goodIn_of _ (by decide +kernel)) ggX3_push_X3_dropOldest
set_option maxRecDepth 20000 in
theorem ggX3_push_X4_copyFrom : GoodIn wsX3_push wsX4_copyFrom := goodIn_r _ [11, 12, 13, 14, 15, 16, 17, 18, 19, 20, 9, 21, 22, 23, 24, 25, 26, 27, 28, 29, 30, 31, 32, 33, 34, 37, 38, 39, 40, 41, 42, 43, 44, 45, 46, 47, 48, 49, 50, 51] (by decide +kernel) (by decide +kernel)
set_option maxRecDepth 20000 in
theorem gX3_push_X4_copyFrom_n25 : GoodIn wsX3_push (wsX4_copyFrom) := ggX3_push_X4_copyFrom
theorem dX3_push_0 : decode cX3_push 0 = .ok (.aload_n 0, 1) := by decide +kernel
theorem dX3_push_1 : decode cX3_push 1 = .ok (.getfield 18, 3) := by decide +kernel
theorem dX3_push_4 : decode cX3_push 4 = .ok (.aload_n 0, 1) := by decide +kernel
theorem dX3_push_5 : decode cX3_push 5 = .ok (.getfield 11, 3) := by decide +kernel
theorem dX3_push_8 : decode cX3_push 8 = .ok (.arraylength, 1) := by decide +kernel
theorem dX3_push_9 : decode cX3_push 9 = .ok (.if_icmp .lt 7, 3) := by decide +kernel
theorem dX3_push_12 : decode cX3_push 12 = .ok (.aload_n 0, 1) := by decide +kernel
theorem dX3_push_13 : decode cX3_push 13 = .ok (.invokevirtual 22, 3) := by decide +kernel
theorem dX3_push_16 : decode cX3_push 16 = .ok (.aload_n 0, 1) := by decide +kernel
theorem dX3_push_17 : decode cX3_push 17 = .ok (.getfield 18, 3) := by decide +kernel
theorem dX3_push_20 : decode cX3_push 20 = .ok (.ifCond .lt 15, 3) := by decide +kernel
theorem dX3_push_23 : decode cX3_push 23 = .ok (.aload_n 0, 1) := by decide +kernel
theorem dX3_push_24 : decode cX3_push 24 = .ok (.getfield 18, 3) := by decide +kernel
theorem dX3_push_27 : decode cX3_push 27 = .ok (.aload_n 0, 1) := by decide +kernel
theorem dX3_push_28 : decode cX3_push 28 = .ok (.getfield 11, 3) := by decide +kernel
theorem dX3_push_31 : decode cX3_push 31 = .ok (.arraylength, 1) := by decide +kernel
theorem dX3_push_32 : decode cX3_push 32 = .ok (.if_icmp .lt 4, 3) := by decide +kernel
theorem dX3_push_35 : decode cX3_push 35 = .ok (.return_, 1) := by decide +kernel
theorem dX3_push_36 : decode cX3_push 36 = .ok (.aload_n 0, 1) := by decide +kernel
theorem dX3_push_37 : decode cX3_push 37 = .ok (.getfield 11, 3) := by decide +kernel
theorem dX3_push_40 : decode cX3_push 40 = .ok (.aload_n 0, 1) := by decide +kernel
theorem dX3_push_41 : decode cX3_push 41 = .ok (.getfield 18, 3) := by decide +kernel
theorem dX3_push_44 : decode cX3_push 44 = .ok (.aaload, 1) := by decide +kernel
theorem dX3_push_45 : decode cX3_push 45 = .ok (.astore_n 2, 1) := by decide +kernel
theorem dX3_push_46 : decode cX3_push 46 = .ok (.aload_n 2, 1) := by decide +kernel
theorem dX3_push_47 : decode cX3_push 47 = .ok (.ifnull 18, 3) := by decide +kernel
theorem dX3_push_50 : decode cX3_push 50 = .ok (.aload_n 2, 1) := by decide +kernel
theorem dX3_push_51 : decode cX3_push 51 = .ok (.aload_n 1, 1) := by decide +kernel
theorem dX3_push_52 : decode cX3_push 52 = .ok (.invokevirtual 25, 3) := by decide +kernel
theorem dX3_push_55 : decode cX3_push 55 = .ok (.aload_n 0, 1) := by decide +kernel
theorem dX3_push_56 : decode cX3_push 56 = .ok (.dup, 1) := by decide +kernel
theorem dX3_push_57 : decode cX3_push 57 = .ok (.getfield 18, 3) := by decide +kernel
theorem dX3_push_60 : decode cX3_push 60 = .ok (.iconst 1, 1) := by decide +kernel
theorem dX3_push_61 : decode cX3_push 61 = .ok (.iadd, 1) := by decide +kernel
theorem dX3_push_62 : decode cX3_push 62 = .ok (.putfield 18, 3) := by decide +kernel
theorem dX3_push_65 : decode cX3_push 65 = .ok (.return_, 1) := by decide +kernel
theorem dX3_dropOldest_0 : decode cX3_dropOldest 0 = .ok (.aload_n 0, 1) := by decide +kernel
theorem dX3_dropOldest_1 : decode cX3_dropOldest 1 = .ok (.getfield 11, 3) := by decide +kernel
theorem dX3_dropOldest_4 : decode cX3_dropOldest 4 = .ok (.iconst 0, 1) := by decide +kernel
theorem dX3_dropOldest_5 : decode cX3_dropOldest 5 = .ok (.aaload, 1) := by decide +kernel
theorem dX3_dropOldest_6 : decode cX3_dropOldest 6 = .ok (.astore_n 1, 1) := by decide +kernel
theorem dX3_dropOldest_7 : decode cX3_dropOldest 7 = .ok (.iconst 1, 1) := by decide +kernel
theorem dX3_dropOldest_8 : decode cX3_dropOldest 8 = .ok (.istore_n 2, 1) := by decide +kernel
theorem dX3_dropOldest_9 : decode cX3_dropOldest 9 = .ok (.iload_n 2, 1) := by decide +kernel
theorem dX3_dropOldest_10 : decode cX3_dropOldest 10 = .ok (.aload_n 0, 1) := by decide +kernel
theorem dX3_dropOldest_11 : decode cX3_dropOldest 11 = .ok (.getfield 11, 3) := by decide +kernel
theorem dX3_dropOldest_14 : decode cX3_dropOldest 14 = .ok (.arraylength, 1) := by decide +kernel
theorem dX3_dropOldest_15 : decode cX3_dropOldest 15 = .ok (.if_icmp .ge 23, 3) := by decide +kernel
theorem dX3_dropOldest_18 : decode cX3_dropOldest 18 = .ok (.aload_n 0, 1) := by decide +kernel
theorem dX3_dropOldest_19 : decode cX3_dropOldest 19 = .ok (.getfield 11, 3) := by decide +kernel
theorem dX3_dropOldest_22 : decode cX3_dropOldest 22 = .ok (.iload_n 2, 1) := by decide +kernel
theorem dX3_dropOldest_23 : decode cX3_dropOldest 23 = .ok (.iconst 1, 1) := by decide +kernel
theorem dX3_dropOldest_24 : decode cX3_dropOldest 24 = .ok (.isub, 1) := by decide +kernel
theorem dX3_dropOldest_25 : decode cX3_dropOldest 25 = .ok (.aload_n 0, 1) := by decide +kernel
theorem dX3_dropOldest_26 : decode cX3_dropOldest 26 = .ok (.getfield 11, 3) := by decide +kernel
theorem dX3_dropOldest_29 : decode cX3_dropOldest 29 = .ok (.iload_n 2, 1) := by decide +kernel
theorem dX3_dropOldest_30 : decode cX3_dropOldest 30 = .ok (.aaload, 1) := by decide +kernel
theorem dX3_dropOldest_31 : decode cX3_dropOldest 31 = .ok (.aastore, 1) := by decide +kernel
theorem dX3_dropOldest_32 : decode cX3_dropOldest 32 = .ok (.iinc 2 1, 3) := by decide +kernel
theorem dX3_dropOldest_35 : decode cX3_dropOldest 35 = .ok (.goto (-26), 3) := by decide +kernel
theorem dX3_dropOldest_38 : decode cX3_dropOldest 38 = .ok (.aload_n 0, 1) := by decide +kernel
theorem dX3_dropOldest_39 : decode cX3_dropOldest 39 = .ok (.getfield 11, 3) := by decide +kernel
theorem dX3_dropOldest_42 : decode cX3_dropOldest 42 = .ok (.aload_n 0, 1) := by decide +kernel
theorem dX3_dropOldest_43 : decode cX3_dropOldest 43 = .ok (.getfield 11, 3) := by decide +kernel
theorem dX3_dropOldest_46 : decode cX3_dropOldest 46 = .ok (.arraylength, 1) := by decide +kernel
theorem dX3_dropOldest_47 : decode cX3_dropOldest 47 = .ok (.iconst 1, 1) := by decide +kernel
theorem dX3_dropOldest_48 : decode cX3_dropOldest 48 = .ok (.isub, 1) := by decide +kernel
theorem dX3_dropOldest_49 : decode cX3_dropOldest 49 = .ok (.aload_n 1, 1) := by decide +kernel
theorem dX3_dropOldest_50 : decode cX3_dropOldest 50 = .ok (.aastore, 1) := by decide +kernel
theorem dX3_dropOldest_51 : decode cX3_dropOldest 51 = .ok (.aload_n 0, 1) := by decide +kernel
theorem dX3_dropOldest_52 : decode cX3_dropOldest 52 = .ok (.aload_n 0, 1) := by decide +kernel
theorem dX3_dropOldest_53 : decode cX3_dropOldest 53 = .ok (.getfield 11, 3) := by decide +kernel
theorem dX3_dropOldest_56 : decode cX3_dropOldest 56 = .ok (.arraylength, 1) := by decide +kernel
theorem dX3_dropOldest_57 : decode cX3_dropOldest 57 = .ok (.iconst 1, 1) := by decide +kernel
theorem dX3_dropOldest_58 : decode cX3_dropOldest 58 = .ok (.isub, 1) := by decide +kernel
theorem dX3_dropOldest_59 : decode cX3_dropOldest 59 = .ok (.putfield 18, 3) := by decide +kernel
theorem dX3_dropOldest_62 : decode cX3_dropOldest 62 = .ok (.return_, 1) := by decide +kernel
set_option maxRecDepth 20000 in
theorem ggX3_popInto_X4_copyFrom : GoodIn wsX3_popInto wsX4_copyFrom := goodIn_r _ [6, 7, 8, 9, 10, 11, 12, 13, 14, 15, 4, 16, 17, 18, 19, 20, 21, 22, 23, 24, 25, 26, 27, 28, 29, 32, 33, 34, 35, 36, 37, 38, 39, 40, 41, 42, 43, 44, 45, 46] (by decide +kernel) (by decide +kernel)
set_option maxRecDepth 20000 in
theorem gX3_popInto_X4_copyFrom_n25 : GoodIn wsX3_popInto (wsX4_copyFrom) := ggX3_popInto_X4_copyFrom
theorem dX3_popInto_0 : decode cX3_popInto 0 = .ok (.aload_n 0, 1) := by decide +kernel
theorem dX3_popInto_1 : decode cX3_popInto 1 = .ok (.getfield 18, 3) := by decide +kernel
theorem dX3_popInto_4 : decode cX3_popInto 4 = .ok (.ifCond .le 15, 3) := by decide +kernel
theorem dX3_popInto_7 : decode cX3_popInto 7 = .ok (.aload_n 0, 1) := by decide +kernel
theorem dX3_popInto_8 : decode cX3_popInto 8 = .ok (.getfield 18, 3) := by decide +kernel
theorem dX3_popInto_11 : decode cX3_popInto 11 = .ok (.aload_n 0, 1) := by decide +kernel
theorem dX3_popInto_12 : decode cX3_popInto 12 = .ok (.getfield 11, 3) := by decide +kernel
theorem dX3_popInto_15 : decode cX3_popInto 15 = .ok (.arraylength, 1) := by decide +kernel
theorem dX3_popInto_16 : decode cX3_popInto 16 = .ok (.if_icmp .le 4, 3) := by decide +kernel
theorem dX3_popInto_19 : decode cX3_popInto 19 = .ok (.return_, 1) := by decide +kernel
theorem dX3_popInto_20 : decode cX3_popInto 20 = .ok (.aload_n 0, 1) := by decide +kernel
theorem dX3_popInto_21 : decode cX3_popInto 21 = .ok (.dup, 1) := by decide +kernel
theorem dX3_popInto_22 : decode cX3_popInto 22 = .ok (.getfield 18, 3) := by decide +kernel
theorem dX3_popInto_25 : decode cX3_popInto 25 = .ok (.iconst 1, 1) := by decide +kernel
theorem dX3_popInto_26 : decode cX3_popInto 26 = .ok (.isub, 1) := by decide +kernel
theorem dX3_popInto_27 : decode cX3_popInto 27 = .ok (.putfield 18, 3) := by decide +kernel
theorem dX3_popInto_30 : decode cX3_popInto 30 = .ok (.aload_n 0, 1) := by decide +kernel
theorem dX3_popInto_31 : decode cX3_popInto 31 = .ok (.getfield 11, 3) := by decide +kernel
theorem dX3_popInto_34 : decode cX3_popInto 34 = .ok (.aload_n 0, 1) := by decide +kernel
theorem dX3_popInto_35 : decode cX3_popInto 35 = .ok (.getfield 18, 3) := by decide +kernel
theorem dX3_popInto_38 : decode cX3_popInto 38 = .ok (.aaload, 1) := by decide +kernel
theorem dX3_popInto_39 : decode cX3_popInto 39 = .ok (.astore_n 2, 1) := by decide +kernel
theorem dX3_popInto_40 : decode cX3_popInto 40 = .ok (.aload_n 2, 1) := by decide +kernel
theorem dX3_popInto_41 : decode cX3_popInto 41 = .ok (.ifnull 8, 3) := by decide +kernel
theorem dX3_popInto_44 : decode cX3_popInto 44 = .ok (.aload_n 1, 1) := by decide +kernel
theorem dX3_popInto_45 : decode cX3_popInto 45 = .ok (.aload_n 2, 1) := by decide +kernel
theorem dX3_popInto_46 : decode cX3_popInto 46 = .ok (.invokevirtual 25, 3) := by decide +kernel
theorem dX3_popInto_49 : decode cX3_popInto 49 = .ok (.return_, 1) := by decide +kernel
set_option maxRecDepth 20000 in
theorem ggX4_init_X5_init : GoodIn wsX4_init wsX5_init := goodIn_r _ [11, 12, 2, 3, 13, 14, 23, 24, 25, 26, 27, 28, 29] (by decide +kernel) (by decide +kernel)
set_option maxRecDepth 20000 in
theorem gX4_init_X5_init_n17 : GoodIn wsX4_init (wsX5_init) := ggX4_init_X5_init
theorem dX4_init_0 : decode cX4_init 0 = .ok (.aload_n 0, 1) := by decide +kernel
theorem dX4_init_1 : decode cX4_init 1 = .ok (.invokespecial 3, 3) := by decide +kernel
theorem dX4_init_4 : decode cX4_init 4 = .ok (.aload_n 0, 1) := by decide +kernel
theorem dX4_init_5 : decode cX4_init 5 = .ok (.bipush 10, 2) := by decide +kernel
theorem dX4_init_7 : decode cX4_init 7 = .ok (.anewarray 9, 3) := by decide +kernel
theorem dX4_init_10 : decode cX4_init 10 = .ok (.putfield 11, 3) := by decide +kernel
theorem dX4_init_13 : decode cX4_init 13 = .ok (.aload_n 0, 1) := by decide +kernel
theorem dX4_init_14 : decode cX4_init 14 = .ok (.new 9, 3) := by decide +kernel
theorem dX4_init_17 : decode cX4_init 17 = .ok (.dup, 1) := by decide +kernel
theorem dX4_init_18 : decode cX4_init 18 = .ok (.invokespecial 17, 3) := by decide +kernel
theorem dX4_init_21 : decode cX4_init 21 = .ok (.putfield 18, 3) := by decide +kernel
theorem dX4_init_24 : decode cX4_init 24 = .ok (.aload_n 0, 1) := by decide +kernel
theorem dX4_init_25 : decode cX4_init 25 = .ok (.bipush 50, 2) := by decide +kernel
theorem dX4_init_27 : decode cX4_init 27 = .ok (.putfield 22, 3) := by decide +kernel
theorem dX4_init_30 : decode cX4_init 30 = .ok (.iconst 0, 1) := by decide +kernel
theorem dX4_init_31 : decode cX4_init 31 = .ok (.istore_n 1, 1) := by decide +kernel
theorem dX4_init_32 : decode cX4_init 32 = .ok (.iload_n 1, 1) := by decide +kernel
theorem dX4_init_33 : decode cX4_init 33 = .ok (.aload_n 0, 1) := by decide +kernel
theorem dX4_init_34 : decode cX4_init 34 = .ok (.getfield 11, 3) := by decide +kernel
theorem dX4_init_37 : decode cX4_init 37 = .ok (.arraylength, 1) := by decide +kernel
theorem dX4_init_38 : decode cX4_init 38 = .ok (.if_icmp .ge 22, 3) := by decide +kernel
theorem dX4_init_41 : decode cX4_init 41 = .ok (.aload_n 0, 1) := by decide +kernel
theorem dX4_init_42 : decode cX4_init 42 = .ok (.getfield 11, 3) := by decide +kernel
theorem dX4_init_45 : decode cX4_init 45 = .ok (.iload_n 1, 1) := by decide +kernel
theorem dX4_init_46 : decode cX4_init 46 = .ok (.new 9, 3) := by decide +kernel
theorem dX4_init_49 : decode cX4_init 49 = .ok (.dup, 1) := by decide +kernel
theorem dX4_init_50 : decode cX4_init 50 = .ok (.invokespecial 17, 3) := by decide +kernel
theorem dX4_init_53 : decode cX4_init 53 = .ok (.aastore, 1) := by decide +kernel
theorem dX4_init_54 : decode cX4_init 54 = .ok (.iinc 1 1, 3) := by decide +kernel
theorem dX4_init_57 : decode cX4_init 57 = .ok (.goto (-25), 3) := by decide +kernel
theorem dX4_init_60 : decode cX4_init 60 = .ok (.return_, 1) := by decide +kernel
set_option maxRecDepth 20000 in
theorem ggX4_copyFrom_X4_memberAt : GoodIn wsX4_copyFrom wsX4_memberAt := goodIn_r _ [11, 1, 12, 13, 25, 26, 27, 28, 29, 30, 31, 32] (by decide +kernel) (by decide +kernel)
set_option maxRecDepth 20000 in
theorem gX4_copyFrom_X4_memberAt : GoodIn wsX4_copyFrom (wsV RX4 41 RX4 yX4_memberAt wsX4_memberAt) := goodIn_app (goodIn_of _ (by decide +kernel)) ggX4_copyFrom_X4_memberAt
set_option maxRecDepth 20000 in
theorem ggX4_copyFrom_X5_copyFrom : GoodIn wsX4_copyFrom wsX5_copyFrom := goodIn_r _ [17, 18, 19, 20, 21, 22, 23, 24, 33, 34, 35, 36, 37, 38, 39] (by decide +kernel) (by decide +kernel)
set_option maxRecDepth 20000 in
theorem gX4_copyFrom_X5_copyFrom_n45 : GoodIn wsX4_copyFrom (wsX5_copyFrom) := ggX4_copyFrom_X5_copyFrom
theorem dX4_copyFrom_0 : decode cX4_copyFrom 0 = .ok (.aload_n 0, 1) := by decide +kernel
theorem dX4_copyFrom_1 : decode cX4_copyFrom 1 = .ok (.aload_n 1, 1) := by decide +kernel
theorem dX4_copyFrom_2 : decode cX4_copyFrom 2 = .ok (.getfield 26, 3) := by decide +kernel
theorem dX4_copyFrom_5 : decode cX4_copyFrom 5 = .ok (.putfield 26, 3) := by decide +kernel
theorem dX4_copyFrom_8 : decode cX4_copyFrom 8 = .ok (.aload_n 0, 1) := by decide +kernel
theorem dX4_copyFrom_9 : decode cX4_copyFrom 9 = .ok (.aload_n 1, 1) := by decide +kernel
theorem dX4_copyFrom_10 : decode cX4_copyFrom 10 = .ok (.getfield 22, 3) := by decide +kernel
theorem dX4_copyFrom_13 : decode cX4_copyFrom 13 = .ok (.putfield 22, 3) := by decide +kernel
theorem dX4_copyFrom_16 : decode cX4_copyFrom 16 = .ok (.aload_n 0, 1) := by decide +kernel
theorem dX4_copyFrom_17 : decode cX4_copyFrom 17 = .ok (.aload_n 1, 1) := by decide +kernel
theorem dX4_copyFrom_18 : decode cX4_copyFrom 18 = .ok (.getfield 29, 3) := by decide +kernel
theorem dX4_copyFrom_21 : decode cX4_copyFrom 21 = .ok (.putfield 29, 3) := by decide +kernel
theorem dX4_copyFrom_24 : decode cX4_copyFrom 24 = .ok (.aload_n 0, 1) := by decide +kernel
theorem dX4_copyFrom_25 : decode cX4_copyFrom 25 = .ok (.aload_n 1, 1) := by decide +kernel
theorem dX4_copyFrom_26 : decode cX4_copyFrom 26 = .ok (.getfield 32, 3) := by decide +kernel
theorem dX4_copyFrom_29 : decode cX4_copyFrom 29 = .ok (.putfield 32, 3) := by decide +kernel
theorem dX4_copyFrom_32 : decode cX4_copyFrom 32 = .ok (.aload_n 0, 1) := by decide +kernel
theorem dX4_copyFrom_33 : decode cX4_copyFrom 33 = .ok (.aload_n 1, 1) := by decide +kernel
theorem dX4_copyFrom_34 : decode cX4_copyFrom 34 = .ok (.getfield 35, 3) := by decide +kernel
theorem dX4_copyFrom_37 : decode cX4_copyFrom 37 = .ok (.putfield 35, 3) := by decide +kernel
theorem dX4_copyFrom_40 : decode cX4_copyFrom 40 = .ok (.aload_n 0, 1) := by decide +kernel
theorem dX4_copyFrom_41 : decode cX4_copyFrom 41 = .ok (.aload_n 1, 1) := by decide +kernel
theorem dX4_copyFrom_42 : decode cX4_copyFrom 42 = .ok (.getfield 38, 3) := by decide +kernel
theorem dX4_copyFrom_45 : decode cX4_copyFrom 45 = .ok (.putfield 38, 3) := by decide +kernel
theorem dX4_copyFrom_48 : decode cX4_copyFrom 48 = .ok (.iconst 0, 1) := by decide +kernel
theorem dX4_copyFrom_49 : decode cX4_copyFrom 49 = .ok (.istore_n 2, 1) := by decide +kernel
theorem dX4_copyFrom_50 : decode cX4_copyFrom 50 = .ok (.iload_n 2, 1) := by decide +kernel
theorem dX4_copyFrom_51 : decode cX4_copyFrom 51 = .ok (.aload_n 0, 1) := by decide +kernel
theorem dX4_copyFrom_52 : decode cX4_copyFrom 52 = .ok (.getfield 26, 3) := by decide +kernel
theorem dX4_copyFrom_55 : decode cX4_copyFrom 55 = .ok (.if_icmp .ge 22, 3) := by decide +kernel
theorem dX4_copyFrom_58 : decode cX4_copyFrom 58 = .ok (.aload_n 0, 1) := by decide +kernel
theorem dX4_copyFrom_59 : decode cX4_copyFrom 59 = .ok (.iload_n 2, 1) := by decide +kernel
theorem dX4_copyFrom_60 : decode cX4_copyFrom 60 = .ok (.invokevirtual 41, 3) := by decide +kernel
theorem dX4_copyFrom_63 : decode cX4_copyFrom 63 = .ok (.aload_n 1, 1) := by decide +kernel
theorem dX4_copyFrom_64 : decode cX4_copyFrom 64 = .ok (.iload_n 2, 1) := by decide +kernel
theorem dX4_copyFrom_65 : decode cX4_copyFrom 65 = .ok (.invokevirtual 41, 3) := by decide +kernel
theorem dX4_copyFrom_68 : decode cX4_copyFrom 68 = .ok (.invokevirtual 45, 3) := by decide +kernel
theorem dX4_copyFrom_71 : decode cX4_copyFrom 71 = .ok (.iinc 2 1, 3) := by decide +kernel
theorem dX4_copyFrom_74 : decode cX4_copyFrom 74 = .ok (.goto (-24), 3) := by decide +kernel
theorem dX4_copyFrom_77 : decode cX4_copyFrom 77 = .ok (.return_, 1) := by decide +kernel
theorem dX4_memberAt_0 : decode cX4_memberAt 0 = .ok (.iload_n 1, 1) := by decide +kernel
theorem dX4_memberAt_1 : decode cX4_memberAt 1 = .ok (.ifCond .lt 20, 3) := by decide +kernel
theorem dX4_memberAt_4 : decode cX4_memberAt 4 = .ok (.iload_n 1, 1) := by decide +kernel
theorem dX4_memberAt_5 : decode cX4_memberAt 5 = .ok (.aload_n 0, 1) := by decide +kernel
theorem dX4_memberAt_6 : decode cX4_memberAt 6 = .ok (.getfield 26, 3) := by decide +kernel
theorem dX4_memberAt_9 : decode cX4_memberAt 9 = .ok (.if_icmp .ge 12, 3) := by decide +kernel
theorem dX4_memberAt_12 : decode cX4_memberAt 12 = .ok (.iload_n 1, 1) := by decide +kernel
theorem dX4_memberAt_13 : decode cX4_memberAt 13 = .ok (.aload_n 0, 1) := by decide +kernel
theorem dX4_memberAt_14 : decode cX4_memberAt 14 = .ok (.getfield 11, 3) := by decide +kernel
theorem dX4_memberAt_17 : decode cX4_memberAt 17 = .ok (.arraylength, 1) := by decide +kernel
theorem dX4_memberAt_18 : decode cX4_memberAt 18 = .ok (.if_icmp .lt 8, 3) := by decide +kernel
theorem dX4_memberAt_21 : decode cX4_memberAt 21 = .ok (.aload_n 0, 1) := by decide +kernel
theorem dX4_memberAt_22 : decode cX4_memberAt 22 = .ok (.getfield 18, 3) := by decide +kernel
theorem dX4_memberAt_25 : decode cX4_memberAt 25 = .ok (.areturn, 1) := by decide +kernel
theorem dX4_memberAt_26 : decode cX4_memberAt 26 = .ok (.aload_n 0, 1) := by decide +kernel
theorem dX4_memberAt_27 : decode cX4_memberAt 27 = .ok (.getfield 11, 3) := by decide +kernel
theorem dX4_memberAt_30 : decode cX4_memberAt 30 = .ok (.iload_n 1, 1) := by decide +kernel
theorem dX4_memberAt_31 : decode cX4_memberAt 31 = .ok (.aaload, 1) := by decide +kernel
theorem dX4_memberAt_32 : decode cX4_memberAt 32 = .ok (.astore_n 2, 1) := by decide +kernel
theorem dX4_memberAt_33 : decode cX4_memberAt 33 = .ok (.aload_n 2, 1) := by decide +kernel
theorem dX4_memberAt_34 : decode cX4_memberAt 34 = .ok (.ifnonnull 10, 3) := by decide +kernel
theorem dX4_memberAt_37 : decode cX4_memberAt 37 = .ok (.aload_n 0, 1) := by decide +kernel
theorem dX4_memberAt_38 : decode cX4_memberAt 38 = .ok (.getfield 18, 3) := by decide +kernel
theorem dX4_memberAt_41 : decode cX4_memberAt 41 = .ok (.goto 4, 3) := by decide +kernel
theorem dX4_memberAt_44 : decode cX4_memberAt 44 = .ok (.aload_n 2, 1) := by decide +kernel
theorem dX4_memberAt_45 : decode cX4_memberAt 45 = .ok (.areturn, 1) := by decide +kernel
set_option maxRecDepth 20000 in
theorem ggX4_placeOf_X4_memberAt : GoodIn wsX4_placeOf wsX4_memberAt := goodIn_r _ [6, 1, 7, 8, 9, 10, 11, 12, 13, 14, 15, 16] (by decide +kernel) (by decide +kernel)
set_option maxRecDepth 20000 in
theorem gX4_placeOf_X4_memberAt : GoodIn wsX4_placeOf (wsV RX4 41 RX4 yX4_memberAt wsX4_memberAt) := goodIn_app (goodIn_of _ (by decide +kernel)) ggX4_placeOf_X4_memberAt
theorem dX4_placeOf_0 : decode cX4_placeOf 0 = .ok (.iconst 0, 1) := by decide +kernel
theorem dX4_placeOf_1 : decode cX4_placeOf 1 = .ok (.istore_n 2, 1) := by decide +kernel
theorem dX4_placeOf_2 : decode cX4_placeOf 2 = .ok (.iload_n 2, 1) := by decide +kernel
theorem dX4_placeOf_3 : decode cX4_placeOf 3 = .ok (.aload_n 0, 1) := by decide +kernel
theorem dX4_placeOf_4 : decode cX4_placeOf 4 = .ok (.getfield 26, 3) := by decide +kernel
theorem dX4_placeOf_7 : decode cX4_placeOf 7 = .ok (.if_icmp .ge 23, 3) := by decide +kernel
theorem dX4_placeOf_10 : decode cX4_placeOf 10 = .ok (.aload_n 0, 1) := by decide +kernel
theorem dX4_placeOf_11 : decode cX4_placeOf 11 = .ok (.iload_n 2, 1) := by decide +kernel
theorem dX4_placeOf_12 : decode cX4_placeOf 12 = .ok (.invokevirtual 41, 3) := by decide +kernel
theorem dX4_placeOf_15 : decode cX4_placeOf 15 = .ok (.getfield 49, 3) := by decide +kernel
theorem dX4_placeOf_18 : decode cX4_placeOf 18 = .ok (.iload_n 1, 1) := by decide +kernel
theorem dX4_placeOf_19 : decode cX4_placeOf 19 = .ok (.if_icmp .ne 5, 3) := by decide +kernel
theorem dX4_placeOf_22 : decode cX4_placeOf 22 = .ok (.iload_n 2, 1) := by decide +kernel
theorem dX4_placeOf_23 : decode cX4_placeOf 23 = .ok (.ireturn, 1) := by decide +kernel
theorem dX4_placeOf_24 : decode cX4_placeOf 24 = .ok (.iinc 2 1, 3) := by decide +kernel
theorem dX4_placeOf_27 : decode cX4_placeOf 27 = .ok (.goto (-25), 3) := by decide +kernel
theorem dX4_placeOf_30 : decode cX4_placeOf 30 = .ok (.iconst (-1), 1) := by decide +kernel
theorem dX4_placeOf_31 : decode cX4_placeOf 31 = .ok (.ireturn, 1) := by decide +kernel
set_option maxRecDepth 20000 in
theorem ggX4_insert_X5_begin : GoodIn wsX4_insert wsX5_begin := goodIn_r _ [7, 8, 9, 10, 11, 12, 13, 14, 15, 5, 16, 17, 18, 33, 34, 35, 36, 37, 38, 39] (by decide +kernel) (by decide +kernel)
set_option maxRecDepth 20000 in
theorem gX4_insert_X5_begin_n52 : GoodIn wsX4_insert (wsX5_begin) := ggX4_insert_X5_begin
set_option maxRecDepth 20000 in
theorem ggX4_insert_X4_memberAt : GoodIn wsX4_insert wsX4_memberAt := goodIn_r _ [23, 1, 2, 24, 25, 26, 27, 28, 29, 30, 31, 32] (by decide +kernel) (by decide +kernel)
set_option maxRecDepth 20000 in
theorem gX4_insert_X4_memberAt : GoodIn wsX4_insert (wsV RX4 41 RX4 yX4_memberAt wsX4_memberAt) := goodIn_app (goodIn_of _ (by decide +kernel)) ggX4_insert_X4_memberAt
set_option maxRecDepth 20000 in
theorem ggX4_insert_X5_loseOneAhead : GoodIn wsX4_insert wsX5_loseOneAhead := goodIn_r _ [16, 17, 18, 33, 34, 35, 36, 37, 38, 39] (by decide +kernel) (by decide +kernel)
set_option maxRecDepth 20000 in
theorem gX4_insert_X5_loseOneAhead_n56 : GoodIn wsX4_insert (wsX5_loseOneAhead) := ggX4_insert_X5_loseOneAhead
theorem dX4_insert_0 : decode cX4_insert 0 = .ok (.aload_n 0, 1) := by decide +kernel
theorem dX4_insert_1 : decode cX4_insert 1 = .ok (.getfield 26, 3) := by decide +kernel
theorem dX4_insert_4 : decode cX4_insert 4 = .ok (.aload_n 0, 1) := by decide +kernel
theorem dX4_insert_5 : decode cX4_insert 5 = .ok (.getfield 11, 3) := by decide +kernel
theorem dX4_insert_8 : decode cX4_insert 8 = .ok (.arraylength, 1) := by decide +kernel
theorem dX4_insert_9 : decode cX4_insert 9 = .ok (.if_icmp .ge 15, 3) := by decide +kernel
theorem dX4_insert_12 : decode cX4_insert 12 = .ok (.iload_n 3, 1) := by decide +kernel
theorem dX4_insert_13 : decode cX4_insert 13 = .ok (.ifCond .lt 11, 3) := by decide +kernel
theorem dX4_insert_16 : decode cX4_insert 16 = .ok (.iload_n 3, 1) := by decide +kernel
theorem dX4_insert_17 : decode cX4_insert 17 = .ok (.aload_n 0, 1) := by decide +kernel
theorem dX4_insert_18 : decode cX4_insert 18 = .ok (.getfield 26, 3) := by decide +kernel
theorem dX4_insert_21 : decode cX4_insert 21 = .ok (.if_icmp .le 5, 3) := by decide +kernel
theorem dX4_insert_24 : decode cX4_insert 24 = .ok (.iconst (-1), 1) := by decide +kernel
theorem dX4_insert_25 : decode cX4_insert 25 = .ok (.ireturn, 1) := by decide +kernel
theorem dX4_insert_26 : decode cX4_insert 26 = .ok (.aload_n 0, 1) := by decide +kernel
theorem dX4_insert_27 : decode cX4_insert 27 = .ok (.getfield 11, 3) := by decide +kernel
theorem dX4_insert_30 : decode cX4_insert 30 = .ok (.aload_n 0, 1) := by decide +kernel
theorem dX4_insert_31 : decode cX4_insert 31 = .ok (.getfield 26, 3) := by decide +kernel
theorem dX4_insert_34 : decode cX4_insert 34 = .ok (.aaload, 1) := by decide +kernel
theorem dX4_insert_35 : decode cX4_insert 35 = .ok (.astore 4, 2) := by decide +kernel
theorem dX4_insert_37 : decode cX4_insert 37 = .ok (.aload 4, 2) := by decide +kernel
theorem dX4_insert_39 : decode cX4_insert 39 = .ok (.ifnonnull 5, 3) := by decide +kernel
theorem dX4_insert_42 : decode cX4_insert 42 = .ok (.iconst (-1), 1) := by decide +kernel
theorem dX4_insert_43 : decode cX4_insert 43 = .ok (.ireturn, 1) := by decide +kernel
theorem dX4_insert_44 : decode cX4_insert 44 = .ok (.aload_n 0, 1) := by decide +kernel
theorem dX4_insert_45 : decode cX4_insert 45 = .ok (.getfield 26, 3) := by decide +kernel
theorem dX4_insert_48 : decode cX4_insert 48 = .ok (.istore 5, 2) := by decide +kernel
theorem dX4_insert_50 : decode cX4_insert 50 = .ok (.iload 5, 2) := by decide +kernel
theorem dX4_insert_52 : decode cX4_insert 52 = .ok (.iload_n 3, 1) := by decide +kernel
theorem dX4_insert_53 : decode cX4_insert 53 = .ok (.if_icmp .le 25, 3) := by decide +kernel
theorem dX4_insert_56 : decode cX4_insert 56 = .ok (.aload_n 0, 1) := by decide +kernel
theorem dX4_insert_57 : decode cX4_insert 57 = .ok (.getfield 11, 3) := by decide +kernel
theorem dX4_insert_60 : decode cX4_insert 60 = .ok (.iload 5, 2) := by decide +kernel
theorem dX4_insert_62 : decode cX4_insert 62 = .ok (.aload_n 0, 1) := by decide +kernel
theorem dX4_insert_63 : decode cX4_insert 63 = .ok (.getfield 11, 3) := by decide +kernel
theorem dX4_insert_66 : decode cX4_insert 66 = .ok (.iload 5, 2) := by decide +kernel
theorem dX4_insert_68 : decode cX4_insert 68 = .ok (.iconst 1, 1) := by decide +kernel
theorem dX4_insert_69 : decode cX4_insert 69 = .ok (.isub, 1) := by decide +kernel
theorem dX4_insert_70 : decode cX4_insert 70 = .ok (.aaload, 1) := by decide +kernel
theorem dX4_insert_71 : decode cX4_insert 71 = .ok (.aastore, 1) := by decide +kernel
theorem dX4_insert_72 : decode cX4_insert 72 = .ok (.iinc 5 (-1), 3) := by decide +kernel
theorem dX4_insert_75 : decode cX4_insert 75 = .ok (.goto (-25), 3) := by decide +kernel
theorem dX4_insert_78 : decode cX4_insert 78 = .ok (.aload_n 0, 1) := by decide +kernel
theorem dX4_insert_79 : decode cX4_insert 79 = .ok (.getfield 11, 3) := by decide +kernel
theorem dX4_insert_82 : decode cX4_insert 82 = .ok (.iload_n 3, 1) := by decide +kernel
theorem dX4_insert_83 : decode cX4_insert 83 = .ok (.aload 4, 2) := by decide +kernel
theorem dX4_insert_85 : decode cX4_insert 85 = .ok (.aastore, 1) := by decide +kernel
theorem dX4_insert_86 : decode cX4_insert 86 = .ok (.aload_n 0, 1) := by decide +kernel
theorem dX4_insert_87 : decode cX4_insert 87 = .ok (.dup, 1) := by decide +kernel
theorem dX4_insert_88 : decode cX4_insert 88 = .ok (.getfield 26, 3) := by decide +kernel
theorem dX4_insert_91 : decode cX4_insert 91 = .ok (.iconst 1, 1) := by decide +kernel
theorem dX4_insert_92 : decode cX4_insert 92 = .ok (.iadd, 1) := by decide +kernel
theorem dX4_insert_93 : decode cX4_insert 93 = .ok (.putfield 26, 3) := by decide +kernel
theorem dX4_insert_96 : decode cX4_insert 96 = .ok (.aload 4, 2) := by decide +kernel
theorem dX4_insert_98 : decode cX4_insert 98 = .ok (.aload_n 0, 1) := by decide +kernel
theorem dX4_insert_99 : decode cX4_insert 99 = .ok (.getfield 38, 3) := by decide +kernel
theorem dX4_insert_102 : decode cX4_insert 102 = .ok (.iload_n 1, 1) := by decide +kernel
theorem dX4_insert_103 : decode cX4_insert 103 = .ok (.iload_n 2, 1) := by decide +kernel
theorem dX4_insert_104 : decode cX4_insert 104 = .ok (.invokevirtual 52, 3) := by decide +kernel
theorem dX4_insert_107 : decode cX4_insert 107 = .ok (.aload_n 0, 1) := by decide +kernel
theorem dX4_insert_108 : decode cX4_insert 108 = .ok (.iload_n 3, 1) := by decide +kernel
theorem dX4_insert_109 : decode cX4_insert 109 = .ok (.iconst 1, 1) := by decide +kernel
theorem dX4_insert_110 : decode cX4_insert 110 = .ok (.iadd, 1) := by decide +kernel
theorem dX4_insert_111 : decode cX4_insert 111 = .ok (.invokevirtual 41, 3) := by decide +kernel
theorem dX4_insert_114 : decode cX4_insert 114 = .ok (.invokevirtual 56, 3) := by decide +kernel
theorem dX4_insert_117 : decode cX4_insert 117 = .ok (.aload_n 0, 1) := by decide +kernel
theorem dX4_insert_118 : decode cX4_insert 118 = .ok (.dup, 1) := by decide +kernel
theorem dX4_insert_119 : decode cX4_insert 119 = .ok (.getfield 38, 3) := by decide +kernel
theorem dX4_insert_122 : decode cX4_insert 122 = .ok (.iconst 1, 1) := by decide +kernel
theorem dX4_insert_123 : decode cX4_insert 123 = .ok (.iadd, 1) := by decide +kernel
theorem dX4_insert_124 : decode cX4_insert 124 = .ok (.putfield 38, 3) := by decide +kernel
theorem dX4_insert_127 : decode cX4_insert 127 = .ok (.aload 4, 2) := by decide +kernel
theorem dX4_insert_129 : decode cX4_insert 129 = .ok (.getfield 49, 3) := by decide +kernel
theorem dX4_insert_132 : decode cX4_insert 132 = .ok (.ireturn, 1) := by decide +kernel
set_option maxRecDepth 20000 in
theorem ggX4_removeMember_X4_placeOf : GoodIn wsX4_removeMember wsX4_placeOf := goodIn_r _ [5, 6, 7, 8, 9, 4, 10, 11, 12, 23, 24, 25, 26, 27, 28, 29, 30, 31, 32, 33, 34, 35, 36, 37] (by decide +kernel) (by decide +kernel)
set_option maxRecDepth 20000 in
theorem gX4_removeMember_X4_placeOf : GoodIn wsX4_removeMember (wsV RX4 59 RX4 yX4_placeOf wsX4_placeOf) := goodIn_app (goodIn_of _ (by decide +kernel)) ggX4_removeMember_X4_placeOf
set_option maxRecDepth 20000 in
theorem ggX4_removeMember_X4_removeAt : GoodIn wsX4_removeMember wsX4_removeAt := goodIn_r _ [16, 6, 11, 7, 8, 9, 4, 10, 12, 17, 18, 19, 20, 21, 22, 23, 24, 25, 26, 27, 28, 29, 30, 31, 32, 33, 34, 35, 36, 37] (by decide +kernel) (by decide +kernel)
set_option maxRecDepth 20000 in
theorem gX4_removeMember_X4_removeAt : GoodIn wsX4_removeMember (wsV RX4 63 RX4 yX4_removeAt wsX4_removeAt) := goodIn_app (goodIn_of _ (by decide +kernel)) ggX4_removeMember_X4_removeAt
theorem dX4_removeMember_0 : decode cX4_removeMember 0 = .ok (.aload_n 0, 1) := by decide +kernel
theorem dX4_removeMember_1 : decode cX4_removeMember 1 = .ok (.iload_n 1, 1) := by decide +kernel
theorem dX4_removeMember_2 : decode cX4_removeMember 2 = .ok (.invokevirtual 59, 3) := by decide +kernel
theorem dX4_removeMember_5 : decode cX4_removeMember 5 = .ok (.istore_n 2, 1) := by decide +kernel
theorem dX4_removeMember_6 : decode cX4_removeMember 6 = .ok (.aload_n 0, 1) := by decide +kernel
theorem dX4_removeMember_7 : decode cX4_removeMember 7 = .ok (.iload_n 2, 1) := by decide +kernel
theorem dX4_removeMember_8 : decode cX4_removeMember 8 = .ok (.invokevirtual 63, 3) := by decide +kernel
theorem dX4_removeMember_11 : decode cX4_removeMember 11 = .ok (.iload_n 2, 1) := by decide +kernel
theorem dX4_removeMember_12 : decode cX4_removeMember 12 = .ok (.ireturn, 1) := by decide +kernel
set_option maxRecDepth 20000 in
theorem ggX4_serveFirst_X4_memberAt : GoodIn wsX4_serveFirst wsX4_memberAt := goodIn_r _ [6, 7, 8, 9, 27, 28, 29, 30, 31, 32, 33, 34] (by decide +kernel) (by decide +kernel)
set_option maxRecDepth 20000 in
theorem gX4_serveFirst_X4_memberAt : GoodIn wsX4_serveFirst (wsV RX4 41 RX4 yX4_memberAt wsX4_memberAt) := goodIn_app (goodIn_of _ (by decide +kernel)) ggX4_serveFirst_X4_memberAt
set_option maxRecDepth 20000 in
theorem ggX4_serveFirst_X4_removeAt : GoodIn wsX4_serveFirst wsX4_removeAt := goodIn_r _ [13, 7, 8, 2, 3, 4, 5, 6, 9, 14, 15, 16, 17, 18, 19, 27, 28, 29, 30, 31, 32, 33, 34, 20, 21, 22, 23, 24, 25, 26] (by decide +kernel) (by decide +kernel)
set_option maxRecDepth 20000 in
theorem gX4_serveFirst_X4_removeAt : GoodIn wsX4_serveFirst (wsV RX4 63 RX4 yX4_removeAt wsX4_removeAt) := goodIn_app (goodIn_of _ (by decide +kernel)) ggX4_serveFirst_X4_removeAt
theorem dX4_serveFirst_0 : decode cX4_serveFirst 0 = .ok (.aload_n 0, 1) := by decide +kernel
theorem dX4_serveFirst_1 : decode cX4_serveFirst 1 = .ok (.iconst 0, 1) := by decide +kernel
theorem dX4_serveFirst_2 : decode cX4_serveFirst 2 = .ok (.invokevirtual 41, 3) := by decide +kernel
theorem dX4_serveFirst_5 : decode cX4_serveFirst 5 = .ok (.getfield 49, 3) := by decide +kernel
theorem dX4_serveFirst_8 : decode cX4_serveFirst 8 = .ok (.istore_n 1, 1) := by decide +kernel
theorem dX4_serveFirst_9 : decode cX4_serveFirst 9 = .ok (.aload_n 0, 1) := by decide +kernel
theorem dX4_serveFirst_10 : decode cX4_serveFirst 10 = .ok (.iconst 0, 1) := by decide +kernel
theorem dX4_serveFirst_11 : decode cX4_serveFirst 11 = .ok (.invokevirtual 63, 3) := by decide +kernel
theorem dX4_serveFirst_14 : decode cX4_serveFirst 14 = .ok (.aload_n 0, 1) := by decide +kernel
theorem dX4_serveFirst_15 : decode cX4_serveFirst 15 = .ok (.dup, 1) := by decide +kernel
theorem dX4_serveFirst_16 : decode cX4_serveFirst 16 = .ok (.getfield 35, 3) := by decide +kernel
theorem dX4_serveFirst_19 : decode cX4_serveFirst 19 = .ok (.iconst 1, 1) := by decide +kernel
theorem dX4_serveFirst_20 : decode cX4_serveFirst 20 = .ok (.iadd, 1) := by decide +kernel
theorem dX4_serveFirst_21 : decode cX4_serveFirst 21 = .ok (.putfield 35, 3) := by decide +kernel
theorem dX4_serveFirst_24 : decode cX4_serveFirst 24 = .ok (.iload_n 1, 1) := by decide +kernel
theorem dX4_serveFirst_25 : decode cX4_serveFirst 25 = .ok (.ireturn, 1) := by decide +kernel
set_option maxRecDepth 20000 in
theorem ggX4_removeAt_X4_memberAt : GoodIn wsX4_removeAt wsX4_memberAt := goodIn_r _ [7, 1, 2, 8, 15, 16, 17, 18, 19, 20, 21, 22] (by decide +kernel) (by decide +kernel)
set_option maxRecDepth 20000 in
theorem gX4_removeAt_X4_memberAt : GoodIn wsX4_removeAt (wsV RX4 41 RX4 yX4_memberAt wsX4_memberAt) := goodIn_app (goodIn_of _ (by decide +kernel)) ggX4_removeAt_X4_memberAt
set_option maxRecDepth 20000 in
theorem ggX4_removeAt_X5_loseOneAhead : GoodIn wsX4_removeAt wsX5_loseOneAhead := goodIn_r _ [12, 13, 14, 23, 24, 25, 26, 27, 28, 29] (by decide +kernel) (by decide +kernel)
set_option maxRecDepth 20000 in
theorem gX4_removeAt_X5_loseOneAhead_n56 : GoodIn wsX4_removeAt (wsX5_loseOneAhead) := ggX4_removeAt_X5_loseOneAhead
theorem dX4_removeAt_0 : decode cX4_removeAt 0 = .ok (.iload_n 1, 1) := by decide +kernel
theorem dX4_removeAt_1 : decode cX4_removeAt 1 = .ok (.ifCond .lt 23, 3) := by decide +kernel
theorem dX4_removeAt_4 : decode cX4_removeAt 4 = .ok (.iload_n 1, 1) := by decide +kernel
theorem dX4_removeAt_5 : decode cX4_removeAt 5 = .ok (.aload_n 0, 1) := by decide +kernel
theorem dX4_removeAt_6 : decode cX4_removeAt 6 = .ok (.getfield 26, 3) := by decide +kernel
theorem dX4_removeAt_9 : decode cX4_removeAt 9 = .ok (.if_icmp .ge 15, 3) := by decide +kernel
theorem dX4_removeAt_12 : decode cX4_removeAt 12 = .ok (.aload_n 0, 1) := by decide +kernel
theorem dX4_removeAt_13 : decode cX4_removeAt 13 = .ok (.getfield 26, 3) := by decide +kernel
theorem dX4_removeAt_16 : decode cX4_removeAt 16 = .ok (.aload_n 0, 1) := by decide +kernel
theorem dX4_removeAt_17 : decode cX4_removeAt 17 = .ok (.getfield 11, 3) := by decide +kernel
theorem dX4_removeAt_20 : decode cX4_removeAt 20 = .ok (.arraylength, 1) := by decide +kernel
theorem dX4_removeAt_21 : decode cX4_removeAt 21 = .ok (.if_icmp .le 4, 3) := by decide +kernel
theorem dX4_removeAt_24 : decode cX4_removeAt 24 = .ok (.return_, 1) := by decide +kernel
theorem dX4_removeAt_25 : decode cX4_removeAt 25 = .ok (.aload_n 0, 1) := by decide +kernel
theorem dX4_removeAt_26 : decode cX4_removeAt 26 = .ok (.getfield 11, 3) := by decide +kernel
theorem dX4_removeAt_29 : decode cX4_removeAt 29 = .ok (.iload_n 1, 1) := by decide +kernel
theorem dX4_removeAt_30 : decode cX4_removeAt 30 = .ok (.aaload, 1) := by decide +kernel
theorem dX4_removeAt_31 : decode cX4_removeAt 31 = .ok (.astore_n 2, 1) := by decide +kernel
theorem dX4_removeAt_32 : decode cX4_removeAt 32 = .ok (.iload_n 1, 1) := by decide +kernel
theorem dX4_removeAt_33 : decode cX4_removeAt 33 = .ok (.istore_n 3, 1) := by decide +kernel
theorem dX4_removeAt_34 : decode cX4_removeAt 34 = .ok (.iload_n 3, 1) := by decide +kernel
theorem dX4_removeAt_35 : decode cX4_removeAt 35 = .ok (.aload_n 0, 1) := by decide +kernel
theorem dX4_removeAt_36 : decode cX4_removeAt 36 = .ok (.getfield 26, 3) := by decide +kernel
theorem dX4_removeAt_39 : decode cX4_removeAt 39 = .ok (.iconst 1, 1) := by decide +kernel
theorem dX4_removeAt_40 : decode cX4_removeAt 40 = .ok (.isub, 1) := by decide +kernel
theorem dX4_removeAt_41 : decode cX4_removeAt 41 = .ok (.if_icmp .ge 23, 3) := by decide +kernel
theorem dX4_removeAt_44 : decode cX4_removeAt 44 = .ok (.aload_n 0, 1) := by decide +kernel
theorem dX4_removeAt_45 : decode cX4_removeAt 45 = .ok (.getfield 11, 3) := by decide +kernel
theorem dX4_removeAt_48 : decode cX4_removeAt 48 = .ok (.iload_n 3, 1) := by decide +kernel
theorem dX4_removeAt_49 : decode cX4_removeAt 49 = .ok (.aload_n 0, 1) := by decide +kernel
theorem dX4_removeAt_50 : decode cX4_removeAt 50 = .ok (.getfield 11, 3) := by decide +kernel
theorem dX4_removeAt_53 : decode cX4_removeAt 53 = .ok (.iload_n 3, 1) := by decide +kernel
theorem dX4_removeAt_54 : decode cX4_removeAt 54 = .ok (.iconst 1, 1) := by decide +kernel
theorem dX4_removeAt_55 : decode cX4_removeAt 55 = .ok (.iadd, 1) := by decide +kernel
theorem dX4_removeAt_56 : decode cX4_removeAt 56 = .ok (.aaload, 1) := by decide +kernel
theorem dX4_removeAt_57 : decode cX4_removeAt 57 = .ok (.aastore, 1) := by decide +kernel
theorem dX4_removeAt_58 : decode cX4_removeAt 58 = .ok (.iinc 3 1, 3) := by decide +kernel
theorem dX4_removeAt_61 : decode cX4_removeAt 61 = .ok (.goto (-27), 3) := by decide +kernel
theorem dX4_removeAt_64 : decode cX4_removeAt 64 = .ok (.aload_n 0, 1) := by decide +kernel
theorem dX4_removeAt_65 : decode cX4_removeAt 65 = .ok (.getfield 11, 3) := by decide +kernel
theorem dX4_removeAt_68 : decode cX4_removeAt 68 = .ok (.aload_n 0, 1) := by decide +kernel
theorem dX4_removeAt_69 : decode cX4_removeAt 69 = .ok (.getfield 26, 3) := by decide +kernel
theorem dX4_removeAt_72 : decode cX4_removeAt 72 = .ok (.iconst 1, 1) := by decide +kernel
theorem dX4_removeAt_73 : decode cX4_removeAt 73 = .ok (.isub, 1) := by decide +kernel
theorem dX4_removeAt_74 : decode cX4_removeAt 74 = .ok (.aload_n 2, 1) := by decide +kernel
theorem dX4_removeAt_75 : decode cX4_removeAt 75 = .ok (.aastore, 1) := by decide +kernel
theorem dX4_removeAt_76 : decode cX4_removeAt 76 = .ok (.aload_n 0, 1) := by decide +kernel
theorem dX4_removeAt_77 : decode cX4_removeAt 77 = .ok (.dup, 1) := by decide +kernel
theorem dX4_removeAt_78 : decode cX4_removeAt 78 = .ok (.getfield 26, 3) := by decide +kernel
theorem dX4_removeAt_81 : decode cX4_removeAt 81 = .ok (.iconst 1, 1) := by decide +kernel
theorem dX4_removeAt_82 : decode cX4_removeAt 82 = .ok (.isub, 1) := by decide +kernel
theorem dX4_removeAt_83 : decode cX4_removeAt 83 = .ok (.putfield 26, 3) := by decide +kernel
theorem dX4_removeAt_86 : decode cX4_removeAt 86 = .ok (.aload_n 0, 1) := by decide +kernel
theorem dX4_removeAt_87 : decode cX4_removeAt 87 = .ok (.iload_n 1, 1) := by decide +kernel
theorem dX4_removeAt_88 : decode cX4_removeAt 88 = .ok (.invokevirtual 41, 3) := by decide +kernel
theorem dX4_removeAt_91 : decode cX4_removeAt 91 = .ok (.invokevirtual 56, 3) := by decide +kernel
theorem dX4_removeAt_94 : decode cX4_removeAt 94 = .ok (.return_, 1) := by decide +kernel
set_option maxRecDepth 20000 in
theorem ggX4_tell_X4_memberAt : GoodIn wsX4_tell wsX4_memberAt := goodIn_r _ [5, 6, 7, 8, 16, 17, 18, 19, 20, 21, 22, 23] (by decide +kernel) (by decide +kernel)
set_option maxRecDepth 20000 in
theorem gX4_tell_X4_memberAt : GoodIn wsX4_tell (wsV RX4 41 RX4 yX4_memberAt wsX4_memberAt) := goodIn_app (goodIn_of _ (by decide +kernel)) ggX4_tell_X4_memberAt
theorem dX4_tell_0 : decode cX4_tell 0 = .ok (.aload_n 0, 1) := by decide +kernel
theorem dX4_tell_1 : decode cX4_tell 1 = .ok (.iload_n 1, 1) := by decide +kernel
theorem dX4_tell_2 : decode cX4_tell 2 = .ok (.invokevirtual 41, 3) := by decide +kernel
theorem dX4_tell_5 : decode cX4_tell 5 = .ok (.astore_n 3, 1) := by decide +kernel
theorem dX4_tell_6 : decode cX4_tell 6 = .ok (.aload_n 3, 1) := by decide +kernel
theorem dX4_tell_7 : decode cX4_tell 7 = .ok (.getfield 67, 3) := by decide +kernel
theorem dX4_tell_10 : decode cX4_tell 10 = .ok (.istore 4, 2) := by decide +kernel
theorem dX4_tell_12 : decode cX4_tell 12 = .ok (.aload_n 3, 1) := by decide +kernel
theorem dX4_tell_13 : decode cX4_tell 13 = .ok (.iload_n 2, 1) := by decide +kernel
theorem dX4_tell_14 : decode cX4_tell 14 = .ok (.putfield 67, 3) := by decide +kernel
theorem dX4_tell_17 : decode cX4_tell 17 = .ok (.iload 4, 2) := by decide +kernel
theorem dX4_tell_19 : decode cX4_tell 19 = .ok (.ireturn, 1) := by decide +kernel
set_option maxRecDepth 20000 in
theorem ggX4_tellTruth_X4_memberAt : GoodIn wsX4_tellTruth wsX4_memberAt := goodIn_r _ [6, 1, 7, 8, 9, 10, 11, 12, 13, 14, 15, 16] (by decide +kernel) (by decide +kernel)
set_option maxRecDepth 20000 in
theorem gX4_tellTruth_X4_memberAt : GoodIn wsX4_tellTruth (wsV RX4 41 RX4 yX4_memberAt wsX4_memberAt) := goodIn_app (goodIn_of _ (by decide +kernel)) ggX4_tellTruth_X4_memberAt
theorem dX4_tellTruth_0 : decode cX4_tellTruth 0 = .ok (.iconst 0, 1) := by decide +kernel
theorem dX4_tellTruth_1 : decode cX4_tellTruth 1 = .ok (.istore_n 1, 1) := by decide +kernel
theorem dX4_tellTruth_2 : decode cX4_tellTruth 2 = .ok (.iload_n 1, 1) := by decide +kernel
theorem dX4_tellTruth_3 : decode cX4_tellTruth 3 = .ok (.aload_n 0, 1) := by decide +kernel
theorem dX4_tellTruth_4 : decode cX4_tellTruth 4 = .ok (.getfield 26, 3) := by decide +kernel
theorem dX4_tellTruth_7 : decode cX4_tellTruth 7 = .ok (.if_icmp .ge 25, 3) := by decide +kernel
theorem dX4_tellTruth_10 : decode cX4_tellTruth 10 = .ok (.aload_n 0, 1) := by decide +kernel
theorem dX4_tellTruth_11 : decode cX4_tellTruth 11 = .ok (.iload_n 1, 1) := by decide +kernel
theorem dX4_tellTruth_12 : decode cX4_tellTruth 12 = .ok (.invokevirtual 41, 3) := by decide +kernel
theorem dX4_tellTruth_15 : decode cX4_tellTruth 15 = .ok (.aload_n 0, 1) := by decide +kernel
theorem dX4_tellTruth_16 : decode cX4_tellTruth 16 = .ok (.iload_n 1, 1) := by decide +kernel
theorem dX4_tellTruth_17 : decode cX4_tellTruth 17 = .ok (.invokevirtual 41, 3) := by decide +kernel
theorem dX4_tellTruth_20 : decode cX4_tellTruth 20 = .ok (.getfield 70, 3) := by decide +kernel
theorem dX4_tellTruth_23 : decode cX4_tellTruth 23 = .ok (.putfield 67, 3) := by decide +kernel
theorem dX4_tellTruth_26 : decode cX4_tellTruth 26 = .ok (.iinc 1 1, 3) := by decide +kernel
theorem dX4_tellTruth_29 : decode cX4_tellTruth 29 = .ok (.goto (-27), 3) := by decide +kernel
theorem dX4_tellTruth_32 : decode cX4_tellTruth 32 = .ok (.return_, 1) := by decide +kernel
set_option maxRecDepth 20000 in
theorem ggX4_makeOffer_X4_memberAt : GoodIn wsX4_makeOffer wsX4_memberAt := goodIn_r _ [5, 6, 7, 8, 16, 17, 18, 19, 20, 21, 22, 23] (by decide +kernel) (by decide +kernel)
set_option maxRecDepth 20000 in
theorem gX4_makeOffer_X4_memberAt : GoodIn wsX4_makeOffer (wsV RX4 41 RX4 yX4_memberAt wsX4_memberAt) := goodIn_app (goodIn_of _ (by decide +kernel)) ggX4_makeOffer_X4_memberAt
theorem dX4_makeOffer_0 : decode cX4_makeOffer 0 = .ok (.aload_n 0, 1) := by decide +kernel
theorem dX4_makeOffer_1 : decode cX4_makeOffer 1 = .ok (.iload_n 1, 1) := by decide +kernel
theorem dX4_makeOffer_2 : decode cX4_makeOffer 2 = .ok (.invokevirtual 41, 3) := by decide +kernel
theorem dX4_makeOffer_5 : decode cX4_makeOffer 5 = .ok (.astore_n 3, 1) := by decide +kernel
theorem dX4_makeOffer_6 : decode cX4_makeOffer 6 = .ok (.aload_n 3, 1) := by decide +kernel
theorem dX4_makeOffer_7 : decode cX4_makeOffer 7 = .ok (.getfield 73, 3) := by decide +kernel
theorem dX4_makeOffer_10 : decode cX4_makeOffer 10 = .ok (.istore 4, 2) := by decide +kernel
theorem dX4_makeOffer_12 : decode cX4_makeOffer 12 = .ok (.aload_n 3, 1) := by decide +kernel
theorem dX4_makeOffer_13 : decode cX4_makeOffer 13 = .ok (.iload_n 2, 1) := by decide +kernel
theorem dX4_makeOffer_14 : decode cX4_makeOffer 14 = .ok (.putfield 73, 3) := by decide +kernel
theorem dX4_makeOffer_17 : decode cX4_makeOffer 17 = .ok (.iload 4, 2) := by decide +kernel
theorem dX4_makeOffer_19 : decode cX4_makeOffer 19 = .ok (.ireturn, 1) := by decide +kernel
set_option maxRecDepth 20000 in
theorem ggX4_setFriends_X4_memberAt : GoodIn wsX4_setFriends wsX4_memberAt := goodIn_r _ [5, 6, 7, 8, 24, 25, 26, 27, 28, 29, 30, 31] (by decide +kernel) (by decide +kernel)
set_option maxRecDepth 20000 in
theorem gX4_setFriends_X4_memberAt : GoodIn wsX4_setFriends (wsV RX4 41 RX4 yX4_memberAt wsX4_memberAt) := goodIn_app (goodIn_of _ (by decide +kernel)) ggX4_setFriends_X4_memberAt
set_option maxRecDepth 20000 in
theorem ggX4_setFriends_X4_friendPairs : GoodIn wsX4_setFriends wsX4_friendPairs := goodIn_r _ [12, 6, 13, 14, 15, 4, 16, 1, 2, 3, 5, 7, 8, 24, 25, 26, 27, 28, 29, 30, 31, 17, 18, 19, 20, 21, 22, 23] (by decide +kernel) (by decide +kernel)
set_option maxRecDepth 20000 in
theorem gX4_setFriends_X4_friendPairs : GoodIn wsX4_setFriends (wsV RX4 80 RX4 yX4_friendPairs wsX4_friendPairs) := goodIn_app (goodIn_of _ (by decide +kernel)) ggX4_setFriends_X4_friendPairs
theorem dX4_setFriends_0 : decode cX4_setFriends 0 = .ok (.aload_n 0, 1) := by decide +kernel
theorem dX4_setFriends_1 : decode cX4_setFriends 1 = .ok (.iload_n 1, 1) := by decide +kernel
theorem dX4_setFriends_2 : decode cX4_setFriends 2 = .ok (.iconst 1, 1) := by decide +kernel
theorem dX4_setFriends_3 : decode cX4_setFriends 3 = .ok (.iadd, 1) := by decide +kernel
theorem dX4_setFriends_4 : decode cX4_setFriends 4 = .ok (.invokevirtual 41, 3) := by decide +kernel
theorem dX4_setFriends_7 : decode cX4_setFriends 7 = .ok (.iload_n 2, 1) := by decide +kernel
theorem dX4_setFriends_8 : decode cX4_setFriends 8 = .ok (.putfield 76, 3) := by decide +kernel
theorem dX4_setFriends_11 : decode cX4_setFriends 11 = .ok (.aload_n 0, 1) := by decide +kernel
theorem dX4_setFriends_12 : decode cX4_setFriends 12 = .ok (.invokevirtual 80, 3) := by decide +kernel
theorem dX4_setFriends_15 : decode cX4_setFriends 15 = .ok (.ireturn, 1) := by decide +kernel
set_option maxRecDepth 20000 in
theorem ggX4_swapAsOffered_X4_memberAt : GoodIn wsX4_swapAsOffered wsX4_memberAt := goodIn_r _ [5, 6, 7, 8, 28, 29, 30, 31, 32, 33, 34, 35] (by decide +kernel) (by decide +kernel)
set_option maxRecDepth 20000 in
theorem gX4_swapAsOffered_X4_memberAt : GoodIn wsX4_swapAsOffered (wsV RX4 41 RX4 yX4_memberAt wsX4_memberAt) := goodIn_app (goodIn_of _ (by decide +kernel)) ggX4_swapAsOffered_X4_memberAt
set_option maxRecDepth 20000 in
theorem ggX4_swapAsOffered_X4_swapAt : GoodIn wsX4_swapAsOffered wsX4_swapAt := goodIn_r _ [12, 6, 7, 13, 14, 1, 2, 3, 4, 5, 8, 15, 16, 17, 18, 19, 20, 28, 29, 30, 31, 32, 33, 34, 35, 21, 22, 23, 24, 25, 26, 27] (by decide +kernel) (by decide +kernel)
set_option maxRecDepth 20000 in
theorem gX4_swapAsOffered_X4_swapAt : GoodIn wsX4_swapAsOffered (wsV RX4 84 RX4 yX4_swapAt wsX4_swapAt) := goodIn_app (goodIn_of _ (by decide +kernel)) ggX4_swapAsOffered_X4_swapAt
theorem dX4_swapAsOffered_0 : decode cX4_swapAsOffered 0 = .ok (.aload_n 0, 1) := by decide +kernel
theorem dX4_swapAsOffered_1 : decode cX4_swapAsOffered 1 = .ok (.iload_n 1, 1) := by decide +kernel
theorem dX4_swapAsOffered_2 : decode cX4_swapAsOffered 2 = .ok (.aload_n 0, 1) := by decide +kernel
theorem dX4_swapAsOffered_3 : decode cX4_swapAsOffered 3 = .ok (.iload_n 1, 1) := by decide +kernel
theorem dX4_swapAsOffered_4 : decode cX4_swapAsOffered 4 = .ok (.iconst 1, 1) := by decide +kernel
theorem dX4_swapAsOffered_5 : decode cX4_swapAsOffered 5 = .ok (.iadd, 1) := by decide +kernel
theorem dX4_swapAsOffered_6 : decode cX4_swapAsOffered 6 = .ok (.invokevirtual 41, 3) := by decide +kernel
theorem dX4_swapAsOffered_9 : decode cX4_swapAsOffered 9 = .ok (.getfield 73, 3) := by decide +kernel
theorem dX4_swapAsOffered_12 : decode cX4_swapAsOffered 12 = .ok (.invokevirtual 84, 3) := by decide +kernel
theorem dX4_swapAsOffered_15 : decode cX4_swapAsOffered 15 = .ok (.ireturn, 1) := by decide +kernel
set_option maxRecDepth 20000 in
theorem ggX4_swapFairly_X4_fairPrice : GoodIn wsX4_swapFairly wsX4_fairPrice := goodIn_r _ [5, 6, 7, 8, 9, 4, 10, 11, 12, 13, 26, 27, 28, 29, 30, 31, 32, 33, 34, 35, 36, 37, 38, 39, 40] (by decide +kernel) (by decide +kernel)
set_option maxRecDepth 20000 in
theorem gX4_swapFairly_X4_fairPrice : GoodIn wsX4_swapFairly (wsV RX4 88 RX4 yX4_fairPrice wsX4_fairPrice) := goodIn_app (goodIn_of _ (by decide +kernel)) ggX4_swapFairly_X4_fairPrice
set_option maxRecDepth 20000 in
theorem ggX4_swapFairly_X4_swapAt : GoodIn wsX4_swapFairly wsX4_swapAt := goodIn_r _ [17, 11, 12, 18, 19, 7, 8, 9, 4, 10, 13, 20, 21, 22, 23, 24, 25, 33, 34, 35, 36, 37, 38, 39, 40, 26, 27, 28, 29, 30, 31, 32] (by decide +kernel) (by decide +kernel)
set_option maxRecDepth 20000 in
theorem gX4_swapFairly_X4_swapAt : GoodIn wsX4_swapFairly (wsV RX4 84 RX4 yX4_swapAt wsX4_swapAt) := goodIn_app (goodIn_of _ (by decide +kernel)) ggX4_swapFairly_X4_swapAt
theorem dX4_swapFairly_0 : decode cX4_swapFairly 0 = .ok (.aload_n 0, 1) := by decide +kernel
theorem dX4_swapFairly_1 : decode cX4_swapFairly 1 = .ok (.iload_n 1, 1) := by decide +kernel
theorem dX4_swapFairly_2 : decode cX4_swapFairly 2 = .ok (.aload_n 0, 1) := by decide +kernel
theorem dX4_swapFairly_3 : decode cX4_swapFairly 3 = .ok (.iload_n 1, 1) := by decide +kernel
theorem dX4_swapFairly_4 : decode cX4_swapFairly 4 = .ok (.invokevirtual 88, 3) := by decide +kernel
theorem dX4_swapFairly_7 : decode cX4_swapFairly 7 = .ok (.invokevirtual 84, 3) := by decide +kernel
theorem dX4_swapFairly_10 : decode cX4_swapFairly 10 = .ok (.ireturn, 1) := by decide +kernel
set_option maxRecDepth 20000 in
theorem ggX4_swapAt_X4_memberAt : GoodIn wsX4_swapAt wsX4_memberAt := goodIn_r _ [9, 1, 2, 10, 17, 18, 19, 20, 21, 22, 23, 24] (by decide +kernel) (by decide +kernel)
set_option maxRecDepth 20000 in
theorem gX4_swapAt_X4_memberAt : GoodIn wsX4_swapAt (wsV RX4 41 RX4 yX4_memberAt wsX4_memberAt) := goodIn_app (goodIn_of _ (by decide +kernel)) ggX4_swapAt_X4_memberAt
set_option maxRecDepth 20000 in
theorem ggX4_swapAt_X5_loseOneAhead : GoodIn wsX4_swapAt wsX5_loseOneAhead := goodIn_r _ [14, 15, 16, 25, 26, 27, 28, 29, 30, 31] (by decide +kernel) (by decide +kernel)
set_option maxRecDepth 20000 in
theorem gX4_swapAt_X5_loseOneAhead_n56 : GoodIn wsX4_swapAt (wsX5_loseOneAhead) := ggX4_swapAt_X5_loseOneAhead
theorem dX4_swapAt_0 : decode cX4_swapAt 0 = .ok (.iload_n 1, 1) := by decide +kernel
theorem dX4_swapAt_1 : decode cX4_swapAt 1 = .ok (.ifCond .lt 25, 3) := by decide +kernel
theorem dX4_swapAt_4 : decode cX4_swapAt 4 = .ok (.iload_n 1, 1) := by decide +kernel
theorem dX4_swapAt_5 : decode cX4_swapAt 5 = .ok (.aload_n 0, 1) := by decide +kernel
theorem dX4_swapAt_6 : decode cX4_swapAt 6 = .ok (.getfield 26, 3) := by decide +kernel
theorem dX4_swapAt_9 : decode cX4_swapAt 9 = .ok (.iconst 1, 1) := by decide +kernel
theorem dX4_swapAt_10 : decode cX4_swapAt 10 = .ok (.isub, 1) := by decide +kernel
theorem dX4_swapAt_11 : decode cX4_swapAt 11 = .ok (.if_icmp .ge 15, 3) := by decide +kernel
theorem dX4_swapAt_14 : decode cX4_swapAt 14 = .ok (.aload_n 0, 1) := by decide +kernel
theorem dX4_swapAt_15 : decode cX4_swapAt 15 = .ok (.getfield 26, 3) := by decide +kernel
theorem dX4_swapAt_18 : decode cX4_swapAt 18 = .ok (.aload_n 0, 1) := by decide +kernel
theorem dX4_swapAt_19 : decode cX4_swapAt 19 = .ok (.getfield 11, 3) := by decide +kernel
theorem dX4_swapAt_22 : decode cX4_swapAt 22 = .ok (.arraylength, 1) := by decide +kernel
theorem dX4_swapAt_23 : decode cX4_swapAt 23 = .ok (.if_icmp .le 5, 3) := by decide +kernel
theorem dX4_swapAt_26 : decode cX4_swapAt 26 = .ok (.iconst (-1), 1) := by decide +kernel
theorem dX4_swapAt_27 : decode cX4_swapAt 27 = .ok (.ireturn, 1) := by decide +kernel
theorem dX4_swapAt_28 : decode cX4_swapAt 28 = .ok (.aload_n 0, 1) := by decide +kernel
theorem dX4_swapAt_29 : decode cX4_swapAt 29 = .ok (.iload_n 1, 1) := by decide +kernel
theorem dX4_swapAt_30 : decode cX4_swapAt 30 = .ok (.invokevirtual 41, 3) := by decide +kernel
theorem dX4_swapAt_33 : decode cX4_swapAt 33 = .ok (.astore_n 3, 1) := by decide +kernel
theorem dX4_swapAt_34 : decode cX4_swapAt 34 = .ok (.aload_n 0, 1) := by decide +kernel
theorem dX4_swapAt_35 : decode cX4_swapAt 35 = .ok (.iload_n 1, 1) := by decide +kernel
theorem dX4_swapAt_36 : decode cX4_swapAt 36 = .ok (.iconst 1, 1) := by decide +kernel
theorem dX4_swapAt_37 : decode cX4_swapAt 37 = .ok (.iadd, 1) := by decide +kernel
theorem dX4_swapAt_38 : decode cX4_swapAt 38 = .ok (.invokevirtual 41, 3) := by decide +kernel
theorem dX4_swapAt_41 : decode cX4_swapAt 41 = .ok (.astore 4, 2) := by decide +kernel
theorem dX4_swapAt_43 : decode cX4_swapAt 43 = .ok (.aload_n 0, 1) := by decide +kernel
theorem dX4_swapAt_44 : decode cX4_swapAt 44 = .ok (.getfield 11, 3) := by decide +kernel
theorem dX4_swapAt_47 : decode cX4_swapAt 47 = .ok (.iload_n 1, 1) := by decide +kernel
theorem dX4_swapAt_48 : decode cX4_swapAt 48 = .ok (.aload 4, 2) := by decide +kernel
theorem dX4_swapAt_50 : decode cX4_swapAt 50 = .ok (.aastore, 1) := by decide +kernel
theorem dX4_swapAt_51 : decode cX4_swapAt 51 = .ok (.aload_n 0, 1) := by decide +kernel
theorem dX4_swapAt_52 : decode cX4_swapAt 52 = .ok (.getfield 11, 3) := by decide +kernel
theorem dX4_swapAt_55 : decode cX4_swapAt 55 = .ok (.iload_n 1, 1) := by decide +kernel
theorem dX4_swapAt_56 : decode cX4_swapAt 56 = .ok (.iconst 1, 1) := by decide +kernel
theorem dX4_swapAt_57 : decode cX4_swapAt 57 = .ok (.iadd, 1) := by decide +kernel
theorem dX4_swapAt_58 : decode cX4_swapAt 58 = .ok (.aload_n 3, 1) := by decide +kernel
theorem dX4_swapAt_59 : decode cX4_swapAt 59 = .ok (.aastore, 1) := by decide +kernel
theorem dX4_swapAt_60 : decode cX4_swapAt 60 = .ok (.aload 4, 2) := by decide +kernel
theorem dX4_swapAt_62 : decode cX4_swapAt 62 = .ok (.dup, 1) := by decide +kernel
theorem dX4_swapAt_63 : decode cX4_swapAt 63 = .ok (.getfield 91, 3) := by decide +kernel
theorem dX4_swapAt_66 : decode cX4_swapAt 66 = .ok (.iload_n 2, 1) := by decide +kernel
theorem dX4_swapAt_67 : decode cX4_swapAt 67 = .ok (.isub, 1) := by decide +kernel
theorem dX4_swapAt_68 : decode cX4_swapAt 68 = .ok (.putfield 91, 3) := by decide +kernel
theorem dX4_swapAt_71 : decode cX4_swapAt 71 = .ok (.aload_n 3, 1) := by decide +kernel
theorem dX4_swapAt_72 : decode cX4_swapAt 72 = .ok (.dup, 1) := by decide +kernel
theorem dX4_swapAt_73 : decode cX4_swapAt 73 = .ok (.getfield 91, 3) := by decide +kernel
theorem dX4_swapAt_76 : decode cX4_swapAt 76 = .ok (.iload_n 2, 1) := by decide +kernel
theorem dX4_swapAt_77 : decode cX4_swapAt 77 = .ok (.iadd, 1) := by decide +kernel
theorem dX4_swapAt_78 : decode cX4_swapAt 78 = .ok (.putfield 91, 3) := by decide +kernel
theorem dX4_swapAt_81 : decode cX4_swapAt 81 = .ok (.aload 4, 2) := by decide +kernel
theorem dX4_swapAt_83 : decode cX4_swapAt 83 = .ok (.invokevirtual 56, 3) := by decide +kernel
theorem dX4_swapAt_86 : decode cX4_swapAt 86 = .ok (.aload_n 3, 1) := by decide +kernel
theorem dX4_swapAt_87 : decode cX4_swapAt 87 = .ok (.invokevirtual 56, 3) := by decide +kernel
theorem dX4_swapAt_90 : decode cX4_swapAt 90 = .ok (.aload_n 0, 1) := by decide +kernel
theorem dX4_swapAt_91 : decode cX4_swapAt 91 = .ok (.iload_n 1, 1) := by decide +kernel
theorem dX4_swapAt_92 : decode cX4_swapAt 92 = .ok (.iconst 2, 1) := by decide +kernel
theorem dX4_swapAt_93 : decode cX4_swapAt 93 = .ok (.iadd, 1) := by decide +kernel
theorem dX4_swapAt_94 : decode cX4_swapAt 94 = .ok (.invokevirtual 41, 3) := by decide +kernel
theorem dX4_swapAt_97 : decode cX4_swapAt 97 = .ok (.invokevirtual 56, 3) := by decide +kernel
theorem dX4_swapAt_100 : decode cX4_swapAt 100 = .ok (.aload_n 0, 1) := by decide +kernel
theorem dX4_swapAt_101 : decode cX4_swapAt 101 = .ok (.dup, 1) := by decide +kernel
theorem dX4_swapAt_102 : decode cX4_swapAt 102 = .ok (.getfield 29, 3) := by decide +kernel
theorem dX4_swapAt_105 : decode cX4_swapAt 105 = .ok (.iconst 1, 1) := by decide +kernel
theorem dX4_swapAt_106 : decode cX4_swapAt 106 = .ok (.iadd, 1) := by decide +kernel
theorem dX4_swapAt_107 : decode cX4_swapAt 107 = .ok (.putfield 29, 3) := by decide +kernel
theorem dX4_swapAt_110 : decode cX4_swapAt 110 = .ok (.aload_n 0, 1) := by decide +kernel
theorem dX4_swapAt_111 : decode cX4_swapAt 111 = .ok (.dup, 1) := by decide +kernel
theorem dX4_swapAt_112 : decode cX4_swapAt 112 = .ok (.getfield 32, 3) := by decide +kernel
theorem dX4_swapAt_115 : decode cX4_swapAt 115 = .ok (.iload_n 2, 1) := by decide +kernel
theorem dX4_swapAt_116 : decode cX4_swapAt 116 = .ok (.iadd, 1) := by decide +kernel
theorem dX4_swapAt_117 : decode cX4_swapAt 117 = .ok (.putfield 32, 3) := by decide +kernel
theorem dX4_swapAt_120 : decode cX4_swapAt 120 = .ok (.iload_n 2, 1) := by decide +kernel
theorem dX4_swapAt_121 : decode cX4_swapAt 121 = .ok (.ireturn, 1) := by decide +kernel
set_option maxRecDepth 20000 in
theorem ggX4_settleDown_X4_keenestPair : GoodIn wsX4_settleDown wsX4_keenestPair := goodIn_r _ [5, 6, 7, 8, 9, 4, 10, 11, 12, 13, 14, 15, 16, 17, 18, 19, 20, 42, 43, 44, 45, 46, 47, 48, 49, 50, 51, 52, 53, 54, 55, 56] (by decide +kernel) (by decide +kernel)
set_option maxRecDepth 20000 in
theorem gX4_settleDown_X4_keenestPair : GoodIn wsX4_settleDown (wsV RX4 94 RX4 yX4_keenestPair wsX4_keenestPair) := goodIn_app (goodIn_of _ (by decide +kernel)) ggX4_settleDown_X4_keenestPair
set_option maxRecDepth 20000 in
theorem ggX4_settleDown_X4_swapFairly : GoodIn wsX4_settleDown wsX4_swapFairly := goodIn_r _ [24, 25, 26, 27, 4, 28, 29, 11, 12, 13, 14, 6, 15, 16, 30, 31, 32, 33, 34, 35, 36, 37, 38, 39, 40, 41, 50, 51, 52, 53, 54, 55, 56, 42, 43, 44, 45, 46, 47, 48, 49] (by decide +kernel) (by decide +kernel)
set_option maxRecDepth 20000 in
theorem gX4_settleDown_X4_swapFairly : GoodIn wsX4_settleDown (wsV RX4 97 RX4 yX4_swapFairly wsX4_swapFairly) := goodIn_app (goodIn_of _ (by decide +kernel)) ggX4_settleDown_X4_swapFairly
theorem dX4_settleDown_0 : decode cX4_settleDown 0 = .ok (.iconst 0, 1) := by decide +kernel
theorem dX4_settleDown_1 : decode cX4_settleDown 1 = .ok (.istore_n 1, 1) := by decide +kernel
theorem dX4_settleDown_2 : decode cX4_settleDown 2 = .ok (.iload_n 1, 1) := by decide +kernel
theorem dX4_settleDown_3 : decode cX4_settleDown 3 = .ok (.sipush 1000, 3) := by decide +kernel
theorem dX4_settleDown_6 : decode cX4_settleDown 6 = .ok (.if_icmp .ge 28, 3) := by decide +kernel
theorem dX4_settleDown_9 : decode cX4_settleDown 9 = .ok (.aload_n 0, 1) := by decide +kernel
theorem dX4_settleDown_10 : decode cX4_settleDown 10 = .ok (.invokevirtual 94, 3) := by decide +kernel
theorem dX4_settleDown_13 : decode cX4_settleDown 13 = .ok (.istore_n 2, 1) := by decide +kernel
theorem dX4_settleDown_14 : decode cX4_settleDown 14 = .ok (.iload_n 2, 1) := by decide +kernel
theorem dX4_settleDown_15 : decode cX4_settleDown 15 = .ok (.iconst (-1), 1) := by decide +kernel
theorem dX4_settleDown_16 : decode cX4_settleDown 16 = .ok (.if_icmp .ne 6, 3) := by decide +kernel
theorem dX4_settleDown_19 : decode cX4_settleDown 19 = .ok (.goto 15, 3) := by decide +kernel
theorem dX4_settleDown_22 : decode cX4_settleDown 22 = .ok (.aload_n 0, 1) := by decide +kernel
theorem dX4_settleDown_23 : decode cX4_settleDown 23 = .ok (.iload_n 2, 1) := by decide +kernel
theorem dX4_settleDown_24 : decode cX4_settleDown 24 = .ok (.invokevirtual 97, 3) := by decide +kernel
theorem dX4_settleDown_27 : decode cX4_settleDown 27 = .ok (.pop, 1) := by decide +kernel
theorem dX4_settleDown_28 : decode cX4_settleDown 28 = .ok (.iinc 1 1, 3) := by decide +kernel
theorem dX4_settleDown_31 : decode cX4_settleDown 31 = .ok (.goto (-29), 3) := by decide +kernel
theorem dX4_settleDown_34 : decode cX4_settleDown 34 = .ok (.iload_n 1, 1) := by decide +kernel
theorem dX4_settleDown_35 : decode cX4_settleDown 35 = .ok (.ireturn, 1) := by decide +kernel
set_option maxRecDepth 20000 in
theorem ggX4_keenestPair_X4_surplus : GoodIn wsX4_keenestPair wsX4_surplus := goodIn_r _ [6, 7, 8, 9, 5, 10, 1, 11, 12, 25, 26, 27, 28, 29, 30, 31, 17, 18, 19, 20, 21, 22, 23, 24] (by decide +kernel) (by decide +kernel)
set_option maxRecDepth 20000 in
theorem gX4_keenestPair_X4_surplus : GoodIn wsX4_keenestPair (wsV RX4 100 RX4 yX4_surplus wsX4_surplus) := goodIn_app (goodIn_of _ (by decide +kernel)) ggX4_keenestPair_X4_surplus
set_option maxRecDepth 20000 in
theorem ggX4_keenestPair_X4_isHeldByFriends : GoodIn wsX4_keenestPair wsX4_isHeldByFriends := goodIn_r _ [16, 7, 8, 9, 5, 10, 1, 11, 12, 25, 26, 27, 28, 29, 30, 31, 17, 18, 19, 20, 21, 22, 23, 24] (by decide +kernel) (by decide +kernel)
set_option maxRecDepth 20000 in
theorem gX4_keenestPair_X4_isHeldByFriends : GoodIn wsX4_keenestPair (wsV RX4 103 RX4 yX4_isHeldByFriends wsX4_isHeldByFriends) := goodIn_app (goodIn_of _ (by decide +kernel)) ggX4_keenestPair_X4_isHeldByFriends
theorem dX4_keenestPair_0 : decode cX4_keenestPair 0 = .ok (.iconst (-1), 1) := by decide +kernel
theorem dX4_keenestPair_1 : decode cX4_keenestPair 1 = .ok (.istore_n 1, 1) := by decide +kernel
theorem dX4_keenestPair_2 : decode cX4_keenestPair 2 = .ok (.iconst 0, 1) := by decide +kernel
theorem dX4_keenestPair_3 : decode cX4_keenestPair 3 = .ok (.istore_n 2, 1) := by decide +kernel
theorem dX4_keenestPair_4 : decode cX4_keenestPair 4 = .ok (.iconst 0, 1) := by decide +kernel
theorem dX4_keenestPair_5 : decode cX4_keenestPair 5 = .ok (.istore_n 3, 1) := by decide +kernel
theorem dX4_keenestPair_6 : decode cX4_keenestPair 6 = .ok (.iload_n 3, 1) := by decide +kernel
theorem dX4_keenestPair_7 : decode cX4_keenestPair 7 = .ok (.aload_n 0, 1) := by decide +kernel
theorem dX4_keenestPair_8 : decode cX4_keenestPair 8 = .ok (.getfield 26, 3) := by decide +kernel
theorem dX4_keenestPair_11 : decode cX4_keenestPair 11 = .ok (.iconst 1, 1) := by decide +kernel
theorem dX4_keenestPair_12 : decode cX4_keenestPair 12 = .ok (.isub, 1) := by decide +kernel
theorem dX4_keenestPair_13 : decode cX4_keenestPair 13 = .ok (.if_icmp .ge 35, 3) := by decide +kernel
theorem dX4_keenestPair_16 : decode cX4_keenestPair 16 = .ok (.aload_n 0, 1) := by decide +kernel
theorem dX4_keenestPair_17 : decode cX4_keenestPair 17 = .ok (.iload_n 3, 1) := by decide +kernel
theorem dX4_keenestPair_18 : decode cX4_keenestPair 18 = .ok (.invokevirtual 100, 3) := by decide +kernel
theorem dX4_keenestPair_21 : decode cX4_keenestPair 21 = .ok (.istore 4, 2) := by decide +kernel
theorem dX4_keenestPair_23 : decode cX4_keenestPair 23 = .ok (.iload 4, 2) := by decide +kernel
theorem dX4_keenestPair_25 : decode cX4_keenestPair 25 = .ok (.iload_n 2, 1) := by decide +kernel
theorem dX4_keenestPair_26 : decode cX4_keenestPair 26 = .ok (.if_icmp .le 16, 3) := by decide +kernel
theorem dX4_keenestPair_29 : decode cX4_keenestPair 29 = .ok (.aload_n 0, 1) := by decide +kernel
theorem dX4_keenestPair_30 : decode cX4_keenestPair 30 = .ok (.iload_n 3, 1) := by decide +kernel
theorem dX4_keenestPair_31 : decode cX4_keenestPair 31 = .ok (.invokevirtual 103, 3) := by decide +kernel
theorem dX4_keenestPair_34 : decode cX4_keenestPair 34 = .ok (.ifCond .ne 8, 3) := by decide +kernel
theorem dX4_keenestPair_37 : decode cX4_keenestPair 37 = .ok (.iload 4, 2) := by decide +kernel
theorem dX4_keenestPair_39 : decode cX4_keenestPair 39 = .ok (.istore_n 2, 1) := by decide +kernel
theorem dX4_keenestPair_40 : decode cX4_keenestPair 40 = .ok (.iload_n 3, 1) := by decide +kernel
theorem dX4_keenestPair_41 : decode cX4_keenestPair 41 = .ok (.istore_n 1, 1) := by decide +kernel
theorem dX4_keenestPair_42 : decode cX4_keenestPair 42 = .ok (.iinc 3 1, 3) := by decide +kernel
theorem dX4_keenestPair_45 : decode cX4_keenestPair 45 = .ok (.goto (-39), 3) := by decide +kernel
theorem dX4_keenestPair_48 : decode cX4_keenestPair 48 = .ok (.iload_n 1, 1) := by decide +kernel
theorem dX4_keenestPair_49 : decode cX4_keenestPair 49 = .ok (.ireturn, 1) := by decide +kernel
set_option maxRecDepth 20000 in
theorem ggX4_gain_X4_memberAt : GoodIn wsX4_gain wsX4_memberAt := goodIn_r _ [5, 6, 7, 8, 16, 17, 18, 19, 20, 21, 22, 23] (by decide +kernel) (by decide +kernel)
set_option maxRecDepth 20000 in
theorem gX4_gain_X4_memberAt : GoodIn wsX4_gain (wsV RX4 41 RX4 yX4_memberAt wsX4_memberAt) := goodIn_app (goodIn_of _ (by decide +kernel)) ggX4_gain_X4_memberAt
theorem dX4_gain_0 : decode cX4_gain 0 = .ok (.aload_n 0, 1) := by decide +kernel
theorem dX4_gain_1 : decode cX4_gain 1 = .ok (.iload_n 1, 1) := by decide +kernel
theorem dX4_gain_2 : decode cX4_gain 2 = .ok (.iconst 1, 1) := by decide +kernel
theorem dX4_gain_3 : decode cX4_gain 3 = .ok (.iadd, 1) := by decide +kernel
theorem dX4_gain_4 : decode cX4_gain 4 = .ok (.invokevirtual 41, 3) := by decide +kernel
theorem dX4_gain_7 : decode cX4_gain 7 = .ok (.getfield 67, 3) := by decide +kernel
theorem dX4_gain_10 : decode cX4_gain 10 = .ok (.aload_n 0, 1) := by decide +kernel
theorem dX4_gain_11 : decode cX4_gain 11 = .ok (.iload_n 1, 1) := by decide +kernel
theorem dX4_gain_12 : decode cX4_gain 12 = .ok (.invokevirtual 41, 3) := by decide +kernel
theorem dX4_gain_15 : decode cX4_gain 15 = .ok (.getfield 107, 3) := by decide +kernel
theorem dX4_gain_18 : decode cX4_gain 18 = .ok (.imul, 1) := by decide +kernel
theorem dX4_gain_19 : decode cX4_gain 19 = .ok (.ireturn, 1) := by decide +kernel
set_option maxRecDepth 20000 in
theorem ggX4_loss_X4_memberAt : GoodIn wsX4_loss wsX4_memberAt := goodIn_r _ [5, 6, 7, 8, 16, 17, 18, 19, 20, 21, 22, 23] (by decide +kernel) (by decide +kernel)
set_option maxRecDepth 20000 in
theorem gX4_loss_X4_memberAt : GoodIn wsX4_loss (wsV RX4 41 RX4 yX4_memberAt wsX4_memberAt) := goodIn_app (goodIn_of _ (by decide +kernel)) ggX4_loss_X4_memberAt
theorem dX4_loss_0 : decode cX4_loss 0 = .ok (.aload_n 0, 1) := by decide +kernel
theorem dX4_loss_1 : decode cX4_loss 1 = .ok (.iload_n 1, 1) := by decide +kernel
theorem dX4_loss_2 : decode cX4_loss 2 = .ok (.invokevirtual 41, 3) := by decide +kernel
theorem dX4_loss_5 : decode cX4_loss 5 = .ok (.getfield 67, 3) := by decide +kernel
theorem dX4_loss_8 : decode cX4_loss 8 = .ok (.aload_n 0, 1) := by decide +kernel
theorem dX4_loss_9 : decode cX4_loss 9 = .ok (.iload_n 1, 1) := by decide +kernel
theorem dX4_loss_10 : decode cX4_loss 10 = .ok (.iconst 1, 1) := by decide +kernel
theorem dX4_loss_11 : decode cX4_loss 11 = .ok (.iadd, 1) := by decide +kernel
theorem dX4_loss_12 : decode cX4_loss 12 = .ok (.invokevirtual 41, 3) := by decide +kernel
theorem dX4_loss_15 : decode cX4_loss 15 = .ok (.getfield 107, 3) := by decide +kernel
theorem dX4_loss_18 : decode cX4_loss 18 = .ok (.imul, 1) := by decide +kernel
theorem dX4_loss_19 : decode cX4_loss 19 = .ok (.ireturn, 1) := by decide +kernel
set_option maxRecDepth 20000 in
theorem ggX4_surplus_X4_memberAt : GoodIn wsX4_surplus wsX4_memberAt := goodIn_r _ [5, 6, 7, 8, 16, 17, 18, 19, 20, 21, 22, 23] (by decide +kernel) (by decide +kernel)
set_option maxRecDepth 20000 in
theorem gX4_surplus_X4_memberAt : GoodIn wsX4_surplus (wsV RX4 41 RX4 yX4_memberAt wsX4_memberAt) := goodIn_app (goodIn_of _ (by decide +kernel)) ggX4_surplus_X4_memberAt
theorem dX4_surplus_0 : decode cX4_surplus 0 = .ok (.aload_n 0, 1) := by decide +kernel
theorem dX4_surplus_1 : decode cX4_surplus 1 = .ok (.iload_n 1, 1) := by decide +kernel
theorem dX4_surplus_2 : decode cX4_surplus 2 = .ok (.invokevirtual 41, 3) := by decide +kernel
theorem dX4_surplus_5 : decode cX4_surplus 5 = .ok (.astore_n 2, 1) := by decide +kernel
theorem dX4_surplus_6 : decode cX4_surplus 6 = .ok (.aload_n 0, 1) := by decide +kernel
theorem dX4_surplus_7 : decode cX4_surplus 7 = .ok (.iload_n 1, 1) := by decide +kernel
theorem dX4_surplus_8 : decode cX4_surplus 8 = .ok (.iconst 1, 1) := by decide +kernel
theorem dX4_surplus_9 : decode cX4_surplus 9 = .ok (.iadd, 1) := by decide +kernel
theorem dX4_surplus_10 : decode cX4_surplus 10 = .ok (.invokevirtual 41, 3) := by decide +kernel
theorem dX4_surplus_13 : decode cX4_surplus 13 = .ok (.astore_n 3, 1) := by decide +kernel
theorem dX4_surplus_14 : decode cX4_surplus 14 = .ok (.aload_n 3, 1) := by decide +kernel
theorem dX4_surplus_15 : decode cX4_surplus 15 = .ok (.getfield 67, 3) := by decide +kernel
theorem dX4_surplus_18 : decode cX4_surplus 18 = .ok (.aload_n 2, 1) := by decide +kernel
theorem dX4_surplus_19 : decode cX4_surplus 19 = .ok (.getfield 107, 3) := by decide +kernel
theorem dX4_surplus_22 : decode cX4_surplus 22 = .ok (.imul, 1) := by decide +kernel
theorem dX4_surplus_23 : decode cX4_surplus 23 = .ok (.aload_n 2, 1) := by decide +kernel
theorem dX4_surplus_24 : decode cX4_surplus 24 = .ok (.getfield 67, 3) := by decide +kernel
theorem dX4_surplus_27 : decode cX4_surplus 27 = .ok (.aload_n 3, 1) := by decide +kernel
theorem dX4_surplus_28 : decode cX4_surplus 28 = .ok (.getfield 107, 3) := by decide +kernel
theorem dX4_surplus_31 : decode cX4_surplus 31 = .ok (.imul, 1) := by decide +kernel
theorem dX4_surplus_32 : decode cX4_surplus 32 = .ok (.isub, 1) := by decide +kernel
theorem dX4_surplus_33 : decode cX4_surplus 33 = .ok (.ireturn, 1) := by decide +kernel
set_option maxRecDepth 20000 in
theorem ggX4_fairPrice_X4_memberAt : GoodIn wsX4_fairPrice wsX4_memberAt := goodIn_r _ [6, 7, 8, 9, 17, 18, 19, 20, 21, 22, 23, 24] (by decide +kernel) (by decide +kernel)
set_option maxRecDepth 20000 in
theorem gX4_fairPrice_X4_memberAt : GoodIn wsX4_fairPrice (wsV RX4 41 RX4 yX4_memberAt wsX4_memberAt) := goodIn_app (goodIn_of _ (by decide +kernel)) ggX4_fairPrice_X4_memberAt
theorem dX4_fairPrice_0 : decode cX4_fairPrice 0 = .ok (.aload_n 0, 1) := by decide +kernel
theorem dX4_fairPrice_1 : decode cX4_fairPrice 1 = .ok (.iload_n 1, 1) := by decide +kernel
theorem dX4_fairPrice_2 : decode cX4_fairPrice 2 = .ok (.invokevirtual 41, 3) := by decide +kernel
theorem dX4_fairPrice_5 : decode cX4_fairPrice 5 = .ok (.astore_n 2, 1) := by decide +kernel
theorem dX4_fairPrice_6 : decode cX4_fairPrice 6 = .ok (.aload_n 0, 1) := by decide +kernel
theorem dX4_fairPrice_7 : decode cX4_fairPrice 7 = .ok (.iload_n 1, 1) := by decide +kernel
theorem dX4_fairPrice_8 : decode cX4_fairPrice 8 = .ok (.iconst 1, 1) := by decide +kernel
theorem dX4_fairPrice_9 : decode cX4_fairPrice 9 = .ok (.iadd, 1) := by decide +kernel
theorem dX4_fairPrice_10 : decode cX4_fairPrice 10 = .ok (.invokevirtual 41, 3) := by decide +kernel
theorem dX4_fairPrice_13 : decode cX4_fairPrice 13 = .ok (.astore_n 3, 1) := by decide +kernel
theorem dX4_fairPrice_14 : decode cX4_fairPrice 14 = .ok (.aload_n 2, 1) := by decide +kernel
theorem dX4_fairPrice_15 : decode cX4_fairPrice 15 = .ok (.getfield 67, 3) := by decide +kernel
theorem dX4_fairPrice_18 : decode cX4_fairPrice 18 = .ok (.aload_n 3, 1) := by decide +kernel
theorem dX4_fairPrice_19 : decode cX4_fairPrice 19 = .ok (.getfield 107, 3) := by decide +kernel
theorem dX4_fairPrice_22 : decode cX4_fairPrice 22 = .ok (.imul, 1) := by decide +kernel
theorem dX4_fairPrice_23 : decode cX4_fairPrice 23 = .ok (.istore 4, 2) := by decide +kernel
theorem dX4_fairPrice_25 : decode cX4_fairPrice 25 = .ok (.aload_n 3, 1) := by decide +kernel
theorem dX4_fairPrice_26 : decode cX4_fairPrice 26 = .ok (.getfield 67, 3) := by decide +kernel
theorem dX4_fairPrice_29 : decode cX4_fairPrice 29 = .ok (.aload_n 2, 1) := by decide +kernel
theorem dX4_fairPrice_30 : decode cX4_fairPrice 30 = .ok (.getfield 107, 3) := by decide +kernel
theorem dX4_fairPrice_33 : decode cX4_fairPrice 33 = .ok (.imul, 1) := by decide +kernel
theorem dX4_fairPrice_34 : decode cX4_fairPrice 34 = .ok (.iload 4, 2) := by decide +kernel
theorem dX4_fairPrice_36 : decode cX4_fairPrice 36 = .ok (.isub, 1) := by decide +kernel
theorem dX4_fairPrice_37 : decode cX4_fairPrice 37 = .ok (.istore 5, 2) := by decide +kernel
theorem dX4_fairPrice_39 : decode cX4_fairPrice 39 = .ok (.iload 5, 2) := by decide +kernel
theorem dX4_fairPrice_41 : decode cX4_fairPrice 41 = .ok (.ifCond .le 19, 3) := by decide +kernel
theorem dX4_fairPrice_44 : decode cX4_fairPrice 44 = .ok (.iload 4, 2) := by decide +kernel
theorem dX4_fairPrice_46 : decode cX4_fairPrice 46 = .ok (.iload 5, 2) := by decide +kernel
theorem dX4_fairPrice_48 : decode cX4_fairPrice 48 = .ok (.aload_n 0, 1) := by decide +kernel
theorem dX4_fairPrice_49 : decode cX4_fairPrice 49 = .ok (.getfield 22, 3) := by decide +kernel
theorem dX4_fairPrice_52 : decode cX4_fairPrice 52 = .ok (.imul, 1) := by decide +kernel
theorem dX4_fairPrice_53 : decode cX4_fairPrice 53 = .ok (.bipush 100, 2) := by decide +kernel
theorem dX4_fairPrice_55 : decode cX4_fairPrice 55 = .ok (.idiv, 1) := by decide +kernel
theorem dX4_fairPrice_56 : decode cX4_fairPrice 56 = .ok (.iadd, 1) := by decide +kernel
theorem dX4_fairPrice_57 : decode cX4_fairPrice 57 = .ok (.goto 4, 3) := by decide +kernel
theorem dX4_fairPrice_60 : decode cX4_fairPrice 60 = .ok (.iconst (-1), 1) := by decide +kernel
theorem dX4_fairPrice_61 : decode cX4_fairPrice 61 = .ok (.ireturn, 1) := by decide +kernel
set_option maxRecDepth 20000 in
theorem ggX4_areFriends_X4_memberAt : GoodIn wsX4_areFriends wsX4_memberAt := goodIn_r _ [5, 6, 7, 8, 16, 17, 18, 19, 20, 21, 22, 23] (by decide +kernel) (by decide +kernel)
set_option maxRecDepth 20000 in
theorem gX4_areFriends_X4_memberAt : GoodIn wsX4_areFriends (wsV RX4 41 RX4 yX4_memberAt wsX4_memberAt) := goodIn_app (goodIn_of _ (by decide +kernel)) ggX4_areFriends_X4_memberAt
theorem dX4_areFriends_0 : decode cX4_areFriends 0 = .ok (.aload_n 0, 1) := by decide +kernel
theorem dX4_areFriends_1 : decode cX4_areFriends 1 = .ok (.iload_n 1, 1) := by decide +kernel
theorem dX4_areFriends_2 : decode cX4_areFriends 2 = .ok (.iconst 1, 1) := by decide +kernel
theorem dX4_areFriends_3 : decode cX4_areFriends 3 = .ok (.iadd, 1) := by decide +kernel
theorem dX4_areFriends_4 : decode cX4_areFriends 4 = .ok (.invokevirtual 41, 3) := by decide +kernel
theorem dX4_areFriends_7 : decode cX4_areFriends 7 = .ok (.getfield 76, 3) := by decide +kernel
theorem dX4_areFriends_10 : decode cX4_areFriends 10 = .ok (.ireturn, 1) := by decide +kernel
set_option maxRecDepth 20000 in
theorem ggX4_isHeldByFriends_X4_memberAt : GoodIn wsX4_isHeldByFriends wsX4_memberAt := goodIn_r _ [5, 6, 7, 8, 16, 17, 18, 19, 20, 21, 22, 23] (by decide +kernel) (by decide +kernel)
set_option maxRecDepth 20000 in
theorem gX4_isHeldByFriends_X4_memberAt : GoodIn wsX4_isHeldByFriends (wsV RX4 41 RX4 yX4_memberAt wsX4_memberAt) := goodIn_app (goodIn_of _ (by decide +kernel)) ggX4_isHeldByFriends_X4_memberAt
theorem dX4_isHeldByFriends_0 : decode cX4_isHeldByFriends 0 = .ok (.aload_n 0, 1) := by decide +kernel
theorem dX4_isHeldByFriends_1 : decode cX4_isHeldByFriends 1 = .ok (.iload_n 1, 1) := by decide +kernel
theorem dX4_isHeldByFriends_2 : decode cX4_isHeldByFriends 2 = .ok (.invokevirtual 41, 3) := by decide +kernel
theorem dX4_isHeldByFriends_5 : decode cX4_isHeldByFriends 5 = .ok (.getfield 76, 3) := by decide +kernel
theorem dX4_isHeldByFriends_8 : decode cX4_isHeldByFriends 8 = .ok (.ifCond .ne 29, 3) := by decide +kernel
theorem dX4_isHeldByFriends_11 : decode cX4_isHeldByFriends 11 = .ok (.aload_n 0, 1) := by decide +kernel
theorem dX4_isHeldByFriends_12 : decode cX4_isHeldByFriends 12 = .ok (.iload_n 1, 1) := by decide +kernel
theorem dX4_isHeldByFriends_13 : decode cX4_isHeldByFriends 13 = .ok (.iconst 1, 1) := by decide +kernel
theorem dX4_isHeldByFriends_14 : decode cX4_isHeldByFriends 14 = .ok (.iadd, 1) := by decide +kernel
theorem dX4_isHeldByFriends_15 : decode cX4_isHeldByFriends 15 = .ok (.invokevirtual 41, 3) := by decide +kernel
theorem dX4_isHeldByFriends_18 : decode cX4_isHeldByFriends 18 = .ok (.getfield 76, 3) := by decide +kernel
theorem dX4_isHeldByFriends_21 : decode cX4_isHeldByFriends 21 = .ok (.ifCond .ne 16, 3) := by decide +kernel
theorem dX4_isHeldByFriends_24 : decode cX4_isHeldByFriends 24 = .ok (.aload_n 0, 1) := by decide +kernel
theorem dX4_isHeldByFriends_25 : decode cX4_isHeldByFriends 25 = .ok (.iload_n 1, 1) := by decide +kernel
theorem dX4_isHeldByFriends_26 : decode cX4_isHeldByFriends 26 = .ok (.iconst 2, 1) := by decide +kernel
theorem dX4_isHeldByFriends_27 : decode cX4_isHeldByFriends 27 = .ok (.iadd, 1) := by decide +kernel
theorem dX4_isHeldByFriends_28 : decode cX4_isHeldByFriends 28 = .ok (.invokevirtual 41, 3) := by decide +kernel
theorem dX4_isHeldByFriends_31 : decode cX4_isHeldByFriends 31 = .ok (.getfield 76, 3) := by decide +kernel
theorem dX4_isHeldByFriends_34 : decode cX4_isHeldByFriends 34 = .ok (.ifCond .eq 7, 3) := by decide +kernel
theorem dX4_isHeldByFriends_37 : decode cX4_isHeldByFriends 37 = .ok (.iconst 1, 1) := by decide +kernel
theorem dX4_isHeldByFriends_38 : decode cX4_isHeldByFriends 38 = .ok (.goto 4, 3) := by decide +kernel
theorem dX4_isHeldByFriends_41 : decode cX4_isHeldByFriends 41 = .ok (.iconst 0, 1) := by decide +kernel
theorem dX4_isHeldByFriends_42 : decode cX4_isHeldByFriends 42 = .ok (.ireturn, 1) := by decide +kernel
set_option maxRecDepth 20000 in
theorem ggX4_wouldSwap_X4_hindrance : GoodIn wsX4_wouldSwap wsX4_hindrance := goodIn_r _ [5, 6, 7, 8, 4, 9, 10, 11, 12, 13, 14, 15, 16, 17, 18, 19, 20, 21, 22, 23, 24, 25, 26, 27, 28, 29, 30, 31, 32, 33, 34, 35] (by decide +kernel) (by decide +kernel)
set_option maxRecDepth 20000 in
theorem gX4_wouldSwap_X4_hindrance : GoodIn wsX4_wouldSwap (wsV RX4 110 RX4 yX4_hindrance wsX4_hindrance) := goodIn_app (goodIn_of _ (by decide +kernel)) ggX4_wouldSwap_X4_hindrance
theorem dX4_wouldSwap_0 : decode cX4_wouldSwap 0 = .ok (.aload_n 0, 1) := by decide +kernel
theorem dX4_wouldSwap_1 : decode cX4_wouldSwap 1 = .ok (.iload_n 1, 1) := by decide +kernel
theorem dX4_wouldSwap_2 : decode cX4_wouldSwap 2 = .ok (.invokevirtual 110, 3) := by decide +kernel
theorem dX4_wouldSwap_5 : decode cX4_wouldSwap 5 = .ok (.ifCond .ne 7, 3) := by decide +kernel
theorem dX4_wouldSwap_8 : decode cX4_wouldSwap 8 = .ok (.iconst 1, 1) := by decide +kernel
theorem dX4_wouldSwap_9 : decode cX4_wouldSwap 9 = .ok (.goto 4, 3) := by decide +kernel
theorem dX4_wouldSwap_12 : decode cX4_wouldSwap 12 = .ok (.iconst 0, 1) := by decide +kernel
theorem dX4_wouldSwap_13 : decode cX4_wouldSwap 13 = .ok (.ireturn, 1) := by decide +kernel
set_option maxRecDepth 20000 in
theorem ggX4_wouldTake_X4_memberAt : GoodIn wsX4_wouldTake wsX4_memberAt := goodIn_r _ [5, 6, 7, 8, 24, 25, 26, 27, 28, 29, 30, 31] (by decide +kernel) (by decide +kernel)
set_option maxRecDepth 20000 in
theorem gX4_wouldTake_X4_memberAt : GoodIn wsX4_wouldTake (wsV RX4 41 RX4 yX4_memberAt wsX4_memberAt) := goodIn_app (goodIn_of _ (by decide +kernel)) ggX4_wouldTake_X4_memberAt
set_option maxRecDepth 20000 in
theorem ggX4_wouldTake_X4_loss : GoodIn wsX4_wouldTake wsX4_loss := goodIn_r _ [12, 1, 2, 3, 4, 5, 6, 7, 8, 17, 18, 19, 20, 21, 22, 23, 24, 25, 26, 27, 28, 29, 30, 31] (by decide +kernel) (by decide +kernel)
set_option maxRecDepth 20000 in
theorem gX4_wouldTake_X4_loss : GoodIn wsX4_wouldTake (wsV RX4 113 RX4 yX4_loss wsX4_loss) := goodIn_app (goodIn_of _ (by decide +kernel)) ggX4_wouldTake_X4_loss
set_option maxRecDepth 20000 in
theorem ggX4_wouldTake_X4_isHeldByFriends : GoodIn wsX4_wouldTake wsX4_isHeldByFriends := goodIn_r _ [16, 1, 2, 3, 4, 5, 6, 7, 8, 17, 18, 19, 20, 21, 22, 23, 24, 25, 26, 27, 28, 29, 30, 31] (by decide +kernel) (by decide +kernel)
set_option maxRecDepth 20000 in
theorem gX4_wouldTake_X4_isHeldByFriends : GoodIn wsX4_wouldTake (wsV RX4 103 RX4 yX4_isHeldByFriends wsX4_isHeldByFriends) := goodIn_app (goodIn_of _ (by decide +kernel)) ggX4_wouldTake_X4_isHeldByFriends
theorem dX4_wouldTake_0 : decode cX4_wouldTake 0 = .ok (.aload_n 0, 1) := by decide +kernel
theorem dX4_wouldTake_1 : decode cX4_wouldTake 1 = .ok (.iload_n 1, 1) := by decide +kernel
theorem dX4_wouldTake_2 : decode cX4_wouldTake 2 = .ok (.iconst 1, 1) := by decide +kernel
theorem dX4_wouldTake_3 : decode cX4_wouldTake 3 = .ok (.iadd, 1) := by decide +kernel
theorem dX4_wouldTake_4 : decode cX4_wouldTake 4 = .ok (.invokevirtual 41, 3) := by decide +kernel
theorem dX4_wouldTake_7 : decode cX4_wouldTake 7 = .ok (.getfield 73, 3) := by decide +kernel
theorem dX4_wouldTake_10 : decode cX4_wouldTake 10 = .ok (.istore_n 2, 1) := by decide +kernel
theorem dX4_wouldTake_11 : decode cX4_wouldTake 11 = .ok (.iload_n 2, 1) := by decide +kernel
theorem dX4_wouldTake_12 : decode cX4_wouldTake 12 = .ok (.iconst (-1), 1) := by decide +kernel
theorem dX4_wouldTake_13 : decode cX4_wouldTake 13 = .ok (.if_icmp .eq 24, 3) := by decide +kernel
theorem dX4_wouldTake_16 : decode cX4_wouldTake 16 = .ok (.iload_n 2, 1) := by decide +kernel
theorem dX4_wouldTake_17 : decode cX4_wouldTake 17 = .ok (.aload_n 0, 1) := by decide +kernel
theorem dX4_wouldTake_18 : decode cX4_wouldTake 18 = .ok (.iload_n 1, 1) := by decide +kernel
theorem dX4_wouldTake_19 : decode cX4_wouldTake 19 = .ok (.invokevirtual 113, 3) := by decide +kernel
theorem dX4_wouldTake_22 : decode cX4_wouldTake 22 = .ok (.if_icmp .lt 15, 3) := by decide +kernel
theorem dX4_wouldTake_25 : decode cX4_wouldTake 25 = .ok (.aload_n 0, 1) := by decide +kernel
theorem dX4_wouldTake_26 : decode cX4_wouldTake 26 = .ok (.iload_n 1, 1) := by decide +kernel
theorem dX4_wouldTake_27 : decode cX4_wouldTake 27 = .ok (.invokevirtual 103, 3) := by decide +kernel
theorem dX4_wouldTake_30 : decode cX4_wouldTake 30 = .ok (.ifCond .ne 7, 3) := by decide +kernel
theorem dX4_wouldTake_33 : decode cX4_wouldTake 33 = .ok (.iconst 1, 1) := by decide +kernel
theorem dX4_wouldTake_34 : decode cX4_wouldTake 34 = .ok (.goto 4, 3) := by decide +kernel
theorem dX4_wouldTake_37 : decode cX4_wouldTake 37 = .ok (.iconst 0, 1) := by decide +kernel
theorem dX4_wouldTake_38 : decode cX4_wouldTake 38 = .ok (.ireturn, 1) := by decide +kernel
set_option maxRecDepth 20000 in
theorem ggX4_hindrance_X4_areFriends : GoodIn wsX4_hindrance wsX4_areFriends := goodIn_r _ [5, 6, 7, 8, 4, 9, 10, 11, 12, 17, 18, 19, 20, 21, 22, 23, 24, 25, 26, 27, 28, 29, 30, 31] (by decide +kernel) (by decide +kernel)
set_option maxRecDepth 20000 in
theorem gX4_hindrance_X4_areFriends : GoodIn wsX4_hindrance (wsV RX4 116 RX4 yX4_areFriends wsX4_areFriends) := goodIn_app (goodIn_of _ (by decide +kernel)) ggX4_hindrance_X4_areFriends
set_option maxRecDepth 20000 in
theorem ggX4_hindrance_X4_surplus : GoodIn wsX4_hindrance wsX4_surplus := goodIn_r _ [16, 6, 7, 8, 4, 9, 10, 11, 12, 17, 18, 19, 20, 21, 22, 23, 24, 25, 26, 27, 28, 29, 30, 31] (by decide +kernel) (by decide +kernel)
set_option maxRecDepth 20000 in
theorem gX4_hindrance_X4_surplus : GoodIn wsX4_hindrance (wsV RX4 100 RX4 yX4_surplus wsX4_surplus) := goodIn_app (goodIn_of _ (by decide +kernel)) ggX4_hindrance_X4_surplus
theorem dX4_hindrance_0 : decode cX4_hindrance 0 = .ok (.aload_n 0, 1) := by decide +kernel
theorem dX4_hindrance_1 : decode cX4_hindrance 1 = .ok (.iload_n 1, 1) := by decide +kernel
theorem dX4_hindrance_2 : decode cX4_hindrance 2 = .ok (.invokevirtual 116, 3) := by decide +kernel
theorem dX4_hindrance_5 : decode cX4_hindrance 5 = .ok (.ifCond .eq 5, 3) := by decide +kernel
theorem dX4_hindrance_8 : decode cX4_hindrance 8 = .ok (.iconst 1, 1) := by decide +kernel
theorem dX4_hindrance_9 : decode cX4_hindrance 9 = .ok (.ireturn, 1) := by decide +kernel
theorem dX4_hindrance_10 : decode cX4_hindrance 10 = .ok (.aload_n 0, 1) := by decide +kernel
theorem dX4_hindrance_11 : decode cX4_hindrance 11 = .ok (.iload_n 1, 1) := by decide +kernel
theorem dX4_hindrance_12 : decode cX4_hindrance 12 = .ok (.iconst 1, 1) := by decide +kernel
theorem dX4_hindrance_13 : decode cX4_hindrance 13 = .ok (.isub, 1) := by decide +kernel
theorem dX4_hindrance_14 : decode cX4_hindrance 14 = .ok (.invokevirtual 116, 3) := by decide +kernel
theorem dX4_hindrance_17 : decode cX4_hindrance 17 = .ok (.ifCond .eq 5, 3) := by decide +kernel
theorem dX4_hindrance_20 : decode cX4_hindrance 20 = .ok (.iconst 2, 1) := by decide +kernel
theorem dX4_hindrance_21 : decode cX4_hindrance 21 = .ok (.ireturn, 1) := by decide +kernel
theorem dX4_hindrance_22 : decode cX4_hindrance 22 = .ok (.aload_n 0, 1) := by decide +kernel
theorem dX4_hindrance_23 : decode cX4_hindrance 23 = .ok (.iload_n 1, 1) := by decide +kernel
theorem dX4_hindrance_24 : decode cX4_hindrance 24 = .ok (.iconst 1, 1) := by decide +kernel
theorem dX4_hindrance_25 : decode cX4_hindrance 25 = .ok (.iadd, 1) := by decide +kernel
theorem dX4_hindrance_26 : decode cX4_hindrance 26 = .ok (.invokevirtual 116, 3) := by decide +kernel
theorem dX4_hindrance_29 : decode cX4_hindrance 29 = .ok (.ifCond .eq 5, 3) := by decide +kernel
theorem dX4_hindrance_32 : decode cX4_hindrance 32 = .ok (.iconst 3, 1) := by decide +kernel
theorem dX4_hindrance_33 : decode cX4_hindrance 33 = .ok (.ireturn, 1) := by decide +kernel
theorem dX4_hindrance_34 : decode cX4_hindrance 34 = .ok (.aload_n 0, 1) := by decide +kernel
theorem dX4_hindrance_35 : decode cX4_hindrance 35 = .ok (.iload_n 1, 1) := by decide +kernel
theorem dX4_hindrance_36 : decode cX4_hindrance 36 = .ok (.invokevirtual 100, 3) := by decide +kernel
theorem dX4_hindrance_39 : decode cX4_hindrance 39 = .ok (.ifCond .le 7, 3) := by decide +kernel
theorem dX4_hindrance_42 : decode cX4_hindrance 42 = .ok (.iconst 0, 1) := by decide +kernel
theorem dX4_hindrance_43 : decode cX4_hindrance 43 = .ok (.goto 4, 3) := by decide +kernel
theorem dX4_hindrance_46 : decode cX4_hindrance 46 = .ok (.iconst 4, 1) := by decide +kernel
theorem dX4_hindrance_47 : decode cX4_hindrance 47 = .ok (.ireturn, 1) := by decide +kernel
set_option maxRecDepth 20000 in
theorem ggX4_pairValue_X4_gain : GoodIn wsX4_pairValue wsX4_gain := goodIn_r _ [5, 6, 7, 8, 4, 9, 10, 11, 12, 30, 31, 32, 33, 34, 35, 36, 37, 38, 39, 40, 41, 42, 43, 44] (by decide +kernel) (by decide +kernel)
set_option maxRecDepth 20000 in
theorem gX4_pairValue_X4_gain : GoodIn wsX4_pairValue (wsV RX4 119 RX4 yX4_gain wsX4_gain) := goodIn_app (goodIn_of _ (by decide +kernel)) ggX4_pairValue_X4_gain
set_option maxRecDepth 20000 in
theorem ggX4_pairValue_X4_loss : GoodIn wsX4_pairValue wsX4_loss := goodIn_r _ [16, 6, 7, 8, 4, 9, 10, 11, 12, 30, 31, 32, 33, 34, 35, 36, 37, 38, 39, 40, 41, 42, 43, 44] (by decide +kernel) (by decide +kernel)
set_option maxRecDepth 20000 in
theorem gX4_pairValue_X4_loss : GoodIn wsX4_pairValue (wsV RX4 113 RX4 yX4_loss wsX4_loss) := goodIn_app (goodIn_of _ (by decide +kernel)) ggX4_pairValue_X4_loss
set_option maxRecDepth 20000 in
theorem ggX4_pairValue_X4_surplus : GoodIn wsX4_pairValue wsX4_surplus := goodIn_r _ [20, 6, 7, 8, 4, 9, 10, 11, 12, 30, 31, 32, 33, 34, 35, 36, 37, 38, 39, 40, 41, 42, 43, 44] (by decide +kernel) (by decide +kernel)
set_option maxRecDepth 20000 in
theorem gX4_pairValue_X4_surplus : GoodIn wsX4_pairValue (wsV RX4 100 RX4 yX4_surplus wsX4_surplus) := goodIn_app (goodIn_of _ (by decide +kernel)) ggX4_pairValue_X4_surplus
set_option maxRecDepth 20000 in
theorem ggX4_pairValue_X4_fairPrice : GoodIn wsX4_pairValue wsX4_fairPrice := goodIn_r _ [24, 25, 6, 7, 8, 4, 9, 10, 11, 12, 30, 31, 32, 33, 34, 35, 36, 37, 38, 39, 40, 41, 42, 43, 44] (by decide +kernel) (by decide +kernel)
set_option maxRecDepth 20000 in
theorem gX4_pairValue_X4_fairPrice : GoodIn wsX4_pairValue (wsV RX4 88 RX4 yX4_fairPrice wsX4_fairPrice) := goodIn_app (goodIn_of _ (by decide +kernel)) ggX4_pairValue_X4_fairPrice
set_option maxRecDepth 20000 in
theorem ggX4_pairValue_X4_areFriends : GoodIn wsX4_pairValue wsX4_areFriends := goodIn_r _ [29, 6, 7, 8, 4, 9, 10, 11, 12, 30, 31, 32, 33, 34, 35, 36, 37, 38, 39, 40, 41, 42, 43, 44] (by decide +kernel) (by decide +kernel)
set_option maxRecDepth 20000 in
theorem gX4_pairValue_X4_areFriends : GoodIn wsX4_pairValue (wsV RX4 116 RX4 yX4_areFriends wsX4_areFriends) := goodIn_app (goodIn_of _ (by decide +kernel)) ggX4_pairValue_X4_areFriends
theorem dX4_pairValue_0 : decode cX4_pairValue 0 = .ok (.iload_n 2, 1) := by decide +kernel
theorem dX4_pairValue_1 : decode cX4_pairValue 1 = .ok (.tableswitch 55 0 3 #[31, 37, 43, 49], 31) := by decide +kernel
theorem dX4_pairValue_32 : decode cX4_pairValue 32 = .ok (.aload_n 0, 1) := by decide +kernel
theorem dX4_pairValue_33 : decode cX4_pairValue 33 = .ok (.iload_n 1, 1) := by decide +kernel
theorem dX4_pairValue_34 : decode cX4_pairValue 34 = .ok (.invokevirtual 119, 3) := by decide +kernel
theorem dX4_pairValue_37 : decode cX4_pairValue 37 = .ok (.ireturn, 1) := by decide +kernel
theorem dX4_pairValue_38 : decode cX4_pairValue 38 = .ok (.aload_n 0, 1) := by decide +kernel
theorem dX4_pairValue_39 : decode cX4_pairValue 39 = .ok (.iload_n 1, 1) := by decide +kernel
theorem dX4_pairValue_40 : decode cX4_pairValue 40 = .ok (.invokevirtual 113, 3) := by decide +kernel
theorem dX4_pairValue_43 : decode cX4_pairValue 43 = .ok (.ireturn, 1) := by decide +kernel
theorem dX4_pairValue_44 : decode cX4_pairValue 44 = .ok (.aload_n 0, 1) := by decide +kernel
theorem dX4_pairValue_45 : decode cX4_pairValue 45 = .ok (.iload_n 1, 1) := by decide +kernel
theorem dX4_pairValue_46 : decode cX4_pairValue 46 = .ok (.invokevirtual 100, 3) := by decide +kernel
theorem dX4_pairValue_49 : decode cX4_pairValue 49 = .ok (.ireturn, 1) := by decide +kernel
theorem dX4_pairValue_50 : decode cX4_pairValue 50 = .ok (.aload_n 0, 1) := by decide +kernel
theorem dX4_pairValue_51 : decode cX4_pairValue 51 = .ok (.iload_n 1, 1) := by decide +kernel
theorem dX4_pairValue_52 : decode cX4_pairValue 52 = .ok (.invokevirtual 88, 3) := by decide +kernel
theorem dX4_pairValue_55 : decode cX4_pairValue 55 = .ok (.ireturn, 1) := by decide +kernel
theorem dX4_pairValue_56 : decode cX4_pairValue 56 = .ok (.aload_n 0, 1) := by decide +kernel
theorem dX4_pairValue_57 : decode cX4_pairValue 57 = .ok (.iload_n 1, 1) := by decide +kernel
theorem dX4_pairValue_58 : decode cX4_pairValue 58 = .ok (.invokevirtual 116, 3) := by decide +kernel
theorem dX4_pairValue_61 : decode cX4_pairValue 61 = .ok (.ifCond .eq 7, 3) := by decide +kernel
theorem dX4_pairValue_64 : decode cX4_pairValue 64 = .ok (.iconst 1, 1) := by decide +kernel
theorem dX4_pairValue_65 : decode cX4_pairValue 65 = .ok (.goto 4, 3) := by decide +kernel
theorem dX4_pairValue_68 : decode cX4_pairValue 68 = .ok (.iconst 0, 1) := by decide +kernel
theorem dX4_pairValue_69 : decode cX4_pairValue 69 = .ok (.ireturn, 1) := by decide +kernel
set_option maxRecDepth 20000 in
theorem ggX4_waitAt_X4_memberAt : GoodIn wsX4_waitAt wsX4_memberAt := goodIn_r _ [6, 1, 7, 8, 9, 10, 11, 12, 13, 14, 15, 16] (by decide +kernel) (by decide +kernel)
set_option maxRecDepth 20000 in
theorem gX4_waitAt_X4_memberAt : GoodIn wsX4_waitAt (wsV RX4 41 RX4 yX4_memberAt wsX4_memberAt) := goodIn_app (goodIn_of _ (by decide +kernel)) ggX4_waitAt_X4_memberAt
theorem dX4_waitAt_0 : decode cX4_waitAt 0 = .ok (.iconst 0, 1) := by decide +kernel
theorem dX4_waitAt_1 : decode cX4_waitAt 1 = .ok (.istore_n 2, 1) := by decide +kernel
theorem dX4_waitAt_2 : decode cX4_waitAt 2 = .ok (.iconst 0, 1) := by decide +kernel
theorem dX4_waitAt_3 : decode cX4_waitAt 3 = .ok (.istore_n 3, 1) := by decide +kernel
theorem dX4_waitAt_4 : decode cX4_waitAt 4 = .ok (.iload_n 3, 1) := by decide +kernel
theorem dX4_waitAt_5 : decode cX4_waitAt 5 = .ok (.iload_n 1, 1) := by decide +kernel
theorem dX4_waitAt_6 : decode cX4_waitAt 6 = .ok (.if_icmp .ge 28, 3) := by decide +kernel
theorem dX4_waitAt_9 : decode cX4_waitAt 9 = .ok (.iload_n 3, 1) := by decide +kernel
theorem dX4_waitAt_10 : decode cX4_waitAt 10 = .ok (.aload_n 0, 1) := by decide +kernel
theorem dX4_waitAt_11 : decode cX4_waitAt 11 = .ok (.getfield 26, 3) := by decide +kernel
theorem dX4_waitAt_14 : decode cX4_waitAt 14 = .ok (.if_icmp .ge 20, 3) := by decide +kernel
theorem dX4_waitAt_17 : decode cX4_waitAt 17 = .ok (.iload_n 2, 1) := by decide +kernel
theorem dX4_waitAt_18 : decode cX4_waitAt 18 = .ok (.aload_n 0, 1) := by decide +kernel
theorem dX4_waitAt_19 : decode cX4_waitAt 19 = .ok (.iload_n 3, 1) := by decide +kernel
theorem dX4_waitAt_20 : decode cX4_waitAt 20 = .ok (.invokevirtual 41, 3) := by decide +kernel
theorem dX4_waitAt_23 : decode cX4_waitAt 23 = .ok (.getfield 107, 3) := by decide +kernel
theorem dX4_waitAt_26 : decode cX4_waitAt 26 = .ok (.iadd, 1) := by decide +kernel
theorem dX4_waitAt_27 : decode cX4_waitAt 27 = .ok (.istore_n 2, 1) := by decide +kernel
theorem dX4_waitAt_28 : decode cX4_waitAt 28 = .ok (.iinc 3 1, 3) := by decide +kernel
theorem dX4_waitAt_31 : decode cX4_waitAt 31 = .ok (.goto (-27), 3) := by decide +kernel
theorem dX4_waitAt_34 : decode cX4_waitAt 34 = .ok (.iload_n 2, 1) := by decide +kernel
theorem dX4_waitAt_35 : decode cX4_waitAt 35 = .ok (.ireturn, 1) := by decide +kernel
set_option maxRecDepth 20000 in
theorem ggX4_costAt_X4_memberAt : GoodIn wsX4_costAt wsX4_memberAt := goodIn_r _ [5, 6, 7, 8, 20, 21, 22, 23, 24, 25, 26, 27] (by decide +kernel) (by decide +kernel)
set_option maxRecDepth 20000 in
theorem gX4_costAt_X4_memberAt : GoodIn wsX4_costAt (wsV RX4 41 RX4 yX4_memberAt wsX4_memberAt) := goodIn_app (goodIn_of _ (by decide +kernel)) ggX4_costAt_X4_memberAt
set_option maxRecDepth 20000 in
theorem ggX4_costAt_X4_waitAt : GoodIn wsX4_costAt wsX4_waitAt := goodIn_r _ [12, 6, 1, 2, 3, 4, 5, 7, 8, 20, 21, 22, 23, 24, 25, 26, 27, 13, 14, 15, 16, 17, 18, 19] (by decide +kernel) (by decide +kernel)
set_option maxRecDepth 20000 in
theorem gX4_costAt_X4_waitAt : GoodIn wsX4_costAt (wsV RX4 122 RX4 yX4_waitAt wsX4_waitAt) := goodIn_app (goodIn_of _ (by decide +kernel)) ggX4_costAt_X4_waitAt
theorem dX4_costAt_0 : decode cX4_costAt 0 = .ok (.aload_n 0, 1) := by decide +kernel
theorem dX4_costAt_1 : decode cX4_costAt 1 = .ok (.iload_n 1, 1) := by decide +kernel
theorem dX4_costAt_2 : decode cX4_costAt 2 = .ok (.invokevirtual 41, 3) := by decide +kernel
theorem dX4_costAt_5 : decode cX4_costAt 5 = .ok (.getfield 70, 3) := by decide +kernel
theorem dX4_costAt_8 : decode cX4_costAt 8 = .ok (.aload_n 0, 1) := by decide +kernel
theorem dX4_costAt_9 : decode cX4_costAt 9 = .ok (.iload_n 1, 1) := by decide +kernel
theorem dX4_costAt_10 : decode cX4_costAt 10 = .ok (.invokevirtual 122, 3) := by decide +kernel
theorem dX4_costAt_13 : decode cX4_costAt 13 = .ok (.imul, 1) := by decide +kernel
theorem dX4_costAt_14 : decode cX4_costAt 14 = .ok (.ireturn, 1) := by decide +kernel
set_option maxRecDepth 20000 in
theorem ggX4_friendsAt_X4_areFriends : GoodIn wsX4_friendsAt wsX4_areFriends := goodIn_r _ [5, 6, 7, 8, 4, 9, 10, 11, 12, 13, 14, 15, 16, 17, 18, 19, 20, 21, 22, 23, 24, 25, 26, 27] (by decide +kernel) (by decide +kernel)
set_option maxRecDepth 20000 in
theorem gX4_friendsAt_X4_areFriends : GoodIn wsX4_friendsAt (wsV RX4 116 RX4 yX4_areFriends wsX4_areFriends) := goodIn_app (goodIn_of _ (by decide +kernel)) ggX4_friendsAt_X4_areFriends
theorem dX4_friendsAt_0 : decode cX4_friendsAt 0 = .ok (.aload_n 0, 1) := by decide +kernel
theorem dX4_friendsAt_1 : decode cX4_friendsAt 1 = .ok (.iload_n 1, 1) := by decide +kernel
theorem dX4_friendsAt_2 : decode cX4_friendsAt 2 = .ok (.iconst 1, 1) := by decide +kernel
theorem dX4_friendsAt_3 : decode cX4_friendsAt 3 = .ok (.isub, 1) := by decide +kernel
theorem dX4_friendsAt_4 : decode cX4_friendsAt 4 = .ok (.invokevirtual 116, 3) := by decide +kernel
theorem dX4_friendsAt_7 : decode cX4_friendsAt 7 = .ok (.ifCond .eq 7, 3) := by decide +kernel
theorem dX4_friendsAt_10 : decode cX4_friendsAt 10 = .ok (.iconst 1, 1) := by decide +kernel
theorem dX4_friendsAt_11 : decode cX4_friendsAt 11 = .ok (.goto 4, 3) := by decide +kernel
theorem dX4_friendsAt_14 : decode cX4_friendsAt 14 = .ok (.iconst 0, 1) := by decide +kernel
theorem dX4_friendsAt_15 : decode cX4_friendsAt 15 = .ok (.aload_n 0, 1) := by decide +kernel
theorem dX4_friendsAt_16 : decode cX4_friendsAt 16 = .ok (.iload_n 1, 1) := by decide +kernel
theorem dX4_friendsAt_17 : decode cX4_friendsAt 17 = .ok (.invokevirtual 116, 3) := by decide +kernel
theorem dX4_friendsAt_20 : decode cX4_friendsAt 20 = .ok (.ifCond .eq 7, 3) := by decide +kernel
theorem dX4_friendsAt_23 : decode cX4_friendsAt 23 = .ok (.iconst 1, 1) := by decide +kernel
theorem dX4_friendsAt_24 : decode cX4_friendsAt 24 = .ok (.goto 4, 3) := by decide +kernel
theorem dX4_friendsAt_27 : decode cX4_friendsAt 27 = .ok (.iconst 0, 1) := by decide +kernel
theorem dX4_friendsAt_28 : decode cX4_friendsAt 28 = .ok (.iadd, 1) := by decide +kernel
theorem dX4_friendsAt_29 : decode cX4_friendsAt 29 = .ok (.ireturn, 1) := by decide +kernel
set_option maxRecDepth 20000 in
theorem ggX4_memberValue_X4_memberAt : GoodIn wsX4_memberValue wsX4_memberAt := goodIn_r _ [5, 6, 7, 8, 32, 33, 34, 35, 36, 37, 38, 39] (by decide +kernel) (by decide +kernel)
set_option maxRecDepth 20000 in
theorem gX4_memberValue_X4_memberAt : GoodIn wsX4_memberValue (wsV RX4 41 RX4 yX4_memberAt wsX4_memberAt) := goodIn_app (goodIn_of _ (by decide +kernel)) ggX4_memberValue_X4_memberAt
set_option maxRecDepth 20000 in
theorem ggX4_memberValue_X4_waitAt : GoodIn wsX4_memberValue wsX4_waitAt := goodIn_r _ [12, 6, 1, 2, 3, 4, 5, 7, 8, 32, 33, 34, 35, 36, 37, 38, 39, 25, 26, 27, 28, 29, 30, 31] (by decide +kernel) (by decide +kernel)
set_option maxRecDepth 20000 in
theorem gX4_memberValue_X4_waitAt : GoodIn wsX4_memberValue (wsV RX4 122 RX4 yX4_waitAt wsX4_waitAt) := goodIn_app (goodIn_of _ (by decide +kernel)) ggX4_memberValue_X4_waitAt
set_option maxRecDepth 20000 in
theorem ggX4_memberValue_X4_costAt : GoodIn wsX4_memberValue wsX4_costAt := goodIn_r _ [16, 1, 2, 3, 4, 5, 6, 7, 8, 9, 10, 11, 12, 25, 26, 27, 28, 29, 30, 31, 32, 33, 34, 35, 36, 37, 38, 39] (by decide +kernel) (by decide +kernel)
set_option maxRecDepth 20000 in
theorem gX4_memberValue_X4_costAt : GoodIn wsX4_memberValue (wsV RX4 125 RX4 yX4_costAt wsX4_costAt) := goodIn_app (goodIn_of _ (by decide +kernel)) ggX4_memberValue_X4_costAt
set_option maxRecDepth 20000 in
theorem ggX4_memberValue_X4_friendsAt : GoodIn wsX4_memberValue wsX4_friendsAt := goodIn_r _ [20, 21, 22, 23, 4, 24, 1, 2, 3, 5, 6, 7, 8, 25, 26, 27, 28, 29, 30, 31, 32, 33, 34, 35, 36, 37, 38, 39] (by decide +kernel) (by decide +kernel)
set_option maxRecDepth 20000 in
theorem gX4_memberValue_X4_friendsAt : GoodIn wsX4_memberValue (wsV RX4 128 RX4 yX4_friendsAt wsX4_friendsAt) := goodIn_app (goodIn_of _ (by decide +kernel)) ggX4_memberValue_X4_friendsAt
theorem dX4_memberValue_0 : decode cX4_memberValue 0 = .ok (.aload_n 0, 1) := by decide +kernel
theorem dX4_memberValue_1 : decode cX4_memberValue 1 = .ok (.iload_n 1, 1) := by decide +kernel
theorem dX4_memberValue_2 : decode cX4_memberValue 2 = .ok (.invokevirtual 41, 3) := by decide +kernel
theorem dX4_memberValue_5 : decode cX4_memberValue 5 = .ok (.astore_n 3, 1) := by decide +kernel
theorem dX4_memberValue_6 : decode cX4_memberValue 6 = .ok (.iload_n 2, 1) := by decide +kernel
theorem dX4_memberValue_7 : decode cX4_memberValue 7 = .ok (.tableswitch 99 0 8 #[49, 51, 56, 61, 66, 72, 78, 83, 88], 49) := by decide +kernel
theorem dX4_memberValue_56 : decode cX4_memberValue 56 = .ok (.iload_n 1, 1) := by decide +kernel
theorem dX4_memberValue_57 : decode cX4_memberValue 57 = .ok (.ireturn, 1) := by decide +kernel
theorem dX4_memberValue_58 : decode cX4_memberValue 58 = .ok (.aload_n 3, 1) := by decide +kernel
theorem dX4_memberValue_59 : decode cX4_memberValue 59 = .ok (.getfield 70, 3) := by decide +kernel
theorem dX4_memberValue_62 : decode cX4_memberValue 62 = .ok (.ireturn, 1) := by decide +kernel
theorem dX4_memberValue_63 : decode cX4_memberValue 63 = .ok (.aload_n 3, 1) := by decide +kernel
theorem dX4_memberValue_64 : decode cX4_memberValue 64 = .ok (.getfield 67, 3) := by decide +kernel
theorem dX4_memberValue_67 : decode cX4_memberValue 67 = .ok (.ireturn, 1) := by decide +kernel
theorem dX4_memberValue_68 : decode cX4_memberValue 68 = .ok (.aload_n 3, 1) := by decide +kernel
theorem dX4_memberValue_69 : decode cX4_memberValue 69 = .ok (.getfield 107, 3) := by decide +kernel
theorem dX4_memberValue_72 : decode cX4_memberValue 72 = .ok (.ireturn, 1) := by decide +kernel
theorem dX4_memberValue_73 : decode cX4_memberValue 73 = .ok (.aload_n 0, 1) := by decide +kernel
theorem dX4_memberValue_74 : decode cX4_memberValue 74 = .ok (.iload_n 1, 1) := by decide +kernel
theorem dX4_memberValue_75 : decode cX4_memberValue 75 = .ok (.invokevirtual 122, 3) := by decide +kernel
theorem dX4_memberValue_78 : decode cX4_memberValue 78 = .ok (.ireturn, 1) := by decide +kernel
theorem dX4_memberValue_79 : decode cX4_memberValue 79 = .ok (.aload_n 0, 1) := by decide +kernel
theorem dX4_memberValue_80 : decode cX4_memberValue 80 = .ok (.iload_n 1, 1) := by decide +kernel
theorem dX4_memberValue_81 : decode cX4_memberValue 81 = .ok (.invokevirtual 125, 3) := by decide +kernel
theorem dX4_memberValue_84 : decode cX4_memberValue 84 = .ok (.ireturn, 1) := by decide +kernel
theorem dX4_memberValue_85 : decode cX4_memberValue 85 = .ok (.aload_n 3, 1) := by decide +kernel
theorem dX4_memberValue_86 : decode cX4_memberValue 86 = .ok (.getfield 91, 3) := by decide +kernel
theorem dX4_memberValue_89 : decode cX4_memberValue 89 = .ok (.ireturn, 1) := by decide +kernel
theorem dX4_memberValue_90 : decode cX4_memberValue 90 = .ok (.aload_n 3, 1) := by decide +kernel
theorem dX4_memberValue_91 : decode cX4_memberValue 91 = .ok (.getfield 73, 3) := by decide +kernel
theorem dX4_memberValue_94 : decode cX4_memberValue 94 = .ok (.ireturn, 1) := by decide +kernel
theorem dX4_memberValue_95 : decode cX4_memberValue 95 = .ok (.aload_n 0, 1) := by decide +kernel
theorem dX4_memberValue_96 : decode cX4_memberValue 96 = .ok (.iload_n 1, 1) := by decide +kernel
theorem dX4_memberValue_97 : decode cX4_memberValue 97 = .ok (.iconst 1, 1) := by decide +kernel
theorem dX4_memberValue_98 : decode cX4_memberValue 98 = .ok (.iadd, 1) := by decide +kernel
theorem dX4_memberValue_99 : decode cX4_memberValue 99 = .ok (.invokevirtual 41, 3) := by decide +kernel
theorem dX4_memberValue_102 : decode cX4_memberValue 102 = .ok (.getfield 73, 3) := by decide +kernel
theorem dX4_memberValue_105 : decode cX4_memberValue 105 = .ok (.ireturn, 1) := by decide +kernel
theorem dX4_memberValue_106 : decode cX4_memberValue 106 = .ok (.aload_n 0, 1) := by decide +kernel
theorem dX4_memberValue_107 : decode cX4_memberValue 107 = .ok (.iload_n 1, 1) := by decide +kernel
theorem dX4_memberValue_108 : decode cX4_memberValue 108 = .ok (.invokevirtual 128, 3) := by decide +kernel
theorem dX4_memberValue_111 : decode cX4_memberValue 111 = .ok (.ireturn, 1) := by decide +kernel
set_option maxRecDepth 20000 in
theorem ggX4_cost_X4_costAt : GoodIn wsX4_cost wsX4_costAt := goodIn_r _ [6, 7, 8, 9, 5, 10, 1, 11, 12, 13, 14, 15, 16, 25, 26, 27, 28, 29, 30, 31, 17, 18, 19, 20, 21, 22, 23, 24] (by decide +kernel) (by decide +kernel)
set_option maxRecDepth 20000 in
theorem gX4_cost_X4_costAt : GoodIn wsX4_cost (wsV RX4 125 RX4 yX4_costAt wsX4_costAt) := goodIn_app (goodIn_of _ (by decide +kernel)) ggX4_cost_X4_costAt
theorem dX4_cost_0 : decode cX4_cost 0 = .ok (.iconst 0, 1) := by decide +kernel
theorem dX4_cost_1 : decode cX4_cost 1 = .ok (.istore_n 1, 1) := by decide +kernel
theorem dX4_cost_2 : decode cX4_cost 2 = .ok (.iconst 0, 1) := by decide +kernel
theorem dX4_cost_3 : decode cX4_cost 3 = .ok (.istore_n 2, 1) := by decide +kernel
theorem dX4_cost_4 : decode cX4_cost 4 = .ok (.iload_n 2, 1) := by decide +kernel
theorem dX4_cost_5 : decode cX4_cost 5 = .ok (.aload_n 0, 1) := by decide +kernel
theorem dX4_cost_6 : decode cX4_cost 6 = .ok (.getfield 26, 3) := by decide +kernel
theorem dX4_cost_9 : decode cX4_cost 9 = .ok (.if_icmp .ge 17, 3) := by decide +kernel
theorem dX4_cost_12 : decode cX4_cost 12 = .ok (.iload_n 1, 1) := by decide +kernel
theorem dX4_cost_13 : decode cX4_cost 13 = .ok (.aload_n 0, 1) := by decide +kernel
theorem dX4_cost_14 : decode cX4_cost 14 = .ok (.iload_n 2, 1) := by decide +kernel
theorem dX4_cost_15 : decode cX4_cost 15 = .ok (.invokevirtual 125, 3) := by decide +kernel
theorem dX4_cost_18 : decode cX4_cost 18 = .ok (.iadd, 1) := by decide +kernel
theorem dX4_cost_19 : decode cX4_cost 19 = .ok (.istore_n 1, 1) := by decide +kernel
theorem dX4_cost_20 : decode cX4_cost 20 = .ok (.iinc 2 1, 3) := by decide +kernel
theorem dX4_cost_23 : decode cX4_cost 23 = .ok (.goto (-19), 3) := by decide +kernel
theorem dX4_cost_26 : decode cX4_cost 26 = .ok (.iload_n 1, 1) := by decide +kernel
theorem dX4_cost_27 : decode cX4_cost 27 = .ok (.ireturn, 1) := by decide +kernel
set_option maxRecDepth 20000 in
theorem ggX4_toldCost_X4_memberAt : GoodIn wsX4_toldCost wsX4_memberAt := goodIn_r _ [6, 1, 7, 8, 13, 14, 15, 16, 17, 18, 19, 20] (by decide +kernel) (by decide +kernel)
set_option maxRecDepth 20000 in
theorem gX4_toldCost_X4_memberAt : GoodIn wsX4_toldCost (wsV RX4 41 RX4 yX4_memberAt wsX4_memberAt) := goodIn_app (goodIn_of _ (by decide +kernel)) ggX4_toldCost_X4_memberAt
set_option maxRecDepth 20000 in
theorem ggX4_toldCost_X4_waitAt : GoodIn wsX4_toldCost wsX4_waitAt := goodIn_r _ [12, 1, 2, 3, 4, 5, 6, 7, 8, 13, 14, 15, 16, 17, 18, 19, 20, 21, 22, 23, 24, 25, 26, 27] (by decide +kernel) (by decide +kernel)
set_option maxRecDepth 20000 in
theorem gX4_toldCost_X4_waitAt : GoodIn wsX4_toldCost (wsV RX4 122 RX4 yX4_waitAt wsX4_waitAt) := goodIn_app (goodIn_of _ (by decide +kernel)) ggX4_toldCost_X4_waitAt
theorem dX4_toldCost_0 : decode cX4_toldCost 0 = .ok (.iconst 0, 1) := by decide +kernel
theorem dX4_toldCost_1 : decode cX4_toldCost 1 = .ok (.istore_n 1, 1) := by decide +kernel
theorem dX4_toldCost_2 : decode cX4_toldCost 2 = .ok (.iconst 0, 1) := by decide +kernel
theorem dX4_toldCost_3 : decode cX4_toldCost 3 = .ok (.istore_n 2, 1) := by decide +kernel
theorem dX4_toldCost_4 : decode cX4_toldCost 4 = .ok (.iload_n 2, 1) := by decide +kernel
theorem dX4_toldCost_5 : decode cX4_toldCost 5 = .ok (.aload_n 0, 1) := by decide +kernel
theorem dX4_toldCost_6 : decode cX4_toldCost 6 = .ok (.getfield 26, 3) := by decide +kernel
theorem dX4_toldCost_9 : decode cX4_toldCost 9 = .ok (.if_icmp .ge 26, 3) := by decide +kernel
theorem dX4_toldCost_12 : decode cX4_toldCost 12 = .ok (.iload_n 1, 1) := by decide +kernel
theorem dX4_toldCost_13 : decode cX4_toldCost 13 = .ok (.aload_n 0, 1) := by decide +kernel
theorem dX4_toldCost_14 : decode cX4_toldCost 14 = .ok (.iload_n 2, 1) := by decide +kernel
theorem dX4_toldCost_15 : decode cX4_toldCost 15 = .ok (.invokevirtual 41, 3) := by decide +kernel
theorem dX4_toldCost_18 : decode cX4_toldCost 18 = .ok (.getfield 67, 3) := by decide +kernel
theorem dX4_toldCost_21 : decode cX4_toldCost 21 = .ok (.aload_n 0, 1) := by decide +kernel
theorem dX4_toldCost_22 : decode cX4_toldCost 22 = .ok (.iload_n 2, 1) := by decide +kernel
theorem dX4_toldCost_23 : decode cX4_toldCost 23 = .ok (.invokevirtual 122, 3) := by decide +kernel
theorem dX4_toldCost_26 : decode cX4_toldCost 26 = .ok (.imul, 1) := by decide +kernel
theorem dX4_toldCost_27 : decode cX4_toldCost 27 = .ok (.iadd, 1) := by decide +kernel
theorem dX4_toldCost_28 : decode cX4_toldCost 28 = .ok (.istore_n 1, 1) := by decide +kernel
theorem dX4_toldCost_29 : decode cX4_toldCost 29 = .ok (.iinc 2 1, 3) := by decide +kernel
theorem dX4_toldCost_32 : decode cX4_toldCost 32 = .ok (.goto (-28), 3) := by decide +kernel
theorem dX4_toldCost_35 : decode cX4_toldCost 35 = .ok (.iload_n 1, 1) := by decide +kernel
theorem dX4_toldCost_36 : decode cX4_toldCost 36 = .ok (.ireturn, 1) := by decide +kernel
set_option maxRecDepth 20000 in
theorem ggX4_bestCost_X4_waitingCost : GoodIn wsX4_bestCost wsX4_waitingCost := goodIn_r _ [10, 11, 12, 13, 9, 14, 1, 15, 16, 25, 26, 27, 28, 29, 30, 31, 17, 18, 19, 20, 21, 22, 23, 24] (by decide +kernel) (by decide +kernel)
set_option maxRecDepth 20000 in
theorem gX4_bestCost_X4_waitingCost : GoodIn wsX4_bestCost (wsV RX4 131 RX4 yX4_waitingCost wsX4_waitingCost) := goodIn_app (goodIn_of _ (by decide +kernel)) ggX4_bestCost_X4_waitingCost
theorem dX4_bestCost_0 : decode cX4_bestCost 0 = .ok (.iconst 0, 1) := by decide +kernel
theorem dX4_bestCost_1 : decode cX4_bestCost 1 = .ok (.istore_n 1, 1) := by decide +kernel
theorem dX4_bestCost_2 : decode cX4_bestCost 2 = .ok (.iconst 0, 1) := by decide +kernel
theorem dX4_bestCost_3 : decode cX4_bestCost 3 = .ok (.istore_n 2, 1) := by decide +kernel
theorem dX4_bestCost_4 : decode cX4_bestCost 4 = .ok (.iload_n 2, 1) := by decide +kernel
theorem dX4_bestCost_5 : decode cX4_bestCost 5 = .ok (.aload_n 0, 1) := by decide +kernel
theorem dX4_bestCost_6 : decode cX4_bestCost 6 = .ok (.getfield 26, 3) := by decide +kernel
theorem dX4_bestCost_9 : decode cX4_bestCost 9 = .ok (.if_icmp .ge 40, 3) := by decide +kernel
theorem dX4_bestCost_12 : decode cX4_bestCost 12 = .ok (.iconst 0, 1) := by decide +kernel
theorem dX4_bestCost_13 : decode cX4_bestCost 13 = .ok (.istore_n 3, 1) := by decide +kernel
theorem dX4_bestCost_14 : decode cX4_bestCost 14 = .ok (.iload_n 3, 1) := by decide +kernel
theorem dX4_bestCost_15 : decode cX4_bestCost 15 = .ok (.iload_n 2, 1) := by decide +kernel
theorem dX4_bestCost_16 : decode cX4_bestCost 16 = .ok (.if_icmp .ge 27, 3) := by decide +kernel
theorem dX4_bestCost_19 : decode cX4_bestCost 19 = .ok (.iload_n 1, 1) := by decide +kernel
theorem dX4_bestCost_20 : decode cX4_bestCost 20 = .ok (.aload_n 0, 1) := by decide +kernel
theorem dX4_bestCost_21 : decode cX4_bestCost 21 = .ok (.iload_n 3, 1) := by decide +kernel
theorem dX4_bestCost_22 : decode cX4_bestCost 22 = .ok (.iload_n 2, 1) := by decide +kernel
theorem dX4_bestCost_23 : decode cX4_bestCost 23 = .ok (.invokevirtual 131, 3) := by decide +kernel
theorem dX4_bestCost_26 : decode cX4_bestCost 26 = .ok (.aload_n 0, 1) := by decide +kernel
theorem dX4_bestCost_27 : decode cX4_bestCost 27 = .ok (.iload_n 2, 1) := by decide +kernel
theorem dX4_bestCost_28 : decode cX4_bestCost 28 = .ok (.iload_n 3, 1) := by decide +kernel
theorem dX4_bestCost_29 : decode cX4_bestCost 29 = .ok (.invokevirtual 131, 3) := by decide +kernel
theorem dX4_bestCost_32 : decode cX4_bestCost 32 = .ok (.invokestatic 134, 3) := by decide +kernel
theorem dX4_bestCost_35 : decode cX4_bestCost 35 = .ok (.iadd, 1) := by decide +kernel
theorem dX4_bestCost_36 : decode cX4_bestCost 36 = .ok (.istore_n 1, 1) := by decide +kernel
theorem dX4_bestCost_37 : decode cX4_bestCost 37 = .ok (.iinc 3 1, 3) := by decide +kernel
theorem dX4_bestCost_40 : decode cX4_bestCost 40 = .ok (.goto (-26), 3) := by decide +kernel
theorem dX4_bestCost_43 : decode cX4_bestCost 43 = .ok (.iinc 2 1, 3) := by decide +kernel
theorem dX4_bestCost_46 : decode cX4_bestCost 46 = .ok (.goto (-42), 3) := by decide +kernel
theorem dX4_bestCost_49 : decode cX4_bestCost 49 = .ok (.iload_n 1, 1) := by decide +kernel
theorem dX4_bestCost_50 : decode cX4_bestCost 50 = .ok (.ireturn, 1) := by decide +kernel
set_option maxRecDepth 20000 in
theorem ggX4_wrongPairs_X4_waitingCost : GoodIn wsX4_wrongPairs wsX4_waitingCost := goodIn_r _ [6, 7, 8, 9, 5, 10, 1, 11, 12, 21, 22, 23, 24, 25, 26, 27, 13, 14, 15, 16, 17, 18, 19, 20] (by decide +kernel) (by decide +kernel)
set_option maxRecDepth 20000 in
theorem gX4_wrongPairs_X4_waitingCost : GoodIn wsX4_wrongPairs (wsV RX4 131 RX4 yX4_waitingCost wsX4_waitingCost) := goodIn_app (goodIn_of _ (by decide +kernel)) ggX4_wrongPairs_X4_waitingCost
theorem dX4_wrongPairs_0 : decode cX4_wrongPairs 0 = .ok (.iconst 0, 1) := by decide +kernel
theorem dX4_wrongPairs_1 : decode cX4_wrongPairs 1 = .ok (.istore_n 1, 1) := by decide +kernel
theorem dX4_wrongPairs_2 : decode cX4_wrongPairs 2 = .ok (.iconst 0, 1) := by decide +kernel
theorem dX4_wrongPairs_3 : decode cX4_wrongPairs 3 = .ok (.istore_n 2, 1) := by decide +kernel
theorem dX4_wrongPairs_4 : decode cX4_wrongPairs 4 = .ok (.iload_n 2, 1) := by decide +kernel
theorem dX4_wrongPairs_5 : decode cX4_wrongPairs 5 = .ok (.aload_n 0, 1) := by decide +kernel
theorem dX4_wrongPairs_6 : decode cX4_wrongPairs 6 = .ok (.getfield 26, 3) := by decide +kernel
theorem dX4_wrongPairs_9 : decode cX4_wrongPairs 9 = .ok (.if_icmp .ge 40, 3) := by decide +kernel
theorem dX4_wrongPairs_12 : decode cX4_wrongPairs 12 = .ok (.iconst 0, 1) := by decide +kernel
theorem dX4_wrongPairs_13 : decode cX4_wrongPairs 13 = .ok (.istore_n 3, 1) := by decide +kernel
theorem dX4_wrongPairs_14 : decode cX4_wrongPairs 14 = .ok (.iload_n 3, 1) := by decide +kernel
theorem dX4_wrongPairs_15 : decode cX4_wrongPairs 15 = .ok (.iload_n 2, 1) := by decide +kernel
theorem dX4_wrongPairs_16 : decode cX4_wrongPairs 16 = .ok (.if_icmp .ge 27, 3) := by decide +kernel
theorem dX4_wrongPairs_19 : decode cX4_wrongPairs 19 = .ok (.aload_n 0, 1) := by decide +kernel
theorem dX4_wrongPairs_20 : decode cX4_wrongPairs 20 = .ok (.iload_n 3, 1) := by decide +kernel
theorem dX4_wrongPairs_21 : decode cX4_wrongPairs 21 = .ok (.iload_n 2, 1) := by decide +kernel
theorem dX4_wrongPairs_22 : decode cX4_wrongPairs 22 = .ok (.invokevirtual 131, 3) := by decide +kernel
theorem dX4_wrongPairs_25 : decode cX4_wrongPairs 25 = .ok (.aload_n 0, 1) := by decide +kernel
theorem dX4_wrongPairs_26 : decode cX4_wrongPairs 26 = .ok (.iload_n 2, 1) := by decide +kernel
theorem dX4_wrongPairs_27 : decode cX4_wrongPairs 27 = .ok (.iload_n 3, 1) := by decide +kernel
theorem dX4_wrongPairs_28 : decode cX4_wrongPairs 28 = .ok (.invokevirtual 131, 3) := by decide +kernel
theorem dX4_wrongPairs_31 : decode cX4_wrongPairs 31 = .ok (.if_icmp .le 6, 3) := by decide +kernel
theorem dX4_wrongPairs_34 : decode cX4_wrongPairs 34 = .ok (.iinc 1 1, 3) := by decide +kernel
theorem dX4_wrongPairs_37 : decode cX4_wrongPairs 37 = .ok (.iinc 3 1, 3) := by decide +kernel
theorem dX4_wrongPairs_40 : decode cX4_wrongPairs 40 = .ok (.goto (-26), 3) := by decide +kernel
theorem dX4_wrongPairs_43 : decode cX4_wrongPairs 43 = .ok (.iinc 2 1, 3) := by decide +kernel
theorem dX4_wrongPairs_46 : decode cX4_wrongPairs 46 = .ok (.goto (-42), 3) := by decide +kernel
theorem dX4_wrongPairs_49 : decode cX4_wrongPairs 49 = .ok (.iload_n 1, 1) := by decide +kernel
theorem dX4_wrongPairs_50 : decode cX4_wrongPairs 50 = .ok (.ireturn, 1) := by decide +kernel
set_option maxRecDepth 20000 in
theorem ggX4_waitingCost_X4_memberAt : GoodIn wsX4_waitingCost wsX4_memberAt := goodIn_r _ [5, 6, 7, 8, 16, 17, 18, 19, 20, 21, 22, 23] (by decide +kernel) (by decide +kernel)
set_option maxRecDepth 20000 in
theorem gX4_waitingCost_X4_memberAt : GoodIn wsX4_waitingCost (wsV RX4 41 RX4 yX4_memberAt wsX4_memberAt) := goodIn_app (goodIn_of _ (by decide +kernel)) ggX4_waitingCost_X4_memberAt
theorem dX4_waitingCost_0 : decode cX4_waitingCost 0 = .ok (.aload_n 0, 1) := by decide +kernel
theorem dX4_waitingCost_1 : decode cX4_waitingCost 1 = .ok (.iload_n 2, 1) := by decide +kernel
theorem dX4_waitingCost_2 : decode cX4_waitingCost 2 = .ok (.invokevirtual 41, 3) := by decide +kernel
theorem dX4_waitingCost_5 : decode cX4_waitingCost 5 = .ok (.getfield 70, 3) := by decide +kernel
theorem dX4_waitingCost_8 : decode cX4_waitingCost 8 = .ok (.aload_n 0, 1) := by decide +kernel
theorem dX4_waitingCost_9 : decode cX4_waitingCost 9 = .ok (.iload_n 1, 1) := by decide +kernel
theorem dX4_waitingCost_10 : decode cX4_waitingCost 10 = .ok (.invokevirtual 41, 3) := by decide +kernel
theorem dX4_waitingCost_13 : decode cX4_waitingCost 13 = .ok (.getfield 107, 3) := by decide +kernel
theorem dX4_waitingCost_16 : decode cX4_waitingCost 16 = .ok (.imul, 1) := by decide +kernel
theorem dX4_waitingCost_17 : decode cX4_waitingCost 17 = .ok (.ireturn, 1) := by decide +kernel
set_option maxRecDepth 20000 in
theorem ggX4_willingPairs_X4_hindrance : GoodIn wsX4_willingPairs wsX4_hindrance := goodIn_r _ [6, 7, 8, 9, 5, 10, 11, 12, 13, 14, 1, 15, 16, 17, 18, 19, 20, 29, 30, 31, 32, 33, 34, 35, 21, 22, 23, 24, 25, 26, 27, 28] (by decide +kernel) (by decide +kernel)
set_option maxRecDepth 20000 in
theorem gX4_willingPairs_X4_hindrance : GoodIn wsX4_willingPairs (wsV RX4 110 RX4 yX4_hindrance wsX4_hindrance) := goodIn_app (goodIn_of _ (by decide +kernel)) ggX4_willingPairs_X4_hindrance
theorem dX4_willingPairs_0 : decode cX4_willingPairs 0 = .ok (.iconst 0, 1) := by decide +kernel
theorem dX4_willingPairs_1 : decode cX4_willingPairs 1 = .ok (.istore_n 1, 1) := by decide +kernel
theorem dX4_willingPairs_2 : decode cX4_willingPairs 2 = .ok (.iconst 0, 1) := by decide +kernel
theorem dX4_willingPairs_3 : decode cX4_willingPairs 3 = .ok (.istore_n 2, 1) := by decide +kernel
theorem dX4_willingPairs_4 : decode cX4_willingPairs 4 = .ok (.iload_n 2, 1) := by decide +kernel
theorem dX4_willingPairs_5 : decode cX4_willingPairs 5 = .ok (.aload_n 0, 1) := by decide +kernel
theorem dX4_willingPairs_6 : decode cX4_willingPairs 6 = .ok (.getfield 26, 3) := by decide +kernel
theorem dX4_willingPairs_9 : decode cX4_willingPairs 9 = .ok (.iconst 1, 1) := by decide +kernel
theorem dX4_willingPairs_10 : decode cX4_willingPairs 10 = .ok (.isub, 1) := by decide +kernel
theorem dX4_willingPairs_11 : decode cX4_willingPairs 11 = .ok (.if_icmp .ge 25, 3) := by decide +kernel
theorem dX4_willingPairs_14 : decode cX4_willingPairs 14 = .ok (.iload_n 1, 1) := by decide +kernel
theorem dX4_willingPairs_15 : decode cX4_willingPairs 15 = .ok (.aload_n 0, 1) := by decide +kernel
theorem dX4_willingPairs_16 : decode cX4_willingPairs 16 = .ok (.iload_n 2, 1) := by decide +kernel
theorem dX4_willingPairs_17 : decode cX4_willingPairs 17 = .ok (.invokevirtual 110, 3) := by decide +kernel
theorem dX4_willingPairs_20 : decode cX4_willingPairs 20 = .ok (.ifCond .ne 7, 3) := by decide +kernel
theorem dX4_willingPairs_23 : decode cX4_willingPairs 23 = .ok (.iconst 1, 1) := by decide +kernel
theorem dX4_willingPairs_24 : decode cX4_willingPairs 24 = .ok (.goto 4, 3) := by decide +kernel
theorem dX4_willingPairs_27 : decode cX4_willingPairs 27 = .ok (.iconst 0, 1) := by decide +kernel
theorem dX4_willingPairs_28 : decode cX4_willingPairs 28 = .ok (.iadd, 1) := by decide +kernel
theorem dX4_willingPairs_29 : decode cX4_willingPairs 29 = .ok (.istore_n 1, 1) := by decide +kernel
theorem dX4_willingPairs_30 : decode cX4_willingPairs 30 = .ok (.iinc 2 1, 3) := by decide +kernel
theorem dX4_willingPairs_33 : decode cX4_willingPairs 33 = .ok (.goto (-29), 3) := by decide +kernel
theorem dX4_willingPairs_36 : decode cX4_willingPairs 36 = .ok (.iload_n 1, 1) := by decide +kernel
theorem dX4_willingPairs_37 : decode cX4_willingPairs 37 = .ok (.ireturn, 1) := by decide +kernel
set_option maxRecDepth 20000 in
theorem ggX4_offers_X4_memberAt : GoodIn wsX4_offers wsX4_memberAt := goodIn_r _ [6, 1, 7, 8, 9, 10, 11, 12, 13, 14, 15, 16] (by decide +kernel) (by decide +kernel)
set_option maxRecDepth 20000 in
theorem gX4_offers_X4_memberAt : GoodIn wsX4_offers (wsV RX4 41 RX4 yX4_memberAt wsX4_memberAt) := goodIn_app (goodIn_of _ (by decide +kernel)) ggX4_offers_X4_memberAt
theorem dX4_offers_0 : decode cX4_offers 0 = .ok (.iconst 0, 1) := by decide +kernel
theorem dX4_offers_1 : decode cX4_offers 1 = .ok (.istore_n 1, 1) := by decide +kernel
theorem dX4_offers_2 : decode cX4_offers 2 = .ok (.iconst 0, 1) := by decide +kernel
theorem dX4_offers_3 : decode cX4_offers 3 = .ok (.istore_n 2, 1) := by decide +kernel
theorem dX4_offers_4 : decode cX4_offers 4 = .ok (.iload_n 2, 1) := by decide +kernel
theorem dX4_offers_5 : decode cX4_offers 5 = .ok (.aload_n 0, 1) := by decide +kernel
theorem dX4_offers_6 : decode cX4_offers 6 = .ok (.getfield 26, 3) := by decide +kernel
theorem dX4_offers_9 : decode cX4_offers 9 = .ok (.if_icmp .ge 29, 3) := by decide +kernel
theorem dX4_offers_12 : decode cX4_offers 12 = .ok (.iload_n 1, 1) := by decide +kernel
theorem dX4_offers_13 : decode cX4_offers 13 = .ok (.aload_n 0, 1) := by decide +kernel
theorem dX4_offers_14 : decode cX4_offers 14 = .ok (.iload_n 2, 1) := by decide +kernel
theorem dX4_offers_15 : decode cX4_offers 15 = .ok (.invokevirtual 41, 3) := by decide +kernel
theorem dX4_offers_18 : decode cX4_offers 18 = .ok (.getfield 73, 3) := by decide +kernel
theorem dX4_offers_21 : decode cX4_offers 21 = .ok (.iconst (-1), 1) := by decide +kernel
theorem dX4_offers_22 : decode cX4_offers 22 = .ok (.if_icmp .eq 7, 3) := by decide +kernel
theorem dX4_offers_25 : decode cX4_offers 25 = .ok (.iconst 1, 1) := by decide +kernel
theorem dX4_offers_26 : decode cX4_offers 26 = .ok (.goto 4, 3) := by decide +kernel
theorem dX4_offers_29 : decode cX4_offers 29 = .ok (.iconst 0, 1) := by decide +kernel
theorem dX4_offers_30 : decode cX4_offers 30 = .ok (.iadd, 1) := by decide +kernel
theorem dX4_offers_31 : decode cX4_offers 31 = .ok (.istore_n 1, 1) := by decide +kernel
theorem dX4_offers_32 : decode cX4_offers 32 = .ok (.iinc 2 1, 3) := by decide +kernel
theorem dX4_offers_35 : decode cX4_offers 35 = .ok (.goto (-31), 3) := by decide +kernel
theorem dX4_offers_38 : decode cX4_offers 38 = .ok (.iload_n 1, 1) := by decide +kernel
theorem dX4_offers_39 : decode cX4_offers 39 = .ok (.ireturn, 1) := by decide +kernel
set_option maxRecDepth 20000 in
theorem ggX4_welcomeOffers_X4_wouldTake : GoodIn wsX4_welcomeOffers wsX4_wouldTake := goodIn_r _ [6, 7, 8, 9, 5, 10, 1, 11, 12, 13, 14, 15, 16, 17, 18, 19, 20, 29, 30, 31, 32, 33, 34, 35, 21, 22, 23, 24, 25, 26, 27, 28] (by decide +kernel) (by decide +kernel)
set_option maxRecDepth 20000 in
theorem gX4_welcomeOffers_X4_wouldTake : GoodIn wsX4_welcomeOffers (wsV RX4 139 RX4 yX4_wouldTake wsX4_wouldTake) := goodIn_app (goodIn_of _ (by decide +kernel)) ggX4_welcomeOffers_X4_wouldTake
theorem dX4_welcomeOffers_0 : decode cX4_welcomeOffers 0 = .ok (.iconst 0, 1) := by decide +kernel
theorem dX4_welcomeOffers_1 : decode cX4_welcomeOffers 1 = .ok (.istore_n 1, 1) := by decide +kernel
theorem dX4_welcomeOffers_2 : decode cX4_welcomeOffers 2 = .ok (.iconst 0, 1) := by decide +kernel
theorem dX4_welcomeOffers_3 : decode cX4_welcomeOffers 3 = .ok (.istore_n 2, 1) := by decide +kernel
theorem dX4_welcomeOffers_4 : decode cX4_welcomeOffers 4 = .ok (.iload_n 2, 1) := by decide +kernel
theorem dX4_welcomeOffers_5 : decode cX4_welcomeOffers 5 = .ok (.aload_n 0, 1) := by decide +kernel
theorem dX4_welcomeOffers_6 : decode cX4_welcomeOffers 6 = .ok (.getfield 26, 3) := by decide +kernel
theorem dX4_welcomeOffers_9 : decode cX4_welcomeOffers 9 = .ok (.iconst 1, 1) := by decide +kernel
theorem dX4_welcomeOffers_10 : decode cX4_welcomeOffers 10 = .ok (.isub, 1) := by decide +kernel
theorem dX4_welcomeOffers_11 : decode cX4_welcomeOffers 11 = .ok (.if_icmp .ge 25, 3) := by decide +kernel
theorem dX4_welcomeOffers_14 : decode cX4_welcomeOffers 14 = .ok (.iload_n 1, 1) := by decide +kernel
theorem dX4_welcomeOffers_15 : decode cX4_welcomeOffers 15 = .ok (.aload_n 0, 1) := by decide +kernel
theorem dX4_welcomeOffers_16 : decode cX4_welcomeOffers 16 = .ok (.iload_n 2, 1) := by decide +kernel
theorem dX4_welcomeOffers_17 : decode cX4_welcomeOffers 17 = .ok (.invokevirtual 139, 3) := by decide +kernel
theorem dX4_welcomeOffers_20 : decode cX4_welcomeOffers 20 = .ok (.ifCond .eq 7, 3) := by decide +kernel
theorem dX4_welcomeOffers_23 : decode cX4_welcomeOffers 23 = .ok (.iconst 1, 1) := by decide +kernel
theorem dX4_welcomeOffers_24 : decode cX4_welcomeOffers 24 = .ok (.goto 4, 3) := by decide +kernel
theorem dX4_welcomeOffers_27 : decode cX4_welcomeOffers 27 = .ok (.iconst 0, 1) := by decide +kernel
theorem dX4_welcomeOffers_28 : decode cX4_welcomeOffers 28 = .ok (.iadd, 1) := by decide +kernel
theorem dX4_welcomeOffers_29 : decode cX4_welcomeOffers 29 = .ok (.istore_n 1, 1) := by decide +kernel
theorem dX4_welcomeOffers_30 : decode cX4_welcomeOffers 30 = .ok (.iinc 2 1, 3) := by decide +kernel
theorem dX4_welcomeOffers_33 : decode cX4_welcomeOffers 33 = .ok (.goto (-29), 3) := by decide +kernel
theorem dX4_welcomeOffers_36 : decode cX4_welcomeOffers 36 = .ok (.iload_n 1, 1) := by decide +kernel
theorem dX4_welcomeOffers_37 : decode cX4_welcomeOffers 37 = .ok (.ireturn, 1) := by decide +kernel
set_option maxRecDepth 20000 in
theorem ggX4_friendPairs_X4_areFriends : GoodIn wsX4_friendPairs wsX4_areFriends := goodIn_r _ [6, 7, 8, 9, 5, 10, 1, 11, 12, 21, 22, 23, 24, 25, 26, 27, 13, 14, 15, 16, 17, 18, 19, 20] (by decide +kernel) (by decide +kernel)
set_option maxRecDepth 20000 in
theorem gX4_friendPairs_X4_areFriends : GoodIn wsX4_friendPairs (wsV RX4 116 RX4 yX4_areFriends wsX4_areFriends) := goodIn_app (goodIn_of _ (by decide +kernel)) ggX4_friendPairs_X4_areFriends
theorem dX4_friendPairs_0 : decode cX4_friendPairs 0 = .ok (.iconst 0, 1) := by decide +kernel
theorem dX4_friendPairs_1 : decode cX4_friendPairs 1 = .ok (.istore_n 1, 1) := by decide +kernel
theorem dX4_friendPairs_2 : decode cX4_friendPairs 2 = .ok (.iconst 0, 1) := by decide +kernel
theorem dX4_friendPairs_3 : decode cX4_friendPairs 3 = .ok (.istore_n 2, 1) := by decide +kernel
theorem dX4_friendPairs_4 : decode cX4_friendPairs 4 = .ok (.iload_n 2, 1) := by decide +kernel
theorem dX4_friendPairs_5 : decode cX4_friendPairs 5 = .ok (.aload_n 0, 1) := by decide +kernel
theorem dX4_friendPairs_6 : decode cX4_friendPairs 6 = .ok (.getfield 26, 3) := by decide +kernel
theorem dX4_friendPairs_9 : decode cX4_friendPairs 9 = .ok (.iconst 1, 1) := by decide +kernel
theorem dX4_friendPairs_10 : decode cX4_friendPairs 10 = .ok (.isub, 1) := by decide +kernel
theorem dX4_friendPairs_11 : decode cX4_friendPairs 11 = .ok (.if_icmp .ge 25, 3) := by decide +kernel
theorem dX4_friendPairs_14 : decode cX4_friendPairs 14 = .ok (.iload_n 1, 1) := by decide +kernel
theorem dX4_friendPairs_15 : decode cX4_friendPairs 15 = .ok (.aload_n 0, 1) := by decide +kernel
theorem dX4_friendPairs_16 : decode cX4_friendPairs 16 = .ok (.iload_n 2, 1) := by decide +kernel
theorem dX4_friendPairs_17 : decode cX4_friendPairs 17 = .ok (.invokevirtual 116, 3) := by decide +kernel
theorem dX4_friendPairs_20 : decode cX4_friendPairs 20 = .ok (.ifCond .eq 7, 3) := by decide +kernel
theorem dX4_friendPairs_23 : decode cX4_friendPairs 23 = .ok (.iconst 1, 1) := by decide +kernel
theorem dX4_friendPairs_24 : decode cX4_friendPairs 24 = .ok (.goto 4, 3) := by decide +kernel
theorem dX4_friendPairs_27 : decode cX4_friendPairs 27 = .ok (.iconst 0, 1) := by decide +kernel
theorem dX4_friendPairs_28 : decode cX4_friendPairs 28 = .ok (.iadd, 1) := by decide +kernel
theorem dX4_friendPairs_29 : decode cX4_friendPairs 29 = .ok (.istore_n 1, 1) := by decide +kernel
theorem dX4_friendPairs_30 : decode cX4_friendPairs 30 = .ok (.iinc 2 1, 3) := by decide +kernel
theorem dX4_friendPairs_33 : decode cX4_friendPairs 33 = .ok (.goto (-29), 3) := by decide +kernel
theorem dX4_friendPairs_36 : decode cX4_friendPairs 36 = .ok (.iload_n 1, 1) := by decide +kernel
theorem dX4_friendPairs_37 : decode cX4_friendPairs 37 = .ok (.ireturn, 1) := by decide +kernel
set_option maxRecDepth 20000 in
theorem ggX4_wholeValue_X4_cost : GoodIn wsX4_wholeValue wsX4_cost := goodIn_r _ [11, 1, 12, 13, 14, 10, 15, 16, 17, 18, 19, 20, 21, 22, 23, 24, 25, 82, 83, 84, 85, 86, 87, 88, 89, 90, 91, 92, 93, 94, 95, 96] (by decide +kernel) (by decide +kernel)
set_option maxRecDepth 20000 in
theorem gX4_wholeValue_X4_cost : GoodIn wsX4_wholeValue (wsV RX4 142 RX4 yX4_cost wsX4_cost) := goodIn_app (goodIn_of _ (by decide +kernel)) ggX4_wholeValue_X4_cost
set_option maxRecDepth 20000 in
theorem ggX4_wholeValue_X4_toldCost : GoodIn wsX4_wholeValue wsX4_toldCost := goodIn_r _ [29, 1, 16, 17, 18, 10, 19, 20, 21, 22, 23, 24, 25, 82, 83, 84, 85, 86, 87, 88, 89, 90, 91, 92, 93, 94, 95, 96] (by decide +kernel) (by decide +kernel)
set_option maxRecDepth 20000 in
theorem gX4_wholeValue_X4_toldCost : GoodIn wsX4_wholeValue (wsV RX4 145 RX4 yX4_toldCost wsX4_toldCost) := goodIn_app (goodIn_of _ (by decide +kernel)) ggX4_wholeValue_X4_toldCost
set_option maxRecDepth 20000 in
theorem ggX4_wholeValue_X4_bestCost : GoodIn wsX4_wholeValue wsX4_bestCost := goodIn_r _ [33, 1, 34, 35, 36, 37, 38, 39, 40, 10, 41, 16, 17, 18, 19, 20, 21, 82, 83, 84, 85, 86, 87, 88, 89, 90, 91, 92, 93, 94, 95, 96] (by decide +kernel) (by decide +kernel)
set_option maxRecDepth 20000 in
theorem gX4_wholeValue_X4_bestCost : GoodIn wsX4_wholeValue (wsV RX4 148 RX4 yX4_bestCost wsX4_bestCost) := goodIn_app (goodIn_of _ (by decide +kernel)) ggX4_wholeValue_X4_bestCost
set_option maxRecDepth 20000 in
theorem ggX4_wholeValue_X4_willingPairs : GoodIn wsX4_wholeValue wsX4_willingPairs := goodIn_r _ [45, 1, 46, 47, 48, 10, 49, 50, 51, 52, 53, 16, 17, 18, 19, 20, 21, 54, 55, 56, 57, 82, 83, 84, 85, 86, 87, 88, 89, 90, 91, 92, 93, 94, 95, 96] (by decide +kernel) (by decide +kernel)
set_option maxRecDepth 20000 in
theorem gX4_wholeValue_X4_willingPairs : GoodIn wsX4_wholeValue (wsV RX4 151 RX4 yX4_willingPairs wsX4_willingPairs) := goodIn_app (goodIn_of _ (by decide +kernel)) ggX4_wholeValue_X4_willingPairs
set_option maxRecDepth 20000 in
theorem ggX4_wholeValue_X4_offers : GoodIn wsX4_wholeValue wsX4_offers := goodIn_r _ [61, 1, 16, 17, 18, 10, 19, 20, 21, 82, 83, 84, 85, 86, 87, 88, 89, 90, 91, 92, 93, 94, 95, 96] (by decide +kernel) (by decide +kernel)
set_option maxRecDepth 20000 in
theorem gX4_wholeValue_X4_offers : GoodIn wsX4_wholeValue (wsV RX4 154 RX4 yX4_offers wsX4_offers) := goodIn_app (goodIn_of _ (by decide +kernel)) ggX4_wholeValue_X4_offers
set_option maxRecDepth 20000 in
theorem ggX4_wholeValue_X4_welcomeOffers : GoodIn wsX4_wholeValue wsX4_welcomeOffers := goodIn_r _ [65, 1, 66, 67, 68, 10, 69, 16, 17, 18, 19, 20, 21, 70, 71, 72, 73, 74, 75, 76, 77, 82, 83, 84, 85, 86, 87, 88, 89, 90, 91, 92, 93, 94, 95, 96] (by decide +kernel) (by decide +kernel)
set_option maxRecDepth 20000 in
theorem gX4_wholeValue_X4_welcomeOffers : GoodIn wsX4_wholeValue (wsV RX4 157 RX4 yX4_welcomeOffers wsX4_welcomeOffers) := goodIn_app (goodIn_of _ (by decide +kernel)) ggX4_wholeValue_X4_welcomeOffers
set_option maxRecDepth 20000 in
theorem ggX4_wholeValue_X4_friendPairs : GoodIn wsX4_wholeValue wsX4_friendPairs := goodIn_r _ [81, 1, 50, 51, 52, 10, 53, 16, 17, 18, 19, 20, 21, 82, 83, 84, 85, 86, 87, 88, 89, 90, 91, 92, 93, 94, 95, 96] (by decide +kernel) (by decide +kernel)
set_option maxRecDepth 20000 in
theorem gX4_wholeValue_X4_friendPairs : GoodIn wsX4_wholeValue (wsV RX4 80 RX4 yX4_friendPairs wsX4_friendPairs) := goodIn_app (goodIn_of _ (by decide +kernel)) ggX4_wholeValue_X4_friendPairs
theorem dX4_wholeValue_0 : decode cX4_wholeValue 0 = .ok (.iload_n 1, 1) := by decide +kernel
theorem dX4_wholeValue_1 : decode cX4_wholeValue 1 = .ok (.tableswitch 123 0 11 #[63, 68, 73, 78, 83, 88, 93, 98, 103, 108, 113, 118], 63) := by decide +kernel
theorem dX4_wholeValue_64 : decode cX4_wholeValue 64 = .ok (.aload_n 0, 1) := by decide +kernel
theorem dX4_wholeValue_65 : decode cX4_wholeValue 65 = .ok (.getfield 26, 3) := by decide +kernel
theorem dX4_wholeValue_68 : decode cX4_wholeValue 68 = .ok (.ireturn, 1) := by decide +kernel
theorem dX4_wholeValue_69 : decode cX4_wholeValue 69 = .ok (.aload_n 0, 1) := by decide +kernel
theorem dX4_wholeValue_70 : decode cX4_wholeValue 70 = .ok (.getfield 22, 3) := by decide +kernel
theorem dX4_wholeValue_73 : decode cX4_wholeValue 73 = .ok (.ireturn, 1) := by decide +kernel
theorem dX4_wholeValue_74 : decode cX4_wholeValue 74 = .ok (.aload_n 0, 1) := by decide +kernel
theorem dX4_wholeValue_75 : decode cX4_wholeValue 75 = .ok (.invokevirtual 142, 3) := by decide +kernel
theorem dX4_wholeValue_78 : decode cX4_wholeValue 78 = .ok (.ireturn, 1) := by decide +kernel
theorem dX4_wholeValue_79 : decode cX4_wholeValue 79 = .ok (.aload_n 0, 1) := by decide +kernel
theorem dX4_wholeValue_80 : decode cX4_wholeValue 80 = .ok (.invokevirtual 145, 3) := by decide +kernel
theorem dX4_wholeValue_83 : decode cX4_wholeValue 83 = .ok (.ireturn, 1) := by decide +kernel
theorem dX4_wholeValue_84 : decode cX4_wholeValue 84 = .ok (.aload_n 0, 1) := by decide +kernel
theorem dX4_wholeValue_85 : decode cX4_wholeValue 85 = .ok (.invokevirtual 148, 3) := by decide +kernel
theorem dX4_wholeValue_88 : decode cX4_wholeValue 88 = .ok (.ireturn, 1) := by decide +kernel
theorem dX4_wholeValue_89 : decode cX4_wholeValue 89 = .ok (.aload_n 0, 1) := by decide +kernel
theorem dX4_wholeValue_90 : decode cX4_wholeValue 90 = .ok (.invokevirtual 151, 3) := by decide +kernel
theorem dX4_wholeValue_93 : decode cX4_wholeValue 93 = .ok (.ireturn, 1) := by decide +kernel
theorem dX4_wholeValue_94 : decode cX4_wholeValue 94 = .ok (.aload_n 0, 1) := by decide +kernel
theorem dX4_wholeValue_95 : decode cX4_wholeValue 95 = .ok (.invokevirtual 154, 3) := by decide +kernel
theorem dX4_wholeValue_98 : decode cX4_wholeValue 98 = .ok (.ireturn, 1) := by decide +kernel
theorem dX4_wholeValue_99 : decode cX4_wholeValue 99 = .ok (.aload_n 0, 1) := by decide +kernel
theorem dX4_wholeValue_100 : decode cX4_wholeValue 100 = .ok (.invokevirtual 157, 3) := by decide +kernel
theorem dX4_wholeValue_103 : decode cX4_wholeValue 103 = .ok (.ireturn, 1) := by decide +kernel
theorem dX4_wholeValue_104 : decode cX4_wholeValue 104 = .ok (.aload_n 0, 1) := by decide +kernel
theorem dX4_wholeValue_105 : decode cX4_wholeValue 105 = .ok (.invokevirtual 80, 3) := by decide +kernel
theorem dX4_wholeValue_108 : decode cX4_wholeValue 108 = .ok (.ireturn, 1) := by decide +kernel
theorem dX4_wholeValue_109 : decode cX4_wholeValue 109 = .ok (.aload_n 0, 1) := by decide +kernel
theorem dX4_wholeValue_110 : decode cX4_wholeValue 110 = .ok (.getfield 29, 3) := by decide +kernel
theorem dX4_wholeValue_113 : decode cX4_wholeValue 113 = .ok (.ireturn, 1) := by decide +kernel
theorem dX4_wholeValue_114 : decode cX4_wholeValue 114 = .ok (.aload_n 0, 1) := by decide +kernel
theorem dX4_wholeValue_115 : decode cX4_wholeValue 115 = .ok (.getfield 32, 3) := by decide +kernel
theorem dX4_wholeValue_118 : decode cX4_wholeValue 118 = .ok (.ireturn, 1) := by decide +kernel
theorem dX4_wholeValue_119 : decode cX4_wholeValue 119 = .ok (.aload_n 0, 1) := by decide +kernel
theorem dX4_wholeValue_120 : decode cX4_wholeValue 120 = .ok (.getfield 35, 3) := by decide +kernel
theorem dX4_wholeValue_123 : decode cX4_wholeValue 123 = .ok (.ireturn, 1) := by decide +kernel
theorem dX4_wholeValue_124 : decode cX4_wholeValue 124 = .ok (.aload_n 0, 1) := by decide +kernel
theorem dX4_wholeValue_125 : decode cX4_wholeValue 125 = .ok (.getfield 38, 3) := by decide +kernel
theorem dX4_wholeValue_128 : decode cX4_wholeValue 128 = .ok (.ireturn, 1) := by decide +kernel
theorem dX5_init_0 : decode cX5_init 0 = .ok (.aload_n 0, 1) := by decide +kernel
theorem dX5_init_1 : decode cX5_init 1 = .ok (.invokespecial 3, 3) := by decide +kernel
theorem dX5_init_4 : decode cX5_init 4 = .ok (.aload_n 0, 1) := by decide +kernel
theorem dX5_init_5 : decode cX5_init 5 = .ok (.iconst (-1), 1) := by decide +kernel
theorem dX5_init_6 : decode cX5_init 6 = .ok (.putfield 9, 3) := by decide +kernel
theorem dX5_init_9 : decode cX5_init 9 = .ok (.aload_n 0, 1) := by decide +kernel
theorem dX5_init_10 : decode cX5_init 10 = .ok (.iconst (-1), 1) := by decide +kernel
theorem dX5_init_11 : decode cX5_init 11 = .ok (.putfield 15, 3) := by decide +kernel
theorem dX5_init_14 : decode cX5_init 14 = .ok (.return_, 1) := by decide +kernel
theorem dX5_copyFrom_0 : decode cX5_copyFrom 0 = .ok (.aload_n 0, 1) := by decide +kernel
theorem dX5_copyFrom_1 : decode cX5_copyFrom 1 = .ok (.aload_n 1, 1) := by decide +kernel
theorem dX5_copyFrom_2 : decode cX5_copyFrom 2 = .ok (.getfield 9, 3) := by decide +kernel
theorem dX5_copyFrom_5 : decode cX5_copyFrom 5 = .ok (.putfield 9, 3) := by decide +kernel
theorem dX5_copyFrom_8 : decode cX5_copyFrom 8 = .ok (.aload_n 0, 1) := by decide +kernel
theorem dX5_copyFrom_9 : decode cX5_copyFrom 9 = .ok (.aload_n 1, 1) := by decide +kernel
theorem dX5_copyFrom_10 : decode cX5_copyFrom 10 = .ok (.getfield 18, 3) := by decide +kernel
theorem dX5_copyFrom_13 : decode cX5_copyFrom 13 = .ok (.putfield 18, 3) := by decide +kernel
theorem dX5_copyFrom_16 : decode cX5_copyFrom 16 = .ok (.aload_n 0, 1) := by decide +kernel
theorem dX5_copyFrom_17 : decode cX5_copyFrom 17 = .ok (.aload_n 1, 1) := by decide +kernel
theorem dX5_copyFrom_18 : decode cX5_copyFrom 18 = .ok (.getfield 21, 3) := by decide +kernel
theorem dX5_copyFrom_21 : decode cX5_copyFrom 21 = .ok (.putfield 21, 3) := by decide +kernel
theorem dX5_copyFrom_24 : decode cX5_copyFrom 24 = .ok (.aload_n 0, 1) := by decide +kernel
theorem dX5_copyFrom_25 : decode cX5_copyFrom 25 = .ok (.aload_n 1, 1) := by decide +kernel
theorem dX5_copyFrom_26 : decode cX5_copyFrom 26 = .ok (.getfield 24, 3) := by decide +kernel
theorem dX5_copyFrom_29 : decode cX5_copyFrom 29 = .ok (.putfield 24, 3) := by decide +kernel
theorem dX5_copyFrom_32 : decode cX5_copyFrom 32 = .ok (.aload_n 0, 1) := by decide +kernel
theorem dX5_copyFrom_33 : decode cX5_copyFrom 33 = .ok (.aload_n 1, 1) := by decide +kernel
theorem dX5_copyFrom_34 : decode cX5_copyFrom 34 = .ok (.getfield 27, 3) := by decide +kernel
theorem dX5_copyFrom_37 : decode cX5_copyFrom 37 = .ok (.putfield 27, 3) := by decide +kernel
theorem dX5_copyFrom_40 : decode cX5_copyFrom 40 = .ok (.aload_n 0, 1) := by decide +kernel
theorem dX5_copyFrom_41 : decode cX5_copyFrom 41 = .ok (.aload_n 1, 1) := by decide +kernel
theorem dX5_copyFrom_42 : decode cX5_copyFrom 42 = .ok (.getfield 15, 3) := by decide +kernel
theorem dX5_copyFrom_45 : decode cX5_copyFrom 45 = .ok (.putfield 15, 3) := by decide +kernel
theorem dX5_copyFrom_48 : decode cX5_copyFrom 48 = .ok (.aload_n 0, 1) := by decide +kernel
theorem dX5_copyFrom_49 : decode cX5_copyFrom 49 = .ok (.aload_n 1, 1) := by decide +kernel
theorem dX5_copyFrom_50 : decode cX5_copyFrom 50 = .ok (.getfield 30, 3) := by decide +kernel
theorem dX5_copyFrom_53 : decode cX5_copyFrom 53 = .ok (.putfield 30, 3) := by decide +kernel
theorem dX5_copyFrom_56 : decode cX5_copyFrom 56 = .ok (.return_, 1) := by decide +kernel
set_option maxRecDepth 20000 in
theorem ggX5_begin_X5_loseOneAhead : GoodIn wsX5_begin wsX5_loseOneAhead := goodIn_r _ [10, 11, 12, 13, 14, 15, 16, 17, 18, 19] (by decide +kernel) (by decide +kernel)
set_option maxRecDepth 20000 in
theorem gX5_begin_X5_loseOneAhead : GoodIn wsX5_begin (wsV RX5 34 RX5 yX5_loseOneAhead wsX5_loseOneAhead) := goodIn_app (goodIn_of _ (by decide +kernel)) ggX5_begin_X5_loseOneAhead
theorem dX5_begin_0 : decode cX5_begin 0 = .ok (.aload_n 0, 1) := by decide +kernel
theorem dX5_begin_1 : decode cX5_begin 1 = .ok (.iload_n 1, 1) := by decide +kernel
theorem dX5_begin_2 : decode cX5_begin 2 = .ok (.putfield 9, 3) := by decide +kernel
theorem dX5_begin_5 : decode cX5_begin 5 = .ok (.aload_n 0, 1) := by decide +kernel
theorem dX5_begin_6 : decode cX5_begin 6 = .ok (.iload_n 2, 1) := by decide +kernel
theorem dX5_begin_7 : decode cX5_begin 7 = .ok (.putfield 18, 3) := by decide +kernel
theorem dX5_begin_10 : decode cX5_begin 10 = .ok (.aload_n 0, 1) := by decide +kernel
theorem dX5_begin_11 : decode cX5_begin 11 = .ok (.iload_n 2, 1) := by decide +kernel
theorem dX5_begin_12 : decode cX5_begin 12 = .ok (.putfield 21, 3) := by decide +kernel
theorem dX5_begin_15 : decode cX5_begin 15 = .ok (.aload_n 0, 1) := by decide +kernel
theorem dX5_begin_16 : decode cX5_begin 16 = .ok (.iload_n 3, 1) := by decide +kernel
theorem dX5_begin_17 : decode cX5_begin 17 = .ok (.putfield 24, 3) := by decide +kernel
theorem dX5_begin_20 : decode cX5_begin 20 = .ok (.aload_n 0, 1) := by decide +kernel
theorem dX5_begin_21 : decode cX5_begin 21 = .ok (.iconst 0, 1) := by decide +kernel
theorem dX5_begin_22 : decode cX5_begin 22 = .ok (.putfield 27, 3) := by decide +kernel
theorem dX5_begin_25 : decode cX5_begin 25 = .ok (.aload_n 0, 1) := by decide +kernel
theorem dX5_begin_26 : decode cX5_begin 26 = .ok (.invokevirtual 34, 3) := by decide +kernel
theorem dX5_begin_29 : decode cX5_begin 29 = .ok (.return_, 1) := by decide +kernel
theorem dX5_loseOneAhead_0 : decode cX5_loseOneAhead 0 = .ok (.aload_n 0, 1) := by decide +kernel
theorem dX5_loseOneAhead_1 : decode cX5_loseOneAhead 1 = .ok (.iconst (-1), 1) := by decide +kernel
theorem dX5_loseOneAhead_2 : decode cX5_loseOneAhead 2 = .ok (.putfield 15, 3) := by decide +kernel
theorem dX5_loseOneAhead_5 : decode cX5_loseOneAhead 5 = .ok (.aload_n 0, 1) := by decide +kernel
theorem dX5_loseOneAhead_6 : decode cX5_loseOneAhead 6 = .ok (.iconst 0, 1) := by decide +kernel
theorem dX5_loseOneAhead_7 : decode cX5_loseOneAhead 7 = .ok (.putfield 30, 3) := by decide +kernel
theorem dX5_loseOneAhead_10 : decode cX5_loseOneAhead 10 = .ok (.return_, 1) := by decide +kernel
set_option maxRecDepth 20000 in
theorem ggX6_init_X4_init : GoodIn wsX6_init wsX4_init := goodIn_r _ [18, 19, 2, 3, 20, 21, 22, 23, 24, 25, 26, 27, 28, 29, 30, 44, 45, 46, 47, 48, 49, 50, 51, 64, 65, 66, 67, 68, 69, 70] (by decide +kernel) (by decide +kernel)
set_option maxRecDepth 20000 in
theorem gX6_init_X4_init_n9 : GoodIn wsX6_init (wsX4_init) := ggX6_init_X4_init
set_option maxRecDepth 20000 in
theorem ggX6_init_X3_init : GoodIn wsX6_init wsX3_init := goodIn_r _ [32, 33, 2, 3, 34, 35, 5, 6, 17, 18, 19, 20, 21, 22, 23, 24, 25, 26, 27, 28, 29, 30, 56, 57, 44, 45, 46, 47, 48, 49, 50, 51, 64, 65, 66, 67, 68, 69, 70] (by decide +kernel) (by decide +kernel)
set_option maxRecDepth 20000 in
theorem gX6_init_X3_init_n21 : GoodIn wsX6_init (wsX3_init) := ggX6_init_X3_init
set_option maxRecDepth 20000 in
theorem ggX6_init_X2_init : GoodIn wsX6_init wsX2_init := goodIn_r _ [37, 38, 2, 3, 39, 40, 41, 42, 43, 58, 59, 60, 61, 62, 63] (by decide +kernel) (by decide +kernel)
set_option maxRecDepth 20000 in
theorem gX6_init_X2_init_n28 : GoodIn wsX6_init (wsX2_init) := ggX6_init_X2_init
theorem dX6_init_0 : decode cX6_init 0 = .ok (.aload_n 0, 1) := by decide +kernel
theorem dX6_init_1 : decode cX6_init 1 = .ok (.invokespecial 1, 3) := by decide +kernel
theorem dX6_init_4 : decode cX6_init 4 = .ok (.aload_n 0, 1) := by decide +kernel
theorem dX6_init_5 : decode cX6_init 5 = .ok (.new 7, 3) := by decide +kernel
theorem dX6_init_8 : decode cX6_init 8 = .ok (.dup, 1) := by decide +kernel
theorem dX6_init_9 : decode cX6_init 9 = .ok (.invokespecial 9, 3) := by decide +kernel
theorem dX6_init_12 : decode cX6_init 12 = .ok (.putfield 10, 3) := by decide +kernel
theorem dX6_init_15 : decode cX6_init 15 = .ok (.aload_n 0, 1) := by decide +kernel
theorem dX6_init_16 : decode cX6_init 16 = .ok (.new 7, 3) := by decide +kernel
theorem dX6_init_19 : decode cX6_init 19 = .ok (.dup, 1) := by decide +kernel
theorem dX6_init_20 : decode cX6_init 20 = .ok (.invokespecial 9, 3) := by decide +kernel
theorem dX6_init_23 : decode cX6_init 23 = .ok (.putfield 16, 3) := by decide +kernel
theorem dX6_init_26 : decode cX6_init 26 = .ok (.aload_n 0, 1) := by decide +kernel
theorem dX6_init_27 : decode cX6_init 27 = .ok (.new 19, 3) := by decide +kernel
theorem dX6_init_30 : decode cX6_init 30 = .ok (.dup, 1) := by decide +kernel
theorem dX6_init_31 : decode cX6_init 31 = .ok (.invokespecial 21, 3) := by decide +kernel
theorem dX6_init_34 : decode cX6_init 34 = .ok (.putfield 22, 3) := by decide +kernel
theorem dX6_init_37 : decode cX6_init 37 = .ok (.aload_n 0, 1) := by decide +kernel
theorem dX6_init_38 : decode cX6_init 38 = .ok (.new 26, 3) := by decide +kernel
theorem dX6_init_41 : decode cX6_init 41 = .ok (.dup, 1) := by decide +kernel
theorem dX6_init_42 : decode cX6_init 42 = .ok (.invokespecial 28, 3) := by decide +kernel
theorem dX6_init_45 : decode cX6_init 45 = .ok (.putfield 29, 3) := by decide +kernel
theorem dX6_init_48 : decode cX6_init 48 = .ok (.return_, 1) := by decide +kernel
set_option maxRecDepth 20000 in
theorem ggX6_join_X6_perform : GoodIn wsX6_join wsX6_perform := goodIn_ca (goodIn_ca (goodIn_ca (goodIn_r _ [6, 7, 8, 9, 10, 11, 5, 12, 13, 14, 15, 16, 17, 18, 19, 20, 21, 22, 23, 24, 25, 26, 27, 28, 29, 30, 31, 32, 33, 34, 35, 36, 37, 38, 39, 40, 41, 42, 43, 44, 45, 46, 47, 48, 49, 50, 51, 52, 53, 54, 55, 56, 57, 58, 59, 60, 61, 62, 63, 64, 65, 66, 67, 68, 69, 70, 71, 72, 73, 74, 75, 76, 77, 78, 79, 80, 81, 82, 83, 84, 85, 86, 87, 88, 89, 90, 91, 92, 93, 94, 95, 96, 97, 98, 99, 100, 101, 102, 103, 104, 105, 106, 107, 108, 109, 110, 111, 112, 113, 114, 115, 116, 117, 118, 119, 120, 121, 122, 123, 124, 125, 126, 127, 128, 129, 130, 131, 132, 133, 134, 135, 136, 137, 138, 139, 140, 141, 142, 143, 144, 145, 146, 147, 148, 149, 150, 151, 152, 153, 154, 155, 156, 157, 158, 159, 160, 161, 162, 163, 164, 165, 166, 167, 168, 169, 170, 171, 172, 173, 174, 175, 176, 177, 178, 179, 180, 181, 182, 183, 184, 185, 186, 187, 188, 189, 190, 191, 192, 193, 194, 195, 196, 197, 198, 199] (by decide +kernel) (by decide +kernel)) (goodIn_sub (fun _ h => List.mem_cons_of_mem _ (List.mem_append_left _ (List.mem_append_left _ (List.mem_append_right _ h)))) (by decide +kernel))) (goodIn_sub (fun _ h => List.mem_cons_of_mem _ (List.mem_append_left _ (List.mem_append_right _ h))) (by decide +kernel))) (goodIn_sub (fun _ h => List.mem_cons_of_mem _ (List.mem_append_right _ h)) (by decide +kernel))
set_option maxRecDepth 20000 in
theorem gX6_join_X6_perform : GoodIn wsX6_join (wsV RX6 39 RX6 yX6_perform wsX6_perform) := goodIn_app (goodIn_of _ (by decide +kernel)) ggX6_join_X6_perform
theorem dX6_join_0 : decode cX6_join 0 = .ok (.aload_n 0, 1) := by decide +kernel
theorem dX6_join_1 : decode cX6_join 1 = .ok (.getstatic 33, 3) := by decide +kernel
theorem dX6_join_4 : decode cX6_join 4 = .ok (.iload_n 1, 1) := by decide +kernel
theorem dX6_join_5 : decode cX6_join 5 = .ok (.iload_n 2, 1) := by decide +kernel
theorem dX6_join_6 : decode cX6_join 6 = .ok (.iconst 0, 1) := by decide +kernel
theorem dX6_join_7 : decode cX6_join 7 = .ok (.invokevirtual 39, 3) := by decide +kernel
theorem dX6_join_10 : decode cX6_join 10 = .ok (.ireturn, 1) := by decide +kernel
set_option maxRecDepth 20000 in
theorem ggX6_joinAt_X6_perform : GoodIn wsX6_joinAt wsX6_perform := goodIn_ca (goodIn_ca (goodIn_ca (goodIn_r _ [6, 7, 8, 9, 10, 11, 5, 12, 13, 14, 15, 16, 17, 18, 19, 20, 21, 22, 23, 24, 25, 26, 27, 28, 29, 30, 31, 32, 33, 34, 35, 36, 37, 38, 39, 40, 41, 42, 43, 44, 45, 46, 47, 48, 49, 50, 51, 52, 53, 54, 55, 56, 57, 58, 59, 60, 61, 62, 63, 64, 65, 66, 67, 68, 69, 70, 71, 72, 73, 74, 75, 76, 77, 78, 79, 80, 81, 82, 83, 84, 85, 86, 87, 88, 89, 90, 91, 92, 93, 94, 95, 96, 97, 98, 99, 100, 101, 102, 103, 104, 105, 106, 107, 108, 109, 110, 111, 112, 113, 114, 115, 116, 117, 118, 119, 120, 121, 122, 123, 124, 125, 126, 127, 128, 129, 130, 131, 132, 133, 134, 135, 136, 137, 138, 139, 140, 141, 142, 143, 144, 145, 146, 147, 148, 149, 150, 151, 152, 153, 154, 155, 156, 157, 158, 159, 160, 161, 162, 163, 164, 165, 166, 167, 168, 169, 170, 171, 172, 173, 174, 175, 176, 177, 178, 179, 180, 181, 182, 183, 184, 185, 186, 187, 188, 189, 190, 191, 192, 193, 194, 195, 196, 197, 198, 199] (by decide +kernel) (by decide +kernel)) (goodIn_sub (fun _ h => List.mem_cons_of_mem _ (List.mem_append_left _ (List.mem_append_left _ (List.mem_append_right _ h)))) (by decide +kernel))) (goodIn_sub (fun _ h => List.mem_cons_of_mem _ (List.mem_append_left _ (List.mem_append_right _ h))) (by decide +kernel))) (goodIn_sub (fun _ h => List.mem_cons_of_mem _ (List.mem_append_right _ h)) (by decide +kernel))
set_option maxRecDepth 20000 in
theorem gX6_joinAt_X6_perform : GoodIn wsX6_joinAt (wsV RX6 39 RX6 yX6_perform wsX6_perform) := goodIn_app (goodIn_of _ (by decide +kernel)) ggX6_joinAt_X6_perform
theorem dX6_joinAt_0 : decode cX6_joinAt 0 = .ok (.aload_n 0, 1) := by decide +kernel
theorem dX6_joinAt_1 : decode cX6_joinAt 1 = .ok (.getstatic 43, 3) := by decide +kernel
theorem dX6_joinAt_4 : decode cX6_joinAt 4 = .ok (.iload_n 1, 1) := by decide +kernel
theorem dX6_joinAt_5 : decode cX6_joinAt 5 = .ok (.iload_n 2, 1) := by decide +kernel
theorem dX6_joinAt_6 : decode cX6_joinAt 6 = .ok (.iload_n 3, 1) := by decide +kernel
theorem dX6_joinAt_7 : decode cX6_joinAt 7 = .ok (.invokevirtual 39, 3) := by decide +kernel
theorem dX6_joinAt_10 : decode cX6_joinAt 10 = .ok (.ireturn, 1) := by decide +kernel
set_option maxRecDepth 20000 in
theorem ggX6_leave_X6_perform : GoodIn wsX6_leave wsX6_perform := goodIn_ca (goodIn_ca (goodIn_ca (goodIn_r _ [6, 7, 8, 9, 10, 11, 5, 12, 13, 14, 15, 16, 17, 18, 19, 20, 21, 22, 23, 24, 25, 26, 27, 28, 29, 30, 31, 32, 33, 34, 35, 36, 37, 38, 39, 40, 41, 42, 43, 44, 45, 46, 47, 48, 49, 50, 51, 52, 53, 54, 55, 56, 57, 58, 59, 60, 61, 62, 63, 64, 65, 66, 67, 68, 69, 70, 71, 72, 73, 74, 75, 76, 77, 78, 79, 80, 81, 82, 83, 84, 85, 86, 87, 88, 89, 90, 91, 92, 93, 94, 95, 96, 97, 98, 99, 100, 101, 102, 103, 104, 105, 106, 107, 108, 109, 110, 111, 112, 113, 114, 115, 116, 117, 118, 119, 120, 121, 122, 123, 124, 125, 126, 127, 128, 129, 130, 131, 132, 133, 134, 135, 136, 137, 138, 139, 140, 141, 142, 143, 144, 145, 146, 147, 148, 149, 150, 151, 152, 153, 154, 155, 156, 157, 158, 159, 160, 161, 162, 163, 164, 165, 166, 167, 168, 169, 170, 171, 172, 173, 174, 175, 176, 177, 178, 179, 180, 181, 182, 183, 184, 185, 186, 187, 188, 189, 190, 191, 192, 193, 194, 195, 196, 197, 198, 199] (by decide +kernel) (by decide +kernel)) (goodIn_sub (fun _ h => List.mem_cons_of_mem _ (List.mem_append_left _ (List.mem_append_left _ (List.mem_append_right _ h)))) (by decide +kernel))) (goodIn_sub (fun _ h => List.mem_cons_of_mem _ (List.mem_append_left _ (List.mem_append_right _ h))) (by decide +kernel))) (goodIn_sub (fun _ h => List.mem_cons_of_mem _ (List.mem_append_right _ h)) (by decide +kernel))
set_option maxRecDepth 20000 in
theorem gX6_leave_X6_perform : GoodIn wsX6_leave (wsV RX6 39 RX6 yX6_perform wsX6_perform) := goodIn_app (goodIn_of _ (by decide +kernel)) ggX6_leave_X6_perform
theorem dX6_leave_0 : decode cX6_leave 0 = .ok (.aload_n 0, 1) := by decide +kernel
theorem dX6_leave_1 : decode cX6_leave 1 = .ok (.getstatic 46, 3) := by decide +kernel
theorem dX6_leave_4 : decode cX6_leave 4 = .ok (.iload_n 1, 1) := by decide +kernel
theorem dX6_leave_5 : decode cX6_leave 5 = .ok (.iconst 0, 1) := by decide +kernel
theorem dX6_leave_6 : decode cX6_leave 6 = .ok (.iconst 0, 1) := by decide +kernel
theorem dX6_leave_7 : decode cX6_leave 7 = .ok (.invokevirtual 39, 3) := by decide +kernel
theorem dX6_leave_10 : decode cX6_leave 10 = .ok (.ireturn, 1) := by decide +kernel
set_option maxRecDepth 20000 in
theorem ggX6_serve_X6_perform : GoodIn wsX6_serve wsX6_perform := goodIn_ca (goodIn_ca (goodIn_ca (goodIn_r _ [6, 7, 8, 9, 10, 11, 5, 12, 13, 14, 15, 16, 17, 18, 19, 20, 21, 22, 23, 24, 25, 26, 27, 28, 29, 30, 31, 32, 33, 34, 35, 36, 37, 38, 39, 40, 41, 42, 43, 44, 45, 46, 47, 48, 49, 50, 51, 52, 53, 54, 55, 56, 57, 58, 59, 60, 61, 62, 63, 64, 65, 66, 67, 68, 69, 70, 71, 72, 73, 74, 75, 76, 77, 78, 79, 80, 81, 82, 83, 84, 85, 86, 87, 88, 89, 90, 91, 92, 93, 94, 95, 96, 97, 98, 99, 100, 101, 102, 103, 104, 105, 106, 107, 108, 109, 110, 111, 112, 113, 114, 115, 116, 117, 118, 119, 120, 121, 122, 123, 124, 125, 126, 127, 128, 129, 130, 131, 132, 133, 134, 135, 136, 137, 138, 139, 140, 141, 142, 143, 144, 145, 146, 147, 148, 149, 150, 151, 152, 153, 154, 155, 156, 157, 158, 159, 160, 161, 162, 163, 164, 165, 166, 167, 168, 169, 170, 171, 172, 173, 174, 175, 176, 177, 178, 179, 180, 181, 182, 183, 184, 185, 186, 187, 188, 189, 190, 191, 192, 193, 194, 195, 196, 197, 198, 199] (by decide +kernel) (by decide +kernel)) (goodIn_sub (fun _ h => List.mem_cons_of_mem _ (List.mem_append_left _ (List.mem_append_left _ (List.mem_append_right _ h)))) (by decide +kernel))) (goodIn_sub (fun _ h => List.mem_cons_of_mem _ (List.mem_append_left _ (List.mem_append_right _ h))) (by decide +kernel))) (goodIn_sub (fun _ h => List.mem_cons_of_mem _ (List.mem_append_right _ h)) (by decide +kernel))
set_option maxRecDepth 20000 in
theorem gX6_serve_X6_perform : GoodIn wsX6_serve (wsV RX6 39 RX6 yX6_perform wsX6_perform) := goodIn_app (goodIn_of _ (by decide +kernel)) ggX6_serve_X6_perform
theorem dX6_serve_0 : decode cX6_serve 0 = .ok (.aload_n 0, 1) := by decide +kernel
theorem dX6_serve_1 : decode cX6_serve 1 = .ok (.getstatic 49, 3) := by decide +kernel
theorem dX6_serve_4 : decode cX6_serve 4 = .ok (.iconst 0, 1) := by decide +kernel
theorem dX6_serve_5 : decode cX6_serve 5 = .ok (.iconst 0, 1) := by decide +kernel
theorem dX6_serve_6 : decode cX6_serve 6 = .ok (.iconst 0, 1) := by decide +kernel
theorem dX6_serve_7 : decode cX6_serve 7 = .ok (.invokevirtual 39, 3) := by decide +kernel
theorem dX6_serve_10 : decode cX6_serve 10 = .ok (.ireturn, 1) := by decide +kernel
set_option maxRecDepth 20000 in
theorem ggX6_say_X6_perform : GoodIn wsX6_say wsX6_perform := goodIn_ca (goodIn_ca (goodIn_ca (goodIn_r _ [6, 7, 8, 9, 10, 11, 5, 12, 13, 14, 15, 16, 17, 18, 19, 20, 21, 22, 23, 24, 25, 26, 27, 28, 29, 30, 31, 32, 33, 34, 35, 36, 37, 38, 39, 40, 41, 42, 43, 44, 45, 46, 47, 48, 49, 50, 51, 52, 53, 54, 55, 56, 57, 58, 59, 60, 61, 62, 63, 64, 65, 66, 67, 68, 69, 70, 71, 72, 73, 74, 75, 76, 77, 78, 79, 80, 81, 82, 83, 84, 85, 86, 87, 88, 89, 90, 91, 92, 93, 94, 95, 96, 97, 98, 99, 100, 101, 102, 103, 104, 105, 106, 107, 108, 109, 110, 111, 112, 113, 114, 115, 116, 117, 118, 119, 120, 121, 122, 123, 124, 125, 126, 127, 128, 129, 130, 131, 132, 133, 134, 135, 136, 137, 138, 139, 140, 141, 142, 143, 144, 145, 146, 147, 148, 149, 150, 151, 152, 153, 154, 155, 156, 157, 158, 159, 160, 161, 162, 163, 164, 165, 166, 167, 168, 169, 170, 171, 172, 173, 174, 175, 176, 177, 178, 179, 180, 181, 182, 183, 184, 185, 186, 187, 188, 189, 190, 191, 192, 193, 194, 195, 196, 197, 198, 199] (by decide +kernel) (by decide +kernel)) (goodIn_sub (fun _ h => List.mem_cons_of_mem _ (List.mem_append_left _ (List.mem_append_left _ (List.mem_append_right _ h)))) (by decide +kernel))) (goodIn_sub (fun _ h => List.mem_cons_of_mem _ (List.mem_append_left _ (List.mem_append_right _ h))) (by decide +kernel))) (goodIn_sub (fun _ h => List.mem_cons_of_mem _ (List.mem_append_right _ h)) (by decide +kernel))
set_option maxRecDepth 20000 in
theorem gX6_say_X6_perform : GoodIn wsX6_say (wsV RX6 39 RX6 yX6_perform wsX6_perform) := goodIn_app (goodIn_of _ (by decide +kernel)) ggX6_say_X6_perform
theorem dX6_say_0 : decode cX6_say 0 = .ok (.aload_n 0, 1) := by decide +kernel
theorem dX6_say_1 : decode cX6_say 1 = .ok (.getstatic 52, 3) := by decide +kernel
theorem dX6_say_4 : decode cX6_say 4 = .ok (.iload_n 1, 1) := by decide +kernel
theorem dX6_say_5 : decode cX6_say 5 = .ok (.iload_n 2, 1) := by decide +kernel
theorem dX6_say_6 : decode cX6_say 6 = .ok (.iconst 0, 1) := by decide +kernel
theorem dX6_say_7 : decode cX6_say 7 = .ok (.invokevirtual 39, 3) := by decide +kernel
theorem dX6_say_10 : decode cX6_say 10 = .ok (.ireturn, 1) := by decide +kernel
set_option maxRecDepth 20000 in
theorem ggX6_setSplit_X6_isWithin : GoodIn wsX6_setSplit wsX6_isWithin := goodIn_r _ [6] (by decide +kernel) (by decide +kernel)
set_option maxRecDepth 20000 in
theorem gX6_setSplit_X6_isWithin : GoodIn wsX6_setSplit (va_wsS RX6 55 yX6_isWithin wsX6_isWithin) := goodIn_app (goodIn_of _ (by decide +kernel)) ggX6_setSplit_X6_isWithin
set_option maxRecDepth 20000 in
theorem ggX6_setSplit_X6_refuse : GoodIn wsX6_setSplit wsX6_refuse := goodIn_ca (goodIn_ca (goodIn_ca (goodIn_r _ [9, 10, 11, 12, 13, 14, 15] (by decide +kernel) (by decide +kernel)) (goodIn_sub (fun _ h => List.mem_cons_of_mem _ (List.mem_append_left _ (List.mem_append_left _ (List.mem_append_right _ h)))) (by decide +kernel))) (goodIn_sub (fun _ h => List.mem_cons_of_mem _ (List.mem_append_left _ (List.mem_append_right _ h))) (by decide +kernel))) (goodIn_sub (fun _ h => List.mem_cons_of_mem _ (List.mem_append_right _ h)) (by decide +kernel))
set_option maxRecDepth 20000 in
theorem gX6_setSplit_X6_refuse : GoodIn wsX6_setSplit (va_wsS RX6 59 yX6_refuse wsX6_refuse) := goodIn_app (goodIn_of _ (by decide +kernel)) ggX6_setSplit_X6_refuse
set_option maxRecDepth 20000 in
theorem ggX6_setSplit_X3_push : GoodIn wsX6_setSplit wsX3_push := goodIn_r _ [19, 20, 21, 22, 23, 24, 17, 25, 26, 27, 28, 29, 30, 31, 32, 33, 34, 35, 36, 37, 38, 39, 40, 41, 42, 43, 44, 45, 46, 47, 48, 49, 50, 51, 52, 65, 66, 57, 58, 59, 60, 61, 62, 63, 64, 67, 68, 69, 70, 71, 72, 73] (by decide +kernel) (by decide +kernel)
set_option maxRecDepth 20000 in
theorem gX6_setSplit_X3_push_n63 : GoodIn wsX6_setSplit (wsX3_push) := ggX6_setSplit_X3_push
theorem dX6_setSplit_0 : decode cX6_setSplit 0 = .ok (.iload_n 1, 1) := by decide +kernel
theorem dX6_setSplit_1 : decode cX6_setSplit 1 = .ok (.iconst 0, 1) := by decide +kernel
theorem dX6_setSplit_2 : decode cX6_setSplit 2 = .ok (.bipush 100, 2) := by decide +kernel
theorem dX6_setSplit_4 : decode cX6_setSplit 4 = .ok (.invokestatic 55, 3) := by decide +kernel
theorem dX6_setSplit_7 : decode cX6_setSplit 7 = .ok (.ifCond .eq 7, 3) := by decide +kernel
theorem dX6_setSplit_10 : decode cX6_setSplit 10 = .ok (.iconst 0, 1) := by decide +kernel
theorem dX6_setSplit_11 : decode cX6_setSplit 11 = .ok (.goto 4, 3) := by decide +kernel
theorem dX6_setSplit_14 : decode cX6_setSplit 14 = .ok (.iconst 2, 1) := by decide +kernel
theorem dX6_setSplit_15 : decode cX6_setSplit 15 = .ok (.invokestatic 59, 3) := by decide +kernel
theorem dX6_setSplit_18 : decode cX6_setSplit 18 = .ok (.aload_n 0, 1) := by decide +kernel
theorem dX6_setSplit_19 : decode cX6_setSplit 19 = .ok (.getfield 22, 3) := by decide +kernel
theorem dX6_setSplit_22 : decode cX6_setSplit 22 = .ok (.aload_n 0, 1) := by decide +kernel
theorem dX6_setSplit_23 : decode cX6_setSplit 23 = .ok (.getfield 10, 3) := by decide +kernel
theorem dX6_setSplit_26 : decode cX6_setSplit 26 = .ok (.invokevirtual 63, 3) := by decide +kernel
theorem dX6_setSplit_29 : decode cX6_setSplit 29 = .ok (.aload_n 0, 1) := by decide +kernel
theorem dX6_setSplit_30 : decode cX6_setSplit 30 = .ok (.getfield 10, 3) := by decide +kernel
theorem dX6_setSplit_33 : decode cX6_setSplit 33 = .ok (.getfield 67, 3) := by decide +kernel
theorem dX6_setSplit_36 : decode cX6_setSplit 36 = .ok (.istore_n 2, 1) := by decide +kernel
theorem dX6_setSplit_37 : decode cX6_setSplit 37 = .ok (.aload_n 0, 1) := by decide +kernel
theorem dX6_setSplit_38 : decode cX6_setSplit 38 = .ok (.getfield 10, 3) := by decide +kernel
theorem dX6_setSplit_41 : decode cX6_setSplit 41 = .ok (.iload_n 1, 1) := by decide +kernel
theorem dX6_setSplit_42 : decode cX6_setSplit 42 = .ok (.putfield 67, 3) := by decide +kernel
theorem dX6_setSplit_45 : decode cX6_setSplit 45 = .ok (.iload_n 2, 1) := by decide +kernel
theorem dX6_setSplit_46 : decode cX6_setSplit 46 = .ok (.ireturn, 1) := by decide +kernel
set_option maxRecDepth 20000 in
theorem ggX6_offer_X6_perform : GoodIn wsX6_offer wsX6_perform := goodIn_ca (goodIn_ca (goodIn_ca (goodIn_r _ [6, 7, 8, 9, 10, 11, 5, 12, 13, 14, 15, 16, 17, 18, 19, 20, 21, 22, 23, 24, 25, 26, 27, 28, 29, 30, 31, 32, 33, 34, 35, 36, 37, 38, 39, 40, 41, 42, 43, 44, 45, 46, 47, 48, 49, 50, 51, 52, 53, 54, 55, 56, 57, 58, 59, 60, 61, 62, 63, 64, 65, 66, 67, 68, 69, 70, 71, 72, 73, 74, 75, 76, 77, 78, 79, 80, 81, 82, 83, 84, 85, 86, 87, 88, 89, 90, 91, 92, 93, 94, 95, 96, 97, 98, 99, 100, 101, 102, 103, 104, 105, 106, 107, 108, 109, 110, 111, 112, 113, 114, 115, 116, 117, 118, 119, 120, 121, 122, 123, 124, 125, 126, 127, 128, 129, 130, 131, 132, 133, 134, 135, 136, 137, 138, 139, 140, 141, 142, 143, 144, 145, 146, 147, 148, 149, 150, 151, 152, 153, 154, 155, 156, 157, 158, 159, 160, 161, 162, 163, 164, 165, 166, 167, 168, 169, 170, 171, 172, 173, 174, 175, 176, 177, 178, 179, 180, 181, 182, 183, 184, 185, 186, 187, 188, 189, 190, 191, 192, 193, 194, 195, 196, 197, 198, 199] (by decide +kernel) (by decide +kernel)) (goodIn_sub (fun _ h => List.mem_cons_of_mem _ (List.mem_append_left _ (List.mem_append_left _ (List.mem_append_right _ h)))) (by decide +kernel))) (goodIn_sub (fun _ h => List.mem_cons_of_mem _ (List.mem_append_left _ (List.mem_append_right _ h))) (by decide +kernel))) (goodIn_sub (fun _ h => List.mem_cons_of_mem _ (List.mem_append_right _ h)) (by decide +kernel))
set_option maxRecDepth 20000 in
theorem gX6_offer_X6_perform : GoodIn wsX6_offer (wsV RX6 39 RX6 yX6_perform wsX6_perform) := goodIn_app (goodIn_of _ (by decide +kernel)) ggX6_offer_X6_perform
theorem dX6_offer_0 : decode cX6_offer 0 = .ok (.aload_n 0, 1) := by decide +kernel
theorem dX6_offer_1 : decode cX6_offer 1 = .ok (.getstatic 71, 3) := by decide +kernel
theorem dX6_offer_4 : decode cX6_offer 4 = .ok (.iload_n 1, 1) := by decide +kernel
theorem dX6_offer_5 : decode cX6_offer 5 = .ok (.iload_n 2, 1) := by decide +kernel
theorem dX6_offer_6 : decode cX6_offer 6 = .ok (.iconst 0, 1) := by decide +kernel
theorem dX6_offer_7 : decode cX6_offer 7 = .ok (.invokevirtual 39, 3) := by decide +kernel
theorem dX6_offer_10 : decode cX6_offer 10 = .ok (.ireturn, 1) := by decide +kernel
set_option maxRecDepth 20000 in
theorem ggX6_take_X6_perform : GoodIn wsX6_take wsX6_perform := goodIn_ca (goodIn_ca (goodIn_ca (goodIn_r _ [6, 7, 8, 9, 10, 11, 5, 12, 13, 14, 15, 16, 17, 18, 19, 20, 21, 22, 23, 24, 25, 26, 27, 28, 29, 30, 31, 32, 33, 34, 35, 36, 37, 38, 39, 40, 41, 42, 43, 44, 45, 46, 47, 48, 49, 50, 51, 52, 53, 54, 55, 56, 57, 58, 59, 60, 61, 62, 63, 64, 65, 66, 67, 68, 69, 70, 71, 72, 73, 74, 75, 76, 77, 78, 79, 80, 81, 82, 83, 84, 85, 86, 87, 88, 89, 90, 91, 92, 93, 94, 95, 96, 97, 98, 99, 100, 101, 102, 103, 104, 105, 106, 107, 108, 109, 110, 111, 112, 113, 114, 115, 116, 117, 118, 119, 120, 121, 122, 123, 124, 125, 126, 127, 128, 129, 130, 131, 132, 133, 134, 135, 136, 137, 138, 139, 140, 141, 142, 143, 144, 145, 146, 147, 148, 149, 150, 151, 152, 153, 154, 155, 156, 157, 158, 159, 160, 161, 162, 163, 164, 165, 166, 167, 168, 169, 170, 171, 172, 173, 174, 175, 176, 177, 178, 179, 180, 181, 182, 183, 184, 185, 186, 187, 188, 189, 190, 191, 192, 193, 194, 195, 196, 197, 198, 199] (by decide +kernel) (by decide +kernel)) (goodIn_sub (fun _ h => List.mem_cons_of_mem _ (List.mem_append_left _ (List.mem_append_left _ (List.mem_append_right _ h)))) (by decide +kernel))) (goodIn_sub (fun _ h => List.mem_cons_of_mem _ (List.mem_append_left _ (List.mem_append_right _ h))) (by decide +kernel))) (goodIn_sub (fun _ h => List.mem_cons_of_mem _ (List.mem_append_right _ h)) (by decide +kernel))
set_option maxRecDepth 20000 in
theorem gX6_take_X6_perform : GoodIn wsX6_take (wsV RX6 39 RX6 yX6_perform wsX6_perform) := goodIn_app (goodIn_of _ (by decide +kernel)) ggX6_take_X6_perform
theorem dX6_take_0 : decode cX6_take 0 = .ok (.aload_n 0, 1) := by decide +kernel
theorem dX6_take_1 : decode cX6_take 1 = .ok (.getstatic 74, 3) := by decide +kernel
theorem dX6_take_4 : decode cX6_take 4 = .ok (.iload_n 1, 1) := by decide +kernel
theorem dX6_take_5 : decode cX6_take 5 = .ok (.iconst 0, 1) := by decide +kernel
theorem dX6_take_6 : decode cX6_take 6 = .ok (.iconst 0, 1) := by decide +kernel
theorem dX6_take_7 : decode cX6_take 7 = .ok (.invokevirtual 39, 3) := by decide +kernel
theorem dX6_take_10 : decode cX6_take 10 = .ok (.ireturn, 1) := by decide +kernel
set_option maxRecDepth 20000 in
theorem ggX6_swap_X6_perform : GoodIn wsX6_swap wsX6_perform := goodIn_ca (goodIn_ca (goodIn_ca (goodIn_r _ [6, 7, 8, 9, 10, 11, 5, 12, 13, 14, 15, 16, 17, 18, 19, 20, 21, 22, 23, 24, 25, 26, 27, 28, 29, 30, 31, 32, 33, 34, 35, 36, 37, 38, 39, 40, 41, 42, 43, 44, 45, 46, 47, 48, 49, 50, 51, 52, 53, 54, 55, 56, 57, 58, 59, 60, 61, 62, 63, 64, 65, 66, 67, 68, 69, 70, 71, 72, 73, 74, 75, 76, 77, 78, 79, 80, 81, 82, 83, 84, 85, 86, 87, 88, 89, 90, 91, 92, 93, 94, 95, 96, 97, 98, 99, 100, 101, 102, 103, 104, 105, 106, 107, 108, 109, 110, 111, 112, 113, 114, 115, 116, 117, 118, 119, 120, 121, 122, 123, 124, 125, 126, 127, 128, 129, 130, 131, 132, 133, 134, 135, 136, 137, 138, 139, 140, 141, 142, 143, 144, 145, 146, 147, 148, 149, 150, 151, 152, 153, 154, 155, 156, 157, 158, 159, 160, 161, 162, 163, 164, 165, 166, 167, 168, 169, 170, 171, 172, 173, 174, 175, 176, 177, 178, 179, 180, 181, 182, 183, 184, 185, 186, 187, 188, 189, 190, 191, 192, 193, 194, 195, 196, 197, 198, 199] (by decide +kernel) (by decide +kernel)) (goodIn_sub (fun _ h => List.mem_cons_of_mem _ (List.mem_append_left _ (List.mem_append_left _ (List.mem_append_right _ h)))) (by decide +kernel))) (goodIn_sub (fun _ h => List.mem_cons_of_mem _ (List.mem_append_left _ (List.mem_append_right _ h))) (by decide +kernel))) (goodIn_sub (fun _ h => List.mem_cons_of_mem _ (List.mem_append_right _ h)) (by decide +kernel))
set_option maxRecDepth 20000 in
theorem gX6_swap_X6_perform : GoodIn wsX6_swap (wsV RX6 39 RX6 yX6_perform wsX6_perform) := goodIn_app (goodIn_of _ (by decide +kernel)) ggX6_swap_X6_perform
theorem dX6_swap_0 : decode cX6_swap 0 = .ok (.aload_n 0, 1) := by decide +kernel
theorem dX6_swap_1 : decode cX6_swap 1 = .ok (.getstatic 77, 3) := by decide +kernel
theorem dX6_swap_4 : decode cX6_swap 4 = .ok (.iload_n 1, 1) := by decide +kernel
theorem dX6_swap_5 : decode cX6_swap 5 = .ok (.iconst 0, 1) := by decide +kernel
theorem dX6_swap_6 : decode cX6_swap 6 = .ok (.iconst 0, 1) := by decide +kernel
theorem dX6_swap_7 : decode cX6_swap 7 = .ok (.invokevirtual 39, 3) := by decide +kernel
theorem dX6_swap_10 : decode cX6_swap 10 = .ok (.ireturn, 1) := by decide +kernel
set_option maxRecDepth 20000 in
theorem ggX6_befriend_X6_perform : GoodIn wsX6_befriend wsX6_perform := goodIn_ca (goodIn_ca (goodIn_ca (goodIn_r _ [6, 7, 8, 9, 10, 11, 5, 12, 13, 14, 15, 16, 17, 18, 19, 20, 21, 22, 23, 24, 25, 26, 27, 28, 29, 30, 31, 32, 33, 34, 35, 36, 37, 38, 39, 40, 41, 42, 43, 44, 45, 46, 47, 48, 49, 50, 51, 52, 53, 54, 55, 56, 57, 58, 59, 60, 61, 62, 63, 64, 65, 66, 67, 68, 69, 70, 71, 72, 73, 74, 75, 76, 77, 78, 79, 80, 81, 82, 83, 84, 85, 86, 87, 88, 89, 90, 91, 92, 93, 94, 95, 96, 97, 98, 99, 100, 101, 102, 103, 104, 105, 106, 107, 108, 109, 110, 111, 112, 113, 114, 115, 116, 117, 118, 119, 120, 121, 122, 123, 124, 125, 126, 127, 128, 129, 130, 131, 132, 133, 134, 135, 136, 137, 138, 139, 140, 141, 142, 143, 144, 145, 146, 147, 148, 149, 150, 151, 152, 153, 154, 155, 156, 157, 158, 159, 160, 161, 162, 163, 164, 165, 166, 167, 168, 169, 170, 171, 172, 173, 174, 175, 176, 177, 178, 179, 180, 181, 182, 183, 184, 185, 186, 187, 188, 189, 190, 191, 192, 193, 194, 195, 196, 197, 198, 199] (by decide +kernel) (by decide +kernel)) (goodIn_sub (fun _ h => List.mem_cons_of_mem _ (List.mem_append_left _ (List.mem_append_left _ (List.mem_append_right _ h)))) (by decide +kernel))) (goodIn_sub (fun _ h => List.mem_cons_of_mem _ (List.mem_append_left _ (List.mem_append_right _ h))) (by decide +kernel))) (goodIn_sub (fun _ h => List.mem_cons_of_mem _ (List.mem_append_right _ h)) (by decide +kernel))
set_option maxRecDepth 20000 in
theorem gX6_befriend_X6_perform : GoodIn wsX6_befriend (wsV RX6 39 RX6 yX6_perform wsX6_perform) := goodIn_app (goodIn_of _ (by decide +kernel)) ggX6_befriend_X6_perform
theorem dX6_befriend_0 : decode cX6_befriend 0 = .ok (.aload_n 0, 1) := by decide +kernel
theorem dX6_befriend_1 : decode cX6_befriend 1 = .ok (.getstatic 80, 3) := by decide +kernel
theorem dX6_befriend_4 : decode cX6_befriend 4 = .ok (.iload_n 1, 1) := by decide +kernel
theorem dX6_befriend_5 : decode cX6_befriend 5 = .ok (.iconst 0, 1) := by decide +kernel
theorem dX6_befriend_6 : decode cX6_befriend 6 = .ok (.iconst 0, 1) := by decide +kernel
theorem dX6_befriend_7 : decode cX6_befriend 7 = .ok (.invokevirtual 39, 3) := by decide +kernel
theorem dX6_befriend_10 : decode cX6_befriend 10 = .ok (.ireturn, 1) := by decide +kernel
set_option maxRecDepth 20000 in
theorem ggX6_part_X6_perform : GoodIn wsX6_part wsX6_perform := goodIn_ca (goodIn_ca (goodIn_ca (goodIn_r _ [6, 7, 8, 9, 10, 11, 5, 12, 13, 14, 15, 16, 17, 18, 19, 20, 21, 22, 23, 24, 25, 26, 27, 28, 29, 30, 31, 32, 33, 34, 35, 36, 37, 38, 39, 40, 41, 42, 43, 44, 45, 46, 47, 48, 49, 50, 51, 52, 53, 54, 55, 56, 57, 58, 59, 60, 61, 62, 63, 64, 65, 66, 67, 68, 69, 70, 71, 72, 73, 74, 75, 76, 77, 78, 79, 80, 81, 82, 83, 84, 85, 86, 87, 88, 89, 90, 91, 92, 93, 94, 95, 96, 97, 98, 99, 100, 101, 102, 103, 104, 105, 106, 107, 108, 109, 110, 111, 112, 113, 114, 115, 116, 117, 118, 119, 120, 121, 122, 123, 124, 125, 126, 127, 128, 129, 130, 131, 132, 133, 134, 135, 136, 137, 138, 139, 140, 141, 142, 143, 144, 145, 146, 147, 148, 149, 150, 151, 152, 153, 154, 155, 156, 157, 158, 159, 160, 161, 162, 163, 164, 165, 166, 167, 168, 169, 170, 171, 172, 173, 174, 175, 176, 177, 178, 179, 180, 181, 182, 183, 184, 185, 186, 187, 188, 189, 190, 191, 192, 193, 194, 195, 196, 197, 198, 199] (by decide +kernel) (by decide +kernel)) (goodIn_sub (fun _ h => List.mem_cons_of_mem _ (List.mem_append_left _ (List.mem_append_left _ (List.mem_append_right _ h)))) (by decide +kernel))) (goodIn_sub (fun _ h => List.mem_cons_of_mem _ (List.mem_append_left _ (List.mem_append_right _ h))) (by decide +kernel))) (goodIn_sub (fun _ h => List.mem_cons_of_mem _ (List.mem_append_right _ h)) (by decide +kernel))
set_option maxRecDepth 20000 in
theorem gX6_part_X6_perform : GoodIn wsX6_part (wsV RX6 39 RX6 yX6_perform wsX6_perform) := goodIn_app (goodIn_of _ (by decide +kernel)) ggX6_part_X6_perform
theorem dX6_part_0 : decode cX6_part 0 = .ok (.aload_n 0, 1) := by decide +kernel
theorem dX6_part_1 : decode cX6_part 1 = .ok (.getstatic 83, 3) := by decide +kernel
theorem dX6_part_4 : decode cX6_part 4 = .ok (.iload_n 1, 1) := by decide +kernel
theorem dX6_part_5 : decode cX6_part 5 = .ok (.iconst 0, 1) := by decide +kernel
theorem dX6_part_6 : decode cX6_part 6 = .ok (.iconst 0, 1) := by decide +kernel
theorem dX6_part_7 : decode cX6_part 7 = .ok (.invokevirtual 39, 3) := by decide +kernel
theorem dX6_part_10 : decode cX6_part 10 = .ok (.ireturn, 1) := by decide +kernel
set_option maxRecDepth 20000 in
theorem ggX6_settle_X6_perform : GoodIn wsX6_settle wsX6_perform := goodIn_ca (goodIn_ca (goodIn_ca (goodIn_r _ [6, 7, 8, 9, 10, 11, 5, 12, 13, 14, 15, 16, 17, 18, 19, 20, 21, 22, 23, 24, 25, 26, 27, 28, 29, 30, 31, 32, 33, 34, 35, 36, 37, 38, 39, 40, 41, 42, 43, 44, 45, 46, 47, 48, 49, 50, 51, 52, 53, 54, 55, 56, 57, 58, 59, 60, 61, 62, 63, 64, 65, 66, 67, 68, 69, 70, 71, 72, 73, 74, 75, 76, 77, 78, 79, 80, 81, 82, 83, 84, 85, 86, 87, 88, 89, 90, 91, 92, 93, 94, 95, 96, 97, 98, 99, 100, 101, 102, 103, 104, 105, 106, 107, 108, 109, 110, 111, 112, 113, 114, 115, 116, 117, 118, 119, 120, 121, 122, 123, 124, 125, 126, 127, 128, 129, 130, 131, 132, 133, 134, 135, 136, 137, 138, 139, 140, 141, 142, 143, 144, 145, 146, 147, 148, 149, 150, 151, 152, 153, 154, 155, 156, 157, 158, 159, 160, 161, 162, 163, 164, 165, 166, 167, 168, 169, 170, 171, 172, 173, 174, 175, 176, 177, 178, 179, 180, 181, 182, 183, 184, 185, 186, 187, 188, 189, 190, 191, 192, 193, 194, 195, 196, 197, 198, 199] (by decide +kernel) (by decide +kernel)) (goodIn_sub (fun _ h => List.mem_cons_of_mem _ (List.mem_append_left _ (List.mem_append_left _ (List.mem_append_right _ h)))) (by decide +kernel))) (goodIn_sub (fun _ h => List.mem_cons_of_mem _ (List.mem_append_left _ (List.mem_append_right _ h))) (by decide +kernel))) (goodIn_sub (fun _ h => List.mem_cons_of_mem _ (List.mem_append_right _ h)) (by decide +kernel))
set_option maxRecDepth 20000 in
theorem gX6_settle_X6_perform : GoodIn wsX6_settle (wsV RX6 39 RX6 yX6_perform wsX6_perform) := goodIn_app (goodIn_of _ (by decide +kernel)) ggX6_settle_X6_perform
theorem dX6_settle_0 : decode cX6_settle 0 = .ok (.aload_n 0, 1) := by decide +kernel
theorem dX6_settle_1 : decode cX6_settle 1 = .ok (.getstatic 86, 3) := by decide +kernel
theorem dX6_settle_4 : decode cX6_settle 4 = .ok (.iconst 0, 1) := by decide +kernel
theorem dX6_settle_5 : decode cX6_settle 5 = .ok (.iconst 0, 1) := by decide +kernel
theorem dX6_settle_6 : decode cX6_settle 6 = .ok (.iconst 0, 1) := by decide +kernel
theorem dX6_settle_7 : decode cX6_settle 7 = .ok (.invokevirtual 39, 3) := by decide +kernel
theorem dX6_settle_10 : decode cX6_settle 10 = .ok (.ireturn, 1) := by decide +kernel
set_option maxRecDepth 20000 in
theorem ggX6_member_X4_placeOf : GoodIn wsX6_member wsX4_placeOf := goodIn_r _ [5, 6, 7, 8, 9, 3, 10, 11, 12, 53, 54, 55, 56, 57, 58, 59, 60, 61, 62, 63, 64, 65, 66, 67] (by decide +kernel) (by decide +kernel)
set_option maxRecDepth 20000 in
theorem gX6_member_X4_placeOf_n89 : GoodIn wsX6_member (wsX4_placeOf) := ggX6_member_X4_placeOf
set_option maxRecDepth 20000 in
theorem ggX6_member_X6_isWithin : GoodIn wsX6_member wsX6_isWithin := goodIn_r _ [16] (by decide +kernel) (by decide +kernel)
set_option maxRecDepth 20000 in
theorem gX6_member_X6_isWithin : GoodIn wsX6_member (va_wsS RX6 55 yX6_isWithin wsX6_isWithin) := goodIn_app (goodIn_of _ (by decide +kernel)) ggX6_member_X6_isWithin
set_option maxRecDepth 20000 in
theorem ggX6_member_X6_memberFault : GoodIn wsX6_member wsX6_memberFault := goodIn_r _ [20] (by decide +kernel) (by decide +kernel)
set_option maxRecDepth 20000 in
theorem gX6_member_X6_memberFault : GoodIn wsX6_member (wsV RX6 93 RX6 yX6_memberFault wsX6_memberFault) := goodIn_app (goodIn_of _ (by decide +kernel)) ggX6_member_X6_memberFault
set_option maxRecDepth 20000 in
theorem ggX6_member_X6_refuse : GoodIn wsX6_member wsX6_refuse := goodIn_ca (goodIn_ca (goodIn_ca (goodIn_r _ [23, 24, 25, 26, 27, 28, 29] (by decide +kernel) (by decide +kernel)) (goodIn_sub (fun _ h => List.mem_cons_of_mem _ (List.mem_append_left _ (List.mem_append_left _ (List.mem_append_right _ h)))) (by decide +kernel))) (goodIn_sub (fun _ h => List.mem_cons_of_mem _ (List.mem_append_left _ (List.mem_append_right _ h))) (by decide +kernel))) (goodIn_sub (fun _ h => List.mem_cons_of_mem _ (List.mem_append_right _ h)) (by decide +kernel))
set_option maxRecDepth 20000 in
theorem gX6_member_X6_refuse : GoodIn wsX6_member (va_wsS RX6 59 yX6_refuse wsX6_refuse) := goodIn_app (goodIn_of _ (by decide +kernel)) ggX6_member_X6_refuse
set_option maxRecDepth 20000 in
theorem ggX6_member_X4_memberValue : GoodIn wsX6_member wsX4_memberValue := goodIn_r _ [32, 7, 8, 9, 3, 10, 6, 11, 12, 33, 34, 35, 36, 37, 38, 39, 40, 41, 42, 43, 44, 45, 46, 47, 48, 61, 62, 63, 64, 65, 66, 67, 53, 54, 55, 56, 57, 58, 59, 60] (by decide +kernel) (by decide +kernel)
set_option maxRecDepth 20000 in
theorem gX6_member_X4_memberValue_n97 : GoodIn wsX6_member (wsX4_memberValue) := ggX6_member_X4_memberValue
theorem dX6_member_0 : decode cX6_member 0 = .ok (.aload_n 0, 1) := by decide +kernel
theorem dX6_member_1 : decode cX6_member 1 = .ok (.getfield 10, 3) := by decide +kernel
theorem dX6_member_4 : decode cX6_member 4 = .ok (.iload_n 1, 1) := by decide +kernel
theorem dX6_member_5 : decode cX6_member 5 = .ok (.invokevirtual 89, 3) := by decide +kernel
theorem dX6_member_8 : decode cX6_member 8 = .ok (.istore_n 3, 1) := by decide +kernel
theorem dX6_member_9 : decode cX6_member 9 = .ok (.aload_n 0, 1) := by decide +kernel
theorem dX6_member_10 : decode cX6_member 10 = .ok (.iload_n 3, 1) := by decide +kernel
theorem dX6_member_11 : decode cX6_member 11 = .ok (.iload_n 2, 1) := by decide +kernel
theorem dX6_member_12 : decode cX6_member 12 = .ok (.iconst 0, 1) := by decide +kernel
theorem dX6_member_13 : decode cX6_member 13 = .ok (.bipush 9, 2) := by decide +kernel
theorem dX6_member_15 : decode cX6_member 15 = .ok (.invokestatic 55, 3) := by decide +kernel
theorem dX6_member_18 : decode cX6_member 18 = .ok (.invokevirtual 93, 3) := by decide +kernel
theorem dX6_member_21 : decode cX6_member 21 = .ok (.invokestatic 59, 3) := by decide +kernel
theorem dX6_member_24 : decode cX6_member 24 = .ok (.aload_n 0, 1) := by decide +kernel
theorem dX6_member_25 : decode cX6_member 25 = .ok (.getfield 10, 3) := by decide +kernel
theorem dX6_member_28 : decode cX6_member 28 = .ok (.iload_n 3, 1) := by decide +kernel
theorem dX6_member_29 : decode cX6_member 29 = .ok (.iload_n 2, 1) := by decide +kernel
theorem dX6_member_30 : decode cX6_member 30 = .ok (.invokevirtual 97, 3) := by decide +kernel
theorem dX6_member_33 : decode cX6_member 33 = .ok (.ireturn, 1) := by decide +kernel
set_option maxRecDepth 20000 in
theorem ggX6_at_X6_refuse : GoodIn wsX6_at wsX6_refuse := goodIn_ca (goodIn_ca (goodIn_ca (goodIn_r _ [5, 6, 7, 8, 9, 10, 11] (by decide +kernel) (by decide +kernel)) (goodIn_sub (fun _ h => List.mem_cons_of_mem _ (List.mem_append_left _ (List.mem_append_left _ (List.mem_append_right _ h)))) (by decide +kernel))) (goodIn_sub (fun _ h => List.mem_cons_of_mem _ (List.mem_append_left _ (List.mem_append_right _ h))) (by decide +kernel))) (goodIn_sub (fun _ h => List.mem_cons_of_mem _ (List.mem_append_right _ h)) (by decide +kernel))
set_option maxRecDepth 20000 in
theorem gX6_at_X6_refuse : GoodIn wsX6_at (va_wsS RX6 59 yX6_refuse wsX6_refuse) := goodIn_app (goodIn_of _ (by decide +kernel)) ggX6_at_X6_refuse
set_option maxRecDepth 20000 in
theorem ggX6_at_X4_memberAt : GoodIn wsX6_at wsX4_memberAt := goodIn_r _ [15, 16, 17, 18, 30, 31, 32, 33, 34, 35, 36, 37] (by decide +kernel) (by decide +kernel)
set_option maxRecDepth 20000 in
theorem gX6_at_X4_memberAt_n101 : GoodIn wsX6_at (wsX4_memberAt) := ggX6_at_X4_memberAt
theorem dX6_at_0 : decode cX6_at 0 = .ok (.iload_n 1, 1) := by decide +kernel
theorem dX6_at_1 : decode cX6_at 1 = .ok (.ifCond .lt 7, 3) := by decide +kernel
theorem dX6_at_4 : decode cX6_at 4 = .ok (.iconst 0, 1) := by decide +kernel
theorem dX6_at_5 : decode cX6_at 5 = .ok (.goto 4, 3) := by decide +kernel
theorem dX6_at_8 : decode cX6_at 8 = .ok (.iconst 2, 1) := by decide +kernel
theorem dX6_at_9 : decode cX6_at 9 = .ok (.invokestatic 59, 3) := by decide +kernel
theorem dX6_at_12 : decode cX6_at 12 = .ok (.aload_n 0, 1) := by decide +kernel
theorem dX6_at_13 : decode cX6_at 13 = .ok (.getfield 10, 3) := by decide +kernel
theorem dX6_at_16 : decode cX6_at 16 = .ok (.iload_n 1, 1) := by decide +kernel
theorem dX6_at_17 : decode cX6_at 17 = .ok (.invokevirtual 101, 3) := by decide +kernel
theorem dX6_at_20 : decode cX6_at 20 = .ok (.getfield 105, 3) := by decide +kernel
theorem dX6_at_23 : decode cX6_at 23 = .ok (.ireturn, 1) := by decide +kernel
set_option maxRecDepth 20000 in
theorem ggX6_pair_X6_isWithin : GoodIn wsX6_pair wsX6_isWithin := goodIn_r _ [5] (by decide +kernel) (by decide +kernel)
set_option maxRecDepth 20000 in
theorem gX6_pair_X6_isWithin : GoodIn wsX6_pair (va_wsS RX6 55 yX6_isWithin wsX6_isWithin) := goodIn_app (goodIn_of _ (by decide +kernel)) ggX6_pair_X6_isWithin
set_option maxRecDepth 20000 in
theorem ggX6_pair_X6_pairFault : GoodIn wsX6_pair wsX6_pairFault := goodIn_r _ [9, 1, 2, 3, 4, 5, 51, 52, 53, 54, 55, 56, 57, 58, 59, 60, 61, 62] (by decide +kernel) (by decide +kernel)
set_option maxRecDepth 20000 in
theorem gX6_pair_X6_pairFault : GoodIn wsX6_pair (wsV RX6 110 RX6 yX6_pairFault wsX6_pairFault) := goodIn_app (goodIn_of _ (by decide +kernel)) ggX6_pair_X6_pairFault
set_option maxRecDepth 20000 in
theorem ggX6_pair_X6_refuse : GoodIn wsX6_pair wsX6_refuse := goodIn_ca (goodIn_ca (goodIn_ca (goodIn_r _ [12, 13, 14, 15, 16, 17, 18] (by decide +kernel) (by decide +kernel)) (goodIn_sub (fun _ h => List.mem_cons_of_mem _ (List.mem_append_left _ (List.mem_append_left _ (List.mem_append_right _ h)))) (by decide +kernel))) (goodIn_sub (fun _ h => List.mem_cons_of_mem _ (List.mem_append_left _ (List.mem_append_right _ h))) (by decide +kernel))) (goodIn_sub (fun _ h => List.mem_cons_of_mem _ (List.mem_append_right _ h)) (by decide +kernel))
set_option maxRecDepth 20000 in
theorem gX6_pair_X6_refuse : GoodIn wsX6_pair (va_wsS RX6 59 yX6_refuse wsX6_refuse) := goodIn_app (goodIn_of _ (by decide +kernel)) ggX6_pair_X6_refuse
set_option maxRecDepth 20000 in
theorem ggX6_pair_X4_pairValue : GoodIn wsX6_pair wsX4_pairValue := goodIn_r _ [22, 23, 24, 25, 20, 26, 27, 28, 29, 30, 31, 32, 33, 34, 35, 36, 37, 38, 39, 40, 41, 42, 43, 44, 45, 46, 47, 48, 49, 50, 63, 64, 65, 66, 67, 68, 69, 55, 56, 57, 58, 59, 60, 61, 62] (by decide +kernel) (by decide +kernel)
set_option maxRecDepth 20000 in
theorem gX6_pair_X4_pairValue_n114 : GoodIn wsX6_pair (wsX4_pairValue) := ggX6_pair_X4_pairValue
theorem dX6_pair_0 : decode cX6_pair 0 = .ok (.aload_n 0, 1) := by decide +kernel
theorem dX6_pair_1 : decode cX6_pair 1 = .ok (.iload_n 1, 1) := by decide +kernel
theorem dX6_pair_2 : decode cX6_pair 2 = .ok (.iload_n 2, 1) := by decide +kernel
theorem dX6_pair_3 : decode cX6_pair 3 = .ok (.iconst 0, 1) := by decide +kernel
theorem dX6_pair_4 : decode cX6_pair 4 = .ok (.iconst 4, 1) := by decide +kernel
theorem dX6_pair_5 : decode cX6_pair 5 = .ok (.invokestatic 55, 3) := by decide +kernel
theorem dX6_pair_8 : decode cX6_pair 8 = .ok (.iconst 2, 1) := by decide +kernel
theorem dX6_pair_9 : decode cX6_pair 9 = .ok (.invokevirtual 110, 3) := by decide +kernel
theorem dX6_pair_12 : decode cX6_pair 12 = .ok (.invokestatic 59, 3) := by decide +kernel
theorem dX6_pair_15 : decode cX6_pair 15 = .ok (.aload_n 0, 1) := by decide +kernel
theorem dX6_pair_16 : decode cX6_pair 16 = .ok (.getfield 10, 3) := by decide +kernel
theorem dX6_pair_19 : decode cX6_pair 19 = .ok (.iload_n 1, 1) := by decide +kernel
theorem dX6_pair_20 : decode cX6_pair 20 = .ok (.iload_n 2, 1) := by decide +kernel
theorem dX6_pair_21 : decode cX6_pair 21 = .ok (.invokevirtual 114, 3) := by decide +kernel
theorem dX6_pair_24 : decode cX6_pair 24 = .ok (.ireturn, 1) := by decide +kernel
set_option maxRecDepth 20000 in
theorem ggX6_whole_X6_isWithin : GoodIn wsX6_whole wsX6_isWithin := goodIn_r _ [4] (by decide +kernel) (by decide +kernel)
set_option maxRecDepth 20000 in
theorem gX6_whole_X6_isWithin : GoodIn wsX6_whole (va_wsS RX6 55 yX6_isWithin wsX6_isWithin) := goodIn_app (goodIn_of _ (by decide +kernel)) ggX6_whole_X6_isWithin
set_option maxRecDepth 20000 in
theorem ggX6_whole_X6_refuse : GoodIn wsX6_whole wsX6_refuse := goodIn_ca (goodIn_ca (goodIn_ca (goodIn_r _ [7, 8, 9, 10, 11, 12, 13] (by decide +kernel) (by decide +kernel)) (goodIn_sub (fun _ h => List.mem_cons_of_mem _ (List.mem_append_left _ (List.mem_append_left _ (List.mem_append_right _ h)))) (by decide +kernel))) (goodIn_sub (fun _ h => List.mem_cons_of_mem _ (List.mem_append_left _ (List.mem_append_right _ h))) (by decide +kernel))) (goodIn_sub (fun _ h => List.mem_cons_of_mem _ (List.mem_append_right _ h)) (by decide +kernel))
set_option maxRecDepth 20000 in
theorem gX6_whole_X6_refuse : GoodIn wsX6_whole (va_wsS RX6 59 yX6_refuse wsX6_refuse) := goodIn_app (goodIn_of _ (by decide +kernel)) ggX6_whole_X6_refuse
set_option maxRecDepth 20000 in
theorem ggX6_whole_X6_wholeValue : GoodIn wsX6_whole wsX6_wholeValue := goodIn_r _ [17, 18, 19, 20, 21, 22, 23, 24, 25, 26, 27, 28, 29, 30, 31, 32, 33, 34, 35, 36, 37, 38, 39, 40, 41, 42, 43, 44, 45, 46, 47, 48, 49, 50, 51, 52, 53, 54, 55, 56, 57, 58, 59, 60, 61, 62, 63, 64, 65, 66, 67, 68, 69, 70, 71, 72, 73, 74, 75, 76, 77, 78, 79, 80, 81, 82, 83, 84, 85, 86, 87, 88, 89, 90, 91, 92, 93, 94, 95, 96, 97, 98, 99, 100, 101, 102, 103, 104, 105, 106, 107, 108, 109, 110, 111, 112, 113, 114, 115, 116, 117, 118, 119, 120, 121, 122, 123, 124, 125, 126, 127, 128] (by decide +kernel) (by decide +kernel)
set_option maxRecDepth 20000 in
theorem gX6_whole_X6_wholeValue : GoodIn wsX6_whole (wsV RX6 117 RX6 yX6_wholeValue wsX6_wholeValue) := goodIn_app (goodIn_of _ (by decide +kernel)) ggX6_whole_X6_wholeValue
theorem dX6_whole_0 : decode cX6_whole 0 = .ok (.iload_n 1, 1) := by decide +kernel
theorem dX6_whole_1 : decode cX6_whole 1 = .ok (.iconst 0, 1) := by decide +kernel
theorem dX6_whole_2 : decode cX6_whole 2 = .ok (.bipush 13, 2) := by decide +kernel
theorem dX6_whole_4 : decode cX6_whole 4 = .ok (.invokestatic 55, 3) := by decide +kernel
theorem dX6_whole_7 : decode cX6_whole 7 = .ok (.ifCond .eq 7, 3) := by decide +kernel
theorem dX6_whole_10 : decode cX6_whole 10 = .ok (.iconst 0, 1) := by decide +kernel
theorem dX6_whole_11 : decode cX6_whole 11 = .ok (.goto 4, 3) := by decide +kernel
theorem dX6_whole_14 : decode cX6_whole 14 = .ok (.iconst 2, 1) := by decide +kernel
theorem dX6_whole_15 : decode cX6_whole 15 = .ok (.invokestatic 59, 3) := by decide +kernel
theorem dX6_whole_18 : decode cX6_whole 18 = .ok (.aload_n 0, 1) := by decide +kernel
theorem dX6_whole_19 : decode cX6_whole 19 = .ok (.iload_n 1, 1) := by decide +kernel
theorem dX6_whole_20 : decode cX6_whole 20 = .ok (.invokevirtual 117, 3) := by decide +kernel
theorem dX6_whole_23 : decode cX6_whole 23 = .ok (.ireturn, 1) := by decide +kernel
set_option maxRecDepth 20000 in
theorem ggX6_reason_X6_pairFault : GoodIn wsX6_reason wsX6_pairFault := goodIn_r _ [6, 1, 7, 8, 5, 9, 38, 39, 40, 41, 42, 43, 44, 45, 46, 47, 48, 49] (by decide +kernel) (by decide +kernel)
set_option maxRecDepth 20000 in
theorem gX6_reason_X6_pairFault : GoodIn wsX6_reason (wsV RX6 110 RX6 yX6_pairFault wsX6_pairFault) := goodIn_app (goodIn_of _ (by decide +kernel)) ggX6_reason_X6_pairFault
set_option maxRecDepth 20000 in
theorem ggX6_reason_X6_refuse : GoodIn wsX6_reason wsX6_refuse := goodIn_ca (goodIn_ca (goodIn_ca (goodIn_r _ [12, 13, 14, 15, 16, 17, 18] (by decide +kernel) (by decide +kernel)) (goodIn_sub (fun _ h => List.mem_cons_of_mem _ (List.mem_append_left _ (List.mem_append_left _ (List.mem_append_right _ h)))) (by decide +kernel))) (goodIn_sub (fun _ h => List.mem_cons_of_mem _ (List.mem_append_left _ (List.mem_append_right _ h))) (by decide +kernel))) (goodIn_sub (fun _ h => List.mem_cons_of_mem _ (List.mem_append_right _ h)) (by decide +kernel))
set_option maxRecDepth 20000 in
theorem gX6_reason_X6_refuse : GoodIn wsX6_reason (va_wsS RX6 59 yX6_refuse wsX6_refuse) := goodIn_app (goodIn_of _ (by decide +kernel)) ggX6_reason_X6_refuse
set_option maxRecDepth 20000 in
theorem ggX6_reason_X4_hindrance : GoodIn wsX6_reason wsX4_hindrance := goodIn_r _ [22, 23, 24, 25, 20, 26, 27, 28, 29, 30, 31, 32, 33, 34, 35, 36, 37, 50, 51, 52, 53, 54, 55, 56, 42, 43, 44, 45, 46, 47, 48, 49] (by decide +kernel) (by decide +kernel)
set_option maxRecDepth 20000 in
theorem gX6_reason_X4_hindrance_n120 : GoodIn wsX6_reason (wsX4_hindrance) := ggX6_reason_X4_hindrance
theorem dX6_reason_0 : decode cX6_reason 0 = .ok (.aload_n 0, 1) := by decide +kernel
theorem dX6_reason_1 : decode cX6_reason 1 = .ok (.iload_n 1, 1) := by decide +kernel
theorem dX6_reason_2 : decode cX6_reason 2 = .ok (.iconst 1, 1) := by decide +kernel
theorem dX6_reason_3 : decode cX6_reason 3 = .ok (.iconst 0, 1) := by decide +kernel
theorem dX6_reason_4 : decode cX6_reason 4 = .ok (.invokevirtual 110, 3) := by decide +kernel
theorem dX6_reason_7 : decode cX6_reason 7 = .ok (.invokestatic 59, 3) := by decide +kernel
theorem dX6_reason_10 : decode cX6_reason 10 = .ok (.aload_n 0, 1) := by decide +kernel
theorem dX6_reason_11 : decode cX6_reason 11 = .ok (.getfield 10, 3) := by decide +kernel
theorem dX6_reason_14 : decode cX6_reason 14 = .ok (.iload_n 1, 1) := by decide +kernel
theorem dX6_reason_15 : decode cX6_reason 15 = .ok (.invokevirtual 120, 3) := by decide +kernel
theorem dX6_reason_18 : decode cX6_reason 18 = .ok (.ireturn, 1) := by decide +kernel
set_option maxRecDepth 20000 in
theorem ggX6_settledPlace_X4_placeOf : GoodIn wsX6_settledPlace wsX4_placeOf := goodIn_r _ [6, 7, 8, 9, 10, 4, 11, 12, 13, 81, 82, 83, 84, 85, 86, 87, 88, 89, 90, 91, 92, 93, 94, 95] (by decide +kernel) (by decide +kernel)
set_option maxRecDepth 20000 in
theorem gX6_settledPlace_X4_placeOf_n89 : GoodIn wsX6_settledPlace (wsX4_placeOf) := ggX6_settledPlace_X4_placeOf
set_option maxRecDepth 20000 in
theorem ggX6_settledPlace_X6_memberFault : GoodIn wsX6_settledPlace wsX6_memberFault := goodIn_r _ [18] (by decide +kernel) (by decide +kernel)
set_option maxRecDepth 20000 in
theorem gX6_settledPlace_X6_memberFault : GoodIn wsX6_settledPlace (wsV RX6 93 RX6 yX6_memberFault wsX6_memberFault) := goodIn_app (goodIn_of _ (by decide +kernel)) ggX6_settledPlace_X6_memberFault
set_option maxRecDepth 20000 in
theorem ggX6_settledPlace_X6_refuse : GoodIn wsX6_settledPlace wsX6_refuse := goodIn_ca (goodIn_ca (goodIn_ca (goodIn_r _ [21, 22, 23, 24, 25, 26, 27] (by decide +kernel) (by decide +kernel)) (goodIn_sub (fun _ h => List.mem_cons_of_mem _ (List.mem_append_left _ (List.mem_append_left _ (List.mem_append_right _ h)))) (by decide +kernel))) (goodIn_sub (fun _ h => List.mem_cons_of_mem _ (List.mem_append_left _ (List.mem_append_right _ h))) (by decide +kernel))) (goodIn_sub (fun _ h => List.mem_cons_of_mem _ (List.mem_append_right _ h)) (by decide +kernel))
set_option maxRecDepth 20000 in
theorem gX6_settledPlace_X6_refuse : GoodIn wsX6_settledPlace (va_wsS RX6 59 yX6_refuse wsX6_refuse) := goodIn_app (goodIn_of _ (by decide +kernel)) ggX6_settledPlace_X6_refuse
set_option maxRecDepth 20000 in
theorem ggX6_settledPlace_X4_copyFrom : GoodIn wsX6_settledPlace wsX4_copyFrom := goodIn_r _ [30, 7, 31, 32, 33, 34, 35, 8, 9, 10, 4, 11, 12, 13, 36, 37, 38, 39, 40, 41, 42, 43, 44, 45, 46, 81, 82, 83, 84, 85, 86, 87, 88, 89, 90, 91, 92, 93, 94, 95] (by decide +kernel) (by decide +kernel)
set_option maxRecDepth 20000 in
theorem gX6_settledPlace_X4_copyFrom_n123 : GoodIn wsX6_settledPlace (wsX4_copyFrom) := ggX6_settledPlace_X4_copyFrom
set_option maxRecDepth 20000 in
theorem ggX6_settledPlace_X4_settleDown : GoodIn wsX6_settledPlace wsX4_settleDown := goodIn_r _ [49, 50, 51, 52, 4, 53, 7, 54, 55, 56, 57, 8, 9, 10, 11, 12, 13, 58, 59, 60, 61, 62, 63, 64, 65, 66, 67, 68, 69, 31, 70, 71, 72, 73, 32, 33, 74, 37, 75, 76, 45, 46, 81, 82, 83, 84, 85, 86, 87, 88, 89, 90, 91, 92, 93, 94, 95] (by decide +kernel) (by decide +kernel)
set_option maxRecDepth 20000 in
theorem gX6_settledPlace_X4_settleDown_n126 : GoodIn wsX6_settledPlace (wsX4_settleDown) := ggX6_settledPlace_X4_settleDown
theorem dX6_settledPlace_0 : decode cX6_settledPlace 0 = .ok (.aload_n 0, 1) := by decide +kernel
theorem dX6_settledPlace_1 : decode cX6_settledPlace 1 = .ok (.aload_n 0, 1) := by decide +kernel
theorem dX6_settledPlace_2 : decode cX6_settledPlace 2 = .ok (.getfield 10, 3) := by decide +kernel
theorem dX6_settledPlace_5 : decode cX6_settledPlace 5 = .ok (.iload_n 1, 1) := by decide +kernel
theorem dX6_settledPlace_6 : decode cX6_settledPlace 6 = .ok (.invokevirtual 89, 3) := by decide +kernel
theorem dX6_settledPlace_9 : decode cX6_settledPlace 9 = .ok (.iconst 1, 1) := by decide +kernel
theorem dX6_settledPlace_10 : decode cX6_settledPlace 10 = .ok (.invokevirtual 93, 3) := by decide +kernel
theorem dX6_settledPlace_13 : decode cX6_settledPlace 13 = .ok (.invokestatic 59, 3) := by decide +kernel
theorem dX6_settledPlace_16 : decode cX6_settledPlace 16 = .ok (.aload_n 0, 1) := by decide +kernel
theorem dX6_settledPlace_17 : decode cX6_settledPlace 17 = .ok (.getfield 16, 3) := by decide +kernel
theorem dX6_settledPlace_20 : decode cX6_settledPlace 20 = .ok (.aload_n 0, 1) := by decide +kernel
theorem dX6_settledPlace_21 : decode cX6_settledPlace 21 = .ok (.getfield 10, 3) := by decide +kernel
theorem dX6_settledPlace_24 : decode cX6_settledPlace 24 = .ok (.invokevirtual 123, 3) := by decide +kernel
theorem dX6_settledPlace_27 : decode cX6_settledPlace 27 = .ok (.aload_n 0, 1) := by decide +kernel
theorem dX6_settledPlace_28 : decode cX6_settledPlace 28 = .ok (.getfield 16, 3) := by decide +kernel
theorem dX6_settledPlace_31 : decode cX6_settledPlace 31 = .ok (.invokevirtual 126, 3) := by decide +kernel
theorem dX6_settledPlace_34 : decode cX6_settledPlace 34 = .ok (.pop, 1) := by decide +kernel
theorem dX6_settledPlace_35 : decode cX6_settledPlace 35 = .ok (.aload_n 0, 1) := by decide +kernel
theorem dX6_settledPlace_36 : decode cX6_settledPlace 36 = .ok (.getfield 16, 3) := by decide +kernel
theorem dX6_settledPlace_39 : decode cX6_settledPlace 39 = .ok (.iload_n 1, 1) := by decide +kernel
theorem dX6_settledPlace_40 : decode cX6_settledPlace 40 = .ok (.invokevirtual 89, 3) := by decide +kernel
theorem dX6_settledPlace_43 : decode cX6_settledPlace 43 = .ok (.ireturn, 1) := by decide +kernel
set_option maxRecDepth 20000 in
theorem ggX6_profit_X4_placeOf : GoodIn wsX6_profit wsX4_placeOf := goodIn_r _ [5, 6, 7, 8, 9, 3, 10, 11, 12, 95, 96, 97, 98, 99, 100, 101, 102, 103, 104, 105, 106, 107, 108, 109] (by decide +kernel) (by decide +kernel)
set_option maxRecDepth 20000 in
theorem gX6_profit_X4_placeOf_n89 : GoodIn wsX6_profit (wsX4_placeOf) := ggX6_profit_X4_placeOf
set_option maxRecDepth 20000 in
theorem ggX6_profit_X6_isWithin : GoodIn wsX6_profit wsX6_isWithin := goodIn_r _ [16] (by decide +kernel) (by decide +kernel)
set_option maxRecDepth 20000 in
theorem gX6_profit_X6_isWithin : GoodIn wsX6_profit (va_wsS RX6 55 yX6_isWithin wsX6_isWithin) := goodIn_app (goodIn_of _ (by decide +kernel)) ggX6_profit_X6_isWithin
set_option maxRecDepth 20000 in
theorem ggX6_profit_X6_memberFault : GoodIn wsX6_profit wsX6_memberFault := goodIn_r _ [20] (by decide +kernel) (by decide +kernel)
set_option maxRecDepth 20000 in
theorem gX6_profit_X6_memberFault : GoodIn wsX6_profit (wsV RX6 93 RX6 yX6_memberFault wsX6_memberFault) := goodIn_app (goodIn_of _ (by decide +kernel)) ggX6_profit_X6_memberFault
set_option maxRecDepth 20000 in
theorem ggX6_profit_X6_refuse : GoodIn wsX6_profit wsX6_refuse := goodIn_ca (goodIn_ca (goodIn_ca (goodIn_r _ [23, 24, 25, 26, 27, 28, 29] (by decide +kernel) (by decide +kernel)) (goodIn_sub (fun _ h => List.mem_cons_of_mem _ (List.mem_append_left _ (List.mem_append_left _ (List.mem_append_right _ h)))) (by decide +kernel))) (goodIn_sub (fun _ h => List.mem_cons_of_mem _ (List.mem_append_left _ (List.mem_append_right _ h))) (by decide +kernel))) (goodIn_sub (fun _ h => List.mem_cons_of_mem _ (List.mem_append_right _ h)) (by decide +kernel))
set_option maxRecDepth 20000 in
theorem gX6_profit_X6_refuse : GoodIn wsX6_profit (va_wsS RX6 59 yX6_refuse wsX6_refuse) := goodIn_app (goodIn_of _ (by decide +kernel)) ggX6_profit_X6_refuse
set_option maxRecDepth 20000 in
theorem ggX6_profit_X6_profitAt : GoodIn wsX6_profit wsX6_profitAt := goodIn_r _ [33, 1, 34, 8, 3, 9, 10, 6, 11, 12, 35, 36, 37, 38, 39, 40, 41, 42, 7, 43, 44, 45, 46, 47, 48, 49, 50, 51, 52, 53, 54, 55, 56, 57, 58, 59, 60, 61, 62, 63, 64, 65, 66, 67, 68, 69, 70, 71, 72, 73, 74, 75, 76, 77, 78, 79, 80, 81, 82, 83, 2, 4, 5, 84, 85, 86, 87, 88, 89, 90, 91, 92, 93, 94, 103, 104, 105, 106, 107, 108, 109, 95, 96, 97, 98, 99, 100, 101, 102] (by decide +kernel) (by decide +kernel)
set_option maxRecDepth 20000 in
theorem gX6_profit_X6_profitAt : GoodIn wsX6_profit (wsV RX6 130 RX6 yX6_profitAt wsX6_profitAt) := goodIn_app (goodIn_of _ (by decide +kernel)) ggX6_profit_X6_profitAt
theorem dX6_profit_0 : decode cX6_profit 0 = .ok (.aload_n 0, 1) := by decide +kernel
theorem dX6_profit_1 : decode cX6_profit 1 = .ok (.getfield 10, 3) := by decide +kernel
theorem dX6_profit_4 : decode cX6_profit 4 = .ok (.iload_n 1, 1) := by decide +kernel
theorem dX6_profit_5 : decode cX6_profit 5 = .ok (.invokevirtual 89, 3) := by decide +kernel
theorem dX6_profit_8 : decode cX6_profit 8 = .ok (.istore_n 3, 1) := by decide +kernel
theorem dX6_profit_9 : decode cX6_profit 9 = .ok (.aload_n 0, 1) := by decide +kernel
theorem dX6_profit_10 : decode cX6_profit 10 = .ok (.iload_n 3, 1) := by decide +kernel
theorem dX6_profit_11 : decode cX6_profit 11 = .ok (.iload_n 2, 1) := by decide +kernel
theorem dX6_profit_12 : decode cX6_profit 12 = .ok (.iconst 0, 1) := by decide +kernel
theorem dX6_profit_13 : decode cX6_profit 13 = .ok (.bipush 99, 2) := by decide +kernel
theorem dX6_profit_15 : decode cX6_profit 15 = .ok (.invokestatic 55, 3) := by decide +kernel
theorem dX6_profit_18 : decode cX6_profit 18 = .ok (.invokevirtual 93, 3) := by decide +kernel
theorem dX6_profit_21 : decode cX6_profit 21 = .ok (.invokestatic 59, 3) := by decide +kernel
theorem dX6_profit_24 : decode cX6_profit 24 = .ok (.aload_n 0, 1) := by decide +kernel
theorem dX6_profit_25 : decode cX6_profit 25 = .ok (.iload_n 3, 1) := by decide +kernel
theorem dX6_profit_26 : decode cX6_profit 26 = .ok (.iload_n 2, 1) := by decide +kernel
theorem dX6_profit_27 : decode cX6_profit 27 = .ok (.invokevirtual 130, 3) := by decide +kernel
theorem dX6_profit_30 : decode cX6_profit 30 = .ok (.ireturn, 1) := by decide +kernel
set_option maxRecDepth 20000 in
theorem ggX6_bestLie_X4_placeOf : GoodIn wsX6_bestLie wsX4_placeOf := goodIn_r _ [5, 6, 7, 8, 9, 3, 10, 11, 12, 92, 93, 94, 95, 96, 97, 98, 99, 100, 101, 102, 103, 104, 105, 106] (by decide +kernel) (by decide +kernel)
set_option maxRecDepth 20000 in
theorem gX6_bestLie_X4_placeOf_n89 : GoodIn wsX6_bestLie (wsX4_placeOf) := ggX6_bestLie_X4_placeOf
set_option maxRecDepth 20000 in
theorem ggX6_bestLie_X6_memberFault : GoodIn wsX6_bestLie wsX6_memberFault := goodIn_r _ [17] (by decide +kernel) (by decide +kernel)
set_option maxRecDepth 20000 in
theorem gX6_bestLie_X6_memberFault : GoodIn wsX6_bestLie (wsV RX6 93 RX6 yX6_memberFault wsX6_memberFault) := goodIn_app (goodIn_of _ (by decide +kernel)) ggX6_bestLie_X6_memberFault
set_option maxRecDepth 20000 in
theorem ggX6_bestLie_X6_refuse : GoodIn wsX6_bestLie wsX6_refuse := goodIn_ca (goodIn_ca (goodIn_ca (goodIn_r _ [20, 21, 22, 23, 24, 25, 26] (by decide +kernel) (by decide +kernel)) (goodIn_sub (fun _ h => List.mem_cons_of_mem _ (List.mem_append_left _ (List.mem_append_left _ (List.mem_append_right _ h)))) (by decide +kernel))) (goodIn_sub (fun _ h => List.mem_cons_of_mem _ (List.mem_append_left _ (List.mem_append_right _ h))) (by decide +kernel))) (goodIn_sub (fun _ h => List.mem_cons_of_mem _ (List.mem_append_right _ h)) (by decide +kernel))
set_option maxRecDepth 20000 in
theorem gX6_bestLie_X6_refuse : GoodIn wsX6_bestLie (va_wsS RX6 59 yX6_refuse wsX6_refuse) := goodIn_app (goodIn_of _ (by decide +kernel)) ggX6_bestLie_X6_refuse
set_option maxRecDepth 20000 in
theorem ggX6_bestLie_X6_profitAt : GoodIn wsX6_bestLie wsX6_profitAt := goodIn_r _ [30, 1, 31, 8, 3, 9, 10, 6, 11, 12, 32, 33, 34, 35, 36, 37, 38, 39, 7, 40, 41, 42, 43, 44, 45, 46, 47, 48, 49, 50, 51, 52, 53, 54, 55, 56, 57, 58, 59, 60, 61, 62, 63, 64, 65, 66, 67, 68, 69, 70, 71, 72, 73, 74, 75, 76, 77, 78, 79, 80, 2, 4, 5, 81, 82, 83, 84, 85, 86, 87, 88, 89, 90, 91, 100, 101, 102, 103, 104, 105, 106, 92, 93, 94, 95, 96, 97, 98, 99] (by decide +kernel) (by decide +kernel)
set_option maxRecDepth 20000 in
theorem gX6_bestLie_X6_profitAt : GoodIn wsX6_bestLie (wsV RX6 130 RX6 yX6_profitAt wsX6_profitAt) := goodIn_app (goodIn_of _ (by decide +kernel)) ggX6_bestLie_X6_profitAt
theorem dX6_bestLie_0 : decode cX6_bestLie 0 = .ok (.aload_n 0, 1) := by decide +kernel
theorem dX6_bestLie_1 : decode cX6_bestLie 1 = .ok (.getfield 10, 3) := by decide +kernel
theorem dX6_bestLie_4 : decode cX6_bestLie 4 = .ok (.iload_n 1, 1) := by decide +kernel
theorem dX6_bestLie_5 : decode cX6_bestLie 5 = .ok (.invokevirtual 89, 3) := by decide +kernel
theorem dX6_bestLie_8 : decode cX6_bestLie 8 = .ok (.istore_n 2, 1) := by decide +kernel
theorem dX6_bestLie_9 : decode cX6_bestLie 9 = .ok (.aload_n 0, 1) := by decide +kernel
theorem dX6_bestLie_10 : decode cX6_bestLie 10 = .ok (.iload_n 2, 1) := by decide +kernel
theorem dX6_bestLie_11 : decode cX6_bestLie 11 = .ok (.iconst 1, 1) := by decide +kernel
theorem dX6_bestLie_12 : decode cX6_bestLie 12 = .ok (.invokevirtual 93, 3) := by decide +kernel
theorem dX6_bestLie_15 : decode cX6_bestLie 15 = .ok (.invokestatic 59, 3) := by decide +kernel
theorem dX6_bestLie_18 : decode cX6_bestLie 18 = .ok (.iconst 0, 1) := by decide +kernel
theorem dX6_bestLie_19 : decode cX6_bestLie 19 = .ok (.istore_n 3, 1) := by decide +kernel
theorem dX6_bestLie_20 : decode cX6_bestLie 20 = .ok (.aload_n 0, 1) := by decide +kernel
theorem dX6_bestLie_21 : decode cX6_bestLie 21 = .ok (.iload_n 2, 1) := by decide +kernel
theorem dX6_bestLie_22 : decode cX6_bestLie 22 = .ok (.iconst 0, 1) := by decide +kernel
theorem dX6_bestLie_23 : decode cX6_bestLie 23 = .ok (.invokevirtual 130, 3) := by decide +kernel
theorem dX6_bestLie_26 : decode cX6_bestLie 26 = .ok (.istore 4, 2) := by decide +kernel
theorem dX6_bestLie_28 : decode cX6_bestLie 28 = .ok (.iconst 1, 1) := by decide +kernel
theorem dX6_bestLie_29 : decode cX6_bestLie 29 = .ok (.istore 5, 2) := by decide +kernel
theorem dX6_bestLie_31 : decode cX6_bestLie 31 = .ok (.iload 5, 2) := by decide +kernel
theorem dX6_bestLie_33 : decode cX6_bestLie 33 = .ok (.bipush 99, 2) := by decide +kernel
theorem dX6_bestLie_35 : decode cX6_bestLie 35 = .ok (.if_icmp .gt 32, 3) := by decide +kernel
theorem dX6_bestLie_38 : decode cX6_bestLie 38 = .ok (.aload_n 0, 1) := by decide +kernel
theorem dX6_bestLie_39 : decode cX6_bestLie 39 = .ok (.iload_n 2, 1) := by decide +kernel
theorem dX6_bestLie_40 : decode cX6_bestLie 40 = .ok (.iload 5, 2) := by decide +kernel
theorem dX6_bestLie_42 : decode cX6_bestLie 42 = .ok (.invokevirtual 130, 3) := by decide +kernel
theorem dX6_bestLie_45 : decode cX6_bestLie 45 = .ok (.istore 6, 2) := by decide +kernel
theorem dX6_bestLie_47 : decode cX6_bestLie 47 = .ok (.iload 6, 2) := by decide +kernel
theorem dX6_bestLie_49 : decode cX6_bestLie 49 = .ok (.iload 4, 2) := by decide +kernel
theorem dX6_bestLie_51 : decode cX6_bestLie 51 = .ok (.if_icmp .le 10, 3) := by decide +kernel
theorem dX6_bestLie_54 : decode cX6_bestLie 54 = .ok (.iload 6, 2) := by decide +kernel
theorem dX6_bestLie_56 : decode cX6_bestLie 56 = .ok (.istore 4, 2) := by decide +kernel
theorem dX6_bestLie_58 : decode cX6_bestLie 58 = .ok (.iload 5, 2) := by decide +kernel
theorem dX6_bestLie_60 : decode cX6_bestLie 60 = .ok (.istore_n 3, 1) := by decide +kernel
theorem dX6_bestLie_61 : decode cX6_bestLie 61 = .ok (.iinc 5 1, 3) := by decide +kernel
theorem dX6_bestLie_64 : decode cX6_bestLie 64 = .ok (.goto (-33), 3) := by decide +kernel
theorem dX6_bestLie_67 : decode cX6_bestLie 67 = .ok (.iload_n 3, 1) := by decide +kernel
theorem dX6_bestLie_68 : decode cX6_bestLie 68 = .ok (.ireturn, 1) := by decide +kernel
set_option maxRecDepth 20000 in
theorem ggX6_honestCost_X4_copyFrom : GoodIn wsX6_honestCost wsX4_copyFrom := goodIn_r _ [6, 7, 8, 9, 10, 11, 12, 13, 14, 15, 4, 16, 17, 18, 19, 20, 21, 22, 23, 24, 25, 26, 27, 28, 29, 78, 79, 80, 81, 82, 83, 84, 85, 86, 87, 88, 89, 90, 91, 92] (by decide +kernel) (by decide +kernel)
set_option maxRecDepth 20000 in
theorem gX6_honestCost_X4_copyFrom_n123 : GoodIn wsX6_honestCost (wsX4_copyFrom) := ggX6_honestCost_X4_copyFrom
set_option maxRecDepth 20000 in
theorem ggX6_honestCost_X4_tellTruth : GoodIn wsX6_honestCost wsX4_tellTruth := goodIn_r _ [32, 7, 13, 14, 15, 4, 16, 17, 18, 78, 79, 80, 81, 82, 83, 84, 85, 86, 87, 88, 89, 90, 91, 92] (by decide +kernel) (by decide +kernel)
set_option maxRecDepth 20000 in
theorem gX6_honestCost_X4_tellTruth_n133 : GoodIn wsX6_honestCost (wsX4_tellTruth) := ggX6_honestCost_X4_tellTruth
set_option maxRecDepth 20000 in
theorem ggX6_honestCost_X4_settleDown : GoodIn wsX6_honestCost wsX4_settleDown := goodIn_r _ [35, 36, 37, 38, 4, 39, 7, 40, 41, 42, 43, 13, 14, 15, 16, 17, 18, 44, 45, 46, 47, 48, 49, 50, 51, 52, 53, 54, 55, 8, 56, 57, 58, 59, 9, 10, 60, 20, 61, 62, 28, 29, 78, 79, 80, 81, 82, 83, 84, 85, 86, 87, 88, 89, 90, 91, 92] (by decide +kernel) (by decide +kernel)
set_option maxRecDepth 20000 in
theorem gX6_honestCost_X4_settleDown_n126 : GoodIn wsX6_honestCost (wsX4_settleDown) := ggX6_honestCost_X4_settleDown
set_option maxRecDepth 20000 in
theorem ggX6_honestCost_X4_cost : GoodIn wsX6_honestCost wsX4_cost := goodIn_r _ [65, 7, 66, 67, 68, 4, 69, 13, 14, 15, 16, 17, 18, 70, 71, 72, 73, 78, 79, 80, 81, 82, 83, 84, 85, 86, 87, 88, 89, 90, 91, 92] (by decide +kernel) (by decide +kernel)
set_option maxRecDepth 20000 in
theorem gX6_honestCost_X4_cost_n136 : GoodIn wsX6_honestCost (wsX4_cost) := ggX6_honestCost_X4_cost
theorem dX6_honestCost_0 : decode cX6_honestCost 0 = .ok (.aload_n 0, 1) := by decide +kernel
theorem dX6_honestCost_1 : decode cX6_honestCost 1 = .ok (.getfield 16, 3) := by decide +kernel
theorem dX6_honestCost_4 : decode cX6_honestCost 4 = .ok (.aload_n 0, 1) := by decide +kernel
theorem dX6_honestCost_5 : decode cX6_honestCost 5 = .ok (.getfield 10, 3) := by decide +kernel
theorem dX6_honestCost_8 : decode cX6_honestCost 8 = .ok (.invokevirtual 123, 3) := by decide +kernel
theorem dX6_honestCost_11 : decode cX6_honestCost 11 = .ok (.aload_n 0, 1) := by decide +kernel
theorem dX6_honestCost_12 : decode cX6_honestCost 12 = .ok (.getfield 16, 3) := by decide +kernel
theorem dX6_honestCost_15 : decode cX6_honestCost 15 = .ok (.invokevirtual 133, 3) := by decide +kernel
theorem dX6_honestCost_18 : decode cX6_honestCost 18 = .ok (.aload_n 0, 1) := by decide +kernel
theorem dX6_honestCost_19 : decode cX6_honestCost 19 = .ok (.getfield 16, 3) := by decide +kernel
theorem dX6_honestCost_22 : decode cX6_honestCost 22 = .ok (.invokevirtual 126, 3) := by decide +kernel
theorem dX6_honestCost_25 : decode cX6_honestCost 25 = .ok (.pop, 1) := by decide +kernel
theorem dX6_honestCost_26 : decode cX6_honestCost 26 = .ok (.aload_n 0, 1) := by decide +kernel
theorem dX6_honestCost_27 : decode cX6_honestCost 27 = .ok (.getfield 16, 3) := by decide +kernel
theorem dX6_honestCost_30 : decode cX6_honestCost 30 = .ok (.invokevirtual 136, 3) := by decide +kernel
theorem dX6_honestCost_33 : decode cX6_honestCost 33 = .ok (.ireturn, 1) := by decide +kernel
set_option maxRecDepth 20000 in
theorem ggX6_disorder_X4_wrongPairs : GoodIn wsX6_disorder wsX4_wrongPairs := goodIn_r _ [5, 6, 7, 8, 9, 3, 10, 11, 12, 13, 14, 15, 16, 21, 22, 23, 24, 25, 26, 27, 28, 29, 30, 31, 32, 33, 34, 35] (by decide +kernel) (by decide +kernel)
set_option maxRecDepth 20000 in
theorem gX6_disorder_X4_wrongPairs_n139 : GoodIn wsX6_disorder (wsX4_wrongPairs) := ggX6_disorder_X4_wrongPairs
theorem dX6_disorder_0 : decode cX6_disorder 0 = .ok (.aload_n 0, 1) := by decide +kernel
theorem dX6_disorder_1 : decode cX6_disorder 1 = .ok (.getfield 10, 3) := by decide +kernel
theorem dX6_disorder_4 : decode cX6_disorder 4 = .ok (.invokevirtual 139, 3) := by decide +kernel
theorem dX6_disorder_7 : decode cX6_disorder 7 = .ok (.ireturn, 1) := by decide +kernel
set_option maxRecDepth 20000 in
theorem ggX6_runCommands_X2_findFault : GoodIn wsX6_runCommands wsX2_findFault := goodIn_r _ [7, 8, 9, 10, 11, 5, 12, 13, 14, 15, 16, 17, 18, 19, 20, 21, 22, 23, 24, 25, 26, 27, 28, 29, 30, 31, 32, 33, 34, 35, 36, 37, 38, 39, 40, 41, 42, 43, 44, 45, 46, 47, 48, 49, 50, 51, 52, 53, 54, 55, 56, 57, 58, 59, 60, 61, 62, 63, 64, 65, 66, 67, 68, 69, 70, 71, 72, 73, 74, 75, 76, 77, 78, 79, 80, 81, 82, 83, 84, 85, 86, 87, 88, 89, 90, 91, 92, 93, 94, 95, 96, 97, 98, 99, 100, 101, 102, 103, 104, 105, 106, 107, 108, 109, 110, 111, 112, 286, 287, 288, 289, 290, 291] (by decide +kernel) (by decide +kernel)
set_option maxRecDepth 20000 in
theorem gX6_runCommands_X2_findFault_n148 : GoodIn wsX6_runCommands (wsX2_findFault) := ggX6_runCommands_X2_findFault
set_option maxRecDepth 20000 in
theorem ggX6_runCommands_X3_push : GoodIn wsX6_runCommands wsX3_push := goodIn_r _ [116, 117, 118, 119, 120, 121, 114, 122, 123, 124, 125, 126, 127, 128, 129, 130, 131, 132, 133, 134, 135, 136, 137, 138, 139, 140, 141, 142, 143, 144, 145, 146, 147, 148, 149, 292, 293, 294, 295, 296, 297, 298, 299, 300, 301, 302, 303, 304, 305, 306, 307, 308] (by decide +kernel) (by decide +kernel)
set_option maxRecDepth 20000 in
theorem gX6_runCommands_X3_push_n63 : GoodIn wsX6_runCommands (wsX3_push) := ggX6_runCommands_X3_push
set_option maxRecDepth 20000 in
theorem ggX6_runCommands_X2_startReading : GoodIn wsX6_runCommands wsX2_startReading := goodIn_r _ [12, 13, 8, 14, 286, 287, 288, 289, 290, 291] (by decide +kernel) (by decide +kernel)
set_option maxRecDepth 20000 in
theorem gX6_runCommands_X2_startReading_n151 : GoodIn wsX6_runCommands (wsX2_startReading) := ggX6_runCommands_X2_startReading
set_option maxRecDepth 20000 in
theorem ggX6_runCommands_X2_hasCommand : GoodIn wsX6_runCommands wsX2_hasCommand := goodIn_r _ [18, 8, 13, 19, 20, 21, 22, 5, 23, 24, 25, 26, 27, 28, 286, 287, 288, 289, 290, 291] (by decide +kernel) (by decide +kernel)
set_option maxRecDepth 20000 in
theorem gX6_runCommands_X2_hasCommand_n154 : GoodIn wsX6_runCommands (wsX2_hasCommand) := ggX6_runCommands_X2_hasCommand
set_option maxRecDepth 20000 in
theorem ggX6_runCommands_X2_readCommand : GoodIn wsX6_runCommands wsX2_readCommand := goodIn_r _ [32, 13, 14, 8, 33, 34, 35, 5, 36, 19, 24, 25, 26, 27, 28, 37, 38, 39, 40, 41, 42, 43, 44, 45, 46, 47, 48, 49, 50, 51, 52, 53, 54, 55, 56, 57, 58, 59, 60, 61, 62, 63, 64, 65, 66, 67, 68, 69, 70, 71, 72, 73, 74, 75, 76, 77, 78, 79, 80, 81, 82, 83, 84, 85, 86, 87, 88, 89, 90, 91, 92, 93, 94, 95, 96, 97, 98, 99, 100, 101, 20, 21, 22, 23, 102, 103, 104, 105, 106, 107, 108, 109, 110, 111, 112, 286, 287, 288, 289, 290, 291] (by decide +kernel) (by decide +kernel)
set_option maxRecDepth 20000 in
theorem gX6_runCommands_X2_readCommand_n158 : GoodIn wsX6_runCommands (wsX2_readCommand) := ggX6_runCommands_X2_readCommand
set_option maxRecDepth 20000 in
theorem ggX6_runCommands_X6_carryOutRead : GoodIn wsX6_runCommands wsX6_carryOutRead := goodIn_r _ [154, 1, 155, 5, 156, 157, 101, 158, 159, 160, 153, 161, 162, 3, 163, 164, 165, 166, 167, 168, 169, 170, 171, 172, 173, 174, 175, 176, 134, 124, 135, 136, 127, 137, 138, 177, 178, 179, 133, 180, 181, 182, 183, 184, 185, 186, 187, 188, 189, 190, 191, 192, 193, 194, 195, 196, 197, 198, 199, 200, 201, 202, 203, 204, 205, 206, 207, 208, 209, 210, 211, 212, 213, 214, 215, 216, 217, 218, 219, 220, 221, 222, 223, 224, 225, 226, 227, 228, 132, 229, 140, 230, 231, 143, 144, 145, 146, 147, 232, 233, 234, 235, 148, 149, 236, 237, 238, 239, 240, 241, 242, 243, 244, 245, 246, 247, 248, 249, 250, 251, 252, 253, 254, 255, 256, 129, 130, 257, 258, 259, 260, 261, 262, 263, 128, 264, 265, 266, 267, 268, 269, 270, 271, 272, 273, 131, 274, 275, 276, 277, 278, 279, 280, 281, 282, 283, 284, 285, 286, 287, 288, 289, 290, 291, 294, 295, 296, 297, 298, 299, 300, 301, 302, 303, 304, 305, 306, 307, 308] (by decide +kernel) (by decide +kernel)
set_option maxRecDepth 20000 in
theorem gX6_runCommands_X6_carryOutRead : GoodIn wsX6_runCommands (wsV RX6 164 RX6 yX6_carryOutRead wsX6_carryOutRead) := goodIn_app (goodIn_of _ (by decide +kernel)) ggX6_runCommands_X6_carryOutRead
theorem dX6_runCommands_0 : decode cX6_runCommands 0 = .ok (.aload_n 0, 1) := by decide +kernel
theorem dX6_runCommands_1 : decode cX6_runCommands 1 = .ok (.getfield 29, 3) := by decide +kernel
theorem dX6_runCommands_4 : decode cX6_runCommands 4 = .ok (.invokevirtual 148, 3) := by decide +kernel
theorem dX6_runCommands_7 : decode cX6_runCommands 7 = .ok (.istore_n 1, 1) := by decide +kernel
theorem dX6_runCommands_8 : decode cX6_runCommands 8 = .ok (.iload_n 1, 1) := by decide +kernel
theorem dX6_runCommands_9 : decode cX6_runCommands 9 = .ok (.iconst (-1), 1) := by decide +kernel
theorem dX6_runCommands_10 : decode cX6_runCommands 10 = .ok (.if_icmp .eq 8, 3) := by decide +kernel
theorem dX6_runCommands_13 : decode cX6_runCommands 13 = .ok (.bipush (-10), 2) := by decide +kernel
theorem dX6_runCommands_15 : decode cX6_runCommands 15 = .ok (.iload_n 1, 1) := by decide +kernel
theorem dX6_runCommands_16 : decode cX6_runCommands 16 = .ok (.isub, 1) := by decide +kernel
theorem dX6_runCommands_17 : decode cX6_runCommands 17 = .ok (.ireturn, 1) := by decide +kernel
theorem dX6_runCommands_18 : decode cX6_runCommands 18 = .ok (.aload_n 0, 1) := by decide +kernel
theorem dX6_runCommands_19 : decode cX6_runCommands 19 = .ok (.getfield 22, 3) := by decide +kernel
theorem dX6_runCommands_22 : decode cX6_runCommands 22 = .ok (.aload_n 0, 1) := by decide +kernel
theorem dX6_runCommands_23 : decode cX6_runCommands 23 = .ok (.getfield 10, 3) := by decide +kernel
theorem dX6_runCommands_26 : decode cX6_runCommands 26 = .ok (.invokevirtual 63, 3) := by decide +kernel
theorem dX6_runCommands_29 : decode cX6_runCommands 29 = .ok (.iconst 0, 1) := by decide +kernel
theorem dX6_runCommands_30 : decode cX6_runCommands 30 = .ok (.istore_n 2, 1) := by decide +kernel
theorem dX6_runCommands_31 : decode cX6_runCommands 31 = .ok (.aload_n 0, 1) := by decide +kernel
theorem dX6_runCommands_32 : decode cX6_runCommands 32 = .ok (.getfield 29, 3) := by decide +kernel
theorem dX6_runCommands_35 : decode cX6_runCommands 35 = .ok (.invokevirtual 151, 3) := by decide +kernel
theorem dX6_runCommands_38 : decode cX6_runCommands 38 = .ok (.iconst 0, 1) := by decide +kernel
theorem dX6_runCommands_39 : decode cX6_runCommands 39 = .ok (.istore_n 3, 1) := by decide +kernel
theorem dX6_runCommands_40 : decode cX6_runCommands 40 = .ok (.iload_n 3, 1) := by decide +kernel
theorem dX6_runCommands_41 : decode cX6_runCommands 41 = .ok (.sipush 150, 3) := by decide +kernel
theorem dX6_runCommands_44 : decode cX6_runCommands 44 = .ok (.if_icmp .ge 46, 3) := by decide +kernel
theorem dX6_runCommands_47 : decode cX6_runCommands 47 = .ok (.aload_n 0, 1) := by decide +kernel
theorem dX6_runCommands_48 : decode cX6_runCommands 48 = .ok (.getfield 29, 3) := by decide +kernel
theorem dX6_runCommands_51 : decode cX6_runCommands 51 = .ok (.invokevirtual 154, 3) := by decide +kernel
theorem dX6_runCommands_54 : decode cX6_runCommands 54 = .ok (.ifCond .eq 36, 3) := by decide +kernel
theorem dX6_runCommands_57 : decode cX6_runCommands 57 = .ok (.aload_n 0, 1) := by decide +kernel
theorem dX6_runCommands_58 : decode cX6_runCommands 58 = .ok (.getfield 29, 3) := by decide +kernel
theorem dX6_runCommands_61 : decode cX6_runCommands 61 = .ok (.invokevirtual 158, 3) := by decide +kernel
theorem dX6_runCommands_64 : decode cX6_runCommands 64 = .ok (.aload_n 0, 1) := by decide +kernel
theorem dX6_runCommands_65 : decode cX6_runCommands 65 = .ok (.aload_n 0, 1) := by decide +kernel
theorem dX6_runCommands_66 : decode cX6_runCommands 66 = .ok (.getfield 29, 3) := by decide +kernel
theorem dX6_runCommands_69 : decode cX6_runCommands 69 = .ok (.getfield 161, 3) := by decide +kernel
theorem dX6_runCommands_72 : decode cX6_runCommands 72 = .ok (.invokevirtual 164, 3) := by decide +kernel
theorem dX6_runCommands_75 : decode cX6_runCommands 75 = .ok (.ifCond .ne 6, 3) := by decide +kernel
theorem dX6_runCommands_78 : decode cX6_runCommands 78 = .ok (.goto 12, 3) := by decide +kernel
theorem dX6_runCommands_81 : decode cX6_runCommands 81 = .ok (.iinc 2 1, 3) := by decide +kernel
theorem dX6_runCommands_84 : decode cX6_runCommands 84 = .ok (.iinc 3 1, 3) := by decide +kernel
theorem dX6_runCommands_87 : decode cX6_runCommands 87 = .ok (.goto (-47), 3) := by decide +kernel
theorem dX6_runCommands_90 : decode cX6_runCommands 90 = .ok (.iload_n 2, 1) := by decide +kernel
theorem dX6_runCommands_91 : decode cX6_runCommands 91 = .ok (.ireturn, 1) := by decide +kernel
set_option maxRecDepth 20000 in
theorem ggX6_undo_X6_refuse : GoodIn wsX6_undo wsX6_refuse := goodIn_ca (goodIn_ca (goodIn_ca (goodIn_r _ [6, 7, 8, 9, 10, 11, 12] (by decide +kernel) (by decide +kernel)) (goodIn_sub (fun _ h => List.mem_cons_of_mem _ (List.mem_append_left _ (List.mem_append_left _ (List.mem_append_right _ h)))) (by decide +kernel))) (goodIn_sub (fun _ h => List.mem_cons_of_mem _ (List.mem_append_left _ (List.mem_append_right _ h))) (by decide +kernel))) (goodIn_sub (fun _ h => List.mem_cons_of_mem _ (List.mem_append_right _ h)) (by decide +kernel))
set_option maxRecDepth 20000 in
theorem gX6_undo_X6_refuse : GoodIn wsX6_undo (va_wsS RX6 59 yX6_refuse wsX6_refuse) := goodIn_app (goodIn_of _ (by decide +kernel)) ggX6_undo_X6_refuse
set_option maxRecDepth 20000 in
theorem ggX6_undo_X3_popInto : GoodIn wsX6_undo wsX3_popInto := goodIn_r _ [16, 17, 18, 19, 20, 21, 22, 23, 24, 25, 26, 27, 28, 29, 30, 31, 32, 33, 34, 35, 36, 37, 38, 39, 40, 41, 42, 43, 44, 45, 50, 51, 52, 53, 54, 55, 56, 57, 58, 59, 60, 61, 62, 63, 64, 65, 66] (by decide +kernel) (by decide +kernel)
set_option maxRecDepth 20000 in
theorem gX6_undo_X3_popInto_n171 : GoodIn wsX6_undo (wsX3_popInto) := ggX6_undo_X3_popInto
theorem dX6_undo_0 : decode cX6_undo 0 = .ok (.aload_n 0, 1) := by decide +kernel
theorem dX6_undo_1 : decode cX6_undo 1 = .ok (.getfield 22, 3) := by decide +kernel
theorem dX6_undo_4 : decode cX6_undo 4 = .ok (.getfield 168, 3) := by decide +kernel
theorem dX6_undo_7 : decode cX6_undo 7 = .ok (.ifCond .le 7, 3) := by decide +kernel
theorem dX6_undo_10 : decode cX6_undo 10 = .ok (.iconst 0, 1) := by decide +kernel
theorem dX6_undo_11 : decode cX6_undo 11 = .ok (.goto 4, 3) := by decide +kernel
theorem dX6_undo_14 : decode cX6_undo 14 = .ok (.iconst 3, 1) := by decide +kernel
theorem dX6_undo_15 : decode cX6_undo 15 = .ok (.invokestatic 59, 3) := by decide +kernel
theorem dX6_undo_18 : decode cX6_undo 18 = .ok (.aload_n 0, 1) := by decide +kernel
theorem dX6_undo_19 : decode cX6_undo 19 = .ok (.getfield 22, 3) := by decide +kernel
theorem dX6_undo_22 : decode cX6_undo 22 = .ok (.aload_n 0, 1) := by decide +kernel
theorem dX6_undo_23 : decode cX6_undo 23 = .ok (.getfield 10, 3) := by decide +kernel
theorem dX6_undo_26 : decode cX6_undo 26 = .ok (.invokevirtual 171, 3) := by decide +kernel
theorem dX6_undo_29 : decode cX6_undo 29 = .ok (.aload_n 0, 1) := by decide +kernel
theorem dX6_undo_30 : decode cX6_undo 30 = .ok (.getfield 22, 3) := by decide +kernel
theorem dX6_undo_33 : decode cX6_undo 33 = .ok (.getfield 168, 3) := by decide +kernel
theorem dX6_undo_36 : decode cX6_undo 36 = .ok (.ireturn, 1) := by decide +kernel
set_option maxRecDepth 20000 in
theorem ggX6_digest_X6_wholeValue : GoodIn wsX6_digest wsX6_wholeValue := goodIn_r _ [9, 10, 4, 11, 12, 13, 14, 15, 16, 17, 18, 19, 20, 21, 22, 23, 24, 25, 26, 27, 28, 29, 30, 31, 32, 33, 34, 35, 36, 37, 38, 39, 40, 41, 42, 43, 44, 45, 46, 47, 48, 49, 50, 51, 52, 53, 54, 55, 56, 57, 58, 59, 60, 61, 62, 63, 64, 65, 66, 67, 68, 69, 70, 71, 72, 73, 74, 75, 76, 77, 78, 79, 80, 81, 82, 83, 84, 85, 86, 87, 88, 89, 90, 91, 92, 93, 94, 124, 125, 126, 127, 130, 131, 132, 133, 134, 135, 136, 137, 138, 139, 140, 141, 142, 143, 144, 145, 146, 147, 148, 149, 150] (by decide +kernel) (by decide +kernel)
set_option maxRecDepth 20000 in
theorem gX6_digest_X6_wholeValue : GoodIn wsX6_digest (wsV RX6 117 RX6 yX6_wholeValue wsX6_wholeValue) := goodIn_app (goodIn_of _ (by decide +kernel)) ggX6_digest_X6_wholeValue
set_option maxRecDepth 20000 in
theorem ggX6_digest_X6_digestMembers : GoodIn wsX6_digest wsX6_digestMembers := goodIn_r _ [98, 4, 3, 30, 12, 31, 32, 15, 33, 34, 99, 100, 101, 29, 35, 36, 37, 38, 25, 26, 27, 28, 102, 103, 104, 105, 63, 64, 65, 66, 124, 125, 126, 127, 136, 137, 138, 139, 140, 141, 142, 143, 144, 145, 146, 147, 148, 149, 150] (by decide +kernel) (by decide +kernel)
set_option maxRecDepth 20000 in
theorem gX6_digest_X6_digestMembers : GoodIn wsX6_digest (wsV RX6 178 RX6 yX6_digestMembers wsX6_digestMembers) := goodIn_app (goodIn_of _ (by decide +kernel)) ggX6_digest_X6_digestMembers
set_option maxRecDepth 20000 in
theorem ggX6_digest_X6_digestPairs : GoodIn wsX6_digest wsX6_digestPairs := goodIn_r _ [109, 4, 3, 110, 12, 111, 112, 113, 114, 115, 116, 29, 30, 31, 32, 15, 33, 34, 83, 84, 85, 86, 67, 68, 69, 70, 117, 118, 119, 120, 16, 63, 64, 65, 66, 60, 61, 62, 124, 125, 126, 127, 136, 137, 138, 139, 140, 141, 142, 143, 144, 145, 146, 147, 148, 149, 150] (by decide +kernel) (by decide +kernel)
set_option maxRecDepth 20000 in
theorem gX6_digest_X6_digestPairs : GoodIn wsX6_digest (wsV RX6 182 RX6 yX6_digestPairs wsX6_digestPairs) := goodIn_app (goodIn_of _ (by decide +kernel)) ggX6_digest_X6_digestPairs
set_option maxRecDepth 20000 in
theorem ggX6_digest_X4_wrongPairs : GoodIn wsX6_digest wsX4_wrongPairs := goodIn_r _ [123, 15, 51, 52, 53, 12, 54, 29, 30, 31, 32, 33, 34, 136, 137, 138, 139, 140, 141, 142, 143, 144, 145, 146, 147, 148, 149, 150] (by decide +kernel) (by decide +kernel)
set_option maxRecDepth 20000 in
theorem gX6_digest_X4_wrongPairs_n139 : GoodIn wsX6_digest (wsX4_wrongPairs) := ggX6_digest_X4_wrongPairs
theorem dX6_digest_0 : decode cX6_digest 0 = .ok (.ldc2_w 174, 3) := by decide +kernel
theorem dX6_digest_3 : decode cX6_digest 3 = .ok (.aload_n 0, 1) := by decide +kernel
theorem dX6_digest_4 : decode cX6_digest 4 = .ok (.getfield 22, 3) := by decide +kernel
theorem dX6_digest_7 : decode cX6_digest 7 = .ok (.getfield 168, 3) := by decide +kernel
theorem dX6_digest_10 : decode cX6_digest 10 = .ok (.i2l, 1) := by decide +kernel
theorem dX6_digest_11 : decode cX6_digest 11 = .ok (.ladd, 1) := by decide +kernel
theorem dX6_digest_12 : decode cX6_digest 12 = .ok (.lstore_n 1, 1) := by decide +kernel
theorem dX6_digest_13 : decode cX6_digest 13 = .ok (.iconst 0, 1) := by decide +kernel
theorem dX6_digest_14 : decode cX6_digest 14 = .ok (.istore_n 3, 1) := by decide +kernel
theorem dX6_digest_15 : decode cX6_digest 15 = .ok (.iload_n 3, 1) := by decide +kernel
theorem dX6_digest_16 : decode cX6_digest 16 = .ok (.bipush 14, 2) := by decide +kernel
theorem dX6_digest_18 : decode cX6_digest 18 = .ok (.if_icmp .ge 22, 3) := by decide +kernel
theorem dX6_digest_21 : decode cX6_digest 21 = .ok (.ldc2_w 176, 3) := by decide +kernel
theorem dX6_digest_24 : decode cX6_digest 24 = .ok (.lload_n 1, 1) := by decide +kernel
theorem dX6_digest_25 : decode cX6_digest 25 = .ok (.lmul, 1) := by decide +kernel
theorem dX6_digest_26 : decode cX6_digest 26 = .ok (.aload_n 0, 1) := by decide +kernel
theorem dX6_digest_27 : decode cX6_digest 27 = .ok (.iload_n 3, 1) := by decide +kernel
theorem dX6_digest_28 : decode cX6_digest 28 = .ok (.invokevirtual 117, 3) := by decide +kernel
theorem dX6_digest_31 : decode cX6_digest 31 = .ok (.i2l, 1) := by decide +kernel
theorem dX6_digest_32 : decode cX6_digest 32 = .ok (.ladd, 1) := by decide +kernel
theorem dX6_digest_33 : decode cX6_digest 33 = .ok (.lstore_n 1, 1) := by decide +kernel
theorem dX6_digest_34 : decode cX6_digest 34 = .ok (.iinc 3 1, 3) := by decide +kernel
theorem dX6_digest_37 : decode cX6_digest 37 = .ok (.goto (-22), 3) := by decide +kernel
theorem dX6_digest_40 : decode cX6_digest 40 = .ok (.aload_n 0, 1) := by decide +kernel
theorem dX6_digest_41 : decode cX6_digest 41 = .ok (.lload_n 1, 1) := by decide +kernel
theorem dX6_digest_42 : decode cX6_digest 42 = .ok (.invokevirtual 178, 3) := by decide +kernel
theorem dX6_digest_45 : decode cX6_digest 45 = .ok (.lstore_n 1, 1) := by decide +kernel
theorem dX6_digest_46 : decode cX6_digest 46 = .ok (.aload_n 0, 1) := by decide +kernel
theorem dX6_digest_47 : decode cX6_digest 47 = .ok (.lload_n 1, 1) := by decide +kernel
theorem dX6_digest_48 : decode cX6_digest 48 = .ok (.invokevirtual 182, 3) := by decide +kernel
theorem dX6_digest_51 : decode cX6_digest 51 = .ok (.lstore_n 1, 1) := by decide +kernel
theorem dX6_digest_52 : decode cX6_digest 52 = .ok (.ldc2_w 176, 3) := by decide +kernel
theorem dX6_digest_55 : decode cX6_digest 55 = .ok (.lload_n 1, 1) := by decide +kernel
theorem dX6_digest_56 : decode cX6_digest 56 = .ok (.lmul, 1) := by decide +kernel
theorem dX6_digest_57 : decode cX6_digest 57 = .ok (.aload_n 0, 1) := by decide +kernel
theorem dX6_digest_58 : decode cX6_digest 58 = .ok (.getfield 10, 3) := by decide +kernel
theorem dX6_digest_61 : decode cX6_digest 61 = .ok (.invokevirtual 139, 3) := by decide +kernel
theorem dX6_digest_64 : decode cX6_digest 64 = .ok (.i2l, 1) := by decide +kernel
theorem dX6_digest_65 : decode cX6_digest 65 = .ok (.ladd, 1) := by decide +kernel
theorem dX6_digest_66 : decode cX6_digest 66 = .ok (.lreturn, 1) := by decide +kernel
set_option maxRecDepth 20000 in
theorem ggX6_digestMembers_X4_memberAt : GoodIn wsX6_digestMembers wsX4_memberAt := goodIn_r _ [6, 7, 8, 9, 34, 35, 36, 37, 38, 39, 40, 41] (by decide +kernel) (by decide +kernel)
set_option maxRecDepth 20000 in
theorem gX6_digestMembers_X4_memberAt_n101 : GoodIn wsX6_digestMembers (wsX4_memberAt) := ggX6_digestMembers_X4_memberAt
set_option maxRecDepth 20000 in
theorem ggX6_digestMembers_X4_memberValue : GoodIn wsX6_digestMembers wsX4_memberValue := goodIn_r _ [12, 13, 3, 5, 4, 6, 7, 8, 9, 14, 15, 16, 17, 18, 19, 20, 21, 22, 23, 24, 25, 26, 27, 28, 29, 42, 43, 44, 45, 46, 47, 48, 34, 35, 36, 37, 38, 39, 40, 41] (by decide +kernel) (by decide +kernel)
set_option maxRecDepth 20000 in
theorem gX6_digestMembers_X4_memberValue_n97 : GoodIn wsX6_digestMembers (wsX4_memberValue) := ggX6_digestMembers_X4_memberValue
theorem dX6_digestMembers_0 : decode cX6_digestMembers 0 = .ok (.lload_n 1, 1) := by decide +kernel
theorem dX6_digestMembers_1 : decode cX6_digestMembers 1 = .ok (.lstore_n 3, 1) := by decide +kernel
theorem dX6_digestMembers_2 : decode cX6_digestMembers 2 = .ok (.iconst 0, 1) := by decide +kernel
theorem dX6_digestMembers_3 : decode cX6_digestMembers 3 = .ok (.istore 5, 2) := by decide +kernel
theorem dX6_digestMembers_5 : decode cX6_digestMembers 5 = .ok (.iload 5, 2) := by decide +kernel
theorem dX6_digestMembers_7 : decode cX6_digestMembers 7 = .ok (.aload_n 0, 1) := by decide +kernel
theorem dX6_digestMembers_8 : decode cX6_digestMembers 8 = .ok (.getfield 10, 3) := by decide +kernel
theorem dX6_digestMembers_11 : decode cX6_digestMembers 11 = .ok (.getfield 185, 3) := by decide +kernel
theorem dX6_digestMembers_14 : decode cX6_digestMembers 14 = .ok (.if_icmp .ge 64, 3) := by decide +kernel
theorem dX6_digestMembers_17 : decode cX6_digestMembers 17 = .ok (.ldc2_w 176, 3) := by decide +kernel
theorem dX6_digestMembers_20 : decode cX6_digestMembers 20 = .ok (.lload_n 3, 1) := by decide +kernel
theorem dX6_digestMembers_21 : decode cX6_digestMembers 21 = .ok (.lmul, 1) := by decide +kernel
theorem dX6_digestMembers_22 : decode cX6_digestMembers 22 = .ok (.aload_n 0, 1) := by decide +kernel
theorem dX6_digestMembers_23 : decode cX6_digestMembers 23 = .ok (.getfield 10, 3) := by decide +kernel
theorem dX6_digestMembers_26 : decode cX6_digestMembers 26 = .ok (.iload 5, 2) := by decide +kernel
theorem dX6_digestMembers_28 : decode cX6_digestMembers 28 = .ok (.invokevirtual 101, 3) := by decide +kernel
theorem dX6_digestMembers_31 : decode cX6_digestMembers 31 = .ok (.getfield 105, 3) := by decide +kernel
theorem dX6_digestMembers_34 : decode cX6_digestMembers 34 = .ok (.i2l, 1) := by decide +kernel
theorem dX6_digestMembers_35 : decode cX6_digestMembers 35 = .ok (.ladd, 1) := by decide +kernel
theorem dX6_digestMembers_36 : decode cX6_digestMembers 36 = .ok (.lstore_n 3, 1) := by decide +kernel
theorem dX6_digestMembers_37 : decode cX6_digestMembers 37 = .ok (.iconst 0, 1) := by decide +kernel
theorem dX6_digestMembers_38 : decode cX6_digestMembers 38 = .ok (.istore 6, 2) := by decide +kernel
theorem dX6_digestMembers_40 : decode cX6_digestMembers 40 = .ok (.iload 6, 2) := by decide +kernel
theorem dX6_digestMembers_42 : decode cX6_digestMembers 42 = .ok (.bipush 10, 2) := by decide +kernel
theorem dX6_digestMembers_44 : decode cX6_digestMembers 44 = .ok (.if_icmp .ge 28, 3) := by decide +kernel
theorem dX6_digestMembers_47 : decode cX6_digestMembers 47 = .ok (.ldc2_w 176, 3) := by decide +kernel
theorem dX6_digestMembers_50 : decode cX6_digestMembers 50 = .ok (.lload_n 3, 1) := by decide +kernel
theorem dX6_digestMembers_51 : decode cX6_digestMembers 51 = .ok (.lmul, 1) := by decide +kernel
theorem dX6_digestMembers_52 : decode cX6_digestMembers 52 = .ok (.aload_n 0, 1) := by decide +kernel
theorem dX6_digestMembers_53 : decode cX6_digestMembers 53 = .ok (.getfield 10, 3) := by decide +kernel
theorem dX6_digestMembers_56 : decode cX6_digestMembers 56 = .ok (.iload 5, 2) := by decide +kernel
theorem dX6_digestMembers_58 : decode cX6_digestMembers 58 = .ok (.iload 6, 2) := by decide +kernel
theorem dX6_digestMembers_60 : decode cX6_digestMembers 60 = .ok (.invokevirtual 97, 3) := by decide +kernel
theorem dX6_digestMembers_63 : decode cX6_digestMembers 63 = .ok (.i2l, 1) := by decide +kernel
theorem dX6_digestMembers_64 : decode cX6_digestMembers 64 = .ok (.ladd, 1) := by decide +kernel
theorem dX6_digestMembers_65 : decode cX6_digestMembers 65 = .ok (.lstore_n 3, 1) := by decide +kernel
theorem dX6_digestMembers_66 : decode cX6_digestMembers 66 = .ok (.iinc 6 1, 3) := by decide +kernel
theorem dX6_digestMembers_69 : decode cX6_digestMembers 69 = .ok (.goto (-29), 3) := by decide +kernel
theorem dX6_digestMembers_72 : decode cX6_digestMembers 72 = .ok (.iinc 5 1, 3) := by decide +kernel
theorem dX6_digestMembers_75 : decode cX6_digestMembers 75 = .ok (.goto (-70), 3) := by decide +kernel
theorem dX6_digestMembers_78 : decode cX6_digestMembers 78 = .ok (.lload_n 3, 1) := by decide +kernel
theorem dX6_digestMembers_79 : decode cX6_digestMembers 79 = .ok (.lreturn, 1) := by decide +kernel
set_option maxRecDepth 20000 in
theorem ggX6_digestPairs_X4_pairValue : GoodIn wsX6_digestPairs wsX4_pairValue := goodIn_r _ [6, 7, 8, 9, 4, 10, 11, 12, 13, 14, 15, 16, 17, 18, 19, 20, 21, 22, 23, 24, 25, 26, 27, 28, 29, 30, 31, 32, 33, 34, 50, 51, 52, 53, 54, 55, 56, 42, 43, 44, 45, 46, 47, 48, 49] (by decide +kernel) (by decide +kernel)
set_option maxRecDepth 20000 in
theorem gX6_digestPairs_X4_pairValue_n114 : GoodIn wsX6_digestPairs (wsX4_pairValue) := ggX6_digestPairs_X4_pairValue
set_option maxRecDepth 20000 in
theorem ggX6_digestPairs_X4_hindrance : GoodIn wsX6_digestPairs wsX4_hindrance := goodIn_r _ [37, 31, 32, 33, 4, 34, 11, 12, 13, 14, 15, 16, 17, 22, 23, 24, 25, 50, 51, 52, 53, 54, 55, 56, 42, 43, 44, 45, 46, 47, 48, 49] (by decide +kernel) (by decide +kernel)
set_option maxRecDepth 20000 in
theorem gX6_digestPairs_X4_hindrance_n120 : GoodIn wsX6_digestPairs (wsX4_hindrance) := ggX6_digestPairs_X4_hindrance
theorem dX6_digestPairs_0 : decode cX6_digestPairs 0 = .ok (.lload_n 1, 1) := by decide +kernel
theorem dX6_digestPairs_1 : decode cX6_digestPairs 1 = .ok (.lstore_n 3, 1) := by decide +kernel
theorem dX6_digestPairs_2 : decode cX6_digestPairs 2 = .ok (.iconst 0, 1) := by decide +kernel
theorem dX6_digestPairs_3 : decode cX6_digestPairs 3 = .ok (.istore 5, 2) := by decide +kernel
theorem dX6_digestPairs_5 : decode cX6_digestPairs 5 = .ok (.iload 5, 2) := by decide +kernel
theorem dX6_digestPairs_7 : decode cX6_digestPairs 7 = .ok (.aload_n 0, 1) := by decide +kernel
theorem dX6_digestPairs_8 : decode cX6_digestPairs 8 = .ok (.getfield 10, 3) := by decide +kernel
theorem dX6_digestPairs_11 : decode cX6_digestPairs 11 = .ok (.getfield 185, 3) := by decide +kernel
theorem dX6_digestPairs_14 : decode cX6_digestPairs 14 = .ok (.iconst 1, 1) := by decide +kernel
theorem dX6_digestPairs_15 : decode cX6_digestPairs 15 = .ok (.isub, 1) := by decide +kernel
theorem dX6_digestPairs_16 : decode cX6_digestPairs 16 = .ok (.if_icmp .ge 60, 3) := by decide +kernel
theorem dX6_digestPairs_19 : decode cX6_digestPairs 19 = .ok (.iconst 0, 1) := by decide +kernel
theorem dX6_digestPairs_20 : decode cX6_digestPairs 20 = .ok (.istore 6, 2) := by decide +kernel
theorem dX6_digestPairs_22 : decode cX6_digestPairs 22 = .ok (.iload 6, 2) := by decide +kernel
theorem dX6_digestPairs_24 : decode cX6_digestPairs 24 = .ok (.iconst 5, 1) := by decide +kernel
theorem dX6_digestPairs_25 : decode cX6_digestPairs 25 = .ok (.if_icmp .ge 28, 3) := by decide +kernel
theorem dX6_digestPairs_28 : decode cX6_digestPairs 28 = .ok (.ldc2_w 176, 3) := by decide +kernel
theorem dX6_digestPairs_31 : decode cX6_digestPairs 31 = .ok (.lload_n 3, 1) := by decide +kernel
theorem dX6_digestPairs_32 : decode cX6_digestPairs 32 = .ok (.lmul, 1) := by decide +kernel
theorem dX6_digestPairs_33 : decode cX6_digestPairs 33 = .ok (.aload_n 0, 1) := by decide +kernel
theorem dX6_digestPairs_34 : decode cX6_digestPairs 34 = .ok (.getfield 10, 3) := by decide +kernel
theorem dX6_digestPairs_37 : decode cX6_digestPairs 37 = .ok (.iload 5, 2) := by decide +kernel
theorem dX6_digestPairs_39 : decode cX6_digestPairs 39 = .ok (.iload 6, 2) := by decide +kernel
theorem dX6_digestPairs_41 : decode cX6_digestPairs 41 = .ok (.invokevirtual 114, 3) := by decide +kernel
theorem dX6_digestPairs_44 : decode cX6_digestPairs 44 = .ok (.i2l, 1) := by decide +kernel
theorem dX6_digestPairs_45 : decode cX6_digestPairs 45 = .ok (.ladd, 1) := by decide +kernel
theorem dX6_digestPairs_46 : decode cX6_digestPairs 46 = .ok (.lstore_n 3, 1) := by decide +kernel
theorem dX6_digestPairs_47 : decode cX6_digestPairs 47 = .ok (.iinc 6 1, 3) := by decide +kernel
theorem dX6_digestPairs_50 : decode cX6_digestPairs 50 = .ok (.goto (-28), 3) := by decide +kernel
theorem dX6_digestPairs_53 : decode cX6_digestPairs 53 = .ok (.ldc2_w 176, 3) := by decide +kernel
theorem dX6_digestPairs_56 : decode cX6_digestPairs 56 = .ok (.lload_n 3, 1) := by decide +kernel
theorem dX6_digestPairs_57 : decode cX6_digestPairs 57 = .ok (.lmul, 1) := by decide +kernel
theorem dX6_digestPairs_58 : decode cX6_digestPairs 58 = .ok (.aload_n 0, 1) := by decide +kernel
theorem dX6_digestPairs_59 : decode cX6_digestPairs 59 = .ok (.getfield 10, 3) := by decide +kernel
theorem dX6_digestPairs_62 : decode cX6_digestPairs 62 = .ok (.iload 5, 2) := by decide +kernel
theorem dX6_digestPairs_64 : decode cX6_digestPairs 64 = .ok (.invokevirtual 120, 3) := by decide +kernel
theorem dX6_digestPairs_67 : decode cX6_digestPairs 67 = .ok (.i2l, 1) := by decide +kernel
theorem dX6_digestPairs_68 : decode cX6_digestPairs 68 = .ok (.ladd, 1) := by decide +kernel
theorem dX6_digestPairs_69 : decode cX6_digestPairs 69 = .ok (.lstore_n 3, 1) := by decide +kernel
theorem dX6_digestPairs_70 : decode cX6_digestPairs 70 = .ok (.iinc 5 1, 3) := by decide +kernel
theorem dX6_digestPairs_73 : decode cX6_digestPairs 73 = .ok (.goto (-68), 3) := by decide +kernel
theorem dX6_digestPairs_76 : decode cX6_digestPairs 76 = .ok (.lload_n 3, 1) := by decide +kernel
theorem dX6_digestPairs_77 : decode cX6_digestPairs 77 = .ok (.lreturn, 1) := by decide +kernel
set_option maxRecDepth 20000 in
theorem ggX6_wholeValue_X4_wholeValue : GoodIn wsX6_wholeValue wsX4_wholeValue := goodIn_r _ [6, 7, 8, 9, 10, 11, 12, 13, 14, 15, 4, 16, 17, 18, 19, 20, 21, 22, 23, 24, 25, 26, 27, 28, 29, 30, 31, 32, 33, 34, 35, 36, 37, 38, 39, 40, 41, 42, 43, 44, 45, 46, 47, 48, 49, 50, 51, 52, 53, 54, 55, 56, 57, 58, 59, 60, 61, 62, 63, 64, 65, 66, 67, 68, 69, 70, 71, 72, 73, 74, 75, 76, 77, 78, 79, 80, 81, 82, 83, 84, 85, 86, 97, 98, 99, 100, 101, 102, 103, 104, 105, 106, 107, 108, 109, 110, 111] (by decide +kernel) (by decide +kernel)
set_option maxRecDepth 20000 in
theorem gX6_wholeValue_X4_wholeValue_n188 : GoodIn wsX6_wholeValue (wsX4_wholeValue) := ggX6_wholeValue_X4_wholeValue
theorem dX6_wholeValue_0 : decode cX6_wholeValue 0 = .ok (.iload_n 1, 1) := by decide +kernel
theorem dX6_wholeValue_1 : decode cX6_wholeValue 1 = .ok (.bipush 13, 2) := by decide +kernel
theorem dX6_wholeValue_3 : decode cX6_wholeValue 3 = .ok (.if_icmp .ne 13, 3) := by decide +kernel
theorem dX6_wholeValue_6 : decode cX6_wholeValue 6 = .ok (.aload_n 0, 1) := by decide +kernel
theorem dX6_wholeValue_7 : decode cX6_wholeValue 7 = .ok (.getfield 29, 3) := by decide +kernel
theorem dX6_wholeValue_10 : decode cX6_wholeValue 10 = .ok (.getfield 142, 3) := by decide +kernel
theorem dX6_wholeValue_13 : decode cX6_wholeValue 13 = .ok (.goto 11, 3) := by decide +kernel
theorem dX6_wholeValue_16 : decode cX6_wholeValue 16 = .ok (.aload_n 0, 1) := by decide +kernel
theorem dX6_wholeValue_17 : decode cX6_wholeValue 17 = .ok (.getfield 10, 3) := by decide +kernel
theorem dX6_wholeValue_20 : decode cX6_wholeValue 20 = .ok (.iload_n 1, 1) := by decide +kernel
theorem dX6_wholeValue_21 : decode cX6_wholeValue 21 = .ok (.invokevirtual 188, 3) := by decide +kernel
theorem dX6_wholeValue_24 : decode cX6_wholeValue 24 = .ok (.ireturn, 1) := by decide +kernel
set_option maxRecDepth 20000 in
theorem ggX6_profitAt_X4_memberAt : GoodIn wsX6_profitAt wsX4_memberAt := goodIn_r _ [6, 7, 8, 9, 81, 82, 83, 84, 85, 86, 87, 88] (by decide +kernel) (by decide +kernel)
set_option maxRecDepth 20000 in
theorem gX6_profitAt_X4_memberAt_n101 : GoodIn wsX6_profitAt (wsX4_memberAt) := ggX6_profitAt_X4_memberAt
set_option maxRecDepth 20000 in
theorem ggX6_profitAt_X4_copyFrom : GoodIn wsX6_profitAt wsX4_copyFrom := goodIn_r _ [12, 7, 13, 14, 15, 16, 17, 18, 3, 5, 4, 6, 8, 9, 19, 20, 21, 22, 23, 24, 25, 26, 27, 28, 29, 81, 82, 83, 84, 85, 86, 87, 88, 74, 75, 76, 77, 78, 79, 80] (by decide +kernel) (by decide +kernel)
set_option maxRecDepth 20000 in
theorem gX6_profitAt_X4_copyFrom_n123 : GoodIn wsX6_profitAt (wsX4_copyFrom) := ggX6_profitAt_X4_copyFrom
set_option maxRecDepth 20000 in
theorem ggX6_profitAt_X4_settleDown : GoodIn wsX6_profitAt wsX4_settleDown := goodIn_r _ [32, 33, 34, 35, 4, 36, 7, 37, 38, 39, 40, 18, 3, 5, 6, 8, 9, 41, 42, 43, 44, 45, 46, 47, 48, 49, 50, 51, 52, 13, 53, 54, 55, 56, 14, 15, 57, 20, 58, 59, 28, 29, 81, 82, 83, 84, 85, 86, 87, 88, 74, 75, 76, 77, 78, 79, 80] (by decide +kernel) (by decide +kernel)
set_option maxRecDepth 20000 in
theorem gX6_profitAt_X4_settleDown_n126 : GoodIn wsX6_profitAt (wsX4_settleDown) := ggX6_profitAt_X4_settleDown
set_option maxRecDepth 20000 in
theorem ggX6_profitAt_X4_placeOf : GoodIn wsX6_profitAt wsX4_placeOf := goodIn_r _ [62, 7, 18, 3, 5, 4, 6, 8, 9, 81, 82, 83, 84, 85, 86, 87, 88, 74, 75, 76, 77, 78, 79, 80] (by decide +kernel) (by decide +kernel)
set_option maxRecDepth 20000 in
theorem gX6_profitAt_X4_placeOf_n89 : GoodIn wsX6_profitAt (wsX4_placeOf) := ggX6_profitAt_X4_placeOf
set_option maxRecDepth 20000 in
theorem ggX6_profitAt_X4_costAt : GoodIn wsX6_profitAt wsX4_costAt := goodIn_r _ [65, 18, 3, 5, 4, 6, 7, 8, 9, 66, 67, 68, 69, 74, 75, 76, 77, 78, 79, 80, 81, 82, 83, 84, 85, 86, 87, 88] (by decide +kernel) (by decide +kernel)
set_option maxRecDepth 20000 in
theorem gX6_profitAt_X4_costAt_n192 : GoodIn wsX6_profitAt (wsX4_costAt) := ggX6_profitAt_X4_costAt
theorem dX6_profitAt_0 : decode cX6_profitAt 0 = .ok (.aload_n 0, 1) := by decide +kernel
theorem dX6_profitAt_1 : decode cX6_profitAt 1 = .ok (.getfield 10, 3) := by decide +kernel
theorem dX6_profitAt_4 : decode cX6_profitAt 4 = .ok (.iload_n 1, 1) := by decide +kernel
theorem dX6_profitAt_5 : decode cX6_profitAt 5 = .ok (.invokevirtual 101, 3) := by decide +kernel
theorem dX6_profitAt_8 : decode cX6_profitAt 8 = .ok (.astore_n 3, 1) := by decide +kernel
theorem dX6_profitAt_9 : decode cX6_profitAt 9 = .ok (.aload_n 0, 1) := by decide +kernel
theorem dX6_profitAt_10 : decode cX6_profitAt 10 = .ok (.getfield 16, 3) := by decide +kernel
theorem dX6_profitAt_13 : decode cX6_profitAt 13 = .ok (.aload_n 0, 1) := by decide +kernel
theorem dX6_profitAt_14 : decode cX6_profitAt 14 = .ok (.getfield 10, 3) := by decide +kernel
theorem dX6_profitAt_17 : decode cX6_profitAt 17 = .ok (.invokevirtual 123, 3) := by decide +kernel
theorem dX6_profitAt_20 : decode cX6_profitAt 20 = .ok (.aload_n 0, 1) := by decide +kernel
theorem dX6_profitAt_21 : decode cX6_profitAt 21 = .ok (.getfield 16, 3) := by decide +kernel
theorem dX6_profitAt_24 : decode cX6_profitAt 24 = .ok (.iload_n 1, 1) := by decide +kernel
theorem dX6_profitAt_25 : decode cX6_profitAt 25 = .ok (.invokevirtual 101, 3) := by decide +kernel
theorem dX6_profitAt_28 : decode cX6_profitAt 28 = .ok (.iload_n 2, 1) := by decide +kernel
theorem dX6_profitAt_29 : decode cX6_profitAt 29 = .ok (.putfield 189, 3) := by decide +kernel
theorem dX6_profitAt_32 : decode cX6_profitAt 32 = .ok (.aload_n 0, 1) := by decide +kernel
theorem dX6_profitAt_33 : decode cX6_profitAt 33 = .ok (.getfield 16, 3) := by decide +kernel
theorem dX6_profitAt_36 : decode cX6_profitAt 36 = .ok (.invokevirtual 126, 3) := by decide +kernel
theorem dX6_profitAt_39 : decode cX6_profitAt 39 = .ok (.pop, 1) := by decide +kernel
theorem dX6_profitAt_40 : decode cX6_profitAt 40 = .ok (.aload_n 0, 1) := by decide +kernel
theorem dX6_profitAt_41 : decode cX6_profitAt 41 = .ok (.getfield 16, 3) := by decide +kernel
theorem dX6_profitAt_44 : decode cX6_profitAt 44 = .ok (.aload_n 3, 1) := by decide +kernel
theorem dX6_profitAt_45 : decode cX6_profitAt 45 = .ok (.getfield 105, 3) := by decide +kernel
theorem dX6_profitAt_48 : decode cX6_profitAt 48 = .ok (.invokevirtual 89, 3) := by decide +kernel
theorem dX6_profitAt_51 : decode cX6_profitAt 51 = .ok (.istore 4, 2) := by decide +kernel
theorem dX6_profitAt_53 : decode cX6_profitAt 53 = .ok (.aload_n 0, 1) := by decide +kernel
theorem dX6_profitAt_54 : decode cX6_profitAt 54 = .ok (.getfield 10, 3) := by decide +kernel
theorem dX6_profitAt_57 : decode cX6_profitAt 57 = .ok (.iload_n 1, 1) := by decide +kernel
theorem dX6_profitAt_58 : decode cX6_profitAt 58 = .ok (.invokevirtual 192, 3) := by decide +kernel
theorem dX6_profitAt_61 : decode cX6_profitAt 61 = .ok (.aload_n 0, 1) := by decide +kernel
theorem dX6_profitAt_62 : decode cX6_profitAt 62 = .ok (.getfield 16, 3) := by decide +kernel
theorem dX6_profitAt_65 : decode cX6_profitAt 65 = .ok (.iload 4, 2) := by decide +kernel
theorem dX6_profitAt_67 : decode cX6_profitAt 67 = .ok (.invokevirtual 192, 3) := by decide +kernel
theorem dX6_profitAt_70 : decode cX6_profitAt 70 = .ok (.isub, 1) := by decide +kernel
theorem dX6_profitAt_71 : decode cX6_profitAt 71 = .ok (.istore 5, 2) := by decide +kernel
theorem dX6_profitAt_73 : decode cX6_profitAt 73 = .ok (.iload 5, 2) := by decide +kernel
theorem dX6_profitAt_75 : decode cX6_profitAt 75 = .ok (.aload_n 0, 1) := by decide +kernel
theorem dX6_profitAt_76 : decode cX6_profitAt 76 = .ok (.getfield 16, 3) := by decide +kernel
theorem dX6_profitAt_79 : decode cX6_profitAt 79 = .ok (.iload 4, 2) := by decide +kernel
theorem dX6_profitAt_81 : decode cX6_profitAt 81 = .ok (.invokevirtual 101, 3) := by decide +kernel
theorem dX6_profitAt_84 : decode cX6_profitAt 84 = .ok (.getfield 195, 3) := by decide +kernel
theorem dX6_profitAt_87 : decode cX6_profitAt 87 = .ok (.iadd, 1) := by decide +kernel
theorem dX6_profitAt_88 : decode cX6_profitAt 88 = .ok (.aload_n 3, 1) := by decide +kernel
theorem dX6_profitAt_89 : decode cX6_profitAt 89 = .ok (.getfield 195, 3) := by decide +kernel
theorem dX6_profitAt_92 : decode cX6_profitAt 92 = .ok (.isub, 1) := by decide +kernel
theorem dX6_profitAt_93 : decode cX6_profitAt 93 = .ok (.ireturn, 1) := by decide +kernel
set_option maxRecDepth 20000 in
theorem ggX6_perform_X6_faultOf : GoodIn wsX6_perform wsX6_faultOf := goodIn_r _ [7, 8, 2, 9, 10, 11, 12, 13, 14, 15, 16, 17, 18, 6, 19, 20, 21, 22, 23, 24, 25, 26, 27, 28, 29, 30, 31, 32, 33, 34, 35, 36, 37, 38, 39, 40, 41, 42, 43, 44, 45, 46, 47, 48, 49, 50, 51, 52, 53, 54, 55, 56, 57, 58, 59, 60, 61, 62, 63, 64, 65, 66, 67, 68, 69, 70, 71, 72, 73, 74, 75, 174, 175, 176, 177, 178, 179, 180, 181, 182, 183, 184, 185, 186, 187, 188, 189, 190, 191, 192] (by decide +kernel) (by decide +kernel)
set_option maxRecDepth 20000 in
theorem gX6_perform_X6_faultOf : GoodIn wsX6_perform (wsV RX6 198 RX6 yX6_faultOf wsX6_faultOf) := goodIn_app (goodIn_of _ (by decide +kernel)) ggX6_perform_X6_faultOf
set_option maxRecDepth 20000 in
theorem ggX6_perform_X6_refuse : GoodIn wsX6_perform wsX6_refuse := goodIn_ca (goodIn_ca (goodIn_ca (goodIn_r _ [78, 79, 80, 81, 82, 83, 84] (by decide +kernel) (by decide +kernel)) (goodIn_sub (fun _ h => List.mem_cons_of_mem _ (List.mem_append_left _ (List.mem_append_left _ (List.mem_append_right _ h)))) (by decide +kernel))) (goodIn_sub (fun _ h => List.mem_cons_of_mem _ (List.mem_append_left _ (List.mem_append_right _ h))) (by decide +kernel))) (goodIn_sub (fun _ h => List.mem_cons_of_mem _ (List.mem_append_right _ h)) (by decide +kernel))
set_option maxRecDepth 20000 in
theorem gX6_perform_X6_refuse : GoodIn wsX6_perform (va_wsS RX6 59 yX6_refuse wsX6_refuse) := goodIn_app (goodIn_of _ (by decide +kernel)) ggX6_perform_X6_refuse
set_option maxRecDepth 20000 in
theorem ggX6_perform_X3_push : GoodIn wsX6_perform wsX3_push := goodIn_r _ [88, 89, 90, 91, 92, 93, 86, 94, 95, 24, 96, 97, 27, 98, 99, 100, 101, 102, 33, 23, 25, 26, 28, 29, 103, 104, 105, 106, 107, 108, 109, 110, 111, 112, 113, 193, 194, 178, 179, 180, 181, 182, 183, 184, 185, 186, 187, 188, 189, 190, 191, 192] (by decide +kernel) (by decide +kernel)
set_option maxRecDepth 20000 in
theorem gX6_perform_X3_push_n63 : GoodIn wsX6_perform (wsX3_push) := ggX6_perform_X3_push
set_option maxRecDepth 20000 in
theorem ggX6_perform_X6_carryOut : GoodIn wsX6_perform wsX6_carryOut := goodIn_r _ [117, 8, 2, 9, 10, 11, 12, 13, 14, 15, 118, 24, 119, 120, 27, 28, 102, 121, 104, 122, 123, 107, 108, 109, 110, 111, 124, 125, 126, 127, 112, 113, 33, 23, 25, 26, 29, 128, 129, 130, 131, 30, 31, 32, 132, 133, 134, 135, 136, 137, 138, 139, 140, 141, 142, 143, 144, 145, 146, 147, 148, 99, 100, 149, 150, 151, 152, 153, 154, 155, 98, 156, 157, 158, 159, 160, 161, 162, 64, 65, 66, 67, 163, 164, 165, 101, 166, 167, 168, 169, 170, 171, 172, 68, 69, 70, 71, 53, 54, 55, 56, 173, 174, 175, 176, 177, 178, 179, 180, 181, 182, 183, 184, 185, 186, 187, 188, 189, 190, 191, 192] (by decide +kernel) (by decide +kernel)
set_option maxRecDepth 20000 in
theorem gX6_perform_X6_carryOut : GoodIn wsX6_perform (wsV RX6 201 RX6 yX6_carryOut wsX6_carryOut) := goodIn_app (goodIn_of _ (by decide +kernel)) ggX6_perform_X6_carryOut
theorem dX6_perform_0 : decode cX6_perform 0 = .ok (.aload_n 0, 1) := by decide +kernel
theorem dX6_perform_1 : decode cX6_perform 1 = .ok (.aload_n 1, 1) := by decide +kernel
theorem dX6_perform_2 : decode cX6_perform 2 = .ok (.iload_n 2, 1) := by decide +kernel
theorem dX6_perform_3 : decode cX6_perform 3 = .ok (.iload_n 3, 1) := by decide +kernel
theorem dX6_perform_4 : decode cX6_perform 4 = .ok (.iload 4, 2) := by decide +kernel
theorem dX6_perform_6 : decode cX6_perform 6 = .ok (.invokevirtual 198, 3) := by decide +kernel
theorem dX6_perform_9 : decode cX6_perform 9 = .ok (.invokestatic 59, 3) := by decide +kernel
theorem dX6_perform_12 : decode cX6_perform 12 = .ok (.aload_n 0, 1) := by decide +kernel
theorem dX6_perform_13 : decode cX6_perform 13 = .ok (.getfield 22, 3) := by decide +kernel
theorem dX6_perform_16 : decode cX6_perform 16 = .ok (.aload_n 0, 1) := by decide +kernel
theorem dX6_perform_17 : decode cX6_perform 17 = .ok (.getfield 10, 3) := by decide +kernel
theorem dX6_perform_20 : decode cX6_perform 20 = .ok (.invokevirtual 63, 3) := by decide +kernel
theorem dX6_perform_23 : decode cX6_perform 23 = .ok (.aload_n 0, 1) := by decide +kernel
theorem dX6_perform_24 : decode cX6_perform 24 = .ok (.aload_n 1, 1) := by decide +kernel
theorem dX6_perform_25 : decode cX6_perform 25 = .ok (.iload_n 2, 1) := by decide +kernel
theorem dX6_perform_26 : decode cX6_perform 26 = .ok (.iload_n 3, 1) := by decide +kernel
theorem dX6_perform_27 : decode cX6_perform 27 = .ok (.iload 4, 2) := by decide +kernel
theorem dX6_perform_29 : decode cX6_perform 29 = .ok (.invokevirtual 201, 3) := by decide +kernel
theorem dX6_perform_32 : decode cX6_perform 32 = .ok (.ireturn, 1) := by decide +kernel
set_option maxRecDepth 20000 in
theorem ggX6_carryOutRead_X2_number : GoodIn wsX6_carryOutRead wsX2_number := goodIn_r _ [5, 6, 158, 159, 160, 161, 162, 163] (by decide +kernel) (by decide +kernel)
set_option maxRecDepth 20000 in
theorem gX6_carryOutRead_X2_number_n204 : GoodIn wsX6_carryOutRead (wsX2_number) := ggX6_carryOutRead_X2_number
set_option maxRecDepth 20000 in
theorem ggX6_carryOutRead_X6_faultOf : GoodIn wsX6_carryOutRead wsX6_faultOf := goodIn_r _ [11, 12, 13, 14, 15, 16, 17, 18, 19, 20, 21, 22, 23, 10, 24, 25, 26, 27, 28, 29, 30, 31, 32, 33, 34, 35, 36, 37, 38, 39, 40, 41, 42, 43, 44, 45, 46, 47, 48, 49, 50, 51, 52, 53, 54, 55, 56, 57, 58, 59, 60, 61, 62, 63, 64, 65, 66, 67, 68, 69, 70, 71, 72, 73, 74, 75, 76, 77, 78, 79, 80, 154, 155, 156, 157, 164, 165, 166, 167, 168, 169, 170, 171, 172, 173, 174, 175, 176, 177, 178] (by decide +kernel) (by decide +kernel)
set_option maxRecDepth 20000 in
theorem gX6_carryOutRead_X6_faultOf : GoodIn wsX6_carryOutRead (wsV RX6 198 RX6 yX6_faultOf wsX6_faultOf) := goodIn_app (goodIn_of _ (by decide +kernel)) ggX6_carryOutRead_X6_faultOf
set_option maxRecDepth 20000 in
theorem ggX6_carryOutRead_X6_carryOut : GoodIn wsX6_carryOutRead wsX6_carryOut := goodIn_r _ [84, 12, 13, 14, 15, 16, 17, 18, 19, 20, 85, 29, 86, 87, 32, 33, 88, 89, 90, 91, 92, 93, 94, 95, 96, 97, 98, 99, 100, 101, 102, 103, 38, 28, 30, 31, 34, 104, 105, 106, 107, 35, 36, 37, 108, 109, 110, 111, 112, 113, 114, 115, 116, 117, 118, 119, 120, 121, 122, 123, 124, 125, 126, 127, 128, 129, 130, 131, 132, 133, 134, 135, 136, 137, 138, 139, 140, 141, 69, 70, 71, 72, 142, 143, 144, 145, 146, 147, 148, 149, 150, 151, 152, 73, 74, 75, 76, 58, 59, 60, 61, 153, 154, 155, 156, 157, 164, 165, 166, 167, 168, 169, 170, 171, 172, 173, 174, 175, 176, 177, 178] (by decide +kernel) (by decide +kernel)
set_option maxRecDepth 20000 in
theorem gX6_carryOutRead_X6_carryOut : GoodIn wsX6_carryOutRead (wsV RX6 201 RX6 yX6_carryOut wsX6_carryOut) := goodIn_app (goodIn_of _ (by decide +kernel)) ggX6_carryOutRead_X6_carryOut
theorem dX6_carryOutRead_0 : decode cX6_carryOutRead 0 = .ok (.aload_n 1, 1) := by decide +kernel
theorem dX6_carryOutRead_1 : decode cX6_carryOutRead 1 = .ok (.ifnonnull 5, 3) := by decide +kernel
theorem dX6_carryOutRead_4 : decode cX6_carryOutRead 4 = .ok (.iconst 0, 1) := by decide +kernel
theorem dX6_carryOutRead_5 : decode cX6_carryOutRead 5 = .ok (.ireturn, 1) := by decide +kernel
theorem dX6_carryOutRead_6 : decode cX6_carryOutRead 6 = .ok (.aload_n 0, 1) := by decide +kernel
theorem dX6_carryOutRead_7 : decode cX6_carryOutRead 7 = .ok (.getfield 29, 3) := by decide +kernel
theorem dX6_carryOutRead_10 : decode cX6_carryOutRead 10 = .ok (.iconst 0, 1) := by decide +kernel
theorem dX6_carryOutRead_11 : decode cX6_carryOutRead 11 = .ok (.invokevirtual 204, 3) := by decide +kernel
theorem dX6_carryOutRead_14 : decode cX6_carryOutRead 14 = .ok (.istore_n 2, 1) := by decide +kernel
theorem dX6_carryOutRead_15 : decode cX6_carryOutRead 15 = .ok (.aload_n 0, 1) := by decide +kernel
theorem dX6_carryOutRead_16 : decode cX6_carryOutRead 16 = .ok (.getfield 29, 3) := by decide +kernel
theorem dX6_carryOutRead_19 : decode cX6_carryOutRead 19 = .ok (.iconst 1, 1) := by decide +kernel
theorem dX6_carryOutRead_20 : decode cX6_carryOutRead 20 = .ok (.invokevirtual 204, 3) := by decide +kernel
theorem dX6_carryOutRead_23 : decode cX6_carryOutRead 23 = .ok (.istore_n 3, 1) := by decide +kernel
theorem dX6_carryOutRead_24 : decode cX6_carryOutRead 24 = .ok (.aload_n 0, 1) := by decide +kernel
theorem dX6_carryOutRead_25 : decode cX6_carryOutRead 25 = .ok (.getfield 29, 3) := by decide +kernel
theorem dX6_carryOutRead_28 : decode cX6_carryOutRead 28 = .ok (.iconst 2, 1) := by decide +kernel
theorem dX6_carryOutRead_29 : decode cX6_carryOutRead 29 = .ok (.invokevirtual 204, 3) := by decide +kernel
theorem dX6_carryOutRead_32 : decode cX6_carryOutRead 32 = .ok (.istore 4, 2) := by decide +kernel
theorem dX6_carryOutRead_34 : decode cX6_carryOutRead 34 = .ok (.aload_n 0, 1) := by decide +kernel
theorem dX6_carryOutRead_35 : decode cX6_carryOutRead 35 = .ok (.aload_n 1, 1) := by decide +kernel
theorem dX6_carryOutRead_36 : decode cX6_carryOutRead 36 = .ok (.iload_n 2, 1) := by decide +kernel
theorem dX6_carryOutRead_37 : decode cX6_carryOutRead 37 = .ok (.iload_n 3, 1) := by decide +kernel
theorem dX6_carryOutRead_38 : decode cX6_carryOutRead 38 = .ok (.iload 4, 2) := by decide +kernel
theorem dX6_carryOutRead_40 : decode cX6_carryOutRead 40 = .ok (.invokevirtual 198, 3) := by decide +kernel
theorem dX6_carryOutRead_43 : decode cX6_carryOutRead 43 = .ok (.ifCond .eq 5, 3) := by decide +kernel
theorem dX6_carryOutRead_46 : decode cX6_carryOutRead 46 = .ok (.iconst 0, 1) := by decide +kernel
theorem dX6_carryOutRead_47 : decode cX6_carryOutRead 47 = .ok (.ireturn, 1) := by decide +kernel
theorem dX6_carryOutRead_48 : decode cX6_carryOutRead 48 = .ok (.aload_n 0, 1) := by decide +kernel
theorem dX6_carryOutRead_49 : decode cX6_carryOutRead 49 = .ok (.aload_n 1, 1) := by decide +kernel
theorem dX6_carryOutRead_50 : decode cX6_carryOutRead 50 = .ok (.iload_n 2, 1) := by decide +kernel
theorem dX6_carryOutRead_51 : decode cX6_carryOutRead 51 = .ok (.iload_n 3, 1) := by decide +kernel
theorem dX6_carryOutRead_52 : decode cX6_carryOutRead 52 = .ok (.iload 4, 2) := by decide +kernel
theorem dX6_carryOutRead_54 : decode cX6_carryOutRead 54 = .ok (.invokevirtual 201, 3) := by decide +kernel
theorem dX6_carryOutRead_57 : decode cX6_carryOutRead 57 = .ok (.pop, 1) := by decide +kernel
theorem dX6_carryOutRead_58 : decode cX6_carryOutRead 58 = .ok (.iconst 1, 1) := by decide +kernel
theorem dX6_carryOutRead_59 : decode cX6_carryOutRead 59 = .ok (.ireturn, 1) := by decide +kernel
set_option maxRecDepth 20000 in
theorem ggX6_faultOf_Jx29ce0_ordinal_8abf5 : GoodIn wsX6_faultOf wsJx29ce0_ordinal_8abf5 := goodIn_r _ [8, 9] (by decide +kernel) (by decide +kernel)
set_option maxRecDepth 20000 in
theorem gX6_faultOf_Jx29ce0_ordinal_8abf5_u212X1 : GoodIn wsX6_faultOf (va_wsU RX6 212 RX1 "java/lang/Enum" ⟨"ConsentQueue$Command", "ordinal", "()I"⟩ yJx29ce0_ordinal_8abf5 wsJx29ce0_ordinal_8abf5) := goodIn_app (goodIn_of _ (by decide +kernel)) ggX6_faultOf_Jx29ce0_ordinal_8abf5
set_option maxRecDepth 20000 in
theorem ggX6_faultOf_X6_joinFault : GoodIn wsX6_faultOf wsX6_joinFault := goodIn_r _ [14, 2, 15, 16, 13, 17, 18, 19, 20, 21, 22, 23, 24, 71, 72, 73, 74, 75, 76, 77, 78, 79, 80, 81, 82, 83, 84, 85, 86, 87, 88, 89] (by decide +kernel) (by decide +kernel)
set_option maxRecDepth 20000 in
theorem gX6_faultOf_X6_joinFault : GoodIn wsX6_faultOf (wsV RX6 215 RX6 yX6_joinFault wsX6_joinFault) := goodIn_app (goodIn_of _ (by decide +kernel)) ggX6_faultOf_X6_joinFault
set_option maxRecDepth 20000 in
theorem ggX6_faultOf_X4_placeOf : GoodIn wsX6_faultOf wsX4_placeOf := goodIn_r _ [27, 22, 28, 18, 20, 19, 21, 23, 24, 75, 76, 77, 78, 79, 80, 81, 82, 83, 84, 85, 86, 87, 88, 89] (by decide +kernel) (by decide +kernel)
set_option maxRecDepth 20000 in
theorem gX6_faultOf_X4_placeOf_n89 : GoodIn wsX6_faultOf (wsX4_placeOf) := ggX6_faultOf_X4_placeOf
set_option maxRecDepth 20000 in
theorem ggX6_faultOf_X6_memberFault : GoodIn wsX6_faultOf wsX6_memberFault := goodIn_r _ [32] (by decide +kernel) (by decide +kernel)
set_option maxRecDepth 20000 in
theorem gX6_faultOf_X6_memberFault : GoodIn wsX6_faultOf (wsV RX6 93 RX6 yX6_memberFault wsX6_memberFault) := goodIn_app (goodIn_of _ (by decide +kernel)) ggX6_faultOf_X6_memberFault
set_option maxRecDepth 20000 in
theorem ggX6_faultOf_X6_isWithin : GoodIn wsX6_faultOf wsX6_isWithin := goodIn_r _ [17] (by decide +kernel) (by decide +kernel)
set_option maxRecDepth 20000 in
theorem gX6_faultOf_X6_isWithin : GoodIn wsX6_faultOf (va_wsS RX6 55 yX6_isWithin wsX6_isWithin) := goodIn_app (goodIn_of _ (by decide +kernel)) ggX6_faultOf_X6_isWithin
set_option maxRecDepth 20000 in
theorem ggX6_faultOf_X6_offerFault : GoodIn wsX6_faultOf wsX6_offerFault := goodIn_r _ [36, 15, 16, 13, 17, 29, 30, 31, 32] (by decide +kernel) (by decide +kernel)
set_option maxRecDepth 20000 in
theorem gX6_faultOf_X6_offerFault : GoodIn wsX6_faultOf (wsV RX6 219 RX6 yX6_offerFault wsX6_offerFault) := goodIn_app (goodIn_of _ (by decide +kernel)) ggX6_faultOf_X6_offerFault
set_option maxRecDepth 20000 in
theorem ggX6_faultOf_X6_takeFault : GoodIn wsX6_faultOf wsX6_takeFault := goodIn_r _ [40, 2, 29, 30, 31, 13, 32, 41, 19, 42, 43, 28, 18, 20, 21, 22, 23, 24, 44, 45, 46, 47, 48, 49, 50, 51, 71, 72, 73, 74, 83, 84, 85, 86, 87, 88, 89, 75, 76, 77, 78, 79, 80, 81, 82] (by decide +kernel) (by decide +kernel)
set_option maxRecDepth 20000 in
theorem gX6_faultOf_X6_takeFault : GoodIn wsX6_faultOf (wsV RX6 222 RX6 yX6_takeFault wsX6_takeFault) := goodIn_app (goodIn_of _ (by decide +kernel)) ggX6_faultOf_X6_takeFault
set_option maxRecDepth 20000 in
theorem ggX6_faultOf_X4_wouldSwap : GoodIn wsX6_faultOf wsX4_wouldSwap := goodIn_r _ [54, 55, 56, 57, 19, 58, 59, 60, 61, 62, 28, 18, 20, 21, 22, 23, 24, 63, 64, 65, 66, 83, 84, 85, 86, 87, 88, 89, 75, 76, 77, 78, 79, 80, 81, 82] (by decide +kernel) (by decide +kernel)
set_option maxRecDepth 20000 in
theorem gX6_faultOf_X4_wouldSwap_n225 : GoodIn wsX6_faultOf (wsX4_wouldSwap) := ggX6_faultOf_X4_wouldSwap
set_option maxRecDepth 20000 in
theorem ggX6_faultOf_X6_pairFault : GoodIn wsX6_faultOf wsX6_pairFault := goodIn_r _ [70, 2, 15, 16, 13, 17, 71, 72, 73, 74, 75, 76, 77, 78, 79, 80, 81, 82] (by decide +kernel) (by decide +kernel)
set_option maxRecDepth 20000 in
theorem gX6_faultOf_X6_pairFault : GoodIn wsX6_faultOf (wsV RX6 110 RX6 yX6_pairFault wsX6_pairFault) := goodIn_app (goodIn_of _ (by decide +kernel)) ggX6_faultOf_X6_pairFault
set_option maxRecDepth 20000 in
theorem ggX6_faultOf_X4_areFriends : GoodIn wsX6_faultOf wsX4_areFriends := goodIn_r _ [62, 28, 18, 20, 19, 21, 22, 23, 24, 83, 84, 85, 86, 87, 88, 89, 75, 76, 77, 78, 79, 80, 81, 82] (by decide +kernel) (by decide +kernel)
set_option maxRecDepth 20000 in
theorem gX6_faultOf_X4_areFriends_n229 : GoodIn wsX6_faultOf (wsX4_areFriends) := ggX6_faultOf_X4_areFriends
theorem dX6_faultOf_0 : decode cX6_faultOf 0 = .ok (.getstatic 206, 3) := by decide +kernel
theorem dX6_faultOf_3 : decode cX6_faultOf 3 = .ok (.aload_n 1, 1) := by decide +kernel
theorem dX6_faultOf_4 : decode cX6_faultOf 4 = .ok (.invokevirtual 212, 3) := by decide +kernel
theorem dX6_faultOf_7 : decode cX6_faultOf 7 = .ok (.iaload, 1) := by decide +kernel
theorem dX6_faultOf_8 : decode cX6_faultOf 8 = .ok (.tableswitch 209 1 10 #[56, 70, 79, 93, 113, 127, 140, 155, 178, 193], 56) := by decide +kernel
theorem dX6_faultOf_64 : decode cX6_faultOf 64 = .ok (.aload_n 0, 1) := by decide +kernel
theorem dX6_faultOf_65 : decode cX6_faultOf 65 = .ok (.iload_n 2, 1) := by decide +kernel
theorem dX6_faultOf_66 : decode cX6_faultOf 66 = .ok (.iload_n 3, 1) := by decide +kernel
theorem dX6_faultOf_67 : decode cX6_faultOf 67 = .ok (.aload_n 0, 1) := by decide +kernel
theorem dX6_faultOf_68 : decode cX6_faultOf 68 = .ok (.getfield 10, 3) := by decide +kernel
theorem dX6_faultOf_71 : decode cX6_faultOf 71 = .ok (.getfield 185, 3) := by decide +kernel
theorem dX6_faultOf_74 : decode cX6_faultOf 74 = .ok (.invokevirtual 215, 3) := by decide +kernel
theorem dX6_faultOf_77 : decode cX6_faultOf 77 = .ok (.ireturn, 1) := by decide +kernel
theorem dX6_faultOf_78 : decode cX6_faultOf 78 = .ok (.aload_n 0, 1) := by decide +kernel
theorem dX6_faultOf_79 : decode cX6_faultOf 79 = .ok (.iload_n 2, 1) := by decide +kernel
theorem dX6_faultOf_80 : decode cX6_faultOf 80 = .ok (.iload_n 3, 1) := by decide +kernel
theorem dX6_faultOf_81 : decode cX6_faultOf 81 = .ok (.iload 4, 2) := by decide +kernel
theorem dX6_faultOf_83 : decode cX6_faultOf 83 = .ok (.invokevirtual 215, 3) := by decide +kernel
theorem dX6_faultOf_86 : decode cX6_faultOf 86 = .ok (.ireturn, 1) := by decide +kernel
theorem dX6_faultOf_87 : decode cX6_faultOf 87 = .ok (.aload_n 0, 1) := by decide +kernel
theorem dX6_faultOf_88 : decode cX6_faultOf 88 = .ok (.aload_n 0, 1) := by decide +kernel
theorem dX6_faultOf_89 : decode cX6_faultOf 89 = .ok (.getfield 10, 3) := by decide +kernel
theorem dX6_faultOf_92 : decode cX6_faultOf 92 = .ok (.iload_n 2, 1) := by decide +kernel
theorem dX6_faultOf_93 : decode cX6_faultOf 93 = .ok (.invokevirtual 89, 3) := by decide +kernel
theorem dX6_faultOf_96 : decode cX6_faultOf 96 = .ok (.iconst 1, 1) := by decide +kernel
theorem dX6_faultOf_97 : decode cX6_faultOf 97 = .ok (.invokevirtual 93, 3) := by decide +kernel
theorem dX6_faultOf_100 : decode cX6_faultOf 100 = .ok (.ireturn, 1) := by decide +kernel
theorem dX6_faultOf_101 : decode cX6_faultOf 101 = .ok (.aload_n 0, 1) := by decide +kernel
theorem dX6_faultOf_102 : decode cX6_faultOf 102 = .ok (.aload_n 0, 1) := by decide +kernel
theorem dX6_faultOf_103 : decode cX6_faultOf 103 = .ok (.getfield 10, 3) := by decide +kernel
theorem dX6_faultOf_106 : decode cX6_faultOf 106 = .ok (.iload_n 2, 1) := by decide +kernel
theorem dX6_faultOf_107 : decode cX6_faultOf 107 = .ok (.invokevirtual 89, 3) := by decide +kernel
theorem dX6_faultOf_110 : decode cX6_faultOf 110 = .ok (.iload_n 3, 1) := by decide +kernel
theorem dX6_faultOf_111 : decode cX6_faultOf 111 = .ok (.iconst 0, 1) := by decide +kernel
theorem dX6_faultOf_112 : decode cX6_faultOf 112 = .ok (.bipush 99, 2) := by decide +kernel
theorem dX6_faultOf_114 : decode cX6_faultOf 114 = .ok (.invokestatic 55, 3) := by decide +kernel
theorem dX6_faultOf_117 : decode cX6_faultOf 117 = .ok (.invokevirtual 93, 3) := by decide +kernel
theorem dX6_faultOf_120 : decode cX6_faultOf 120 = .ok (.ireturn, 1) := by decide +kernel
theorem dX6_faultOf_121 : decode cX6_faultOf 121 = .ok (.aload_n 0, 1) := by decide +kernel
theorem dX6_faultOf_122 : decode cX6_faultOf 122 = .ok (.aload_n 0, 1) := by decide +kernel
theorem dX6_faultOf_123 : decode cX6_faultOf 123 = .ok (.getfield 10, 3) := by decide +kernel
theorem dX6_faultOf_126 : decode cX6_faultOf 126 = .ok (.iload_n 2, 1) := by decide +kernel
theorem dX6_faultOf_127 : decode cX6_faultOf 127 = .ok (.invokevirtual 89, 3) := by decide +kernel
theorem dX6_faultOf_130 : decode cX6_faultOf 130 = .ok (.iload_n 3, 1) := by decide +kernel
theorem dX6_faultOf_131 : decode cX6_faultOf 131 = .ok (.invokevirtual 219, 3) := by decide +kernel
theorem dX6_faultOf_134 : decode cX6_faultOf 134 = .ok (.ireturn, 1) := by decide +kernel
theorem dX6_faultOf_135 : decode cX6_faultOf 135 = .ok (.aload_n 0, 1) := by decide +kernel
theorem dX6_faultOf_136 : decode cX6_faultOf 136 = .ok (.aload_n 0, 1) := by decide +kernel
theorem dX6_faultOf_137 : decode cX6_faultOf 137 = .ok (.getfield 10, 3) := by decide +kernel
theorem dX6_faultOf_140 : decode cX6_faultOf 140 = .ok (.iload_n 2, 1) := by decide +kernel
theorem dX6_faultOf_141 : decode cX6_faultOf 141 = .ok (.invokevirtual 89, 3) := by decide +kernel
theorem dX6_faultOf_144 : decode cX6_faultOf 144 = .ok (.invokevirtual 222, 3) := by decide +kernel
theorem dX6_faultOf_147 : decode cX6_faultOf 147 = .ok (.ireturn, 1) := by decide +kernel
theorem dX6_faultOf_148 : decode cX6_faultOf 148 = .ok (.aload_n 0, 1) := by decide +kernel
theorem dX6_faultOf_149 : decode cX6_faultOf 149 = .ok (.iload_n 2, 1) := by decide +kernel
theorem dX6_faultOf_150 : decode cX6_faultOf 150 = .ok (.aload_n 0, 1) := by decide +kernel
theorem dX6_faultOf_151 : decode cX6_faultOf 151 = .ok (.getfield 10, 3) := by decide +kernel
theorem dX6_faultOf_154 : decode cX6_faultOf 154 = .ok (.iload_n 2, 1) := by decide +kernel
theorem dX6_faultOf_155 : decode cX6_faultOf 155 = .ok (.invokevirtual 225, 3) := by decide +kernel
theorem dX6_faultOf_158 : decode cX6_faultOf 158 = .ok (.iconst 3, 1) := by decide +kernel
theorem dX6_faultOf_159 : decode cX6_faultOf 159 = .ok (.invokevirtual 110, 3) := by decide +kernel
theorem dX6_faultOf_162 : decode cX6_faultOf 162 = .ok (.ireturn, 1) := by decide +kernel
theorem dX6_faultOf_163 : decode cX6_faultOf 163 = .ok (.aload_n 0, 1) := by decide +kernel
theorem dX6_faultOf_164 : decode cX6_faultOf 164 = .ok (.iload_n 2, 1) := by decide +kernel
theorem dX6_faultOf_165 : decode cX6_faultOf 165 = .ok (.aload_n 0, 1) := by decide +kernel
theorem dX6_faultOf_166 : decode cX6_faultOf 166 = .ok (.getfield 10, 3) := by decide +kernel
theorem dX6_faultOf_169 : decode cX6_faultOf 169 = .ok (.iload_n 2, 1) := by decide +kernel
theorem dX6_faultOf_170 : decode cX6_faultOf 170 = .ok (.invokevirtual 229, 3) := by decide +kernel
theorem dX6_faultOf_173 : decode cX6_faultOf 173 = .ok (.ifCond .ne 7, 3) := by decide +kernel
theorem dX6_faultOf_176 : decode cX6_faultOf 176 = .ok (.iconst 1, 1) := by decide +kernel
theorem dX6_faultOf_177 : decode cX6_faultOf 177 = .ok (.goto 4, 3) := by decide +kernel
theorem dX6_faultOf_180 : decode cX6_faultOf 180 = .ok (.iconst 0, 1) := by decide +kernel
theorem dX6_faultOf_181 : decode cX6_faultOf 181 = .ok (.iconst 3, 1) := by decide +kernel
theorem dX6_faultOf_182 : decode cX6_faultOf 182 = .ok (.invokevirtual 110, 3) := by decide +kernel
theorem dX6_faultOf_185 : decode cX6_faultOf 185 = .ok (.ireturn, 1) := by decide +kernel
theorem dX6_faultOf_186 : decode cX6_faultOf 186 = .ok (.aload_n 0, 1) := by decide +kernel
theorem dX6_faultOf_187 : decode cX6_faultOf 187 = .ok (.iload_n 2, 1) := by decide +kernel
theorem dX6_faultOf_188 : decode cX6_faultOf 188 = .ok (.aload_n 0, 1) := by decide +kernel
theorem dX6_faultOf_189 : decode cX6_faultOf 189 = .ok (.getfield 10, 3) := by decide +kernel
theorem dX6_faultOf_192 : decode cX6_faultOf 192 = .ok (.iload_n 2, 1) := by decide +kernel
theorem dX6_faultOf_193 : decode cX6_faultOf 193 = .ok (.invokevirtual 229, 3) := by decide +kernel
theorem dX6_faultOf_196 : decode cX6_faultOf 196 = .ok (.iconst 3, 1) := by decide +kernel
theorem dX6_faultOf_197 : decode cX6_faultOf 197 = .ok (.invokevirtual 110, 3) := by decide +kernel
theorem dX6_faultOf_200 : decode cX6_faultOf 200 = .ok (.ireturn, 1) := by decide +kernel
theorem dX6_faultOf_201 : decode cX6_faultOf 201 = .ok (.aload_n 0, 1) := by decide +kernel
theorem dX6_faultOf_202 : decode cX6_faultOf 202 = .ok (.getfield 10, 3) := by decide +kernel
theorem dX6_faultOf_205 : decode cX6_faultOf 205 = .ok (.getfield 185, 3) := by decide +kernel
theorem dX6_faultOf_208 : decode cX6_faultOf 208 = .ok (.ifCond .le 7, 3) := by decide +kernel
theorem dX6_faultOf_211 : decode cX6_faultOf 211 = .ok (.iconst 0, 1) := by decide +kernel
theorem dX6_faultOf_212 : decode cX6_faultOf 212 = .ok (.goto 4, 3) := by decide +kernel
theorem dX6_faultOf_215 : decode cX6_faultOf 215 = .ok (.iconst 3, 1) := by decide +kernel
theorem dX6_faultOf_216 : decode cX6_faultOf 216 = .ok (.ireturn, 1) := by decide +kernel
theorem dX6_faultOf_217 : decode cX6_faultOf 217 = .ok (.iconst 0, 1) := by decide +kernel
theorem dX6_faultOf_218 : decode cX6_faultOf 218 = .ok (.ireturn, 1) := by decide +kernel
set_option maxRecDepth 20000 in
theorem ggX6_carryOut_Jx29ce0_ordinal_8abf5 : GoodIn wsX6_carryOut wsJx29ce0_ordinal_8abf5 := goodIn_r _ [8, 9] (by decide +kernel) (by decide +kernel)
set_option maxRecDepth 20000 in
theorem gX6_carryOut_Jx29ce0_ordinal_8abf5_u212X1 : GoodIn wsX6_carryOut (va_wsU RX6 212 RX1 "java/lang/Enum" ⟨"ConsentQueue$Command", "ordinal", "()I"⟩ yJx29ce0_ordinal_8abf5 wsJx29ce0_ordinal_8abf5) := goodIn_app (goodIn_of _ (by decide +kernel)) ggX6_carryOut_Jx29ce0_ordinal_8abf5
set_option maxRecDepth 20000 in
theorem ggX6_carryOut_X4_insert : GoodIn wsX6_carryOut wsX4_insert := goodIn_r _ [13, 14, 15, 16, 17, 18, 19, 20, 21, 22, 23, 24, 25, 26, 27, 28, 29, 30, 31, 32, 33, 34, 11, 35, 36, 106, 107, 108, 109, 110, 111, 112, 113, 114, 115, 116, 117, 118, 119, 120] (by decide +kernel) (by decide +kernel)
set_option maxRecDepth 20000 in
theorem gX6_carryOut_X4_insert_n232 : GoodIn wsX6_carryOut (wsX4_insert) := ggX6_carryOut_X4_insert
set_option maxRecDepth 20000 in
theorem ggX6_carryOut_X4_removeMember : GoodIn wsX6_carryOut wsX4_removeMember := goodIn_r _ [39, 40, 41, 42, 11, 43, 14, 32, 33, 34, 35, 15, 36, 44, 45, 46, 47, 27, 18, 28, 29, 30, 31, 106, 107, 108, 109, 110, 111, 112, 113, 114, 115, 116, 117, 118, 119, 120] (by decide +kernel) (by decide +kernel)
set_option maxRecDepth 20000 in
theorem gX6_carryOut_X4_removeMember_n235 : GoodIn wsX6_carryOut (wsX4_removeMember) := ggX6_carryOut_X4_removeMember
set_option maxRecDepth 20000 in
theorem ggX6_carryOut_X4_placeOf : GoodIn wsX6_carryOut wsX4_placeOf := goodIn_r _ [43, 14, 32, 33, 34, 11, 35, 15, 36, 106, 107, 108, 109, 110, 111, 112, 113, 114, 115, 116, 117, 118, 119, 120] (by decide +kernel) (by decide +kernel)
set_option maxRecDepth 20000 in
theorem gX6_carryOut_X4_placeOf_n89 : GoodIn wsX6_carryOut (wsX4_placeOf) := ggX6_carryOut_X4_placeOf
set_option maxRecDepth 20000 in
theorem ggX6_carryOut_X4_tell : GoodIn wsX6_carryOut wsX4_tell := goodIn_r _ [50, 32, 33, 34, 11, 35, 14, 15, 36, 114, 115, 116, 117, 118, 119, 120, 106, 107, 108, 109, 110, 111, 112, 113] (by decide +kernel) (by decide +kernel)
set_option maxRecDepth 20000 in
theorem gX6_carryOut_X4_tell_n238 : GoodIn wsX6_carryOut (wsX4_tell) := ggX6_carryOut_X4_tell
set_option maxRecDepth 20000 in
theorem ggX6_carryOut_X4_makeOffer : GoodIn wsX6_carryOut wsX4_makeOffer := goodIn_r _ [53, 32, 33, 34, 11, 35, 14, 15, 36, 114, 115, 116, 117, 118, 119, 120, 106, 107, 108, 109, 110, 111, 112, 113] (by decide +kernel) (by decide +kernel)
set_option maxRecDepth 20000 in
theorem gX6_carryOut_X4_makeOffer_n241 : GoodIn wsX6_carryOut (wsX4_makeOffer) := ggX6_carryOut_X4_makeOffer
set_option maxRecDepth 20000 in
theorem ggX6_carryOut_X4_swapAsOffered : GoodIn wsX6_carryOut wsX4_swapAsOffered := goodIn_r _ [56, 32, 33, 34, 11, 35, 14, 15, 36, 57, 58, 59, 60, 61, 62, 27, 18, 28, 29, 30, 31, 114, 115, 116, 117, 118, 119, 120, 106, 107, 108, 109, 110, 111, 112, 113] (by decide +kernel) (by decide +kernel)
set_option maxRecDepth 20000 in
theorem gX6_carryOut_X4_swapAsOffered_n244 : GoodIn wsX6_carryOut (wsX4_swapAsOffered) := ggX6_carryOut_X4_swapAsOffered
set_option maxRecDepth 20000 in
theorem ggX6_carryOut_X4_swapFairly : GoodIn wsX6_carryOut wsX4_swapFairly := goodIn_r _ [65, 66, 67, 68, 11, 69, 70, 32, 33, 34, 35, 14, 15, 36, 57, 58, 59, 60, 61, 62, 27, 18, 28, 29, 30, 31, 114, 115, 116, 117, 118, 119, 120, 106, 107, 108, 109, 110, 111, 112, 113] (by decide +kernel) (by decide +kernel)
set_option maxRecDepth 20000 in
theorem gX6_carryOut_X4_swapFairly_n247 : GoodIn wsX6_carryOut (wsX4_swapFairly) := ggX6_carryOut_X4_swapFairly
set_option maxRecDepth 20000 in
theorem ggX6_carryOut_X4_setFriends : GoodIn wsX6_carryOut wsX4_setFriends := goodIn_r _ [73, 32, 33, 34, 11, 35, 14, 15, 36, 74, 75, 76, 77, 78, 79, 80, 81, 114, 115, 116, 117, 118, 119, 120, 106, 107, 108, 109, 110, 111, 112, 113] (by decide +kernel) (by decide +kernel)
set_option maxRecDepth 20000 in
theorem gX6_carryOut_X4_setFriends_n250 : GoodIn wsX6_carryOut (wsX4_setFriends) := ggX6_carryOut_X4_setFriends
set_option maxRecDepth 20000 in
theorem ggX6_carryOut_X4_serveFirst : GoodIn wsX6_carryOut wsX4_serveFirst := goodIn_r _ [84, 85, 32, 33, 34, 11, 35, 14, 15, 36, 44, 45, 46, 47, 27, 18, 28, 29, 30, 31, 114, 115, 116, 117, 118, 119, 120, 106, 107, 108, 109, 110, 111, 112, 113] (by decide +kernel) (by decide +kernel)
set_option maxRecDepth 20000 in
theorem gX6_carryOut_X4_serveFirst_n253 : GoodIn wsX6_carryOut (wsX4_serveFirst) := ggX6_carryOut_X4_serveFirst
set_option maxRecDepth 20000 in
theorem ggX6_carryOut_X4_settleDown : GoodIn wsX6_carryOut wsX4_settleDown := goodIn_r _ [88, 89, 90, 91, 11, 92, 14, 93, 94, 95, 96, 32, 33, 34, 35, 15, 36, 97, 98, 99, 100, 101, 63, 64, 65, 66, 67, 68, 69, 70, 57, 58, 59, 60, 61, 62, 27, 18, 28, 29, 30, 31, 106, 107, 108, 109, 110, 111, 112, 113, 114, 115, 116, 117, 118, 119, 120] (by decide +kernel) (by decide +kernel)
set_option maxRecDepth 20000 in
theorem gX6_carryOut_X4_settleDown_n126 : GoodIn wsX6_carryOut (wsX4_settleDown) := ggX6_carryOut_X4_settleDown
theorem dX6_carryOut_0 : decode cX6_carryOut 0 = .ok (.getstatic 206, 3) := by decide +kernel
theorem dX6_carryOut_3 : decode cX6_carryOut 3 = .ok (.aload_n 1, 1) := by decide +kernel
theorem dX6_carryOut_4 : decode cX6_carryOut 4 = .ok (.invokevirtual 212, 3) := by decide +kernel
theorem dX6_carryOut_7 : decode cX6_carryOut 7 = .ok (.iaload, 1) := by decide +kernel
theorem dX6_carryOut_8 : decode cX6_carryOut 8 = .ok (.tableswitch 181 1 10 #[56, 73, 85, 94, 111, 128, 144, 153, 163, 173], 56) := by decide +kernel
theorem dX6_carryOut_64 : decode cX6_carryOut 64 = .ok (.aload_n 0, 1) := by decide +kernel
theorem dX6_carryOut_65 : decode cX6_carryOut 65 = .ok (.getfield 10, 3) := by decide +kernel
theorem dX6_carryOut_68 : decode cX6_carryOut 68 = .ok (.iload_n 2, 1) := by decide +kernel
theorem dX6_carryOut_69 : decode cX6_carryOut 69 = .ok (.iload_n 3, 1) := by decide +kernel
theorem dX6_carryOut_70 : decode cX6_carryOut 70 = .ok (.aload_n 0, 1) := by decide +kernel
theorem dX6_carryOut_71 : decode cX6_carryOut 71 = .ok (.getfield 10, 3) := by decide +kernel
theorem dX6_carryOut_74 : decode cX6_carryOut 74 = .ok (.getfield 185, 3) := by decide +kernel
theorem dX6_carryOut_77 : decode cX6_carryOut 77 = .ok (.invokevirtual 232, 3) := by decide +kernel
theorem dX6_carryOut_80 : decode cX6_carryOut 80 = .ok (.ireturn, 1) := by decide +kernel
theorem dX6_carryOut_81 : decode cX6_carryOut 81 = .ok (.aload_n 0, 1) := by decide +kernel
theorem dX6_carryOut_82 : decode cX6_carryOut 82 = .ok (.getfield 10, 3) := by decide +kernel
theorem dX6_carryOut_85 : decode cX6_carryOut 85 = .ok (.iload_n 2, 1) := by decide +kernel
theorem dX6_carryOut_86 : decode cX6_carryOut 86 = .ok (.iload_n 3, 1) := by decide +kernel
theorem dX6_carryOut_87 : decode cX6_carryOut 87 = .ok (.iload 4, 2) := by decide +kernel
theorem dX6_carryOut_89 : decode cX6_carryOut 89 = .ok (.invokevirtual 232, 3) := by decide +kernel
theorem dX6_carryOut_92 : decode cX6_carryOut 92 = .ok (.ireturn, 1) := by decide +kernel
theorem dX6_carryOut_93 : decode cX6_carryOut 93 = .ok (.aload_n 0, 1) := by decide +kernel
theorem dX6_carryOut_94 : decode cX6_carryOut 94 = .ok (.getfield 10, 3) := by decide +kernel
theorem dX6_carryOut_97 : decode cX6_carryOut 97 = .ok (.iload_n 2, 1) := by decide +kernel
theorem dX6_carryOut_98 : decode cX6_carryOut 98 = .ok (.invokevirtual 235, 3) := by decide +kernel
theorem dX6_carryOut_101 : decode cX6_carryOut 101 = .ok (.ireturn, 1) := by decide +kernel
theorem dX6_carryOut_102 : decode cX6_carryOut 102 = .ok (.aload_n 0, 1) := by decide +kernel
theorem dX6_carryOut_103 : decode cX6_carryOut 103 = .ok (.getfield 10, 3) := by decide +kernel
theorem dX6_carryOut_106 : decode cX6_carryOut 106 = .ok (.aload_n 0, 1) := by decide +kernel
theorem dX6_carryOut_107 : decode cX6_carryOut 107 = .ok (.getfield 10, 3) := by decide +kernel
theorem dX6_carryOut_110 : decode cX6_carryOut 110 = .ok (.iload_n 2, 1) := by decide +kernel
theorem dX6_carryOut_111 : decode cX6_carryOut 111 = .ok (.invokevirtual 89, 3) := by decide +kernel
theorem dX6_carryOut_114 : decode cX6_carryOut 114 = .ok (.iload_n 3, 1) := by decide +kernel
theorem dX6_carryOut_115 : decode cX6_carryOut 115 = .ok (.invokevirtual 238, 3) := by decide +kernel
theorem dX6_carryOut_118 : decode cX6_carryOut 118 = .ok (.ireturn, 1) := by decide +kernel
theorem dX6_carryOut_119 : decode cX6_carryOut 119 = .ok (.aload_n 0, 1) := by decide +kernel
theorem dX6_carryOut_120 : decode cX6_carryOut 120 = .ok (.getfield 10, 3) := by decide +kernel
theorem dX6_carryOut_123 : decode cX6_carryOut 123 = .ok (.aload_n 0, 1) := by decide +kernel
theorem dX6_carryOut_124 : decode cX6_carryOut 124 = .ok (.getfield 10, 3) := by decide +kernel
theorem dX6_carryOut_127 : decode cX6_carryOut 127 = .ok (.iload_n 2, 1) := by decide +kernel
theorem dX6_carryOut_128 : decode cX6_carryOut 128 = .ok (.invokevirtual 89, 3) := by decide +kernel
theorem dX6_carryOut_131 : decode cX6_carryOut 131 = .ok (.iload_n 3, 1) := by decide +kernel
theorem dX6_carryOut_132 : decode cX6_carryOut 132 = .ok (.invokevirtual 241, 3) := by decide +kernel
theorem dX6_carryOut_135 : decode cX6_carryOut 135 = .ok (.ireturn, 1) := by decide +kernel
theorem dX6_carryOut_136 : decode cX6_carryOut 136 = .ok (.aload_n 0, 1) := by decide +kernel
theorem dX6_carryOut_137 : decode cX6_carryOut 137 = .ok (.getfield 10, 3) := by decide +kernel
theorem dX6_carryOut_140 : decode cX6_carryOut 140 = .ok (.aload_n 0, 1) := by decide +kernel
theorem dX6_carryOut_141 : decode cX6_carryOut 141 = .ok (.getfield 10, 3) := by decide +kernel
theorem dX6_carryOut_144 : decode cX6_carryOut 144 = .ok (.iload_n 2, 1) := by decide +kernel
theorem dX6_carryOut_145 : decode cX6_carryOut 145 = .ok (.invokevirtual 89, 3) := by decide +kernel
theorem dX6_carryOut_148 : decode cX6_carryOut 148 = .ok (.invokevirtual 244, 3) := by decide +kernel
theorem dX6_carryOut_151 : decode cX6_carryOut 151 = .ok (.ireturn, 1) := by decide +kernel
theorem dX6_carryOut_152 : decode cX6_carryOut 152 = .ok (.aload_n 0, 1) := by decide +kernel
theorem dX6_carryOut_153 : decode cX6_carryOut 153 = .ok (.getfield 10, 3) := by decide +kernel
theorem dX6_carryOut_156 : decode cX6_carryOut 156 = .ok (.iload_n 2, 1) := by decide +kernel
theorem dX6_carryOut_157 : decode cX6_carryOut 157 = .ok (.invokevirtual 247, 3) := by decide +kernel
theorem dX6_carryOut_160 : decode cX6_carryOut 160 = .ok (.ireturn, 1) := by decide +kernel
theorem dX6_carryOut_161 : decode cX6_carryOut 161 = .ok (.aload_n 0, 1) := by decide +kernel
theorem dX6_carryOut_162 : decode cX6_carryOut 162 = .ok (.getfield 10, 3) := by decide +kernel
theorem dX6_carryOut_165 : decode cX6_carryOut 165 = .ok (.iload_n 2, 1) := by decide +kernel
theorem dX6_carryOut_166 : decode cX6_carryOut 166 = .ok (.iconst 1, 1) := by decide +kernel
theorem dX6_carryOut_167 : decode cX6_carryOut 167 = .ok (.invokevirtual 250, 3) := by decide +kernel
theorem dX6_carryOut_170 : decode cX6_carryOut 170 = .ok (.ireturn, 1) := by decide +kernel
theorem dX6_carryOut_171 : decode cX6_carryOut 171 = .ok (.aload_n 0, 1) := by decide +kernel
theorem dX6_carryOut_172 : decode cX6_carryOut 172 = .ok (.getfield 10, 3) := by decide +kernel
theorem dX6_carryOut_175 : decode cX6_carryOut 175 = .ok (.iload_n 2, 1) := by decide +kernel
theorem dX6_carryOut_176 : decode cX6_carryOut 176 = .ok (.iconst 0, 1) := by decide +kernel
theorem dX6_carryOut_177 : decode cX6_carryOut 177 = .ok (.invokevirtual 250, 3) := by decide +kernel
theorem dX6_carryOut_180 : decode cX6_carryOut 180 = .ok (.ireturn, 1) := by decide +kernel
theorem dX6_carryOut_181 : decode cX6_carryOut 181 = .ok (.aload_n 0, 1) := by decide +kernel
theorem dX6_carryOut_182 : decode cX6_carryOut 182 = .ok (.getfield 10, 3) := by decide +kernel
theorem dX6_carryOut_185 : decode cX6_carryOut 185 = .ok (.invokevirtual 253, 3) := by decide +kernel
theorem dX6_carryOut_188 : decode cX6_carryOut 188 = .ok (.ireturn, 1) := by decide +kernel
theorem dX6_carryOut_189 : decode cX6_carryOut 189 = .ok (.aload_n 0, 1) := by decide +kernel
theorem dX6_carryOut_190 : decode cX6_carryOut 190 = .ok (.getfield 10, 3) := by decide +kernel
theorem dX6_carryOut_193 : decode cX6_carryOut 193 = .ok (.invokevirtual 126, 3) := by decide +kernel
theorem dX6_carryOut_196 : decode cX6_carryOut 196 = .ok (.ireturn, 1) := by decide +kernel
set_option maxRecDepth 20000 in
theorem ggX6_joinFault_X6_isWithin : GoodIn wsX6_joinFault wsX6_isWithin := goodIn_r _ [5] (by decide +kernel) (by decide +kernel)
set_option maxRecDepth 20000 in
theorem gX6_joinFault_X6_isWithin : GoodIn wsX6_joinFault (va_wsS RX6 55 yX6_isWithin wsX6_isWithin) := goodIn_app (goodIn_of _ (by decide +kernel)) ggX6_joinFault_X6_isWithin
set_option maxRecDepth 20000 in
theorem ggX6_joinFault_X4_memberAt : GoodIn wsX6_joinFault wsX4_memberAt := goodIn_r _ [9, 10, 11, 12, 17, 18, 19, 20, 21, 22, 23, 24] (by decide +kernel) (by decide +kernel)
set_option maxRecDepth 20000 in
theorem gX6_joinFault_X4_memberAt_n101 : GoodIn wsX6_joinFault (wsX4_memberAt) := ggX6_joinFault_X4_memberAt
theorem dX6_joinFault_0 : decode cX6_joinFault 0 = .ok (.iload_n 1, 1) := by decide +kernel
theorem dX6_joinFault_1 : decode cX6_joinFault 1 = .ok (.iconst 0, 1) := by decide +kernel
theorem dX6_joinFault_2 : decode cX6_joinFault 2 = .ok (.bipush 99, 2) := by decide +kernel
theorem dX6_joinFault_4 : decode cX6_joinFault 4 = .ok (.invokestatic 55, 3) := by decide +kernel
theorem dX6_joinFault_7 : decode cX6_joinFault 7 = .ok (.ifCond .eq 28, 3) := by decide +kernel
theorem dX6_joinFault_10 : decode cX6_joinFault 10 = .ok (.iload_n 2, 1) := by decide +kernel
theorem dX6_joinFault_11 : decode cX6_joinFault 11 = .ok (.iconst 1, 1) := by decide +kernel
theorem dX6_joinFault_12 : decode cX6_joinFault 12 = .ok (.bipush 30, 2) := by decide +kernel
theorem dX6_joinFault_14 : decode cX6_joinFault 14 = .ok (.invokestatic 55, 3) := by decide +kernel
theorem dX6_joinFault_17 : decode cX6_joinFault 17 = .ok (.ifCond .eq 18, 3) := by decide +kernel
theorem dX6_joinFault_20 : decode cX6_joinFault 20 = .ok (.iload_n 3, 1) := by decide +kernel
theorem dX6_joinFault_21 : decode cX6_joinFault 21 = .ok (.iconst 0, 1) := by decide +kernel
theorem dX6_joinFault_22 : decode cX6_joinFault 22 = .ok (.aload_n 0, 1) := by decide +kernel
theorem dX6_joinFault_23 : decode cX6_joinFault 23 = .ok (.getfield 10, 3) := by decide +kernel
theorem dX6_joinFault_26 : decode cX6_joinFault 26 = .ok (.getfield 185, 3) := by decide +kernel
theorem dX6_joinFault_29 : decode cX6_joinFault 29 = .ok (.invokestatic 55, 3) := by decide +kernel
theorem dX6_joinFault_32 : decode cX6_joinFault 32 = .ok (.ifCond .ne 5, 3) := by decide +kernel
theorem dX6_joinFault_35 : decode cX6_joinFault 35 = .ok (.iconst 2, 1) := by decide +kernel
theorem dX6_joinFault_36 : decode cX6_joinFault 36 = .ok (.ireturn, 1) := by decide +kernel
theorem dX6_joinFault_37 : decode cX6_joinFault 37 = .ok (.aload_n 0, 1) := by decide +kernel
theorem dX6_joinFault_38 : decode cX6_joinFault 38 = .ok (.getfield 10, 3) := by decide +kernel
theorem dX6_joinFault_41 : decode cX6_joinFault 41 = .ok (.iload_n 3, 1) := by decide +kernel
theorem dX6_joinFault_42 : decode cX6_joinFault 42 = .ok (.invokevirtual 101, 3) := by decide +kernel
theorem dX6_joinFault_45 : decode cX6_joinFault 45 = .ok (.getfield 256, 3) := by decide +kernel
theorem dX6_joinFault_48 : decode cX6_joinFault 48 = .ok (.istore 4, 2) := by decide +kernel
theorem dX6_joinFault_50 : decode cX6_joinFault 50 = .ok (.aload_n 0, 1) := by decide +kernel
theorem dX6_joinFault_51 : decode cX6_joinFault 51 = .ok (.getfield 10, 3) := by decide +kernel
theorem dX6_joinFault_54 : decode cX6_joinFault 54 = .ok (.getfield 185, 3) := by decide +kernel
theorem dX6_joinFault_57 : decode cX6_joinFault 57 = .ok (.bipush 10, 2) := by decide +kernel
theorem dX6_joinFault_59 : decode cX6_joinFault 59 = .ok (.if_icmp .ge 8, 3) := by decide +kernel
theorem dX6_joinFault_62 : decode cX6_joinFault 62 = .ok (.iload 4, 2) := by decide +kernel
theorem dX6_joinFault_64 : decode cX6_joinFault 64 = .ok (.ifCond .eq 7, 3) := by decide +kernel
theorem dX6_joinFault_67 : decode cX6_joinFault 67 = .ok (.iconst 3, 1) := by decide +kernel
theorem dX6_joinFault_68 : decode cX6_joinFault 68 = .ok (.goto 4, 3) := by decide +kernel
theorem dX6_joinFault_71 : decode cX6_joinFault 71 = .ok (.iconst 0, 1) := by decide +kernel
theorem dX6_joinFault_72 : decode cX6_joinFault 72 = .ok (.ireturn, 1) := by decide +kernel
set_option maxRecDepth 20000 in
theorem ggX6_offerFault_X6_isWithin : GoodIn wsX6_offerFault wsX6_isWithin := goodIn_r _ [4] (by decide +kernel) (by decide +kernel)
set_option maxRecDepth 20000 in
theorem gX6_offerFault_X6_isWithin : GoodIn wsX6_offerFault (va_wsS RX6 55 yX6_isWithin wsX6_isWithin) := goodIn_app (goodIn_of _ (by decide +kernel)) ggX6_offerFault_X6_isWithin
set_option maxRecDepth 20000 in
theorem ggX6_offerFault_X6_memberFault : GoodIn wsX6_offerFault wsX6_memberFault := goodIn_r _ [8] (by decide +kernel) (by decide +kernel)
set_option maxRecDepth 20000 in
theorem gX6_offerFault_X6_memberFault : GoodIn wsX6_offerFault (wsV RX6 93 RX6 yX6_memberFault wsX6_memberFault) := goodIn_app (goodIn_of _ (by decide +kernel)) ggX6_offerFault_X6_memberFault
theorem dX6_offerFault_0 : decode cX6_offerFault 0 = .ok (.aload_n 0, 1) := by decide +kernel
theorem dX6_offerFault_1 : decode cX6_offerFault 1 = .ok (.iload_n 1, 1) := by decide +kernel
theorem dX6_offerFault_2 : decode cX6_offerFault 2 = .ok (.iload_n 2, 1) := by decide +kernel
theorem dX6_offerFault_3 : decode cX6_offerFault 3 = .ok (.iconst 0, 1) := by decide +kernel
theorem dX6_offerFault_4 : decode cX6_offerFault 4 = .ok (.sipush 9999, 3) := by decide +kernel
theorem dX6_offerFault_7 : decode cX6_offerFault 7 = .ok (.invokestatic 55, 3) := by decide +kernel
theorem dX6_offerFault_10 : decode cX6_offerFault 10 = .ok (.invokevirtual 93, 3) := by decide +kernel
theorem dX6_offerFault_13 : decode cX6_offerFault 13 = .ok (.istore_n 3, 1) := by decide +kernel
theorem dX6_offerFault_14 : decode cX6_offerFault 14 = .ok (.iload_n 3, 1) := by decide +kernel
theorem dX6_offerFault_15 : decode cX6_offerFault 15 = .ok (.ifCond .ne 11, 3) := by decide +kernel
theorem dX6_offerFault_18 : decode cX6_offerFault 18 = .ok (.iload_n 1, 1) := by decide +kernel
theorem dX6_offerFault_19 : decode cX6_offerFault 19 = .ok (.ifCond .ne 7, 3) := by decide +kernel
theorem dX6_offerFault_22 : decode cX6_offerFault 22 = .ok (.iconst 3, 1) := by decide +kernel
theorem dX6_offerFault_23 : decode cX6_offerFault 23 = .ok (.goto 4, 3) := by decide +kernel
theorem dX6_offerFault_26 : decode cX6_offerFault 26 = .ok (.iload_n 3, 1) := by decide +kernel
theorem dX6_offerFault_27 : decode cX6_offerFault 27 = .ok (.ireturn, 1) := by decide +kernel
set_option maxRecDepth 20000 in
theorem ggX6_takeFault_X6_memberFault : GoodIn wsX6_takeFault wsX6_memberFault := goodIn_r _ [6] (by decide +kernel) (by decide +kernel)
set_option maxRecDepth 20000 in
theorem gX6_takeFault_X6_memberFault : GoodIn wsX6_takeFault (wsV RX6 93 RX6 yX6_memberFault wsX6_memberFault) := goodIn_app (goodIn_of _ (by decide +kernel)) ggX6_takeFault_X6_memberFault
set_option maxRecDepth 20000 in
theorem ggX6_takeFault_X4_wouldTake : GoodIn wsX6_takeFault wsX4_wouldTake := goodIn_r _ [10, 11, 12, 13, 8, 14, 15, 16, 17, 18, 19, 20, 21, 22, 23, 24, 25, 30, 31, 32, 33, 34, 35, 36, 37, 38, 39, 40, 41, 42, 43, 44] (by decide +kernel) (by decide +kernel)
set_option maxRecDepth 20000 in
theorem gX6_takeFault_X4_wouldTake_n260 : GoodIn wsX6_takeFault (wsX4_wouldTake) := ggX6_takeFault_X4_wouldTake
theorem dX6_takeFault_0 : decode cX6_takeFault 0 = .ok (.aload_n 0, 1) := by decide +kernel
theorem dX6_takeFault_1 : decode cX6_takeFault 1 = .ok (.iload_n 1, 1) := by decide +kernel
theorem dX6_takeFault_2 : decode cX6_takeFault 2 = .ok (.iconst 1, 1) := by decide +kernel
theorem dX6_takeFault_3 : decode cX6_takeFault 3 = .ok (.invokevirtual 93, 3) := by decide +kernel
theorem dX6_takeFault_6 : decode cX6_takeFault 6 = .ok (.istore_n 2, 1) := by decide +kernel
theorem dX6_takeFault_7 : decode cX6_takeFault 7 = .ok (.iload_n 2, 1) := by decide +kernel
theorem dX6_takeFault_8 : decode cX6_takeFault 8 = .ok (.ifCond .ne 18, 3) := by decide +kernel
theorem dX6_takeFault_11 : decode cX6_takeFault 11 = .ok (.aload_n 0, 1) := by decide +kernel
theorem dX6_takeFault_12 : decode cX6_takeFault 12 = .ok (.getfield 10, 3) := by decide +kernel
theorem dX6_takeFault_15 : decode cX6_takeFault 15 = .ok (.iload_n 1, 1) := by decide +kernel
theorem dX6_takeFault_16 : decode cX6_takeFault 16 = .ok (.invokevirtual 260, 3) := by decide +kernel
theorem dX6_takeFault_19 : decode cX6_takeFault 19 = .ok (.ifCond .ne 7, 3) := by decide +kernel
theorem dX6_takeFault_22 : decode cX6_takeFault 22 = .ok (.iconst 3, 1) := by decide +kernel
theorem dX6_takeFault_23 : decode cX6_takeFault 23 = .ok (.goto 4, 3) := by decide +kernel
theorem dX6_takeFault_26 : decode cX6_takeFault 26 = .ok (.iload_n 2, 1) := by decide +kernel
theorem dX6_takeFault_27 : decode cX6_takeFault 27 = .ok (.ireturn, 1) := by decide +kernel
theorem dX6_memberFault_0 : decode cX6_memberFault 0 = .ok (.iload_n 1, 1) := by decide +kernel
theorem dX6_memberFault_1 : decode cX6_memberFault 1 = .ok (.iconst (-1), 1) := by decide +kernel
theorem dX6_memberFault_2 : decode cX6_memberFault 2 = .ok (.if_icmp .ne 5, 3) := by decide +kernel
theorem dX6_memberFault_5 : decode cX6_memberFault 5 = .ok (.iconst 1, 1) := by decide +kernel
theorem dX6_memberFault_6 : decode cX6_memberFault 6 = .ok (.ireturn, 1) := by decide +kernel
theorem dX6_memberFault_7 : decode cX6_memberFault 7 = .ok (.iload_n 2, 1) := by decide +kernel
theorem dX6_memberFault_8 : decode cX6_memberFault 8 = .ok (.ifCond .eq 7, 3) := by decide +kernel
theorem dX6_memberFault_11 : decode cX6_memberFault 11 = .ok (.iconst 0, 1) := by decide +kernel
theorem dX6_memberFault_12 : decode cX6_memberFault 12 = .ok (.goto 4, 3) := by decide +kernel
theorem dX6_memberFault_15 : decode cX6_memberFault 15 = .ok (.iconst 2, 1) := by decide +kernel
theorem dX6_memberFault_16 : decode cX6_memberFault 16 = .ok (.ireturn, 1) := by decide +kernel
set_option maxRecDepth 20000 in
theorem ggX6_pairFault_X6_isWithin : GoodIn wsX6_pairFault wsX6_isWithin := goodIn_r _ [5] (by decide +kernel) (by decide +kernel)
set_option maxRecDepth 20000 in
theorem gX6_pairFault_X6_isWithin : GoodIn wsX6_pairFault (va_wsS RX6 55 yX6_isWithin wsX6_isWithin) := goodIn_app (goodIn_of _ (by decide +kernel)) ggX6_pairFault_X6_isWithin
theorem dX6_pairFault_0 : decode cX6_pairFault 0 = .ok (.iload_n 1, 1) := by decide +kernel
theorem dX6_pairFault_1 : decode cX6_pairFault 1 = .ok (.iconst 0, 1) := by decide +kernel
theorem dX6_pairFault_2 : decode cX6_pairFault 2 = .ok (.aload_n 0, 1) := by decide +kernel
theorem dX6_pairFault_3 : decode cX6_pairFault 3 = .ok (.getfield 10, 3) := by decide +kernel
theorem dX6_pairFault_6 : decode cX6_pairFault 6 = .ok (.getfield 185, 3) := by decide +kernel
theorem dX6_pairFault_9 : decode cX6_pairFault 9 = .ok (.iconst 2, 1) := by decide +kernel
theorem dX6_pairFault_10 : decode cX6_pairFault 10 = .ok (.isub, 1) := by decide +kernel
theorem dX6_pairFault_11 : decode cX6_pairFault 11 = .ok (.invokestatic 55, 3) := by decide +kernel
theorem dX6_pairFault_14 : decode cX6_pairFault 14 = .ok (.ifCond .ne 5, 3) := by decide +kernel
theorem dX6_pairFault_17 : decode cX6_pairFault 17 = .ok (.iconst 1, 1) := by decide +kernel
theorem dX6_pairFault_18 : decode cX6_pairFault 18 = .ok (.ireturn, 1) := by decide +kernel
theorem dX6_pairFault_19 : decode cX6_pairFault 19 = .ok (.iload_n 2, 1) := by decide +kernel
theorem dX6_pairFault_20 : decode cX6_pairFault 20 = .ok (.ifCond .eq 7, 3) := by decide +kernel
theorem dX6_pairFault_23 : decode cX6_pairFault 23 = .ok (.iconst 0, 1) := by decide +kernel
theorem dX6_pairFault_24 : decode cX6_pairFault 24 = .ok (.goto 4, 3) := by decide +kernel
theorem dX6_pairFault_27 : decode cX6_pairFault 27 = .ok (.iload_n 3, 1) := by decide +kernel
theorem dX6_pairFault_28 : decode cX6_pairFault 28 = .ok (.ireturn, 1) := by decide +kernel
theorem dX6_isWithin_0 : decode cX6_isWithin 0 = .ok (.iload_n 0, 1) := by decide +kernel
theorem dX6_isWithin_1 : decode cX6_isWithin 1 = .ok (.iload_n 1, 1) := by decide +kernel
theorem dX6_isWithin_2 : decode cX6_isWithin 2 = .ok (.if_icmp .lt 12, 3) := by decide +kernel
theorem dX6_isWithin_5 : decode cX6_isWithin 5 = .ok (.iload_n 0, 1) := by decide +kernel
theorem dX6_isWithin_6 : decode cX6_isWithin 6 = .ok (.iload_n 2, 1) := by decide +kernel
theorem dX6_isWithin_7 : decode cX6_isWithin 7 = .ok (.if_icmp .gt 7, 3) := by decide +kernel
theorem dX6_isWithin_10 : decode cX6_isWithin 10 = .ok (.iconst 1, 1) := by decide +kernel
theorem dX6_isWithin_11 : decode cX6_isWithin 11 = .ok (.goto 4, 3) := by decide +kernel
theorem dX6_isWithin_14 : decode cX6_isWithin 14 = .ok (.iconst 0, 1) := by decide +kernel
theorem dX6_isWithin_15 : decode cX6_isWithin 15 = .ok (.ireturn, 1) := by decide +kernel
theorem dX6_refuse_0 : decode cX6_refuse 0 = .ok (.iload_n 0, 1) := by decide +kernel
theorem dX6_refuse_1 : decode cX6_refuse 1 = .ok (.iconst 1, 1) := by decide +kernel
theorem dX6_refuse_2 : decode cX6_refuse 2 = .ok (.if_icmp .ne 14, 3) := by decide +kernel
theorem dX6_refuse_5 : decode cX6_refuse 5 = .ok (.new 263, 3) := by decide +kernel
theorem dX6_refuse_8 : decode cX6_refuse 8 = .ok (.dup, 1) := by decide +kernel
theorem dX6_refuse_9 : decode cX6_refuse 9 = .ok (.ldc_w 265, 3) := by decide +kernel
theorem dX6_refuse_12 : decode cX6_refuse 12 = .ok (.invokespecial 267, 3) := by decide +kernel
theorem dX6_refuse_15 : decode cX6_refuse 15 = .ok (.athrow, 1) := by decide +kernel
theorem dX6_refuse_16 : decode cX6_refuse 16 = .ok (.iload_n 0, 1) := by decide +kernel
theorem dX6_refuse_17 : decode cX6_refuse 17 = .ok (.iconst 2, 1) := by decide +kernel
theorem dX6_refuse_18 : decode cX6_refuse 18 = .ok (.if_icmp .ne 14, 3) := by decide +kernel
theorem dX6_refuse_21 : decode cX6_refuse 21 = .ok (.new 270, 3) := by decide +kernel
theorem dX6_refuse_24 : decode cX6_refuse 24 = .ok (.dup, 1) := by decide +kernel
theorem dX6_refuse_25 : decode cX6_refuse 25 = .ok (.ldc_w 272, 3) := by decide +kernel
theorem dX6_refuse_28 : decode cX6_refuse 28 = .ok (.invokespecial 274, 3) := by decide +kernel
theorem dX6_refuse_31 : decode cX6_refuse 31 = .ok (.athrow, 1) := by decide +kernel
theorem dX6_refuse_32 : decode cX6_refuse 32 = .ok (.iload_n 0, 1) := by decide +kernel
theorem dX6_refuse_33 : decode cX6_refuse 33 = .ok (.iconst 3, 1) := by decide +kernel
theorem dX6_refuse_34 : decode cX6_refuse 34 = .ok (.if_icmp .ne 14, 3) := by decide +kernel
theorem dX6_refuse_37 : decode cX6_refuse 37 = .ok (.new 275, 3) := by decide +kernel
theorem dX6_refuse_40 : decode cX6_refuse 40 = .ok (.dup, 1) := by decide +kernel
theorem dX6_refuse_41 : decode cX6_refuse 41 = .ok (.ldc_w 277, 3) := by decide +kernel
theorem dX6_refuse_44 : decode cX6_refuse 44 = .ok (.invokespecial 279, 3) := by decide +kernel
theorem dX6_refuse_47 : decode cX6_refuse 47 = .ok (.athrow, 1) := by decide +kernel
theorem dX6_refuse_48 : decode cX6_refuse 48 = .ok (.return_, 1) := by decide +kernel
theorem dJx29ce0_ordinal_8abf5_0 : decode cJx29ce0_ordinal_8abf5 0 = .ok (.aload_n 0, 1) := by decide +kernel
theorem dJx29ce0_ordinal_8abf5_1 : decode cJx29ce0_ordinal_8abf5 1 = .ok (.getfield 7, 3) := by decide +kernel
theorem dJx29ce0_ordinal_8abf5_4 : decode cJx29ce0_ordinal_8abf5 4 = .ok (.ireturn, 1) := by decide +kernel
theorem dJ9_min_7cf53_0 : decode cJ9_min_7cf53 0 = .ok (.iload_n 0, 1) := by decide +kernel
theorem dJ9_min_7cf53_1 : decode cJ9_min_7cf53 1 = .ok (.iload_n 1, 1) := by decide +kernel
theorem dJ9_min_7cf53_2 : decode cJ9_min_7cf53 2 = .ok (.if_icmp .gt 7, 3) := by decide +kernel
theorem dJ9_min_7cf53_5 : decode cJ9_min_7cf53 5 = .ok (.iload_n 0, 1) := by decide +kernel
theorem dJ9_min_7cf53_6 : decode cJ9_min_7cf53 6 = .ok (.goto 4, 3) := by decide +kernel
theorem dJ9_min_7cf53_9 : decode cJ9_min_7cf53 9 = .ok (.iload_n 1, 1) := by decide +kernel
theorem dJ9_min_7cf53_10 : decode cJ9_min_7cf53 10 = .ok (.ireturn, 1) := by decide +kernel
set_option maxRecDepth 20000 in
theorem ggJ0_length_8abf5_J0_coder_7d493 : GoodIn wsJ0_length_8abf5 wsJ0_coder_7d493 := goodIn_r _ [6, 7, 8] (by decide +kernel) (by decide +kernel)
set_option maxRecDepth 20000 in
theorem gJ0_length_8abf5_J0_coder_7d493 : GoodIn wsJ0_length_8abf5 (wsV RJ0 335 RJ0 yJ0_coder_7d493 wsJ0_coder_7d493) := goodIn_app (goodIn_of _ (by decide +kernel)) ggJ0_length_8abf5_J0_coder_7d493
theorem dJ0_length_8abf5_0 : decode cJ0_length_8abf5 0 = .ok (.aload_n 0, 1) := by decide +kernel
theorem dJ0_length_8abf5_1 : decode cJ0_length_8abf5 1 = .ok (.getfield 9, 3) := by decide +kernel
theorem dJ0_length_8abf5_4 : decode cJ0_length_8abf5 4 = .ok (.arraylength, 1) := by decide +kernel
theorem dJ0_length_8abf5_5 : decode cJ0_length_8abf5 5 = .ok (.aload_n 0, 1) := by decide +kernel
theorem dJ0_length_8abf5_6 : decode cJ0_length_8abf5 6 = .ok (.invokevirtual 335, 3) := by decide +kernel
theorem dJ0_length_8abf5_9 : decode cJ0_length_8abf5 9 = .ok (.ishr, 1) := by decide +kernel
theorem dJ0_length_8abf5_10 : decode cJ0_length_8abf5 10 = .ok (.ireturn, 1) := by decide +kernel
set_option maxRecDepth 20000 in
theorem ggJ0_charAt_5068e_J0_isLatin1_aae02 : GoodIn wsJ0_charAt_5068e wsJ0_isLatin1_aae02 := goodIn_r _ [6, 7, 8] (by decide +kernel) (by decide +kernel)
set_option maxRecDepth 20000 in
theorem gJ0_charAt_5068e_J0_isLatin1_aae02 : GoodIn wsJ0_charAt_5068e (wsV RJ0 492 RJ0 yJ0_isLatin1_aae02 wsJ0_isLatin1_aae02) := goodIn_app (goodIn_of _ (by decide +kernel)) ggJ0_charAt_5068e_J0_isLatin1_aae02
set_option maxRecDepth 20000 in
theorem ggJ0_charAt_5068e_J1_charAt_3b067 : GoodIn wsJ0_charAt_5068e wsJ1_charAt_3b067 := goodIn_r _ [12, 13, 14, 5, 15, 16, 17, 18, 19, 20] (by decide +kernel) (by decide +kernel)
set_option maxRecDepth 20000 in
theorem gJ0_charAt_5068e_J1_charAt_3b067 : GoodIn wsJ0_charAt_5068e (va_wsS RJ0 495 yJ1_charAt_3b067 wsJ1_charAt_3b067) := goodIn_app (goodIn_of _ (by decide +kernel)) ggJ0_charAt_5068e_J1_charAt_3b067
set_option maxRecDepth 20000 in
theorem ggJ0_charAt_5068e_J2_charAt_3b067 : GoodIn wsJ0_charAt_5068e wsJ2_charAt_3b067 := goodIn_r _ [24, 25, 26, 23, 27, 28, 29, 30, 31, 14, 5, 15, 16, 17, 18, 19, 20, 32, 33, 34, 35, 36, 37] (by decide +kernel) (by decide +kernel)
set_option maxRecDepth 20000 in
theorem gJ0_charAt_5068e_J2_charAt_3b067 : GoodIn wsJ0_charAt_5068e (va_wsS RJ0 498 yJ2_charAt_3b067 wsJ2_charAt_3b067) := goodIn_app (goodIn_of _ (by decide +kernel)) ggJ0_charAt_5068e_J2_charAt_3b067
theorem dJ0_charAt_5068e_0 : decode cJ0_charAt_5068e 0 = .ok (.aload_n 0, 1) := by decide +kernel
theorem dJ0_charAt_5068e_1 : decode cJ0_charAt_5068e 1 = .ok (.invokevirtual 492, 3) := by decide +kernel
theorem dJ0_charAt_5068e_4 : decode cJ0_charAt_5068e 4 = .ok (.ifCond .eq 12, 3) := by decide +kernel
theorem dJ0_charAt_5068e_7 : decode cJ0_charAt_5068e 7 = .ok (.aload_n 0, 1) := by decide +kernel
theorem dJ0_charAt_5068e_8 : decode cJ0_charAt_5068e 8 = .ok (.getfield 9, 3) := by decide +kernel
theorem dJ0_charAt_5068e_11 : decode cJ0_charAt_5068e 11 = .ok (.iload_n 1, 1) := by decide +kernel
theorem dJ0_charAt_5068e_12 : decode cJ0_charAt_5068e 12 = .ok (.invokestatic 495, 3) := by decide +kernel
theorem dJ0_charAt_5068e_15 : decode cJ0_charAt_5068e 15 = .ok (.ireturn, 1) := by decide +kernel
theorem dJ0_charAt_5068e_16 : decode cJ0_charAt_5068e 16 = .ok (.aload_n 0, 1) := by decide +kernel
theorem dJ0_charAt_5068e_17 : decode cJ0_charAt_5068e 17 = .ok (.getfield 9, 3) := by decide +kernel
theorem dJ0_charAt_5068e_20 : decode cJ0_charAt_5068e 20 = .ok (.iload_n 1, 1) := by decide +kernel
theorem dJ0_charAt_5068e_21 : decode cJ0_charAt_5068e 21 = .ok (.invokestatic 498, 3) := by decide +kernel
theorem dJ0_charAt_5068e_24 : decode cJ0_charAt_5068e 24 = .ok (.ireturn, 1) := by decide +kernel
theorem dJ0_coder_7d493_0 : decode cJ0_coder_7d493 0 = .ok (.getstatic 38, 3) := by decide +kernel
theorem dJ0_coder_7d493_3 : decode cJ0_coder_7d493 3 = .ok (.ifCond .eq 10, 3) := by decide +kernel
theorem dJ0_coder_7d493_6 : decode cJ0_coder_7d493 6 = .ok (.aload_n 0, 1) := by decide +kernel
theorem dJ0_coder_7d493_7 : decode cJ0_coder_7d493 7 = .ok (.getfield 15, 3) := by decide +kernel
theorem dJ0_coder_7d493_10 : decode cJ0_coder_7d493 10 = .ok (.goto 4, 3) := by decide +kernel
theorem dJ0_coder_7d493_13 : decode cJ0_coder_7d493 13 = .ok (.iconst 1, 1) := by decide +kernel
theorem dJ0_coder_7d493_14 : decode cJ0_coder_7d493 14 = .ok (.ireturn, 1) := by decide +kernel
theorem dJ0_isLatin1_aae02_0 : decode cJ0_isLatin1_aae02 0 = .ok (.getstatic 38, 3) := by decide +kernel
theorem dJ0_isLatin1_aae02_3 : decode cJ0_isLatin1_aae02 3 = .ok (.ifCond .eq 14, 3) := by decide +kernel
theorem dJ0_isLatin1_aae02_6 : decode cJ0_isLatin1_aae02 6 = .ok (.aload_n 0, 1) := by decide +kernel
theorem dJ0_isLatin1_aae02_7 : decode cJ0_isLatin1_aae02 7 = .ok (.getfield 15, 3) := by decide +kernel
theorem dJ0_isLatin1_aae02_10 : decode cJ0_isLatin1_aae02 10 = .ok (.ifCond .ne 7, 3) := by decide +kernel
theorem dJ0_isLatin1_aae02_13 : decode cJ0_isLatin1_aae02 13 = .ok (.iconst 1, 1) := by decide +kernel
theorem dJ0_isLatin1_aae02_14 : decode cJ0_isLatin1_aae02 14 = .ok (.goto 4, 3) := by decide +kernel
theorem dJ0_isLatin1_aae02_17 : decode cJ0_isLatin1_aae02 17 = .ok (.iconst 0, 1) := by decide +kernel
theorem dJ0_isLatin1_aae02_18 : decode cJ0_isLatin1_aae02 18 = .ok (.ireturn, 1) := by decide +kernel
set_option maxRecDepth 20000 in
theorem ggJ0_checkIndex_df160_J3_checkIndex_8e157 : GoodIn wsJ0_checkIndex_df160 wsJ3_checkIndex_8e157 := goodIn_r _ [5] (by decide +kernel) (by decide +kernel)
set_option maxRecDepth 20000 in
theorem gJ0_checkIndex_df160_J3_checkIndex_8e157 : GoodIn wsJ0_checkIndex_df160 (va_wsS RJ0 1059 yJ3_checkIndex_8e157 wsJ3_checkIndex_8e157) := goodIn_app (goodIn_of _ (by decide +kernel)) ggJ0_checkIndex_df160_J3_checkIndex_8e157
theorem dJ0_checkIndex_df160_0 : decode cJ0_checkIndex_df160 0 = .ok (.iload_n 0, 1) := by decide +kernel
theorem dJ0_checkIndex_df160_1 : decode cJ0_checkIndex_df160 1 = .ok (.iload_n 1, 1) := by decide +kernel
theorem dJ0_checkIndex_df160_2 : decode cJ0_checkIndex_df160 2 = .ok (.getstatic 1053, 3) := by decide +kernel
theorem dJ0_checkIndex_df160_5 : decode cJ0_checkIndex_df160 5 = .ok (.invokestatic 1059, 3) := by decide +kernel
theorem dJ0_checkIndex_df160_8 : decode cJ0_checkIndex_df160 8 = .ok (.pop, 1) := by decide +kernel
theorem dJ0_checkIndex_df160_9 : decode cJ0_checkIndex_df160 9 = .ok (.return_, 1) := by decide +kernel
set_option maxRecDepth 20000 in
theorem ggJ1_charAt_3b067_J0_checkIndex_df160 : GoodIn wsJ1_charAt_3b067 wsJ0_checkIndex_df160 := goodIn_r _ [4, 5, 6, 7, 8, 9] (by decide +kernel) (by decide +kernel)
set_option maxRecDepth 20000 in
theorem gJ1_charAt_3b067_J0_checkIndex_df160 : GoodIn wsJ1_charAt_3b067 (va_wsS RJ1 9 yJ0_checkIndex_df160 wsJ0_checkIndex_df160) := goodIn_app (goodIn_of _ (by decide +kernel)) ggJ1_charAt_3b067_J0_checkIndex_df160
theorem dJ1_charAt_3b067_0 : decode cJ1_charAt_3b067 0 = .ok (.iload_n 1, 1) := by decide +kernel
theorem dJ1_charAt_3b067_1 : decode cJ1_charAt_3b067 1 = .ok (.aload_n 0, 1) := by decide +kernel
theorem dJ1_charAt_3b067_2 : decode cJ1_charAt_3b067 2 = .ok (.arraylength, 1) := by decide +kernel
theorem dJ1_charAt_3b067_3 : decode cJ1_charAt_3b067 3 = .ok (.invokestatic 9, 3) := by decide +kernel
theorem dJ1_charAt_3b067_6 : decode cJ1_charAt_3b067 6 = .ok (.aload_n 0, 1) := by decide +kernel
theorem dJ1_charAt_3b067_7 : decode cJ1_charAt_3b067 7 = .ok (.iload_n 1, 1) := by decide +kernel
theorem dJ1_charAt_3b067_8 : decode cJ1_charAt_3b067 8 = .ok (.baload, 1) := by decide +kernel
theorem dJ1_charAt_3b067_9 : decode cJ1_charAt_3b067 9 = .ok (.sipush 255, 3) := by decide +kernel
theorem dJ1_charAt_3b067_12 : decode cJ1_charAt_3b067 12 = .ok (.iand, 1) := by decide +kernel
theorem dJ1_charAt_3b067_13 : decode cJ1_charAt_3b067 13 = .ok (.i2c, 1) := by decide +kernel
theorem dJ1_charAt_3b067_14 : decode cJ1_charAt_3b067 14 = .ok (.ireturn, 1) := by decide +kernel
set_option maxRecDepth 20000 in
theorem ggJ2_getChar_3b067_J2_length_9d52b : GoodIn wsJ2_getChar_3b067 wsJ2_length_9d52b := goodIn_r _ [7] (by decide +kernel) (by decide +kernel)
set_option maxRecDepth 20000 in
theorem gJ2_getChar_3b067_J2_length_9d52b : GoodIn wsJ2_getChar_3b067 (va_wsS RJ2 48 yJ2_length_9d52b wsJ2_length_9d52b) := goodIn_app (goodIn_of _ (by decide +kernel)) ggJ2_getChar_3b067_J2_length_9d52b
theorem dJ2_getChar_3b067_0 : decode cJ2_getChar_3b067 0 = .ok (.getstatic 44, 3) := by decide +kernel
theorem dJ2_getChar_3b067_3 : decode cJ2_getChar_3b067 3 = .ok (.ifCond .ne 25, 3) := by decide +kernel
theorem dJ2_getChar_3b067_6 : decode cJ2_getChar_3b067 6 = .ok (.iload_n 1, 1) := by decide +kernel
theorem dJ2_getChar_3b067_7 : decode cJ2_getChar_3b067 7 = .ok (.ifCond .lt 11, 3) := by decide +kernel
theorem dJ2_getChar_3b067_10 : decode cJ2_getChar_3b067 10 = .ok (.iload_n 1, 1) := by decide +kernel
theorem dJ2_getChar_3b067_11 : decode cJ2_getChar_3b067 11 = .ok (.aload_n 0, 1) := by decide +kernel
theorem dJ2_getChar_3b067_12 : decode cJ2_getChar_3b067 12 = .ok (.invokestatic 48, 3) := by decide +kernel
theorem dJ2_getChar_3b067_15 : decode cJ2_getChar_3b067 15 = .ok (.if_icmp .lt 13, 3) := by decide +kernel
theorem dJ2_getChar_3b067_18 : decode cJ2_getChar_3b067 18 = .ok (.new 52, 3) := by decide +kernel
theorem dJ2_getChar_3b067_21 : decode cJ2_getChar_3b067 21 = .ok (.dup, 1) := by decide +kernel
theorem dJ2_getChar_3b067_22 : decode cJ2_getChar_3b067 22 = .ok (.ldc 54, 2) := by decide +kernel
theorem dJ2_getChar_3b067_24 : decode cJ2_getChar_3b067 24 = .ok (.invokespecial 56, 3) := by decide +kernel
theorem dJ2_getChar_3b067_27 : decode cJ2_getChar_3b067 27 = .ok (.athrow, 1) := by decide +kernel
theorem dJ2_getChar_3b067_28 : decode cJ2_getChar_3b067 28 = .ok (.iload_n 1, 1) := by decide +kernel
theorem dJ2_getChar_3b067_29 : decode cJ2_getChar_3b067 29 = .ok (.iconst 1, 1) := by decide +kernel
theorem dJ2_getChar_3b067_30 : decode cJ2_getChar_3b067 30 = .ok (.ishl, 1) := by decide +kernel
theorem dJ2_getChar_3b067_31 : decode cJ2_getChar_3b067 31 = .ok (.istore_n 1, 1) := by decide +kernel
theorem dJ2_getChar_3b067_32 : decode cJ2_getChar_3b067 32 = .ok (.aload_n 0, 1) := by decide +kernel
theorem dJ2_getChar_3b067_33 : decode cJ2_getChar_3b067 33 = .ok (.iload_n 1, 1) := by decide +kernel
theorem dJ2_getChar_3b067_34 : decode cJ2_getChar_3b067 34 = .ok (.iinc 1 1, 3) := by decide +kernel
theorem dJ2_getChar_3b067_37 : decode cJ2_getChar_3b067 37 = .ok (.baload, 1) := by decide +kernel
theorem dJ2_getChar_3b067_38 : decode cJ2_getChar_3b067 38 = .ok (.sipush 255, 3) := by decide +kernel
theorem dJ2_getChar_3b067_41 : decode cJ2_getChar_3b067 41 = .ok (.iand, 1) := by decide +kernel
theorem dJ2_getChar_3b067_42 : decode cJ2_getChar_3b067 42 = .ok (.getstatic 59, 3) := by decide +kernel
theorem dJ2_getChar_3b067_45 : decode cJ2_getChar_3b067 45 = .ok (.ishl, 1) := by decide +kernel
theorem dJ2_getChar_3b067_46 : decode cJ2_getChar_3b067 46 = .ok (.aload_n 0, 1) := by decide +kernel
theorem dJ2_getChar_3b067_47 : decode cJ2_getChar_3b067 47 = .ok (.iload_n 1, 1) := by decide +kernel
theorem dJ2_getChar_3b067_48 : decode cJ2_getChar_3b067 48 = .ok (.baload, 1) := by decide +kernel
theorem dJ2_getChar_3b067_49 : decode cJ2_getChar_3b067 49 = .ok (.sipush 255, 3) := by decide +kernel
theorem dJ2_getChar_3b067_52 : decode cJ2_getChar_3b067 52 = .ok (.iand, 1) := by decide +kernel
theorem dJ2_getChar_3b067_53 : decode cJ2_getChar_3b067 53 = .ok (.getstatic 63, 3) := by decide +kernel
theorem dJ2_getChar_3b067_56 : decode cJ2_getChar_3b067 56 = .ok (.ishl, 1) := by decide +kernel
theorem dJ2_getChar_3b067_57 : decode cJ2_getChar_3b067 57 = .ok (.ior, 1) := by decide +kernel
theorem dJ2_getChar_3b067_58 : decode cJ2_getChar_3b067 58 = .ok (.i2c, 1) := by decide +kernel
theorem dJ2_getChar_3b067_59 : decode cJ2_getChar_3b067 59 = .ok (.ireturn, 1) := by decide +kernel
theorem dJ2_length_9d52b_0 : decode cJ2_length_9d52b 0 = .ok (.aload_n 0, 1) := by decide +kernel
theorem dJ2_length_9d52b_1 : decode cJ2_length_9d52b 1 = .ok (.arraylength, 1) := by decide +kernel
theorem dJ2_length_9d52b_2 : decode cJ2_length_9d52b 2 = .ok (.iconst 1, 1) := by decide +kernel
theorem dJ2_length_9d52b_3 : decode cJ2_length_9d52b 3 = .ok (.ishr, 1) := by decide +kernel
theorem dJ2_length_9d52b_4 : decode cJ2_length_9d52b 4 = .ok (.ireturn, 1) := by decide +kernel
set_option maxRecDepth 20000 in
theorem ggJ2_charAt_3b067_J2_checkIndex_2214a : GoodIn wsJ2_charAt_3b067 wsJ2_checkIndex_2214a := goodIn_r _ [4, 5, 6, 3, 7, 8, 9, 10, 11, 12, 13, 14, 15, 16] (by decide +kernel) (by decide +kernel)
set_option maxRecDepth 20000 in
theorem gJ2_charAt_3b067_J2_checkIndex_2214a : GoodIn wsJ2_charAt_3b067 (va_wsS RJ2 67 yJ2_checkIndex_2214a wsJ2_checkIndex_2214a) := goodIn_app (goodIn_of _ (by decide +kernel)) ggJ2_charAt_3b067_J2_checkIndex_2214a
set_option maxRecDepth 20000 in
theorem ggJ2_charAt_3b067_J2_getChar_3b067 : GoodIn wsJ2_charAt_3b067 wsJ2_getChar_3b067 := goodIn_r _ [19, 20, 21, 22, 5, 6, 3, 7] (by decide +kernel) (by decide +kernel)
set_option maxRecDepth 20000 in
theorem gJ2_charAt_3b067_J2_getChar_3b067 : GoodIn wsJ2_charAt_3b067 (va_wsS RJ2 71 yJ2_getChar_3b067 wsJ2_getChar_3b067) := goodIn_app (goodIn_of _ (by decide +kernel)) ggJ2_charAt_3b067_J2_getChar_3b067
theorem dJ2_charAt_3b067_0 : decode cJ2_charAt_3b067 0 = .ok (.iload_n 1, 1) := by decide +kernel
theorem dJ2_charAt_3b067_1 : decode cJ2_charAt_3b067 1 = .ok (.aload_n 0, 1) := by decide +kernel
theorem dJ2_charAt_3b067_2 : decode cJ2_charAt_3b067 2 = .ok (.invokestatic 67, 3) := by decide +kernel
theorem dJ2_charAt_3b067_5 : decode cJ2_charAt_3b067 5 = .ok (.aload_n 0, 1) := by decide +kernel
theorem dJ2_charAt_3b067_6 : decode cJ2_charAt_3b067 6 = .ok (.iload_n 1, 1) := by decide +kernel
theorem dJ2_charAt_3b067_7 : decode cJ2_charAt_3b067 7 = .ok (.invokestatic 71, 3) := by decide +kernel
theorem dJ2_charAt_3b067_10 : decode cJ2_charAt_3b067 10 = .ok (.ireturn, 1) := by decide +kernel
set_option maxRecDepth 20000 in
theorem ggJ2_checkIndex_2214a_J2_length_9d52b : GoodIn wsJ2_checkIndex_2214a wsJ2_length_9d52b := goodIn_r _ [4] (by decide +kernel) (by decide +kernel)
set_option maxRecDepth 20000 in
theorem gJ2_checkIndex_2214a_J2_length_9d52b : GoodIn wsJ2_checkIndex_2214a (va_wsS RJ2 48 yJ2_length_9d52b wsJ2_length_9d52b) := goodIn_app (goodIn_of _ (by decide +kernel)) ggJ2_checkIndex_2214a_J2_length_9d52b
set_option maxRecDepth 20000 in
theorem ggJ2_checkIndex_2214a_J0_checkIndex_df160 : GoodIn wsJ2_checkIndex_2214a wsJ0_checkIndex_df160 := goodIn_r _ [8, 9, 10, 11, 12, 13] (by decide +kernel) (by decide +kernel)
set_option maxRecDepth 20000 in
theorem gJ2_checkIndex_2214a_J0_checkIndex_df160 : GoodIn wsJ2_checkIndex_2214a (va_wsS RJ2 414 yJ0_checkIndex_df160 wsJ0_checkIndex_df160) := goodIn_app (goodIn_of _ (by decide +kernel)) ggJ2_checkIndex_2214a_J0_checkIndex_df160
theorem dJ2_checkIndex_2214a_0 : decode cJ2_checkIndex_2214a 0 = .ok (.iload_n 0, 1) := by decide +kernel
theorem dJ2_checkIndex_2214a_1 : decode cJ2_checkIndex_2214a 1 = .ok (.aload_n 1, 1) := by decide +kernel
theorem dJ2_checkIndex_2214a_2 : decode cJ2_checkIndex_2214a 2 = .ok (.invokestatic 48, 3) := by decide +kernel
theorem dJ2_checkIndex_2214a_5 : decode cJ2_checkIndex_2214a 5 = .ok (.invokestatic 414, 3) := by decide +kernel
theorem dJ2_checkIndex_2214a_8 : decode cJ2_checkIndex_2214a 8 = .ok (.return_, 1) := by decide +kernel
theorem dJ3_checkIndex_8e157_0 : decode cJ3_checkIndex_8e157 0 = .ok (.iload_n 0, 1) := by decide +kernel
theorem dJ3_checkIndex_8e157_1 : decode cJ3_checkIndex_8e157 1 = .ok (.ifCond .lt 8, 3) := by decide +kernel
theorem dJ3_checkIndex_8e157_4 : decode cJ3_checkIndex_8e157 4 = .ok (.iload_n 0, 1) := by decide +kernel
theorem dJ3_checkIndex_8e157_5 : decode cJ3_checkIndex_8e157 5 = .ok (.iload_n 1, 1) := by decide +kernel
theorem dJ3_checkIndex_8e157_6 : decode cJ3_checkIndex_8e157 6 = .ok (.if_icmp .lt 10, 3) := by decide +kernel
theorem dJ3_checkIndex_8e157_9 : decode cJ3_checkIndex_8e157 9 = .ok (.aload_n 2, 1) := by decide +kernel
theorem dJ3_checkIndex_8e157_10 : decode cJ3_checkIndex_8e157 10 = .ok (.iload_n 0, 1) := by decide +kernel
theorem dJ3_checkIndex_8e157_11 : decode cJ3_checkIndex_8e157 11 = .ok (.iload_n 1, 1) := by decide +kernel
theorem dJ3_checkIndex_8e157_12 : decode cJ3_checkIndex_8e157 12 = .ok (.invokestatic 95, 3) := by decide +kernel
theorem dJ3_checkIndex_8e157_15 : decode cJ3_checkIndex_8e157 15 = .ok (.athrow, 1) := by decide +kernel
theorem dJ3_checkIndex_8e157_16 : decode cJ3_checkIndex_8e157 16 = .ok (.iload_n 0, 1) := by decide +kernel
theorem dJ3_checkIndex_8e157_17 : decode cJ3_checkIndex_8e157 17 = .ok (.ireturn, 1) := by decide +kernel
theorem dL_cell_0 : decode cL_cell 0 = .ok (.iload_n 1, 1) := by decide +kernel
theorem dL_cell_1 : decode cL_cell 1 = .ok (.aload_n 0, 1) := by decide +kernel
theorem dL_cell_2 : decode cL_cell 2 = .ok (.arraylength, 1) := by decide +kernel
theorem dL_cell_3 : decode cL_cell 3 = .ok (.if_icmp .ge 9, 3) := by decide +kernel
theorem dL_cell_6 : decode cL_cell 6 = .ok (.aload_n 0, 1) := by decide +kernel
theorem dL_cell_7 : decode cL_cell 7 = .ok (.iload_n 1, 1) := by decide +kernel
theorem dL_cell_8 : decode cL_cell 8 = .ok (.iaload, 1) := by decide +kernel
theorem dL_cell_9 : decode cL_cell 9 = .ok (.goto 15, 3) := by decide +kernel
theorem dL_cell_12 : decode cL_cell 12 = .ok (.sipush 7919, 3) := by decide +kernel
theorem dL_cell_15 : decode cL_cell 15 = .ok (.iload_n 1, 1) := by decide +kernel
theorem dL_cell_16 : decode cL_cell 16 = .ok (.iconst 3, 1) := by decide +kernel
theorem dL_cell_17 : decode cL_cell 17 = .ok (.iadd, 1) := by decide +kernel
theorem dL_cell_18 : decode cL_cell 18 = .ok (.imul, 1) := by decide +kernel
theorem dL_cell_19 : decode cL_cell 19 = .ok (.iload_n 1, 1) := by decide +kernel
theorem dL_cell_20 : decode cL_cell 20 = .ok (.bipush 11, 2) := by decide +kernel
theorem dL_cell_22 : decode cL_cell 22 = .ok (.iadd, 1) := by decide +kernel
theorem dL_cell_23 : decode cL_cell 23 = .ok (.imul, 1) := by decide +kernel
theorem dL_cell_24 : decode cL_cell 24 = .ok (.ireturn, 1) := by decide +kernel
theorem dL_low_0 : decode cL_low 0 = .ok (.iload_n 0, 1) := by decide +kernel
theorem dL_low_1 : decode cL_low 1 = .ok (.ldc 7, 2) := by decide +kernel
theorem dL_low_3 : decode cL_low 3 = .ok (.iand, 1) := by decide +kernel
theorem dL_low_4 : decode cL_low 4 = .ok (.iload_n 1, 1) := by decide +kernel
theorem dL_low_5 : decode cL_low 5 = .ok (.irem, 1) := by decide +kernel
theorem dL_low_6 : decode cL_low 6 = .ok (.ireturn, 1) := by decide +kernel
set_option maxRecDepth 20000 in
theorem ggL_rules_X6_whole : GoodIn wsL_rules wsX6_whole := goodIn_ca (goodIn_ca (goodIn_ca (goodIn_r _ [5, 6, 7, 4, 8, 9, 10, 11, 12, 13, 14, 15, 16, 17, 18, 19, 20, 21, 22, 23, 24, 25, 26, 27, 28, 29, 30, 31, 32, 33, 34, 35, 36, 37, 38, 39, 40, 41, 42, 43, 44, 45, 46, 47, 48, 49, 50, 51, 52, 53, 54, 55, 56, 57, 58, 59, 60, 61, 62, 63, 64, 65, 66, 67, 68, 69, 70, 71, 72, 73, 74, 75, 76, 77, 78, 79, 80, 81, 82, 83, 84, 85, 86, 87, 88, 89, 90, 91, 92, 93, 94, 95, 96, 97, 98, 99, 100, 101, 102, 103, 104, 105, 106, 107, 200, 201, 202, 203, 204, 205, 206, 207, 208, 209, 210, 211, 212, 213, 214, 215, 216, 217, 218, 219, 220, 221, 222, 223, 224] (by decide +kernel) (by decide +kernel)) (goodIn_sub (fun _ h => List.mem_cons_of_mem _ (List.mem_append_left _ (List.mem_append_left _ (List.mem_append_right _ h)))) (by decide +kernel))) (goodIn_sub (fun _ h => List.mem_cons_of_mem _ (List.mem_append_left _ (List.mem_append_right _ h))) (by decide +kernel))) (goodIn_sub (fun _ h => List.mem_cons_of_mem _ (List.mem_append_right _ h)) (by decide +kernel))
set_option maxRecDepth 20000 in
theorem gL_rules_X6_whole : GoodIn wsL_rules (wsV RL 8 RX6 yX6_whole wsX6_whole) := goodIn_app (goodIn_of _ (by decide +kernel)) ggL_rules_X6_whole
set_option maxRecDepth 20000 in
theorem ggL_rules_X6_at : GoodIn wsL_rules wsX6_at := goodIn_ca (goodIn_ca (goodIn_ca (goodIn_r _ [111, 23, 9, 10, 4, 11, 12, 13, 14, 15, 16, 17, 43, 25, 44, 45, 28, 46, 47, 200, 201, 202, 203, 218, 219, 220, 221, 222, 223, 224, 210, 211, 212, 213, 214, 215, 216, 217] (by decide +kernel) (by decide +kernel)) (goodIn_sub (fun _ h => List.mem_cons_of_mem _ (List.mem_append_left _ (List.mem_append_left _ (List.mem_append_right _ h)))) (by decide +kernel))) (goodIn_sub (fun _ h => List.mem_cons_of_mem _ (List.mem_append_left _ (List.mem_append_right _ h))) (by decide +kernel))) (goodIn_sub (fun _ h => List.mem_cons_of_mem _ (List.mem_append_right _ h)) (by decide +kernel))
set_option maxRecDepth 20000 in
theorem gL_rules_X6_at : GoodIn wsL_rules (wsV RL 14 RX6 yX6_at wsX6_at) := goodIn_app (goodIn_of _ (by decide +kernel)) ggL_rules_X6_at
set_option maxRecDepth 20000 in
theorem ggL_rules_X6_member : GoodIn wsL_rules wsX6_member := goodIn_ca (goodIn_ca (goodIn_ca (goodIn_r _ [115, 23, 116, 25, 117, 118, 28, 42, 43, 44, 45, 46, 47, 6, 7, 4, 8, 119, 120, 121, 122, 9, 10, 11, 12, 13, 14, 15, 16, 17, 123, 124, 125, 48, 49, 50, 51, 38, 39, 40, 41, 126, 127, 128, 129, 76, 77, 78, 79, 200, 201, 202, 203, 210, 211, 212, 213, 214, 215, 216, 217, 218, 219, 220, 221, 222, 223, 224] (by decide +kernel) (by decide +kernel)) (goodIn_sub (fun _ h => List.mem_cons_of_mem _ (List.mem_append_left _ (List.mem_append_left _ (List.mem_append_right _ h)))) (by decide +kernel))) (goodIn_sub (fun _ h => List.mem_cons_of_mem _ (List.mem_append_left _ (List.mem_append_right _ h))) (by decide +kernel))) (goodIn_sub (fun _ h => List.mem_cons_of_mem _ (List.mem_append_right _ h)) (by decide +kernel))
set_option maxRecDepth 20000 in
theorem gL_rules_X6_member : GoodIn wsL_rules (wsV RL 17 RX6 yX6_member wsX6_member) := goodIn_app (goodIn_of _ (by decide +kernel)) ggL_rules_X6_member
set_option maxRecDepth 20000 in
theorem ggL_rules_X6_reason : GoodIn wsL_rules wsX6_reason := goodIn_ca (goodIn_ca (goodIn_ca (goodIn_r _ [133, 23, 134, 135, 136, 4, 137, 6, 7, 8, 9, 10, 11, 12, 13, 14, 15, 16, 17, 73, 25, 74, 75, 76, 77, 78, 79, 42, 43, 44, 45, 28, 46, 47, 80, 81, 82, 83, 200, 201, 202, 203, 210, 211, 212, 213, 214, 215, 216, 217, 218, 219, 220, 221, 222, 223, 224] (by decide +kernel) (by decide +kernel)) (goodIn_sub (fun _ h => List.mem_cons_of_mem _ (List.mem_append_left _ (List.mem_append_left _ (List.mem_append_right _ h)))) (by decide +kernel))) (goodIn_sub (fun _ h => List.mem_cons_of_mem _ (List.mem_append_left _ (List.mem_append_right _ h))) (by decide +kernel))) (goodIn_sub (fun _ h => List.mem_cons_of_mem _ (List.mem_append_right _ h)) (by decide +kernel))
set_option maxRecDepth 20000 in
theorem gL_rules_X6_reason : GoodIn wsL_rules (wsV RL 21 RX6 yX6_reason wsX6_reason) := goodIn_app (goodIn_of _ (by decide +kernel)) ggL_rules_X6_reason
set_option maxRecDepth 20000 in
theorem ggL_rules_X6_pair : GoodIn wsL_rules wsX6_pair := goodIn_ca (goodIn_ca (goodIn_ca (goodIn_r _ [141, 23, 6, 7, 4, 8, 134, 135, 136, 137, 9, 10, 11, 12, 13, 14, 15, 16, 17, 142, 25, 143, 144, 145, 146, 147, 148, 42, 43, 44, 45, 28, 46, 47, 96, 97, 98, 99, 80, 81, 82, 83, 149, 150, 151, 152, 29, 76, 77, 78, 79, 200, 201, 202, 203, 210, 211, 212, 213, 214, 215, 216, 217, 218, 219, 220, 221, 222, 223, 224] (by decide +kernel) (by decide +kernel)) (goodIn_sub (fun _ h => List.mem_cons_of_mem _ (List.mem_append_left _ (List.mem_append_left _ (List.mem_append_right _ h)))) (by decide +kernel))) (goodIn_sub (fun _ h => List.mem_cons_of_mem _ (List.mem_append_left _ (List.mem_append_right _ h))) (by decide +kernel))) (goodIn_sub (fun _ h => List.mem_cons_of_mem _ (List.mem_append_right _ h)) (by decide +kernel))
set_option maxRecDepth 20000 in
theorem gL_rules_X6_pair : GoodIn wsL_rules (wsV RL 24 RX6 yX6_pair wsX6_pair) := goodIn_app (goodIn_of _ (by decide +kernel)) ggL_rules_X6_pair
set_option maxRecDepth 20000 in
theorem ggL_rules_X6_disorder : GoodIn wsL_rules wsX6_disorder := goodIn_r _ [156, 23, 157, 25, 158, 159, 28, 64, 65, 66, 67, 42, 43, 44, 45, 46, 47, 200, 201, 202, 203, 210, 211, 212, 213, 214, 215, 216, 217, 218, 219, 220, 221, 222, 223, 224] (by decide +kernel) (by decide +kernel)
set_option maxRecDepth 20000 in
theorem gL_rules_X6_disorder : GoodIn wsL_rules (wsV RL 27 RX6 yX6_disorder wsX6_disorder) := goodIn_app (goodIn_of _ (by decide +kernel)) ggL_rules_X6_disorder
set_option maxRecDepth 20000 in
theorem ggL_rules_X6_honestCost : GoodIn wsL_rules wsX6_honestCost := goodIn_r _ [163, 164, 23, 165, 25, 166, 167, 28, 29, 30, 31, 32, 33, 42, 43, 44, 45, 46, 47, 168, 169, 170, 171, 172, 173, 174, 175, 176, 177, 178, 179, 180, 181, 182, 183, 184, 185, 186, 187, 188, 80, 81, 82, 83, 100, 101, 102, 103, 189, 190, 191, 192, 149, 150, 151, 152, 193, 194, 195, 196, 197, 198, 199, 35, 36, 37, 38, 39, 40, 41, 48, 49, 50, 51, 200, 201, 202, 203, 210, 211, 212, 213, 214, 215, 216, 217, 218, 219, 220, 221, 222, 223, 224] (by decide +kernel) (by decide +kernel)
set_option maxRecDepth 20000 in
theorem gL_rules_X6_honestCost : GoodIn wsL_rules (wsV RL 31 RX6 yX6_honestCost wsX6_honestCost) := goodIn_app (goodIn_of _ (by decide +kernel)) ggL_rules_X6_honestCost
theorem dL_rules_0 : decode cL_rules 0 = .ok (.aload_n 0, 1) := by decide +kernel
theorem dL_rules_1 : decode cL_rules 1 = .ok (.iconst 0, 1) := by decide +kernel
theorem dL_rules_2 : decode cL_rules 2 = .ok (.invokevirtual 8, 3) := by decide +kernel
theorem dL_rules_5 : decode cL_rules 5 = .ok (.istore_n 1, 1) := by decide +kernel
theorem dL_rules_6 : decode cL_rules 6 = .ok (.iconst 0, 1) := by decide +kernel
theorem dL_rules_7 : decode cL_rules 7 = .ok (.istore_n 2, 1) := by decide +kernel
theorem dL_rules_8 : decode cL_rules 8 = .ok (.iconst 0, 1) := by decide +kernel
theorem dL_rules_9 : decode cL_rules 9 = .ok (.istore_n 3, 1) := by decide +kernel
theorem dL_rules_10 : decode cL_rules 10 = .ok (.iconst 0, 1) := by decide +kernel
theorem dL_rules_11 : decode cL_rules 11 = .ok (.istore 4, 2) := by decide +kernel
theorem dL_rules_13 : decode cL_rules 13 = .ok (.iconst 0, 1) := by decide +kernel
theorem dL_rules_14 : decode cL_rules 14 = .ok (.istore 5, 2) := by decide +kernel
theorem dL_rules_16 : decode cL_rules 16 = .ok (.iconst 0, 1) := by decide +kernel
theorem dL_rules_17 : decode cL_rules 17 = .ok (.istore 6, 2) := by decide +kernel
theorem dL_rules_19 : decode cL_rules 19 = .ok (.iconst 0, 1) := by decide +kernel
theorem dL_rules_20 : decode cL_rules 20 = .ok (.istore 7, 2) := by decide +kernel
theorem dL_rules_22 : decode cL_rules 22 = .ok (.iconst 0, 1) := by decide +kernel
theorem dL_rules_23 : decode cL_rules 23 = .ok (.istore 8, 2) := by decide +kernel
theorem dL_rules_25 : decode cL_rules 25 = .ok (.iconst 0, 1) := by decide +kernel
theorem dL_rules_26 : decode cL_rules 26 = .ok (.istore 9, 2) := by decide +kernel
theorem dL_rules_28 : decode cL_rules 28 = .ok (.iload 9, 2) := by decide +kernel
theorem dL_rules_30 : decode cL_rules 30 = .ok (.iload_n 1, 1) := by decide +kernel
theorem dL_rules_31 : decode cL_rules 31 = .ok (.if_icmp .ge 261, 3) := by decide +kernel
theorem dL_rules_34 : decode cL_rules 34 = .ok (.aload_n 0, 1) := by decide +kernel
theorem dL_rules_35 : decode cL_rules 35 = .ok (.iload 9, 2) := by decide +kernel
theorem dL_rules_37 : decode cL_rules 37 = .ok (.invokevirtual 14, 3) := by decide +kernel
theorem dL_rules_40 : decode cL_rules 40 = .ok (.istore 10, 2) := by decide +kernel
theorem dL_rules_42 : decode cL_rules 42 = .ok (.aload_n 0, 1) := by decide +kernel
theorem dL_rules_43 : decode cL_rules 43 = .ok (.iload 10, 2) := by decide +kernel
theorem dL_rules_45 : decode cL_rules 45 = .ok (.iconst 0, 1) := by decide +kernel
theorem dL_rules_46 : decode cL_rules 46 = .ok (.invokevirtual 17, 3) := by decide +kernel
theorem dL_rules_49 : decode cL_rules 49 = .ok (.iload 9, 2) := by decide +kernel
theorem dL_rules_51 : decode cL_rules 51 = .ok (.if_icmp .ne 70, 3) := by decide +kernel
theorem dL_rules_54 : decode cL_rules 54 = .ok (.aload_n 0, 1) := by decide +kernel
theorem dL_rules_55 : decode cL_rules 55 = .ok (.iload 10, 2) := by decide +kernel
theorem dL_rules_57 : decode cL_rules 57 = .ok (.iconst 4, 1) := by decide +kernel
theorem dL_rules_58 : decode cL_rules 58 = .ok (.invokevirtual 17, 3) := by decide +kernel
theorem dL_rules_61 : decode cL_rules 61 = .ok (.iload_n 2, 1) := by decide +kernel
theorem dL_rules_62 : decode cL_rules 62 = .ok (.if_icmp .ne 59, 3) := by decide +kernel
theorem dL_rules_65 : decode cL_rules 65 = .ok (.aload_n 0, 1) := by decide +kernel
theorem dL_rules_66 : decode cL_rules 66 = .ok (.iload 10, 2) := by decide +kernel
theorem dL_rules_68 : decode cL_rules 68 = .ok (.iconst 5, 1) := by decide +kernel
theorem dL_rules_69 : decode cL_rules 69 = .ok (.invokevirtual 17, 3) := by decide +kernel
theorem dL_rules_72 : decode cL_rules 72 = .ok (.iload_n 2, 1) := by decide +kernel
theorem dL_rules_73 : decode cL_rules 73 = .ok (.aload_n 0, 1) := by decide +kernel
theorem dL_rules_74 : decode cL_rules 74 = .ok (.iload 10, 2) := by decide +kernel
theorem dL_rules_76 : decode cL_rules 76 = .ok (.iconst 1, 1) := by decide +kernel
theorem dL_rules_77 : decode cL_rules 77 = .ok (.invokevirtual 17, 3) := by decide +kernel
theorem dL_rules_80 : decode cL_rules 80 = .ok (.imul, 1) := by decide +kernel
theorem dL_rules_81 : decode cL_rules 81 = .ok (.if_icmp .ne 40, 3) := by decide +kernel
theorem dL_rules_84 : decode cL_rules 84 = .ok (.iload 9, 2) := by decide +kernel
theorem dL_rules_86 : decode cL_rules 86 = .ok (.ifCond .ne 15, 3) := by decide +kernel
theorem dL_rules_89 : decode cL_rules 89 = .ok (.aload_n 0, 1) := by decide +kernel
theorem dL_rules_90 : decode cL_rules 90 = .ok (.iload 10, 2) := by decide +kernel
theorem dL_rules_92 : decode cL_rules 92 = .ok (.bipush 7, 2) := by decide +kernel
theorem dL_rules_94 : decode cL_rules 94 = .ok (.invokevirtual 17, 3) := by decide +kernel
theorem dL_rules_97 : decode cL_rules 97 = .ok (.iconst (-1), 1) := by decide +kernel
theorem dL_rules_98 : decode cL_rules 98 = .ok (.if_icmp .ne 23, 3) := by decide +kernel
theorem dL_rules_101 : decode cL_rules 101 = .ok (.iload 9, 2) := by decide +kernel
theorem dL_rules_103 : decode cL_rules 103 = .ok (.iload_n 1, 1) := by decide +kernel
theorem dL_rules_104 : decode cL_rules 104 = .ok (.iconst 1, 1) := by decide +kernel
theorem dL_rules_105 : decode cL_rules 105 = .ok (.isub, 1) := by decide +kernel
theorem dL_rules_106 : decode cL_rules 106 = .ok (.if_icmp .ne 17, 3) := by decide +kernel
theorem dL_rules_109 : decode cL_rules 109 = .ok (.aload_n 0, 1) := by decide +kernel
theorem dL_rules_110 : decode cL_rules 110 = .ok (.iload 10, 2) := by decide +kernel
theorem dL_rules_112 : decode cL_rules 112 = .ok (.bipush 8, 2) := by decide +kernel
theorem dL_rules_114 : decode cL_rules 114 = .ok (.invokevirtual 17, 3) := by decide +kernel
theorem dL_rules_117 : decode cL_rules 117 = .ok (.iconst (-1), 1) := by decide +kernel
theorem dL_rules_118 : decode cL_rules 118 = .ok (.if_icmp .eq 5, 3) := by decide +kernel
theorem dL_rules_121 : decode cL_rules 121 = .ok (.iconst 0, 1) := by decide +kernel
theorem dL_rules_122 : decode cL_rules 122 = .ok (.ireturn, 1) := by decide +kernel
theorem dL_rules_123 : decode cL_rules 123 = .ok (.iconst 0, 1) := by decide +kernel
theorem dL_rules_124 : decode cL_rules 124 = .ok (.istore 11, 2) := by decide +kernel
theorem dL_rules_126 : decode cL_rules 126 = .ok (.iload 11, 2) := by decide +kernel
theorem dL_rules_128 : decode cL_rules 128 = .ok (.iload 9, 2) := by decide +kernel
theorem dL_rules_130 : decode cL_rules 130 = .ok (.if_icmp .ge 87, 3) := by decide +kernel
theorem dL_rules_133 : decode cL_rules 133 = .ok (.aload_n 0, 1) := by decide +kernel
theorem dL_rules_134 : decode cL_rules 134 = .ok (.iload 11, 2) := by decide +kernel
theorem dL_rules_136 : decode cL_rules 136 = .ok (.invokevirtual 14, 3) := by decide +kernel
theorem dL_rules_139 : decode cL_rules 139 = .ok (.istore 12, 2) := by decide +kernel
theorem dL_rules_141 : decode cL_rules 141 = .ok (.aload_n 0, 1) := by decide +kernel
theorem dL_rules_142 : decode cL_rules 142 = .ok (.iload 10, 2) := by decide +kernel
theorem dL_rules_144 : decode cL_rules 144 = .ok (.iconst 1, 1) := by decide +kernel
theorem dL_rules_145 : decode cL_rules 145 = .ok (.invokevirtual 17, 3) := by decide +kernel
theorem dL_rules_148 : decode cL_rules 148 = .ok (.aload_n 0, 1) := by decide +kernel
theorem dL_rules_149 : decode cL_rules 149 = .ok (.iload 12, 2) := by decide +kernel
theorem dL_rules_151 : decode cL_rules 151 = .ok (.iconst 3, 1) := by decide +kernel
theorem dL_rules_152 : decode cL_rules 152 = .ok (.invokevirtual 17, 3) := by decide +kernel
theorem dL_rules_155 : decode cL_rules 155 = .ok (.imul, 1) := by decide +kernel
theorem dL_rules_156 : decode cL_rules 156 = .ok (.istore 13, 2) := by decide +kernel
theorem dL_rules_158 : decode cL_rules 158 = .ok (.aload_n 0, 1) := by decide +kernel
theorem dL_rules_159 : decode cL_rules 159 = .ok (.iload 12, 2) := by decide +kernel
theorem dL_rules_161 : decode cL_rules 161 = .ok (.iconst 1, 1) := by decide +kernel
theorem dL_rules_162 : decode cL_rules 162 = .ok (.invokevirtual 17, 3) := by decide +kernel
theorem dL_rules_165 : decode cL_rules 165 = .ok (.aload_n 0, 1) := by decide +kernel
theorem dL_rules_166 : decode cL_rules 166 = .ok (.iload 10, 2) := by decide +kernel
theorem dL_rules_168 : decode cL_rules 168 = .ok (.iconst 3, 1) := by decide +kernel
theorem dL_rules_169 : decode cL_rules 169 = .ok (.invokevirtual 17, 3) := by decide +kernel
theorem dL_rules_172 : decode cL_rules 172 = .ok (.imul, 1) := by decide +kernel
theorem dL_rules_173 : decode cL_rules 173 = .ok (.istore 14, 2) := by decide +kernel
theorem dL_rules_175 : decode cL_rules 175 = .ok (.iload 5, 2) := by decide +kernel
theorem dL_rules_177 : decode cL_rules 177 = .ok (.iload 13, 2) := by decide +kernel
theorem dL_rules_179 : decode cL_rules 179 = .ok (.iload 14, 2) := by decide +kernel
theorem dL_rules_181 : decode cL_rules 181 = .ok (.if_icmp .ge 8, 3) := by decide +kernel
theorem dL_rules_184 : decode cL_rules 184 = .ok (.iload 13, 2) := by decide +kernel
theorem dL_rules_186 : decode cL_rules 186 = .ok (.goto 5, 3) := by decide +kernel
theorem dL_rules_189 : decode cL_rules 189 = .ok (.iload 14, 2) := by decide +kernel
theorem dL_rules_191 : decode cL_rules 191 = .ok (.iadd, 1) := by decide +kernel
theorem dL_rules_192 : decode cL_rules 192 = .ok (.istore 5, 2) := by decide +kernel
theorem dL_rules_194 : decode cL_rules 194 = .ok (.iload 6, 2) := by decide +kernel
theorem dL_rules_196 : decode cL_rules 196 = .ok (.iload 13, 2) := by decide +kernel
theorem dL_rules_198 : decode cL_rules 198 = .ok (.iload 14, 2) := by decide +kernel
theorem dL_rules_200 : decode cL_rules 200 = .ok (.if_icmp .le 7, 3) := by decide +kernel
theorem dL_rules_203 : decode cL_rules 203 = .ok (.iconst 1, 1) := by decide +kernel
theorem dL_rules_204 : decode cL_rules 204 = .ok (.goto 4, 3) := by decide +kernel
theorem dL_rules_207 : decode cL_rules 207 = .ok (.iconst 0, 1) := by decide +kernel
theorem dL_rules_208 : decode cL_rules 208 = .ok (.iadd, 1) := by decide +kernel
theorem dL_rules_209 : decode cL_rules 209 = .ok (.istore 6, 2) := by decide +kernel
theorem dL_rules_211 : decode cL_rules 211 = .ok (.iinc 11 1, 3) := by decide +kernel
theorem dL_rules_214 : decode cL_rules 214 = .ok (.goto (-88), 3) := by decide +kernel
theorem dL_rules_217 : decode cL_rules 217 = .ok (.iload_n 3, 1) := by decide +kernel
theorem dL_rules_218 : decode cL_rules 218 = .ok (.aload_n 0, 1) := by decide +kernel
theorem dL_rules_219 : decode cL_rules 219 = .ok (.iload 10, 2) := by decide +kernel
theorem dL_rules_221 : decode cL_rules 221 = .ok (.iconst 5, 1) := by decide +kernel
theorem dL_rules_222 : decode cL_rules 222 = .ok (.invokevirtual 17, 3) := by decide +kernel
theorem dL_rules_225 : decode cL_rules 225 = .ok (.iadd, 1) := by decide +kernel
theorem dL_rules_226 : decode cL_rules 226 = .ok (.istore_n 3, 1) := by decide +kernel
theorem dL_rules_227 : decode cL_rules 227 = .ok (.iload 4, 2) := by decide +kernel
theorem dL_rules_229 : decode cL_rules 229 = .ok (.iload_n 2, 1) := by decide +kernel
theorem dL_rules_230 : decode cL_rules 230 = .ok (.aload_n 0, 1) := by decide +kernel
theorem dL_rules_231 : decode cL_rules 231 = .ok (.iload 10, 2) := by decide +kernel
theorem dL_rules_233 : decode cL_rules 233 = .ok (.iconst 2, 1) := by decide +kernel
theorem dL_rules_234 : decode cL_rules 234 = .ok (.invokevirtual 17, 3) := by decide +kernel
theorem dL_rules_237 : decode cL_rules 237 = .ok (.imul, 1) := by decide +kernel
theorem dL_rules_238 : decode cL_rules 238 = .ok (.iadd, 1) := by decide +kernel
theorem dL_rules_239 : decode cL_rules 239 = .ok (.istore 4, 2) := by decide +kernel
theorem dL_rules_241 : decode cL_rules 241 = .ok (.iload_n 2, 1) := by decide +kernel
theorem dL_rules_242 : decode cL_rules 242 = .ok (.aload_n 0, 1) := by decide +kernel
theorem dL_rules_243 : decode cL_rules 243 = .ok (.iload 10, 2) := by decide +kernel
theorem dL_rules_245 : decode cL_rules 245 = .ok (.iconst 3, 1) := by decide +kernel
theorem dL_rules_246 : decode cL_rules 246 = .ok (.invokevirtual 17, 3) := by decide +kernel
theorem dL_rules_249 : decode cL_rules 249 = .ok (.iadd, 1) := by decide +kernel
theorem dL_rules_250 : decode cL_rules 250 = .ok (.istore_n 2, 1) := by decide +kernel
theorem dL_rules_251 : decode cL_rules 251 = .ok (.iload 7, 2) := by decide +kernel
theorem dL_rules_253 : decode cL_rules 253 = .ok (.aload_n 0, 1) := by decide +kernel
theorem dL_rules_254 : decode cL_rules 254 = .ok (.iload 10, 2) := by decide +kernel
theorem dL_rules_256 : decode cL_rules 256 = .ok (.bipush 7, 2) := by decide +kernel
theorem dL_rules_258 : decode cL_rules 258 = .ok (.invokevirtual 17, 3) := by decide +kernel
theorem dL_rules_261 : decode cL_rules 261 = .ok (.iconst (-1), 1) := by decide +kernel
theorem dL_rules_262 : decode cL_rules 262 = .ok (.if_icmp .eq 7, 3) := by decide +kernel
theorem dL_rules_265 : decode cL_rules 265 = .ok (.iconst 1, 1) := by decide +kernel
theorem dL_rules_266 : decode cL_rules 266 = .ok (.goto 4, 3) := by decide +kernel
theorem dL_rules_269 : decode cL_rules 269 = .ok (.iconst 0, 1) := by decide +kernel
theorem dL_rules_270 : decode cL_rules 270 = .ok (.iadd, 1) := by decide +kernel
theorem dL_rules_271 : decode cL_rules 271 = .ok (.istore 7, 2) := by decide +kernel
theorem dL_rules_273 : decode cL_rules 273 = .ok (.iload 8, 2) := by decide +kernel
theorem dL_rules_275 : decode cL_rules 275 = .ok (.aload_n 0, 1) := by decide +kernel
theorem dL_rules_276 : decode cL_rules 276 = .ok (.iload 10, 2) := by decide +kernel
theorem dL_rules_278 : decode cL_rules 278 = .ok (.bipush 9, 2) := by decide +kernel
theorem dL_rules_280 : decode cL_rules 280 = .ok (.invokevirtual 17, 3) := by decide +kernel
theorem dL_rules_283 : decode cL_rules 283 = .ok (.iadd, 1) := by decide +kernel
theorem dL_rules_284 : decode cL_rules 284 = .ok (.istore 8, 2) := by decide +kernel
theorem dL_rules_286 : decode cL_rules 286 = .ok (.iinc 9 1, 3) := by decide +kernel
theorem dL_rules_289 : decode cL_rules 289 = .ok (.goto (-261), 3) := by decide +kernel
theorem dL_rules_292 : decode cL_rules 292 = .ok (.iconst 0, 1) := by decide +kernel
theorem dL_rules_293 : decode cL_rules 293 = .ok (.istore 9, 2) := by decide +kernel
theorem dL_rules_295 : decode cL_rules 295 = .ok (.iconst 0, 1) := by decide +kernel
theorem dL_rules_296 : decode cL_rules 296 = .ok (.istore 10, 2) := by decide +kernel
theorem dL_rules_298 : decode cL_rules 298 = .ok (.iconst 0, 1) := by decide +kernel
theorem dL_rules_299 : decode cL_rules 299 = .ok (.istore 11, 2) := by decide +kernel
theorem dL_rules_301 : decode cL_rules 301 = .ok (.iconst 0, 1) := by decide +kernel
theorem dL_rules_302 : decode cL_rules 302 = .ok (.istore 12, 2) := by decide +kernel
theorem dL_rules_304 : decode cL_rules 304 = .ok (.iload 12, 2) := by decide +kernel
theorem dL_rules_306 : decode cL_rules 306 = .ok (.iconst 1, 1) := by decide +kernel
theorem dL_rules_307 : decode cL_rules 307 = .ok (.iadd, 1) := by decide +kernel
theorem dL_rules_308 : decode cL_rules 308 = .ok (.iload_n 1, 1) := by decide +kernel
theorem dL_rules_309 : decode cL_rules 309 = .ok (.if_icmp .ge 344, 3) := by decide +kernel
theorem dL_rules_312 : decode cL_rules 312 = .ok (.aload_n 0, 1) := by decide +kernel
theorem dL_rules_313 : decode cL_rules 313 = .ok (.iload 12, 2) := by decide +kernel
theorem dL_rules_315 : decode cL_rules 315 = .ok (.invokevirtual 14, 3) := by decide +kernel
theorem dL_rules_318 : decode cL_rules 318 = .ok (.istore 13, 2) := by decide +kernel
theorem dL_rules_320 : decode cL_rules 320 = .ok (.aload_n 0, 1) := by decide +kernel
theorem dL_rules_321 : decode cL_rules 321 = .ok (.iload 12, 2) := by decide +kernel
theorem dL_rules_323 : decode cL_rules 323 = .ok (.iconst 1, 1) := by decide +kernel
theorem dL_rules_324 : decode cL_rules 324 = .ok (.iadd, 1) := by decide +kernel
theorem dL_rules_325 : decode cL_rules 325 = .ok (.invokevirtual 14, 3) := by decide +kernel
theorem dL_rules_328 : decode cL_rules 328 = .ok (.istore 14, 2) := by decide +kernel
theorem dL_rules_330 : decode cL_rules 330 = .ok (.aload_n 0, 1) := by decide +kernel
theorem dL_rules_331 : decode cL_rules 331 = .ok (.iload 14, 2) := by decide +kernel
theorem dL_rules_333 : decode cL_rules 333 = .ok (.iconst 2, 1) := by decide +kernel
theorem dL_rules_334 : decode cL_rules 334 = .ok (.invokevirtual 17, 3) := by decide +kernel
theorem dL_rules_337 : decode cL_rules 337 = .ok (.aload_n 0, 1) := by decide +kernel
theorem dL_rules_338 : decode cL_rules 338 = .ok (.iload 13, 2) := by decide +kernel
theorem dL_rules_340 : decode cL_rules 340 = .ok (.iconst 3, 1) := by decide +kernel
theorem dL_rules_341 : decode cL_rules 341 = .ok (.invokevirtual 17, 3) := by decide +kernel
theorem dL_rules_344 : decode cL_rules 344 = .ok (.imul, 1) := by decide +kernel
theorem dL_rules_345 : decode cL_rules 345 = .ok (.istore 15, 2) := by decide +kernel
theorem dL_rules_347 : decode cL_rules 347 = .ok (.aload_n 0, 1) := by decide +kernel
theorem dL_rules_348 : decode cL_rules 348 = .ok (.iload 13, 2) := by decide +kernel
theorem dL_rules_350 : decode cL_rules 350 = .ok (.iconst 2, 1) := by decide +kernel
theorem dL_rules_351 : decode cL_rules 351 = .ok (.invokevirtual 17, 3) := by decide +kernel
theorem dL_rules_354 : decode cL_rules 354 = .ok (.aload_n 0, 1) := by decide +kernel
theorem dL_rules_355 : decode cL_rules 355 = .ok (.iload 14, 2) := by decide +kernel
theorem dL_rules_357 : decode cL_rules 357 = .ok (.iconst 3, 1) := by decide +kernel
theorem dL_rules_358 : decode cL_rules 358 = .ok (.invokevirtual 17, 3) := by decide +kernel
theorem dL_rules_361 : decode cL_rules 361 = .ok (.imul, 1) := by decide +kernel
theorem dL_rules_362 : decode cL_rules 362 = .ok (.istore 16, 2) := by decide +kernel
theorem dL_rules_364 : decode cL_rules 364 = .ok (.iload 15, 2) := by decide +kernel
theorem dL_rules_366 : decode cL_rules 366 = .ok (.iload 16, 2) := by decide +kernel
theorem dL_rules_368 : decode cL_rules 368 = .ok (.isub, 1) := by decide +kernel
theorem dL_rules_369 : decode cL_rules 369 = .ok (.istore 17, 2) := by decide +kernel
theorem dL_rules_371 : decode cL_rules 371 = .ok (.aload_n 0, 1) := by decide +kernel
theorem dL_rules_372 : decode cL_rules 372 = .ok (.iload 12, 2) := by decide +kernel
theorem dL_rules_374 : decode cL_rules 374 = .ok (.invokevirtual 21, 3) := by decide +kernel
theorem dL_rules_377 : decode cL_rules 377 = .ok (.istore 18, 2) := by decide +kernel
theorem dL_rules_379 : decode cL_rules 379 = .ok (.iload 12, 2) := by decide +kernel
theorem dL_rules_381 : decode cL_rules 381 = .ok (.ifCond .le 20, 3) := by decide +kernel
theorem dL_rules_384 : decode cL_rules 384 = .ok (.aload_n 0, 1) := by decide +kernel
theorem dL_rules_385 : decode cL_rules 385 = .ok (.iload 12, 2) := by decide +kernel
theorem dL_rules_387 : decode cL_rules 387 = .ok (.iconst 1, 1) := by decide +kernel
theorem dL_rules_388 : decode cL_rules 388 = .ok (.isub, 1) := by decide +kernel
theorem dL_rules_389 : decode cL_rules 389 = .ok (.iconst 4, 1) := by decide +kernel
theorem dL_rules_390 : decode cL_rules 390 = .ok (.invokevirtual 24, 3) := by decide +kernel
theorem dL_rules_393 : decode cL_rules 393 = .ok (.iconst 1, 1) := by decide +kernel
theorem dL_rules_394 : decode cL_rules 394 = .ok (.if_icmp .ne 7, 3) := by decide +kernel
theorem dL_rules_397 : decode cL_rules 397 = .ok (.iconst 1, 1) := by decide +kernel
theorem dL_rules_398 : decode cL_rules 398 = .ok (.goto 4, 3) := by decide +kernel
theorem dL_rules_401 : decode cL_rules 401 = .ok (.iconst 0, 1) := by decide +kernel
theorem dL_rules_402 : decode cL_rules 402 = .ok (.istore 19, 2) := by decide +kernel
theorem dL_rules_404 : decode cL_rules 404 = .ok (.iload 12, 2) := by decide +kernel
theorem dL_rules_406 : decode cL_rules 406 = .ok (.iconst 2, 1) := by decide +kernel
theorem dL_rules_407 : decode cL_rules 407 = .ok (.iadd, 1) := by decide +kernel
theorem dL_rules_408 : decode cL_rules 408 = .ok (.iload_n 1, 1) := by decide +kernel
theorem dL_rules_409 : decode cL_rules 409 = .ok (.if_icmp .ge 20, 3) := by decide +kernel
theorem dL_rules_412 : decode cL_rules 412 = .ok (.aload_n 0, 1) := by decide +kernel
theorem dL_rules_413 : decode cL_rules 413 = .ok (.iload 12, 2) := by decide +kernel
theorem dL_rules_415 : decode cL_rules 415 = .ok (.iconst 1, 1) := by decide +kernel
theorem dL_rules_416 : decode cL_rules 416 = .ok (.iadd, 1) := by decide +kernel
theorem dL_rules_417 : decode cL_rules 417 = .ok (.iconst 4, 1) := by decide +kernel
theorem dL_rules_418 : decode cL_rules 418 = .ok (.invokevirtual 24, 3) := by decide +kernel
theorem dL_rules_421 : decode cL_rules 421 = .ok (.iconst 1, 1) := by decide +kernel
theorem dL_rules_422 : decode cL_rules 422 = .ok (.if_icmp .ne 7, 3) := by decide +kernel
theorem dL_rules_425 : decode cL_rules 425 = .ok (.iconst 1, 1) := by decide +kernel
theorem dL_rules_426 : decode cL_rules 426 = .ok (.goto 4, 3) := by decide +kernel
theorem dL_rules_429 : decode cL_rules 429 = .ok (.iconst 0, 1) := by decide +kernel
theorem dL_rules_430 : decode cL_rules 430 = .ok (.istore 20, 2) := by decide +kernel
theorem dL_rules_432 : decode cL_rules 432 = .ok (.aload_n 0, 1) := by decide +kernel
theorem dL_rules_433 : decode cL_rules 433 = .ok (.iload 12, 2) := by decide +kernel
theorem dL_rules_435 : decode cL_rules 435 = .ok (.iconst 4, 1) := by decide +kernel
theorem dL_rules_436 : decode cL_rules 436 = .ok (.invokevirtual 24, 3) := by decide +kernel
theorem dL_rules_439 : decode cL_rules 439 = .ok (.iconst 1, 1) := by decide +kernel
theorem dL_rules_440 : decode cL_rules 440 = .ok (.if_icmp .ne 7, 3) := by decide +kernel
theorem dL_rules_443 : decode cL_rules 443 = .ok (.iconst 1, 1) := by decide +kernel
theorem dL_rules_444 : decode cL_rules 444 = .ok (.goto 31, 3) := by decide +kernel
theorem dL_rules_447 : decode cL_rules 447 = .ok (.iload 19, 2) := by decide +kernel
theorem dL_rules_449 : decode cL_rules 449 = .ok (.ifCond .eq 7, 3) := by decide +kernel
theorem dL_rules_452 : decode cL_rules 452 = .ok (.iconst 2, 1) := by decide +kernel
theorem dL_rules_453 : decode cL_rules 453 = .ok (.goto 22, 3) := by decide +kernel
theorem dL_rules_456 : decode cL_rules 456 = .ok (.iload 20, 2) := by decide +kernel
theorem dL_rules_458 : decode cL_rules 458 = .ok (.ifCond .eq 7, 3) := by decide +kernel
theorem dL_rules_461 : decode cL_rules 461 = .ok (.iconst 3, 1) := by decide +kernel
theorem dL_rules_462 : decode cL_rules 462 = .ok (.goto 13, 3) := by decide +kernel
theorem dL_rules_465 : decode cL_rules 465 = .ok (.iload 17, 2) := by decide +kernel
theorem dL_rules_467 : decode cL_rules 467 = .ok (.ifCond .le 7, 3) := by decide +kernel
theorem dL_rules_470 : decode cL_rules 470 = .ok (.iconst 0, 1) := by decide +kernel
theorem dL_rules_471 : decode cL_rules 471 = .ok (.goto 4, 3) := by decide +kernel
theorem dL_rules_474 : decode cL_rules 474 = .ok (.iconst 4, 1) := by decide +kernel
theorem dL_rules_475 : decode cL_rules 475 = .ok (.istore 21, 2) := by decide +kernel
theorem dL_rules_477 : decode cL_rules 477 = .ok (.iload 18, 2) := by decide +kernel
theorem dL_rules_479 : decode cL_rules 479 = .ok (.iload 21, 2) := by decide +kernel
theorem dL_rules_481 : decode cL_rules 481 = .ok (.if_icmp .ne 91, 3) := by decide +kernel
theorem dL_rules_484 : decode cL_rules 484 = .ok (.aload_n 0, 1) := by decide +kernel
theorem dL_rules_485 : decode cL_rules 485 = .ok (.iload 12, 2) := by decide +kernel
theorem dL_rules_487 : decode cL_rules 487 = .ok (.iconst 0, 1) := by decide +kernel
theorem dL_rules_488 : decode cL_rules 488 = .ok (.invokevirtual 24, 3) := by decide +kernel
theorem dL_rules_491 : decode cL_rules 491 = .ok (.iload 15, 2) := by decide +kernel
theorem dL_rules_493 : decode cL_rules 493 = .ok (.if_icmp .ne 79, 3) := by decide +kernel
theorem dL_rules_496 : decode cL_rules 496 = .ok (.aload_n 0, 1) := by decide +kernel
theorem dL_rules_497 : decode cL_rules 497 = .ok (.iload 12, 2) := by decide +kernel
theorem dL_rules_499 : decode cL_rules 499 = .ok (.iconst 1, 1) := by decide +kernel
theorem dL_rules_500 : decode cL_rules 500 = .ok (.invokevirtual 24, 3) := by decide +kernel
theorem dL_rules_503 : decode cL_rules 503 = .ok (.iload 16, 2) := by decide +kernel
theorem dL_rules_505 : decode cL_rules 505 = .ok (.if_icmp .ne 67, 3) := by decide +kernel
theorem dL_rules_508 : decode cL_rules 508 = .ok (.aload_n 0, 1) := by decide +kernel
theorem dL_rules_509 : decode cL_rules 509 = .ok (.iload 12, 2) := by decide +kernel
theorem dL_rules_511 : decode cL_rules 511 = .ok (.iconst 2, 1) := by decide +kernel
theorem dL_rules_512 : decode cL_rules 512 = .ok (.invokevirtual 24, 3) := by decide +kernel
theorem dL_rules_515 : decode cL_rules 515 = .ok (.iload 17, 2) := by decide +kernel
theorem dL_rules_517 : decode cL_rules 517 = .ok (.if_icmp .ne 55, 3) := by decide +kernel
theorem dL_rules_520 : decode cL_rules 520 = .ok (.aload_n 0, 1) := by decide +kernel
theorem dL_rules_521 : decode cL_rules 521 = .ok (.iload 12, 2) := by decide +kernel
theorem dL_rules_523 : decode cL_rules 523 = .ok (.iconst 3, 1) := by decide +kernel
theorem dL_rules_524 : decode cL_rules 524 = .ok (.invokevirtual 24, 3) := by decide +kernel
theorem dL_rules_527 : decode cL_rules 527 = .ok (.iload 17, 2) := by decide +kernel
theorem dL_rules_529 : decode cL_rules 529 = .ok (.ifCond .le 20, 3) := by decide +kernel
theorem dL_rules_532 : decode cL_rules 532 = .ok (.iload 16, 2) := by decide +kernel
theorem dL_rules_534 : decode cL_rules 534 = .ok (.iload 17, 2) := by decide +kernel
theorem dL_rules_536 : decode cL_rules 536 = .ok (.aload_n 0, 1) := by decide +kernel
theorem dL_rules_537 : decode cL_rules 537 = .ok (.iconst 1, 1) := by decide +kernel
theorem dL_rules_538 : decode cL_rules 538 = .ok (.invokevirtual 8, 3) := by decide +kernel
theorem dL_rules_541 : decode cL_rules 541 = .ok (.imul, 1) := by decide +kernel
theorem dL_rules_542 : decode cL_rules 542 = .ok (.bipush 100, 2) := by decide +kernel
theorem dL_rules_544 : decode cL_rules 544 = .ok (.idiv, 1) := by decide +kernel
theorem dL_rules_545 : decode cL_rules 545 = .ok (.iadd, 1) := by decide +kernel
theorem dL_rules_546 : decode cL_rules 546 = .ok (.goto 4, 3) := by decide +kernel
theorem dL_rules_549 : decode cL_rules 549 = .ok (.iconst (-1), 1) := by decide +kernel
theorem dL_rules_550 : decode cL_rules 550 = .ok (.if_icmp .ne 22, 3) := by decide +kernel
theorem dL_rules_553 : decode cL_rules 553 = .ok (.aload_n 0, 1) := by decide +kernel
theorem dL_rules_554 : decode cL_rules 554 = .ok (.iload 13, 2) := by decide +kernel
theorem dL_rules_556 : decode cL_rules 556 = .ok (.bipush 8, 2) := by decide +kernel
theorem dL_rules_558 : decode cL_rules 558 = .ok (.invokevirtual 17, 3) := by decide +kernel
theorem dL_rules_561 : decode cL_rules 561 = .ok (.aload_n 0, 1) := by decide +kernel
theorem dL_rules_562 : decode cL_rules 562 = .ok (.iload 14, 2) := by decide +kernel
theorem dL_rules_564 : decode cL_rules 564 = .ok (.bipush 7, 2) := by decide +kernel
theorem dL_rules_566 : decode cL_rules 566 = .ok (.invokevirtual 17, 3) := by decide +kernel
theorem dL_rules_569 : decode cL_rules 569 = .ok (.if_icmp .eq 5, 3) := by decide +kernel
theorem dL_rules_572 : decode cL_rules 572 = .ok (.iconst 0, 1) := by decide +kernel
theorem dL_rules_573 : decode cL_rules 573 = .ok (.ireturn, 1) := by decide +kernel
theorem dL_rules_574 : decode cL_rules 574 = .ok (.iload 9, 2) := by decide +kernel
theorem dL_rules_576 : decode cL_rules 576 = .ok (.iload 18, 2) := by decide +kernel
theorem dL_rules_578 : decode cL_rules 578 = .ok (.ifCond .ne 7, 3) := by decide +kernel
theorem dL_rules_581 : decode cL_rules 581 = .ok (.iconst 1, 1) := by decide +kernel
theorem dL_rules_582 : decode cL_rules 582 = .ok (.goto 4, 3) := by decide +kernel
theorem dL_rules_585 : decode cL_rules 585 = .ok (.iconst 0, 1) := by decide +kernel
theorem dL_rules_586 : decode cL_rules 586 = .ok (.iadd, 1) := by decide +kernel
theorem dL_rules_587 : decode cL_rules 587 = .ok (.istore 9, 2) := by decide +kernel
theorem dL_rules_589 : decode cL_rules 589 = .ok (.iload 10, 2) := by decide +kernel
theorem dL_rules_591 : decode cL_rules 591 = .ok (.aload_n 0, 1) := by decide +kernel
theorem dL_rules_592 : decode cL_rules 592 = .ok (.iload 14, 2) := by decide +kernel
theorem dL_rules_594 : decode cL_rules 594 = .ok (.bipush 7, 2) := by decide +kernel
theorem dL_rules_596 : decode cL_rules 596 = .ok (.invokevirtual 17, 3) := by decide +kernel
theorem dL_rules_599 : decode cL_rules 599 = .ok (.iload 16, 2) := by decide +kernel
theorem dL_rules_601 : decode cL_rules 601 = .ok (.if_icmp .lt 30, 3) := by decide +kernel
theorem dL_rules_604 : decode cL_rules 604 = .ok (.aload_n 0, 1) := by decide +kernel
theorem dL_rules_605 : decode cL_rules 605 = .ok (.iload 14, 2) := by decide +kernel
theorem dL_rules_607 : decode cL_rules 607 = .ok (.bipush 7, 2) := by decide +kernel
theorem dL_rules_609 : decode cL_rules 609 = .ok (.invokevirtual 17, 3) := by decide +kernel
theorem dL_rules_612 : decode cL_rules 612 = .ok (.iconst (-1), 1) := by decide +kernel
theorem dL_rules_613 : decode cL_rules 613 = .ok (.if_icmp .eq 18, 3) := by decide +kernel
theorem dL_rules_616 : decode cL_rules 616 = .ok (.iload 18, 2) := by decide +kernel
theorem dL_rules_618 : decode cL_rules 618 = .ok (.ifCond .eq 9, 3) := by decide +kernel
theorem dL_rules_621 : decode cL_rules 621 = .ok (.iload 18, 2) := by decide +kernel
theorem dL_rules_623 : decode cL_rules 623 = .ok (.iconst 4, 1) := by decide +kernel
theorem dL_rules_624 : decode cL_rules 624 = .ok (.if_icmp .ne 7, 3) := by decide +kernel
theorem dL_rules_627 : decode cL_rules 627 = .ok (.iconst 1, 1) := by decide +kernel
theorem dL_rules_628 : decode cL_rules 628 = .ok (.goto 4, 3) := by decide +kernel
theorem dL_rules_631 : decode cL_rules 631 = .ok (.iconst 0, 1) := by decide +kernel
theorem dL_rules_632 : decode cL_rules 632 = .ok (.iadd, 1) := by decide +kernel
theorem dL_rules_633 : decode cL_rules 633 = .ok (.istore 10, 2) := by decide +kernel
theorem dL_rules_635 : decode cL_rules 635 = .ok (.iload 11, 2) := by decide +kernel
theorem dL_rules_637 : decode cL_rules 637 = .ok (.aload_n 0, 1) := by decide +kernel
theorem dL_rules_638 : decode cL_rules 638 = .ok (.iload 12, 2) := by decide +kernel
theorem dL_rules_640 : decode cL_rules 640 = .ok (.iconst 4, 1) := by decide +kernel
theorem dL_rules_641 : decode cL_rules 641 = .ok (.invokevirtual 24, 3) := by decide +kernel
theorem dL_rules_644 : decode cL_rules 644 = .ok (.iadd, 1) := by decide +kernel
theorem dL_rules_645 : decode cL_rules 645 = .ok (.istore 11, 2) := by decide +kernel
theorem dL_rules_647 : decode cL_rules 647 = .ok (.iinc 12 1, 3) := by decide +kernel
theorem dL_rules_650 : decode cL_rules 650 = .ok (.goto (-346), 3) := by decide +kernel
theorem dL_rules_653 : decode cL_rules 653 = .ok (.aload_n 0, 1) := by decide +kernel
theorem dL_rules_654 : decode cL_rules 654 = .ok (.iconst 2, 1) := by decide +kernel
theorem dL_rules_655 : decode cL_rules 655 = .ok (.invokevirtual 8, 3) := by decide +kernel
theorem dL_rules_658 : decode cL_rules 658 = .ok (.iload_n 3, 1) := by decide +kernel
theorem dL_rules_659 : decode cL_rules 659 = .ok (.if_icmp .ne 79, 3) := by decide +kernel
theorem dL_rules_662 : decode cL_rules 662 = .ok (.aload_n 0, 1) := by decide +kernel
theorem dL_rules_663 : decode cL_rules 663 = .ok (.iconst 3, 1) := by decide +kernel
theorem dL_rules_664 : decode cL_rules 664 = .ok (.invokevirtual 8, 3) := by decide +kernel
theorem dL_rules_667 : decode cL_rules 667 = .ok (.iload 4, 2) := by decide +kernel
theorem dL_rules_669 : decode cL_rules 669 = .ok (.if_icmp .ne 69, 3) := by decide +kernel
theorem dL_rules_672 : decode cL_rules 672 = .ok (.aload_n 0, 1) := by decide +kernel
theorem dL_rules_673 : decode cL_rules 673 = .ok (.iconst 4, 1) := by decide +kernel
theorem dL_rules_674 : decode cL_rules 674 = .ok (.invokevirtual 8, 3) := by decide +kernel
theorem dL_rules_677 : decode cL_rules 677 = .ok (.iload 5, 2) := by decide +kernel
theorem dL_rules_679 : decode cL_rules 679 = .ok (.if_icmp .ne 59, 3) := by decide +kernel
theorem dL_rules_682 : decode cL_rules 682 = .ok (.aload_n 0, 1) := by decide +kernel
theorem dL_rules_683 : decode cL_rules 683 = .ok (.iconst 5, 1) := by decide +kernel
theorem dL_rules_684 : decode cL_rules 684 = .ok (.invokevirtual 8, 3) := by decide +kernel
theorem dL_rules_687 : decode cL_rules 687 = .ok (.iload 9, 2) := by decide +kernel
theorem dL_rules_689 : decode cL_rules 689 = .ok (.if_icmp .ne 49, 3) := by decide +kernel
theorem dL_rules_692 : decode cL_rules 692 = .ok (.aload_n 0, 1) := by decide +kernel
theorem dL_rules_693 : decode cL_rules 693 = .ok (.bipush 6, 2) := by decide +kernel
theorem dL_rules_695 : decode cL_rules 695 = .ok (.invokevirtual 8, 3) := by decide +kernel
theorem dL_rules_698 : decode cL_rules 698 = .ok (.iload 7, 2) := by decide +kernel
theorem dL_rules_700 : decode cL_rules 700 = .ok (.if_icmp .ne 38, 3) := by decide +kernel
theorem dL_rules_703 : decode cL_rules 703 = .ok (.aload_n 0, 1) := by decide +kernel
theorem dL_rules_704 : decode cL_rules 704 = .ok (.bipush 7, 2) := by decide +kernel
theorem dL_rules_706 : decode cL_rules 706 = .ok (.invokevirtual 8, 3) := by decide +kernel
theorem dL_rules_709 : decode cL_rules 709 = .ok (.iload 10, 2) := by decide +kernel
theorem dL_rules_711 : decode cL_rules 711 = .ok (.if_icmp .ne 27, 3) := by decide +kernel
theorem dL_rules_714 : decode cL_rules 714 = .ok (.aload_n 0, 1) := by decide +kernel
theorem dL_rules_715 : decode cL_rules 715 = .ok (.bipush 8, 2) := by decide +kernel
theorem dL_rules_717 : decode cL_rules 717 = .ok (.invokevirtual 8, 3) := by decide +kernel
theorem dL_rules_720 : decode cL_rules 720 = .ok (.iload 11, 2) := by decide +kernel
theorem dL_rules_722 : decode cL_rules 722 = .ok (.if_icmp .ne 16, 3) := by decide +kernel
theorem dL_rules_725 : decode cL_rules 725 = .ok (.iload 8, 2) := by decide +kernel
theorem dL_rules_727 : decode cL_rules 727 = .ok (.iconst 2, 1) := by decide +kernel
theorem dL_rules_728 : decode cL_rules 728 = .ok (.iload 11, 2) := by decide +kernel
theorem dL_rules_730 : decode cL_rules 730 = .ok (.imul, 1) := by decide +kernel
theorem dL_rules_731 : decode cL_rules 731 = .ok (.if_icmp .ne 7, 3) := by decide +kernel
theorem dL_rules_734 : decode cL_rules 734 = .ok (.iconst 1, 1) := by decide +kernel
theorem dL_rules_735 : decode cL_rules 735 = .ok (.goto 4, 3) := by decide +kernel
theorem dL_rules_738 : decode cL_rules 738 = .ok (.iconst 0, 1) := by decide +kernel
theorem dL_rules_739 : decode cL_rules 739 = .ok (.istore 12, 2) := by decide +kernel
theorem dL_rules_741 : decode cL_rules 741 = .ok (.iload 12, 2) := by decide +kernel
theorem dL_rules_743 : decode cL_rules 743 = .ok (.ifCond .eq 48, 3) := by decide +kernel
theorem dL_rules_746 : decode cL_rules 746 = .ok (.aload_n 0, 1) := by decide +kernel
theorem dL_rules_747 : decode cL_rules 747 = .ok (.iload_n 1, 1) := by decide +kernel
theorem dL_rules_748 : decode cL_rules 748 = .ok (.invokevirtual 14, 3) := by decide +kernel
theorem dL_rules_751 : decode cL_rules 751 = .ok (.iconst (-1), 1) := by decide +kernel
theorem dL_rules_752 : decode cL_rules 752 = .ok (.if_icmp .ne 39, 3) := by decide +kernel
theorem dL_rules_755 : decode cL_rules 755 = .ok (.aload_n 0, 1) := by decide +kernel
theorem dL_rules_756 : decode cL_rules 756 = .ok (.invokevirtual 27, 3) := by decide +kernel
theorem dL_rules_759 : decode cL_rules 759 = .ok (.iload 6, 2) := by decide +kernel
theorem dL_rules_761 : decode cL_rules 761 = .ok (.if_icmp .ne 30, 3) := by decide +kernel
theorem dL_rules_764 : decode cL_rules 764 = .ok (.iload 5, 2) := by decide +kernel
theorem dL_rules_766 : decode cL_rules 766 = .ok (.iload_n 3, 1) := by decide +kernel
theorem dL_rules_767 : decode cL_rules 767 = .ok (.if_icmp .gt 24, 3) := by decide +kernel
theorem dL_rules_770 : decode cL_rules 770 = .ok (.aload_n 0, 1) := by decide +kernel
theorem dL_rules_771 : decode cL_rules 771 = .ok (.invokevirtual 31, 3) := by decide +kernel
theorem dL_rules_774 : decode cL_rules 774 = .ok (.iload 5, 2) := by decide +kernel
theorem dL_rules_776 : decode cL_rules 776 = .ok (.if_icmp .lt 15, 3) := by decide +kernel
theorem dL_rules_779 : decode cL_rules 779 = .ok (.aload_n 0, 1) := by decide +kernel
theorem dL_rules_780 : decode cL_rules 780 = .ok (.invokevirtual 31, 3) := by decide +kernel
theorem dL_rules_783 : decode cL_rules 783 = .ok (.iload_n 3, 1) := by decide +kernel
theorem dL_rules_784 : decode cL_rules 784 = .ok (.if_icmp .gt 7, 3) := by decide +kernel
theorem dL_rules_787 : decode cL_rules 787 = .ok (.iconst 1, 1) := by decide +kernel
theorem dL_rules_788 : decode cL_rules 788 = .ok (.goto 4, 3) := by decide +kernel
theorem dL_rules_791 : decode cL_rules 791 = .ok (.iconst 0, 1) := by decide +kernel
theorem dL_rules_792 : decode cL_rules 792 = .ok (.ireturn, 1) := by decide +kernel
set_option maxRecDepth 20000 in
theorem ggL_money_X6_whole : GoodIn wsL_money wsX6_whole := goodIn_ca (goodIn_ca (goodIn_ca (goodIn_r _ [5, 6, 7, 4, 8, 9, 10, 11, 12, 13, 14, 15, 16, 17, 18, 19, 20, 21, 22, 23, 24, 25, 26, 27, 28, 29, 30, 31, 32, 33, 34, 35, 36, 37, 38, 39, 40, 41, 42, 43, 44, 45, 46, 47, 48, 49, 50, 51, 52, 53, 54, 55, 56, 57, 58, 59, 60, 61, 62, 63, 64, 65, 66, 67, 68, 69, 70, 71, 72, 73, 74, 75, 76, 77, 78, 79, 80, 81, 82, 83, 84, 85, 86, 87, 88, 89, 90, 91, 92, 93, 94, 95, 96, 97, 98, 99, 100, 101, 102, 103, 104, 105, 106, 107, 130, 131, 132, 133, 134, 135, 136, 137, 138, 139, 140, 141, 142, 143, 144, 145, 146, 147, 148, 149, 150, 151, 152, 153, 154] (by decide +kernel) (by decide +kernel)) (goodIn_sub (fun _ h => List.mem_cons_of_mem _ (List.mem_append_left _ (List.mem_append_left _ (List.mem_append_right _ h)))) (by decide +kernel))) (goodIn_sub (fun _ h => List.mem_cons_of_mem _ (List.mem_append_left _ (List.mem_append_right _ h))) (by decide +kernel))) (goodIn_sub (fun _ h => List.mem_cons_of_mem _ (List.mem_append_right _ h)) (by decide +kernel))
set_option maxRecDepth 20000 in
theorem gL_money_X6_whole : GoodIn wsL_money (wsV RL 8 RX6 yX6_whole wsX6_whole) := goodIn_app (goodIn_of _ (by decide +kernel)) ggL_money_X6_whole
set_option maxRecDepth 20000 in
theorem ggL_money_X6_at : GoodIn wsL_money wsX6_at := goodIn_ca (goodIn_ca (goodIn_ca (goodIn_r _ [111, 23, 9, 10, 4, 11, 12, 13, 14, 15, 16, 17, 43, 25, 44, 45, 28, 46, 47, 130, 131, 132, 133, 148, 149, 150, 151, 152, 153, 154, 140, 141, 142, 143, 144, 145, 146, 147] (by decide +kernel) (by decide +kernel)) (goodIn_sub (fun _ h => List.mem_cons_of_mem _ (List.mem_append_left _ (List.mem_append_left _ (List.mem_append_right _ h)))) (by decide +kernel))) (goodIn_sub (fun _ h => List.mem_cons_of_mem _ (List.mem_append_left _ (List.mem_append_right _ h))) (by decide +kernel))) (goodIn_sub (fun _ h => List.mem_cons_of_mem _ (List.mem_append_right _ h)) (by decide +kernel))
set_option maxRecDepth 20000 in
theorem gL_money_X6_at : GoodIn wsL_money (wsV RL 14 RX6 yX6_at wsX6_at) := goodIn_app (goodIn_of _ (by decide +kernel)) ggL_money_X6_at
set_option maxRecDepth 20000 in
theorem ggL_money_X6_member : GoodIn wsL_money wsX6_member := goodIn_ca (goodIn_ca (goodIn_ca (goodIn_r _ [115, 23, 116, 25, 117, 118, 28, 42, 43, 44, 45, 46, 47, 6, 7, 4, 8, 119, 120, 121, 122, 9, 10, 11, 12, 13, 14, 15, 16, 17, 123, 124, 125, 48, 49, 50, 51, 38, 39, 40, 41, 126, 127, 128, 129, 76, 77, 78, 79, 130, 131, 132, 133, 140, 141, 142, 143, 144, 145, 146, 147, 148, 149, 150, 151, 152, 153, 154] (by decide +kernel) (by decide +kernel)) (goodIn_sub (fun _ h => List.mem_cons_of_mem _ (List.mem_append_left _ (List.mem_append_left _ (List.mem_append_right _ h)))) (by decide +kernel))) (goodIn_sub (fun _ h => List.mem_cons_of_mem _ (List.mem_append_left _ (List.mem_append_right _ h))) (by decide +kernel))) (goodIn_sub (fun _ h => List.mem_cons_of_mem _ (List.mem_append_right _ h)) (by decide +kernel))
set_option maxRecDepth 20000 in
theorem gL_money_X6_member : GoodIn wsL_money (wsV RL 17 RX6 yX6_member wsX6_member) := goodIn_app (goodIn_of _ (by decide +kernel)) ggL_money_X6_member
theorem dL_money_0 : decode cL_money 0 = .ok (.iconst 0, 1) := by decide +kernel
theorem dL_money_1 : decode cL_money 1 = .ok (.istore_n 1, 1) := by decide +kernel
theorem dL_money_2 : decode cL_money 2 = .ok (.iconst 0, 1) := by decide +kernel
theorem dL_money_3 : decode cL_money 3 = .ok (.istore_n 2, 1) := by decide +kernel
theorem dL_money_4 : decode cL_money 4 = .ok (.iload_n 2, 1) := by decide +kernel
theorem dL_money_5 : decode cL_money 5 = .ok (.aload_n 0, 1) := by decide +kernel
theorem dL_money_6 : decode cL_money 6 = .ok (.iconst 0, 1) := by decide +kernel
theorem dL_money_7 : decode cL_money 7 = .ok (.invokevirtual 8, 3) := by decide +kernel
theorem dL_money_10 : decode cL_money 10 = .ok (.if_icmp .ge 23, 3) := by decide +kernel
theorem dL_money_13 : decode cL_money 13 = .ok (.iload_n 1, 1) := by decide +kernel
theorem dL_money_14 : decode cL_money 14 = .ok (.aload_n 0, 1) := by decide +kernel
theorem dL_money_15 : decode cL_money 15 = .ok (.aload_n 0, 1) := by decide +kernel
theorem dL_money_16 : decode cL_money 16 = .ok (.iload_n 2, 1) := by decide +kernel
theorem dL_money_17 : decode cL_money 17 = .ok (.invokevirtual 14, 3) := by decide +kernel
theorem dL_money_20 : decode cL_money 20 = .ok (.bipush 6, 2) := by decide +kernel
theorem dL_money_22 : decode cL_money 22 = .ok (.invokevirtual 17, 3) := by decide +kernel
theorem dL_money_25 : decode cL_money 25 = .ok (.iadd, 1) := by decide +kernel
theorem dL_money_26 : decode cL_money 26 = .ok (.istore_n 1, 1) := by decide +kernel
theorem dL_money_27 : decode cL_money 27 = .ok (.iinc 2 1, 3) := by decide +kernel
theorem dL_money_30 : decode cL_money 30 = .ok (.goto (-26), 3) := by decide +kernel
theorem dL_money_33 : decode cL_money 33 = .ok (.iload_n 1, 1) := by decide +kernel
theorem dL_money_34 : decode cL_money 34 = .ok (.ireturn, 1) := by decide +kernel
set_option maxRecDepth 20000 in
theorem ggL_settles_X6_whole : GoodIn wsL_settles wsX6_whole := goodIn_ca (goodIn_ca (goodIn_ca (goodIn_r _ [5, 6, 7, 4, 8, 9, 10, 11, 12, 13, 14, 15, 16, 17, 18, 19, 20, 21, 22, 23, 24, 25, 26, 27, 28, 29, 30, 31, 32, 33, 34, 35, 36, 37, 38, 39, 40, 41, 42, 43, 44, 45, 46, 47, 48, 49, 50, 51, 52, 53, 54, 55, 56, 57, 58, 59, 60, 61, 62, 63, 64, 65, 66, 67, 68, 69, 70, 71, 72, 73, 74, 75, 76, 77, 78, 79, 80, 81, 82, 83, 84, 85, 86, 87, 88, 89, 90, 91, 92, 93, 94, 95, 96, 97, 98, 99, 100, 101, 102, 103, 104, 105, 106, 107, 272, 273, 274, 275, 276, 277, 278, 279, 280, 281, 282, 283, 284, 285, 286, 287, 288, 289, 290, 291, 292, 293, 294, 295, 296] (by decide +kernel) (by decide +kernel)) (goodIn_sub (fun _ h => List.mem_cons_of_mem _ (List.mem_append_left _ (List.mem_append_left _ (List.mem_append_right _ h)))) (by decide +kernel))) (goodIn_sub (fun _ h => List.mem_cons_of_mem _ (List.mem_append_left _ (List.mem_append_right _ h))) (by decide +kernel))) (goodIn_sub (fun _ h => List.mem_cons_of_mem _ (List.mem_append_right _ h)) (by decide +kernel))
set_option maxRecDepth 20000 in
theorem gL_settles_X6_whole : GoodIn wsL_settles (wsV RL 8 RX6 yX6_whole wsX6_whole) := goodIn_app (goodIn_of _ (by decide +kernel)) ggL_settles_X6_whole
set_option maxRecDepth 20000 in
theorem ggL_settles_L_money : GoodIn wsL_settles wsL_money := goodIn_ca (goodIn_ca (goodIn_ca (goodIn_r _ [111, 1, 2, 3, 4, 5, 6, 7, 8, 9, 10, 11, 12, 13, 14, 15, 16, 17, 18, 19, 20, 21, 22, 23, 24, 25, 26, 27, 28, 29, 30, 31, 32, 33, 34, 35, 36, 37, 38, 39, 40, 41, 42, 43, 44, 45, 46, 47, 48, 49, 50, 51, 52, 53, 54, 55, 56, 57, 58, 59, 60, 61, 62, 63, 64, 65, 66, 67, 68, 69, 70, 71, 72, 73, 74, 75, 76, 77, 78, 79, 80, 81, 82, 83, 84, 85, 86, 87, 88, 89, 90, 91, 92, 93, 94, 95, 96, 97, 98, 99, 100, 101, 102, 103, 104, 105, 106, 107, 112, 113, 114, 115, 116, 117, 118, 119, 120, 121, 122, 123, 124, 125, 126, 127, 128, 129, 130, 131, 132, 133, 272, 273, 274, 275, 276, 277, 278, 279, 280, 281, 282, 283, 284, 285, 286, 287, 288, 289, 290, 291, 292, 293, 294, 295, 296] (by decide +kernel) (by decide +kernel)) (goodIn_sub (fun _ h => List.mem_cons_of_mem _ (List.mem_append_left _ (List.mem_append_left _ (List.mem_append_right _ h)))) (by decide +kernel))) (goodIn_sub (fun _ h => List.mem_cons_of_mem _ (List.mem_append_left _ (List.mem_append_right _ h))) (by decide +kernel))) (goodIn_sub (fun _ h => List.mem_cons_of_mem _ (List.mem_append_right _ h)) (by decide +kernel))
set_option maxRecDepth 20000 in
theorem gL_settles_L_money : GoodIn wsL_settles (va_wsS RL 34 yL_money wsL_money) := goodIn_app (goodIn_of _ (by decide +kernel)) ggL_settles_L_money
set_option maxRecDepth 20000 in
theorem ggL_settles_X6_settledPlace : GoodIn wsL_settles wsX6_settledPlace := goodIn_ca (goodIn_ca (goodIn_ca (goodIn_r _ [137, 23, 138, 120, 25, 121, 122, 28, 42, 43, 44, 45, 46, 47, 123, 124, 125, 4, 126, 9, 10, 11, 12, 13, 14, 15, 16, 17, 139, 140, 141, 29, 30, 31, 32, 33, 142, 143, 144, 145, 146, 147, 148, 149, 150, 151, 152, 153, 154, 155, 156, 157, 158, 159, 80, 81, 82, 83, 100, 101, 102, 103, 160, 161, 162, 163, 164, 165, 166, 167, 168, 169, 170, 171, 172, 173, 174, 272, 273, 274, 275, 282, 283, 284, 285, 286, 287, 288, 289, 290, 291, 292, 293, 294, 295, 296] (by decide +kernel) (by decide +kernel)) (goodIn_sub (fun _ h => List.mem_cons_of_mem _ (List.mem_append_left _ (List.mem_append_left _ (List.mem_append_right _ h)))) (by decide +kernel))) (goodIn_sub (fun _ h => List.mem_cons_of_mem _ (List.mem_append_left _ (List.mem_append_right _ h))) (by decide +kernel))) (goodIn_sub (fun _ h => List.mem_cons_of_mem _ (List.mem_append_right _ h)) (by decide +kernel))
set_option maxRecDepth 20000 in
theorem gL_settles_X6_settledPlace : GoodIn wsL_settles (wsV RL 40 RX6 yX6_settledPlace wsX6_settledPlace) := goodIn_app (goodIn_of _ (by decide +kernel)) ggL_settles_X6_settledPlace
set_option maxRecDepth 20000 in
theorem ggL_settles_X6_member : GoodIn wsL_settles wsX6_member := goodIn_ca (goodIn_ca (goodIn_ca (goodIn_r _ [119, 23, 120, 25, 121, 122, 28, 42, 43, 44, 45, 46, 47, 6, 7, 4, 8, 123, 124, 125, 126, 9, 10, 11, 12, 13, 14, 15, 16, 17, 127, 128, 129, 48, 49, 50, 51, 38, 39, 40, 41, 130, 131, 132, 133, 76, 77, 78, 79, 272, 273, 274, 275, 282, 283, 284, 285, 286, 287, 288, 289, 290, 291, 292, 293, 294, 295, 296] (by decide +kernel) (by decide +kernel)) (goodIn_sub (fun _ h => List.mem_cons_of_mem _ (List.mem_append_left _ (List.mem_append_left _ (List.mem_append_right _ h)))) (by decide +kernel))) (goodIn_sub (fun _ h => List.mem_cons_of_mem _ (List.mem_append_left _ (List.mem_append_right _ h))) (by decide +kernel))) (goodIn_sub (fun _ h => List.mem_cons_of_mem _ (List.mem_append_right _ h)) (by decide +kernel))
set_option maxRecDepth 20000 in
theorem gL_settles_X6_member : GoodIn wsL_settles (wsV RL 17 RX6 yX6_member wsX6_member) := goodIn_app (goodIn_of _ (by decide +kernel)) ggL_settles_X6_member
set_option maxRecDepth 20000 in
theorem ggL_settles_X6_profit : GoodIn wsL_settles wsX6_profit := goodIn_ca (goodIn_ca (goodIn_ca (goodIn_r _ [178, 23, 120, 25, 121, 122, 28, 42, 43, 44, 45, 46, 47, 6, 7, 4, 8, 123, 124, 125, 126, 9, 10, 11, 12, 13, 14, 15, 16, 17, 179, 180, 181, 182, 138, 139, 140, 141, 29, 30, 31, 32, 33, 142, 143, 144, 145, 146, 147, 148, 149, 150, 151, 152, 153, 154, 155, 156, 157, 158, 159, 80, 81, 82, 83, 100, 101, 102, 103, 160, 161, 162, 163, 164, 165, 166, 167, 168, 169, 170, 171, 172, 173, 174, 39, 40, 41, 48, 49, 50, 51, 272, 273, 274, 275, 282, 283, 284, 285, 286, 287, 288, 289, 290, 291, 292, 293, 294, 295, 296] (by decide +kernel) (by decide +kernel)) (goodIn_sub (fun _ h => List.mem_cons_of_mem _ (List.mem_append_left _ (List.mem_append_left _ (List.mem_append_right _ h)))) (by decide +kernel))) (goodIn_sub (fun _ h => List.mem_cons_of_mem _ (List.mem_append_left _ (List.mem_append_right _ h))) (by decide +kernel))) (goodIn_sub (fun _ h => List.mem_cons_of_mem _ (List.mem_append_right _ h)) (by decide +kernel))
set_option maxRecDepth 20000 in
theorem gL_settles_X6_profit : GoodIn wsL_settles (wsV RL 43 RX6 yX6_profit wsX6_profit) := goodIn_app (goodIn_of _ (by decide +kernel)) ggL_settles_X6_profit
set_option maxRecDepth 20000 in
theorem ggL_settles_X6_bestLie : GoodIn wsL_settles wsX6_bestLie := goodIn_ca (goodIn_ca (goodIn_ca (goodIn_r _ [186, 23, 120, 25, 121, 122, 28, 42, 43, 44, 45, 46, 47, 123, 124, 125, 4, 126, 9, 10, 11, 12, 13, 14, 15, 16, 17, 179, 180, 181, 182, 138, 139, 140, 141, 29, 30, 31, 32, 33, 142, 143, 144, 145, 146, 147, 148, 149, 150, 151, 152, 153, 154, 155, 156, 157, 158, 159, 80, 81, 82, 83, 100, 101, 102, 103, 160, 161, 162, 163, 164, 165, 166, 167, 168, 169, 170, 171, 172, 173, 174, 39, 40, 41, 48, 49, 50, 51, 272, 273, 274, 275, 282, 283, 284, 285, 286, 287, 288, 289, 290, 291, 292, 293, 294, 295, 296] (by decide +kernel) (by decide +kernel)) (goodIn_sub (fun _ h => List.mem_cons_of_mem _ (List.mem_append_left _ (List.mem_append_left _ (List.mem_append_right _ h)))) (by decide +kernel))) (goodIn_sub (fun _ h => List.mem_cons_of_mem _ (List.mem_append_left _ (List.mem_append_right _ h))) (by decide +kernel))) (goodIn_sub (fun _ h => List.mem_cons_of_mem _ (List.mem_append_right _ h)) (by decide +kernel))
set_option maxRecDepth 20000 in
theorem gL_settles_X6_bestLie : GoodIn wsL_settles (wsV RL 46 RX6 yX6_bestLie wsX6_bestLie) := goodIn_app (goodIn_of _ (by decide +kernel)) ggL_settles_X6_bestLie
set_option maxRecDepth 20000 in
theorem ggL_settles_X6_settle : GoodIn wsL_settles wsX6_settle := goodIn_ca (goodIn_ca (goodIn_ca (goodIn_r _ [190, 191, 192, 193, 194, 4, 195, 196, 23, 197, 198, 199, 200, 201, 202, 203, 204, 205, 206, 207, 208, 209, 210, 211, 212, 6, 7, 8, 43, 25, 44, 45, 28, 46, 47, 120, 121, 122, 42, 123, 124, 125, 126, 213, 214, 215, 216, 217, 218, 219, 220, 93, 94, 95, 96, 97, 98, 99, 100, 101, 102, 103, 221, 222, 223, 72, 73, 74, 75, 76, 77, 78, 79, 80, 81, 82, 83, 224, 225, 226, 227, 9, 10, 11, 12, 13, 14, 15, 16, 17, 228, 229, 230, 231, 232, 233, 234, 235, 236, 237, 139, 140, 141, 29, 30, 31, 32, 33, 142, 143, 144, 145, 146, 147, 148, 149, 150, 151, 152, 238, 239, 240, 241, 242, 243, 244, 245, 246, 247, 248, 172, 173, 174, 249, 250, 251, 252, 253, 254, 255, 256, 257, 258, 259, 260, 261, 262, 263, 264, 265, 168, 169, 170, 171, 161, 162, 163, 164, 165, 166, 167, 266, 267, 268, 104, 105, 106, 107, 269, 270, 271, 153, 154, 155, 156, 157, 158, 159, 160, 272, 273, 274, 275, 282, 283, 284, 285, 286, 287, 288, 289, 290, 291, 292, 293, 294, 295, 296, 297, 298] (by decide +kernel) (by decide +kernel)) (goodIn_sub (fun _ h => List.mem_cons_of_mem _ (List.mem_append_left _ (List.mem_append_left _ (List.mem_append_right _ h)))) (by decide +kernel))) (goodIn_sub (fun _ h => List.mem_cons_of_mem _ (List.mem_append_left _ (List.mem_append_right _ h))) (by decide +kernel))) (goodIn_sub (fun _ h => List.mem_cons_of_mem _ (List.mem_append_right _ h)) (by decide +kernel))
set_option maxRecDepth 20000 in
theorem gL_settles_X6_settle : GoodIn wsL_settles (wsV RL 49 RX6 yX6_settle wsX6_settle) := goodIn_app (goodIn_of _ (by decide +kernel)) ggL_settles_X6_settle
theorem dL_settles_0 : decode cL_settles 0 = .ok (.aload_n 0, 1) := by decide +kernel
theorem dL_settles_1 : decode cL_settles 1 = .ok (.iconst 0, 1) := by decide +kernel
theorem dL_settles_2 : decode cL_settles 2 = .ok (.invokevirtual 8, 3) := by decide +kernel
theorem dL_settles_5 : decode cL_settles 5 = .ok (.istore_n 2, 1) := by decide +kernel
theorem dL_settles_6 : decode cL_settles 6 = .ok (.aload_n 0, 1) := by decide +kernel
theorem dL_settles_7 : decode cL_settles 7 = .ok (.bipush 9, 2) := by decide +kernel
theorem dL_settles_9 : decode cL_settles 9 = .ok (.invokevirtual 8, 3) := by decide +kernel
theorem dL_settles_12 : decode cL_settles 12 = .ok (.istore_n 3, 1) := by decide +kernel
theorem dL_settles_13 : decode cL_settles 13 = .ok (.aload_n 0, 1) := by decide +kernel
theorem dL_settles_14 : decode cL_settles 14 = .ok (.invokestatic 34, 3) := by decide +kernel
theorem dL_settles_17 : decode cL_settles 17 = .ok (.istore 4, 2) := by decide +kernel
theorem dL_settles_19 : decode cL_settles 19 = .ok (.aload_n 0, 1) := by decide +kernel
theorem dL_settles_20 : decode cL_settles 20 = .ok (.iconst 3, 1) := by decide +kernel
theorem dL_settles_21 : decode cL_settles 21 = .ok (.invokevirtual 8, 3) := by decide +kernel
theorem dL_settles_24 : decode cL_settles 24 = .ok (.istore 5, 2) := by decide +kernel
theorem dL_settles_26 : decode cL_settles 26 = .ok (.iload_n 2, 1) := by decide +kernel
theorem dL_settles_27 : decode cL_settles 27 = .ok (.ifCond .le 11, 3) := by decide +kernel
theorem dL_settles_30 : decode cL_settles 30 = .ok (.aload_n 0, 1) := by decide +kernel
theorem dL_settles_31 : decode cL_settles 31 = .ok (.iload_n 1, 1) := by decide +kernel
theorem dL_settles_32 : decode cL_settles 32 = .ok (.invokevirtual 40, 3) := by decide +kernel
theorem dL_settles_35 : decode cL_settles 35 = .ok (.goto 4, 3) := by decide +kernel
theorem dL_settles_38 : decode cL_settles 38 = .ok (.iconst 0, 1) := by decide +kernel
theorem dL_settles_39 : decode cL_settles 39 = .ok (.istore 6, 2) := by decide +kernel
theorem dL_settles_41 : decode cL_settles 41 = .ok (.iload_n 2, 1) := by decide +kernel
theorem dL_settles_42 : decode cL_settles 42 = .ok (.ifCond .le 17, 3) := by decide +kernel
theorem dL_settles_45 : decode cL_settles 45 = .ok (.aload_n 0, 1) := by decide +kernel
theorem dL_settles_46 : decode cL_settles 46 = .ok (.iload_n 1, 1) := by decide +kernel
theorem dL_settles_47 : decode cL_settles 47 = .ok (.aload_n 0, 1) := by decide +kernel
theorem dL_settles_48 : decode cL_settles 48 = .ok (.iload_n 1, 1) := by decide +kernel
theorem dL_settles_49 : decode cL_settles 49 = .ok (.iconst 2, 1) := by decide +kernel
theorem dL_settles_50 : decode cL_settles 50 = .ok (.invokevirtual 17, 3) := by decide +kernel
theorem dL_settles_53 : decode cL_settles 53 = .ok (.invokevirtual 43, 3) := by decide +kernel
theorem dL_settles_56 : decode cL_settles 56 = .ok (.goto 4, 3) := by decide +kernel
theorem dL_settles_59 : decode cL_settles 59 = .ok (.iconst 0, 1) := by decide +kernel
theorem dL_settles_60 : decode cL_settles 60 = .ok (.istore 7, 2) := by decide +kernel
theorem dL_settles_62 : decode cL_settles 62 = .ok (.iload_n 2, 1) := by decide +kernel
theorem dL_settles_63 : decode cL_settles 63 = .ok (.ifCond .le 11, 3) := by decide +kernel
theorem dL_settles_66 : decode cL_settles 66 = .ok (.aload_n 0, 1) := by decide +kernel
theorem dL_settles_67 : decode cL_settles 67 = .ok (.iload_n 1, 1) := by decide +kernel
theorem dL_settles_68 : decode cL_settles 68 = .ok (.invokevirtual 46, 3) := by decide +kernel
theorem dL_settles_71 : decode cL_settles 71 = .ok (.goto 4, 3) := by decide +kernel
theorem dL_settles_74 : decode cL_settles 74 = .ok (.iconst 0, 1) := by decide +kernel
theorem dL_settles_75 : decode cL_settles 75 = .ok (.istore 8, 2) := by decide +kernel
theorem dL_settles_77 : decode cL_settles 77 = .ok (.iload_n 2, 1) := by decide +kernel
theorem dL_settles_78 : decode cL_settles 78 = .ok (.ifCond .le 13, 3) := by decide +kernel
theorem dL_settles_81 : decode cL_settles 81 = .ok (.aload_n 0, 1) := by decide +kernel
theorem dL_settles_82 : decode cL_settles 82 = .ok (.iload_n 1, 1) := by decide +kernel
theorem dL_settles_83 : decode cL_settles 83 = .ok (.iload 8, 2) := by decide +kernel
theorem dL_settles_85 : decode cL_settles 85 = .ok (.invokevirtual 43, 3) := by decide +kernel
theorem dL_settles_88 : decode cL_settles 88 = .ok (.goto 4, 3) := by decide +kernel
theorem dL_settles_91 : decode cL_settles 91 = .ok (.iconst 0, 1) := by decide +kernel
theorem dL_settles_92 : decode cL_settles 92 = .ok (.istore 9, 2) := by decide +kernel
theorem dL_settles_94 : decode cL_settles 94 = .ok (.iload_n 2, 1) := by decide +kernel
theorem dL_settles_95 : decode cL_settles 95 = .ok (.ifCond .le 20, 3) := by decide +kernel
theorem dL_settles_98 : decode cL_settles 98 = .ok (.aload_n 0, 1) := by decide +kernel
theorem dL_settles_99 : decode cL_settles 99 = .ok (.iload_n 1, 1) := by decide +kernel
theorem dL_settles_100 : decode cL_settles 100 = .ok (.bipush 6, 2) := by decide +kernel
theorem dL_settles_102 : decode cL_settles 102 = .ok (.invokevirtual 17, 3) := by decide +kernel
theorem dL_settles_105 : decode cL_settles 105 = .ok (.aload_n 0, 1) := by decide +kernel
theorem dL_settles_106 : decode cL_settles 106 = .ok (.iload_n 1, 1) := by decide +kernel
theorem dL_settles_107 : decode cL_settles 107 = .ok (.iconst 5, 1) := by decide +kernel
theorem dL_settles_108 : decode cL_settles 108 = .ok (.invokevirtual 17, 3) := by decide +kernel
theorem dL_settles_111 : decode cL_settles 111 = .ok (.isub, 1) := by decide +kernel
theorem dL_settles_112 : decode cL_settles 112 = .ok (.goto 4, 3) := by decide +kernel
theorem dL_settles_115 : decode cL_settles 115 = .ok (.iconst 0, 1) := by decide +kernel
theorem dL_settles_116 : decode cL_settles 116 = .ok (.istore 10, 2) := by decide +kernel
theorem dL_settles_118 : decode cL_settles 118 = .ok (.aload_n 0, 1) := by decide +kernel
theorem dL_settles_119 : decode cL_settles 119 = .ok (.invokevirtual 49, 3) := by decide +kernel
theorem dL_settles_122 : decode cL_settles 122 = .ok (.istore 11, 2) := by decide +kernel
theorem dL_settles_124 : decode cL_settles 124 = .ok (.iload 11, 2) := by decide +kernel
theorem dL_settles_126 : decode cL_settles 126 = .ok (.ifCond .lt 80, 3) := by decide +kernel
theorem dL_settles_129 : decode cL_settles 129 = .ok (.aload_n 0, 1) := by decide +kernel
theorem dL_settles_130 : decode cL_settles 130 = .ok (.iconst 5, 1) := by decide +kernel
theorem dL_settles_131 : decode cL_settles 131 = .ok (.invokevirtual 8, 3) := by decide +kernel
theorem dL_settles_134 : decode cL_settles 134 = .ok (.ifCond .ne 72, 3) := by decide +kernel
theorem dL_settles_137 : decode cL_settles 137 = .ok (.aload_n 0, 1) := by decide +kernel
theorem dL_settles_138 : decode cL_settles 138 = .ok (.bipush 9, 2) := by decide +kernel
theorem dL_settles_140 : decode cL_settles 140 = .ok (.invokevirtual 8, 3) := by decide +kernel
theorem dL_settles_143 : decode cL_settles 143 = .ok (.iload_n 3, 1) := by decide +kernel
theorem dL_settles_144 : decode cL_settles 144 = .ok (.iload 11, 2) := by decide +kernel
theorem dL_settles_146 : decode cL_settles 146 = .ok (.iadd, 1) := by decide +kernel
theorem dL_settles_147 : decode cL_settles 147 = .ok (.if_icmp .ne 59, 3) := by decide +kernel
theorem dL_settles_150 : decode cL_settles 150 = .ok (.aload_n 0, 1) := by decide +kernel
theorem dL_settles_151 : decode cL_settles 151 = .ok (.invokestatic 34, 3) := by decide +kernel
theorem dL_settles_154 : decode cL_settles 154 = .ok (.iload 4, 2) := by decide +kernel
theorem dL_settles_156 : decode cL_settles 156 = .ok (.if_icmp .ne 50, 3) := by decide +kernel
theorem dL_settles_159 : decode cL_settles 159 = .ok (.iload 11, 2) := by decide +kernel
theorem dL_settles_161 : decode cL_settles 161 = .ok (.ifCond .ne 7, 3) := by decide +kernel
theorem dL_settles_164 : decode cL_settles 164 = .ok (.iconst 1, 1) := by decide +kernel
theorem dL_settles_165 : decode cL_settles 165 = .ok (.goto 4, 3) := by decide +kernel
theorem dL_settles_168 : decode cL_settles 168 = .ok (.iconst 0, 1) := by decide +kernel
theorem dL_settles_169 : decode cL_settles 169 = .ok (.aload_n 0, 1) := by decide +kernel
theorem dL_settles_170 : decode cL_settles 170 = .ok (.iconst 3, 1) := by decide +kernel
theorem dL_settles_171 : decode cL_settles 171 = .ok (.invokevirtual 8, 3) := by decide +kernel
theorem dL_settles_174 : decode cL_settles 174 = .ok (.iload 5, 2) := by decide +kernel
theorem dL_settles_176 : decode cL_settles 176 = .ok (.if_icmp .ne 7, 3) := by decide +kernel
theorem dL_settles_179 : decode cL_settles 179 = .ok (.iconst 1, 1) := by decide +kernel
theorem dL_settles_180 : decode cL_settles 180 = .ok (.goto 4, 3) := by decide +kernel
theorem dL_settles_183 : decode cL_settles 183 = .ok (.iconst 0, 1) := by decide +kernel
theorem dL_settles_184 : decode cL_settles 184 = .ok (.if_icmp .ne 22, 3) := by decide +kernel
theorem dL_settles_187 : decode cL_settles 187 = .ok (.aload_n 0, 1) := by decide +kernel
theorem dL_settles_188 : decode cL_settles 188 = .ok (.iconst 3, 1) := by decide +kernel
theorem dL_settles_189 : decode cL_settles 189 = .ok (.invokevirtual 8, 3) := by decide +kernel
theorem dL_settles_192 : decode cL_settles 192 = .ok (.iload 5, 2) := by decide +kernel
theorem dL_settles_194 : decode cL_settles 194 = .ok (.if_icmp .gt 12, 3) := by decide +kernel
theorem dL_settles_197 : decode cL_settles 197 = .ok (.aload_n 0, 1) := by decide +kernel
theorem dL_settles_198 : decode cL_settles 198 = .ok (.bipush 8, 2) := by decide +kernel
theorem dL_settles_200 : decode cL_settles 200 = .ok (.invokevirtual 8, 3) := by decide +kernel
theorem dL_settles_203 : decode cL_settles 203 = .ok (.ifCond .ge 5, 3) := by decide +kernel
theorem dL_settles_206 : decode cL_settles 206 = .ok (.iconst 0, 1) := by decide +kernel
theorem dL_settles_207 : decode cL_settles 207 = .ok (.ireturn, 1) := by decide +kernel
theorem dL_settles_208 : decode cL_settles 208 = .ok (.iload_n 2, 1) := by decide +kernel
theorem dL_settles_209 : decode cL_settles 209 = .ok (.ifCond .eq 55, 3) := by decide +kernel
theorem dL_settles_212 : decode cL_settles 212 = .ok (.aload_n 0, 1) := by decide +kernel
theorem dL_settles_213 : decode cL_settles 213 = .ok (.iload_n 1, 1) := by decide +kernel
theorem dL_settles_214 : decode cL_settles 214 = .ok (.iconst 0, 1) := by decide +kernel
theorem dL_settles_215 : decode cL_settles 215 = .ok (.invokevirtual 17, 3) := by decide +kernel
theorem dL_settles_218 : decode cL_settles 218 = .ok (.iload 6, 2) := by decide +kernel
theorem dL_settles_220 : decode cL_settles 220 = .ok (.if_icmp .ne 48, 3) := by decide +kernel
theorem dL_settles_223 : decode cL_settles 223 = .ok (.aload_n 0, 1) := by decide +kernel
theorem dL_settles_224 : decode cL_settles 224 = .ok (.iload_n 1, 1) := by decide +kernel
theorem dL_settles_225 : decode cL_settles 225 = .ok (.bipush 6, 2) := by decide +kernel
theorem dL_settles_227 : decode cL_settles 227 = .ok (.invokevirtual 17, 3) := by decide +kernel
theorem dL_settles_230 : decode cL_settles 230 = .ok (.aload_n 0, 1) := by decide +kernel
theorem dL_settles_231 : decode cL_settles 231 = .ok (.iload_n 1, 1) := by decide +kernel
theorem dL_settles_232 : decode cL_settles 232 = .ok (.iconst 5, 1) := by decide +kernel
theorem dL_settles_233 : decode cL_settles 233 = .ok (.invokevirtual 17, 3) := by decide +kernel
theorem dL_settles_236 : decode cL_settles 236 = .ok (.isub, 1) := by decide +kernel
theorem dL_settles_237 : decode cL_settles 237 = .ok (.iload 10, 2) := by decide +kernel
theorem dL_settles_239 : decode cL_settles 239 = .ok (.isub, 1) := by decide +kernel
theorem dL_settles_240 : decode cL_settles 240 = .ok (.iload 7, 2) := by decide +kernel
theorem dL_settles_242 : decode cL_settles 242 = .ok (.if_icmp .ne 26, 3) := by decide +kernel
theorem dL_settles_245 : decode cL_settles 245 = .ok (.iload 9, 2) := by decide +kernel
theorem dL_settles_247 : decode cL_settles 247 = .ok (.iload 7, 2) := by decide +kernel
theorem dL_settles_249 : decode cL_settles 249 = .ok (.if_icmp .lt 19, 3) := by decide +kernel
theorem dL_settles_252 : decode cL_settles 252 = .ok (.iload 8, 2) := by decide +kernel
theorem dL_settles_254 : decode cL_settles 254 = .ok (.ifCond .lt 14, 3) := by decide +kernel
theorem dL_settles_257 : decode cL_settles 257 = .ok (.iload 8, 2) := by decide +kernel
theorem dL_settles_259 : decode cL_settles 259 = .ok (.bipush 100, 2) := by decide +kernel
theorem dL_settles_261 : decode cL_settles 261 = .ok (.if_icmp .ge 7, 3) := by decide +kernel
theorem dL_settles_264 : decode cL_settles 264 = .ok (.iconst 1, 1) := by decide +kernel
theorem dL_settles_265 : decode cL_settles 265 = .ok (.goto 4, 3) := by decide +kernel
theorem dL_settles_268 : decode cL_settles 268 = .ok (.iconst 0, 1) := by decide +kernel
theorem dL_settles_269 : decode cL_settles 269 = .ok (.ireturn, 1) := by decide +kernel
set_option maxRecDepth 20000 in
theorem ggL_changes_X6_whole : GoodIn wsL_changes wsX6_whole := goodIn_ca (goodIn_ca (goodIn_ca (goodIn_r _ [5, 6, 7, 4, 8, 9, 10, 11, 12, 13, 14, 15, 16, 17, 18, 19, 20, 21, 22, 23, 24, 25, 26, 27, 28, 29, 30, 31, 32, 33, 34, 35, 36, 37, 38, 39, 40, 41, 42, 43, 44, 45, 46, 47, 48, 49, 50, 51, 52, 53, 54, 55, 56, 57, 58, 59, 60, 61, 62, 63, 64, 65, 66, 67, 68, 69, 70, 71, 72, 73, 74, 75, 76, 77, 78, 79, 80, 81, 82, 83, 84, 85, 86, 87, 88, 89, 90, 91, 92, 93, 94, 95, 96, 97, 98, 99, 100, 101, 102, 103, 104, 105, 106, 107, 348, 349, 350, 351, 352, 353, 354, 355, 356, 357, 358, 359, 360, 361, 362, 363, 364, 365, 366, 367, 368, 369, 370, 371, 372] (by decide +kernel) (by decide +kernel)) (goodIn_sub (fun _ h => List.mem_cons_of_mem _ (List.mem_append_left _ (List.mem_append_left _ (List.mem_append_right _ h)))) (by decide +kernel))) (goodIn_sub (fun _ h => List.mem_cons_of_mem _ (List.mem_append_left _ (List.mem_append_right _ h))) (by decide +kernel))) (goodIn_sub (fun _ h => List.mem_cons_of_mem _ (List.mem_append_right _ h)) (by decide +kernel))
set_option maxRecDepth 20000 in
theorem gL_changes_X6_whole : GoodIn wsL_changes (wsV RL 8 RX6 yX6_whole wsX6_whole) := goodIn_app (goodIn_of _ (by decide +kernel)) ggL_changes_X6_whole
set_option maxRecDepth 20000 in
theorem ggL_changes_L_low : GoodIn wsL_changes wsL_low := goodIn_r _ [111, 112] (by decide +kernel) (by decide +kernel)
set_option maxRecDepth 20000 in
theorem gL_changes_L_low : GoodIn wsL_changes (va_wsS RL 52 yL_low wsL_low) := goodIn_app (goodIn_of _ (by decide +kernel)) ggL_changes_L_low
set_option maxRecDepth 20000 in
theorem ggL_changes_X6_serve : GoodIn wsL_changes wsX6_serve := goodIn_ca (goodIn_ca (goodIn_ca (goodIn_r _ [116, 117, 118, 119, 120, 4, 121, 122, 23, 123, 124, 125, 126, 127, 128, 129, 130, 131, 132, 133, 134, 135, 136, 137, 138, 6, 7, 8, 43, 25, 44, 45, 28, 46, 47, 139, 140, 141, 42, 142, 143, 144, 145, 146, 147, 148, 149, 150, 151, 152, 153, 93, 94, 95, 96, 97, 98, 99, 100, 101, 102, 103, 154, 155, 156, 72, 73, 74, 75, 76, 77, 78, 79, 80, 81, 82, 83, 157, 158, 159, 160, 9, 10, 11, 12, 13, 14, 15, 16, 17, 161, 162, 163, 164, 165, 166, 167, 168, 169, 170, 171, 172, 173, 29, 30, 31, 32, 33, 174, 175, 176, 177, 178, 179, 180, 181, 182, 183, 184, 185, 186, 187, 188, 189, 190, 191, 192, 193, 194, 195, 196, 197, 198, 199, 200, 201, 202, 203, 204, 205, 206, 207, 208, 209, 210, 211, 212, 213, 214, 215, 216, 217, 218, 219, 220, 221, 222, 223, 224, 225, 226, 227, 228, 229, 104, 105, 106, 107, 230, 231, 232, 233, 234, 235, 236, 237, 238, 239, 240, 348, 349, 350, 351, 358, 359, 360, 361, 362, 363, 364, 365, 366, 367, 368, 369, 370, 371, 372, 373, 374] (by decide +kernel) (by decide +kernel)) (goodIn_sub (fun _ h => List.mem_cons_of_mem _ (List.mem_append_left _ (List.mem_append_left _ (List.mem_append_right _ h)))) (by decide +kernel))) (goodIn_sub (fun _ h => List.mem_cons_of_mem _ (List.mem_append_left _ (List.mem_append_right _ h))) (by decide +kernel))) (goodIn_sub (fun _ h => List.mem_cons_of_mem _ (List.mem_append_right _ h)) (by decide +kernel))
set_option maxRecDepth 20000 in
theorem gL_changes_X6_serve : GoodIn wsL_changes (wsV RL 55 RX6 yX6_serve wsX6_serve) := goodIn_app (goodIn_of _ (by decide +kernel)) ggL_changes_X6_serve
set_option maxRecDepth 20000 in
theorem ggL_changes_X6_pair : GoodIn wsL_changes wsX6_pair := goodIn_ca (goodIn_ca (goodIn_ca (goodIn_r _ [244, 23, 6, 7, 4, 8, 157, 158, 159, 160, 9, 10, 11, 12, 13, 14, 15, 16, 17, 245, 25, 246, 247, 248, 249, 250, 251, 42, 43, 44, 45, 28, 46, 47, 96, 97, 98, 99, 80, 81, 82, 83, 223, 224, 225, 226, 29, 76, 77, 78, 79, 348, 349, 350, 351, 358, 359, 360, 361, 362, 363, 364, 365, 366, 367, 368, 369, 370, 371, 372] (by decide +kernel) (by decide +kernel)) (goodIn_sub (fun _ h => List.mem_cons_of_mem _ (List.mem_append_left _ (List.mem_append_left _ (List.mem_append_right _ h)))) (by decide +kernel))) (goodIn_sub (fun _ h => List.mem_cons_of_mem _ (List.mem_append_left _ (List.mem_append_right _ h))) (by decide +kernel))) (goodIn_sub (fun _ h => List.mem_cons_of_mem _ (List.mem_append_right _ h)) (by decide +kernel))
set_option maxRecDepth 20000 in
theorem gL_changes_X6_pair : GoodIn wsL_changes (wsV RL 24 RX6 yX6_pair wsX6_pair) := goodIn_app (goodIn_of _ (by decide +kernel)) ggL_changes_X6_pair
set_option maxRecDepth 20000 in
theorem ggL_changes_X6_joinAt : GoodIn wsL_changes wsX6_joinAt := goodIn_ca (goodIn_ca (goodIn_ca (goodIn_r _ [255, 256, 118, 119, 120, 4, 121, 122, 23, 123, 124, 125, 126, 127, 128, 129, 130, 131, 132, 133, 134, 135, 136, 137, 138, 6, 7, 8, 43, 25, 44, 45, 28, 46, 47, 139, 140, 141, 42, 142, 143, 144, 145, 146, 147, 148, 149, 150, 151, 152, 153, 93, 94, 95, 96, 97, 98, 99, 100, 101, 102, 103, 154, 155, 156, 72, 73, 74, 75, 76, 77, 78, 79, 80, 81, 82, 83, 157, 158, 159, 160, 9, 10, 11, 12, 13, 14, 15, 16, 17, 161, 162, 163, 164, 165, 166, 167, 168, 169, 170, 171, 172, 173, 29, 30, 31, 32, 33, 174, 175, 176, 177, 178, 179, 180, 181, 182, 183, 184, 185, 186, 187, 188, 189, 190, 191, 192, 193, 194, 195, 196, 197, 198, 199, 200, 201, 202, 203, 204, 205, 206, 207, 208, 209, 210, 211, 212, 213, 214, 215, 216, 217, 218, 219, 220, 221, 222, 223, 224, 225, 226, 227, 228, 229, 104, 105, 106, 107, 230, 231, 232, 233, 234, 235, 236, 237, 238, 239, 240, 348, 349, 350, 351, 358, 359, 360, 361, 362, 363, 364, 365, 366, 367, 368, 369, 370, 371, 372, 373, 374] (by decide +kernel) (by decide +kernel)) (goodIn_sub (fun _ h => List.mem_cons_of_mem _ (List.mem_append_left _ (List.mem_append_left _ (List.mem_append_right _ h)))) (by decide +kernel))) (goodIn_sub (fun _ h => List.mem_cons_of_mem _ (List.mem_append_left _ (List.mem_append_right _ h))) (by decide +kernel))) (goodIn_sub (fun _ h => List.mem_cons_of_mem _ (List.mem_append_right _ h)) (by decide +kernel))
set_option maxRecDepth 20000 in
theorem gL_changes_X6_joinAt : GoodIn wsL_changes (wsV RL 58 RX6 yX6_joinAt wsX6_joinAt) := goodIn_app (goodIn_of _ (by decide +kernel)) ggL_changes_X6_joinAt
set_option maxRecDepth 20000 in
theorem ggL_changes_X6_join : GoodIn wsL_changes wsX6_join := goodIn_ca (goodIn_ca (goodIn_ca (goodIn_r _ [260, 261, 118, 119, 120, 4, 121, 122, 23, 123, 124, 125, 126, 127, 128, 129, 130, 131, 132, 133, 134, 135, 136, 137, 138, 6, 7, 8, 43, 25, 44, 45, 28, 46, 47, 139, 140, 141, 42, 142, 143, 144, 145, 146, 147, 148, 149, 150, 151, 152, 153, 93, 94, 95, 96, 97, 98, 99, 100, 101, 102, 103, 154, 155, 156, 72, 73, 74, 75, 76, 77, 78, 79, 80, 81, 82, 83, 157, 158, 159, 160, 9, 10, 11, 12, 13, 14, 15, 16, 17, 161, 162, 163, 164, 165, 166, 167, 168, 169, 170, 171, 172, 173, 29, 30, 31, 32, 33, 174, 175, 176, 177, 178, 179, 180, 181, 182, 183, 184, 185, 186, 187, 188, 189, 190, 191, 192, 193, 194, 195, 196, 197, 198, 199, 200, 201, 202, 203, 204, 205, 206, 207, 208, 209, 210, 211, 212, 213, 214, 215, 216, 217, 218, 219, 220, 221, 222, 223, 224, 225, 226, 227, 228, 229, 104, 105, 106, 107, 230, 231, 232, 233, 234, 235, 236, 237, 238, 239, 240, 348, 349, 350, 351, 358, 359, 360, 361, 362, 363, 364, 365, 366, 367, 368, 369, 370, 371, 372, 373, 374] (by decide +kernel) (by decide +kernel)) (goodIn_sub (fun _ h => List.mem_cons_of_mem _ (List.mem_append_left _ (List.mem_append_left _ (List.mem_append_right _ h)))) (by decide +kernel))) (goodIn_sub (fun _ h => List.mem_cons_of_mem _ (List.mem_append_left _ (List.mem_append_right _ h))) (by decide +kernel))) (goodIn_sub (fun _ h => List.mem_cons_of_mem _ (List.mem_append_right _ h)) (by decide +kernel))
set_option maxRecDepth 20000 in
theorem gL_changes_X6_join : GoodIn wsL_changes (wsV RL 62 RX6 yX6_join wsX6_join) := goodIn_app (goodIn_of _ (by decide +kernel)) ggL_changes_X6_join
set_option maxRecDepth 20000 in
theorem ggL_changes_X6_member : GoodIn wsL_changes wsX6_member := goodIn_ca (goodIn_ca (goodIn_ca (goodIn_r _ [265, 23, 139, 25, 140, 141, 28, 42, 43, 44, 45, 46, 47, 6, 7, 4, 8, 142, 143, 144, 145, 9, 10, 11, 12, 13, 14, 15, 16, 17, 266, 267, 268, 48, 49, 50, 51, 38, 39, 40, 41, 269, 270, 271, 272, 76, 77, 78, 79, 348, 349, 350, 351, 358, 359, 360, 361, 362, 363, 364, 365, 366, 367, 368, 369, 370, 371, 372] (by decide +kernel) (by decide +kernel)) (goodIn_sub (fun _ h => List.mem_cons_of_mem _ (List.mem_append_left _ (List.mem_append_left _ (List.mem_append_right _ h)))) (by decide +kernel))) (goodIn_sub (fun _ h => List.mem_cons_of_mem _ (List.mem_append_left _ (List.mem_append_right _ h))) (by decide +kernel))) (goodIn_sub (fun _ h => List.mem_cons_of_mem _ (List.mem_append_right _ h)) (by decide +kernel))
set_option maxRecDepth 20000 in
theorem gL_changes_X6_member : GoodIn wsL_changes (wsV RL 17 RX6 yX6_member wsX6_member) := goodIn_app (goodIn_of _ (by decide +kernel)) ggL_changes_X6_member
set_option maxRecDepth 20000 in
theorem ggL_changes_X6_at : GoodIn wsL_changes wsX6_at := goodIn_ca (goodIn_ca (goodIn_ca (goodIn_r _ [276, 23, 9, 10, 4, 11, 12, 13, 14, 15, 16, 17, 43, 25, 44, 45, 28, 46, 47, 348, 349, 350, 351, 366, 367, 368, 369, 370, 371, 372, 358, 359, 360, 361, 362, 363, 364, 365] (by decide +kernel) (by decide +kernel)) (goodIn_sub (fun _ h => List.mem_cons_of_mem _ (List.mem_append_left _ (List.mem_append_left _ (List.mem_append_right _ h)))) (by decide +kernel))) (goodIn_sub (fun _ h => List.mem_cons_of_mem _ (List.mem_append_left _ (List.mem_append_right _ h))) (by decide +kernel))) (goodIn_sub (fun _ h => List.mem_cons_of_mem _ (List.mem_append_right _ h)) (by decide +kernel))
set_option maxRecDepth 20000 in
theorem gL_changes_X6_at : GoodIn wsL_changes (wsV RL 14 RX6 yX6_at wsX6_at) := goodIn_app (goodIn_of _ (by decide +kernel)) ggL_changes_X6_at
set_option maxRecDepth 20000 in
theorem ggL_changes_X6_leave : GoodIn wsL_changes wsX6_leave := goodIn_ca (goodIn_ca (goodIn_ca (goodIn_r _ [280, 281, 118, 119, 120, 4, 121, 122, 23, 123, 124, 125, 126, 127, 128, 129, 130, 131, 132, 133, 134, 135, 136, 137, 138, 6, 7, 8, 43, 25, 44, 45, 28, 46, 47, 139, 140, 141, 42, 142, 143, 144, 145, 146, 147, 148, 149, 150, 151, 152, 153, 93, 94, 95, 96, 97, 98, 99, 100, 101, 102, 103, 154, 155, 156, 72, 73, 74, 75, 76, 77, 78, 79, 80, 81, 82, 83, 157, 158, 159, 160, 9, 10, 11, 12, 13, 14, 15, 16, 17, 161, 162, 163, 164, 165, 166, 167, 168, 169, 170, 171, 172, 173, 29, 30, 31, 32, 33, 174, 175, 176, 177, 178, 179, 180, 181, 182, 183, 184, 185, 186, 187, 188, 189, 190, 191, 192, 193, 194, 195, 196, 197, 198, 199, 200, 201, 202, 203, 204, 205, 206, 207, 208, 209, 210, 211, 212, 213, 214, 215, 216, 217, 218, 219, 220, 221, 222, 223, 224, 225, 226, 227, 228, 229, 104, 105, 106, 107, 230, 231, 232, 233, 234, 235, 236, 237, 238, 239, 240, 348, 349, 350, 351, 358, 359, 360, 361, 362, 363, 364, 365, 366, 367, 368, 369, 370, 371, 372, 373, 374] (by decide +kernel) (by decide +kernel)) (goodIn_sub (fun _ h => List.mem_cons_of_mem _ (List.mem_append_left _ (List.mem_append_left _ (List.mem_append_right _ h)))) (by decide +kernel))) (goodIn_sub (fun _ h => List.mem_cons_of_mem _ (List.mem_append_left _ (List.mem_append_right _ h))) (by decide +kernel))) (goodIn_sub (fun _ h => List.mem_cons_of_mem _ (List.mem_append_right _ h)) (by decide +kernel))
set_option maxRecDepth 20000 in
theorem gL_changes_X6_leave : GoodIn wsL_changes (wsV RL 65 RX6 yX6_leave wsX6_leave) := goodIn_app (goodIn_of _ (by decide +kernel)) ggL_changes_X6_leave
set_option maxRecDepth 20000 in
theorem ggL_changes_X6_say : GoodIn wsL_changes wsX6_say := goodIn_ca (goodIn_ca (goodIn_ca (goodIn_r _ [285, 286, 118, 119, 120, 4, 121, 122, 23, 123, 124, 125, 126, 127, 128, 129, 130, 131, 132, 133, 134, 135, 136, 137, 138, 6, 7, 8, 43, 25, 44, 45, 28, 46, 47, 139, 140, 141, 42, 142, 143, 144, 145, 146, 147, 148, 149, 150, 151, 152, 153, 93, 94, 95, 96, 97, 98, 99, 100, 101, 102, 103, 154, 155, 156, 72, 73, 74, 75, 76, 77, 78, 79, 80, 81, 82, 83, 157, 158, 159, 160, 9, 10, 11, 12, 13, 14, 15, 16, 17, 161, 162, 163, 164, 165, 166, 167, 168, 169, 170, 171, 172, 173, 29, 30, 31, 32, 33, 174, 175, 176, 177, 178, 179, 180, 181, 182, 183, 184, 185, 186, 187, 188, 189, 190, 191, 192, 193, 194, 195, 196, 197, 198, 199, 200, 201, 202, 203, 204, 205, 206, 207, 208, 209, 210, 211, 212, 213, 214, 215, 216, 217, 218, 219, 220, 221, 222, 223, 224, 225, 226, 227, 228, 229, 104, 105, 106, 107, 230, 231, 232, 233, 234, 235, 236, 237, 238, 239, 240, 348, 349, 350, 351, 358, 359, 360, 361, 362, 363, 364, 365, 366, 367, 368, 369, 370, 371, 372, 373, 374] (by decide +kernel) (by decide +kernel)) (goodIn_sub (fun _ h => List.mem_cons_of_mem _ (List.mem_append_left _ (List.mem_append_left _ (List.mem_append_right _ h)))) (by decide +kernel))) (goodIn_sub (fun _ h => List.mem_cons_of_mem _ (List.mem_append_left _ (List.mem_append_right _ h))) (by decide +kernel))) (goodIn_sub (fun _ h => List.mem_cons_of_mem _ (List.mem_append_right _ h)) (by decide +kernel))
set_option maxRecDepth 20000 in
theorem gL_changes_X6_say : GoodIn wsL_changes (wsV RL 68 RX6 yX6_say wsX6_say) := goodIn_app (goodIn_of _ (by decide +kernel)) ggL_changes_X6_say
set_option maxRecDepth 20000 in
theorem ggL_changes_X6_offer : GoodIn wsL_changes wsX6_offer := goodIn_ca (goodIn_ca (goodIn_ca (goodIn_r _ [290, 291, 118, 119, 120, 4, 121, 122, 23, 123, 124, 125, 126, 127, 128, 129, 130, 131, 132, 133, 134, 135, 136, 137, 138, 6, 7, 8, 43, 25, 44, 45, 28, 46, 47, 139, 140, 141, 42, 142, 143, 144, 145, 146, 147, 148, 149, 150, 151, 152, 153, 93, 94, 95, 96, 97, 98, 99, 100, 101, 102, 103, 154, 155, 156, 72, 73, 74, 75, 76, 77, 78, 79, 80, 81, 82, 83, 157, 158, 159, 160, 9, 10, 11, 12, 13, 14, 15, 16, 17, 161, 162, 163, 164, 165, 166, 167, 168, 169, 170, 171, 172, 173, 29, 30, 31, 32, 33, 174, 175, 176, 177, 178, 179, 180, 181, 182, 183, 184, 185, 186, 187, 188, 189, 190, 191, 192, 193, 194, 195, 196, 197, 198, 199, 200, 201, 202, 203, 204, 205, 206, 207, 208, 209, 210, 211, 212, 213, 214, 215, 216, 217, 218, 219, 220, 221, 222, 223, 224, 225, 226, 227, 228, 229, 104, 105, 106, 107, 230, 231, 232, 233, 234, 235, 236, 237, 238, 239, 240, 348, 349, 350, 351, 358, 359, 360, 361, 362, 363, 364, 365, 366, 367, 368, 369, 370, 371, 372, 373, 374] (by decide +kernel) (by decide +kernel)) (goodIn_sub (fun _ h => List.mem_cons_of_mem _ (List.mem_append_left _ (List.mem_append_left _ (List.mem_append_right _ h)))) (by decide +kernel))) (goodIn_sub (fun _ h => List.mem_cons_of_mem _ (List.mem_append_left _ (List.mem_append_right _ h))) (by decide +kernel))) (goodIn_sub (fun _ h => List.mem_cons_of_mem _ (List.mem_append_right _ h)) (by decide +kernel))
set_option maxRecDepth 20000 in
theorem gL_changes_X6_offer : GoodIn wsL_changes (wsV RL 71 RX6 yX6_offer wsX6_offer) := goodIn_app (goodIn_of _ (by decide +kernel)) ggL_changes_X6_offer
set_option maxRecDepth 20000 in
theorem ggL_changes_L_settles : GoodIn wsL_changes wsL_settles := goodIn_ca (goodIn_ca (goodIn_ca (goodIn_r _ [294, 1, 2, 3, 4, 5, 6, 7, 8, 9, 10, 11, 12, 13, 14, 15, 16, 17, 18, 19, 20, 21, 22, 23, 24, 25, 26, 27, 28, 29, 30, 31, 32, 33, 34, 35, 36, 37, 38, 39, 40, 41, 42, 43, 44, 45, 46, 47, 48, 49, 50, 51, 52, 53, 54, 55, 56, 57, 58, 59, 60, 61, 62, 63, 64, 65, 66, 67, 68, 69, 70, 71, 72, 73, 74, 75, 76, 77, 78, 79, 80, 81, 82, 83, 84, 85, 86, 87, 88, 89, 90, 91, 92, 93, 94, 95, 96, 97, 98, 99, 100, 101, 102, 103, 104, 105, 106, 107, 295, 296, 110, 297, 273, 274, 275, 276, 262, 263, 264, 265, 139, 140, 141, 142, 143, 144, 145, 266, 267, 268, 269, 270, 271, 272, 298, 299, 300, 301, 302, 171, 172, 173, 174, 175, 176, 177, 178, 179, 180, 181, 182, 183, 184, 233, 234, 235, 236, 237, 238, 239, 240, 220, 221, 222, 223, 224, 225, 226, 216, 217, 218, 219, 196, 197, 198, 303, 304, 305, 306, 307, 308, 309, 310, 311, 312, 313, 314, 315, 316, 317, 318, 319, 118, 119, 120, 121, 122, 123, 124, 125, 126, 127, 128, 129, 130, 131, 132, 133, 134, 135, 136, 137, 138, 146, 147, 148, 149, 150, 151, 152, 153, 154, 155, 156, 157, 158, 159, 160, 161, 162, 163, 164, 165, 166, 167, 168, 169, 170, 185, 186, 187, 188, 189, 190, 191, 192, 193, 194, 195, 199, 200, 201, 202, 203, 204, 205, 206, 207, 208, 209, 210, 211, 212, 213, 214, 215, 227, 228, 229, 230, 231, 232, 348, 349, 350, 351, 352, 353, 354, 355, 356, 357, 358, 359, 360, 361, 362, 363, 364, 365, 366, 367, 368, 369, 370, 371, 372, 373, 374] (by decide +kernel) (by decide +kernel)) (goodIn_sub (fun _ h => List.mem_cons_of_mem _ (List.mem_append_left _ (List.mem_append_left _ (List.mem_append_right _ h)))) (by decide +kernel))) (goodIn_sub (fun _ h => List.mem_cons_of_mem _ (List.mem_append_left _ (List.mem_append_right _ h))) (by decide +kernel))) (goodIn_sub (fun _ h => List.mem_cons_of_mem _ (List.mem_append_right _ h)) (by decide +kernel))
set_option maxRecDepth 20000 in
theorem gL_changes_L_settles : GoodIn wsL_changes (va_wsS RL 74 yL_settles wsL_settles) := goodIn_app (goodIn_of _ (by decide +kernel)) ggL_changes_L_settles
set_option maxRecDepth 20000 in
theorem ggL_changes_X6_setSplit : GoodIn wsL_changes wsX6_setSplit := goodIn_ca (goodIn_ca (goodIn_ca (goodIn_r _ [323, 122, 23, 6, 7, 4, 8, 9, 10, 11, 12, 13, 14, 15, 16, 17, 161, 162, 163, 164, 165, 166, 167, 168, 169, 170, 171, 25, 172, 173, 28, 29, 30, 31, 32, 33, 42, 43, 44, 45, 46, 47, 174, 175, 176, 177, 178, 179, 180, 181, 182, 183, 184, 348, 349, 350, 351, 358, 359, 360, 361, 362, 363, 364, 365, 373, 374, 366, 367, 368, 369, 370, 371, 372] (by decide +kernel) (by decide +kernel)) (goodIn_sub (fun _ h => List.mem_cons_of_mem _ (List.mem_append_left _ (List.mem_append_left _ (List.mem_append_right _ h)))) (by decide +kernel))) (goodIn_sub (fun _ h => List.mem_cons_of_mem _ (List.mem_append_left _ (List.mem_append_right _ h))) (by decide +kernel))) (goodIn_sub (fun _ h => List.mem_cons_of_mem _ (List.mem_append_right _ h)) (by decide +kernel))
set_option maxRecDepth 20000 in
theorem gL_changes_X6_setSplit : GoodIn wsL_changes (wsV RL 78 RX6 yX6_setSplit wsX6_setSplit) := goodIn_app (goodIn_of _ (by decide +kernel)) ggL_changes_X6_setSplit
set_option maxRecDepth 20000 in
theorem ggL_changes_L_money : GoodIn wsL_changes wsL_money := goodIn_ca (goodIn_ca (goodIn_ca (goodIn_r _ [297, 1, 2, 3, 4, 5, 6, 7, 8, 9, 10, 11, 12, 13, 14, 15, 16, 17, 18, 19, 20, 21, 22, 23, 24, 25, 26, 27, 28, 29, 30, 31, 32, 33, 34, 35, 36, 37, 38, 39, 40, 41, 42, 43, 44, 45, 46, 47, 48, 49, 50, 51, 52, 53, 54, 55, 56, 57, 58, 59, 60, 61, 62, 63, 64, 65, 66, 67, 68, 69, 70, 71, 72, 73, 74, 75, 76, 77, 78, 79, 80, 81, 82, 83, 84, 85, 86, 87, 88, 89, 90, 91, 92, 93, 94, 95, 96, 97, 98, 99, 100, 101, 102, 103, 104, 105, 106, 107, 273, 274, 275, 276, 262, 263, 264, 265, 139, 140, 141, 142, 143, 144, 145, 266, 267, 268, 269, 270, 271, 272, 348, 349, 350, 351, 352, 353, 354, 355, 356, 357, 358, 359, 360, 361, 362, 363, 364, 365, 366, 367, 368, 369, 370, 371, 372] (by decide +kernel) (by decide +kernel)) (goodIn_sub (fun _ h => List.mem_cons_of_mem _ (List.mem_append_left _ (List.mem_append_left _ (List.mem_append_right _ h)))) (by decide +kernel))) (goodIn_sub (fun _ h => List.mem_cons_of_mem _ (List.mem_append_left _ (List.mem_append_right _ h))) (by decide +kernel))) (goodIn_sub (fun _ h => List.mem_cons_of_mem _ (List.mem_append_right _ h)) (by decide +kernel))
set_option maxRecDepth 20000 in
theorem gL_changes_L_money : GoodIn wsL_changes (va_wsS RL 34 yL_money wsL_money) := goodIn_app (goodIn_of _ (by decide +kernel)) ggL_changes_L_money
set_option maxRecDepth 20000 in
theorem ggL_changes_X6_reason : GoodIn wsL_changes wsX6_reason := goodIn_ca (goodIn_ca (goodIn_ca (goodIn_r _ [327, 23, 157, 158, 159, 4, 160, 6, 7, 8, 9, 10, 11, 12, 13, 14, 15, 16, 17, 73, 25, 74, 75, 76, 77, 78, 79, 42, 43, 44, 45, 28, 46, 47, 80, 81, 82, 83, 348, 349, 350, 351, 358, 359, 360, 361, 362, 363, 364, 365, 366, 367, 368, 369, 370, 371, 372] (by decide +kernel) (by decide +kernel)) (goodIn_sub (fun _ h => List.mem_cons_of_mem _ (List.mem_append_left _ (List.mem_append_left _ (List.mem_append_right _ h)))) (by decide +kernel))) (goodIn_sub (fun _ h => List.mem_cons_of_mem _ (List.mem_append_left _ (List.mem_append_right _ h))) (by decide +kernel))) (goodIn_sub (fun _ h => List.mem_cons_of_mem _ (List.mem_append_right _ h)) (by decide +kernel))
set_option maxRecDepth 20000 in
theorem gL_changes_X6_reason : GoodIn wsL_changes (wsV RL 21 RX6 yX6_reason wsX6_reason) := goodIn_app (goodIn_of _ (by decide +kernel)) ggL_changes_X6_reason
set_option maxRecDepth 20000 in
theorem ggL_changes_X6_take : GoodIn wsL_changes wsX6_take := goodIn_ca (goodIn_ca (goodIn_ca (goodIn_r _ [331, 332, 118, 119, 120, 4, 121, 122, 23, 123, 124, 125, 126, 127, 128, 129, 130, 131, 132, 133, 134, 135, 136, 137, 138, 6, 7, 8, 43, 25, 44, 45, 28, 46, 47, 139, 140, 141, 42, 142, 143, 144, 145, 146, 147, 148, 149, 150, 151, 152, 153, 93, 94, 95, 96, 97, 98, 99, 100, 101, 102, 103, 154, 155, 156, 72, 73, 74, 75, 76, 77, 78, 79, 80, 81, 82, 83, 157, 158, 159, 160, 9, 10, 11, 12, 13, 14, 15, 16, 17, 161, 162, 163, 164, 165, 166, 167, 168, 169, 170, 171, 172, 173, 29, 30, 31, 32, 33, 174, 175, 176, 177, 178, 179, 180, 181, 182, 183, 184, 185, 186, 187, 188, 189, 190, 191, 192, 193, 194, 195, 196, 197, 198, 199, 200, 201, 202, 203, 204, 205, 206, 207, 208, 209, 210, 211, 212, 213, 214, 215, 216, 217, 218, 219, 220, 221, 222, 223, 224, 225, 226, 227, 228, 229, 104, 105, 106, 107, 230, 231, 232, 233, 234, 235, 236, 237, 238, 239, 240, 348, 349, 350, 351, 358, 359, 360, 361, 362, 363, 364, 365, 366, 367, 368, 369, 370, 371, 372, 373, 374] (by decide +kernel) (by decide +kernel)) (goodIn_sub (fun _ h => List.mem_cons_of_mem _ (List.mem_append_left _ (List.mem_append_left _ (List.mem_append_right _ h)))) (by decide +kernel))) (goodIn_sub (fun _ h => List.mem_cons_of_mem _ (List.mem_append_left _ (List.mem_append_right _ h))) (by decide +kernel))) (goodIn_sub (fun _ h => List.mem_cons_of_mem _ (List.mem_append_right _ h)) (by decide +kernel))
set_option maxRecDepth 20000 in
theorem gL_changes_X6_take : GoodIn wsL_changes (wsV RL 81 RX6 yX6_take wsX6_take) := goodIn_app (goodIn_of _ (by decide +kernel)) ggL_changes_X6_take
set_option maxRecDepth 20000 in
theorem ggL_changes_X6_swap : GoodIn wsL_changes wsX6_swap := goodIn_ca (goodIn_ca (goodIn_ca (goodIn_r _ [336, 337, 118, 119, 120, 4, 121, 122, 23, 123, 124, 125, 126, 127, 128, 129, 130, 131, 132, 133, 134, 135, 136, 137, 138, 6, 7, 8, 43, 25, 44, 45, 28, 46, 47, 139, 140, 141, 42, 142, 143, 144, 145, 146, 147, 148, 149, 150, 151, 152, 153, 93, 94, 95, 96, 97, 98, 99, 100, 101, 102, 103, 154, 155, 156, 72, 73, 74, 75, 76, 77, 78, 79, 80, 81, 82, 83, 157, 158, 159, 160, 9, 10, 11, 12, 13, 14, 15, 16, 17, 161, 162, 163, 164, 165, 166, 167, 168, 169, 170, 171, 172, 173, 29, 30, 31, 32, 33, 174, 175, 176, 177, 178, 179, 180, 181, 182, 183, 184, 185, 186, 187, 188, 189, 190, 191, 192, 193, 194, 195, 196, 197, 198, 199, 200, 201, 202, 203, 204, 205, 206, 207, 208, 209, 210, 211, 212, 213, 214, 215, 216, 217, 218, 219, 220, 221, 222, 223, 224, 225, 226, 227, 228, 229, 104, 105, 106, 107, 230, 231, 232, 233, 234, 235, 236, 237, 238, 239, 240, 348, 349, 350, 351, 358, 359, 360, 361, 362, 363, 364, 365, 366, 367, 368, 369, 370, 371, 372, 373, 374] (by decide +kernel) (by decide +kernel)) (goodIn_sub (fun _ h => List.mem_cons_of_mem _ (List.mem_append_left _ (List.mem_append_left _ (List.mem_append_right _ h)))) (by decide +kernel))) (goodIn_sub (fun _ h => List.mem_cons_of_mem _ (List.mem_append_left _ (List.mem_append_right _ h))) (by decide +kernel))) (goodIn_sub (fun _ h => List.mem_cons_of_mem _ (List.mem_append_right _ h)) (by decide +kernel))
set_option maxRecDepth 20000 in
theorem gL_changes_X6_swap : GoodIn wsL_changes (wsV RL 84 RX6 yX6_swap wsX6_swap) := goodIn_app (goodIn_of _ (by decide +kernel)) ggL_changes_X6_swap
set_option maxRecDepth 20000 in
theorem ggL_changes_X6_part : GoodIn wsL_changes wsX6_part := goodIn_ca (goodIn_ca (goodIn_ca (goodIn_r _ [341, 342, 118, 119, 120, 4, 121, 122, 23, 123, 124, 125, 126, 127, 128, 129, 130, 131, 132, 133, 134, 135, 136, 137, 138, 6, 7, 8, 43, 25, 44, 45, 28, 46, 47, 139, 140, 141, 42, 142, 143, 144, 145, 146, 147, 148, 149, 150, 151, 152, 153, 93, 94, 95, 96, 97, 98, 99, 100, 101, 102, 103, 154, 155, 156, 72, 73, 74, 75, 76, 77, 78, 79, 80, 81, 82, 83, 157, 158, 159, 160, 9, 10, 11, 12, 13, 14, 15, 16, 17, 161, 162, 163, 164, 165, 166, 167, 168, 169, 170, 171, 172, 173, 29, 30, 31, 32, 33, 174, 175, 176, 177, 178, 179, 180, 181, 182, 183, 184, 185, 186, 187, 188, 189, 190, 191, 192, 193, 194, 195, 196, 197, 198, 199, 200, 201, 202, 203, 204, 205, 206, 207, 208, 209, 210, 211, 212, 213, 214, 215, 216, 217, 218, 219, 220, 221, 222, 223, 224, 225, 226, 227, 228, 229, 104, 105, 106, 107, 230, 231, 232, 233, 234, 235, 236, 237, 238, 239, 240, 348, 349, 350, 351, 358, 359, 360, 361, 362, 363, 364, 365, 366, 367, 368, 369, 370, 371, 372, 373, 374] (by decide +kernel) (by decide +kernel)) (goodIn_sub (fun _ h => List.mem_cons_of_mem _ (List.mem_append_left _ (List.mem_append_left _ (List.mem_append_right _ h)))) (by decide +kernel))) (goodIn_sub (fun _ h => List.mem_cons_of_mem _ (List.mem_append_left _ (List.mem_append_right _ h))) (by decide +kernel))) (goodIn_sub (fun _ h => List.mem_cons_of_mem _ (List.mem_append_right _ h)) (by decide +kernel))
set_option maxRecDepth 20000 in
theorem gL_changes_X6_part : GoodIn wsL_changes (wsV RL 87 RX6 yX6_part wsX6_part) := goodIn_app (goodIn_of _ (by decide +kernel)) ggL_changes_X6_part
set_option maxRecDepth 20000 in
theorem ggL_changes_X6_befriend : GoodIn wsL_changes wsX6_befriend := goodIn_ca (goodIn_ca (goodIn_ca (goodIn_r _ [346, 347, 118, 119, 120, 4, 121, 122, 23, 123, 124, 125, 126, 127, 128, 129, 130, 131, 132, 133, 134, 135, 136, 137, 138, 6, 7, 8, 43, 25, 44, 45, 28, 46, 47, 139, 140, 141, 42, 142, 143, 144, 145, 146, 147, 148, 149, 150, 151, 152, 153, 93, 94, 95, 96, 97, 98, 99, 100, 101, 102, 103, 154, 155, 156, 72, 73, 74, 75, 76, 77, 78, 79, 80, 81, 82, 83, 157, 158, 159, 160, 9, 10, 11, 12, 13, 14, 15, 16, 17, 161, 162, 163, 164, 165, 166, 167, 168, 169, 170, 171, 172, 173, 29, 30, 31, 32, 33, 174, 175, 176, 177, 178, 179, 180, 181, 182, 183, 184, 185, 186, 187, 188, 189, 190, 191, 192, 193, 194, 195, 196, 197, 198, 199, 200, 201, 202, 203, 204, 205, 206, 207, 208, 209, 210, 211, 212, 213, 214, 215, 216, 217, 218, 219, 220, 221, 222, 223, 224, 225, 226, 227, 228, 229, 104, 105, 106, 107, 230, 231, 232, 233, 234, 235, 236, 237, 238, 239, 240, 348, 349, 350, 351, 358, 359, 360, 361, 362, 363, 364, 365, 366, 367, 368, 369, 370, 371, 372, 373, 374] (by decide +kernel) (by decide +kernel)) (goodIn_sub (fun _ h => List.mem_cons_of_mem _ (List.mem_append_left _ (List.mem_append_left _ (List.mem_append_right _ h)))) (by decide +kernel))) (goodIn_sub (fun _ h => List.mem_cons_of_mem _ (List.mem_append_left _ (List.mem_append_right _ h))) (by decide +kernel))) (goodIn_sub (fun _ h => List.mem_cons_of_mem _ (List.mem_append_right _ h)) (by decide +kernel))
set_option maxRecDepth 20000 in
theorem gL_changes_X6_befriend : GoodIn wsL_changes (wsV RL 90 RX6 yX6_befriend wsX6_befriend) := goodIn_app (goodIn_of _ (by decide +kernel)) ggL_changes_X6_befriend
theorem dL_changes_0 : decode cL_changes 0 = .ok (.iload_n 1, 1) := by decide +kernel
theorem dL_changes_1 : decode cL_changes 1 = .ok (.bipush 15, 2) := by decide +kernel
theorem dL_changes_3 : decode cL_changes 3 = .ok (.iand, 1) := by decide +kernel
theorem dL_changes_4 : decode cL_changes 4 = .ok (.istore_n 3, 1) := by decide +kernel
theorem dL_changes_5 : decode cL_changes 5 = .ok (.aload_n 0, 1) := by decide +kernel
theorem dL_changes_6 : decode cL_changes 6 = .ok (.iconst 0, 1) := by decide +kernel
theorem dL_changes_7 : decode cL_changes 7 = .ok (.invokevirtual 8, 3) := by decide +kernel
theorem dL_changes_10 : decode cL_changes 10 = .ok (.istore 4, 2) := by decide +kernel
theorem dL_changes_12 : decode cL_changes 12 = .ok (.iload 4, 2) := by decide +kernel
theorem dL_changes_14 : decode cL_changes 14 = .ok (.ifCond .ne 7, 3) := by decide +kernel
theorem dL_changes_17 : decode cL_changes 17 = .ok (.iconst 0, 1) := by decide +kernel
theorem dL_changes_18 : decode cL_changes 18 = .ok (.goto 11, 3) := by decide +kernel
theorem dL_changes_21 : decode cL_changes 21 = .ok (.iload_n 1, 1) := by decide +kernel
theorem dL_changes_22 : decode cL_changes 22 = .ok (.iconst 4, 1) := by decide +kernel
theorem dL_changes_23 : decode cL_changes 23 = .ok (.ishr, 1) := by decide +kernel
theorem dL_changes_24 : decode cL_changes 24 = .ok (.iload 4, 2) := by decide +kernel
theorem dL_changes_26 : decode cL_changes 26 = .ok (.invokestatic 52, 3) := by decide +kernel
theorem dL_changes_29 : decode cL_changes 29 = .ok (.istore 5, 2) := by decide +kernel
theorem dL_changes_31 : decode cL_changes 31 = .ok (.iload_n 3, 1) := by decide +kernel
theorem dL_changes_32 : decode cL_changes 32 = .ok (.iconst 3, 1) := by decide +kernel
theorem dL_changes_33 : decode cL_changes 33 = .ok (.if_icmp .lt 8, 3) := by decide +kernel
theorem dL_changes_36 : decode cL_changes 36 = .ok (.iload 4, 2) := by decide +kernel
theorem dL_changes_38 : decode cL_changes 38 = .ok (.ifCond .ne 191, 3) := by decide +kernel
theorem dL_changes_41 : decode cL_changes 41 = .ok (.aload_n 0, 1) := by decide +kernel
theorem dL_changes_42 : decode cL_changes 42 = .ok (.bipush 12, 2) := by decide +kernel
theorem dL_changes_44 : decode cL_changes 44 = .ok (.invokevirtual 8, 3) := by decide +kernel
theorem dL_changes_47 : decode cL_changes 47 = .ok (.istore 6, 2) := by decide +kernel
theorem dL_changes_49 : decode cL_changes 49 = .ok (.iload 4, 2) := by decide +kernel
theorem dL_changes_51 : decode cL_changes 51 = .ok (.bipush 10, 2) := by decide +kernel
theorem dL_changes_53 : decode cL_changes 53 = .ok (.if_icmp .ne 26, 3) := by decide +kernel
theorem dL_changes_56 : decode cL_changes 56 = .ok (.aload_n 0, 1) := by decide +kernel
theorem dL_changes_57 : decode cL_changes 57 = .ok (.invokevirtual 55, 3) := by decide +kernel
theorem dL_changes_60 : decode cL_changes 60 = .ok (.ifCond .lt 17, 3) := by decide +kernel
theorem dL_changes_63 : decode cL_changes 63 = .ok (.aload_n 0, 1) := by decide +kernel
theorem dL_changes_64 : decode cL_changes 64 = .ok (.iconst 0, 1) := by decide +kernel
theorem dL_changes_65 : decode cL_changes 65 = .ok (.invokevirtual 8, 3) := by decide +kernel
theorem dL_changes_68 : decode cL_changes 68 = .ok (.bipush 9, 2) := by decide +kernel
theorem dL_changes_70 : decode cL_changes 70 = .ok (.if_icmp .ne 7, 3) := by decide +kernel
theorem dL_changes_73 : decode cL_changes 73 = .ok (.iconst 1, 1) := by decide +kernel
theorem dL_changes_74 : decode cL_changes 74 = .ok (.goto 4, 3) := by decide +kernel
theorem dL_changes_77 : decode cL_changes 77 = .ok (.iconst 0, 1) := by decide +kernel
theorem dL_changes_78 : decode cL_changes 78 = .ok (.ireturn, 1) := by decide +kernel
theorem dL_changes_79 : decode cL_changes 79 = .ok (.iload_n 3, 1) := by decide +kernel
theorem dL_changes_80 : decode cL_changes 80 = .ok (.iconst 1, 1) := by decide +kernel
theorem dL_changes_81 : decode cL_changes 81 = .ok (.if_icmp .ne 29, 3) := by decide +kernel
theorem dL_changes_84 : decode cL_changes 84 = .ok (.iload 4, 2) := by decide +kernel
theorem dL_changes_86 : decode cL_changes 86 = .ok (.ifCond .le 24, 3) := by decide +kernel
theorem dL_changes_89 : decode cL_changes 89 = .ok (.iload 5, 2) := by decide +kernel
theorem dL_changes_91 : decode cL_changes 91 = .ok (.ifCond .eq 15, 3) := by decide +kernel
theorem dL_changes_94 : decode cL_changes 94 = .ok (.aload_n 0, 1) := by decide +kernel
theorem dL_changes_95 : decode cL_changes 95 = .ok (.iload 5, 2) := by decide +kernel
theorem dL_changes_97 : decode cL_changes 97 = .ok (.iconst 1, 1) := by decide +kernel
theorem dL_changes_98 : decode cL_changes 98 = .ok (.isub, 1) := by decide +kernel
theorem dL_changes_99 : decode cL_changes 99 = .ok (.iconst 4, 1) := by decide +kernel
theorem dL_changes_100 : decode cL_changes 100 = .ok (.invokevirtual 24, 3) := by decide +kernel
theorem dL_changes_103 : decode cL_changes 103 = .ok (.ifCond .ne 7, 3) := by decide +kernel
theorem dL_changes_106 : decode cL_changes 106 = .ok (.iconst 1, 1) := by decide +kernel
theorem dL_changes_107 : decode cL_changes 107 = .ok (.goto 4, 3) := by decide +kernel
theorem dL_changes_110 : decode cL_changes 110 = .ok (.iconst 0, 1) := by decide +kernel
theorem dL_changes_111 : decode cL_changes 111 = .ok (.istore 7, 2) := by decide +kernel
theorem dL_changes_113 : decode cL_changes 113 = .ok (.iload 7, 2) := by decide +kernel
theorem dL_changes_115 : decode cL_changes 115 = .ok (.ifCond .eq 29, 3) := by decide +kernel
theorem dL_changes_118 : decode cL_changes 118 = .ok (.aload_n 0, 1) := by decide +kernel
theorem dL_changes_119 : decode cL_changes 119 = .ok (.iload_n 2, 1) := by decide +kernel
theorem dL_changes_120 : decode cL_changes 120 = .ok (.bipush 100, 2) := by decide +kernel
theorem dL_changes_122 : decode cL_changes 122 = .ok (.invokestatic 52, 3) := by decide +kernel
theorem dL_changes_125 : decode cL_changes 125 = .ok (.iconst 1, 1) := by decide +kernel
theorem dL_changes_126 : decode cL_changes 126 = .ok (.iload_n 2, 1) := by decide +kernel
theorem dL_changes_127 : decode cL_changes 127 = .ok (.bipush 7, 2) := by decide +kernel
theorem dL_changes_129 : decode cL_changes 129 = .ok (.ishr, 1) := by decide +kernel
theorem dL_changes_130 : decode cL_changes 130 = .ok (.bipush 30, 2) := by decide +kernel
theorem dL_changes_132 : decode cL_changes 132 = .ok (.invokestatic 52, 3) := by decide +kernel
theorem dL_changes_135 : decode cL_changes 135 = .ok (.iadd, 1) := by decide +kernel
theorem dL_changes_136 : decode cL_changes 136 = .ok (.iload 5, 2) := by decide +kernel
theorem dL_changes_138 : decode cL_changes 138 = .ok (.invokevirtual 58, 3) := by decide +kernel
theorem dL_changes_141 : decode cL_changes 141 = .ok (.goto 24, 3) := by decide +kernel
theorem dL_changes_144 : decode cL_changes 144 = .ok (.aload_n 0, 1) := by decide +kernel
theorem dL_changes_145 : decode cL_changes 145 = .ok (.iload_n 2, 1) := by decide +kernel
theorem dL_changes_146 : decode cL_changes 146 = .ok (.bipush 100, 2) := by decide +kernel
theorem dL_changes_148 : decode cL_changes 148 = .ok (.invokestatic 52, 3) := by decide +kernel
theorem dL_changes_151 : decode cL_changes 151 = .ok (.iconst 1, 1) := by decide +kernel
theorem dL_changes_152 : decode cL_changes 152 = .ok (.iload_n 2, 1) := by decide +kernel
theorem dL_changes_153 : decode cL_changes 153 = .ok (.bipush 7, 2) := by decide +kernel
theorem dL_changes_155 : decode cL_changes 155 = .ok (.ishr, 1) := by decide +kernel
theorem dL_changes_156 : decode cL_changes 156 = .ok (.bipush 30, 2) := by decide +kernel
theorem dL_changes_158 : decode cL_changes 158 = .ok (.invokestatic 52, 3) := by decide +kernel
theorem dL_changes_161 : decode cL_changes 161 = .ok (.iadd, 1) := by decide +kernel
theorem dL_changes_162 : decode cL_changes 162 = .ok (.invokevirtual 62, 3) := by decide +kernel
theorem dL_changes_165 : decode cL_changes 165 = .ok (.istore 8, 2) := by decide +kernel
theorem dL_changes_167 : decode cL_changes 167 = .ok (.iload 8, 2) := by decide +kernel
theorem dL_changes_169 : decode cL_changes 169 = .ok (.iload 6, 2) := by decide +kernel
theorem dL_changes_171 : decode cL_changes 171 = .ok (.if_icmp .ne 56, 3) := by decide +kernel
theorem dL_changes_174 : decode cL_changes 174 = .ok (.aload_n 0, 1) := by decide +kernel
theorem dL_changes_175 : decode cL_changes 175 = .ok (.iload 8, 2) := by decide +kernel
theorem dL_changes_177 : decode cL_changes 177 = .ok (.iconst 0, 1) := by decide +kernel
theorem dL_changes_178 : decode cL_changes 178 = .ok (.invokevirtual 17, 3) := by decide +kernel
theorem dL_changes_181 : decode cL_changes 181 = .ok (.iload 7, 2) := by decide +kernel
theorem dL_changes_183 : decode cL_changes 183 = .ok (.ifCond .eq 8, 3) := by decide +kernel
theorem dL_changes_186 : decode cL_changes 186 = .ok (.iload 5, 2) := by decide +kernel
theorem dL_changes_188 : decode cL_changes 188 = .ok (.goto 5, 3) := by decide +kernel
theorem dL_changes_191 : decode cL_changes 191 = .ok (.iload 4, 2) := by decide +kernel
theorem dL_changes_193 : decode cL_changes 193 = .ok (.if_icmp .ne 34, 3) := by decide +kernel
theorem dL_changes_196 : decode cL_changes 196 = .ok (.aload_n 0, 1) := by decide +kernel
theorem dL_changes_197 : decode cL_changes 197 = .ok (.iload 8, 2) := by decide +kernel
theorem dL_changes_199 : decode cL_changes 199 = .ok (.iconst 2, 1) := by decide +kernel
theorem dL_changes_200 : decode cL_changes 200 = .ok (.invokevirtual 17, 3) := by decide +kernel
theorem dL_changes_203 : decode cL_changes 203 = .ok (.iload_n 2, 1) := by decide +kernel
theorem dL_changes_204 : decode cL_changes 204 = .ok (.bipush 100, 2) := by decide +kernel
theorem dL_changes_206 : decode cL_changes 206 = .ok (.invokestatic 52, 3) := by decide +kernel
theorem dL_changes_209 : decode cL_changes 209 = .ok (.if_icmp .ne 18, 3) := by decide +kernel
theorem dL_changes_212 : decode cL_changes 212 = .ok (.aload_n 0, 1) := by decide +kernel
theorem dL_changes_213 : decode cL_changes 213 = .ok (.iload 8, 2) := by decide +kernel
theorem dL_changes_215 : decode cL_changes 215 = .ok (.bipush 6, 2) := by decide +kernel
theorem dL_changes_217 : decode cL_changes 217 = .ok (.invokevirtual 17, 3) := by decide +kernel
theorem dL_changes_220 : decode cL_changes 220 = .ok (.ifCond .ne 7, 3) := by decide +kernel
theorem dL_changes_223 : decode cL_changes 223 = .ok (.iconst 1, 1) := by decide +kernel
theorem dL_changes_224 : decode cL_changes 224 = .ok (.goto 4, 3) := by decide +kernel
theorem dL_changes_227 : decode cL_changes 227 = .ok (.iconst 0, 1) := by decide +kernel
theorem dL_changes_228 : decode cL_changes 228 = .ok (.ireturn, 1) := by decide +kernel
theorem dL_changes_229 : decode cL_changes 229 = .ok (.aload_n 0, 1) := by decide +kernel
theorem dL_changes_230 : decode cL_changes 230 = .ok (.iload 5, 2) := by decide +kernel
theorem dL_changes_232 : decode cL_changes 232 = .ok (.invokevirtual 14, 3) := by decide +kernel
theorem dL_changes_235 : decode cL_changes 235 = .ok (.istore 6, 2) := by decide +kernel
theorem dL_changes_237 : decode cL_changes 237 = .ok (.iload_n 3, 1) := by decide +kernel
theorem dL_changes_238 : decode cL_changes 238 = .ok (.iconst 3, 1) := by decide +kernel
theorem dL_changes_239 : decode cL_changes 239 = .ok (.if_icmp .ne 65, 3) := by decide +kernel
theorem dL_changes_242 : decode cL_changes 242 = .ok (.iload_n 2, 1) := by decide +kernel
theorem dL_changes_243 : decode cL_changes 243 = .ok (.iconst 1, 1) := by decide +kernel
theorem dL_changes_244 : decode cL_changes 244 = .ok (.iand, 1) := by decide +kernel
theorem dL_changes_245 : decode cL_changes 245 = .ok (.ifCond .ne 34, 3) := by decide +kernel
theorem dL_changes_248 : decode cL_changes 248 = .ok (.aload_n 0, 1) := by decide +kernel
theorem dL_changes_249 : decode cL_changes 249 = .ok (.iload 6, 2) := by decide +kernel
theorem dL_changes_251 : decode cL_changes 251 = .ok (.invokevirtual 65, 3) := by decide +kernel
theorem dL_changes_254 : decode cL_changes 254 = .ok (.iload 5, 2) := by decide +kernel
theorem dL_changes_256 : decode cL_changes 256 = .ok (.if_icmp .ne 19, 3) := by decide +kernel
theorem dL_changes_259 : decode cL_changes 259 = .ok (.aload_n 0, 1) := by decide +kernel
theorem dL_changes_260 : decode cL_changes 260 = .ok (.iconst 0, 1) := by decide +kernel
theorem dL_changes_261 : decode cL_changes 261 = .ok (.invokevirtual 8, 3) := by decide +kernel
theorem dL_changes_264 : decode cL_changes 264 = .ok (.iload 4, 2) := by decide +kernel
theorem dL_changes_266 : decode cL_changes 266 = .ok (.iconst 1, 1) := by decide +kernel
theorem dL_changes_267 : decode cL_changes 267 = .ok (.isub, 1) := by decide +kernel
theorem dL_changes_268 : decode cL_changes 268 = .ok (.if_icmp .ne 7, 3) := by decide +kernel
theorem dL_changes_271 : decode cL_changes 271 = .ok (.iconst 1, 1) := by decide +kernel
theorem dL_changes_272 : decode cL_changes 272 = .ok (.goto 31, 3) := by decide +kernel
theorem dL_changes_275 : decode cL_changes 275 = .ok (.iconst 0, 1) := by decide +kernel
theorem dL_changes_276 : decode cL_changes 276 = .ok (.goto 27, 3) := by decide +kernel
theorem dL_changes_279 : decode cL_changes 279 = .ok (.aload_n 0, 1) := by decide +kernel
theorem dL_changes_280 : decode cL_changes 280 = .ok (.invokevirtual 55, 3) := by decide +kernel
theorem dL_changes_283 : decode cL_changes 283 = .ok (.ifCond .lt 19, 3) := by decide +kernel
theorem dL_changes_286 : decode cL_changes 286 = .ok (.aload_n 0, 1) := by decide +kernel
theorem dL_changes_287 : decode cL_changes 287 = .ok (.iconst 0, 1) := by decide +kernel
theorem dL_changes_288 : decode cL_changes 288 = .ok (.invokevirtual 8, 3) := by decide +kernel
theorem dL_changes_291 : decode cL_changes 291 = .ok (.iload 4, 2) := by decide +kernel
theorem dL_changes_293 : decode cL_changes 293 = .ok (.iconst 1, 1) := by decide +kernel
theorem dL_changes_294 : decode cL_changes 294 = .ok (.isub, 1) := by decide +kernel
theorem dL_changes_295 : decode cL_changes 295 = .ok (.if_icmp .ne 7, 3) := by decide +kernel
theorem dL_changes_298 : decode cL_changes 298 = .ok (.iconst 1, 1) := by decide +kernel
theorem dL_changes_299 : decode cL_changes 299 = .ok (.goto 4, 3) := by decide +kernel
theorem dL_changes_302 : decode cL_changes 302 = .ok (.iconst 0, 1) := by decide +kernel
theorem dL_changes_303 : decode cL_changes 303 = .ok (.ireturn, 1) := by decide +kernel
theorem dL_changes_304 : decode cL_changes 304 = .ok (.iload_n 3, 1) := by decide +kernel
theorem dL_changes_305 : decode cL_changes 305 = .ok (.bipush 6, 2) := by decide +kernel
theorem dL_changes_307 : decode cL_changes 307 = .ok (.if_icmp .ge 51, 3) := by decide +kernel
theorem dL_changes_310 : decode cL_changes 310 = .ok (.aload_n 0, 1) := by decide +kernel
theorem dL_changes_311 : decode cL_changes 311 = .ok (.iload 6, 2) := by decide +kernel
theorem dL_changes_313 : decode cL_changes 313 = .ok (.iconst 2, 1) := by decide +kernel
theorem dL_changes_314 : decode cL_changes 314 = .ok (.invokevirtual 17, 3) := by decide +kernel
theorem dL_changes_317 : decode cL_changes 317 = .ok (.istore 7, 2) := by decide +kernel
theorem dL_changes_319 : decode cL_changes 319 = .ok (.aload_n 0, 1) := by decide +kernel
theorem dL_changes_320 : decode cL_changes 320 = .ok (.iload 6, 2) := by decide +kernel
theorem dL_changes_322 : decode cL_changes 322 = .ok (.iload_n 2, 1) := by decide +kernel
theorem dL_changes_323 : decode cL_changes 323 = .ok (.bipush 100, 2) := by decide +kernel
theorem dL_changes_325 : decode cL_changes 325 = .ok (.invokestatic 52, 3) := by decide +kernel
theorem dL_changes_328 : decode cL_changes 328 = .ok (.invokevirtual 68, 3) := by decide +kernel
theorem dL_changes_331 : decode cL_changes 331 = .ok (.iload 7, 2) := by decide +kernel
theorem dL_changes_333 : decode cL_changes 333 = .ok (.if_icmp .ne 23, 3) := by decide +kernel
theorem dL_changes_336 : decode cL_changes 336 = .ok (.aload_n 0, 1) := by decide +kernel
theorem dL_changes_337 : decode cL_changes 337 = .ok (.iload 6, 2) := by decide +kernel
theorem dL_changes_339 : decode cL_changes 339 = .ok (.iconst 2, 1) := by decide +kernel
theorem dL_changes_340 : decode cL_changes 340 = .ok (.invokevirtual 17, 3) := by decide +kernel
theorem dL_changes_343 : decode cL_changes 343 = .ok (.iload_n 2, 1) := by decide +kernel
theorem dL_changes_344 : decode cL_changes 344 = .ok (.bipush 100, 2) := by decide +kernel
theorem dL_changes_346 : decode cL_changes 346 = .ok (.invokestatic 52, 3) := by decide +kernel
theorem dL_changes_349 : decode cL_changes 349 = .ok (.if_icmp .ne 7, 3) := by decide +kernel
theorem dL_changes_352 : decode cL_changes 352 = .ok (.iconst 1, 1) := by decide +kernel
theorem dL_changes_353 : decode cL_changes 353 = .ok (.goto 4, 3) := by decide +kernel
theorem dL_changes_356 : decode cL_changes 356 = .ok (.iconst 0, 1) := by decide +kernel
theorem dL_changes_357 : decode cL_changes 357 = .ok (.ireturn, 1) := by decide +kernel
theorem dL_changes_358 : decode cL_changes 358 = .ok (.iload_n 3, 1) := by decide +kernel
theorem dL_changes_359 : decode cL_changes 359 = .ok (.bipush 9, 2) := by decide +kernel
theorem dL_changes_361 : decode cL_changes 361 = .ok (.if_icmp .ge 66, 3) := by decide +kernel
theorem dL_changes_364 : decode cL_changes 364 = .ok (.iload 5, 2) := by decide +kernel
theorem dL_changes_366 : decode cL_changes 366 = .ok (.ifCond .le 61, 3) := by decide +kernel
theorem dL_changes_369 : decode cL_changes 369 = .ok (.aload_n 0, 1) := by decide +kernel
theorem dL_changes_370 : decode cL_changes 370 = .ok (.iload 6, 2) := by decide +kernel
theorem dL_changes_372 : decode cL_changes 372 = .ok (.bipush 7, 2) := by decide +kernel
theorem dL_changes_374 : decode cL_changes 374 = .ok (.invokevirtual 17, 3) := by decide +kernel
theorem dL_changes_377 : decode cL_changes 377 = .ok (.istore 7, 2) := by decide +kernel
theorem dL_changes_379 : decode cL_changes 379 = .ok (.aload_n 0, 1) := by decide +kernel
theorem dL_changes_380 : decode cL_changes 380 = .ok (.iload 6, 2) := by decide +kernel
theorem dL_changes_382 : decode cL_changes 382 = .ok (.iload_n 2, 1) := by decide +kernel
theorem dL_changes_383 : decode cL_changes 383 = .ok (.sipush 1500, 3) := by decide +kernel
theorem dL_changes_386 : decode cL_changes 386 = .ok (.invokestatic 52, 3) := by decide +kernel
theorem dL_changes_389 : decode cL_changes 389 = .ok (.invokevirtual 71, 3) := by decide +kernel
theorem dL_changes_392 : decode cL_changes 392 = .ok (.iload 7, 2) := by decide +kernel
theorem dL_changes_394 : decode cL_changes 394 = .ok (.if_icmp .ne 31, 3) := by decide +kernel
theorem dL_changes_397 : decode cL_changes 397 = .ok (.aload_n 0, 1) := by decide +kernel
theorem dL_changes_398 : decode cL_changes 398 = .ok (.aload_n 0, 1) := by decide +kernel
theorem dL_changes_399 : decode cL_changes 399 = .ok (.iload 5, 2) := by decide +kernel
theorem dL_changes_401 : decode cL_changes 401 = .ok (.iconst 1, 1) := by decide +kernel
theorem dL_changes_402 : decode cL_changes 402 = .ok (.isub, 1) := by decide +kernel
theorem dL_changes_403 : decode cL_changes 403 = .ok (.invokevirtual 14, 3) := by decide +kernel
theorem dL_changes_406 : decode cL_changes 406 = .ok (.bipush 8, 2) := by decide +kernel
theorem dL_changes_408 : decode cL_changes 408 = .ok (.invokevirtual 17, 3) := by decide +kernel
theorem dL_changes_411 : decode cL_changes 411 = .ok (.iload_n 2, 1) := by decide +kernel
theorem dL_changes_412 : decode cL_changes 412 = .ok (.sipush 1500, 3) := by decide +kernel
theorem dL_changes_415 : decode cL_changes 415 = .ok (.invokestatic 52, 3) := by decide +kernel
theorem dL_changes_418 : decode cL_changes 418 = .ok (.if_icmp .ne 7, 3) := by decide +kernel
theorem dL_changes_421 : decode cL_changes 421 = .ok (.iconst 1, 1) := by decide +kernel
theorem dL_changes_422 : decode cL_changes 422 = .ok (.goto 4, 3) := by decide +kernel
theorem dL_changes_425 : decode cL_changes 425 = .ok (.iconst 0, 1) := by decide +kernel
theorem dL_changes_426 : decode cL_changes 426 = .ok (.ireturn, 1) := by decide +kernel
theorem dL_changes_427 : decode cL_changes 427 = .ok (.iload_n 3, 1) := by decide +kernel
theorem dL_changes_428 : decode cL_changes 428 = .ok (.bipush 9, 2) := by decide +kernel
theorem dL_changes_430 : decode cL_changes 430 = .ok (.if_icmp .ne 10, 3) := by decide +kernel
theorem dL_changes_433 : decode cL_changes 433 = .ok (.aload_n 0, 1) := by decide +kernel
theorem dL_changes_434 : decode cL_changes 434 = .ok (.iload 6, 2) := by decide +kernel
theorem dL_changes_436 : decode cL_changes 436 = .ok (.invokestatic 74, 3) := by decide +kernel
theorem dL_changes_439 : decode cL_changes 439 = .ok (.ireturn, 1) := by decide +kernel
theorem dL_changes_440 : decode cL_changes 440 = .ok (.iload 5, 2) := by decide +kernel
theorem dL_changes_442 : decode cL_changes 442 = .ok (.iconst 1, 1) := by decide +kernel
theorem dL_changes_443 : decode cL_changes 443 = .ok (.iadd, 1) := by decide +kernel
theorem dL_changes_444 : decode cL_changes 444 = .ok (.iload 4, 2) := by decide +kernel
theorem dL_changes_446 : decode cL_changes 446 = .ok (.if_icmp .ne 31, 3) := by decide +kernel
theorem dL_changes_449 : decode cL_changes 449 = .ok (.aload_n 0, 1) := by decide +kernel
theorem dL_changes_450 : decode cL_changes 450 = .ok (.iconst 1, 1) := by decide +kernel
theorem dL_changes_451 : decode cL_changes 451 = .ok (.invokevirtual 8, 3) := by decide +kernel
theorem dL_changes_454 : decode cL_changes 454 = .ok (.istore 7, 2) := by decide +kernel
theorem dL_changes_456 : decode cL_changes 456 = .ok (.aload_n 0, 1) := by decide +kernel
theorem dL_changes_457 : decode cL_changes 457 = .ok (.iload_n 2, 1) := by decide +kernel
theorem dL_changes_458 : decode cL_changes 458 = .ok (.bipush 101, 2) := by decide +kernel
theorem dL_changes_460 : decode cL_changes 460 = .ok (.invokestatic 52, 3) := by decide +kernel
theorem dL_changes_463 : decode cL_changes 463 = .ok (.invokevirtual 78, 3) := by decide +kernel
theorem dL_changes_466 : decode cL_changes 466 = .ok (.iload 7, 2) := by decide +kernel
theorem dL_changes_468 : decode cL_changes 468 = .ok (.if_icmp .ne 7, 3) := by decide +kernel
theorem dL_changes_471 : decode cL_changes 471 = .ok (.iconst 1, 1) := by decide +kernel
theorem dL_changes_472 : decode cL_changes 472 = .ok (.goto 4, 3) := by decide +kernel
theorem dL_changes_475 : decode cL_changes 475 = .ok (.iconst 0, 1) := by decide +kernel
theorem dL_changes_476 : decode cL_changes 476 = .ok (.ireturn, 1) := by decide +kernel
theorem dL_changes_477 : decode cL_changes 477 = .ok (.aload_n 0, 1) := by decide +kernel
theorem dL_changes_478 : decode cL_changes 478 = .ok (.iload 5, 2) := by decide +kernel
theorem dL_changes_480 : decode cL_changes 480 = .ok (.iconst 1, 1) := by decide +kernel
theorem dL_changes_481 : decode cL_changes 481 = .ok (.iadd, 1) := by decide +kernel
theorem dL_changes_482 : decode cL_changes 482 = .ok (.invokevirtual 14, 3) := by decide +kernel
theorem dL_changes_485 : decode cL_changes 485 = .ok (.istore 7, 2) := by decide +kernel
theorem dL_changes_487 : decode cL_changes 487 = .ok (.aload_n 0, 1) := by decide +kernel
theorem dL_changes_488 : decode cL_changes 488 = .ok (.iload 6, 2) := by decide +kernel
theorem dL_changes_490 : decode cL_changes 490 = .ok (.bipush 8, 2) := by decide +kernel
theorem dL_changes_492 : decode cL_changes 492 = .ok (.invokevirtual 17, 3) := by decide +kernel
theorem dL_changes_495 : decode cL_changes 495 = .ok (.istore 8, 2) := by decide +kernel
theorem dL_changes_497 : decode cL_changes 497 = .ok (.aload_n 0, 1) := by decide +kernel
theorem dL_changes_498 : decode cL_changes 498 = .ok (.invokestatic 34, 3) := by decide +kernel
theorem dL_changes_501 : decode cL_changes 501 = .ok (.istore 9, 2) := by decide +kernel
theorem dL_changes_503 : decode cL_changes 503 = .ok (.aload_n 0, 1) := by decide +kernel
theorem dL_changes_504 : decode cL_changes 504 = .ok (.bipush 10, 2) := by decide +kernel
theorem dL_changes_506 : decode cL_changes 506 = .ok (.invokevirtual 8, 3) := by decide +kernel
theorem dL_changes_509 : decode cL_changes 509 = .ok (.istore 10, 2) := by decide +kernel
theorem dL_changes_511 : decode cL_changes 511 = .ok (.aload_n 0, 1) := by decide +kernel
theorem dL_changes_512 : decode cL_changes 512 = .ok (.iload 7, 2) := by decide +kernel
theorem dL_changes_514 : decode cL_changes 514 = .ok (.bipush 6, 2) := by decide +kernel
theorem dL_changes_516 : decode cL_changes 516 = .ok (.invokevirtual 17, 3) := by decide +kernel
theorem dL_changes_519 : decode cL_changes 519 = .ok (.istore 11, 2) := by decide +kernel
theorem dL_changes_521 : decode cL_changes 521 = .ok (.iload_n 3, 1) := by decide +kernel
theorem dL_changes_522 : decode cL_changes 522 = .ok (.bipush 13, 2) := by decide +kernel
theorem dL_changes_524 : decode cL_changes 524 = .ok (.if_icmp .ge 12, 3) := by decide +kernel
theorem dL_changes_527 : decode cL_changes 527 = .ok (.aload_n 0, 1) := by decide +kernel
theorem dL_changes_528 : decode cL_changes 528 = .ok (.iload 5, 2) := by decide +kernel
theorem dL_changes_530 : decode cL_changes 530 = .ok (.invokevirtual 21, 3) := by decide +kernel
theorem dL_changes_533 : decode cL_changes 533 = .ok (.ifCond .eq 46, 3) := by decide +kernel
theorem dL_changes_536 : decode cL_changes 536 = .ok (.iload_n 3, 1) := by decide +kernel
theorem dL_changes_537 : decode cL_changes 537 = .ok (.bipush 15, 2) := by decide +kernel
theorem dL_changes_539 : decode cL_changes 539 = .ok (.if_icmp .ge 206, 3) := by decide +kernel
theorem dL_changes_542 : decode cL_changes 542 = .ok (.iload 8, 2) := by decide +kernel
theorem dL_changes_544 : decode cL_changes 544 = .ok (.iconst (-1), 1) := by decide +kernel
theorem dL_changes_545 : decode cL_changes 545 = .ok (.if_icmp .eq 200, 3) := by decide +kernel
theorem dL_changes_548 : decode cL_changes 548 = .ok (.iload 8, 2) := by decide +kernel
theorem dL_changes_550 : decode cL_changes 550 = .ok (.aload_n 0, 1) := by decide +kernel
theorem dL_changes_551 : decode cL_changes 551 = .ok (.iload 5, 2) := by decide +kernel
theorem dL_changes_553 : decode cL_changes 553 = .ok (.iconst 1, 1) := by decide +kernel
theorem dL_changes_554 : decode cL_changes 554 = .ok (.invokevirtual 24, 3) := by decide +kernel
theorem dL_changes_557 : decode cL_changes 557 = .ok (.if_icmp .lt 188, 3) := by decide +kernel
theorem dL_changes_560 : decode cL_changes 560 = .ok (.aload_n 0, 1) := by decide +kernel
theorem dL_changes_561 : decode cL_changes 561 = .ok (.iload 5, 2) := by decide +kernel
theorem dL_changes_563 : decode cL_changes 563 = .ok (.invokevirtual 21, 3) := by decide +kernel
theorem dL_changes_566 : decode cL_changes 566 = .ok (.ifCond .eq 13, 3) := by decide +kernel
theorem dL_changes_569 : decode cL_changes 569 = .ok (.aload_n 0, 1) := by decide +kernel
theorem dL_changes_570 : decode cL_changes 570 = .ok (.iload 5, 2) := by decide +kernel
theorem dL_changes_572 : decode cL_changes 572 = .ok (.invokevirtual 21, 3) := by decide +kernel
theorem dL_changes_575 : decode cL_changes 575 = .ok (.iconst 4, 1) := by decide +kernel
theorem dL_changes_576 : decode cL_changes 576 = .ok (.if_icmp .ne 169, 3) := by decide +kernel
theorem dL_changes_579 : decode cL_changes 579 = .ok (.iload 8, 2) := by decide +kernel
theorem dL_changes_581 : decode cL_changes 581 = .ok (.aload_n 0, 1) := by decide +kernel
theorem dL_changes_582 : decode cL_changes 582 = .ok (.iload 5, 2) := by decide +kernel
theorem dL_changes_584 : decode cL_changes 584 = .ok (.iconst 1, 1) := by decide +kernel
theorem dL_changes_585 : decode cL_changes 585 = .ok (.invokevirtual 24, 3) := by decide +kernel
theorem dL_changes_588 : decode cL_changes 588 = .ok (.if_icmp .lt 13, 3) := by decide +kernel
theorem dL_changes_591 : decode cL_changes 591 = .ok (.iload 8, 2) := by decide +kernel
theorem dL_changes_593 : decode cL_changes 593 = .ok (.iconst (-1), 1) := by decide +kernel
theorem dL_changes_594 : decode cL_changes 594 = .ok (.if_icmp .eq 7, 3) := by decide +kernel
theorem dL_changes_597 : decode cL_changes 597 = .ok (.iconst 1, 1) := by decide +kernel
theorem dL_changes_598 : decode cL_changes 598 = .ok (.goto 4, 3) := by decide +kernel
theorem dL_changes_601 : decode cL_changes 601 = .ok (.iconst 0, 1) := by decide +kernel
theorem dL_changes_602 : decode cL_changes 602 = .ok (.istore 12, 2) := by decide +kernel
theorem dL_changes_604 : decode cL_changes 604 = .ok (.iload 12, 2) := by decide +kernel
theorem dL_changes_606 : decode cL_changes 606 = .ok (.ifCond .eq 8, 3) := by decide +kernel
theorem dL_changes_609 : decode cL_changes 609 = .ok (.iload 8, 2) := by decide +kernel
theorem dL_changes_611 : decode cL_changes 611 = .ok (.goto 10, 3) := by decide +kernel
theorem dL_changes_614 : decode cL_changes 614 = .ok (.aload_n 0, 1) := by decide +kernel
theorem dL_changes_615 : decode cL_changes 615 = .ok (.iload 5, 2) := by decide +kernel
theorem dL_changes_617 : decode cL_changes 617 = .ok (.iconst 3, 1) := by decide +kernel
theorem dL_changes_618 : decode cL_changes 618 = .ok (.invokevirtual 24, 3) := by decide +kernel
theorem dL_changes_621 : decode cL_changes 621 = .ok (.istore 13, 2) := by decide +kernel
theorem dL_changes_623 : decode cL_changes 623 = .ok (.iload 12, 2) := by decide +kernel
theorem dL_changes_625 : decode cL_changes 625 = .ok (.ifCond .eq 12, 3) := by decide +kernel
theorem dL_changes_628 : decode cL_changes 628 = .ok (.aload_n 0, 1) := by decide +kernel
theorem dL_changes_629 : decode cL_changes 629 = .ok (.iload 6, 2) := by decide +kernel
theorem dL_changes_631 : decode cL_changes 631 = .ok (.invokevirtual 81, 3) := by decide +kernel
theorem dL_changes_634 : decode cL_changes 634 = .ok (.goto 9, 3) := by decide +kernel
theorem dL_changes_637 : decode cL_changes 637 = .ok (.aload_n 0, 1) := by decide +kernel
theorem dL_changes_638 : decode cL_changes 638 = .ok (.iload 5, 2) := by decide +kernel
theorem dL_changes_640 : decode cL_changes 640 = .ok (.invokevirtual 84, 3) := by decide +kernel
theorem dL_changes_643 : decode cL_changes 643 = .ok (.istore 14, 2) := by decide +kernel
theorem dL_changes_645 : decode cL_changes 645 = .ok (.iload 14, 2) := by decide +kernel
theorem dL_changes_647 : decode cL_changes 647 = .ok (.iload 13, 2) := by decide +kernel
theorem dL_changes_649 : decode cL_changes 649 = .ok (.if_icmp .ne 94, 3) := by decide +kernel
theorem dL_changes_652 : decode cL_changes 652 = .ok (.aload_n 0, 1) := by decide +kernel
theorem dL_changes_653 : decode cL_changes 653 = .ok (.iload 5, 2) := by decide +kernel
theorem dL_changes_655 : decode cL_changes 655 = .ok (.invokevirtual 14, 3) := by decide +kernel
theorem dL_changes_658 : decode cL_changes 658 = .ok (.iload 7, 2) := by decide +kernel
theorem dL_changes_660 : decode cL_changes 660 = .ok (.if_icmp .ne 83, 3) := by decide +kernel
theorem dL_changes_663 : decode cL_changes 663 = .ok (.aload_n 0, 1) := by decide +kernel
theorem dL_changes_664 : decode cL_changes 664 = .ok (.iload 5, 2) := by decide +kernel
theorem dL_changes_666 : decode cL_changes 666 = .ok (.iconst 1, 1) := by decide +kernel
theorem dL_changes_667 : decode cL_changes 667 = .ok (.iadd, 1) := by decide +kernel
theorem dL_changes_668 : decode cL_changes 668 = .ok (.invokevirtual 14, 3) := by decide +kernel
theorem dL_changes_671 : decode cL_changes 671 = .ok (.iload 6, 2) := by decide +kernel
theorem dL_changes_673 : decode cL_changes 673 = .ok (.if_icmp .ne 70, 3) := by decide +kernel
theorem dL_changes_676 : decode cL_changes 676 = .ok (.aload_n 0, 1) := by decide +kernel
theorem dL_changes_677 : decode cL_changes 677 = .ok (.invokestatic 34, 3) := by decide +kernel
theorem dL_changes_680 : decode cL_changes 680 = .ok (.iload 9, 2) := by decide +kernel
theorem dL_changes_682 : decode cL_changes 682 = .ok (.if_icmp .ne 61, 3) := by decide +kernel
theorem dL_changes_685 : decode cL_changes 685 = .ok (.aload_n 0, 1) := by decide +kernel
theorem dL_changes_686 : decode cL_changes 686 = .ok (.bipush 10, 2) := by decide +kernel
theorem dL_changes_688 : decode cL_changes 688 = .ok (.invokevirtual 8, 3) := by decide +kernel
theorem dL_changes_691 : decode cL_changes 691 = .ok (.iload 10, 2) := by decide +kernel
theorem dL_changes_693 : decode cL_changes 693 = .ok (.iload 13, 2) := by decide +kernel
theorem dL_changes_695 : decode cL_changes 695 = .ok (.iadd, 1) := by decide +kernel
theorem dL_changes_696 : decode cL_changes 696 = .ok (.if_icmp .ne 47, 3) := by decide +kernel
theorem dL_changes_699 : decode cL_changes 699 = .ok (.aload_n 0, 1) := by decide +kernel
theorem dL_changes_700 : decode cL_changes 700 = .ok (.iload 7, 2) := by decide +kernel
theorem dL_changes_702 : decode cL_changes 702 = .ok (.bipush 6, 2) := by decide +kernel
theorem dL_changes_704 : decode cL_changes 704 = .ok (.invokevirtual 17, 3) := by decide +kernel
theorem dL_changes_707 : decode cL_changes 707 = .ok (.iload 11, 2) := by decide +kernel
theorem dL_changes_709 : decode cL_changes 709 = .ok (.iload 13, 2) := by decide +kernel
theorem dL_changes_711 : decode cL_changes 711 = .ok (.isub, 1) := by decide +kernel
theorem dL_changes_712 : decode cL_changes 712 = .ok (.if_icmp .ne 31, 3) := by decide +kernel
theorem dL_changes_715 : decode cL_changes 715 = .ok (.aload_n 0, 1) := by decide +kernel
theorem dL_changes_716 : decode cL_changes 716 = .ok (.iload 6, 2) := by decide +kernel
theorem dL_changes_718 : decode cL_changes 718 = .ok (.bipush 8, 2) := by decide +kernel
theorem dL_changes_720 : decode cL_changes 720 = .ok (.invokevirtual 17, 3) := by decide +kernel
theorem dL_changes_723 : decode cL_changes 723 = .ok (.iconst (-1), 1) := by decide +kernel
theorem dL_changes_724 : decode cL_changes 724 = .ok (.if_icmp .ne 19, 3) := by decide +kernel
theorem dL_changes_727 : decode cL_changes 727 = .ok (.aload_n 0, 1) := by decide +kernel
theorem dL_changes_728 : decode cL_changes 728 = .ok (.iload 7, 2) := by decide +kernel
theorem dL_changes_730 : decode cL_changes 730 = .ok (.bipush 7, 2) := by decide +kernel
theorem dL_changes_732 : decode cL_changes 732 = .ok (.invokevirtual 17, 3) := by decide +kernel
theorem dL_changes_735 : decode cL_changes 735 = .ok (.iconst (-1), 1) := by decide +kernel
theorem dL_changes_736 : decode cL_changes 736 = .ok (.if_icmp .ne 7, 3) := by decide +kernel
theorem dL_changes_739 : decode cL_changes 739 = .ok (.iconst 1, 1) := by decide +kernel
theorem dL_changes_740 : decode cL_changes 740 = .ok (.goto 4, 3) := by decide +kernel
theorem dL_changes_743 : decode cL_changes 743 = .ok (.iconst 0, 1) := by decide +kernel
theorem dL_changes_744 : decode cL_changes 744 = .ok (.ireturn, 1) := by decide +kernel
theorem dL_changes_745 : decode cL_changes 745 = .ok (.aload_n 0, 1) := by decide +kernel
theorem dL_changes_746 : decode cL_changes 746 = .ok (.bipush 8, 2) := by decide +kernel
theorem dL_changes_748 : decode cL_changes 748 = .ok (.invokevirtual 8, 3) := by decide +kernel
theorem dL_changes_751 : decode cL_changes 751 = .ok (.istore 12, 2) := by decide +kernel
theorem dL_changes_753 : decode cL_changes 753 = .ok (.aload_n 0, 1) := by decide +kernel
theorem dL_changes_754 : decode cL_changes 754 = .ok (.iload 5, 2) := by decide +kernel
theorem dL_changes_756 : decode cL_changes 756 = .ok (.iconst 4, 1) := by decide +kernel
theorem dL_changes_757 : decode cL_changes 757 = .ok (.invokevirtual 24, 3) := by decide +kernel
theorem dL_changes_760 : decode cL_changes 760 = .ok (.iconst 1, 1) := by decide +kernel
theorem dL_changes_761 : decode cL_changes 761 = .ok (.if_icmp .ne 24, 3) := by decide +kernel
theorem dL_changes_764 : decode cL_changes 764 = .ok (.aload_n 0, 1) := by decide +kernel
theorem dL_changes_765 : decode cL_changes 765 = .ok (.iload 5, 2) := by decide +kernel
theorem dL_changes_767 : decode cL_changes 767 = .ok (.invokevirtual 87, 3) := by decide +kernel
theorem dL_changes_770 : decode cL_changes 770 = .ok (.iload 12, 2) := by decide +kernel
theorem dL_changes_772 : decode cL_changes 772 = .ok (.iconst 1, 1) := by decide +kernel
theorem dL_changes_773 : decode cL_changes 773 = .ok (.isub, 1) := by decide +kernel
theorem dL_changes_774 : decode cL_changes 774 = .ok (.if_icmp .ne 7, 3) := by decide +kernel
theorem dL_changes_777 : decode cL_changes 777 = .ok (.iconst 1, 1) := by decide +kernel
theorem dL_changes_778 : decode cL_changes 778 = .ok (.goto 31, 3) := by decide +kernel
theorem dL_changes_781 : decode cL_changes 781 = .ok (.iconst 0, 1) := by decide +kernel
theorem dL_changes_782 : decode cL_changes 782 = .ok (.goto 27, 3) := by decide +kernel
theorem dL_changes_785 : decode cL_changes 785 = .ok (.iload_n 2, 1) := by decide +kernel
theorem dL_changes_786 : decode cL_changes 786 = .ok (.iconst 1, 1) := by decide +kernel
theorem dL_changes_787 : decode cL_changes 787 = .ok (.iand, 1) := by decide +kernel
theorem dL_changes_788 : decode cL_changes 788 = .ok (.ifCond .eq 16, 3) := by decide +kernel
theorem dL_changes_791 : decode cL_changes 791 = .ok (.aload_n 0, 1) := by decide +kernel
theorem dL_changes_792 : decode cL_changes 792 = .ok (.iload 5, 2) := by decide +kernel
theorem dL_changes_794 : decode cL_changes 794 = .ok (.invokevirtual 90, 3) := by decide +kernel
theorem dL_changes_797 : decode cL_changes 797 = .ok (.iload 12, 2) := by decide +kernel
theorem dL_changes_799 : decode cL_changes 799 = .ok (.iconst 1, 1) := by decide +kernel
theorem dL_changes_800 : decode cL_changes 800 = .ok (.iadd, 1) := by decide +kernel
theorem dL_changes_801 : decode cL_changes 801 = .ok (.if_icmp .ne 7, 3) := by decide +kernel
theorem dL_changes_804 : decode cL_changes 804 = .ok (.iconst 1, 1) := by decide +kernel
theorem dL_changes_805 : decode cL_changes 805 = .ok (.goto 4, 3) := by decide +kernel
theorem dL_changes_808 : decode cL_changes 808 = .ok (.iconst 0, 1) := by decide +kernel
theorem dL_changes_809 : decode cL_changes 809 = .ok (.ireturn, 1) := by decide +kernel
set_option maxRecDepth 20000 in
theorem ggL_law_X6_init : GoodIn wsL_law wsX6_init := goodIn_r _ [5, 6, 7, 8, 9, 10, 11, 12, 13, 14, 15, 16, 17, 18, 19, 20, 21, 22, 23, 24, 25, 26, 27, 28, 29, 30, 31, 32, 33, 34, 35, 36, 37, 38, 39, 40, 41, 42, 43, 44, 45, 46, 47, 48, 546, 547, 548, 549, 550, 551, 552, 553, 542, 543, 544, 545, 554, 555, 556, 557, 558, 559, 560, 561, 562, 563, 564, 565, 566, 567, 568] (by decide +kernel) (by decide +kernel)
set_option maxRecDepth 20000 in
theorem gL_law_X6_init : GoodIn wsL_law (wsX6_init) := ggL_law_X6_init
set_option maxRecDepth 20000 in
theorem ggL_law_X6_whole : GoodIn wsL_law wsX6_whole := goodIn_ca (goodIn_ca (goodIn_ca (goodIn_r _ [52, 53, 54, 2, 55, 56, 57, 58, 59, 60, 61, 62, 63, 64, 65, 66, 67, 68, 21, 12, 69, 11, 70, 71, 72, 30, 73, 74, 75, 76, 77, 78, 79, 80, 81, 82, 83, 84, 85, 86, 87, 88, 26, 29, 89, 90, 91, 92, 93, 94, 95, 96, 97, 98, 99, 100, 101, 102, 103, 104, 105, 106, 107, 108, 109, 110, 111, 112, 113, 114, 115, 116, 117, 118, 119, 120, 121, 122, 123, 124, 125, 126, 127, 128, 129, 130, 131, 132, 133, 134, 135, 136, 137, 138, 139, 140, 141, 142, 143, 144, 145, 146, 147, 148, 542, 543, 544, 545, 556, 557, 558, 559, 560, 561, 546, 547, 548, 549, 550, 551, 552, 553, 562, 563, 564, 565, 566, 567, 568] (by decide +kernel) (by decide +kernel)) (goodIn_sub (fun _ h => List.mem_append_left _ (List.mem_append_left _ (List.mem_append_right _ h))) (by decide +kernel))) (goodIn_sub (fun _ h => List.mem_append_left _ (List.mem_append_right _ h)) (by decide +kernel))) (goodIn_sub (fun _ h => List.mem_append_right _ h) (by decide +kernel))
set_option maxRecDepth 20000 in
theorem gL_law_X6_whole : GoodIn wsL_law (wsV RL 8 RX6 yX6_whole wsX6_whole) := goodIn_app (goodIn_of _ (by decide +kernel)) ggL_law_X6_whole
set_option maxRecDepth 20000 in
theorem ggL_law_X6_at : GoodIn wsL_law wsX6_at := goodIn_ca (goodIn_ca (goodIn_ca (goodIn_r _ [152, 12, 56, 57, 2, 58, 59, 60, 61, 62, 63, 64, 86, 11, 87, 88, 72, 26, 29, 542, 543, 544, 545, 562, 563, 564, 565, 566, 567, 568, 546, 547, 548, 549, 550, 551, 552, 553] (by decide +kernel) (by decide +kernel)) (goodIn_sub (fun _ h => List.mem_append_left _ (List.mem_append_left _ (List.mem_append_right _ h))) (by decide +kernel))) (goodIn_sub (fun _ h => List.mem_append_left _ (List.mem_append_right _ h)) (by decide +kernel))) (goodIn_sub (fun _ h => List.mem_append_right _ h) (by decide +kernel))
set_option maxRecDepth 20000 in
theorem gL_law_X6_at : GoodIn wsL_law (wsV RL 14 RX6 yX6_at wsX6_at) := goodIn_app (goodIn_of _ (by decide +kernel)) ggL_law_X6_at
set_option maxRecDepth 20000 in
theorem ggL_law_X6_runCommands : GoodIn wsL_law wsX6_runCommands := goodIn_r _ [156, 21, 17, 12, 157, 20, 158, 159, 46, 160, 161, 162, 163, 164, 165, 166, 167, 168, 169, 170, 171, 172, 173, 174, 175, 176, 177, 178, 45, 179, 180, 181, 182, 183, 184, 185, 186, 187, 188, 189, 190, 191, 192, 193, 194, 195, 196, 197, 198, 199, 200, 201, 202, 203, 204, 205, 206, 207, 208, 209, 210, 211, 212, 213, 214, 215, 216, 217, 218, 219, 220, 221, 222, 223, 224, 225, 226, 227, 228, 229, 230, 231, 232, 233, 234, 235, 236, 237, 238, 239, 240, 241, 242, 243, 244, 245, 246, 247, 248, 249, 250, 48, 251, 252, 253, 254, 255, 256, 257, 258, 259, 260, 261, 262, 16, 263, 264, 265, 40, 266, 267, 268, 269, 270, 11, 271, 272, 72, 30, 73, 74, 75, 76, 85, 86, 87, 88, 26, 29, 273, 28, 274, 275, 34, 276, 277, 278, 279, 35, 280, 281, 282, 283, 2, 284, 285, 286, 287, 288, 289, 290, 291, 292, 293, 294, 295, 296, 297, 298, 299, 300, 301, 302, 303, 53, 54, 55, 304, 305, 306, 307, 308, 309, 310, 311, 312, 313, 314, 315, 316, 317, 318, 134, 135, 136, 137, 138, 139, 140, 141, 142, 143, 144, 319, 320, 321, 113, 114, 115, 116, 117, 118, 119, 120, 121, 122, 123, 124, 322, 323, 324, 325, 326, 327, 328, 329, 330, 331, 332, 333, 334, 335, 336, 337, 338, 339, 340, 341, 342, 343, 344, 345, 346, 347, 348, 349, 350, 351, 352, 353, 354, 355, 356, 357, 358, 359, 360, 361, 362, 363, 364, 365, 366, 367, 368, 369, 370, 145, 146, 147, 148, 371, 372, 373, 374, 375, 376, 377, 378, 379, 380, 381, 542, 543, 544, 545, 556, 557, 558, 559, 560, 561, 554, 555, 546, 547, 548, 549, 550, 551, 552, 553, 562, 563, 564, 565, 566, 567, 568] (by decide +kernel) (by decide +kernel)
set_option maxRecDepth 20000 in
theorem gL_law_X6_runCommands : GoodIn wsL_law (wsV RL 94 RX6 yX6_runCommands wsX6_runCommands) := goodIn_app (goodIn_of _ (by decide +kernel)) ggL_law_X6_runCommands
set_option maxRecDepth 20000 in
theorem ggL_law_X6_undo : GoodIn wsL_law wsX6_undo := goodIn_ca (goodIn_ca (goodIn_ca (goodIn_r _ [385, 17, 12, 56, 57, 2, 58, 59, 60, 61, 62, 63, 64, 386, 16, 387, 388, 265, 40, 270, 11, 271, 272, 72, 30, 73, 74, 75, 76, 85, 86, 87, 88, 26, 29, 273, 28, 274, 275, 34, 276, 277, 278, 279, 35, 280, 542, 543, 544, 545, 554, 555, 546, 547, 548, 549, 550, 551, 552, 553, 562, 563, 564, 565, 566, 567, 568] (by decide +kernel) (by decide +kernel)) (goodIn_sub (fun _ h => List.mem_append_left _ (List.mem_append_left _ (List.mem_append_right _ h))) (by decide +kernel))) (goodIn_sub (fun _ h => List.mem_append_left _ (List.mem_append_right _ h)) (by decide +kernel))) (goodIn_sub (fun _ h => List.mem_append_right _ h) (by decide +kernel))
set_option maxRecDepth 20000 in
theorem gL_law_X6_undo : GoodIn wsL_law (wsV RL 97 RX6 yX6_undo wsX6_undo) := goodIn_app (goodIn_of _ (by decide +kernel)) ggL_law_X6_undo
set_option maxRecDepth 20000 in
theorem ggL_law_X6_settle : GoodIn wsL_law wsX6_settle := goodIn_ca (goodIn_ca (goodIn_ca (goodIn_r _ [392, 393, 394, 395, 396, 2, 397, 17, 12, 288, 289, 290, 291, 292, 293, 294, 295, 296, 297, 298, 299, 300, 301, 302, 303, 53, 54, 55, 86, 11, 87, 88, 72, 26, 29, 304, 305, 306, 85, 307, 308, 309, 310, 311, 312, 313, 314, 315, 316, 317, 318, 134, 135, 136, 137, 138, 139, 140, 141, 142, 143, 144, 319, 320, 321, 113, 114, 115, 116, 117, 118, 119, 120, 121, 122, 123, 124, 322, 323, 324, 325, 56, 57, 58, 59, 60, 61, 62, 63, 64, 262, 16, 263, 264, 265, 40, 266, 267, 268, 269, 270, 271, 272, 30, 73, 74, 75, 76, 273, 28, 274, 275, 34, 276, 277, 278, 279, 35, 280, 326, 327, 328, 329, 330, 331, 332, 333, 334, 335, 336, 337, 338, 339, 340, 341, 342, 343, 344, 345, 346, 347, 348, 349, 350, 351, 352, 353, 354, 355, 356, 357, 358, 359, 360, 361, 362, 363, 364, 365, 366, 367, 368, 369, 370, 145, 146, 147, 148, 371, 372, 373, 374, 375, 376, 377, 378, 379, 380, 381, 542, 543, 544, 545, 546, 547, 548, 549, 550, 551, 552, 553, 562, 563, 564, 565, 566, 567, 568, 554, 555] (by decide +kernel) (by decide +kernel)) (goodIn_sub (fun _ h => List.mem_append_left _ (List.mem_append_left _ (List.mem_append_right _ h))) (by decide +kernel))) (goodIn_sub (fun _ h => List.mem_append_left _ (List.mem_append_right _ h)) (by decide +kernel))) (goodIn_sub (fun _ h => List.mem_append_right _ h) (by decide +kernel))
set_option maxRecDepth 20000 in
theorem gL_law_X6_settle : GoodIn wsL_law (wsV RL 49 RX6 yX6_settle wsX6_settle) := goodIn_app (goodIn_of _ (by decide +kernel)) ggL_law_X6_settle
set_option maxRecDepth 20000 in
theorem ggL_law_X6_disorder : GoodIn wsL_law wsX6_disorder := goodIn_r _ [401, 12, 402, 11, 403, 404, 72, 105, 106, 107, 108, 85, 86, 87, 88, 26, 29, 542, 543, 544, 545, 546, 547, 548, 549, 550, 551, 552, 553, 562, 563, 564, 565, 566, 567, 568] (by decide +kernel) (by decide +kernel)
set_option maxRecDepth 20000 in
theorem gL_law_X6_disorder : GoodIn wsL_law (wsV RL 27 RX6 yX6_disorder wsX6_disorder) := goodIn_app (goodIn_of _ (by decide +kernel)) ggL_law_X6_disorder
set_option maxRecDepth 20000 in
theorem ggL_law_L_cell : GoodIn wsL_law wsL_cell := goodIn_r _ [408] (by decide +kernel) (by decide +kernel)
set_option maxRecDepth 20000 in
theorem gL_law_L_cell : GoodIn wsL_law (va_wsS RL 100 yL_cell wsL_cell) := goodIn_app (goodIn_of _ (by decide +kernel)) ggL_law_L_cell
set_option maxRecDepth 20000 in
theorem ggL_law_L_changes : GoodIn wsL_law wsL_changes := goodIn_ca (goodIn_ca (goodIn_ca (goodIn_r _ [411, 49, 50, 51, 2, 52, 53, 54, 55, 56, 57, 58, 59, 60, 61, 62, 63, 64, 65, 66, 67, 68, 21, 12, 69, 11, 70, 71, 72, 30, 73, 74, 75, 76, 77, 78, 79, 80, 81, 82, 83, 84, 85, 86, 87, 88, 26, 29, 89, 90, 91, 92, 93, 94, 95, 96, 97, 98, 99, 100, 101, 102, 103, 104, 105, 106, 107, 108, 109, 110, 111, 112, 113, 114, 115, 116, 117, 118, 119, 120, 121, 122, 123, 124, 125, 126, 127, 128, 129, 130, 131, 132, 133, 134, 135, 136, 137, 138, 139, 140, 141, 142, 143, 144, 145, 146, 147, 148, 412, 413, 407, 414, 415, 416, 417, 418, 419, 420, 394, 395, 396, 397, 17, 288, 289, 290, 291, 292, 293, 294, 295, 296, 297, 298, 299, 300, 301, 302, 303, 304, 305, 306, 307, 308, 309, 310, 311, 312, 313, 314, 315, 316, 317, 318, 319, 320, 321, 322, 323, 324, 325, 262, 16, 263, 264, 265, 40, 266, 267, 268, 269, 270, 271, 272, 273, 28, 274, 275, 34, 276, 277, 278, 279, 35, 280, 326, 327, 328, 329, 330, 331, 332, 333, 334, 335, 336, 337, 338, 339, 340, 341, 342, 343, 344, 345, 346, 347, 348, 349, 350, 351, 352, 353, 354, 355, 356, 357, 358, 359, 360, 361, 362, 363, 364, 365, 366, 367, 368, 369, 370, 371, 372, 373, 374, 375, 376, 377, 378, 379, 380, 381, 421, 422, 423, 424, 425, 426, 427, 428, 429, 430, 431, 432, 433, 434, 435, 436, 437, 438, 439, 440, 441, 442, 443, 444, 445, 446, 447, 448, 449, 450, 451, 452, 149, 150, 151, 152, 453, 454, 455, 456, 457, 458, 459, 460, 461, 462, 463, 464, 465, 466, 467, 468, 469, 470, 471, 472, 473, 474, 475, 476, 477, 13, 478, 479, 480, 481, 482, 483, 484, 485, 486, 487, 488, 489, 389, 390, 391, 392, 393, 490, 491, 492, 493, 494, 495, 496, 497, 498, 499, 500, 501, 502, 503, 504, 505, 506, 507, 508, 509, 510, 511, 512, 513, 514, 515, 516, 517, 542, 543, 544, 545, 556, 557, 558, 559, 560, 561, 546, 547, 548, 549, 550, 551, 552, 553, 562, 563, 564, 565, 566, 567, 568, 554, 555] (by decide +kernel) (by decide +kernel)) (goodIn_sub (fun _ h => List.mem_append_left _ (List.mem_append_left _ (List.mem_append_right _ h))) (by decide +kernel))) (goodIn_sub (fun _ h => List.mem_append_left _ (List.mem_append_right _ h)) (by decide +kernel))) (goodIn_sub (fun _ h => List.mem_append_right _ h) (by decide +kernel))
set_option maxRecDepth 20000 in
theorem gL_law_L_changes : GoodIn wsL_law (va_wsS RL 104 yL_changes wsL_changes) := goodIn_app (goodIn_of _ (by decide +kernel)) ggL_law_L_changes
set_option maxRecDepth 20000 in
theorem ggL_law_L_rules : GoodIn wsL_law wsL_rules := goodIn_ca (goodIn_ca (goodIn_ca (goodIn_r _ [520, 49, 50, 51, 2, 52, 53, 54, 55, 56, 57, 58, 59, 60, 61, 62, 63, 64, 65, 66, 67, 68, 21, 12, 69, 11, 70, 71, 72, 30, 73, 74, 75, 76, 77, 78, 79, 80, 81, 82, 83, 84, 85, 86, 87, 88, 26, 29, 89, 90, 91, 92, 93, 94, 95, 96, 97, 98, 99, 100, 101, 102, 103, 104, 105, 106, 107, 108, 109, 110, 111, 112, 113, 114, 115, 116, 117, 118, 119, 120, 121, 122, 123, 124, 125, 126, 127, 128, 129, 130, 131, 132, 133, 134, 135, 136, 137, 138, 139, 140, 141, 142, 143, 144, 145, 146, 147, 148, 149, 150, 151, 152, 442, 443, 444, 445, 304, 305, 306, 307, 308, 309, 310, 446, 447, 448, 449, 450, 451, 452, 494, 495, 496, 497, 322, 323, 324, 325, 421, 422, 423, 424, 425, 426, 427, 428, 429, 430, 431, 364, 365, 366, 367, 398, 399, 400, 401, 402, 403, 404, 521, 522, 523, 524, 13, 270, 271, 272, 273, 28, 274, 275, 34, 276, 277, 278, 279, 35, 280, 525, 526, 527, 374, 375, 376, 377, 378, 379, 380, 381, 361, 362, 363, 357, 358, 359, 360, 337, 338, 339, 542, 543, 544, 545, 556, 557, 558, 559, 560, 561, 546, 547, 548, 549, 550, 551, 552, 553, 562, 563, 564, 565, 566, 567, 568] (by decide +kernel) (by decide +kernel)) (goodIn_sub (fun _ h => List.mem_append_left _ (List.mem_append_left _ (List.mem_append_right _ h))) (by decide +kernel))) (goodIn_sub (fun _ h => List.mem_append_left _ (List.mem_append_right _ h)) (by decide +kernel))) (goodIn_sub (fun _ h => List.mem_append_right _ h) (by decide +kernel))
set_option maxRecDepth 20000 in
theorem gL_law_L_rules : GoodIn wsL_law (va_wsS RL 108 yL_rules wsL_rules) := goodIn_app (goodIn_of _ (by decide +kernel)) ggL_law_L_rules
set_option maxRecDepth 20000 in
theorem ggL_law_X6_digest : GoodIn wsL_law wsX6_digest := goodIn_r _ [531, 532, 17, 533, 12, 65, 66, 67, 2, 68, 21, 69, 11, 70, 71, 72, 30, 73, 74, 75, 76, 77, 78, 79, 80, 81, 82, 83, 84, 85, 86, 87, 88, 26, 29, 89, 90, 91, 92, 93, 94, 95, 96, 97, 98, 99, 100, 101, 102, 103, 104, 105, 106, 107, 108, 109, 110, 111, 112, 113, 114, 115, 116, 117, 118, 119, 120, 121, 122, 123, 124, 125, 126, 127, 128, 129, 130, 131, 132, 133, 134, 135, 136, 137, 138, 139, 140, 141, 142, 143, 144, 145, 146, 147, 148, 534, 535, 536, 537, 446, 447, 448, 449, 450, 451, 452, 538, 539, 540, 541, 425, 426, 427, 428, 429, 430, 431, 364, 365, 366, 367, 402, 403, 404, 542, 543, 544, 545, 554, 555, 556, 557, 558, 559, 560, 561, 546, 547, 548, 549, 550, 551, 552, 553, 562, 563, 564, 565, 566, 567, 568] (by decide +kernel) (by decide +kernel)
set_option maxRecDepth 20000 in
theorem gL_law_X6_digest : GoodIn wsL_law (wsV RL 112 RX6 yX6_digest wsX6_digest) := goodIn_app (goodIn_of _ (by decide +kernel)) ggL_law_X6_digest
set_option maxRecDepth 20000 in
theorem ggL_law_X6_setSplit : GoodIn wsL_law wsX6_setSplit := goodIn_ca (goodIn_ca (goodIn_ca (goodIn_r _ [493, 17, 12, 53, 54, 2, 55, 56, 57, 58, 59, 60, 61, 62, 63, 64, 262, 16, 263, 264, 265, 40, 266, 267, 268, 269, 270, 11, 271, 272, 72, 30, 73, 74, 75, 76, 85, 86, 87, 88, 26, 29, 273, 28, 274, 275, 34, 276, 277, 278, 279, 35, 280, 542, 543, 544, 545, 546, 547, 548, 549, 550, 551, 552, 553, 554, 555, 562, 563, 564, 565, 566, 567, 568] (by decide +kernel) (by decide +kernel)) (goodIn_sub (fun _ h => List.mem_append_left _ (List.mem_append_left _ (List.mem_append_right _ h))) (by decide +kernel))) (goodIn_sub (fun _ h => List.mem_append_left _ (List.mem_append_right _ h)) (by decide +kernel))) (goodIn_sub (fun _ h => List.mem_append_right _ h) (by decide +kernel))
set_option maxRecDepth 20000 in
theorem gL_law_X6_setSplit : GoodIn wsL_law (wsV RL 78 RX6 yX6_setSplit wsX6_setSplit) := goodIn_app (goodIn_of _ (by decide +kernel)) ggL_law_X6_setSplit
theorem dL_law_0 : decode cL_law 0 = .ok (.new 9, 3) := by decide +kernel
theorem dL_law_3 : decode cL_law 3 = .ok (.dup, 1) := by decide +kernel
theorem dL_law_4 : decode cL_law 4 = .ok (.invokespecial 93, 3) := by decide +kernel
theorem dL_law_7 : decode cL_law 7 = .ok (.astore_n 1, 1) := by decide +kernel
theorem dL_law_8 : decode cL_law 8 = .ok (.aload_n 1, 1) := by decide +kernel
theorem dL_law_9 : decode cL_law 9 = .ok (.iconst 0, 1) := by decide +kernel
theorem dL_law_10 : decode cL_law 10 = .ok (.invokevirtual 8, 3) := by decide +kernel
theorem dL_law_13 : decode cL_law 13 = .ok (.ifCond .ne 57, 3) := by decide +kernel
theorem dL_law_16 : decode cL_law 16 = .ok (.aload_n 1, 1) := by decide +kernel
theorem dL_law_17 : decode cL_law 17 = .ok (.iconst 1, 1) := by decide +kernel
theorem dL_law_18 : decode cL_law 18 = .ok (.invokevirtual 8, 3) := by decide +kernel
theorem dL_law_21 : decode cL_law 21 = .ok (.bipush 50, 2) := by decide +kernel
theorem dL_law_23 : decode cL_law 23 = .ok (.if_icmp .ne 47, 3) := by decide +kernel
theorem dL_law_26 : decode cL_law 26 = .ok (.aload_n 1, 1) := by decide +kernel
theorem dL_law_27 : decode cL_law 27 = .ok (.iconst 0, 1) := by decide +kernel
theorem dL_law_28 : decode cL_law 28 = .ok (.invokevirtual 14, 3) := by decide +kernel
theorem dL_law_31 : decode cL_law 31 = .ok (.iconst (-1), 1) := by decide +kernel
theorem dL_law_32 : decode cL_law 32 = .ok (.if_icmp .ne 38, 3) := by decide +kernel
theorem dL_law_35 : decode cL_law 35 = .ok (.aload_n 1, 1) := by decide +kernel
theorem dL_law_36 : decode cL_law 36 = .ok (.invokevirtual 94, 3) := by decide +kernel
theorem dL_law_39 : decode cL_law 39 = .ok (.ifCond .ne 31, 3) := by decide +kernel
theorem dL_law_42 : decode cL_law 42 = .ok (.aload_n 1, 1) := by decide +kernel
theorem dL_law_43 : decode cL_law 43 = .ok (.invokevirtual 97, 3) := by decide +kernel
theorem dL_law_46 : decode cL_law 46 = .ok (.ifCond .ne 24, 3) := by decide +kernel
theorem dL_law_49 : decode cL_law 49 = .ok (.aload_n 1, 1) := by decide +kernel
theorem dL_law_50 : decode cL_law 50 = .ok (.invokevirtual 49, 3) := by decide +kernel
theorem dL_law_53 : decode cL_law 53 = .ok (.ifCond .ne 17, 3) := by decide +kernel
theorem dL_law_56 : decode cL_law 56 = .ok (.aload_n 1, 1) := by decide +kernel
theorem dL_law_57 : decode cL_law 57 = .ok (.invokevirtual 97, 3) := by decide +kernel
theorem dL_law_60 : decode cL_law 60 = .ok (.ifCond .ne 10, 3) := by decide +kernel
theorem dL_law_63 : decode cL_law 63 = .ok (.aload_n 1, 1) := by decide +kernel
theorem dL_law_64 : decode cL_law 64 = .ok (.invokevirtual 27, 3) := by decide +kernel
theorem dL_law_67 : decode cL_law 67 = .ok (.ifCond .eq 5, 3) := by decide +kernel
theorem dL_law_70 : decode cL_law 70 = .ok (.iconst 0, 1) := by decide +kernel
theorem dL_law_71 : decode cL_law 71 = .ok (.ireturn, 1) := by decide +kernel
theorem dL_law_72 : decode cL_law 72 = .ok (.iconst 0, 1) := by decide +kernel
theorem dL_law_73 : decode cL_law 73 = .ok (.istore_n 2, 1) := by decide +kernel
theorem dL_law_74 : decode cL_law 74 = .ok (.iload_n 2, 1) := by decide +kernel
theorem dL_law_75 : decode cL_law 75 = .ok (.bipush 40, 2) := by decide +kernel
theorem dL_law_77 : decode cL_law 77 = .ok (.if_icmp .ge 109, 3) := by decide +kernel
theorem dL_law_80 : decode cL_law 80 = .ok (.aload_n 1, 1) := by decide +kernel
theorem dL_law_81 : decode cL_law 81 = .ok (.aload_n 0, 1) := by decide +kernel
theorem dL_law_82 : decode cL_law 82 = .ok (.iconst 2, 1) := by decide +kernel
theorem dL_law_83 : decode cL_law 83 = .ok (.iload_n 2, 1) := by decide +kernel
theorem dL_law_84 : decode cL_law 84 = .ok (.imul, 1) := by decide +kernel
theorem dL_law_85 : decode cL_law 85 = .ok (.invokestatic 100, 3) := by decide +kernel
theorem dL_law_88 : decode cL_law 88 = .ok (.aload_n 0, 1) := by decide +kernel
theorem dL_law_89 : decode cL_law 89 = .ok (.iconst 2, 1) := by decide +kernel
theorem dL_law_90 : decode cL_law 90 = .ok (.iload_n 2, 1) := by decide +kernel
theorem dL_law_91 : decode cL_law 91 = .ok (.imul, 1) := by decide +kernel
theorem dL_law_92 : decode cL_law 92 = .ok (.iconst 1, 1) := by decide +kernel
theorem dL_law_93 : decode cL_law 93 = .ok (.iadd, 1) := by decide +kernel
theorem dL_law_94 : decode cL_law 94 = .ok (.invokestatic 100, 3) := by decide +kernel
theorem dL_law_97 : decode cL_law 97 = .ok (.invokestatic 104, 3) := by decide +kernel
theorem dL_law_100 : decode cL_law 100 = .ok (.ifCond .eq 10, 3) := by decide +kernel
theorem dL_law_103 : decode cL_law 103 = .ok (.aload_n 1, 1) := by decide +kernel
theorem dL_law_104 : decode cL_law 104 = .ok (.invokestatic 108, 3) := by decide +kernel
theorem dL_law_107 : decode cL_law 107 = .ok (.ifCond .ne 5, 3) := by decide +kernel
theorem dL_law_110 : decode cL_law 110 = .ok (.iconst 0, 1) := by decide +kernel
theorem dL_law_111 : decode cL_law 111 = .ok (.ireturn, 1) := by decide +kernel
theorem dL_law_112 : decode cL_law 112 = .ok (.aload_n 1, 1) := by decide +kernel
theorem dL_law_113 : decode cL_law 113 = .ok (.invokevirtual 112, 3) := by decide +kernel
theorem dL_law_116 : decode cL_law 116 = .ok (.lstore_n 3, 1) := by decide +kernel
theorem dL_law_117 : decode cL_law 117 = .ok (.aload_n 1, 1) := by decide +kernel
theorem dL_law_118 : decode cL_law 118 = .ok (.bipush 77, 2) := by decide +kernel
theorem dL_law_120 : decode cL_law 120 = .ok (.invokevirtual 78, 3) := by decide +kernel
theorem dL_law_123 : decode cL_law 123 = .ok (.istore 5, 2) := by decide +kernel
theorem dL_law_125 : decode cL_law 125 = .ok (.aload_n 1, 1) := by decide +kernel
theorem dL_law_126 : decode cL_law 126 = .ok (.invokevirtual 97, 3) := by decide +kernel
theorem dL_law_129 : decode cL_law 129 = .ok (.istore 6, 2) := by decide +kernel
theorem dL_law_131 : decode cL_law 131 = .ok (.aload_n 1, 1) := by decide +kernel
theorem dL_law_132 : decode cL_law 132 = .ok (.iconst 1, 1) := by decide +kernel
theorem dL_law_133 : decode cL_law 133 = .ok (.invokevirtual 8, 3) := by decide +kernel
theorem dL_law_136 : decode cL_law 136 = .ok (.iload 5, 2) := by decide +kernel
theorem dL_law_138 : decode cL_law 138 = .ok (.if_icmp .ne 24, 3) := by decide +kernel
theorem dL_law_141 : decode cL_law 141 = .ok (.iload 6, 2) := by decide +kernel
theorem dL_law_143 : decode cL_law 143 = .ok (.iconst 3, 1) := by decide +kernel
theorem dL_law_144 : decode cL_law 144 = .ok (.if_icmp .gt 18, 3) := by decide +kernel
theorem dL_law_147 : decode cL_law 147 = .ok (.iload 6, 2) := by decide +kernel
theorem dL_law_149 : decode cL_law 149 = .ok (.iconst 3, 1) := by decide +kernel
theorem dL_law_150 : decode cL_law 150 = .ok (.if_icmp .ge 14, 3) := by decide +kernel
theorem dL_law_153 : decode cL_law 153 = .ok (.aload_n 1, 1) := by decide +kernel
theorem dL_law_154 : decode cL_law 154 = .ok (.invokevirtual 112, 3) := by decide +kernel
theorem dL_law_157 : decode cL_law 157 = .ok (.lload_n 3, 1) := by decide +kernel
theorem dL_law_158 : decode cL_law 158 = .ok (.lcmp, 1) := by decide +kernel
theorem dL_law_159 : decode cL_law 159 = .ok (.ifCond .eq 5, 3) := by decide +kernel
theorem dL_law_162 : decode cL_law 162 = .ok (.iconst 0, 1) := by decide +kernel
theorem dL_law_163 : decode cL_law 163 = .ok (.ireturn, 1) := by decide +kernel
theorem dL_law_164 : decode cL_law 164 = .ok (.iload 6, 2) := by decide +kernel
theorem dL_law_166 : decode cL_law 166 = .ok (.iconst 3, 1) := by decide +kernel
theorem dL_law_167 : decode cL_law 167 = .ok (.if_icmp .ne 13, 3) := by decide +kernel
theorem dL_law_170 : decode cL_law 170 = .ok (.aload_n 1, 1) := by decide +kernel
theorem dL_law_171 : decode cL_law 171 = .ok (.invokevirtual 97, 3) := by decide +kernel
theorem dL_law_174 : decode cL_law 174 = .ok (.iconst 2, 1) := by decide +kernel
theorem dL_law_175 : decode cL_law 175 = .ok (.if_icmp .eq 5, 3) := by decide +kernel
theorem dL_law_178 : decode cL_law 178 = .ok (.iconst 0, 1) := by decide +kernel
theorem dL_law_179 : decode cL_law 179 = .ok (.ireturn, 1) := by decide +kernel
theorem dL_law_180 : decode cL_law 180 = .ok (.iinc 2 1, 3) := by decide +kernel
theorem dL_law_183 : decode cL_law 183 = .ok (.goto (-109), 3) := by decide +kernel
theorem dL_law_186 : decode cL_law 186 = .ok (.iconst 1, 1) := by decide +kernel
theorem dL_law_187 : decode cL_law 187 = .ok (.ireturn, 1) := by decide +kernel
abbrev vwCl : List vw_C := [(RX2, TX2, 6), (RX3, TX3, 2), (RX4, TX4, 8), (RX5, TX5, 7), (RX6, TX6, 4)]
/-! ===== END printed: names ===== -/
