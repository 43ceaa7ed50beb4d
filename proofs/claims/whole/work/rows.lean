section
-- ===== PART A: goes FIRST, ahead of the names: the tables' words, and 'selects' of the private methods out of them =====
/-- a private method of a class that the tables say can be made, by its rows of tables_1 -/
def lw_okq (q : MethodName × Nat) : Prop := (q.1.cls ≠ "java/lang/invoke/MethodHandle" ∧ q.1.cls ≠ "java/lang/invoke/VarHandle") ∧ Cond.instantiable q.1.cls q.2 ∈ tables_1 ∧ Cond.privateMethod q.1 ∈ tables_1 ∧ Cond.instanceMethod q.1 ∈ tables_1
theorem lw_p0 : lw_okq (⟨"ConsentQueue", "perform", "(LConsentQueue$Command;III)I"⟩, 4) := ⟨⟨by decide +kernel, by decide +kernel⟩, List.mem_of_getElem? (i := 22) (by decide +kernel), List.mem_of_getElem? (i := 168) (by decide +kernel), List.mem_of_getElem? (i := 169) (by decide +kernel)⟩
theorem lw_p1 : lw_okq (⟨"ConsentQueue", "faultOf", "(LConsentQueue$Command;III)I"⟩, 4) := ⟨⟨by decide +kernel, by decide +kernel⟩, List.mem_of_getElem? (i := 22) (by decide +kernel), List.mem_of_getElem? (i := 172) (by decide +kernel), List.mem_of_getElem? (i := 173) (by decide +kernel)⟩
theorem lw_p2 : lw_okq (⟨"ConsentQueue", "joinFault", "(III)I"⟩, 4) := ⟨⟨by decide +kernel, by decide +kernel⟩, List.mem_of_getElem? (i := 22) (by decide +kernel), List.mem_of_getElem? (i := 184) (by decide +kernel), List.mem_of_getElem? (i := 185) (by decide +kernel)⟩
theorem lw_p3 : lw_okq (⟨"ConsentQueue$Line", "memberAt", "(I)LConsentQueue$Member;"⟩, 8) := ⟨⟨by decide +kernel, by decide +kernel⟩, List.mem_of_getElem? (i := 30) (by decide +kernel), List.mem_of_getElem? (i := 191) (by decide +kernel), List.mem_of_getElem? (i := 192) (by decide +kernel)⟩
theorem lw_p4 : lw_okq (⟨"ConsentQueue$Line", "placeOf", "(I)I"⟩, 8) := ⟨⟨by decide +kernel, by decide +kernel⟩, List.mem_of_getElem? (i := 30) (by decide +kernel), List.mem_of_getElem? (i := 195) (by decide +kernel), List.mem_of_getElem? (i := 196) (by decide +kernel)⟩
theorem lw_p5 : lw_okq (⟨"ConsentQueue", "memberFault", "(IZ)I"⟩, 4) := ⟨⟨by decide +kernel, by decide +kernel⟩, List.mem_of_getElem? (i := 22) (by decide +kernel), List.mem_of_getElem? (i := 200) (by decide +kernel), List.mem_of_getElem? (i := 201) (by decide +kernel)⟩
theorem lw_p6 : lw_okq (⟨"ConsentQueue", "offerFault", "(II)I"⟩, 4) := ⟨⟨by decide +kernel, by decide +kernel⟩, List.mem_of_getElem? (i := 22) (by decide +kernel), List.mem_of_getElem? (i := 204) (by decide +kernel), List.mem_of_getElem? (i := 205) (by decide +kernel)⟩
theorem lw_p7 : lw_okq (⟨"ConsentQueue", "takeFault", "(I)I"⟩, 4) := ⟨⟨by decide +kernel, by decide +kernel⟩, List.mem_of_getElem? (i := 22) (by decide +kernel), List.mem_of_getElem? (i := 208) (by decide +kernel), List.mem_of_getElem? (i := 209) (by decide +kernel)⟩
theorem lw_p8 : lw_okq (⟨"ConsentQueue$Line", "wouldTake", "(I)Z"⟩, 8) := ⟨⟨by decide +kernel, by decide +kernel⟩, List.mem_of_getElem? (i := 30) (by decide +kernel), List.mem_of_getElem? (i := 212) (by decide +kernel), List.mem_of_getElem? (i := 213) (by decide +kernel)⟩
theorem lw_p9 : lw_okq (⟨"ConsentQueue$Line", "loss", "(I)I"⟩, 8) := ⟨⟨by decide +kernel, by decide +kernel⟩, List.mem_of_getElem? (i := 30) (by decide +kernel), List.mem_of_getElem? (i := 216) (by decide +kernel), List.mem_of_getElem? (i := 217) (by decide +kernel)⟩
theorem lw_p10 : lw_okq (⟨"ConsentQueue$Line", "isHeldByFriends", "(I)Z"⟩, 8) := ⟨⟨by decide +kernel, by decide +kernel⟩, List.mem_of_getElem? (i := 30) (by decide +kernel), List.mem_of_getElem? (i := 220) (by decide +kernel), List.mem_of_getElem? (i := 221) (by decide +kernel)⟩
theorem lw_p11 : lw_okq (⟨"ConsentQueue$Line", "wouldSwap", "(I)Z"⟩, 8) := ⟨⟨by decide +kernel, by decide +kernel⟩, List.mem_of_getElem? (i := 30) (by decide +kernel), List.mem_of_getElem? (i := 224) (by decide +kernel), List.mem_of_getElem? (i := 225) (by decide +kernel)⟩
theorem lw_p12 : lw_okq (⟨"ConsentQueue$Line", "hindrance", "(I)I"⟩, 8) := ⟨⟨by decide +kernel, by decide +kernel⟩, List.mem_of_getElem? (i := 30) (by decide +kernel), List.mem_of_getElem? (i := 228) (by decide +kernel), List.mem_of_getElem? (i := 229) (by decide +kernel)⟩
theorem lw_p13 : lw_okq (⟨"ConsentQueue$Line", "areFriends", "(I)Z"⟩, 8) := ⟨⟨by decide +kernel, by decide +kernel⟩, List.mem_of_getElem? (i := 30) (by decide +kernel), List.mem_of_getElem? (i := 232) (by decide +kernel), List.mem_of_getElem? (i := 233) (by decide +kernel)⟩
theorem lw_p14 : lw_okq (⟨"ConsentQueue$Line", "surplus", "(I)I"⟩, 8) := ⟨⟨by decide +kernel, by decide +kernel⟩, List.mem_of_getElem? (i := 30) (by decide +kernel), List.mem_of_getElem? (i := 236) (by decide +kernel), List.mem_of_getElem? (i := 237) (by decide +kernel)⟩
theorem lw_p15 : lw_okq (⟨"ConsentQueue", "pairFault", "(IZI)I"⟩, 4) := ⟨⟨by decide +kernel, by decide +kernel⟩, List.mem_of_getElem? (i := 22) (by decide +kernel), List.mem_of_getElem? (i := 240) (by decide +kernel), List.mem_of_getElem? (i := 241) (by decide +kernel)⟩
def lw_privs_1 : List (MethodName × Nat) := [(⟨"ConsentQueue", "perform", "(LConsentQueue$Command;III)I"⟩, 4), (⟨"ConsentQueue", "faultOf", "(LConsentQueue$Command;III)I"⟩, 4), (⟨"ConsentQueue", "joinFault", "(III)I"⟩, 4), (⟨"ConsentQueue$Line", "memberAt", "(I)LConsentQueue$Member;"⟩, 8), (⟨"ConsentQueue$Line", "placeOf", "(I)I"⟩, 8), (⟨"ConsentQueue", "memberFault", "(IZ)I"⟩, 4), (⟨"ConsentQueue", "offerFault", "(II)I"⟩, 4), (⟨"ConsentQueue", "takeFault", "(I)I"⟩, 4), (⟨"ConsentQueue$Line", "wouldTake", "(I)Z"⟩, 8), (⟨"ConsentQueue$Line", "loss", "(I)I"⟩, 8), (⟨"ConsentQueue$Line", "isHeldByFriends", "(I)Z"⟩, 8), (⟨"ConsentQueue$Line", "wouldSwap", "(I)Z"⟩, 8), (⟨"ConsentQueue$Line", "hindrance", "(I)I"⟩, 8), (⟨"ConsentQueue$Line", "areFriends", "(I)Z"⟩, 8), (⟨"ConsentQueue$Line", "surplus", "(I)I"⟩, 8), (⟨"ConsentQueue", "pairFault", "(IZI)I"⟩, 4)]
theorem lw_r1 : ∀ q ∈ lw_privs_1, lw_okq q := List.forall_mem_cons.mpr ⟨lw_p0, List.forall_mem_cons.mpr ⟨lw_p1, List.forall_mem_cons.mpr ⟨lw_p2, List.forall_mem_cons.mpr ⟨lw_p3, List.forall_mem_cons.mpr ⟨lw_p4, List.forall_mem_cons.mpr ⟨lw_p5, List.forall_mem_cons.mpr ⟨lw_p6, List.forall_mem_cons.mpr ⟨lw_p7, List.forall_mem_cons.mpr ⟨lw_p8, List.forall_mem_cons.mpr ⟨lw_p9, List.forall_mem_cons.mpr ⟨lw_p10, List.forall_mem_cons.mpr ⟨lw_p11, List.forall_mem_cons.mpr ⟨lw_p12, List.forall_mem_cons.mpr ⟨lw_p13, List.forall_mem_cons.mpr ⟨lw_p14, List.forall_mem_cons.mpr ⟨lw_p15, fun _ h => absurd h List.not_mem_nil⟩⟩⟩⟩⟩⟩⟩⟩⟩⟩⟩⟩⟩⟩⟩⟩
theorem lw_p16 : lw_okq (⟨"java/lang/Throwable", "fillInStackTrace", "(I)Ljava/lang/Throwable;"⟩, 6) := ⟨⟨by decide +kernel, by decide +kernel⟩, List.mem_of_getElem? (i := 286) (by decide +kernel), List.mem_of_getElem? (i := 284) (by decide +kernel), List.mem_of_getElem? (i := 285) (by decide +kernel)⟩
theorem lw_p17 : lw_okq (⟨"ConsentQueue$History", "push", "(LConsentQueue$Line;)V"⟩, 2) := ⟨⟨by decide +kernel, by decide +kernel⟩, List.mem_of_getElem? (i := 103) (by decide +kernel), List.mem_of_getElem? (i := 347) (by decide +kernel), List.mem_of_getElem? (i := 348) (by decide +kernel)⟩
theorem lw_p18 : lw_okq (⟨"ConsentQueue$History", "dropOldest", "()V"⟩, 2) := ⟨⟨by decide +kernel, by decide +kernel⟩, List.mem_of_getElem? (i := 103) (by decide +kernel), List.mem_of_getElem? (i := 351) (by decide +kernel), List.mem_of_getElem? (i := 352) (by decide +kernel)⟩
theorem lw_p19 : lw_okq (⟨"ConsentQueue$Line", "copyFrom", "(LConsentQueue$Line;)V"⟩, 8) := ⟨⟨by decide +kernel, by decide +kernel⟩, List.mem_of_getElem? (i := 30) (by decide +kernel), List.mem_of_getElem? (i := 355) (by decide +kernel), List.mem_of_getElem? (i := 356) (by decide +kernel)⟩
theorem lw_p20 : lw_okq (⟨"ConsentQueue$Member", "copyFrom", "(LConsentQueue$Member;)V"⟩, 7) := ⟨⟨by decide +kernel, by decide +kernel⟩, List.mem_of_getElem? (i := 37) (by decide +kernel), List.mem_of_getElem? (i := 359) (by decide +kernel), List.mem_of_getElem? (i := 360) (by decide +kernel)⟩
theorem lw_p21 : lw_okq (⟨"ConsentQueue", "carryOut", "(LConsentQueue$Command;III)I"⟩, 4) := ⟨⟨by decide +kernel, by decide +kernel⟩, List.mem_of_getElem? (i := 22) (by decide +kernel), List.mem_of_getElem? (i := 363) (by decide +kernel), List.mem_of_getElem? (i := 364) (by decide +kernel)⟩
theorem lw_p22 : lw_okq (⟨"ConsentQueue$Line", "insert", "(III)I"⟩, 8) := ⟨⟨by decide +kernel, by decide +kernel⟩, List.mem_of_getElem? (i := 30) (by decide +kernel), List.mem_of_getElem? (i := 367) (by decide +kernel), List.mem_of_getElem? (i := 368) (by decide +kernel)⟩
theorem lw_p23 : lw_okq (⟨"ConsentQueue$Member", "begin", "(III)V"⟩, 7) := ⟨⟨by decide +kernel, by decide +kernel⟩, List.mem_of_getElem? (i := 37) (by decide +kernel), List.mem_of_getElem? (i := 371) (by decide +kernel), List.mem_of_getElem? (i := 372) (by decide +kernel)⟩
theorem lw_p24 : lw_okq (⟨"ConsentQueue$Member", "loseOneAhead", "()V"⟩, 7) := ⟨⟨by decide +kernel, by decide +kernel⟩, List.mem_of_getElem? (i := 37) (by decide +kernel), List.mem_of_getElem? (i := 375) (by decide +kernel), List.mem_of_getElem? (i := 376) (by decide +kernel)⟩
theorem lw_p25 : lw_okq (⟨"ConsentQueue$Line", "removeMember", "(I)I"⟩, 8) := ⟨⟨by decide +kernel, by decide +kernel⟩, List.mem_of_getElem? (i := 30) (by decide +kernel), List.mem_of_getElem? (i := 380) (by decide +kernel), List.mem_of_getElem? (i := 381) (by decide +kernel)⟩
theorem lw_p26 : lw_okq (⟨"ConsentQueue$Line", "removeAt", "(I)V"⟩, 8) := ⟨⟨by decide +kernel, by decide +kernel⟩, List.mem_of_getElem? (i := 30) (by decide +kernel), List.mem_of_getElem? (i := 385) (by decide +kernel), List.mem_of_getElem? (i := 386) (by decide +kernel)⟩
theorem lw_p27 : lw_okq (⟨"ConsentQueue$Line", "tell", "(II)I"⟩, 8) := ⟨⟨by decide +kernel, by decide +kernel⟩, List.mem_of_getElem? (i := 30) (by decide +kernel), List.mem_of_getElem? (i := 389) (by decide +kernel), List.mem_of_getElem? (i := 390) (by decide +kernel)⟩
theorem lw_p28 : lw_okq (⟨"ConsentQueue$Line", "makeOffer", "(II)I"⟩, 8) := ⟨⟨by decide +kernel, by decide +kernel⟩, List.mem_of_getElem? (i := 30) (by decide +kernel), List.mem_of_getElem? (i := 393) (by decide +kernel), List.mem_of_getElem? (i := 394) (by decide +kernel)⟩
theorem lw_p29 : lw_okq (⟨"ConsentQueue$Line", "swapAsOffered", "(I)I"⟩, 8) := ⟨⟨by decide +kernel, by decide +kernel⟩, List.mem_of_getElem? (i := 30) (by decide +kernel), List.mem_of_getElem? (i := 397) (by decide +kernel), List.mem_of_getElem? (i := 398) (by decide +kernel)⟩
theorem lw_p30 : lw_okq (⟨"ConsentQueue$Line", "swapAt", "(II)I"⟩, 8) := ⟨⟨by decide +kernel, by decide +kernel⟩, List.mem_of_getElem? (i := 30) (by decide +kernel), List.mem_of_getElem? (i := 401) (by decide +kernel), List.mem_of_getElem? (i := 402) (by decide +kernel)⟩
theorem lw_p31 : lw_okq (⟨"ConsentQueue$Line", "swapFairly", "(I)I"⟩, 8) := ⟨⟨by decide +kernel, by decide +kernel⟩, List.mem_of_getElem? (i := 30) (by decide +kernel), List.mem_of_getElem? (i := 405) (by decide +kernel), List.mem_of_getElem? (i := 406) (by decide +kernel)⟩
def lw_privs_2 : List (MethodName × Nat) := [(⟨"java/lang/Throwable", "fillInStackTrace", "(I)Ljava/lang/Throwable;"⟩, 6), (⟨"ConsentQueue$History", "push", "(LConsentQueue$Line;)V"⟩, 2), (⟨"ConsentQueue$History", "dropOldest", "()V"⟩, 2), (⟨"ConsentQueue$Line", "copyFrom", "(LConsentQueue$Line;)V"⟩, 8), (⟨"ConsentQueue$Member", "copyFrom", "(LConsentQueue$Member;)V"⟩, 7), (⟨"ConsentQueue", "carryOut", "(LConsentQueue$Command;III)I"⟩, 4), (⟨"ConsentQueue$Line", "insert", "(III)I"⟩, 8), (⟨"ConsentQueue$Member", "begin", "(III)V"⟩, 7), (⟨"ConsentQueue$Member", "loseOneAhead", "()V"⟩, 7), (⟨"ConsentQueue$Line", "removeMember", "(I)I"⟩, 8), (⟨"ConsentQueue$Line", "removeAt", "(I)V"⟩, 8), (⟨"ConsentQueue$Line", "tell", "(II)I"⟩, 8), (⟨"ConsentQueue$Line", "makeOffer", "(II)I"⟩, 8), (⟨"ConsentQueue$Line", "swapAsOffered", "(I)I"⟩, 8), (⟨"ConsentQueue$Line", "swapAt", "(II)I"⟩, 8), (⟨"ConsentQueue$Line", "swapFairly", "(I)I"⟩, 8)]
theorem lw_r2 : ∀ q ∈ lw_privs_2, lw_okq q := List.forall_mem_cons.mpr ⟨lw_p16, List.forall_mem_cons.mpr ⟨lw_p17, List.forall_mem_cons.mpr ⟨lw_p18, List.forall_mem_cons.mpr ⟨lw_p19, List.forall_mem_cons.mpr ⟨lw_p20, List.forall_mem_cons.mpr ⟨lw_p21, List.forall_mem_cons.mpr ⟨lw_p22, List.forall_mem_cons.mpr ⟨lw_p23, List.forall_mem_cons.mpr ⟨lw_p24, List.forall_mem_cons.mpr ⟨lw_p25, List.forall_mem_cons.mpr ⟨lw_p26, List.forall_mem_cons.mpr ⟨lw_p27, List.forall_mem_cons.mpr ⟨lw_p28, List.forall_mem_cons.mpr ⟨lw_p29, List.forall_mem_cons.mpr ⟨lw_p30, List.forall_mem_cons.mpr ⟨lw_p31, fun _ h => absurd h List.not_mem_nil⟩⟩⟩⟩⟩⟩⟩⟩⟩⟩⟩⟩⟩⟩⟩⟩
theorem lw_p32 : lw_okq (⟨"ConsentQueue$Line", "fairPrice", "(I)I"⟩, 8) := ⟨⟨by decide +kernel, by decide +kernel⟩, List.mem_of_getElem? (i := 30) (by decide +kernel), List.mem_of_getElem? (i := 409) (by decide +kernel), List.mem_of_getElem? (i := 410) (by decide +kernel)⟩
theorem lw_p33 : lw_okq (⟨"ConsentQueue$Line", "setFriends", "(IZ)I"⟩, 8) := ⟨⟨by decide +kernel, by decide +kernel⟩, List.mem_of_getElem? (i := 30) (by decide +kernel), List.mem_of_getElem? (i := 413) (by decide +kernel), List.mem_of_getElem? (i := 414) (by decide +kernel)⟩
theorem lw_p34 : lw_okq (⟨"ConsentQueue$Line", "friendPairs", "()I"⟩, 8) := ⟨⟨by decide +kernel, by decide +kernel⟩, List.mem_of_getElem? (i := 30) (by decide +kernel), List.mem_of_getElem? (i := 417) (by decide +kernel), List.mem_of_getElem? (i := 418) (by decide +kernel)⟩
theorem lw_p35 : lw_okq (⟨"ConsentQueue$Line", "serveFirst", "()I"⟩, 8) := ⟨⟨by decide +kernel, by decide +kernel⟩, List.mem_of_getElem? (i := 30) (by decide +kernel), List.mem_of_getElem? (i := 421) (by decide +kernel), List.mem_of_getElem? (i := 422) (by decide +kernel)⟩
theorem lw_p36 : lw_okq (⟨"ConsentQueue$Line", "settleDown", "()I"⟩, 8) := ⟨⟨by decide +kernel, by decide +kernel⟩, List.mem_of_getElem? (i := 30) (by decide +kernel), List.mem_of_getElem? (i := 425) (by decide +kernel), List.mem_of_getElem? (i := 426) (by decide +kernel)⟩
theorem lw_p37 : lw_okq (⟨"ConsentQueue$Line", "keenestPair", "()I"⟩, 8) := ⟨⟨by decide +kernel, by decide +kernel⟩, List.mem_of_getElem? (i := 30) (by decide +kernel), List.mem_of_getElem? (i := 429) (by decide +kernel), List.mem_of_getElem? (i := 430) (by decide +kernel)⟩
theorem lw_p38 : lw_okq (⟨"ConsentQueue$Line", "tellTruth", "()V"⟩, 8) := ⟨⟨by decide +kernel, by decide +kernel⟩, List.mem_of_getElem? (i := 30) (by decide +kernel), List.mem_of_getElem? (i := 439) (by decide +kernel), List.mem_of_getElem? (i := 440) (by decide +kernel)⟩
theorem lw_p39 : lw_okq (⟨"ConsentQueue$Line", "cost", "()I"⟩, 8) := ⟨⟨by decide +kernel, by decide +kernel⟩, List.mem_of_getElem? (i := 30) (by decide +kernel), List.mem_of_getElem? (i := 443) (by decide +kernel), List.mem_of_getElem? (i := 444) (by decide +kernel)⟩
theorem lw_p40 : lw_okq (⟨"ConsentQueue$Line", "costAt", "(I)I"⟩, 8) := ⟨⟨by decide +kernel, by decide +kernel⟩, List.mem_of_getElem? (i := 30) (by decide +kernel), List.mem_of_getElem? (i := 447) (by decide +kernel), List.mem_of_getElem? (i := 448) (by decide +kernel)⟩
theorem lw_p41 : lw_okq (⟨"ConsentQueue$Line", "waitAt", "(I)I"⟩, 8) := ⟨⟨by decide +kernel, by decide +kernel⟩, List.mem_of_getElem? (i := 30) (by decide +kernel), List.mem_of_getElem? (i := 451) (by decide +kernel), List.mem_of_getElem? (i := 452) (by decide +kernel)⟩
theorem lw_p42 : lw_okq (⟨"ConsentQueue$Line", "wrongPairs", "()I"⟩, 8) := ⟨⟨by decide +kernel, by decide +kernel⟩, List.mem_of_getElem? (i := 30) (by decide +kernel), List.mem_of_getElem? (i := 459) (by decide +kernel), List.mem_of_getElem? (i := 460) (by decide +kernel)⟩
theorem lw_p43 : lw_okq (⟨"ConsentQueue$Line", "waitingCost", "(II)I"⟩, 8) := ⟨⟨by decide +kernel, by decide +kernel⟩, List.mem_of_getElem? (i := 30) (by decide +kernel), List.mem_of_getElem? (i := 463) (by decide +kernel), List.mem_of_getElem? (i := 464) (by decide +kernel)⟩
theorem lw_p44 : lw_okq (⟨"ConsentQueue$CommandText", "findFault", "()I"⟩, 6) := ⟨⟨by decide +kernel, by decide +kernel⟩, List.mem_of_getElem? (i := 120) (by decide +kernel), List.mem_of_getElem? (i := 475) (by decide +kernel), List.mem_of_getElem? (i := 476) (by decide +kernel)⟩
theorem lw_p45 : lw_okq (⟨"ConsentQueue$CommandText", "startReading", "()V"⟩, 6) := ⟨⟨by decide +kernel, by decide +kernel⟩, List.mem_of_getElem? (i := 120) (by decide +kernel), List.mem_of_getElem? (i := 479) (by decide +kernel), List.mem_of_getElem? (i := 480) (by decide +kernel)⟩
theorem lw_p46 : lw_okq (⟨"ConsentQueue$CommandText", "hasCommand", "()Z"⟩, 6) := ⟨⟨by decide +kernel, by decide +kernel⟩, List.mem_of_getElem? (i := 120) (by decide +kernel), List.mem_of_getElem? (i := 483) (by decide +kernel), List.mem_of_getElem? (i := 484) (by decide +kernel)⟩
theorem lw_p47 : lw_okq (⟨"ConsentQueue$CommandText", "skipSpaces", "()V"⟩, 6) := ⟨⟨by decide +kernel, by decide +kernel⟩, List.mem_of_getElem? (i := 120) (by decide +kernel), List.mem_of_getElem? (i := 487) (by decide +kernel), List.mem_of_getElem? (i := 488) (by decide +kernel)⟩
def lw_privs_3 : List (MethodName × Nat) := [(⟨"ConsentQueue$Line", "fairPrice", "(I)I"⟩, 8), (⟨"ConsentQueue$Line", "setFriends", "(IZ)I"⟩, 8), (⟨"ConsentQueue$Line", "friendPairs", "()I"⟩, 8), (⟨"ConsentQueue$Line", "serveFirst", "()I"⟩, 8), (⟨"ConsentQueue$Line", "settleDown", "()I"⟩, 8), (⟨"ConsentQueue$Line", "keenestPair", "()I"⟩, 8), (⟨"ConsentQueue$Line", "tellTruth", "()V"⟩, 8), (⟨"ConsentQueue$Line", "cost", "()I"⟩, 8), (⟨"ConsentQueue$Line", "costAt", "(I)I"⟩, 8), (⟨"ConsentQueue$Line", "waitAt", "(I)I"⟩, 8), (⟨"ConsentQueue$Line", "wrongPairs", "()I"⟩, 8), (⟨"ConsentQueue$Line", "waitingCost", "(II)I"⟩, 8), (⟨"ConsentQueue$CommandText", "findFault", "()I"⟩, 6), (⟨"ConsentQueue$CommandText", "startReading", "()V"⟩, 6), (⟨"ConsentQueue$CommandText", "hasCommand", "()Z"⟩, 6), (⟨"ConsentQueue$CommandText", "skipSpaces", "()V"⟩, 6)]
theorem lw_r3 : ∀ q ∈ lw_privs_3, lw_okq q := List.forall_mem_cons.mpr ⟨lw_p32, List.forall_mem_cons.mpr ⟨lw_p33, List.forall_mem_cons.mpr ⟨lw_p34, List.forall_mem_cons.mpr ⟨lw_p35, List.forall_mem_cons.mpr ⟨lw_p36, List.forall_mem_cons.mpr ⟨lw_p37, List.forall_mem_cons.mpr ⟨lw_p38, List.forall_mem_cons.mpr ⟨lw_p39, List.forall_mem_cons.mpr ⟨lw_p40, List.forall_mem_cons.mpr ⟨lw_p41, List.forall_mem_cons.mpr ⟨lw_p42, List.forall_mem_cons.mpr ⟨lw_p43, List.forall_mem_cons.mpr ⟨lw_p44, List.forall_mem_cons.mpr ⟨lw_p45, List.forall_mem_cons.mpr ⟨lw_p46, List.forall_mem_cons.mpr ⟨lw_p47, fun _ h => absurd h List.not_mem_nil⟩⟩⟩⟩⟩⟩⟩⟩⟩⟩⟩⟩⟩⟩⟩⟩
theorem lw_p48 : lw_okq (⟨"ConsentQueue$CommandText", "byteAt", "(I)I"⟩, 6) := ⟨⟨by decide +kernel, by decide +kernel⟩, List.mem_of_getElem? (i := 120) (by decide +kernel), List.mem_of_getElem? (i := 491) (by decide +kernel), List.mem_of_getElem? (i := 492) (by decide +kernel)⟩
theorem lw_p49 : lw_okq (⟨"ConsentQueue$CommandText", "readCommand", "()V"⟩, 6) := ⟨⟨by decide +kernel, by decide +kernel⟩, List.mem_of_getElem? (i := 120) (by decide +kernel), List.mem_of_getElem? (i := 495) (by decide +kernel), List.mem_of_getElem? (i := 496) (by decide +kernel)⟩
theorem lw_p50 : lw_okq (⟨"ConsentQueue$CommandText", "skipLetters", "()V"⟩, 6) := ⟨⟨by decide +kernel, by decide +kernel⟩, List.mem_of_getElem? (i := 120) (by decide +kernel), List.mem_of_getElem? (i := 499) (by decide +kernel), List.mem_of_getElem? (i := 500) (by decide +kernel)⟩
theorem lw_p51 : lw_okq (⟨"ConsentQueue$CommandText", "commandSpelled", "(II)LConsentQueue$Command;"⟩, 6) := ⟨⟨by decide +kernel, by decide +kernel⟩, List.mem_of_getElem? (i := 120) (by decide +kernel), List.mem_of_getElem? (i := 506) (by decide +kernel), List.mem_of_getElem? (i := 507) (by decide +kernel)⟩
theorem lw_p52 : lw_okq (⟨"ConsentQueue$CommandText", "isSpelled", "(Ljava/lang/String;II)Z"⟩, 6) := ⟨⟨by decide +kernel, by decide +kernel⟩, List.mem_of_getElem? (i := 120) (by decide +kernel), List.mem_of_getElem? (i := 512) (by decide +kernel), List.mem_of_getElem? (i := 513) (by decide +kernel)⟩
theorem lw_p53 : lw_okq (⟨"ConsentQueue$CommandText", "readNumber", "(I)V"⟩, 6) := ⟨⟨by decide +kernel, by decide +kernel⟩, List.mem_of_getElem? (i := 120) (by decide +kernel), List.mem_of_getElem? (i := 564) (by decide +kernel), List.mem_of_getElem? (i := 565) (by decide +kernel)⟩
theorem lw_p54 : lw_okq (⟨"ConsentQueue$CommandText", "readDigits", "()I"⟩, 6) := ⟨⟨by decide +kernel, by decide +kernel⟩, List.mem_of_getElem? (i := 120) (by decide +kernel), List.mem_of_getElem? (i := 571) (by decide +kernel), List.mem_of_getElem? (i := 572) (by decide +kernel)⟩
theorem lw_p55 : lw_okq (⟨"ConsentQueue$CommandText", "readSemicolon", "()V"⟩, 6) := ⟨⟨by decide +kernel, by decide +kernel⟩, List.mem_of_getElem? (i := 120) (by decide +kernel), List.mem_of_getElem? (i := 575) (by decide +kernel), List.mem_of_getElem? (i := 576) (by decide +kernel)⟩
theorem lw_p56 : lw_okq (⟨"ConsentQueue", "carryOutRead", "(LConsentQueue$Command;)Z"⟩, 4) := ⟨⟨by decide +kernel, by decide +kernel⟩, List.mem_of_getElem? (i := 22) (by decide +kernel), List.mem_of_getElem? (i := 582) (by decide +kernel), List.mem_of_getElem? (i := 583) (by decide +kernel)⟩
theorem lw_p57 : lw_okq (⟨"ConsentQueue$CommandText", "number", "(I)I"⟩, 6) := ⟨⟨by decide +kernel, by decide +kernel⟩, List.mem_of_getElem? (i := 120) (by decide +kernel), List.mem_of_getElem? (i := 586) (by decide +kernel), List.mem_of_getElem? (i := 587) (by decide +kernel)⟩
theorem lw_p58 : lw_okq (⟨"ConsentQueue", "wholeValue", "(I)I"⟩, 4) := ⟨⟨by decide +kernel, by decide +kernel⟩, List.mem_of_getElem? (i := 22) (by decide +kernel), List.mem_of_getElem? (i := 596) (by decide +kernel), List.mem_of_getElem? (i := 597) (by decide +kernel)⟩
theorem lw_p59 : lw_okq (⟨"ConsentQueue$Line", "wholeValue", "(I)I"⟩, 8) := ⟨⟨by decide +kernel, by decide +kernel⟩, List.mem_of_getElem? (i := 30) (by decide +kernel), List.mem_of_getElem? (i := 600) (by decide +kernel), List.mem_of_getElem? (i := 601) (by decide +kernel)⟩
theorem lw_p60 : lw_okq (⟨"ConsentQueue$Line", "toldCost", "()I"⟩, 8) := ⟨⟨by decide +kernel, by decide +kernel⟩, List.mem_of_getElem? (i := 30) (by decide +kernel), List.mem_of_getElem? (i := 605) (by decide +kernel), List.mem_of_getElem? (i := 606) (by decide +kernel)⟩
theorem lw_p61 : lw_okq (⟨"ConsentQueue$Line", "bestCost", "()I"⟩, 8) := ⟨⟨by decide +kernel, by decide +kernel⟩, List.mem_of_getElem? (i := 30) (by decide +kernel), List.mem_of_getElem? (i := 609) (by decide +kernel), List.mem_of_getElem? (i := 610) (by decide +kernel)⟩
theorem lw_p62 : lw_okq (⟨"ConsentQueue$Line", "willingPairs", "()I"⟩, 8) := ⟨⟨by decide +kernel, by decide +kernel⟩, List.mem_of_getElem? (i := 30) (by decide +kernel), List.mem_of_getElem? (i := 616) (by decide +kernel), List.mem_of_getElem? (i := 617) (by decide +kernel)⟩
theorem lw_p63 : lw_okq (⟨"ConsentQueue$Line", "offers", "()I"⟩, 8) := ⟨⟨by decide +kernel, by decide +kernel⟩, List.mem_of_getElem? (i := 30) (by decide +kernel), List.mem_of_getElem? (i := 620) (by decide +kernel), List.mem_of_getElem? (i := 621) (by decide +kernel)⟩
def lw_privs_4 : List (MethodName × Nat) := [(⟨"ConsentQueue$CommandText", "byteAt", "(I)I"⟩, 6), (⟨"ConsentQueue$CommandText", "readCommand", "()V"⟩, 6), (⟨"ConsentQueue$CommandText", "skipLetters", "()V"⟩, 6), (⟨"ConsentQueue$CommandText", "commandSpelled", "(II)LConsentQueue$Command;"⟩, 6), (⟨"ConsentQueue$CommandText", "isSpelled", "(Ljava/lang/String;II)Z"⟩, 6), (⟨"ConsentQueue$CommandText", "readNumber", "(I)V"⟩, 6), (⟨"ConsentQueue$CommandText", "readDigits", "()I"⟩, 6), (⟨"ConsentQueue$CommandText", "readSemicolon", "()V"⟩, 6), (⟨"ConsentQueue", "carryOutRead", "(LConsentQueue$Command;)Z"⟩, 4), (⟨"ConsentQueue$CommandText", "number", "(I)I"⟩, 6), (⟨"ConsentQueue", "wholeValue", "(I)I"⟩, 4), (⟨"ConsentQueue$Line", "wholeValue", "(I)I"⟩, 8), (⟨"ConsentQueue$Line", "toldCost", "()I"⟩, 8), (⟨"ConsentQueue$Line", "bestCost", "()I"⟩, 8), (⟨"ConsentQueue$Line", "willingPairs", "()I"⟩, 8), (⟨"ConsentQueue$Line", "offers", "()I"⟩, 8)]
theorem lw_r4 : ∀ q ∈ lw_privs_4, lw_okq q := List.forall_mem_cons.mpr ⟨lw_p48, List.forall_mem_cons.mpr ⟨lw_p49, List.forall_mem_cons.mpr ⟨lw_p50, List.forall_mem_cons.mpr ⟨lw_p51, List.forall_mem_cons.mpr ⟨lw_p52, List.forall_mem_cons.mpr ⟨lw_p53, List.forall_mem_cons.mpr ⟨lw_p54, List.forall_mem_cons.mpr ⟨lw_p55, List.forall_mem_cons.mpr ⟨lw_p56, List.forall_mem_cons.mpr ⟨lw_p57, List.forall_mem_cons.mpr ⟨lw_p58, List.forall_mem_cons.mpr ⟨lw_p59, List.forall_mem_cons.mpr ⟨lw_p60, List.forall_mem_cons.mpr ⟨lw_p61, List.forall_mem_cons.mpr ⟨lw_p62, List.forall_mem_cons.mpr ⟨lw_p63, fun _ h => absurd h List.not_mem_nil⟩⟩⟩⟩⟩⟩⟩⟩⟩⟩⟩⟩⟩⟩⟩⟩
theorem lw_p64 : lw_okq (⟨"ConsentQueue$Line", "welcomeOffers", "()I"⟩, 8) := ⟨⟨by decide +kernel, by decide +kernel⟩, List.mem_of_getElem? (i := 30) (by decide +kernel), List.mem_of_getElem? (i := 624) (by decide +kernel), List.mem_of_getElem? (i := 625) (by decide +kernel)⟩
theorem lw_p65 : lw_okq (⟨"ConsentQueue", "digestMembers", "(J)J"⟩, 4) := ⟨⟨by decide +kernel, by decide +kernel⟩, List.mem_of_getElem? (i := 22) (by decide +kernel), List.mem_of_getElem? (i := 629) (by decide +kernel), List.mem_of_getElem? (i := 630) (by decide +kernel)⟩
theorem lw_p66 : lw_okq (⟨"ConsentQueue$Line", "memberValue", "(II)I"⟩, 8) := ⟨⟨by decide +kernel, by decide +kernel⟩, List.mem_of_getElem? (i := 30) (by decide +kernel), List.mem_of_getElem? (i := 633) (by decide +kernel), List.mem_of_getElem? (i := 634) (by decide +kernel)⟩
theorem lw_p67 : lw_okq (⟨"ConsentQueue$Line", "friendsAt", "(I)I"⟩, 8) := ⟨⟨by decide +kernel, by decide +kernel⟩, List.mem_of_getElem? (i := 30) (by decide +kernel), List.mem_of_getElem? (i := 637) (by decide +kernel), List.mem_of_getElem? (i := 638) (by decide +kernel)⟩
theorem lw_p68 : lw_okq (⟨"ConsentQueue", "digestPairs", "(J)J"⟩, 4) := ⟨⟨by decide +kernel, by decide +kernel⟩, List.mem_of_getElem? (i := 22) (by decide +kernel), List.mem_of_getElem? (i := 641) (by decide +kernel), List.mem_of_getElem? (i := 642) (by decide +kernel)⟩
theorem lw_p69 : lw_okq (⟨"ConsentQueue$Line", "pairValue", "(II)I"⟩, 8) := ⟨⟨by decide +kernel, by decide +kernel⟩, List.mem_of_getElem? (i := 30) (by decide +kernel), List.mem_of_getElem? (i := 645) (by decide +kernel), List.mem_of_getElem? (i := 646) (by decide +kernel)⟩
theorem lw_p70 : lw_okq (⟨"ConsentQueue$Line", "gain", "(I)I"⟩, 8) := ⟨⟨by decide +kernel, by decide +kernel⟩, List.mem_of_getElem? (i := 30) (by decide +kernel), List.mem_of_getElem? (i := 649) (by decide +kernel), List.mem_of_getElem? (i := 650) (by decide +kernel)⟩
theorem lw_p71 : lw_okq (⟨"ConsentQueue", "profitAt", "(II)I"⟩, 4) := ⟨⟨by decide +kernel, by decide +kernel⟩, List.mem_of_getElem? (i := 22) (by decide +kernel), List.mem_of_getElem? (i := 803) (by decide +kernel), List.mem_of_getElem? (i := 804) (by decide +kernel)⟩
theorem lw_p72 : lw_okq (⟨"ConsentQueue$CommandText", "append", "(I)V"⟩, 6) := ⟨⟨by decide +kernel, by decide +kernel⟩, List.mem_of_getElem? (i := 120) (by decide +kernel), List.mem_of_getElem? (i := 822) (by decide +kernel), List.mem_of_getElem? (i := 823) (by decide +kernel)⟩
theorem lw_p73 : lw_okq (⟨"ConsentQueue$History", "popInto", "(LConsentQueue$Line;)V"⟩, 2) := ⟨⟨by decide +kernel, by decide +kernel⟩, List.mem_of_getElem? (i := 103) (by decide +kernel), List.mem_of_getElem? (i := 833) (by decide +kernel), List.mem_of_getElem? (i := 834) (by decide +kernel)⟩
theorem lw_p74 : lw_okq (⟨"ConsentQueueModel", "whyNotJoin", "(III)I"⟩, 9) := ⟨⟨by decide +kernel, by decide +kernel⟩, List.mem_of_getElem? (i := 837) (by decide +kernel), List.mem_of_getElem? (i := 879) (by decide +kernel), List.mem_of_getElem? (i := 880) (by decide +kernel)⟩
theorem lw_p75 : lw_okq (⟨"ConsentQueueModel", "of", "(II)I"⟩, 9) := ⟨⟨by decide +kernel, by decide +kernel⟩, List.mem_of_getElem? (i := 837) (by decide +kernel), List.mem_of_getElem? (i := 886) (by decide +kernel), List.mem_of_getElem? (i := 887) (by decide +kernel)⟩
theorem lw_p76 : lw_okq (⟨"ConsentQueueModel", "isRefused", "(I)Z"⟩, 9) := ⟨⟨by decide +kernel, by decide +kernel⟩, List.mem_of_getElem? (i := 837) (by decide +kernel), List.mem_of_getElem? (i := 890) (by decide +kernel), List.mem_of_getElem? (i := 891) (by decide +kernel)⟩
theorem lw_p77 : lw_okq (⟨"ConsentQueueModel", "saves", "()V"⟩, 9) := ⟨⟨by decide +kernel, by decide +kernel⟩, List.mem_of_getElem? (i := 837) (by decide +kernel), List.mem_of_getElem? (i := 894) (by decide +kernel), List.mem_of_getElem? (i := 895) (by decide +kernel)⟩
theorem lw_p78 : lw_okq (⟨"ConsentQueueModel", "copies", "(II)V"⟩, 9) := ⟨⟨by decide +kernel, by decide +kernel⟩, List.mem_of_getElem? (i := 837) (by decide +kernel), List.mem_of_getElem? (i := 898) (by decide +kernel), List.mem_of_getElem? (i := 899) (by decide +kernel)⟩
theorem lw_p79 : lw_okq (⟨"ConsentQueueModel", "joins", "(III)I"⟩, 9) := ⟨⟨by decide +kernel, by decide +kernel⟩, List.mem_of_getElem? (i := 837) (by decide +kernel), List.mem_of_getElem? (i := 902) (by decide +kernel), List.mem_of_getElem? (i := 903) (by decide +kernel)⟩
def lw_privs_5 : List (MethodName × Nat) := [(⟨"ConsentQueue$Line", "welcomeOffers", "()I"⟩, 8), (⟨"ConsentQueue", "digestMembers", "(J)J"⟩, 4), (⟨"ConsentQueue$Line", "memberValue", "(II)I"⟩, 8), (⟨"ConsentQueue$Line", "friendsAt", "(I)I"⟩, 8), (⟨"ConsentQueue", "digestPairs", "(J)J"⟩, 4), (⟨"ConsentQueue$Line", "pairValue", "(II)I"⟩, 8), (⟨"ConsentQueue$Line", "gain", "(I)I"⟩, 8), (⟨"ConsentQueue", "profitAt", "(II)I"⟩, 4), (⟨"ConsentQueue$CommandText", "append", "(I)V"⟩, 6), (⟨"ConsentQueue$History", "popInto", "(LConsentQueue$Line;)V"⟩, 2), (⟨"ConsentQueueModel", "whyNotJoin", "(III)I"⟩, 9), (⟨"ConsentQueueModel", "of", "(II)I"⟩, 9), (⟨"ConsentQueueModel", "isRefused", "(I)Z"⟩, 9), (⟨"ConsentQueueModel", "saves", "()V"⟩, 9), (⟨"ConsentQueueModel", "copies", "(II)V"⟩, 9), (⟨"ConsentQueueModel", "joins", "(III)I"⟩, 9)]
theorem lw_r5 : ∀ q ∈ lw_privs_5, lw_okq q := List.forall_mem_cons.mpr ⟨lw_p64, List.forall_mem_cons.mpr ⟨lw_p65, List.forall_mem_cons.mpr ⟨lw_p66, List.forall_mem_cons.mpr ⟨lw_p67, List.forall_mem_cons.mpr ⟨lw_p68, List.forall_mem_cons.mpr ⟨lw_p69, List.forall_mem_cons.mpr ⟨lw_p70, List.forall_mem_cons.mpr ⟨lw_p71, List.forall_mem_cons.mpr ⟨lw_p72, List.forall_mem_cons.mpr ⟨lw_p73, List.forall_mem_cons.mpr ⟨lw_p74, List.forall_mem_cons.mpr ⟨lw_p75, List.forall_mem_cons.mpr ⟨lw_p76, List.forall_mem_cons.mpr ⟨lw_p77, List.forall_mem_cons.mpr ⟨lw_p78, List.forall_mem_cons.mpr ⟨lw_p79, fun _ h => absurd h List.not_mem_nil⟩⟩⟩⟩⟩⟩⟩⟩⟩⟩⟩⟩⟩⟩⟩⟩
theorem lw_p80 : lw_okq (⟨"ConsentQueueModel", "brings", "(II)V"⟩, 9) := ⟨⟨by decide +kernel, by decide +kernel⟩, List.mem_of_getElem? (i := 837) (by decide +kernel), List.mem_of_getElem? (i := 906) (by decide +kernel), List.mem_of_getElem? (i := 907) (by decide +kernel)⟩
theorem lw_p81 : lw_okq (⟨"ConsentQueueModel", "set", "(III)V"⟩, 9) := ⟨⟨by decide +kernel, by decide +kernel⟩, List.mem_of_getElem? (i := 837) (by decide +kernel), List.mem_of_getElem? (i := 910) (by decide +kernel), List.mem_of_getElem? (i := 911) (by decide +kernel)⟩
theorem lw_p82 : lw_okq (⟨"ConsentQueueModel", "whyNoMember", "(I)I"⟩, 9) := ⟨⟨by decide +kernel, by decide +kernel⟩, List.mem_of_getElem? (i := 837) (by decide +kernel), List.mem_of_getElem? (i := 922) (by decide +kernel), List.mem_of_getElem? (i := 923) (by decide +kernel)⟩
theorem lw_p83 : lw_okq (⟨"ConsentQueueModel", "find", "(I)I"⟩, 9) := ⟨⟨by decide +kernel, by decide +kernel⟩, List.mem_of_getElem? (i := 837) (by decide +kernel), List.mem_of_getElem? (i := 926) (by decide +kernel), List.mem_of_getElem? (i := 927) (by decide +kernel)⟩
theorem lw_p84 : lw_okq (⟨"ConsentQueueModel", "goes", "(I)V"⟩, 9) := ⟨⟨by decide +kernel, by decide +kernel⟩, List.mem_of_getElem? (i := 837) (by decide +kernel), List.mem_of_getElem? (i := 930) (by decide +kernel), List.mem_of_getElem? (i := 931) (by decide +kernel)⟩
theorem lw_p85 : lw_okq (⟨"ConsentQueueModel", "serves", "()I"⟩, 9) := ⟨⟨by decide +kernel, by decide +kernel⟩, List.mem_of_getElem? (i := 837) (by decide +kernel), List.mem_of_getElem? (i := 938) (by decide +kernel), List.mem_of_getElem? (i := 939) (by decide +kernel)⟩
theorem lw_p86 : lw_okq (⟨"ConsentQueueModel", "whyNotSay", "(II)I"⟩, 9) := ⟨⟨by decide +kernel, by decide +kernel⟩, List.mem_of_getElem? (i := 837) (by decide +kernel), List.mem_of_getElem? (i := 946) (by decide +kernel), List.mem_of_getElem? (i := 947) (by decide +kernel)⟩
theorem lw_p87 : lw_okq (⟨"ConsentQueueModel", "says", "(II)I"⟩, 9) := ⟨⟨by decide +kernel, by decide +kernel⟩, List.mem_of_getElem? (i := 837) (by decide +kernel), List.mem_of_getElem? (i := 950) (by decide +kernel), List.mem_of_getElem? (i := 951) (by decide +kernel)⟩
theorem lw_p88 : lw_okq (⟨"ConsentQueueModel", "whyNotOffer", "(II)I"⟩, 9) := ⟨⟨by decide +kernel, by decide +kernel⟩, List.mem_of_getElem? (i := 837) (by decide +kernel), List.mem_of_getElem? (i := 962) (by decide +kernel), List.mem_of_getElem? (i := 963) (by decide +kernel)⟩
theorem lw_p89 : lw_okq (⟨"ConsentQueueModel", "offers", "(II)I"⟩, 9) := ⟨⟨by decide +kernel, by decide +kernel⟩, List.mem_of_getElem? (i := 837) (by decide +kernel), List.mem_of_getElem? (i := 966) (by decide +kernel), List.mem_of_getElem? (i := 967) (by decide +kernel)⟩
theorem lw_p90 : lw_okq (⟨"ConsentQueueModel", "whyNotTake", "(I)I"⟩, 9) := ⟨⟨by decide +kernel, by decide +kernel⟩, List.mem_of_getElem? (i := 837) (by decide +kernel), List.mem_of_getElem? (i := 974) (by decide +kernel), List.mem_of_getElem? (i := 975) (by decide +kernel)⟩
theorem lw_p91 : lw_okq (⟨"ConsentQueueModel", "isTaken", "(I)Z"⟩, 9) := ⟨⟨by decide +kernel, by decide +kernel⟩, List.mem_of_getElem? (i := 837) (by decide +kernel), List.mem_of_getElem? (i := 978) (by decide +kernel), List.mem_of_getElem? (i := 979) (by decide +kernel)⟩
theorem lw_p92 : lw_okq (⟨"ConsentQueueModel", "isPair", "(I)Z"⟩, 9) := ⟨⟨by decide +kernel, by decide +kernel⟩, List.mem_of_getElem? (i := 837) (by decide +kernel), List.mem_of_getElem? (i := 982) (by decide +kernel), List.mem_of_getElem? (i := 983) (by decide +kernel)⟩
theorem lw_p93 : lw_okq (⟨"ConsentQueueModel", "loss", "(I)I"⟩, 9) := ⟨⟨by decide +kernel, by decide +kernel⟩, List.mem_of_getElem? (i := 837) (by decide +kernel), List.mem_of_getElem? (i := 986) (by decide +kernel), List.mem_of_getElem? (i := 987) (by decide +kernel)⟩
theorem lw_p94 : lw_okq (⟨"ConsentQueueModel", "friendsAgainst", "(I)I"⟩, 9) := ⟨⟨by decide +kernel, by decide +kernel⟩, List.mem_of_getElem? (i := 837) (by decide +kernel), List.mem_of_getElem? (i := 990) (by decide +kernel), List.mem_of_getElem? (i := 991) (by decide +kernel)⟩
theorem lw_p95 : lw_okq (⟨"ConsentQueueModel", "takes", "(I)I"⟩, 9) := ⟨⟨by decide +kernel, by decide +kernel⟩, List.mem_of_getElem? (i := 837) (by decide +kernel), List.mem_of_getElem? (i := 994) (by decide +kernel), List.mem_of_getElem? (i := 995) (by decide +kernel)⟩
def lw_privs_6 : List (MethodName × Nat) := [(⟨"ConsentQueueModel", "brings", "(II)V"⟩, 9), (⟨"ConsentQueueModel", "set", "(III)V"⟩, 9), (⟨"ConsentQueueModel", "whyNoMember", "(I)I"⟩, 9), (⟨"ConsentQueueModel", "find", "(I)I"⟩, 9), (⟨"ConsentQueueModel", "goes", "(I)V"⟩, 9), (⟨"ConsentQueueModel", "serves", "()I"⟩, 9), (⟨"ConsentQueueModel", "whyNotSay", "(II)I"⟩, 9), (⟨"ConsentQueueModel", "says", "(II)I"⟩, 9), (⟨"ConsentQueueModel", "whyNotOffer", "(II)I"⟩, 9), (⟨"ConsentQueueModel", "offers", "(II)I"⟩, 9), (⟨"ConsentQueueModel", "whyNotTake", "(I)I"⟩, 9), (⟨"ConsentQueueModel", "isTaken", "(I)Z"⟩, 9), (⟨"ConsentQueueModel", "isPair", "(I)Z"⟩, 9), (⟨"ConsentQueueModel", "loss", "(I)I"⟩, 9), (⟨"ConsentQueueModel", "friendsAgainst", "(I)I"⟩, 9), (⟨"ConsentQueueModel", "takes", "(I)I"⟩, 9)]
theorem lw_r6 : ∀ q ∈ lw_privs_6, lw_okq q := List.forall_mem_cons.mpr ⟨lw_p80, List.forall_mem_cons.mpr ⟨lw_p81, List.forall_mem_cons.mpr ⟨lw_p82, List.forall_mem_cons.mpr ⟨lw_p83, List.forall_mem_cons.mpr ⟨lw_p84, List.forall_mem_cons.mpr ⟨lw_p85, List.forall_mem_cons.mpr ⟨lw_p86, List.forall_mem_cons.mpr ⟨lw_p87, List.forall_mem_cons.mpr ⟨lw_p88, List.forall_mem_cons.mpr ⟨lw_p89, List.forall_mem_cons.mpr ⟨lw_p90, List.forall_mem_cons.mpr ⟨lw_p91, List.forall_mem_cons.mpr ⟨lw_p92, List.forall_mem_cons.mpr ⟨lw_p93, List.forall_mem_cons.mpr ⟨lw_p94, List.forall_mem_cons.mpr ⟨lw_p95, fun _ h => absurd h List.not_mem_nil⟩⟩⟩⟩⟩⟩⟩⟩⟩⟩⟩⟩⟩⟩⟩⟩
theorem lw_p96 : lw_okq (⟨"ConsentQueueModel", "swaps", "(II)I"⟩, 9) := ⟨⟨by decide +kernel, by decide +kernel⟩, List.mem_of_getElem? (i := 837) (by decide +kernel), List.mem_of_getElem? (i := 998) (by decide +kernel), List.mem_of_getElem? (i := 999) (by decide +kernel)⟩
theorem lw_p97 : lw_okq (⟨"ConsentQueueModel", "whyNotSwap", "(I)I"⟩, 9) := ⟨⟨by decide +kernel, by decide +kernel⟩, List.mem_of_getElem? (i := 837) (by decide +kernel), List.mem_of_getElem? (i := 1006) (by decide +kernel), List.mem_of_getElem? (i := 1007) (by decide +kernel)⟩
theorem lw_p98 : lw_okq (⟨"ConsentQueueModel", "reasonOf", "(I)I"⟩, 9) := ⟨⟨by decide +kernel, by decide +kernel⟩, List.mem_of_getElem? (i := 837) (by decide +kernel), List.mem_of_getElem? (i := 1010) (by decide +kernel), List.mem_of_getElem? (i := 1011) (by decide +kernel)⟩
theorem lw_p99 : lw_okq (⟨"ConsentQueueModel", "surplus", "(I)I"⟩, 9) := ⟨⟨by decide +kernel, by decide +kernel⟩, List.mem_of_getElem? (i := 837) (by decide +kernel), List.mem_of_getElem? (i := 1014) (by decide +kernel), List.mem_of_getElem? (i := 1015) (by decide +kernel)⟩
theorem lw_p100 : lw_okq (⟨"ConsentQueueModel", "gain", "(I)I"⟩, 9) := ⟨⟨by decide +kernel, by decide +kernel⟩, List.mem_of_getElem? (i := 837) (by decide +kernel), List.mem_of_getElem? (i := 1018) (by decide +kernel), List.mem_of_getElem? (i := 1019) (by decide +kernel)⟩
theorem lw_p101 : lw_okq (⟨"ConsentQueueModel", "fairPrice", "(I)I"⟩, 9) := ⟨⟨by decide +kernel, by decide +kernel⟩, List.mem_of_getElem? (i := 837) (by decide +kernel), List.mem_of_getElem? (i := 1022) (by decide +kernel), List.mem_of_getElem? (i := 1023) (by decide +kernel)⟩
theorem lw_p102 : lw_okq (⟨"ConsentQueueModel", "whyNotFriends", "(II)I"⟩, 9) := ⟨⟨by decide +kernel, by decide +kernel⟩, List.mem_of_getElem? (i := 837) (by decide +kernel), List.mem_of_getElem? (i := 1030) (by decide +kernel), List.mem_of_getElem? (i := 1031) (by decide +kernel)⟩
theorem lw_p103 : lw_okq (⟨"ConsentQueueModel", "befriends", "(II)I"⟩, 9) := ⟨⟨by decide +kernel, by decide +kernel⟩, List.mem_of_getElem? (i := 837) (by decide +kernel), List.mem_of_getElem? (i := 1034) (by decide +kernel), List.mem_of_getElem? (i := 1035) (by decide +kernel)⟩
theorem lw_p104 : lw_okq (⟨"ConsentQueueModel", "friends", "()I"⟩, 9) := ⟨⟨by decide +kernel, by decide +kernel⟩, List.mem_of_getElem? (i := 837) (by decide +kernel), List.mem_of_getElem? (i := 1038) (by decide +kernel), List.mem_of_getElem? (i := 1039) (by decide +kernel)⟩
theorem lw_p105 : lw_okq (⟨"ConsentQueueModel", "settles", "()I"⟩, 9) := ⟨⟨by decide +kernel, by decide +kernel⟩, List.mem_of_getElem? (i := 837) (by decide +kernel), List.mem_of_getElem? (i := 1050) (by decide +kernel), List.mem_of_getElem? (i := 1051) (by decide +kernel)⟩
theorem lw_p106 : lw_okq (⟨"ConsentQueueModel", "memberValue", "(II)I"⟩, 9) := ⟨⟨by decide +kernel, by decide +kernel⟩, List.mem_of_getElem? (i := 837) (by decide +kernel), List.mem_of_getElem? (i := 1058) (by decide +kernel), List.mem_of_getElem? (i := 1059) (by decide +kernel)⟩
theorem lw_p107 : lw_okq (⟨"ConsentQueueModel", "waitOf", "(I)I"⟩, 9) := ⟨⟨by decide +kernel, by decide +kernel⟩, List.mem_of_getElem? (i := 837) (by decide +kernel), List.mem_of_getElem? (i := 1062) (by decide +kernel), List.mem_of_getElem? (i := 1063) (by decide +kernel)⟩
theorem lw_p108 : lw_okq (⟨"ConsentQueueModel", "pairValue", "(II)I"⟩, 9) := ⟨⟨by decide +kernel, by decide +kernel⟩, List.mem_of_getElem? (i := 837) (by decide +kernel), List.mem_of_getElem? (i := 1074) (by decide +kernel), List.mem_of_getElem? (i := 1075) (by decide +kernel)⟩
theorem lw_p109 : lw_okq (⟨"ConsentQueueModel", "wholeValue", "(I)I"⟩, 9) := ⟨⟨by decide +kernel, by decide +kernel⟩, List.mem_of_getElem? (i := 837) (by decide +kernel), List.mem_of_getElem? (i := 1082) (by decide +kernel), List.mem_of_getElem? (i := 1083) (by decide +kernel)⟩
theorem lw_p110 : lw_okq (⟨"ConsentQueueModel", "costBy", "(I)I"⟩, 9) := ⟨⟨by decide +kernel, by decide +kernel⟩, List.mem_of_getElem? (i := 837) (by decide +kernel), List.mem_of_getElem? (i := 1086) (by decide +kernel), List.mem_of_getElem? (i := 1087) (by decide +kernel)⟩
theorem lw_p111 : lw_okq (⟨"ConsentQueueModel", "bestCost", "()I"⟩, 9) := ⟨⟨by decide +kernel, by decide +kernel⟩, List.mem_of_getElem? (i := 837) (by decide +kernel), List.mem_of_getElem? (i := 1090) (by decide +kernel), List.mem_of_getElem? (i := 1091) (by decide +kernel)⟩
def lw_privs_7 : List (MethodName × Nat) := [(⟨"ConsentQueueModel", "swaps", "(II)I"⟩, 9), (⟨"ConsentQueueModel", "whyNotSwap", "(I)I"⟩, 9), (⟨"ConsentQueueModel", "reasonOf", "(I)I"⟩, 9), (⟨"ConsentQueueModel", "surplus", "(I)I"⟩, 9), (⟨"ConsentQueueModel", "gain", "(I)I"⟩, 9), (⟨"ConsentQueueModel", "fairPrice", "(I)I"⟩, 9), (⟨"ConsentQueueModel", "whyNotFriends", "(II)I"⟩, 9), (⟨"ConsentQueueModel", "befriends", "(II)I"⟩, 9), (⟨"ConsentQueueModel", "friends", "()I"⟩, 9), (⟨"ConsentQueueModel", "settles", "()I"⟩, 9), (⟨"ConsentQueueModel", "memberValue", "(II)I"⟩, 9), (⟨"ConsentQueueModel", "waitOf", "(I)I"⟩, 9), (⟨"ConsentQueueModel", "pairValue", "(II)I"⟩, 9), (⟨"ConsentQueueModel", "wholeValue", "(I)I"⟩, 9), (⟨"ConsentQueueModel", "costBy", "(I)I"⟩, 9), (⟨"ConsentQueueModel", "bestCost", "()I"⟩, 9)]
theorem lw_r7 : ∀ q ∈ lw_privs_7, lw_okq q := List.forall_mem_cons.mpr ⟨lw_p96, List.forall_mem_cons.mpr ⟨lw_p97, List.forall_mem_cons.mpr ⟨lw_p98, List.forall_mem_cons.mpr ⟨lw_p99, List.forall_mem_cons.mpr ⟨lw_p100, List.forall_mem_cons.mpr ⟨lw_p101, List.forall_mem_cons.mpr ⟨lw_p102, List.forall_mem_cons.mpr ⟨lw_p103, List.forall_mem_cons.mpr ⟨lw_p104, List.forall_mem_cons.mpr ⟨lw_p105, List.forall_mem_cons.mpr ⟨lw_p106, List.forall_mem_cons.mpr ⟨lw_p107, List.forall_mem_cons.mpr ⟨lw_p108, List.forall_mem_cons.mpr ⟨lw_p109, List.forall_mem_cons.mpr ⟨lw_p110, List.forall_mem_cons.mpr ⟨lw_p111, fun _ h => absurd h List.not_mem_nil⟩⟩⟩⟩⟩⟩⟩⟩⟩⟩⟩⟩⟩⟩⟩⟩
theorem lw_p112 : lw_okq (⟨"ConsentQueueModel", "putAside", "()V"⟩, 9) := ⟨⟨by decide +kernel, by decide +kernel⟩, List.mem_of_getElem? (i := 837) (by decide +kernel), List.mem_of_getElem? (i := 1102) (by decide +kernel), List.mem_of_getElem? (i := 1103) (by decide +kernel)⟩
theorem lw_p113 : lw_okq (⟨"ConsentQueueModel", "comesBack", "()V"⟩, 9) := ⟨⟨by decide +kernel, by decide +kernel⟩, List.mem_of_getElem? (i := 837) (by decide +kernel), List.mem_of_getElem? (i := 1106) (by decide +kernel), List.mem_of_getElem? (i := 1107) (by decide +kernel)⟩
theorem lw_p114 : lw_okq (⟨"ConsentQueueModel", "profitBy", "(II)I"⟩, 9) := ⟨⟨by decide +kernel, by decide +kernel⟩, List.mem_of_getElem? (i := 837) (by decide +kernel), List.mem_of_getElem? (i := 1114) (by decide +kernel), List.mem_of_getElem? (i := 1115) (by decide +kernel)⟩
theorem lw_p115 : lw_okq (⟨"ConsentQueueModel", "has", "(I)I"⟩, 9) := ⟨⟨by decide +kernel, by decide +kernel⟩, List.mem_of_getElem? (i := 837) (by decide +kernel), List.mem_of_getElem? (i := 1118) (by decide +kernel), List.mem_of_getElem? (i := 1119) (by decide +kernel)⟩
theorem lw_p116 : lw_okq (⟨"ConsentQueueModel", "fault", "()I"⟩, 9) := ⟨⟨by decide +kernel, by decide +kernel⟩, List.mem_of_getElem? (i := 837) (by decide +kernel), List.mem_of_getElem? (i := 1146) (by decide +kernel), List.mem_of_getElem? (i := 1147) (by decide +kernel)⟩
theorem lw_p117 : lw_okq (⟨"ConsentQueueModel", "passSpaces", "()V"⟩, 9) := ⟨⟨by decide +kernel, by decide +kernel⟩, List.mem_of_getElem? (i := 837) (by decide +kernel), List.mem_of_getElem? (i := 1150) (by decide +kernel), List.mem_of_getElem? (i := 1151) (by decide +kernel)⟩
theorem lw_p118 : lw_okq (⟨"ConsentQueueModel", "here", "()I"⟩, 9) := ⟨⟨by decide +kernel, by decide +kernel⟩, List.mem_of_getElem? (i := 837) (by decide +kernel), List.mem_of_getElem? (i := 1154) (by decide +kernel), List.mem_of_getElem? (i := 1155) (by decide +kernel)⟩
theorem lw_p119 : lw_okq (⟨"ConsentQueueModel", "command", "()I"⟩, 9) := ⟨⟨by decide +kernel, by decide +kernel⟩, List.mem_of_getElem? (i := 837) (by decide +kernel), List.mem_of_getElem? (i := 1158) (by decide +kernel), List.mem_of_getElem? (i := 1159) (by decide +kernel)⟩
theorem lw_p120 : lw_okq (⟨"ConsentQueueModel", "word", "()I"⟩, 9) := ⟨⟨by decide +kernel, by decide +kernel⟩, List.mem_of_getElem? (i := 837) (by decide +kernel), List.mem_of_getElem? (i := 1162) (by decide +kernel), List.mem_of_getElem? (i := 1163) (by decide +kernel)⟩
theorem lw_p121 : lw_okq (⟨"ConsentQueueModel", "isNumber", "()Z"⟩, 9) := ⟨⟨by decide +kernel, by decide +kernel⟩, List.mem_of_getElem? (i := 837) (by decide +kernel), List.mem_of_getElem? (i := 1183) (by decide +kernel), List.mem_of_getElem? (i := 1184) (by decide +kernel)⟩
theorem lw_p122 : lw_okq (⟨"ConsentQueueModel", "whyNot", "(IIII)I"⟩, 9) := ⟨⟨by decide +kernel, by decide +kernel⟩, List.mem_of_getElem? (i := 837) (by decide +kernel), List.mem_of_getElem? (i := 1187) (by decide +kernel), List.mem_of_getElem? (i := 1188) (by decide +kernel)⟩
theorem lw_p123 : lw_okq (⟨"ConsentQueueModel", "does", "(IIII)V"⟩, 9) := ⟨⟨by decide +kernel, by decide +kernel⟩, List.mem_of_getElem? (i := 837) (by decide +kernel), List.mem_of_getElem? (i := 1191) (by decide +kernel), List.mem_of_getElem? (i := 1192) (by decide +kernel)⟩
def lw_privs_8 : List (MethodName × Nat) := [(⟨"ConsentQueueModel", "putAside", "()V"⟩, 9), (⟨"ConsentQueueModel", "comesBack", "()V"⟩, 9), (⟨"ConsentQueueModel", "profitBy", "(II)I"⟩, 9), (⟨"ConsentQueueModel", "has", "(I)I"⟩, 9), (⟨"ConsentQueueModel", "fault", "()I"⟩, 9), (⟨"ConsentQueueModel", "passSpaces", "()V"⟩, 9), (⟨"ConsentQueueModel", "here", "()I"⟩, 9), (⟨"ConsentQueueModel", "command", "()I"⟩, 9), (⟨"ConsentQueueModel", "word", "()I"⟩, 9), (⟨"ConsentQueueModel", "isNumber", "()Z"⟩, 9), (⟨"ConsentQueueModel", "whyNot", "(IIII)I"⟩, 9), (⟨"ConsentQueueModel", "does", "(IIII)V"⟩, 9)]
theorem lw_r8 : ∀ q ∈ lw_privs_8, lw_okq q := List.forall_mem_cons.mpr ⟨lw_p112, List.forall_mem_cons.mpr ⟨lw_p113, List.forall_mem_cons.mpr ⟨lw_p114, List.forall_mem_cons.mpr ⟨lw_p115, List.forall_mem_cons.mpr ⟨lw_p116, List.forall_mem_cons.mpr ⟨lw_p117, List.forall_mem_cons.mpr ⟨lw_p118, List.forall_mem_cons.mpr ⟨lw_p119, List.forall_mem_cons.mpr ⟨lw_p120, List.forall_mem_cons.mpr ⟨lw_p121, List.forall_mem_cons.mpr ⟨lw_p122, List.forall_mem_cons.mpr ⟨lw_p123, fun _ h => absurd h List.not_mem_nil⟩⟩⟩⟩⟩⟩⟩⟩⟩⟩⟩⟩
def lw_privs : List (MethodName × Nat) := lw_privs_1 ++ (lw_privs_2 ++ (lw_privs_3 ++ (lw_privs_4 ++ (lw_privs_5 ++ (lw_privs_6 ++ (lw_privs_7 ++ (lw_privs_8)))))))
def lw_tbl : List Cond := k2_sels lw_privs ++ tables_1
theorem lw_privs_ok : ∀ q ∈ lw_privs, lw_okq q := by
  show ∀ q ∈ lw_privs_1 ++ (lw_privs_2 ++ (lw_privs_3 ++ (lw_privs_4 ++ (lw_privs_5 ++ (lw_privs_6 ++ (lw_privs_7 ++ (lw_privs_8))))))), lw_okq q
  exact List.forall_mem_append.mpr ⟨lw_r1, List.forall_mem_append.mpr ⟨lw_r2, List.forall_mem_append.mpr ⟨lw_r3, List.forall_mem_append.mpr ⟨lw_r4, List.forall_mem_append.mpr ⟨lw_r5, List.forall_mem_append.mpr ⟨lw_r6, List.forall_mem_append.mpr ⟨lw_r7, lw_r8⟩⟩⟩⟩⟩⟩⟩
-- ===== end of PART A; then your names; then what follows =====
end
section
/-! ===== BEGIN words of one list among another's, by their places ===== -/
theorem goodIn_r {big : List Cond} (ws : List Cond) (ps : List Nat) (hp : ws = ps.filterMap (fun i => big[i]?)) (h : ws.all goodWord = true) : GoodIn big ws := by
  intro w hw
  have h1 := List.all_eq_true.mp h w hw
  rw [hp] at hw
  obtain ⟨i, -, hi⟩ := List.mem_filterMap.mp hw
  have hm : w ∈ big := by first | exact List.mem_of_getElem? hi | exact List.getElem?_mem hi
  exact ⟨hm, good_of_word h1⟩
theorem goodIn_app {big a b : List Cond} (ha : GoodIn big a) (hb : GoodIn big b) : GoodIn big (a ++ b) := fun w h => (List.mem_append.mp h).elim (ha w) (hb w)
theorem goodIn_ca {big a b : List Cond} {c : Cond} (ha : GoodIn big (c :: a)) (hb : GoodIn big b) : GoodIn big (c :: (a ++ b)) := fun w h => (List.mem_cons.mp h).elim (fun e => ha w (List.mem_cons.mpr (Or.inl e))) (fun h => (List.mem_append.mp h).elim (fun h => ha w (List.mem_cons.mpr (Or.inr h))) (hb w))
theorem goodIn_sub {big ws : List Cond} (hm : ∀ w ∈ ws, w ∈ big) (h : ws.all goodWord = true) : GoodIn big ws := fun w hw => ⟨hm w hw, good_of_word (List.all_eq_true.mp h w hw)⟩
/-! ===== END ===== -/

/-! ===== BEGIN exceptions that leave a method, and their catching by the caller (launches without stack traces) ===== -/
section VXA
/-! The laws vx_back, vx_callV, vx_callS, vx_callSW, vx_throw0, vx_throwS follow proofs of the library, with one case more: JvmDerived/Free/Laws.lean (Back.of_free), Shelf42/LK1.lean (callV, callS), Shelf/KitTraced.lean (throwNew0V, throwNewS). -/
/-- where a method has thrown q: the class by its name, the cell, what was written, the world -/
def vx_T (XC : String → State → State → Prop) (st : State) (q : Addr) (t : State) (mc ms : Nat) (free : Addr → Prop) : Prop :=
  ∃ (E : String) (ce : Cell) (L : List Loc), XC E st t ∧ t.heap[q]? = some ce ∧ ce.vm = .none ∧ st.vm.findClass E = some ce.cls ∧ st.WarmedH t.vm ∧ st.sameButNew ({ t with vm := st.vm } : State) L mc ms ∧ ∀ z ∈ L, free z.base
def vx_Q (Qc : Array Value → State → Outcome → State → Prop) (XC : String → State → State → Prop) (mc ms : Nat) (free : Addr → Prop) : Array Value → State → Outcome → State → Prop := fun a st o t =>
  (Qc a st o t ∧ ∃ L, FrameEnd st o t L mc ms ∧ ∀ q ∈ L, free q.base) ∨ ∃ q, o = .threw q ∧ vx_T XC st q t mc ms free
/-- a callee that returns or throws -/
def vx_Met (l : Launch) (y : MethodName) (ws : List Cond) (rm : Room) (Pc : Array Value → State → Prop) (Qc : Array Value → State → Outcome → State → Prop) (XC : String → State → State → Prop) (mc ms : Nat) (free : Addr → Prop) : Prop :=
  MetFree l y (headSpec ws rm) Pc (fun _ _ _ _ _ => True) (vx_Q Qc XC mc ms free)
def vx_Post (XC : String → State → State → Prop) (mc ms : Nat) (free : Addr → Prop) : Pt → Array Value → Addr → Pt → Prop := fun A a q B =>
  ∃ (g : JFrame) (mk : MethodId) (t : State) (L : List Loc) (E : String) (ce : Cell), B.U.heap = t.heap ∧ B.U.vm = t.vm ∧ XC E (A.U.calling g mk a) t ∧ t.heap[q]? = some ce ∧ ce.vm = .none ∧ A.U.vm.findClass E = some ce.cls ∧ B.locs = A.locs ++ L ∧ (∀ z ∈ L, free z.base) ∧ B.cells = A.cells + mc ∧ B.slots = A.slots + ms
def vx_Back (l : Launch) (R : Room) (p : Program) (e : Env) (below : List Frame) (s : State) (sargs : Array Value) (y : MethodName) (len W9 : Nat)
    (Pre : Pt → Array Value → Prop) (Post : Pt → Array Value → Option Value → Pt → Prop) (PostX : Pt → Array Value → Addr → Pt → Prop) : Prop :=
  ∀ (m : MethodId) (meth : Method) (c : Code) (A : Pt) (g : JFrame) (ig : Instr) (mk : MethodId) (a : Array Value),
    Stand p l e R s m sargs below meth c A.U A.locs A.cells A.slots → g.method = m → g.locals.size = c.maxLocals → decode c.code g.pc = .ok (ig, len) →
    2 * g.monitorRoom + (g.stack.map fun v => v.category).sum ≤ W9 → A.U.methodNamed? y = some mk → Pre A a →
    (∃ (v : Option Value) (B : Pt), Stand p l e R s m sargs below meth c B.U B.locs B.cells B.slots ∧ Post A a v B ∧
      Steps p.tables e below (doInvoke e (A.U.setTop g) [] mk a).1 (B.U.setTop { g with pc := g.pc + len, stack := v.toList ++ g.stack })) ∨
    (∃ (q : Addr) (B : Pt), Stand p l e R s m sargs below meth c B.U B.locs B.cells B.slots ∧ PostX A a q B ∧
      Steps p.tables e below (doInvoke e (A.U.setTop g) [] mk a).1 ((B.U.setTop g).pushFrame (.throwing q)))
section Payer
variable {l : Launch} {R : Room} {p : Program} {e : Env} {below : List Frame} {s : State} {sargs : Array Value} {y : MethodName} {len W9 : Nat}
theorem vx_back {ws : List Cond} {rm : Room} {Pc : Array Value → State → Prop} {Qc : Array Value → State → Outcome → State → Prop} {XC : String → State → State → Prop} {mc ms : Nat} {free : Addr → Prop} {bytes : ByteArray} {maxL : Nat} {ret : Option FieldType}
    (hM : vx_Met l y ws rm Pc Qc XC mc ms free) (hblind : FrameBlind Pc) (hrc : rm.cells = mc) (hrs : rm.slots = ms)
    (hframes : rm.frames + 1 ≤ R.frames) (hlocals : W9 + (maxL + 11) + rm.locals ≤ R.locals)
    (hws : ∀ w ∈ ws, ∀ a' U, s.WarmedH U.vm → w.before a' U = true) (hcode : Cond.code y bytes maxL ret ∈ ws) (hinit : ∀ a' U, s.WarmedH U.vm → (Cond.initialized y.cls).before a' U = true) :
    vx_Back l R p e below s sargs y len W9 (PreOf R mc ms Pc) (PostOf Qc mc ms free) (vx_Post XC mc ms free) := by
  intro m meth c A g ig mk a X hg hsize hdg hW hn hp
  have h1 : (headSpec ws rm).pre.before a A.U = true := atoms_intro fun w hw => hws w hw _ _ X.warmed
  have h2 : (Cond.code y bytes maxL ret).before a A.U = true := hws _ hcode _ _ X.warmed
  have h3 : (Cond.initialized y.cls).before a A.U = true := hinit _ _ X.warmed
  have h4 : A.cells + (headSpec ws rm).room.cells ≤ R.cells := by rw [show (headSpec ws rm).room.cells = mc from hrc]; exact hp.1
  have h5 : A.slots + (headSpec ws rm).room.slots ≤ R.slots := by rw [show (headSpec ws rm).room.slots = ms from hrs]; exact hp.2.1
  have hPc : Pc a (A.U.calling g mk a) := hblind _ _ _ _ hp.2.2
  obtain ⟨U, Ls, c0, s0⟩ := A
  dsimp only [Pt.U, Pt.locs, Pt.cells, Pt.slots] at h1 h2 h3 h4 h5 X hn hPc ⊢
  obtain ⟨methY, cY, hmY, hcY, -, hlY, -, -, -, -⟩ := Cond.code_spec hn h2
  obtain ⟨kY, hkY, -⟩ := className_of_methodNamed hn
  have hinitY : kY.init = .initialized := Cond.initialized_spec (findClass_of_methodNamed hn) hkY h3
  have h : At U g.method c below := by rw [hg]; exact X.here
  have hlocals9 : W9 + (maxL + 11) + (headSpec ws rm).room.locals ≤ R.locals := hlocals
  have happ : (headSpec ws rm).appliesLoose y e.platform (U.calling g mk a) = true :=
    Spec.appliesLoose_calling (g := g) h hdg hn hkY hinitY
      (X.room_calling (g := g) (R' := (headSpec ws rm).room) hsize hmY hcY hframes (by rw [hlY]; omega) h4 h5) h1
  obtain ⟨mid, hmid⟩ := h.above
  have hfr : (U.setTop g).frames = (.java g :: mid) ++ below := by rw [State.frames_setTop' g h.top, hmid]; rfl
  obtain ⟨o, s₂, hsteps, -, hend, hq⟩ := Steps.callFree hM p X.admits X.cas X.clock (acts := []) hfr happ hPc trivial
  have hq' : vx_Q Qc XC mc ms free a (U.calling g mk a) o s₂ := hq
  rw [State.frames_setTop' g h.top] at hend
  obtain ⟨g₀, hg0⟩ := Option.isSome_iff_exists.mp h.top
  obtain ⟨r, hr⟩ := State.topJava?_eq_some.mp hg0
  have hr' : (({ U with heap := s₂.heap, slotsUsed := s₂.slotsUsed } : State).setVm s₂.vm).frames = .java g₀ :: r := hr
  rcases hq' with ⟨hqc, L, hfe, hL⟩ | ⟨q, rfl, E, ce, L, hx, hce, hcv, hcl, hW₂, hsm, hL⟩
  · obtain ⟨⟨v, rfl⟩, hW₂, e2, q2, q3, q4, q5, q6⟩ := id hfe
    have e3 : s₂ = ({ (U.calling g mk a).setFrames s₂.frames with heap := s₂.heap, slotsUsed := s₂.slotsUsed } : State).setVm s₂.vm := by
      have : s₂ = ({ s₂ with vm := (U.calling g mk a).vm } : State).setVm s₂.vm := rfl
      rw [e2] at this
      exact this
    obtain ⟨c₂, i₂, len₂, hc₂, hd₂, hf₂⟩ := hend
    have hW' : U.WarmedH s₂.vm := hW₂
    have hcc : c₂ = c := by
      have h1 : s₂.code? g.method = U.code? g.method := by
        rw [State.code?_eq, State.code?_eq, hW'.alike.method?]
      exact Option.some.inj (hc₂.symm.trans (h1.trans h.code))
    subst hcc
    have hlen : len₂ = len := by rw [hdg] at hd₂; cases hd₂; rfl
    subst hlen
    have hs₂ : s₂ = (({ U with heap := s₂.heap, slotsUsed := s₂.slotsUsed } : State).setVm s₂.vm).setTop { g with pc := g.pc + len₂, stack := v.toList ++ g.stack } := by
      refine e3.trans ?_
      rw [hf₂, State.calling_eq h.top, State.setFrames_setFrames, State.setTop_of_frames _ hr', hr]
      rfl
    have hsame : U.sameButNew ({ U with heap := s₂.heap, slotsUsed := s₂.slotsUsed } : State) L mc ms := by
      refine ⟨?_, q2, q3, q4, q5, q6⟩
      obtain ⟨t, ht, -⟩ := State.frames_cons hr
      show ({ U with heap := s₂.heap, slotsUsed := s₂.slotsUsed } : State) = { U.setFrames U.frames with heap := s₂.heap, slotsUsed := s₂.slotsUsed }
      rw [State.setFrames_self ht]
    subst hg
    refine Or.inl ⟨v, ⟨(({ U with heap := s₂.heap, slotsUsed := s₂.slotsUsed } : State).setVm s₂.vm), Ls ++ L, c0 + mc, s0 + ms⟩,
      ⟨X.admits, X.cas, X.clock, X.frames, X.room, X.hears, X.method, X.code, (X.here.setHeapUsed s₂.heap s₂.slotsUsed).setVm hW'.alike, X.tail, State.WarmedH.trans X.warmed hW', X.limits, X.bytes, X.same.trans (hsame.setVm s.vm)⟩,
      ⟨g, mk, s₂, L, rfl, rfl, hqc, rfl, hL, rfl, rfl⟩, ?_⟩
    show Steps p.tables e below _ ((({ U with heap := s₂.heap, slotsUsed := s₂.slotsUsed } : State).setVm s₂.vm).setTop { g with pc := g.pc + len₂, stack := v.toList ++ g.stack })
    rw [← hs₂]
    exact hsteps
  · obtain ⟨e2, q2, q3, q4, q5, q6⟩ := id hsm
    have e3 : s₂ = ({ (U.calling g mk a).setFrames s₂.frames with heap := s₂.heap, slotsUsed := s₂.slotsUsed } : State).setVm s₂.vm := by
      have : s₂ = ({ s₂ with vm := (U.calling g mk a).vm } : State).setVm s₂.vm := rfl
      rw [e2] at this
      exact this
    have hf₂ : s₂.frames = .throwing q :: .java g :: U.frames.tail := hend
    have hW' : U.WarmedH s₂.vm := hW₂
    have hs₂ : s₂ = ((({ U with heap := s₂.heap, slotsUsed := s₂.slotsUsed } : State).setVm s₂.vm).setTop g).pushFrame (.throwing q) := by
      refine e3.trans ?_
      rw [hf₂, State.calling_eq h.top, State.setFrames_setFrames, State.pushFrame, State.frames_setTop _ hr', State.setTop_of_frames _ hr', State.setFrames_setFrames, hr]
      rfl
    have hsame : U.sameButNew ({ U with heap := s₂.heap, slotsUsed := s₂.slotsUsed } : State) L mc ms := by
      refine ⟨?_, q2, q3, q4, q5, q6⟩
      obtain ⟨t, ht, -⟩ := State.frames_cons hr
      show ({ U with heap := s₂.heap, slotsUsed := s₂.slotsUsed } : State) = { U.setFrames U.frames with heap := s₂.heap, slotsUsed := s₂.slotsUsed }
      rw [State.setFrames_self ht]
    subst hg
    refine Or.inr ⟨q, ⟨(({ U with heap := s₂.heap, slotsUsed := s₂.slotsUsed } : State).setVm s₂.vm), Ls ++ L, c0 + mc, s0 + ms⟩,
      ⟨X.admits, X.cas, X.clock, X.frames, X.room, X.hears, X.method, X.code, (X.here.setHeapUsed s₂.heap s₂.slotsUsed).setVm hW'.alike, X.tail, State.WarmedH.trans X.warmed hW', X.limits, X.bytes, X.same.trans (hsame.setVm s.vm)⟩,
      ⟨g, mk, s₂, L, E, ce, rfl, rfl, hx, hce, hcv, hcl, rfl, hL, rfl, rfl⟩, ?_⟩
    show Steps p.tables e below _ (((({ U with heap := s₂.heap, slotsUsed := s₂.slotsUsed } : State).setVm s₂.vm).setTop g).pushFrame (.throwing q))
    rw [← hs₂]
    exact hsteps
end Payer
section Calls
variable {p : Program} {l : Launch} {e : Env} {R : Room} {s : State} {m : MethodId} {args : Array Value} {below : List Frame} {meth : Method} {c : Code} {T : State} {locs : List Loc} {cells slots : Nat}
theorem vx_callV (X : Stand p l e R s m args below meth c T locs cells slots) (hexec : p.tables.exec = Jvm.exec) {own C : String} {index : Nat} {y : MethodName} {bytes : ByteArray} {maxL : Nat} {ret : Option FieldType}
    (hown : s.vm.findClass own = some m.cls) (hlink : (Cond.methodLink own index y).before args s = true) (hinst : (Cond.instanceMethod y).before args s = true) (hsel : (Cond.selects C y y).before args s = true)
    (hcode : (Cond.code y bytes maxL ret).before args s = true) (hy : y.cls ≠ "java/lang/invoke/MethodHandle" ∧ y.cls ≠ "java/lang/invoke/VarHandle")
    {W9 : Nat} {Pre : Pt → Array Value → Prop} {Post : Pt → Array Value → Option Value → Pt → Prop} {PostX : Pt → Array Value → Addr → Pt → Prop} (hK : vx_Back l R p e below s args y 3 W9 Pre Post PostX)
    {b : Addr} {cellB : Cell} (hcell : T.heap[b]? = some cellB) (hobj : cellB.vm.isStatics = false) (hcls : s.vm.findClass C = some cellB.cls)
    {g : JFrame} (hg : g.method = m) (hsize : g.locals.size = c.maxLocals) {argsL rest : List Value} (hlen : ∀ sig, parseMethodDescriptor y.desc = some sig → argsL.length = sig.parameters.length)
    (hstack : g.stack = argsL.reverse ++ .ref b :: rest) (hW : 2 * g.monitorRoom + (rest.map fun v => v.category).sum ≤ W9) (hdg : decode c.code g.pc = .ok (.invokevirtual index, 3))
    (hpre : ∀ vm₁, s.WarmedH vm₁ → Pre ⟨T.setVm vm₁, locs, cells, slots⟩ (Value.ref b :: argsL).toArray) :
    (∃ (v : Option Value) (vm₁ : Vm) (B : Pt), s.WarmedH vm₁ ∧ Stand p l e R s m args below meth c B.U B.locs B.cells B.slots ∧ Post ⟨T.setVm vm₁, locs, cells, slots⟩ (Value.ref b :: argsL).toArray v B ∧
      ∀ target, Steps p.tables e below (B.U.setTop { g with pc := g.pc + 3, stack := v.toList ++ rest }) target → Steps p.tables e below (T.setTop g) target) ∨
    (∃ (q : Addr) (vm₁ : Vm) (B : Pt), s.WarmedH vm₁ ∧ Stand p l e R s m args below meth c B.U B.locs B.cells B.slots ∧ PostX ⟨T.setVm vm₁, locs, cells, slots⟩ (Value.ref b :: argsL).toArray q B ∧
      Steps p.tables e below (T.setTop g) ((B.U.setTop { g with stack := rest }).pushFrame (.throwing q))) := by
  obtain ⟨mk, methM, hnamed, hmethM, hstM, habM⟩ := Cond.instanceMethod_spec hinst
  obtain ⟨methM', cM, hmethM', -, -, -, -, -, -, hsigM⟩ := Cond.code_spec hnamed hcode
  cases hmethM.symm.trans hmethM'
  obtain ⟨c2, r2, m2, q1, q2, q3, q4, kP, hkP, hkPi⟩ := Cond.selects_spec hsel
  cases hcls.symm.trans q1
  cases (State.methodFound?_of_named hnamed hy).symm.trans q2
  cases hnamed.symm.trans q3
  have hselP : selectMethod e.platform s.vm cellB.cls mk = .method mk := by rw [Launch.admits_selectMethod X.admits]; exact q4
  obtain ⟨vm₁, X₁, hstep₁⟩ := X.invokevirtual hexec hown hlink hnamed hmethM hstM hkP hkPi hy (a := b) (cell := cellB) hcell
    (fun z h => by rw [h] at hobj; cases hobj) hselP hmethM habM hkP hkPi (g := g) hg (argsL := argsL) (rest := rest) (hlen _ hsigM) hstack hdg
  rcases hK m meth c ⟨T.setVm vm₁, locs, cells, slots⟩ { g with stack := rest } (.invokevirtual index) mk (Value.ref b :: argsL).toArray X₁ hg hsize hdg hW (X₁.named hnamed) (hpre vm₁ X₁.warmed) with ⟨v, B, X', hpost, hsteps⟩ | ⟨q, B, X', hpost, hsteps⟩
  · exact Or.inl ⟨v, vm₁, B, X₁.warmed, X', hpost, fun target h => hstep₁ _ fun acts => by rw [doInvoke_state]; exact hsteps.trans h⟩
  · exact Or.inr ⟨q, vm₁, B, X₁.warmed, X', hpost, hstep₁ _ fun acts => by rw [doInvoke_state]; exact hsteps⟩
theorem vx_callS (X : Stand p l e R s m args below meth c T locs cells slots) (hexec : p.tables.exec = Jvm.exec) {own : String} {index : Nat} {y : MethodName} {bytes : ByteArray} {maxL : Nat} {ret : Option FieldType}
    (hown : s.vm.findClass own = some m.cls) (hlink : (Cond.methodLink own index y).before args s = true) (hstat : (Cond.static y).before args s = true) (hinit : (Cond.initialized y.cls).before args s = true)
    (hcode : (Cond.code y bytes maxL ret).before args s = true) (hy : y.cls ≠ "java/lang/invoke/MethodHandle" ∧ y.cls ≠ "java/lang/invoke/VarHandle")
    {W9 : Nat} {Pre : Pt → Array Value → Prop} {Post : Pt → Array Value → Option Value → Pt → Prop} {PostX : Pt → Array Value → Addr → Pt → Prop} (hK : vx_Back l R p e below s args y 3 W9 Pre Post PostX)
    {g : JFrame} (hg : g.method = m) (hsize : g.locals.size = c.maxLocals) {argsL rest : List Value} (hlen : ∀ sig, parseMethodDescriptor y.desc = some sig → argsL.length = sig.parameters.length)
    (hstack : g.stack = argsL.reverse ++ rest) (hW : 2 * g.monitorRoom + (rest.map fun v => v.category).sum ≤ W9) (hdg : decode c.code g.pc = .ok (.invokestatic index, 3))
    (hpre : ∀ vm₁, s.WarmedH vm₁ → Pre ⟨T.setVm vm₁, locs, cells, slots⟩ argsL.toArray) :
    (∃ (v : Option Value) (vm₁ : Vm) (B : Pt), s.WarmedH vm₁ ∧ Stand p l e R s m args below meth c B.U B.locs B.cells B.slots ∧ Post ⟨T.setVm vm₁, locs, cells, slots⟩ argsL.toArray v B ∧
      ∀ target, Steps p.tables e below (B.U.setTop { g with pc := g.pc + 3, stack := v.toList ++ rest }) target → Steps p.tables e below (T.setTop g) target) ∨
    (∃ (q : Addr) (vm₁ : Vm) (B : Pt), s.WarmedH vm₁ ∧ Stand p l e R s m args below meth c B.U B.locs B.cells B.slots ∧ PostX ⟨T.setVm vm₁, locs, cells, slots⟩ argsL.toArray q B ∧
      Steps p.tables e below (T.setTop g) ((B.U.setTop { g with stack := rest }).pushFrame (.throwing q))) := by
  obtain ⟨mk, hnamed⟩ := Cond.code_named hcode
  obtain ⟨methM, cM, hmethM, -, -, -, -, -, -, hsigM⟩ := Cond.code_spec hnamed hcode
  have hstatic : methM.isStatic = true := Cond.static_spec hnamed hmethM hstat
  obtain ⟨kP, hkP, -⟩ := className_of_methodNamed hnamed
  have hinitP : kP.init = .initialized := Cond.initialized_spec (findClass_of_methodNamed hnamed) hkP hinit
  obtain ⟨vm₁, X₁, hstep₁⟩ := X.invokestatic hexec hown hlink hnamed hmethM hstatic hkP hinitP hy (g := g) hg (argsL := argsL) (rest := rest) (hlen _ hsigM) hstack hdg
  rcases hK m meth c ⟨T.setVm vm₁, locs, cells, slots⟩ { g with stack := rest } (.invokestatic index) mk argsL.toArray X₁ hg hsize hdg hW (X₁.named hnamed) (hpre vm₁ X₁.warmed) with ⟨v, B, X', hpost, hsteps⟩ | ⟨q, B, X', hpost, hsteps⟩
  · exact Or.inl ⟨v, vm₁, B, X₁.warmed, X', hpost, fun target h => hstep₁ _ fun acts => by rw [doInvoke_state]; exact hsteps.trans h⟩
  · exact Or.inr ⟨q, vm₁, B, X₁.warmed, X', hpost, hstep₁ _ fun acts => by rw [doInvoke_state]; exact hsteps⟩
end Calls
theorem vx_cls {s : State} {T : State} {vm₁ : Vm} {E : String} {k : ClassId} (hW : s.WarmedH vm₁) (h : (T.setVm vm₁).vm.findClass E = some k) : s.vm.findClass E = some k := by
  have h1 : vm₁.findClass E = some k := h
  rw [hW.alike.findClass] at h1
  exact h1
/-- the method's frame g, with q thrown over it -/
def vx_W (p : Program) (l : Launch) (e : Env) (R : Room) (s : State) (m : MethodId) (args : Array Value) (below : List Frame) (meth : Method) (c : Code) (H : Heap) (locs : List Loc) (cells slots : Nat) (Q : State → Prop) (g : JFrame) (q : Addr) : Prop :=
  ∀ T : State, T.heap = H → Stand p l e R s m args below meth c T locs cells slots → ∃ t, Steps p.tables e below ((T.setTop g).pushFrame (.throwing q)) t ∧ Q t
def vx_Run (p : Program) (l : Launch) (e : Env) (R : Room) (s : State) (m : MethodId) (args : Array Value) (below : List Frame) (meth : Method) (c : Code) (H : Heap) (locs : List Loc) (cells slots mc ms : Nat) (g : JFrame) (rest : List Value) (Qa : State → Outcome → State → Prop) (XC : String → State → State → Prop) (free : Addr → Prop) : Prop :=
  ∀ T : State, T.heap = H → Stand p l e R s m args below meth c T locs cells slots →
    (∃ (v : Option Value) (st₀ t T' : State) (L : List Loc), st₀.heap = H ∧ Stand p l e R s m args below meth c T' (locs ++ L) (cells + mc) (slots + ms) ∧ (∀ q ∈ L, free q.base) ∧ T'.heap = t.heap ∧ T'.vm = t.vm ∧ Qa st₀ (.returned v) t ∧
      Goes p e below T g T' { g with pc := g.pc + 3, stack := v.toList ++ rest }) ∨
    (∃ (q : Addr) (st₀ t T' : State) (L : List Loc) (E : String) (ce : Cell), st₀.heap = H ∧ Stand p l e R s m args below meth c T' (locs ++ L) (cells + mc) (slots + ms) ∧ (∀ z ∈ L, free z.base) ∧ T'.heap = t.heap ∧ T'.vm = t.vm ∧ XC E st₀ t ∧ t.heap[q]? = some ce ∧ ce.vm = .none ∧ s.vm.findClass E = some ce.cls ∧
      Steps p.tables e below (T.setTop g) ((T'.setTop { g with stack := rest }).pushFrame (.throwing q)))
def vx_X {S : Type} (px : S → Prop) (B : String → S → State → Prop) (A : Nat → Prop) : String → State → State → Prop := fun E st t => ∃ u : S, px u ∧ B E u t ∧ va_F A st t
section Runs
variable {p : Program} {l : Launch} {e : Env} {R : Room} {s : State} {m : MethodId} {args : Array Value} {below : List Frame} {meth : Method} {c : Code} {H : Heap} {locs : List Loc} {cells slots : Nat}
variable {y : MethodName} {bytes cc : ByteArray} {maxL nL mc ms n index : Nat} {ret : Option FieldType} {ws : List Cond} {rm : Room} {Pc : Array Value → State → Prop} {Qc : Array Value → State → Outcome → State → Prop} {XC : String → State → State → Prop} {free : Addr → Prop} {Ts : List Cond} {own C : String} {b : Addr} {As rest : List Value} {g : JFrame}
theorem vx_callBack (cb : CallB R s args own index y bytes maxL ret ws rm mc ms n) (hM : vx_Met l y ws rm Pc Qc XC mc ms free) (hbl : FrameBlind Pc) : vx_Back l R p e below s args y 3 8 (PreOf R mc ms Pc) (PostOf Qc mc ms free) (vx_Post XC mc ms free) := by
  obtain ⟨hrc, hrs, hfr, hlo, hws, hcw, -, hini, -⟩ := cb
  exact vx_back (bytes := bytes) (maxL := maxL) (ret := ret) hM hbl hrc hrs hfr hlo hws hcw (fun a' U hW => word_at hW (Or.inl (by first | rfl | simp [Cond.onTables, Cond.keeps, Cond.steady])) hini)
theorem vx_runV (S : CallFix p m c cc nL s args Ts own) (hM : vx_Met l y ws rm Pc Qc XC mc ms free) (cw : CallW R s args own C index y bytes maxL ret ws rm mc ms n) (hp : PreV s H C b Pc As)
    (hg : g.method = m) (hn : As.length = n) (hsize : g.locals.size = nL) (hstack : g.stack = As.reverse ++ .ref b :: rest) (hW : 2 * g.monitorRoom + (rest.map fun v => v.category).sum ≤ 8) (hdg : decode cc g.pc = .ok (.invokevirtual index, 3)) (hf : cells + mc ≤ R.cells ∧ slots + ms ≤ R.slots) :
    vx_Run p l e R s m args below meth c H locs cells slots mc ms g rest (Qc (Value.ref b :: As).toArray) XC free := by
  have hK : vx_Back l R p e below s args y 3 8 (PreOf R mc ms Pc) (PostOf Qc mc ms free) (vx_Post XC mc ms free) := vx_callBack cw.1 hM hp.1
  obtain ⟨⟨-, -, -, -, -, -, hcode, -, hy, hlen, hl⟩, hin, hse⟩ := cw
  obtain ⟨hx, hb, hml, ho, -⟩ := S
  obtain ⟨-, ⟨cellB, hcB, hoB, hclB⟩, hPc⟩ := hp
  intro T hT X
  rcases vx_callV X hx (C := C) (bytes := bytes) (maxL := maxL) (ret := ret) ho hl hin hse hcode hy hK (by rw [hT]; exact hcB) hoB hclB hg (hsize.trans hml.symm) (argsL := As) (rest := rest) (fun sig h => hn.trans (hlen sig h)) hstack hW (by rw [hb]; exact hdg)
    (fun vm₁ hW₁ => ⟨hf.1, hf.2, hPc (T.setVm vm₁) hT hW₁⟩) with ⟨v, vm₁, ⟨U', l2, c2, s2⟩, hW₁, X', ⟨g', mk, t, L, e1, e2, hq, h1, hL, h2, h3⟩, st⟩ | ⟨q, vm₁, ⟨U', l2, c2, s2⟩, hW₁, X', ⟨g', mk, t, L, E, ce, e1, e2, hq, hce, hcv, hcl, h1, hL, h2, h3⟩, st⟩
  · dsimp only [Pt.U, Pt.locs, Pt.cells, Pt.slots] at X' e1 e2 h1 h2 h3 st
    subst h1; subst h2; subst h3
    exact Or.inl ⟨v, (T.setVm vm₁).calling g' mk (Value.ref b :: As).toArray, t, U', L, hT, X', hL, e1, e2, hq, st⟩
  · dsimp only [Pt.U, Pt.locs, Pt.cells, Pt.slots] at X' e1 e2 h1 h2 h3 st hcl
    subst h1; subst h2; subst h3
    exact Or.inr ⟨q, (T.setVm vm₁).calling g' mk (Value.ref b :: As).toArray, t, U', L, E, ce, hT, X', hL, e1, e2, hq, hce, hcv, vx_cls hW₁ hcl, st⟩
theorem vx_runS (S : CallFix p m c cc nL s args Ts own) (hM : vx_Met l y ws rm Pc Qc XC mc ms free) (cw : CallB R s args own index y bytes maxL ret ws rm mc ms n ∧ (Cond.static y).before args s = true) (hp : PreS s H Pc As)
    (hg : g.method = m) (hn : As.length = n) (hsize : g.locals.size = nL) (hstack : g.stack = As.reverse ++ rest) (hW : 2 * g.monitorRoom + (rest.map fun v => v.category).sum ≤ 8) (hdg : decode cc g.pc = .ok (.invokestatic index, 3)) (hf : cells + mc ≤ R.cells ∧ slots + ms ≤ R.slots) :
    vx_Run p l e R s m args below meth c H locs cells slots mc ms g rest (Qc As.toArray) XC free := by
  have hK : vx_Back l R p e below s args y 3 8 (PreOf R mc ms Pc) (PostOf Qc mc ms free) (vx_Post XC mc ms free) := vx_callBack cw.1 hM hp.1
  obtain ⟨⟨-, -, -, -, -, -, hcode, hini, hy, hlen, hl⟩, hstt⟩ := cw
  obtain ⟨hx, hb, hml, ho, -⟩ := S
  intro T hT X
  rcases vx_callS X hx (bytes := bytes) (maxL := maxL) (ret := ret) ho hl hstt hini hcode hy hK hg (hsize.trans hml.symm) (argsL := As) (rest := rest) (fun sig h => hn.trans (hlen sig h)) hstack hW (by rw [hb]; exact hdg)
    (fun vm₁ hW₁ => ⟨hf.1, hf.2, hp.2 (T.setVm vm₁) hT hW₁⟩) with ⟨v, vm₁, ⟨U', l2, c2, s2⟩, hW₁, X', ⟨g', mk, t, L, e1, e2, hq, h1, hL, h2, h3⟩, st⟩ | ⟨q, vm₁, ⟨U', l2, c2, s2⟩, hW₁, X', ⟨g', mk, t, L, E, ce, e1, e2, hq, hce, hcv, hcl, h1, hL, h2, h3⟩, st⟩
  · dsimp only [Pt.U, Pt.locs, Pt.cells, Pt.slots] at X' e1 e2 h1 h2 h3 st
    subst h1; subst h2; subst h3
    exact Or.inl ⟨v, (T.setVm vm₁).calling g' mk As.toArray, t, U', L, hT, X', hL, e1, e2, hq, st⟩
  · dsimp only [Pt.U, Pt.locs, Pt.cells, Pt.slots] at X' e1 e2 h1 h2 h3 st hcl
    subst h1; subst h2; subst h3
    exact Or.inr ⟨q, (T.setVm vm₁).calling g' mk As.toArray, t, U', L, E, ce, hT, X', hL, e1, e2, hq, hce, hcv, vx_cls hW₁ hcl, st⟩
end Runs
section Rows
variable {p : Program} {l : Launch} {e : Env} {R : Room} {s : State} {m : MethodId} {args : Array Value} {below : List Frame} {meth : Method} {c : Code} {H : Heap} {locs : List Loc} {cells slots : Nat} {Q : State → Prop}
variable {mc ms : Nat} {free : Addr → Prop} {A0 A1 : Nat → Prop} {H0 : Heap} {a : Array Value} {pc : Nat} {ls : Array Slot} {st0 rest : List Value}
theorem vx_keep {st₀ t T' : State} {L : List Loc} (h0 : st₀.heap = H) (e1 : T'.heap = t.heap) (hS : va_S A0 H0 H locs) (hA : ∀ q, q < H.size → A1 q → A0 q) (hf : ∀ q, free q → A0 q) (hL : ∀ q ∈ L, free q.base) (hF : va_F A1 st₀ t) :
    H.size ≤ T'.heap.size ∧ (∀ q : Nat, q < H.size → ¬ A1 q → T'.heap[q]? = H[q]?) ∧ va_S A0 H0 T'.heap (locs ++ L) := by
  obtain ⟨hz, hk⟩ := hF
  rw [h0] at hz hk
  exact ⟨by rw [e1]; exact hz, fun q h1 h2 => by rw [e1]; exact hk q h1 h2,
    ⟨Nat.le_trans hS.1 (by rw [e1]; exact hz), fun q h1 h2 => by rw [e1, hk q (Nat.lt_of_lt_of_le h1 hS.1) (fun z => h2 (hA q (Nat.lt_of_lt_of_le h1 hS.1) z))]; exact hS.2.1 q h1 h2, fun q hq => by
      rcases List.mem_append.mp hq with h | h
      · exact hS.2.2 q h
      · exact hf _ (hL q h)⟩⟩
theorem vx_calli {S SX : Type} {post : Int32 → S → Prop} {px : SX → Prop} {B : S → State → Prop} {BX : String → SX → State → Prop} {AX : Nat → Prop} (hr : vx_Run p l e R s m args below meth c H locs cells slots mc ms (F0 m pc ls st0) rest (va_Qi post B A1 a) (vx_X px BX AX) free) (hS : va_S A0 H0 H locs) (hA : ∀ q, q < H.size → A1 q → A0 q) (hf : ∀ q, free q → A0 q) (hAX : ∀ q, q < H.size → AX q → A0 q)
    (kx : ∀ (E : String) (ce : Cell) (q9 : Addr) (u : SX) (t : State) (H1 : Heap) (locs1 : List Loc), t.heap = H1 → s.vm.Alike t.vm → px u → BX E u t → H.size ≤ H1.size → (∀ q : Nat, q < H.size → ¬ AX q → H1[q]? = H[q]?) → va_S A0 H0 H1 locs1 → H1[q9]? = some ce → ce.vm = .none → s.vm.findClass E = some ce.cls → vx_W p l e R s m args below meth c H1 locs1 (cells + mc) (slots + ms) Q (F0 m pc ls rest) q9)
    (kk : ∀ (r : Int32) (u : S) (t : State) (H1 : Heap) (locs1 : List Loc), t.heap = H1 → s.vm.Alike t.vm → post r u → B u t → H.size ≤ H1.size → (∀ q : Nat, q < H.size → ¬ A1 q → H1[q]? = H[q]?) → va_S A0 H0 H1 locs1 → W p l e R s m args below meth c H1 locs1 (cells + mc) (slots + ms) Q (F0 m (pc + 3) ls (.int r :: rest))) : W p l e R s m args below meth c H locs cells slots Q (F0 m pc ls st0) := by
  intro T hT X
  rcases hr T hT X with ⟨v, st₀, t, T', L, h0, X', hL, e1, e2, ⟨⟨r, u, hv, hp, hb⟩, hF⟩, st⟩ | ⟨q, st₀, t, T', L, E, ce, h0, X', hL, e1, e2, ⟨u, hp, hb, hF⟩, hce, hcv, hcl, st⟩
  · cases hv
    obtain ⟨k1, k2, k3⟩ := vx_keep h0 e1 hS hA hf hL hF
    obtain ⟨t2, a1, b1⟩ := kk r u t T'.heap (locs ++ L) e1.symm (by rw [← e2]; exact X'.warmed.alike) hp hb k1 k2 k3 T' rfl X'
    exact ⟨t2, st t2 a1, b1⟩
  · obtain ⟨k1, k2, k3⟩ := vx_keep h0 e1 hS hAX hf hL hF
    obtain ⟨t2, a1, b1⟩ := kx E ce q u t T'.heap (locs ++ L) e1.symm (by rw [← e2]; exact X'.warmed.alike) hp hb k1 k2 k3 (by rw [e1]; exact hce) hcv hcl T' rfl X'
    exact ⟨t2, st.trans a1, b1⟩
theorem vx_calll {S SX : Type} {post : Int64 → S → Prop} {px : SX → Prop} {B : S → State → Prop} {BX : String → SX → State → Prop} {AX : Nat → Prop} (hr : vx_Run p l e R s m args below meth c H locs cells slots mc ms (F0 m pc ls st0) rest (va_Ql post B A1 a) (vx_X px BX AX) free) (hS : va_S A0 H0 H locs) (hA : ∀ q, q < H.size → A1 q → A0 q) (hf : ∀ q, free q → A0 q) (hAX : ∀ q, q < H.size → AX q → A0 q)
    (kx : ∀ (E : String) (ce : Cell) (q9 : Addr) (u : SX) (t : State) (H1 : Heap) (locs1 : List Loc), t.heap = H1 → s.vm.Alike t.vm → px u → BX E u t → H.size ≤ H1.size → (∀ q : Nat, q < H.size → ¬ AX q → H1[q]? = H[q]?) → va_S A0 H0 H1 locs1 → H1[q9]? = some ce → ce.vm = .none → s.vm.findClass E = some ce.cls → vx_W p l e R s m args below meth c H1 locs1 (cells + mc) (slots + ms) Q (F0 m pc ls rest) q9)
    (kk : ∀ (r : Int64) (u : S) (t : State) (H1 : Heap) (locs1 : List Loc), t.heap = H1 → s.vm.Alike t.vm → post r u → B u t → H.size ≤ H1.size → (∀ q : Nat, q < H.size → ¬ A1 q → H1[q]? = H[q]?) → va_S A0 H0 H1 locs1 → W p l e R s m args below meth c H1 locs1 (cells + mc) (slots + ms) Q (F0 m (pc + 3) ls (.long r :: rest))) : W p l e R s m args below meth c H locs cells slots Q (F0 m pc ls st0) := by
  intro T hT X
  rcases hr T hT X with ⟨v, st₀, t, T', L, h0, X', hL, e1, e2, ⟨⟨r, u, hv, hp, hb⟩, hF⟩, st⟩ | ⟨q, st₀, t, T', L, E, ce, h0, X', hL, e1, e2, ⟨u, hp, hb, hF⟩, hce, hcv, hcl, st⟩
  · cases hv
    obtain ⟨k1, k2, k3⟩ := vx_keep h0 e1 hS hA hf hL hF
    obtain ⟨t2, a1, b1⟩ := kk r u t T'.heap (locs ++ L) e1.symm (by rw [← e2]; exact X'.warmed.alike) hp hb k1 k2 k3 T' rfl X'
    exact ⟨t2, st t2 a1, b1⟩
  · obtain ⟨k1, k2, k3⟩ := vx_keep h0 e1 hS hAX hf hL hF
    obtain ⟨t2, a1, b1⟩ := kx E ce q u t T'.heap (locs ++ L) e1.symm (by rw [← e2]; exact X'.warmed.alike) hp hb k1 k2 k3 (by rw [e1]; exact hce) hcv hcl T' rfl X'
    exact ⟨t2, st.trans a1, b1⟩
theorem vx_callf {S SX : Type} {post : UInt32 → S → Prop} {px : SX → Prop} {B : S → State → Prop} {BX : String → SX → State → Prop} {AX : Nat → Prop} (hr : vx_Run p l e R s m args below meth c H locs cells slots mc ms (F0 m pc ls st0) rest (va_Qf post B A1 a) (vx_X px BX AX) free) (hS : va_S A0 H0 H locs) (hA : ∀ q, q < H.size → A1 q → A0 q) (hf : ∀ q, free q → A0 q) (hAX : ∀ q, q < H.size → AX q → A0 q)
    (kx : ∀ (E : String) (ce : Cell) (q9 : Addr) (u : SX) (t : State) (H1 : Heap) (locs1 : List Loc), t.heap = H1 → s.vm.Alike t.vm → px u → BX E u t → H.size ≤ H1.size → (∀ q : Nat, q < H.size → ¬ AX q → H1[q]? = H[q]?) → va_S A0 H0 H1 locs1 → H1[q9]? = some ce → ce.vm = .none → s.vm.findClass E = some ce.cls → vx_W p l e R s m args below meth c H1 locs1 (cells + mc) (slots + ms) Q (F0 m pc ls rest) q9)
    (kk : ∀ (r : UInt32) (u : S) (t : State) (H1 : Heap) (locs1 : List Loc), t.heap = H1 → s.vm.Alike t.vm → post r u → B u t → H.size ≤ H1.size → (∀ q : Nat, q < H.size → ¬ A1 q → H1[q]? = H[q]?) → va_S A0 H0 H1 locs1 → W p l e R s m args below meth c H1 locs1 (cells + mc) (slots + ms) Q (F0 m (pc + 3) ls (.float r :: rest))) : W p l e R s m args below meth c H locs cells slots Q (F0 m pc ls st0) := by
  intro T hT X
  rcases hr T hT X with ⟨v, st₀, t, T', L, h0, X', hL, e1, e2, ⟨⟨r, u, hv, hp, hb⟩, hF⟩, st⟩ | ⟨q, st₀, t, T', L, E, ce, h0, X', hL, e1, e2, ⟨u, hp, hb, hF⟩, hce, hcv, hcl, st⟩
  · cases hv
    obtain ⟨k1, k2, k3⟩ := vx_keep h0 e1 hS hA hf hL hF
    obtain ⟨t2, a1, b1⟩ := kk r u t T'.heap (locs ++ L) e1.symm (by rw [← e2]; exact X'.warmed.alike) hp hb k1 k2 k3 T' rfl X'
    exact ⟨t2, st t2 a1, b1⟩
  · obtain ⟨k1, k2, k3⟩ := vx_keep h0 e1 hS hAX hf hL hF
    obtain ⟨t2, a1, b1⟩ := kx E ce q u t T'.heap (locs ++ L) e1.symm (by rw [← e2]; exact X'.warmed.alike) hp hb k1 k2 k3 (by rw [e1]; exact hce) hcv hcl T' rfl X'
    exact ⟨t2, st.trans a1, b1⟩
theorem vx_calld {S SX : Type} {post : UInt64 → S → Prop} {px : SX → Prop} {B : S → State → Prop} {BX : String → SX → State → Prop} {AX : Nat → Prop} (hr : vx_Run p l e R s m args below meth c H locs cells slots mc ms (F0 m pc ls st0) rest (va_Qd post B A1 a) (vx_X px BX AX) free) (hS : va_S A0 H0 H locs) (hA : ∀ q, q < H.size → A1 q → A0 q) (hf : ∀ q, free q → A0 q) (hAX : ∀ q, q < H.size → AX q → A0 q)
    (kx : ∀ (E : String) (ce : Cell) (q9 : Addr) (u : SX) (t : State) (H1 : Heap) (locs1 : List Loc), t.heap = H1 → s.vm.Alike t.vm → px u → BX E u t → H.size ≤ H1.size → (∀ q : Nat, q < H.size → ¬ AX q → H1[q]? = H[q]?) → va_S A0 H0 H1 locs1 → H1[q9]? = some ce → ce.vm = .none → s.vm.findClass E = some ce.cls → vx_W p l e R s m args below meth c H1 locs1 (cells + mc) (slots + ms) Q (F0 m pc ls rest) q9)
    (kk : ∀ (r : UInt64) (u : S) (t : State) (H1 : Heap) (locs1 : List Loc), t.heap = H1 → s.vm.Alike t.vm → post r u → B u t → H.size ≤ H1.size → (∀ q : Nat, q < H.size → ¬ A1 q → H1[q]? = H[q]?) → va_S A0 H0 H1 locs1 → W p l e R s m args below meth c H1 locs1 (cells + mc) (slots + ms) Q (F0 m (pc + 3) ls (.double r :: rest))) : W p l e R s m args below meth c H locs cells slots Q (F0 m pc ls st0) := by
  intro T hT X
  rcases hr T hT X with ⟨v, st₀, t, T', L, h0, X', hL, e1, e2, ⟨⟨r, u, hv, hp, hb⟩, hF⟩, st⟩ | ⟨q, st₀, t, T', L, E, ce, h0, X', hL, e1, e2, ⟨u, hp, hb, hF⟩, hce, hcv, hcl, st⟩
  · cases hv
    obtain ⟨k1, k2, k3⟩ := vx_keep h0 e1 hS hA hf hL hF
    obtain ⟨t2, a1, b1⟩ := kk r u t T'.heap (locs ++ L) e1.symm (by rw [← e2]; exact X'.warmed.alike) hp hb k1 k2 k3 T' rfl X'
    exact ⟨t2, st t2 a1, b1⟩
  · obtain ⟨k1, k2, k3⟩ := vx_keep h0 e1 hS hAX hf hL hF
    obtain ⟨t2, a1, b1⟩ := kx E ce q u t T'.heap (locs ++ L) e1.symm (by rw [← e2]; exact X'.warmed.alike) hp hb k1 k2 k3 (by rw [e1]; exact hce) hcv hcl T' rfl X'
    exact ⟨t2, st.trans a1, b1⟩
theorem vx_callv {S SX : Type} {post : S → Prop} {px : SX → Prop} {B : S → State → Prop} {BX : String → SX → State → Prop} {AX : Nat → Prop} (hr : vx_Run p l e R s m args below meth c H locs cells slots mc ms (F0 m pc ls st0) rest (va_Qv post B A1 a) (vx_X px BX AX) free) (hS : va_S A0 H0 H locs) (hA : ∀ q, q < H.size → A1 q → A0 q) (hf : ∀ q, free q → A0 q) (hAX : ∀ q, q < H.size → AX q → A0 q)
    (kx : ∀ (E : String) (ce : Cell) (q9 : Addr) (u : SX) (t : State) (H1 : Heap) (locs1 : List Loc), t.heap = H1 → s.vm.Alike t.vm → px u → BX E u t → H.size ≤ H1.size → (∀ q : Nat, q < H.size → ¬ AX q → H1[q]? = H[q]?) → va_S A0 H0 H1 locs1 → H1[q9]? = some ce → ce.vm = .none → s.vm.findClass E = some ce.cls → vx_W p l e R s m args below meth c H1 locs1 (cells + mc) (slots + ms) Q (F0 m pc ls rest) q9)
    (kk : ∀ (u : S) (t : State) (H1 : Heap) (locs1 : List Loc), t.heap = H1 → s.vm.Alike t.vm → post u → B u t → H.size ≤ H1.size → (∀ q : Nat, q < H.size → ¬ A1 q → H1[q]? = H[q]?) → va_S A0 H0 H1 locs1 → W p l e R s m args below meth c H1 locs1 (cells + mc) (slots + ms) Q (F0 m (pc + 3) ls (rest))) : W p l e R s m args below meth c H locs cells slots Q (F0 m pc ls st0) := by
  intro T hT X
  rcases hr T hT X with ⟨v, st₀, t, T', L, h0, X', hL, e1, e2, ⟨⟨u, hv, hp, hb⟩, hF⟩, st⟩ | ⟨q, st₀, t, T', L, E, ce, h0, X', hL, e1, e2, ⟨u, hp, hb, hF⟩, hce, hcv, hcl, st⟩
  · cases hv
    obtain ⟨k1, k2, k3⟩ := vx_keep h0 e1 hS hA hf hL hF
    obtain ⟨t2, a1, b1⟩ := kk u t T'.heap (locs ++ L) e1.symm (by rw [← e2]; exact X'.warmed.alike) hp hb k1 k2 k3 T' rfl X'
    exact ⟨t2, st t2 a1, b1⟩
  · obtain ⟨k1, k2, k3⟩ := vx_keep h0 e1 hS hAX hf hL hF
    obtain ⟨t2, a1, b1⟩ := kx E ce q u t T'.heap (locs ++ L) e1.symm (by rw [← e2]; exact X'.warmed.alike) hp hb k1 k2 k3 (by rw [e1]; exact hce) hcv hcl T' rfl X'
    exact ⟨t2, st.trans a1, b1⟩
/-- caught by the row x of this method's table; the rows ahead don't take it -/
theorem vx_catch {own name : String} {E : String} {ce : Cell} {q : Addr} (hown : s.vm.findClass own = some m.cls) (pre : List ExceptionTableEntry) (x : ExceptionTableEntry) (suf : List ExceptionTableEntry) (hsplit : c.exceptionTable.toList = pre ++ x :: suf)
    (hpass : ∀ z ∈ pre, covers z pc = false ∨ (z.catchType ≠ 0 ∧ ∃ nm : String, (Cond.classLink own z.catchType nm).before args s = true ∧ va_Nc E nm s)) (hx : covers x pc = true) (h0 : x.catchType ≠ 0)
    (hlink : (Cond.classLink own x.catchType name).before args s = true) (hcast : (Cond.castable E name).before args s = true) (hcell : H[q]? = some ce) (hv : ce.vm = .none) (hcl : s.vm.findClass E = some ce.cls)
    (kk : W p l e R s m args below meth c H locs cells slots Q (F0 m x.handlerPc ls [.ref q])) : vx_W p l e R s m args below meth c H locs cells slots Q (F0 m pc ls rest) q := by
  intro T hT X
  have hpl : e.platform.magicAccessors = ({} : Platform).magicAccessors := by rw [X.admits.platform]
  obtain ⟨c3, c4, hc3, hc4, hasg⟩ := Cond.castable_spec hcast
  cases Option.some.inj (hc3.symm.trans hcl)
  obtain ⟨c5, hc5, hcl5⟩ := Cond.classLink_spec hown hlink e.platform hpl
  cases Option.some.inj (hc4.symm.trans hc5)
  obtain ⟨vm', X', st⟩ := X.thenCaughtThrough q (g := F0 m pc ls rest) rfl (Steps.refl _) (by rw [hT]; exact hcell) (by rw [hv]; rfl) (by obtain ⟨k9, h9, -⟩ := Vm.findClass_spec hcl; exact ⟨k9, h9⟩) pre x suf hsplit
    (fun z hz => by
      rcases hpass z hz with h | ⟨hz0, nm, hl1, hn1⟩
      · exact Or.inl h
      · obtain ⟨c6, hc6, hcl6⟩ := Cond.classLink_spec hown hl1 e.platform hpl
        obtain ⟨a8, b8, h1, h2, h3⟩ := hn1
        cases Option.some.inj (h1.symm.trans hcl)
        cases Option.some.inj (h2.symm.trans hc6)
        exact Or.inr ⟨hz0, _, hcl6, h3⟩) hx (Or.inr ⟨h0, c4, hcl5, hasg⟩)
  obtain ⟨t, a1, b1⟩ := kk (T.setVm vm') hT X'
  exact ⟨t, st.trans a1, b1⟩
end Rows
section Ends
variable {p : Program} {l : Launch} {e : Env} {R : Room} {s : State} {m : MethodId} {args : Array Value} {below : List Frame} {meth : Method} {c : Code} {H : Heap} {locs : List Loc} {cells slots : Nat} {Q : State → Prop}
variable {mc ms : Nat} {free : Addr → Prop} {A0 A1 : Nat → Prop} {H0 : Heap} {a : Array Value} {ls : Array Slot} {st0 rest : List Value}
variable {Qc : Array Value → State → Outcome → State → Prop} {XC : String → State → State → Prop}
/-- what a body that may throw owes at its end -/
def vx_MQ (below : List Frame) (Qc : Array Value → State → Outcome → State → Prop) (XC : String → State → State → Prop) (a : Array Value) (s : State) (mc ms : Nat) (free : Addr → Prop) : State → Prop := fun t =>
  ∃ o, t.status = .running ∧ Ended t below o ∧ vx_Q Qc XC mc ms free a s o t
theorem vx_ret {g : JFrame} {mc ms : Nat} (k : W p l e R s m args below meth c H locs cells slots (MQ below Qc args s mc ms free) g) : W p l e R s m args below meth c H locs cells slots (vx_MQ below Qc XC args s mc ms free) g := by
  intro T hT X
  obtain ⟨t, a1, o, b1, b2, b3, b4⟩ := k T hT X
  exact ⟨t, a1, o, b1, b2, Or.inl ⟨b3, b4⟩⟩
/-- not caught here: it goes on to the caller -/
theorem vx_widen {g : JFrame} {q : Addr} {k n : Nat} (h1 : cells ≤ k) (h2 : slots ≤ n) (kk : vx_W p l e R s m args below meth c H locs k n Q g q) : vx_W p l e R s m args below meth c H locs cells slots Q g q := fun T hT X => kk T hT (stand_widen X h1 h2)
theorem vx_out {pc : Nat} {E : String} {ce : Cell} {q : Addr} {mc ms : Nat} (hout : ∀ x ∈ c.exceptionTable.toList, covers x pc = false) (hlocks : meth.locks = false) (hcell : H[q]? = some ce) (hv : ce.vm = .none) (hcl : s.vm.findClass E = some ce.cls)
    (hx : ∀ t : State, t.heap = H → s.vm.Alike t.vm → XC E s t) (hf : ∀ z ∈ locs, free z.base) (hc : cells ≤ mc) (hs : slots ≤ ms) :
    vx_W p l e R s m args below meth c H locs cells slots (vx_MQ below Qc XC args s mc ms free) (F0 m pc ls rest) q := by
  intro T hT X
  obtain ⟨st1, hrun, hend, hW, hsm⟩ := X.leaveThrown q (g := F0 m pc ls rest) rfl rfl rfl hout hlocks
  have hcell9 : (T.setFrames (.throwing q :: below)).heap[q]? = some ce := by
    show T.heap[q]? = some ce
    rw [hT]; exact hcell
  exact ⟨_, st1, .threw q, hrun, hend, Or.inr ⟨q, rfl, E, ce, locs, hx _ hT hW.alike, hcell9, hv, hcl, hW, hsm.mono hc hs, hf⟩⟩
theorem vx_frame {U : State} {k n : Nat} (h : s.sameButNew ({ U with vm := s.vm } : State) locs k n) : s.heap.size ≤ U.heap.size ∧ ∀ q : Nat, q < s.heap.size → (∀ z ∈ locs, z.base ≠ q) → U.heap[q]? = s.heap[q]? := by
  obtain ⟨-, h2, -, -, -, h6⟩ := h
  refine ⟨h2, fun q hq hz => ?_⟩
  obtain ⟨c9, e1, e2, e3, e4⟩ := h6 q _ (Array.getElem?_eq_getElem hq)
  have hs : c9.slots = (s.heap[q]).slots := Array.ext_getElem? fun i => e4 i fun hm => hz _ hm rfl
  have h9 : c9 = s.heap[q] := by
    rw [hs] at e2
    exact e2
  have e5 : U.heap[q]? = some c9 := e1
  rw [e5, h9, Array.getElem?_eq_getElem hq]
/-- the words of a throw but the four that speak of the heap -/
def vx_no (w : Cond) : Bool := decide (w ≠ .isRef (.static Bundle.tN "UNASSIGNED_STACK" Bundle.steD)) && decide (w ≠ .isRef (.static Bundle.tN "SUPPRESSED_SENTINEL" Bundle.listD)) && decide (w ≠ .laysStatic Bundle.tN "UNASSIGNED_STACK" Bundle.steD) && decide (w ≠ .laysStatic Bundle.tN "SUPPRESSED_SENTINEL" Bundle.listD)
def vx_at0 (own : String) (ic : Nat) (X : String) (names : List String) : List Cond := (Bundle.ownAtoms0 own ic X names).filter vx_no
def vx_atS (own : String) (ic : Nat) (X : String) (names : List String) : List Cond := (Bundle.ownAtoms own ic X names).filter vx_no
/-- a word that the tables alone decide, or a good one -/
def vx_ot (w : Cond) : Bool := w.onTables || goodWord w
theorem vx_ot_at {args a' : Array Value} {s U : State} {w : Cond} (hW : s.WarmedH U.vm) (hvm : s.vm = U.vm) (hg : vx_ot w = true) (h : w.before args s = true) : w.before a' U = true := by
  simp only [vx_ot, Bool.or_eq_true] at hg
  rcases hg with hg | hg
  · exact va_tabs hg hvm h
  · exact word_at hW (good_of_word hg) h
/-- a list's words: the good ones out of the method's own list, the others by premises of their own -/
theorem vx_hat {args : Array Value} {s : State} {L B : List Cond} (h1 : ∀ w ∈ L.filter goodWord, w.before args s = true) (h2 : ∀ w ∈ L.filter (fun w => !goodWord w), w ∈ B) (h3 : ∀ w ∈ B, w.before args s = true) : ∀ w ∈ L, w.before args s = true := by
  intro w hw
  by_cases g : goodWord w = true
  · exact h1 w (List.mem_filter.mpr ⟨hw, g⟩)
  · refine h3 w (h2 w (List.mem_filter.mpr ⟨hw, ?_⟩))
    show (!goodWord w) = true
    cases hgw : goodWord w
    · rfl
    · exact absurd hgw g
theorem vx_c {args : Array Value} {s : State} {w : Cond} {B : List Cond} (h : w.before args s = true) (t : ∀ w ∈ B, w.before args s = true) : ∀ w' ∈ w :: B, w'.before args s = true := fun w' h' => (List.mem_cons.mp h').elim (fun e => by rw [e]; exact h) (t w')
theorem vx_n {args : Array Value} {s : State} : ∀ w ∈ ([] : List Cond), w.before args s = true := fun _ h => nomatch h
theorem vx_own {args : Array Value} {s : State} {L : List Cond} (h1 : ∀ w ∈ L.filter vx_no, w.before args s = true)
    (hU : (Cond.isRef (.static Bundle.tN "UNASSIGNED_STACK" Bundle.steD)).before args s = true) (hN : (Cond.isRef (.static Bundle.tN "SUPPRESSED_SENTINEL" Bundle.listD)).before args s = true)
    (lU : (Cond.laysStatic Bundle.tN "UNASSIGNED_STACK" Bundle.steD).before args s = true) (lN : (Cond.laysStatic Bundle.tN "SUPPRESSED_SENTINEL" Bundle.listD).before args s = true) : ∀ w ∈ L, w.before args s = true := by
  intro w hw
  by_cases e1 : w = .isRef (.static Bundle.tN "UNASSIGNED_STACK" Bundle.steD)
  · rw [e1]; exact hU
  · by_cases e2 : w = .isRef (.static Bundle.tN "SUPPRESSED_SENTINEL" Bundle.listD)
    · rw [e2]; exact hN
    · by_cases e3 : w = .laysStatic Bundle.tN "UNASSIGNED_STACK" Bundle.steD
      · rw [e3]; exact lU
      · by_cases e4 : w = .laysStatic Bundle.tN "SUPPRESSED_SENTINEL" Bundle.listD
        · rw [e4]; exact lN
        · exact h1 w (List.mem_filter.mpr ⟨hw, by unfold vx_no; rw [decide_eq_true e1, decide_eq_true e2, decide_eq_true e3, decide_eq_true e4]; rfl⟩)
/-- where a static field lies, its class's statics cell in H -/
def vx_L (C n d : String) (A : Nat → Prop) (U : State) (H : Heap) : Prop := ∃ (c : ClassId) (k : Class) (i : Nat) (f : Field) (a : Nat) (cell : Cell), U.vm.findClass C = some c ∧ U.fieldFound? C n d = some (c, k, i, f) ∧ f.isStatic = true ∧ k.statics = some a ∧ H[a]? = some cell ∧ cell.vm.isStatics = true ∧ cell.cls = c ∧ f.slot < cell.slots.size ∧ k.staticTypes[f.slot]? = some f.type ∧ ¬ A a
theorem vx_L.moved {C n d : String} {A : Nat → Prop} {u U : State} {H : Heap} (hvm : u.vm.Alike U.vm) (h : vx_L C n d A u H) : vx_L C n d A U H := by
  obtain ⟨c, k, i, f, a, cell, h1, h2, h3, h4, h5, h6, h7, h8, h9, h10⟩ := h
  obtain ⟨k', hi', he⟩ := State.fieldFound?_setVm hvm h2
  exact ⟨c, k', i, f, a, cell, by rw [hvm.findClass]; exact h1, hi', h3, by rw [he]; exact h4, h5, h6, h7, h8, by rw [he]; exact h9, h10⟩
theorem vx_L.kept {C n d : String} {A : Nat → Prop} {U : State} {H H1 : Heap} (h : vx_L C n d A U H) (hq : ∀ a : Nat, a < H.size → ¬ A a → H1[a]? = H[a]?) : vx_L C n d A U H1 := by
  obtain ⟨c, k, i, f, a, cell, h1, h2, h3, h4, h5, h6, h7, h8, h9, h10⟩ := h
  exact ⟨c, k, i, f, a, cell, h1, h2, h3, h4, by rw [hq a (Array.getElem?_eq_some_iff.mp h5).1 h10]; exact h5, h6, h7, h8, h9, h10⟩
theorem vx_L.narrow {C n d : String} {A B : Nat → Prop} {U : State} {H : Heap} (h : vx_L C n d A U H) (hAB : ∀ q, B q → A q) : vx_L C n d B U H := by
  obtain ⟨c, k, i, f, a, cell, h1, h2, h3, h4, h5, h6, h7, h8, h9, h10⟩ := h
  exact ⟨c, k, i, f, a, cell, h1, h2, h3, h4, h5, h6, h7, h8, h9, fun z => h10 (hAB _ z)⟩
theorem vx_L.word {C n d : String} {A : Nat → Prop} {s : State} {args : Array Value} (h : vx_L C n d A s s.heap) : (Cond.laysStatic C n d).before args s = true := by
  obtain ⟨c, k, i, f, a, cell, h1, h2, h3, h4, h5, h6, h7, h8, h9, -⟩ := h
  show (Cond.laysStatic C n d).holds args s none s [] = true
  exact Cond.laysStatic_of h1 h2 h3 h4 h5 h6 h7 h8 h9
/-- .. and what it holds: null or some reference -/
def vx_Zq (C n d : String) (A : Nat → Prop) (U : State) (H : Heap) : Prop := va_Zq C n d A U H ∧ vx_L C n d A U H
theorem vx_Zq.moved {C n d : String} {A : Nat → Prop} {u U : State} {H : Heap} (hvm : u.vm.Alike U.vm) (h : vx_Zq C n d A u H) : vx_Zq C n d A U H := ⟨va_Zq.moved hvm h.1, vx_L.moved hvm h.2⟩
theorem vx_Zq.kept {C n d : String} {A : Nat → Prop} {U : State} {H H1 : Heap} (h : vx_Zq C n d A U H) (hq : ∀ a : Nat, a < H.size → ¬ A a → H1[a]? = H[a]?) : vx_Zq C n d A U H1 := ⟨va_Zq.kept h.1 hq, vx_L.kept h.2 hq⟩
theorem vx_Zq.narrow {C n d : String} {A B : Nat → Prop} {U : State} {H : Heap} (h : vx_Zq C n d A U H) (hAB : ∀ q, B q → A q) : vx_Zq C n d B U H := ⟨va_Zq.narrow h.1 hAB, vx_L.narrow h.2 hAB⟩
theorem vx_Zqof {args : Array Value} {s : State} {C n d : String} {A : Nat → Prop} (hl : (Cond.laysStatic C n d).before args s = true) (hini : (Cond.initialized C).before args s = true) (h : (Cond.isRef (.static C n d)).before args s = true) (hA : ∀ a : Nat, a < s.heap.size → ¬ A a) : vx_Zq C n d A s s.heap := by
  refine ⟨va_Zqof hl hini h hA, ?_⟩
  obtain ⟨c, k, i, f, a, cell, h1, h2, h3, h4, h5, h6, h7, h8, h9⟩ := Cond.laysStatic_spec hl
  exact ⟨c, k, i, f, a, cell, h1, h2, h3, h4, h5, h6, h7, h8, h9, hA a (Array.getElem?_eq_some_iff.mp h5).1⟩
theorem vx_isRef {C n d : String} {v : Value} {A : Nat → Prop} {s : State} {args : Array Value} (h : va_Z C n d v A s s.heap) (hv : v.isRef = true) : (Cond.isRef (.static C n d)).before args s = true := by
  obtain ⟨cf, kf, fi, f, a, cell, h1, h2, h3, h4, h5, h6, h7, -⟩ := h
  have he : (Term.static C n d).eval args s none [] s = some v := by
    simp [Term.eval, State.fieldNamed?, h1, h2, h4, h5, h6, h7]
  simp only [Cond.before, Cond.holds, Cond.value, he]
  cases v <;> simp_all [Value.isRef]
theorem vx_isRefq {C n d : String} {A : Nat → Prop} {s : State} {args : Array Value} (h : va_Zq C n d A s s.heap) : (Cond.isRef (.static C n d)).before args s = true := by
  rcases h with h | ⟨t, h⟩
  · exact vx_isRef h rfl
  · exact vx_isRef h rfl
/-- the same frame, seen from here: as if the method were called anew in this heap -/
theorem vx_rebase {T : State} (X : Stand p l e R s m args below meth c T locs cells slots) {R' : Room} (hf : R'.frames ≤ R.frames) (hl : R'.locals ≤ R.locals) (hc : cells + R'.cells ≤ R.cells) (hs : slots + R'.slots ≤ R.slots) :
    Stand p l e R' ((T.setVm s.vm).setFrames (.invoking m args :: below)) m args below meth c T [] 0 0 := by
  have htop : (T.setVm s.vm).topJava?.isSome := X.here.top
  have hF : ((T.setVm s.vm).setFrames (.invoking m args :: below)).frames = .invoking m args :: below := State.frames_setFrames _ (State.cur_lt_of_top htop)
  obtain ⟨g₀, hg0⟩ := Option.isSome_iff_exists.mp htop
  obtain ⟨r, hr⟩ := State.topJava?_eq_some.mp hg0
  have hl9 : e.platform.stackLimits (T.setVm s.vm).me = e.platform.stackLimits s.me := X.limits
  have hb9 : (T.setVm s.vm).me.stackBytes = s.me.stackBytes := X.bytes
  refine ⟨X.admits, X.cas, X.clock, hF, ?_, X.hears, X.method, X.code, X.here, X.tail, X.warmed, ?_, ?_, ?_⟩
  · have h := X.room
    have hU : ((T.setVm s.vm).setFrames (.invoking m args :: below)).localsInUse = s.localsInUse := by
      rw [State.localsInUse_invoking hF (meth := meth) (c := c) X.method X.code, State.localsInUse_invoking X.frames X.method X.code]
    simp only [State.hasRoom, Bool.and_eq_true, decide_eq_true_eq] at h ⊢
    obtain ⟨⟨⟨⟨h1, h2, h3, h4, h5, h6⟩, h7⟩, h8⟩, h9⟩ := h
    rw [X.frames, List.length_cons] at h2 h3
    have q1 := X.heapSize
    have q2 := X.used
    simp only [hF, hU, List.length_cons, State.stackLimits_setFrames, State.stackBytes_setFrames, hl9, hb9]
    refine ⟨⟨⟨⟨by omega, by omega, by omega, by omega, by omega, h6⟩, ?_⟩, ?_⟩, X.book⟩
    · show T.heap.size + R'.cells ≤ e.platform.maxCells
      omega
    · show T.slotsUsed + R'.slots ≤ e.platform.maxSlots
      omega
  · rw [State.stackLimits_setFrames]; rfl
  · rw [State.stackBytes_setFrames]; rfl
  · refine ⟨?_, Nat.le_refl _, Nat.le_refl _, ?_, ?_, fun a c9 h9 => ⟨c9, h9, rfl, rfl, fun _ _ => rfl⟩⟩
    · obtain ⟨t, ht, -⟩ := State.frames_cons hr
      show T.setVm s.vm = { ((T.setVm s.vm).setFrames (.invoking m args :: below)).setFrames (T.setVm s.vm).frames with heap := T.heap, slotsUsed := T.slotsUsed }
      rw [State.setFrames_setFrames, State.setFrames_self ht]
      rfl
    · show T.slotsUsed = T.slotsUsed + ((T.heap.toList.drop T.heap.size).map (·.slots.size)).sum
      rw [List.drop_eq_nil_of_le (Nat.le_of_eq Array.length_toList)]
      rfl
    · show ((T.heap.toList.drop T.heap.size).map (·.slots.size)).sum ≤ 0
      rw [List.drop_eq_nil_of_le (Nat.le_of_eq Array.length_toList)]
      exact Nat.le_refl _
/-- 'throw new E()': new; dup; invokespecial; athrow -/
theorem vx_throw0 {cc : ByteArray} {pc : Nat} (hexec : p.tables.exec = Jvm.exec) (hb : c.code = cc) (hl : l.stackTraces = false) {own cls : String} {names : List String} {ik ic mc ms : Nat} {A : Nat → Prop}
    (hown : s.vm.findClass own = some m.cls) (hcls : Bundle.fit cls = true) (hnames : ∀ n ∈ names, Bundle.fit n = true)
    (hk : (Cond.classLink own ik cls).before args s = true) (hini : (Cond.initialized cls).before args s = true) (hat : ∀ w ∈ vx_at0 own ic cls names, w.before args s = true)
    (hgood : ∀ w ∈ Cond.classLink own ik cls :: Cond.initialized cls :: vx_at0 own ic cls names, vx_ot w = true)
    (hU : vx_Zq Bundle.tN "UNASSIGNED_STACK" Bundle.steD A s s.heap) (hN : vx_Zq Bundle.tN "SUPPRESSED_SENTINEL" Bundle.listD A s s.heap) (hS : va_S A s.heap H locs) (hsize : ls.size = c.maxLocals)
    (d0 : decode cc pc = .ok (.new ik, 3)) (d3 : decode cc (pc + 3) = .ok (.dup, 1)) (d4 : decode cc (pc + 4) = .ok (.invokespecial ic, 3)) (d7 : decode cc (pc + 7) = .ok (.athrow, 1))
    (hout : ∀ x ∈ c.exceptionTable.toList, covers x (pc + 7) = false)
    (hRframes : names.length + 3 < R.frames) (hRlocals : (rest.map fun v => v.category).sum + (13 * (names.length + 1) + 42) ≤ R.locals) (hRcells : cells + 1 ≤ R.cells) (hRslots : slots + 6 ≤ R.slots) (hlocks : meth.locks = false)
    (hx : ∀ t : State, s.vm.Alike t.vm → H.size ≤ t.heap.size → (∀ q : Nat, q < H.size → t.heap[q]? = H[q]?) → XC cls s t)
    (hf : ∀ z ∈ locs, free z.base) (hc : cells + 1 ≤ mc) (hs : slots + 6 ≤ ms) :
    W p l e R s m args below meth c H locs cells slots (vx_MQ below Qc XC args s mc ms free) (F0 m pc ls rest) := by
  intro T hT X
  have htr : e.platform.stackTraces = false := (show e.platform.stackTraces = l.stackTraces by rw [X.admits.platform]).trans hl
  have Y := vx_rebase X (R' := { frames := R.frames, locals := R.locals, cells := 1, slots := 6 }) (Nat.le_refl _) (Nat.le_refl _) hRcells hRslots
  obtain ⟨s', hA⟩ : ∃ z, z = (T.setVm s.vm).setFrames (.invoking m args :: below) := ⟨_, rfl⟩
  rw [← hA] at Y
  have hvm : s'.vm = s.vm := by rw [hA]; rfl
  have hhp : s'.heap = H := by rw [hA]; exact hT
  have hW0 : s.WarmedH s'.vm := by rw [hvm]; exact State.WarmedH.refl s
  have hat' : ∀ w ∈ vx_at0 own ic cls names, w.before args s' = true := fun w hw => vx_ot_at hW0 hvm.symm (hgood w (List.mem_cons_of_mem _ (List.mem_cons_of_mem _ hw))) (hat w hw)
  have hk' : (Cond.classLink own ik cls).before args s' = true := vx_ot_at hW0 hvm.symm (hgood _ List.mem_cons_self) hk
  have hini' : (Cond.initialized cls).before args s' = true := vx_ot_at hW0 hvm.symm (hgood _ (List.mem_cons_of_mem _ List.mem_cons_self)) hini
  have hU' : vx_Zq Bundle.tN "UNASSIGNED_STACK" Bundle.steD A s' s'.heap := by rw [hhp]; exact vx_Zq.moved hW0.alike (hU.kept hS.2.1)
  have hN' : vx_Zq Bundle.tN "SUPPRESSED_SENTINEL" Bundle.listD A s' s'.heap := by rw [hhp]; exact vx_Zq.moved hW0.alike (hN.kept hS.2.1)
  have h : ∀ w ∈ Bundle.ownAtoms0 own ic cls names, w.before args s' = true := vx_own hat' (vx_isRefq hU'.1) (vx_isRefq hN'.1) hU'.2.word hN'.2.word
  have hown' : s'.vm.findClass own = some m.cls := by rw [hvm]; exact hown
  have hins : (Cond.instantiable cls 6).before args s' = true := h _ (by simp [Bundle.ownAtoms0])
  obtain ⟨vm₁, cX, kX, hfX, hkX, -, -, X₁, st1⟩ := Y.newCold hexec (own := own) (C := cls) (index := ik) (n := 6) hown' hk' hins hini'
    (g := F0 m pc ls rest) rfl (by rw [hb]; exact d0) (Nat.le_refl _) (Nat.le_refl _)
  generalize hT1 : (T.setVm vm₁).pushCell { cls := cX, slots := kX.instanceTypes.map defaultValue, vm := .none } = T1 at X₁ st1
  have hcat : (Value.ref T.heap.size).category = 1 := rfl
  have hcellA : T1.heap[T.heap.size]? = some (freshCell cX kX) := by rw [← hT1]; exact State.heap_pushCell_size _ _
  have d3' : decode c.code (pc + 3) = .ok (.dup, 1) := by rw [hb]; exact d3
  obtain ⟨U, hsteps, hrun, hend, hW, hsame, ce, hce, hO⟩ := X₁.ctorThrow0 hexec htr (own := own) (cls := cls) (names := names) (ic := ic) hown' hcls hnames h (fun x hx => nomatch hx) hfX hkX hcellA (by rw [hhp, hT]; exact Nat.le_refl _)
    (g := { method := m, pc := pc + 4, locals := ls, stack := .ref T.heap.size :: .ref T.heap.size :: rest, locked := none }) rfl hsize rfl rfl (rest := rest) rfl
    (by rw [hb]; exact d4) (by rw [hb]; exact d7) hout hRframes (by simp only [List.map_cons, List.sum_cons, hcat]; omega) hlocks
  obtain ⟨f1, f2⟩ := vx_frame hsame
  rw [hhp] at f1 f2
  have hWs : s.WarmedH U.vm := State.WarmedH.trans hW0 hW
  have hcl : s.vm.findClass cls = some ce.cls := by
    have h9 := hO.cls
    rw [hvm] at h9
    exact h9
  have hall : s.sameButNew ({ U with vm := s.vm } : State) locs mc ms := by
    subst hA
    obtain ⟨e1, e2⟩ := hsame
    rw [State.setFrames_setFrames] at e1
    have h2 : (T.setVm s.vm).sameButNew ({ U with vm := s.vm } : State) [] (0 + 1) (0 + 6) := ⟨e1, e2⟩
    have h3 := X.same.trans h2
    rw [List.append_nil] at h3
    exact h3.mono hc hs
  refine ⟨U, ?_, .threw T.heap.size, hrun, hend, Or.inr ⟨T.heap.size, rfl, cls, ce, locs, hx U hWs.alike f1 (fun q hq => f2 q hq (fun z hz => nomatch hz)), hce, hO.vm, hcl, hWs, hall, hf⟩⟩
  refine st1 _ ?_
  show Steps p.tables e below (T1.setTop { method := m, pc := pc + 3, locals := ls, stack := .ref T.heap.size :: rest, locked := none }) _
  jvm_step X₁.here [X₁.here.top, hexec, d3', Value.category]
  exact hsteps
/-- 'throw new E("text")': new; dup; ldc; invokespecial; athrow -/
theorem vx_throwS {cc : ByteArray} {pc : Nat} (hexec : p.tables.exec = Jvm.exec) (hb : c.code = cc) (hl : l.stackTraces = false) {own cls text : String} {names : List String} {ik is ic mc ms sa : Nat} {A : Nat → Prop}
    (hown : s.vm.findClass own = some m.cls) (hcls : Bundle.fit cls = true) (hnames : ∀ n ∈ names, Bundle.fit n = true)
    (hk : (Cond.classLink own ik cls).before args s = true) (hini : (Cond.initialized cls).before args s = true) (hstr : vk_R own is text sa s) (hat : ∀ w ∈ vx_atS own ic cls names, w.before args s = true)
    (hgood : ∀ w ∈ Cond.classLink own ik cls :: Cond.initialized cls :: vx_atS own ic cls names, vx_ot w = true)
    (hU : vx_Zq Bundle.tN "UNASSIGNED_STACK" Bundle.steD A s s.heap) (hN : vx_Zq Bundle.tN "SUPPRESSED_SENTINEL" Bundle.listD A s s.heap) (hS : va_S A s.heap H locs) (hsize : ls.size = c.maxLocals)
    (d0 : decode cc pc = .ok (.new ik, 3)) (d3 : decode cc (pc + 3) = .ok (.dup, 1)) (d4 : decode cc (pc + 4) = .ok (.ldc is, 2)) (d6 : decode cc (pc + 6) = .ok (.invokespecial ic, 3)) (d9 : decode cc (pc + 9) = .ok (.athrow, 1))
    (hout : ∀ x ∈ c.exceptionTable.toList, covers x (pc + 9) = false)
    (hRframes : names.length + 3 < R.frames) (hRlocals : (rest.map fun v => v.category).sum + (13 * (names.length + 1) + 43) ≤ R.locals) (hRcells : cells + 1 ≤ R.cells) (hRslots : slots + 6 ≤ R.slots) (hlocks : meth.locks = false)
    (hx : ∀ t : State, s.vm.Alike t.vm → H.size ≤ t.heap.size → (∀ q : Nat, q < H.size → t.heap[q]? = H[q]?) → XC cls s t)
    (hf : ∀ z ∈ locs, free z.base) (hc : cells + 1 ≤ mc) (hs : slots + 6 ≤ ms) :
    W p l e R s m args below meth c H locs cells slots (vx_MQ below Qc XC args s mc ms free) (F0 m pc ls rest) := by
  intro T hT X
  have htr : e.platform.stackTraces = false := (show e.platform.stackTraces = l.stackTraces by rw [X.admits.platform]).trans hl
  have Y := vx_rebase X (R' := { frames := R.frames, locals := R.locals, cells := 1, slots := 6 }) (Nat.le_refl _) (Nat.le_refl _) hRcells hRslots
  obtain ⟨s', hA⟩ : ∃ z, z = (T.setVm s.vm).setFrames (.invoking m args :: below) := ⟨_, rfl⟩
  rw [← hA] at Y
  have hvm : s'.vm = s.vm := by rw [hA]; rfl
  have hhp : s'.heap = H := by rw [hA]; exact hT
  have hW0 : s.WarmedH s'.vm := by rw [hvm]; exact State.WarmedH.refl s
  have hat' : ∀ w ∈ vx_atS own ic cls names, w.before args s' = true := fun w hw => vx_ot_at hW0 hvm.symm (hgood w (List.mem_cons_of_mem _ (List.mem_cons_of_mem _ hw))) (hat w hw)
  have hk' : (Cond.classLink own ik cls).before args s' = true := vx_ot_at hW0 hvm.symm (hgood _ List.mem_cons_self) hk
  have hini' : (Cond.initialized cls).before args s' = true := vx_ot_at hW0 hvm.symm (hgood _ (List.mem_cons_of_mem _ List.mem_cons_self)) hini
  have hU' : vx_Zq Bundle.tN "UNASSIGNED_STACK" Bundle.steD A s' s'.heap := by rw [hhp]; exact vx_Zq.moved hW0.alike (hU.kept hS.2.1)
  have hN' : vx_Zq Bundle.tN "SUPPRESSED_SENTINEL" Bundle.listD A s' s'.heap := by rw [hhp]; exact vx_Zq.moved hW0.alike (hN.kept hS.2.1)
  have h : ∀ w ∈ Bundle.ownAtoms own ic cls names, w.before args s' = true := vx_own hat' (vx_isRefq hU'.1) (vx_isRefq hN'.1) hU'.2.word hN'.2.word
  have hown' : s'.vm.findClass own = some m.cls := by rw [hvm]; exact hown
  have hins : (Cond.instantiable cls 6).before args s' = true := h _ (by simp [Bundle.ownAtoms])
  obtain ⟨vm₁, cX, kX, hfX, hkX, -, -, X₁, st1⟩ := Y.newCold hexec (own := own) (C := cls) (index := ik) (n := 6) hown' hk' hins hini'
    (g := F0 m pc ls rest) rfl (by rw [hb]; exact d0) (Nat.le_refl _) (Nat.le_refl _)
  generalize hT1 : (T.setVm vm₁).pushCell { cls := cX, slots := kX.instanceTypes.map defaultValue, vm := .none } = T1 at X₁ st1
  have hcat : (Value.ref T.heap.size).category = 1 := rfl
  have hcellA : T1.heap[T.heap.size]? = some (freshCell cX kX) := by rw [← hT1]; exact State.heap_pushCell_size _ _
  have d3' : decode c.code (pc + 3) = .ok (.dup, 1) := by rw [hb]; exact d3
  have d4' : decode c.code (pc + 4) = .ok (.ldc is, 2) := by rw [hb]; exact d4
  have hstr' : vk_R own is text sa s' := vk_R.warm hW0 hstr
  obtain ⟨U, hsteps, hrun, hend, hW, hsame, ce, hce, hO⟩ := X₁.ctorThrowS hexec htr (own := own) (cls := cls) (names := names) (ic := ic) hown' hcls hnames h (fun x hx => nomatch hx) hfX hkX hcellA (by rw [hhp, hT]; exact Nat.le_refl _) (msg := .ref sa) rfl
    (g := { method := m, pc := pc + 6, locals := ls, stack := .ref sa :: .ref T.heap.size :: .ref T.heap.size :: rest, locked := none }) rfl hsize rfl rfl (rest := rest) rfl
    (by rw [hb]; exact d6) (by rw [hb]; exact d9) hout hRframes (by simp only [List.map_cons, List.sum_cons, hcat]; omega) hlocks
  obtain ⟨f1, f2⟩ := vx_frame hsame
  rw [hhp] at f1 f2
  have hWs : s.WarmedH U.vm := State.WarmedH.trans hW0 hW
  have hcl : s.vm.findClass cls = some ce.cls := by
    have h9 := hO.cls
    rw [hvm] at h9
    exact h9
  have hall : s.sameButNew ({ U with vm := s.vm } : State) locs mc ms := by
    subst hA
    obtain ⟨e1, e2⟩ := hsame
    rw [State.setFrames_setFrames] at e1
    have h2 : (T.setVm s.vm).sameButNew ({ U with vm := s.vm } : State) [] (0 + 1) (0 + 6) := ⟨e1, e2⟩
    have h3 := X.same.trans h2
    rw [List.append_nil] at h3
    exact h3.mono hc hs
  refine ⟨U, ?_, .threw T.heap.size, hrun, hend, Or.inr ⟨T.heap.size, rfl, cls, ce, locs, hx U hWs.alike f1 (fun q hq => f2 q hq (fun z hz => nomatch hz)), hce, hO.vm, hcl, hWs, hall, hf⟩⟩
  refine st1 _ ?_
  show Steps p.tables e below (T1.setTop { method := m, pc := pc + 3, locals := ls, stack := .ref T.heap.size :: rest, locked := none }) _
  jvm_step X₁.here [X₁.here.top, hexec, d3', Value.category]
  exact X₁.ldcString hexec (own := own) (text := text) (index := is) (a := sa) hown' hstr'.1 hstr'.2
    (g := { method := m, pc := pc + 4, locals := ls, stack := .ref T.heap.size :: .ref T.heap.size :: rest, locked := none }) rfl d4' _ hsteps
/-- 'throw new E("text")', the text by a wide index -/
theorem vx_throwSW {cc : ByteArray} {pc : Nat} (hexec : p.tables.exec = Jvm.exec) (hb : c.code = cc) (hl : l.stackTraces = false) {own cls text : String} {names : List String} {ik is ic mc ms sa : Nat} {A : Nat → Prop}
    (hown : s.vm.findClass own = some m.cls) (hcls : Bundle.fit cls = true) (hnames : ∀ n ∈ names, Bundle.fit n = true)
    (hk : (Cond.classLink own ik cls).before args s = true) (hini : (Cond.initialized cls).before args s = true) (hstr : vk_R own is text sa s) (hat : ∀ w ∈ vx_atS own ic cls names, w.before args s = true)
    (hgood : ∀ w ∈ Cond.classLink own ik cls :: Cond.initialized cls :: vx_atS own ic cls names, vx_ot w = true)
    (hU : vx_Zq Bundle.tN "UNASSIGNED_STACK" Bundle.steD A s s.heap) (hN : vx_Zq Bundle.tN "SUPPRESSED_SENTINEL" Bundle.listD A s s.heap) (hS : va_S A s.heap H locs) (hsize : ls.size = c.maxLocals)
    (d0 : decode cc pc = .ok (.new ik, 3)) (d3 : decode cc (pc + 3) = .ok (.dup, 1)) (d4 : decode cc (pc + 4) = .ok (.ldc_w is, 3)) (d7 : decode cc (pc + 7) = .ok (.invokespecial ic, 3)) (d10 : decode cc (pc + 10) = .ok (.athrow, 1))
    (hout : ∀ x ∈ c.exceptionTable.toList, covers x (pc + 10) = false)
    (hRframes : names.length + 3 < R.frames) (hRlocals : (rest.map fun v => v.category).sum + (13 * (names.length + 1) + 43) ≤ R.locals) (hRcells : cells + 1 ≤ R.cells) (hRslots : slots + 6 ≤ R.slots) (hlocks : meth.locks = false)
    (hx : ∀ t : State, s.vm.Alike t.vm → H.size ≤ t.heap.size → (∀ q : Nat, q < H.size → t.heap[q]? = H[q]?) → XC cls s t)
    (hf : ∀ z ∈ locs, free z.base) (hc : cells + 1 ≤ mc) (hs : slots + 6 ≤ ms) :
    W p l e R s m args below meth c H locs cells slots (vx_MQ below Qc XC args s mc ms free) (F0 m pc ls rest) := by
  intro T hT X
  have htr : e.platform.stackTraces = false := (show e.platform.stackTraces = l.stackTraces by rw [X.admits.platform]).trans hl
  have Y := vx_rebase X (R' := { frames := R.frames, locals := R.locals, cells := 1, slots := 6 }) (Nat.le_refl _) (Nat.le_refl _) hRcells hRslots
  obtain ⟨s', hA⟩ : ∃ z, z = (T.setVm s.vm).setFrames (.invoking m args :: below) := ⟨_, rfl⟩
  rw [← hA] at Y
  have hvm : s'.vm = s.vm := by rw [hA]; rfl
  have hhp : s'.heap = H := by rw [hA]; exact hT
  have hW0 : s.WarmedH s'.vm := by rw [hvm]; exact State.WarmedH.refl s
  have hat' : ∀ w ∈ vx_atS own ic cls names, w.before args s' = true := fun w hw => vx_ot_at hW0 hvm.symm (hgood w (List.mem_cons_of_mem _ (List.mem_cons_of_mem _ hw))) (hat w hw)
  have hk' : (Cond.classLink own ik cls).before args s' = true := vx_ot_at hW0 hvm.symm (hgood _ List.mem_cons_self) hk
  have hini' : (Cond.initialized cls).before args s' = true := vx_ot_at hW0 hvm.symm (hgood _ (List.mem_cons_of_mem _ List.mem_cons_self)) hini
  have hU' : vx_Zq Bundle.tN "UNASSIGNED_STACK" Bundle.steD A s' s'.heap := by rw [hhp]; exact vx_Zq.moved hW0.alike (hU.kept hS.2.1)
  have hN' : vx_Zq Bundle.tN "SUPPRESSED_SENTINEL" Bundle.listD A s' s'.heap := by rw [hhp]; exact vx_Zq.moved hW0.alike (hN.kept hS.2.1)
  have h : ∀ w ∈ Bundle.ownAtoms own ic cls names, w.before args s' = true := vx_own hat' (vx_isRefq hU'.1) (vx_isRefq hN'.1) hU'.2.word hN'.2.word
  have hown' : s'.vm.findClass own = some m.cls := by rw [hvm]; exact hown
  have hins : (Cond.instantiable cls 6).before args s' = true := h _ (by simp [Bundle.ownAtoms])
  obtain ⟨vm₁, cX, kX, hfX, hkX, -, -, X₁, st1⟩ := Y.newCold hexec (own := own) (C := cls) (index := ik) (n := 6) hown' hk' hins hini'
    (g := F0 m pc ls rest) rfl (by rw [hb]; exact d0) (Nat.le_refl _) (Nat.le_refl _)
  generalize hT1 : (T.setVm vm₁).pushCell { cls := cX, slots := kX.instanceTypes.map defaultValue, vm := .none } = T1 at X₁ st1
  have hcat : (Value.ref T.heap.size).category = 1 := rfl
  have hcellA : T1.heap[T.heap.size]? = some (freshCell cX kX) := by rw [← hT1]; exact State.heap_pushCell_size _ _
  have d3' : decode c.code (pc + 3) = .ok (.dup, 1) := by rw [hb]; exact d3
  have d4' : decode c.code (pc + 4) = .ok (.ldc_w is, 3) := by rw [hb]; exact d4
  have hstr' : vk_R own is text sa s' := vk_R.warm hW0 hstr
  obtain ⟨U, hsteps, hrun, hend, hW, hsame, ce, hce, hO⟩ := X₁.ctorThrowS hexec htr (own := own) (cls := cls) (names := names) (ic := ic) hown' hcls hnames h (fun x hx => nomatch hx) hfX hkX hcellA (by rw [hhp, hT]; exact Nat.le_refl _) (msg := .ref sa) rfl
    (g := { method := m, pc := pc + 7, locals := ls, stack := .ref sa :: .ref T.heap.size :: .ref T.heap.size :: rest, locked := none }) rfl hsize rfl rfl (rest := rest) rfl
    (by rw [hb]; exact d7) (by rw [hb]; exact d10) hout hRframes (by simp only [List.map_cons, List.sum_cons, hcat]; omega) hlocks
  obtain ⟨f1, f2⟩ := vx_frame hsame
  rw [hhp] at f1 f2
  have hWs : s.WarmedH U.vm := State.WarmedH.trans hW0 hW
  have hcl : s.vm.findClass cls = some ce.cls := by
    have h9 := hO.cls
    rw [hvm] at h9
    exact h9
  have hall : s.sameButNew ({ U with vm := s.vm } : State) locs mc ms := by
    subst hA
    obtain ⟨e1, e2⟩ := hsame
    rw [State.setFrames_setFrames] at e1
    have h2 : (T.setVm s.vm).sameButNew ({ U with vm := s.vm } : State) [] (0 + 1) (0 + 6) := ⟨e1, e2⟩
    have h3 := X.same.trans h2
    rw [List.append_nil] at h3
    exact h3.mono hc hs
  refine ⟨U, ?_, .threw T.heap.size, hrun, hend, Or.inr ⟨T.heap.size, rfl, cls, ce, locs, hx U hWs.alike f1 (fun q hq => f2 q hq (fun z hz => nomatch hz)), hce, hO.vm, hcl, hWs, hall, hf⟩⟩
  refine st1 _ ?_
  show Steps p.tables e below (T1.setTop { method := m, pc := pc + 3, locals := ls, stack := .ref T.heap.size :: rest, locked := none }) _
  jvm_step X₁.here [X₁.here.top, hexec, d3', Value.category]
  exact X₁.ldcStringW hexec (own := own) (text := text) (index := is) (a := sa) hown' hstr'.1 hstr'.2
    (g := { method := m, pc := pc + 4, locals := ls, stack := .ref T.heap.size :: .ref T.heap.size :: rest, locked := none }) rfl d4' _ hsteps
end Ends
section Bodies
variable {l : Launch}
theorem vx_ofW {y : MethodName} {ws ws' : List Cond} {rm : Room} {Pc : Array Value → State → Prop} {Qc : Array Value → State → Outcome → State → Prop} {XC : String → State → State → Prop} {mc ms : Nat} {free : Addr → Prop} {cc : ByteArray} {maxL : Nat} {ret : Option FieldType}
    (hy : plainName y.cls = true) (hw : ws = Cond.code y cc maxL ret :: ws')
    (body : ∀ p e s m args below meth c s₁, BodyLoose p l y (headSpec ws rm) cc maxL ret e s m args below meth c s₁ → c.maxLocals = maxL → (∀ x ∈ c.exceptionTable.toList, False) → Pc args s →
      W p l e (headSpec ws rm).room s m args below meth c s.heap [] 0 0 (vx_MQ below Qc XC args s mc ms free) (entryFrame m args maxL)) : vx_Met l y ws rm Pc Qc XC mc ms free := by
  refine MetFree.of_bodyS (code := cc) (maxLocals := maxL) (ret := ret) hy ?_ ?_
  · intro args s m h hn
    obtain ⟨meth, c, h1, h2, h3, h4, h5, h6, -, -⟩ := Cond.code_spec hn (atoms_spec (ws := ws) h _ (by rw [hw]; exact List.mem_cons_self))
    exact ⟨meth, c, h1, h2, h3, h4, h5, h6⟩
  · intro p e s m args below meth c s₁ B hml hP _
    have hh0 : s₁.heap = s.heap := by rw [B.state]; rfl
    have ht : ∀ x ∈ c.exceptionTable.toList, False := by
      obtain ⟨meth9, c9, h1, h2, -, -, -, -, h7, -⟩ := Cond.code_spec B.named (atoms_spec (ws := ws) B.pre _ (by rw [hw]; exact List.mem_cons_self))
      cases Option.some.inj (h1.symm.trans B.method)
      cases Option.some.inj (h2.symm.trans (Stand.of_body B).code)
      intro x hx
      rw [Array.isEmpty_iff.mp h7] at hx
      cases hx
    obtain ⟨t, a1, o, b1, b2, b3⟩ := body p e s m args below meth c s₁ B hml ht hP s₁ hh0 (Stand.of_body B)
    exact ⟨t, o, a1, b1, b2, b3⟩
/-- the table of a body with handlers -/
theorem vx_table {p : Program} {x y : MethodName} {S : Spec} {cc bytes : ByteArray} {maxL maxL' : Nat} {ret ret' : Option FieldType} {e : Env} {s s₁ : State} {m : MethodId} {args : Array Value} {below : List Frame} {meth : Method} {c : Code} {hh : List (Nat × Nat × Nat × Nat)}
    (B : BodyLoose p l y S cc maxL ret e s m args below meth c s₁) (h : (Cond.codeWith y bytes maxL' ret' hh).before args s = true) : c.exceptionTable.toList = tableOf hh := by
  obtain ⟨m9, meth9, c9, hn9, h1, h2, -, -, h6, -⟩ := Cond.codeWith_spec h
  cases Option.some.inj (hn9.symm.trans B.named)
  cases Option.some.inj (h1.symm.trans B.method)
  cases Option.some.inj (h2.symm.trans (Stand.of_body B).code)
  rw [← h6, table_eq]
end Bodies
end VXA
/-! ===== END ===== -/
/-! ===== BEGIN a static call of a method with an exception table ===== -/
section VXS
variable {p : Program} {l : Launch} {e : Env} {R : Room} {s : State} {m : MethodId} {args : Array Value} {below : List Frame} {meth : Method} {c : Code} {T : State} {H : Heap} {locs : List Loc} {cells slots : Nat}
abbrev vx_CSW (R : Room) (s : State) (args : Array Value) (own : String) (index : Nat) (y : MethodName) (bytes : ByteArray) (maxL : Nat) (ret : Option FieldType) (hh : List (Nat × Nat × Nat × Nat)) (ws : List Cond) (rm : Room) (mc ms n : Nat) : Prop :=
  (rm.cells = mc ∧ rm.slots = ms ∧ rm.frames + 1 ≤ R.frames ∧ 8 + (maxL + 11) + rm.locals ≤ R.locals ∧ (∀ w ∈ ws, ∀ (a' : Array Value) (U : State), s.WarmedH U.vm → w.before a' U = true) ∧ Cond.codeWith y bytes maxL ret hh ∈ ws) ∧
  (Cond.codeWith y bytes maxL ret hh).before args s = true ∧ (Cond.initialized y.cls).before args s = true ∧ (y.cls ≠ "java/lang/invoke/MethodHandle" ∧ y.cls ≠ "java/lang/invoke/VarHandle") ∧
  (∀ sig, parseMethodDescriptor y.desc = some sig → n = sig.parameters.length) ∧ (Cond.methodLink own index y).before args s = true ∧ (Cond.static y).before args s = true
theorem vx_cwSW {own : String} {index maxL mc ms : Nat} {y : MethodName} {bytes : ByteArray} {ret : Option FieldType} {hh : List (Nat × Nat × Nat × Nat)} {Ts ws ws' : List Cond} {rm : Room} (n : Nat) (ht : ∀ w ∈ Ts, w.before args s = true) (hT : GoodIn Ts (va_wsS own index y ws)) (hw : ws = Cond.codeWith y bytes maxL ret hh :: ws') (hrc : rm.cells = mc) (hrs : rm.slots = ms)
    (hd : y.cls ≠ "java/lang/invoke/MethodHandle" ∧ y.cls ≠ "java/lang/invoke/VarHandle" ∧ (parseMethodDescriptor y.desc).map (fun d => d.parameters.length) = some n) (hR : rm.frames + 1 ≤ R.frames ∧ 8 + (maxL + 11) + rm.locals ≤ R.locals) :
    vx_CSW R s args own index y bytes maxL ret hh ws rm mc ms n := by
  have ok : ∀ w ∈ va_wsS own index y ws, w.before args s = true := fun w h => ht w (hT w h).1
  have hG : GoodIn Ts ws := fun w h => hT w (by unfold va_wsS; exact List.mem_append_right _ h)
  have hc : Cond.codeWith y bytes maxL ret hh ∈ ws := by rw [hw]; exact List.mem_cons_self
  refine ⟨⟨hrc, hrs, hR.1, hR.2, pay_in ht hG, hc⟩, ht _ (hG _ hc).1, ok _ (by simp [va_wsS]), ⟨hd.1, hd.2.1⟩, fun sig h => ?_, ok _ (by simp [va_wsS]), ok _ (by simp [va_wsS])⟩
  have h2 := hd.2.2
  rw [h] at h2
  exact (Option.some.inj h2).symm
theorem vx_callSW (X : Stand p l e R s m args below meth c T locs cells slots) (hexec : p.tables.exec = Jvm.exec) {own : String} {index : Nat} {y : MethodName} {bytes : ByteArray} {maxL : Nat} {ret : Option FieldType} {hh : List (Nat × Nat × Nat × Nat)}
    (hown : s.vm.findClass own = some m.cls) (hlink : (Cond.methodLink own index y).before args s = true) (hstat : (Cond.static y).before args s = true) (hinit : (Cond.initialized y.cls).before args s = true)
    (hcode : (Cond.codeWith y bytes maxL ret hh).before args s = true) (hy : y.cls ≠ "java/lang/invoke/MethodHandle" ∧ y.cls ≠ "java/lang/invoke/VarHandle")
    {W9 : Nat} {Pre : Pt → Array Value → Prop} {Post : Pt → Array Value → Option Value → Pt → Prop} (hK : Back l R p e below s args y 3 W9 Pre Post)
    {g : JFrame} (hg : g.method = m) (hsize : g.locals.size = c.maxLocals) {argsL rest : List Value} (hlen : ∀ sig, parseMethodDescriptor y.desc = some sig → argsL.length = sig.parameters.length)
    (hstack : g.stack = argsL.reverse ++ rest) (hW : 2 * g.monitorRoom + (rest.map fun v => v.category).sum ≤ W9) (hdg : decode c.code g.pc = .ok (.invokestatic index, 3))
    (hpre : ∀ vm₁, s.WarmedH vm₁ → Pre ⟨T.setVm vm₁, locs, cells, slots⟩ argsL.toArray) :
    ∃ (v : Option Value) (vm₁ : Vm) (B : Pt), s.WarmedH vm₁ ∧ Stand p l e R s m args below meth c B.U B.locs B.cells B.slots ∧ Post ⟨T.setVm vm₁, locs, cells, slots⟩ argsL.toArray v B ∧
      ∀ target, Steps p.tables e below (B.U.setTop { g with pc := g.pc + 3, stack := v.toList ++ rest }) target → Steps p.tables e below (T.setTop g) target := by
  obtain ⟨mk, methM, cM, hnamed, hmethM, -, -, -, -, -, -, hsigM⟩ := Cond.codeWith_spec hcode
  have hstatic : methM.isStatic = true := Cond.static_spec hnamed hmethM hstat
  obtain ⟨kP, hkP, -⟩ := className_of_methodNamed hnamed
  have hinitP : kP.init = .initialized := Cond.initialized_spec (findClass_of_methodNamed hnamed) hkP hinit
  obtain ⟨vm₁, X₁, hstep₁⟩ := X.invokestatic hexec hown hlink hnamed hmethM hstatic hkP hinitP hy (g := g) hg (argsL := argsL) (rest := rest) (hlen _ hsigM) hstack hdg
  obtain ⟨v, B, X', hpost, hsteps⟩ := hK m meth c ⟨T.setVm vm₁, locs, cells, slots⟩ { g with stack := rest } (.invokestatic index) mk argsL.toArray X₁ hg hsize hdg hW (X₁.named hnamed) (hpre vm₁ X₁.warmed)
  exact ⟨v, vm₁, B, X₁.warmed, X', hpost, fun target h => hstep₁ _ fun acts => by rw [doInvoke_state]; exact hsteps.trans h⟩
theorem vx_runSW {y : MethodName} {bytes cc : ByteArray} {maxL nL mc ms n index : Nat} {ret : Option FieldType} {hh : List (Nat × Nat × Nat × Nat)} {ws : List Cond} {rm : Room} {Pc : Array Value → State → Prop} {Qc : Array Value → State → Outcome → State → Prop} {free : Addr → Prop} {Ts : List Cond} {own : String} {As rest : List Value} {g : JFrame}
    (S : CallFix p m c cc nL s args Ts own) (hM : Met l y ws rm Pc Qc mc ms free) (cw : vx_CSW R s args own index y bytes maxL ret hh ws rm mc ms n) (hp : PreS s H Pc As)
    (hg : g.method = m) (hn : As.length = n) (hsize : g.locals.size = nL) (hstack : g.stack = As.reverse ++ rest) (hW : 2 * g.monitorRoom + (rest.map fun v => v.category).sum ≤ 8) (hdg : decode cc g.pc = .ok (.invokestatic index, 3)) (hf : cells + mc ≤ R.cells ∧ slots + ms ≤ R.slots) :
    va_Run p l e R s m args below meth c H locs cells slots mc ms g rest (Qc As.toArray) (free) := by
  obtain ⟨⟨hrc, hrs, hfr, hlo, hws, hcw⟩, hcode, hini, hy, hlen, hl, hstt⟩ := cw
  have hK : Back l R p e below s args y 3 8 (PreOf R mc ms Pc) (PostOf Qc mc ms free) := va_backW (hh := hh) (bytes := bytes) (maxL := maxL) (ret := ret) hM hp.1 hrc hrs hfr hlo hws hcw (fun a' U hW => word_at hW (Or.inl (by first | rfl | simp [Cond.onTables, Cond.keeps, Cond.steady])) hini)
  obtain ⟨hx, hb, hml, ho, -⟩ := S
  intro T hT X
  obtain ⟨v, vm₁, ⟨U', l2, c2, s2⟩, hW₁, X', ⟨g', mk, t, L, e1, e2, hq, h1, hL, h2, h3⟩, st⟩ := vx_callSW X hx (hh := hh) (bytes := bytes) (maxL := maxL) (ret := ret) ho hl hstt hini hcode hy hK hg (hsize.trans hml.symm) (argsL := As) (rest := rest) (fun sig h => hn.trans (hlen sig h)) hstack hW (by rw [hb]; exact hdg)
    (fun vm₁ hW₁ => ⟨hf.1, hf.2, hp.2 (T.setVm vm₁) hT hW₁⟩)
  dsimp only [Pt.U, Pt.locs, Pt.cells, Pt.slots] at X' e1 e2 h1 h2 h3 st
  subst h1; subst h2; subst h3
  exact ⟨v, (T.setVm vm₁).calling g' mk As.toArray, t, U', L, hT, X', hL, e1, e2, hq, st⟩
/-- not caught here, past rows that name other classes: it goes on to the caller -/
theorem vx_outP {p : Program} {l : Launch} {e : Env} {R : Room} {s : State} {m : MethodId} {args : Array Value} {below : List Frame} {meth : Method} {c : Code} {H : Heap} {locs : List Loc} {cells slots : Nat} {free : Addr → Prop} {ls : Array Slot} {rest : List Value} {Qc : Array Value → State → Outcome → State → Prop} {XC : String → State → State → Prop}
    {pc : Nat} {own E : String} {ce : Cell} {q : Addr} {mc ms : Nat} (hown : s.vm.findClass own = some m.cls) (hlocks : meth.locks = false)
    (hpass : ∀ z ∈ c.exceptionTable.toList, covers z pc = false ∨ (z.catchType ≠ 0 ∧ ∃ nm : String, (Cond.classLink own z.catchType nm).before args s = true ∧ va_Nc E nm s)) (hcell : H[q]? = some ce) (hv : ce.vm = .none) (hcl : s.vm.findClass E = some ce.cls)
    (hx : ∀ t : State, t.heap = H → s.vm.Alike t.vm → XC E s t) (hf : ∀ z ∈ locs, free z.base) (hc : cells ≤ mc) (hs : slots ≤ ms) :
    vx_W p l e R s m args below meth c H locs cells slots (vx_MQ below Qc XC args s mc ms free) (F0 m pc ls rest) q := by
  intro T hT X
  have hpl : e.platform.magicAccessors = ({} : Platform).magicAccessors := by rw [X.admits.platform]
  obtain ⟨vm', hW', X', st⟩ := X.outThrough hlocks q (g := F0 m pc ls rest) rfl rfl rfl (cell := ce) (by rw [hT]; exact hcell) (by rw [hv]; rfl)
    (by obtain ⟨k9, h9, -⟩ := Vm.findClass_spec hcl; exact ⟨k9, h9⟩) (fun z hz => by
      rcases hpass z hz with h | ⟨hz0, nm, hl1, hn1⟩
      · exact Or.inl h
      · obtain ⟨c6, hc6, hcl6⟩ := Cond.classLink_spec hown hl1 e.platform hpl
        obtain ⟨a8, b8, h1, h2, h3⟩ := hn1
        cases Option.some.inj (h1.symm.trans hcl)
        cases Option.some.inj (h2.symm.trans hc6)
        exact Or.inr ⟨hz0, _, hcl6, h3⟩)
  obtain ⟨g₀, hfr⟩ := X'.frames_eq
  have hcell9 : ((T.setVm vm').setFrames (.throwing q :: below)).heap[q]? = some ce := by
    show T.heap[q]? = some ce
    rw [hT]; exact hcell
  have hend : Ended ((T.setVm vm').setFrames (.throwing q :: below)) below (.threw q) := State.frames_setFrames _ (State.cur_lt_of_frames hfr)
  refine ⟨(T.setVm vm').setFrames (.throwing q :: below), ?_, .threw q, X'.here.running, hend, Or.inr ⟨q, rfl, E, ce, locs, hx _ hT (X'.ends _).1.alike, hcell9, hv, hcl, (X'.ends _).1, (X'.ends _).2.mono hc hs, hf⟩⟩
  rw [X.pushThrowing_eq]
  exact st
/-- a thing of a world lies in the heap -/
theorem vx_lt {D : va_G} {cl : List vw_C} {ws : va_W} {H1 : Heap} (h : va_P D cl ws H1) {k : Nat} {q : Nat × va_E} (hk : ws[k]? = some q) : q.1 < H1.size := (h k q hk).lt
end VXS
/-! ===== END ===== -/
/-! ===== BEGIN methods with a table of their own: called by a name, returning or throwing ===== -/
section VXH
/-! vx_backW, vx_callVX, vx_callSX, vx_callVW, vx_runVW, vx_runVX, vx_runSX, vx_ofWH follow the same proofs as their sisters above (Free/Laws.lean, Shelf42/LK1.lean); vx_outP calls Shelf42/NT130.lean (outThrough). -/
section
variable {l : Launch} {R : Room} {p : Program} {e : Env} {below : List Frame} {s : State} {sargs : Array Value} {y : MethodName} {len W9 : Nat}
theorem vx_backW {ws : List Cond} {rm : Room} {Pc : Array Value → State → Prop} {Qc : Array Value → State → Outcome → State → Prop} {XC : String → State → State → Prop} {mc ms : Nat} {free : Addr → Prop} {bytes : ByteArray} {maxL : Nat} {ret : Option FieldType} {hh : List (Nat × Nat × Nat × Nat)}
    (hM : vx_Met l y ws rm Pc Qc XC mc ms free) (hblind : FrameBlind Pc) (hrc : rm.cells = mc) (hrs : rm.slots = ms)
    (hframes : rm.frames + 1 ≤ R.frames) (hlocals : W9 + (maxL + 11) + rm.locals ≤ R.locals)
    (hws : ∀ w ∈ ws, ∀ a' U, s.WarmedH U.vm → w.before a' U = true) (hcode : Cond.codeWith y bytes maxL ret hh ∈ ws) (hinit : ∀ a' U, s.WarmedH U.vm → (Cond.initialized y.cls).before a' U = true) :
    vx_Back l R p e below s sargs y len W9 (PreOf R mc ms Pc) (PostOf Qc mc ms free) (vx_Post XC mc ms free) := by
  intro m meth c A g ig mk a X hg hsize hdg hW hn hp
  have h1 : (headSpec ws rm).pre.before a A.U = true := atoms_intro fun w hw => hws w hw _ _ X.warmed
  have h2 : (Cond.codeWith y bytes maxL ret hh).before a A.U = true := hws _ hcode _ _ X.warmed
  have h3 : (Cond.initialized y.cls).before a A.U = true := hinit _ _ X.warmed
  have h4 : A.cells + (headSpec ws rm).room.cells ≤ R.cells := by rw [show (headSpec ws rm).room.cells = mc from hrc]; exact hp.1
  have h5 : A.slots + (headSpec ws rm).room.slots ≤ R.slots := by rw [show (headSpec ws rm).room.slots = ms from hrs]; exact hp.2.1
  have hPc : Pc a (A.U.calling g mk a) := hblind _ _ _ _ hp.2.2
  obtain ⟨U, Ls, c0, s0⟩ := A
  dsimp only [Pt.U, Pt.locs, Pt.cells, Pt.slots] at h1 h2 h3 h4 h5 X hn hPc ⊢
  obtain ⟨m9, methY, cY, hn9, hmY, hcY, -, hlY, -⟩ := Cond.codeWith_spec h2
  cases Option.some.inj (hn9.symm.trans hn)
  obtain ⟨kY, hkY, -⟩ := className_of_methodNamed hn
  have hinitY : kY.init = .initialized := Cond.initialized_spec (findClass_of_methodNamed hn) hkY h3
  have h : At U g.method c below := by rw [hg]; exact X.here
  have hlocals9 : W9 + (maxL + 11) + (headSpec ws rm).room.locals ≤ R.locals := hlocals
  have happ : (headSpec ws rm).appliesLoose y e.platform (U.calling g mk a) = true :=
    Spec.appliesLoose_calling (g := g) h hdg hn hkY hinitY
      (X.room_calling (g := g) (R' := (headSpec ws rm).room) hsize hmY hcY hframes (by rw [hlY]; omega) h4 h5) h1
  obtain ⟨mid, hmid⟩ := h.above
  have hfr : (U.setTop g).frames = (.java g :: mid) ++ below := by rw [State.frames_setTop' g h.top, hmid]; rfl
  obtain ⟨o, s₂, hsteps, -, hend, hq⟩ := Steps.callFree hM p X.admits X.cas X.clock (acts := []) hfr happ hPc trivial
  have hq' : vx_Q Qc XC mc ms free a (U.calling g mk a) o s₂ := hq
  rw [State.frames_setTop' g h.top] at hend
  obtain ⟨g₀, hg0⟩ := Option.isSome_iff_exists.mp h.top
  obtain ⟨r, hr⟩ := State.topJava?_eq_some.mp hg0
  have hr' : (({ U with heap := s₂.heap, slotsUsed := s₂.slotsUsed } : State).setVm s₂.vm).frames = .java g₀ :: r := hr
  rcases hq' with ⟨hqc, L, hfe, hL⟩ | ⟨q, rfl, E, ce, L, hx, hce, hcv, hcl, hW₂, hsm, hL⟩
  · obtain ⟨⟨v, rfl⟩, hW₂, e2, q2, q3, q4, q5, q6⟩ := id hfe
    have e3 : s₂ = ({ (U.calling g mk a).setFrames s₂.frames with heap := s₂.heap, slotsUsed := s₂.slotsUsed } : State).setVm s₂.vm := by
      have : s₂ = ({ s₂ with vm := (U.calling g mk a).vm } : State).setVm s₂.vm := rfl
      rw [e2] at this
      exact this
    obtain ⟨c₂, i₂, len₂, hc₂, hd₂, hf₂⟩ := hend
    have hW' : U.WarmedH s₂.vm := hW₂
    have hcc : c₂ = c := by
      have h1 : s₂.code? g.method = U.code? g.method := by
        rw [State.code?_eq, State.code?_eq, hW'.alike.method?]
      exact Option.some.inj (hc₂.symm.trans (h1.trans h.code))
    subst hcc
    have hlen : len₂ = len := by rw [hdg] at hd₂; cases hd₂; rfl
    subst hlen
    have hs₂ : s₂ = (({ U with heap := s₂.heap, slotsUsed := s₂.slotsUsed } : State).setVm s₂.vm).setTop { g with pc := g.pc + len₂, stack := v.toList ++ g.stack } := by
      refine e3.trans ?_
      rw [hf₂, State.calling_eq h.top, State.setFrames_setFrames, State.setTop_of_frames _ hr', hr]
      rfl
    have hsame : U.sameButNew ({ U with heap := s₂.heap, slotsUsed := s₂.slotsUsed } : State) L mc ms := by
      refine ⟨?_, q2, q3, q4, q5, q6⟩
      obtain ⟨t, ht, -⟩ := State.frames_cons hr
      show ({ U with heap := s₂.heap, slotsUsed := s₂.slotsUsed } : State) = { U.setFrames U.frames with heap := s₂.heap, slotsUsed := s₂.slotsUsed }
      rw [State.setFrames_self ht]
    subst hg
    refine Or.inl ⟨v, ⟨(({ U with heap := s₂.heap, slotsUsed := s₂.slotsUsed } : State).setVm s₂.vm), Ls ++ L, c0 + mc, s0 + ms⟩,
      ⟨X.admits, X.cas, X.clock, X.frames, X.room, X.hears, X.method, X.code, (X.here.setHeapUsed s₂.heap s₂.slotsUsed).setVm hW'.alike, X.tail, State.WarmedH.trans X.warmed hW', X.limits, X.bytes, X.same.trans (hsame.setVm s.vm)⟩,
      ⟨g, mk, s₂, L, rfl, rfl, hqc, rfl, hL, rfl, rfl⟩, ?_⟩
    show Steps p.tables e below _ ((({ U with heap := s₂.heap, slotsUsed := s₂.slotsUsed } : State).setVm s₂.vm).setTop { g with pc := g.pc + len₂, stack := v.toList ++ g.stack })
    rw [← hs₂]
    exact hsteps
  · obtain ⟨e2, q2, q3, q4, q5, q6⟩ := id hsm
    have e3 : s₂ = ({ (U.calling g mk a).setFrames s₂.frames with heap := s₂.heap, slotsUsed := s₂.slotsUsed } : State).setVm s₂.vm := by
      have : s₂ = ({ s₂ with vm := (U.calling g mk a).vm } : State).setVm s₂.vm := rfl
      rw [e2] at this
      exact this
    have hf₂ : s₂.frames = .throwing q :: .java g :: U.frames.tail := hend
    have hW' : U.WarmedH s₂.vm := hW₂
    have hs₂ : s₂ = ((({ U with heap := s₂.heap, slotsUsed := s₂.slotsUsed } : State).setVm s₂.vm).setTop g).pushFrame (.throwing q) := by
      refine e3.trans ?_
      rw [hf₂, State.calling_eq h.top, State.setFrames_setFrames, State.pushFrame, State.frames_setTop _ hr', State.setTop_of_frames _ hr', State.setFrames_setFrames, hr]
      rfl
    have hsame : U.sameButNew ({ U with heap := s₂.heap, slotsUsed := s₂.slotsUsed } : State) L mc ms := by
      refine ⟨?_, q2, q3, q4, q5, q6⟩
      obtain ⟨t, ht, -⟩ := State.frames_cons hr
      show ({ U with heap := s₂.heap, slotsUsed := s₂.slotsUsed } : State) = { U.setFrames U.frames with heap := s₂.heap, slotsUsed := s₂.slotsUsed }
      rw [State.setFrames_self ht]
    subst hg
    refine Or.inr ⟨q, ⟨(({ U with heap := s₂.heap, slotsUsed := s₂.slotsUsed } : State).setVm s₂.vm), Ls ++ L, c0 + mc, s0 + ms⟩,
      ⟨X.admits, X.cas, X.clock, X.frames, X.room, X.hears, X.method, X.code, (X.here.setHeapUsed s₂.heap s₂.slotsUsed).setVm hW'.alike, X.tail, State.WarmedH.trans X.warmed hW', X.limits, X.bytes, X.same.trans (hsame.setVm s.vm)⟩,
      ⟨g, mk, s₂, L, E, ce, rfl, rfl, hx, hce, hcv, hcl, rfl, hL, rfl, rfl⟩, ?_⟩
    show Steps p.tables e below _ (((({ U with heap := s₂.heap, slotsUsed := s₂.slotsUsed } : State).setVm s₂.vm).setTop g).pushFrame (.throwing q))
    rw [← hs₂]
    exact hsteps
end
variable {p : Program} {l : Launch} {e : Env} {R : Room} {s : State} {m : MethodId} {args : Array Value} {below : List Frame} {meth : Method} {c : Code} {T : State} {H : Heap} {locs : List Loc} {cells slots : Nat}
theorem vx_callVX (X : Stand p l e R s m args below meth c T locs cells slots) (hexec : p.tables.exec = Jvm.exec) {own C : String} {index : Nat} {y : MethodName} {bytes : ByteArray} {maxL : Nat} {ret : Option FieldType} {hh : List (Nat × Nat × Nat × Nat)}
    (hown : s.vm.findClass own = some m.cls) (hlink : (Cond.methodLink own index y).before args s = true) (hinst : (Cond.instanceMethod y).before args s = true) (hsel : (Cond.selects C y y).before args s = true)
    (hcode : (Cond.codeWith y bytes maxL ret hh).before args s = true) (hy : y.cls ≠ "java/lang/invoke/MethodHandle" ∧ y.cls ≠ "java/lang/invoke/VarHandle")
    {W9 : Nat} {Pre : Pt → Array Value → Prop} {Post : Pt → Array Value → Option Value → Pt → Prop} {PostX : Pt → Array Value → Addr → Pt → Prop} (hK : vx_Back l R p e below s args y 3 W9 Pre Post PostX)
    {b : Addr} {cellB : Cell} (hcell : T.heap[b]? = some cellB) (hobj : cellB.vm.isStatics = false) (hcls : s.vm.findClass C = some cellB.cls)
    {g : JFrame} (hg : g.method = m) (hsize : g.locals.size = c.maxLocals) {argsL rest : List Value} (hlen : ∀ sig, parseMethodDescriptor y.desc = some sig → argsL.length = sig.parameters.length)
    (hstack : g.stack = argsL.reverse ++ .ref b :: rest) (hW : 2 * g.monitorRoom + (rest.map fun v => v.category).sum ≤ W9) (hdg : decode c.code g.pc = .ok (.invokevirtual index, 3))
    (hpre : ∀ vm₁, s.WarmedH vm₁ → Pre ⟨T.setVm vm₁, locs, cells, slots⟩ (Value.ref b :: argsL).toArray) :
    (∃ (v : Option Value) (vm₁ : Vm) (B : Pt), s.WarmedH vm₁ ∧ Stand p l e R s m args below meth c B.U B.locs B.cells B.slots ∧ Post ⟨T.setVm vm₁, locs, cells, slots⟩ (Value.ref b :: argsL).toArray v B ∧
      ∀ target, Steps p.tables e below (B.U.setTop { g with pc := g.pc + 3, stack := v.toList ++ rest }) target → Steps p.tables e below (T.setTop g) target) ∨
    (∃ (q : Addr) (vm₁ : Vm) (B : Pt), s.WarmedH vm₁ ∧ Stand p l e R s m args below meth c B.U B.locs B.cells B.slots ∧ PostX ⟨T.setVm vm₁, locs, cells, slots⟩ (Value.ref b :: argsL).toArray q B ∧
      Steps p.tables e below (T.setTop g) ((B.U.setTop { g with stack := rest }).pushFrame (.throwing q))) := by
  obtain ⟨mk, methM, hnamed, hmethM, hstM, habM⟩ := Cond.instanceMethod_spec hinst
  obtain ⟨m8, methM', cM, hn8, hmethM', -, -, -, -, -, -, hsigM⟩ := Cond.codeWith_spec hcode
  cases Option.some.inj (hn8.symm.trans hnamed)
  cases hmethM.symm.trans hmethM'
  obtain ⟨c2, r2, m2, q1, q2, q3, q4, kP, hkP, hkPi⟩ := Cond.selects_spec hsel
  cases hcls.symm.trans q1
  cases (State.methodFound?_of_named hnamed hy).symm.trans q2
  cases hnamed.symm.trans q3
  have hselP : selectMethod e.platform s.vm cellB.cls mk = .method mk := by rw [Launch.admits_selectMethod X.admits]; exact q4
  obtain ⟨vm₁, X₁, hstep₁⟩ := X.invokevirtual hexec hown hlink hnamed hmethM hstM hkP hkPi hy (a := b) (cell := cellB) hcell
    (fun z h => by rw [h] at hobj; cases hobj) hselP hmethM habM hkP hkPi (g := g) hg (argsL := argsL) (rest := rest) (hlen _ hsigM) hstack hdg
  rcases hK m meth c ⟨T.setVm vm₁, locs, cells, slots⟩ { g with stack := rest } (.invokevirtual index) mk (Value.ref b :: argsL).toArray X₁ hg hsize hdg hW (X₁.named hnamed) (hpre vm₁ X₁.warmed) with ⟨v, B, X', hpost, hsteps⟩ | ⟨q, B, X', hpost, hsteps⟩
  · exact Or.inl ⟨v, vm₁, B, X₁.warmed, X', hpost, fun target h => hstep₁ _ fun acts => by rw [doInvoke_state]; exact hsteps.trans h⟩
  · exact Or.inr ⟨q, vm₁, B, X₁.warmed, X', hpost, hstep₁ _ fun acts => by rw [doInvoke_state]; exact hsteps⟩
theorem vx_callSX (X : Stand p l e R s m args below meth c T locs cells slots) (hexec : p.tables.exec = Jvm.exec) {own : String} {index : Nat} {y : MethodName} {bytes : ByteArray} {maxL : Nat} {ret : Option FieldType} {hh : List (Nat × Nat × Nat × Nat)}
    (hown : s.vm.findClass own = some m.cls) (hlink : (Cond.methodLink own index y).before args s = true) (hstat : (Cond.static y).before args s = true) (hinit : (Cond.initialized y.cls).before args s = true)
    (hcode : (Cond.codeWith y bytes maxL ret hh).before args s = true) (hy : y.cls ≠ "java/lang/invoke/MethodHandle" ∧ y.cls ≠ "java/lang/invoke/VarHandle")
    {W9 : Nat} {Pre : Pt → Array Value → Prop} {Post : Pt → Array Value → Option Value → Pt → Prop} {PostX : Pt → Array Value → Addr → Pt → Prop} (hK : vx_Back l R p e below s args y 3 W9 Pre Post PostX)
    {g : JFrame} (hg : g.method = m) (hsize : g.locals.size = c.maxLocals) {argsL rest : List Value} (hlen : ∀ sig, parseMethodDescriptor y.desc = some sig → argsL.length = sig.parameters.length)
    (hstack : g.stack = argsL.reverse ++ rest) (hW : 2 * g.monitorRoom + (rest.map fun v => v.category).sum ≤ W9) (hdg : decode c.code g.pc = .ok (.invokestatic index, 3))
    (hpre : ∀ vm₁, s.WarmedH vm₁ → Pre ⟨T.setVm vm₁, locs, cells, slots⟩ argsL.toArray) :
    (∃ (v : Option Value) (vm₁ : Vm) (B : Pt), s.WarmedH vm₁ ∧ Stand p l e R s m args below meth c B.U B.locs B.cells B.slots ∧ Post ⟨T.setVm vm₁, locs, cells, slots⟩ argsL.toArray v B ∧
      ∀ target, Steps p.tables e below (B.U.setTop { g with pc := g.pc + 3, stack := v.toList ++ rest }) target → Steps p.tables e below (T.setTop g) target) ∨
    (∃ (q : Addr) (vm₁ : Vm) (B : Pt), s.WarmedH vm₁ ∧ Stand p l e R s m args below meth c B.U B.locs B.cells B.slots ∧ PostX ⟨T.setVm vm₁, locs, cells, slots⟩ argsL.toArray q B ∧
      Steps p.tables e below (T.setTop g) ((B.U.setTop { g with stack := rest }).pushFrame (.throwing q))) := by
  obtain ⟨mk, methM, cM, hnamed, hmethM, -, -, -, -, -, -, hsigM⟩ := Cond.codeWith_spec hcode
  have hstatic : methM.isStatic = true := Cond.static_spec hnamed hmethM hstat
  obtain ⟨kP, hkP, -⟩ := className_of_methodNamed hnamed
  have hinitP : kP.init = .initialized := Cond.initialized_spec (findClass_of_methodNamed hnamed) hkP hinit
  obtain ⟨vm₁, X₁, hstep₁⟩ := X.invokestatic hexec hown hlink hnamed hmethM hstatic hkP hinitP hy (g := g) hg (argsL := argsL) (rest := rest) (hlen _ hsigM) hstack hdg
  rcases hK m meth c ⟨T.setVm vm₁, locs, cells, slots⟩ { g with stack := rest } (.invokestatic index) mk argsL.toArray X₁ hg hsize hdg hW (X₁.named hnamed) (hpre vm₁ X₁.warmed) with ⟨v, B, X', hpost, hsteps⟩ | ⟨q, B, X', hpost, hsteps⟩
  · exact Or.inl ⟨v, vm₁, B, X₁.warmed, X', hpost, fun target h => hstep₁ _ fun acts => by rw [doInvoke_state]; exact hsteps.trans h⟩
  · exact Or.inr ⟨q, vm₁, B, X₁.warmed, X', hpost, hstep₁ _ fun acts => by rw [doInvoke_state]; exact hsteps⟩
theorem vx_callVW (X : Stand p l e R s m args below meth c T locs cells slots) (hexec : p.tables.exec = Jvm.exec) {own C : String} {index : Nat} {y : MethodName} {bytes : ByteArray} {maxL : Nat} {ret : Option FieldType} {hh : List (Nat × Nat × Nat × Nat)}
    (hown : s.vm.findClass own = some m.cls) (hlink : (Cond.methodLink own index y).before args s = true) (hinst : (Cond.instanceMethod y).before args s = true) (hsel : (Cond.selects C y y).before args s = true)
    (hcode : (Cond.codeWith y bytes maxL ret hh).before args s = true) (hy : y.cls ≠ "java/lang/invoke/MethodHandle" ∧ y.cls ≠ "java/lang/invoke/VarHandle")
    {W9 : Nat} {Pre : Pt → Array Value → Prop} {Post : Pt → Array Value → Option Value → Pt → Prop} (hK : Back l R p e below s args y 3 W9 Pre Post)
    {b : Addr} {cellB : Cell} (hcell : T.heap[b]? = some cellB) (hobj : cellB.vm.isStatics = false) (hcls : s.vm.findClass C = some cellB.cls)
    {g : JFrame} (hg : g.method = m) (hsize : g.locals.size = c.maxLocals) {argsL rest : List Value} (hlen : ∀ sig, parseMethodDescriptor y.desc = some sig → argsL.length = sig.parameters.length)
    (hstack : g.stack = argsL.reverse ++ .ref b :: rest) (hW : 2 * g.monitorRoom + (rest.map fun v => v.category).sum ≤ W9) (hdg : decode c.code g.pc = .ok (.invokevirtual index, 3))
    (hpre : ∀ vm₁, s.WarmedH vm₁ → Pre ⟨T.setVm vm₁, locs, cells, slots⟩ (Value.ref b :: argsL).toArray) :
    ∃ (v : Option Value) (vm₁ : Vm) (B : Pt), s.WarmedH vm₁ ∧ Stand p l e R s m args below meth c B.U B.locs B.cells B.slots ∧ Post ⟨T.setVm vm₁, locs, cells, slots⟩ (Value.ref b :: argsL).toArray v B ∧
      ∀ target, Steps p.tables e below (B.U.setTop { g with pc := g.pc + 3, stack := v.toList ++ rest }) target → Steps p.tables e below (T.setTop g) target := by
  obtain ⟨mk, methM, hnamed, hmethM, hstM, habM⟩ := Cond.instanceMethod_spec hinst
  obtain ⟨m8, methM', cM, hn8, hmethM', -, -, -, -, -, -, hsigM⟩ := Cond.codeWith_spec hcode
  cases Option.some.inj (hn8.symm.trans hnamed)
  cases hmethM.symm.trans hmethM'
  obtain ⟨c2, r2, m2, q1, q2, q3, q4, kP, hkP, hkPi⟩ := Cond.selects_spec hsel
  cases hcls.symm.trans q1
  cases (State.methodFound?_of_named hnamed hy).symm.trans q2
  cases hnamed.symm.trans q3
  have hselP : selectMethod e.platform s.vm cellB.cls mk = .method mk := by rw [Launch.admits_selectMethod X.admits]; exact q4
  obtain ⟨vm₁, X₁, hstep₁⟩ := X.invokevirtual hexec hown hlink hnamed hmethM hstM hkP hkPi hy (a := b) (cell := cellB) hcell
    (fun z h => by rw [h] at hobj; cases hobj) hselP hmethM habM hkP hkPi (g := g) hg (argsL := argsL) (rest := rest) (hlen _ hsigM) hstack hdg
  obtain ⟨v, B, X', hpost, hsteps⟩ := hK m meth c ⟨T.setVm vm₁, locs, cells, slots⟩ { g with stack := rest } (.invokevirtual index) mk (Value.ref b :: argsL).toArray X₁ hg hsize hdg hW (X₁.named hnamed) (hpre vm₁ X₁.warmed)
  exact ⟨v, vm₁, B, X₁.warmed, X', hpost, fun target h => hstep₁ _ fun acts => by rw [doInvoke_state]; exact hsteps.trans h⟩
abbrev vx_CVW (R : Room) (s : State) (args : Array Value) (own C : String) (index : Nat) (y : MethodName) (bytes : ByteArray) (maxL : Nat) (ret : Option FieldType) (hh : List (Nat × Nat × Nat × Nat)) (ws : List Cond) (rm : Room) (mc ms n : Nat) : Prop :=
  (rm.cells = mc ∧ rm.slots = ms ∧ rm.frames + 1 ≤ R.frames ∧ 8 + (maxL + 11) + rm.locals ≤ R.locals ∧ (∀ w ∈ ws, ∀ (a' : Array Value) (U : State), s.WarmedH U.vm → w.before a' U = true) ∧ Cond.codeWith y bytes maxL ret hh ∈ ws) ∧
  (Cond.codeWith y bytes maxL ret hh).before args s = true ∧ (Cond.initialized y.cls).before args s = true ∧ (y.cls ≠ "java/lang/invoke/MethodHandle" ∧ y.cls ≠ "java/lang/invoke/VarHandle") ∧
  (∀ sig, parseMethodDescriptor y.desc = some sig → n = sig.parameters.length) ∧ (Cond.methodLink own index y).before args s = true ∧ (Cond.instanceMethod y).before args s = true ∧ (Cond.selects C y y).before args s = true
theorem vx_cwVW {own C : String} {index maxL mc ms : Nat} {y : MethodName} {bytes : ByteArray} {ret : Option FieldType} {hh : List (Nat × Nat × Nat × Nat)} {Ts ws ws' : List Cond} {rm : Room} (n : Nat) (ht : ∀ w ∈ Ts, w.before args s = true) (hT : GoodIn Ts (wsV own index C y ws)) (hw : ws = Cond.codeWith y bytes maxL ret hh :: ws') (hrc : rm.cells = mc) (hrs : rm.slots = ms)
    (hd : y.cls = C ∧ y.cls ≠ "java/lang/invoke/MethodHandle" ∧ y.cls ≠ "java/lang/invoke/VarHandle" ∧ (parseMethodDescriptor y.desc).map (fun d => d.parameters.length) = some n) (hR : rm.frames + 1 ≤ R.frames ∧ 8 + (maxL + 11) + rm.locals ≤ R.locals) :
    vx_CVW R s args own C index y bytes maxL ret hh ws rm mc ms n := by
  obtain ⟨hC, hd⟩ := hd
  subst hC
  have ok : ∀ w ∈ wsV own index y.cls y ws, w.before args s = true := fun w h => ht w (hT w h).1
  have hG : GoodIn Ts ws := fun w h => hT w (by unfold wsV; exact List.mem_append_right _ h)
  have hc : Cond.codeWith y bytes maxL ret hh ∈ ws := by rw [hw]; exact List.mem_cons_self
  refine ⟨⟨hrc, hrs, hR.1, hR.2, pay_in ht hG, hc⟩, ht _ (hG _ hc).1, ok _ (by simp [wsV]), ⟨hd.1, hd.2.1⟩, fun sig h => ?_, ok _ (by simp [wsV]), ok _ (by simp [wsV]), ok _ (by simp [wsV])⟩
  have h2 := hd.2.2
  rw [h] at h2
  exact (Option.some.inj h2).symm
theorem vx_runVW {y : MethodName} {bytes cc : ByteArray} {maxL nL mc ms n index : Nat} {ret : Option FieldType} {hh : List (Nat × Nat × Nat × Nat)} {ws : List Cond} {rm : Room} {Pc : Array Value → State → Prop} {Qc : Array Value → State → Outcome → State → Prop} {free : Addr → Prop} {Ts : List Cond} {own C : String} {b : Addr} {As rest : List Value} {g : JFrame}
    (S : CallFix p m c cc nL s args Ts own) (hM : Met l y ws rm Pc Qc mc ms free) (cw : vx_CVW R s args own C index y bytes maxL ret hh ws rm mc ms n) (hp : PreV s H C b Pc As)
    (hg : g.method = m) (hn : As.length = n) (hsize : g.locals.size = nL) (hstack : g.stack = As.reverse ++ .ref b :: rest) (hW : 2 * g.monitorRoom + (rest.map fun v => v.category).sum ≤ 8) (hdg : decode cc g.pc = .ok (.invokevirtual index, 3)) (hf : cells + mc ≤ R.cells ∧ slots + ms ≤ R.slots) :
    va_Run p l e R s m args below meth c H locs cells slots mc ms g rest (Qc (Value.ref b :: As).toArray) free := by
  obtain ⟨⟨hrc, hrs, hfr, hlo, hws, hcw⟩, hcode, hini, hy, hlen, hl, hin, hse⟩ := cw
  have hK : Back l R p e below s args y 3 8 (PreOf R mc ms Pc) (PostOf Qc mc ms free) := va_backW (hh := hh) (bytes := bytes) (maxL := maxL) (ret := ret) hM hp.1 hrc hrs hfr hlo hws hcw (fun a' U hW => word_at hW (Or.inl (by first | rfl | simp [Cond.onTables, Cond.keeps, Cond.steady])) hini)
  obtain ⟨hx, hb, hml, ho, -⟩ := S
  obtain ⟨-, ⟨cellB, hcB, hoB, hclB⟩, hPc⟩ := hp
  intro T hT X
  obtain ⟨v, vm₁, ⟨U', l2, c2, s2⟩, hW₁, X', ⟨g', mk, t, L, e1, e2, hq, h1, hL, h2, h3⟩, st⟩ := vx_callVW X hx (C := C) (hh := hh) (bytes := bytes) (maxL := maxL) (ret := ret) ho hl hin hse hcode hy hK (by rw [hT]; exact hcB) hoB hclB hg (hsize.trans hml.symm) (argsL := As) (rest := rest) (fun sig h => hn.trans (hlen sig h)) hstack hW (by rw [hb]; exact hdg)
    (fun vm₁ hW₁ => ⟨hf.1, hf.2, hPc (T.setVm vm₁) hT hW₁⟩)
  dsimp only [Pt.U, Pt.locs, Pt.cells, Pt.slots] at X' e1 e2 h1 h2 h3 st
  subst h1; subst h2; subst h3
  exact ⟨v, (T.setVm vm₁).calling g' mk (Value.ref b :: As).toArray, t, U', L, hT, X', hL, e1, e2, hq, st⟩
section
variable {y : MethodName} {bytes cc : ByteArray} {maxL nL mc ms n index : Nat} {ret : Option FieldType} {ws : List Cond} {rm : Room} {Pc : Array Value → State → Prop} {Qc : Array Value → State → Outcome → State → Prop} {XC : String → State → State → Prop} {free : Addr → Prop} {Ts : List Cond} {own C : String} {b : Addr} {As rest : List Value} {g : JFrame}
theorem vx_runVX {hh : List (Nat × Nat × Nat × Nat)} (S : CallFix p m c cc nL s args Ts own) (hM : vx_Met l y ws rm Pc Qc XC mc ms free) (cw : vx_CVW R s args own C index y bytes maxL ret hh ws rm mc ms n) (hp : PreV s H C b Pc As)
    (hg : g.method = m) (hn : As.length = n) (hsize : g.locals.size = nL) (hstack : g.stack = As.reverse ++ .ref b :: rest) (hW : 2 * g.monitorRoom + (rest.map fun v => v.category).sum ≤ 8) (hdg : decode cc g.pc = .ok (.invokevirtual index, 3)) (hf : cells + mc ≤ R.cells ∧ slots + ms ≤ R.slots) :
    vx_Run p l e R s m args below meth c H locs cells slots mc ms g rest (Qc (Value.ref b :: As).toArray) XC free := by
  obtain ⟨⟨hrc, hrs, hfr, hlo, hws, hcw⟩, hcode, hini, hy, hlen, hl, hin, hse⟩ := cw
  have hK : vx_Back l R p e below s args y 3 8 (PreOf R mc ms Pc) (PostOf Qc mc ms free) (vx_Post XC mc ms free) := vx_backW (hh := hh) (bytes := bytes) (maxL := maxL) (ret := ret) hM hp.1 hrc hrs hfr hlo hws hcw (fun a' U hW => word_at hW (Or.inl (by first | rfl | simp [Cond.onTables, Cond.keeps, Cond.steady])) hini)
  obtain ⟨hx, hb, hml, ho, -⟩ := S
  obtain ⟨-, ⟨cellB, hcB, hoB, hclB⟩, hPc⟩ := hp
  intro T hT X
  rcases vx_callVX X hx (C := C) (hh := hh) (bytes := bytes) (maxL := maxL) (ret := ret) ho hl hin hse hcode hy hK (by rw [hT]; exact hcB) hoB hclB hg (hsize.trans hml.symm) (argsL := As) (rest := rest) (fun sig h => hn.trans (hlen sig h)) hstack hW (by rw [hb]; exact hdg)
    (fun vm₁ hW₁ => ⟨hf.1, hf.2, hPc (T.setVm vm₁) hT hW₁⟩) with ⟨v, vm₁, ⟨U', l2, c2, s2⟩, hW₁, X', ⟨g', mk, t, L, e1, e2, hq, h1, hL, h2, h3⟩, st⟩ | ⟨q, vm₁, ⟨U', l2, c2, s2⟩, hW₁, X', ⟨g', mk, t, L, E, ce, e1, e2, hq, hce, hcv, hcl, h1, hL, h2, h3⟩, st⟩
  · dsimp only [Pt.U, Pt.locs, Pt.cells, Pt.slots] at X' e1 e2 h1 h2 h3 st
    subst h1; subst h2; subst h3
    exact Or.inl ⟨v, (T.setVm vm₁).calling g' mk (Value.ref b :: As).toArray, t, U', L, hT, X', hL, e1, e2, hq, st⟩
  · dsimp only [Pt.U, Pt.locs, Pt.cells, Pt.slots] at X' e1 e2 h1 h2 h3 st hcl
    subst h1; subst h2; subst h3
    exact Or.inr ⟨q, (T.setVm vm₁).calling g' mk (Value.ref b :: As).toArray, t, U', L, E, ce, hT, X', hL, e1, e2, hq, hce, hcv, vx_cls hW₁ hcl, st⟩
theorem vx_runSX {hh : List (Nat × Nat × Nat × Nat)} (S : CallFix p m c cc nL s args Ts own) (hM : vx_Met l y ws rm Pc Qc XC mc ms free) (cw : vx_CSW R s args own index y bytes maxL ret hh ws rm mc ms n) (hp : PreS s H Pc As)
    (hg : g.method = m) (hn : As.length = n) (hsize : g.locals.size = nL) (hstack : g.stack = As.reverse ++ rest) (hW : 2 * g.monitorRoom + (rest.map fun v => v.category).sum ≤ 8) (hdg : decode cc g.pc = .ok (.invokestatic index, 3)) (hf : cells + mc ≤ R.cells ∧ slots + ms ≤ R.slots) :
    vx_Run p l e R s m args below meth c H locs cells slots mc ms g rest (Qc As.toArray) XC free := by
  obtain ⟨⟨hrc, hrs, hfr, hlo, hws, hcw⟩, hcode, hini, hy, hlen, hl, hstt⟩ := cw
  have hK : vx_Back l R p e below s args y 3 8 (PreOf R mc ms Pc) (PostOf Qc mc ms free) (vx_Post XC mc ms free) := vx_backW (hh := hh) (bytes := bytes) (maxL := maxL) (ret := ret) hM hp.1 hrc hrs hfr hlo hws hcw (fun a' U hW => word_at hW (Or.inl (by first | rfl | simp [Cond.onTables, Cond.keeps, Cond.steady])) hini)
  obtain ⟨hx, hb, hml, ho, -⟩ := S
  intro T hT X
  rcases vx_callSX X hx (hh := hh) (bytes := bytes) (maxL := maxL) (ret := ret) ho hl hstt hini hcode hy hK hg (hsize.trans hml.symm) (argsL := As) (rest := rest) (fun sig h => hn.trans (hlen sig h)) hstack hW (by rw [hb]; exact hdg)
    (fun vm₁ hW₁ => ⟨hf.1, hf.2, hp.2 (T.setVm vm₁) hT hW₁⟩) with ⟨v, vm₁, ⟨U', l2, c2, s2⟩, hW₁, X', ⟨g', mk, t, L, e1, e2, hq, h1, hL, h2, h3⟩, st⟩ | ⟨q, vm₁, ⟨U', l2, c2, s2⟩, hW₁, X', ⟨g', mk, t, L, E, ce, e1, e2, hq, hce, hcv, hcl, h1, hL, h2, h3⟩, st⟩
  · dsimp only [Pt.U, Pt.locs, Pt.cells, Pt.slots] at X' e1 e2 h1 h2 h3 st
    subst h1; subst h2; subst h3
    exact Or.inl ⟨v, (T.setVm vm₁).calling g' mk As.toArray, t, U', L, hT, X', hL, e1, e2, hq, st⟩
  · dsimp only [Pt.U, Pt.locs, Pt.cells, Pt.slots] at X' e1 e2 h1 h2 h3 st hcl
    subst h1; subst h2; subst h3
    exact Or.inr ⟨q, (T.setVm vm₁).calling g' mk As.toArray, t, U', L, E, ce, hT, X', hL, e1, e2, hq, hce, hcv, vx_cls hW₁ hcl, st⟩
end
end VXH
theorem vx_ofWH {l : Launch} {y : MethodName} {ws ws' : List Cond} {rm : Room} {Pc : Array Value → State → Prop} {Qc : Array Value → State → Outcome → State → Prop} {XC : String → State → State → Prop} {mc ms : Nat} {free : Addr → Prop} {cc : ByteArray} {maxL : Nat} {ret : Option FieldType} {hh : List (Nat × Nat × Nat × Nat)}
    (hy : plainName y.cls = true) (hw : ws = Cond.codeWith y cc maxL ret hh :: ws')
    (body : ∀ p e s m args below meth c s₁, BodyLoose p l y (headSpec ws rm) cc maxL ret e s m args below meth c s₁ → c.maxLocals = maxL → Pc args s →
      W p l e (headSpec ws rm).room s m args below meth c s.heap [] 0 0 (vx_MQ below Qc XC args s mc ms free) (entryFrame m args maxL)) : vx_Met l y ws rm Pc Qc XC mc ms free := by
  refine MetFree.of_bodyS (code := cc) (maxLocals := maxL) (ret := ret) hy ?_ ?_
  · intro args s m h hn
    obtain ⟨m9, meth, c, hn9, h1, h2, h3, h4, -, h5, h6, -⟩ := Cond.codeWith_spec (atoms_spec (ws := ws) h _ (by rw [hw]; exact List.mem_cons_self))
    cases hn.symm.trans hn9
    exact ⟨meth, c, h1, h2, h3, h4, h5, h6⟩
  · intro p e s m args below meth c s₁ B hml hP _
    have hh0 : s₁.heap = s.heap := by rw [B.state]; rfl
    obtain ⟨t, a1, o, b1, b2, b3⟩ := body p e s m args below meth c s₁ B hml hP s₁ hh0 (Stand.of_body B)
    exact ⟨t, o, a1, b1, b2, b3⟩
/-! ===== END ===== -/
end
section
/-! ===== BEGIN printed: names, fields, word lists, decode rows ===== -/
def RX0 : String := "ConsentQueue$1"
def TX0 : u_T := fun k => match k with
  | _ => ("", "", "", false)
def tyX0 : Nat → FieldType := fun k => match k with
  | _ => .int
abbrev wsX00 : List Cond := u_ws RX0 TX0 0
theorem nmX0 : ∀ a, a < 0 → ∀ b, b < 0 → a ≠ b → (TX0 a).2.1 ≠ (TX0 b).2.1 := by decide +kernel
theorem tyX0_ok : ∀ k, k < 0 → parseFieldDescriptor (TX0 k).2.2.1 = some (tyX0 k) := by decide +kernel
def RX1 : String := "ConsentQueue$Command"
def TX1 : u_T := fun k => match k with
  | _ => ("", "", "", false)
def tyX1 : Nat → FieldType := fun k => match k with
  | _ => .int
abbrev wsX10 : List Cond := u_ws RX1 TX1 0
theorem nmX1 : ∀ a, a < 0 → ∀ b, b < 0 → a ≠ b → (TX1 a).2.1 ≠ (TX1 b).2.1 := by decide +kernel
theorem tyX1_ok : ∀ k, k < 0 → parseFieldDescriptor (TX1 k).2.2.1 = some (tyX1 k) := by decide +kernel
def RX2 : String := "ConsentQueue$CommandText"
def TX2 : u_T := fun k => match k with
  | 0 => ("ConsentQueue$CommandText", "bytes", "[B", true)
  | 1 => ("ConsentQueue$CommandText", "length", "I", false)
  | 2 => ("ConsentQueue$CommandText", "position", "I", false)
  | 3 => ("ConsentQueue$CommandText", "fault", "I", false)
  | 4 => ("ConsentQueue$CommandText", "command", "LConsentQueue$Command;", false)
  | _ => ("ConsentQueue$CommandText", "numbers", "[I", true)
def tyX2 : Nat → FieldType := fun k => match k with
  | 0 => .array .byte
  | 1 => .int
  | 2 => .int
  | 3 => .int
  | 4 => .object "ConsentQueue$Command"
  | _ => .array .int
abbrev wsX20 : List Cond := u_ws RX2 TX2 6
theorem nmX2 : ∀ a, a < 6 → ∀ b, b < 6 → a ≠ b → (TX2 a).2.1 ≠ (TX2 b).2.1 := by decide +kernel
theorem tyX2_ok : ∀ k, k < 6 → parseFieldDescriptor (TX2 k).2.2.1 = some (tyX2 k) := by decide +kernel
abbrev cX2_init : ByteArray := prog_4_method_1_code
def yX2_init : MethodName := ⟨RX2, "<init>", "()V"⟩
abbrev cX2_append : ByteArray := prog_4_method_2_code
def yX2_append : MethodName := ⟨RX2, "append", "(I)V"⟩
abbrev cX2_byteAt : ByteArray := prog_4_method_3_code
def yX2_byteAt : MethodName := ⟨RX2, "byteAt", "(I)I"⟩
abbrev cX2_number : ByteArray := prog_4_method_4_code
def yX2_number : MethodName := ⟨RX2, "number", "(I)I"⟩
abbrev cX2_findFault : ByteArray := prog_4_method_5_code
def yX2_findFault : MethodName := ⟨RX2, "findFault", "()I"⟩
abbrev cX2_startReading : ByteArray := prog_4_method_6_code
def yX2_startReading : MethodName := ⟨RX2, "startReading", "()V"⟩
abbrev cX2_hasCommand : ByteArray := prog_4_method_7_code
def yX2_hasCommand : MethodName := ⟨RX2, "hasCommand", "()Z"⟩
abbrev cX2_readCommand : ByteArray := prog_4_method_8_code
def yX2_readCommand : MethodName := ⟨RX2, "readCommand", "()V"⟩
abbrev cX2_readNumber : ByteArray := prog_4_method_9_code
def yX2_readNumber : MethodName := ⟨RX2, "readNumber", "(I)V"⟩
abbrev cX2_readDigits : ByteArray := prog_4_method_10_code
def yX2_readDigits : MethodName := ⟨RX2, "readDigits", "()I"⟩
abbrev cX2_readSemicolon : ByteArray := prog_4_method_11_code
def yX2_readSemicolon : MethodName := ⟨RX2, "readSemicolon", "()V"⟩
abbrev cX2_skipSpaces : ByteArray := prog_4_method_12_code
def yX2_skipSpaces : MethodName := ⟨RX2, "skipSpaces", "()V"⟩
abbrev cX2_skipLetters : ByteArray := prog_4_method_13_code
def yX2_skipLetters : MethodName := ⟨RX2, "skipLetters", "()V"⟩
abbrev cX2_commandSpelled : ByteArray := prog_4_method_14_code
def yX2_commandSpelled : MethodName := ⟨RX2, "commandSpelled", "(II)LConsentQueue$Command;"⟩
abbrev cX2_isSpelled : ByteArray := prog_4_method_15_code
def yX2_isSpelled : MethodName := ⟨RX2, "isSpelled", "(Ljava/lang/String;II)Z"⟩
abbrev cX2_isLetter : ByteArray := prog_4_method_16_code
def yX2_isLetter : MethodName := ⟨RX2, "isLetter", "(I)Z"⟩
abbrev cX2_isDigit : ByteArray := prog_4_method_17_code
def yX2_isDigit : MethodName := ⟨RX2, "isDigit", "(I)Z"⟩
def RX3 : String := "ConsentQueue$History"
def TX3 : u_T := fun k => match k with
  | 0 => ("ConsentQueue$History", "saved", "[LConsentQueue$Line;", true)
  | _ => ("ConsentQueue$History", "size", "I", false)
def tyX3 : Nat → FieldType := fun k => match k with
  | 0 => .array (.object "ConsentQueue$Line")
  | _ => .int
abbrev wsX30 : List Cond := u_ws RX3 TX3 2
theorem nmX3 : ∀ a, a < 2 → ∀ b, b < 2 → a ≠ b → (TX3 a).2.1 ≠ (TX3 b).2.1 := by decide +kernel
theorem tyX3_ok : ∀ k, k < 2 → parseFieldDescriptor (TX3 k).2.2.1 = some (tyX3 k) := by decide +kernel
abbrev cX3_init : ByteArray := prog_5_method_1_code
def yX3_init : MethodName := ⟨RX3, "<init>", "()V"⟩
abbrev cX3_push : ByteArray := prog_5_method_2_code
def yX3_push : MethodName := ⟨RX3, "push", "(LConsentQueue$Line;)V"⟩
abbrev cX3_dropOldest : ByteArray := prog_5_method_3_code
def yX3_dropOldest : MethodName := ⟨RX3, "dropOldest", "()V"⟩
abbrev cX3_popInto : ByteArray := prog_5_method_4_code
def yX3_popInto : MethodName := ⟨RX3, "popInto", "(LConsentQueue$Line;)V"⟩
def RX4 : String := "ConsentQueue$Line"
def TX4 : u_T := fun k => match k with
  | 0 => ("ConsentQueue$Line", "members", "[LConsentQueue$Member;", true)
  | 1 => ("ConsentQueue$Line", "nobody", "LConsentQueue$Member;", true)
  | 2 => ("ConsentQueue$Line", "count", "I", false)
  | 3 => ("ConsentQueue$Line", "split", "I", false)
  | 4 => ("ConsentQueue$Line", "swaps", "I", false)
  | 5 => ("ConsentQueue$Line", "paid", "I", false)
  | 6 => ("ConsentQueue$Line", "served", "I", false)
  | _ => ("ConsentQueue$Line", "joined", "I", false)
def tyX4 : Nat → FieldType := fun k => match k with
  | 0 => .array (.object "ConsentQueue$Member")
  | 1 => .object "ConsentQueue$Member"
  | 2 => .int
  | 3 => .int
  | 4 => .int
  | 5 => .int
  | 6 => .int
  | _ => .int
abbrev wsX40 : List Cond := u_ws RX4 TX4 8
theorem nmX4 : ∀ a, a < 8 → ∀ b, b < 8 → a ≠ b → (TX4 a).2.1 ≠ (TX4 b).2.1 := by decide +kernel
theorem tyX4_ok : ∀ k, k < 8 → parseFieldDescriptor (TX4 k).2.2.1 = some (tyX4 k) := by decide +kernel
abbrev cX4_init : ByteArray := prog_6_method_1_code
def yX4_init : MethodName := ⟨RX4, "<init>", "()V"⟩
abbrev cX4_copyFrom : ByteArray := prog_6_method_2_code
def yX4_copyFrom : MethodName := ⟨RX4, "copyFrom", "(LConsentQueue$Line;)V"⟩
abbrev cX4_memberAt : ByteArray := prog_6_method_3_code
def yX4_memberAt : MethodName := ⟨RX4, "memberAt", "(I)LConsentQueue$Member;"⟩
abbrev cX4_placeOf : ByteArray := prog_6_method_4_code
def yX4_placeOf : MethodName := ⟨RX4, "placeOf", "(I)I"⟩
abbrev cX4_insert : ByteArray := prog_6_method_5_code
def yX4_insert : MethodName := ⟨RX4, "insert", "(III)I"⟩
abbrev cX4_removeMember : ByteArray := prog_6_method_6_code
def yX4_removeMember : MethodName := ⟨RX4, "removeMember", "(I)I"⟩
abbrev cX4_serveFirst : ByteArray := prog_6_method_7_code
def yX4_serveFirst : MethodName := ⟨RX4, "serveFirst", "()I"⟩
abbrev cX4_removeAt : ByteArray := prog_6_method_8_code
def yX4_removeAt : MethodName := ⟨RX4, "removeAt", "(I)V"⟩
abbrev cX4_tell : ByteArray := prog_6_method_9_code
def yX4_tell : MethodName := ⟨RX4, "tell", "(II)I"⟩
abbrev cX4_tellTruth : ByteArray := prog_6_method_10_code
def yX4_tellTruth : MethodName := ⟨RX4, "tellTruth", "()V"⟩
abbrev cX4_makeOffer : ByteArray := prog_6_method_11_code
def yX4_makeOffer : MethodName := ⟨RX4, "makeOffer", "(II)I"⟩
abbrev cX4_setFriends : ByteArray := prog_6_method_12_code
def yX4_setFriends : MethodName := ⟨RX4, "setFriends", "(IZ)I"⟩
abbrev cX4_swapAsOffered : ByteArray := prog_6_method_13_code
def yX4_swapAsOffered : MethodName := ⟨RX4, "swapAsOffered", "(I)I"⟩
abbrev cX4_swapFairly : ByteArray := prog_6_method_14_code
def yX4_swapFairly : MethodName := ⟨RX4, "swapFairly", "(I)I"⟩
abbrev cX4_swapAt : ByteArray := prog_6_method_15_code
def yX4_swapAt : MethodName := ⟨RX4, "swapAt", "(II)I"⟩
abbrev cX4_settleDown : ByteArray := prog_6_method_16_code
def yX4_settleDown : MethodName := ⟨RX4, "settleDown", "()I"⟩
abbrev cX4_keenestPair : ByteArray := prog_6_method_17_code
def yX4_keenestPair : MethodName := ⟨RX4, "keenestPair", "()I"⟩
abbrev cX4_gain : ByteArray := prog_6_method_18_code
def yX4_gain : MethodName := ⟨RX4, "gain", "(I)I"⟩
abbrev cX4_loss : ByteArray := prog_6_method_19_code
def yX4_loss : MethodName := ⟨RX4, "loss", "(I)I"⟩
abbrev cX4_surplus : ByteArray := prog_6_method_20_code
def yX4_surplus : MethodName := ⟨RX4, "surplus", "(I)I"⟩
abbrev cX4_fairPrice : ByteArray := prog_6_method_21_code
def yX4_fairPrice : MethodName := ⟨RX4, "fairPrice", "(I)I"⟩
abbrev cX4_areFriends : ByteArray := prog_6_method_22_code
def yX4_areFriends : MethodName := ⟨RX4, "areFriends", "(I)Z"⟩
abbrev cX4_isHeldByFriends : ByteArray := prog_6_method_23_code
def yX4_isHeldByFriends : MethodName := ⟨RX4, "isHeldByFriends", "(I)Z"⟩
abbrev cX4_wouldSwap : ByteArray := prog_6_method_24_code
def yX4_wouldSwap : MethodName := ⟨RX4, "wouldSwap", "(I)Z"⟩
abbrev cX4_wouldTake : ByteArray := prog_6_method_25_code
def yX4_wouldTake : MethodName := ⟨RX4, "wouldTake", "(I)Z"⟩
abbrev cX4_hindrance : ByteArray := prog_6_method_26_code
def yX4_hindrance : MethodName := ⟨RX4, "hindrance", "(I)I"⟩
abbrev cX4_pairValue : ByteArray := prog_6_method_27_code
def yX4_pairValue : MethodName := ⟨RX4, "pairValue", "(II)I"⟩
abbrev cX4_waitAt : ByteArray := prog_6_method_28_code
def yX4_waitAt : MethodName := ⟨RX4, "waitAt", "(I)I"⟩
abbrev cX4_costAt : ByteArray := prog_6_method_29_code
def yX4_costAt : MethodName := ⟨RX4, "costAt", "(I)I"⟩
abbrev cX4_friendsAt : ByteArray := prog_6_method_30_code
def yX4_friendsAt : MethodName := ⟨RX4, "friendsAt", "(I)I"⟩
abbrev cX4_memberValue : ByteArray := prog_6_method_31_code
def yX4_memberValue : MethodName := ⟨RX4, "memberValue", "(II)I"⟩
abbrev cX4_cost : ByteArray := prog_6_method_32_code
def yX4_cost : MethodName := ⟨RX4, "cost", "()I"⟩
abbrev cX4_toldCost : ByteArray := prog_6_method_33_code
def yX4_toldCost : MethodName := ⟨RX4, "toldCost", "()I"⟩
abbrev cX4_bestCost : ByteArray := prog_6_method_34_code
def yX4_bestCost : MethodName := ⟨RX4, "bestCost", "()I"⟩
abbrev cX4_wrongPairs : ByteArray := prog_6_method_35_code
def yX4_wrongPairs : MethodName := ⟨RX4, "wrongPairs", "()I"⟩
abbrev cX4_waitingCost : ByteArray := prog_6_method_36_code
def yX4_waitingCost : MethodName := ⟨RX4, "waitingCost", "(II)I"⟩
abbrev cX4_willingPairs : ByteArray := prog_6_method_37_code
def yX4_willingPairs : MethodName := ⟨RX4, "willingPairs", "()I"⟩
abbrev cX4_offers : ByteArray := prog_6_method_38_code
def yX4_offers : MethodName := ⟨RX4, "offers", "()I"⟩
abbrev cX4_welcomeOffers : ByteArray := prog_6_method_39_code
def yX4_welcomeOffers : MethodName := ⟨RX4, "welcomeOffers", "()I"⟩
abbrev cX4_friendPairs : ByteArray := prog_6_method_40_code
def yX4_friendPairs : MethodName := ⟨RX4, "friendPairs", "()I"⟩
abbrev cX4_wholeValue : ByteArray := prog_6_method_41_code
def yX4_wholeValue : MethodName := ⟨RX4, "wholeValue", "(I)I"⟩
def RX5 : String := "ConsentQueue$Member"
def TX5 : u_T := fun k => match k with
  | 0 => ("ConsentQueue$Member", "number", "I", false)
  | 1 => ("ConsentQueue$Member", "worth", "I", false)
  | 2 => ("ConsentQueue$Member", "told", "I", false)
  | 3 => ("ConsentQueue$Member", "service", "I", false)
  | 4 => ("ConsentQueue$Member", "money", "I", false)
  | 5 => ("ConsentQueue$Member", "offer", "I", false)
  | _ => ("ConsentQueue$Member", "friendAhead", "Z", false)
def tyX5 : Nat → FieldType := fun k => match k with
  | 0 => .int
  | 1 => .int
  | 2 => .int
  | 3 => .int
  | 4 => .int
  | 5 => .int
  | _ => .boolean
abbrev wsX50 : List Cond := u_ws RX5 TX5 7
theorem nmX5 : ∀ a, a < 7 → ∀ b, b < 7 → a ≠ b → (TX5 a).2.1 ≠ (TX5 b).2.1 := by decide +kernel
theorem tyX5_ok : ∀ k, k < 7 → parseFieldDescriptor (TX5 k).2.2.1 = some (tyX5 k) := by decide +kernel
abbrev cX5_init : ByteArray := prog_7_method_1_code
def yX5_init : MethodName := ⟨RX5, "<init>", "()V"⟩
abbrev cX5_copyFrom : ByteArray := prog_7_method_2_code
def yX5_copyFrom : MethodName := ⟨RX5, "copyFrom", "(LConsentQueue$Member;)V"⟩
abbrev cX5_begin : ByteArray := prog_7_method_3_code
def yX5_begin : MethodName := ⟨RX5, "begin", "(III)V"⟩
abbrev cX5_loseOneAhead : ByteArray := prog_7_method_4_code
def yX5_loseOneAhead : MethodName := ⟨RX5, "loseOneAhead", "()V"⟩
def RX6 : String := "ConsentQueue"
def TX6 : u_T := fun k => match k with
  | 0 => ("ConsentQueue", "line", "LConsentQueue$Line;", true)
  | 1 => ("ConsentQueue", "trial", "LConsentQueue$Line;", true)
  | 2 => ("ConsentQueue", "history", "LConsentQueue$History;", true)
  | _ => ("ConsentQueue", "text", "LConsentQueue$CommandText;", true)
def tyX6 : Nat → FieldType := fun k => match k with
  | 0 => .object "ConsentQueue$Line"
  | 1 => .object "ConsentQueue$Line"
  | 2 => .object "ConsentQueue$History"
  | _ => .object "ConsentQueue$CommandText"
abbrev wsX60 : List Cond := u_ws RX6 TX6 4
theorem nmX6 : ∀ a, a < 4 → ∀ b, b < 4 → a ≠ b → (TX6 a).2.1 ≠ (TX6 b).2.1 := by decide +kernel
theorem tyX6_ok : ∀ k, k < 4 → parseFieldDescriptor (TX6 k).2.2.1 = some (tyX6 k) := by decide +kernel
abbrev cX6_init : ByteArray := prog_1_method_1_code
def yX6_init : MethodName := ⟨RX6, "<init>", "()V"⟩
abbrev cX6_join : ByteArray := prog_1_method_2_code
def yX6_join : MethodName := ⟨RX6, "join", "(II)I"⟩
abbrev cX6_joinAt : ByteArray := prog_1_method_3_code
def yX6_joinAt : MethodName := ⟨RX6, "joinAt", "(III)I"⟩
abbrev cX6_leave : ByteArray := prog_1_method_4_code
def yX6_leave : MethodName := ⟨RX6, "leave", "(I)I"⟩
abbrev cX6_serve : ByteArray := prog_1_method_5_code
def yX6_serve : MethodName := ⟨RX6, "serve", "()I"⟩
abbrev cX6_say : ByteArray := prog_1_method_6_code
def yX6_say : MethodName := ⟨RX6, "say", "(II)I"⟩
abbrev cX6_setSplit : ByteArray := prog_1_method_7_code
def yX6_setSplit : MethodName := ⟨RX6, "setSplit", "(I)I"⟩
abbrev cX6_offer : ByteArray := prog_1_method_8_code
def yX6_offer : MethodName := ⟨RX6, "offer", "(II)I"⟩
abbrev cX6_take : ByteArray := prog_1_method_9_code
def yX6_take : MethodName := ⟨RX6, "take", "(I)I"⟩
abbrev cX6_swap : ByteArray := prog_1_method_10_code
def yX6_swap : MethodName := ⟨RX6, "swap", "(I)I"⟩
abbrev cX6_befriend : ByteArray := prog_1_method_11_code
def yX6_befriend : MethodName := ⟨RX6, "befriend", "(I)I"⟩
abbrev cX6_part : ByteArray := prog_1_method_12_code
def yX6_part : MethodName := ⟨RX6, "part", "(I)I"⟩
abbrev cX6_settle : ByteArray := prog_1_method_13_code
def yX6_settle : MethodName := ⟨RX6, "settle", "()I"⟩
abbrev cX6_member : ByteArray := prog_1_method_14_code
def yX6_member : MethodName := ⟨RX6, "member", "(II)I"⟩
abbrev cX6_at : ByteArray := prog_1_method_15_code
def yX6_at : MethodName := ⟨RX6, "at", "(I)I"⟩
abbrev cX6_pair : ByteArray := prog_1_method_16_code
def yX6_pair : MethodName := ⟨RX6, "pair", "(II)I"⟩
abbrev cX6_whole : ByteArray := prog_1_method_17_code
def yX6_whole : MethodName := ⟨RX6, "whole", "(I)I"⟩
abbrev cX6_reason : ByteArray := prog_1_method_18_code
def yX6_reason : MethodName := ⟨RX6, "reason", "(I)I"⟩
abbrev cX6_settledPlace : ByteArray := prog_1_method_19_code
def yX6_settledPlace : MethodName := ⟨RX6, "settledPlace", "(I)I"⟩
abbrev cX6_profit : ByteArray := prog_1_method_20_code
def yX6_profit : MethodName := ⟨RX6, "profit", "(II)I"⟩
abbrev cX6_bestLie : ByteArray := prog_1_method_21_code
def yX6_bestLie : MethodName := ⟨RX6, "bestLie", "(I)I"⟩
abbrev cX6_honestCost : ByteArray := prog_1_method_22_code
def yX6_honestCost : MethodName := ⟨RX6, "honestCost", "()I"⟩
abbrev cX6_disorder : ByteArray := prog_1_method_23_code
def yX6_disorder : MethodName := ⟨RX6, "disorder", "()I"⟩
abbrev cX6_type : ByteArray := prog_1_method_24_code
def yX6_type : MethodName := ⟨RX6, "type", "(I)I"⟩
abbrev cX6_clearCommands : ByteArray := prog_1_method_25_code
def yX6_clearCommands : MethodName := ⟨RX6, "clearCommands", "()I"⟩
abbrev cX6_runCommands : ByteArray := prog_1_method_26_code
def yX6_runCommands : MethodName := ⟨RX6, "runCommands", "()I"⟩
abbrev cX6_undo : ByteArray := prog_1_method_27_code
def yX6_undo : MethodName := ⟨RX6, "undo", "()I"⟩
abbrev cX6_digest : ByteArray := prog_1_method_28_code
def yX6_digest : MethodName := ⟨RX6, "digest", "()J"⟩
abbrev cX6_digestMembers : ByteArray := prog_1_method_29_code
def yX6_digestMembers : MethodName := ⟨RX6, "digestMembers", "(J)J"⟩
abbrev cX6_digestPairs : ByteArray := prog_1_method_30_code
def yX6_digestPairs : MethodName := ⟨RX6, "digestPairs", "(J)J"⟩
abbrev cX6_wholeValue : ByteArray := prog_1_method_31_code
def yX6_wholeValue : MethodName := ⟨RX6, "wholeValue", "(I)I"⟩
abbrev cX6_profitAt : ByteArray := prog_1_method_32_code
def yX6_profitAt : MethodName := ⟨RX6, "profitAt", "(II)I"⟩
abbrev cX6_perform : ByteArray := prog_1_method_33_code
def yX6_perform : MethodName := ⟨RX6, "perform", "(LConsentQueue$Command;III)I"⟩
abbrev cX6_carryOutRead : ByteArray := prog_1_method_34_code
def yX6_carryOutRead : MethodName := ⟨RX6, "carryOutRead", "(LConsentQueue$Command;)Z"⟩
abbrev cX6_faultOf : ByteArray := prog_1_method_35_code
def yX6_faultOf : MethodName := ⟨RX6, "faultOf", "(LConsentQueue$Command;III)I"⟩
abbrev cX6_carryOut : ByteArray := prog_1_method_36_code
def yX6_carryOut : MethodName := ⟨RX6, "carryOut", "(LConsentQueue$Command;III)I"⟩
abbrev cX6_joinFault : ByteArray := prog_1_method_37_code
def yX6_joinFault : MethodName := ⟨RX6, "joinFault", "(III)I"⟩
abbrev cX6_offerFault : ByteArray := prog_1_method_38_code
def yX6_offerFault : MethodName := ⟨RX6, "offerFault", "(II)I"⟩
abbrev cX6_takeFault : ByteArray := prog_1_method_39_code
def yX6_takeFault : MethodName := ⟨RX6, "takeFault", "(I)I"⟩
abbrev cX6_memberFault : ByteArray := prog_1_method_40_code
def yX6_memberFault : MethodName := ⟨RX6, "memberFault", "(IZ)I"⟩
abbrev cX6_pairFault : ByteArray := prog_1_method_41_code
def yX6_pairFault : MethodName := ⟨RX6, "pairFault", "(IZI)I"⟩
abbrev cX6_isWithin : ByteArray := prog_1_method_42_code
def yX6_isWithin : MethodName := ⟨RX6, "isWithin", "(III)Z"⟩
abbrev cX6_refuse : ByteArray := prog_1_method_43_code
def yX6_refuse : MethodName := ⟨RX6, "refuse", "(I)V"⟩
def RX7 : String := "ConsentQueueModel"
def TX7 : u_T := fun k => match k with
  | 0 => ("ConsentQueueModel", "row", "[I", true)
  | 1 => ("ConsentQueueModel", "kept", "I", false)
  | 2 => ("ConsentQueueModel", "thrown", "I", false)
  | 3 => ("ConsentQueueModel", "text", "[I", true)
  | 4 => ("ConsentQueueModel", "length", "I", false)
  | 5 => ("ConsentQueueModel", "at", "I", false)
  | 6 => ("ConsentQueueModel", "numbers", "I", false)
  | 7 => ("ConsentQueueModel", "given", "[I", true)
  | _ => ("ConsentQueueModel", "best", "[I", true)
def tyX7 : Nat → FieldType := fun k => match k with
  | 0 => .array .int
  | 1 => .int
  | 2 => .int
  | 3 => .array .int
  | 4 => .int
  | 5 => .int
  | 6 => .int
  | 7 => .array .int
  | _ => .array .int
abbrev wsX70 : List Cond := u_ws RX7 TX7 9
theorem nmX7 : ∀ a, a < 9 → ∀ b, b < 9 → a ≠ b → (TX7 a).2.1 ≠ (TX7 b).2.1 := by decide +kernel
theorem tyX7_ok : ∀ k, k < 9 → parseFieldDescriptor (TX7 k).2.2.1 = some (tyX7 k) := by decide +kernel
abbrev cX7_init : ByteArray := prog_9_method_1_code
def yX7_init : MethodName := ⟨RX7, "<init>", "()V"⟩
abbrev cX7_thrown : ByteArray := prog_9_method_2_code
def yX7_thrown : MethodName := ⟨RX7, "thrown", "()I"⟩
abbrev cX7_isRefused : ByteArray := prog_9_method_3_code
def yX7_isRefused : MethodName := ⟨RX7, "isRefused", "(I)Z"⟩
abbrev cX7_in : ByteArray := prog_9_method_4_code
def yX7_in : MethodName := ⟨RX7, "in", "(III)Z"⟩
abbrev cX7_copies : ByteArray := prog_9_method_5_code
def yX7_copies : MethodName := ⟨RX7, "copies", "(II)V"⟩
abbrev cX7_saves : ByteArray := prog_9_method_6_code
def yX7_saves : MethodName := ⟨RX7, "saves", "()V"⟩
abbrev cX7_of : ByteArray := prog_9_method_7_code
def yX7_of : MethodName := ⟨RX7, "of", "(II)I"⟩
abbrev cX7_set : ByteArray := prog_9_method_8_code
def yX7_set : MethodName := ⟨RX7, "set", "(III)V"⟩
abbrev cX7_find : ByteArray := prog_9_method_9_code
def yX7_find : MethodName := ⟨RX7, "find", "(I)I"⟩
abbrev cX7_isPair : ByteArray := prog_9_method_10_code
def yX7_isPair : MethodName := ⟨RX7, "isPair", "(I)Z"⟩
abbrev cX7_brings : ByteArray := prog_9_method_11_code
def yX7_brings : MethodName := ⟨RX7, "brings", "(II)V"⟩
abbrev cX7_whyNoMember : ByteArray := prog_9_method_12_code
def yX7_whyNoMember : MethodName := ⟨RX7, "whyNoMember", "(I)I"⟩
abbrev cX7_whyNotJoin : ByteArray := prog_9_method_13_code
def yX7_whyNotJoin : MethodName := ⟨RX7, "whyNotJoin", "(III)I"⟩
abbrev cX7_joins : ByteArray := prog_9_method_14_code
def yX7_joins : MethodName := ⟨RX7, "joins", "(III)I"⟩
abbrev cX7_join : ByteArray := prog_9_method_15_code
def yX7_join : MethodName := ⟨RX7, "join", "(II)I"⟩
abbrev cX7_joinAt : ByteArray := prog_9_method_16_code
def yX7_joinAt : MethodName := ⟨RX7, "joinAt", "(III)I"⟩
abbrev cX7_goes : ByteArray := prog_9_method_17_code
def yX7_goes : MethodName := ⟨RX7, "goes", "(I)V"⟩
abbrev cX7_leave : ByteArray := prog_9_method_18_code
def yX7_leave : MethodName := ⟨RX7, "leave", "(I)I"⟩
abbrev cX7_serves : ByteArray := prog_9_method_19_code
def yX7_serves : MethodName := ⟨RX7, "serves", "()I"⟩
abbrev cX7_serve : ByteArray := prog_9_method_20_code
def yX7_serve : MethodName := ⟨RX7, "serve", "()I"⟩
abbrev cX7_whyNotSay : ByteArray := prog_9_method_21_code
def yX7_whyNotSay : MethodName := ⟨RX7, "whyNotSay", "(II)I"⟩
abbrev cX7_says : ByteArray := prog_9_method_22_code
def yX7_says : MethodName := ⟨RX7, "says", "(II)I"⟩
abbrev cX7_say : ByteArray := prog_9_method_23_code
def yX7_say : MethodName := ⟨RX7, "say", "(II)I"⟩
abbrev cX7_setSplit : ByteArray := prog_9_method_24_code
def yX7_setSplit : MethodName := ⟨RX7, "setSplit", "(I)I"⟩
abbrev cX7_gain : ByteArray := prog_9_method_25_code
def yX7_gain : MethodName := ⟨RX7, "gain", "(I)I"⟩
abbrev cX7_loss : ByteArray := prog_9_method_26_code
def yX7_loss : MethodName := ⟨RX7, "loss", "(I)I"⟩
abbrev cX7_surplus : ByteArray := prog_9_method_27_code
def yX7_surplus : MethodName := ⟨RX7, "surplus", "(I)I"⟩
abbrev cX7_fairPrice : ByteArray := prog_9_method_28_code
def yX7_fairPrice : MethodName := ⟨RX7, "fairPrice", "(I)I"⟩
abbrev cX7_friendsAgainst : ByteArray := prog_9_method_29_code
def yX7_friendsAgainst : MethodName := ⟨RX7, "friendsAgainst", "(I)I"⟩
abbrev cX7_reasonOf : ByteArray := prog_9_method_30_code
def yX7_reasonOf : MethodName := ⟨RX7, "reasonOf", "(I)I"⟩
abbrev cX7_swaps : ByteArray := prog_9_method_31_code
def yX7_swaps : MethodName := ⟨RX7, "swaps", "(II)I"⟩
abbrev cX7_whyNotOffer : ByteArray := prog_9_method_32_code
def yX7_whyNotOffer : MethodName := ⟨RX7, "whyNotOffer", "(II)I"⟩
abbrev cX7_offers : ByteArray := prog_9_method_33_code
def yX7_offers : MethodName := ⟨RX7, "offers", "(II)I"⟩
abbrev cX7_offer : ByteArray := prog_9_method_34_code
def yX7_offer : MethodName := ⟨RX7, "offer", "(II)I"⟩
abbrev cX7_isTaken : ByteArray := prog_9_method_35_code
def yX7_isTaken : MethodName := ⟨RX7, "isTaken", "(I)Z"⟩
abbrev cX7_whyNotTake : ByteArray := prog_9_method_36_code
def yX7_whyNotTake : MethodName := ⟨RX7, "whyNotTake", "(I)I"⟩
abbrev cX7_takes : ByteArray := prog_9_method_37_code
def yX7_takes : MethodName := ⟨RX7, "takes", "(I)I"⟩
abbrev cX7_take : ByteArray := prog_9_method_38_code
def yX7_take : MethodName := ⟨RX7, "take", "(I)I"⟩
abbrev cX7_whyNotSwap : ByteArray := prog_9_method_39_code
def yX7_whyNotSwap : MethodName := ⟨RX7, "whyNotSwap", "(I)I"⟩
abbrev cX7_swap : ByteArray := prog_9_method_40_code
def yX7_swap : MethodName := ⟨RX7, "swap", "(I)I"⟩
abbrev cX7_friends : ByteArray := prog_9_method_41_code
def yX7_friends : MethodName := ⟨RX7, "friends", "()I"⟩
abbrev cX7_whyNotFriends : ByteArray := prog_9_method_42_code
def yX7_whyNotFriends : MethodName := ⟨RX7, "whyNotFriends", "(II)I"⟩
abbrev cX7_befriends : ByteArray := prog_9_method_43_code
def yX7_befriends : MethodName := ⟨RX7, "befriends", "(II)I"⟩
abbrev cX7_befriend : ByteArray := prog_9_method_44_code
def yX7_befriend : MethodName := ⟨RX7, "befriend", "(I)I"⟩
abbrev cX7_part : ByteArray := prog_9_method_45_code
def yX7_part : MethodName := ⟨RX7, "part", "(I)I"⟩
abbrev cX7_settles : ByteArray := prog_9_method_46_code
def yX7_settles : MethodName := ⟨RX7, "settles", "()I"⟩
abbrev cX7_settle : ByteArray := prog_9_method_47_code
def yX7_settle : MethodName := ⟨RX7, "settle", "()I"⟩
abbrev cX7_waitOf : ByteArray := prog_9_method_48_code
def yX7_waitOf : MethodName := ⟨RX7, "waitOf", "(I)I"⟩
abbrev cX7_costBy : ByteArray := prog_9_method_49_code
def yX7_costBy : MethodName := ⟨RX7, "costBy", "(I)I"⟩
abbrev cX7_memberValue : ByteArray := prog_9_method_50_code
def yX7_memberValue : MethodName := ⟨RX7, "memberValue", "(II)I"⟩
abbrev cX7_member : ByteArray := prog_9_method_51_code
def yX7_member : MethodName := ⟨RX7, "member", "(II)I"⟩
abbrev cX7_at : ByteArray := prog_9_method_52_code
def yX7_at : MethodName := ⟨RX7, "at", "(I)I"⟩
abbrev cX7_pairValue : ByteArray := prog_9_method_53_code
def yX7_pairValue : MethodName := ⟨RX7, "pairValue", "(II)I"⟩
abbrev cX7_pair : ByteArray := prog_9_method_54_code
def yX7_pair : MethodName := ⟨RX7, "pair", "(II)I"⟩
abbrev cX7_bestCost : ByteArray := prog_9_method_55_code
def yX7_bestCost : MethodName := ⟨RX7, "bestCost", "()I"⟩
abbrev cX7_wholeValue : ByteArray := prog_9_method_56_code
def yX7_wholeValue : MethodName := ⟨RX7, "wholeValue", "(I)I"⟩
abbrev cX7_whole : ByteArray := prog_9_method_57_code
def yX7_whole : MethodName := ⟨RX7, "whole", "(I)I"⟩
abbrev cX7_reason : ByteArray := prog_9_method_58_code
def yX7_reason : MethodName := ⟨RX7, "reason", "(I)I"⟩
abbrev cX7_putAside : ByteArray := prog_9_method_59_code
def yX7_putAside : MethodName := ⟨RX7, "putAside", "()V"⟩
abbrev cX7_comesBack : ByteArray := prog_9_method_60_code
def yX7_comesBack : MethodName := ⟨RX7, "comesBack", "()V"⟩
abbrev cX7_settledPlace : ByteArray := prog_9_method_61_code
def yX7_settledPlace : MethodName := ⟨RX7, "settledPlace", "(I)I"⟩
abbrev cX7_has : ByteArray := prog_9_method_62_code
def yX7_has : MethodName := ⟨RX7, "has", "(I)I"⟩
abbrev cX7_profitBy : ByteArray := prog_9_method_63_code
def yX7_profitBy : MethodName := ⟨RX7, "profitBy", "(II)I"⟩
abbrev cX7_profit : ByteArray := prog_9_method_64_code
def yX7_profit : MethodName := ⟨RX7, "profit", "(II)I"⟩
abbrev cX7_bestLie : ByteArray := prog_9_method_65_code
def yX7_bestLie : MethodName := ⟨RX7, "bestLie", "(I)I"⟩
abbrev cX7_honestCost : ByteArray := prog_9_method_66_code
def yX7_honestCost : MethodName := ⟨RX7, "honestCost", "()I"⟩
abbrev cX7_disorder : ByteArray := prog_9_method_67_code
def yX7_disorder : MethodName := ⟨RX7, "disorder", "()I"⟩
abbrev cX7_type : ByteArray := prog_9_method_68_code
def yX7_type : MethodName := ⟨RX7, "type", "(I)I"⟩
abbrev cX7_clearCommands : ByteArray := prog_9_method_69_code
def yX7_clearCommands : MethodName := ⟨RX7, "clearCommands", "()I"⟩
abbrev cX7_here : ByteArray := prog_9_method_70_code
def yX7_here : MethodName := ⟨RX7, "here", "()I"⟩
abbrev cX7_passSpaces : ByteArray := prog_9_method_71_code
def yX7_passSpaces : MethodName := ⟨RX7, "passSpaces", "()V"⟩
abbrev cX7_word : ByteArray := prog_9_method_72_code
def yX7_word : MethodName := ⟨RX7, "word", "()I"⟩
abbrev cX7_numbersOf : ByteArray := prog_9_method_73_code
def yX7_numbersOf : MethodName := ⟨RX7, "numbersOf", "(I)I"⟩
abbrev cX7_isNumber : ByteArray := prog_9_method_74_code
def yX7_isNumber : MethodName := ⟨RX7, "isNumber", "()Z"⟩
abbrev cX7_command : ByteArray := prog_9_method_75_code
def yX7_command : MethodName := ⟨RX7, "command", "()I"⟩
abbrev cX7_fault : ByteArray := prog_9_method_76_code
def yX7_fault : MethodName := ⟨RX7, "fault", "()I"⟩
abbrev cX7_whyNot : ByteArray := prog_9_method_77_code
def yX7_whyNot : MethodName := ⟨RX7, "whyNot", "(IIII)I"⟩
abbrev cX7_does : ByteArray := prog_9_method_78_code
def yX7_does : MethodName := ⟨RX7, "does", "(IIII)V"⟩
abbrev cX7_runCommands : ByteArray := prog_9_method_79_code
def yX7_runCommands : MethodName := ⟨RX7, "runCommands", "()I"⟩
abbrev cX7_undo : ByteArray := prog_9_method_80_code
def yX7_undo : MethodName := ⟨RX7, "undo", "()I"⟩
abbrev cX7_digest : ByteArray := prog_9_method_81_code
def yX7_digest : MethodName := ⟨RX7, "digest", "()J"⟩
def RJx29ce0 : String := "java/lang/Enum"
def TJx29ce0 : u_T := fun k => match k with
  | _ => ("", "", "", false)
def tyJx29ce0 : Nat → FieldType := fun k => match k with
  | _ => .int
abbrev wsJx29ce00 : List Cond := u_ws RJx29ce0 TJx29ce0 0
theorem nmJx29ce0 : ∀ a, a < 0 → ∀ b, b < 0 → a ≠ b → (TJx29ce0 a).2.1 ≠ (TJx29ce0 b).2.1 := by decide +kernel
theorem tyJx29ce0_ok : ∀ k, k < 0 → parseFieldDescriptor (TJx29ce0 k).2.2.1 = some (tyJx29ce0 k) := by decide +kernel
abbrev cJx29ce0_ordinal_8abf5 : ByteArray := prog_10_method_2_code
def yJx29ce0_ordinal_8abf5 : MethodName := ⟨RJx29ce0, "ordinal", "()I"⟩
def RJ9 : String := "java/lang/Math"
def TJ9 : u_T := fun k => match k with
  | _ => ("", "", "", false)
def tyJ9 : Nat → FieldType := fun k => match k with
  | _ => .int
abbrev wsJ90 : List Cond := u_ws RJ9 TJ9 0
theorem nmJ9 : ∀ a, a < 0 → ∀ b, b < 0 → a ≠ b → (TJ9 a).2.1 ≠ (TJ9 b).2.1 := by decide +kernel
theorem tyJ9_ok : ∀ k, k < 0 → parseFieldDescriptor (TJ9 k).2.2.1 = some (tyJ9 k) := by decide +kernel
abbrev cJ9_min_7cf53 : ByteArray := prog_15_method_69_code
def yJ9_min_7cf53 : MethodName := ⟨RJ9, "min", "(II)I"⟩
def RJ0 : String := "java/lang/String"
def TJ0 : u_T := fun k => match k with
  | _ => ("", "", "", false)
def tyJ0 : Nat → FieldType := fun k => match k with
  | _ => .int
abbrev wsJ00 : List Cond := u_ws RJ0 TJ0 0
theorem nmJ0 : ∀ a, a < 0 → ∀ b, b < 0 → a ≠ b → (TJ0 a).2.1 ≠ (TJ0 b).2.1 := by decide +kernel
theorem tyJ0_ok : ∀ k, k < 0 → parseFieldDescriptor (TJ0 k).2.2.1 = some (tyJ0 k) := by decide +kernel
abbrev cJ0_length_8abf5 : ByteArray := prog_17_method_54_code
def yJ0_length_8abf5 : MethodName := ⟨RJ0, "length", "()I"⟩
abbrev cJ0_charAt_5068e : ByteArray := prog_17_method_56_code
def yJ0_charAt_5068e : MethodName := ⟨RJ0, "charAt", "(I)C"⟩
abbrev cJ0_coder_7d493 : ByteArray := prog_17_method_152_code
def yJ0_coder_7d493 : MethodName := ⟨RJ0, "coder", "()B"⟩
abbrev cJ0_isLatin1_aae02 : ByteArray := prog_17_method_154_code
def yJ0_isLatin1_aae02 : MethodName := ⟨RJ0, "isLatin1", "()Z"⟩
abbrev cJ0_checkIndex_df160 : ByteArray := prog_17_method_155_code
def yJ0_checkIndex_df160 : MethodName := ⟨RJ0, "checkIndex", "(II)V"⟩
def RJ1 : String := "java/lang/StringLatin1"
def TJ1 : u_T := fun k => match k with
  | _ => ("", "", "", false)
def tyJ1 : Nat → FieldType := fun k => match k with
  | _ => .int
abbrev wsJ10 : List Cond := u_ws RJ1 TJ1 0
theorem nmJ1 : ∀ a, a < 0 → ∀ b, b < 0 → a ≠ b → (TJ1 a).2.1 ≠ (TJ1 b).2.1 := by decide +kernel
theorem tyJ1_ok : ∀ k, k < 0 → parseFieldDescriptor (TJ1 k).2.2.1 = some (tyJ1 k) := by decide +kernel
abbrev cJ1_charAt_3b067 : ByteArray := prog_18_method_2_code
def yJ1_charAt_3b067 : MethodName := ⟨RJ1, "charAt", "([BI)C"⟩
def RJ2 : String := "java/lang/StringUTF16"
def TJ2 : u_T := fun k => match k with
  | _ => ("", "", "", false)
def tyJ2 : Nat → FieldType := fun k => match k with
  | _ => .int
abbrev wsJ20 : List Cond := u_ws RJ2 TJ2 0
theorem nmJ2 : ∀ a, a < 0 → ∀ b, b < 0 → a ≠ b → (TJ2 a).2.1 ≠ (TJ2 b).2.1 := by decide +kernel
theorem tyJ2_ok : ∀ k, k < 0 → parseFieldDescriptor (TJ2 k).2.2.1 = some (tyJ2 k) := by decide +kernel
abbrev cJ2_getChar_3b067 : ByteArray := prog_19_method_5_code
def yJ2_getChar_3b067 : MethodName := ⟨RJ2, "getChar", "([BI)C"⟩
abbrev cJ2_length_9d52b : ByteArray := prog_19_method_6_code
def yJ2_length_9d52b : MethodName := ⟨RJ2, "length", "([B)I"⟩
abbrev cJ2_charAt_3b067 : ByteArray := prog_19_method_83_code
def yJ2_charAt_3b067 : MethodName := ⟨RJ2, "charAt", "([BI)C"⟩
abbrev cJ2_checkIndex_2214a : ByteArray := prog_19_method_91_code
def yJ2_checkIndex_2214a : MethodName := ⟨RJ2, "checkIndex", "(I[B)V"⟩
def RJ3 : String := "jdk/internal/util/Preconditions"
def TJ3 : u_T := fun k => match k with
  | _ => ("", "", "", false)
def tyJ3 : Nat → FieldType := fun k => match k with
  | _ => .int
abbrev wsJ30 : List Cond := u_ws RJ3 TJ3 0
theorem nmJ3 : ∀ a, a < 0 → ∀ b, b < 0 → a ≠ b → (TJ3 a).2.1 ≠ (TJ3 b).2.1 := by decide +kernel
theorem tyJ3_ok : ∀ k, k < 0 → parseFieldDescriptor (TJ3 k).2.2.1 = some (tyJ3 k) := by decide +kernel
abbrev cJ3_checkIndex_8e157 : ByteArray := prog_21_method_11_code
def yJ3_checkIndex_8e157 : MethodName := ⟨RJ3, "checkIndex", "(IILjava/util/function/BiFunction;)I"⟩
def RL : String := "ConsentQueueLaw"
abbrev cL_join : ByteArray := method_3_code
def yL_join : MethodName := ⟨RL, "join", "(LConsentQueue;II[J)I"⟩
abbrev cL_joinAt : ByteArray := method_4_code
def yL_joinAt : MethodName := ⟨RL, "joinAt", "(LConsentQueue;III[J)I"⟩
abbrev cL_leave : ByteArray := method_5_code
def yL_leave : MethodName := ⟨RL, "leave", "(LConsentQueue;I[J)I"⟩
abbrev cL_serve : ByteArray := method_6_code
def yL_serve : MethodName := ⟨RL, "serve", "(LConsentQueue;[J)I"⟩
abbrev cL_say : ByteArray := method_7_code
def yL_say : MethodName := ⟨RL, "say", "(LConsentQueue;II[J)I"⟩
abbrev cL_setSplit : ByteArray := method_8_code
def yL_setSplit : MethodName := ⟨RL, "setSplit", "(LConsentQueue;I[J)I"⟩
abbrev cL_offer : ByteArray := method_9_code
def yL_offer : MethodName := ⟨RL, "offer", "(LConsentQueue;II[J)I"⟩
abbrev cL_take : ByteArray := method_10_code
def yL_take : MethodName := ⟨RL, "take", "(LConsentQueue;I[J)I"⟩
abbrev cL_swap : ByteArray := method_11_code
def yL_swap : MethodName := ⟨RL, "swap", "(LConsentQueue;I[J)I"⟩
abbrev cL_befriend : ByteArray := method_12_code
def yL_befriend : MethodName := ⟨RL, "befriend", "(LConsentQueue;I[J)I"⟩
abbrev cL_part : ByteArray := method_13_code
def yL_part : MethodName := ⟨RL, "part", "(LConsentQueue;I[J)I"⟩
abbrev cL_member : ByteArray := method_14_code
def yL_member : MethodName := ⟨RL, "member", "(LConsentQueue;II[J)I"⟩
abbrev cL_at : ByteArray := method_15_code
def yL_at : MethodName := ⟨RL, "at", "(LConsentQueue;I[J)I"⟩
abbrev cL_pair : ByteArray := method_16_code
def yL_pair : MethodName := ⟨RL, "pair", "(LConsentQueue;II[J)I"⟩
abbrev cL_whole : ByteArray := method_17_code
def yL_whole : MethodName := ⟨RL, "whole", "(LConsentQueue;I[J)I"⟩
abbrev cL_reason : ByteArray := method_18_code
def yL_reason : MethodName := ⟨RL, "reason", "(LConsentQueue;I[J)I"⟩
abbrev cL_settledPlace : ByteArray := method_19_code
def yL_settledPlace : MethodName := ⟨RL, "settledPlace", "(LConsentQueue;I[J)I"⟩
abbrev cL_profit : ByteArray := method_20_code
def yL_profit : MethodName := ⟨RL, "profit", "(LConsentQueue;II[J)I"⟩
abbrev cL_bestLie : ByteArray := method_21_code
def yL_bestLie : MethodName := ⟨RL, "bestLie", "(LConsentQueue;I[J)I"⟩
abbrev cL_type : ByteArray := method_22_code
def yL_type : MethodName := ⟨RL, "type", "(LConsentQueue;I[J)I"⟩
abbrev cL_undo : ByteArray := method_23_code
def yL_undo : MethodName := ⟨RL, "undo", "(LConsentQueue;[J)I"⟩
abbrev cL_law : ByteArray := code
def yL_law : MethodName := ⟨RL, "law", "([I)Z"⟩
theorem dX2_init_0 : decode cX2_init 0 = .ok (.aload_n 0, 1) := by decide +kernel
theorem dX2_init_1 : decode cX2_init 1 = .ok (.invokespecial 3, 3) := by decide +kernel
theorem dX2_init_4 : decode cX2_init 4 = .ok (.aload_n 0, 1) := by decide +kernel
theorem dX2_init_5 : decode cX2_init 5 = .ok (.sipush 150, 3) := by decide +kernel
theorem dX2_init_8 : decode cX2_init 8 = .ok (.newarray .byte, 2) := by decide +kernel
theorem dX2_init_10 : decode cX2_init 10 = .ok (.putfield 9, 3) := by decide +kernel
theorem dX2_init_13 : decode cX2_init 13 = .ok (.aload_n 0, 1) := by decide +kernel
theorem dX2_init_14 : decode cX2_init 14 = .ok (.iconst (-1), 1) := by decide +kernel
theorem dX2_init_15 : decode cX2_init 15 = .ok (.putfield 15, 3) := by decide +kernel
theorem dX2_init_18 : decode cX2_init 18 = .ok (.aload_n 0, 1) := by decide +kernel
theorem dX2_init_19 : decode cX2_init 19 = .ok (.iconst 3, 1) := by decide +kernel
theorem dX2_init_20 : decode cX2_init 20 = .ok (.newarray .int, 2) := by decide +kernel
theorem dX2_init_22 : decode cX2_init 22 = .ok (.putfield 19, 3) := by decide +kernel
theorem dX2_init_25 : decode cX2_init 25 = .ok (.return_, 1) := by decide +kernel
theorem dX2_append_0 : decode cX2_append 0 = .ok (.aload_n 0, 1) := by decide +kernel
theorem dX2_append_1 : decode cX2_append 1 = .ok (.getfield 23, 3) := by decide +kernel
theorem dX2_append_4 : decode cX2_append 4 = .ok (.ifCond .lt 36, 3) := by decide +kernel
theorem dX2_append_7 : decode cX2_append 7 = .ok (.aload_n 0, 1) := by decide +kernel
theorem dX2_append_8 : decode cX2_append 8 = .ok (.getfield 23, 3) := by decide +kernel
theorem dX2_append_11 : decode cX2_append 11 = .ok (.aload_n 0, 1) := by decide +kernel
theorem dX2_append_12 : decode cX2_append 12 = .ok (.getfield 9, 3) := by decide +kernel
theorem dX2_append_15 : decode cX2_append 15 = .ok (.arraylength, 1) := by decide +kernel
theorem dX2_append_16 : decode cX2_append 16 = .ok (.if_icmp .ge 24, 3) := by decide +kernel
theorem dX2_append_19 : decode cX2_append 19 = .ok (.aload_n 0, 1) := by decide +kernel
theorem dX2_append_20 : decode cX2_append 20 = .ok (.getfield 9, 3) := by decide +kernel
theorem dX2_append_23 : decode cX2_append 23 = .ok (.aload_n 0, 1) := by decide +kernel
theorem dX2_append_24 : decode cX2_append 24 = .ok (.getfield 23, 3) := by decide +kernel
theorem dX2_append_27 : decode cX2_append 27 = .ok (.iload_n 1, 1) := by decide +kernel
theorem dX2_append_28 : decode cX2_append 28 = .ok (.i2b, 1) := by decide +kernel
theorem dX2_append_29 : decode cX2_append 29 = .ok (.bastore, 1) := by decide +kernel
theorem dX2_append_30 : decode cX2_append 30 = .ok (.aload_n 0, 1) := by decide +kernel
theorem dX2_append_31 : decode cX2_append 31 = .ok (.dup, 1) := by decide +kernel
theorem dX2_append_32 : decode cX2_append 32 = .ok (.getfield 23, 3) := by decide +kernel
theorem dX2_append_35 : decode cX2_append 35 = .ok (.iconst 1, 1) := by decide +kernel
theorem dX2_append_36 : decode cX2_append 36 = .ok (.iadd, 1) := by decide +kernel
theorem dX2_append_37 : decode cX2_append 37 = .ok (.putfield 23, 3) := by decide +kernel
theorem dX2_append_40 : decode cX2_append 40 = .ok (.return_, 1) := by decide +kernel
theorem dX2_byteAt_0 : decode cX2_byteAt 0 = .ok (.iload_n 1, 1) := by decide +kernel
theorem dX2_byteAt_1 : decode cX2_byteAt 1 = .ok (.ifCond .lt 29, 3) := by decide +kernel
theorem dX2_byteAt_4 : decode cX2_byteAt 4 = .ok (.iload_n 1, 1) := by decide +kernel
theorem dX2_byteAt_5 : decode cX2_byteAt 5 = .ok (.aload_n 0, 1) := by decide +kernel
theorem dX2_byteAt_6 : decode cX2_byteAt 6 = .ok (.getfield 23, 3) := by decide +kernel
theorem dX2_byteAt_9 : decode cX2_byteAt 9 = .ok (.if_icmp .ge 21, 3) := by decide +kernel
theorem dX2_byteAt_12 : decode cX2_byteAt 12 = .ok (.iload_n 1, 1) := by decide +kernel
theorem dX2_byteAt_13 : decode cX2_byteAt 13 = .ok (.aload_n 0, 1) := by decide +kernel
theorem dX2_byteAt_14 : decode cX2_byteAt 14 = .ok (.getfield 9, 3) := by decide +kernel
theorem dX2_byteAt_17 : decode cX2_byteAt 17 = .ok (.arraylength, 1) := by decide +kernel
theorem dX2_byteAt_18 : decode cX2_byteAt 18 = .ok (.if_icmp .ge 12, 3) := by decide +kernel
theorem dX2_byteAt_21 : decode cX2_byteAt 21 = .ok (.aload_n 0, 1) := by decide +kernel
theorem dX2_byteAt_22 : decode cX2_byteAt 22 = .ok (.getfield 9, 3) := by decide +kernel
theorem dX2_byteAt_25 : decode cX2_byteAt 25 = .ok (.iload_n 1, 1) := by decide +kernel
theorem dX2_byteAt_26 : decode cX2_byteAt 26 = .ok (.baload, 1) := by decide +kernel
theorem dX2_byteAt_27 : decode cX2_byteAt 27 = .ok (.goto 4, 3) := by decide +kernel
theorem dX2_byteAt_30 : decode cX2_byteAt 30 = .ok (.iconst (-1), 1) := by decide +kernel
theorem dX2_byteAt_31 : decode cX2_byteAt 31 = .ok (.ireturn, 1) := by decide +kernel
theorem dX2_number_0 : decode cX2_number 0 = .ok (.iload_n 1, 1) := by decide +kernel
theorem dX2_number_1 : decode cX2_number 1 = .ok (.ifCond .lt 21, 3) := by decide +kernel
theorem dX2_number_4 : decode cX2_number 4 = .ok (.iload_n 1, 1) := by decide +kernel
theorem dX2_number_5 : decode cX2_number 5 = .ok (.aload_n 0, 1) := by decide +kernel
theorem dX2_number_6 : decode cX2_number 6 = .ok (.getfield 19, 3) := by decide +kernel
theorem dX2_number_9 : decode cX2_number 9 = .ok (.arraylength, 1) := by decide +kernel
theorem dX2_number_10 : decode cX2_number 10 = .ok (.if_icmp .ge 12, 3) := by decide +kernel
theorem dX2_number_13 : decode cX2_number 13 = .ok (.aload_n 0, 1) := by decide +kernel
theorem dX2_number_14 : decode cX2_number 14 = .ok (.getfield 19, 3) := by decide +kernel
theorem dX2_number_17 : decode cX2_number 17 = .ok (.iload_n 1, 1) := by decide +kernel
theorem dX2_number_18 : decode cX2_number 18 = .ok (.iaload, 1) := by decide +kernel
theorem dX2_number_19 : decode cX2_number 19 = .ok (.goto 4, 3) := by decide +kernel
theorem dX2_number_22 : decode cX2_number 22 = .ok (.iconst 0, 1) := by decide +kernel
theorem dX2_number_23 : decode cX2_number 23 = .ok (.ireturn, 1) := by decide +kernel
theorem dX2_findFault_0 : decode cX2_findFault 0 = .ok (.aload_n 0, 1) := by decide +kernel
theorem dX2_findFault_1 : decode cX2_findFault 1 = .ok (.invokevirtual 26, 3) := by decide +kernel
theorem dX2_findFault_4 : decode cX2_findFault 4 = .ok (.iconst 0, 1) := by decide +kernel
theorem dX2_findFault_5 : decode cX2_findFault 5 = .ok (.istore_n 1, 1) := by decide +kernel
theorem dX2_findFault_6 : decode cX2_findFault 6 = .ok (.iload_n 1, 1) := by decide +kernel
theorem dX2_findFault_7 : decode cX2_findFault 7 = .ok (.sipush 150, 3) := by decide +kernel
theorem dX2_findFault_10 : decode cX2_findFault 10 = .ok (.if_icmp .ge 20, 3) := by decide +kernel
theorem dX2_findFault_13 : decode cX2_findFault 13 = .ok (.aload_n 0, 1) := by decide +kernel
theorem dX2_findFault_14 : decode cX2_findFault 14 = .ok (.invokevirtual 29, 3) := by decide +kernel
theorem dX2_findFault_17 : decode cX2_findFault 17 = .ok (.ifCond .eq 13, 3) := by decide +kernel
theorem dX2_findFault_20 : decode cX2_findFault 20 = .ok (.aload_n 0, 1) := by decide +kernel
theorem dX2_findFault_21 : decode cX2_findFault 21 = .ok (.invokevirtual 33, 3) := by decide +kernel
theorem dX2_findFault_24 : decode cX2_findFault 24 = .ok (.iinc 1 1, 3) := by decide +kernel
theorem dX2_findFault_27 : decode cX2_findFault 27 = .ok (.goto (-21), 3) := by decide +kernel
theorem dX2_findFault_30 : decode cX2_findFault 30 = .ok (.aload_n 0, 1) := by decide +kernel
theorem dX2_findFault_31 : decode cX2_findFault 31 = .ok (.getfield 15, 3) := by decide +kernel
theorem dX2_findFault_34 : decode cX2_findFault 34 = .ok (.ireturn, 1) := by decide +kernel
theorem dX2_startReading_0 : decode cX2_startReading 0 = .ok (.aload_n 0, 1) := by decide +kernel
theorem dX2_startReading_1 : decode cX2_startReading 1 = .ok (.iconst 0, 1) := by decide +kernel
theorem dX2_startReading_2 : decode cX2_startReading 2 = .ok (.putfield 36, 3) := by decide +kernel
theorem dX2_startReading_5 : decode cX2_startReading 5 = .ok (.aload_n 0, 1) := by decide +kernel
theorem dX2_startReading_6 : decode cX2_startReading 6 = .ok (.iconst (-1), 1) := by decide +kernel
theorem dX2_startReading_7 : decode cX2_startReading 7 = .ok (.putfield 15, 3) := by decide +kernel
theorem dX2_startReading_10 : decode cX2_startReading 10 = .ok (.aload_n 0, 1) := by decide +kernel
theorem dX2_startReading_11 : decode cX2_startReading 11 = .ok (.aconst_null, 1) := by decide +kernel
theorem dX2_startReading_12 : decode cX2_startReading 12 = .ok (.putfield 39, 3) := by decide +kernel
theorem dX2_startReading_15 : decode cX2_startReading 15 = .ok (.return_, 1) := by decide +kernel
theorem dX2_hasCommand_0 : decode cX2_hasCommand 0 = .ok (.aload_n 0, 1) := by decide +kernel
theorem dX2_hasCommand_1 : decode cX2_hasCommand 1 = .ok (.getfield 15, 3) := by decide +kernel
theorem dX2_hasCommand_4 : decode cX2_hasCommand 4 = .ok (.iconst (-1), 1) := by decide +kernel
theorem dX2_hasCommand_5 : decode cX2_hasCommand 5 = .ok (.if_icmp .eq 5, 3) := by decide +kernel
theorem dX2_hasCommand_8 : decode cX2_hasCommand 8 = .ok (.iconst 0, 1) := by decide +kernel
theorem dX2_hasCommand_9 : decode cX2_hasCommand 9 = .ok (.ireturn, 1) := by decide +kernel
theorem dX2_hasCommand_10 : decode cX2_hasCommand 10 = .ok (.aload_n 0, 1) := by decide +kernel
theorem dX2_hasCommand_11 : decode cX2_hasCommand 11 = .ok (.invokevirtual 43, 3) := by decide +kernel
theorem dX2_hasCommand_14 : decode cX2_hasCommand 14 = .ok (.aload_n 0, 1) := by decide +kernel
theorem dX2_hasCommand_15 : decode cX2_hasCommand 15 = .ok (.getfield 36, 3) := by decide +kernel
theorem dX2_hasCommand_18 : decode cX2_hasCommand 18 = .ok (.aload_n 0, 1) := by decide +kernel
theorem dX2_hasCommand_19 : decode cX2_hasCommand 19 = .ok (.getfield 23, 3) := by decide +kernel
theorem dX2_hasCommand_22 : decode cX2_hasCommand 22 = .ok (.if_icmp .ge 7, 3) := by decide +kernel
theorem dX2_hasCommand_25 : decode cX2_hasCommand 25 = .ok (.iconst 1, 1) := by decide +kernel
theorem dX2_hasCommand_26 : decode cX2_hasCommand 26 = .ok (.goto 4, 3) := by decide +kernel
theorem dX2_hasCommand_29 : decode cX2_hasCommand 29 = .ok (.iconst 0, 1) := by decide +kernel
theorem dX2_hasCommand_30 : decode cX2_hasCommand 30 = .ok (.ireturn, 1) := by decide +kernel
theorem dX2_readCommand_0 : decode cX2_readCommand 0 = .ok (.aload_n 0, 1) := by decide +kernel
theorem dX2_readCommand_1 : decode cX2_readCommand 1 = .ok (.getfield 36, 3) := by decide +kernel
theorem dX2_readCommand_4 : decode cX2_readCommand 4 = .ok (.istore_n 1, 1) := by decide +kernel
theorem dX2_readCommand_5 : decode cX2_readCommand 5 = .ok (.aload_n 0, 1) := by decide +kernel
theorem dX2_readCommand_6 : decode cX2_readCommand 6 = .ok (.invokevirtual 46, 3) := by decide +kernel
theorem dX2_readCommand_9 : decode cX2_readCommand 9 = .ok (.aload_n 0, 1) := by decide +kernel
theorem dX2_readCommand_10 : decode cX2_readCommand 10 = .ok (.iload_n 1, 1) := by decide +kernel
theorem dX2_readCommand_11 : decode cX2_readCommand 11 = .ok (.aload_n 0, 1) := by decide +kernel
theorem dX2_readCommand_12 : decode cX2_readCommand 12 = .ok (.getfield 36, 3) := by decide +kernel
theorem dX2_readCommand_15 : decode cX2_readCommand 15 = .ok (.invokevirtual 49, 3) := by decide +kernel
theorem dX2_readCommand_18 : decode cX2_readCommand 18 = .ok (.astore_n 2, 1) := by decide +kernel
theorem dX2_readCommand_19 : decode cX2_readCommand 19 = .ok (.aload_n 0, 1) := by decide +kernel
theorem dX2_readCommand_20 : decode cX2_readCommand 20 = .ok (.aload_n 2, 1) := by decide +kernel
theorem dX2_readCommand_21 : decode cX2_readCommand 21 = .ok (.putfield 39, 3) := by decide +kernel
theorem dX2_readCommand_24 : decode cX2_readCommand 24 = .ok (.aload_n 2, 1) := by decide +kernel
theorem dX2_readCommand_25 : decode cX2_readCommand 25 = .ok (.ifnonnull 9, 3) := by decide +kernel
theorem dX2_readCommand_28 : decode cX2_readCommand 28 = .ok (.aload_n 0, 1) := by decide +kernel
theorem dX2_readCommand_29 : decode cX2_readCommand 29 = .ok (.iload_n 1, 1) := by decide +kernel
theorem dX2_readCommand_30 : decode cX2_readCommand 30 = .ok (.putfield 15, 3) := by decide +kernel
theorem dX2_readCommand_33 : decode cX2_readCommand 33 = .ok (.return_, 1) := by decide +kernel
theorem dX2_readCommand_34 : decode cX2_readCommand 34 = .ok (.iconst 0, 1) := by decide +kernel
theorem dX2_readCommand_35 : decode cX2_readCommand 35 = .ok (.istore_n 3, 1) := by decide +kernel
theorem dX2_readCommand_36 : decode cX2_readCommand 36 = .ok (.iload_n 3, 1) := by decide +kernel
theorem dX2_readCommand_37 : decode cX2_readCommand 37 = .ok (.aload_n 2, 1) := by decide +kernel
theorem dX2_readCommand_38 : decode cX2_readCommand 38 = .ok (.getfield 53, 3) := by decide +kernel
theorem dX2_readCommand_41 : decode cX2_readCommand 41 = .ok (.if_icmp .ge 22, 3) := by decide +kernel
theorem dX2_readCommand_44 : decode cX2_readCommand 44 = .ok (.aload_n 0, 1) := by decide +kernel
theorem dX2_readCommand_45 : decode cX2_readCommand 45 = .ok (.getfield 15, 3) := by decide +kernel
theorem dX2_readCommand_48 : decode cX2_readCommand 48 = .ok (.iconst (-1), 1) := by decide +kernel
theorem dX2_readCommand_49 : decode cX2_readCommand 49 = .ok (.if_icmp .ne 14, 3) := by decide +kernel
theorem dX2_readCommand_52 : decode cX2_readCommand 52 = .ok (.aload_n 0, 1) := by decide +kernel
theorem dX2_readCommand_53 : decode cX2_readCommand 53 = .ok (.iload_n 3, 1) := by decide +kernel
theorem dX2_readCommand_54 : decode cX2_readCommand 54 = .ok (.invokevirtual 57, 3) := by decide +kernel
theorem dX2_readCommand_57 : decode cX2_readCommand 57 = .ok (.iinc 3 1, 3) := by decide +kernel
theorem dX2_readCommand_60 : decode cX2_readCommand 60 = .ok (.goto (-24), 3) := by decide +kernel
theorem dX2_readCommand_63 : decode cX2_readCommand 63 = .ok (.aload_n 0, 1) := by decide +kernel
theorem dX2_readCommand_64 : decode cX2_readCommand 64 = .ok (.getfield 15, 3) := by decide +kernel
theorem dX2_readCommand_67 : decode cX2_readCommand 67 = .ok (.iconst (-1), 1) := by decide +kernel
theorem dX2_readCommand_68 : decode cX2_readCommand 68 = .ok (.if_icmp .ne 7, 3) := by decide +kernel
theorem dX2_readCommand_71 : decode cX2_readCommand 71 = .ok (.aload_n 0, 1) := by decide +kernel
theorem dX2_readCommand_72 : decode cX2_readCommand 72 = .ok (.invokevirtual 61, 3) := by decide +kernel
theorem dX2_readCommand_75 : decode cX2_readCommand 75 = .ok (.return_, 1) := by decide +kernel
theorem dX2_readNumber_0 : decode cX2_readNumber 0 = .ok (.aload_n 0, 1) := by decide +kernel
theorem dX2_readNumber_1 : decode cX2_readNumber 1 = .ok (.getfield 36, 3) := by decide +kernel
theorem dX2_readNumber_4 : decode cX2_readNumber 4 = .ok (.istore_n 2, 1) := by decide +kernel
theorem dX2_readNumber_5 : decode cX2_readNumber 5 = .ok (.aload_n 0, 1) := by decide +kernel
theorem dX2_readNumber_6 : decode cX2_readNumber 6 = .ok (.invokevirtual 43, 3) := by decide +kernel
theorem dX2_readNumber_9 : decode cX2_readNumber 9 = .ok (.aload_n 0, 1) := by decide +kernel
theorem dX2_readNumber_10 : decode cX2_readNumber 10 = .ok (.getfield 36, 3) := by decide +kernel
theorem dX2_readNumber_13 : decode cX2_readNumber 13 = .ok (.iload_n 2, 1) := by decide +kernel
theorem dX2_readNumber_14 : decode cX2_readNumber 14 = .ok (.if_icmp .eq 17, 3) := by decide +kernel
theorem dX2_readNumber_17 : decode cX2_readNumber 17 = .ok (.aload_n 0, 1) := by decide +kernel
theorem dX2_readNumber_18 : decode cX2_readNumber 18 = .ok (.aload_n 0, 1) := by decide +kernel
theorem dX2_readNumber_19 : decode cX2_readNumber 19 = .ok (.getfield 36, 3) := by decide +kernel
theorem dX2_readNumber_22 : decode cX2_readNumber 22 = .ok (.invokevirtual 64, 3) := by decide +kernel
theorem dX2_readNumber_25 : decode cX2_readNumber 25 = .ok (.invokestatic 68, 3) := by decide +kernel
theorem dX2_readNumber_28 : decode cX2_readNumber 28 = .ok (.ifCond .ne 12, 3) := by decide +kernel
theorem dX2_readNumber_31 : decode cX2_readNumber 31 = .ok (.aload_n 0, 1) := by decide +kernel
theorem dX2_readNumber_32 : decode cX2_readNumber 32 = .ok (.aload_n 0, 1) := by decide +kernel
theorem dX2_readNumber_33 : decode cX2_readNumber 33 = .ok (.getfield 36, 3) := by decide +kernel
theorem dX2_readNumber_36 : decode cX2_readNumber 36 = .ok (.putfield 15, 3) := by decide +kernel
theorem dX2_readNumber_39 : decode cX2_readNumber 39 = .ok (.return_, 1) := by decide +kernel
theorem dX2_readNumber_40 : decode cX2_readNumber 40 = .ok (.aload_n 0, 1) := by decide +kernel
theorem dX2_readNumber_41 : decode cX2_readNumber 41 = .ok (.invokevirtual 72, 3) := by decide +kernel
theorem dX2_readNumber_44 : decode cX2_readNumber 44 = .ok (.istore_n 3, 1) := by decide +kernel
theorem dX2_readNumber_45 : decode cX2_readNumber 45 = .ok (.iload_n 1, 1) := by decide +kernel
theorem dX2_readNumber_46 : decode cX2_readNumber 46 = .ok (.ifCond .lt 19, 3) := by decide +kernel
theorem dX2_readNumber_49 : decode cX2_readNumber 49 = .ok (.iload_n 1, 1) := by decide +kernel
theorem dX2_readNumber_50 : decode cX2_readNumber 50 = .ok (.aload_n 0, 1) := by decide +kernel
theorem dX2_readNumber_51 : decode cX2_readNumber 51 = .ok (.getfield 19, 3) := by decide +kernel
theorem dX2_readNumber_54 : decode cX2_readNumber 54 = .ok (.arraylength, 1) := by decide +kernel
theorem dX2_readNumber_55 : decode cX2_readNumber 55 = .ok (.if_icmp .ge 10, 3) := by decide +kernel
theorem dX2_readNumber_58 : decode cX2_readNumber 58 = .ok (.aload_n 0, 1) := by decide +kernel
theorem dX2_readNumber_59 : decode cX2_readNumber 59 = .ok (.getfield 19, 3) := by decide +kernel
theorem dX2_readNumber_62 : decode cX2_readNumber 62 = .ok (.iload_n 1, 1) := by decide +kernel
theorem dX2_readNumber_63 : decode cX2_readNumber 63 = .ok (.iload_n 3, 1) := by decide +kernel
theorem dX2_readNumber_64 : decode cX2_readNumber 64 = .ok (.iastore, 1) := by decide +kernel
theorem dX2_readNumber_65 : decode cX2_readNumber 65 = .ok (.return_, 1) := by decide +kernel
theorem dX2_readDigits_0 : decode cX2_readDigits 0 = .ok (.iconst 0, 1) := by decide +kernel
theorem dX2_readDigits_1 : decode cX2_readDigits 1 = .ok (.istore_n 1, 1) := by decide +kernel
theorem dX2_readDigits_2 : decode cX2_readDigits 2 = .ok (.iconst 0, 1) := by decide +kernel
theorem dX2_readDigits_3 : decode cX2_readDigits 3 = .ok (.istore_n 2, 1) := by decide +kernel
theorem dX2_readDigits_4 : decode cX2_readDigits 4 = .ok (.iload_n 2, 1) := by decide +kernel
theorem dX2_readDigits_5 : decode cX2_readDigits 5 = .ok (.iconst 4, 1) := by decide +kernel
theorem dX2_readDigits_6 : decode cX2_readDigits 6 = .ok (.if_icmp .ge 50, 3) := by decide +kernel
theorem dX2_readDigits_9 : decode cX2_readDigits 9 = .ok (.aload_n 0, 1) := by decide +kernel
theorem dX2_readDigits_10 : decode cX2_readDigits 10 = .ok (.aload_n 0, 1) := by decide +kernel
theorem dX2_readDigits_11 : decode cX2_readDigits 11 = .ok (.getfield 36, 3) := by decide +kernel
theorem dX2_readDigits_14 : decode cX2_readDigits 14 = .ok (.invokevirtual 64, 3) := by decide +kernel
theorem dX2_readDigits_17 : decode cX2_readDigits 17 = .ok (.invokestatic 68, 3) := by decide +kernel
theorem dX2_readDigits_20 : decode cX2_readDigits 20 = .ok (.ifCond .eq 36, 3) := by decide +kernel
theorem dX2_readDigits_23 : decode cX2_readDigits 23 = .ok (.bipush 10, 2) := by decide +kernel
theorem dX2_readDigits_25 : decode cX2_readDigits 25 = .ok (.iload_n 1, 1) := by decide +kernel
theorem dX2_readDigits_26 : decode cX2_readDigits 26 = .ok (.imul, 1) := by decide +kernel
theorem dX2_readDigits_27 : decode cX2_readDigits 27 = .ok (.aload_n 0, 1) := by decide +kernel
theorem dX2_readDigits_28 : decode cX2_readDigits 28 = .ok (.aload_n 0, 1) := by decide +kernel
theorem dX2_readDigits_29 : decode cX2_readDigits 29 = .ok (.getfield 36, 3) := by decide +kernel
theorem dX2_readDigits_32 : decode cX2_readDigits 32 = .ok (.invokevirtual 64, 3) := by decide +kernel
theorem dX2_readDigits_35 : decode cX2_readDigits 35 = .ok (.iadd, 1) := by decide +kernel
theorem dX2_readDigits_36 : decode cX2_readDigits 36 = .ok (.bipush 48, 2) := by decide +kernel
theorem dX2_readDigits_38 : decode cX2_readDigits 38 = .ok (.isub, 1) := by decide +kernel
theorem dX2_readDigits_39 : decode cX2_readDigits 39 = .ok (.istore_n 1, 1) := by decide +kernel
theorem dX2_readDigits_40 : decode cX2_readDigits 40 = .ok (.aload_n 0, 1) := by decide +kernel
theorem dX2_readDigits_41 : decode cX2_readDigits 41 = .ok (.dup, 1) := by decide +kernel
theorem dX2_readDigits_42 : decode cX2_readDigits 42 = .ok (.getfield 36, 3) := by decide +kernel
theorem dX2_readDigits_45 : decode cX2_readDigits 45 = .ok (.iconst 1, 1) := by decide +kernel
theorem dX2_readDigits_46 : decode cX2_readDigits 46 = .ok (.iadd, 1) := by decide +kernel
theorem dX2_readDigits_47 : decode cX2_readDigits 47 = .ok (.putfield 36, 3) := by decide +kernel
theorem dX2_readDigits_50 : decode cX2_readDigits 50 = .ok (.iinc 2 1, 3) := by decide +kernel
theorem dX2_readDigits_53 : decode cX2_readDigits 53 = .ok (.goto (-49), 3) := by decide +kernel
theorem dX2_readDigits_56 : decode cX2_readDigits 56 = .ok (.iload_n 1, 1) := by decide +kernel
theorem dX2_readDigits_57 : decode cX2_readDigits 57 = .ok (.ireturn, 1) := by decide +kernel
theorem dX2_readSemicolon_0 : decode cX2_readSemicolon 0 = .ok (.aload_n 0, 1) := by decide +kernel
theorem dX2_readSemicolon_1 : decode cX2_readSemicolon 1 = .ok (.invokevirtual 43, 3) := by decide +kernel
theorem dX2_readSemicolon_4 : decode cX2_readSemicolon 4 = .ok (.aload_n 0, 1) := by decide +kernel
theorem dX2_readSemicolon_5 : decode cX2_readSemicolon 5 = .ok (.aload_n 0, 1) := by decide +kernel
theorem dX2_readSemicolon_6 : decode cX2_readSemicolon 6 = .ok (.getfield 36, 3) := by decide +kernel
theorem dX2_readSemicolon_9 : decode cX2_readSemicolon 9 = .ok (.invokevirtual 64, 3) := by decide +kernel
theorem dX2_readSemicolon_12 : decode cX2_readSemicolon 12 = .ok (.bipush 59, 2) := by decide +kernel
theorem dX2_readSemicolon_14 : decode cX2_readSemicolon 14 = .ok (.if_icmp .ne 16, 3) := by decide +kernel
theorem dX2_readSemicolon_17 : decode cX2_readSemicolon 17 = .ok (.aload_n 0, 1) := by decide +kernel
theorem dX2_readSemicolon_18 : decode cX2_readSemicolon 18 = .ok (.dup, 1) := by decide +kernel
theorem dX2_readSemicolon_19 : decode cX2_readSemicolon 19 = .ok (.getfield 36, 3) := by decide +kernel
theorem dX2_readSemicolon_22 : decode cX2_readSemicolon 22 = .ok (.iconst 1, 1) := by decide +kernel
theorem dX2_readSemicolon_23 : decode cX2_readSemicolon 23 = .ok (.iadd, 1) := by decide +kernel
theorem dX2_readSemicolon_24 : decode cX2_readSemicolon 24 = .ok (.putfield 36, 3) := by decide +kernel
theorem dX2_readSemicolon_27 : decode cX2_readSemicolon 27 = .ok (.goto 11, 3) := by decide +kernel
theorem dX2_readSemicolon_30 : decode cX2_readSemicolon 30 = .ok (.aload_n 0, 1) := by decide +kernel
theorem dX2_readSemicolon_31 : decode cX2_readSemicolon 31 = .ok (.aload_n 0, 1) := by decide +kernel
theorem dX2_readSemicolon_32 : decode cX2_readSemicolon 32 = .ok (.getfield 36, 3) := by decide +kernel
theorem dX2_readSemicolon_35 : decode cX2_readSemicolon 35 = .ok (.putfield 15, 3) := by decide +kernel
theorem dX2_readSemicolon_38 : decode cX2_readSemicolon 38 = .ok (.return_, 1) := by decide +kernel
theorem dX2_skipSpaces_0 : decode cX2_skipSpaces 0 = .ok (.aload_n 0, 1) := by decide +kernel
theorem dX2_skipSpaces_1 : decode cX2_skipSpaces 1 = .ok (.getfield 36, 3) := by decide +kernel
theorem dX2_skipSpaces_4 : decode cX2_skipSpaces 4 = .ok (.aload_n 0, 1) := by decide +kernel
theorem dX2_skipSpaces_5 : decode cX2_skipSpaces 5 = .ok (.getfield 23, 3) := by decide +kernel
theorem dX2_skipSpaces_8 : decode cX2_skipSpaces 8 = .ok (.if_icmp .ge 29, 3) := by decide +kernel
theorem dX2_skipSpaces_11 : decode cX2_skipSpaces 11 = .ok (.aload_n 0, 1) := by decide +kernel
theorem dX2_skipSpaces_12 : decode cX2_skipSpaces 12 = .ok (.aload_n 0, 1) := by decide +kernel
theorem dX2_skipSpaces_13 : decode cX2_skipSpaces 13 = .ok (.getfield 36, 3) := by decide +kernel
theorem dX2_skipSpaces_16 : decode cX2_skipSpaces 16 = .ok (.invokevirtual 64, 3) := by decide +kernel
theorem dX2_skipSpaces_19 : decode cX2_skipSpaces 19 = .ok (.bipush 32, 2) := by decide +kernel
theorem dX2_skipSpaces_21 : decode cX2_skipSpaces 21 = .ok (.if_icmp .ne 16, 3) := by decide +kernel
theorem dX2_skipSpaces_24 : decode cX2_skipSpaces 24 = .ok (.aload_n 0, 1) := by decide +kernel
theorem dX2_skipSpaces_25 : decode cX2_skipSpaces 25 = .ok (.dup, 1) := by decide +kernel
theorem dX2_skipSpaces_26 : decode cX2_skipSpaces 26 = .ok (.getfield 36, 3) := by decide +kernel
theorem dX2_skipSpaces_29 : decode cX2_skipSpaces 29 = .ok (.iconst 1, 1) := by decide +kernel
theorem dX2_skipSpaces_30 : decode cX2_skipSpaces 30 = .ok (.iadd, 1) := by decide +kernel
theorem dX2_skipSpaces_31 : decode cX2_skipSpaces 31 = .ok (.putfield 36, 3) := by decide +kernel
theorem dX2_skipSpaces_34 : decode cX2_skipSpaces 34 = .ok (.goto (-34), 3) := by decide +kernel
theorem dX2_skipSpaces_37 : decode cX2_skipSpaces 37 = .ok (.return_, 1) := by decide +kernel
theorem dX2_skipLetters_0 : decode cX2_skipLetters 0 = .ok (.aload_n 0, 1) := by decide +kernel
theorem dX2_skipLetters_1 : decode cX2_skipLetters 1 = .ok (.getfield 36, 3) := by decide +kernel
theorem dX2_skipLetters_4 : decode cX2_skipLetters 4 = .ok (.aload_n 0, 1) := by decide +kernel
theorem dX2_skipLetters_5 : decode cX2_skipLetters 5 = .ok (.getfield 23, 3) := by decide +kernel
theorem dX2_skipLetters_8 : decode cX2_skipLetters 8 = .ok (.if_icmp .ge 30, 3) := by decide +kernel
theorem dX2_skipLetters_11 : decode cX2_skipLetters 11 = .ok (.aload_n 0, 1) := by decide +kernel
theorem dX2_skipLetters_12 : decode cX2_skipLetters 12 = .ok (.aload_n 0, 1) := by decide +kernel
theorem dX2_skipLetters_13 : decode cX2_skipLetters 13 = .ok (.getfield 36, 3) := by decide +kernel
theorem dX2_skipLetters_16 : decode cX2_skipLetters 16 = .ok (.invokevirtual 64, 3) := by decide +kernel
theorem dX2_skipLetters_19 : decode cX2_skipLetters 19 = .ok (.invokestatic 76, 3) := by decide +kernel
theorem dX2_skipLetters_22 : decode cX2_skipLetters 22 = .ok (.ifCond .eq 16, 3) := by decide +kernel
theorem dX2_skipLetters_25 : decode cX2_skipLetters 25 = .ok (.aload_n 0, 1) := by decide +kernel
theorem dX2_skipLetters_26 : decode cX2_skipLetters 26 = .ok (.dup, 1) := by decide +kernel
theorem dX2_skipLetters_27 : decode cX2_skipLetters 27 = .ok (.getfield 36, 3) := by decide +kernel
theorem dX2_skipLetters_30 : decode cX2_skipLetters 30 = .ok (.iconst 1, 1) := by decide +kernel
theorem dX2_skipLetters_31 : decode cX2_skipLetters 31 = .ok (.iadd, 1) := by decide +kernel
theorem dX2_skipLetters_32 : decode cX2_skipLetters 32 = .ok (.putfield 36, 3) := by decide +kernel
theorem dX2_skipLetters_35 : decode cX2_skipLetters 35 = .ok (.goto (-35), 3) := by decide +kernel
theorem dX2_skipLetters_38 : decode cX2_skipLetters 38 = .ok (.return_, 1) := by decide +kernel
theorem dX2_commandSpelled_0 : decode cX2_commandSpelled 0 = .ok (.getstatic 79, 3) := by decide +kernel
theorem dX2_commandSpelled_3 : decode cX2_commandSpelled 3 = .ok (.astore_n 3, 1) := by decide +kernel
theorem dX2_commandSpelled_4 : decode cX2_commandSpelled 4 = .ok (.aload_n 3, 1) := by decide +kernel
theorem dX2_commandSpelled_5 : decode cX2_commandSpelled 5 = .ok (.arraylength, 1) := by decide +kernel
theorem dX2_commandSpelled_6 : decode cX2_commandSpelled 6 = .ok (.istore 4, 2) := by decide +kernel
theorem dX2_commandSpelled_8 : decode cX2_commandSpelled 8 = .ok (.iconst 0, 1) := by decide +kernel
theorem dX2_commandSpelled_9 : decode cX2_commandSpelled 9 = .ok (.istore 5, 2) := by decide +kernel
theorem dX2_commandSpelled_11 : decode cX2_commandSpelled 11 = .ok (.iload 5, 2) := by decide +kernel
theorem dX2_commandSpelled_13 : decode cX2_commandSpelled 13 = .ok (.iload 4, 2) := by decide +kernel
theorem dX2_commandSpelled_15 : decode cX2_commandSpelled 15 = .ok (.if_icmp .ge 37, 3) := by decide +kernel
theorem dX2_commandSpelled_18 : decode cX2_commandSpelled 18 = .ok (.aload_n 3, 1) := by decide +kernel
theorem dX2_commandSpelled_19 : decode cX2_commandSpelled 19 = .ok (.iload 5, 2) := by decide +kernel
theorem dX2_commandSpelled_21 : decode cX2_commandSpelled 21 = .ok (.aaload, 1) := by decide +kernel
theorem dX2_commandSpelled_22 : decode cX2_commandSpelled 22 = .ok (.astore 6, 2) := by decide +kernel
theorem dX2_commandSpelled_24 : decode cX2_commandSpelled 24 = .ok (.aload 6, 2) := by decide +kernel
theorem dX2_commandSpelled_26 : decode cX2_commandSpelled 26 = .ok (.ifnull 20, 3) := by decide +kernel
theorem dX2_commandSpelled_29 : decode cX2_commandSpelled 29 = .ok (.aload_n 0, 1) := by decide +kernel
theorem dX2_commandSpelled_30 : decode cX2_commandSpelled 30 = .ok (.aload 6, 2) := by decide +kernel
theorem dX2_commandSpelled_32 : decode cX2_commandSpelled 32 = .ok (.getfield 83, 3) := by decide +kernel
theorem dX2_commandSpelled_35 : decode cX2_commandSpelled 35 = .ok (.iload_n 1, 1) := by decide +kernel
theorem dX2_commandSpelled_36 : decode cX2_commandSpelled 36 = .ok (.iload_n 2, 1) := by decide +kernel
theorem dX2_commandSpelled_37 : decode cX2_commandSpelled 37 = .ok (.invokevirtual 87, 3) := by decide +kernel
theorem dX2_commandSpelled_40 : decode cX2_commandSpelled 40 = .ok (.ifCond .eq 6, 3) := by decide +kernel
theorem dX2_commandSpelled_43 : decode cX2_commandSpelled 43 = .ok (.aload 6, 2) := by decide +kernel
theorem dX2_commandSpelled_45 : decode cX2_commandSpelled 45 = .ok (.areturn, 1) := by decide +kernel
theorem dX2_commandSpelled_46 : decode cX2_commandSpelled 46 = .ok (.iinc 5 1, 3) := by decide +kernel
theorem dX2_commandSpelled_49 : decode cX2_commandSpelled 49 = .ok (.goto (-38), 3) := by decide +kernel
theorem dX2_commandSpelled_52 : decode cX2_commandSpelled 52 = .ok (.aconst_null, 1) := by decide +kernel
theorem dX2_commandSpelled_53 : decode cX2_commandSpelled 53 = .ok (.areturn, 1) := by decide +kernel
theorem dX2_isSpelled_0 : decode cX2_isSpelled 0 = .ok (.aload_n 1, 1) := by decide +kernel
theorem dX2_isSpelled_1 : decode cX2_isSpelled 1 = .ok (.ifnull 13, 3) := by decide +kernel
theorem dX2_isSpelled_4 : decode cX2_isSpelled 4 = .ok (.iload_n 3, 1) := by decide +kernel
theorem dX2_isSpelled_5 : decode cX2_isSpelled 5 = .ok (.iload_n 2, 1) := by decide +kernel
theorem dX2_isSpelled_6 : decode cX2_isSpelled 6 = .ok (.isub, 1) := by decide +kernel
theorem dX2_isSpelled_7 : decode cX2_isSpelled 7 = .ok (.aload_n 1, 1) := by decide +kernel
theorem dX2_isSpelled_8 : decode cX2_isSpelled 8 = .ok (.invokevirtual 91, 3) := by decide +kernel
theorem dX2_isSpelled_11 : decode cX2_isSpelled 11 = .ok (.if_icmp .eq 5, 3) := by decide +kernel
theorem dX2_isSpelled_14 : decode cX2_isSpelled 14 = .ok (.iconst 0, 1) := by decide +kernel
theorem dX2_isSpelled_15 : decode cX2_isSpelled 15 = .ok (.ireturn, 1) := by decide +kernel
theorem dX2_isSpelled_16 : decode cX2_isSpelled 16 = .ok (.iconst 0, 1) := by decide +kernel
theorem dX2_isSpelled_17 : decode cX2_isSpelled 17 = .ok (.istore 4, 2) := by decide +kernel
theorem dX2_isSpelled_19 : decode cX2_isSpelled 19 = .ok (.iload 4, 2) := by decide +kernel
theorem dX2_isSpelled_21 : decode cX2_isSpelled 21 = .ok (.aload_n 1, 1) := by decide +kernel
theorem dX2_isSpelled_22 : decode cX2_isSpelled 22 = .ok (.invokevirtual 91, 3) := by decide +kernel
theorem dX2_isSpelled_25 : decode cX2_isSpelled 25 = .ok (.if_icmp .ge 28, 3) := by decide +kernel
theorem dX2_isSpelled_28 : decode cX2_isSpelled 28 = .ok (.aload_n 1, 1) := by decide +kernel
theorem dX2_isSpelled_29 : decode cX2_isSpelled 29 = .ok (.iload 4, 2) := by decide +kernel
theorem dX2_isSpelled_31 : decode cX2_isSpelled 31 = .ok (.invokevirtual 95, 3) := by decide +kernel
theorem dX2_isSpelled_34 : decode cX2_isSpelled 34 = .ok (.aload_n 0, 1) := by decide +kernel
theorem dX2_isSpelled_35 : decode cX2_isSpelled 35 = .ok (.iload_n 2, 1) := by decide +kernel
theorem dX2_isSpelled_36 : decode cX2_isSpelled 36 = .ok (.iload 4, 2) := by decide +kernel
theorem dX2_isSpelled_38 : decode cX2_isSpelled 38 = .ok (.iadd, 1) := by decide +kernel
theorem dX2_isSpelled_39 : decode cX2_isSpelled 39 = .ok (.invokevirtual 64, 3) := by decide +kernel
theorem dX2_isSpelled_42 : decode cX2_isSpelled 42 = .ok (.if_icmp .eq 5, 3) := by decide +kernel
theorem dX2_isSpelled_45 : decode cX2_isSpelled 45 = .ok (.iconst 0, 1) := by decide +kernel
theorem dX2_isSpelled_46 : decode cX2_isSpelled 46 = .ok (.ireturn, 1) := by decide +kernel
theorem dX2_isSpelled_47 : decode cX2_isSpelled 47 = .ok (.iinc 4 1, 3) := by decide +kernel
theorem dX2_isSpelled_50 : decode cX2_isSpelled 50 = .ok (.goto (-31), 3) := by decide +kernel
theorem dX2_isSpelled_53 : decode cX2_isSpelled 53 = .ok (.iconst 1, 1) := by decide +kernel
theorem dX2_isSpelled_54 : decode cX2_isSpelled 54 = .ok (.ireturn, 1) := by decide +kernel
theorem dX2_isLetter_0 : decode cX2_isLetter 0 = .ok (.iload_n 0, 1) := by decide +kernel
theorem dX2_isLetter_1 : decode cX2_isLetter 1 = .ok (.bipush 97, 2) := by decide +kernel
theorem dX2_isLetter_3 : decode cX2_isLetter 3 = .ok (.if_icmp .lt 13, 3) := by decide +kernel
theorem dX2_isLetter_6 : decode cX2_isLetter 6 = .ok (.iload_n 0, 1) := by decide +kernel
theorem dX2_isLetter_7 : decode cX2_isLetter 7 = .ok (.bipush 122, 2) := by decide +kernel
theorem dX2_isLetter_9 : decode cX2_isLetter 9 = .ok (.if_icmp .gt 7, 3) := by decide +kernel
theorem dX2_isLetter_12 : decode cX2_isLetter 12 = .ok (.iconst 1, 1) := by decide +kernel
theorem dX2_isLetter_13 : decode cX2_isLetter 13 = .ok (.goto 4, 3) := by decide +kernel
theorem dX2_isLetter_16 : decode cX2_isLetter 16 = .ok (.iconst 0, 1) := by decide +kernel
theorem dX2_isLetter_17 : decode cX2_isLetter 17 = .ok (.ireturn, 1) := by decide +kernel
theorem dX2_isDigit_0 : decode cX2_isDigit 0 = .ok (.iload_n 0, 1) := by decide +kernel
theorem dX2_isDigit_1 : decode cX2_isDigit 1 = .ok (.bipush 48, 2) := by decide +kernel
theorem dX2_isDigit_3 : decode cX2_isDigit 3 = .ok (.if_icmp .lt 13, 3) := by decide +kernel
theorem dX2_isDigit_6 : decode cX2_isDigit 6 = .ok (.iload_n 0, 1) := by decide +kernel
theorem dX2_isDigit_7 : decode cX2_isDigit 7 = .ok (.bipush 57, 2) := by decide +kernel
theorem dX2_isDigit_9 : decode cX2_isDigit 9 = .ok (.if_icmp .gt 7, 3) := by decide +kernel
theorem dX2_isDigit_12 : decode cX2_isDigit 12 = .ok (.iconst 1, 1) := by decide +kernel
theorem dX2_isDigit_13 : decode cX2_isDigit 13 = .ok (.goto 4, 3) := by decide +kernel
theorem dX2_isDigit_16 : decode cX2_isDigit 16 = .ok (.iconst 0, 1) := by decide +kernel
theorem dX2_isDigit_17 : decode cX2_isDigit 17 = .ok (.ireturn, 1) := by decide +kernel
theorem dX3_init_0 : decode cX3_init 0 = .ok (.aload_n 0, 1) := by decide +kernel
theorem dX3_init_1 : decode cX3_init 1 = .ok (.invokespecial 3, 3) := by decide +kernel
theorem dX3_init_4 : decode cX3_init 4 = .ok (.aload_n 0, 1) := by decide +kernel
theorem dX3_init_5 : decode cX3_init 5 = .ok (.iconst 4, 1) := by decide +kernel
theorem dX3_init_6 : decode cX3_init 6 = .ok (.anewarray 9, 3) := by decide +kernel
theorem dX3_init_9 : decode cX3_init 9 = .ok (.putfield 11, 3) := by decide +kernel
theorem dX3_init_12 : decode cX3_init 12 = .ok (.iconst 0, 1) := by decide +kernel
theorem dX3_init_13 : decode cX3_init 13 = .ok (.istore_n 1, 1) := by decide +kernel
theorem dX3_init_14 : decode cX3_init 14 = .ok (.iload_n 1, 1) := by decide +kernel
theorem dX3_init_15 : decode cX3_init 15 = .ok (.aload_n 0, 1) := by decide +kernel
theorem dX3_init_16 : decode cX3_init 16 = .ok (.getfield 11, 3) := by decide +kernel
theorem dX3_init_19 : decode cX3_init 19 = .ok (.arraylength, 1) := by decide +kernel
theorem dX3_init_20 : decode cX3_init 20 = .ok (.if_icmp .ge 22, 3) := by decide +kernel
theorem dX3_init_23 : decode cX3_init 23 = .ok (.aload_n 0, 1) := by decide +kernel
theorem dX3_init_24 : decode cX3_init 24 = .ok (.getfield 11, 3) := by decide +kernel
theorem dX3_init_27 : decode cX3_init 27 = .ok (.iload_n 1, 1) := by decide +kernel
theorem dX3_init_28 : decode cX3_init 28 = .ok (.new 9, 3) := by decide +kernel
theorem dX3_init_31 : decode cX3_init 31 = .ok (.dup, 1) := by decide +kernel
theorem dX3_init_32 : decode cX3_init 32 = .ok (.invokespecial 17, 3) := by decide +kernel
theorem dX3_init_35 : decode cX3_init 35 = .ok (.aastore, 1) := by decide +kernel
theorem dX3_init_36 : decode cX3_init 36 = .ok (.iinc 1 1, 3) := by decide +kernel
theorem dX3_init_39 : decode cX3_init 39 = .ok (.goto (-25), 3) := by decide +kernel
theorem dX3_init_42 : decode cX3_init 42 = .ok (.return_, 1) := by decide +kernel
theorem dX3_push_0 : decode cX3_push 0 = .ok (.aload_n 0, 1) := by decide +kernel
theorem dX3_push_1 : decode cX3_push 1 = .ok (.getfield 18, 3) := by decide +kernel
theorem dX3_push_4 : decode cX3_push 4 = .ok (.aload_n 0, 1) := by decide +kernel
theorem dX3_push_5 : decode cX3_push 5 = .ok (.getfield 11, 3) := by decide +kernel
theorem dX3_push_8 : decode cX3_push 8 = .ok (.arraylength, 1) := by decide +kernel
theorem dX3_push_9 : decode cX3_push 9 = .ok (.if_icmp .lt 7, 3) := by decide +kernel
theorem dX3_push_12 : decode cX3_push 12 = .ok (.aload_n 0, 1) := by decide +kernel
theorem dX3_push_13 : decode cX3_push 13 = .ok (.invokevirtual 22, 3) := by decide +kernel
theorem dX3_push_16 : decode cX3_push 16 = .ok (.aload_n 0, 1) := by decide +kernel
theorem dX3_push_17 : decode cX3_push 17 = .ok (.getfield 18, 3) := by decide +kernel
theorem dX3_push_20 : decode cX3_push 20 = .ok (.ifCond .lt 15, 3) := by decide +kernel
theorem dX3_push_23 : decode cX3_push 23 = .ok (.aload_n 0, 1) := by decide +kernel
theorem dX3_push_24 : decode cX3_push 24 = .ok (.getfield 18, 3) := by decide +kernel
theorem dX3_push_27 : decode cX3_push 27 = .ok (.aload_n 0, 1) := by decide +kernel
theorem dX3_push_28 : decode cX3_push 28 = .ok (.getfield 11, 3) := by decide +kernel
theorem dX3_push_31 : decode cX3_push 31 = .ok (.arraylength, 1) := by decide +kernel
theorem dX3_push_32 : decode cX3_push 32 = .ok (.if_icmp .lt 4, 3) := by decide +kernel
theorem dX3_push_35 : decode cX3_push 35 = .ok (.return_, 1) := by decide +kernel
theorem dX3_push_36 : decode cX3_push 36 = .ok (.aload_n 0, 1) := by decide +kernel
theorem dX3_push_37 : decode cX3_push 37 = .ok (.getfield 11, 3) := by decide +kernel
theorem dX3_push_40 : decode cX3_push 40 = .ok (.aload_n 0, 1) := by decide +kernel
theorem dX3_push_41 : decode cX3_push 41 = .ok (.getfield 18, 3) := by decide +kernel
theorem dX3_push_44 : decode cX3_push 44 = .ok (.aaload, 1) := by decide +kernel
theorem dX3_push_45 : decode cX3_push 45 = .ok (.astore_n 2, 1) := by decide +kernel
theorem dX3_push_46 : decode cX3_push 46 = .ok (.aload_n 2, 1) := by decide +kernel
theorem dX3_push_47 : decode cX3_push 47 = .ok (.ifnull 18, 3) := by decide +kernel
theorem dX3_push_50 : decode cX3_push 50 = .ok (.aload_n 2, 1) := by decide +kernel
theorem dX3_push_51 : decode cX3_push 51 = .ok (.aload_n 1, 1) := by decide +kernel
theorem dX3_push_52 : decode cX3_push 52 = .ok (.invokevirtual 25, 3) := by decide +kernel
theorem dX3_push_55 : decode cX3_push 55 = .ok (.aload_n 0, 1) := by decide +kernel
theorem dX3_push_56 : decode cX3_push 56 = .ok (.dup, 1) := by decide +kernel
theorem dX3_push_57 : decode cX3_push 57 = .ok (.getfield 18, 3) := by decide +kernel
theorem dX3_push_60 : decode cX3_push 60 = .ok (.iconst 1, 1) := by decide +kernel
theorem dX3_push_61 : decode cX3_push 61 = .ok (.iadd, 1) := by decide +kernel
theorem dX3_push_62 : decode cX3_push 62 = .ok (.putfield 18, 3) := by decide +kernel
theorem dX3_push_65 : decode cX3_push 65 = .ok (.return_, 1) := by decide +kernel
theorem dX3_dropOldest_0 : decode cX3_dropOldest 0 = .ok (.aload_n 0, 1) := by decide +kernel
theorem dX3_dropOldest_1 : decode cX3_dropOldest 1 = .ok (.getfield 11, 3) := by decide +kernel
theorem dX3_dropOldest_4 : decode cX3_dropOldest 4 = .ok (.iconst 0, 1) := by decide +kernel
theorem dX3_dropOldest_5 : decode cX3_dropOldest 5 = .ok (.aaload, 1) := by decide +kernel
theorem dX3_dropOldest_6 : decode cX3_dropOldest 6 = .ok (.astore_n 1, 1) := by decide +kernel
theorem dX3_dropOldest_7 : decode cX3_dropOldest 7 = .ok (.iconst 1, 1) := by decide +kernel
theorem dX3_dropOldest_8 : decode cX3_dropOldest 8 = .ok (.istore_n 2, 1) := by decide +kernel
theorem dX3_dropOldest_9 : decode cX3_dropOldest 9 = .ok (.iload_n 2, 1) := by decide +kernel
theorem dX3_dropOldest_10 : decode cX3_dropOldest 10 = .ok (.aload_n 0, 1) := by decide +kernel
theorem dX3_dropOldest_11 : decode cX3_dropOldest 11 = .ok (.getfield 11, 3) := by decide +kernel
theorem dX3_dropOldest_14 : decode cX3_dropOldest 14 = .ok (.arraylength, 1) := by decide +kernel
theorem dX3_dropOldest_15 : decode cX3_dropOldest 15 = .ok (.if_icmp .ge 23, 3) := by decide +kernel
theorem dX3_dropOldest_18 : decode cX3_dropOldest 18 = .ok (.aload_n 0, 1) := by decide +kernel
theorem dX3_dropOldest_19 : decode cX3_dropOldest 19 = .ok (.getfield 11, 3) := by decide +kernel
theorem dX3_dropOldest_22 : decode cX3_dropOldest 22 = .ok (.iload_n 2, 1) := by decide +kernel
theorem dX3_dropOldest_23 : decode cX3_dropOldest 23 = .ok (.iconst 1, 1) := by decide +kernel
theorem dX3_dropOldest_24 : decode cX3_dropOldest 24 = .ok (.isub, 1) := by decide +kernel
theorem dX3_dropOldest_25 : decode cX3_dropOldest 25 = .ok (.aload_n 0, 1) := by decide +kernel
theorem dX3_dropOldest_26 : decode cX3_dropOldest 26 = .ok (.getfield 11, 3) := by decide +kernel
theorem dX3_dropOldest_29 : decode cX3_dropOldest 29 = .ok (.iload_n 2, 1) := by decide +kernel
theorem dX3_dropOldest_30 : decode cX3_dropOldest 30 = .ok (.aaload, 1) := by decide +kernel
theorem dX3_dropOldest_31 : decode cX3_dropOldest 31 = .ok (.aastore, 1) := by decide +kernel
theorem dX3_dropOldest_32 : decode cX3_dropOldest 32 = .ok (.iinc 2 1, 3) := by decide +kernel
theorem dX3_dropOldest_35 : decode cX3_dropOldest 35 = .ok (.goto (-26), 3) := by decide +kernel
theorem dX3_dropOldest_38 : decode cX3_dropOldest 38 = .ok (.aload_n 0, 1) := by decide +kernel
theorem dX3_dropOldest_39 : decode cX3_dropOldest 39 = .ok (.getfield 11, 3) := by decide +kernel
theorem dX3_dropOldest_42 : decode cX3_dropOldest 42 = .ok (.aload_n 0, 1) := by decide +kernel
theorem dX3_dropOldest_43 : decode cX3_dropOldest 43 = .ok (.getfield 11, 3) := by decide +kernel
theorem dX3_dropOldest_46 : decode cX3_dropOldest 46 = .ok (.arraylength, 1) := by decide +kernel
theorem dX3_dropOldest_47 : decode cX3_dropOldest 47 = .ok (.iconst 1, 1) := by decide +kernel
theorem dX3_dropOldest_48 : decode cX3_dropOldest 48 = .ok (.isub, 1) := by decide +kernel
theorem dX3_dropOldest_49 : decode cX3_dropOldest 49 = .ok (.aload_n 1, 1) := by decide +kernel
theorem dX3_dropOldest_50 : decode cX3_dropOldest 50 = .ok (.aastore, 1) := by decide +kernel
theorem dX3_dropOldest_51 : decode cX3_dropOldest 51 = .ok (.aload_n 0, 1) := by decide +kernel
theorem dX3_dropOldest_52 : decode cX3_dropOldest 52 = .ok (.aload_n 0, 1) := by decide +kernel
theorem dX3_dropOldest_53 : decode cX3_dropOldest 53 = .ok (.getfield 11, 3) := by decide +kernel
theorem dX3_dropOldest_56 : decode cX3_dropOldest 56 = .ok (.arraylength, 1) := by decide +kernel
theorem dX3_dropOldest_57 : decode cX3_dropOldest 57 = .ok (.iconst 1, 1) := by decide +kernel
theorem dX3_dropOldest_58 : decode cX3_dropOldest 58 = .ok (.isub, 1) := by decide +kernel
theorem dX3_dropOldest_59 : decode cX3_dropOldest 59 = .ok (.putfield 18, 3) := by decide +kernel
theorem dX3_dropOldest_62 : decode cX3_dropOldest 62 = .ok (.return_, 1) := by decide +kernel
theorem dX3_popInto_0 : decode cX3_popInto 0 = .ok (.aload_n 0, 1) := by decide +kernel
theorem dX3_popInto_1 : decode cX3_popInto 1 = .ok (.getfield 18, 3) := by decide +kernel
theorem dX3_popInto_4 : decode cX3_popInto 4 = .ok (.ifCond .le 15, 3) := by decide +kernel
theorem dX3_popInto_7 : decode cX3_popInto 7 = .ok (.aload_n 0, 1) := by decide +kernel
theorem dX3_popInto_8 : decode cX3_popInto 8 = .ok (.getfield 18, 3) := by decide +kernel
theorem dX3_popInto_11 : decode cX3_popInto 11 = .ok (.aload_n 0, 1) := by decide +kernel
theorem dX3_popInto_12 : decode cX3_popInto 12 = .ok (.getfield 11, 3) := by decide +kernel
theorem dX3_popInto_15 : decode cX3_popInto 15 = .ok (.arraylength, 1) := by decide +kernel
theorem dX3_popInto_16 : decode cX3_popInto 16 = .ok (.if_icmp .le 4, 3) := by decide +kernel
theorem dX3_popInto_19 : decode cX3_popInto 19 = .ok (.return_, 1) := by decide +kernel
theorem dX3_popInto_20 : decode cX3_popInto 20 = .ok (.aload_n 0, 1) := by decide +kernel
theorem dX3_popInto_21 : decode cX3_popInto 21 = .ok (.dup, 1) := by decide +kernel
theorem dX3_popInto_22 : decode cX3_popInto 22 = .ok (.getfield 18, 3) := by decide +kernel
theorem dX3_popInto_25 : decode cX3_popInto 25 = .ok (.iconst 1, 1) := by decide +kernel
theorem dX3_popInto_26 : decode cX3_popInto 26 = .ok (.isub, 1) := by decide +kernel
theorem dX3_popInto_27 : decode cX3_popInto 27 = .ok (.putfield 18, 3) := by decide +kernel
theorem dX3_popInto_30 : decode cX3_popInto 30 = .ok (.aload_n 0, 1) := by decide +kernel
theorem dX3_popInto_31 : decode cX3_popInto 31 = .ok (.getfield 11, 3) := by decide +kernel
theorem dX3_popInto_34 : decode cX3_popInto 34 = .ok (.aload_n 0, 1) := by decide +kernel
theorem dX3_popInto_35 : decode cX3_popInto 35 = .ok (.getfield 18, 3) := by decide +kernel
theorem dX3_popInto_38 : decode cX3_popInto 38 = .ok (.aaload, 1) := by decide +kernel
theorem dX3_popInto_39 : decode cX3_popInto 39 = .ok (.astore_n 2, 1) := by decide +kernel
theorem dX3_popInto_40 : decode cX3_popInto 40 = .ok (.aload_n 2, 1) := by decide +kernel
theorem dX3_popInto_41 : decode cX3_popInto 41 = .ok (.ifnull 8, 3) := by decide +kernel
theorem dX3_popInto_44 : decode cX3_popInto 44 = .ok (.aload_n 1, 1) := by decide +kernel
theorem dX3_popInto_45 : decode cX3_popInto 45 = .ok (.aload_n 2, 1) := by decide +kernel
theorem dX3_popInto_46 : decode cX3_popInto 46 = .ok (.invokevirtual 25, 3) := by decide +kernel
theorem dX3_popInto_49 : decode cX3_popInto 49 = .ok (.return_, 1) := by decide +kernel
theorem dX4_init_0 : decode cX4_init 0 = .ok (.aload_n 0, 1) := by decide +kernel
theorem dX4_init_1 : decode cX4_init 1 = .ok (.invokespecial 3, 3) := by decide +kernel
theorem dX4_init_4 : decode cX4_init 4 = .ok (.aload_n 0, 1) := by decide +kernel
theorem dX4_init_5 : decode cX4_init 5 = .ok (.bipush 10, 2) := by decide +kernel
theorem dX4_init_7 : decode cX4_init 7 = .ok (.anewarray 9, 3) := by decide +kernel
theorem dX4_init_10 : decode cX4_init 10 = .ok (.putfield 11, 3) := by decide +kernel
theorem dX4_init_13 : decode cX4_init 13 = .ok (.aload_n 0, 1) := by decide +kernel
theorem dX4_init_14 : decode cX4_init 14 = .ok (.new 9, 3) := by decide +kernel
theorem dX4_init_17 : decode cX4_init 17 = .ok (.dup, 1) := by decide +kernel
theorem dX4_init_18 : decode cX4_init 18 = .ok (.invokespecial 17, 3) := by decide +kernel
theorem dX4_init_21 : decode cX4_init 21 = .ok (.putfield 18, 3) := by decide +kernel
theorem dX4_init_24 : decode cX4_init 24 = .ok (.aload_n 0, 1) := by decide +kernel
theorem dX4_init_25 : decode cX4_init 25 = .ok (.bipush 50, 2) := by decide +kernel
theorem dX4_init_27 : decode cX4_init 27 = .ok (.putfield 22, 3) := by decide +kernel
theorem dX4_init_30 : decode cX4_init 30 = .ok (.iconst 0, 1) := by decide +kernel
theorem dX4_init_31 : decode cX4_init 31 = .ok (.istore_n 1, 1) := by decide +kernel
theorem dX4_init_32 : decode cX4_init 32 = .ok (.iload_n 1, 1) := by decide +kernel
theorem dX4_init_33 : decode cX4_init 33 = .ok (.aload_n 0, 1) := by decide +kernel
theorem dX4_init_34 : decode cX4_init 34 = .ok (.getfield 11, 3) := by decide +kernel
theorem dX4_init_37 : decode cX4_init 37 = .ok (.arraylength, 1) := by decide +kernel
theorem dX4_init_38 : decode cX4_init 38 = .ok (.if_icmp .ge 22, 3) := by decide +kernel
theorem dX4_init_41 : decode cX4_init 41 = .ok (.aload_n 0, 1) := by decide +kernel
theorem dX4_init_42 : decode cX4_init 42 = .ok (.getfield 11, 3) := by decide +kernel
theorem dX4_init_45 : decode cX4_init 45 = .ok (.iload_n 1, 1) := by decide +kernel
theorem dX4_init_46 : decode cX4_init 46 = .ok (.new 9, 3) := by decide +kernel
theorem dX4_init_49 : decode cX4_init 49 = .ok (.dup, 1) := by decide +kernel
theorem dX4_init_50 : decode cX4_init 50 = .ok (.invokespecial 17, 3) := by decide +kernel
theorem dX4_init_53 : decode cX4_init 53 = .ok (.aastore, 1) := by decide +kernel
theorem dX4_init_54 : decode cX4_init 54 = .ok (.iinc 1 1, 3) := by decide +kernel
theorem dX4_init_57 : decode cX4_init 57 = .ok (.goto (-25), 3) := by decide +kernel
theorem dX4_init_60 : decode cX4_init 60 = .ok (.return_, 1) := by decide +kernel
theorem dX4_copyFrom_0 : decode cX4_copyFrom 0 = .ok (.aload_n 0, 1) := by decide +kernel
theorem dX4_copyFrom_1 : decode cX4_copyFrom 1 = .ok (.aload_n 1, 1) := by decide +kernel
theorem dX4_copyFrom_2 : decode cX4_copyFrom 2 = .ok (.getfield 26, 3) := by decide +kernel
theorem dX4_copyFrom_5 : decode cX4_copyFrom 5 = .ok (.putfield 26, 3) := by decide +kernel
theorem dX4_copyFrom_8 : decode cX4_copyFrom 8 = .ok (.aload_n 0, 1) := by decide +kernel
theorem dX4_copyFrom_9 : decode cX4_copyFrom 9 = .ok (.aload_n 1, 1) := by decide +kernel
theorem dX4_copyFrom_10 : decode cX4_copyFrom 10 = .ok (.getfield 22, 3) := by decide +kernel
theorem dX4_copyFrom_13 : decode cX4_copyFrom 13 = .ok (.putfield 22, 3) := by decide +kernel
theorem dX4_copyFrom_16 : decode cX4_copyFrom 16 = .ok (.aload_n 0, 1) := by decide +kernel
theorem dX4_copyFrom_17 : decode cX4_copyFrom 17 = .ok (.aload_n 1, 1) := by decide +kernel
theorem dX4_copyFrom_18 : decode cX4_copyFrom 18 = .ok (.getfield 29, 3) := by decide +kernel
theorem dX4_copyFrom_21 : decode cX4_copyFrom 21 = .ok (.putfield 29, 3) := by decide +kernel
theorem dX4_copyFrom_24 : decode cX4_copyFrom 24 = .ok (.aload_n 0, 1) := by decide +kernel
theorem dX4_copyFrom_25 : decode cX4_copyFrom 25 = .ok (.aload_n 1, 1) := by decide +kernel
theorem dX4_copyFrom_26 : decode cX4_copyFrom 26 = .ok (.getfield 32, 3) := by decide +kernel
theorem dX4_copyFrom_29 : decode cX4_copyFrom 29 = .ok (.putfield 32, 3) := by decide +kernel
theorem dX4_copyFrom_32 : decode cX4_copyFrom 32 = .ok (.aload_n 0, 1) := by decide +kernel
theorem dX4_copyFrom_33 : decode cX4_copyFrom 33 = .ok (.aload_n 1, 1) := by decide +kernel
theorem dX4_copyFrom_34 : decode cX4_copyFrom 34 = .ok (.getfield 35, 3) := by decide +kernel
theorem dX4_copyFrom_37 : decode cX4_copyFrom 37 = .ok (.putfield 35, 3) := by decide +kernel
theorem dX4_copyFrom_40 : decode cX4_copyFrom 40 = .ok (.aload_n 0, 1) := by decide +kernel
theorem dX4_copyFrom_41 : decode cX4_copyFrom 41 = .ok (.aload_n 1, 1) := by decide +kernel
theorem dX4_copyFrom_42 : decode cX4_copyFrom 42 = .ok (.getfield 38, 3) := by decide +kernel
theorem dX4_copyFrom_45 : decode cX4_copyFrom 45 = .ok (.putfield 38, 3) := by decide +kernel
theorem dX4_copyFrom_48 : decode cX4_copyFrom 48 = .ok (.iconst 0, 1) := by decide +kernel
theorem dX4_copyFrom_49 : decode cX4_copyFrom 49 = .ok (.istore_n 2, 1) := by decide +kernel
theorem dX4_copyFrom_50 : decode cX4_copyFrom 50 = .ok (.iload_n 2, 1) := by decide +kernel
theorem dX4_copyFrom_51 : decode cX4_copyFrom 51 = .ok (.aload_n 0, 1) := by decide +kernel
theorem dX4_copyFrom_52 : decode cX4_copyFrom 52 = .ok (.getfield 26, 3) := by decide +kernel
theorem dX4_copyFrom_55 : decode cX4_copyFrom 55 = .ok (.if_icmp .ge 22, 3) := by decide +kernel
theorem dX4_copyFrom_58 : decode cX4_copyFrom 58 = .ok (.aload_n 0, 1) := by decide +kernel
theorem dX4_copyFrom_59 : decode cX4_copyFrom 59 = .ok (.iload_n 2, 1) := by decide +kernel
theorem dX4_copyFrom_60 : decode cX4_copyFrom 60 = .ok (.invokevirtual 41, 3) := by decide +kernel
theorem dX4_copyFrom_63 : decode cX4_copyFrom 63 = .ok (.aload_n 1, 1) := by decide +kernel
theorem dX4_copyFrom_64 : decode cX4_copyFrom 64 = .ok (.iload_n 2, 1) := by decide +kernel
theorem dX4_copyFrom_65 : decode cX4_copyFrom 65 = .ok (.invokevirtual 41, 3) := by decide +kernel
theorem dX4_copyFrom_68 : decode cX4_copyFrom 68 = .ok (.invokevirtual 45, 3) := by decide +kernel
theorem dX4_copyFrom_71 : decode cX4_copyFrom 71 = .ok (.iinc 2 1, 3) := by decide +kernel
theorem dX4_copyFrom_74 : decode cX4_copyFrom 74 = .ok (.goto (-24), 3) := by decide +kernel
theorem dX4_copyFrom_77 : decode cX4_copyFrom 77 = .ok (.return_, 1) := by decide +kernel
theorem dX4_memberAt_0 : decode cX4_memberAt 0 = .ok (.iload_n 1, 1) := by decide +kernel
theorem dX4_memberAt_1 : decode cX4_memberAt 1 = .ok (.ifCond .lt 20, 3) := by decide +kernel
theorem dX4_memberAt_4 : decode cX4_memberAt 4 = .ok (.iload_n 1, 1) := by decide +kernel
theorem dX4_memberAt_5 : decode cX4_memberAt 5 = .ok (.aload_n 0, 1) := by decide +kernel
theorem dX4_memberAt_6 : decode cX4_memberAt 6 = .ok (.getfield 26, 3) := by decide +kernel
theorem dX4_memberAt_9 : decode cX4_memberAt 9 = .ok (.if_icmp .ge 12, 3) := by decide +kernel
theorem dX4_memberAt_12 : decode cX4_memberAt 12 = .ok (.iload_n 1, 1) := by decide +kernel
theorem dX4_memberAt_13 : decode cX4_memberAt 13 = .ok (.aload_n 0, 1) := by decide +kernel
theorem dX4_memberAt_14 : decode cX4_memberAt 14 = .ok (.getfield 11, 3) := by decide +kernel
theorem dX4_memberAt_17 : decode cX4_memberAt 17 = .ok (.arraylength, 1) := by decide +kernel
theorem dX4_memberAt_18 : decode cX4_memberAt 18 = .ok (.if_icmp .lt 8, 3) := by decide +kernel
theorem dX4_memberAt_21 : decode cX4_memberAt 21 = .ok (.aload_n 0, 1) := by decide +kernel
theorem dX4_memberAt_22 : decode cX4_memberAt 22 = .ok (.getfield 18, 3) := by decide +kernel
theorem dX4_memberAt_25 : decode cX4_memberAt 25 = .ok (.areturn, 1) := by decide +kernel
theorem dX4_memberAt_26 : decode cX4_memberAt 26 = .ok (.aload_n 0, 1) := by decide +kernel
theorem dX4_memberAt_27 : decode cX4_memberAt 27 = .ok (.getfield 11, 3) := by decide +kernel
theorem dX4_memberAt_30 : decode cX4_memberAt 30 = .ok (.iload_n 1, 1) := by decide +kernel
theorem dX4_memberAt_31 : decode cX4_memberAt 31 = .ok (.aaload, 1) := by decide +kernel
theorem dX4_memberAt_32 : decode cX4_memberAt 32 = .ok (.astore_n 2, 1) := by decide +kernel
theorem dX4_memberAt_33 : decode cX4_memberAt 33 = .ok (.aload_n 2, 1) := by decide +kernel
theorem dX4_memberAt_34 : decode cX4_memberAt 34 = .ok (.ifnonnull 10, 3) := by decide +kernel
theorem dX4_memberAt_37 : decode cX4_memberAt 37 = .ok (.aload_n 0, 1) := by decide +kernel
theorem dX4_memberAt_38 : decode cX4_memberAt 38 = .ok (.getfield 18, 3) := by decide +kernel
theorem dX4_memberAt_41 : decode cX4_memberAt 41 = .ok (.goto 4, 3) := by decide +kernel
theorem dX4_memberAt_44 : decode cX4_memberAt 44 = .ok (.aload_n 2, 1) := by decide +kernel
theorem dX4_memberAt_45 : decode cX4_memberAt 45 = .ok (.areturn, 1) := by decide +kernel
theorem dX4_placeOf_0 : decode cX4_placeOf 0 = .ok (.iconst 0, 1) := by decide +kernel
theorem dX4_placeOf_1 : decode cX4_placeOf 1 = .ok (.istore_n 2, 1) := by decide +kernel
theorem dX4_placeOf_2 : decode cX4_placeOf 2 = .ok (.iload_n 2, 1) := by decide +kernel
theorem dX4_placeOf_3 : decode cX4_placeOf 3 = .ok (.aload_n 0, 1) := by decide +kernel
theorem dX4_placeOf_4 : decode cX4_placeOf 4 = .ok (.getfield 26, 3) := by decide +kernel
theorem dX4_placeOf_7 : decode cX4_placeOf 7 = .ok (.if_icmp .ge 23, 3) := by decide +kernel
theorem dX4_placeOf_10 : decode cX4_placeOf 10 = .ok (.aload_n 0, 1) := by decide +kernel
theorem dX4_placeOf_11 : decode cX4_placeOf 11 = .ok (.iload_n 2, 1) := by decide +kernel
theorem dX4_placeOf_12 : decode cX4_placeOf 12 = .ok (.invokevirtual 41, 3) := by decide +kernel
theorem dX4_placeOf_15 : decode cX4_placeOf 15 = .ok (.getfield 49, 3) := by decide +kernel
theorem dX4_placeOf_18 : decode cX4_placeOf 18 = .ok (.iload_n 1, 1) := by decide +kernel
theorem dX4_placeOf_19 : decode cX4_placeOf 19 = .ok (.if_icmp .ne 5, 3) := by decide +kernel
theorem dX4_placeOf_22 : decode cX4_placeOf 22 = .ok (.iload_n 2, 1) := by decide +kernel
theorem dX4_placeOf_23 : decode cX4_placeOf 23 = .ok (.ireturn, 1) := by decide +kernel
theorem dX4_placeOf_24 : decode cX4_placeOf 24 = .ok (.iinc 2 1, 3) := by decide +kernel
theorem dX4_placeOf_27 : decode cX4_placeOf 27 = .ok (.goto (-25), 3) := by decide +kernel
theorem dX4_placeOf_30 : decode cX4_placeOf 30 = .ok (.iconst (-1), 1) := by decide +kernel
theorem dX4_placeOf_31 : decode cX4_placeOf 31 = .ok (.ireturn, 1) := by decide +kernel
theorem dX4_insert_0 : decode cX4_insert 0 = .ok (.aload_n 0, 1) := by decide +kernel
theorem dX4_insert_1 : decode cX4_insert 1 = .ok (.getfield 26, 3) := by decide +kernel
theorem dX4_insert_4 : decode cX4_insert 4 = .ok (.aload_n 0, 1) := by decide +kernel
theorem dX4_insert_5 : decode cX4_insert 5 = .ok (.getfield 11, 3) := by decide +kernel
theorem dX4_insert_8 : decode cX4_insert 8 = .ok (.arraylength, 1) := by decide +kernel
theorem dX4_insert_9 : decode cX4_insert 9 = .ok (.if_icmp .ge 15, 3) := by decide +kernel
theorem dX4_insert_12 : decode cX4_insert 12 = .ok (.iload_n 3, 1) := by decide +kernel
theorem dX4_insert_13 : decode cX4_insert 13 = .ok (.ifCond .lt 11, 3) := by decide +kernel
theorem dX4_insert_16 : decode cX4_insert 16 = .ok (.iload_n 3, 1) := by decide +kernel
theorem dX4_insert_17 : decode cX4_insert 17 = .ok (.aload_n 0, 1) := by decide +kernel
theorem dX4_insert_18 : decode cX4_insert 18 = .ok (.getfield 26, 3) := by decide +kernel
theorem dX4_insert_21 : decode cX4_insert 21 = .ok (.if_icmp .le 5, 3) := by decide +kernel
theorem dX4_insert_24 : decode cX4_insert 24 = .ok (.iconst (-1), 1) := by decide +kernel
theorem dX4_insert_25 : decode cX4_insert 25 = .ok (.ireturn, 1) := by decide +kernel
theorem dX4_insert_26 : decode cX4_insert 26 = .ok (.aload_n 0, 1) := by decide +kernel
theorem dX4_insert_27 : decode cX4_insert 27 = .ok (.getfield 11, 3) := by decide +kernel
theorem dX4_insert_30 : decode cX4_insert 30 = .ok (.aload_n 0, 1) := by decide +kernel
theorem dX4_insert_31 : decode cX4_insert 31 = .ok (.getfield 26, 3) := by decide +kernel
theorem dX4_insert_34 : decode cX4_insert 34 = .ok (.aaload, 1) := by decide +kernel
theorem dX4_insert_35 : decode cX4_insert 35 = .ok (.astore 4, 2) := by decide +kernel
theorem dX4_insert_37 : decode cX4_insert 37 = .ok (.aload 4, 2) := by decide +kernel
theorem dX4_insert_39 : decode cX4_insert 39 = .ok (.ifnonnull 5, 3) := by decide +kernel
theorem dX4_insert_42 : decode cX4_insert 42 = .ok (.iconst (-1), 1) := by decide +kernel
theorem dX4_insert_43 : decode cX4_insert 43 = .ok (.ireturn, 1) := by decide +kernel
theorem dX4_insert_44 : decode cX4_insert 44 = .ok (.aload_n 0, 1) := by decide +kernel
theorem dX4_insert_45 : decode cX4_insert 45 = .ok (.getfield 26, 3) := by decide +kernel
theorem dX4_insert_48 : decode cX4_insert 48 = .ok (.istore 5, 2) := by decide +kernel
theorem dX4_insert_50 : decode cX4_insert 50 = .ok (.iload 5, 2) := by decide +kernel
theorem dX4_insert_52 : decode cX4_insert 52 = .ok (.iload_n 3, 1) := by decide +kernel
theorem dX4_insert_53 : decode cX4_insert 53 = .ok (.if_icmp .le 25, 3) := by decide +kernel
theorem dX4_insert_56 : decode cX4_insert 56 = .ok (.aload_n 0, 1) := by decide +kernel
theorem dX4_insert_57 : decode cX4_insert 57 = .ok (.getfield 11, 3) := by decide +kernel
theorem dX4_insert_60 : decode cX4_insert 60 = .ok (.iload 5, 2) := by decide +kernel
theorem dX4_insert_62 : decode cX4_insert 62 = .ok (.aload_n 0, 1) := by decide +kernel
theorem dX4_insert_63 : decode cX4_insert 63 = .ok (.getfield 11, 3) := by decide +kernel
theorem dX4_insert_66 : decode cX4_insert 66 = .ok (.iload 5, 2) := by decide +kernel
theorem dX4_insert_68 : decode cX4_insert 68 = .ok (.iconst 1, 1) := by decide +kernel
theorem dX4_insert_69 : decode cX4_insert 69 = .ok (.isub, 1) := by decide +kernel
theorem dX4_insert_70 : decode cX4_insert 70 = .ok (.aaload, 1) := by decide +kernel
theorem dX4_insert_71 : decode cX4_insert 71 = .ok (.aastore, 1) := by decide +kernel
theorem dX4_insert_72 : decode cX4_insert 72 = .ok (.iinc 5 (-1), 3) := by decide +kernel
theorem dX4_insert_75 : decode cX4_insert 75 = .ok (.goto (-25), 3) := by decide +kernel
theorem dX4_insert_78 : decode cX4_insert 78 = .ok (.aload_n 0, 1) := by decide +kernel
theorem dX4_insert_79 : decode cX4_insert 79 = .ok (.getfield 11, 3) := by decide +kernel
theorem dX4_insert_82 : decode cX4_insert 82 = .ok (.iload_n 3, 1) := by decide +kernel
theorem dX4_insert_83 : decode cX4_insert 83 = .ok (.aload 4, 2) := by decide +kernel
theorem dX4_insert_85 : decode cX4_insert 85 = .ok (.aastore, 1) := by decide +kernel
theorem dX4_insert_86 : decode cX4_insert 86 = .ok (.aload_n 0, 1) := by decide +kernel
theorem dX4_insert_87 : decode cX4_insert 87 = .ok (.dup, 1) := by decide +kernel
theorem dX4_insert_88 : decode cX4_insert 88 = .ok (.getfield 26, 3) := by decide +kernel
theorem dX4_insert_91 : decode cX4_insert 91 = .ok (.iconst 1, 1) := by decide +kernel
theorem dX4_insert_92 : decode cX4_insert 92 = .ok (.iadd, 1) := by decide +kernel
theorem dX4_insert_93 : decode cX4_insert 93 = .ok (.putfield 26, 3) := by decide +kernel
theorem dX4_insert_96 : decode cX4_insert 96 = .ok (.aload 4, 2) := by decide +kernel
theorem dX4_insert_98 : decode cX4_insert 98 = .ok (.aload_n 0, 1) := by decide +kernel
theorem dX4_insert_99 : decode cX4_insert 99 = .ok (.getfield 38, 3) := by decide +kernel
theorem dX4_insert_102 : decode cX4_insert 102 = .ok (.iload_n 1, 1) := by decide +kernel
theorem dX4_insert_103 : decode cX4_insert 103 = .ok (.iload_n 2, 1) := by decide +kernel
theorem dX4_insert_104 : decode cX4_insert 104 = .ok (.invokevirtual 52, 3) := by decide +kernel
theorem dX4_insert_107 : decode cX4_insert 107 = .ok (.aload_n 0, 1) := by decide +kernel
theorem dX4_insert_108 : decode cX4_insert 108 = .ok (.iload_n 3, 1) := by decide +kernel
theorem dX4_insert_109 : decode cX4_insert 109 = .ok (.iconst 1, 1) := by decide +kernel
theorem dX4_insert_110 : decode cX4_insert 110 = .ok (.iadd, 1) := by decide +kernel
theorem dX4_insert_111 : decode cX4_insert 111 = .ok (.invokevirtual 41, 3) := by decide +kernel
theorem dX4_insert_114 : decode cX4_insert 114 = .ok (.invokevirtual 56, 3) := by decide +kernel
theorem dX4_insert_117 : decode cX4_insert 117 = .ok (.aload_n 0, 1) := by decide +kernel
theorem dX4_insert_118 : decode cX4_insert 118 = .ok (.dup, 1) := by decide +kernel
theorem dX4_insert_119 : decode cX4_insert 119 = .ok (.getfield 38, 3) := by decide +kernel
theorem dX4_insert_122 : decode cX4_insert 122 = .ok (.iconst 1, 1) := by decide +kernel
theorem dX4_insert_123 : decode cX4_insert 123 = .ok (.iadd, 1) := by decide +kernel
theorem dX4_insert_124 : decode cX4_insert 124 = .ok (.putfield 38, 3) := by decide +kernel
theorem dX4_insert_127 : decode cX4_insert 127 = .ok (.aload 4, 2) := by decide +kernel
theorem dX4_insert_129 : decode cX4_insert 129 = .ok (.getfield 49, 3) := by decide +kernel
theorem dX4_insert_132 : decode cX4_insert 132 = .ok (.ireturn, 1) := by decide +kernel
theorem dX4_removeMember_0 : decode cX4_removeMember 0 = .ok (.aload_n 0, 1) := by decide +kernel
theorem dX4_removeMember_1 : decode cX4_removeMember 1 = .ok (.iload_n 1, 1) := by decide +kernel
theorem dX4_removeMember_2 : decode cX4_removeMember 2 = .ok (.invokevirtual 59, 3) := by decide +kernel
theorem dX4_removeMember_5 : decode cX4_removeMember 5 = .ok (.istore_n 2, 1) := by decide +kernel
theorem dX4_removeMember_6 : decode cX4_removeMember 6 = .ok (.aload_n 0, 1) := by decide +kernel
theorem dX4_removeMember_7 : decode cX4_removeMember 7 = .ok (.iload_n 2, 1) := by decide +kernel
theorem dX4_removeMember_8 : decode cX4_removeMember 8 = .ok (.invokevirtual 63, 3) := by decide +kernel
theorem dX4_removeMember_11 : decode cX4_removeMember 11 = .ok (.iload_n 2, 1) := by decide +kernel
theorem dX4_removeMember_12 : decode cX4_removeMember 12 = .ok (.ireturn, 1) := by decide +kernel
theorem dX4_serveFirst_0 : decode cX4_serveFirst 0 = .ok (.aload_n 0, 1) := by decide +kernel
theorem dX4_serveFirst_1 : decode cX4_serveFirst 1 = .ok (.iconst 0, 1) := by decide +kernel
theorem dX4_serveFirst_2 : decode cX4_serveFirst 2 = .ok (.invokevirtual 41, 3) := by decide +kernel
theorem dX4_serveFirst_5 : decode cX4_serveFirst 5 = .ok (.getfield 49, 3) := by decide +kernel
theorem dX4_serveFirst_8 : decode cX4_serveFirst 8 = .ok (.istore_n 1, 1) := by decide +kernel
theorem dX4_serveFirst_9 : decode cX4_serveFirst 9 = .ok (.aload_n 0, 1) := by decide +kernel
theorem dX4_serveFirst_10 : decode cX4_serveFirst 10 = .ok (.iconst 0, 1) := by decide +kernel
theorem dX4_serveFirst_11 : decode cX4_serveFirst 11 = .ok (.invokevirtual 63, 3) := by decide +kernel
theorem dX4_serveFirst_14 : decode cX4_serveFirst 14 = .ok (.aload_n 0, 1) := by decide +kernel
theorem dX4_serveFirst_15 : decode cX4_serveFirst 15 = .ok (.dup, 1) := by decide +kernel
theorem dX4_serveFirst_16 : decode cX4_serveFirst 16 = .ok (.getfield 35, 3) := by decide +kernel
theorem dX4_serveFirst_19 : decode cX4_serveFirst 19 = .ok (.iconst 1, 1) := by decide +kernel
theorem dX4_serveFirst_20 : decode cX4_serveFirst 20 = .ok (.iadd, 1) := by decide +kernel
theorem dX4_serveFirst_21 : decode cX4_serveFirst 21 = .ok (.putfield 35, 3) := by decide +kernel
theorem dX4_serveFirst_24 : decode cX4_serveFirst 24 = .ok (.iload_n 1, 1) := by decide +kernel
theorem dX4_serveFirst_25 : decode cX4_serveFirst 25 = .ok (.ireturn, 1) := by decide +kernel
theorem dX4_removeAt_0 : decode cX4_removeAt 0 = .ok (.iload_n 1, 1) := by decide +kernel
theorem dX4_removeAt_1 : decode cX4_removeAt 1 = .ok (.ifCond .lt 23, 3) := by decide +kernel
theorem dX4_removeAt_4 : decode cX4_removeAt 4 = .ok (.iload_n 1, 1) := by decide +kernel
theorem dX4_removeAt_5 : decode cX4_removeAt 5 = .ok (.aload_n 0, 1) := by decide +kernel
theorem dX4_removeAt_6 : decode cX4_removeAt 6 = .ok (.getfield 26, 3) := by decide +kernel
theorem dX4_removeAt_9 : decode cX4_removeAt 9 = .ok (.if_icmp .ge 15, 3) := by decide +kernel
theorem dX4_removeAt_12 : decode cX4_removeAt 12 = .ok (.aload_n 0, 1) := by decide +kernel
theorem dX4_removeAt_13 : decode cX4_removeAt 13 = .ok (.getfield 26, 3) := by decide +kernel
theorem dX4_removeAt_16 : decode cX4_removeAt 16 = .ok (.aload_n 0, 1) := by decide +kernel
theorem dX4_removeAt_17 : decode cX4_removeAt 17 = .ok (.getfield 11, 3) := by decide +kernel
theorem dX4_removeAt_20 : decode cX4_removeAt 20 = .ok (.arraylength, 1) := by decide +kernel
theorem dX4_removeAt_21 : decode cX4_removeAt 21 = .ok (.if_icmp .le 4, 3) := by decide +kernel
theorem dX4_removeAt_24 : decode cX4_removeAt 24 = .ok (.return_, 1) := by decide +kernel
theorem dX4_removeAt_25 : decode cX4_removeAt 25 = .ok (.aload_n 0, 1) := by decide +kernel
theorem dX4_removeAt_26 : decode cX4_removeAt 26 = .ok (.getfield 11, 3) := by decide +kernel
theorem dX4_removeAt_29 : decode cX4_removeAt 29 = .ok (.iload_n 1, 1) := by decide +kernel
theorem dX4_removeAt_30 : decode cX4_removeAt 30 = .ok (.aaload, 1) := by decide +kernel
theorem dX4_removeAt_31 : decode cX4_removeAt 31 = .ok (.astore_n 2, 1) := by decide +kernel
theorem dX4_removeAt_32 : decode cX4_removeAt 32 = .ok (.iload_n 1, 1) := by decide +kernel
theorem dX4_removeAt_33 : decode cX4_removeAt 33 = .ok (.istore_n 3, 1) := by decide +kernel
theorem dX4_removeAt_34 : decode cX4_removeAt 34 = .ok (.iload_n 3, 1) := by decide +kernel
theorem dX4_removeAt_35 : decode cX4_removeAt 35 = .ok (.aload_n 0, 1) := by decide +kernel
theorem dX4_removeAt_36 : decode cX4_removeAt 36 = .ok (.getfield 26, 3) := by decide +kernel
theorem dX4_removeAt_39 : decode cX4_removeAt 39 = .ok (.iconst 1, 1) := by decide +kernel
theorem dX4_removeAt_40 : decode cX4_removeAt 40 = .ok (.isub, 1) := by decide +kernel
theorem dX4_removeAt_41 : decode cX4_removeAt 41 = .ok (.if_icmp .ge 23, 3) := by decide +kernel
theorem dX4_removeAt_44 : decode cX4_removeAt 44 = .ok (.aload_n 0, 1) := by decide +kernel
theorem dX4_removeAt_45 : decode cX4_removeAt 45 = .ok (.getfield 11, 3) := by decide +kernel
theorem dX4_removeAt_48 : decode cX4_removeAt 48 = .ok (.iload_n 3, 1) := by decide +kernel
theorem dX4_removeAt_49 : decode cX4_removeAt 49 = .ok (.aload_n 0, 1) := by decide +kernel
theorem dX4_removeAt_50 : decode cX4_removeAt 50 = .ok (.getfield 11, 3) := by decide +kernel
theorem dX4_removeAt_53 : decode cX4_removeAt 53 = .ok (.iload_n 3, 1) := by decide +kernel
theorem dX4_removeAt_54 : decode cX4_removeAt 54 = .ok (.iconst 1, 1) := by decide +kernel
theorem dX4_removeAt_55 : decode cX4_removeAt 55 = .ok (.iadd, 1) := by decide +kernel
theorem dX4_removeAt_56 : decode cX4_removeAt 56 = .ok (.aaload, 1) := by decide +kernel
theorem dX4_removeAt_57 : decode cX4_removeAt 57 = .ok (.aastore, 1) := by decide +kernel
theorem dX4_removeAt_58 : decode cX4_removeAt 58 = .ok (.iinc 3 1, 3) := by decide +kernel
theorem dX4_removeAt_61 : decode cX4_removeAt 61 = .ok (.goto (-27), 3) := by decide +kernel
theorem dX4_removeAt_64 : decode cX4_removeAt 64 = .ok (.aload_n 0, 1) := by decide +kernel
theorem dX4_removeAt_65 : decode cX4_removeAt 65 = .ok (.getfield 11, 3) := by decide +kernel
theorem dX4_removeAt_68 : decode cX4_removeAt 68 = .ok (.aload_n 0, 1) := by decide +kernel
theorem dX4_removeAt_69 : decode cX4_removeAt 69 = .ok (.getfield 26, 3) := by decide +kernel
theorem dX4_removeAt_72 : decode cX4_removeAt 72 = .ok (.iconst 1, 1) := by decide +kernel
theorem dX4_removeAt_73 : decode cX4_removeAt 73 = .ok (.isub, 1) := by decide +kernel
theorem dX4_removeAt_74 : decode cX4_removeAt 74 = .ok (.aload_n 2, 1) := by decide +kernel
theorem dX4_removeAt_75 : decode cX4_removeAt 75 = .ok (.aastore, 1) := by decide +kernel
theorem dX4_removeAt_76 : decode cX4_removeAt 76 = .ok (.aload_n 0, 1) := by decide +kernel
theorem dX4_removeAt_77 : decode cX4_removeAt 77 = .ok (.dup, 1) := by decide +kernel
theorem dX4_removeAt_78 : decode cX4_removeAt 78 = .ok (.getfield 26, 3) := by decide +kernel
theorem dX4_removeAt_81 : decode cX4_removeAt 81 = .ok (.iconst 1, 1) := by decide +kernel
theorem dX4_removeAt_82 : decode cX4_removeAt 82 = .ok (.isub, 1) := by decide +kernel
theorem dX4_removeAt_83 : decode cX4_removeAt 83 = .ok (.putfield 26, 3) := by decide +kernel
theorem dX4_removeAt_86 : decode cX4_removeAt 86 = .ok (.aload_n 0, 1) := by decide +kernel
theorem dX4_removeAt_87 : decode cX4_removeAt 87 = .ok (.iload_n 1, 1) := by decide +kernel
theorem dX4_removeAt_88 : decode cX4_removeAt 88 = .ok (.invokevirtual 41, 3) := by decide +kernel
theorem dX4_removeAt_91 : decode cX4_removeAt 91 = .ok (.invokevirtual 56, 3) := by decide +kernel
theorem dX4_removeAt_94 : decode cX4_removeAt 94 = .ok (.return_, 1) := by decide +kernel
theorem dX4_tell_0 : decode cX4_tell 0 = .ok (.aload_n 0, 1) := by decide +kernel
theorem dX4_tell_1 : decode cX4_tell 1 = .ok (.iload_n 1, 1) := by decide +kernel
theorem dX4_tell_2 : decode cX4_tell 2 = .ok (.invokevirtual 41, 3) := by decide +kernel
theorem dX4_tell_5 : decode cX4_tell 5 = .ok (.astore_n 3, 1) := by decide +kernel
theorem dX4_tell_6 : decode cX4_tell 6 = .ok (.aload_n 3, 1) := by decide +kernel
theorem dX4_tell_7 : decode cX4_tell 7 = .ok (.getfield 67, 3) := by decide +kernel
theorem dX4_tell_10 : decode cX4_tell 10 = .ok (.istore 4, 2) := by decide +kernel
theorem dX4_tell_12 : decode cX4_tell 12 = .ok (.aload_n 3, 1) := by decide +kernel
theorem dX4_tell_13 : decode cX4_tell 13 = .ok (.iload_n 2, 1) := by decide +kernel
theorem dX4_tell_14 : decode cX4_tell 14 = .ok (.putfield 67, 3) := by decide +kernel
theorem dX4_tell_17 : decode cX4_tell 17 = .ok (.iload 4, 2) := by decide +kernel
theorem dX4_tell_19 : decode cX4_tell 19 = .ok (.ireturn, 1) := by decide +kernel
theorem dX4_tellTruth_0 : decode cX4_tellTruth 0 = .ok (.iconst 0, 1) := by decide +kernel
theorem dX4_tellTruth_1 : decode cX4_tellTruth 1 = .ok (.istore_n 1, 1) := by decide +kernel
theorem dX4_tellTruth_2 : decode cX4_tellTruth 2 = .ok (.iload_n 1, 1) := by decide +kernel
theorem dX4_tellTruth_3 : decode cX4_tellTruth 3 = .ok (.aload_n 0, 1) := by decide +kernel
theorem dX4_tellTruth_4 : decode cX4_tellTruth 4 = .ok (.getfield 26, 3) := by decide +kernel
theorem dX4_tellTruth_7 : decode cX4_tellTruth 7 = .ok (.if_icmp .ge 25, 3) := by decide +kernel
theorem dX4_tellTruth_10 : decode cX4_tellTruth 10 = .ok (.aload_n 0, 1) := by decide +kernel
theorem dX4_tellTruth_11 : decode cX4_tellTruth 11 = .ok (.iload_n 1, 1) := by decide +kernel
theorem dX4_tellTruth_12 : decode cX4_tellTruth 12 = .ok (.invokevirtual 41, 3) := by decide +kernel
theorem dX4_tellTruth_15 : decode cX4_tellTruth 15 = .ok (.aload_n 0, 1) := by decide +kernel
theorem dX4_tellTruth_16 : decode cX4_tellTruth 16 = .ok (.iload_n 1, 1) := by decide +kernel
theorem dX4_tellTruth_17 : decode cX4_tellTruth 17 = .ok (.invokevirtual 41, 3) := by decide +kernel
theorem dX4_tellTruth_20 : decode cX4_tellTruth 20 = .ok (.getfield 70, 3) := by decide +kernel
theorem dX4_tellTruth_23 : decode cX4_tellTruth 23 = .ok (.putfield 67, 3) := by decide +kernel
theorem dX4_tellTruth_26 : decode cX4_tellTruth 26 = .ok (.iinc 1 1, 3) := by decide +kernel
theorem dX4_tellTruth_29 : decode cX4_tellTruth 29 = .ok (.goto (-27), 3) := by decide +kernel
theorem dX4_tellTruth_32 : decode cX4_tellTruth 32 = .ok (.return_, 1) := by decide +kernel
theorem dX4_makeOffer_0 : decode cX4_makeOffer 0 = .ok (.aload_n 0, 1) := by decide +kernel
theorem dX4_makeOffer_1 : decode cX4_makeOffer 1 = .ok (.iload_n 1, 1) := by decide +kernel
theorem dX4_makeOffer_2 : decode cX4_makeOffer 2 = .ok (.invokevirtual 41, 3) := by decide +kernel
theorem dX4_makeOffer_5 : decode cX4_makeOffer 5 = .ok (.astore_n 3, 1) := by decide +kernel
theorem dX4_makeOffer_6 : decode cX4_makeOffer 6 = .ok (.aload_n 3, 1) := by decide +kernel
theorem dX4_makeOffer_7 : decode cX4_makeOffer 7 = .ok (.getfield 73, 3) := by decide +kernel
theorem dX4_makeOffer_10 : decode cX4_makeOffer 10 = .ok (.istore 4, 2) := by decide +kernel
theorem dX4_makeOffer_12 : decode cX4_makeOffer 12 = .ok (.aload_n 3, 1) := by decide +kernel
theorem dX4_makeOffer_13 : decode cX4_makeOffer 13 = .ok (.iload_n 2, 1) := by decide +kernel
theorem dX4_makeOffer_14 : decode cX4_makeOffer 14 = .ok (.putfield 73, 3) := by decide +kernel
theorem dX4_makeOffer_17 : decode cX4_makeOffer 17 = .ok (.iload 4, 2) := by decide +kernel
theorem dX4_makeOffer_19 : decode cX4_makeOffer 19 = .ok (.ireturn, 1) := by decide +kernel
theorem dX4_setFriends_0 : decode cX4_setFriends 0 = .ok (.aload_n 0, 1) := by decide +kernel
theorem dX4_setFriends_1 : decode cX4_setFriends 1 = .ok (.iload_n 1, 1) := by decide +kernel
theorem dX4_setFriends_2 : decode cX4_setFriends 2 = .ok (.iconst 1, 1) := by decide +kernel
theorem dX4_setFriends_3 : decode cX4_setFriends 3 = .ok (.iadd, 1) := by decide +kernel
theorem dX4_setFriends_4 : decode cX4_setFriends 4 = .ok (.invokevirtual 41, 3) := by decide +kernel
theorem dX4_setFriends_7 : decode cX4_setFriends 7 = .ok (.iload_n 2, 1) := by decide +kernel
theorem dX4_setFriends_8 : decode cX4_setFriends 8 = .ok (.putfield 76, 3) := by decide +kernel
theorem dX4_setFriends_11 : decode cX4_setFriends 11 = .ok (.aload_n 0, 1) := by decide +kernel
theorem dX4_setFriends_12 : decode cX4_setFriends 12 = .ok (.invokevirtual 80, 3) := by decide +kernel
theorem dX4_setFriends_15 : decode cX4_setFriends 15 = .ok (.ireturn, 1) := by decide +kernel
theorem dX4_swapAsOffered_0 : decode cX4_swapAsOffered 0 = .ok (.aload_n 0, 1) := by decide +kernel
theorem dX4_swapAsOffered_1 : decode cX4_swapAsOffered 1 = .ok (.iload_n 1, 1) := by decide +kernel
theorem dX4_swapAsOffered_2 : decode cX4_swapAsOffered 2 = .ok (.aload_n 0, 1) := by decide +kernel
theorem dX4_swapAsOffered_3 : decode cX4_swapAsOffered 3 = .ok (.iload_n 1, 1) := by decide +kernel
theorem dX4_swapAsOffered_4 : decode cX4_swapAsOffered 4 = .ok (.iconst 1, 1) := by decide +kernel
theorem dX4_swapAsOffered_5 : decode cX4_swapAsOffered 5 = .ok (.iadd, 1) := by decide +kernel
theorem dX4_swapAsOffered_6 : decode cX4_swapAsOffered 6 = .ok (.invokevirtual 41, 3) := by decide +kernel
theorem dX4_swapAsOffered_9 : decode cX4_swapAsOffered 9 = .ok (.getfield 73, 3) := by decide +kernel
theorem dX4_swapAsOffered_12 : decode cX4_swapAsOffered 12 = .ok (.invokevirtual 84, 3) := by decide +kernel
theorem dX4_swapAsOffered_15 : decode cX4_swapAsOffered 15 = .ok (.ireturn, 1) := by decide +kernel
theorem dX4_swapFairly_0 : decode cX4_swapFairly 0 = .ok (.aload_n 0, 1) := by decide +kernel
theorem dX4_swapFairly_1 : decode cX4_swapFairly 1 = .ok (.iload_n 1, 1) := by decide +kernel
theorem dX4_swapFairly_2 : decode cX4_swapFairly 2 = .ok (.aload_n 0, 1) := by decide +kernel
theorem dX4_swapFairly_3 : decode cX4_swapFairly 3 = .ok (.iload_n 1, 1) := by decide +kernel
theorem dX4_swapFairly_4 : decode cX4_swapFairly 4 = .ok (.invokevirtual 88, 3) := by decide +kernel
theorem dX4_swapFairly_7 : decode cX4_swapFairly 7 = .ok (.invokevirtual 84, 3) := by decide +kernel
theorem dX4_swapFairly_10 : decode cX4_swapFairly 10 = .ok (.ireturn, 1) := by decide +kernel
theorem dX4_swapAt_0 : decode cX4_swapAt 0 = .ok (.iload_n 1, 1) := by decide +kernel
theorem dX4_swapAt_1 : decode cX4_swapAt 1 = .ok (.ifCond .lt 25, 3) := by decide +kernel
theorem dX4_swapAt_4 : decode cX4_swapAt 4 = .ok (.iload_n 1, 1) := by decide +kernel
theorem dX4_swapAt_5 : decode cX4_swapAt 5 = .ok (.aload_n 0, 1) := by decide +kernel
theorem dX4_swapAt_6 : decode cX4_swapAt 6 = .ok (.getfield 26, 3) := by decide +kernel
theorem dX4_swapAt_9 : decode cX4_swapAt 9 = .ok (.iconst 1, 1) := by decide +kernel
theorem dX4_swapAt_10 : decode cX4_swapAt 10 = .ok (.isub, 1) := by decide +kernel
theorem dX4_swapAt_11 : decode cX4_swapAt 11 = .ok (.if_icmp .ge 15, 3) := by decide +kernel
theorem dX4_swapAt_14 : decode cX4_swapAt 14 = .ok (.aload_n 0, 1) := by decide +kernel
theorem dX4_swapAt_15 : decode cX4_swapAt 15 = .ok (.getfield 26, 3) := by decide +kernel
theorem dX4_swapAt_18 : decode cX4_swapAt 18 = .ok (.aload_n 0, 1) := by decide +kernel
theorem dX4_swapAt_19 : decode cX4_swapAt 19 = .ok (.getfield 11, 3) := by decide +kernel
theorem dX4_swapAt_22 : decode cX4_swapAt 22 = .ok (.arraylength, 1) := by decide +kernel
theorem dX4_swapAt_23 : decode cX4_swapAt 23 = .ok (.if_icmp .le 5, 3) := by decide +kernel
theorem dX4_swapAt_26 : decode cX4_swapAt 26 = .ok (.iconst (-1), 1) := by decide +kernel
theorem dX4_swapAt_27 : decode cX4_swapAt 27 = .ok (.ireturn, 1) := by decide +kernel
theorem dX4_swapAt_28 : decode cX4_swapAt 28 = .ok (.aload_n 0, 1) := by decide +kernel
theorem dX4_swapAt_29 : decode cX4_swapAt 29 = .ok (.iload_n 1, 1) := by decide +kernel
theorem dX4_swapAt_30 : decode cX4_swapAt 30 = .ok (.invokevirtual 41, 3) := by decide +kernel
theorem dX4_swapAt_33 : decode cX4_swapAt 33 = .ok (.astore_n 3, 1) := by decide +kernel
theorem dX4_swapAt_34 : decode cX4_swapAt 34 = .ok (.aload_n 0, 1) := by decide +kernel
theorem dX4_swapAt_35 : decode cX4_swapAt 35 = .ok (.iload_n 1, 1) := by decide +kernel
theorem dX4_swapAt_36 : decode cX4_swapAt 36 = .ok (.iconst 1, 1) := by decide +kernel
theorem dX4_swapAt_37 : decode cX4_swapAt 37 = .ok (.iadd, 1) := by decide +kernel
theorem dX4_swapAt_38 : decode cX4_swapAt 38 = .ok (.invokevirtual 41, 3) := by decide +kernel
theorem dX4_swapAt_41 : decode cX4_swapAt 41 = .ok (.astore 4, 2) := by decide +kernel
theorem dX4_swapAt_43 : decode cX4_swapAt 43 = .ok (.aload_n 0, 1) := by decide +kernel
theorem dX4_swapAt_44 : decode cX4_swapAt 44 = .ok (.getfield 11, 3) := by decide +kernel
theorem dX4_swapAt_47 : decode cX4_swapAt 47 = .ok (.iload_n 1, 1) := by decide +kernel
theorem dX4_swapAt_48 : decode cX4_swapAt 48 = .ok (.aload 4, 2) := by decide +kernel
theorem dX4_swapAt_50 : decode cX4_swapAt 50 = .ok (.aastore, 1) := by decide +kernel
theorem dX4_swapAt_51 : decode cX4_swapAt 51 = .ok (.aload_n 0, 1) := by decide +kernel
theorem dX4_swapAt_52 : decode cX4_swapAt 52 = .ok (.getfield 11, 3) := by decide +kernel
theorem dX4_swapAt_55 : decode cX4_swapAt 55 = .ok (.iload_n 1, 1) := by decide +kernel
theorem dX4_swapAt_56 : decode cX4_swapAt 56 = .ok (.iconst 1, 1) := by decide +kernel
theorem dX4_swapAt_57 : decode cX4_swapAt 57 = .ok (.iadd, 1) := by decide +kernel
theorem dX4_swapAt_58 : decode cX4_swapAt 58 = .ok (.aload_n 3, 1) := by decide +kernel
theorem dX4_swapAt_59 : decode cX4_swapAt 59 = .ok (.aastore, 1) := by decide +kernel
theorem dX4_swapAt_60 : decode cX4_swapAt 60 = .ok (.aload 4, 2) := by decide +kernel
theorem dX4_swapAt_62 : decode cX4_swapAt 62 = .ok (.dup, 1) := by decide +kernel
theorem dX4_swapAt_63 : decode cX4_swapAt 63 = .ok (.getfield 91, 3) := by decide +kernel
theorem dX4_swapAt_66 : decode cX4_swapAt 66 = .ok (.iload_n 2, 1) := by decide +kernel
theorem dX4_swapAt_67 : decode cX4_swapAt 67 = .ok (.isub, 1) := by decide +kernel
theorem dX4_swapAt_68 : decode cX4_swapAt 68 = .ok (.putfield 91, 3) := by decide +kernel
theorem dX4_swapAt_71 : decode cX4_swapAt 71 = .ok (.aload_n 3, 1) := by decide +kernel
theorem dX4_swapAt_72 : decode cX4_swapAt 72 = .ok (.dup, 1) := by decide +kernel
theorem dX4_swapAt_73 : decode cX4_swapAt 73 = .ok (.getfield 91, 3) := by decide +kernel
theorem dX4_swapAt_76 : decode cX4_swapAt 76 = .ok (.iload_n 2, 1) := by decide +kernel
theorem dX4_swapAt_77 : decode cX4_swapAt 77 = .ok (.iadd, 1) := by decide +kernel
theorem dX4_swapAt_78 : decode cX4_swapAt 78 = .ok (.putfield 91, 3) := by decide +kernel
theorem dX4_swapAt_81 : decode cX4_swapAt 81 = .ok (.aload 4, 2) := by decide +kernel
theorem dX4_swapAt_83 : decode cX4_swapAt 83 = .ok (.invokevirtual 56, 3) := by decide +kernel
theorem dX4_swapAt_86 : decode cX4_swapAt 86 = .ok (.aload_n 3, 1) := by decide +kernel
theorem dX4_swapAt_87 : decode cX4_swapAt 87 = .ok (.invokevirtual 56, 3) := by decide +kernel
theorem dX4_swapAt_90 : decode cX4_swapAt 90 = .ok (.aload_n 0, 1) := by decide +kernel
theorem dX4_swapAt_91 : decode cX4_swapAt 91 = .ok (.iload_n 1, 1) := by decide +kernel
theorem dX4_swapAt_92 : decode cX4_swapAt 92 = .ok (.iconst 2, 1) := by decide +kernel
theorem dX4_swapAt_93 : decode cX4_swapAt 93 = .ok (.iadd, 1) := by decide +kernel
theorem dX4_swapAt_94 : decode cX4_swapAt 94 = .ok (.invokevirtual 41, 3) := by decide +kernel
theorem dX4_swapAt_97 : decode cX4_swapAt 97 = .ok (.invokevirtual 56, 3) := by decide +kernel
theorem dX4_swapAt_100 : decode cX4_swapAt 100 = .ok (.aload_n 0, 1) := by decide +kernel
theorem dX4_swapAt_101 : decode cX4_swapAt 101 = .ok (.dup, 1) := by decide +kernel
theorem dX4_swapAt_102 : decode cX4_swapAt 102 = .ok (.getfield 29, 3) := by decide +kernel
theorem dX4_swapAt_105 : decode cX4_swapAt 105 = .ok (.iconst 1, 1) := by decide +kernel
theorem dX4_swapAt_106 : decode cX4_swapAt 106 = .ok (.iadd, 1) := by decide +kernel
theorem dX4_swapAt_107 : decode cX4_swapAt 107 = .ok (.putfield 29, 3) := by decide +kernel
theorem dX4_swapAt_110 : decode cX4_swapAt 110 = .ok (.aload_n 0, 1) := by decide +kernel
theorem dX4_swapAt_111 : decode cX4_swapAt 111 = .ok (.dup, 1) := by decide +kernel
theorem dX4_swapAt_112 : decode cX4_swapAt 112 = .ok (.getfield 32, 3) := by decide +kernel
theorem dX4_swapAt_115 : decode cX4_swapAt 115 = .ok (.iload_n 2, 1) := by decide +kernel
theorem dX4_swapAt_116 : decode cX4_swapAt 116 = .ok (.iadd, 1) := by decide +kernel
theorem dX4_swapAt_117 : decode cX4_swapAt 117 = .ok (.putfield 32, 3) := by decide +kernel
theorem dX4_swapAt_120 : decode cX4_swapAt 120 = .ok (.iload_n 2, 1) := by decide +kernel
theorem dX4_swapAt_121 : decode cX4_swapAt 121 = .ok (.ireturn, 1) := by decide +kernel
theorem dX4_settleDown_0 : decode cX4_settleDown 0 = .ok (.iconst 0, 1) := by decide +kernel
theorem dX4_settleDown_1 : decode cX4_settleDown 1 = .ok (.istore_n 1, 1) := by decide +kernel
theorem dX4_settleDown_2 : decode cX4_settleDown 2 = .ok (.iload_n 1, 1) := by decide +kernel
theorem dX4_settleDown_3 : decode cX4_settleDown 3 = .ok (.sipush 1000, 3) := by decide +kernel
theorem dX4_settleDown_6 : decode cX4_settleDown 6 = .ok (.if_icmp .ge 28, 3) := by decide +kernel
theorem dX4_settleDown_9 : decode cX4_settleDown 9 = .ok (.aload_n 0, 1) := by decide +kernel
theorem dX4_settleDown_10 : decode cX4_settleDown 10 = .ok (.invokevirtual 94, 3) := by decide +kernel
theorem dX4_settleDown_13 : decode cX4_settleDown 13 = .ok (.istore_n 2, 1) := by decide +kernel
theorem dX4_settleDown_14 : decode cX4_settleDown 14 = .ok (.iload_n 2, 1) := by decide +kernel
theorem dX4_settleDown_15 : decode cX4_settleDown 15 = .ok (.iconst (-1), 1) := by decide +kernel
theorem dX4_settleDown_16 : decode cX4_settleDown 16 = .ok (.if_icmp .ne 6, 3) := by decide +kernel
theorem dX4_settleDown_19 : decode cX4_settleDown 19 = .ok (.goto 15, 3) := by decide +kernel
theorem dX4_settleDown_22 : decode cX4_settleDown 22 = .ok (.aload_n 0, 1) := by decide +kernel
theorem dX4_settleDown_23 : decode cX4_settleDown 23 = .ok (.iload_n 2, 1) := by decide +kernel
theorem dX4_settleDown_24 : decode cX4_settleDown 24 = .ok (.invokevirtual 97, 3) := by decide +kernel
theorem dX4_settleDown_27 : decode cX4_settleDown 27 = .ok (.pop, 1) := by decide +kernel
theorem dX4_settleDown_28 : decode cX4_settleDown 28 = .ok (.iinc 1 1, 3) := by decide +kernel
theorem dX4_settleDown_31 : decode cX4_settleDown 31 = .ok (.goto (-29), 3) := by decide +kernel
theorem dX4_settleDown_34 : decode cX4_settleDown 34 = .ok (.iload_n 1, 1) := by decide +kernel
theorem dX4_settleDown_35 : decode cX4_settleDown 35 = .ok (.ireturn, 1) := by decide +kernel
theorem dX4_keenestPair_0 : decode cX4_keenestPair 0 = .ok (.iconst (-1), 1) := by decide +kernel
theorem dX4_keenestPair_1 : decode cX4_keenestPair 1 = .ok (.istore_n 1, 1) := by decide +kernel
theorem dX4_keenestPair_2 : decode cX4_keenestPair 2 = .ok (.iconst 0, 1) := by decide +kernel
theorem dX4_keenestPair_3 : decode cX4_keenestPair 3 = .ok (.istore_n 2, 1) := by decide +kernel
theorem dX4_keenestPair_4 : decode cX4_keenestPair 4 = .ok (.iconst 0, 1) := by decide +kernel
theorem dX4_keenestPair_5 : decode cX4_keenestPair 5 = .ok (.istore_n 3, 1) := by decide +kernel
theorem dX4_keenestPair_6 : decode cX4_keenestPair 6 = .ok (.iload_n 3, 1) := by decide +kernel
theorem dX4_keenestPair_7 : decode cX4_keenestPair 7 = .ok (.aload_n 0, 1) := by decide +kernel
theorem dX4_keenestPair_8 : decode cX4_keenestPair 8 = .ok (.getfield 26, 3) := by decide +kernel
theorem dX4_keenestPair_11 : decode cX4_keenestPair 11 = .ok (.iconst 1, 1) := by decide +kernel
theorem dX4_keenestPair_12 : decode cX4_keenestPair 12 = .ok (.isub, 1) := by decide +kernel
theorem dX4_keenestPair_13 : decode cX4_keenestPair 13 = .ok (.if_icmp .ge 35, 3) := by decide +kernel
theorem dX4_keenestPair_16 : decode cX4_keenestPair 16 = .ok (.aload_n 0, 1) := by decide +kernel
theorem dX4_keenestPair_17 : decode cX4_keenestPair 17 = .ok (.iload_n 3, 1) := by decide +kernel
theorem dX4_keenestPair_18 : decode cX4_keenestPair 18 = .ok (.invokevirtual 100, 3) := by decide +kernel
theorem dX4_keenestPair_21 : decode cX4_keenestPair 21 = .ok (.istore 4, 2) := by decide +kernel
theorem dX4_keenestPair_23 : decode cX4_keenestPair 23 = .ok (.iload 4, 2) := by decide +kernel
theorem dX4_keenestPair_25 : decode cX4_keenestPair 25 = .ok (.iload_n 2, 1) := by decide +kernel
theorem dX4_keenestPair_26 : decode cX4_keenestPair 26 = .ok (.if_icmp .le 16, 3) := by decide +kernel
theorem dX4_keenestPair_29 : decode cX4_keenestPair 29 = .ok (.aload_n 0, 1) := by decide +kernel
theorem dX4_keenestPair_30 : decode cX4_keenestPair 30 = .ok (.iload_n 3, 1) := by decide +kernel
theorem dX4_keenestPair_31 : decode cX4_keenestPair 31 = .ok (.invokevirtual 103, 3) := by decide +kernel
theorem dX4_keenestPair_34 : decode cX4_keenestPair 34 = .ok (.ifCond .ne 8, 3) := by decide +kernel
theorem dX4_keenestPair_37 : decode cX4_keenestPair 37 = .ok (.iload 4, 2) := by decide +kernel
theorem dX4_keenestPair_39 : decode cX4_keenestPair 39 = .ok (.istore_n 2, 1) := by decide +kernel
theorem dX4_keenestPair_40 : decode cX4_keenestPair 40 = .ok (.iload_n 3, 1) := by decide +kernel
theorem dX4_keenestPair_41 : decode cX4_keenestPair 41 = .ok (.istore_n 1, 1) := by decide +kernel
theorem dX4_keenestPair_42 : decode cX4_keenestPair 42 = .ok (.iinc 3 1, 3) := by decide +kernel
theorem dX4_keenestPair_45 : decode cX4_keenestPair 45 = .ok (.goto (-39), 3) := by decide +kernel
theorem dX4_keenestPair_48 : decode cX4_keenestPair 48 = .ok (.iload_n 1, 1) := by decide +kernel
theorem dX4_keenestPair_49 : decode cX4_keenestPair 49 = .ok (.ireturn, 1) := by decide +kernel
theorem dX4_gain_0 : decode cX4_gain 0 = .ok (.aload_n 0, 1) := by decide +kernel
theorem dX4_gain_1 : decode cX4_gain 1 = .ok (.iload_n 1, 1) := by decide +kernel
theorem dX4_gain_2 : decode cX4_gain 2 = .ok (.iconst 1, 1) := by decide +kernel
theorem dX4_gain_3 : decode cX4_gain 3 = .ok (.iadd, 1) := by decide +kernel
theorem dX4_gain_4 : decode cX4_gain 4 = .ok (.invokevirtual 41, 3) := by decide +kernel
theorem dX4_gain_7 : decode cX4_gain 7 = .ok (.getfield 67, 3) := by decide +kernel
theorem dX4_gain_10 : decode cX4_gain 10 = .ok (.aload_n 0, 1) := by decide +kernel
theorem dX4_gain_11 : decode cX4_gain 11 = .ok (.iload_n 1, 1) := by decide +kernel
theorem dX4_gain_12 : decode cX4_gain 12 = .ok (.invokevirtual 41, 3) := by decide +kernel
theorem dX4_gain_15 : decode cX4_gain 15 = .ok (.getfield 107, 3) := by decide +kernel
theorem dX4_gain_18 : decode cX4_gain 18 = .ok (.imul, 1) := by decide +kernel
theorem dX4_gain_19 : decode cX4_gain 19 = .ok (.ireturn, 1) := by decide +kernel
theorem dX4_loss_0 : decode cX4_loss 0 = .ok (.aload_n 0, 1) := by decide +kernel
theorem dX4_loss_1 : decode cX4_loss 1 = .ok (.iload_n 1, 1) := by decide +kernel
theorem dX4_loss_2 : decode cX4_loss 2 = .ok (.invokevirtual 41, 3) := by decide +kernel
theorem dX4_loss_5 : decode cX4_loss 5 = .ok (.getfield 67, 3) := by decide +kernel
theorem dX4_loss_8 : decode cX4_loss 8 = .ok (.aload_n 0, 1) := by decide +kernel
theorem dX4_loss_9 : decode cX4_loss 9 = .ok (.iload_n 1, 1) := by decide +kernel
theorem dX4_loss_10 : decode cX4_loss 10 = .ok (.iconst 1, 1) := by decide +kernel
theorem dX4_loss_11 : decode cX4_loss 11 = .ok (.iadd, 1) := by decide +kernel
theorem dX4_loss_12 : decode cX4_loss 12 = .ok (.invokevirtual 41, 3) := by decide +kernel
theorem dX4_loss_15 : decode cX4_loss 15 = .ok (.getfield 107, 3) := by decide +kernel
theorem dX4_loss_18 : decode cX4_loss 18 = .ok (.imul, 1) := by decide +kernel
theorem dX4_loss_19 : decode cX4_loss 19 = .ok (.ireturn, 1) := by decide +kernel
theorem dX4_surplus_0 : decode cX4_surplus 0 = .ok (.aload_n 0, 1) := by decide +kernel
theorem dX4_surplus_1 : decode cX4_surplus 1 = .ok (.iload_n 1, 1) := by decide +kernel
theorem dX4_surplus_2 : decode cX4_surplus 2 = .ok (.invokevirtual 41, 3) := by decide +kernel
theorem dX4_surplus_5 : decode cX4_surplus 5 = .ok (.astore_n 2, 1) := by decide +kernel
theorem dX4_surplus_6 : decode cX4_surplus 6 = .ok (.aload_n 0, 1) := by decide +kernel
theorem dX4_surplus_7 : decode cX4_surplus 7 = .ok (.iload_n 1, 1) := by decide +kernel
theorem dX4_surplus_8 : decode cX4_surplus 8 = .ok (.iconst 1, 1) := by decide +kernel
theorem dX4_surplus_9 : decode cX4_surplus 9 = .ok (.iadd, 1) := by decide +kernel
theorem dX4_surplus_10 : decode cX4_surplus 10 = .ok (.invokevirtual 41, 3) := by decide +kernel
theorem dX4_surplus_13 : decode cX4_surplus 13 = .ok (.astore_n 3, 1) := by decide +kernel
theorem dX4_surplus_14 : decode cX4_surplus 14 = .ok (.aload_n 3, 1) := by decide +kernel
theorem dX4_surplus_15 : decode cX4_surplus 15 = .ok (.getfield 67, 3) := by decide +kernel
theorem dX4_surplus_18 : decode cX4_surplus 18 = .ok (.aload_n 2, 1) := by decide +kernel
theorem dX4_surplus_19 : decode cX4_surplus 19 = .ok (.getfield 107, 3) := by decide +kernel
theorem dX4_surplus_22 : decode cX4_surplus 22 = .ok (.imul, 1) := by decide +kernel
theorem dX4_surplus_23 : decode cX4_surplus 23 = .ok (.aload_n 2, 1) := by decide +kernel
theorem dX4_surplus_24 : decode cX4_surplus 24 = .ok (.getfield 67, 3) := by decide +kernel
theorem dX4_surplus_27 : decode cX4_surplus 27 = .ok (.aload_n 3, 1) := by decide +kernel
theorem dX4_surplus_28 : decode cX4_surplus 28 = .ok (.getfield 107, 3) := by decide +kernel
theorem dX4_surplus_31 : decode cX4_surplus 31 = .ok (.imul, 1) := by decide +kernel
theorem dX4_surplus_32 : decode cX4_surplus 32 = .ok (.isub, 1) := by decide +kernel
theorem dX4_surplus_33 : decode cX4_surplus 33 = .ok (.ireturn, 1) := by decide +kernel
theorem dX4_fairPrice_0 : decode cX4_fairPrice 0 = .ok (.aload_n 0, 1) := by decide +kernel
theorem dX4_fairPrice_1 : decode cX4_fairPrice 1 = .ok (.iload_n 1, 1) := by decide +kernel
theorem dX4_fairPrice_2 : decode cX4_fairPrice 2 = .ok (.invokevirtual 41, 3) := by decide +kernel
theorem dX4_fairPrice_5 : decode cX4_fairPrice 5 = .ok (.astore_n 2, 1) := by decide +kernel
theorem dX4_fairPrice_6 : decode cX4_fairPrice 6 = .ok (.aload_n 0, 1) := by decide +kernel
theorem dX4_fairPrice_7 : decode cX4_fairPrice 7 = .ok (.iload_n 1, 1) := by decide +kernel
theorem dX4_fairPrice_8 : decode cX4_fairPrice 8 = .ok (.iconst 1, 1) := by decide +kernel
theorem dX4_fairPrice_9 : decode cX4_fairPrice 9 = .ok (.iadd, 1) := by decide +kernel
theorem dX4_fairPrice_10 : decode cX4_fairPrice 10 = .ok (.invokevirtual 41, 3) := by decide +kernel
theorem dX4_fairPrice_13 : decode cX4_fairPrice 13 = .ok (.astore_n 3, 1) := by decide +kernel
theorem dX4_fairPrice_14 : decode cX4_fairPrice 14 = .ok (.aload_n 2, 1) := by decide +kernel
theorem dX4_fairPrice_15 : decode cX4_fairPrice 15 = .ok (.getfield 67, 3) := by decide +kernel
theorem dX4_fairPrice_18 : decode cX4_fairPrice 18 = .ok (.aload_n 3, 1) := by decide +kernel
theorem dX4_fairPrice_19 : decode cX4_fairPrice 19 = .ok (.getfield 107, 3) := by decide +kernel
theorem dX4_fairPrice_22 : decode cX4_fairPrice 22 = .ok (.imul, 1) := by decide +kernel
theorem dX4_fairPrice_23 : decode cX4_fairPrice 23 = .ok (.istore 4, 2) := by decide +kernel
theorem dX4_fairPrice_25 : decode cX4_fairPrice 25 = .ok (.aload_n 3, 1) := by decide +kernel
theorem dX4_fairPrice_26 : decode cX4_fairPrice 26 = .ok (.getfield 67, 3) := by decide +kernel
theorem dX4_fairPrice_29 : decode cX4_fairPrice 29 = .ok (.aload_n 2, 1) := by decide +kernel
theorem dX4_fairPrice_30 : decode cX4_fairPrice 30 = .ok (.getfield 107, 3) := by decide +kernel
theorem dX4_fairPrice_33 : decode cX4_fairPrice 33 = .ok (.imul, 1) := by decide +kernel
theorem dX4_fairPrice_34 : decode cX4_fairPrice 34 = .ok (.iload 4, 2) := by decide +kernel
theorem dX4_fairPrice_36 : decode cX4_fairPrice 36 = .ok (.isub, 1) := by decide +kernel
theorem dX4_fairPrice_37 : decode cX4_fairPrice 37 = .ok (.istore 5, 2) := by decide +kernel
theorem dX4_fairPrice_39 : decode cX4_fairPrice 39 = .ok (.iload 5, 2) := by decide +kernel
theorem dX4_fairPrice_41 : decode cX4_fairPrice 41 = .ok (.ifCond .le 19, 3) := by decide +kernel
theorem dX4_fairPrice_44 : decode cX4_fairPrice 44 = .ok (.iload 4, 2) := by decide +kernel
theorem dX4_fairPrice_46 : decode cX4_fairPrice 46 = .ok (.iload 5, 2) := by decide +kernel
theorem dX4_fairPrice_48 : decode cX4_fairPrice 48 = .ok (.aload_n 0, 1) := by decide +kernel
theorem dX4_fairPrice_49 : decode cX4_fairPrice 49 = .ok (.getfield 22, 3) := by decide +kernel
theorem dX4_fairPrice_52 : decode cX4_fairPrice 52 = .ok (.imul, 1) := by decide +kernel
theorem dX4_fairPrice_53 : decode cX4_fairPrice 53 = .ok (.bipush 100, 2) := by decide +kernel
theorem dX4_fairPrice_55 : decode cX4_fairPrice 55 = .ok (.idiv, 1) := by decide +kernel
theorem dX4_fairPrice_56 : decode cX4_fairPrice 56 = .ok (.iadd, 1) := by decide +kernel
theorem dX4_fairPrice_57 : decode cX4_fairPrice 57 = .ok (.goto 4, 3) := by decide +kernel
theorem dX4_fairPrice_60 : decode cX4_fairPrice 60 = .ok (.iconst (-1), 1) := by decide +kernel
theorem dX4_fairPrice_61 : decode cX4_fairPrice 61 = .ok (.ireturn, 1) := by decide +kernel
theorem dX4_areFriends_0 : decode cX4_areFriends 0 = .ok (.aload_n 0, 1) := by decide +kernel
theorem dX4_areFriends_1 : decode cX4_areFriends 1 = .ok (.iload_n 1, 1) := by decide +kernel
theorem dX4_areFriends_2 : decode cX4_areFriends 2 = .ok (.iconst 1, 1) := by decide +kernel
theorem dX4_areFriends_3 : decode cX4_areFriends 3 = .ok (.iadd, 1) := by decide +kernel
theorem dX4_areFriends_4 : decode cX4_areFriends 4 = .ok (.invokevirtual 41, 3) := by decide +kernel
theorem dX4_areFriends_7 : decode cX4_areFriends 7 = .ok (.getfield 76, 3) := by decide +kernel
theorem dX4_areFriends_10 : decode cX4_areFriends 10 = .ok (.ireturn, 1) := by decide +kernel
theorem dX4_isHeldByFriends_0 : decode cX4_isHeldByFriends 0 = .ok (.aload_n 0, 1) := by decide +kernel
theorem dX4_isHeldByFriends_1 : decode cX4_isHeldByFriends 1 = .ok (.iload_n 1, 1) := by decide +kernel
theorem dX4_isHeldByFriends_2 : decode cX4_isHeldByFriends 2 = .ok (.invokevirtual 41, 3) := by decide +kernel
theorem dX4_isHeldByFriends_5 : decode cX4_isHeldByFriends 5 = .ok (.getfield 76, 3) := by decide +kernel
theorem dX4_isHeldByFriends_8 : decode cX4_isHeldByFriends 8 = .ok (.ifCond .ne 29, 3) := by decide +kernel
theorem dX4_isHeldByFriends_11 : decode cX4_isHeldByFriends 11 = .ok (.aload_n 0, 1) := by decide +kernel
theorem dX4_isHeldByFriends_12 : decode cX4_isHeldByFriends 12 = .ok (.iload_n 1, 1) := by decide +kernel
theorem dX4_isHeldByFriends_13 : decode cX4_isHeldByFriends 13 = .ok (.iconst 1, 1) := by decide +kernel
theorem dX4_isHeldByFriends_14 : decode cX4_isHeldByFriends 14 = .ok (.iadd, 1) := by decide +kernel
theorem dX4_isHeldByFriends_15 : decode cX4_isHeldByFriends 15 = .ok (.invokevirtual 41, 3) := by decide +kernel
theorem dX4_isHeldByFriends_18 : decode cX4_isHeldByFriends 18 = .ok (.getfield 76, 3) := by decide +kernel
theorem dX4_isHeldByFriends_21 : decode cX4_isHeldByFriends 21 = .ok (.ifCond .ne 16, 3) := by decide +kernel
theorem dX4_isHeldByFriends_24 : decode cX4_isHeldByFriends 24 = .ok (.aload_n 0, 1) := by decide +kernel
theorem dX4_isHeldByFriends_25 : decode cX4_isHeldByFriends 25 = .ok (.iload_n 1, 1) := by decide +kernel
theorem dX4_isHeldByFriends_26 : decode cX4_isHeldByFriends 26 = .ok (.iconst 2, 1) := by decide +kernel
theorem dX4_isHeldByFriends_27 : decode cX4_isHeldByFriends 27 = .ok (.iadd, 1) := by decide +kernel
theorem dX4_isHeldByFriends_28 : decode cX4_isHeldByFriends 28 = .ok (.invokevirtual 41, 3) := by decide +kernel
theorem dX4_isHeldByFriends_31 : decode cX4_isHeldByFriends 31 = .ok (.getfield 76, 3) := by decide +kernel
theorem dX4_isHeldByFriends_34 : decode cX4_isHeldByFriends 34 = .ok (.ifCond .eq 7, 3) := by decide +kernel
theorem dX4_isHeldByFriends_37 : decode cX4_isHeldByFriends 37 = .ok (.iconst 1, 1) := by decide +kernel
theorem dX4_isHeldByFriends_38 : decode cX4_isHeldByFriends 38 = .ok (.goto 4, 3) := by decide +kernel
theorem dX4_isHeldByFriends_41 : decode cX4_isHeldByFriends 41 = .ok (.iconst 0, 1) := by decide +kernel
theorem dX4_isHeldByFriends_42 : decode cX4_isHeldByFriends 42 = .ok (.ireturn, 1) := by decide +kernel
theorem dX4_wouldSwap_0 : decode cX4_wouldSwap 0 = .ok (.aload_n 0, 1) := by decide +kernel
theorem dX4_wouldSwap_1 : decode cX4_wouldSwap 1 = .ok (.iload_n 1, 1) := by decide +kernel
theorem dX4_wouldSwap_2 : decode cX4_wouldSwap 2 = .ok (.invokevirtual 110, 3) := by decide +kernel
theorem dX4_wouldSwap_5 : decode cX4_wouldSwap 5 = .ok (.ifCond .ne 7, 3) := by decide +kernel
theorem dX4_wouldSwap_8 : decode cX4_wouldSwap 8 = .ok (.iconst 1, 1) := by decide +kernel
theorem dX4_wouldSwap_9 : decode cX4_wouldSwap 9 = .ok (.goto 4, 3) := by decide +kernel
theorem dX4_wouldSwap_12 : decode cX4_wouldSwap 12 = .ok (.iconst 0, 1) := by decide +kernel
theorem dX4_wouldSwap_13 : decode cX4_wouldSwap 13 = .ok (.ireturn, 1) := by decide +kernel
theorem dX4_wouldTake_0 : decode cX4_wouldTake 0 = .ok (.aload_n 0, 1) := by decide +kernel
theorem dX4_wouldTake_1 : decode cX4_wouldTake 1 = .ok (.iload_n 1, 1) := by decide +kernel
theorem dX4_wouldTake_2 : decode cX4_wouldTake 2 = .ok (.iconst 1, 1) := by decide +kernel
theorem dX4_wouldTake_3 : decode cX4_wouldTake 3 = .ok (.iadd, 1) := by decide +kernel
theorem dX4_wouldTake_4 : decode cX4_wouldTake 4 = .ok (.invokevirtual 41, 3) := by decide +kernel
theorem dX4_wouldTake_7 : decode cX4_wouldTake 7 = .ok (.getfield 73, 3) := by decide +kernel
theorem dX4_wouldTake_10 : decode cX4_wouldTake 10 = .ok (.istore_n 2, 1) := by decide +kernel
theorem dX4_wouldTake_11 : decode cX4_wouldTake 11 = .ok (.iload_n 2, 1) := by decide +kernel
theorem dX4_wouldTake_12 : decode cX4_wouldTake 12 = .ok (.iconst (-1), 1) := by decide +kernel
theorem dX4_wouldTake_13 : decode cX4_wouldTake 13 = .ok (.if_icmp .eq 24, 3) := by decide +kernel
theorem dX4_wouldTake_16 : decode cX4_wouldTake 16 = .ok (.iload_n 2, 1) := by decide +kernel
theorem dX4_wouldTake_17 : decode cX4_wouldTake 17 = .ok (.aload_n 0, 1) := by decide +kernel
theorem dX4_wouldTake_18 : decode cX4_wouldTake 18 = .ok (.iload_n 1, 1) := by decide +kernel
theorem dX4_wouldTake_19 : decode cX4_wouldTake 19 = .ok (.invokevirtual 113, 3) := by decide +kernel
theorem dX4_wouldTake_22 : decode cX4_wouldTake 22 = .ok (.if_icmp .lt 15, 3) := by decide +kernel
theorem dX4_wouldTake_25 : decode cX4_wouldTake 25 = .ok (.aload_n 0, 1) := by decide +kernel
theorem dX4_wouldTake_26 : decode cX4_wouldTake 26 = .ok (.iload_n 1, 1) := by decide +kernel
theorem dX4_wouldTake_27 : decode cX4_wouldTake 27 = .ok (.invokevirtual 103, 3) := by decide +kernel
theorem dX4_wouldTake_30 : decode cX4_wouldTake 30 = .ok (.ifCond .ne 7, 3) := by decide +kernel
theorem dX4_wouldTake_33 : decode cX4_wouldTake 33 = .ok (.iconst 1, 1) := by decide +kernel
theorem dX4_wouldTake_34 : decode cX4_wouldTake 34 = .ok (.goto 4, 3) := by decide +kernel
theorem dX4_wouldTake_37 : decode cX4_wouldTake 37 = .ok (.iconst 0, 1) := by decide +kernel
theorem dX4_wouldTake_38 : decode cX4_wouldTake 38 = .ok (.ireturn, 1) := by decide +kernel
theorem dX4_hindrance_0 : decode cX4_hindrance 0 = .ok (.aload_n 0, 1) := by decide +kernel
theorem dX4_hindrance_1 : decode cX4_hindrance 1 = .ok (.iload_n 1, 1) := by decide +kernel
theorem dX4_hindrance_2 : decode cX4_hindrance 2 = .ok (.invokevirtual 116, 3) := by decide +kernel
theorem dX4_hindrance_5 : decode cX4_hindrance 5 = .ok (.ifCond .eq 5, 3) := by decide +kernel
theorem dX4_hindrance_8 : decode cX4_hindrance 8 = .ok (.iconst 1, 1) := by decide +kernel
theorem dX4_hindrance_9 : decode cX4_hindrance 9 = .ok (.ireturn, 1) := by decide +kernel
theorem dX4_hindrance_10 : decode cX4_hindrance 10 = .ok (.aload_n 0, 1) := by decide +kernel
theorem dX4_hindrance_11 : decode cX4_hindrance 11 = .ok (.iload_n 1, 1) := by decide +kernel
theorem dX4_hindrance_12 : decode cX4_hindrance 12 = .ok (.iconst 1, 1) := by decide +kernel
theorem dX4_hindrance_13 : decode cX4_hindrance 13 = .ok (.isub, 1) := by decide +kernel
theorem dX4_hindrance_14 : decode cX4_hindrance 14 = .ok (.invokevirtual 116, 3) := by decide +kernel
theorem dX4_hindrance_17 : decode cX4_hindrance 17 = .ok (.ifCond .eq 5, 3) := by decide +kernel
theorem dX4_hindrance_20 : decode cX4_hindrance 20 = .ok (.iconst 2, 1) := by decide +kernel
theorem dX4_hindrance_21 : decode cX4_hindrance 21 = .ok (.ireturn, 1) := by decide +kernel
theorem dX4_hindrance_22 : decode cX4_hindrance 22 = .ok (.aload_n 0, 1) := by decide +kernel
theorem dX4_hindrance_23 : decode cX4_hindrance 23 = .ok (.iload_n 1, 1) := by decide +kernel
theorem dX4_hindrance_24 : decode cX4_hindrance 24 = .ok (.iconst 1, 1) := by decide +kernel
theorem dX4_hindrance_25 : decode cX4_hindrance 25 = .ok (.iadd, 1) := by decide +kernel
theorem dX4_hindrance_26 : decode cX4_hindrance 26 = .ok (.invokevirtual 116, 3) := by decide +kernel
theorem dX4_hindrance_29 : decode cX4_hindrance 29 = .ok (.ifCond .eq 5, 3) := by decide +kernel
theorem dX4_hindrance_32 : decode cX4_hindrance 32 = .ok (.iconst 3, 1) := by decide +kernel
theorem dX4_hindrance_33 : decode cX4_hindrance 33 = .ok (.ireturn, 1) := by decide +kernel
theorem dX4_hindrance_34 : decode cX4_hindrance 34 = .ok (.aload_n 0, 1) := by decide +kernel
theorem dX4_hindrance_35 : decode cX4_hindrance 35 = .ok (.iload_n 1, 1) := by decide +kernel
theorem dX4_hindrance_36 : decode cX4_hindrance 36 = .ok (.invokevirtual 100, 3) := by decide +kernel
theorem dX4_hindrance_39 : decode cX4_hindrance 39 = .ok (.ifCond .le 7, 3) := by decide +kernel
theorem dX4_hindrance_42 : decode cX4_hindrance 42 = .ok (.iconst 0, 1) := by decide +kernel
theorem dX4_hindrance_43 : decode cX4_hindrance 43 = .ok (.goto 4, 3) := by decide +kernel
theorem dX4_hindrance_46 : decode cX4_hindrance 46 = .ok (.iconst 4, 1) := by decide +kernel
theorem dX4_hindrance_47 : decode cX4_hindrance 47 = .ok (.ireturn, 1) := by decide +kernel
theorem dX4_pairValue_0 : decode cX4_pairValue 0 = .ok (.iload_n 2, 1) := by decide +kernel
theorem dX4_pairValue_1 : decode cX4_pairValue 1 = .ok (.tableswitch 55 0 3 #[31, 37, 43, 49], 31) := by decide +kernel
theorem dX4_pairValue_32 : decode cX4_pairValue 32 = .ok (.aload_n 0, 1) := by decide +kernel
theorem dX4_pairValue_33 : decode cX4_pairValue 33 = .ok (.iload_n 1, 1) := by decide +kernel
theorem dX4_pairValue_34 : decode cX4_pairValue 34 = .ok (.invokevirtual 119, 3) := by decide +kernel
theorem dX4_pairValue_37 : decode cX4_pairValue 37 = .ok (.ireturn, 1) := by decide +kernel
theorem dX4_pairValue_38 : decode cX4_pairValue 38 = .ok (.aload_n 0, 1) := by decide +kernel
theorem dX4_pairValue_39 : decode cX4_pairValue 39 = .ok (.iload_n 1, 1) := by decide +kernel
theorem dX4_pairValue_40 : decode cX4_pairValue 40 = .ok (.invokevirtual 113, 3) := by decide +kernel
theorem dX4_pairValue_43 : decode cX4_pairValue 43 = .ok (.ireturn, 1) := by decide +kernel
theorem dX4_pairValue_44 : decode cX4_pairValue 44 = .ok (.aload_n 0, 1) := by decide +kernel
theorem dX4_pairValue_45 : decode cX4_pairValue 45 = .ok (.iload_n 1, 1) := by decide +kernel
theorem dX4_pairValue_46 : decode cX4_pairValue 46 = .ok (.invokevirtual 100, 3) := by decide +kernel
theorem dX4_pairValue_49 : decode cX4_pairValue 49 = .ok (.ireturn, 1) := by decide +kernel
theorem dX4_pairValue_50 : decode cX4_pairValue 50 = .ok (.aload_n 0, 1) := by decide +kernel
theorem dX4_pairValue_51 : decode cX4_pairValue 51 = .ok (.iload_n 1, 1) := by decide +kernel
theorem dX4_pairValue_52 : decode cX4_pairValue 52 = .ok (.invokevirtual 88, 3) := by decide +kernel
theorem dX4_pairValue_55 : decode cX4_pairValue 55 = .ok (.ireturn, 1) := by decide +kernel
theorem dX4_pairValue_56 : decode cX4_pairValue 56 = .ok (.aload_n 0, 1) := by decide +kernel
theorem dX4_pairValue_57 : decode cX4_pairValue 57 = .ok (.iload_n 1, 1) := by decide +kernel
theorem dX4_pairValue_58 : decode cX4_pairValue 58 = .ok (.invokevirtual 116, 3) := by decide +kernel
theorem dX4_pairValue_61 : decode cX4_pairValue 61 = .ok (.ifCond .eq 7, 3) := by decide +kernel
theorem dX4_pairValue_64 : decode cX4_pairValue 64 = .ok (.iconst 1, 1) := by decide +kernel
theorem dX4_pairValue_65 : decode cX4_pairValue 65 = .ok (.goto 4, 3) := by decide +kernel
theorem dX4_pairValue_68 : decode cX4_pairValue 68 = .ok (.iconst 0, 1) := by decide +kernel
theorem dX4_pairValue_69 : decode cX4_pairValue 69 = .ok (.ireturn, 1) := by decide +kernel
theorem dX4_waitAt_0 : decode cX4_waitAt 0 = .ok (.iconst 0, 1) := by decide +kernel
theorem dX4_waitAt_1 : decode cX4_waitAt 1 = .ok (.istore_n 2, 1) := by decide +kernel
theorem dX4_waitAt_2 : decode cX4_waitAt 2 = .ok (.iconst 0, 1) := by decide +kernel
theorem dX4_waitAt_3 : decode cX4_waitAt 3 = .ok (.istore_n 3, 1) := by decide +kernel
theorem dX4_waitAt_4 : decode cX4_waitAt 4 = .ok (.iload_n 3, 1) := by decide +kernel
theorem dX4_waitAt_5 : decode cX4_waitAt 5 = .ok (.iload_n 1, 1) := by decide +kernel
theorem dX4_waitAt_6 : decode cX4_waitAt 6 = .ok (.if_icmp .ge 28, 3) := by decide +kernel
theorem dX4_waitAt_9 : decode cX4_waitAt 9 = .ok (.iload_n 3, 1) := by decide +kernel
theorem dX4_waitAt_10 : decode cX4_waitAt 10 = .ok (.aload_n 0, 1) := by decide +kernel
theorem dX4_waitAt_11 : decode cX4_waitAt 11 = .ok (.getfield 26, 3) := by decide +kernel
theorem dX4_waitAt_14 : decode cX4_waitAt 14 = .ok (.if_icmp .ge 20, 3) := by decide +kernel
theorem dX4_waitAt_17 : decode cX4_waitAt 17 = .ok (.iload_n 2, 1) := by decide +kernel
theorem dX4_waitAt_18 : decode cX4_waitAt 18 = .ok (.aload_n 0, 1) := by decide +kernel
theorem dX4_waitAt_19 : decode cX4_waitAt 19 = .ok (.iload_n 3, 1) := by decide +kernel
theorem dX4_waitAt_20 : decode cX4_waitAt 20 = .ok (.invokevirtual 41, 3) := by decide +kernel
theorem dX4_waitAt_23 : decode cX4_waitAt 23 = .ok (.getfield 107, 3) := by decide +kernel
theorem dX4_waitAt_26 : decode cX4_waitAt 26 = .ok (.iadd, 1) := by decide +kernel
theorem dX4_waitAt_27 : decode cX4_waitAt 27 = .ok (.istore_n 2, 1) := by decide +kernel
theorem dX4_waitAt_28 : decode cX4_waitAt 28 = .ok (.iinc 3 1, 3) := by decide +kernel
theorem dX4_waitAt_31 : decode cX4_waitAt 31 = .ok (.goto (-27), 3) := by decide +kernel
theorem dX4_waitAt_34 : decode cX4_waitAt 34 = .ok (.iload_n 2, 1) := by decide +kernel
theorem dX4_waitAt_35 : decode cX4_waitAt 35 = .ok (.ireturn, 1) := by decide +kernel
theorem dX4_costAt_0 : decode cX4_costAt 0 = .ok (.aload_n 0, 1) := by decide +kernel
theorem dX4_costAt_1 : decode cX4_costAt 1 = .ok (.iload_n 1, 1) := by decide +kernel
theorem dX4_costAt_2 : decode cX4_costAt 2 = .ok (.invokevirtual 41, 3) := by decide +kernel
theorem dX4_costAt_5 : decode cX4_costAt 5 = .ok (.getfield 70, 3) := by decide +kernel
theorem dX4_costAt_8 : decode cX4_costAt 8 = .ok (.aload_n 0, 1) := by decide +kernel
theorem dX4_costAt_9 : decode cX4_costAt 9 = .ok (.iload_n 1, 1) := by decide +kernel
theorem dX4_costAt_10 : decode cX4_costAt 10 = .ok (.invokevirtual 122, 3) := by decide +kernel
theorem dX4_costAt_13 : decode cX4_costAt 13 = .ok (.imul, 1) := by decide +kernel
theorem dX4_costAt_14 : decode cX4_costAt 14 = .ok (.ireturn, 1) := by decide +kernel
theorem dX4_friendsAt_0 : decode cX4_friendsAt 0 = .ok (.aload_n 0, 1) := by decide +kernel
theorem dX4_friendsAt_1 : decode cX4_friendsAt 1 = .ok (.iload_n 1, 1) := by decide +kernel
theorem dX4_friendsAt_2 : decode cX4_friendsAt 2 = .ok (.iconst 1, 1) := by decide +kernel
theorem dX4_friendsAt_3 : decode cX4_friendsAt 3 = .ok (.isub, 1) := by decide +kernel
theorem dX4_friendsAt_4 : decode cX4_friendsAt 4 = .ok (.invokevirtual 116, 3) := by decide +kernel
theorem dX4_friendsAt_7 : decode cX4_friendsAt 7 = .ok (.ifCond .eq 7, 3) := by decide +kernel
theorem dX4_friendsAt_10 : decode cX4_friendsAt 10 = .ok (.iconst 1, 1) := by decide +kernel
theorem dX4_friendsAt_11 : decode cX4_friendsAt 11 = .ok (.goto 4, 3) := by decide +kernel
theorem dX4_friendsAt_14 : decode cX4_friendsAt 14 = .ok (.iconst 0, 1) := by decide +kernel
theorem dX4_friendsAt_15 : decode cX4_friendsAt 15 = .ok (.aload_n 0, 1) := by decide +kernel
theorem dX4_friendsAt_16 : decode cX4_friendsAt 16 = .ok (.iload_n 1, 1) := by decide +kernel
theorem dX4_friendsAt_17 : decode cX4_friendsAt 17 = .ok (.invokevirtual 116, 3) := by decide +kernel
theorem dX4_friendsAt_20 : decode cX4_friendsAt 20 = .ok (.ifCond .eq 7, 3) := by decide +kernel
theorem dX4_friendsAt_23 : decode cX4_friendsAt 23 = .ok (.iconst 1, 1) := by decide +kernel
theorem dX4_friendsAt_24 : decode cX4_friendsAt 24 = .ok (.goto 4, 3) := by decide +kernel
theorem dX4_friendsAt_27 : decode cX4_friendsAt 27 = .ok (.iconst 0, 1) := by decide +kernel
theorem dX4_friendsAt_28 : decode cX4_friendsAt 28 = .ok (.iadd, 1) := by decide +kernel
theorem dX4_friendsAt_29 : decode cX4_friendsAt 29 = .ok (.ireturn, 1) := by decide +kernel
theorem dX4_memberValue_0 : decode cX4_memberValue 0 = .ok (.aload_n 0, 1) := by decide +kernel
theorem dX4_memberValue_1 : decode cX4_memberValue 1 = .ok (.iload_n 1, 1) := by decide +kernel
theorem dX4_memberValue_2 : decode cX4_memberValue 2 = .ok (.invokevirtual 41, 3) := by decide +kernel
theorem dX4_memberValue_5 : decode cX4_memberValue 5 = .ok (.astore_n 3, 1) := by decide +kernel
theorem dX4_memberValue_6 : decode cX4_memberValue 6 = .ok (.iload_n 2, 1) := by decide +kernel
theorem dX4_memberValue_7 : decode cX4_memberValue 7 = .ok (.tableswitch 99 0 8 #[49, 51, 56, 61, 66, 72, 78, 83, 88], 49) := by decide +kernel
theorem dX4_memberValue_56 : decode cX4_memberValue 56 = .ok (.iload_n 1, 1) := by decide +kernel
theorem dX4_memberValue_57 : decode cX4_memberValue 57 = .ok (.ireturn, 1) := by decide +kernel
theorem dX4_memberValue_58 : decode cX4_memberValue 58 = .ok (.aload_n 3, 1) := by decide +kernel
theorem dX4_memberValue_59 : decode cX4_memberValue 59 = .ok (.getfield 70, 3) := by decide +kernel
theorem dX4_memberValue_62 : decode cX4_memberValue 62 = .ok (.ireturn, 1) := by decide +kernel
theorem dX4_memberValue_63 : decode cX4_memberValue 63 = .ok (.aload_n 3, 1) := by decide +kernel
theorem dX4_memberValue_64 : decode cX4_memberValue 64 = .ok (.getfield 67, 3) := by decide +kernel
theorem dX4_memberValue_67 : decode cX4_memberValue 67 = .ok (.ireturn, 1) := by decide +kernel
theorem dX4_memberValue_68 : decode cX4_memberValue 68 = .ok (.aload_n 3, 1) := by decide +kernel
theorem dX4_memberValue_69 : decode cX4_memberValue 69 = .ok (.getfield 107, 3) := by decide +kernel
theorem dX4_memberValue_72 : decode cX4_memberValue 72 = .ok (.ireturn, 1) := by decide +kernel
theorem dX4_memberValue_73 : decode cX4_memberValue 73 = .ok (.aload_n 0, 1) := by decide +kernel
theorem dX4_memberValue_74 : decode cX4_memberValue 74 = .ok (.iload_n 1, 1) := by decide +kernel
theorem dX4_memberValue_75 : decode cX4_memberValue 75 = .ok (.invokevirtual 122, 3) := by decide +kernel
theorem dX4_memberValue_78 : decode cX4_memberValue 78 = .ok (.ireturn, 1) := by decide +kernel
theorem dX4_memberValue_79 : decode cX4_memberValue 79 = .ok (.aload_n 0, 1) := by decide +kernel
theorem dX4_memberValue_80 : decode cX4_memberValue 80 = .ok (.iload_n 1, 1) := by decide +kernel
theorem dX4_memberValue_81 : decode cX4_memberValue 81 = .ok (.invokevirtual 125, 3) := by decide +kernel
theorem dX4_memberValue_84 : decode cX4_memberValue 84 = .ok (.ireturn, 1) := by decide +kernel
theorem dX4_memberValue_85 : decode cX4_memberValue 85 = .ok (.aload_n 3, 1) := by decide +kernel
theorem dX4_memberValue_86 : decode cX4_memberValue 86 = .ok (.getfield 91, 3) := by decide +kernel
theorem dX4_memberValue_89 : decode cX4_memberValue 89 = .ok (.ireturn, 1) := by decide +kernel
theorem dX4_memberValue_90 : decode cX4_memberValue 90 = .ok (.aload_n 3, 1) := by decide +kernel
theorem dX4_memberValue_91 : decode cX4_memberValue 91 = .ok (.getfield 73, 3) := by decide +kernel
theorem dX4_memberValue_94 : decode cX4_memberValue 94 = .ok (.ireturn, 1) := by decide +kernel
theorem dX4_memberValue_95 : decode cX4_memberValue 95 = .ok (.aload_n 0, 1) := by decide +kernel
theorem dX4_memberValue_96 : decode cX4_memberValue 96 = .ok (.iload_n 1, 1) := by decide +kernel
theorem dX4_memberValue_97 : decode cX4_memberValue 97 = .ok (.iconst 1, 1) := by decide +kernel
theorem dX4_memberValue_98 : decode cX4_memberValue 98 = .ok (.iadd, 1) := by decide +kernel
theorem dX4_memberValue_99 : decode cX4_memberValue 99 = .ok (.invokevirtual 41, 3) := by decide +kernel
theorem dX4_memberValue_102 : decode cX4_memberValue 102 = .ok (.getfield 73, 3) := by decide +kernel
theorem dX4_memberValue_105 : decode cX4_memberValue 105 = .ok (.ireturn, 1) := by decide +kernel
theorem dX4_memberValue_106 : decode cX4_memberValue 106 = .ok (.aload_n 0, 1) := by decide +kernel
theorem dX4_memberValue_107 : decode cX4_memberValue 107 = .ok (.iload_n 1, 1) := by decide +kernel
theorem dX4_memberValue_108 : decode cX4_memberValue 108 = .ok (.invokevirtual 128, 3) := by decide +kernel
theorem dX4_memberValue_111 : decode cX4_memberValue 111 = .ok (.ireturn, 1) := by decide +kernel
theorem dX4_cost_0 : decode cX4_cost 0 = .ok (.iconst 0, 1) := by decide +kernel
theorem dX4_cost_1 : decode cX4_cost 1 = .ok (.istore_n 1, 1) := by decide +kernel
theorem dX4_cost_2 : decode cX4_cost 2 = .ok (.iconst 0, 1) := by decide +kernel
theorem dX4_cost_3 : decode cX4_cost 3 = .ok (.istore_n 2, 1) := by decide +kernel
theorem dX4_cost_4 : decode cX4_cost 4 = .ok (.iload_n 2, 1) := by decide +kernel
theorem dX4_cost_5 : decode cX4_cost 5 = .ok (.aload_n 0, 1) := by decide +kernel
theorem dX4_cost_6 : decode cX4_cost 6 = .ok (.getfield 26, 3) := by decide +kernel
theorem dX4_cost_9 : decode cX4_cost 9 = .ok (.if_icmp .ge 17, 3) := by decide +kernel
theorem dX4_cost_12 : decode cX4_cost 12 = .ok (.iload_n 1, 1) := by decide +kernel
theorem dX4_cost_13 : decode cX4_cost 13 = .ok (.aload_n 0, 1) := by decide +kernel
theorem dX4_cost_14 : decode cX4_cost 14 = .ok (.iload_n 2, 1) := by decide +kernel
theorem dX4_cost_15 : decode cX4_cost 15 = .ok (.invokevirtual 125, 3) := by decide +kernel
theorem dX4_cost_18 : decode cX4_cost 18 = .ok (.iadd, 1) := by decide +kernel
theorem dX4_cost_19 : decode cX4_cost 19 = .ok (.istore_n 1, 1) := by decide +kernel
theorem dX4_cost_20 : decode cX4_cost 20 = .ok (.iinc 2 1, 3) := by decide +kernel
theorem dX4_cost_23 : decode cX4_cost 23 = .ok (.goto (-19), 3) := by decide +kernel
theorem dX4_cost_26 : decode cX4_cost 26 = .ok (.iload_n 1, 1) := by decide +kernel
theorem dX4_cost_27 : decode cX4_cost 27 = .ok (.ireturn, 1) := by decide +kernel
theorem dX4_toldCost_0 : decode cX4_toldCost 0 = .ok (.iconst 0, 1) := by decide +kernel
theorem dX4_toldCost_1 : decode cX4_toldCost 1 = .ok (.istore_n 1, 1) := by decide +kernel
theorem dX4_toldCost_2 : decode cX4_toldCost 2 = .ok (.iconst 0, 1) := by decide +kernel
theorem dX4_toldCost_3 : decode cX4_toldCost 3 = .ok (.istore_n 2, 1) := by decide +kernel
theorem dX4_toldCost_4 : decode cX4_toldCost 4 = .ok (.iload_n 2, 1) := by decide +kernel
theorem dX4_toldCost_5 : decode cX4_toldCost 5 = .ok (.aload_n 0, 1) := by decide +kernel
theorem dX4_toldCost_6 : decode cX4_toldCost 6 = .ok (.getfield 26, 3) := by decide +kernel
theorem dX4_toldCost_9 : decode cX4_toldCost 9 = .ok (.if_icmp .ge 26, 3) := by decide +kernel
theorem dX4_toldCost_12 : decode cX4_toldCost 12 = .ok (.iload_n 1, 1) := by decide +kernel
theorem dX4_toldCost_13 : decode cX4_toldCost 13 = .ok (.aload_n 0, 1) := by decide +kernel
theorem dX4_toldCost_14 : decode cX4_toldCost 14 = .ok (.iload_n 2, 1) := by decide +kernel
theorem dX4_toldCost_15 : decode cX4_toldCost 15 = .ok (.invokevirtual 41, 3) := by decide +kernel
theorem dX4_toldCost_18 : decode cX4_toldCost 18 = .ok (.getfield 67, 3) := by decide +kernel
theorem dX4_toldCost_21 : decode cX4_toldCost 21 = .ok (.aload_n 0, 1) := by decide +kernel
theorem dX4_toldCost_22 : decode cX4_toldCost 22 = .ok (.iload_n 2, 1) := by decide +kernel
theorem dX4_toldCost_23 : decode cX4_toldCost 23 = .ok (.invokevirtual 122, 3) := by decide +kernel
theorem dX4_toldCost_26 : decode cX4_toldCost 26 = .ok (.imul, 1) := by decide +kernel
theorem dX4_toldCost_27 : decode cX4_toldCost 27 = .ok (.iadd, 1) := by decide +kernel
theorem dX4_toldCost_28 : decode cX4_toldCost 28 = .ok (.istore_n 1, 1) := by decide +kernel
theorem dX4_toldCost_29 : decode cX4_toldCost 29 = .ok (.iinc 2 1, 3) := by decide +kernel
theorem dX4_toldCost_32 : decode cX4_toldCost 32 = .ok (.goto (-28), 3) := by decide +kernel
theorem dX4_toldCost_35 : decode cX4_toldCost 35 = .ok (.iload_n 1, 1) := by decide +kernel
theorem dX4_toldCost_36 : decode cX4_toldCost 36 = .ok (.ireturn, 1) := by decide +kernel
theorem dX4_bestCost_0 : decode cX4_bestCost 0 = .ok (.iconst 0, 1) := by decide +kernel
theorem dX4_bestCost_1 : decode cX4_bestCost 1 = .ok (.istore_n 1, 1) := by decide +kernel
theorem dX4_bestCost_2 : decode cX4_bestCost 2 = .ok (.iconst 0, 1) := by decide +kernel
theorem dX4_bestCost_3 : decode cX4_bestCost 3 = .ok (.istore_n 2, 1) := by decide +kernel
theorem dX4_bestCost_4 : decode cX4_bestCost 4 = .ok (.iload_n 2, 1) := by decide +kernel
theorem dX4_bestCost_5 : decode cX4_bestCost 5 = .ok (.aload_n 0, 1) := by decide +kernel
theorem dX4_bestCost_6 : decode cX4_bestCost 6 = .ok (.getfield 26, 3) := by decide +kernel
theorem dX4_bestCost_9 : decode cX4_bestCost 9 = .ok (.if_icmp .ge 40, 3) := by decide +kernel
theorem dX4_bestCost_12 : decode cX4_bestCost 12 = .ok (.iconst 0, 1) := by decide +kernel
theorem dX4_bestCost_13 : decode cX4_bestCost 13 = .ok (.istore_n 3, 1) := by decide +kernel
theorem dX4_bestCost_14 : decode cX4_bestCost 14 = .ok (.iload_n 3, 1) := by decide +kernel
theorem dX4_bestCost_15 : decode cX4_bestCost 15 = .ok (.iload_n 2, 1) := by decide +kernel
theorem dX4_bestCost_16 : decode cX4_bestCost 16 = .ok (.if_icmp .ge 27, 3) := by decide +kernel
theorem dX4_bestCost_19 : decode cX4_bestCost 19 = .ok (.iload_n 1, 1) := by decide +kernel
theorem dX4_bestCost_20 : decode cX4_bestCost 20 = .ok (.aload_n 0, 1) := by decide +kernel
theorem dX4_bestCost_21 : decode cX4_bestCost 21 = .ok (.iload_n 3, 1) := by decide +kernel
theorem dX4_bestCost_22 : decode cX4_bestCost 22 = .ok (.iload_n 2, 1) := by decide +kernel
theorem dX4_bestCost_23 : decode cX4_bestCost 23 = .ok (.invokevirtual 131, 3) := by decide +kernel
theorem dX4_bestCost_26 : decode cX4_bestCost 26 = .ok (.aload_n 0, 1) := by decide +kernel
theorem dX4_bestCost_27 : decode cX4_bestCost 27 = .ok (.iload_n 2, 1) := by decide +kernel
theorem dX4_bestCost_28 : decode cX4_bestCost 28 = .ok (.iload_n 3, 1) := by decide +kernel
theorem dX4_bestCost_29 : decode cX4_bestCost 29 = .ok (.invokevirtual 131, 3) := by decide +kernel
theorem dX4_bestCost_32 : decode cX4_bestCost 32 = .ok (.invokestatic 134, 3) := by decide +kernel
theorem dX4_bestCost_35 : decode cX4_bestCost 35 = .ok (.iadd, 1) := by decide +kernel
theorem dX4_bestCost_36 : decode cX4_bestCost 36 = .ok (.istore_n 1, 1) := by decide +kernel
theorem dX4_bestCost_37 : decode cX4_bestCost 37 = .ok (.iinc 3 1, 3) := by decide +kernel
theorem dX4_bestCost_40 : decode cX4_bestCost 40 = .ok (.goto (-26), 3) := by decide +kernel
theorem dX4_bestCost_43 : decode cX4_bestCost 43 = .ok (.iinc 2 1, 3) := by decide +kernel
theorem dX4_bestCost_46 : decode cX4_bestCost 46 = .ok (.goto (-42), 3) := by decide +kernel
theorem dX4_bestCost_49 : decode cX4_bestCost 49 = .ok (.iload_n 1, 1) := by decide +kernel
theorem dX4_bestCost_50 : decode cX4_bestCost 50 = .ok (.ireturn, 1) := by decide +kernel
theorem dX4_wrongPairs_0 : decode cX4_wrongPairs 0 = .ok (.iconst 0, 1) := by decide +kernel
theorem dX4_wrongPairs_1 : decode cX4_wrongPairs 1 = .ok (.istore_n 1, 1) := by decide +kernel
theorem dX4_wrongPairs_2 : decode cX4_wrongPairs 2 = .ok (.iconst 0, 1) := by decide +kernel
theorem dX4_wrongPairs_3 : decode cX4_wrongPairs 3 = .ok (.istore_n 2, 1) := by decide +kernel
theorem dX4_wrongPairs_4 : decode cX4_wrongPairs 4 = .ok (.iload_n 2, 1) := by decide +kernel
theorem dX4_wrongPairs_5 : decode cX4_wrongPairs 5 = .ok (.aload_n 0, 1) := by decide +kernel
theorem dX4_wrongPairs_6 : decode cX4_wrongPairs 6 = .ok (.getfield 26, 3) := by decide +kernel
theorem dX4_wrongPairs_9 : decode cX4_wrongPairs 9 = .ok (.if_icmp .ge 40, 3) := by decide +kernel
theorem dX4_wrongPairs_12 : decode cX4_wrongPairs 12 = .ok (.iconst 0, 1) := by decide +kernel
theorem dX4_wrongPairs_13 : decode cX4_wrongPairs 13 = .ok (.istore_n 3, 1) := by decide +kernel
theorem dX4_wrongPairs_14 : decode cX4_wrongPairs 14 = .ok (.iload_n 3, 1) := by decide +kernel
theorem dX4_wrongPairs_15 : decode cX4_wrongPairs 15 = .ok (.iload_n 2, 1) := by decide +kernel
theorem dX4_wrongPairs_16 : decode cX4_wrongPairs 16 = .ok (.if_icmp .ge 27, 3) := by decide +kernel
theorem dX4_wrongPairs_19 : decode cX4_wrongPairs 19 = .ok (.aload_n 0, 1) := by decide +kernel
theorem dX4_wrongPairs_20 : decode cX4_wrongPairs 20 = .ok (.iload_n 3, 1) := by decide +kernel
theorem dX4_wrongPairs_21 : decode cX4_wrongPairs 21 = .ok (.iload_n 2, 1) := by decide +kernel
theorem dX4_wrongPairs_22 : decode cX4_wrongPairs 22 = .ok (.invokevirtual 131, 3) := by decide +kernel
theorem dX4_wrongPairs_25 : decode cX4_wrongPairs 25 = .ok (.aload_n 0, 1) := by decide +kernel
theorem dX4_wrongPairs_26 : decode cX4_wrongPairs 26 = .ok (.iload_n 2, 1) := by decide +kernel
theorem dX4_wrongPairs_27 : decode cX4_wrongPairs 27 = .ok (.iload_n 3, 1) := by decide +kernel
theorem dX4_wrongPairs_28 : decode cX4_wrongPairs 28 = .ok (.invokevirtual 131, 3) := by decide +kernel
theorem dX4_wrongPairs_31 : decode cX4_wrongPairs 31 = .ok (.if_icmp .le 6, 3) := by decide +kernel
theorem dX4_wrongPairs_34 : decode cX4_wrongPairs 34 = .ok (.iinc 1 1, 3) := by decide +kernel
theorem dX4_wrongPairs_37 : decode cX4_wrongPairs 37 = .ok (.iinc 3 1, 3) := by decide +kernel
theorem dX4_wrongPairs_40 : decode cX4_wrongPairs 40 = .ok (.goto (-26), 3) := by decide +kernel
theorem dX4_wrongPairs_43 : decode cX4_wrongPairs 43 = .ok (.iinc 2 1, 3) := by decide +kernel
theorem dX4_wrongPairs_46 : decode cX4_wrongPairs 46 = .ok (.goto (-42), 3) := by decide +kernel
theorem dX4_wrongPairs_49 : decode cX4_wrongPairs 49 = .ok (.iload_n 1, 1) := by decide +kernel
theorem dX4_wrongPairs_50 : decode cX4_wrongPairs 50 = .ok (.ireturn, 1) := by decide +kernel
theorem dX4_waitingCost_0 : decode cX4_waitingCost 0 = .ok (.aload_n 0, 1) := by decide +kernel
theorem dX4_waitingCost_1 : decode cX4_waitingCost 1 = .ok (.iload_n 2, 1) := by decide +kernel
theorem dX4_waitingCost_2 : decode cX4_waitingCost 2 = .ok (.invokevirtual 41, 3) := by decide +kernel
theorem dX4_waitingCost_5 : decode cX4_waitingCost 5 = .ok (.getfield 70, 3) := by decide +kernel
theorem dX4_waitingCost_8 : decode cX4_waitingCost 8 = .ok (.aload_n 0, 1) := by decide +kernel
theorem dX4_waitingCost_9 : decode cX4_waitingCost 9 = .ok (.iload_n 1, 1) := by decide +kernel
theorem dX4_waitingCost_10 : decode cX4_waitingCost 10 = .ok (.invokevirtual 41, 3) := by decide +kernel
theorem dX4_waitingCost_13 : decode cX4_waitingCost 13 = .ok (.getfield 107, 3) := by decide +kernel
theorem dX4_waitingCost_16 : decode cX4_waitingCost 16 = .ok (.imul, 1) := by decide +kernel
theorem dX4_waitingCost_17 : decode cX4_waitingCost 17 = .ok (.ireturn, 1) := by decide +kernel
theorem dX4_willingPairs_0 : decode cX4_willingPairs 0 = .ok (.iconst 0, 1) := by decide +kernel
theorem dX4_willingPairs_1 : decode cX4_willingPairs 1 = .ok (.istore_n 1, 1) := by decide +kernel
theorem dX4_willingPairs_2 : decode cX4_willingPairs 2 = .ok (.iconst 0, 1) := by decide +kernel
theorem dX4_willingPairs_3 : decode cX4_willingPairs 3 = .ok (.istore_n 2, 1) := by decide +kernel
theorem dX4_willingPairs_4 : decode cX4_willingPairs 4 = .ok (.iload_n 2, 1) := by decide +kernel
theorem dX4_willingPairs_5 : decode cX4_willingPairs 5 = .ok (.aload_n 0, 1) := by decide +kernel
theorem dX4_willingPairs_6 : decode cX4_willingPairs 6 = .ok (.getfield 26, 3) := by decide +kernel
theorem dX4_willingPairs_9 : decode cX4_willingPairs 9 = .ok (.iconst 1, 1) := by decide +kernel
theorem dX4_willingPairs_10 : decode cX4_willingPairs 10 = .ok (.isub, 1) := by decide +kernel
theorem dX4_willingPairs_11 : decode cX4_willingPairs 11 = .ok (.if_icmp .ge 25, 3) := by decide +kernel
theorem dX4_willingPairs_14 : decode cX4_willingPairs 14 = .ok (.iload_n 1, 1) := by decide +kernel
theorem dX4_willingPairs_15 : decode cX4_willingPairs 15 = .ok (.aload_n 0, 1) := by decide +kernel
theorem dX4_willingPairs_16 : decode cX4_willingPairs 16 = .ok (.iload_n 2, 1) := by decide +kernel
theorem dX4_willingPairs_17 : decode cX4_willingPairs 17 = .ok (.invokevirtual 110, 3) := by decide +kernel
theorem dX4_willingPairs_20 : decode cX4_willingPairs 20 = .ok (.ifCond .ne 7, 3) := by decide +kernel
theorem dX4_willingPairs_23 : decode cX4_willingPairs 23 = .ok (.iconst 1, 1) := by decide +kernel
theorem dX4_willingPairs_24 : decode cX4_willingPairs 24 = .ok (.goto 4, 3) := by decide +kernel
theorem dX4_willingPairs_27 : decode cX4_willingPairs 27 = .ok (.iconst 0, 1) := by decide +kernel
theorem dX4_willingPairs_28 : decode cX4_willingPairs 28 = .ok (.iadd, 1) := by decide +kernel
theorem dX4_willingPairs_29 : decode cX4_willingPairs 29 = .ok (.istore_n 1, 1) := by decide +kernel
theorem dX4_willingPairs_30 : decode cX4_willingPairs 30 = .ok (.iinc 2 1, 3) := by decide +kernel
theorem dX4_willingPairs_33 : decode cX4_willingPairs 33 = .ok (.goto (-29), 3) := by decide +kernel
theorem dX4_willingPairs_36 : decode cX4_willingPairs 36 = .ok (.iload_n 1, 1) := by decide +kernel
theorem dX4_willingPairs_37 : decode cX4_willingPairs 37 = .ok (.ireturn, 1) := by decide +kernel
theorem dX4_offers_0 : decode cX4_offers 0 = .ok (.iconst 0, 1) := by decide +kernel
theorem dX4_offers_1 : decode cX4_offers 1 = .ok (.istore_n 1, 1) := by decide +kernel
theorem dX4_offers_2 : decode cX4_offers 2 = .ok (.iconst 0, 1) := by decide +kernel
theorem dX4_offers_3 : decode cX4_offers 3 = .ok (.istore_n 2, 1) := by decide +kernel
theorem dX4_offers_4 : decode cX4_offers 4 = .ok (.iload_n 2, 1) := by decide +kernel
theorem dX4_offers_5 : decode cX4_offers 5 = .ok (.aload_n 0, 1) := by decide +kernel
theorem dX4_offers_6 : decode cX4_offers 6 = .ok (.getfield 26, 3) := by decide +kernel
theorem dX4_offers_9 : decode cX4_offers 9 = .ok (.if_icmp .ge 29, 3) := by decide +kernel
theorem dX4_offers_12 : decode cX4_offers 12 = .ok (.iload_n 1, 1) := by decide +kernel
theorem dX4_offers_13 : decode cX4_offers 13 = .ok (.aload_n 0, 1) := by decide +kernel
theorem dX4_offers_14 : decode cX4_offers 14 = .ok (.iload_n 2, 1) := by decide +kernel
theorem dX4_offers_15 : decode cX4_offers 15 = .ok (.invokevirtual 41, 3) := by decide +kernel
theorem dX4_offers_18 : decode cX4_offers 18 = .ok (.getfield 73, 3) := by decide +kernel
theorem dX4_offers_21 : decode cX4_offers 21 = .ok (.iconst (-1), 1) := by decide +kernel
theorem dX4_offers_22 : decode cX4_offers 22 = .ok (.if_icmp .eq 7, 3) := by decide +kernel
theorem dX4_offers_25 : decode cX4_offers 25 = .ok (.iconst 1, 1) := by decide +kernel
theorem dX4_offers_26 : decode cX4_offers 26 = .ok (.goto 4, 3) := by decide +kernel
theorem dX4_offers_29 : decode cX4_offers 29 = .ok (.iconst 0, 1) := by decide +kernel
theorem dX4_offers_30 : decode cX4_offers 30 = .ok (.iadd, 1) := by decide +kernel
theorem dX4_offers_31 : decode cX4_offers 31 = .ok (.istore_n 1, 1) := by decide +kernel
theorem dX4_offers_32 : decode cX4_offers 32 = .ok (.iinc 2 1, 3) := by decide +kernel
theorem dX4_offers_35 : decode cX4_offers 35 = .ok (.goto (-31), 3) := by decide +kernel
theorem dX4_offers_38 : decode cX4_offers 38 = .ok (.iload_n 1, 1) := by decide +kernel
theorem dX4_offers_39 : decode cX4_offers 39 = .ok (.ireturn, 1) := by decide +kernel
theorem dX4_welcomeOffers_0 : decode cX4_welcomeOffers 0 = .ok (.iconst 0, 1) := by decide +kernel
theorem dX4_welcomeOffers_1 : decode cX4_welcomeOffers 1 = .ok (.istore_n 1, 1) := by decide +kernel
theorem dX4_welcomeOffers_2 : decode cX4_welcomeOffers 2 = .ok (.iconst 0, 1) := by decide +kernel
theorem dX4_welcomeOffers_3 : decode cX4_welcomeOffers 3 = .ok (.istore_n 2, 1) := by decide +kernel
theorem dX4_welcomeOffers_4 : decode cX4_welcomeOffers 4 = .ok (.iload_n 2, 1) := by decide +kernel
theorem dX4_welcomeOffers_5 : decode cX4_welcomeOffers 5 = .ok (.aload_n 0, 1) := by decide +kernel
theorem dX4_welcomeOffers_6 : decode cX4_welcomeOffers 6 = .ok (.getfield 26, 3) := by decide +kernel
theorem dX4_welcomeOffers_9 : decode cX4_welcomeOffers 9 = .ok (.iconst 1, 1) := by decide +kernel
theorem dX4_welcomeOffers_10 : decode cX4_welcomeOffers 10 = .ok (.isub, 1) := by decide +kernel
theorem dX4_welcomeOffers_11 : decode cX4_welcomeOffers 11 = .ok (.if_icmp .ge 25, 3) := by decide +kernel
theorem dX4_welcomeOffers_14 : decode cX4_welcomeOffers 14 = .ok (.iload_n 1, 1) := by decide +kernel
theorem dX4_welcomeOffers_15 : decode cX4_welcomeOffers 15 = .ok (.aload_n 0, 1) := by decide +kernel
theorem dX4_welcomeOffers_16 : decode cX4_welcomeOffers 16 = .ok (.iload_n 2, 1) := by decide +kernel
theorem dX4_welcomeOffers_17 : decode cX4_welcomeOffers 17 = .ok (.invokevirtual 139, 3) := by decide +kernel
theorem dX4_welcomeOffers_20 : decode cX4_welcomeOffers 20 = .ok (.ifCond .eq 7, 3) := by decide +kernel
theorem dX4_welcomeOffers_23 : decode cX4_welcomeOffers 23 = .ok (.iconst 1, 1) := by decide +kernel
theorem dX4_welcomeOffers_24 : decode cX4_welcomeOffers 24 = .ok (.goto 4, 3) := by decide +kernel
theorem dX4_welcomeOffers_27 : decode cX4_welcomeOffers 27 = .ok (.iconst 0, 1) := by decide +kernel
theorem dX4_welcomeOffers_28 : decode cX4_welcomeOffers 28 = .ok (.iadd, 1) := by decide +kernel
theorem dX4_welcomeOffers_29 : decode cX4_welcomeOffers 29 = .ok (.istore_n 1, 1) := by decide +kernel
theorem dX4_welcomeOffers_30 : decode cX4_welcomeOffers 30 = .ok (.iinc 2 1, 3) := by decide +kernel
theorem dX4_welcomeOffers_33 : decode cX4_welcomeOffers 33 = .ok (.goto (-29), 3) := by decide +kernel
theorem dX4_welcomeOffers_36 : decode cX4_welcomeOffers 36 = .ok (.iload_n 1, 1) := by decide +kernel
theorem dX4_welcomeOffers_37 : decode cX4_welcomeOffers 37 = .ok (.ireturn, 1) := by decide +kernel
theorem dX4_friendPairs_0 : decode cX4_friendPairs 0 = .ok (.iconst 0, 1) := by decide +kernel
theorem dX4_friendPairs_1 : decode cX4_friendPairs 1 = .ok (.istore_n 1, 1) := by decide +kernel
theorem dX4_friendPairs_2 : decode cX4_friendPairs 2 = .ok (.iconst 0, 1) := by decide +kernel
theorem dX4_friendPairs_3 : decode cX4_friendPairs 3 = .ok (.istore_n 2, 1) := by decide +kernel
theorem dX4_friendPairs_4 : decode cX4_friendPairs 4 = .ok (.iload_n 2, 1) := by decide +kernel
theorem dX4_friendPairs_5 : decode cX4_friendPairs 5 = .ok (.aload_n 0, 1) := by decide +kernel
theorem dX4_friendPairs_6 : decode cX4_friendPairs 6 = .ok (.getfield 26, 3) := by decide +kernel
theorem dX4_friendPairs_9 : decode cX4_friendPairs 9 = .ok (.iconst 1, 1) := by decide +kernel
theorem dX4_friendPairs_10 : decode cX4_friendPairs 10 = .ok (.isub, 1) := by decide +kernel
theorem dX4_friendPairs_11 : decode cX4_friendPairs 11 = .ok (.if_icmp .ge 25, 3) := by decide +kernel
theorem dX4_friendPairs_14 : decode cX4_friendPairs 14 = .ok (.iload_n 1, 1) := by decide +kernel
theorem dX4_friendPairs_15 : decode cX4_friendPairs 15 = .ok (.aload_n 0, 1) := by decide +kernel
theorem dX4_friendPairs_16 : decode cX4_friendPairs 16 = .ok (.iload_n 2, 1) := by decide +kernel
theorem dX4_friendPairs_17 : decode cX4_friendPairs 17 = .ok (.invokevirtual 116, 3) := by decide +kernel
theorem dX4_friendPairs_20 : decode cX4_friendPairs 20 = .ok (.ifCond .eq 7, 3) := by decide +kernel
theorem dX4_friendPairs_23 : decode cX4_friendPairs 23 = .ok (.iconst 1, 1) := by decide +kernel
theorem dX4_friendPairs_24 : decode cX4_friendPairs 24 = .ok (.goto 4, 3) := by decide +kernel
theorem dX4_friendPairs_27 : decode cX4_friendPairs 27 = .ok (.iconst 0, 1) := by decide +kernel
theorem dX4_friendPairs_28 : decode cX4_friendPairs 28 = .ok (.iadd, 1) := by decide +kernel
theorem dX4_friendPairs_29 : decode cX4_friendPairs 29 = .ok (.istore_n 1, 1) := by decide +kernel
theorem dX4_friendPairs_30 : decode cX4_friendPairs 30 = .ok (.iinc 2 1, 3) := by decide +kernel
theorem dX4_friendPairs_33 : decode cX4_friendPairs 33 = .ok (.goto (-29), 3) := by decide +kernel
theorem dX4_friendPairs_36 : decode cX4_friendPairs 36 = .ok (.iload_n 1, 1) := by decide +kernel
theorem dX4_friendPairs_37 : decode cX4_friendPairs 37 = .ok (.ireturn, 1) := by decide +kernel
theorem dX4_wholeValue_0 : decode cX4_wholeValue 0 = .ok (.iload_n 1, 1) := by decide +kernel
theorem dX4_wholeValue_1 : decode cX4_wholeValue 1 = .ok (.tableswitch 123 0 11 #[63, 68, 73, 78, 83, 88, 93, 98, 103, 108, 113, 118], 63) := by decide +kernel
theorem dX4_wholeValue_64 : decode cX4_wholeValue 64 = .ok (.aload_n 0, 1) := by decide +kernel
theorem dX4_wholeValue_65 : decode cX4_wholeValue 65 = .ok (.getfield 26, 3) := by decide +kernel
theorem dX4_wholeValue_68 : decode cX4_wholeValue 68 = .ok (.ireturn, 1) := by decide +kernel
theorem dX4_wholeValue_69 : decode cX4_wholeValue 69 = .ok (.aload_n 0, 1) := by decide +kernel
theorem dX4_wholeValue_70 : decode cX4_wholeValue 70 = .ok (.getfield 22, 3) := by decide +kernel
theorem dX4_wholeValue_73 : decode cX4_wholeValue 73 = .ok (.ireturn, 1) := by decide +kernel
theorem dX4_wholeValue_74 : decode cX4_wholeValue 74 = .ok (.aload_n 0, 1) := by decide +kernel
theorem dX4_wholeValue_75 : decode cX4_wholeValue 75 = .ok (.invokevirtual 142, 3) := by decide +kernel
theorem dX4_wholeValue_78 : decode cX4_wholeValue 78 = .ok (.ireturn, 1) := by decide +kernel
theorem dX4_wholeValue_79 : decode cX4_wholeValue 79 = .ok (.aload_n 0, 1) := by decide +kernel
theorem dX4_wholeValue_80 : decode cX4_wholeValue 80 = .ok (.invokevirtual 145, 3) := by decide +kernel
theorem dX4_wholeValue_83 : decode cX4_wholeValue 83 = .ok (.ireturn, 1) := by decide +kernel
theorem dX4_wholeValue_84 : decode cX4_wholeValue 84 = .ok (.aload_n 0, 1) := by decide +kernel
theorem dX4_wholeValue_85 : decode cX4_wholeValue 85 = .ok (.invokevirtual 148, 3) := by decide +kernel
theorem dX4_wholeValue_88 : decode cX4_wholeValue 88 = .ok (.ireturn, 1) := by decide +kernel
theorem dX4_wholeValue_89 : decode cX4_wholeValue 89 = .ok (.aload_n 0, 1) := by decide +kernel
theorem dX4_wholeValue_90 : decode cX4_wholeValue 90 = .ok (.invokevirtual 151, 3) := by decide +kernel
theorem dX4_wholeValue_93 : decode cX4_wholeValue 93 = .ok (.ireturn, 1) := by decide +kernel
theorem dX4_wholeValue_94 : decode cX4_wholeValue 94 = .ok (.aload_n 0, 1) := by decide +kernel
theorem dX4_wholeValue_95 : decode cX4_wholeValue 95 = .ok (.invokevirtual 154, 3) := by decide +kernel
theorem dX4_wholeValue_98 : decode cX4_wholeValue 98 = .ok (.ireturn, 1) := by decide +kernel
theorem dX4_wholeValue_99 : decode cX4_wholeValue 99 = .ok (.aload_n 0, 1) := by decide +kernel
theorem dX4_wholeValue_100 : decode cX4_wholeValue 100 = .ok (.invokevirtual 157, 3) := by decide +kernel
theorem dX4_wholeValue_103 : decode cX4_wholeValue 103 = .ok (.ireturn, 1) := by decide +kernel
theorem dX4_wholeValue_104 : decode cX4_wholeValue 104 = .ok (.aload_n 0, 1) := by decide +kernel
theorem dX4_wholeValue_105 : decode cX4_wholeValue 105 = .ok (.invokevirtual 80, 3) := by decide +kernel
theorem dX4_wholeValue_108 : decode cX4_wholeValue 108 = .ok (.ireturn, 1) := by decide +kernel
theorem dX4_wholeValue_109 : decode cX4_wholeValue 109 = .ok (.aload_n 0, 1) := by decide +kernel
theorem dX4_wholeValue_110 : decode cX4_wholeValue 110 = .ok (.getfield 29, 3) := by decide +kernel
theorem dX4_wholeValue_113 : decode cX4_wholeValue 113 = .ok (.ireturn, 1) := by decide +kernel
theorem dX4_wholeValue_114 : decode cX4_wholeValue 114 = .ok (.aload_n 0, 1) := by decide +kernel
theorem dX4_wholeValue_115 : decode cX4_wholeValue 115 = .ok (.getfield 32, 3) := by decide +kernel
theorem dX4_wholeValue_118 : decode cX4_wholeValue 118 = .ok (.ireturn, 1) := by decide +kernel
theorem dX4_wholeValue_119 : decode cX4_wholeValue 119 = .ok (.aload_n 0, 1) := by decide +kernel
theorem dX4_wholeValue_120 : decode cX4_wholeValue 120 = .ok (.getfield 35, 3) := by decide +kernel
theorem dX4_wholeValue_123 : decode cX4_wholeValue 123 = .ok (.ireturn, 1) := by decide +kernel
theorem dX4_wholeValue_124 : decode cX4_wholeValue 124 = .ok (.aload_n 0, 1) := by decide +kernel
theorem dX4_wholeValue_125 : decode cX4_wholeValue 125 = .ok (.getfield 38, 3) := by decide +kernel
theorem dX4_wholeValue_128 : decode cX4_wholeValue 128 = .ok (.ireturn, 1) := by decide +kernel
theorem dX5_init_0 : decode cX5_init 0 = .ok (.aload_n 0, 1) := by decide +kernel
theorem dX5_init_1 : decode cX5_init 1 = .ok (.invokespecial 3, 3) := by decide +kernel
theorem dX5_init_4 : decode cX5_init 4 = .ok (.aload_n 0, 1) := by decide +kernel
theorem dX5_init_5 : decode cX5_init 5 = .ok (.iconst (-1), 1) := by decide +kernel
theorem dX5_init_6 : decode cX5_init 6 = .ok (.putfield 9, 3) := by decide +kernel
theorem dX5_init_9 : decode cX5_init 9 = .ok (.aload_n 0, 1) := by decide +kernel
theorem dX5_init_10 : decode cX5_init 10 = .ok (.iconst (-1), 1) := by decide +kernel
theorem dX5_init_11 : decode cX5_init 11 = .ok (.putfield 15, 3) := by decide +kernel
theorem dX5_init_14 : decode cX5_init 14 = .ok (.return_, 1) := by decide +kernel
theorem dX5_copyFrom_0 : decode cX5_copyFrom 0 = .ok (.aload_n 0, 1) := by decide +kernel
theorem dX5_copyFrom_1 : decode cX5_copyFrom 1 = .ok (.aload_n 1, 1) := by decide +kernel
theorem dX5_copyFrom_2 : decode cX5_copyFrom 2 = .ok (.getfield 9, 3) := by decide +kernel
theorem dX5_copyFrom_5 : decode cX5_copyFrom 5 = .ok (.putfield 9, 3) := by decide +kernel
theorem dX5_copyFrom_8 : decode cX5_copyFrom 8 = .ok (.aload_n 0, 1) := by decide +kernel
theorem dX5_copyFrom_9 : decode cX5_copyFrom 9 = .ok (.aload_n 1, 1) := by decide +kernel
theorem dX5_copyFrom_10 : decode cX5_copyFrom 10 = .ok (.getfield 18, 3) := by decide +kernel
theorem dX5_copyFrom_13 : decode cX5_copyFrom 13 = .ok (.putfield 18, 3) := by decide +kernel
theorem dX5_copyFrom_16 : decode cX5_copyFrom 16 = .ok (.aload_n 0, 1) := by decide +kernel
theorem dX5_copyFrom_17 : decode cX5_copyFrom 17 = .ok (.aload_n 1, 1) := by decide +kernel
theorem dX5_copyFrom_18 : decode cX5_copyFrom 18 = .ok (.getfield 21, 3) := by decide +kernel
theorem dX5_copyFrom_21 : decode cX5_copyFrom 21 = .ok (.putfield 21, 3) := by decide +kernel
theorem dX5_copyFrom_24 : decode cX5_copyFrom 24 = .ok (.aload_n 0, 1) := by decide +kernel
theorem dX5_copyFrom_25 : decode cX5_copyFrom 25 = .ok (.aload_n 1, 1) := by decide +kernel
theorem dX5_copyFrom_26 : decode cX5_copyFrom 26 = .ok (.getfield 24, 3) := by decide +kernel
theorem dX5_copyFrom_29 : decode cX5_copyFrom 29 = .ok (.putfield 24, 3) := by decide +kernel
theorem dX5_copyFrom_32 : decode cX5_copyFrom 32 = .ok (.aload_n 0, 1) := by decide +kernel
theorem dX5_copyFrom_33 : decode cX5_copyFrom 33 = .ok (.aload_n 1, 1) := by decide +kernel
theorem dX5_copyFrom_34 : decode cX5_copyFrom 34 = .ok (.getfield 27, 3) := by decide +kernel
theorem dX5_copyFrom_37 : decode cX5_copyFrom 37 = .ok (.putfield 27, 3) := by decide +kernel
theorem dX5_copyFrom_40 : decode cX5_copyFrom 40 = .ok (.aload_n 0, 1) := by decide +kernel
theorem dX5_copyFrom_41 : decode cX5_copyFrom 41 = .ok (.aload_n 1, 1) := by decide +kernel
theorem dX5_copyFrom_42 : decode cX5_copyFrom 42 = .ok (.getfield 15, 3) := by decide +kernel
theorem dX5_copyFrom_45 : decode cX5_copyFrom 45 = .ok (.putfield 15, 3) := by decide +kernel
theorem dX5_copyFrom_48 : decode cX5_copyFrom 48 = .ok (.aload_n 0, 1) := by decide +kernel
theorem dX5_copyFrom_49 : decode cX5_copyFrom 49 = .ok (.aload_n 1, 1) := by decide +kernel
theorem dX5_copyFrom_50 : decode cX5_copyFrom 50 = .ok (.getfield 30, 3) := by decide +kernel
theorem dX5_copyFrom_53 : decode cX5_copyFrom 53 = .ok (.putfield 30, 3) := by decide +kernel
theorem dX5_copyFrom_56 : decode cX5_copyFrom 56 = .ok (.return_, 1) := by decide +kernel
theorem dX5_begin_0 : decode cX5_begin 0 = .ok (.aload_n 0, 1) := by decide +kernel
theorem dX5_begin_1 : decode cX5_begin 1 = .ok (.iload_n 1, 1) := by decide +kernel
theorem dX5_begin_2 : decode cX5_begin 2 = .ok (.putfield 9, 3) := by decide +kernel
theorem dX5_begin_5 : decode cX5_begin 5 = .ok (.aload_n 0, 1) := by decide +kernel
theorem dX5_begin_6 : decode cX5_begin 6 = .ok (.iload_n 2, 1) := by decide +kernel
theorem dX5_begin_7 : decode cX5_begin 7 = .ok (.putfield 18, 3) := by decide +kernel
theorem dX5_begin_10 : decode cX5_begin 10 = .ok (.aload_n 0, 1) := by decide +kernel
theorem dX5_begin_11 : decode cX5_begin 11 = .ok (.iload_n 2, 1) := by decide +kernel
theorem dX5_begin_12 : decode cX5_begin 12 = .ok (.putfield 21, 3) := by decide +kernel
theorem dX5_begin_15 : decode cX5_begin 15 = .ok (.aload_n 0, 1) := by decide +kernel
theorem dX5_begin_16 : decode cX5_begin 16 = .ok (.iload_n 3, 1) := by decide +kernel
theorem dX5_begin_17 : decode cX5_begin 17 = .ok (.putfield 24, 3) := by decide +kernel
theorem dX5_begin_20 : decode cX5_begin 20 = .ok (.aload_n 0, 1) := by decide +kernel
theorem dX5_begin_21 : decode cX5_begin 21 = .ok (.iconst 0, 1) := by decide +kernel
theorem dX5_begin_22 : decode cX5_begin 22 = .ok (.putfield 27, 3) := by decide +kernel
theorem dX5_begin_25 : decode cX5_begin 25 = .ok (.aload_n 0, 1) := by decide +kernel
theorem dX5_begin_26 : decode cX5_begin 26 = .ok (.invokevirtual 34, 3) := by decide +kernel
theorem dX5_begin_29 : decode cX5_begin 29 = .ok (.return_, 1) := by decide +kernel
theorem dX5_loseOneAhead_0 : decode cX5_loseOneAhead 0 = .ok (.aload_n 0, 1) := by decide +kernel
theorem dX5_loseOneAhead_1 : decode cX5_loseOneAhead 1 = .ok (.iconst (-1), 1) := by decide +kernel
theorem dX5_loseOneAhead_2 : decode cX5_loseOneAhead 2 = .ok (.putfield 15, 3) := by decide +kernel
theorem dX5_loseOneAhead_5 : decode cX5_loseOneAhead 5 = .ok (.aload_n 0, 1) := by decide +kernel
theorem dX5_loseOneAhead_6 : decode cX5_loseOneAhead 6 = .ok (.iconst 0, 1) := by decide +kernel
theorem dX5_loseOneAhead_7 : decode cX5_loseOneAhead 7 = .ok (.putfield 30, 3) := by decide +kernel
theorem dX5_loseOneAhead_10 : decode cX5_loseOneAhead 10 = .ok (.return_, 1) := by decide +kernel
theorem dX6_init_0 : decode cX6_init 0 = .ok (.aload_n 0, 1) := by decide +kernel
theorem dX6_init_1 : decode cX6_init 1 = .ok (.invokespecial 1, 3) := by decide +kernel
theorem dX6_init_4 : decode cX6_init 4 = .ok (.aload_n 0, 1) := by decide +kernel
theorem dX6_init_5 : decode cX6_init 5 = .ok (.new 7, 3) := by decide +kernel
theorem dX6_init_8 : decode cX6_init 8 = .ok (.dup, 1) := by decide +kernel
theorem dX6_init_9 : decode cX6_init 9 = .ok (.invokespecial 9, 3) := by decide +kernel
theorem dX6_init_12 : decode cX6_init 12 = .ok (.putfield 10, 3) := by decide +kernel
theorem dX6_init_15 : decode cX6_init 15 = .ok (.aload_n 0, 1) := by decide +kernel
theorem dX6_init_16 : decode cX6_init 16 = .ok (.new 7, 3) := by decide +kernel
theorem dX6_init_19 : decode cX6_init 19 = .ok (.dup, 1) := by decide +kernel
theorem dX6_init_20 : decode cX6_init 20 = .ok (.invokespecial 9, 3) := by decide +kernel
theorem dX6_init_23 : decode cX6_init 23 = .ok (.putfield 16, 3) := by decide +kernel
theorem dX6_init_26 : decode cX6_init 26 = .ok (.aload_n 0, 1) := by decide +kernel
theorem dX6_init_27 : decode cX6_init 27 = .ok (.new 19, 3) := by decide +kernel
theorem dX6_init_30 : decode cX6_init 30 = .ok (.dup, 1) := by decide +kernel
theorem dX6_init_31 : decode cX6_init 31 = .ok (.invokespecial 21, 3) := by decide +kernel
theorem dX6_init_34 : decode cX6_init 34 = .ok (.putfield 22, 3) := by decide +kernel
theorem dX6_init_37 : decode cX6_init 37 = .ok (.aload_n 0, 1) := by decide +kernel
theorem dX6_init_38 : decode cX6_init 38 = .ok (.new 26, 3) := by decide +kernel
theorem dX6_init_41 : decode cX6_init 41 = .ok (.dup, 1) := by decide +kernel
theorem dX6_init_42 : decode cX6_init 42 = .ok (.invokespecial 28, 3) := by decide +kernel
theorem dX6_init_45 : decode cX6_init 45 = .ok (.putfield 29, 3) := by decide +kernel
theorem dX6_init_48 : decode cX6_init 48 = .ok (.return_, 1) := by decide +kernel
theorem dX6_join_0 : decode cX6_join 0 = .ok (.aload_n 0, 1) := by decide +kernel
theorem dX6_join_1 : decode cX6_join 1 = .ok (.getstatic 33, 3) := by decide +kernel
theorem dX6_join_4 : decode cX6_join 4 = .ok (.iload_n 1, 1) := by decide +kernel
theorem dX6_join_5 : decode cX6_join 5 = .ok (.iload_n 2, 1) := by decide +kernel
theorem dX6_join_6 : decode cX6_join 6 = .ok (.iconst 0, 1) := by decide +kernel
theorem dX6_join_7 : decode cX6_join 7 = .ok (.invokevirtual 39, 3) := by decide +kernel
theorem dX6_join_10 : decode cX6_join 10 = .ok (.ireturn, 1) := by decide +kernel
theorem dX6_joinAt_0 : decode cX6_joinAt 0 = .ok (.aload_n 0, 1) := by decide +kernel
theorem dX6_joinAt_1 : decode cX6_joinAt 1 = .ok (.getstatic 43, 3) := by decide +kernel
theorem dX6_joinAt_4 : decode cX6_joinAt 4 = .ok (.iload_n 1, 1) := by decide +kernel
theorem dX6_joinAt_5 : decode cX6_joinAt 5 = .ok (.iload_n 2, 1) := by decide +kernel
theorem dX6_joinAt_6 : decode cX6_joinAt 6 = .ok (.iload_n 3, 1) := by decide +kernel
theorem dX6_joinAt_7 : decode cX6_joinAt 7 = .ok (.invokevirtual 39, 3) := by decide +kernel
theorem dX6_joinAt_10 : decode cX6_joinAt 10 = .ok (.ireturn, 1) := by decide +kernel
theorem dX6_leave_0 : decode cX6_leave 0 = .ok (.aload_n 0, 1) := by decide +kernel
theorem dX6_leave_1 : decode cX6_leave 1 = .ok (.getstatic 46, 3) := by decide +kernel
theorem dX6_leave_4 : decode cX6_leave 4 = .ok (.iload_n 1, 1) := by decide +kernel
theorem dX6_leave_5 : decode cX6_leave 5 = .ok (.iconst 0, 1) := by decide +kernel
theorem dX6_leave_6 : decode cX6_leave 6 = .ok (.iconst 0, 1) := by decide +kernel
theorem dX6_leave_7 : decode cX6_leave 7 = .ok (.invokevirtual 39, 3) := by decide +kernel
theorem dX6_leave_10 : decode cX6_leave 10 = .ok (.ireturn, 1) := by decide +kernel
theorem dX6_serve_0 : decode cX6_serve 0 = .ok (.aload_n 0, 1) := by decide +kernel
theorem dX6_serve_1 : decode cX6_serve 1 = .ok (.getstatic 49, 3) := by decide +kernel
theorem dX6_serve_4 : decode cX6_serve 4 = .ok (.iconst 0, 1) := by decide +kernel
theorem dX6_serve_5 : decode cX6_serve 5 = .ok (.iconst 0, 1) := by decide +kernel
theorem dX6_serve_6 : decode cX6_serve 6 = .ok (.iconst 0, 1) := by decide +kernel
theorem dX6_serve_7 : decode cX6_serve 7 = .ok (.invokevirtual 39, 3) := by decide +kernel
theorem dX6_serve_10 : decode cX6_serve 10 = .ok (.ireturn, 1) := by decide +kernel
theorem dX6_say_0 : decode cX6_say 0 = .ok (.aload_n 0, 1) := by decide +kernel
theorem dX6_say_1 : decode cX6_say 1 = .ok (.getstatic 52, 3) := by decide +kernel
theorem dX6_say_4 : decode cX6_say 4 = .ok (.iload_n 1, 1) := by decide +kernel
theorem dX6_say_5 : decode cX6_say 5 = .ok (.iload_n 2, 1) := by decide +kernel
theorem dX6_say_6 : decode cX6_say 6 = .ok (.iconst 0, 1) := by decide +kernel
theorem dX6_say_7 : decode cX6_say 7 = .ok (.invokevirtual 39, 3) := by decide +kernel
theorem dX6_say_10 : decode cX6_say 10 = .ok (.ireturn, 1) := by decide +kernel
theorem dX6_setSplit_0 : decode cX6_setSplit 0 = .ok (.iload_n 1, 1) := by decide +kernel
theorem dX6_setSplit_1 : decode cX6_setSplit 1 = .ok (.iconst 0, 1) := by decide +kernel
theorem dX6_setSplit_2 : decode cX6_setSplit 2 = .ok (.bipush 100, 2) := by decide +kernel
theorem dX6_setSplit_4 : decode cX6_setSplit 4 = .ok (.invokestatic 55, 3) := by decide +kernel
theorem dX6_setSplit_7 : decode cX6_setSplit 7 = .ok (.ifCond .eq 7, 3) := by decide +kernel
theorem dX6_setSplit_10 : decode cX6_setSplit 10 = .ok (.iconst 0, 1) := by decide +kernel
theorem dX6_setSplit_11 : decode cX6_setSplit 11 = .ok (.goto 4, 3) := by decide +kernel
theorem dX6_setSplit_14 : decode cX6_setSplit 14 = .ok (.iconst 2, 1) := by decide +kernel
theorem dX6_setSplit_15 : decode cX6_setSplit 15 = .ok (.invokestatic 59, 3) := by decide +kernel
theorem dX6_setSplit_18 : decode cX6_setSplit 18 = .ok (.aload_n 0, 1) := by decide +kernel
theorem dX6_setSplit_19 : decode cX6_setSplit 19 = .ok (.getfield 22, 3) := by decide +kernel
theorem dX6_setSplit_22 : decode cX6_setSplit 22 = .ok (.aload_n 0, 1) := by decide +kernel
theorem dX6_setSplit_23 : decode cX6_setSplit 23 = .ok (.getfield 10, 3) := by decide +kernel
theorem dX6_setSplit_26 : decode cX6_setSplit 26 = .ok (.invokevirtual 63, 3) := by decide +kernel
theorem dX6_setSplit_29 : decode cX6_setSplit 29 = .ok (.aload_n 0, 1) := by decide +kernel
theorem dX6_setSplit_30 : decode cX6_setSplit 30 = .ok (.getfield 10, 3) := by decide +kernel
theorem dX6_setSplit_33 : decode cX6_setSplit 33 = .ok (.getfield 67, 3) := by decide +kernel
theorem dX6_setSplit_36 : decode cX6_setSplit 36 = .ok (.istore_n 2, 1) := by decide +kernel
theorem dX6_setSplit_37 : decode cX6_setSplit 37 = .ok (.aload_n 0, 1) := by decide +kernel
theorem dX6_setSplit_38 : decode cX6_setSplit 38 = .ok (.getfield 10, 3) := by decide +kernel
theorem dX6_setSplit_41 : decode cX6_setSplit 41 = .ok (.iload_n 1, 1) := by decide +kernel
theorem dX6_setSplit_42 : decode cX6_setSplit 42 = .ok (.putfield 67, 3) := by decide +kernel
theorem dX6_setSplit_45 : decode cX6_setSplit 45 = .ok (.iload_n 2, 1) := by decide +kernel
theorem dX6_setSplit_46 : decode cX6_setSplit 46 = .ok (.ireturn, 1) := by decide +kernel
theorem dX6_offer_0 : decode cX6_offer 0 = .ok (.aload_n 0, 1) := by decide +kernel
theorem dX6_offer_1 : decode cX6_offer 1 = .ok (.getstatic 71, 3) := by decide +kernel
theorem dX6_offer_4 : decode cX6_offer 4 = .ok (.iload_n 1, 1) := by decide +kernel
theorem dX6_offer_5 : decode cX6_offer 5 = .ok (.iload_n 2, 1) := by decide +kernel
theorem dX6_offer_6 : decode cX6_offer 6 = .ok (.iconst 0, 1) := by decide +kernel
theorem dX6_offer_7 : decode cX6_offer 7 = .ok (.invokevirtual 39, 3) := by decide +kernel
theorem dX6_offer_10 : decode cX6_offer 10 = .ok (.ireturn, 1) := by decide +kernel
theorem dX6_take_0 : decode cX6_take 0 = .ok (.aload_n 0, 1) := by decide +kernel
theorem dX6_take_1 : decode cX6_take 1 = .ok (.getstatic 74, 3) := by decide +kernel
theorem dX6_take_4 : decode cX6_take 4 = .ok (.iload_n 1, 1) := by decide +kernel
theorem dX6_take_5 : decode cX6_take 5 = .ok (.iconst 0, 1) := by decide +kernel
theorem dX6_take_6 : decode cX6_take 6 = .ok (.iconst 0, 1) := by decide +kernel
theorem dX6_take_7 : decode cX6_take 7 = .ok (.invokevirtual 39, 3) := by decide +kernel
theorem dX6_take_10 : decode cX6_take 10 = .ok (.ireturn, 1) := by decide +kernel
theorem dX6_swap_0 : decode cX6_swap 0 = .ok (.aload_n 0, 1) := by decide +kernel
theorem dX6_swap_1 : decode cX6_swap 1 = .ok (.getstatic 77, 3) := by decide +kernel
theorem dX6_swap_4 : decode cX6_swap 4 = .ok (.iload_n 1, 1) := by decide +kernel
theorem dX6_swap_5 : decode cX6_swap 5 = .ok (.iconst 0, 1) := by decide +kernel
theorem dX6_swap_6 : decode cX6_swap 6 = .ok (.iconst 0, 1) := by decide +kernel
theorem dX6_swap_7 : decode cX6_swap 7 = .ok (.invokevirtual 39, 3) := by decide +kernel
theorem dX6_swap_10 : decode cX6_swap 10 = .ok (.ireturn, 1) := by decide +kernel
theorem dX6_befriend_0 : decode cX6_befriend 0 = .ok (.aload_n 0, 1) := by decide +kernel
theorem dX6_befriend_1 : decode cX6_befriend 1 = .ok (.getstatic 80, 3) := by decide +kernel
theorem dX6_befriend_4 : decode cX6_befriend 4 = .ok (.iload_n 1, 1) := by decide +kernel
theorem dX6_befriend_5 : decode cX6_befriend 5 = .ok (.iconst 0, 1) := by decide +kernel
theorem dX6_befriend_6 : decode cX6_befriend 6 = .ok (.iconst 0, 1) := by decide +kernel
theorem dX6_befriend_7 : decode cX6_befriend 7 = .ok (.invokevirtual 39, 3) := by decide +kernel
theorem dX6_befriend_10 : decode cX6_befriend 10 = .ok (.ireturn, 1) := by decide +kernel
theorem dX6_part_0 : decode cX6_part 0 = .ok (.aload_n 0, 1) := by decide +kernel
theorem dX6_part_1 : decode cX6_part 1 = .ok (.getstatic 83, 3) := by decide +kernel
theorem dX6_part_4 : decode cX6_part 4 = .ok (.iload_n 1, 1) := by decide +kernel
theorem dX6_part_5 : decode cX6_part 5 = .ok (.iconst 0, 1) := by decide +kernel
theorem dX6_part_6 : decode cX6_part 6 = .ok (.iconst 0, 1) := by decide +kernel
theorem dX6_part_7 : decode cX6_part 7 = .ok (.invokevirtual 39, 3) := by decide +kernel
theorem dX6_part_10 : decode cX6_part 10 = .ok (.ireturn, 1) := by decide +kernel
theorem dX6_settle_0 : decode cX6_settle 0 = .ok (.aload_n 0, 1) := by decide +kernel
theorem dX6_settle_1 : decode cX6_settle 1 = .ok (.getstatic 86, 3) := by decide +kernel
theorem dX6_settle_4 : decode cX6_settle 4 = .ok (.iconst 0, 1) := by decide +kernel
theorem dX6_settle_5 : decode cX6_settle 5 = .ok (.iconst 0, 1) := by decide +kernel
theorem dX6_settle_6 : decode cX6_settle 6 = .ok (.iconst 0, 1) := by decide +kernel
theorem dX6_settle_7 : decode cX6_settle 7 = .ok (.invokevirtual 39, 3) := by decide +kernel
theorem dX6_settle_10 : decode cX6_settle 10 = .ok (.ireturn, 1) := by decide +kernel
theorem dX6_member_0 : decode cX6_member 0 = .ok (.aload_n 0, 1) := by decide +kernel
theorem dX6_member_1 : decode cX6_member 1 = .ok (.getfield 10, 3) := by decide +kernel
theorem dX6_member_4 : decode cX6_member 4 = .ok (.iload_n 1, 1) := by decide +kernel
theorem dX6_member_5 : decode cX6_member 5 = .ok (.invokevirtual 89, 3) := by decide +kernel
theorem dX6_member_8 : decode cX6_member 8 = .ok (.istore_n 3, 1) := by decide +kernel
theorem dX6_member_9 : decode cX6_member 9 = .ok (.aload_n 0, 1) := by decide +kernel
theorem dX6_member_10 : decode cX6_member 10 = .ok (.iload_n 3, 1) := by decide +kernel
theorem dX6_member_11 : decode cX6_member 11 = .ok (.iload_n 2, 1) := by decide +kernel
theorem dX6_member_12 : decode cX6_member 12 = .ok (.iconst 0, 1) := by decide +kernel
theorem dX6_member_13 : decode cX6_member 13 = .ok (.bipush 9, 2) := by decide +kernel
theorem dX6_member_15 : decode cX6_member 15 = .ok (.invokestatic 55, 3) := by decide +kernel
theorem dX6_member_18 : decode cX6_member 18 = .ok (.invokevirtual 93, 3) := by decide +kernel
theorem dX6_member_21 : decode cX6_member 21 = .ok (.invokestatic 59, 3) := by decide +kernel
theorem dX6_member_24 : decode cX6_member 24 = .ok (.aload_n 0, 1) := by decide +kernel
theorem dX6_member_25 : decode cX6_member 25 = .ok (.getfield 10, 3) := by decide +kernel
theorem dX6_member_28 : decode cX6_member 28 = .ok (.iload_n 3, 1) := by decide +kernel
theorem dX6_member_29 : decode cX6_member 29 = .ok (.iload_n 2, 1) := by decide +kernel
theorem dX6_member_30 : decode cX6_member 30 = .ok (.invokevirtual 97, 3) := by decide +kernel
theorem dX6_member_33 : decode cX6_member 33 = .ok (.ireturn, 1) := by decide +kernel
theorem dX6_at_0 : decode cX6_at 0 = .ok (.iload_n 1, 1) := by decide +kernel
theorem dX6_at_1 : decode cX6_at 1 = .ok (.ifCond .lt 7, 3) := by decide +kernel
theorem dX6_at_4 : decode cX6_at 4 = .ok (.iconst 0, 1) := by decide +kernel
theorem dX6_at_5 : decode cX6_at 5 = .ok (.goto 4, 3) := by decide +kernel
theorem dX6_at_8 : decode cX6_at 8 = .ok (.iconst 2, 1) := by decide +kernel
theorem dX6_at_9 : decode cX6_at 9 = .ok (.invokestatic 59, 3) := by decide +kernel
theorem dX6_at_12 : decode cX6_at 12 = .ok (.aload_n 0, 1) := by decide +kernel
theorem dX6_at_13 : decode cX6_at 13 = .ok (.getfield 10, 3) := by decide +kernel
theorem dX6_at_16 : decode cX6_at 16 = .ok (.iload_n 1, 1) := by decide +kernel
theorem dX6_at_17 : decode cX6_at 17 = .ok (.invokevirtual 101, 3) := by decide +kernel
theorem dX6_at_20 : decode cX6_at 20 = .ok (.getfield 105, 3) := by decide +kernel
theorem dX6_at_23 : decode cX6_at 23 = .ok (.ireturn, 1) := by decide +kernel
theorem dX6_pair_0 : decode cX6_pair 0 = .ok (.aload_n 0, 1) := by decide +kernel
theorem dX6_pair_1 : decode cX6_pair 1 = .ok (.iload_n 1, 1) := by decide +kernel
theorem dX6_pair_2 : decode cX6_pair 2 = .ok (.iload_n 2, 1) := by decide +kernel
theorem dX6_pair_3 : decode cX6_pair 3 = .ok (.iconst 0, 1) := by decide +kernel
theorem dX6_pair_4 : decode cX6_pair 4 = .ok (.iconst 4, 1) := by decide +kernel
theorem dX6_pair_5 : decode cX6_pair 5 = .ok (.invokestatic 55, 3) := by decide +kernel
theorem dX6_pair_8 : decode cX6_pair 8 = .ok (.iconst 2, 1) := by decide +kernel
theorem dX6_pair_9 : decode cX6_pair 9 = .ok (.invokevirtual 110, 3) := by decide +kernel
theorem dX6_pair_12 : decode cX6_pair 12 = .ok (.invokestatic 59, 3) := by decide +kernel
theorem dX6_pair_15 : decode cX6_pair 15 = .ok (.aload_n 0, 1) := by decide +kernel
theorem dX6_pair_16 : decode cX6_pair 16 = .ok (.getfield 10, 3) := by decide +kernel
theorem dX6_pair_19 : decode cX6_pair 19 = .ok (.iload_n 1, 1) := by decide +kernel
theorem dX6_pair_20 : decode cX6_pair 20 = .ok (.iload_n 2, 1) := by decide +kernel
theorem dX6_pair_21 : decode cX6_pair 21 = .ok (.invokevirtual 114, 3) := by decide +kernel
theorem dX6_pair_24 : decode cX6_pair 24 = .ok (.ireturn, 1) := by decide +kernel
theorem dX6_whole_0 : decode cX6_whole 0 = .ok (.iload_n 1, 1) := by decide +kernel
theorem dX6_whole_1 : decode cX6_whole 1 = .ok (.iconst 0, 1) := by decide +kernel
theorem dX6_whole_2 : decode cX6_whole 2 = .ok (.bipush 13, 2) := by decide +kernel
theorem dX6_whole_4 : decode cX6_whole 4 = .ok (.invokestatic 55, 3) := by decide +kernel
theorem dX6_whole_7 : decode cX6_whole 7 = .ok (.ifCond .eq 7, 3) := by decide +kernel
theorem dX6_whole_10 : decode cX6_whole 10 = .ok (.iconst 0, 1) := by decide +kernel
theorem dX6_whole_11 : decode cX6_whole 11 = .ok (.goto 4, 3) := by decide +kernel
theorem dX6_whole_14 : decode cX6_whole 14 = .ok (.iconst 2, 1) := by decide +kernel
theorem dX6_whole_15 : decode cX6_whole 15 = .ok (.invokestatic 59, 3) := by decide +kernel
theorem dX6_whole_18 : decode cX6_whole 18 = .ok (.aload_n 0, 1) := by decide +kernel
theorem dX6_whole_19 : decode cX6_whole 19 = .ok (.iload_n 1, 1) := by decide +kernel
theorem dX6_whole_20 : decode cX6_whole 20 = .ok (.invokevirtual 117, 3) := by decide +kernel
theorem dX6_whole_23 : decode cX6_whole 23 = .ok (.ireturn, 1) := by decide +kernel
theorem dX6_reason_0 : decode cX6_reason 0 = .ok (.aload_n 0, 1) := by decide +kernel
theorem dX6_reason_1 : decode cX6_reason 1 = .ok (.iload_n 1, 1) := by decide +kernel
theorem dX6_reason_2 : decode cX6_reason 2 = .ok (.iconst 1, 1) := by decide +kernel
theorem dX6_reason_3 : decode cX6_reason 3 = .ok (.iconst 0, 1) := by decide +kernel
theorem dX6_reason_4 : decode cX6_reason 4 = .ok (.invokevirtual 110, 3) := by decide +kernel
theorem dX6_reason_7 : decode cX6_reason 7 = .ok (.invokestatic 59, 3) := by decide +kernel
theorem dX6_reason_10 : decode cX6_reason 10 = .ok (.aload_n 0, 1) := by decide +kernel
theorem dX6_reason_11 : decode cX6_reason 11 = .ok (.getfield 10, 3) := by decide +kernel
theorem dX6_reason_14 : decode cX6_reason 14 = .ok (.iload_n 1, 1) := by decide +kernel
theorem dX6_reason_15 : decode cX6_reason 15 = .ok (.invokevirtual 120, 3) := by decide +kernel
theorem dX6_reason_18 : decode cX6_reason 18 = .ok (.ireturn, 1) := by decide +kernel
theorem dX6_settledPlace_0 : decode cX6_settledPlace 0 = .ok (.aload_n 0, 1) := by decide +kernel
theorem dX6_settledPlace_1 : decode cX6_settledPlace 1 = .ok (.aload_n 0, 1) := by decide +kernel
theorem dX6_settledPlace_2 : decode cX6_settledPlace 2 = .ok (.getfield 10, 3) := by decide +kernel
theorem dX6_settledPlace_5 : decode cX6_settledPlace 5 = .ok (.iload_n 1, 1) := by decide +kernel
theorem dX6_settledPlace_6 : decode cX6_settledPlace 6 = .ok (.invokevirtual 89, 3) := by decide +kernel
theorem dX6_settledPlace_9 : decode cX6_settledPlace 9 = .ok (.iconst 1, 1) := by decide +kernel
theorem dX6_settledPlace_10 : decode cX6_settledPlace 10 = .ok (.invokevirtual 93, 3) := by decide +kernel
theorem dX6_settledPlace_13 : decode cX6_settledPlace 13 = .ok (.invokestatic 59, 3) := by decide +kernel
theorem dX6_settledPlace_16 : decode cX6_settledPlace 16 = .ok (.aload_n 0, 1) := by decide +kernel
theorem dX6_settledPlace_17 : decode cX6_settledPlace 17 = .ok (.getfield 16, 3) := by decide +kernel
theorem dX6_settledPlace_20 : decode cX6_settledPlace 20 = .ok (.aload_n 0, 1) := by decide +kernel
theorem dX6_settledPlace_21 : decode cX6_settledPlace 21 = .ok (.getfield 10, 3) := by decide +kernel
theorem dX6_settledPlace_24 : decode cX6_settledPlace 24 = .ok (.invokevirtual 123, 3) := by decide +kernel
theorem dX6_settledPlace_27 : decode cX6_settledPlace 27 = .ok (.aload_n 0, 1) := by decide +kernel
theorem dX6_settledPlace_28 : decode cX6_settledPlace 28 = .ok (.getfield 16, 3) := by decide +kernel
theorem dX6_settledPlace_31 : decode cX6_settledPlace 31 = .ok (.invokevirtual 126, 3) := by decide +kernel
theorem dX6_settledPlace_34 : decode cX6_settledPlace 34 = .ok (.pop, 1) := by decide +kernel
theorem dX6_settledPlace_35 : decode cX6_settledPlace 35 = .ok (.aload_n 0, 1) := by decide +kernel
theorem dX6_settledPlace_36 : decode cX6_settledPlace 36 = .ok (.getfield 16, 3) := by decide +kernel
theorem dX6_settledPlace_39 : decode cX6_settledPlace 39 = .ok (.iload_n 1, 1) := by decide +kernel
theorem dX6_settledPlace_40 : decode cX6_settledPlace 40 = .ok (.invokevirtual 89, 3) := by decide +kernel
theorem dX6_settledPlace_43 : decode cX6_settledPlace 43 = .ok (.ireturn, 1) := by decide +kernel
theorem dX6_profit_0 : decode cX6_profit 0 = .ok (.aload_n 0, 1) := by decide +kernel
theorem dX6_profit_1 : decode cX6_profit 1 = .ok (.getfield 10, 3) := by decide +kernel
theorem dX6_profit_4 : decode cX6_profit 4 = .ok (.iload_n 1, 1) := by decide +kernel
theorem dX6_profit_5 : decode cX6_profit 5 = .ok (.invokevirtual 89, 3) := by decide +kernel
theorem dX6_profit_8 : decode cX6_profit 8 = .ok (.istore_n 3, 1) := by decide +kernel
theorem dX6_profit_9 : decode cX6_profit 9 = .ok (.aload_n 0, 1) := by decide +kernel
theorem dX6_profit_10 : decode cX6_profit 10 = .ok (.iload_n 3, 1) := by decide +kernel
theorem dX6_profit_11 : decode cX6_profit 11 = .ok (.iload_n 2, 1) := by decide +kernel
theorem dX6_profit_12 : decode cX6_profit 12 = .ok (.iconst 0, 1) := by decide +kernel
theorem dX6_profit_13 : decode cX6_profit 13 = .ok (.bipush 99, 2) := by decide +kernel
theorem dX6_profit_15 : decode cX6_profit 15 = .ok (.invokestatic 55, 3) := by decide +kernel
theorem dX6_profit_18 : decode cX6_profit 18 = .ok (.invokevirtual 93, 3) := by decide +kernel
theorem dX6_profit_21 : decode cX6_profit 21 = .ok (.invokestatic 59, 3) := by decide +kernel
theorem dX6_profit_24 : decode cX6_profit 24 = .ok (.aload_n 0, 1) := by decide +kernel
theorem dX6_profit_25 : decode cX6_profit 25 = .ok (.iload_n 3, 1) := by decide +kernel
theorem dX6_profit_26 : decode cX6_profit 26 = .ok (.iload_n 2, 1) := by decide +kernel
theorem dX6_profit_27 : decode cX6_profit 27 = .ok (.invokevirtual 130, 3) := by decide +kernel
theorem dX6_profit_30 : decode cX6_profit 30 = .ok (.ireturn, 1) := by decide +kernel
theorem dX6_bestLie_0 : decode cX6_bestLie 0 = .ok (.aload_n 0, 1) := by decide +kernel
theorem dX6_bestLie_1 : decode cX6_bestLie 1 = .ok (.getfield 10, 3) := by decide +kernel
theorem dX6_bestLie_4 : decode cX6_bestLie 4 = .ok (.iload_n 1, 1) := by decide +kernel
theorem dX6_bestLie_5 : decode cX6_bestLie 5 = .ok (.invokevirtual 89, 3) := by decide +kernel
theorem dX6_bestLie_8 : decode cX6_bestLie 8 = .ok (.istore_n 2, 1) := by decide +kernel
theorem dX6_bestLie_9 : decode cX6_bestLie 9 = .ok (.aload_n 0, 1) := by decide +kernel
theorem dX6_bestLie_10 : decode cX6_bestLie 10 = .ok (.iload_n 2, 1) := by decide +kernel
theorem dX6_bestLie_11 : decode cX6_bestLie 11 = .ok (.iconst 1, 1) := by decide +kernel
theorem dX6_bestLie_12 : decode cX6_bestLie 12 = .ok (.invokevirtual 93, 3) := by decide +kernel
theorem dX6_bestLie_15 : decode cX6_bestLie 15 = .ok (.invokestatic 59, 3) := by decide +kernel
theorem dX6_bestLie_18 : decode cX6_bestLie 18 = .ok (.iconst 0, 1) := by decide +kernel
theorem dX6_bestLie_19 : decode cX6_bestLie 19 = .ok (.istore_n 3, 1) := by decide +kernel
theorem dX6_bestLie_20 : decode cX6_bestLie 20 = .ok (.aload_n 0, 1) := by decide +kernel
theorem dX6_bestLie_21 : decode cX6_bestLie 21 = .ok (.iload_n 2, 1) := by decide +kernel
theorem dX6_bestLie_22 : decode cX6_bestLie 22 = .ok (.iconst 0, 1) := by decide +kernel
theorem dX6_bestLie_23 : decode cX6_bestLie 23 = .ok (.invokevirtual 130, 3) := by decide +kernel
theorem dX6_bestLie_26 : decode cX6_bestLie 26 = .ok (.istore 4, 2) := by decide +kernel
theorem dX6_bestLie_28 : decode cX6_bestLie 28 = .ok (.iconst 1, 1) := by decide +kernel
theorem dX6_bestLie_29 : decode cX6_bestLie 29 = .ok (.istore 5, 2) := by decide +kernel
theorem dX6_bestLie_31 : decode cX6_bestLie 31 = .ok (.iload 5, 2) := by decide +kernel
theorem dX6_bestLie_33 : decode cX6_bestLie 33 = .ok (.bipush 99, 2) := by decide +kernel
theorem dX6_bestLie_35 : decode cX6_bestLie 35 = .ok (.if_icmp .gt 32, 3) := by decide +kernel
theorem dX6_bestLie_38 : decode cX6_bestLie 38 = .ok (.aload_n 0, 1) := by decide +kernel
theorem dX6_bestLie_39 : decode cX6_bestLie 39 = .ok (.iload_n 2, 1) := by decide +kernel
theorem dX6_bestLie_40 : decode cX6_bestLie 40 = .ok (.iload 5, 2) := by decide +kernel
theorem dX6_bestLie_42 : decode cX6_bestLie 42 = .ok (.invokevirtual 130, 3) := by decide +kernel
theorem dX6_bestLie_45 : decode cX6_bestLie 45 = .ok (.istore 6, 2) := by decide +kernel
theorem dX6_bestLie_47 : decode cX6_bestLie 47 = .ok (.iload 6, 2) := by decide +kernel
theorem dX6_bestLie_49 : decode cX6_bestLie 49 = .ok (.iload 4, 2) := by decide +kernel
theorem dX6_bestLie_51 : decode cX6_bestLie 51 = .ok (.if_icmp .le 10, 3) := by decide +kernel
theorem dX6_bestLie_54 : decode cX6_bestLie 54 = .ok (.iload 6, 2) := by decide +kernel
theorem dX6_bestLie_56 : decode cX6_bestLie 56 = .ok (.istore 4, 2) := by decide +kernel
theorem dX6_bestLie_58 : decode cX6_bestLie 58 = .ok (.iload 5, 2) := by decide +kernel
theorem dX6_bestLie_60 : decode cX6_bestLie 60 = .ok (.istore_n 3, 1) := by decide +kernel
theorem dX6_bestLie_61 : decode cX6_bestLie 61 = .ok (.iinc 5 1, 3) := by decide +kernel
theorem dX6_bestLie_64 : decode cX6_bestLie 64 = .ok (.goto (-33), 3) := by decide +kernel
theorem dX6_bestLie_67 : decode cX6_bestLie 67 = .ok (.iload_n 3, 1) := by decide +kernel
theorem dX6_bestLie_68 : decode cX6_bestLie 68 = .ok (.ireturn, 1) := by decide +kernel
theorem dX6_honestCost_0 : decode cX6_honestCost 0 = .ok (.aload_n 0, 1) := by decide +kernel
theorem dX6_honestCost_1 : decode cX6_honestCost 1 = .ok (.getfield 16, 3) := by decide +kernel
theorem dX6_honestCost_4 : decode cX6_honestCost 4 = .ok (.aload_n 0, 1) := by decide +kernel
theorem dX6_honestCost_5 : decode cX6_honestCost 5 = .ok (.getfield 10, 3) := by decide +kernel
theorem dX6_honestCost_8 : decode cX6_honestCost 8 = .ok (.invokevirtual 123, 3) := by decide +kernel
theorem dX6_honestCost_11 : decode cX6_honestCost 11 = .ok (.aload_n 0, 1) := by decide +kernel
theorem dX6_honestCost_12 : decode cX6_honestCost 12 = .ok (.getfield 16, 3) := by decide +kernel
theorem dX6_honestCost_15 : decode cX6_honestCost 15 = .ok (.invokevirtual 133, 3) := by decide +kernel
theorem dX6_honestCost_18 : decode cX6_honestCost 18 = .ok (.aload_n 0, 1) := by decide +kernel
theorem dX6_honestCost_19 : decode cX6_honestCost 19 = .ok (.getfield 16, 3) := by decide +kernel
theorem dX6_honestCost_22 : decode cX6_honestCost 22 = .ok (.invokevirtual 126, 3) := by decide +kernel
theorem dX6_honestCost_25 : decode cX6_honestCost 25 = .ok (.pop, 1) := by decide +kernel
theorem dX6_honestCost_26 : decode cX6_honestCost 26 = .ok (.aload_n 0, 1) := by decide +kernel
theorem dX6_honestCost_27 : decode cX6_honestCost 27 = .ok (.getfield 16, 3) := by decide +kernel
theorem dX6_honestCost_30 : decode cX6_honestCost 30 = .ok (.invokevirtual 136, 3) := by decide +kernel
theorem dX6_honestCost_33 : decode cX6_honestCost 33 = .ok (.ireturn, 1) := by decide +kernel
theorem dX6_disorder_0 : decode cX6_disorder 0 = .ok (.aload_n 0, 1) := by decide +kernel
theorem dX6_disorder_1 : decode cX6_disorder 1 = .ok (.getfield 10, 3) := by decide +kernel
theorem dX6_disorder_4 : decode cX6_disorder 4 = .ok (.invokevirtual 139, 3) := by decide +kernel
theorem dX6_disorder_7 : decode cX6_disorder 7 = .ok (.ireturn, 1) := by decide +kernel
theorem dX6_type_0 : decode cX6_type 0 = .ok (.iload_n 1, 1) := by decide +kernel
theorem dX6_type_1 : decode cX6_type 1 = .ok (.iconst 0, 1) := by decide +kernel
theorem dX6_type_2 : decode cX6_type 2 = .ok (.bipush 127, 2) := by decide +kernel
theorem dX6_type_4 : decode cX6_type 4 = .ok (.invokestatic 55, 3) := by decide +kernel
theorem dX6_type_7 : decode cX6_type 7 = .ok (.ifCond .eq 7, 3) := by decide +kernel
theorem dX6_type_10 : decode cX6_type 10 = .ok (.iconst 0, 1) := by decide +kernel
theorem dX6_type_11 : decode cX6_type 11 = .ok (.goto 4, 3) := by decide +kernel
theorem dX6_type_14 : decode cX6_type 14 = .ok (.iconst 2, 1) := by decide +kernel
theorem dX6_type_15 : decode cX6_type 15 = .ok (.invokestatic 59, 3) := by decide +kernel
theorem dX6_type_18 : decode cX6_type 18 = .ok (.aload_n 0, 1) := by decide +kernel
theorem dX6_type_19 : decode cX6_type 19 = .ok (.getfield 29, 3) := by decide +kernel
theorem dX6_type_22 : decode cX6_type 22 = .ok (.getfield 142, 3) := by decide +kernel
theorem dX6_type_25 : decode cX6_type 25 = .ok (.sipush 150, 3) := by decide +kernel
theorem dX6_type_28 : decode cX6_type 28 = .ok (.if_icmp .ge 7, 3) := by decide +kernel
theorem dX6_type_31 : decode cX6_type 31 = .ok (.iconst 0, 1) := by decide +kernel
theorem dX6_type_32 : decode cX6_type 32 = .ok (.goto 4, 3) := by decide +kernel
theorem dX6_type_35 : decode cX6_type 35 = .ok (.iconst 3, 1) := by decide +kernel
theorem dX6_type_36 : decode cX6_type 36 = .ok (.invokestatic 59, 3) := by decide +kernel
theorem dX6_type_39 : decode cX6_type 39 = .ok (.aload_n 0, 1) := by decide +kernel
theorem dX6_type_40 : decode cX6_type 40 = .ok (.getfield 29, 3) := by decide +kernel
theorem dX6_type_43 : decode cX6_type 43 = .ok (.iload_n 1, 1) := by decide +kernel
theorem dX6_type_44 : decode cX6_type 44 = .ok (.invokevirtual 145, 3) := by decide +kernel
theorem dX6_type_47 : decode cX6_type 47 = .ok (.aload_n 0, 1) := by decide +kernel
theorem dX6_type_48 : decode cX6_type 48 = .ok (.getfield 29, 3) := by decide +kernel
theorem dX6_type_51 : decode cX6_type 51 = .ok (.getfield 142, 3) := by decide +kernel
theorem dX6_type_54 : decode cX6_type 54 = .ok (.ireturn, 1) := by decide +kernel
theorem dX6_clearCommands_0 : decode cX6_clearCommands 0 = .ok (.aload_n 0, 1) := by decide +kernel
theorem dX6_clearCommands_1 : decode cX6_clearCommands 1 = .ok (.getfield 29, 3) := by decide +kernel
theorem dX6_clearCommands_4 : decode cX6_clearCommands 4 = .ok (.getfield 142, 3) := by decide +kernel
theorem dX6_clearCommands_7 : decode cX6_clearCommands 7 = .ok (.istore_n 1, 1) := by decide +kernel
theorem dX6_clearCommands_8 : decode cX6_clearCommands 8 = .ok (.aload_n 0, 1) := by decide +kernel
theorem dX6_clearCommands_9 : decode cX6_clearCommands 9 = .ok (.getfield 29, 3) := by decide +kernel
theorem dX6_clearCommands_12 : decode cX6_clearCommands 12 = .ok (.iconst 0, 1) := by decide +kernel
theorem dX6_clearCommands_13 : decode cX6_clearCommands 13 = .ok (.putfield 142, 3) := by decide +kernel
theorem dX6_clearCommands_16 : decode cX6_clearCommands 16 = .ok (.iload_n 1, 1) := by decide +kernel
theorem dX6_clearCommands_17 : decode cX6_clearCommands 17 = .ok (.ireturn, 1) := by decide +kernel
theorem dX6_runCommands_0 : decode cX6_runCommands 0 = .ok (.aload_n 0, 1) := by decide +kernel
theorem dX6_runCommands_1 : decode cX6_runCommands 1 = .ok (.getfield 29, 3) := by decide +kernel
theorem dX6_runCommands_4 : decode cX6_runCommands 4 = .ok (.invokevirtual 148, 3) := by decide +kernel
theorem dX6_runCommands_7 : decode cX6_runCommands 7 = .ok (.istore_n 1, 1) := by decide +kernel
theorem dX6_runCommands_8 : decode cX6_runCommands 8 = .ok (.iload_n 1, 1) := by decide +kernel
theorem dX6_runCommands_9 : decode cX6_runCommands 9 = .ok (.iconst (-1), 1) := by decide +kernel
theorem dX6_runCommands_10 : decode cX6_runCommands 10 = .ok (.if_icmp .eq 8, 3) := by decide +kernel
theorem dX6_runCommands_13 : decode cX6_runCommands 13 = .ok (.bipush (-10), 2) := by decide +kernel
theorem dX6_runCommands_15 : decode cX6_runCommands 15 = .ok (.iload_n 1, 1) := by decide +kernel
theorem dX6_runCommands_16 : decode cX6_runCommands 16 = .ok (.isub, 1) := by decide +kernel
theorem dX6_runCommands_17 : decode cX6_runCommands 17 = .ok (.ireturn, 1) := by decide +kernel
theorem dX6_runCommands_18 : decode cX6_runCommands 18 = .ok (.aload_n 0, 1) := by decide +kernel
theorem dX6_runCommands_19 : decode cX6_runCommands 19 = .ok (.getfield 22, 3) := by decide +kernel
theorem dX6_runCommands_22 : decode cX6_runCommands 22 = .ok (.aload_n 0, 1) := by decide +kernel
theorem dX6_runCommands_23 : decode cX6_runCommands 23 = .ok (.getfield 10, 3) := by decide +kernel
theorem dX6_runCommands_26 : decode cX6_runCommands 26 = .ok (.invokevirtual 63, 3) := by decide +kernel
theorem dX6_runCommands_29 : decode cX6_runCommands 29 = .ok (.iconst 0, 1) := by decide +kernel
theorem dX6_runCommands_30 : decode cX6_runCommands 30 = .ok (.istore_n 2, 1) := by decide +kernel
theorem dX6_runCommands_31 : decode cX6_runCommands 31 = .ok (.aload_n 0, 1) := by decide +kernel
theorem dX6_runCommands_32 : decode cX6_runCommands 32 = .ok (.getfield 29, 3) := by decide +kernel
theorem dX6_runCommands_35 : decode cX6_runCommands 35 = .ok (.invokevirtual 151, 3) := by decide +kernel
theorem dX6_runCommands_38 : decode cX6_runCommands 38 = .ok (.iconst 0, 1) := by decide +kernel
theorem dX6_runCommands_39 : decode cX6_runCommands 39 = .ok (.istore_n 3, 1) := by decide +kernel
theorem dX6_runCommands_40 : decode cX6_runCommands 40 = .ok (.iload_n 3, 1) := by decide +kernel
theorem dX6_runCommands_41 : decode cX6_runCommands 41 = .ok (.sipush 150, 3) := by decide +kernel
theorem dX6_runCommands_44 : decode cX6_runCommands 44 = .ok (.if_icmp .ge 46, 3) := by decide +kernel
theorem dX6_runCommands_47 : decode cX6_runCommands 47 = .ok (.aload_n 0, 1) := by decide +kernel
theorem dX6_runCommands_48 : decode cX6_runCommands 48 = .ok (.getfield 29, 3) := by decide +kernel
theorem dX6_runCommands_51 : decode cX6_runCommands 51 = .ok (.invokevirtual 154, 3) := by decide +kernel
theorem dX6_runCommands_54 : decode cX6_runCommands 54 = .ok (.ifCond .eq 36, 3) := by decide +kernel
theorem dX6_runCommands_57 : decode cX6_runCommands 57 = .ok (.aload_n 0, 1) := by decide +kernel
theorem dX6_runCommands_58 : decode cX6_runCommands 58 = .ok (.getfield 29, 3) := by decide +kernel
theorem dX6_runCommands_61 : decode cX6_runCommands 61 = .ok (.invokevirtual 158, 3) := by decide +kernel
theorem dX6_runCommands_64 : decode cX6_runCommands 64 = .ok (.aload_n 0, 1) := by decide +kernel
theorem dX6_runCommands_65 : decode cX6_runCommands 65 = .ok (.aload_n 0, 1) := by decide +kernel
theorem dX6_runCommands_66 : decode cX6_runCommands 66 = .ok (.getfield 29, 3) := by decide +kernel
theorem dX6_runCommands_69 : decode cX6_runCommands 69 = .ok (.getfield 161, 3) := by decide +kernel
theorem dX6_runCommands_72 : decode cX6_runCommands 72 = .ok (.invokevirtual 164, 3) := by decide +kernel
theorem dX6_runCommands_75 : decode cX6_runCommands 75 = .ok (.ifCond .ne 6, 3) := by decide +kernel
theorem dX6_runCommands_78 : decode cX6_runCommands 78 = .ok (.goto 12, 3) := by decide +kernel
theorem dX6_runCommands_81 : decode cX6_runCommands 81 = .ok (.iinc 2 1, 3) := by decide +kernel
theorem dX6_runCommands_84 : decode cX6_runCommands 84 = .ok (.iinc 3 1, 3) := by decide +kernel
theorem dX6_runCommands_87 : decode cX6_runCommands 87 = .ok (.goto (-47), 3) := by decide +kernel
theorem dX6_runCommands_90 : decode cX6_runCommands 90 = .ok (.iload_n 2, 1) := by decide +kernel
theorem dX6_runCommands_91 : decode cX6_runCommands 91 = .ok (.ireturn, 1) := by decide +kernel
theorem dX6_undo_0 : decode cX6_undo 0 = .ok (.aload_n 0, 1) := by decide +kernel
theorem dX6_undo_1 : decode cX6_undo 1 = .ok (.getfield 22, 3) := by decide +kernel
theorem dX6_undo_4 : decode cX6_undo 4 = .ok (.getfield 168, 3) := by decide +kernel
theorem dX6_undo_7 : decode cX6_undo 7 = .ok (.ifCond .le 7, 3) := by decide +kernel
theorem dX6_undo_10 : decode cX6_undo 10 = .ok (.iconst 0, 1) := by decide +kernel
theorem dX6_undo_11 : decode cX6_undo 11 = .ok (.goto 4, 3) := by decide +kernel
theorem dX6_undo_14 : decode cX6_undo 14 = .ok (.iconst 3, 1) := by decide +kernel
theorem dX6_undo_15 : decode cX6_undo 15 = .ok (.invokestatic 59, 3) := by decide +kernel
theorem dX6_undo_18 : decode cX6_undo 18 = .ok (.aload_n 0, 1) := by decide +kernel
theorem dX6_undo_19 : decode cX6_undo 19 = .ok (.getfield 22, 3) := by decide +kernel
theorem dX6_undo_22 : decode cX6_undo 22 = .ok (.aload_n 0, 1) := by decide +kernel
theorem dX6_undo_23 : decode cX6_undo 23 = .ok (.getfield 10, 3) := by decide +kernel
theorem dX6_undo_26 : decode cX6_undo 26 = .ok (.invokevirtual 171, 3) := by decide +kernel
theorem dX6_undo_29 : decode cX6_undo 29 = .ok (.aload_n 0, 1) := by decide +kernel
theorem dX6_undo_30 : decode cX6_undo 30 = .ok (.getfield 22, 3) := by decide +kernel
theorem dX6_undo_33 : decode cX6_undo 33 = .ok (.getfield 168, 3) := by decide +kernel
theorem dX6_undo_36 : decode cX6_undo 36 = .ok (.ireturn, 1) := by decide +kernel
theorem dX6_digest_0 : decode cX6_digest 0 = .ok (.ldc2_w 174, 3) := by decide +kernel
theorem dX6_digest_3 : decode cX6_digest 3 = .ok (.aload_n 0, 1) := by decide +kernel
theorem dX6_digest_4 : decode cX6_digest 4 = .ok (.getfield 22, 3) := by decide +kernel
theorem dX6_digest_7 : decode cX6_digest 7 = .ok (.getfield 168, 3) := by decide +kernel
theorem dX6_digest_10 : decode cX6_digest 10 = .ok (.i2l, 1) := by decide +kernel
theorem dX6_digest_11 : decode cX6_digest 11 = .ok (.ladd, 1) := by decide +kernel
theorem dX6_digest_12 : decode cX6_digest 12 = .ok (.lstore_n 1, 1) := by decide +kernel
theorem dX6_digest_13 : decode cX6_digest 13 = .ok (.iconst 0, 1) := by decide +kernel
theorem dX6_digest_14 : decode cX6_digest 14 = .ok (.istore_n 3, 1) := by decide +kernel
theorem dX6_digest_15 : decode cX6_digest 15 = .ok (.iload_n 3, 1) := by decide +kernel
theorem dX6_digest_16 : decode cX6_digest 16 = .ok (.bipush 14, 2) := by decide +kernel
theorem dX6_digest_18 : decode cX6_digest 18 = .ok (.if_icmp .ge 22, 3) := by decide +kernel
theorem dX6_digest_21 : decode cX6_digest 21 = .ok (.ldc2_w 176, 3) := by decide +kernel
theorem dX6_digest_24 : decode cX6_digest 24 = .ok (.lload_n 1, 1) := by decide +kernel
theorem dX6_digest_25 : decode cX6_digest 25 = .ok (.lmul, 1) := by decide +kernel
theorem dX6_digest_26 : decode cX6_digest 26 = .ok (.aload_n 0, 1) := by decide +kernel
theorem dX6_digest_27 : decode cX6_digest 27 = .ok (.iload_n 3, 1) := by decide +kernel
theorem dX6_digest_28 : decode cX6_digest 28 = .ok (.invokevirtual 117, 3) := by decide +kernel
theorem dX6_digest_31 : decode cX6_digest 31 = .ok (.i2l, 1) := by decide +kernel
theorem dX6_digest_32 : decode cX6_digest 32 = .ok (.ladd, 1) := by decide +kernel
theorem dX6_digest_33 : decode cX6_digest 33 = .ok (.lstore_n 1, 1) := by decide +kernel
theorem dX6_digest_34 : decode cX6_digest 34 = .ok (.iinc 3 1, 3) := by decide +kernel
theorem dX6_digest_37 : decode cX6_digest 37 = .ok (.goto (-22), 3) := by decide +kernel
theorem dX6_digest_40 : decode cX6_digest 40 = .ok (.aload_n 0, 1) := by decide +kernel
theorem dX6_digest_41 : decode cX6_digest 41 = .ok (.lload_n 1, 1) := by decide +kernel
theorem dX6_digest_42 : decode cX6_digest 42 = .ok (.invokevirtual 178, 3) := by decide +kernel
theorem dX6_digest_45 : decode cX6_digest 45 = .ok (.lstore_n 1, 1) := by decide +kernel
theorem dX6_digest_46 : decode cX6_digest 46 = .ok (.aload_n 0, 1) := by decide +kernel
theorem dX6_digest_47 : decode cX6_digest 47 = .ok (.lload_n 1, 1) := by decide +kernel
theorem dX6_digest_48 : decode cX6_digest 48 = .ok (.invokevirtual 182, 3) := by decide +kernel
theorem dX6_digest_51 : decode cX6_digest 51 = .ok (.lstore_n 1, 1) := by decide +kernel
theorem dX6_digest_52 : decode cX6_digest 52 = .ok (.ldc2_w 176, 3) := by decide +kernel
theorem dX6_digest_55 : decode cX6_digest 55 = .ok (.lload_n 1, 1) := by decide +kernel
theorem dX6_digest_56 : decode cX6_digest 56 = .ok (.lmul, 1) := by decide +kernel
theorem dX6_digest_57 : decode cX6_digest 57 = .ok (.aload_n 0, 1) := by decide +kernel
theorem dX6_digest_58 : decode cX6_digest 58 = .ok (.getfield 10, 3) := by decide +kernel
theorem dX6_digest_61 : decode cX6_digest 61 = .ok (.invokevirtual 139, 3) := by decide +kernel
theorem dX6_digest_64 : decode cX6_digest 64 = .ok (.i2l, 1) := by decide +kernel
theorem dX6_digest_65 : decode cX6_digest 65 = .ok (.ladd, 1) := by decide +kernel
theorem dX6_digest_66 : decode cX6_digest 66 = .ok (.lreturn, 1) := by decide +kernel
theorem dX6_digestMembers_0 : decode cX6_digestMembers 0 = .ok (.lload_n 1, 1) := by decide +kernel
theorem dX6_digestMembers_1 : decode cX6_digestMembers 1 = .ok (.lstore_n 3, 1) := by decide +kernel
theorem dX6_digestMembers_2 : decode cX6_digestMembers 2 = .ok (.iconst 0, 1) := by decide +kernel
theorem dX6_digestMembers_3 : decode cX6_digestMembers 3 = .ok (.istore 5, 2) := by decide +kernel
theorem dX6_digestMembers_5 : decode cX6_digestMembers 5 = .ok (.iload 5, 2) := by decide +kernel
theorem dX6_digestMembers_7 : decode cX6_digestMembers 7 = .ok (.aload_n 0, 1) := by decide +kernel
theorem dX6_digestMembers_8 : decode cX6_digestMembers 8 = .ok (.getfield 10, 3) := by decide +kernel
theorem dX6_digestMembers_11 : decode cX6_digestMembers 11 = .ok (.getfield 185, 3) := by decide +kernel
theorem dX6_digestMembers_14 : decode cX6_digestMembers 14 = .ok (.if_icmp .ge 64, 3) := by decide +kernel
theorem dX6_digestMembers_17 : decode cX6_digestMembers 17 = .ok (.ldc2_w 176, 3) := by decide +kernel
theorem dX6_digestMembers_20 : decode cX6_digestMembers 20 = .ok (.lload_n 3, 1) := by decide +kernel
theorem dX6_digestMembers_21 : decode cX6_digestMembers 21 = .ok (.lmul, 1) := by decide +kernel
theorem dX6_digestMembers_22 : decode cX6_digestMembers 22 = .ok (.aload_n 0, 1) := by decide +kernel
theorem dX6_digestMembers_23 : decode cX6_digestMembers 23 = .ok (.getfield 10, 3) := by decide +kernel
theorem dX6_digestMembers_26 : decode cX6_digestMembers 26 = .ok (.iload 5, 2) := by decide +kernel
theorem dX6_digestMembers_28 : decode cX6_digestMembers 28 = .ok (.invokevirtual 101, 3) := by decide +kernel
theorem dX6_digestMembers_31 : decode cX6_digestMembers 31 = .ok (.getfield 105, 3) := by decide +kernel
theorem dX6_digestMembers_34 : decode cX6_digestMembers 34 = .ok (.i2l, 1) := by decide +kernel
theorem dX6_digestMembers_35 : decode cX6_digestMembers 35 = .ok (.ladd, 1) := by decide +kernel
theorem dX6_digestMembers_36 : decode cX6_digestMembers 36 = .ok (.lstore_n 3, 1) := by decide +kernel
theorem dX6_digestMembers_37 : decode cX6_digestMembers 37 = .ok (.iconst 0, 1) := by decide +kernel
theorem dX6_digestMembers_38 : decode cX6_digestMembers 38 = .ok (.istore 6, 2) := by decide +kernel
theorem dX6_digestMembers_40 : decode cX6_digestMembers 40 = .ok (.iload 6, 2) := by decide +kernel
theorem dX6_digestMembers_42 : decode cX6_digestMembers 42 = .ok (.bipush 10, 2) := by decide +kernel
theorem dX6_digestMembers_44 : decode cX6_digestMembers 44 = .ok (.if_icmp .ge 28, 3) := by decide +kernel
theorem dX6_digestMembers_47 : decode cX6_digestMembers 47 = .ok (.ldc2_w 176, 3) := by decide +kernel
theorem dX6_digestMembers_50 : decode cX6_digestMembers 50 = .ok (.lload_n 3, 1) := by decide +kernel
theorem dX6_digestMembers_51 : decode cX6_digestMembers 51 = .ok (.lmul, 1) := by decide +kernel
theorem dX6_digestMembers_52 : decode cX6_digestMembers 52 = .ok (.aload_n 0, 1) := by decide +kernel
theorem dX6_digestMembers_53 : decode cX6_digestMembers 53 = .ok (.getfield 10, 3) := by decide +kernel
theorem dX6_digestMembers_56 : decode cX6_digestMembers 56 = .ok (.iload 5, 2) := by decide +kernel
theorem dX6_digestMembers_58 : decode cX6_digestMembers 58 = .ok (.iload 6, 2) := by decide +kernel
theorem dX6_digestMembers_60 : decode cX6_digestMembers 60 = .ok (.invokevirtual 97, 3) := by decide +kernel
theorem dX6_digestMembers_63 : decode cX6_digestMembers 63 = .ok (.i2l, 1) := by decide +kernel
theorem dX6_digestMembers_64 : decode cX6_digestMembers 64 = .ok (.ladd, 1) := by decide +kernel
theorem dX6_digestMembers_65 : decode cX6_digestMembers 65 = .ok (.lstore_n 3, 1) := by decide +kernel
theorem dX6_digestMembers_66 : decode cX6_digestMembers 66 = .ok (.iinc 6 1, 3) := by decide +kernel
theorem dX6_digestMembers_69 : decode cX6_digestMembers 69 = .ok (.goto (-29), 3) := by decide +kernel
theorem dX6_digestMembers_72 : decode cX6_digestMembers 72 = .ok (.iinc 5 1, 3) := by decide +kernel
theorem dX6_digestMembers_75 : decode cX6_digestMembers 75 = .ok (.goto (-70), 3) := by decide +kernel
theorem dX6_digestMembers_78 : decode cX6_digestMembers 78 = .ok (.lload_n 3, 1) := by decide +kernel
theorem dX6_digestMembers_79 : decode cX6_digestMembers 79 = .ok (.lreturn, 1) := by decide +kernel
theorem dX6_digestPairs_0 : decode cX6_digestPairs 0 = .ok (.lload_n 1, 1) := by decide +kernel
theorem dX6_digestPairs_1 : decode cX6_digestPairs 1 = .ok (.lstore_n 3, 1) := by decide +kernel
theorem dX6_digestPairs_2 : decode cX6_digestPairs 2 = .ok (.iconst 0, 1) := by decide +kernel
theorem dX6_digestPairs_3 : decode cX6_digestPairs 3 = .ok (.istore 5, 2) := by decide +kernel
theorem dX6_digestPairs_5 : decode cX6_digestPairs 5 = .ok (.iload 5, 2) := by decide +kernel
theorem dX6_digestPairs_7 : decode cX6_digestPairs 7 = .ok (.aload_n 0, 1) := by decide +kernel
theorem dX6_digestPairs_8 : decode cX6_digestPairs 8 = .ok (.getfield 10, 3) := by decide +kernel
theorem dX6_digestPairs_11 : decode cX6_digestPairs 11 = .ok (.getfield 185, 3) := by decide +kernel
theorem dX6_digestPairs_14 : decode cX6_digestPairs 14 = .ok (.iconst 1, 1) := by decide +kernel
theorem dX6_digestPairs_15 : decode cX6_digestPairs 15 = .ok (.isub, 1) := by decide +kernel
theorem dX6_digestPairs_16 : decode cX6_digestPairs 16 = .ok (.if_icmp .ge 60, 3) := by decide +kernel
theorem dX6_digestPairs_19 : decode cX6_digestPairs 19 = .ok (.iconst 0, 1) := by decide +kernel
theorem dX6_digestPairs_20 : decode cX6_digestPairs 20 = .ok (.istore 6, 2) := by decide +kernel
theorem dX6_digestPairs_22 : decode cX6_digestPairs 22 = .ok (.iload 6, 2) := by decide +kernel
theorem dX6_digestPairs_24 : decode cX6_digestPairs 24 = .ok (.iconst 5, 1) := by decide +kernel
theorem dX6_digestPairs_25 : decode cX6_digestPairs 25 = .ok (.if_icmp .ge 28, 3) := by decide +kernel
theorem dX6_digestPairs_28 : decode cX6_digestPairs 28 = .ok (.ldc2_w 176, 3) := by decide +kernel
theorem dX6_digestPairs_31 : decode cX6_digestPairs 31 = .ok (.lload_n 3, 1) := by decide +kernel
theorem dX6_digestPairs_32 : decode cX6_digestPairs 32 = .ok (.lmul, 1) := by decide +kernel
theorem dX6_digestPairs_33 : decode cX6_digestPairs 33 = .ok (.aload_n 0, 1) := by decide +kernel
theorem dX6_digestPairs_34 : decode cX6_digestPairs 34 = .ok (.getfield 10, 3) := by decide +kernel
theorem dX6_digestPairs_37 : decode cX6_digestPairs 37 = .ok (.iload 5, 2) := by decide +kernel
theorem dX6_digestPairs_39 : decode cX6_digestPairs 39 = .ok (.iload 6, 2) := by decide +kernel
theorem dX6_digestPairs_41 : decode cX6_digestPairs 41 = .ok (.invokevirtual 114, 3) := by decide +kernel
theorem dX6_digestPairs_44 : decode cX6_digestPairs 44 = .ok (.i2l, 1) := by decide +kernel
theorem dX6_digestPairs_45 : decode cX6_digestPairs 45 = .ok (.ladd, 1) := by decide +kernel
theorem dX6_digestPairs_46 : decode cX6_digestPairs 46 = .ok (.lstore_n 3, 1) := by decide +kernel
theorem dX6_digestPairs_47 : decode cX6_digestPairs 47 = .ok (.iinc 6 1, 3) := by decide +kernel
theorem dX6_digestPairs_50 : decode cX6_digestPairs 50 = .ok (.goto (-28), 3) := by decide +kernel
theorem dX6_digestPairs_53 : decode cX6_digestPairs 53 = .ok (.ldc2_w 176, 3) := by decide +kernel
theorem dX6_digestPairs_56 : decode cX6_digestPairs 56 = .ok (.lload_n 3, 1) := by decide +kernel
theorem dX6_digestPairs_57 : decode cX6_digestPairs 57 = .ok (.lmul, 1) := by decide +kernel
theorem dX6_digestPairs_58 : decode cX6_digestPairs 58 = .ok (.aload_n 0, 1) := by decide +kernel
theorem dX6_digestPairs_59 : decode cX6_digestPairs 59 = .ok (.getfield 10, 3) := by decide +kernel
theorem dX6_digestPairs_62 : decode cX6_digestPairs 62 = .ok (.iload 5, 2) := by decide +kernel
theorem dX6_digestPairs_64 : decode cX6_digestPairs 64 = .ok (.invokevirtual 120, 3) := by decide +kernel
theorem dX6_digestPairs_67 : decode cX6_digestPairs 67 = .ok (.i2l, 1) := by decide +kernel
theorem dX6_digestPairs_68 : decode cX6_digestPairs 68 = .ok (.ladd, 1) := by decide +kernel
theorem dX6_digestPairs_69 : decode cX6_digestPairs 69 = .ok (.lstore_n 3, 1) := by decide +kernel
theorem dX6_digestPairs_70 : decode cX6_digestPairs 70 = .ok (.iinc 5 1, 3) := by decide +kernel
theorem dX6_digestPairs_73 : decode cX6_digestPairs 73 = .ok (.goto (-68), 3) := by decide +kernel
theorem dX6_digestPairs_76 : decode cX6_digestPairs 76 = .ok (.lload_n 3, 1) := by decide +kernel
theorem dX6_digestPairs_77 : decode cX6_digestPairs 77 = .ok (.lreturn, 1) := by decide +kernel
theorem dX6_wholeValue_0 : decode cX6_wholeValue 0 = .ok (.iload_n 1, 1) := by decide +kernel
theorem dX6_wholeValue_1 : decode cX6_wholeValue 1 = .ok (.bipush 13, 2) := by decide +kernel
theorem dX6_wholeValue_3 : decode cX6_wholeValue 3 = .ok (.if_icmp .ne 13, 3) := by decide +kernel
theorem dX6_wholeValue_6 : decode cX6_wholeValue 6 = .ok (.aload_n 0, 1) := by decide +kernel
theorem dX6_wholeValue_7 : decode cX6_wholeValue 7 = .ok (.getfield 29, 3) := by decide +kernel
theorem dX6_wholeValue_10 : decode cX6_wholeValue 10 = .ok (.getfield 142, 3) := by decide +kernel
theorem dX6_wholeValue_13 : decode cX6_wholeValue 13 = .ok (.goto 11, 3) := by decide +kernel
theorem dX6_wholeValue_16 : decode cX6_wholeValue 16 = .ok (.aload_n 0, 1) := by decide +kernel
theorem dX6_wholeValue_17 : decode cX6_wholeValue 17 = .ok (.getfield 10, 3) := by decide +kernel
theorem dX6_wholeValue_20 : decode cX6_wholeValue 20 = .ok (.iload_n 1, 1) := by decide +kernel
theorem dX6_wholeValue_21 : decode cX6_wholeValue 21 = .ok (.invokevirtual 188, 3) := by decide +kernel
theorem dX6_wholeValue_24 : decode cX6_wholeValue 24 = .ok (.ireturn, 1) := by decide +kernel
theorem dX6_profitAt_0 : decode cX6_profitAt 0 = .ok (.aload_n 0, 1) := by decide +kernel
theorem dX6_profitAt_1 : decode cX6_profitAt 1 = .ok (.getfield 10, 3) := by decide +kernel
theorem dX6_profitAt_4 : decode cX6_profitAt 4 = .ok (.iload_n 1, 1) := by decide +kernel
theorem dX6_profitAt_5 : decode cX6_profitAt 5 = .ok (.invokevirtual 101, 3) := by decide +kernel
theorem dX6_profitAt_8 : decode cX6_profitAt 8 = .ok (.astore_n 3, 1) := by decide +kernel
theorem dX6_profitAt_9 : decode cX6_profitAt 9 = .ok (.aload_n 0, 1) := by decide +kernel
theorem dX6_profitAt_10 : decode cX6_profitAt 10 = .ok (.getfield 16, 3) := by decide +kernel
theorem dX6_profitAt_13 : decode cX6_profitAt 13 = .ok (.aload_n 0, 1) := by decide +kernel
theorem dX6_profitAt_14 : decode cX6_profitAt 14 = .ok (.getfield 10, 3) := by decide +kernel
theorem dX6_profitAt_17 : decode cX6_profitAt 17 = .ok (.invokevirtual 123, 3) := by decide +kernel
theorem dX6_profitAt_20 : decode cX6_profitAt 20 = .ok (.aload_n 0, 1) := by decide +kernel
theorem dX6_profitAt_21 : decode cX6_profitAt 21 = .ok (.getfield 16, 3) := by decide +kernel
theorem dX6_profitAt_24 : decode cX6_profitAt 24 = .ok (.iload_n 1, 1) := by decide +kernel
theorem dX6_profitAt_25 : decode cX6_profitAt 25 = .ok (.invokevirtual 101, 3) := by decide +kernel
theorem dX6_profitAt_28 : decode cX6_profitAt 28 = .ok (.iload_n 2, 1) := by decide +kernel
theorem dX6_profitAt_29 : decode cX6_profitAt 29 = .ok (.putfield 189, 3) := by decide +kernel
theorem dX6_profitAt_32 : decode cX6_profitAt 32 = .ok (.aload_n 0, 1) := by decide +kernel
theorem dX6_profitAt_33 : decode cX6_profitAt 33 = .ok (.getfield 16, 3) := by decide +kernel
theorem dX6_profitAt_36 : decode cX6_profitAt 36 = .ok (.invokevirtual 126, 3) := by decide +kernel
theorem dX6_profitAt_39 : decode cX6_profitAt 39 = .ok (.pop, 1) := by decide +kernel
theorem dX6_profitAt_40 : decode cX6_profitAt 40 = .ok (.aload_n 0, 1) := by decide +kernel
theorem dX6_profitAt_41 : decode cX6_profitAt 41 = .ok (.getfield 16, 3) := by decide +kernel
theorem dX6_profitAt_44 : decode cX6_profitAt 44 = .ok (.aload_n 3, 1) := by decide +kernel
theorem dX6_profitAt_45 : decode cX6_profitAt 45 = .ok (.getfield 105, 3) := by decide +kernel
theorem dX6_profitAt_48 : decode cX6_profitAt 48 = .ok (.invokevirtual 89, 3) := by decide +kernel
theorem dX6_profitAt_51 : decode cX6_profitAt 51 = .ok (.istore 4, 2) := by decide +kernel
theorem dX6_profitAt_53 : decode cX6_profitAt 53 = .ok (.aload_n 0, 1) := by decide +kernel
theorem dX6_profitAt_54 : decode cX6_profitAt 54 = .ok (.getfield 10, 3) := by decide +kernel
theorem dX6_profitAt_57 : decode cX6_profitAt 57 = .ok (.iload_n 1, 1) := by decide +kernel
theorem dX6_profitAt_58 : decode cX6_profitAt 58 = .ok (.invokevirtual 192, 3) := by decide +kernel
theorem dX6_profitAt_61 : decode cX6_profitAt 61 = .ok (.aload_n 0, 1) := by decide +kernel
theorem dX6_profitAt_62 : decode cX6_profitAt 62 = .ok (.getfield 16, 3) := by decide +kernel
theorem dX6_profitAt_65 : decode cX6_profitAt 65 = .ok (.iload 4, 2) := by decide +kernel
theorem dX6_profitAt_67 : decode cX6_profitAt 67 = .ok (.invokevirtual 192, 3) := by decide +kernel
theorem dX6_profitAt_70 : decode cX6_profitAt 70 = .ok (.isub, 1) := by decide +kernel
theorem dX6_profitAt_71 : decode cX6_profitAt 71 = .ok (.istore 5, 2) := by decide +kernel
theorem dX6_profitAt_73 : decode cX6_profitAt 73 = .ok (.iload 5, 2) := by decide +kernel
theorem dX6_profitAt_75 : decode cX6_profitAt 75 = .ok (.aload_n 0, 1) := by decide +kernel
theorem dX6_profitAt_76 : decode cX6_profitAt 76 = .ok (.getfield 16, 3) := by decide +kernel
theorem dX6_profitAt_79 : decode cX6_profitAt 79 = .ok (.iload 4, 2) := by decide +kernel
theorem dX6_profitAt_81 : decode cX6_profitAt 81 = .ok (.invokevirtual 101, 3) := by decide +kernel
theorem dX6_profitAt_84 : decode cX6_profitAt 84 = .ok (.getfield 195, 3) := by decide +kernel
theorem dX6_profitAt_87 : decode cX6_profitAt 87 = .ok (.iadd, 1) := by decide +kernel
theorem dX6_profitAt_88 : decode cX6_profitAt 88 = .ok (.aload_n 3, 1) := by decide +kernel
theorem dX6_profitAt_89 : decode cX6_profitAt 89 = .ok (.getfield 195, 3) := by decide +kernel
theorem dX6_profitAt_92 : decode cX6_profitAt 92 = .ok (.isub, 1) := by decide +kernel
theorem dX6_profitAt_93 : decode cX6_profitAt 93 = .ok (.ireturn, 1) := by decide +kernel
theorem dX6_perform_0 : decode cX6_perform 0 = .ok (.aload_n 0, 1) := by decide +kernel
theorem dX6_perform_1 : decode cX6_perform 1 = .ok (.aload_n 1, 1) := by decide +kernel
theorem dX6_perform_2 : decode cX6_perform 2 = .ok (.iload_n 2, 1) := by decide +kernel
theorem dX6_perform_3 : decode cX6_perform 3 = .ok (.iload_n 3, 1) := by decide +kernel
theorem dX6_perform_4 : decode cX6_perform 4 = .ok (.iload 4, 2) := by decide +kernel
theorem dX6_perform_6 : decode cX6_perform 6 = .ok (.invokevirtual 198, 3) := by decide +kernel
theorem dX6_perform_9 : decode cX6_perform 9 = .ok (.invokestatic 59, 3) := by decide +kernel
theorem dX6_perform_12 : decode cX6_perform 12 = .ok (.aload_n 0, 1) := by decide +kernel
theorem dX6_perform_13 : decode cX6_perform 13 = .ok (.getfield 22, 3) := by decide +kernel
theorem dX6_perform_16 : decode cX6_perform 16 = .ok (.aload_n 0, 1) := by decide +kernel
theorem dX6_perform_17 : decode cX6_perform 17 = .ok (.getfield 10, 3) := by decide +kernel
theorem dX6_perform_20 : decode cX6_perform 20 = .ok (.invokevirtual 63, 3) := by decide +kernel
theorem dX6_perform_23 : decode cX6_perform 23 = .ok (.aload_n 0, 1) := by decide +kernel
theorem dX6_perform_24 : decode cX6_perform 24 = .ok (.aload_n 1, 1) := by decide +kernel
theorem dX6_perform_25 : decode cX6_perform 25 = .ok (.iload_n 2, 1) := by decide +kernel
theorem dX6_perform_26 : decode cX6_perform 26 = .ok (.iload_n 3, 1) := by decide +kernel
theorem dX6_perform_27 : decode cX6_perform 27 = .ok (.iload 4, 2) := by decide +kernel
theorem dX6_perform_29 : decode cX6_perform 29 = .ok (.invokevirtual 201, 3) := by decide +kernel
theorem dX6_perform_32 : decode cX6_perform 32 = .ok (.ireturn, 1) := by decide +kernel
theorem dX6_carryOutRead_0 : decode cX6_carryOutRead 0 = .ok (.aload_n 1, 1) := by decide +kernel
theorem dX6_carryOutRead_1 : decode cX6_carryOutRead 1 = .ok (.ifnonnull 5, 3) := by decide +kernel
theorem dX6_carryOutRead_4 : decode cX6_carryOutRead 4 = .ok (.iconst 0, 1) := by decide +kernel
theorem dX6_carryOutRead_5 : decode cX6_carryOutRead 5 = .ok (.ireturn, 1) := by decide +kernel
theorem dX6_carryOutRead_6 : decode cX6_carryOutRead 6 = .ok (.aload_n 0, 1) := by decide +kernel
theorem dX6_carryOutRead_7 : decode cX6_carryOutRead 7 = .ok (.getfield 29, 3) := by decide +kernel
theorem dX6_carryOutRead_10 : decode cX6_carryOutRead 10 = .ok (.iconst 0, 1) := by decide +kernel
theorem dX6_carryOutRead_11 : decode cX6_carryOutRead 11 = .ok (.invokevirtual 204, 3) := by decide +kernel
theorem dX6_carryOutRead_14 : decode cX6_carryOutRead 14 = .ok (.istore_n 2, 1) := by decide +kernel
theorem dX6_carryOutRead_15 : decode cX6_carryOutRead 15 = .ok (.aload_n 0, 1) := by decide +kernel
theorem dX6_carryOutRead_16 : decode cX6_carryOutRead 16 = .ok (.getfield 29, 3) := by decide +kernel
theorem dX6_carryOutRead_19 : decode cX6_carryOutRead 19 = .ok (.iconst 1, 1) := by decide +kernel
theorem dX6_carryOutRead_20 : decode cX6_carryOutRead 20 = .ok (.invokevirtual 204, 3) := by decide +kernel
theorem dX6_carryOutRead_23 : decode cX6_carryOutRead 23 = .ok (.istore_n 3, 1) := by decide +kernel
theorem dX6_carryOutRead_24 : decode cX6_carryOutRead 24 = .ok (.aload_n 0, 1) := by decide +kernel
theorem dX6_carryOutRead_25 : decode cX6_carryOutRead 25 = .ok (.getfield 29, 3) := by decide +kernel
theorem dX6_carryOutRead_28 : decode cX6_carryOutRead 28 = .ok (.iconst 2, 1) := by decide +kernel
theorem dX6_carryOutRead_29 : decode cX6_carryOutRead 29 = .ok (.invokevirtual 204, 3) := by decide +kernel
theorem dX6_carryOutRead_32 : decode cX6_carryOutRead 32 = .ok (.istore 4, 2) := by decide +kernel
theorem dX6_carryOutRead_34 : decode cX6_carryOutRead 34 = .ok (.aload_n 0, 1) := by decide +kernel
theorem dX6_carryOutRead_35 : decode cX6_carryOutRead 35 = .ok (.aload_n 1, 1) := by decide +kernel
theorem dX6_carryOutRead_36 : decode cX6_carryOutRead 36 = .ok (.iload_n 2, 1) := by decide +kernel
theorem dX6_carryOutRead_37 : decode cX6_carryOutRead 37 = .ok (.iload_n 3, 1) := by decide +kernel
theorem dX6_carryOutRead_38 : decode cX6_carryOutRead 38 = .ok (.iload 4, 2) := by decide +kernel
theorem dX6_carryOutRead_40 : decode cX6_carryOutRead 40 = .ok (.invokevirtual 198, 3) := by decide +kernel
theorem dX6_carryOutRead_43 : decode cX6_carryOutRead 43 = .ok (.ifCond .eq 5, 3) := by decide +kernel
theorem dX6_carryOutRead_46 : decode cX6_carryOutRead 46 = .ok (.iconst 0, 1) := by decide +kernel
theorem dX6_carryOutRead_47 : decode cX6_carryOutRead 47 = .ok (.ireturn, 1) := by decide +kernel
theorem dX6_carryOutRead_48 : decode cX6_carryOutRead 48 = .ok (.aload_n 0, 1) := by decide +kernel
theorem dX6_carryOutRead_49 : decode cX6_carryOutRead 49 = .ok (.aload_n 1, 1) := by decide +kernel
theorem dX6_carryOutRead_50 : decode cX6_carryOutRead 50 = .ok (.iload_n 2, 1) := by decide +kernel
theorem dX6_carryOutRead_51 : decode cX6_carryOutRead 51 = .ok (.iload_n 3, 1) := by decide +kernel
theorem dX6_carryOutRead_52 : decode cX6_carryOutRead 52 = .ok (.iload 4, 2) := by decide +kernel
theorem dX6_carryOutRead_54 : decode cX6_carryOutRead 54 = .ok (.invokevirtual 201, 3) := by decide +kernel
theorem dX6_carryOutRead_57 : decode cX6_carryOutRead 57 = .ok (.pop, 1) := by decide +kernel
theorem dX6_carryOutRead_58 : decode cX6_carryOutRead 58 = .ok (.iconst 1, 1) := by decide +kernel
theorem dX6_carryOutRead_59 : decode cX6_carryOutRead 59 = .ok (.ireturn, 1) := by decide +kernel
theorem dX6_faultOf_0 : decode cX6_faultOf 0 = .ok (.getstatic 206, 3) := by decide +kernel
theorem dX6_faultOf_3 : decode cX6_faultOf 3 = .ok (.aload_n 1, 1) := by decide +kernel
theorem dX6_faultOf_4 : decode cX6_faultOf 4 = .ok (.invokevirtual 212, 3) := by decide +kernel
theorem dX6_faultOf_7 : decode cX6_faultOf 7 = .ok (.iaload, 1) := by decide +kernel
theorem dX6_faultOf_8 : decode cX6_faultOf 8 = .ok (.tableswitch 209 1 10 #[56, 70, 79, 93, 113, 127, 140, 155, 178, 193], 56) := by decide +kernel
theorem dX6_faultOf_64 : decode cX6_faultOf 64 = .ok (.aload_n 0, 1) := by decide +kernel
theorem dX6_faultOf_65 : decode cX6_faultOf 65 = .ok (.iload_n 2, 1) := by decide +kernel
theorem dX6_faultOf_66 : decode cX6_faultOf 66 = .ok (.iload_n 3, 1) := by decide +kernel
theorem dX6_faultOf_67 : decode cX6_faultOf 67 = .ok (.aload_n 0, 1) := by decide +kernel
theorem dX6_faultOf_68 : decode cX6_faultOf 68 = .ok (.getfield 10, 3) := by decide +kernel
theorem dX6_faultOf_71 : decode cX6_faultOf 71 = .ok (.getfield 185, 3) := by decide +kernel
theorem dX6_faultOf_74 : decode cX6_faultOf 74 = .ok (.invokevirtual 215, 3) := by decide +kernel
theorem dX6_faultOf_77 : decode cX6_faultOf 77 = .ok (.ireturn, 1) := by decide +kernel
theorem dX6_faultOf_78 : decode cX6_faultOf 78 = .ok (.aload_n 0, 1) := by decide +kernel
theorem dX6_faultOf_79 : decode cX6_faultOf 79 = .ok (.iload_n 2, 1) := by decide +kernel
theorem dX6_faultOf_80 : decode cX6_faultOf 80 = .ok (.iload_n 3, 1) := by decide +kernel
theorem dX6_faultOf_81 : decode cX6_faultOf 81 = .ok (.iload 4, 2) := by decide +kernel
theorem dX6_faultOf_83 : decode cX6_faultOf 83 = .ok (.invokevirtual 215, 3) := by decide +kernel
theorem dX6_faultOf_86 : decode cX6_faultOf 86 = .ok (.ireturn, 1) := by decide +kernel
theorem dX6_faultOf_87 : decode cX6_faultOf 87 = .ok (.aload_n 0, 1) := by decide +kernel
theorem dX6_faultOf_88 : decode cX6_faultOf 88 = .ok (.aload_n 0, 1) := by decide +kernel
theorem dX6_faultOf_89 : decode cX6_faultOf 89 = .ok (.getfield 10, 3) := by decide +kernel
theorem dX6_faultOf_92 : decode cX6_faultOf 92 = .ok (.iload_n 2, 1) := by decide +kernel
theorem dX6_faultOf_93 : decode cX6_faultOf 93 = .ok (.invokevirtual 89, 3) := by decide +kernel
theorem dX6_faultOf_96 : decode cX6_faultOf 96 = .ok (.iconst 1, 1) := by decide +kernel
theorem dX6_faultOf_97 : decode cX6_faultOf 97 = .ok (.invokevirtual 93, 3) := by decide +kernel
theorem dX6_faultOf_100 : decode cX6_faultOf 100 = .ok (.ireturn, 1) := by decide +kernel
theorem dX6_faultOf_101 : decode cX6_faultOf 101 = .ok (.aload_n 0, 1) := by decide +kernel
theorem dX6_faultOf_102 : decode cX6_faultOf 102 = .ok (.aload_n 0, 1) := by decide +kernel
theorem dX6_faultOf_103 : decode cX6_faultOf 103 = .ok (.getfield 10, 3) := by decide +kernel
theorem dX6_faultOf_106 : decode cX6_faultOf 106 = .ok (.iload_n 2, 1) := by decide +kernel
theorem dX6_faultOf_107 : decode cX6_faultOf 107 = .ok (.invokevirtual 89, 3) := by decide +kernel
theorem dX6_faultOf_110 : decode cX6_faultOf 110 = .ok (.iload_n 3, 1) := by decide +kernel
theorem dX6_faultOf_111 : decode cX6_faultOf 111 = .ok (.iconst 0, 1) := by decide +kernel
theorem dX6_faultOf_112 : decode cX6_faultOf 112 = .ok (.bipush 99, 2) := by decide +kernel
theorem dX6_faultOf_114 : decode cX6_faultOf 114 = .ok (.invokestatic 55, 3) := by decide +kernel
theorem dX6_faultOf_117 : decode cX6_faultOf 117 = .ok (.invokevirtual 93, 3) := by decide +kernel
theorem dX6_faultOf_120 : decode cX6_faultOf 120 = .ok (.ireturn, 1) := by decide +kernel
theorem dX6_faultOf_121 : decode cX6_faultOf 121 = .ok (.aload_n 0, 1) := by decide +kernel
theorem dX6_faultOf_122 : decode cX6_faultOf 122 = .ok (.aload_n 0, 1) := by decide +kernel
theorem dX6_faultOf_123 : decode cX6_faultOf 123 = .ok (.getfield 10, 3) := by decide +kernel
theorem dX6_faultOf_126 : decode cX6_faultOf 126 = .ok (.iload_n 2, 1) := by decide +kernel
theorem dX6_faultOf_127 : decode cX6_faultOf 127 = .ok (.invokevirtual 89, 3) := by decide +kernel
theorem dX6_faultOf_130 : decode cX6_faultOf 130 = .ok (.iload_n 3, 1) := by decide +kernel
theorem dX6_faultOf_131 : decode cX6_faultOf 131 = .ok (.invokevirtual 219, 3) := by decide +kernel
theorem dX6_faultOf_134 : decode cX6_faultOf 134 = .ok (.ireturn, 1) := by decide +kernel
theorem dX6_faultOf_135 : decode cX6_faultOf 135 = .ok (.aload_n 0, 1) := by decide +kernel
theorem dX6_faultOf_136 : decode cX6_faultOf 136 = .ok (.aload_n 0, 1) := by decide +kernel
theorem dX6_faultOf_137 : decode cX6_faultOf 137 = .ok (.getfield 10, 3) := by decide +kernel
theorem dX6_faultOf_140 : decode cX6_faultOf 140 = .ok (.iload_n 2, 1) := by decide +kernel
theorem dX6_faultOf_141 : decode cX6_faultOf 141 = .ok (.invokevirtual 89, 3) := by decide +kernel
theorem dX6_faultOf_144 : decode cX6_faultOf 144 = .ok (.invokevirtual 222, 3) := by decide +kernel
theorem dX6_faultOf_147 : decode cX6_faultOf 147 = .ok (.ireturn, 1) := by decide +kernel
theorem dX6_faultOf_148 : decode cX6_faultOf 148 = .ok (.aload_n 0, 1) := by decide +kernel
theorem dX6_faultOf_149 : decode cX6_faultOf 149 = .ok (.iload_n 2, 1) := by decide +kernel
theorem dX6_faultOf_150 : decode cX6_faultOf 150 = .ok (.aload_n 0, 1) := by decide +kernel
theorem dX6_faultOf_151 : decode cX6_faultOf 151 = .ok (.getfield 10, 3) := by decide +kernel
theorem dX6_faultOf_154 : decode cX6_faultOf 154 = .ok (.iload_n 2, 1) := by decide +kernel
theorem dX6_faultOf_155 : decode cX6_faultOf 155 = .ok (.invokevirtual 225, 3) := by decide +kernel
theorem dX6_faultOf_158 : decode cX6_faultOf 158 = .ok (.iconst 3, 1) := by decide +kernel
theorem dX6_faultOf_159 : decode cX6_faultOf 159 = .ok (.invokevirtual 110, 3) := by decide +kernel
theorem dX6_faultOf_162 : decode cX6_faultOf 162 = .ok (.ireturn, 1) := by decide +kernel
theorem dX6_faultOf_163 : decode cX6_faultOf 163 = .ok (.aload_n 0, 1) := by decide +kernel
theorem dX6_faultOf_164 : decode cX6_faultOf 164 = .ok (.iload_n 2, 1) := by decide +kernel
theorem dX6_faultOf_165 : decode cX6_faultOf 165 = .ok (.aload_n 0, 1) := by decide +kernel
theorem dX6_faultOf_166 : decode cX6_faultOf 166 = .ok (.getfield 10, 3) := by decide +kernel
theorem dX6_faultOf_169 : decode cX6_faultOf 169 = .ok (.iload_n 2, 1) := by decide +kernel
theorem dX6_faultOf_170 : decode cX6_faultOf 170 = .ok (.invokevirtual 229, 3) := by decide +kernel
theorem dX6_faultOf_173 : decode cX6_faultOf 173 = .ok (.ifCond .ne 7, 3) := by decide +kernel
theorem dX6_faultOf_176 : decode cX6_faultOf 176 = .ok (.iconst 1, 1) := by decide +kernel
theorem dX6_faultOf_177 : decode cX6_faultOf 177 = .ok (.goto 4, 3) := by decide +kernel
theorem dX6_faultOf_180 : decode cX6_faultOf 180 = .ok (.iconst 0, 1) := by decide +kernel
theorem dX6_faultOf_181 : decode cX6_faultOf 181 = .ok (.iconst 3, 1) := by decide +kernel
theorem dX6_faultOf_182 : decode cX6_faultOf 182 = .ok (.invokevirtual 110, 3) := by decide +kernel
theorem dX6_faultOf_185 : decode cX6_faultOf 185 = .ok (.ireturn, 1) := by decide +kernel
theorem dX6_faultOf_186 : decode cX6_faultOf 186 = .ok (.aload_n 0, 1) := by decide +kernel
theorem dX6_faultOf_187 : decode cX6_faultOf 187 = .ok (.iload_n 2, 1) := by decide +kernel
theorem dX6_faultOf_188 : decode cX6_faultOf 188 = .ok (.aload_n 0, 1) := by decide +kernel
theorem dX6_faultOf_189 : decode cX6_faultOf 189 = .ok (.getfield 10, 3) := by decide +kernel
theorem dX6_faultOf_192 : decode cX6_faultOf 192 = .ok (.iload_n 2, 1) := by decide +kernel
theorem dX6_faultOf_193 : decode cX6_faultOf 193 = .ok (.invokevirtual 229, 3) := by decide +kernel
theorem dX6_faultOf_196 : decode cX6_faultOf 196 = .ok (.iconst 3, 1) := by decide +kernel
theorem dX6_faultOf_197 : decode cX6_faultOf 197 = .ok (.invokevirtual 110, 3) := by decide +kernel
theorem dX6_faultOf_200 : decode cX6_faultOf 200 = .ok (.ireturn, 1) := by decide +kernel
theorem dX6_faultOf_201 : decode cX6_faultOf 201 = .ok (.aload_n 0, 1) := by decide +kernel
theorem dX6_faultOf_202 : decode cX6_faultOf 202 = .ok (.getfield 10, 3) := by decide +kernel
theorem dX6_faultOf_205 : decode cX6_faultOf 205 = .ok (.getfield 185, 3) := by decide +kernel
theorem dX6_faultOf_208 : decode cX6_faultOf 208 = .ok (.ifCond .le 7, 3) := by decide +kernel
theorem dX6_faultOf_211 : decode cX6_faultOf 211 = .ok (.iconst 0, 1) := by decide +kernel
theorem dX6_faultOf_212 : decode cX6_faultOf 212 = .ok (.goto 4, 3) := by decide +kernel
theorem dX6_faultOf_215 : decode cX6_faultOf 215 = .ok (.iconst 3, 1) := by decide +kernel
theorem dX6_faultOf_216 : decode cX6_faultOf 216 = .ok (.ireturn, 1) := by decide +kernel
theorem dX6_faultOf_217 : decode cX6_faultOf 217 = .ok (.iconst 0, 1) := by decide +kernel
theorem dX6_faultOf_218 : decode cX6_faultOf 218 = .ok (.ireturn, 1) := by decide +kernel
theorem dX6_carryOut_0 : decode cX6_carryOut 0 = .ok (.getstatic 206, 3) := by decide +kernel
theorem dX6_carryOut_3 : decode cX6_carryOut 3 = .ok (.aload_n 1, 1) := by decide +kernel
theorem dX6_carryOut_4 : decode cX6_carryOut 4 = .ok (.invokevirtual 212, 3) := by decide +kernel
theorem dX6_carryOut_7 : decode cX6_carryOut 7 = .ok (.iaload, 1) := by decide +kernel
theorem dX6_carryOut_8 : decode cX6_carryOut 8 = .ok (.tableswitch 181 1 10 #[56, 73, 85, 94, 111, 128, 144, 153, 163, 173], 56) := by decide +kernel
theorem dX6_carryOut_64 : decode cX6_carryOut 64 = .ok (.aload_n 0, 1) := by decide +kernel
theorem dX6_carryOut_65 : decode cX6_carryOut 65 = .ok (.getfield 10, 3) := by decide +kernel
theorem dX6_carryOut_68 : decode cX6_carryOut 68 = .ok (.iload_n 2, 1) := by decide +kernel
theorem dX6_carryOut_69 : decode cX6_carryOut 69 = .ok (.iload_n 3, 1) := by decide +kernel
theorem dX6_carryOut_70 : decode cX6_carryOut 70 = .ok (.aload_n 0, 1) := by decide +kernel
theorem dX6_carryOut_71 : decode cX6_carryOut 71 = .ok (.getfield 10, 3) := by decide +kernel
theorem dX6_carryOut_74 : decode cX6_carryOut 74 = .ok (.getfield 185, 3) := by decide +kernel
theorem dX6_carryOut_77 : decode cX6_carryOut 77 = .ok (.invokevirtual 232, 3) := by decide +kernel
theorem dX6_carryOut_80 : decode cX6_carryOut 80 = .ok (.ireturn, 1) := by decide +kernel
theorem dX6_carryOut_81 : decode cX6_carryOut 81 = .ok (.aload_n 0, 1) := by decide +kernel
theorem dX6_carryOut_82 : decode cX6_carryOut 82 = .ok (.getfield 10, 3) := by decide +kernel
theorem dX6_carryOut_85 : decode cX6_carryOut 85 = .ok (.iload_n 2, 1) := by decide +kernel
theorem dX6_carryOut_86 : decode cX6_carryOut 86 = .ok (.iload_n 3, 1) := by decide +kernel
theorem dX6_carryOut_87 : decode cX6_carryOut 87 = .ok (.iload 4, 2) := by decide +kernel
theorem dX6_carryOut_89 : decode cX6_carryOut 89 = .ok (.invokevirtual 232, 3) := by decide +kernel
theorem dX6_carryOut_92 : decode cX6_carryOut 92 = .ok (.ireturn, 1) := by decide +kernel
theorem dX6_carryOut_93 : decode cX6_carryOut 93 = .ok (.aload_n 0, 1) := by decide +kernel
theorem dX6_carryOut_94 : decode cX6_carryOut 94 = .ok (.getfield 10, 3) := by decide +kernel
theorem dX6_carryOut_97 : decode cX6_carryOut 97 = .ok (.iload_n 2, 1) := by decide +kernel
theorem dX6_carryOut_98 : decode cX6_carryOut 98 = .ok (.invokevirtual 235, 3) := by decide +kernel
theorem dX6_carryOut_101 : decode cX6_carryOut 101 = .ok (.ireturn, 1) := by decide +kernel
theorem dX6_carryOut_102 : decode cX6_carryOut 102 = .ok (.aload_n 0, 1) := by decide +kernel
theorem dX6_carryOut_103 : decode cX6_carryOut 103 = .ok (.getfield 10, 3) := by decide +kernel
theorem dX6_carryOut_106 : decode cX6_carryOut 106 = .ok (.aload_n 0, 1) := by decide +kernel
theorem dX6_carryOut_107 : decode cX6_carryOut 107 = .ok (.getfield 10, 3) := by decide +kernel
theorem dX6_carryOut_110 : decode cX6_carryOut 110 = .ok (.iload_n 2, 1) := by decide +kernel
theorem dX6_carryOut_111 : decode cX6_carryOut 111 = .ok (.invokevirtual 89, 3) := by decide +kernel
theorem dX6_carryOut_114 : decode cX6_carryOut 114 = .ok (.iload_n 3, 1) := by decide +kernel
theorem dX6_carryOut_115 : decode cX6_carryOut 115 = .ok (.invokevirtual 238, 3) := by decide +kernel
theorem dX6_carryOut_118 : decode cX6_carryOut 118 = .ok (.ireturn, 1) := by decide +kernel
theorem dX6_carryOut_119 : decode cX6_carryOut 119 = .ok (.aload_n 0, 1) := by decide +kernel
theorem dX6_carryOut_120 : decode cX6_carryOut 120 = .ok (.getfield 10, 3) := by decide +kernel
theorem dX6_carryOut_123 : decode cX6_carryOut 123 = .ok (.aload_n 0, 1) := by decide +kernel
theorem dX6_carryOut_124 : decode cX6_carryOut 124 = .ok (.getfield 10, 3) := by decide +kernel
theorem dX6_carryOut_127 : decode cX6_carryOut 127 = .ok (.iload_n 2, 1) := by decide +kernel
theorem dX6_carryOut_128 : decode cX6_carryOut 128 = .ok (.invokevirtual 89, 3) := by decide +kernel
theorem dX6_carryOut_131 : decode cX6_carryOut 131 = .ok (.iload_n 3, 1) := by decide +kernel
theorem dX6_carryOut_132 : decode cX6_carryOut 132 = .ok (.invokevirtual 241, 3) := by decide +kernel
theorem dX6_carryOut_135 : decode cX6_carryOut 135 = .ok (.ireturn, 1) := by decide +kernel
theorem dX6_carryOut_136 : decode cX6_carryOut 136 = .ok (.aload_n 0, 1) := by decide +kernel
theorem dX6_carryOut_137 : decode cX6_carryOut 137 = .ok (.getfield 10, 3) := by decide +kernel
theorem dX6_carryOut_140 : decode cX6_carryOut 140 = .ok (.aload_n 0, 1) := by decide +kernel
theorem dX6_carryOut_141 : decode cX6_carryOut 141 = .ok (.getfield 10, 3) := by decide +kernel
theorem dX6_carryOut_144 : decode cX6_carryOut 144 = .ok (.iload_n 2, 1) := by decide +kernel
theorem dX6_carryOut_145 : decode cX6_carryOut 145 = .ok (.invokevirtual 89, 3) := by decide +kernel
theorem dX6_carryOut_148 : decode cX6_carryOut 148 = .ok (.invokevirtual 244, 3) := by decide +kernel
theorem dX6_carryOut_151 : decode cX6_carryOut 151 = .ok (.ireturn, 1) := by decide +kernel
theorem dX6_carryOut_152 : decode cX6_carryOut 152 = .ok (.aload_n 0, 1) := by decide +kernel
theorem dX6_carryOut_153 : decode cX6_carryOut 153 = .ok (.getfield 10, 3) := by decide +kernel
theorem dX6_carryOut_156 : decode cX6_carryOut 156 = .ok (.iload_n 2, 1) := by decide +kernel
theorem dX6_carryOut_157 : decode cX6_carryOut 157 = .ok (.invokevirtual 247, 3) := by decide +kernel
theorem dX6_carryOut_160 : decode cX6_carryOut 160 = .ok (.ireturn, 1) := by decide +kernel
theorem dX6_carryOut_161 : decode cX6_carryOut 161 = .ok (.aload_n 0, 1) := by decide +kernel
theorem dX6_carryOut_162 : decode cX6_carryOut 162 = .ok (.getfield 10, 3) := by decide +kernel
theorem dX6_carryOut_165 : decode cX6_carryOut 165 = .ok (.iload_n 2, 1) := by decide +kernel
theorem dX6_carryOut_166 : decode cX6_carryOut 166 = .ok (.iconst 1, 1) := by decide +kernel
theorem dX6_carryOut_167 : decode cX6_carryOut 167 = .ok (.invokevirtual 250, 3) := by decide +kernel
theorem dX6_carryOut_170 : decode cX6_carryOut 170 = .ok (.ireturn, 1) := by decide +kernel
theorem dX6_carryOut_171 : decode cX6_carryOut 171 = .ok (.aload_n 0, 1) := by decide +kernel
theorem dX6_carryOut_172 : decode cX6_carryOut 172 = .ok (.getfield 10, 3) := by decide +kernel
theorem dX6_carryOut_175 : decode cX6_carryOut 175 = .ok (.iload_n 2, 1) := by decide +kernel
theorem dX6_carryOut_176 : decode cX6_carryOut 176 = .ok (.iconst 0, 1) := by decide +kernel
theorem dX6_carryOut_177 : decode cX6_carryOut 177 = .ok (.invokevirtual 250, 3) := by decide +kernel
theorem dX6_carryOut_180 : decode cX6_carryOut 180 = .ok (.ireturn, 1) := by decide +kernel
theorem dX6_carryOut_181 : decode cX6_carryOut 181 = .ok (.aload_n 0, 1) := by decide +kernel
theorem dX6_carryOut_182 : decode cX6_carryOut 182 = .ok (.getfield 10, 3) := by decide +kernel
theorem dX6_carryOut_185 : decode cX6_carryOut 185 = .ok (.invokevirtual 253, 3) := by decide +kernel
theorem dX6_carryOut_188 : decode cX6_carryOut 188 = .ok (.ireturn, 1) := by decide +kernel
theorem dX6_carryOut_189 : decode cX6_carryOut 189 = .ok (.aload_n 0, 1) := by decide +kernel
theorem dX6_carryOut_190 : decode cX6_carryOut 190 = .ok (.getfield 10, 3) := by decide +kernel
theorem dX6_carryOut_193 : decode cX6_carryOut 193 = .ok (.invokevirtual 126, 3) := by decide +kernel
theorem dX6_carryOut_196 : decode cX6_carryOut 196 = .ok (.ireturn, 1) := by decide +kernel
theorem dX6_joinFault_0 : decode cX6_joinFault 0 = .ok (.iload_n 1, 1) := by decide +kernel
theorem dX6_joinFault_1 : decode cX6_joinFault 1 = .ok (.iconst 0, 1) := by decide +kernel
theorem dX6_joinFault_2 : decode cX6_joinFault 2 = .ok (.bipush 99, 2) := by decide +kernel
theorem dX6_joinFault_4 : decode cX6_joinFault 4 = .ok (.invokestatic 55, 3) := by decide +kernel
theorem dX6_joinFault_7 : decode cX6_joinFault 7 = .ok (.ifCond .eq 28, 3) := by decide +kernel
theorem dX6_joinFault_10 : decode cX6_joinFault 10 = .ok (.iload_n 2, 1) := by decide +kernel
theorem dX6_joinFault_11 : decode cX6_joinFault 11 = .ok (.iconst 1, 1) := by decide +kernel
theorem dX6_joinFault_12 : decode cX6_joinFault 12 = .ok (.bipush 30, 2) := by decide +kernel
theorem dX6_joinFault_14 : decode cX6_joinFault 14 = .ok (.invokestatic 55, 3) := by decide +kernel
theorem dX6_joinFault_17 : decode cX6_joinFault 17 = .ok (.ifCond .eq 18, 3) := by decide +kernel
theorem dX6_joinFault_20 : decode cX6_joinFault 20 = .ok (.iload_n 3, 1) := by decide +kernel
theorem dX6_joinFault_21 : decode cX6_joinFault 21 = .ok (.iconst 0, 1) := by decide +kernel
theorem dX6_joinFault_22 : decode cX6_joinFault 22 = .ok (.aload_n 0, 1) := by decide +kernel
theorem dX6_joinFault_23 : decode cX6_joinFault 23 = .ok (.getfield 10, 3) := by decide +kernel
theorem dX6_joinFault_26 : decode cX6_joinFault 26 = .ok (.getfield 185, 3) := by decide +kernel
theorem dX6_joinFault_29 : decode cX6_joinFault 29 = .ok (.invokestatic 55, 3) := by decide +kernel
theorem dX6_joinFault_32 : decode cX6_joinFault 32 = .ok (.ifCond .ne 5, 3) := by decide +kernel
theorem dX6_joinFault_35 : decode cX6_joinFault 35 = .ok (.iconst 2, 1) := by decide +kernel
theorem dX6_joinFault_36 : decode cX6_joinFault 36 = .ok (.ireturn, 1) := by decide +kernel
theorem dX6_joinFault_37 : decode cX6_joinFault 37 = .ok (.aload_n 0, 1) := by decide +kernel
theorem dX6_joinFault_38 : decode cX6_joinFault 38 = .ok (.getfield 10, 3) := by decide +kernel
theorem dX6_joinFault_41 : decode cX6_joinFault 41 = .ok (.iload_n 3, 1) := by decide +kernel
theorem dX6_joinFault_42 : decode cX6_joinFault 42 = .ok (.invokevirtual 101, 3) := by decide +kernel
theorem dX6_joinFault_45 : decode cX6_joinFault 45 = .ok (.getfield 256, 3) := by decide +kernel
theorem dX6_joinFault_48 : decode cX6_joinFault 48 = .ok (.istore 4, 2) := by decide +kernel
theorem dX6_joinFault_50 : decode cX6_joinFault 50 = .ok (.aload_n 0, 1) := by decide +kernel
theorem dX6_joinFault_51 : decode cX6_joinFault 51 = .ok (.getfield 10, 3) := by decide +kernel
theorem dX6_joinFault_54 : decode cX6_joinFault 54 = .ok (.getfield 185, 3) := by decide +kernel
theorem dX6_joinFault_57 : decode cX6_joinFault 57 = .ok (.bipush 10, 2) := by decide +kernel
theorem dX6_joinFault_59 : decode cX6_joinFault 59 = .ok (.if_icmp .ge 8, 3) := by decide +kernel
theorem dX6_joinFault_62 : decode cX6_joinFault 62 = .ok (.iload 4, 2) := by decide +kernel
theorem dX6_joinFault_64 : decode cX6_joinFault 64 = .ok (.ifCond .eq 7, 3) := by decide +kernel
theorem dX6_joinFault_67 : decode cX6_joinFault 67 = .ok (.iconst 3, 1) := by decide +kernel
theorem dX6_joinFault_68 : decode cX6_joinFault 68 = .ok (.goto 4, 3) := by decide +kernel
theorem dX6_joinFault_71 : decode cX6_joinFault 71 = .ok (.iconst 0, 1) := by decide +kernel
theorem dX6_joinFault_72 : decode cX6_joinFault 72 = .ok (.ireturn, 1) := by decide +kernel
theorem dX6_offerFault_0 : decode cX6_offerFault 0 = .ok (.aload_n 0, 1) := by decide +kernel
theorem dX6_offerFault_1 : decode cX6_offerFault 1 = .ok (.iload_n 1, 1) := by decide +kernel
theorem dX6_offerFault_2 : decode cX6_offerFault 2 = .ok (.iload_n 2, 1) := by decide +kernel
theorem dX6_offerFault_3 : decode cX6_offerFault 3 = .ok (.iconst 0, 1) := by decide +kernel
theorem dX6_offerFault_4 : decode cX6_offerFault 4 = .ok (.sipush 9999, 3) := by decide +kernel
theorem dX6_offerFault_7 : decode cX6_offerFault 7 = .ok (.invokestatic 55, 3) := by decide +kernel
theorem dX6_offerFault_10 : decode cX6_offerFault 10 = .ok (.invokevirtual 93, 3) := by decide +kernel
theorem dX6_offerFault_13 : decode cX6_offerFault 13 = .ok (.istore_n 3, 1) := by decide +kernel
theorem dX6_offerFault_14 : decode cX6_offerFault 14 = .ok (.iload_n 3, 1) := by decide +kernel
theorem dX6_offerFault_15 : decode cX6_offerFault 15 = .ok (.ifCond .ne 11, 3) := by decide +kernel
theorem dX6_offerFault_18 : decode cX6_offerFault 18 = .ok (.iload_n 1, 1) := by decide +kernel
theorem dX6_offerFault_19 : decode cX6_offerFault 19 = .ok (.ifCond .ne 7, 3) := by decide +kernel
theorem dX6_offerFault_22 : decode cX6_offerFault 22 = .ok (.iconst 3, 1) := by decide +kernel
theorem dX6_offerFault_23 : decode cX6_offerFault 23 = .ok (.goto 4, 3) := by decide +kernel
theorem dX6_offerFault_26 : decode cX6_offerFault 26 = .ok (.iload_n 3, 1) := by decide +kernel
theorem dX6_offerFault_27 : decode cX6_offerFault 27 = .ok (.ireturn, 1) := by decide +kernel
theorem dX6_takeFault_0 : decode cX6_takeFault 0 = .ok (.aload_n 0, 1) := by decide +kernel
theorem dX6_takeFault_1 : decode cX6_takeFault 1 = .ok (.iload_n 1, 1) := by decide +kernel
theorem dX6_takeFault_2 : decode cX6_takeFault 2 = .ok (.iconst 1, 1) := by decide +kernel
theorem dX6_takeFault_3 : decode cX6_takeFault 3 = .ok (.invokevirtual 93, 3) := by decide +kernel
theorem dX6_takeFault_6 : decode cX6_takeFault 6 = .ok (.istore_n 2, 1) := by decide +kernel
theorem dX6_takeFault_7 : decode cX6_takeFault 7 = .ok (.iload_n 2, 1) := by decide +kernel
theorem dX6_takeFault_8 : decode cX6_takeFault 8 = .ok (.ifCond .ne 18, 3) := by decide +kernel
theorem dX6_takeFault_11 : decode cX6_takeFault 11 = .ok (.aload_n 0, 1) := by decide +kernel
theorem dX6_takeFault_12 : decode cX6_takeFault 12 = .ok (.getfield 10, 3) := by decide +kernel
theorem dX6_takeFault_15 : decode cX6_takeFault 15 = .ok (.iload_n 1, 1) := by decide +kernel
theorem dX6_takeFault_16 : decode cX6_takeFault 16 = .ok (.invokevirtual 260, 3) := by decide +kernel
theorem dX6_takeFault_19 : decode cX6_takeFault 19 = .ok (.ifCond .ne 7, 3) := by decide +kernel
theorem dX6_takeFault_22 : decode cX6_takeFault 22 = .ok (.iconst 3, 1) := by decide +kernel
theorem dX6_takeFault_23 : decode cX6_takeFault 23 = .ok (.goto 4, 3) := by decide +kernel
theorem dX6_takeFault_26 : decode cX6_takeFault 26 = .ok (.iload_n 2, 1) := by decide +kernel
theorem dX6_takeFault_27 : decode cX6_takeFault 27 = .ok (.ireturn, 1) := by decide +kernel
theorem dX6_memberFault_0 : decode cX6_memberFault 0 = .ok (.iload_n 1, 1) := by decide +kernel
theorem dX6_memberFault_1 : decode cX6_memberFault 1 = .ok (.iconst (-1), 1) := by decide +kernel
theorem dX6_memberFault_2 : decode cX6_memberFault 2 = .ok (.if_icmp .ne 5, 3) := by decide +kernel
theorem dX6_memberFault_5 : decode cX6_memberFault 5 = .ok (.iconst 1, 1) := by decide +kernel
theorem dX6_memberFault_6 : decode cX6_memberFault 6 = .ok (.ireturn, 1) := by decide +kernel
theorem dX6_memberFault_7 : decode cX6_memberFault 7 = .ok (.iload_n 2, 1) := by decide +kernel
theorem dX6_memberFault_8 : decode cX6_memberFault 8 = .ok (.ifCond .eq 7, 3) := by decide +kernel
theorem dX6_memberFault_11 : decode cX6_memberFault 11 = .ok (.iconst 0, 1) := by decide +kernel
theorem dX6_memberFault_12 : decode cX6_memberFault 12 = .ok (.goto 4, 3) := by decide +kernel
theorem dX6_memberFault_15 : decode cX6_memberFault 15 = .ok (.iconst 2, 1) := by decide +kernel
theorem dX6_memberFault_16 : decode cX6_memberFault 16 = .ok (.ireturn, 1) := by decide +kernel
theorem dX6_pairFault_0 : decode cX6_pairFault 0 = .ok (.iload_n 1, 1) := by decide +kernel
theorem dX6_pairFault_1 : decode cX6_pairFault 1 = .ok (.iconst 0, 1) := by decide +kernel
theorem dX6_pairFault_2 : decode cX6_pairFault 2 = .ok (.aload_n 0, 1) := by decide +kernel
theorem dX6_pairFault_3 : decode cX6_pairFault 3 = .ok (.getfield 10, 3) := by decide +kernel
theorem dX6_pairFault_6 : decode cX6_pairFault 6 = .ok (.getfield 185, 3) := by decide +kernel
theorem dX6_pairFault_9 : decode cX6_pairFault 9 = .ok (.iconst 2, 1) := by decide +kernel
theorem dX6_pairFault_10 : decode cX6_pairFault 10 = .ok (.isub, 1) := by decide +kernel
theorem dX6_pairFault_11 : decode cX6_pairFault 11 = .ok (.invokestatic 55, 3) := by decide +kernel
theorem dX6_pairFault_14 : decode cX6_pairFault 14 = .ok (.ifCond .ne 5, 3) := by decide +kernel
theorem dX6_pairFault_17 : decode cX6_pairFault 17 = .ok (.iconst 1, 1) := by decide +kernel
theorem dX6_pairFault_18 : decode cX6_pairFault 18 = .ok (.ireturn, 1) := by decide +kernel
theorem dX6_pairFault_19 : decode cX6_pairFault 19 = .ok (.iload_n 2, 1) := by decide +kernel
theorem dX6_pairFault_20 : decode cX6_pairFault 20 = .ok (.ifCond .eq 7, 3) := by decide +kernel
theorem dX6_pairFault_23 : decode cX6_pairFault 23 = .ok (.iconst 0, 1) := by decide +kernel
theorem dX6_pairFault_24 : decode cX6_pairFault 24 = .ok (.goto 4, 3) := by decide +kernel
theorem dX6_pairFault_27 : decode cX6_pairFault 27 = .ok (.iload_n 3, 1) := by decide +kernel
theorem dX6_pairFault_28 : decode cX6_pairFault 28 = .ok (.ireturn, 1) := by decide +kernel
theorem dX6_isWithin_0 : decode cX6_isWithin 0 = .ok (.iload_n 0, 1) := by decide +kernel
theorem dX6_isWithin_1 : decode cX6_isWithin 1 = .ok (.iload_n 1, 1) := by decide +kernel
theorem dX6_isWithin_2 : decode cX6_isWithin 2 = .ok (.if_icmp .lt 12, 3) := by decide +kernel
theorem dX6_isWithin_5 : decode cX6_isWithin 5 = .ok (.iload_n 0, 1) := by decide +kernel
theorem dX6_isWithin_6 : decode cX6_isWithin 6 = .ok (.iload_n 2, 1) := by decide +kernel
theorem dX6_isWithin_7 : decode cX6_isWithin 7 = .ok (.if_icmp .gt 7, 3) := by decide +kernel
theorem dX6_isWithin_10 : decode cX6_isWithin 10 = .ok (.iconst 1, 1) := by decide +kernel
theorem dX6_isWithin_11 : decode cX6_isWithin 11 = .ok (.goto 4, 3) := by decide +kernel
theorem dX6_isWithin_14 : decode cX6_isWithin 14 = .ok (.iconst 0, 1) := by decide +kernel
theorem dX6_isWithin_15 : decode cX6_isWithin 15 = .ok (.ireturn, 1) := by decide +kernel
theorem dX6_refuse_0 : decode cX6_refuse 0 = .ok (.iload_n 0, 1) := by decide +kernel
theorem dX6_refuse_1 : decode cX6_refuse 1 = .ok (.iconst 1, 1) := by decide +kernel
theorem dX6_refuse_2 : decode cX6_refuse 2 = .ok (.if_icmp .ne 14, 3) := by decide +kernel
theorem dX6_refuse_5 : decode cX6_refuse 5 = .ok (.new 263, 3) := by decide +kernel
theorem dX6_refuse_8 : decode cX6_refuse 8 = .ok (.dup, 1) := by decide +kernel
theorem dX6_refuse_9 : decode cX6_refuse 9 = .ok (.ldc_w 265, 3) := by decide +kernel
theorem dX6_refuse_12 : decode cX6_refuse 12 = .ok (.invokespecial 267, 3) := by decide +kernel
theorem dX6_refuse_15 : decode cX6_refuse 15 = .ok (.athrow, 1) := by decide +kernel
theorem dX6_refuse_16 : decode cX6_refuse 16 = .ok (.iload_n 0, 1) := by decide +kernel
theorem dX6_refuse_17 : decode cX6_refuse 17 = .ok (.iconst 2, 1) := by decide +kernel
theorem dX6_refuse_18 : decode cX6_refuse 18 = .ok (.if_icmp .ne 14, 3) := by decide +kernel
theorem dX6_refuse_21 : decode cX6_refuse 21 = .ok (.new 270, 3) := by decide +kernel
theorem dX6_refuse_24 : decode cX6_refuse 24 = .ok (.dup, 1) := by decide +kernel
theorem dX6_refuse_25 : decode cX6_refuse 25 = .ok (.ldc_w 272, 3) := by decide +kernel
theorem dX6_refuse_28 : decode cX6_refuse 28 = .ok (.invokespecial 274, 3) := by decide +kernel
theorem dX6_refuse_31 : decode cX6_refuse 31 = .ok (.athrow, 1) := by decide +kernel
theorem dX6_refuse_32 : decode cX6_refuse 32 = .ok (.iload_n 0, 1) := by decide +kernel
theorem dX6_refuse_33 : decode cX6_refuse 33 = .ok (.iconst 3, 1) := by decide +kernel
theorem dX6_refuse_34 : decode cX6_refuse 34 = .ok (.if_icmp .ne 14, 3) := by decide +kernel
theorem dX6_refuse_37 : decode cX6_refuse 37 = .ok (.new 275, 3) := by decide +kernel
theorem dX6_refuse_40 : decode cX6_refuse 40 = .ok (.dup, 1) := by decide +kernel
theorem dX6_refuse_41 : decode cX6_refuse 41 = .ok (.ldc_w 277, 3) := by decide +kernel
theorem dX6_refuse_44 : decode cX6_refuse 44 = .ok (.invokespecial 279, 3) := by decide +kernel
theorem dX6_refuse_47 : decode cX6_refuse 47 = .ok (.athrow, 1) := by decide +kernel
theorem dX6_refuse_48 : decode cX6_refuse 48 = .ok (.return_, 1) := by decide +kernel
theorem dX7_init_0 : decode cX7_init 0 = .ok (.aload_n 0, 1) := by decide +kernel
theorem dX7_init_1 : decode cX7_init 1 = .ok (.invokespecial 1, 3) := by decide +kernel
theorem dX7_init_4 : decode cX7_init 4 = .ok (.aload_n 0, 1) := by decide +kernel
theorem dX7_init_5 : decode cX7_init 5 = .ok (.sipush 456, 3) := by decide +kernel
theorem dX7_init_8 : decode cX7_init 8 = .ok (.newarray .int, 2) := by decide +kernel
theorem dX7_init_10 : decode cX7_init 10 = .ok (.putfield 7, 3) := by decide +kernel
theorem dX7_init_13 : decode cX7_init 13 = .ok (.aload_n 0, 1) := by decide +kernel
theorem dX7_init_14 : decode cX7_init 14 = .ok (.sipush 150, 3) := by decide +kernel
theorem dX7_init_17 : decode cX7_init 17 = .ok (.newarray .int, 2) := by decide +kernel
theorem dX7_init_19 : decode cX7_init 19 = .ok (.putfield 13, 3) := by decide +kernel
theorem dX7_init_22 : decode cX7_init 22 = .ok (.aload_n 0, 1) := by decide +kernel
theorem dX7_init_23 : decode cX7_init 23 = .ok (.iconst 3, 1) := by decide +kernel
theorem dX7_init_24 : decode cX7_init 24 = .ok (.newarray .int, 2) := by decide +kernel
theorem dX7_init_26 : decode cX7_init 26 = .ok (.putfield 16, 3) := by decide +kernel
theorem dX7_init_29 : decode cX7_init 29 = .ok (.aload_n 0, 1) := by decide +kernel
theorem dX7_init_30 : decode cX7_init 30 = .ok (.bipush 10, 2) := by decide +kernel
theorem dX7_init_32 : decode cX7_init 32 = .ok (.newarray .int, 2) := by decide +kernel
theorem dX7_init_34 : decode cX7_init 34 = .ok (.putfield 19, 3) := by decide +kernel
theorem dX7_init_37 : decode cX7_init 37 = .ok (.aload_n 0, 1) := by decide +kernel
theorem dX7_init_38 : decode cX7_init 38 = .ok (.getfield 7, 3) := by decide +kernel
theorem dX7_init_41 : decode cX7_init 41 = .ok (.iconst 1, 1) := by decide +kernel
theorem dX7_init_42 : decode cX7_init 42 = .ok (.bipush 50, 2) := by decide +kernel
theorem dX7_init_44 : decode cX7_init 44 = .ok (.iastore, 1) := by decide +kernel
theorem dX7_init_45 : decode cX7_init 45 = .ok (.return_, 1) := by decide +kernel
theorem dX7_thrown_0 : decode cX7_thrown 0 = .ok (.aload_n 0, 1) := by decide +kernel
theorem dX7_thrown_1 : decode cX7_thrown 1 = .ok (.getfield 22, 3) := by decide +kernel
theorem dX7_thrown_4 : decode cX7_thrown 4 = .ok (.ireturn, 1) := by decide +kernel
theorem dX7_isRefused_0 : decode cX7_isRefused 0 = .ok (.aload_n 0, 1) := by decide +kernel
theorem dX7_isRefused_1 : decode cX7_isRefused 1 = .ok (.iload_n 1, 1) := by decide +kernel
theorem dX7_isRefused_2 : decode cX7_isRefused 2 = .ok (.putfield 22, 3) := by decide +kernel
theorem dX7_isRefused_5 : decode cX7_isRefused 5 = .ok (.iload_n 1, 1) := by decide +kernel
theorem dX7_isRefused_6 : decode cX7_isRefused 6 = .ok (.ifCond .eq 7, 3) := by decide +kernel
theorem dX7_isRefused_9 : decode cX7_isRefused 9 = .ok (.iconst 1, 1) := by decide +kernel
theorem dX7_isRefused_10 : decode cX7_isRefused 10 = .ok (.goto 4, 3) := by decide +kernel
theorem dX7_isRefused_13 : decode cX7_isRefused 13 = .ok (.iconst 0, 1) := by decide +kernel
theorem dX7_isRefused_14 : decode cX7_isRefused 14 = .ok (.ireturn, 1) := by decide +kernel
theorem dX7_in_0 : decode cX7_in 0 = .ok (.iload_n 0, 1) := by decide +kernel
theorem dX7_in_1 : decode cX7_in 1 = .ok (.iload_n 1, 1) := by decide +kernel
theorem dX7_in_2 : decode cX7_in 2 = .ok (.if_icmp .lt 12, 3) := by decide +kernel
theorem dX7_in_5 : decode cX7_in 5 = .ok (.iload_n 0, 1) := by decide +kernel
theorem dX7_in_6 : decode cX7_in 6 = .ok (.iload_n 2, 1) := by decide +kernel
theorem dX7_in_7 : decode cX7_in 7 = .ok (.if_icmp .gt 7, 3) := by decide +kernel
theorem dX7_in_10 : decode cX7_in 10 = .ok (.iconst 1, 1) := by decide +kernel
theorem dX7_in_11 : decode cX7_in 11 = .ok (.goto 4, 3) := by decide +kernel
theorem dX7_in_14 : decode cX7_in 14 = .ok (.iconst 0, 1) := by decide +kernel
theorem dX7_in_15 : decode cX7_in 15 = .ok (.ireturn, 1) := by decide +kernel
theorem dX7_copies_0 : decode cX7_copies 0 = .ok (.iconst 0, 1) := by decide +kernel
theorem dX7_copies_1 : decode cX7_copies 1 = .ok (.istore_n 3, 1) := by decide +kernel
theorem dX7_copies_2 : decode cX7_copies 2 = .ok (.iload_n 3, 1) := by decide +kernel
theorem dX7_copies_3 : decode cX7_copies 3 = .ok (.bipush 76, 2) := by decide +kernel
theorem dX7_copies_5 : decode cX7_copies 5 = .ok (.if_icmp .ge 25, 3) := by decide +kernel
theorem dX7_copies_8 : decode cX7_copies 8 = .ok (.aload_n 0, 1) := by decide +kernel
theorem dX7_copies_9 : decode cX7_copies 9 = .ok (.getfield 7, 3) := by decide +kernel
theorem dX7_copies_12 : decode cX7_copies 12 = .ok (.iload_n 2, 1) := by decide +kernel
theorem dX7_copies_13 : decode cX7_copies 13 = .ok (.iload_n 3, 1) := by decide +kernel
theorem dX7_copies_14 : decode cX7_copies 14 = .ok (.iadd, 1) := by decide +kernel
theorem dX7_copies_15 : decode cX7_copies 15 = .ok (.aload_n 0, 1) := by decide +kernel
theorem dX7_copies_16 : decode cX7_copies 16 = .ok (.getfield 7, 3) := by decide +kernel
theorem dX7_copies_19 : decode cX7_copies 19 = .ok (.iload_n 1, 1) := by decide +kernel
theorem dX7_copies_20 : decode cX7_copies 20 = .ok (.iload_n 3, 1) := by decide +kernel
theorem dX7_copies_21 : decode cX7_copies 21 = .ok (.iadd, 1) := by decide +kernel
theorem dX7_copies_22 : decode cX7_copies 22 = .ok (.iaload, 1) := by decide +kernel
theorem dX7_copies_23 : decode cX7_copies 23 = .ok (.iastore, 1) := by decide +kernel
theorem dX7_copies_24 : decode cX7_copies 24 = .ok (.iinc 3 1, 3) := by decide +kernel
theorem dX7_copies_27 : decode cX7_copies 27 = .ok (.goto (-25), 3) := by decide +kernel
theorem dX7_copies_30 : decode cX7_copies 30 = .ok (.return_, 1) := by decide +kernel
theorem dX7_saves_0 : decode cX7_saves 0 = .ok (.aload_n 0, 1) := by decide +kernel
theorem dX7_saves_1 : decode cX7_saves 1 = .ok (.getfield 26, 3) := by decide +kernel
theorem dX7_saves_4 : decode cX7_saves 4 = .ok (.iconst 4, 1) := by decide +kernel
theorem dX7_saves_5 : decode cX7_saves 5 = .ok (.if_icmp .ne 40, 3) := by decide +kernel
theorem dX7_saves_8 : decode cX7_saves 8 = .ok (.iconst 1, 1) := by decide +kernel
theorem dX7_saves_9 : decode cX7_saves 9 = .ok (.istore_n 1, 1) := by decide +kernel
theorem dX7_saves_10 : decode cX7_saves 10 = .ok (.iload_n 1, 1) := by decide +kernel
theorem dX7_saves_11 : decode cX7_saves 11 = .ok (.iconst 4, 1) := by decide +kernel
theorem dX7_saves_12 : decode cX7_saves 12 = .ok (.if_icmp .ge 23, 3) := by decide +kernel
theorem dX7_saves_15 : decode cX7_saves 15 = .ok (.aload_n 0, 1) := by decide +kernel
theorem dX7_saves_16 : decode cX7_saves 16 = .ok (.bipush 76, 2) := by decide +kernel
theorem dX7_saves_18 : decode cX7_saves 18 = .ok (.iload_n 1, 1) := by decide +kernel
theorem dX7_saves_19 : decode cX7_saves 19 = .ok (.iconst 1, 1) := by decide +kernel
theorem dX7_saves_20 : decode cX7_saves 20 = .ok (.iadd, 1) := by decide +kernel
theorem dX7_saves_21 : decode cX7_saves 21 = .ok (.imul, 1) := by decide +kernel
theorem dX7_saves_22 : decode cX7_saves 22 = .ok (.bipush 76, 2) := by decide +kernel
theorem dX7_saves_24 : decode cX7_saves 24 = .ok (.iload_n 1, 1) := by decide +kernel
theorem dX7_saves_25 : decode cX7_saves 25 = .ok (.imul, 1) := by decide +kernel
theorem dX7_saves_26 : decode cX7_saves 26 = .ok (.invokevirtual 29, 3) := by decide +kernel
theorem dX7_saves_29 : decode cX7_saves 29 = .ok (.iinc 1 1, 3) := by decide +kernel
theorem dX7_saves_32 : decode cX7_saves 32 = .ok (.goto (-22), 3) := by decide +kernel
theorem dX7_saves_35 : decode cX7_saves 35 = .ok (.aload_n 0, 1) := by decide +kernel
theorem dX7_saves_36 : decode cX7_saves 36 = .ok (.dup, 1) := by decide +kernel
theorem dX7_saves_37 : decode cX7_saves 37 = .ok (.getfield 26, 3) := by decide +kernel
theorem dX7_saves_40 : decode cX7_saves 40 = .ok (.iconst 1, 1) := by decide +kernel
theorem dX7_saves_41 : decode cX7_saves 41 = .ok (.isub, 1) := by decide +kernel
theorem dX7_saves_42 : decode cX7_saves 42 = .ok (.putfield 26, 3) := by decide +kernel
theorem dX7_saves_45 : decode cX7_saves 45 = .ok (.aload_n 0, 1) := by decide +kernel
theorem dX7_saves_46 : decode cX7_saves 46 = .ok (.dup, 1) := by decide +kernel
theorem dX7_saves_47 : decode cX7_saves 47 = .ok (.getfield 26, 3) := by decide +kernel
theorem dX7_saves_50 : decode cX7_saves 50 = .ok (.iconst 1, 1) := by decide +kernel
theorem dX7_saves_51 : decode cX7_saves 51 = .ok (.iadd, 1) := by decide +kernel
theorem dX7_saves_52 : decode cX7_saves 52 = .ok (.putfield 26, 3) := by decide +kernel
theorem dX7_saves_55 : decode cX7_saves 55 = .ok (.aload_n 0, 1) := by decide +kernel
theorem dX7_saves_56 : decode cX7_saves 56 = .ok (.iconst 0, 1) := by decide +kernel
theorem dX7_saves_57 : decode cX7_saves 57 = .ok (.bipush 76, 2) := by decide +kernel
theorem dX7_saves_59 : decode cX7_saves 59 = .ok (.aload_n 0, 1) := by decide +kernel
theorem dX7_saves_60 : decode cX7_saves 60 = .ok (.getfield 26, 3) := by decide +kernel
theorem dX7_saves_63 : decode cX7_saves 63 = .ok (.imul, 1) := by decide +kernel
theorem dX7_saves_64 : decode cX7_saves 64 = .ok (.invokevirtual 29, 3) := by decide +kernel
theorem dX7_saves_67 : decode cX7_saves 67 = .ok (.return_, 1) := by decide +kernel
theorem dX7_of_0 : decode cX7_of 0 = .ok (.aload_n 0, 1) := by decide +kernel
theorem dX7_of_1 : decode cX7_of 1 = .ok (.getfield 7, 3) := by decide +kernel
theorem dX7_of_4 : decode cX7_of 4 = .ok (.bipush 6, 2) := by decide +kernel
theorem dX7_of_6 : decode cX7_of 6 = .ok (.bipush 7, 2) := by decide +kernel
theorem dX7_of_8 : decode cX7_of 8 = .ok (.iload_n 1, 1) := by decide +kernel
theorem dX7_of_9 : decode cX7_of 9 = .ok (.imul, 1) := by decide +kernel
theorem dX7_of_10 : decode cX7_of 10 = .ok (.iadd, 1) := by decide +kernel
theorem dX7_of_11 : decode cX7_of 11 = .ok (.iload_n 2, 1) := by decide +kernel
theorem dX7_of_12 : decode cX7_of 12 = .ok (.iadd, 1) := by decide +kernel
theorem dX7_of_13 : decode cX7_of 13 = .ok (.iaload, 1) := by decide +kernel
theorem dX7_of_14 : decode cX7_of 14 = .ok (.ireturn, 1) := by decide +kernel
theorem dX7_set_0 : decode cX7_set 0 = .ok (.aload_n 0, 1) := by decide +kernel
theorem dX7_set_1 : decode cX7_set 1 = .ok (.getfield 7, 3) := by decide +kernel
theorem dX7_set_4 : decode cX7_set 4 = .ok (.bipush 6, 2) := by decide +kernel
theorem dX7_set_6 : decode cX7_set 6 = .ok (.bipush 7, 2) := by decide +kernel
theorem dX7_set_8 : decode cX7_set 8 = .ok (.iload_n 1, 1) := by decide +kernel
theorem dX7_set_9 : decode cX7_set 9 = .ok (.imul, 1) := by decide +kernel
theorem dX7_set_10 : decode cX7_set 10 = .ok (.iadd, 1) := by decide +kernel
theorem dX7_set_11 : decode cX7_set 11 = .ok (.iload_n 2, 1) := by decide +kernel
theorem dX7_set_12 : decode cX7_set 12 = .ok (.iadd, 1) := by decide +kernel
theorem dX7_set_13 : decode cX7_set 13 = .ok (.iload_n 3, 1) := by decide +kernel
theorem dX7_set_14 : decode cX7_set 14 = .ok (.iastore, 1) := by decide +kernel
theorem dX7_set_15 : decode cX7_set 15 = .ok (.return_, 1) := by decide +kernel
theorem dX7_find_0 : decode cX7_find 0 = .ok (.iconst 0, 1) := by decide +kernel
theorem dX7_find_1 : decode cX7_find 1 = .ok (.istore_n 2, 1) := by decide +kernel
theorem dX7_find_2 : decode cX7_find 2 = .ok (.iload_n 2, 1) := by decide +kernel
theorem dX7_find_3 : decode cX7_find 3 = .ok (.aload_n 0, 1) := by decide +kernel
theorem dX7_find_4 : decode cX7_find 4 = .ok (.getfield 7, 3) := by decide +kernel
theorem dX7_find_7 : decode cX7_find 7 = .ok (.iconst 0, 1) := by decide +kernel
theorem dX7_find_8 : decode cX7_find 8 = .ok (.iaload, 1) := by decide +kernel
theorem dX7_find_9 : decode cX7_find 9 = .ok (.if_icmp .ge 21, 3) := by decide +kernel
theorem dX7_find_12 : decode cX7_find 12 = .ok (.aload_n 0, 1) := by decide +kernel
theorem dX7_find_13 : decode cX7_find 13 = .ok (.iload_n 2, 1) := by decide +kernel
theorem dX7_find_14 : decode cX7_find 14 = .ok (.iconst 0, 1) := by decide +kernel
theorem dX7_find_15 : decode cX7_find 15 = .ok (.invokevirtual 33, 3) := by decide +kernel
theorem dX7_find_18 : decode cX7_find 18 = .ok (.iload_n 1, 1) := by decide +kernel
theorem dX7_find_19 : decode cX7_find 19 = .ok (.if_icmp .ne 5, 3) := by decide +kernel
theorem dX7_find_22 : decode cX7_find 22 = .ok (.iload_n 2, 1) := by decide +kernel
theorem dX7_find_23 : decode cX7_find 23 = .ok (.ireturn, 1) := by decide +kernel
theorem dX7_find_24 : decode cX7_find 24 = .ok (.iinc 2 1, 3) := by decide +kernel
theorem dX7_find_27 : decode cX7_find 27 = .ok (.goto (-25), 3) := by decide +kernel
theorem dX7_find_30 : decode cX7_find 30 = .ok (.iconst (-1), 1) := by decide +kernel
theorem dX7_find_31 : decode cX7_find 31 = .ok (.ireturn, 1) := by decide +kernel
theorem dX7_isPair_0 : decode cX7_isPair 0 = .ok (.iload_n 1, 1) := by decide +kernel
theorem dX7_isPair_1 : decode cX7_isPair 1 = .ok (.iconst 0, 1) := by decide +kernel
theorem dX7_isPair_2 : decode cX7_isPair 2 = .ok (.aload_n 0, 1) := by decide +kernel
theorem dX7_isPair_3 : decode cX7_isPair 3 = .ok (.getfield 7, 3) := by decide +kernel
theorem dX7_isPair_6 : decode cX7_isPair 6 = .ok (.iconst 0, 1) := by decide +kernel
theorem dX7_isPair_7 : decode cX7_isPair 7 = .ok (.iaload, 1) := by decide +kernel
theorem dX7_isPair_8 : decode cX7_isPair 8 = .ok (.iconst 2, 1) := by decide +kernel
theorem dX7_isPair_9 : decode cX7_isPair 9 = .ok (.isub, 1) := by decide +kernel
theorem dX7_isPair_10 : decode cX7_isPair 10 = .ok (.invokestatic 37, 3) := by decide +kernel
theorem dX7_isPair_13 : decode cX7_isPair 13 = .ok (.ireturn, 1) := by decide +kernel
theorem dX7_brings_0 : decode cX7_brings 0 = .ok (.iconst 0, 1) := by decide +kernel
theorem dX7_brings_1 : decode cX7_brings 1 = .ok (.istore_n 3, 1) := by decide +kernel
theorem dX7_brings_2 : decode cX7_brings 2 = .ok (.iload_n 3, 1) := by decide +kernel
theorem dX7_brings_3 : decode cX7_brings 3 = .ok (.bipush 7, 2) := by decide +kernel
theorem dX7_brings_5 : decode cX7_brings 5 = .ok (.if_icmp .ge 21, 3) := by decide +kernel
theorem dX7_brings_8 : decode cX7_brings 8 = .ok (.aload_n 0, 1) := by decide +kernel
theorem dX7_brings_9 : decode cX7_brings 9 = .ok (.iload_n 2, 1) := by decide +kernel
theorem dX7_brings_10 : decode cX7_brings 10 = .ok (.iload_n 3, 1) := by decide +kernel
theorem dX7_brings_11 : decode cX7_brings 11 = .ok (.aload_n 0, 1) := by decide +kernel
theorem dX7_brings_12 : decode cX7_brings 12 = .ok (.iload_n 1, 1) := by decide +kernel
theorem dX7_brings_13 : decode cX7_brings 13 = .ok (.iload_n 3, 1) := by decide +kernel
theorem dX7_brings_14 : decode cX7_brings 14 = .ok (.invokevirtual 33, 3) := by decide +kernel
theorem dX7_brings_17 : decode cX7_brings 17 = .ok (.invokevirtual 41, 3) := by decide +kernel
theorem dX7_brings_20 : decode cX7_brings 20 = .ok (.iinc 3 1, 3) := by decide +kernel
theorem dX7_brings_23 : decode cX7_brings 23 = .ok (.goto (-21), 3) := by decide +kernel
theorem dX7_brings_26 : decode cX7_brings 26 = .ok (.return_, 1) := by decide +kernel
theorem dX7_whyNoMember_0 : decode cX7_whyNoMember 0 = .ok (.aload_n 0, 1) := by decide +kernel
theorem dX7_whyNoMember_1 : decode cX7_whyNoMember 1 = .ok (.iload_n 1, 1) := by decide +kernel
theorem dX7_whyNoMember_2 : decode cX7_whyNoMember 2 = .ok (.invokevirtual 45, 3) := by decide +kernel
theorem dX7_whyNoMember_5 : decode cX7_whyNoMember 5 = .ok (.iconst (-1), 1) := by decide +kernel
theorem dX7_whyNoMember_6 : decode cX7_whyNoMember 6 = .ok (.if_icmp .ne 7, 3) := by decide +kernel
theorem dX7_whyNoMember_9 : decode cX7_whyNoMember 9 = .ok (.iconst 1, 1) := by decide +kernel
theorem dX7_whyNoMember_10 : decode cX7_whyNoMember 10 = .ok (.goto 4, 3) := by decide +kernel
theorem dX7_whyNoMember_13 : decode cX7_whyNoMember 13 = .ok (.iconst 0, 1) := by decide +kernel
theorem dX7_whyNoMember_14 : decode cX7_whyNoMember 14 = .ok (.ireturn, 1) := by decide +kernel
theorem dX7_whyNotJoin_0 : decode cX7_whyNotJoin 0 = .ok (.iload_n 1, 1) := by decide +kernel
theorem dX7_whyNotJoin_1 : decode cX7_whyNotJoin 1 = .ok (.iconst 0, 1) := by decide +kernel
theorem dX7_whyNotJoin_2 : decode cX7_whyNotJoin 2 = .ok (.bipush 99, 2) := by decide +kernel
theorem dX7_whyNotJoin_4 : decode cX7_whyNotJoin 4 = .ok (.invokestatic 37, 3) := by decide +kernel
theorem dX7_whyNotJoin_7 : decode cX7_whyNotJoin 7 = .ok (.ifCond .eq 27, 3) := by decide +kernel
theorem dX7_whyNotJoin_10 : decode cX7_whyNotJoin 10 = .ok (.iload_n 2, 1) := by decide +kernel
theorem dX7_whyNotJoin_11 : decode cX7_whyNotJoin 11 = .ok (.iconst 1, 1) := by decide +kernel
theorem dX7_whyNotJoin_12 : decode cX7_whyNotJoin 12 = .ok (.bipush 30, 2) := by decide +kernel
theorem dX7_whyNotJoin_14 : decode cX7_whyNotJoin 14 = .ok (.invokestatic 37, 3) := by decide +kernel
theorem dX7_whyNotJoin_17 : decode cX7_whyNotJoin 17 = .ok (.ifCond .eq 17, 3) := by decide +kernel
theorem dX7_whyNotJoin_20 : decode cX7_whyNotJoin 20 = .ok (.iload_n 3, 1) := by decide +kernel
theorem dX7_whyNotJoin_21 : decode cX7_whyNotJoin 21 = .ok (.iconst 0, 1) := by decide +kernel
theorem dX7_whyNotJoin_22 : decode cX7_whyNotJoin 22 = .ok (.aload_n 0, 1) := by decide +kernel
theorem dX7_whyNotJoin_23 : decode cX7_whyNotJoin 23 = .ok (.getfield 7, 3) := by decide +kernel
theorem dX7_whyNotJoin_26 : decode cX7_whyNotJoin 26 = .ok (.iconst 0, 1) := by decide +kernel
theorem dX7_whyNotJoin_27 : decode cX7_whyNotJoin 27 = .ok (.iaload, 1) := by decide +kernel
theorem dX7_whyNotJoin_28 : decode cX7_whyNotJoin 28 = .ok (.invokestatic 37, 3) := by decide +kernel
theorem dX7_whyNotJoin_31 : decode cX7_whyNotJoin 31 = .ok (.ifCond .ne 5, 3) := by decide +kernel
theorem dX7_whyNotJoin_34 : decode cX7_whyNotJoin 34 = .ok (.iconst 1, 1) := by decide +kernel
theorem dX7_whyNotJoin_35 : decode cX7_whyNotJoin 35 = .ok (.ireturn, 1) := by decide +kernel
theorem dX7_whyNotJoin_36 : decode cX7_whyNotJoin 36 = .ok (.aload_n 0, 1) := by decide +kernel
theorem dX7_whyNotJoin_37 : decode cX7_whyNotJoin 37 = .ok (.getfield 7, 3) := by decide +kernel
theorem dX7_whyNotJoin_40 : decode cX7_whyNotJoin 40 = .ok (.iconst 0, 1) := by decide +kernel
theorem dX7_whyNotJoin_41 : decode cX7_whyNotJoin 41 = .ok (.iaload, 1) := by decide +kernel
theorem dX7_whyNotJoin_42 : decode cX7_whyNotJoin 42 = .ok (.bipush 10, 2) := by decide +kernel
theorem dX7_whyNotJoin_44 : decode cX7_whyNotJoin 44 = .ok (.if_icmp .eq 30, 3) := by decide +kernel
theorem dX7_whyNotJoin_47 : decode cX7_whyNotJoin 47 = .ok (.iload_n 3, 1) := by decide +kernel
theorem dX7_whyNotJoin_48 : decode cX7_whyNotJoin 48 = .ok (.ifCond .le 30, 3) := by decide +kernel
theorem dX7_whyNotJoin_51 : decode cX7_whyNotJoin 51 = .ok (.iload_n 3, 1) := by decide +kernel
theorem dX7_whyNotJoin_52 : decode cX7_whyNotJoin 52 = .ok (.aload_n 0, 1) := by decide +kernel
theorem dX7_whyNotJoin_53 : decode cX7_whyNotJoin 53 = .ok (.getfield 7, 3) := by decide +kernel
theorem dX7_whyNotJoin_56 : decode cX7_whyNotJoin 56 = .ok (.iconst 0, 1) := by decide +kernel
theorem dX7_whyNotJoin_57 : decode cX7_whyNotJoin 57 = .ok (.iaload, 1) := by decide +kernel
theorem dX7_whyNotJoin_58 : decode cX7_whyNotJoin 58 = .ok (.if_icmp .ge 20, 3) := by decide +kernel
theorem dX7_whyNotJoin_61 : decode cX7_whyNotJoin 61 = .ok (.aload_n 0, 1) := by decide +kernel
theorem dX7_whyNotJoin_62 : decode cX7_whyNotJoin 62 = .ok (.iload_n 3, 1) := by decide +kernel
theorem dX7_whyNotJoin_63 : decode cX7_whyNotJoin 63 = .ok (.iconst 1, 1) := by decide +kernel
theorem dX7_whyNotJoin_64 : decode cX7_whyNotJoin 64 = .ok (.isub, 1) := by decide +kernel
theorem dX7_whyNotJoin_65 : decode cX7_whyNotJoin 65 = .ok (.bipush 6, 2) := by decide +kernel
theorem dX7_whyNotJoin_67 : decode cX7_whyNotJoin 67 = .ok (.invokevirtual 33, 3) := by decide +kernel
theorem dX7_whyNotJoin_70 : decode cX7_whyNotJoin 70 = .ok (.iconst 1, 1) := by decide +kernel
theorem dX7_whyNotJoin_71 : decode cX7_whyNotJoin 71 = .ok (.if_icmp .ne 7, 3) := by decide +kernel
theorem dX7_whyNotJoin_74 : decode cX7_whyNotJoin 74 = .ok (.iconst 2, 1) := by decide +kernel
theorem dX7_whyNotJoin_75 : decode cX7_whyNotJoin 75 = .ok (.goto 4, 3) := by decide +kernel
theorem dX7_whyNotJoin_78 : decode cX7_whyNotJoin 78 = .ok (.iconst 0, 1) := by decide +kernel
theorem dX7_whyNotJoin_79 : decode cX7_whyNotJoin 79 = .ok (.ireturn, 1) := by decide +kernel
theorem dX7_joins_0 : decode cX7_joins 0 = .ok (.aload_n 0, 1) := by decide +kernel
theorem dX7_joins_1 : decode cX7_joins 1 = .ok (.getfield 7, 3) := by decide +kernel
theorem dX7_joins_4 : decode cX7_joins 4 = .ok (.iconst 0, 1) := by decide +kernel
theorem dX7_joins_5 : decode cX7_joins 5 = .ok (.iaload, 1) := by decide +kernel
theorem dX7_joins_6 : decode cX7_joins 6 = .ok (.istore 4, 2) := by decide +kernel
theorem dX7_joins_8 : decode cX7_joins 8 = .ok (.iload 4, 2) := by decide +kernel
theorem dX7_joins_10 : decode cX7_joins 10 = .ok (.iload_n 3, 1) := by decide +kernel
theorem dX7_joins_11 : decode cX7_joins 11 = .ok (.if_icmp .le 19, 3) := by decide +kernel
theorem dX7_joins_14 : decode cX7_joins 14 = .ok (.aload_n 0, 1) := by decide +kernel
theorem dX7_joins_15 : decode cX7_joins 15 = .ok (.iload 4, 2) := by decide +kernel
theorem dX7_joins_17 : decode cX7_joins 17 = .ok (.iconst 1, 1) := by decide +kernel
theorem dX7_joins_18 : decode cX7_joins 18 = .ok (.isub, 1) := by decide +kernel
theorem dX7_joins_19 : decode cX7_joins 19 = .ok (.iload 4, 2) := by decide +kernel
theorem dX7_joins_21 : decode cX7_joins 21 = .ok (.invokevirtual 49, 3) := by decide +kernel
theorem dX7_joins_24 : decode cX7_joins 24 = .ok (.iinc 4 (-1), 3) := by decide +kernel
theorem dX7_joins_27 : decode cX7_joins 27 = .ok (.goto (-19), 3) := by decide +kernel
theorem dX7_joins_30 : decode cX7_joins 30 = .ok (.iload_n 3, 1) := by decide +kernel
theorem dX7_joins_31 : decode cX7_joins 31 = .ok (.aload_n 0, 1) := by decide +kernel
theorem dX7_joins_32 : decode cX7_joins 32 = .ok (.getfield 7, 3) := by decide +kernel
theorem dX7_joins_35 : decode cX7_joins 35 = .ok (.iconst 0, 1) := by decide +kernel
theorem dX7_joins_36 : decode cX7_joins 36 = .ok (.iaload, 1) := by decide +kernel
theorem dX7_joins_37 : decode cX7_joins 37 = .ok (.if_icmp .ge 12, 3) := by decide +kernel
theorem dX7_joins_40 : decode cX7_joins 40 = .ok (.aload_n 0, 1) := by decide +kernel
theorem dX7_joins_41 : decode cX7_joins 41 = .ok (.iload_n 3, 1) := by decide +kernel
theorem dX7_joins_42 : decode cX7_joins 42 = .ok (.iconst 1, 1) := by decide +kernel
theorem dX7_joins_43 : decode cX7_joins 43 = .ok (.iadd, 1) := by decide +kernel
theorem dX7_joins_44 : decode cX7_joins 44 = .ok (.iconst 5, 1) := by decide +kernel
theorem dX7_joins_45 : decode cX7_joins 45 = .ok (.iconst (-1), 1) := by decide +kernel
theorem dX7_joins_46 : decode cX7_joins 46 = .ok (.invokevirtual 41, 3) := by decide +kernel
theorem dX7_joins_49 : decode cX7_joins 49 = .ok (.aload_n 0, 1) := by decide +kernel
theorem dX7_joins_50 : decode cX7_joins 50 = .ok (.iload_n 3, 1) := by decide +kernel
theorem dX7_joins_51 : decode cX7_joins 51 = .ok (.iconst 0, 1) := by decide +kernel
theorem dX7_joins_52 : decode cX7_joins 52 = .ok (.aload_n 0, 1) := by decide +kernel
theorem dX7_joins_53 : decode cX7_joins 53 = .ok (.getfield 7, 3) := by decide +kernel
theorem dX7_joins_56 : decode cX7_joins 56 = .ok (.iconst 5, 1) := by decide +kernel
theorem dX7_joins_57 : decode cX7_joins 57 = .ok (.iaload, 1) := by decide +kernel
theorem dX7_joins_58 : decode cX7_joins 58 = .ok (.invokevirtual 41, 3) := by decide +kernel
theorem dX7_joins_61 : decode cX7_joins 61 = .ok (.aload_n 0, 1) := by decide +kernel
theorem dX7_joins_62 : decode cX7_joins 62 = .ok (.iload_n 3, 1) := by decide +kernel
theorem dX7_joins_63 : decode cX7_joins 63 = .ok (.iconst 1, 1) := by decide +kernel
theorem dX7_joins_64 : decode cX7_joins 64 = .ok (.iload_n 1, 1) := by decide +kernel
theorem dX7_joins_65 : decode cX7_joins 65 = .ok (.invokevirtual 41, 3) := by decide +kernel
theorem dX7_joins_68 : decode cX7_joins 68 = .ok (.aload_n 0, 1) := by decide +kernel
theorem dX7_joins_69 : decode cX7_joins 69 = .ok (.iload_n 3, 1) := by decide +kernel
theorem dX7_joins_70 : decode cX7_joins 70 = .ok (.iconst 2, 1) := by decide +kernel
theorem dX7_joins_71 : decode cX7_joins 71 = .ok (.iload_n 1, 1) := by decide +kernel
theorem dX7_joins_72 : decode cX7_joins 72 = .ok (.invokevirtual 41, 3) := by decide +kernel
theorem dX7_joins_75 : decode cX7_joins 75 = .ok (.aload_n 0, 1) := by decide +kernel
theorem dX7_joins_76 : decode cX7_joins 76 = .ok (.iload_n 3, 1) := by decide +kernel
theorem dX7_joins_77 : decode cX7_joins 77 = .ok (.iconst 3, 1) := by decide +kernel
theorem dX7_joins_78 : decode cX7_joins 78 = .ok (.iload_n 2, 1) := by decide +kernel
theorem dX7_joins_79 : decode cX7_joins 79 = .ok (.invokevirtual 41, 3) := by decide +kernel
theorem dX7_joins_82 : decode cX7_joins 82 = .ok (.aload_n 0, 1) := by decide +kernel
theorem dX7_joins_83 : decode cX7_joins 83 = .ok (.iload_n 3, 1) := by decide +kernel
theorem dX7_joins_84 : decode cX7_joins 84 = .ok (.iconst 4, 1) := by decide +kernel
theorem dX7_joins_85 : decode cX7_joins 85 = .ok (.iconst 0, 1) := by decide +kernel
theorem dX7_joins_86 : decode cX7_joins 86 = .ok (.invokevirtual 41, 3) := by decide +kernel
theorem dX7_joins_89 : decode cX7_joins 89 = .ok (.aload_n 0, 1) := by decide +kernel
theorem dX7_joins_90 : decode cX7_joins 90 = .ok (.iload_n 3, 1) := by decide +kernel
theorem dX7_joins_91 : decode cX7_joins 91 = .ok (.iconst 5, 1) := by decide +kernel
theorem dX7_joins_92 : decode cX7_joins 92 = .ok (.iconst (-1), 1) := by decide +kernel
theorem dX7_joins_93 : decode cX7_joins 93 = .ok (.invokevirtual 41, 3) := by decide +kernel
theorem dX7_joins_96 : decode cX7_joins 96 = .ok (.aload_n 0, 1) := by decide +kernel
theorem dX7_joins_97 : decode cX7_joins 97 = .ok (.iload_n 3, 1) := by decide +kernel
theorem dX7_joins_98 : decode cX7_joins 98 = .ok (.bipush 6, 2) := by decide +kernel
theorem dX7_joins_100 : decode cX7_joins 100 = .ok (.iconst 0, 1) := by decide +kernel
theorem dX7_joins_101 : decode cX7_joins 101 = .ok (.invokevirtual 41, 3) := by decide +kernel
theorem dX7_joins_104 : decode cX7_joins 104 = .ok (.aload_n 0, 1) := by decide +kernel
theorem dX7_joins_105 : decode cX7_joins 105 = .ok (.getfield 7, 3) := by decide +kernel
theorem dX7_joins_108 : decode cX7_joins 108 = .ok (.iconst 0, 1) := by decide +kernel
theorem dX7_joins_109 : decode cX7_joins 109 = .ok (.dup2, 1) := by decide +kernel
theorem dX7_joins_110 : decode cX7_joins 110 = .ok (.iaload, 1) := by decide +kernel
theorem dX7_joins_111 : decode cX7_joins 111 = .ok (.iconst 1, 1) := by decide +kernel
theorem dX7_joins_112 : decode cX7_joins 112 = .ok (.iadd, 1) := by decide +kernel
theorem dX7_joins_113 : decode cX7_joins 113 = .ok (.iastore, 1) := by decide +kernel
theorem dX7_joins_114 : decode cX7_joins 114 = .ok (.aload_n 0, 1) := by decide +kernel
theorem dX7_joins_115 : decode cX7_joins 115 = .ok (.getfield 7, 3) := by decide +kernel
theorem dX7_joins_118 : decode cX7_joins 118 = .ok (.iconst 5, 1) := by decide +kernel
theorem dX7_joins_119 : decode cX7_joins 119 = .ok (.dup2, 1) := by decide +kernel
theorem dX7_joins_120 : decode cX7_joins 120 = .ok (.iaload, 1) := by decide +kernel
theorem dX7_joins_121 : decode cX7_joins 121 = .ok (.iconst 1, 1) := by decide +kernel
theorem dX7_joins_122 : decode cX7_joins 122 = .ok (.iadd, 1) := by decide +kernel
theorem dX7_joins_123 : decode cX7_joins 123 = .ok (.iastore, 1) := by decide +kernel
theorem dX7_joins_124 : decode cX7_joins 124 = .ok (.aload_n 0, 1) := by decide +kernel
theorem dX7_joins_125 : decode cX7_joins 125 = .ok (.getfield 7, 3) := by decide +kernel
theorem dX7_joins_128 : decode cX7_joins 128 = .ok (.iconst 5, 1) := by decide +kernel
theorem dX7_joins_129 : decode cX7_joins 129 = .ok (.iaload, 1) := by decide +kernel
theorem dX7_joins_130 : decode cX7_joins 130 = .ok (.iconst 1, 1) := by decide +kernel
theorem dX7_joins_131 : decode cX7_joins 131 = .ok (.isub, 1) := by decide +kernel
theorem dX7_joins_132 : decode cX7_joins 132 = .ok (.ireturn, 1) := by decide +kernel
theorem dX7_join_0 : decode cX7_join 0 = .ok (.aload_n 0, 1) := by decide +kernel
theorem dX7_join_1 : decode cX7_join 1 = .ok (.aload_n 0, 1) := by decide +kernel
theorem dX7_join_2 : decode cX7_join 2 = .ok (.iload_n 1, 1) := by decide +kernel
theorem dX7_join_3 : decode cX7_join 3 = .ok (.iload_n 2, 1) := by decide +kernel
theorem dX7_join_4 : decode cX7_join 4 = .ok (.aload_n 0, 1) := by decide +kernel
theorem dX7_join_5 : decode cX7_join 5 = .ok (.getfield 7, 3) := by decide +kernel
theorem dX7_join_8 : decode cX7_join 8 = .ok (.iconst 0, 1) := by decide +kernel
theorem dX7_join_9 : decode cX7_join 9 = .ok (.iaload, 1) := by decide +kernel
theorem dX7_join_10 : decode cX7_join 10 = .ok (.invokevirtual 52, 3) := by decide +kernel
theorem dX7_join_13 : decode cX7_join 13 = .ok (.invokevirtual 56, 3) := by decide +kernel
theorem dX7_join_16 : decode cX7_join 16 = .ok (.ifCond .eq 5, 3) := by decide +kernel
theorem dX7_join_19 : decode cX7_join 19 = .ok (.iconst 0, 1) := by decide +kernel
theorem dX7_join_20 : decode cX7_join 20 = .ok (.ireturn, 1) := by decide +kernel
theorem dX7_join_21 : decode cX7_join 21 = .ok (.aload_n 0, 1) := by decide +kernel
theorem dX7_join_22 : decode cX7_join 22 = .ok (.invokevirtual 60, 3) := by decide +kernel
theorem dX7_join_25 : decode cX7_join 25 = .ok (.aload_n 0, 1) := by decide +kernel
theorem dX7_join_26 : decode cX7_join 26 = .ok (.iload_n 1, 1) := by decide +kernel
theorem dX7_join_27 : decode cX7_join 27 = .ok (.iload_n 2, 1) := by decide +kernel
theorem dX7_join_28 : decode cX7_join 28 = .ok (.aload_n 0, 1) := by decide +kernel
theorem dX7_join_29 : decode cX7_join 29 = .ok (.getfield 7, 3) := by decide +kernel
theorem dX7_join_32 : decode cX7_join 32 = .ok (.iconst 0, 1) := by decide +kernel
theorem dX7_join_33 : decode cX7_join 33 = .ok (.iaload, 1) := by decide +kernel
theorem dX7_join_34 : decode cX7_join 34 = .ok (.invokevirtual 63, 3) := by decide +kernel
theorem dX7_join_37 : decode cX7_join 37 = .ok (.ireturn, 1) := by decide +kernel
theorem dX7_joinAt_0 : decode cX7_joinAt 0 = .ok (.aload_n 0, 1) := by decide +kernel
theorem dX7_joinAt_1 : decode cX7_joinAt 1 = .ok (.aload_n 0, 1) := by decide +kernel
theorem dX7_joinAt_2 : decode cX7_joinAt 2 = .ok (.iload_n 1, 1) := by decide +kernel
theorem dX7_joinAt_3 : decode cX7_joinAt 3 = .ok (.iload_n 2, 1) := by decide +kernel
theorem dX7_joinAt_4 : decode cX7_joinAt 4 = .ok (.iload_n 3, 1) := by decide +kernel
theorem dX7_joinAt_5 : decode cX7_joinAt 5 = .ok (.invokevirtual 52, 3) := by decide +kernel
theorem dX7_joinAt_8 : decode cX7_joinAt 8 = .ok (.invokevirtual 56, 3) := by decide +kernel
theorem dX7_joinAt_11 : decode cX7_joinAt 11 = .ok (.ifCond .eq 5, 3) := by decide +kernel
theorem dX7_joinAt_14 : decode cX7_joinAt 14 = .ok (.iconst 0, 1) := by decide +kernel
theorem dX7_joinAt_15 : decode cX7_joinAt 15 = .ok (.ireturn, 1) := by decide +kernel
theorem dX7_joinAt_16 : decode cX7_joinAt 16 = .ok (.aload_n 0, 1) := by decide +kernel
theorem dX7_joinAt_17 : decode cX7_joinAt 17 = .ok (.invokevirtual 60, 3) := by decide +kernel
theorem dX7_joinAt_20 : decode cX7_joinAt 20 = .ok (.aload_n 0, 1) := by decide +kernel
theorem dX7_joinAt_21 : decode cX7_joinAt 21 = .ok (.iload_n 1, 1) := by decide +kernel
theorem dX7_joinAt_22 : decode cX7_joinAt 22 = .ok (.iload_n 2, 1) := by decide +kernel
theorem dX7_joinAt_23 : decode cX7_joinAt 23 = .ok (.iload_n 3, 1) := by decide +kernel
theorem dX7_joinAt_24 : decode cX7_joinAt 24 = .ok (.invokevirtual 63, 3) := by decide +kernel
theorem dX7_joinAt_27 : decode cX7_joinAt 27 = .ok (.ireturn, 1) := by decide +kernel
theorem dX7_goes_0 : decode cX7_goes 0 = .ok (.iload_n 1, 1) := by decide +kernel
theorem dX7_goes_1 : decode cX7_goes 1 = .ok (.ifCond .le 13, 3) := by decide +kernel
theorem dX7_goes_4 : decode cX7_goes 4 = .ok (.aload_n 0, 1) := by decide +kernel
theorem dX7_goes_5 : decode cX7_goes 5 = .ok (.iload_n 1, 1) := by decide +kernel
theorem dX7_goes_6 : decode cX7_goes 6 = .ok (.iconst 1, 1) := by decide +kernel
theorem dX7_goes_7 : decode cX7_goes 7 = .ok (.isub, 1) := by decide +kernel
theorem dX7_goes_8 : decode cX7_goes 8 = .ok (.bipush 6, 2) := by decide +kernel
theorem dX7_goes_10 : decode cX7_goes 10 = .ok (.iconst 0, 1) := by decide +kernel
theorem dX7_goes_11 : decode cX7_goes 11 = .ok (.invokevirtual 41, 3) := by decide +kernel
theorem dX7_goes_14 : decode cX7_goes 14 = .ok (.aload_n 0, 1) := by decide +kernel
theorem dX7_goes_15 : decode cX7_goes 15 = .ok (.getfield 7, 3) := by decide +kernel
theorem dX7_goes_18 : decode cX7_goes 18 = .ok (.iconst 0, 1) := by decide +kernel
theorem dX7_goes_19 : decode cX7_goes 19 = .ok (.dup2, 1) := by decide +kernel
theorem dX7_goes_20 : decode cX7_goes 20 = .ok (.iaload, 1) := by decide +kernel
theorem dX7_goes_21 : decode cX7_goes 21 = .ok (.iconst 1, 1) := by decide +kernel
theorem dX7_goes_22 : decode cX7_goes 22 = .ok (.isub, 1) := by decide +kernel
theorem dX7_goes_23 : decode cX7_goes 23 = .ok (.iastore, 1) := by decide +kernel
theorem dX7_goes_24 : decode cX7_goes 24 = .ok (.iload_n 1, 1) := by decide +kernel
theorem dX7_goes_25 : decode cX7_goes 25 = .ok (.istore_n 2, 1) := by decide +kernel
theorem dX7_goes_26 : decode cX7_goes 26 = .ok (.iload_n 2, 1) := by decide +kernel
theorem dX7_goes_27 : decode cX7_goes 27 = .ok (.aload_n 0, 1) := by decide +kernel
theorem dX7_goes_28 : decode cX7_goes 28 = .ok (.getfield 7, 3) := by decide +kernel
theorem dX7_goes_31 : decode cX7_goes 31 = .ok (.iconst 0, 1) := by decide +kernel
theorem dX7_goes_32 : decode cX7_goes 32 = .ok (.iaload, 1) := by decide +kernel
theorem dX7_goes_33 : decode cX7_goes 33 = .ok (.if_icmp .ge 17, 3) := by decide +kernel
theorem dX7_goes_36 : decode cX7_goes 36 = .ok (.aload_n 0, 1) := by decide +kernel
theorem dX7_goes_37 : decode cX7_goes 37 = .ok (.iload_n 2, 1) := by decide +kernel
theorem dX7_goes_38 : decode cX7_goes 38 = .ok (.iconst 1, 1) := by decide +kernel
theorem dX7_goes_39 : decode cX7_goes 39 = .ok (.iadd, 1) := by decide +kernel
theorem dX7_goes_40 : decode cX7_goes 40 = .ok (.iload_n 2, 1) := by decide +kernel
theorem dX7_goes_41 : decode cX7_goes 41 = .ok (.invokevirtual 49, 3) := by decide +kernel
theorem dX7_goes_44 : decode cX7_goes 44 = .ok (.iinc 2 1, 3) := by decide +kernel
theorem dX7_goes_47 : decode cX7_goes 47 = .ok (.goto (-21), 3) := by decide +kernel
theorem dX7_goes_50 : decode cX7_goes 50 = .ok (.iload_n 1, 1) := by decide +kernel
theorem dX7_goes_51 : decode cX7_goes 51 = .ok (.aload_n 0, 1) := by decide +kernel
theorem dX7_goes_52 : decode cX7_goes 52 = .ok (.getfield 7, 3) := by decide +kernel
theorem dX7_goes_55 : decode cX7_goes 55 = .ok (.iconst 0, 1) := by decide +kernel
theorem dX7_goes_56 : decode cX7_goes 56 = .ok (.iaload, 1) := by decide +kernel
theorem dX7_goes_57 : decode cX7_goes 57 = .ok (.if_icmp .ge 10, 3) := by decide +kernel
theorem dX7_goes_60 : decode cX7_goes 60 = .ok (.aload_n 0, 1) := by decide +kernel
theorem dX7_goes_61 : decode cX7_goes 61 = .ok (.iload_n 1, 1) := by decide +kernel
theorem dX7_goes_62 : decode cX7_goes 62 = .ok (.iconst 5, 1) := by decide +kernel
theorem dX7_goes_63 : decode cX7_goes 63 = .ok (.iconst (-1), 1) := by decide +kernel
theorem dX7_goes_64 : decode cX7_goes 64 = .ok (.invokevirtual 41, 3) := by decide +kernel
theorem dX7_goes_67 : decode cX7_goes 67 = .ok (.return_, 1) := by decide +kernel
theorem dX7_leave_0 : decode cX7_leave 0 = .ok (.aload_n 0, 1) := by decide +kernel
theorem dX7_leave_1 : decode cX7_leave 1 = .ok (.aload_n 0, 1) := by decide +kernel
theorem dX7_leave_2 : decode cX7_leave 2 = .ok (.iload_n 1, 1) := by decide +kernel
theorem dX7_leave_3 : decode cX7_leave 3 = .ok (.invokevirtual 66, 3) := by decide +kernel
theorem dX7_leave_6 : decode cX7_leave 6 = .ok (.invokevirtual 56, 3) := by decide +kernel
theorem dX7_leave_9 : decode cX7_leave 9 = .ok (.ifCond .eq 5, 3) := by decide +kernel
theorem dX7_leave_12 : decode cX7_leave 12 = .ok (.iconst 0, 1) := by decide +kernel
theorem dX7_leave_13 : decode cX7_leave 13 = .ok (.ireturn, 1) := by decide +kernel
theorem dX7_leave_14 : decode cX7_leave 14 = .ok (.aload_n 0, 1) := by decide +kernel
theorem dX7_leave_15 : decode cX7_leave 15 = .ok (.invokevirtual 60, 3) := by decide +kernel
theorem dX7_leave_18 : decode cX7_leave 18 = .ok (.aload_n 0, 1) := by decide +kernel
theorem dX7_leave_19 : decode cX7_leave 19 = .ok (.iload_n 1, 1) := by decide +kernel
theorem dX7_leave_20 : decode cX7_leave 20 = .ok (.invokevirtual 45, 3) := by decide +kernel
theorem dX7_leave_23 : decode cX7_leave 23 = .ok (.istore_n 2, 1) := by decide +kernel
theorem dX7_leave_24 : decode cX7_leave 24 = .ok (.aload_n 0, 1) := by decide +kernel
theorem dX7_leave_25 : decode cX7_leave 25 = .ok (.iload_n 2, 1) := by decide +kernel
theorem dX7_leave_26 : decode cX7_leave 26 = .ok (.invokevirtual 69, 3) := by decide +kernel
theorem dX7_leave_29 : decode cX7_leave 29 = .ok (.iload_n 2, 1) := by decide +kernel
theorem dX7_leave_30 : decode cX7_leave 30 = .ok (.ireturn, 1) := by decide +kernel
theorem dX7_serves_0 : decode cX7_serves 0 = .ok (.aload_n 0, 1) := by decide +kernel
theorem dX7_serves_1 : decode cX7_serves 1 = .ok (.iconst 0, 1) := by decide +kernel
theorem dX7_serves_2 : decode cX7_serves 2 = .ok (.iconst 0, 1) := by decide +kernel
theorem dX7_serves_3 : decode cX7_serves 3 = .ok (.invokevirtual 33, 3) := by decide +kernel
theorem dX7_serves_6 : decode cX7_serves 6 = .ok (.istore_n 1, 1) := by decide +kernel
theorem dX7_serves_7 : decode cX7_serves 7 = .ok (.aload_n 0, 1) := by decide +kernel
theorem dX7_serves_8 : decode cX7_serves 8 = .ok (.iconst 0, 1) := by decide +kernel
theorem dX7_serves_9 : decode cX7_serves 9 = .ok (.invokevirtual 69, 3) := by decide +kernel
theorem dX7_serves_12 : decode cX7_serves 12 = .ok (.aload_n 0, 1) := by decide +kernel
theorem dX7_serves_13 : decode cX7_serves 13 = .ok (.getfield 7, 3) := by decide +kernel
theorem dX7_serves_16 : decode cX7_serves 16 = .ok (.iconst 4, 1) := by decide +kernel
theorem dX7_serves_17 : decode cX7_serves 17 = .ok (.dup2, 1) := by decide +kernel
theorem dX7_serves_18 : decode cX7_serves 18 = .ok (.iaload, 1) := by decide +kernel
theorem dX7_serves_19 : decode cX7_serves 19 = .ok (.iconst 1, 1) := by decide +kernel
theorem dX7_serves_20 : decode cX7_serves 20 = .ok (.iadd, 1) := by decide +kernel
theorem dX7_serves_21 : decode cX7_serves 21 = .ok (.iastore, 1) := by decide +kernel
theorem dX7_serves_22 : decode cX7_serves 22 = .ok (.iload_n 1, 1) := by decide +kernel
theorem dX7_serves_23 : decode cX7_serves 23 = .ok (.ireturn, 1) := by decide +kernel
theorem dX7_serve_0 : decode cX7_serve 0 = .ok (.aload_n 0, 1) := by decide +kernel
theorem dX7_serve_1 : decode cX7_serve 1 = .ok (.aload_n 0, 1) := by decide +kernel
theorem dX7_serve_2 : decode cX7_serve 2 = .ok (.getfield 7, 3) := by decide +kernel
theorem dX7_serve_5 : decode cX7_serve 5 = .ok (.iconst 0, 1) := by decide +kernel
theorem dX7_serve_6 : decode cX7_serve 6 = .ok (.iaload, 1) := by decide +kernel
theorem dX7_serve_7 : decode cX7_serve 7 = .ok (.ifCond .ne 7, 3) := by decide +kernel
theorem dX7_serve_10 : decode cX7_serve 10 = .ok (.iconst 1, 1) := by decide +kernel
theorem dX7_serve_11 : decode cX7_serve 11 = .ok (.goto 4, 3) := by decide +kernel
theorem dX7_serve_14 : decode cX7_serve 14 = .ok (.iconst 0, 1) := by decide +kernel
theorem dX7_serve_15 : decode cX7_serve 15 = .ok (.invokevirtual 56, 3) := by decide +kernel
theorem dX7_serve_18 : decode cX7_serve 18 = .ok (.ifCond .eq 5, 3) := by decide +kernel
theorem dX7_serve_21 : decode cX7_serve 21 = .ok (.iconst 0, 1) := by decide +kernel
theorem dX7_serve_22 : decode cX7_serve 22 = .ok (.ireturn, 1) := by decide +kernel
theorem dX7_serve_23 : decode cX7_serve 23 = .ok (.aload_n 0, 1) := by decide +kernel
theorem dX7_serve_24 : decode cX7_serve 24 = .ok (.invokevirtual 60, 3) := by decide +kernel
theorem dX7_serve_27 : decode cX7_serve 27 = .ok (.aload_n 0, 1) := by decide +kernel
theorem dX7_serve_28 : decode cX7_serve 28 = .ok (.invokevirtual 73, 3) := by decide +kernel
theorem dX7_serve_31 : decode cX7_serve 31 = .ok (.ireturn, 1) := by decide +kernel
theorem dX7_whyNotSay_0 : decode cX7_whyNotSay 0 = .ok (.aload_n 0, 1) := by decide +kernel
theorem dX7_whyNotSay_1 : decode cX7_whyNotSay 1 = .ok (.iload_n 1, 1) := by decide +kernel
theorem dX7_whyNotSay_2 : decode cX7_whyNotSay 2 = .ok (.invokevirtual 45, 3) := by decide +kernel
theorem dX7_whyNotSay_5 : decode cX7_whyNotSay 5 = .ok (.iconst (-1), 1) := by decide +kernel
theorem dX7_whyNotSay_6 : decode cX7_whyNotSay 6 = .ok (.if_icmp .ne 7, 3) := by decide +kernel
theorem dX7_whyNotSay_9 : decode cX7_whyNotSay 9 = .ok (.iconst 1, 1) := by decide +kernel
theorem dX7_whyNotSay_10 : decode cX7_whyNotSay 10 = .ok (.goto 18, 3) := by decide +kernel
theorem dX7_whyNotSay_13 : decode cX7_whyNotSay 13 = .ok (.iload_n 2, 1) := by decide +kernel
theorem dX7_whyNotSay_14 : decode cX7_whyNotSay 14 = .ok (.iconst 0, 1) := by decide +kernel
theorem dX7_whyNotSay_15 : decode cX7_whyNotSay 15 = .ok (.bipush 99, 2) := by decide +kernel
theorem dX7_whyNotSay_17 : decode cX7_whyNotSay 17 = .ok (.invokestatic 37, 3) := by decide +kernel
theorem dX7_whyNotSay_20 : decode cX7_whyNotSay 20 = .ok (.ifCond .eq 7, 3) := by decide +kernel
theorem dX7_whyNotSay_23 : decode cX7_whyNotSay 23 = .ok (.iconst 0, 1) := by decide +kernel
theorem dX7_whyNotSay_24 : decode cX7_whyNotSay 24 = .ok (.goto 4, 3) := by decide +kernel
theorem dX7_whyNotSay_27 : decode cX7_whyNotSay 27 = .ok (.iconst 2, 1) := by decide +kernel
theorem dX7_whyNotSay_28 : decode cX7_whyNotSay 28 = .ok (.ireturn, 1) := by decide +kernel
theorem dX7_says_0 : decode cX7_says 0 = .ok (.aload_n 0, 1) := by decide +kernel
theorem dX7_says_1 : decode cX7_says 1 = .ok (.iload_n 1, 1) := by decide +kernel
theorem dX7_says_2 : decode cX7_says 2 = .ok (.invokevirtual 45, 3) := by decide +kernel
theorem dX7_says_5 : decode cX7_says 5 = .ok (.istore_n 3, 1) := by decide +kernel
theorem dX7_says_6 : decode cX7_says 6 = .ok (.aload_n 0, 1) := by decide +kernel
theorem dX7_says_7 : decode cX7_says 7 = .ok (.iload_n 3, 1) := by decide +kernel
theorem dX7_says_8 : decode cX7_says 8 = .ok (.iconst 2, 1) := by decide +kernel
theorem dX7_says_9 : decode cX7_says 9 = .ok (.invokevirtual 33, 3) := by decide +kernel
theorem dX7_says_12 : decode cX7_says 12 = .ok (.istore 4, 2) := by decide +kernel
theorem dX7_says_14 : decode cX7_says 14 = .ok (.aload_n 0, 1) := by decide +kernel
theorem dX7_says_15 : decode cX7_says 15 = .ok (.iload_n 3, 1) := by decide +kernel
theorem dX7_says_16 : decode cX7_says 16 = .ok (.iconst 2, 1) := by decide +kernel
theorem dX7_says_17 : decode cX7_says 17 = .ok (.iload_n 2, 1) := by decide +kernel
theorem dX7_says_18 : decode cX7_says 18 = .ok (.invokevirtual 41, 3) := by decide +kernel
theorem dX7_says_21 : decode cX7_says 21 = .ok (.iload 4, 2) := by decide +kernel
theorem dX7_says_23 : decode cX7_says 23 = .ok (.ireturn, 1) := by decide +kernel
theorem dX7_say_0 : decode cX7_say 0 = .ok (.aload_n 0, 1) := by decide +kernel
theorem dX7_say_1 : decode cX7_say 1 = .ok (.aload_n 0, 1) := by decide +kernel
theorem dX7_say_2 : decode cX7_say 2 = .ok (.iload_n 1, 1) := by decide +kernel
theorem dX7_say_3 : decode cX7_say 3 = .ok (.iload_n 2, 1) := by decide +kernel
theorem dX7_say_4 : decode cX7_say 4 = .ok (.invokevirtual 77, 3) := by decide +kernel
theorem dX7_say_7 : decode cX7_say 7 = .ok (.invokevirtual 56, 3) := by decide +kernel
theorem dX7_say_10 : decode cX7_say 10 = .ok (.ifCond .eq 5, 3) := by decide +kernel
theorem dX7_say_13 : decode cX7_say 13 = .ok (.iconst 0, 1) := by decide +kernel
theorem dX7_say_14 : decode cX7_say 14 = .ok (.ireturn, 1) := by decide +kernel
theorem dX7_say_15 : decode cX7_say 15 = .ok (.aload_n 0, 1) := by decide +kernel
theorem dX7_say_16 : decode cX7_say 16 = .ok (.invokevirtual 60, 3) := by decide +kernel
theorem dX7_say_19 : decode cX7_say 19 = .ok (.aload_n 0, 1) := by decide +kernel
theorem dX7_say_20 : decode cX7_say 20 = .ok (.iload_n 1, 1) := by decide +kernel
theorem dX7_say_21 : decode cX7_say 21 = .ok (.iload_n 2, 1) := by decide +kernel
theorem dX7_say_22 : decode cX7_say 22 = .ok (.invokevirtual 80, 3) := by decide +kernel
theorem dX7_say_25 : decode cX7_say 25 = .ok (.ireturn, 1) := by decide +kernel
theorem dX7_setSplit_0 : decode cX7_setSplit 0 = .ok (.aload_n 0, 1) := by decide +kernel
theorem dX7_setSplit_1 : decode cX7_setSplit 1 = .ok (.iload_n 1, 1) := by decide +kernel
theorem dX7_setSplit_2 : decode cX7_setSplit 2 = .ok (.iconst 0, 1) := by decide +kernel
theorem dX7_setSplit_3 : decode cX7_setSplit 3 = .ok (.bipush 100, 2) := by decide +kernel
theorem dX7_setSplit_5 : decode cX7_setSplit 5 = .ok (.invokestatic 37, 3) := by decide +kernel
theorem dX7_setSplit_8 : decode cX7_setSplit 8 = .ok (.ifCond .eq 7, 3) := by decide +kernel
theorem dX7_setSplit_11 : decode cX7_setSplit 11 = .ok (.iconst 0, 1) := by decide +kernel
theorem dX7_setSplit_12 : decode cX7_setSplit 12 = .ok (.goto 4, 3) := by decide +kernel
theorem dX7_setSplit_15 : decode cX7_setSplit 15 = .ok (.iconst 1, 1) := by decide +kernel
theorem dX7_setSplit_16 : decode cX7_setSplit 16 = .ok (.invokevirtual 56, 3) := by decide +kernel
theorem dX7_setSplit_19 : decode cX7_setSplit 19 = .ok (.ifCond .eq 5, 3) := by decide +kernel
theorem dX7_setSplit_22 : decode cX7_setSplit 22 = .ok (.iconst 0, 1) := by decide +kernel
theorem dX7_setSplit_23 : decode cX7_setSplit 23 = .ok (.ireturn, 1) := by decide +kernel
theorem dX7_setSplit_24 : decode cX7_setSplit 24 = .ok (.aload_n 0, 1) := by decide +kernel
theorem dX7_setSplit_25 : decode cX7_setSplit 25 = .ok (.invokevirtual 60, 3) := by decide +kernel
theorem dX7_setSplit_28 : decode cX7_setSplit 28 = .ok (.aload_n 0, 1) := by decide +kernel
theorem dX7_setSplit_29 : decode cX7_setSplit 29 = .ok (.getfield 7, 3) := by decide +kernel
theorem dX7_setSplit_32 : decode cX7_setSplit 32 = .ok (.iconst 1, 1) := by decide +kernel
theorem dX7_setSplit_33 : decode cX7_setSplit 33 = .ok (.iaload, 1) := by decide +kernel
theorem dX7_setSplit_34 : decode cX7_setSplit 34 = .ok (.istore_n 2, 1) := by decide +kernel
theorem dX7_setSplit_35 : decode cX7_setSplit 35 = .ok (.aload_n 0, 1) := by decide +kernel
theorem dX7_setSplit_36 : decode cX7_setSplit 36 = .ok (.getfield 7, 3) := by decide +kernel
theorem dX7_setSplit_39 : decode cX7_setSplit 39 = .ok (.iconst 1, 1) := by decide +kernel
theorem dX7_setSplit_40 : decode cX7_setSplit 40 = .ok (.iload_n 1, 1) := by decide +kernel
theorem dX7_setSplit_41 : decode cX7_setSplit 41 = .ok (.iastore, 1) := by decide +kernel
theorem dX7_setSplit_42 : decode cX7_setSplit 42 = .ok (.iload_n 2, 1) := by decide +kernel
theorem dX7_setSplit_43 : decode cX7_setSplit 43 = .ok (.ireturn, 1) := by decide +kernel
theorem dX7_gain_0 : decode cX7_gain 0 = .ok (.aload_n 0, 1) := by decide +kernel
theorem dX7_gain_1 : decode cX7_gain 1 = .ok (.iload_n 1, 1) := by decide +kernel
theorem dX7_gain_2 : decode cX7_gain 2 = .ok (.iconst 1, 1) := by decide +kernel
theorem dX7_gain_3 : decode cX7_gain 3 = .ok (.iadd, 1) := by decide +kernel
theorem dX7_gain_4 : decode cX7_gain 4 = .ok (.iconst 2, 1) := by decide +kernel
theorem dX7_gain_5 : decode cX7_gain 5 = .ok (.invokevirtual 33, 3) := by decide +kernel
theorem dX7_gain_8 : decode cX7_gain 8 = .ok (.aload_n 0, 1) := by decide +kernel
theorem dX7_gain_9 : decode cX7_gain 9 = .ok (.iload_n 1, 1) := by decide +kernel
theorem dX7_gain_10 : decode cX7_gain 10 = .ok (.iconst 3, 1) := by decide +kernel
theorem dX7_gain_11 : decode cX7_gain 11 = .ok (.invokevirtual 33, 3) := by decide +kernel
theorem dX7_gain_14 : decode cX7_gain 14 = .ok (.imul, 1) := by decide +kernel
theorem dX7_gain_15 : decode cX7_gain 15 = .ok (.ireturn, 1) := by decide +kernel
theorem dX7_loss_0 : decode cX7_loss 0 = .ok (.aload_n 0, 1) := by decide +kernel
theorem dX7_loss_1 : decode cX7_loss 1 = .ok (.iload_n 1, 1) := by decide +kernel
theorem dX7_loss_2 : decode cX7_loss 2 = .ok (.iconst 2, 1) := by decide +kernel
theorem dX7_loss_3 : decode cX7_loss 3 = .ok (.invokevirtual 33, 3) := by decide +kernel
theorem dX7_loss_6 : decode cX7_loss 6 = .ok (.aload_n 0, 1) := by decide +kernel
theorem dX7_loss_7 : decode cX7_loss 7 = .ok (.iload_n 1, 1) := by decide +kernel
theorem dX7_loss_8 : decode cX7_loss 8 = .ok (.iconst 1, 1) := by decide +kernel
theorem dX7_loss_9 : decode cX7_loss 9 = .ok (.iadd, 1) := by decide +kernel
theorem dX7_loss_10 : decode cX7_loss 10 = .ok (.iconst 3, 1) := by decide +kernel
theorem dX7_loss_11 : decode cX7_loss 11 = .ok (.invokevirtual 33, 3) := by decide +kernel
theorem dX7_loss_14 : decode cX7_loss 14 = .ok (.imul, 1) := by decide +kernel
theorem dX7_loss_15 : decode cX7_loss 15 = .ok (.ireturn, 1) := by decide +kernel
theorem dX7_surplus_0 : decode cX7_surplus 0 = .ok (.aload_n 0, 1) := by decide +kernel
theorem dX7_surplus_1 : decode cX7_surplus 1 = .ok (.iload_n 1, 1) := by decide +kernel
theorem dX7_surplus_2 : decode cX7_surplus 2 = .ok (.invokevirtual 83, 3) := by decide +kernel
theorem dX7_surplus_5 : decode cX7_surplus 5 = .ok (.aload_n 0, 1) := by decide +kernel
theorem dX7_surplus_6 : decode cX7_surplus 6 = .ok (.iload_n 1, 1) := by decide +kernel
theorem dX7_surplus_7 : decode cX7_surplus 7 = .ok (.invokevirtual 86, 3) := by decide +kernel
theorem dX7_surplus_10 : decode cX7_surplus 10 = .ok (.isub, 1) := by decide +kernel
theorem dX7_surplus_11 : decode cX7_surplus 11 = .ok (.ireturn, 1) := by decide +kernel
theorem dX7_fairPrice_0 : decode cX7_fairPrice 0 = .ok (.aload_n 0, 1) := by decide +kernel
theorem dX7_fairPrice_1 : decode cX7_fairPrice 1 = .ok (.iload_n 1, 1) := by decide +kernel
theorem dX7_fairPrice_2 : decode cX7_fairPrice 2 = .ok (.invokevirtual 86, 3) := by decide +kernel
theorem dX7_fairPrice_5 : decode cX7_fairPrice 5 = .ok (.aload_n 0, 1) := by decide +kernel
theorem dX7_fairPrice_6 : decode cX7_fairPrice 6 = .ok (.iload_n 1, 1) := by decide +kernel
theorem dX7_fairPrice_7 : decode cX7_fairPrice 7 = .ok (.invokevirtual 89, 3) := by decide +kernel
theorem dX7_fairPrice_10 : decode cX7_fairPrice 10 = .ok (.aload_n 0, 1) := by decide +kernel
theorem dX7_fairPrice_11 : decode cX7_fairPrice 11 = .ok (.getfield 7, 3) := by decide +kernel
theorem dX7_fairPrice_14 : decode cX7_fairPrice 14 = .ok (.iconst 1, 1) := by decide +kernel
theorem dX7_fairPrice_15 : decode cX7_fairPrice 15 = .ok (.iaload, 1) := by decide +kernel
theorem dX7_fairPrice_16 : decode cX7_fairPrice 16 = .ok (.imul, 1) := by decide +kernel
theorem dX7_fairPrice_17 : decode cX7_fairPrice 17 = .ok (.bipush 100, 2) := by decide +kernel
theorem dX7_fairPrice_19 : decode cX7_fairPrice 19 = .ok (.idiv, 1) := by decide +kernel
theorem dX7_fairPrice_20 : decode cX7_fairPrice 20 = .ok (.iadd, 1) := by decide +kernel
theorem dX7_fairPrice_21 : decode cX7_fairPrice 21 = .ok (.ireturn, 1) := by decide +kernel
theorem dX7_friendsAgainst_0 : decode cX7_friendsAgainst 0 = .ok (.aload_n 0, 1) := by decide +kernel
theorem dX7_friendsAgainst_1 : decode cX7_friendsAgainst 1 = .ok (.iload_n 1, 1) := by decide +kernel
theorem dX7_friendsAgainst_2 : decode cX7_friendsAgainst 2 = .ok (.bipush 6, 2) := by decide +kernel
theorem dX7_friendsAgainst_4 : decode cX7_friendsAgainst 4 = .ok (.invokevirtual 33, 3) := by decide +kernel
theorem dX7_friendsAgainst_7 : decode cX7_friendsAgainst 7 = .ok (.iconst 1, 1) := by decide +kernel
theorem dX7_friendsAgainst_8 : decode cX7_friendsAgainst 8 = .ok (.if_icmp .ne 5, 3) := by decide +kernel
theorem dX7_friendsAgainst_11 : decode cX7_friendsAgainst 11 = .ok (.iconst 1, 1) := by decide +kernel
theorem dX7_friendsAgainst_12 : decode cX7_friendsAgainst 12 = .ok (.ireturn, 1) := by decide +kernel
theorem dX7_friendsAgainst_13 : decode cX7_friendsAgainst 13 = .ok (.iload_n 1, 1) := by decide +kernel
theorem dX7_friendsAgainst_14 : decode cX7_friendsAgainst 14 = .ok (.ifCond .le 18, 3) := by decide +kernel
theorem dX7_friendsAgainst_17 : decode cX7_friendsAgainst 17 = .ok (.aload_n 0, 1) := by decide +kernel
theorem dX7_friendsAgainst_18 : decode cX7_friendsAgainst 18 = .ok (.iload_n 1, 1) := by decide +kernel
theorem dX7_friendsAgainst_19 : decode cX7_friendsAgainst 19 = .ok (.iconst 1, 1) := by decide +kernel
theorem dX7_friendsAgainst_20 : decode cX7_friendsAgainst 20 = .ok (.isub, 1) := by decide +kernel
theorem dX7_friendsAgainst_21 : decode cX7_friendsAgainst 21 = .ok (.bipush 6, 2) := by decide +kernel
theorem dX7_friendsAgainst_23 : decode cX7_friendsAgainst 23 = .ok (.invokevirtual 33, 3) := by decide +kernel
theorem dX7_friendsAgainst_26 : decode cX7_friendsAgainst 26 = .ok (.iconst 1, 1) := by decide +kernel
theorem dX7_friendsAgainst_27 : decode cX7_friendsAgainst 27 = .ok (.if_icmp .ne 5, 3) := by decide +kernel
theorem dX7_friendsAgainst_30 : decode cX7_friendsAgainst 30 = .ok (.iconst 2, 1) := by decide +kernel
theorem dX7_friendsAgainst_31 : decode cX7_friendsAgainst 31 = .ok (.ireturn, 1) := by decide +kernel
theorem dX7_friendsAgainst_32 : decode cX7_friendsAgainst 32 = .ok (.iload_n 1, 1) := by decide +kernel
theorem dX7_friendsAgainst_33 : decode cX7_friendsAgainst 33 = .ok (.iconst 2, 1) := by decide +kernel
theorem dX7_friendsAgainst_34 : decode cX7_friendsAgainst 34 = .ok (.iadd, 1) := by decide +kernel
theorem dX7_friendsAgainst_35 : decode cX7_friendsAgainst 35 = .ok (.aload_n 0, 1) := by decide +kernel
theorem dX7_friendsAgainst_36 : decode cX7_friendsAgainst 36 = .ok (.getfield 7, 3) := by decide +kernel
theorem dX7_friendsAgainst_39 : decode cX7_friendsAgainst 39 = .ok (.iconst 0, 1) := by decide +kernel
theorem dX7_friendsAgainst_40 : decode cX7_friendsAgainst 40 = .ok (.iaload, 1) := by decide +kernel
theorem dX7_friendsAgainst_41 : decode cX7_friendsAgainst 41 = .ok (.if_icmp .ge 20, 3) := by decide +kernel
theorem dX7_friendsAgainst_44 : decode cX7_friendsAgainst 44 = .ok (.aload_n 0, 1) := by decide +kernel
theorem dX7_friendsAgainst_45 : decode cX7_friendsAgainst 45 = .ok (.iload_n 1, 1) := by decide +kernel
theorem dX7_friendsAgainst_46 : decode cX7_friendsAgainst 46 = .ok (.iconst 1, 1) := by decide +kernel
theorem dX7_friendsAgainst_47 : decode cX7_friendsAgainst 47 = .ok (.iadd, 1) := by decide +kernel
theorem dX7_friendsAgainst_48 : decode cX7_friendsAgainst 48 = .ok (.bipush 6, 2) := by decide +kernel
theorem dX7_friendsAgainst_50 : decode cX7_friendsAgainst 50 = .ok (.invokevirtual 33, 3) := by decide +kernel
theorem dX7_friendsAgainst_53 : decode cX7_friendsAgainst 53 = .ok (.iconst 1, 1) := by decide +kernel
theorem dX7_friendsAgainst_54 : decode cX7_friendsAgainst 54 = .ok (.if_icmp .ne 7, 3) := by decide +kernel
theorem dX7_friendsAgainst_57 : decode cX7_friendsAgainst 57 = .ok (.iconst 3, 1) := by decide +kernel
theorem dX7_friendsAgainst_58 : decode cX7_friendsAgainst 58 = .ok (.goto 4, 3) := by decide +kernel
theorem dX7_friendsAgainst_61 : decode cX7_friendsAgainst 61 = .ok (.iconst 0, 1) := by decide +kernel
theorem dX7_friendsAgainst_62 : decode cX7_friendsAgainst 62 = .ok (.ireturn, 1) := by decide +kernel
theorem dX7_reasonOf_0 : decode cX7_reasonOf 0 = .ok (.aload_n 0, 1) := by decide +kernel
theorem dX7_reasonOf_1 : decode cX7_reasonOf 1 = .ok (.iload_n 1, 1) := by decide +kernel
theorem dX7_reasonOf_2 : decode cX7_reasonOf 2 = .ok (.invokevirtual 92, 3) := by decide +kernel
theorem dX7_reasonOf_5 : decode cX7_reasonOf 5 = .ok (.istore_n 2, 1) := by decide +kernel
theorem dX7_reasonOf_6 : decode cX7_reasonOf 6 = .ok (.iload_n 2, 1) := by decide +kernel
theorem dX7_reasonOf_7 : decode cX7_reasonOf 7 = .ok (.ifCond .le 7, 3) := by decide +kernel
theorem dX7_reasonOf_10 : decode cX7_reasonOf 10 = .ok (.iload_n 2, 1) := by decide +kernel
theorem dX7_reasonOf_11 : decode cX7_reasonOf 11 = .ok (.goto 16, 3) := by decide +kernel
theorem dX7_reasonOf_14 : decode cX7_reasonOf 14 = .ok (.aload_n 0, 1) := by decide +kernel
theorem dX7_reasonOf_15 : decode cX7_reasonOf 15 = .ok (.iload_n 1, 1) := by decide +kernel
theorem dX7_reasonOf_16 : decode cX7_reasonOf 16 = .ok (.invokevirtual 89, 3) := by decide +kernel
theorem dX7_reasonOf_19 : decode cX7_reasonOf 19 = .ok (.ifCond .le 7, 3) := by decide +kernel
theorem dX7_reasonOf_22 : decode cX7_reasonOf 22 = .ok (.iconst 0, 1) := by decide +kernel
theorem dX7_reasonOf_23 : decode cX7_reasonOf 23 = .ok (.goto 4, 3) := by decide +kernel
theorem dX7_reasonOf_26 : decode cX7_reasonOf 26 = .ok (.iconst 4, 1) := by decide +kernel
theorem dX7_reasonOf_27 : decode cX7_reasonOf 27 = .ok (.ireturn, 1) := by decide +kernel
theorem dX7_swaps_0 : decode cX7_swaps 0 = .ok (.iconst 0, 1) := by decide +kernel
theorem dX7_swaps_1 : decode cX7_swaps 1 = .ok (.istore_n 3, 1) := by decide +kernel
theorem dX7_swaps_2 : decode cX7_swaps 2 = .ok (.iload_n 3, 1) := by decide +kernel
theorem dX7_swaps_3 : decode cX7_swaps 3 = .ok (.bipush 7, 2) := by decide +kernel
theorem dX7_swaps_5 : decode cX7_swaps 5 = .ok (.if_icmp .ge 41, 3) := by decide +kernel
theorem dX7_swaps_8 : decode cX7_swaps 8 = .ok (.aload_n 0, 1) := by decide +kernel
theorem dX7_swaps_9 : decode cX7_swaps 9 = .ok (.iload_n 1, 1) := by decide +kernel
theorem dX7_swaps_10 : decode cX7_swaps 10 = .ok (.iload_n 3, 1) := by decide +kernel
theorem dX7_swaps_11 : decode cX7_swaps 11 = .ok (.invokevirtual 33, 3) := by decide +kernel
theorem dX7_swaps_14 : decode cX7_swaps 14 = .ok (.istore 4, 2) := by decide +kernel
theorem dX7_swaps_16 : decode cX7_swaps 16 = .ok (.aload_n 0, 1) := by decide +kernel
theorem dX7_swaps_17 : decode cX7_swaps 17 = .ok (.iload_n 1, 1) := by decide +kernel
theorem dX7_swaps_18 : decode cX7_swaps 18 = .ok (.iload_n 3, 1) := by decide +kernel
theorem dX7_swaps_19 : decode cX7_swaps 19 = .ok (.aload_n 0, 1) := by decide +kernel
theorem dX7_swaps_20 : decode cX7_swaps 20 = .ok (.iload_n 1, 1) := by decide +kernel
theorem dX7_swaps_21 : decode cX7_swaps 21 = .ok (.iconst 1, 1) := by decide +kernel
theorem dX7_swaps_22 : decode cX7_swaps 22 = .ok (.iadd, 1) := by decide +kernel
theorem dX7_swaps_23 : decode cX7_swaps 23 = .ok (.iload_n 3, 1) := by decide +kernel
theorem dX7_swaps_24 : decode cX7_swaps 24 = .ok (.invokevirtual 33, 3) := by decide +kernel
theorem dX7_swaps_27 : decode cX7_swaps 27 = .ok (.invokevirtual 41, 3) := by decide +kernel
theorem dX7_swaps_30 : decode cX7_swaps 30 = .ok (.aload_n 0, 1) := by decide +kernel
theorem dX7_swaps_31 : decode cX7_swaps 31 = .ok (.iload_n 1, 1) := by decide +kernel
theorem dX7_swaps_32 : decode cX7_swaps 32 = .ok (.iconst 1, 1) := by decide +kernel
theorem dX7_swaps_33 : decode cX7_swaps 33 = .ok (.iadd, 1) := by decide +kernel
theorem dX7_swaps_34 : decode cX7_swaps 34 = .ok (.iload_n 3, 1) := by decide +kernel
theorem dX7_swaps_35 : decode cX7_swaps 35 = .ok (.iload 4, 2) := by decide +kernel
theorem dX7_swaps_37 : decode cX7_swaps 37 = .ok (.invokevirtual 41, 3) := by decide +kernel
theorem dX7_swaps_40 : decode cX7_swaps 40 = .ok (.iinc 3 1, 3) := by decide +kernel
theorem dX7_swaps_43 : decode cX7_swaps 43 = .ok (.goto (-41), 3) := by decide +kernel
theorem dX7_swaps_46 : decode cX7_swaps 46 = .ok (.aload_n 0, 1) := by decide +kernel
theorem dX7_swaps_47 : decode cX7_swaps 47 = .ok (.iload_n 1, 1) := by decide +kernel
theorem dX7_swaps_48 : decode cX7_swaps 48 = .ok (.iconst 5, 1) := by decide +kernel
theorem dX7_swaps_49 : decode cX7_swaps 49 = .ok (.iconst (-1), 1) := by decide +kernel
theorem dX7_swaps_50 : decode cX7_swaps 50 = .ok (.invokevirtual 41, 3) := by decide +kernel
theorem dX7_swaps_53 : decode cX7_swaps 53 = .ok (.aload_n 0, 1) := by decide +kernel
theorem dX7_swaps_54 : decode cX7_swaps 54 = .ok (.iload_n 1, 1) := by decide +kernel
theorem dX7_swaps_55 : decode cX7_swaps 55 = .ok (.iconst 1, 1) := by decide +kernel
theorem dX7_swaps_56 : decode cX7_swaps 56 = .ok (.iadd, 1) := by decide +kernel
theorem dX7_swaps_57 : decode cX7_swaps 57 = .ok (.iconst 5, 1) := by decide +kernel
theorem dX7_swaps_58 : decode cX7_swaps 58 = .ok (.iconst (-1), 1) := by decide +kernel
theorem dX7_swaps_59 : decode cX7_swaps 59 = .ok (.invokevirtual 41, 3) := by decide +kernel
theorem dX7_swaps_62 : decode cX7_swaps 62 = .ok (.iload_n 1, 1) := by decide +kernel
theorem dX7_swaps_63 : decode cX7_swaps 63 = .ok (.iconst 2, 1) := by decide +kernel
theorem dX7_swaps_64 : decode cX7_swaps 64 = .ok (.iadd, 1) := by decide +kernel
theorem dX7_swaps_65 : decode cX7_swaps 65 = .ok (.aload_n 0, 1) := by decide +kernel
theorem dX7_swaps_66 : decode cX7_swaps 66 = .ok (.getfield 7, 3) := by decide +kernel
theorem dX7_swaps_69 : decode cX7_swaps 69 = .ok (.iconst 0, 1) := by decide +kernel
theorem dX7_swaps_70 : decode cX7_swaps 70 = .ok (.iaload, 1) := by decide +kernel
theorem dX7_swaps_71 : decode cX7_swaps 71 = .ok (.if_icmp .ge 12, 3) := by decide +kernel
theorem dX7_swaps_74 : decode cX7_swaps 74 = .ok (.aload_n 0, 1) := by decide +kernel
theorem dX7_swaps_75 : decode cX7_swaps 75 = .ok (.iload_n 1, 1) := by decide +kernel
theorem dX7_swaps_76 : decode cX7_swaps 76 = .ok (.iconst 2, 1) := by decide +kernel
theorem dX7_swaps_77 : decode cX7_swaps 77 = .ok (.iadd, 1) := by decide +kernel
theorem dX7_swaps_78 : decode cX7_swaps 78 = .ok (.iconst 5, 1) := by decide +kernel
theorem dX7_swaps_79 : decode cX7_swaps 79 = .ok (.iconst (-1), 1) := by decide +kernel
theorem dX7_swaps_80 : decode cX7_swaps 80 = .ok (.invokevirtual 41, 3) := by decide +kernel
theorem dX7_swaps_83 : decode cX7_swaps 83 = .ok (.aload_n 0, 1) := by decide +kernel
theorem dX7_swaps_84 : decode cX7_swaps 84 = .ok (.iload_n 1, 1) := by decide +kernel
theorem dX7_swaps_85 : decode cX7_swaps 85 = .ok (.bipush 6, 2) := by decide +kernel
theorem dX7_swaps_87 : decode cX7_swaps 87 = .ok (.iconst 0, 1) := by decide +kernel
theorem dX7_swaps_88 : decode cX7_swaps 88 = .ok (.invokevirtual 41, 3) := by decide +kernel
theorem dX7_swaps_91 : decode cX7_swaps 91 = .ok (.aload_n 0, 1) := by decide +kernel
theorem dX7_swaps_92 : decode cX7_swaps 92 = .ok (.iload_n 1, 1) := by decide +kernel
theorem dX7_swaps_93 : decode cX7_swaps 93 = .ok (.iconst 1, 1) := by decide +kernel
theorem dX7_swaps_94 : decode cX7_swaps 94 = .ok (.iadd, 1) := by decide +kernel
theorem dX7_swaps_95 : decode cX7_swaps 95 = .ok (.bipush 6, 2) := by decide +kernel
theorem dX7_swaps_97 : decode cX7_swaps 97 = .ok (.iconst 0, 1) := by decide +kernel
theorem dX7_swaps_98 : decode cX7_swaps 98 = .ok (.invokevirtual 41, 3) := by decide +kernel
theorem dX7_swaps_101 : decode cX7_swaps 101 = .ok (.aload_n 0, 1) := by decide +kernel
theorem dX7_swaps_102 : decode cX7_swaps 102 = .ok (.iload_n 1, 1) := by decide +kernel
theorem dX7_swaps_103 : decode cX7_swaps 103 = .ok (.iconst 4, 1) := by decide +kernel
theorem dX7_swaps_104 : decode cX7_swaps 104 = .ok (.aload_n 0, 1) := by decide +kernel
theorem dX7_swaps_105 : decode cX7_swaps 105 = .ok (.iload_n 1, 1) := by decide +kernel
theorem dX7_swaps_106 : decode cX7_swaps 106 = .ok (.iconst 4, 1) := by decide +kernel
theorem dX7_swaps_107 : decode cX7_swaps 107 = .ok (.invokevirtual 33, 3) := by decide +kernel
theorem dX7_swaps_110 : decode cX7_swaps 110 = .ok (.iload_n 2, 1) := by decide +kernel
theorem dX7_swaps_111 : decode cX7_swaps 111 = .ok (.isub, 1) := by decide +kernel
theorem dX7_swaps_112 : decode cX7_swaps 112 = .ok (.invokevirtual 41, 3) := by decide +kernel
theorem dX7_swaps_115 : decode cX7_swaps 115 = .ok (.aload_n 0, 1) := by decide +kernel
theorem dX7_swaps_116 : decode cX7_swaps 116 = .ok (.iload_n 1, 1) := by decide +kernel
theorem dX7_swaps_117 : decode cX7_swaps 117 = .ok (.iconst 1, 1) := by decide +kernel
theorem dX7_swaps_118 : decode cX7_swaps 118 = .ok (.iadd, 1) := by decide +kernel
theorem dX7_swaps_119 : decode cX7_swaps 119 = .ok (.iconst 4, 1) := by decide +kernel
theorem dX7_swaps_120 : decode cX7_swaps 120 = .ok (.aload_n 0, 1) := by decide +kernel
theorem dX7_swaps_121 : decode cX7_swaps 121 = .ok (.iload_n 1, 1) := by decide +kernel
theorem dX7_swaps_122 : decode cX7_swaps 122 = .ok (.iconst 1, 1) := by decide +kernel
theorem dX7_swaps_123 : decode cX7_swaps 123 = .ok (.iadd, 1) := by decide +kernel
theorem dX7_swaps_124 : decode cX7_swaps 124 = .ok (.iconst 4, 1) := by decide +kernel
theorem dX7_swaps_125 : decode cX7_swaps 125 = .ok (.invokevirtual 33, 3) := by decide +kernel
theorem dX7_swaps_128 : decode cX7_swaps 128 = .ok (.iload_n 2, 1) := by decide +kernel
theorem dX7_swaps_129 : decode cX7_swaps 129 = .ok (.iadd, 1) := by decide +kernel
theorem dX7_swaps_130 : decode cX7_swaps 130 = .ok (.invokevirtual 41, 3) := by decide +kernel
theorem dX7_swaps_133 : decode cX7_swaps 133 = .ok (.aload_n 0, 1) := by decide +kernel
theorem dX7_swaps_134 : decode cX7_swaps 134 = .ok (.getfield 7, 3) := by decide +kernel
theorem dX7_swaps_137 : decode cX7_swaps 137 = .ok (.iconst 2, 1) := by decide +kernel
theorem dX7_swaps_138 : decode cX7_swaps 138 = .ok (.dup2, 1) := by decide +kernel
theorem dX7_swaps_139 : decode cX7_swaps 139 = .ok (.iaload, 1) := by decide +kernel
theorem dX7_swaps_140 : decode cX7_swaps 140 = .ok (.iconst 1, 1) := by decide +kernel
theorem dX7_swaps_141 : decode cX7_swaps 141 = .ok (.iadd, 1) := by decide +kernel
theorem dX7_swaps_142 : decode cX7_swaps 142 = .ok (.iastore, 1) := by decide +kernel
theorem dX7_swaps_143 : decode cX7_swaps 143 = .ok (.aload_n 0, 1) := by decide +kernel
theorem dX7_swaps_144 : decode cX7_swaps 144 = .ok (.getfield 7, 3) := by decide +kernel
theorem dX7_swaps_147 : decode cX7_swaps 147 = .ok (.iconst 3, 1) := by decide +kernel
theorem dX7_swaps_148 : decode cX7_swaps 148 = .ok (.dup2, 1) := by decide +kernel
theorem dX7_swaps_149 : decode cX7_swaps 149 = .ok (.iaload, 1) := by decide +kernel
theorem dX7_swaps_150 : decode cX7_swaps 150 = .ok (.iload_n 2, 1) := by decide +kernel
theorem dX7_swaps_151 : decode cX7_swaps 151 = .ok (.iadd, 1) := by decide +kernel
theorem dX7_swaps_152 : decode cX7_swaps 152 = .ok (.iastore, 1) := by decide +kernel
theorem dX7_swaps_153 : decode cX7_swaps 153 = .ok (.iload_n 2, 1) := by decide +kernel
theorem dX7_swaps_154 : decode cX7_swaps 154 = .ok (.ireturn, 1) := by decide +kernel
theorem dX7_whyNotOffer_0 : decode cX7_whyNotOffer 0 = .ok (.aload_n 0, 1) := by decide +kernel
theorem dX7_whyNotOffer_1 : decode cX7_whyNotOffer 1 = .ok (.iload_n 1, 1) := by decide +kernel
theorem dX7_whyNotOffer_2 : decode cX7_whyNotOffer 2 = .ok (.invokevirtual 45, 3) := by decide +kernel
theorem dX7_whyNotOffer_5 : decode cX7_whyNotOffer 5 = .ok (.iconst (-1), 1) := by decide +kernel
theorem dX7_whyNotOffer_6 : decode cX7_whyNotOffer 6 = .ok (.if_icmp .ne 7, 3) := by decide +kernel
theorem dX7_whyNotOffer_9 : decode cX7_whyNotOffer 9 = .ok (.iconst 1, 1) := by decide +kernel
theorem dX7_whyNotOffer_10 : decode cX7_whyNotOffer 10 = .ok (.goto 31, 3) := by decide +kernel
theorem dX7_whyNotOffer_13 : decode cX7_whyNotOffer 13 = .ok (.iload_n 2, 1) := by decide +kernel
theorem dX7_whyNotOffer_14 : decode cX7_whyNotOffer 14 = .ok (.iconst 0, 1) := by decide +kernel
theorem dX7_whyNotOffer_15 : decode cX7_whyNotOffer 15 = .ok (.sipush 9999, 3) := by decide +kernel
theorem dX7_whyNotOffer_18 : decode cX7_whyNotOffer 18 = .ok (.invokestatic 37, 3) := by decide +kernel
theorem dX7_whyNotOffer_21 : decode cX7_whyNotOffer 21 = .ok (.ifCond .ne 7, 3) := by decide +kernel
theorem dX7_whyNotOffer_24 : decode cX7_whyNotOffer 24 = .ok (.iconst 2, 1) := by decide +kernel
theorem dX7_whyNotOffer_25 : decode cX7_whyNotOffer 25 = .ok (.goto 16, 3) := by decide +kernel
theorem dX7_whyNotOffer_28 : decode cX7_whyNotOffer 28 = .ok (.aload_n 0, 1) := by decide +kernel
theorem dX7_whyNotOffer_29 : decode cX7_whyNotOffer 29 = .ok (.iload_n 1, 1) := by decide +kernel
theorem dX7_whyNotOffer_30 : decode cX7_whyNotOffer 30 = .ok (.invokevirtual 45, 3) := by decide +kernel
theorem dX7_whyNotOffer_33 : decode cX7_whyNotOffer 33 = .ok (.ifCond .ne 7, 3) := by decide +kernel
theorem dX7_whyNotOffer_36 : decode cX7_whyNotOffer 36 = .ok (.iconst 3, 1) := by decide +kernel
theorem dX7_whyNotOffer_37 : decode cX7_whyNotOffer 37 = .ok (.goto 4, 3) := by decide +kernel
theorem dX7_whyNotOffer_40 : decode cX7_whyNotOffer 40 = .ok (.iconst 0, 1) := by decide +kernel
theorem dX7_whyNotOffer_41 : decode cX7_whyNotOffer 41 = .ok (.ireturn, 1) := by decide +kernel
theorem dX7_offers_0 : decode cX7_offers 0 = .ok (.aload_n 0, 1) := by decide +kernel
theorem dX7_offers_1 : decode cX7_offers 1 = .ok (.iload_n 1, 1) := by decide +kernel
theorem dX7_offers_2 : decode cX7_offers 2 = .ok (.invokevirtual 45, 3) := by decide +kernel
theorem dX7_offers_5 : decode cX7_offers 5 = .ok (.istore_n 3, 1) := by decide +kernel
theorem dX7_offers_6 : decode cX7_offers 6 = .ok (.aload_n 0, 1) := by decide +kernel
theorem dX7_offers_7 : decode cX7_offers 7 = .ok (.iload_n 3, 1) := by decide +kernel
theorem dX7_offers_8 : decode cX7_offers 8 = .ok (.iconst 5, 1) := by decide +kernel
theorem dX7_offers_9 : decode cX7_offers 9 = .ok (.invokevirtual 33, 3) := by decide +kernel
theorem dX7_offers_12 : decode cX7_offers 12 = .ok (.istore 4, 2) := by decide +kernel
theorem dX7_offers_14 : decode cX7_offers 14 = .ok (.aload_n 0, 1) := by decide +kernel
theorem dX7_offers_15 : decode cX7_offers 15 = .ok (.iload_n 3, 1) := by decide +kernel
theorem dX7_offers_16 : decode cX7_offers 16 = .ok (.iconst 5, 1) := by decide +kernel
theorem dX7_offers_17 : decode cX7_offers 17 = .ok (.iload_n 2, 1) := by decide +kernel
theorem dX7_offers_18 : decode cX7_offers 18 = .ok (.invokevirtual 41, 3) := by decide +kernel
theorem dX7_offers_21 : decode cX7_offers 21 = .ok (.iload 4, 2) := by decide +kernel
theorem dX7_offers_23 : decode cX7_offers 23 = .ok (.ireturn, 1) := by decide +kernel
theorem dX7_offer_0 : decode cX7_offer 0 = .ok (.aload_n 0, 1) := by decide +kernel
theorem dX7_offer_1 : decode cX7_offer 1 = .ok (.aload_n 0, 1) := by decide +kernel
theorem dX7_offer_2 : decode cX7_offer 2 = .ok (.iload_n 1, 1) := by decide +kernel
theorem dX7_offer_3 : decode cX7_offer 3 = .ok (.iload_n 2, 1) := by decide +kernel
theorem dX7_offer_4 : decode cX7_offer 4 = .ok (.invokevirtual 95, 3) := by decide +kernel
theorem dX7_offer_7 : decode cX7_offer 7 = .ok (.invokevirtual 56, 3) := by decide +kernel
theorem dX7_offer_10 : decode cX7_offer 10 = .ok (.ifCond .eq 5, 3) := by decide +kernel
theorem dX7_offer_13 : decode cX7_offer 13 = .ok (.iconst 0, 1) := by decide +kernel
theorem dX7_offer_14 : decode cX7_offer 14 = .ok (.ireturn, 1) := by decide +kernel
theorem dX7_offer_15 : decode cX7_offer 15 = .ok (.aload_n 0, 1) := by decide +kernel
theorem dX7_offer_16 : decode cX7_offer 16 = .ok (.invokevirtual 60, 3) := by decide +kernel
theorem dX7_offer_19 : decode cX7_offer 19 = .ok (.aload_n 0, 1) := by decide +kernel
theorem dX7_offer_20 : decode cX7_offer 20 = .ok (.iload_n 1, 1) := by decide +kernel
theorem dX7_offer_21 : decode cX7_offer 21 = .ok (.iload_n 2, 1) := by decide +kernel
theorem dX7_offer_22 : decode cX7_offer 22 = .ok (.invokevirtual 98, 3) := by decide +kernel
theorem dX7_offer_25 : decode cX7_offer 25 = .ok (.ireturn, 1) := by decide +kernel
theorem dX7_isTaken_0 : decode cX7_isTaken 0 = .ok (.aload_n 0, 1) := by decide +kernel
theorem dX7_isTaken_1 : decode cX7_isTaken 1 = .ok (.iload_n 1, 1) := by decide +kernel
theorem dX7_isTaken_2 : decode cX7_isTaken 2 = .ok (.invokevirtual 101, 3) := by decide +kernel
theorem dX7_isTaken_5 : decode cX7_isTaken 5 = .ok (.ifCond .eq 43, 3) := by decide +kernel
theorem dX7_isTaken_8 : decode cX7_isTaken 8 = .ok (.aload_n 0, 1) := by decide +kernel
theorem dX7_isTaken_9 : decode cX7_isTaken 9 = .ok (.iload_n 1, 1) := by decide +kernel
theorem dX7_isTaken_10 : decode cX7_isTaken 10 = .ok (.iconst 1, 1) := by decide +kernel
theorem dX7_isTaken_11 : decode cX7_isTaken 11 = .ok (.iadd, 1) := by decide +kernel
theorem dX7_isTaken_12 : decode cX7_isTaken 12 = .ok (.iconst 5, 1) := by decide +kernel
theorem dX7_isTaken_13 : decode cX7_isTaken 13 = .ok (.invokevirtual 33, 3) := by decide +kernel
theorem dX7_isTaken_16 : decode cX7_isTaken 16 = .ok (.iconst (-1), 1) := by decide +kernel
theorem dX7_isTaken_17 : decode cX7_isTaken 17 = .ok (.if_icmp .eq 31, 3) := by decide +kernel
theorem dX7_isTaken_20 : decode cX7_isTaken 20 = .ok (.aload_n 0, 1) := by decide +kernel
theorem dX7_isTaken_21 : decode cX7_isTaken 21 = .ok (.iload_n 1, 1) := by decide +kernel
theorem dX7_isTaken_22 : decode cX7_isTaken 22 = .ok (.iconst 1, 1) := by decide +kernel
theorem dX7_isTaken_23 : decode cX7_isTaken 23 = .ok (.iadd, 1) := by decide +kernel
theorem dX7_isTaken_24 : decode cX7_isTaken 24 = .ok (.iconst 5, 1) := by decide +kernel
theorem dX7_isTaken_25 : decode cX7_isTaken 25 = .ok (.invokevirtual 33, 3) := by decide +kernel
theorem dX7_isTaken_28 : decode cX7_isTaken 28 = .ok (.aload_n 0, 1) := by decide +kernel
theorem dX7_isTaken_29 : decode cX7_isTaken 29 = .ok (.iload_n 1, 1) := by decide +kernel
theorem dX7_isTaken_30 : decode cX7_isTaken 30 = .ok (.invokevirtual 86, 3) := by decide +kernel
theorem dX7_isTaken_33 : decode cX7_isTaken 33 = .ok (.if_icmp .lt 15, 3) := by decide +kernel
theorem dX7_isTaken_36 : decode cX7_isTaken 36 = .ok (.aload_n 0, 1) := by decide +kernel
theorem dX7_isTaken_37 : decode cX7_isTaken 37 = .ok (.iload_n 1, 1) := by decide +kernel
theorem dX7_isTaken_38 : decode cX7_isTaken 38 = .ok (.invokevirtual 92, 3) := by decide +kernel
theorem dX7_isTaken_41 : decode cX7_isTaken 41 = .ok (.ifCond .ne 7, 3) := by decide +kernel
theorem dX7_isTaken_44 : decode cX7_isTaken 44 = .ok (.iconst 1, 1) := by decide +kernel
theorem dX7_isTaken_45 : decode cX7_isTaken 45 = .ok (.goto 4, 3) := by decide +kernel
theorem dX7_isTaken_48 : decode cX7_isTaken 48 = .ok (.iconst 0, 1) := by decide +kernel
theorem dX7_isTaken_49 : decode cX7_isTaken 49 = .ok (.ireturn, 1) := by decide +kernel
theorem dX7_whyNotTake_0 : decode cX7_whyNotTake 0 = .ok (.aload_n 0, 1) := by decide +kernel
theorem dX7_whyNotTake_1 : decode cX7_whyNotTake 1 = .ok (.iload_n 1, 1) := by decide +kernel
theorem dX7_whyNotTake_2 : decode cX7_whyNotTake 2 = .ok (.invokevirtual 45, 3) := by decide +kernel
theorem dX7_whyNotTake_5 : decode cX7_whyNotTake 5 = .ok (.iconst (-1), 1) := by decide +kernel
theorem dX7_whyNotTake_6 : decode cX7_whyNotTake 6 = .ok (.if_icmp .ne 7, 3) := by decide +kernel
theorem dX7_whyNotTake_9 : decode cX7_whyNotTake 9 = .ok (.iconst 1, 1) := by decide +kernel
theorem dX7_whyNotTake_10 : decode cX7_whyNotTake 10 = .ok (.goto 20, 3) := by decide +kernel
theorem dX7_whyNotTake_13 : decode cX7_whyNotTake 13 = .ok (.aload_n 0, 1) := by decide +kernel
theorem dX7_whyNotTake_14 : decode cX7_whyNotTake 14 = .ok (.aload_n 0, 1) := by decide +kernel
theorem dX7_whyNotTake_15 : decode cX7_whyNotTake 15 = .ok (.iload_n 1, 1) := by decide +kernel
theorem dX7_whyNotTake_16 : decode cX7_whyNotTake 16 = .ok (.invokevirtual 45, 3) := by decide +kernel
theorem dX7_whyNotTake_19 : decode cX7_whyNotTake 19 = .ok (.invokevirtual 104, 3) := by decide +kernel
theorem dX7_whyNotTake_22 : decode cX7_whyNotTake 22 = .ok (.ifCond .eq 7, 3) := by decide +kernel
theorem dX7_whyNotTake_25 : decode cX7_whyNotTake 25 = .ok (.iconst 0, 1) := by decide +kernel
theorem dX7_whyNotTake_26 : decode cX7_whyNotTake 26 = .ok (.goto 4, 3) := by decide +kernel
theorem dX7_whyNotTake_29 : decode cX7_whyNotTake 29 = .ok (.iconst 2, 1) := by decide +kernel
theorem dX7_whyNotTake_30 : decode cX7_whyNotTake 30 = .ok (.ireturn, 1) := by decide +kernel
theorem dX7_takes_0 : decode cX7_takes 0 = .ok (.aload_n 0, 1) := by decide +kernel
theorem dX7_takes_1 : decode cX7_takes 1 = .ok (.iload_n 1, 1) := by decide +kernel
theorem dX7_takes_2 : decode cX7_takes 2 = .ok (.invokevirtual 45, 3) := by decide +kernel
theorem dX7_takes_5 : decode cX7_takes 5 = .ok (.istore_n 2, 1) := by decide +kernel
theorem dX7_takes_6 : decode cX7_takes 6 = .ok (.aload_n 0, 1) := by decide +kernel
theorem dX7_takes_7 : decode cX7_takes 7 = .ok (.iload_n 2, 1) := by decide +kernel
theorem dX7_takes_8 : decode cX7_takes 8 = .ok (.aload_n 0, 1) := by decide +kernel
theorem dX7_takes_9 : decode cX7_takes 9 = .ok (.iload_n 2, 1) := by decide +kernel
theorem dX7_takes_10 : decode cX7_takes 10 = .ok (.iconst 1, 1) := by decide +kernel
theorem dX7_takes_11 : decode cX7_takes 11 = .ok (.iadd, 1) := by decide +kernel
theorem dX7_takes_12 : decode cX7_takes 12 = .ok (.iconst 5, 1) := by decide +kernel
theorem dX7_takes_13 : decode cX7_takes 13 = .ok (.invokevirtual 33, 3) := by decide +kernel
theorem dX7_takes_16 : decode cX7_takes 16 = .ok (.invokevirtual 107, 3) := by decide +kernel
theorem dX7_takes_19 : decode cX7_takes 19 = .ok (.ireturn, 1) := by decide +kernel
theorem dX7_take_0 : decode cX7_take 0 = .ok (.aload_n 0, 1) := by decide +kernel
theorem dX7_take_1 : decode cX7_take 1 = .ok (.aload_n 0, 1) := by decide +kernel
theorem dX7_take_2 : decode cX7_take 2 = .ok (.iload_n 1, 1) := by decide +kernel
theorem dX7_take_3 : decode cX7_take 3 = .ok (.invokevirtual 110, 3) := by decide +kernel
theorem dX7_take_6 : decode cX7_take 6 = .ok (.invokevirtual 56, 3) := by decide +kernel
theorem dX7_take_9 : decode cX7_take 9 = .ok (.ifCond .eq 5, 3) := by decide +kernel
theorem dX7_take_12 : decode cX7_take 12 = .ok (.iconst 0, 1) := by decide +kernel
theorem dX7_take_13 : decode cX7_take 13 = .ok (.ireturn, 1) := by decide +kernel
theorem dX7_take_14 : decode cX7_take 14 = .ok (.aload_n 0, 1) := by decide +kernel
theorem dX7_take_15 : decode cX7_take 15 = .ok (.invokevirtual 60, 3) := by decide +kernel
theorem dX7_take_18 : decode cX7_take 18 = .ok (.aload_n 0, 1) := by decide +kernel
theorem dX7_take_19 : decode cX7_take 19 = .ok (.iload_n 1, 1) := by decide +kernel
theorem dX7_take_20 : decode cX7_take 20 = .ok (.invokevirtual 113, 3) := by decide +kernel
theorem dX7_take_23 : decode cX7_take 23 = .ok (.ireturn, 1) := by decide +kernel
theorem dX7_whyNotSwap_0 : decode cX7_whyNotSwap 0 = .ok (.aload_n 0, 1) := by decide +kernel
theorem dX7_whyNotSwap_1 : decode cX7_whyNotSwap 1 = .ok (.iload_n 1, 1) := by decide +kernel
theorem dX7_whyNotSwap_2 : decode cX7_whyNotSwap 2 = .ok (.invokevirtual 101, 3) := by decide +kernel
theorem dX7_whyNotSwap_5 : decode cX7_whyNotSwap 5 = .ok (.ifCond .ne 7, 3) := by decide +kernel
theorem dX7_whyNotSwap_8 : decode cX7_whyNotSwap 8 = .ok (.iconst 1, 1) := by decide +kernel
theorem dX7_whyNotSwap_9 : decode cX7_whyNotSwap 9 = .ok (.goto 16, 3) := by decide +kernel
theorem dX7_whyNotSwap_12 : decode cX7_whyNotSwap 12 = .ok (.aload_n 0, 1) := by decide +kernel
theorem dX7_whyNotSwap_13 : decode cX7_whyNotSwap 13 = .ok (.iload_n 1, 1) := by decide +kernel
theorem dX7_whyNotSwap_14 : decode cX7_whyNotSwap 14 = .ok (.invokevirtual 116, 3) := by decide +kernel
theorem dX7_whyNotSwap_17 : decode cX7_whyNotSwap 17 = .ok (.ifCond .le 7, 3) := by decide +kernel
theorem dX7_whyNotSwap_20 : decode cX7_whyNotSwap 20 = .ok (.iconst 2, 1) := by decide +kernel
theorem dX7_whyNotSwap_21 : decode cX7_whyNotSwap 21 = .ok (.goto 4, 3) := by decide +kernel
theorem dX7_whyNotSwap_24 : decode cX7_whyNotSwap 24 = .ok (.iconst 0, 1) := by decide +kernel
theorem dX7_whyNotSwap_25 : decode cX7_whyNotSwap 25 = .ok (.ireturn, 1) := by decide +kernel
theorem dX7_swap_0 : decode cX7_swap 0 = .ok (.aload_n 0, 1) := by decide +kernel
theorem dX7_swap_1 : decode cX7_swap 1 = .ok (.aload_n 0, 1) := by decide +kernel
theorem dX7_swap_2 : decode cX7_swap 2 = .ok (.iload_n 1, 1) := by decide +kernel
theorem dX7_swap_3 : decode cX7_swap 3 = .ok (.invokevirtual 119, 3) := by decide +kernel
theorem dX7_swap_6 : decode cX7_swap 6 = .ok (.invokevirtual 56, 3) := by decide +kernel
theorem dX7_swap_9 : decode cX7_swap 9 = .ok (.ifCond .eq 5, 3) := by decide +kernel
theorem dX7_swap_12 : decode cX7_swap 12 = .ok (.iconst 0, 1) := by decide +kernel
theorem dX7_swap_13 : decode cX7_swap 13 = .ok (.ireturn, 1) := by decide +kernel
theorem dX7_swap_14 : decode cX7_swap 14 = .ok (.aload_n 0, 1) := by decide +kernel
theorem dX7_swap_15 : decode cX7_swap 15 = .ok (.invokevirtual 60, 3) := by decide +kernel
theorem dX7_swap_18 : decode cX7_swap 18 = .ok (.aload_n 0, 1) := by decide +kernel
theorem dX7_swap_19 : decode cX7_swap 19 = .ok (.iload_n 1, 1) := by decide +kernel
theorem dX7_swap_20 : decode cX7_swap 20 = .ok (.aload_n 0, 1) := by decide +kernel
theorem dX7_swap_21 : decode cX7_swap 21 = .ok (.iload_n 1, 1) := by decide +kernel
theorem dX7_swap_22 : decode cX7_swap 22 = .ok (.invokevirtual 122, 3) := by decide +kernel
theorem dX7_swap_25 : decode cX7_swap 25 = .ok (.invokevirtual 107, 3) := by decide +kernel
theorem dX7_swap_28 : decode cX7_swap 28 = .ok (.ireturn, 1) := by decide +kernel
theorem dX7_friends_0 : decode cX7_friends 0 = .ok (.iconst 0, 1) := by decide +kernel
theorem dX7_friends_1 : decode cX7_friends 1 = .ok (.istore_n 1, 1) := by decide +kernel
theorem dX7_friends_2 : decode cX7_friends 2 = .ok (.iconst 0, 1) := by decide +kernel
theorem dX7_friends_3 : decode cX7_friends 3 = .ok (.istore_n 2, 1) := by decide +kernel
theorem dX7_friends_4 : decode cX7_friends 4 = .ok (.iload_n 2, 1) := by decide +kernel
theorem dX7_friends_5 : decode cX7_friends 5 = .ok (.aload_n 0, 1) := by decide +kernel
theorem dX7_friends_6 : decode cX7_friends 6 = .ok (.getfield 7, 3) := by decide +kernel
theorem dX7_friends_9 : decode cX7_friends 9 = .ok (.iconst 0, 1) := by decide +kernel
theorem dX7_friends_10 : decode cX7_friends 10 = .ok (.iaload, 1) := by decide +kernel
theorem dX7_friends_11 : decode cX7_friends 11 = .ok (.if_icmp .ge 19, 3) := by decide +kernel
theorem dX7_friends_14 : decode cX7_friends 14 = .ok (.iload_n 1, 1) := by decide +kernel
theorem dX7_friends_15 : decode cX7_friends 15 = .ok (.aload_n 0, 1) := by decide +kernel
theorem dX7_friends_16 : decode cX7_friends 16 = .ok (.iload_n 2, 1) := by decide +kernel
theorem dX7_friends_17 : decode cX7_friends 17 = .ok (.bipush 6, 2) := by decide +kernel
theorem dX7_friends_19 : decode cX7_friends 19 = .ok (.invokevirtual 33, 3) := by decide +kernel
theorem dX7_friends_22 : decode cX7_friends 22 = .ok (.iadd, 1) := by decide +kernel
theorem dX7_friends_23 : decode cX7_friends 23 = .ok (.istore_n 1, 1) := by decide +kernel
theorem dX7_friends_24 : decode cX7_friends 24 = .ok (.iinc 2 1, 3) := by decide +kernel
theorem dX7_friends_27 : decode cX7_friends 27 = .ok (.goto (-23), 3) := by decide +kernel
theorem dX7_friends_30 : decode cX7_friends 30 = .ok (.iload_n 1, 1) := by decide +kernel
theorem dX7_friends_31 : decode cX7_friends 31 = .ok (.ireturn, 1) := by decide +kernel
theorem dX7_whyNotFriends_0 : decode cX7_whyNotFriends 0 = .ok (.aload_n 0, 1) := by decide +kernel
theorem dX7_whyNotFriends_1 : decode cX7_whyNotFriends 1 = .ok (.iload_n 1, 1) := by decide +kernel
theorem dX7_whyNotFriends_2 : decode cX7_whyNotFriends 2 = .ok (.invokevirtual 101, 3) := by decide +kernel
theorem dX7_whyNotFriends_5 : decode cX7_whyNotFriends 5 = .ok (.ifCond .ne 7, 3) := by decide +kernel
theorem dX7_whyNotFriends_8 : decode cX7_whyNotFriends 8 = .ok (.iconst 1, 1) := by decide +kernel
theorem dX7_whyNotFriends_9 : decode cX7_whyNotFriends 9 = .ok (.goto 19, 3) := by decide +kernel
theorem dX7_whyNotFriends_12 : decode cX7_whyNotFriends 12 = .ok (.aload_n 0, 1) := by decide +kernel
theorem dX7_whyNotFriends_13 : decode cX7_whyNotFriends 13 = .ok (.iload_n 1, 1) := by decide +kernel
theorem dX7_whyNotFriends_14 : decode cX7_whyNotFriends 14 = .ok (.bipush 6, 2) := by decide +kernel
theorem dX7_whyNotFriends_16 : decode cX7_whyNotFriends 16 = .ok (.invokevirtual 33, 3) := by decide +kernel
theorem dX7_whyNotFriends_19 : decode cX7_whyNotFriends 19 = .ok (.iload_n 2, 1) := by decide +kernel
theorem dX7_whyNotFriends_20 : decode cX7_whyNotFriends 20 = .ok (.if_icmp .ne 7, 3) := by decide +kernel
theorem dX7_whyNotFriends_23 : decode cX7_whyNotFriends 23 = .ok (.iconst 2, 1) := by decide +kernel
theorem dX7_whyNotFriends_24 : decode cX7_whyNotFriends 24 = .ok (.goto 4, 3) := by decide +kernel
theorem dX7_whyNotFriends_27 : decode cX7_whyNotFriends 27 = .ok (.iconst 0, 1) := by decide +kernel
theorem dX7_whyNotFriends_28 : decode cX7_whyNotFriends 28 = .ok (.ireturn, 1) := by decide +kernel
theorem dX7_befriends_0 : decode cX7_befriends 0 = .ok (.aload_n 0, 1) := by decide +kernel
theorem dX7_befriends_1 : decode cX7_befriends 1 = .ok (.iload_n 1, 1) := by decide +kernel
theorem dX7_befriends_2 : decode cX7_befriends 2 = .ok (.bipush 6, 2) := by decide +kernel
theorem dX7_befriends_4 : decode cX7_befriends 4 = .ok (.iload_n 2, 1) := by decide +kernel
theorem dX7_befriends_5 : decode cX7_befriends 5 = .ok (.invokevirtual 41, 3) := by decide +kernel
theorem dX7_befriends_8 : decode cX7_befriends 8 = .ok (.aload_n 0, 1) := by decide +kernel
theorem dX7_befriends_9 : decode cX7_befriends 9 = .ok (.invokevirtual 125, 3) := by decide +kernel
theorem dX7_befriends_12 : decode cX7_befriends 12 = .ok (.ireturn, 1) := by decide +kernel
theorem dX7_befriend_0 : decode cX7_befriend 0 = .ok (.aload_n 0, 1) := by decide +kernel
theorem dX7_befriend_1 : decode cX7_befriend 1 = .ok (.aload_n 0, 1) := by decide +kernel
theorem dX7_befriend_2 : decode cX7_befriend 2 = .ok (.iload_n 1, 1) := by decide +kernel
theorem dX7_befriend_3 : decode cX7_befriend 3 = .ok (.iconst 1, 1) := by decide +kernel
theorem dX7_befriend_4 : decode cX7_befriend 4 = .ok (.invokevirtual 128, 3) := by decide +kernel
theorem dX7_befriend_7 : decode cX7_befriend 7 = .ok (.invokevirtual 56, 3) := by decide +kernel
theorem dX7_befriend_10 : decode cX7_befriend 10 = .ok (.ifCond .eq 5, 3) := by decide +kernel
theorem dX7_befriend_13 : decode cX7_befriend 13 = .ok (.iconst 0, 1) := by decide +kernel
theorem dX7_befriend_14 : decode cX7_befriend 14 = .ok (.ireturn, 1) := by decide +kernel
theorem dX7_befriend_15 : decode cX7_befriend 15 = .ok (.aload_n 0, 1) := by decide +kernel
theorem dX7_befriend_16 : decode cX7_befriend 16 = .ok (.invokevirtual 60, 3) := by decide +kernel
theorem dX7_befriend_19 : decode cX7_befriend 19 = .ok (.aload_n 0, 1) := by decide +kernel
theorem dX7_befriend_20 : decode cX7_befriend 20 = .ok (.iload_n 1, 1) := by decide +kernel
theorem dX7_befriend_21 : decode cX7_befriend 21 = .ok (.iconst 1, 1) := by decide +kernel
theorem dX7_befriend_22 : decode cX7_befriend 22 = .ok (.invokevirtual 131, 3) := by decide +kernel
theorem dX7_befriend_25 : decode cX7_befriend 25 = .ok (.ireturn, 1) := by decide +kernel
theorem dX7_part_0 : decode cX7_part 0 = .ok (.aload_n 0, 1) := by decide +kernel
theorem dX7_part_1 : decode cX7_part 1 = .ok (.aload_n 0, 1) := by decide +kernel
theorem dX7_part_2 : decode cX7_part 2 = .ok (.iload_n 1, 1) := by decide +kernel
theorem dX7_part_3 : decode cX7_part 3 = .ok (.iconst 0, 1) := by decide +kernel
theorem dX7_part_4 : decode cX7_part 4 = .ok (.invokevirtual 128, 3) := by decide +kernel
theorem dX7_part_7 : decode cX7_part 7 = .ok (.invokevirtual 56, 3) := by decide +kernel
theorem dX7_part_10 : decode cX7_part 10 = .ok (.ifCond .eq 5, 3) := by decide +kernel
theorem dX7_part_13 : decode cX7_part 13 = .ok (.iconst 0, 1) := by decide +kernel
theorem dX7_part_14 : decode cX7_part 14 = .ok (.ireturn, 1) := by decide +kernel
theorem dX7_part_15 : decode cX7_part 15 = .ok (.aload_n 0, 1) := by decide +kernel
theorem dX7_part_16 : decode cX7_part 16 = .ok (.invokevirtual 60, 3) := by decide +kernel
theorem dX7_part_19 : decode cX7_part 19 = .ok (.aload_n 0, 1) := by decide +kernel
theorem dX7_part_20 : decode cX7_part 20 = .ok (.iload_n 1, 1) := by decide +kernel
theorem dX7_part_21 : decode cX7_part 21 = .ok (.iconst 0, 1) := by decide +kernel
theorem dX7_part_22 : decode cX7_part 22 = .ok (.invokevirtual 131, 3) := by decide +kernel
theorem dX7_part_25 : decode cX7_part 25 = .ok (.ireturn, 1) := by decide +kernel
theorem dX7_settles_0 : decode cX7_settles 0 = .ok (.iconst 0, 1) := by decide +kernel
theorem dX7_settles_1 : decode cX7_settles 1 = .ok (.istore_n 1, 1) := by decide +kernel
theorem dX7_settles_2 : decode cX7_settles 2 = .ok (.iconst 0, 1) := by decide +kernel
theorem dX7_settles_3 : decode cX7_settles 3 = .ok (.istore_n 2, 1) := by decide +kernel
theorem dX7_settles_4 : decode cX7_settles 4 = .ok (.iload_n 2, 1) := by decide +kernel
theorem dX7_settles_5 : decode cX7_settles 5 = .ok (.iconst (-1), 1) := by decide +kernel
theorem dX7_settles_6 : decode cX7_settles 6 = .ok (.if_icmp .eq 79, 3) := by decide +kernel
theorem dX7_settles_9 : decode cX7_settles 9 = .ok (.iconst (-1), 1) := by decide +kernel
theorem dX7_settles_10 : decode cX7_settles 10 = .ok (.istore_n 2, 1) := by decide +kernel
theorem dX7_settles_11 : decode cX7_settles 11 = .ok (.iconst 0, 1) := by decide +kernel
theorem dX7_settles_12 : decode cX7_settles 12 = .ok (.istore_n 3, 1) := by decide +kernel
theorem dX7_settles_13 : decode cX7_settles 13 = .ok (.iload_n 3, 1) := by decide +kernel
theorem dX7_settles_14 : decode cX7_settles 14 = .ok (.iconst 1, 1) := by decide +kernel
theorem dX7_settles_15 : decode cX7_settles 15 = .ok (.iadd, 1) := by decide +kernel
theorem dX7_settles_16 : decode cX7_settles 16 = .ok (.aload_n 0, 1) := by decide +kernel
theorem dX7_settles_17 : decode cX7_settles 17 = .ok (.getfield 7, 3) := by decide +kernel
theorem dX7_settles_20 : decode cX7_settles 20 = .ok (.iconst 0, 1) := by decide +kernel
theorem dX7_settles_21 : decode cX7_settles 21 = .ok (.iaload, 1) := by decide +kernel
theorem dX7_settles_22 : decode cX7_settles 22 = .ok (.if_icmp .ge 41, 3) := by decide +kernel
theorem dX7_settles_25 : decode cX7_settles 25 = .ok (.aload_n 0, 1) := by decide +kernel
theorem dX7_settles_26 : decode cX7_settles 26 = .ok (.iload_n 3, 1) := by decide +kernel
theorem dX7_settles_27 : decode cX7_settles 27 = .ok (.invokevirtual 116, 3) := by decide +kernel
theorem dX7_settles_30 : decode cX7_settles 30 = .ok (.ifCond .ne 25, 3) := by decide +kernel
theorem dX7_settles_33 : decode cX7_settles 33 = .ok (.iload_n 2, 1) := by decide +kernel
theorem dX7_settles_34 : decode cX7_settles 34 = .ok (.iconst (-1), 1) := by decide +kernel
theorem dX7_settles_35 : decode cX7_settles 35 = .ok (.if_icmp .eq 16, 3) := by decide +kernel
theorem dX7_settles_38 : decode cX7_settles 38 = .ok (.aload_n 0, 1) := by decide +kernel
theorem dX7_settles_39 : decode cX7_settles 39 = .ok (.iload_n 3, 1) := by decide +kernel
theorem dX7_settles_40 : decode cX7_settles 40 = .ok (.invokevirtual 89, 3) := by decide +kernel
theorem dX7_settles_43 : decode cX7_settles 43 = .ok (.aload_n 0, 1) := by decide +kernel
theorem dX7_settles_44 : decode cX7_settles 44 = .ok (.iload_n 2, 1) := by decide +kernel
theorem dX7_settles_45 : decode cX7_settles 45 = .ok (.invokevirtual 89, 3) := by decide +kernel
theorem dX7_settles_48 : decode cX7_settles 48 = .ok (.if_icmp .le 7, 3) := by decide +kernel
theorem dX7_settles_51 : decode cX7_settles 51 = .ok (.iload_n 3, 1) := by decide +kernel
theorem dX7_settles_52 : decode cX7_settles 52 = .ok (.goto 4, 3) := by decide +kernel
theorem dX7_settles_55 : decode cX7_settles 55 = .ok (.iload_n 2, 1) := by decide +kernel
theorem dX7_settles_56 : decode cX7_settles 56 = .ok (.istore_n 2, 1) := by decide +kernel
theorem dX7_settles_57 : decode cX7_settles 57 = .ok (.iinc 3 1, 3) := by decide +kernel
theorem dX7_settles_60 : decode cX7_settles 60 = .ok (.goto (-47), 3) := by decide +kernel
theorem dX7_settles_63 : decode cX7_settles 63 = .ok (.iload_n 2, 1) := by decide +kernel
theorem dX7_settles_64 : decode cX7_settles 64 = .ok (.iconst (-1), 1) := by decide +kernel
theorem dX7_settles_65 : decode cX7_settles 65 = .ok (.if_icmp .eq (-61), 3) := by decide +kernel
theorem dX7_settles_68 : decode cX7_settles 68 = .ok (.aload_n 0, 1) := by decide +kernel
theorem dX7_settles_69 : decode cX7_settles 69 = .ok (.iload_n 2, 1) := by decide +kernel
theorem dX7_settles_70 : decode cX7_settles 70 = .ok (.aload_n 0, 1) := by decide +kernel
theorem dX7_settles_71 : decode cX7_settles 71 = .ok (.iload_n 2, 1) := by decide +kernel
theorem dX7_settles_72 : decode cX7_settles 72 = .ok (.invokevirtual 122, 3) := by decide +kernel
theorem dX7_settles_75 : decode cX7_settles 75 = .ok (.invokevirtual 107, 3) := by decide +kernel
theorem dX7_settles_78 : decode cX7_settles 78 = .ok (.pop, 1) := by decide +kernel
theorem dX7_settles_79 : decode cX7_settles 79 = .ok (.iinc 1 1, 3) := by decide +kernel
theorem dX7_settles_82 : decode cX7_settles 82 = .ok (.goto (-78), 3) := by decide +kernel
theorem dX7_settles_85 : decode cX7_settles 85 = .ok (.iload_n 1, 1) := by decide +kernel
theorem dX7_settles_86 : decode cX7_settles 86 = .ok (.ireturn, 1) := by decide +kernel
theorem dX7_settle_0 : decode cX7_settle 0 = .ok (.aload_n 0, 1) := by decide +kernel
theorem dX7_settle_1 : decode cX7_settle 1 = .ok (.iconst 0, 1) := by decide +kernel
theorem dX7_settle_2 : decode cX7_settle 2 = .ok (.putfield 22, 3) := by decide +kernel
theorem dX7_settle_5 : decode cX7_settle 5 = .ok (.aload_n 0, 1) := by decide +kernel
theorem dX7_settle_6 : decode cX7_settle 6 = .ok (.invokevirtual 60, 3) := by decide +kernel
theorem dX7_settle_9 : decode cX7_settle 9 = .ok (.aload_n 0, 1) := by decide +kernel
theorem dX7_settle_10 : decode cX7_settle 10 = .ok (.invokevirtual 134, 3) := by decide +kernel
theorem dX7_settle_13 : decode cX7_settle 13 = .ok (.ireturn, 1) := by decide +kernel
theorem dX7_waitOf_0 : decode cX7_waitOf 0 = .ok (.iconst 0, 1) := by decide +kernel
theorem dX7_waitOf_1 : decode cX7_waitOf 1 = .ok (.istore_n 2, 1) := by decide +kernel
theorem dX7_waitOf_2 : decode cX7_waitOf 2 = .ok (.iconst 0, 1) := by decide +kernel
theorem dX7_waitOf_3 : decode cX7_waitOf 3 = .ok (.istore_n 3, 1) := by decide +kernel
theorem dX7_waitOf_4 : decode cX7_waitOf 4 = .ok (.iload_n 3, 1) := by decide +kernel
theorem dX7_waitOf_5 : decode cX7_waitOf 5 = .ok (.iload_n 1, 1) := by decide +kernel
theorem dX7_waitOf_6 : decode cX7_waitOf 6 = .ok (.if_icmp .ge 18, 3) := by decide +kernel
theorem dX7_waitOf_9 : decode cX7_waitOf 9 = .ok (.iload_n 2, 1) := by decide +kernel
theorem dX7_waitOf_10 : decode cX7_waitOf 10 = .ok (.aload_n 0, 1) := by decide +kernel
theorem dX7_waitOf_11 : decode cX7_waitOf 11 = .ok (.iload_n 3, 1) := by decide +kernel
theorem dX7_waitOf_12 : decode cX7_waitOf 12 = .ok (.iconst 3, 1) := by decide +kernel
theorem dX7_waitOf_13 : decode cX7_waitOf 13 = .ok (.invokevirtual 33, 3) := by decide +kernel
theorem dX7_waitOf_16 : decode cX7_waitOf 16 = .ok (.iadd, 1) := by decide +kernel
theorem dX7_waitOf_17 : decode cX7_waitOf 17 = .ok (.istore_n 2, 1) := by decide +kernel
theorem dX7_waitOf_18 : decode cX7_waitOf 18 = .ok (.iinc 3 1, 3) := by decide +kernel
theorem dX7_waitOf_21 : decode cX7_waitOf 21 = .ok (.goto (-17), 3) := by decide +kernel
theorem dX7_waitOf_24 : decode cX7_waitOf 24 = .ok (.iload_n 2, 1) := by decide +kernel
theorem dX7_waitOf_25 : decode cX7_waitOf 25 = .ok (.ireturn, 1) := by decide +kernel
theorem dX7_costBy_0 : decode cX7_costBy 0 = .ok (.iconst 0, 1) := by decide +kernel
theorem dX7_costBy_1 : decode cX7_costBy 1 = .ok (.istore_n 2, 1) := by decide +kernel
theorem dX7_costBy_2 : decode cX7_costBy 2 = .ok (.iconst 0, 1) := by decide +kernel
theorem dX7_costBy_3 : decode cX7_costBy 3 = .ok (.istore_n 3, 1) := by decide +kernel
theorem dX7_costBy_4 : decode cX7_costBy 4 = .ok (.iload_n 3, 1) := by decide +kernel
theorem dX7_costBy_5 : decode cX7_costBy 5 = .ok (.aload_n 0, 1) := by decide +kernel
theorem dX7_costBy_6 : decode cX7_costBy 6 = .ok (.getfield 7, 3) := by decide +kernel
theorem dX7_costBy_9 : decode cX7_costBy 9 = .ok (.iconst 0, 1) := by decide +kernel
theorem dX7_costBy_10 : decode cX7_costBy 10 = .ok (.iaload, 1) := by decide +kernel
theorem dX7_costBy_11 : decode cX7_costBy 11 = .ok (.if_icmp .ge 24, 3) := by decide +kernel
theorem dX7_costBy_14 : decode cX7_costBy 14 = .ok (.iload_n 2, 1) := by decide +kernel
theorem dX7_costBy_15 : decode cX7_costBy 15 = .ok (.aload_n 0, 1) := by decide +kernel
theorem dX7_costBy_16 : decode cX7_costBy 16 = .ok (.iload_n 3, 1) := by decide +kernel
theorem dX7_costBy_17 : decode cX7_costBy 17 = .ok (.iload_n 1, 1) := by decide +kernel
theorem dX7_costBy_18 : decode cX7_costBy 18 = .ok (.invokevirtual 33, 3) := by decide +kernel
theorem dX7_costBy_21 : decode cX7_costBy 21 = .ok (.aload_n 0, 1) := by decide +kernel
theorem dX7_costBy_22 : decode cX7_costBy 22 = .ok (.iload_n 3, 1) := by decide +kernel
theorem dX7_costBy_23 : decode cX7_costBy 23 = .ok (.invokevirtual 137, 3) := by decide +kernel
theorem dX7_costBy_26 : decode cX7_costBy 26 = .ok (.imul, 1) := by decide +kernel
theorem dX7_costBy_27 : decode cX7_costBy 27 = .ok (.iadd, 1) := by decide +kernel
theorem dX7_costBy_28 : decode cX7_costBy 28 = .ok (.istore_n 2, 1) := by decide +kernel
theorem dX7_costBy_29 : decode cX7_costBy 29 = .ok (.iinc 3 1, 3) := by decide +kernel
theorem dX7_costBy_32 : decode cX7_costBy 32 = .ok (.goto (-28), 3) := by decide +kernel
theorem dX7_costBy_35 : decode cX7_costBy 35 = .ok (.iload_n 2, 1) := by decide +kernel
theorem dX7_costBy_36 : decode cX7_costBy 36 = .ok (.ireturn, 1) := by decide +kernel
theorem dX7_memberValue_0 : decode cX7_memberValue 0 = .ok (.iload_n 2, 1) := by decide +kernel
theorem dX7_memberValue_1 : decode cX7_memberValue 1 = .ok (.tableswitch 114 0 8 #[51, 53, 53, 53, 60, 66, 79, 86, 93], 51) := by decide +kernel
theorem dX7_memberValue_52 : decode cX7_memberValue 52 = .ok (.iload_n 1, 1) := by decide +kernel
theorem dX7_memberValue_53 : decode cX7_memberValue 53 = .ok (.ireturn, 1) := by decide +kernel
theorem dX7_memberValue_54 : decode cX7_memberValue 54 = .ok (.aload_n 0, 1) := by decide +kernel
theorem dX7_memberValue_55 : decode cX7_memberValue 55 = .ok (.iload_n 1, 1) := by decide +kernel
theorem dX7_memberValue_56 : decode cX7_memberValue 56 = .ok (.iload_n 2, 1) := by decide +kernel
theorem dX7_memberValue_57 : decode cX7_memberValue 57 = .ok (.invokevirtual 33, 3) := by decide +kernel
theorem dX7_memberValue_60 : decode cX7_memberValue 60 = .ok (.ireturn, 1) := by decide +kernel
theorem dX7_memberValue_61 : decode cX7_memberValue 61 = .ok (.aload_n 0, 1) := by decide +kernel
theorem dX7_memberValue_62 : decode cX7_memberValue 62 = .ok (.iload_n 1, 1) := by decide +kernel
theorem dX7_memberValue_63 : decode cX7_memberValue 63 = .ok (.invokevirtual 137, 3) := by decide +kernel
theorem dX7_memberValue_66 : decode cX7_memberValue 66 = .ok (.ireturn, 1) := by decide +kernel
theorem dX7_memberValue_67 : decode cX7_memberValue 67 = .ok (.aload_n 0, 1) := by decide +kernel
theorem dX7_memberValue_68 : decode cX7_memberValue 68 = .ok (.iload_n 1, 1) := by decide +kernel
theorem dX7_memberValue_69 : decode cX7_memberValue 69 = .ok (.iconst 1, 1) := by decide +kernel
theorem dX7_memberValue_70 : decode cX7_memberValue 70 = .ok (.invokevirtual 33, 3) := by decide +kernel
theorem dX7_memberValue_73 : decode cX7_memberValue 73 = .ok (.aload_n 0, 1) := by decide +kernel
theorem dX7_memberValue_74 : decode cX7_memberValue 74 = .ok (.iload_n 1, 1) := by decide +kernel
theorem dX7_memberValue_75 : decode cX7_memberValue 75 = .ok (.invokevirtual 137, 3) := by decide +kernel
theorem dX7_memberValue_78 : decode cX7_memberValue 78 = .ok (.imul, 1) := by decide +kernel
theorem dX7_memberValue_79 : decode cX7_memberValue 79 = .ok (.ireturn, 1) := by decide +kernel
theorem dX7_memberValue_80 : decode cX7_memberValue 80 = .ok (.aload_n 0, 1) := by decide +kernel
theorem dX7_memberValue_81 : decode cX7_memberValue 81 = .ok (.iload_n 1, 1) := by decide +kernel
theorem dX7_memberValue_82 : decode cX7_memberValue 82 = .ok (.iconst 4, 1) := by decide +kernel
theorem dX7_memberValue_83 : decode cX7_memberValue 83 = .ok (.invokevirtual 33, 3) := by decide +kernel
theorem dX7_memberValue_86 : decode cX7_memberValue 86 = .ok (.ireturn, 1) := by decide +kernel
theorem dX7_memberValue_87 : decode cX7_memberValue 87 = .ok (.aload_n 0, 1) := by decide +kernel
theorem dX7_memberValue_88 : decode cX7_memberValue 88 = .ok (.iload_n 1, 1) := by decide +kernel
theorem dX7_memberValue_89 : decode cX7_memberValue 89 = .ok (.iconst 5, 1) := by decide +kernel
theorem dX7_memberValue_90 : decode cX7_memberValue 90 = .ok (.invokevirtual 33, 3) := by decide +kernel
theorem dX7_memberValue_93 : decode cX7_memberValue 93 = .ok (.ireturn, 1) := by decide +kernel
theorem dX7_memberValue_94 : decode cX7_memberValue 94 = .ok (.aload_n 0, 1) := by decide +kernel
theorem dX7_memberValue_95 : decode cX7_memberValue 95 = .ok (.iload_n 1, 1) := by decide +kernel
theorem dX7_memberValue_96 : decode cX7_memberValue 96 = .ok (.invokevirtual 101, 3) := by decide +kernel
theorem dX7_memberValue_99 : decode cX7_memberValue 99 = .ok (.ifCond .eq 14, 3) := by decide +kernel
theorem dX7_memberValue_102 : decode cX7_memberValue 102 = .ok (.aload_n 0, 1) := by decide +kernel
theorem dX7_memberValue_103 : decode cX7_memberValue 103 = .ok (.iload_n 1, 1) := by decide +kernel
theorem dX7_memberValue_104 : decode cX7_memberValue 104 = .ok (.iconst 1, 1) := by decide +kernel
theorem dX7_memberValue_105 : decode cX7_memberValue 105 = .ok (.iadd, 1) := by decide +kernel
theorem dX7_memberValue_106 : decode cX7_memberValue 106 = .ok (.iconst 5, 1) := by decide +kernel
theorem dX7_memberValue_107 : decode cX7_memberValue 107 = .ok (.invokevirtual 33, 3) := by decide +kernel
theorem dX7_memberValue_110 : decode cX7_memberValue 110 = .ok (.goto 4, 3) := by decide +kernel
theorem dX7_memberValue_113 : decode cX7_memberValue 113 = .ok (.iconst (-1), 1) := by decide +kernel
theorem dX7_memberValue_114 : decode cX7_memberValue 114 = .ok (.ireturn, 1) := by decide +kernel
theorem dX7_memberValue_115 : decode cX7_memberValue 115 = .ok (.aload_n 0, 1) := by decide +kernel
theorem dX7_memberValue_116 : decode cX7_memberValue 116 = .ok (.iload_n 1, 1) := by decide +kernel
theorem dX7_memberValue_117 : decode cX7_memberValue 117 = .ok (.bipush 6, 2) := by decide +kernel
theorem dX7_memberValue_119 : decode cX7_memberValue 119 = .ok (.invokevirtual 33, 3) := by decide +kernel
theorem dX7_memberValue_122 : decode cX7_memberValue 122 = .ok (.iload_n 1, 1) := by decide +kernel
theorem dX7_memberValue_123 : decode cX7_memberValue 123 = .ok (.ifCond .le 15, 3) := by decide +kernel
theorem dX7_memberValue_126 : decode cX7_memberValue 126 = .ok (.aload_n 0, 1) := by decide +kernel
theorem dX7_memberValue_127 : decode cX7_memberValue 127 = .ok (.iload_n 1, 1) := by decide +kernel
theorem dX7_memberValue_128 : decode cX7_memberValue 128 = .ok (.iconst 1, 1) := by decide +kernel
theorem dX7_memberValue_129 : decode cX7_memberValue 129 = .ok (.isub, 1) := by decide +kernel
theorem dX7_memberValue_130 : decode cX7_memberValue 130 = .ok (.bipush 6, 2) := by decide +kernel
theorem dX7_memberValue_132 : decode cX7_memberValue 132 = .ok (.invokevirtual 33, 3) := by decide +kernel
theorem dX7_memberValue_135 : decode cX7_memberValue 135 = .ok (.goto 4, 3) := by decide +kernel
theorem dX7_memberValue_138 : decode cX7_memberValue 138 = .ok (.iconst 0, 1) := by decide +kernel
theorem dX7_memberValue_139 : decode cX7_memberValue 139 = .ok (.iadd, 1) := by decide +kernel
theorem dX7_memberValue_140 : decode cX7_memberValue 140 = .ok (.ireturn, 1) := by decide +kernel
theorem dX7_member_0 : decode cX7_member 0 = .ok (.aload_n 0, 1) := by decide +kernel
theorem dX7_member_1 : decode cX7_member 1 = .ok (.aload_n 0, 1) := by decide +kernel
theorem dX7_member_2 : decode cX7_member 2 = .ok (.iload_n 1, 1) := by decide +kernel
theorem dX7_member_3 : decode cX7_member 3 = .ok (.invokevirtual 45, 3) := by decide +kernel
theorem dX7_member_6 : decode cX7_member 6 = .ok (.iconst (-1), 1) := by decide +kernel
theorem dX7_member_7 : decode cX7_member 7 = .ok (.if_icmp .ne 7, 3) := by decide +kernel
theorem dX7_member_10 : decode cX7_member 10 = .ok (.iconst 1, 1) := by decide +kernel
theorem dX7_member_11 : decode cX7_member 11 = .ok (.goto 18, 3) := by decide +kernel
theorem dX7_member_14 : decode cX7_member 14 = .ok (.iload_n 2, 1) := by decide +kernel
theorem dX7_member_15 : decode cX7_member 15 = .ok (.iconst 0, 1) := by decide +kernel
theorem dX7_member_16 : decode cX7_member 16 = .ok (.bipush 9, 2) := by decide +kernel
theorem dX7_member_18 : decode cX7_member 18 = .ok (.invokestatic 37, 3) := by decide +kernel
theorem dX7_member_21 : decode cX7_member 21 = .ok (.ifCond .eq 7, 3) := by decide +kernel
theorem dX7_member_24 : decode cX7_member 24 = .ok (.iconst 0, 1) := by decide +kernel
theorem dX7_member_25 : decode cX7_member 25 = .ok (.goto 4, 3) := by decide +kernel
theorem dX7_member_28 : decode cX7_member 28 = .ok (.iconst 2, 1) := by decide +kernel
theorem dX7_member_29 : decode cX7_member 29 = .ok (.invokevirtual 56, 3) := by decide +kernel
theorem dX7_member_32 : decode cX7_member 32 = .ok (.ifCond .eq 5, 3) := by decide +kernel
theorem dX7_member_35 : decode cX7_member 35 = .ok (.iconst 0, 1) := by decide +kernel
theorem dX7_member_36 : decode cX7_member 36 = .ok (.ireturn, 1) := by decide +kernel
theorem dX7_member_37 : decode cX7_member 37 = .ok (.aload_n 0, 1) := by decide +kernel
theorem dX7_member_38 : decode cX7_member 38 = .ok (.aload_n 0, 1) := by decide +kernel
theorem dX7_member_39 : decode cX7_member 39 = .ok (.iload_n 1, 1) := by decide +kernel
theorem dX7_member_40 : decode cX7_member 40 = .ok (.invokevirtual 45, 3) := by decide +kernel
theorem dX7_member_43 : decode cX7_member 43 = .ok (.iload_n 2, 1) := by decide +kernel
theorem dX7_member_44 : decode cX7_member 44 = .ok (.invokevirtual 140, 3) := by decide +kernel
theorem dX7_member_47 : decode cX7_member 47 = .ok (.ireturn, 1) := by decide +kernel
theorem dX7_at_0 : decode cX7_at 0 = .ok (.aload_n 0, 1) := by decide +kernel
theorem dX7_at_1 : decode cX7_at 1 = .ok (.iload_n 1, 1) := by decide +kernel
theorem dX7_at_2 : decode cX7_at 2 = .ok (.ifCond .ge 7, 3) := by decide +kernel
theorem dX7_at_5 : decode cX7_at 5 = .ok (.iconst 1, 1) := by decide +kernel
theorem dX7_at_6 : decode cX7_at 6 = .ok (.goto 4, 3) := by decide +kernel
theorem dX7_at_9 : decode cX7_at 9 = .ok (.iconst 0, 1) := by decide +kernel
theorem dX7_at_10 : decode cX7_at 10 = .ok (.invokevirtual 56, 3) := by decide +kernel
theorem dX7_at_13 : decode cX7_at 13 = .ok (.ifCond .eq 5, 3) := by decide +kernel
theorem dX7_at_16 : decode cX7_at 16 = .ok (.iconst 0, 1) := by decide +kernel
theorem dX7_at_17 : decode cX7_at 17 = .ok (.ireturn, 1) := by decide +kernel
theorem dX7_at_18 : decode cX7_at 18 = .ok (.iload_n 1, 1) := by decide +kernel
theorem dX7_at_19 : decode cX7_at 19 = .ok (.aload_n 0, 1) := by decide +kernel
theorem dX7_at_20 : decode cX7_at 20 = .ok (.getfield 7, 3) := by decide +kernel
theorem dX7_at_23 : decode cX7_at 23 = .ok (.iconst 0, 1) := by decide +kernel
theorem dX7_at_24 : decode cX7_at 24 = .ok (.iaload, 1) := by decide +kernel
theorem dX7_at_25 : decode cX7_at 25 = .ok (.if_icmp .ge 12, 3) := by decide +kernel
theorem dX7_at_28 : decode cX7_at 28 = .ok (.aload_n 0, 1) := by decide +kernel
theorem dX7_at_29 : decode cX7_at 29 = .ok (.iload_n 1, 1) := by decide +kernel
theorem dX7_at_30 : decode cX7_at 30 = .ok (.iconst 0, 1) := by decide +kernel
theorem dX7_at_31 : decode cX7_at 31 = .ok (.invokevirtual 33, 3) := by decide +kernel
theorem dX7_at_34 : decode cX7_at 34 = .ok (.goto 4, 3) := by decide +kernel
theorem dX7_at_37 : decode cX7_at 37 = .ok (.iconst (-1), 1) := by decide +kernel
theorem dX7_at_38 : decode cX7_at 38 = .ok (.ireturn, 1) := by decide +kernel
theorem dX7_pairValue_0 : decode cX7_pairValue 0 = .ok (.iload_n 2, 1) := by decide +kernel
theorem dX7_pairValue_1 : decode cX7_pairValue 1 = .ok (.tableswitch 67 0 3 #[31, 37, 43, 49], 31) := by decide +kernel
theorem dX7_pairValue_32 : decode cX7_pairValue 32 = .ok (.aload_n 0, 1) := by decide +kernel
theorem dX7_pairValue_33 : decode cX7_pairValue 33 = .ok (.iload_n 1, 1) := by decide +kernel
theorem dX7_pairValue_34 : decode cX7_pairValue 34 = .ok (.invokevirtual 83, 3) := by decide +kernel
theorem dX7_pairValue_37 : decode cX7_pairValue 37 = .ok (.ireturn, 1) := by decide +kernel
theorem dX7_pairValue_38 : decode cX7_pairValue 38 = .ok (.aload_n 0, 1) := by decide +kernel
theorem dX7_pairValue_39 : decode cX7_pairValue 39 = .ok (.iload_n 1, 1) := by decide +kernel
theorem dX7_pairValue_40 : decode cX7_pairValue 40 = .ok (.invokevirtual 86, 3) := by decide +kernel
theorem dX7_pairValue_43 : decode cX7_pairValue 43 = .ok (.ireturn, 1) := by decide +kernel
theorem dX7_pairValue_44 : decode cX7_pairValue 44 = .ok (.aload_n 0, 1) := by decide +kernel
theorem dX7_pairValue_45 : decode cX7_pairValue 45 = .ok (.iload_n 1, 1) := by decide +kernel
theorem dX7_pairValue_46 : decode cX7_pairValue 46 = .ok (.invokevirtual 89, 3) := by decide +kernel
theorem dX7_pairValue_49 : decode cX7_pairValue 49 = .ok (.ireturn, 1) := by decide +kernel
theorem dX7_pairValue_50 : decode cX7_pairValue 50 = .ok (.aload_n 0, 1) := by decide +kernel
theorem dX7_pairValue_51 : decode cX7_pairValue 51 = .ok (.iload_n 1, 1) := by decide +kernel
theorem dX7_pairValue_52 : decode cX7_pairValue 52 = .ok (.invokevirtual 89, 3) := by decide +kernel
theorem dX7_pairValue_55 : decode cX7_pairValue 55 = .ok (.ifCond .le 11, 3) := by decide +kernel
theorem dX7_pairValue_58 : decode cX7_pairValue 58 = .ok (.aload_n 0, 1) := by decide +kernel
theorem dX7_pairValue_59 : decode cX7_pairValue 59 = .ok (.iload_n 1, 1) := by decide +kernel
theorem dX7_pairValue_60 : decode cX7_pairValue 60 = .ok (.invokevirtual 122, 3) := by decide +kernel
theorem dX7_pairValue_63 : decode cX7_pairValue 63 = .ok (.goto 4, 3) := by decide +kernel
theorem dX7_pairValue_66 : decode cX7_pairValue 66 = .ok (.iconst (-1), 1) := by decide +kernel
theorem dX7_pairValue_67 : decode cX7_pairValue 67 = .ok (.ireturn, 1) := by decide +kernel
theorem dX7_pairValue_68 : decode cX7_pairValue 68 = .ok (.aload_n 0, 1) := by decide +kernel
theorem dX7_pairValue_69 : decode cX7_pairValue 69 = .ok (.iload_n 1, 1) := by decide +kernel
theorem dX7_pairValue_70 : decode cX7_pairValue 70 = .ok (.bipush 6, 2) := by decide +kernel
theorem dX7_pairValue_72 : decode cX7_pairValue 72 = .ok (.invokevirtual 33, 3) := by decide +kernel
theorem dX7_pairValue_75 : decode cX7_pairValue 75 = .ok (.ireturn, 1) := by decide +kernel
theorem dX7_pair_0 : decode cX7_pair 0 = .ok (.aload_n 0, 1) := by decide +kernel
theorem dX7_pair_1 : decode cX7_pair 1 = .ok (.aload_n 0, 1) := by decide +kernel
theorem dX7_pair_2 : decode cX7_pair 2 = .ok (.iload_n 1, 1) := by decide +kernel
theorem dX7_pair_3 : decode cX7_pair 3 = .ok (.invokevirtual 101, 3) := by decide +kernel
theorem dX7_pair_6 : decode cX7_pair 6 = .ok (.ifCond .ne 7, 3) := by decide +kernel
theorem dX7_pair_9 : decode cX7_pair 9 = .ok (.iconst 1, 1) := by decide +kernel
theorem dX7_pair_10 : decode cX7_pair 10 = .ok (.goto 17, 3) := by decide +kernel
theorem dX7_pair_13 : decode cX7_pair 13 = .ok (.iload_n 2, 1) := by decide +kernel
theorem dX7_pair_14 : decode cX7_pair 14 = .ok (.iconst 0, 1) := by decide +kernel
theorem dX7_pair_15 : decode cX7_pair 15 = .ok (.iconst 4, 1) := by decide +kernel
theorem dX7_pair_16 : decode cX7_pair 16 = .ok (.invokestatic 37, 3) := by decide +kernel
theorem dX7_pair_19 : decode cX7_pair 19 = .ok (.ifCond .eq 7, 3) := by decide +kernel
theorem dX7_pair_22 : decode cX7_pair 22 = .ok (.iconst 0, 1) := by decide +kernel
theorem dX7_pair_23 : decode cX7_pair 23 = .ok (.goto 4, 3) := by decide +kernel
theorem dX7_pair_26 : decode cX7_pair 26 = .ok (.iconst 2, 1) := by decide +kernel
theorem dX7_pair_27 : decode cX7_pair 27 = .ok (.invokevirtual 56, 3) := by decide +kernel
theorem dX7_pair_30 : decode cX7_pair 30 = .ok (.ifCond .eq 5, 3) := by decide +kernel
theorem dX7_pair_33 : decode cX7_pair 33 = .ok (.iconst 0, 1) := by decide +kernel
theorem dX7_pair_34 : decode cX7_pair 34 = .ok (.ireturn, 1) := by decide +kernel
theorem dX7_pair_35 : decode cX7_pair 35 = .ok (.aload_n 0, 1) := by decide +kernel
theorem dX7_pair_36 : decode cX7_pair 36 = .ok (.iload_n 1, 1) := by decide +kernel
theorem dX7_pair_37 : decode cX7_pair 37 = .ok (.iload_n 2, 1) := by decide +kernel
theorem dX7_pair_38 : decode cX7_pair 38 = .ok (.invokevirtual 143, 3) := by decide +kernel
theorem dX7_pair_41 : decode cX7_pair 41 = .ok (.ireturn, 1) := by decide +kernel
theorem dX7_bestCost_0 : decode cX7_bestCost 0 = .ok (.iconst 0, 1) := by decide +kernel
theorem dX7_bestCost_1 : decode cX7_bestCost 1 = .ok (.istore_n 1, 1) := by decide +kernel
theorem dX7_bestCost_2 : decode cX7_bestCost 2 = .ok (.iconst 0, 1) := by decide +kernel
theorem dX7_bestCost_3 : decode cX7_bestCost 3 = .ok (.istore_n 2, 1) := by decide +kernel
theorem dX7_bestCost_4 : decode cX7_bestCost 4 = .ok (.iconst 0, 1) := by decide +kernel
theorem dX7_bestCost_5 : decode cX7_bestCost 5 = .ok (.istore_n 3, 1) := by decide +kernel
theorem dX7_bestCost_6 : decode cX7_bestCost 6 = .ok (.iload_n 3, 1) := by decide +kernel
theorem dX7_bestCost_7 : decode cX7_bestCost 7 = .ok (.aload_n 0, 1) := by decide +kernel
theorem dX7_bestCost_8 : decode cX7_bestCost 8 = .ok (.getfield 7, 3) := by decide +kernel
theorem dX7_bestCost_11 : decode cX7_bestCost 11 = .ok (.iconst 0, 1) := by decide +kernel
theorem dX7_bestCost_12 : decode cX7_bestCost 12 = .ok (.iaload, 1) := by decide +kernel
theorem dX7_bestCost_13 : decode cX7_bestCost 13 = .ok (.if_icmp .ge 92, 3) := by decide +kernel
theorem dX7_bestCost_16 : decode cX7_bestCost 16 = .ok (.iload_n 3, 1) := by decide +kernel
theorem dX7_bestCost_17 : decode cX7_bestCost 17 = .ok (.istore 4, 2) := by decide +kernel
theorem dX7_bestCost_19 : decode cX7_bestCost 19 = .ok (.iload 4, 2) := by decide +kernel
theorem dX7_bestCost_21 : decode cX7_bestCost 21 = .ok (.ifCond .le 70, 3) := by decide +kernel
theorem dX7_bestCost_24 : decode cX7_bestCost 24 = .ok (.aload_n 0, 1) := by decide +kernel
theorem dX7_bestCost_25 : decode cX7_bestCost 25 = .ok (.aload_n 0, 1) := by decide +kernel
theorem dX7_bestCost_26 : decode cX7_bestCost 26 = .ok (.getfield 19, 3) := by decide +kernel
theorem dX7_bestCost_29 : decode cX7_bestCost 29 = .ok (.iload 4, 2) := by decide +kernel
theorem dX7_bestCost_31 : decode cX7_bestCost 31 = .ok (.iconst 1, 1) := by decide +kernel
theorem dX7_bestCost_32 : decode cX7_bestCost 32 = .ok (.isub, 1) := by decide +kernel
theorem dX7_bestCost_33 : decode cX7_bestCost 33 = .ok (.iaload, 1) := by decide +kernel
theorem dX7_bestCost_34 : decode cX7_bestCost 34 = .ok (.iconst 1, 1) := by decide +kernel
theorem dX7_bestCost_35 : decode cX7_bestCost 35 = .ok (.invokevirtual 33, 3) := by decide +kernel
theorem dX7_bestCost_38 : decode cX7_bestCost 38 = .ok (.aload_n 0, 1) := by decide +kernel
theorem dX7_bestCost_39 : decode cX7_bestCost 39 = .ok (.iload_n 3, 1) := by decide +kernel
theorem dX7_bestCost_40 : decode cX7_bestCost 40 = .ok (.iconst 3, 1) := by decide +kernel
theorem dX7_bestCost_41 : decode cX7_bestCost 41 = .ok (.invokevirtual 33, 3) := by decide +kernel
theorem dX7_bestCost_44 : decode cX7_bestCost 44 = .ok (.imul, 1) := by decide +kernel
theorem dX7_bestCost_45 : decode cX7_bestCost 45 = .ok (.aload_n 0, 1) := by decide +kernel
theorem dX7_bestCost_46 : decode cX7_bestCost 46 = .ok (.iload_n 3, 1) := by decide +kernel
theorem dX7_bestCost_47 : decode cX7_bestCost 47 = .ok (.iconst 1, 1) := by decide +kernel
theorem dX7_bestCost_48 : decode cX7_bestCost 48 = .ok (.invokevirtual 33, 3) := by decide +kernel
theorem dX7_bestCost_51 : decode cX7_bestCost 51 = .ok (.aload_n 0, 1) := by decide +kernel
theorem dX7_bestCost_52 : decode cX7_bestCost 52 = .ok (.aload_n 0, 1) := by decide +kernel
theorem dX7_bestCost_53 : decode cX7_bestCost 53 = .ok (.getfield 19, 3) := by decide +kernel
theorem dX7_bestCost_56 : decode cX7_bestCost 56 = .ok (.iload 4, 2) := by decide +kernel
theorem dX7_bestCost_58 : decode cX7_bestCost 58 = .ok (.iconst 1, 1) := by decide +kernel
theorem dX7_bestCost_59 : decode cX7_bestCost 59 = .ok (.isub, 1) := by decide +kernel
theorem dX7_bestCost_60 : decode cX7_bestCost 60 = .ok (.iaload, 1) := by decide +kernel
theorem dX7_bestCost_61 : decode cX7_bestCost 61 = .ok (.iconst 3, 1) := by decide +kernel
theorem dX7_bestCost_62 : decode cX7_bestCost 62 = .ok (.invokevirtual 33, 3) := by decide +kernel
theorem dX7_bestCost_65 : decode cX7_bestCost 65 = .ok (.imul, 1) := by decide +kernel
theorem dX7_bestCost_66 : decode cX7_bestCost 66 = .ok (.if_icmp .ge 25, 3) := by decide +kernel
theorem dX7_bestCost_69 : decode cX7_bestCost 69 = .ok (.aload_n 0, 1) := by decide +kernel
theorem dX7_bestCost_70 : decode cX7_bestCost 70 = .ok (.getfield 19, 3) := by decide +kernel
theorem dX7_bestCost_73 : decode cX7_bestCost 73 = .ok (.iload 4, 2) := by decide +kernel
theorem dX7_bestCost_75 : decode cX7_bestCost 75 = .ok (.aload_n 0, 1) := by decide +kernel
theorem dX7_bestCost_76 : decode cX7_bestCost 76 = .ok (.getfield 19, 3) := by decide +kernel
theorem dX7_bestCost_79 : decode cX7_bestCost 79 = .ok (.iload 4, 2) := by decide +kernel
theorem dX7_bestCost_81 : decode cX7_bestCost 81 = .ok (.iconst 1, 1) := by decide +kernel
theorem dX7_bestCost_82 : decode cX7_bestCost 82 = .ok (.isub, 1) := by decide +kernel
theorem dX7_bestCost_83 : decode cX7_bestCost 83 = .ok (.iaload, 1) := by decide +kernel
theorem dX7_bestCost_84 : decode cX7_bestCost 84 = .ok (.iastore, 1) := by decide +kernel
theorem dX7_bestCost_85 : decode cX7_bestCost 85 = .ok (.iinc 4 (-1), 3) := by decide +kernel
theorem dX7_bestCost_88 : decode cX7_bestCost 88 = .ok (.goto (-69), 3) := by decide +kernel
theorem dX7_bestCost_91 : decode cX7_bestCost 91 = .ok (.aload_n 0, 1) := by decide +kernel
theorem dX7_bestCost_92 : decode cX7_bestCost 92 = .ok (.getfield 19, 3) := by decide +kernel
theorem dX7_bestCost_95 : decode cX7_bestCost 95 = .ok (.iload 4, 2) := by decide +kernel
theorem dX7_bestCost_97 : decode cX7_bestCost 97 = .ok (.iload_n 3, 1) := by decide +kernel
theorem dX7_bestCost_98 : decode cX7_bestCost 98 = .ok (.iastore, 1) := by decide +kernel
theorem dX7_bestCost_99 : decode cX7_bestCost 99 = .ok (.iinc 3 1, 3) := by decide +kernel
theorem dX7_bestCost_102 : decode cX7_bestCost 102 = .ok (.goto (-96), 3) := by decide +kernel
theorem dX7_bestCost_105 : decode cX7_bestCost 105 = .ok (.iconst 0, 1) := by decide +kernel
theorem dX7_bestCost_106 : decode cX7_bestCost 106 = .ok (.istore_n 3, 1) := by decide +kernel
theorem dX7_bestCost_107 : decode cX7_bestCost 107 = .ok (.iload_n 3, 1) := by decide +kernel
theorem dX7_bestCost_108 : decode cX7_bestCost 108 = .ok (.aload_n 0, 1) := by decide +kernel
theorem dX7_bestCost_109 : decode cX7_bestCost 109 = .ok (.getfield 7, 3) := by decide +kernel
theorem dX7_bestCost_112 : decode cX7_bestCost 112 = .ok (.iconst 0, 1) := by decide +kernel
theorem dX7_bestCost_113 : decode cX7_bestCost 113 = .ok (.iaload, 1) := by decide +kernel
theorem dX7_bestCost_114 : decode cX7_bestCost 114 = .ok (.if_icmp .ge 39, 3) := by decide +kernel
theorem dX7_bestCost_117 : decode cX7_bestCost 117 = .ok (.iload_n 1, 1) := by decide +kernel
theorem dX7_bestCost_118 : decode cX7_bestCost 118 = .ok (.aload_n 0, 1) := by decide +kernel
theorem dX7_bestCost_119 : decode cX7_bestCost 119 = .ok (.aload_n 0, 1) := by decide +kernel
theorem dX7_bestCost_120 : decode cX7_bestCost 120 = .ok (.getfield 19, 3) := by decide +kernel
theorem dX7_bestCost_123 : decode cX7_bestCost 123 = .ok (.iload_n 3, 1) := by decide +kernel
theorem dX7_bestCost_124 : decode cX7_bestCost 124 = .ok (.iaload, 1) := by decide +kernel
theorem dX7_bestCost_125 : decode cX7_bestCost 125 = .ok (.iconst 1, 1) := by decide +kernel
theorem dX7_bestCost_126 : decode cX7_bestCost 126 = .ok (.invokevirtual 33, 3) := by decide +kernel
theorem dX7_bestCost_129 : decode cX7_bestCost 129 = .ok (.iload_n 2, 1) := by decide +kernel
theorem dX7_bestCost_130 : decode cX7_bestCost 130 = .ok (.imul, 1) := by decide +kernel
theorem dX7_bestCost_131 : decode cX7_bestCost 131 = .ok (.iadd, 1) := by decide +kernel
theorem dX7_bestCost_132 : decode cX7_bestCost 132 = .ok (.istore_n 1, 1) := by decide +kernel
theorem dX7_bestCost_133 : decode cX7_bestCost 133 = .ok (.iload_n 2, 1) := by decide +kernel
theorem dX7_bestCost_134 : decode cX7_bestCost 134 = .ok (.aload_n 0, 1) := by decide +kernel
theorem dX7_bestCost_135 : decode cX7_bestCost 135 = .ok (.aload_n 0, 1) := by decide +kernel
theorem dX7_bestCost_136 : decode cX7_bestCost 136 = .ok (.getfield 19, 3) := by decide +kernel
theorem dX7_bestCost_139 : decode cX7_bestCost 139 = .ok (.iload_n 3, 1) := by decide +kernel
theorem dX7_bestCost_140 : decode cX7_bestCost 140 = .ok (.iaload, 1) := by decide +kernel
theorem dX7_bestCost_141 : decode cX7_bestCost 141 = .ok (.iconst 3, 1) := by decide +kernel
theorem dX7_bestCost_142 : decode cX7_bestCost 142 = .ok (.invokevirtual 33, 3) := by decide +kernel
theorem dX7_bestCost_145 : decode cX7_bestCost 145 = .ok (.iadd, 1) := by decide +kernel
theorem dX7_bestCost_146 : decode cX7_bestCost 146 = .ok (.istore_n 2, 1) := by decide +kernel
theorem dX7_bestCost_147 : decode cX7_bestCost 147 = .ok (.iinc 3 1, 3) := by decide +kernel
theorem dX7_bestCost_150 : decode cX7_bestCost 150 = .ok (.goto (-43), 3) := by decide +kernel
theorem dX7_bestCost_153 : decode cX7_bestCost 153 = .ok (.iload_n 1, 1) := by decide +kernel
theorem dX7_bestCost_154 : decode cX7_bestCost 154 = .ok (.ireturn, 1) := by decide +kernel
theorem dX7_wholeValue_0 : decode cX7_wholeValue 0 = .ok (.iconst 0, 1) := by decide +kernel
theorem dX7_wholeValue_1 : decode cX7_wholeValue 1 = .ok (.istore_n 2, 1) := by decide +kernel
theorem dX7_wholeValue_2 : decode cX7_wholeValue 2 = .ok (.iconst 0, 1) := by decide +kernel
theorem dX7_wholeValue_3 : decode cX7_wholeValue 3 = .ok (.istore_n 3, 1) := by decide +kernel
theorem dX7_wholeValue_4 : decode cX7_wholeValue 4 = .ok (.iconst 0, 1) := by decide +kernel
theorem dX7_wholeValue_5 : decode cX7_wholeValue 5 = .ok (.istore 4, 2) := by decide +kernel
theorem dX7_wholeValue_7 : decode cX7_wholeValue 7 = .ok (.iconst 0, 1) := by decide +kernel
theorem dX7_wholeValue_8 : decode cX7_wholeValue 8 = .ok (.istore 5, 2) := by decide +kernel
theorem dX7_wholeValue_10 : decode cX7_wholeValue 10 = .ok (.iload 5, 2) := by decide +kernel
theorem dX7_wholeValue_12 : decode cX7_wholeValue 12 = .ok (.aload_n 0, 1) := by decide +kernel
theorem dX7_wholeValue_13 : decode cX7_wholeValue 13 = .ok (.getfield 7, 3) := by decide +kernel
theorem dX7_wholeValue_16 : decode cX7_wholeValue 16 = .ok (.iconst 0, 1) := by decide +kernel
theorem dX7_wholeValue_17 : decode cX7_wholeValue 17 = .ok (.iaload, 1) := by decide +kernel
theorem dX7_wholeValue_18 : decode cX7_wholeValue 18 = .ok (.if_icmp .ge 73, 3) := by decide +kernel
theorem dX7_wholeValue_21 : decode cX7_wholeValue 21 = .ok (.iload_n 2, 1) := by decide +kernel
theorem dX7_wholeValue_22 : decode cX7_wholeValue 22 = .ok (.aload_n 0, 1) := by decide +kernel
theorem dX7_wholeValue_23 : decode cX7_wholeValue 23 = .ok (.iload 5, 2) := by decide +kernel
theorem dX7_wholeValue_25 : decode cX7_wholeValue 25 = .ok (.invokevirtual 101, 3) := by decide +kernel
theorem dX7_wholeValue_28 : decode cX7_wholeValue 28 = .ok (.ifCond .eq 16, 3) := by decide +kernel
theorem dX7_wholeValue_31 : decode cX7_wholeValue 31 = .ok (.aload_n 0, 1) := by decide +kernel
theorem dX7_wholeValue_32 : decode cX7_wholeValue 32 = .ok (.iload 5, 2) := by decide +kernel
theorem dX7_wholeValue_34 : decode cX7_wholeValue 34 = .ok (.invokevirtual 116, 3) := by decide +kernel
theorem dX7_wholeValue_37 : decode cX7_wholeValue 37 = .ok (.ifCond .ne 7, 3) := by decide +kernel
theorem dX7_wholeValue_40 : decode cX7_wholeValue 40 = .ok (.iconst 1, 1) := by decide +kernel
theorem dX7_wholeValue_41 : decode cX7_wholeValue 41 = .ok (.goto 4, 3) := by decide +kernel
theorem dX7_wholeValue_44 : decode cX7_wholeValue 44 = .ok (.iconst 0, 1) := by decide +kernel
theorem dX7_wholeValue_45 : decode cX7_wholeValue 45 = .ok (.iadd, 1) := by decide +kernel
theorem dX7_wholeValue_46 : decode cX7_wholeValue 46 = .ok (.istore_n 2, 1) := by decide +kernel
theorem dX7_wholeValue_47 : decode cX7_wholeValue 47 = .ok (.iload_n 3, 1) := by decide +kernel
theorem dX7_wholeValue_48 : decode cX7_wholeValue 48 = .ok (.aload_n 0, 1) := by decide +kernel
theorem dX7_wholeValue_49 : decode cX7_wholeValue 49 = .ok (.iload 5, 2) := by decide +kernel
theorem dX7_wholeValue_51 : decode cX7_wholeValue 51 = .ok (.iconst 5, 1) := by decide +kernel
theorem dX7_wholeValue_52 : decode cX7_wholeValue 52 = .ok (.invokevirtual 33, 3) := by decide +kernel
theorem dX7_wholeValue_55 : decode cX7_wholeValue 55 = .ok (.iconst (-1), 1) := by decide +kernel
theorem dX7_wholeValue_56 : decode cX7_wholeValue 56 = .ok (.if_icmp .eq 7, 3) := by decide +kernel
theorem dX7_wholeValue_59 : decode cX7_wholeValue 59 = .ok (.iconst 1, 1) := by decide +kernel
theorem dX7_wholeValue_60 : decode cX7_wholeValue 60 = .ok (.goto 4, 3) := by decide +kernel
theorem dX7_wholeValue_63 : decode cX7_wholeValue 63 = .ok (.iconst 0, 1) := by decide +kernel
theorem dX7_wholeValue_64 : decode cX7_wholeValue 64 = .ok (.iadd, 1) := by decide +kernel
theorem dX7_wholeValue_65 : decode cX7_wholeValue 65 = .ok (.istore_n 3, 1) := by decide +kernel
theorem dX7_wholeValue_66 : decode cX7_wholeValue 66 = .ok (.iload 4, 2) := by decide +kernel
theorem dX7_wholeValue_68 : decode cX7_wholeValue 68 = .ok (.aload_n 0, 1) := by decide +kernel
theorem dX7_wholeValue_69 : decode cX7_wholeValue 69 = .ok (.iload 5, 2) := by decide +kernel
theorem dX7_wholeValue_71 : decode cX7_wholeValue 71 = .ok (.invokevirtual 104, 3) := by decide +kernel
theorem dX7_wholeValue_74 : decode cX7_wholeValue 74 = .ok (.ifCond .eq 7, 3) := by decide +kernel
theorem dX7_wholeValue_77 : decode cX7_wholeValue 77 = .ok (.iconst 1, 1) := by decide +kernel
theorem dX7_wholeValue_78 : decode cX7_wholeValue 78 = .ok (.goto 4, 3) := by decide +kernel
theorem dX7_wholeValue_81 : decode cX7_wholeValue 81 = .ok (.iconst 0, 1) := by decide +kernel
theorem dX7_wholeValue_82 : decode cX7_wholeValue 82 = .ok (.iadd, 1) := by decide +kernel
theorem dX7_wholeValue_83 : decode cX7_wholeValue 83 = .ok (.istore 4, 2) := by decide +kernel
theorem dX7_wholeValue_85 : decode cX7_wholeValue 85 = .ok (.iinc 5 1, 3) := by decide +kernel
theorem dX7_wholeValue_88 : decode cX7_wholeValue 88 = .ok (.goto (-78), 3) := by decide +kernel
theorem dX7_wholeValue_91 : decode cX7_wholeValue 91 = .ok (.iload_n 1, 1) := by decide +kernel
theorem dX7_wholeValue_92 : decode cX7_wholeValue 92 = .ok (.tableswitch 139 0 12 #[68, 75, 82, 88, 94, 99, 101, 103, 106, 111, 118, 125, 132], 68) := by decide +kernel
theorem dX7_wholeValue_160 : decode cX7_wholeValue 160 = .ok (.aload_n 0, 1) := by decide +kernel
theorem dX7_wholeValue_161 : decode cX7_wholeValue 161 = .ok (.getfield 7, 3) := by decide +kernel
theorem dX7_wholeValue_164 : decode cX7_wholeValue 164 = .ok (.iconst 0, 1) := by decide +kernel
theorem dX7_wholeValue_165 : decode cX7_wholeValue 165 = .ok (.iaload, 1) := by decide +kernel
theorem dX7_wholeValue_166 : decode cX7_wholeValue 166 = .ok (.ireturn, 1) := by decide +kernel
theorem dX7_wholeValue_167 : decode cX7_wholeValue 167 = .ok (.aload_n 0, 1) := by decide +kernel
theorem dX7_wholeValue_168 : decode cX7_wholeValue 168 = .ok (.getfield 7, 3) := by decide +kernel
theorem dX7_wholeValue_171 : decode cX7_wholeValue 171 = .ok (.iconst 1, 1) := by decide +kernel
theorem dX7_wholeValue_172 : decode cX7_wholeValue 172 = .ok (.iaload, 1) := by decide +kernel
theorem dX7_wholeValue_173 : decode cX7_wholeValue 173 = .ok (.ireturn, 1) := by decide +kernel
theorem dX7_wholeValue_174 : decode cX7_wholeValue 174 = .ok (.aload_n 0, 1) := by decide +kernel
theorem dX7_wholeValue_175 : decode cX7_wholeValue 175 = .ok (.iconst 1, 1) := by decide +kernel
theorem dX7_wholeValue_176 : decode cX7_wholeValue 176 = .ok (.invokevirtual 146, 3) := by decide +kernel
theorem dX7_wholeValue_179 : decode cX7_wholeValue 179 = .ok (.ireturn, 1) := by decide +kernel
theorem dX7_wholeValue_180 : decode cX7_wholeValue 180 = .ok (.aload_n 0, 1) := by decide +kernel
theorem dX7_wholeValue_181 : decode cX7_wholeValue 181 = .ok (.iconst 2, 1) := by decide +kernel
theorem dX7_wholeValue_182 : decode cX7_wholeValue 182 = .ok (.invokevirtual 146, 3) := by decide +kernel
theorem dX7_wholeValue_185 : decode cX7_wholeValue 185 = .ok (.ireturn, 1) := by decide +kernel
theorem dX7_wholeValue_186 : decode cX7_wholeValue 186 = .ok (.aload_n 0, 1) := by decide +kernel
theorem dX7_wholeValue_187 : decode cX7_wholeValue 187 = .ok (.invokevirtual 149, 3) := by decide +kernel
theorem dX7_wholeValue_190 : decode cX7_wholeValue 190 = .ok (.ireturn, 1) := by decide +kernel
theorem dX7_wholeValue_191 : decode cX7_wholeValue 191 = .ok (.iload_n 2, 1) := by decide +kernel
theorem dX7_wholeValue_192 : decode cX7_wholeValue 192 = .ok (.ireturn, 1) := by decide +kernel
theorem dX7_wholeValue_193 : decode cX7_wholeValue 193 = .ok (.iload_n 3, 1) := by decide +kernel
theorem dX7_wholeValue_194 : decode cX7_wholeValue 194 = .ok (.ireturn, 1) := by decide +kernel
theorem dX7_wholeValue_195 : decode cX7_wholeValue 195 = .ok (.iload 4, 2) := by decide +kernel
theorem dX7_wholeValue_197 : decode cX7_wholeValue 197 = .ok (.ireturn, 1) := by decide +kernel
theorem dX7_wholeValue_198 : decode cX7_wholeValue 198 = .ok (.aload_n 0, 1) := by decide +kernel
theorem dX7_wholeValue_199 : decode cX7_wholeValue 199 = .ok (.invokevirtual 125, 3) := by decide +kernel
theorem dX7_wholeValue_202 : decode cX7_wholeValue 202 = .ok (.ireturn, 1) := by decide +kernel
theorem dX7_wholeValue_203 : decode cX7_wholeValue 203 = .ok (.aload_n 0, 1) := by decide +kernel
theorem dX7_wholeValue_204 : decode cX7_wholeValue 204 = .ok (.getfield 7, 3) := by decide +kernel
theorem dX7_wholeValue_207 : decode cX7_wholeValue 207 = .ok (.iconst 2, 1) := by decide +kernel
theorem dX7_wholeValue_208 : decode cX7_wholeValue 208 = .ok (.iaload, 1) := by decide +kernel
theorem dX7_wholeValue_209 : decode cX7_wholeValue 209 = .ok (.ireturn, 1) := by decide +kernel
theorem dX7_wholeValue_210 : decode cX7_wholeValue 210 = .ok (.aload_n 0, 1) := by decide +kernel
theorem dX7_wholeValue_211 : decode cX7_wholeValue 211 = .ok (.getfield 7, 3) := by decide +kernel
theorem dX7_wholeValue_214 : decode cX7_wholeValue 214 = .ok (.iconst 3, 1) := by decide +kernel
theorem dX7_wholeValue_215 : decode cX7_wholeValue 215 = .ok (.iaload, 1) := by decide +kernel
theorem dX7_wholeValue_216 : decode cX7_wholeValue 216 = .ok (.ireturn, 1) := by decide +kernel
theorem dX7_wholeValue_217 : decode cX7_wholeValue 217 = .ok (.aload_n 0, 1) := by decide +kernel
theorem dX7_wholeValue_218 : decode cX7_wholeValue 218 = .ok (.getfield 7, 3) := by decide +kernel
theorem dX7_wholeValue_221 : decode cX7_wholeValue 221 = .ok (.iconst 4, 1) := by decide +kernel
theorem dX7_wholeValue_222 : decode cX7_wholeValue 222 = .ok (.iaload, 1) := by decide +kernel
theorem dX7_wholeValue_223 : decode cX7_wholeValue 223 = .ok (.ireturn, 1) := by decide +kernel
theorem dX7_wholeValue_224 : decode cX7_wholeValue 224 = .ok (.aload_n 0, 1) := by decide +kernel
theorem dX7_wholeValue_225 : decode cX7_wholeValue 225 = .ok (.getfield 7, 3) := by decide +kernel
theorem dX7_wholeValue_228 : decode cX7_wholeValue 228 = .ok (.iconst 5, 1) := by decide +kernel
theorem dX7_wholeValue_229 : decode cX7_wholeValue 229 = .ok (.iaload, 1) := by decide +kernel
theorem dX7_wholeValue_230 : decode cX7_wholeValue 230 = .ok (.ireturn, 1) := by decide +kernel
theorem dX7_wholeValue_231 : decode cX7_wholeValue 231 = .ok (.aload_n 0, 1) := by decide +kernel
theorem dX7_wholeValue_232 : decode cX7_wholeValue 232 = .ok (.getfield 152, 3) := by decide +kernel
theorem dX7_wholeValue_235 : decode cX7_wholeValue 235 = .ok (.ireturn, 1) := by decide +kernel
theorem dX7_whole_0 : decode cX7_whole 0 = .ok (.aload_n 0, 1) := by decide +kernel
theorem dX7_whole_1 : decode cX7_whole 1 = .ok (.iload_n 1, 1) := by decide +kernel
theorem dX7_whole_2 : decode cX7_whole 2 = .ok (.iconst 0, 1) := by decide +kernel
theorem dX7_whole_3 : decode cX7_whole 3 = .ok (.bipush 13, 2) := by decide +kernel
theorem dX7_whole_5 : decode cX7_whole 5 = .ok (.invokestatic 37, 3) := by decide +kernel
theorem dX7_whole_8 : decode cX7_whole 8 = .ok (.ifCond .eq 7, 3) := by decide +kernel
theorem dX7_whole_11 : decode cX7_whole 11 = .ok (.iconst 0, 1) := by decide +kernel
theorem dX7_whole_12 : decode cX7_whole 12 = .ok (.goto 4, 3) := by decide +kernel
theorem dX7_whole_15 : decode cX7_whole 15 = .ok (.iconst 1, 1) := by decide +kernel
theorem dX7_whole_16 : decode cX7_whole 16 = .ok (.invokevirtual 56, 3) := by decide +kernel
theorem dX7_whole_19 : decode cX7_whole 19 = .ok (.ifCond .eq 5, 3) := by decide +kernel
theorem dX7_whole_22 : decode cX7_whole 22 = .ok (.iconst 0, 1) := by decide +kernel
theorem dX7_whole_23 : decode cX7_whole 23 = .ok (.ireturn, 1) := by decide +kernel
theorem dX7_whole_24 : decode cX7_whole 24 = .ok (.aload_n 0, 1) := by decide +kernel
theorem dX7_whole_25 : decode cX7_whole 25 = .ok (.iload_n 1, 1) := by decide +kernel
theorem dX7_whole_26 : decode cX7_whole 26 = .ok (.invokevirtual 155, 3) := by decide +kernel
theorem dX7_whole_29 : decode cX7_whole 29 = .ok (.ireturn, 1) := by decide +kernel
theorem dX7_reason_0 : decode cX7_reason 0 = .ok (.aload_n 0, 1) := by decide +kernel
theorem dX7_reason_1 : decode cX7_reason 1 = .ok (.aload_n 0, 1) := by decide +kernel
theorem dX7_reason_2 : decode cX7_reason 2 = .ok (.iload_n 1, 1) := by decide +kernel
theorem dX7_reason_3 : decode cX7_reason 3 = .ok (.invokevirtual 101, 3) := by decide +kernel
theorem dX7_reason_6 : decode cX7_reason 6 = .ok (.ifCond .eq 7, 3) := by decide +kernel
theorem dX7_reason_9 : decode cX7_reason 9 = .ok (.iconst 0, 1) := by decide +kernel
theorem dX7_reason_10 : decode cX7_reason 10 = .ok (.goto 4, 3) := by decide +kernel
theorem dX7_reason_13 : decode cX7_reason 13 = .ok (.iconst 1, 1) := by decide +kernel
theorem dX7_reason_14 : decode cX7_reason 14 = .ok (.invokevirtual 56, 3) := by decide +kernel
theorem dX7_reason_17 : decode cX7_reason 17 = .ok (.ifCond .eq 5, 3) := by decide +kernel
theorem dX7_reason_20 : decode cX7_reason 20 = .ok (.iconst 0, 1) := by decide +kernel
theorem dX7_reason_21 : decode cX7_reason 21 = .ok (.ireturn, 1) := by decide +kernel
theorem dX7_reason_22 : decode cX7_reason 22 = .ok (.aload_n 0, 1) := by decide +kernel
theorem dX7_reason_23 : decode cX7_reason 23 = .ok (.iload_n 1, 1) := by decide +kernel
theorem dX7_reason_24 : decode cX7_reason 24 = .ok (.invokevirtual 116, 3) := by decide +kernel
theorem dX7_reason_27 : decode cX7_reason 27 = .ok (.ireturn, 1) := by decide +kernel
theorem dX7_putAside_0 : decode cX7_putAside 0 = .ok (.aload_n 0, 1) := by decide +kernel
theorem dX7_putAside_1 : decode cX7_putAside 1 = .ok (.iconst 0, 1) := by decide +kernel
theorem dX7_putAside_2 : decode cX7_putAside 2 = .ok (.sipush 380, 3) := by decide +kernel
theorem dX7_putAside_5 : decode cX7_putAside 5 = .ok (.invokevirtual 29, 3) := by decide +kernel
theorem dX7_putAside_8 : decode cX7_putAside 8 = .ok (.return_, 1) := by decide +kernel
theorem dX7_comesBack_0 : decode cX7_comesBack 0 = .ok (.aload_n 0, 1) := by decide +kernel
theorem dX7_comesBack_1 : decode cX7_comesBack 1 = .ok (.sipush 380, 3) := by decide +kernel
theorem dX7_comesBack_4 : decode cX7_comesBack 4 = .ok (.iconst 0, 1) := by decide +kernel
theorem dX7_comesBack_5 : decode cX7_comesBack 5 = .ok (.invokevirtual 29, 3) := by decide +kernel
theorem dX7_comesBack_8 : decode cX7_comesBack 8 = .ok (.return_, 1) := by decide +kernel
theorem dX7_settledPlace_0 : decode cX7_settledPlace 0 = .ok (.aload_n 0, 1) := by decide +kernel
theorem dX7_settledPlace_1 : decode cX7_settledPlace 1 = .ok (.aload_n 0, 1) := by decide +kernel
theorem dX7_settledPlace_2 : decode cX7_settledPlace 2 = .ok (.iload_n 1, 1) := by decide +kernel
theorem dX7_settledPlace_3 : decode cX7_settledPlace 3 = .ok (.invokevirtual 66, 3) := by decide +kernel
theorem dX7_settledPlace_6 : decode cX7_settledPlace 6 = .ok (.invokevirtual 56, 3) := by decide +kernel
theorem dX7_settledPlace_9 : decode cX7_settledPlace 9 = .ok (.ifCond .eq 5, 3) := by decide +kernel
theorem dX7_settledPlace_12 : decode cX7_settledPlace 12 = .ok (.iconst 0, 1) := by decide +kernel
theorem dX7_settledPlace_13 : decode cX7_settledPlace 13 = .ok (.ireturn, 1) := by decide +kernel
theorem dX7_settledPlace_14 : decode cX7_settledPlace 14 = .ok (.aload_n 0, 1) := by decide +kernel
theorem dX7_settledPlace_15 : decode cX7_settledPlace 15 = .ok (.invokevirtual 158, 3) := by decide +kernel
theorem dX7_settledPlace_18 : decode cX7_settledPlace 18 = .ok (.aload_n 0, 1) := by decide +kernel
theorem dX7_settledPlace_19 : decode cX7_settledPlace 19 = .ok (.invokevirtual 134, 3) := by decide +kernel
theorem dX7_settledPlace_22 : decode cX7_settledPlace 22 = .ok (.pop, 1) := by decide +kernel
theorem dX7_settledPlace_23 : decode cX7_settledPlace 23 = .ok (.aload_n 0, 1) := by decide +kernel
theorem dX7_settledPlace_24 : decode cX7_settledPlace 24 = .ok (.iload_n 1, 1) := by decide +kernel
theorem dX7_settledPlace_25 : decode cX7_settledPlace 25 = .ok (.invokevirtual 45, 3) := by decide +kernel
theorem dX7_settledPlace_28 : decode cX7_settledPlace 28 = .ok (.istore_n 2, 1) := by decide +kernel
theorem dX7_settledPlace_29 : decode cX7_settledPlace 29 = .ok (.aload_n 0, 1) := by decide +kernel
theorem dX7_settledPlace_30 : decode cX7_settledPlace 30 = .ok (.invokevirtual 161, 3) := by decide +kernel
theorem dX7_settledPlace_33 : decode cX7_settledPlace 33 = .ok (.iload_n 2, 1) := by decide +kernel
theorem dX7_settledPlace_34 : decode cX7_settledPlace 34 = .ok (.ireturn, 1) := by decide +kernel
theorem dX7_has_0 : decode cX7_has 0 = .ok (.aload_n 0, 1) := by decide +kernel
theorem dX7_has_1 : decode cX7_has 1 = .ok (.iload_n 1, 1) := by decide +kernel
theorem dX7_has_2 : decode cX7_has 2 = .ok (.invokevirtual 45, 3) := by decide +kernel
theorem dX7_has_5 : decode cX7_has 5 = .ok (.istore_n 2, 1) := by decide +kernel
theorem dX7_has_6 : decode cX7_has 6 = .ok (.aload_n 0, 1) := by decide +kernel
theorem dX7_has_7 : decode cX7_has 7 = .ok (.iload_n 2, 1) := by decide +kernel
theorem dX7_has_8 : decode cX7_has 8 = .ok (.iconst 4, 1) := by decide +kernel
theorem dX7_has_9 : decode cX7_has 9 = .ok (.invokevirtual 33, 3) := by decide +kernel
theorem dX7_has_12 : decode cX7_has 12 = .ok (.aload_n 0, 1) := by decide +kernel
theorem dX7_has_13 : decode cX7_has 13 = .ok (.iload_n 2, 1) := by decide +kernel
theorem dX7_has_14 : decode cX7_has 14 = .ok (.iconst 1, 1) := by decide +kernel
theorem dX7_has_15 : decode cX7_has 15 = .ok (.invokevirtual 33, 3) := by decide +kernel
theorem dX7_has_18 : decode cX7_has 18 = .ok (.aload_n 0, 1) := by decide +kernel
theorem dX7_has_19 : decode cX7_has 19 = .ok (.iload_n 2, 1) := by decide +kernel
theorem dX7_has_20 : decode cX7_has 20 = .ok (.invokevirtual 137, 3) := by decide +kernel
theorem dX7_has_23 : decode cX7_has 23 = .ok (.imul, 1) := by decide +kernel
theorem dX7_has_24 : decode cX7_has 24 = .ok (.isub, 1) := by decide +kernel
theorem dX7_has_25 : decode cX7_has 25 = .ok (.ireturn, 1) := by decide +kernel
theorem dX7_profitBy_0 : decode cX7_profitBy 0 = .ok (.aload_n 0, 1) := by decide +kernel
theorem dX7_profitBy_1 : decode cX7_profitBy 1 = .ok (.iload_n 1, 1) := by decide +kernel
theorem dX7_profitBy_2 : decode cX7_profitBy 2 = .ok (.invokevirtual 164, 3) := by decide +kernel
theorem dX7_profitBy_5 : decode cX7_profitBy 5 = .ok (.istore_n 3, 1) := by decide +kernel
theorem dX7_profitBy_6 : decode cX7_profitBy 6 = .ok (.aload_n 0, 1) := by decide +kernel
theorem dX7_profitBy_7 : decode cX7_profitBy 7 = .ok (.invokevirtual 158, 3) := by decide +kernel
theorem dX7_profitBy_10 : decode cX7_profitBy 10 = .ok (.aload_n 0, 1) := by decide +kernel
theorem dX7_profitBy_11 : decode cX7_profitBy 11 = .ok (.iload_n 1, 1) := by decide +kernel
theorem dX7_profitBy_12 : decode cX7_profitBy 12 = .ok (.iload_n 2, 1) := by decide +kernel
theorem dX7_profitBy_13 : decode cX7_profitBy 13 = .ok (.invokevirtual 80, 3) := by decide +kernel
theorem dX7_profitBy_16 : decode cX7_profitBy 16 = .ok (.pop, 1) := by decide +kernel
theorem dX7_profitBy_17 : decode cX7_profitBy 17 = .ok (.aload_n 0, 1) := by decide +kernel
theorem dX7_profitBy_18 : decode cX7_profitBy 18 = .ok (.invokevirtual 134, 3) := by decide +kernel
theorem dX7_profitBy_21 : decode cX7_profitBy 21 = .ok (.pop, 1) := by decide +kernel
theorem dX7_profitBy_22 : decode cX7_profitBy 22 = .ok (.aload_n 0, 1) := by decide +kernel
theorem dX7_profitBy_23 : decode cX7_profitBy 23 = .ok (.iload_n 1, 1) := by decide +kernel
theorem dX7_profitBy_24 : decode cX7_profitBy 24 = .ok (.invokevirtual 164, 3) := by decide +kernel
theorem dX7_profitBy_27 : decode cX7_profitBy 27 = .ok (.iload_n 3, 1) := by decide +kernel
theorem dX7_profitBy_28 : decode cX7_profitBy 28 = .ok (.isub, 1) := by decide +kernel
theorem dX7_profitBy_29 : decode cX7_profitBy 29 = .ok (.istore 4, 2) := by decide +kernel
theorem dX7_profitBy_31 : decode cX7_profitBy 31 = .ok (.aload_n 0, 1) := by decide +kernel
theorem dX7_profitBy_32 : decode cX7_profitBy 32 = .ok (.invokevirtual 161, 3) := by decide +kernel
theorem dX7_profitBy_35 : decode cX7_profitBy 35 = .ok (.iload 4, 2) := by decide +kernel
theorem dX7_profitBy_37 : decode cX7_profitBy 37 = .ok (.ireturn, 1) := by decide +kernel
theorem dX7_profit_0 : decode cX7_profit 0 = .ok (.aload_n 0, 1) := by decide +kernel
theorem dX7_profit_1 : decode cX7_profit 1 = .ok (.aload_n 0, 1) := by decide +kernel
theorem dX7_profit_2 : decode cX7_profit 2 = .ok (.iload_n 1, 1) := by decide +kernel
theorem dX7_profit_3 : decode cX7_profit 3 = .ok (.iload_n 2, 1) := by decide +kernel
theorem dX7_profit_4 : decode cX7_profit 4 = .ok (.invokevirtual 77, 3) := by decide +kernel
theorem dX7_profit_7 : decode cX7_profit 7 = .ok (.invokevirtual 56, 3) := by decide +kernel
theorem dX7_profit_10 : decode cX7_profit 10 = .ok (.ifCond .eq 5, 3) := by decide +kernel
theorem dX7_profit_13 : decode cX7_profit 13 = .ok (.iconst 0, 1) := by decide +kernel
theorem dX7_profit_14 : decode cX7_profit 14 = .ok (.ireturn, 1) := by decide +kernel
theorem dX7_profit_15 : decode cX7_profit 15 = .ok (.aload_n 0, 1) := by decide +kernel
theorem dX7_profit_16 : decode cX7_profit 16 = .ok (.iload_n 1, 1) := by decide +kernel
theorem dX7_profit_17 : decode cX7_profit 17 = .ok (.iload_n 2, 1) := by decide +kernel
theorem dX7_profit_18 : decode cX7_profit 18 = .ok (.invokevirtual 167, 3) := by decide +kernel
theorem dX7_profit_21 : decode cX7_profit 21 = .ok (.ireturn, 1) := by decide +kernel
theorem dX7_bestLie_0 : decode cX7_bestLie 0 = .ok (.aload_n 0, 1) := by decide +kernel
theorem dX7_bestLie_1 : decode cX7_bestLie 1 = .ok (.aload_n 0, 1) := by decide +kernel
theorem dX7_bestLie_2 : decode cX7_bestLie 2 = .ok (.iload_n 1, 1) := by decide +kernel
theorem dX7_bestLie_3 : decode cX7_bestLie 3 = .ok (.invokevirtual 66, 3) := by decide +kernel
theorem dX7_bestLie_6 : decode cX7_bestLie 6 = .ok (.invokevirtual 56, 3) := by decide +kernel
theorem dX7_bestLie_9 : decode cX7_bestLie 9 = .ok (.ifCond .eq 5, 3) := by decide +kernel
theorem dX7_bestLie_12 : decode cX7_bestLie 12 = .ok (.iconst 0, 1) := by decide +kernel
theorem dX7_bestLie_13 : decode cX7_bestLie 13 = .ok (.ireturn, 1) := by decide +kernel
theorem dX7_bestLie_14 : decode cX7_bestLie 14 = .ok (.iconst 0, 1) := by decide +kernel
theorem dX7_bestLie_15 : decode cX7_bestLie 15 = .ok (.istore_n 2, 1) := by decide +kernel
theorem dX7_bestLie_16 : decode cX7_bestLie 16 = .ok (.aload_n 0, 1) := by decide +kernel
theorem dX7_bestLie_17 : decode cX7_bestLie 17 = .ok (.iload_n 1, 1) := by decide +kernel
theorem dX7_bestLie_18 : decode cX7_bestLie 18 = .ok (.iconst 0, 1) := by decide +kernel
theorem dX7_bestLie_19 : decode cX7_bestLie 19 = .ok (.invokevirtual 167, 3) := by decide +kernel
theorem dX7_bestLie_22 : decode cX7_bestLie 22 = .ok (.istore_n 3, 1) := by decide +kernel
theorem dX7_bestLie_23 : decode cX7_bestLie 23 = .ok (.iconst 1, 1) := by decide +kernel
theorem dX7_bestLie_24 : decode cX7_bestLie 24 = .ok (.istore 4, 2) := by decide +kernel
theorem dX7_bestLie_26 : decode cX7_bestLie 26 = .ok (.iload 4, 2) := by decide +kernel
theorem dX7_bestLie_28 : decode cX7_bestLie 28 = .ok (.bipush 100, 2) := by decide +kernel
theorem dX7_bestLie_30 : decode cX7_bestLie 30 = .ok (.if_icmp .ge 44, 3) := by decide +kernel
theorem dX7_bestLie_33 : decode cX7_bestLie 33 = .ok (.aload_n 0, 1) := by decide +kernel
theorem dX7_bestLie_34 : decode cX7_bestLie 34 = .ok (.iload_n 1, 1) := by decide +kernel
theorem dX7_bestLie_35 : decode cX7_bestLie 35 = .ok (.iload 4, 2) := by decide +kernel
theorem dX7_bestLie_37 : decode cX7_bestLie 37 = .ok (.invokevirtual 167, 3) := by decide +kernel
theorem dX7_bestLie_40 : decode cX7_bestLie 40 = .ok (.istore 5, 2) := by decide +kernel
theorem dX7_bestLie_42 : decode cX7_bestLie 42 = .ok (.iload 5, 2) := by decide +kernel
theorem dX7_bestLie_44 : decode cX7_bestLie 44 = .ok (.iload_n 3, 1) := by decide +kernel
theorem dX7_bestLie_45 : decode cX7_bestLie 45 = .ok (.if_icmp .le 8, 3) := by decide +kernel
theorem dX7_bestLie_48 : decode cX7_bestLie 48 = .ok (.iload 4, 2) := by decide +kernel
theorem dX7_bestLie_50 : decode cX7_bestLie 50 = .ok (.goto 4, 3) := by decide +kernel
theorem dX7_bestLie_53 : decode cX7_bestLie 53 = .ok (.iload_n 2, 1) := by decide +kernel
theorem dX7_bestLie_54 : decode cX7_bestLie 54 = .ok (.istore_n 2, 1) := by decide +kernel
theorem dX7_bestLie_55 : decode cX7_bestLie 55 = .ok (.iload 5, 2) := by decide +kernel
theorem dX7_bestLie_57 : decode cX7_bestLie 57 = .ok (.iload_n 3, 1) := by decide +kernel
theorem dX7_bestLie_58 : decode cX7_bestLie 58 = .ok (.if_icmp .le 8, 3) := by decide +kernel
theorem dX7_bestLie_61 : decode cX7_bestLie 61 = .ok (.iload 5, 2) := by decide +kernel
theorem dX7_bestLie_63 : decode cX7_bestLie 63 = .ok (.goto 4, 3) := by decide +kernel
theorem dX7_bestLie_66 : decode cX7_bestLie 66 = .ok (.iload_n 3, 1) := by decide +kernel
theorem dX7_bestLie_67 : decode cX7_bestLie 67 = .ok (.istore_n 3, 1) := by decide +kernel
theorem dX7_bestLie_68 : decode cX7_bestLie 68 = .ok (.iinc 4 1, 3) := by decide +kernel
theorem dX7_bestLie_71 : decode cX7_bestLie 71 = .ok (.goto (-45), 3) := by decide +kernel
theorem dX7_bestLie_74 : decode cX7_bestLie 74 = .ok (.iload_n 2, 1) := by decide +kernel
theorem dX7_bestLie_75 : decode cX7_bestLie 75 = .ok (.ireturn, 1) := by decide +kernel
theorem dX7_honestCost_0 : decode cX7_honestCost 0 = .ok (.aload_n 0, 1) := by decide +kernel
theorem dX7_honestCost_1 : decode cX7_honestCost 1 = .ok (.iconst 0, 1) := by decide +kernel
theorem dX7_honestCost_2 : decode cX7_honestCost 2 = .ok (.putfield 22, 3) := by decide +kernel
theorem dX7_honestCost_5 : decode cX7_honestCost 5 = .ok (.aload_n 0, 1) := by decide +kernel
theorem dX7_honestCost_6 : decode cX7_honestCost 6 = .ok (.invokevirtual 158, 3) := by decide +kernel
theorem dX7_honestCost_9 : decode cX7_honestCost 9 = .ok (.iconst 0, 1) := by decide +kernel
theorem dX7_honestCost_10 : decode cX7_honestCost 10 = .ok (.istore_n 1, 1) := by decide +kernel
theorem dX7_honestCost_11 : decode cX7_honestCost 11 = .ok (.iload_n 1, 1) := by decide +kernel
theorem dX7_honestCost_12 : decode cX7_honestCost 12 = .ok (.aload_n 0, 1) := by decide +kernel
theorem dX7_honestCost_13 : decode cX7_honestCost 13 = .ok (.getfield 7, 3) := by decide +kernel
theorem dX7_honestCost_16 : decode cX7_honestCost 16 = .ok (.iconst 0, 1) := by decide +kernel
theorem dX7_honestCost_17 : decode cX7_honestCost 17 = .ok (.iaload, 1) := by decide +kernel
theorem dX7_honestCost_18 : decode cX7_honestCost 18 = .ok (.if_icmp .ge 21, 3) := by decide +kernel
theorem dX7_honestCost_21 : decode cX7_honestCost 21 = .ok (.aload_n 0, 1) := by decide +kernel
theorem dX7_honestCost_22 : decode cX7_honestCost 22 = .ok (.iload_n 1, 1) := by decide +kernel
theorem dX7_honestCost_23 : decode cX7_honestCost 23 = .ok (.iconst 2, 1) := by decide +kernel
theorem dX7_honestCost_24 : decode cX7_honestCost 24 = .ok (.aload_n 0, 1) := by decide +kernel
theorem dX7_honestCost_25 : decode cX7_honestCost 25 = .ok (.iload_n 1, 1) := by decide +kernel
theorem dX7_honestCost_26 : decode cX7_honestCost 26 = .ok (.iconst 1, 1) := by decide +kernel
theorem dX7_honestCost_27 : decode cX7_honestCost 27 = .ok (.invokevirtual 33, 3) := by decide +kernel
theorem dX7_honestCost_30 : decode cX7_honestCost 30 = .ok (.invokevirtual 41, 3) := by decide +kernel
theorem dX7_honestCost_33 : decode cX7_honestCost 33 = .ok (.iinc 1 1, 3) := by decide +kernel
theorem dX7_honestCost_36 : decode cX7_honestCost 36 = .ok (.goto (-25), 3) := by decide +kernel
theorem dX7_honestCost_39 : decode cX7_honestCost 39 = .ok (.aload_n 0, 1) := by decide +kernel
theorem dX7_honestCost_40 : decode cX7_honestCost 40 = .ok (.invokevirtual 134, 3) := by decide +kernel
theorem dX7_honestCost_43 : decode cX7_honestCost 43 = .ok (.pop, 1) := by decide +kernel
theorem dX7_honestCost_44 : decode cX7_honestCost 44 = .ok (.aload_n 0, 1) := by decide +kernel
theorem dX7_honestCost_45 : decode cX7_honestCost 45 = .ok (.iconst 1, 1) := by decide +kernel
theorem dX7_honestCost_46 : decode cX7_honestCost 46 = .ok (.invokevirtual 146, 3) := by decide +kernel
theorem dX7_honestCost_49 : decode cX7_honestCost 49 = .ok (.istore_n 1, 1) := by decide +kernel
theorem dX7_honestCost_50 : decode cX7_honestCost 50 = .ok (.aload_n 0, 1) := by decide +kernel
theorem dX7_honestCost_51 : decode cX7_honestCost 51 = .ok (.invokevirtual 161, 3) := by decide +kernel
theorem dX7_honestCost_54 : decode cX7_honestCost 54 = .ok (.iload_n 1, 1) := by decide +kernel
theorem dX7_honestCost_55 : decode cX7_honestCost 55 = .ok (.ireturn, 1) := by decide +kernel
theorem dX7_disorder_0 : decode cX7_disorder 0 = .ok (.aload_n 0, 1) := by decide +kernel
theorem dX7_disorder_1 : decode cX7_disorder 1 = .ok (.iconst 0, 1) := by decide +kernel
theorem dX7_disorder_2 : decode cX7_disorder 2 = .ok (.putfield 22, 3) := by decide +kernel
theorem dX7_disorder_5 : decode cX7_disorder 5 = .ok (.iconst 0, 1) := by decide +kernel
theorem dX7_disorder_6 : decode cX7_disorder 6 = .ok (.istore_n 1, 1) := by decide +kernel
theorem dX7_disorder_7 : decode cX7_disorder 7 = .ok (.iconst 0, 1) := by decide +kernel
theorem dX7_disorder_8 : decode cX7_disorder 8 = .ok (.istore_n 2, 1) := by decide +kernel
theorem dX7_disorder_9 : decode cX7_disorder 9 = .ok (.iload_n 2, 1) := by decide +kernel
theorem dX7_disorder_10 : decode cX7_disorder 10 = .ok (.aload_n 0, 1) := by decide +kernel
theorem dX7_disorder_11 : decode cX7_disorder 11 = .ok (.getfield 7, 3) := by decide +kernel
theorem dX7_disorder_14 : decode cX7_disorder 14 = .ok (.iconst 0, 1) := by decide +kernel
theorem dX7_disorder_15 : decode cX7_disorder 15 = .ok (.iaload, 1) := by decide +kernel
theorem dX7_disorder_16 : decode cX7_disorder 16 = .ok (.if_icmp .ge 59, 3) := by decide +kernel
theorem dX7_disorder_19 : decode cX7_disorder 19 = .ok (.iconst 0, 1) := by decide +kernel
theorem dX7_disorder_20 : decode cX7_disorder 20 = .ok (.istore_n 3, 1) := by decide +kernel
theorem dX7_disorder_21 : decode cX7_disorder 21 = .ok (.iload_n 3, 1) := by decide +kernel
theorem dX7_disorder_22 : decode cX7_disorder 22 = .ok (.iload_n 2, 1) := by decide +kernel
theorem dX7_disorder_23 : decode cX7_disorder 23 = .ok (.if_icmp .ge 46, 3) := by decide +kernel
theorem dX7_disorder_26 : decode cX7_disorder 26 = .ok (.iload_n 1, 1) := by decide +kernel
theorem dX7_disorder_27 : decode cX7_disorder 27 = .ok (.aload_n 0, 1) := by decide +kernel
theorem dX7_disorder_28 : decode cX7_disorder 28 = .ok (.iload_n 2, 1) := by decide +kernel
theorem dX7_disorder_29 : decode cX7_disorder 29 = .ok (.iconst 1, 1) := by decide +kernel
theorem dX7_disorder_30 : decode cX7_disorder 30 = .ok (.invokevirtual 33, 3) := by decide +kernel
theorem dX7_disorder_33 : decode cX7_disorder 33 = .ok (.aload_n 0, 1) := by decide +kernel
theorem dX7_disorder_34 : decode cX7_disorder 34 = .ok (.iload_n 3, 1) := by decide +kernel
theorem dX7_disorder_35 : decode cX7_disorder 35 = .ok (.iconst 3, 1) := by decide +kernel
theorem dX7_disorder_36 : decode cX7_disorder 36 = .ok (.invokevirtual 33, 3) := by decide +kernel
theorem dX7_disorder_39 : decode cX7_disorder 39 = .ok (.imul, 1) := by decide +kernel
theorem dX7_disorder_40 : decode cX7_disorder 40 = .ok (.aload_n 0, 1) := by decide +kernel
theorem dX7_disorder_41 : decode cX7_disorder 41 = .ok (.iload_n 3, 1) := by decide +kernel
theorem dX7_disorder_42 : decode cX7_disorder 42 = .ok (.iconst 1, 1) := by decide +kernel
theorem dX7_disorder_43 : decode cX7_disorder 43 = .ok (.invokevirtual 33, 3) := by decide +kernel
theorem dX7_disorder_46 : decode cX7_disorder 46 = .ok (.aload_n 0, 1) := by decide +kernel
theorem dX7_disorder_47 : decode cX7_disorder 47 = .ok (.iload_n 2, 1) := by decide +kernel
theorem dX7_disorder_48 : decode cX7_disorder 48 = .ok (.iconst 3, 1) := by decide +kernel
theorem dX7_disorder_49 : decode cX7_disorder 49 = .ok (.invokevirtual 33, 3) := by decide +kernel
theorem dX7_disorder_52 : decode cX7_disorder 52 = .ok (.imul, 1) := by decide +kernel
theorem dX7_disorder_53 : decode cX7_disorder 53 = .ok (.if_icmp .le 7, 3) := by decide +kernel
theorem dX7_disorder_56 : decode cX7_disorder 56 = .ok (.iconst 1, 1) := by decide +kernel
theorem dX7_disorder_57 : decode cX7_disorder 57 = .ok (.goto 4, 3) := by decide +kernel
theorem dX7_disorder_60 : decode cX7_disorder 60 = .ok (.iconst 0, 1) := by decide +kernel
theorem dX7_disorder_61 : decode cX7_disorder 61 = .ok (.iadd, 1) := by decide +kernel
theorem dX7_disorder_62 : decode cX7_disorder 62 = .ok (.istore_n 1, 1) := by decide +kernel
theorem dX7_disorder_63 : decode cX7_disorder 63 = .ok (.iinc 3 1, 3) := by decide +kernel
theorem dX7_disorder_66 : decode cX7_disorder 66 = .ok (.goto (-45), 3) := by decide +kernel
theorem dX7_disorder_69 : decode cX7_disorder 69 = .ok (.iinc 2 1, 3) := by decide +kernel
theorem dX7_disorder_72 : decode cX7_disorder 72 = .ok (.goto (-63), 3) := by decide +kernel
theorem dX7_disorder_75 : decode cX7_disorder 75 = .ok (.iload_n 1, 1) := by decide +kernel
theorem dX7_disorder_76 : decode cX7_disorder 76 = .ok (.ireturn, 1) := by decide +kernel
theorem dX7_type_0 : decode cX7_type 0 = .ok (.aload_n 0, 1) := by decide +kernel
theorem dX7_type_1 : decode cX7_type 1 = .ok (.iload_n 1, 1) := by decide +kernel
theorem dX7_type_2 : decode cX7_type 2 = .ok (.iconst 0, 1) := by decide +kernel
theorem dX7_type_3 : decode cX7_type 3 = .ok (.bipush 127, 2) := by decide +kernel
theorem dX7_type_5 : decode cX7_type 5 = .ok (.invokestatic 37, 3) := by decide +kernel
theorem dX7_type_8 : decode cX7_type 8 = .ok (.ifCond .ne 7, 3) := by decide +kernel
theorem dX7_type_11 : decode cX7_type 11 = .ok (.iconst 1, 1) := by decide +kernel
theorem dX7_type_12 : decode cX7_type 12 = .ok (.goto 18, 3) := by decide +kernel
theorem dX7_type_15 : decode cX7_type 15 = .ok (.aload_n 0, 1) := by decide +kernel
theorem dX7_type_16 : decode cX7_type 16 = .ok (.getfield 152, 3) := by decide +kernel
theorem dX7_type_19 : decode cX7_type 19 = .ok (.sipush 150, 3) := by decide +kernel
theorem dX7_type_22 : decode cX7_type 22 = .ok (.if_icmp .ne 7, 3) := by decide +kernel
theorem dX7_type_25 : decode cX7_type 25 = .ok (.iconst 2, 1) := by decide +kernel
theorem dX7_type_26 : decode cX7_type 26 = .ok (.goto 4, 3) := by decide +kernel
theorem dX7_type_29 : decode cX7_type 29 = .ok (.iconst 0, 1) := by decide +kernel
theorem dX7_type_30 : decode cX7_type 30 = .ok (.invokevirtual 56, 3) := by decide +kernel
theorem dX7_type_33 : decode cX7_type 33 = .ok (.ifCond .eq 5, 3) := by decide +kernel
theorem dX7_type_36 : decode cX7_type 36 = .ok (.iconst 0, 1) := by decide +kernel
theorem dX7_type_37 : decode cX7_type 37 = .ok (.ireturn, 1) := by decide +kernel
theorem dX7_type_38 : decode cX7_type 38 = .ok (.aload_n 0, 1) := by decide +kernel
theorem dX7_type_39 : decode cX7_type 39 = .ok (.getfield 13, 3) := by decide +kernel
theorem dX7_type_42 : decode cX7_type 42 = .ok (.aload_n 0, 1) := by decide +kernel
theorem dX7_type_43 : decode cX7_type 43 = .ok (.getfield 152, 3) := by decide +kernel
theorem dX7_type_46 : decode cX7_type 46 = .ok (.iload_n 1, 1) := by decide +kernel
theorem dX7_type_47 : decode cX7_type 47 = .ok (.iastore, 1) := by decide +kernel
theorem dX7_type_48 : decode cX7_type 48 = .ok (.aload_n 0, 1) := by decide +kernel
theorem dX7_type_49 : decode cX7_type 49 = .ok (.dup, 1) := by decide +kernel
theorem dX7_type_50 : decode cX7_type 50 = .ok (.getfield 152, 3) := by decide +kernel
theorem dX7_type_53 : decode cX7_type 53 = .ok (.iconst 1, 1) := by decide +kernel
theorem dX7_type_54 : decode cX7_type 54 = .ok (.iadd, 1) := by decide +kernel
theorem dX7_type_55 : decode cX7_type 55 = .ok (.putfield 152, 3) := by decide +kernel
theorem dX7_type_58 : decode cX7_type 58 = .ok (.aload_n 0, 1) := by decide +kernel
theorem dX7_type_59 : decode cX7_type 59 = .ok (.getfield 152, 3) := by decide +kernel
theorem dX7_type_62 : decode cX7_type 62 = .ok (.ireturn, 1) := by decide +kernel
theorem dX7_clearCommands_0 : decode cX7_clearCommands 0 = .ok (.aload_n 0, 1) := by decide +kernel
theorem dX7_clearCommands_1 : decode cX7_clearCommands 1 = .ok (.iconst 0, 1) := by decide +kernel
theorem dX7_clearCommands_2 : decode cX7_clearCommands 2 = .ok (.putfield 22, 3) := by decide +kernel
theorem dX7_clearCommands_5 : decode cX7_clearCommands 5 = .ok (.aload_n 0, 1) := by decide +kernel
theorem dX7_clearCommands_6 : decode cX7_clearCommands 6 = .ok (.getfield 152, 3) := by decide +kernel
theorem dX7_clearCommands_9 : decode cX7_clearCommands 9 = .ok (.istore_n 1, 1) := by decide +kernel
theorem dX7_clearCommands_10 : decode cX7_clearCommands 10 = .ok (.aload_n 0, 1) := by decide +kernel
theorem dX7_clearCommands_11 : decode cX7_clearCommands 11 = .ok (.iconst 0, 1) := by decide +kernel
theorem dX7_clearCommands_12 : decode cX7_clearCommands 12 = .ok (.putfield 152, 3) := by decide +kernel
theorem dX7_clearCommands_15 : decode cX7_clearCommands 15 = .ok (.iload_n 1, 1) := by decide +kernel
theorem dX7_clearCommands_16 : decode cX7_clearCommands 16 = .ok (.ireturn, 1) := by decide +kernel
theorem dX7_here_0 : decode cX7_here 0 = .ok (.aload_n 0, 1) := by decide +kernel
theorem dX7_here_1 : decode cX7_here 1 = .ok (.getfield 170, 3) := by decide +kernel
theorem dX7_here_4 : decode cX7_here 4 = .ok (.aload_n 0, 1) := by decide +kernel
theorem dX7_here_5 : decode cX7_here 5 = .ok (.getfield 152, 3) := by decide +kernel
theorem dX7_here_8 : decode cX7_here 8 = .ok (.if_icmp .ge 15, 3) := by decide +kernel
theorem dX7_here_11 : decode cX7_here 11 = .ok (.aload_n 0, 1) := by decide +kernel
theorem dX7_here_12 : decode cX7_here 12 = .ok (.getfield 13, 3) := by decide +kernel
theorem dX7_here_15 : decode cX7_here 15 = .ok (.aload_n 0, 1) := by decide +kernel
theorem dX7_here_16 : decode cX7_here 16 = .ok (.getfield 170, 3) := by decide +kernel
theorem dX7_here_19 : decode cX7_here 19 = .ok (.iaload, 1) := by decide +kernel
theorem dX7_here_20 : decode cX7_here 20 = .ok (.goto 4, 3) := by decide +kernel
theorem dX7_here_23 : decode cX7_here 23 = .ok (.iconst (-1), 1) := by decide +kernel
theorem dX7_here_24 : decode cX7_here 24 = .ok (.ireturn, 1) := by decide +kernel
theorem dX7_passSpaces_0 : decode cX7_passSpaces 0 = .ok (.aload_n 0, 1) := by decide +kernel
theorem dX7_passSpaces_1 : decode cX7_passSpaces 1 = .ok (.invokevirtual 173, 3) := by decide +kernel
theorem dX7_passSpaces_4 : decode cX7_passSpaces 4 = .ok (.bipush 32, 2) := by decide +kernel
theorem dX7_passSpaces_6 : decode cX7_passSpaces 6 = .ok (.if_icmp .ne 16, 3) := by decide +kernel
theorem dX7_passSpaces_9 : decode cX7_passSpaces 9 = .ok (.aload_n 0, 1) := by decide +kernel
theorem dX7_passSpaces_10 : decode cX7_passSpaces 10 = .ok (.dup, 1) := by decide +kernel
theorem dX7_passSpaces_11 : decode cX7_passSpaces 11 = .ok (.getfield 170, 3) := by decide +kernel
theorem dX7_passSpaces_14 : decode cX7_passSpaces 14 = .ok (.iconst 1, 1) := by decide +kernel
theorem dX7_passSpaces_15 : decode cX7_passSpaces 15 = .ok (.iadd, 1) := by decide +kernel
theorem dX7_passSpaces_16 : decode cX7_passSpaces 16 = .ok (.putfield 170, 3) := by decide +kernel
theorem dX7_passSpaces_19 : decode cX7_passSpaces 19 = .ok (.goto (-19), 3) := by decide +kernel
theorem dX7_passSpaces_22 : decode cX7_passSpaces 22 = .ok (.return_, 1) := by decide +kernel
theorem dX7_word_0 : decode cX7_word 0 = .ok (.lconst 0, 1) := by decide +kernel
theorem dX7_word_1 : decode cX7_word 1 = .ok (.lstore_n 1, 1) := by decide +kernel
theorem dX7_word_2 : decode cX7_word 2 = .ok (.aload_n 0, 1) := by decide +kernel
theorem dX7_word_3 : decode cX7_word 3 = .ok (.getfield 170, 3) := by decide +kernel
theorem dX7_word_6 : decode cX7_word 6 = .ok (.istore_n 3, 1) := by decide +kernel
theorem dX7_word_7 : decode cX7_word 7 = .ok (.aload_n 0, 1) := by decide +kernel
theorem dX7_word_8 : decode cX7_word 8 = .ok (.invokevirtual 173, 3) := by decide +kernel
theorem dX7_word_11 : decode cX7_word 11 = .ok (.bipush 97, 2) := by decide +kernel
theorem dX7_word_13 : decode cX7_word 13 = .ok (.bipush 122, 2) := by decide +kernel
theorem dX7_word_15 : decode cX7_word 15 = .ok (.invokestatic 37, 3) := by decide +kernel
theorem dX7_word_18 : decode cX7_word 18 = .ok (.ifCond .eq 49, 3) := by decide +kernel
theorem dX7_word_21 : decode cX7_word 21 = .ok (.aload_n 0, 1) := by decide +kernel
theorem dX7_word_22 : decode cX7_word 22 = .ok (.getfield 170, 3) := by decide +kernel
theorem dX7_word_25 : decode cX7_word 25 = .ok (.iload_n 3, 1) := by decide +kernel
theorem dX7_word_26 : decode cX7_word 26 = .ok (.isub, 1) := by decide +kernel
theorem dX7_word_27 : decode cX7_word 27 = .ok (.bipush 7, 2) := by decide +kernel
theorem dX7_word_29 : decode cX7_word 29 = .ok (.if_icmp .ge 21, 3) := by decide +kernel
theorem dX7_word_32 : decode cX7_word 32 = .ok (.ldc2_w 176, 3) := by decide +kernel
theorem dX7_word_35 : decode cX7_word 35 = .ok (.lload_n 1, 1) := by decide +kernel
theorem dX7_word_36 : decode cX7_word 36 = .ok (.lmul, 1) := by decide +kernel
theorem dX7_word_37 : decode cX7_word 37 = .ok (.aload_n 0, 1) := by decide +kernel
theorem dX7_word_38 : decode cX7_word 38 = .ok (.invokevirtual 173, 3) := by decide +kernel
theorem dX7_word_41 : decode cX7_word 41 = .ok (.i2l, 1) := by decide +kernel
theorem dX7_word_42 : decode cX7_word 42 = .ok (.ladd, 1) := by decide +kernel
theorem dX7_word_43 : decode cX7_word 43 = .ok (.ldc2_w 178, 3) := by decide +kernel
theorem dX7_word_46 : decode cX7_word 46 = .ok (.lsub, 1) := by decide +kernel
theorem dX7_word_47 : decode cX7_word 47 = .ok (.goto 6, 3) := by decide +kernel
theorem dX7_word_50 : decode cX7_word 50 = .ok (.ldc2_w 180, 3) := by decide +kernel
theorem dX7_word_53 : decode cX7_word 53 = .ok (.lstore_n 1, 1) := by decide +kernel
theorem dX7_word_54 : decode cX7_word 54 = .ok (.aload_n 0, 1) := by decide +kernel
theorem dX7_word_55 : decode cX7_word 55 = .ok (.dup, 1) := by decide +kernel
theorem dX7_word_56 : decode cX7_word 56 = .ok (.getfield 170, 3) := by decide +kernel
theorem dX7_word_59 : decode cX7_word 59 = .ok (.iconst 1, 1) := by decide +kernel
theorem dX7_word_60 : decode cX7_word 60 = .ok (.iadd, 1) := by decide +kernel
theorem dX7_word_61 : decode cX7_word 61 = .ok (.putfield 170, 3) := by decide +kernel
theorem dX7_word_64 : decode cX7_word 64 = .ok (.goto (-57), 3) := by decide +kernel
theorem dX7_word_67 : decode cX7_word 67 = .ok (.lload_n 1, 1) := by decide +kernel
theorem dX7_word_68 : decode cX7_word 68 = .ok (.ldc2_w 182, 3) := by decide +kernel
theorem dX7_word_71 : decode cX7_word 71 = .ok (.lcmp, 1) := by decide +kernel
theorem dX7_word_72 : decode cX7_word 72 = .ok (.ifCond .ne 7, 3) := by decide +kernel
theorem dX7_word_75 : decode cX7_word 75 = .ok (.iconst 1, 1) := by decide +kernel
theorem dX7_word_76 : decode cX7_word 76 = .ok (.goto 130, 3) := by decide +kernel
theorem dX7_word_79 : decode cX7_word 79 = .ok (.lload_n 1, 1) := by decide +kernel
theorem dX7_word_80 : decode cX7_word 80 = .ok (.ldc2_w 184, 3) := by decide +kernel
theorem dX7_word_83 : decode cX7_word 83 = .ok (.lcmp, 1) := by decide +kernel
theorem dX7_word_84 : decode cX7_word 84 = .ok (.ifCond .ne 7, 3) := by decide +kernel
theorem dX7_word_87 : decode cX7_word 87 = .ok (.iconst 2, 1) := by decide +kernel
theorem dX7_word_88 : decode cX7_word 88 = .ok (.goto 118, 3) := by decide +kernel
theorem dX7_word_91 : decode cX7_word 91 = .ok (.lload_n 1, 1) := by decide +kernel
theorem dX7_word_92 : decode cX7_word 92 = .ok (.ldc2_w 186, 3) := by decide +kernel
theorem dX7_word_95 : decode cX7_word 95 = .ok (.lcmp, 1) := by decide +kernel
theorem dX7_word_96 : decode cX7_word 96 = .ok (.ifCond .ne 7, 3) := by decide +kernel
theorem dX7_word_99 : decode cX7_word 99 = .ok (.iconst 3, 1) := by decide +kernel
theorem dX7_word_100 : decode cX7_word 100 = .ok (.goto 106, 3) := by decide +kernel
theorem dX7_word_103 : decode cX7_word 103 = .ok (.lload_n 1, 1) := by decide +kernel
theorem dX7_word_104 : decode cX7_word 104 = .ok (.ldc2_w 188, 3) := by decide +kernel
theorem dX7_word_107 : decode cX7_word 107 = .ok (.lcmp, 1) := by decide +kernel
theorem dX7_word_108 : decode cX7_word 108 = .ok (.ifCond .ne 7, 3) := by decide +kernel
theorem dX7_word_111 : decode cX7_word 111 = .ok (.iconst 4, 1) := by decide +kernel
theorem dX7_word_112 : decode cX7_word 112 = .ok (.goto 94, 3) := by decide +kernel
theorem dX7_word_115 : decode cX7_word 115 = .ok (.lload_n 1, 1) := by decide +kernel
theorem dX7_word_116 : decode cX7_word 116 = .ok (.ldc2_w 190, 3) := by decide +kernel
theorem dX7_word_119 : decode cX7_word 119 = .ok (.lcmp, 1) := by decide +kernel
theorem dX7_word_120 : decode cX7_word 120 = .ok (.ifCond .ne 7, 3) := by decide +kernel
theorem dX7_word_123 : decode cX7_word 123 = .ok (.iconst 5, 1) := by decide +kernel
theorem dX7_word_124 : decode cX7_word 124 = .ok (.goto 82, 3) := by decide +kernel
theorem dX7_word_127 : decode cX7_word 127 = .ok (.lload_n 1, 1) := by decide +kernel
theorem dX7_word_128 : decode cX7_word 128 = .ok (.ldc2_w 192, 3) := by decide +kernel
theorem dX7_word_131 : decode cX7_word 131 = .ok (.lcmp, 1) := by decide +kernel
theorem dX7_word_132 : decode cX7_word 132 = .ok (.ifCond .ne 8, 3) := by decide +kernel
theorem dX7_word_135 : decode cX7_word 135 = .ok (.bipush 6, 2) := by decide +kernel
theorem dX7_word_137 : decode cX7_word 137 = .ok (.goto 69, 3) := by decide +kernel
theorem dX7_word_140 : decode cX7_word 140 = .ok (.lload_n 1, 1) := by decide +kernel
theorem dX7_word_141 : decode cX7_word 141 = .ok (.ldc2_w 194, 3) := by decide +kernel
theorem dX7_word_144 : decode cX7_word 144 = .ok (.lcmp, 1) := by decide +kernel
theorem dX7_word_145 : decode cX7_word 145 = .ok (.ifCond .ne 8, 3) := by decide +kernel
theorem dX7_word_148 : decode cX7_word 148 = .ok (.bipush 7, 2) := by decide +kernel
theorem dX7_word_150 : decode cX7_word 150 = .ok (.goto 56, 3) := by decide +kernel
theorem dX7_word_153 : decode cX7_word 153 = .ok (.lload_n 1, 1) := by decide +kernel
theorem dX7_word_154 : decode cX7_word 154 = .ok (.ldc2_w 196, 3) := by decide +kernel
theorem dX7_word_157 : decode cX7_word 157 = .ok (.lcmp, 1) := by decide +kernel
theorem dX7_word_158 : decode cX7_word 158 = .ok (.ifCond .ne 8, 3) := by decide +kernel
theorem dX7_word_161 : decode cX7_word 161 = .ok (.bipush 8, 2) := by decide +kernel
theorem dX7_word_163 : decode cX7_word 163 = .ok (.goto 43, 3) := by decide +kernel
theorem dX7_word_166 : decode cX7_word 166 = .ok (.lload_n 1, 1) := by decide +kernel
theorem dX7_word_167 : decode cX7_word 167 = .ok (.ldc2_w 198, 3) := by decide +kernel
theorem dX7_word_170 : decode cX7_word 170 = .ok (.lcmp, 1) := by decide +kernel
theorem dX7_word_171 : decode cX7_word 171 = .ok (.ifCond .ne 8, 3) := by decide +kernel
theorem dX7_word_174 : decode cX7_word 174 = .ok (.bipush 9, 2) := by decide +kernel
theorem dX7_word_176 : decode cX7_word 176 = .ok (.goto 30, 3) := by decide +kernel
theorem dX7_word_179 : decode cX7_word 179 = .ok (.lload_n 1, 1) := by decide +kernel
theorem dX7_word_180 : decode cX7_word 180 = .ok (.ldc2_w 200, 3) := by decide +kernel
theorem dX7_word_183 : decode cX7_word 183 = .ok (.lcmp, 1) := by decide +kernel
theorem dX7_word_184 : decode cX7_word 184 = .ok (.ifCond .ne 8, 3) := by decide +kernel
theorem dX7_word_187 : decode cX7_word 187 = .ok (.bipush 10, 2) := by decide +kernel
theorem dX7_word_189 : decode cX7_word 189 = .ok (.goto 17, 3) := by decide +kernel
theorem dX7_word_192 : decode cX7_word 192 = .ok (.lload_n 1, 1) := by decide +kernel
theorem dX7_word_193 : decode cX7_word 193 = .ok (.ldc2_w 202, 3) := by decide +kernel
theorem dX7_word_196 : decode cX7_word 196 = .ok (.lcmp, 1) := by decide +kernel
theorem dX7_word_197 : decode cX7_word 197 = .ok (.ifCond .ne 8, 3) := by decide +kernel
theorem dX7_word_200 : decode cX7_word 200 = .ok (.bipush 11, 2) := by decide +kernel
theorem dX7_word_202 : decode cX7_word 202 = .ok (.goto 4, 3) := by decide +kernel
theorem dX7_word_205 : decode cX7_word 205 = .ok (.iconst 0, 1) := by decide +kernel
theorem dX7_word_206 : decode cX7_word 206 = .ok (.istore 4, 2) := by decide +kernel
theorem dX7_word_208 : decode cX7_word 208 = .ok (.aload_n 0, 1) := by decide +kernel
theorem dX7_word_209 : decode cX7_word 209 = .ok (.iload 4, 2) := by decide +kernel
theorem dX7_word_211 : decode cX7_word 211 = .ok (.ifCond .ne 7, 3) := by decide +kernel
theorem dX7_word_214 : decode cX7_word 214 = .ok (.iload_n 3, 1) := by decide +kernel
theorem dX7_word_215 : decode cX7_word 215 = .ok (.goto 7, 3) := by decide +kernel
theorem dX7_word_218 : decode cX7_word 218 = .ok (.aload_n 0, 1) := by decide +kernel
theorem dX7_word_219 : decode cX7_word 219 = .ok (.getfield 170, 3) := by decide +kernel
theorem dX7_word_222 : decode cX7_word 222 = .ok (.putfield 170, 3) := by decide +kernel
theorem dX7_word_225 : decode cX7_word 225 = .ok (.iload 4, 2) := by decide +kernel
theorem dX7_word_227 : decode cX7_word 227 = .ok (.ireturn, 1) := by decide +kernel
theorem dX7_numbersOf_0 : decode cX7_numbersOf 0 = .ok (.iload_n 0, 1) := by decide +kernel
theorem dX7_numbersOf_1 : decode cX7_numbersOf 1 = .ok (.bipush 9, 2) := by decide +kernel
theorem dX7_numbersOf_3 : decode cX7_numbersOf 3 = .ok (.if_icmp .le 7, 3) := by decide +kernel
theorem dX7_numbersOf_6 : decode cX7_numbersOf 6 = .ok (.iconst 0, 1) := by decide +kernel
theorem dX7_numbersOf_7 : decode cX7_numbersOf 7 = .ok (.goto 32, 3) := by decide +kernel
theorem dX7_numbersOf_10 : decode cX7_numbersOf 10 = .ok (.iload_n 0, 1) := by decide +kernel
theorem dX7_numbersOf_11 : decode cX7_numbersOf 11 = .ok (.iconst 2, 1) := by decide +kernel
theorem dX7_numbersOf_12 : decode cX7_numbersOf 12 = .ok (.if_icmp .ne 7, 3) := by decide +kernel
theorem dX7_numbersOf_15 : decode cX7_numbersOf 15 = .ok (.iconst 3, 1) := by decide +kernel
theorem dX7_numbersOf_16 : decode cX7_numbersOf 16 = .ok (.goto 23, 3) := by decide +kernel
theorem dX7_numbersOf_19 : decode cX7_numbersOf 19 = .ok (.iload_n 0, 1) := by decide +kernel
theorem dX7_numbersOf_20 : decode cX7_numbersOf 20 = .ok (.iconst 1, 1) := by decide +kernel
theorem dX7_numbersOf_21 : decode cX7_numbersOf 21 = .ok (.if_icmp .eq 13, 3) := by decide +kernel
theorem dX7_numbersOf_24 : decode cX7_numbersOf 24 = .ok (.iload_n 0, 1) := by decide +kernel
theorem dX7_numbersOf_25 : decode cX7_numbersOf 25 = .ok (.iconst 4, 1) := by decide +kernel
theorem dX7_numbersOf_26 : decode cX7_numbersOf 26 = .ok (.if_icmp .eq 8, 3) := by decide +kernel
theorem dX7_numbersOf_29 : decode cX7_numbersOf 29 = .ok (.iload_n 0, 1) := by decide +kernel
theorem dX7_numbersOf_30 : decode cX7_numbersOf 30 = .ok (.iconst 5, 1) := by decide +kernel
theorem dX7_numbersOf_31 : decode cX7_numbersOf 31 = .ok (.if_icmp .ne 7, 3) := by decide +kernel
theorem dX7_numbersOf_34 : decode cX7_numbersOf 34 = .ok (.iconst 2, 1) := by decide +kernel
theorem dX7_numbersOf_35 : decode cX7_numbersOf 35 = .ok (.goto 4, 3) := by decide +kernel
theorem dX7_numbersOf_38 : decode cX7_numbersOf 38 = .ok (.iconst 1, 1) := by decide +kernel
theorem dX7_numbersOf_39 : decode cX7_numbersOf 39 = .ok (.ireturn, 1) := by decide +kernel
theorem dX7_isNumber_0 : decode cX7_isNumber 0 = .ok (.aload_n 0, 1) := by decide +kernel
theorem dX7_isNumber_1 : decode cX7_isNumber 1 = .ok (.invokevirtual 173, 3) := by decide +kernel
theorem dX7_isNumber_4 : decode cX7_isNumber 4 = .ok (.bipush 32, 2) := by decide +kernel
theorem dX7_isNumber_6 : decode cX7_isNumber 6 = .ok (.if_icmp .eq 5, 3) := by decide +kernel
theorem dX7_isNumber_9 : decode cX7_isNumber 9 = .ok (.iconst 0, 1) := by decide +kernel
theorem dX7_isNumber_10 : decode cX7_isNumber 10 = .ok (.ireturn, 1) := by decide +kernel
theorem dX7_isNumber_11 : decode cX7_isNumber 11 = .ok (.aload_n 0, 1) := by decide +kernel
theorem dX7_isNumber_12 : decode cX7_isNumber 12 = .ok (.invokevirtual 204, 3) := by decide +kernel
theorem dX7_isNumber_15 : decode cX7_isNumber 15 = .ok (.aload_n 0, 1) := by decide +kernel
theorem dX7_isNumber_16 : decode cX7_isNumber 16 = .ok (.getfield 170, 3) := by decide +kernel
theorem dX7_isNumber_19 : decode cX7_isNumber 19 = .ok (.istore_n 1, 1) := by decide +kernel
theorem dX7_isNumber_20 : decode cX7_isNumber 20 = .ok (.iconst 0, 1) := by decide +kernel
theorem dX7_isNumber_21 : decode cX7_isNumber 21 = .ok (.istore_n 2, 1) := by decide +kernel
theorem dX7_isNumber_22 : decode cX7_isNumber 22 = .ok (.aload_n 0, 1) := by decide +kernel
theorem dX7_isNumber_23 : decode cX7_isNumber 23 = .ok (.getfield 170, 3) := by decide +kernel
theorem dX7_isNumber_26 : decode cX7_isNumber 26 = .ok (.iload_n 1, 1) := by decide +kernel
theorem dX7_isNumber_27 : decode cX7_isNumber 27 = .ok (.isub, 1) := by decide +kernel
theorem dX7_isNumber_28 : decode cX7_isNumber 28 = .ok (.iconst 4, 1) := by decide +kernel
theorem dX7_isNumber_29 : decode cX7_isNumber 29 = .ok (.if_icmp .ge 43, 3) := by decide +kernel
theorem dX7_isNumber_32 : decode cX7_isNumber 32 = .ok (.aload_n 0, 1) := by decide +kernel
theorem dX7_isNumber_33 : decode cX7_isNumber 33 = .ok (.invokevirtual 173, 3) := by decide +kernel
theorem dX7_isNumber_36 : decode cX7_isNumber 36 = .ok (.bipush 48, 2) := by decide +kernel
theorem dX7_isNumber_38 : decode cX7_isNumber 38 = .ok (.bipush 57, 2) := by decide +kernel
theorem dX7_isNumber_40 : decode cX7_isNumber 40 = .ok (.invokestatic 37, 3) := by decide +kernel
theorem dX7_isNumber_43 : decode cX7_isNumber 43 = .ok (.ifCond .eq 29, 3) := by decide +kernel
theorem dX7_isNumber_46 : decode cX7_isNumber 46 = .ok (.bipush 10, 2) := by decide +kernel
theorem dX7_isNumber_48 : decode cX7_isNumber 48 = .ok (.iload_n 2, 1) := by decide +kernel
theorem dX7_isNumber_49 : decode cX7_isNumber 49 = .ok (.imul, 1) := by decide +kernel
theorem dX7_isNumber_50 : decode cX7_isNumber 50 = .ok (.aload_n 0, 1) := by decide +kernel
theorem dX7_isNumber_51 : decode cX7_isNumber 51 = .ok (.invokevirtual 173, 3) := by decide +kernel
theorem dX7_isNumber_54 : decode cX7_isNumber 54 = .ok (.iadd, 1) := by decide +kernel
theorem dX7_isNumber_55 : decode cX7_isNumber 55 = .ok (.bipush 48, 2) := by decide +kernel
theorem dX7_isNumber_57 : decode cX7_isNumber 57 = .ok (.isub, 1) := by decide +kernel
theorem dX7_isNumber_58 : decode cX7_isNumber 58 = .ok (.istore_n 2, 1) := by decide +kernel
theorem dX7_isNumber_59 : decode cX7_isNumber 59 = .ok (.aload_n 0, 1) := by decide +kernel
theorem dX7_isNumber_60 : decode cX7_isNumber 60 = .ok (.dup, 1) := by decide +kernel
theorem dX7_isNumber_61 : decode cX7_isNumber 61 = .ok (.getfield 170, 3) := by decide +kernel
theorem dX7_isNumber_64 : decode cX7_isNumber 64 = .ok (.iconst 1, 1) := by decide +kernel
theorem dX7_isNumber_65 : decode cX7_isNumber 65 = .ok (.iadd, 1) := by decide +kernel
theorem dX7_isNumber_66 : decode cX7_isNumber 66 = .ok (.putfield 170, 3) := by decide +kernel
theorem dX7_isNumber_69 : decode cX7_isNumber 69 = .ok (.goto (-47), 3) := by decide +kernel
theorem dX7_isNumber_72 : decode cX7_isNumber 72 = .ok (.aload_n 0, 1) := by decide +kernel
theorem dX7_isNumber_73 : decode cX7_isNumber 73 = .ok (.getfield 16, 3) := by decide +kernel
theorem dX7_isNumber_76 : decode cX7_isNumber 76 = .ok (.aload_n 0, 1) := by decide +kernel
theorem dX7_isNumber_77 : decode cX7_isNumber 77 = .ok (.getfield 207, 3) := by decide +kernel
theorem dX7_isNumber_80 : decode cX7_isNumber 80 = .ok (.iload_n 2, 1) := by decide +kernel
theorem dX7_isNumber_81 : decode cX7_isNumber 81 = .ok (.iastore, 1) := by decide +kernel
theorem dX7_isNumber_82 : decode cX7_isNumber 82 = .ok (.aload_n 0, 1) := by decide +kernel
theorem dX7_isNumber_83 : decode cX7_isNumber 83 = .ok (.dup, 1) := by decide +kernel
theorem dX7_isNumber_84 : decode cX7_isNumber 84 = .ok (.getfield 207, 3) := by decide +kernel
theorem dX7_isNumber_87 : decode cX7_isNumber 87 = .ok (.iconst 1, 1) := by decide +kernel
theorem dX7_isNumber_88 : decode cX7_isNumber 88 = .ok (.iadd, 1) := by decide +kernel
theorem dX7_isNumber_89 : decode cX7_isNumber 89 = .ok (.putfield 207, 3) := by decide +kernel
theorem dX7_isNumber_92 : decode cX7_isNumber 92 = .ok (.aload_n 0, 1) := by decide +kernel
theorem dX7_isNumber_93 : decode cX7_isNumber 93 = .ok (.getfield 170, 3) := by decide +kernel
theorem dX7_isNumber_96 : decode cX7_isNumber 96 = .ok (.iload_n 1, 1) := by decide +kernel
theorem dX7_isNumber_97 : decode cX7_isNumber 97 = .ok (.if_icmp .le 21, 3) := by decide +kernel
theorem dX7_isNumber_100 : decode cX7_isNumber 100 = .ok (.aload_n 0, 1) := by decide +kernel
theorem dX7_isNumber_101 : decode cX7_isNumber 101 = .ok (.invokevirtual 173, 3) := by decide +kernel
theorem dX7_isNumber_104 : decode cX7_isNumber 104 = .ok (.bipush 48, 2) := by decide +kernel
theorem dX7_isNumber_106 : decode cX7_isNumber 106 = .ok (.bipush 57, 2) := by decide +kernel
theorem dX7_isNumber_108 : decode cX7_isNumber 108 = .ok (.invokestatic 37, 3) := by decide +kernel
theorem dX7_isNumber_111 : decode cX7_isNumber 111 = .ok (.ifCond .ne 7, 3) := by decide +kernel
theorem dX7_isNumber_114 : decode cX7_isNumber 114 = .ok (.iconst 1, 1) := by decide +kernel
theorem dX7_isNumber_115 : decode cX7_isNumber 115 = .ok (.goto 4, 3) := by decide +kernel
theorem dX7_isNumber_118 : decode cX7_isNumber 118 = .ok (.iconst 0, 1) := by decide +kernel
theorem dX7_isNumber_119 : decode cX7_isNumber 119 = .ok (.ireturn, 1) := by decide +kernel
theorem dX7_command_0 : decode cX7_command 0 = .ok (.aload_n 0, 1) := by decide +kernel
theorem dX7_command_1 : decode cX7_command 1 = .ok (.invokevirtual 210, 3) := by decide +kernel
theorem dX7_command_4 : decode cX7_command 4 = .ok (.istore_n 1, 1) := by decide +kernel
theorem dX7_command_5 : decode cX7_command 5 = .ok (.aload_n 0, 1) := by decide +kernel
theorem dX7_command_6 : decode cX7_command 6 = .ok (.iconst 0, 1) := by decide +kernel
theorem dX7_command_7 : decode cX7_command 7 = .ok (.putfield 207, 3) := by decide +kernel
theorem dX7_command_10 : decode cX7_command 10 = .ok (.iconst 0, 1) := by decide +kernel
theorem dX7_command_11 : decode cX7_command 11 = .ok (.istore_n 2, 1) := by decide +kernel
theorem dX7_command_12 : decode cX7_command 12 = .ok (.iload_n 2, 1) := by decide +kernel
theorem dX7_command_13 : decode cX7_command 13 = .ok (.iload_n 1, 1) := by decide +kernel
theorem dX7_command_14 : decode cX7_command 14 = .ok (.invokestatic 213, 3) := by decide +kernel
theorem dX7_command_17 : decode cX7_command 17 = .ok (.if_icmp .ge 22, 3) := by decide +kernel
theorem dX7_command_20 : decode cX7_command 20 = .ok (.iload_n 1, 1) := by decide +kernel
theorem dX7_command_21 : decode cX7_command 21 = .ok (.ifCond .le 18, 3) := by decide +kernel
theorem dX7_command_24 : decode cX7_command 24 = .ok (.aload_n 0, 1) := by decide +kernel
theorem dX7_command_25 : decode cX7_command 25 = .ok (.invokevirtual 216, 3) := by decide +kernel
theorem dX7_command_28 : decode cX7_command 28 = .ok (.ifCond .ne 5, 3) := by decide +kernel
theorem dX7_command_31 : decode cX7_command 31 = .ok (.iconst 0, 1) := by decide +kernel
theorem dX7_command_32 : decode cX7_command 32 = .ok (.ireturn, 1) := by decide +kernel
theorem dX7_command_33 : decode cX7_command 33 = .ok (.iinc 2 1, 3) := by decide +kernel
theorem dX7_command_36 : decode cX7_command 36 = .ok (.goto (-24), 3) := by decide +kernel
theorem dX7_command_39 : decode cX7_command 39 = .ok (.iload_n 1, 1) := by decide +kernel
theorem dX7_command_40 : decode cX7_command 40 = .ok (.ifCond .le 28, 3) := by decide +kernel
theorem dX7_command_43 : decode cX7_command 43 = .ok (.aload_n 0, 1) := by decide +kernel
theorem dX7_command_44 : decode cX7_command 44 = .ok (.invokevirtual 204, 3) := by decide +kernel
theorem dX7_command_47 : decode cX7_command 47 = .ok (.aload_n 0, 1) := by decide +kernel
theorem dX7_command_48 : decode cX7_command 48 = .ok (.invokevirtual 173, 3) := by decide +kernel
theorem dX7_command_51 : decode cX7_command 51 = .ok (.bipush 59, 2) := by decide +kernel
theorem dX7_command_53 : decode cX7_command 53 = .ok (.if_icmp .eq 5, 3) := by decide +kernel
theorem dX7_command_56 : decode cX7_command 56 = .ok (.iconst 0, 1) := by decide +kernel
theorem dX7_command_57 : decode cX7_command 57 = .ok (.ireturn, 1) := by decide +kernel
theorem dX7_command_58 : decode cX7_command 58 = .ok (.aload_n 0, 1) := by decide +kernel
theorem dX7_command_59 : decode cX7_command 59 = .ok (.dup, 1) := by decide +kernel
theorem dX7_command_60 : decode cX7_command 60 = .ok (.getfield 170, 3) := by decide +kernel
theorem dX7_command_63 : decode cX7_command 63 = .ok (.iconst 1, 1) := by decide +kernel
theorem dX7_command_64 : decode cX7_command 64 = .ok (.iadd, 1) := by decide +kernel
theorem dX7_command_65 : decode cX7_command 65 = .ok (.putfield 170, 3) := by decide +kernel
theorem dX7_command_68 : decode cX7_command 68 = .ok (.iload_n 1, 1) := by decide +kernel
theorem dX7_command_69 : decode cX7_command 69 = .ok (.ireturn, 1) := by decide +kernel
theorem dX7_fault_0 : decode cX7_fault 0 = .ok (.aload_n 0, 1) := by decide +kernel
theorem dX7_fault_1 : decode cX7_fault 1 = .ok (.iconst 0, 1) := by decide +kernel
theorem dX7_fault_2 : decode cX7_fault 2 = .ok (.putfield 170, 3) := by decide +kernel
theorem dX7_fault_5 : decode cX7_fault 5 = .ok (.aload_n 0, 1) := by decide +kernel
theorem dX7_fault_6 : decode cX7_fault 6 = .ok (.invokevirtual 204, 3) := by decide +kernel
theorem dX7_fault_9 : decode cX7_fault 9 = .ok (.aload_n 0, 1) := by decide +kernel
theorem dX7_fault_10 : decode cX7_fault 10 = .ok (.getfield 170, 3) := by decide +kernel
theorem dX7_fault_13 : decode cX7_fault 13 = .ok (.aload_n 0, 1) := by decide +kernel
theorem dX7_fault_14 : decode cX7_fault 14 = .ok (.getfield 152, 3) := by decide +kernel
theorem dX7_fault_17 : decode cX7_fault 17 = .ok (.if_icmp .ge 22, 3) := by decide +kernel
theorem dX7_fault_20 : decode cX7_fault 20 = .ok (.aload_n 0, 1) := by decide +kernel
theorem dX7_fault_21 : decode cX7_fault 21 = .ok (.invokevirtual 220, 3) := by decide +kernel
theorem dX7_fault_24 : decode cX7_fault 24 = .ok (.ifCond .ne 8, 3) := by decide +kernel
theorem dX7_fault_27 : decode cX7_fault 27 = .ok (.aload_n 0, 1) := by decide +kernel
theorem dX7_fault_28 : decode cX7_fault 28 = .ok (.getfield 170, 3) := by decide +kernel
theorem dX7_fault_31 : decode cX7_fault 31 = .ok (.ireturn, 1) := by decide +kernel
theorem dX7_fault_32 : decode cX7_fault 32 = .ok (.aload_n 0, 1) := by decide +kernel
theorem dX7_fault_33 : decode cX7_fault 33 = .ok (.invokevirtual 204, 3) := by decide +kernel
theorem dX7_fault_36 : decode cX7_fault 36 = .ok (.goto (-27), 3) := by decide +kernel
theorem dX7_fault_39 : decode cX7_fault 39 = .ok (.iconst (-1), 1) := by decide +kernel
theorem dX7_fault_40 : decode cX7_fault 40 = .ok (.ireturn, 1) := by decide +kernel
theorem dX7_whyNot_0 : decode cX7_whyNot 0 = .ok (.iload_n 1, 1) := by decide +kernel
theorem dX7_whyNot_1 : decode cX7_whyNot 1 = .ok (.tableswitch 138 1 10 #[55, 68, 77, 83, 90, 97, 103, 109, 116, 123], 55) := by decide +kernel
theorem dX7_whyNot_56 : decode cX7_whyNot 56 = .ok (.aload_n 0, 1) := by decide +kernel
theorem dX7_whyNot_57 : decode cX7_whyNot 57 = .ok (.iload_n 2, 1) := by decide +kernel
theorem dX7_whyNot_58 : decode cX7_whyNot 58 = .ok (.iload_n 3, 1) := by decide +kernel
theorem dX7_whyNot_59 : decode cX7_whyNot 59 = .ok (.aload_n 0, 1) := by decide +kernel
theorem dX7_whyNot_60 : decode cX7_whyNot 60 = .ok (.getfield 7, 3) := by decide +kernel
theorem dX7_whyNot_63 : decode cX7_whyNot 63 = .ok (.iconst 0, 1) := by decide +kernel
theorem dX7_whyNot_64 : decode cX7_whyNot 64 = .ok (.iaload, 1) := by decide +kernel
theorem dX7_whyNot_65 : decode cX7_whyNot 65 = .ok (.invokevirtual 52, 3) := by decide +kernel
theorem dX7_whyNot_68 : decode cX7_whyNot 68 = .ok (.ireturn, 1) := by decide +kernel
theorem dX7_whyNot_69 : decode cX7_whyNot 69 = .ok (.aload_n 0, 1) := by decide +kernel
theorem dX7_whyNot_70 : decode cX7_whyNot 70 = .ok (.iload_n 2, 1) := by decide +kernel
theorem dX7_whyNot_71 : decode cX7_whyNot 71 = .ok (.iload_n 3, 1) := by decide +kernel
theorem dX7_whyNot_72 : decode cX7_whyNot 72 = .ok (.iload 4, 2) := by decide +kernel
theorem dX7_whyNot_74 : decode cX7_whyNot 74 = .ok (.invokevirtual 52, 3) := by decide +kernel
theorem dX7_whyNot_77 : decode cX7_whyNot 77 = .ok (.ireturn, 1) := by decide +kernel
theorem dX7_whyNot_78 : decode cX7_whyNot 78 = .ok (.aload_n 0, 1) := by decide +kernel
theorem dX7_whyNot_79 : decode cX7_whyNot 79 = .ok (.iload_n 2, 1) := by decide +kernel
theorem dX7_whyNot_80 : decode cX7_whyNot 80 = .ok (.invokevirtual 66, 3) := by decide +kernel
theorem dX7_whyNot_83 : decode cX7_whyNot 83 = .ok (.ireturn, 1) := by decide +kernel
theorem dX7_whyNot_84 : decode cX7_whyNot 84 = .ok (.aload_n 0, 1) := by decide +kernel
theorem dX7_whyNot_85 : decode cX7_whyNot 85 = .ok (.iload_n 2, 1) := by decide +kernel
theorem dX7_whyNot_86 : decode cX7_whyNot 86 = .ok (.iload_n 3, 1) := by decide +kernel
theorem dX7_whyNot_87 : decode cX7_whyNot 87 = .ok (.invokevirtual 77, 3) := by decide +kernel
theorem dX7_whyNot_90 : decode cX7_whyNot 90 = .ok (.ireturn, 1) := by decide +kernel
theorem dX7_whyNot_91 : decode cX7_whyNot 91 = .ok (.aload_n 0, 1) := by decide +kernel
theorem dX7_whyNot_92 : decode cX7_whyNot 92 = .ok (.iload_n 2, 1) := by decide +kernel
theorem dX7_whyNot_93 : decode cX7_whyNot 93 = .ok (.iload_n 3, 1) := by decide +kernel
theorem dX7_whyNot_94 : decode cX7_whyNot 94 = .ok (.invokevirtual 95, 3) := by decide +kernel
theorem dX7_whyNot_97 : decode cX7_whyNot 97 = .ok (.ireturn, 1) := by decide +kernel
theorem dX7_whyNot_98 : decode cX7_whyNot 98 = .ok (.aload_n 0, 1) := by decide +kernel
theorem dX7_whyNot_99 : decode cX7_whyNot 99 = .ok (.iload_n 2, 1) := by decide +kernel
theorem dX7_whyNot_100 : decode cX7_whyNot 100 = .ok (.invokevirtual 110, 3) := by decide +kernel
theorem dX7_whyNot_103 : decode cX7_whyNot 103 = .ok (.ireturn, 1) := by decide +kernel
theorem dX7_whyNot_104 : decode cX7_whyNot 104 = .ok (.aload_n 0, 1) := by decide +kernel
theorem dX7_whyNot_105 : decode cX7_whyNot 105 = .ok (.iload_n 2, 1) := by decide +kernel
theorem dX7_whyNot_106 : decode cX7_whyNot 106 = .ok (.invokevirtual 119, 3) := by decide +kernel
theorem dX7_whyNot_109 : decode cX7_whyNot 109 = .ok (.ireturn, 1) := by decide +kernel
theorem dX7_whyNot_110 : decode cX7_whyNot 110 = .ok (.aload_n 0, 1) := by decide +kernel
theorem dX7_whyNot_111 : decode cX7_whyNot 111 = .ok (.iload_n 2, 1) := by decide +kernel
theorem dX7_whyNot_112 : decode cX7_whyNot 112 = .ok (.iconst 1, 1) := by decide +kernel
theorem dX7_whyNot_113 : decode cX7_whyNot 113 = .ok (.invokevirtual 128, 3) := by decide +kernel
theorem dX7_whyNot_116 : decode cX7_whyNot 116 = .ok (.ireturn, 1) := by decide +kernel
theorem dX7_whyNot_117 : decode cX7_whyNot 117 = .ok (.aload_n 0, 1) := by decide +kernel
theorem dX7_whyNot_118 : decode cX7_whyNot 118 = .ok (.iload_n 2, 1) := by decide +kernel
theorem dX7_whyNot_119 : decode cX7_whyNot 119 = .ok (.iconst 0, 1) := by decide +kernel
theorem dX7_whyNot_120 : decode cX7_whyNot 120 = .ok (.invokevirtual 128, 3) := by decide +kernel
theorem dX7_whyNot_123 : decode cX7_whyNot 123 = .ok (.ireturn, 1) := by decide +kernel
theorem dX7_whyNot_124 : decode cX7_whyNot 124 = .ok (.aload_n 0, 1) := by decide +kernel
theorem dX7_whyNot_125 : decode cX7_whyNot 125 = .ok (.getfield 7, 3) := by decide +kernel
theorem dX7_whyNot_128 : decode cX7_whyNot 128 = .ok (.iconst 0, 1) := by decide +kernel
theorem dX7_whyNot_129 : decode cX7_whyNot 129 = .ok (.iaload, 1) := by decide +kernel
theorem dX7_whyNot_130 : decode cX7_whyNot 130 = .ok (.ifCond .ne 7, 3) := by decide +kernel
theorem dX7_whyNot_133 : decode cX7_whyNot 133 = .ok (.iconst 1, 1) := by decide +kernel
theorem dX7_whyNot_134 : decode cX7_whyNot 134 = .ok (.goto 4, 3) := by decide +kernel
theorem dX7_whyNot_137 : decode cX7_whyNot 137 = .ok (.iconst 0, 1) := by decide +kernel
theorem dX7_whyNot_138 : decode cX7_whyNot 138 = .ok (.ireturn, 1) := by decide +kernel
theorem dX7_whyNot_139 : decode cX7_whyNot 139 = .ok (.iconst 0, 1) := by decide +kernel
theorem dX7_whyNot_140 : decode cX7_whyNot 140 = .ok (.ireturn, 1) := by decide +kernel
theorem dX7_does_0 : decode cX7_does 0 = .ok (.iload_n 1, 1) := by decide +kernel
theorem dX7_does_1 : decode cX7_does 1 = .ok (.tableswitch 166 1 10 #[55, 71, 83, 95, 105, 115, 124, 138, 148, 158], 55) := by decide +kernel
theorem dX7_does_56 : decode cX7_does 56 = .ok (.aload_n 0, 1) := by decide +kernel
theorem dX7_does_57 : decode cX7_does 57 = .ok (.iload_n 2, 1) := by decide +kernel
theorem dX7_does_58 : decode cX7_does 58 = .ok (.iload_n 3, 1) := by decide +kernel
theorem dX7_does_59 : decode cX7_does 59 = .ok (.aload_n 0, 1) := by decide +kernel
theorem dX7_does_60 : decode cX7_does 60 = .ok (.getfield 7, 3) := by decide +kernel
theorem dX7_does_63 : decode cX7_does 63 = .ok (.iconst 0, 1) := by decide +kernel
theorem dX7_does_64 : decode cX7_does 64 = .ok (.iaload, 1) := by decide +kernel
theorem dX7_does_65 : decode cX7_does 65 = .ok (.invokevirtual 63, 3) := by decide +kernel
theorem dX7_does_68 : decode cX7_does 68 = .ok (.pop, 1) := by decide +kernel
theorem dX7_does_69 : decode cX7_does 69 = .ok (.goto 103, 3) := by decide +kernel
theorem dX7_does_72 : decode cX7_does 72 = .ok (.aload_n 0, 1) := by decide +kernel
theorem dX7_does_73 : decode cX7_does 73 = .ok (.iload_n 2, 1) := by decide +kernel
theorem dX7_does_74 : decode cX7_does 74 = .ok (.iload_n 3, 1) := by decide +kernel
theorem dX7_does_75 : decode cX7_does 75 = .ok (.iload 4, 2) := by decide +kernel
theorem dX7_does_77 : decode cX7_does 77 = .ok (.invokevirtual 63, 3) := by decide +kernel
theorem dX7_does_80 : decode cX7_does 80 = .ok (.pop, 1) := by decide +kernel
theorem dX7_does_81 : decode cX7_does 81 = .ok (.goto 91, 3) := by decide +kernel
theorem dX7_does_84 : decode cX7_does 84 = .ok (.aload_n 0, 1) := by decide +kernel
theorem dX7_does_85 : decode cX7_does 85 = .ok (.aload_n 0, 1) := by decide +kernel
theorem dX7_does_86 : decode cX7_does 86 = .ok (.iload_n 2, 1) := by decide +kernel
theorem dX7_does_87 : decode cX7_does 87 = .ok (.invokevirtual 45, 3) := by decide +kernel
theorem dX7_does_90 : decode cX7_does 90 = .ok (.invokevirtual 69, 3) := by decide +kernel
theorem dX7_does_93 : decode cX7_does 93 = .ok (.goto 79, 3) := by decide +kernel
theorem dX7_does_96 : decode cX7_does 96 = .ok (.aload_n 0, 1) := by decide +kernel
theorem dX7_does_97 : decode cX7_does 97 = .ok (.iload_n 2, 1) := by decide +kernel
theorem dX7_does_98 : decode cX7_does 98 = .ok (.iload_n 3, 1) := by decide +kernel
theorem dX7_does_99 : decode cX7_does 99 = .ok (.invokevirtual 80, 3) := by decide +kernel
theorem dX7_does_102 : decode cX7_does 102 = .ok (.pop, 1) := by decide +kernel
theorem dX7_does_103 : decode cX7_does 103 = .ok (.goto 69, 3) := by decide +kernel
theorem dX7_does_106 : decode cX7_does 106 = .ok (.aload_n 0, 1) := by decide +kernel
theorem dX7_does_107 : decode cX7_does 107 = .ok (.iload_n 2, 1) := by decide +kernel
theorem dX7_does_108 : decode cX7_does 108 = .ok (.iload_n 3, 1) := by decide +kernel
theorem dX7_does_109 : decode cX7_does 109 = .ok (.invokevirtual 98, 3) := by decide +kernel
theorem dX7_does_112 : decode cX7_does 112 = .ok (.pop, 1) := by decide +kernel
theorem dX7_does_113 : decode cX7_does 113 = .ok (.goto 59, 3) := by decide +kernel
theorem dX7_does_116 : decode cX7_does 116 = .ok (.aload_n 0, 1) := by decide +kernel
theorem dX7_does_117 : decode cX7_does 117 = .ok (.iload_n 2, 1) := by decide +kernel
theorem dX7_does_118 : decode cX7_does 118 = .ok (.invokevirtual 113, 3) := by decide +kernel
theorem dX7_does_121 : decode cX7_does 121 = .ok (.pop, 1) := by decide +kernel
theorem dX7_does_122 : decode cX7_does 122 = .ok (.goto 50, 3) := by decide +kernel
theorem dX7_does_125 : decode cX7_does 125 = .ok (.aload_n 0, 1) := by decide +kernel
theorem dX7_does_126 : decode cX7_does 126 = .ok (.iload_n 2, 1) := by decide +kernel
theorem dX7_does_127 : decode cX7_does 127 = .ok (.aload_n 0, 1) := by decide +kernel
theorem dX7_does_128 : decode cX7_does 128 = .ok (.iload_n 2, 1) := by decide +kernel
theorem dX7_does_129 : decode cX7_does 129 = .ok (.invokevirtual 122, 3) := by decide +kernel
theorem dX7_does_132 : decode cX7_does 132 = .ok (.invokevirtual 107, 3) := by decide +kernel
theorem dX7_does_135 : decode cX7_does 135 = .ok (.pop, 1) := by decide +kernel
theorem dX7_does_136 : decode cX7_does 136 = .ok (.goto 36, 3) := by decide +kernel
theorem dX7_does_139 : decode cX7_does 139 = .ok (.aload_n 0, 1) := by decide +kernel
theorem dX7_does_140 : decode cX7_does 140 = .ok (.iload_n 2, 1) := by decide +kernel
theorem dX7_does_141 : decode cX7_does 141 = .ok (.iconst 1, 1) := by decide +kernel
theorem dX7_does_142 : decode cX7_does 142 = .ok (.invokevirtual 131, 3) := by decide +kernel
theorem dX7_does_145 : decode cX7_does 145 = .ok (.pop, 1) := by decide +kernel
theorem dX7_does_146 : decode cX7_does 146 = .ok (.goto 26, 3) := by decide +kernel
theorem dX7_does_149 : decode cX7_does 149 = .ok (.aload_n 0, 1) := by decide +kernel
theorem dX7_does_150 : decode cX7_does 150 = .ok (.iload_n 2, 1) := by decide +kernel
theorem dX7_does_151 : decode cX7_does 151 = .ok (.iconst 0, 1) := by decide +kernel
theorem dX7_does_152 : decode cX7_does 152 = .ok (.invokevirtual 131, 3) := by decide +kernel
theorem dX7_does_155 : decode cX7_does 155 = .ok (.pop, 1) := by decide +kernel
theorem dX7_does_156 : decode cX7_does 156 = .ok (.goto 16, 3) := by decide +kernel
theorem dX7_does_159 : decode cX7_does 159 = .ok (.aload_n 0, 1) := by decide +kernel
theorem dX7_does_160 : decode cX7_does 160 = .ok (.invokevirtual 73, 3) := by decide +kernel
theorem dX7_does_163 : decode cX7_does 163 = .ok (.pop, 1) := by decide +kernel
theorem dX7_does_164 : decode cX7_does 164 = .ok (.goto 8, 3) := by decide +kernel
theorem dX7_does_167 : decode cX7_does 167 = .ok (.aload_n 0, 1) := by decide +kernel
theorem dX7_does_168 : decode cX7_does 168 = .ok (.invokevirtual 134, 3) := by decide +kernel
theorem dX7_does_171 : decode cX7_does 171 = .ok (.pop, 1) := by decide +kernel
theorem dX7_does_172 : decode cX7_does 172 = .ok (.return_, 1) := by decide +kernel
theorem dX7_runCommands_0 : decode cX7_runCommands 0 = .ok (.aload_n 0, 1) := by decide +kernel
theorem dX7_runCommands_1 : decode cX7_runCommands 1 = .ok (.iconst 0, 1) := by decide +kernel
theorem dX7_runCommands_2 : decode cX7_runCommands 2 = .ok (.putfield 22, 3) := by decide +kernel
theorem dX7_runCommands_5 : decode cX7_runCommands 5 = .ok (.aload_n 0, 1) := by decide +kernel
theorem dX7_runCommands_6 : decode cX7_runCommands 6 = .ok (.invokevirtual 223, 3) := by decide +kernel
theorem dX7_runCommands_9 : decode cX7_runCommands 9 = .ok (.istore_n 1, 1) := by decide +kernel
theorem dX7_runCommands_10 : decode cX7_runCommands 10 = .ok (.iload_n 1, 1) := by decide +kernel
theorem dX7_runCommands_11 : decode cX7_runCommands 11 = .ok (.iconst (-1), 1) := by decide +kernel
theorem dX7_runCommands_12 : decode cX7_runCommands 12 = .ok (.if_icmp .eq 8, 3) := by decide +kernel
theorem dX7_runCommands_15 : decode cX7_runCommands 15 = .ok (.bipush (-10), 2) := by decide +kernel
theorem dX7_runCommands_17 : decode cX7_runCommands 17 = .ok (.iload_n 1, 1) := by decide +kernel
theorem dX7_runCommands_18 : decode cX7_runCommands 18 = .ok (.isub, 1) := by decide +kernel
theorem dX7_runCommands_19 : decode cX7_runCommands 19 = .ok (.ireturn, 1) := by decide +kernel
theorem dX7_runCommands_20 : decode cX7_runCommands 20 = .ok (.aload_n 0, 1) := by decide +kernel
theorem dX7_runCommands_21 : decode cX7_runCommands 21 = .ok (.invokevirtual 60, 3) := by decide +kernel
theorem dX7_runCommands_24 : decode cX7_runCommands 24 = .ok (.aload_n 0, 1) := by decide +kernel
theorem dX7_runCommands_25 : decode cX7_runCommands 25 = .ok (.iconst 0, 1) := by decide +kernel
theorem dX7_runCommands_26 : decode cX7_runCommands 26 = .ok (.putfield 170, 3) := by decide +kernel
theorem dX7_runCommands_29 : decode cX7_runCommands 29 = .ok (.iconst 0, 1) := by decide +kernel
theorem dX7_runCommands_30 : decode cX7_runCommands 30 = .ok (.istore_n 2, 1) := by decide +kernel
theorem dX7_runCommands_31 : decode cX7_runCommands 31 = .ok (.aload_n 0, 1) := by decide +kernel
theorem dX7_runCommands_32 : decode cX7_runCommands 32 = .ok (.invokevirtual 204, 3) := by decide +kernel
theorem dX7_runCommands_35 : decode cX7_runCommands 35 = .ok (.aload_n 0, 1) := by decide +kernel
theorem dX7_runCommands_36 : decode cX7_runCommands 36 = .ok (.getfield 170, 3) := by decide +kernel
theorem dX7_runCommands_39 : decode cX7_runCommands 39 = .ok (.aload_n 0, 1) := by decide +kernel
theorem dX7_runCommands_40 : decode cX7_runCommands 40 = .ok (.getfield 152, 3) := by decide +kernel
theorem dX7_runCommands_43 : decode cX7_runCommands 43 = .ok (.if_icmp .ge 69, 3) := by decide +kernel
theorem dX7_runCommands_46 : decode cX7_runCommands 46 = .ok (.aload_n 0, 1) := by decide +kernel
theorem dX7_runCommands_47 : decode cX7_runCommands 47 = .ok (.invokevirtual 220, 3) := by decide +kernel
theorem dX7_runCommands_50 : decode cX7_runCommands 50 = .ok (.istore_n 3, 1) := by decide +kernel
theorem dX7_runCommands_51 : decode cX7_runCommands 51 = .ok (.aload_n 0, 1) := by decide +kernel
theorem dX7_runCommands_52 : decode cX7_runCommands 52 = .ok (.iload_n 3, 1) := by decide +kernel
theorem dX7_runCommands_53 : decode cX7_runCommands 53 = .ok (.aload_n 0, 1) := by decide +kernel
theorem dX7_runCommands_54 : decode cX7_runCommands 54 = .ok (.getfield 16, 3) := by decide +kernel
theorem dX7_runCommands_57 : decode cX7_runCommands 57 = .ok (.iconst 0, 1) := by decide +kernel
theorem dX7_runCommands_58 : decode cX7_runCommands 58 = .ok (.iaload, 1) := by decide +kernel
theorem dX7_runCommands_59 : decode cX7_runCommands 59 = .ok (.aload_n 0, 1) := by decide +kernel
theorem dX7_runCommands_60 : decode cX7_runCommands 60 = .ok (.getfield 16, 3) := by decide +kernel
theorem dX7_runCommands_63 : decode cX7_runCommands 63 = .ok (.iconst 1, 1) := by decide +kernel
theorem dX7_runCommands_64 : decode cX7_runCommands 64 = .ok (.iaload, 1) := by decide +kernel
theorem dX7_runCommands_65 : decode cX7_runCommands 65 = .ok (.aload_n 0, 1) := by decide +kernel
theorem dX7_runCommands_66 : decode cX7_runCommands 66 = .ok (.getfield 16, 3) := by decide +kernel
theorem dX7_runCommands_69 : decode cX7_runCommands 69 = .ok (.iconst 2, 1) := by decide +kernel
theorem dX7_runCommands_70 : decode cX7_runCommands 70 = .ok (.iaload, 1) := by decide +kernel
theorem dX7_runCommands_71 : decode cX7_runCommands 71 = .ok (.invokevirtual 226, 3) := by decide +kernel
theorem dX7_runCommands_74 : decode cX7_runCommands 74 = .ok (.ifCond .eq 5, 3) := by decide +kernel
theorem dX7_runCommands_77 : decode cX7_runCommands 77 = .ok (.iload_n 2, 1) := by decide +kernel
theorem dX7_runCommands_78 : decode cX7_runCommands 78 = .ok (.ireturn, 1) := by decide +kernel
theorem dX7_runCommands_79 : decode cX7_runCommands 79 = .ok (.aload_n 0, 1) := by decide +kernel
theorem dX7_runCommands_80 : decode cX7_runCommands 80 = .ok (.iload_n 3, 1) := by decide +kernel
theorem dX7_runCommands_81 : decode cX7_runCommands 81 = .ok (.aload_n 0, 1) := by decide +kernel
theorem dX7_runCommands_82 : decode cX7_runCommands 82 = .ok (.getfield 16, 3) := by decide +kernel
theorem dX7_runCommands_85 : decode cX7_runCommands 85 = .ok (.iconst 0, 1) := by decide +kernel
theorem dX7_runCommands_86 : decode cX7_runCommands 86 = .ok (.iaload, 1) := by decide +kernel
theorem dX7_runCommands_87 : decode cX7_runCommands 87 = .ok (.aload_n 0, 1) := by decide +kernel
theorem dX7_runCommands_88 : decode cX7_runCommands 88 = .ok (.getfield 16, 3) := by decide +kernel
theorem dX7_runCommands_91 : decode cX7_runCommands 91 = .ok (.iconst 1, 1) := by decide +kernel
theorem dX7_runCommands_92 : decode cX7_runCommands 92 = .ok (.iaload, 1) := by decide +kernel
theorem dX7_runCommands_93 : decode cX7_runCommands 93 = .ok (.aload_n 0, 1) := by decide +kernel
theorem dX7_runCommands_94 : decode cX7_runCommands 94 = .ok (.getfield 16, 3) := by decide +kernel
theorem dX7_runCommands_97 : decode cX7_runCommands 97 = .ok (.iconst 2, 1) := by decide +kernel
theorem dX7_runCommands_98 : decode cX7_runCommands 98 = .ok (.iaload, 1) := by decide +kernel
theorem dX7_runCommands_99 : decode cX7_runCommands 99 = .ok (.invokevirtual 230, 3) := by decide +kernel
theorem dX7_runCommands_102 : decode cX7_runCommands 102 = .ok (.iinc 2 1, 3) := by decide +kernel
theorem dX7_runCommands_105 : decode cX7_runCommands 105 = .ok (.aload_n 0, 1) := by decide +kernel
theorem dX7_runCommands_106 : decode cX7_runCommands 106 = .ok (.invokevirtual 204, 3) := by decide +kernel
theorem dX7_runCommands_109 : decode cX7_runCommands 109 = .ok (.goto (-74), 3) := by decide +kernel
theorem dX7_runCommands_112 : decode cX7_runCommands 112 = .ok (.iload_n 2, 1) := by decide +kernel
theorem dX7_runCommands_113 : decode cX7_runCommands 113 = .ok (.ireturn, 1) := by decide +kernel
theorem dX7_undo_0 : decode cX7_undo 0 = .ok (.aload_n 0, 1) := by decide +kernel
theorem dX7_undo_1 : decode cX7_undo 1 = .ok (.aload_n 0, 1) := by decide +kernel
theorem dX7_undo_2 : decode cX7_undo 2 = .ok (.getfield 26, 3) := by decide +kernel
theorem dX7_undo_5 : decode cX7_undo 5 = .ok (.ifCond .ne 7, 3) := by decide +kernel
theorem dX7_undo_8 : decode cX7_undo 8 = .ok (.iconst 1, 1) := by decide +kernel
theorem dX7_undo_9 : decode cX7_undo 9 = .ok (.goto 4, 3) := by decide +kernel
theorem dX7_undo_12 : decode cX7_undo 12 = .ok (.iconst 0, 1) := by decide +kernel
theorem dX7_undo_13 : decode cX7_undo 13 = .ok (.invokevirtual 56, 3) := by decide +kernel
theorem dX7_undo_16 : decode cX7_undo 16 = .ok (.ifCond .eq 5, 3) := by decide +kernel
theorem dX7_undo_19 : decode cX7_undo 19 = .ok (.iconst 0, 1) := by decide +kernel
theorem dX7_undo_20 : decode cX7_undo 20 = .ok (.ireturn, 1) := by decide +kernel
theorem dX7_undo_21 : decode cX7_undo 21 = .ok (.aload_n 0, 1) := by decide +kernel
theorem dX7_undo_22 : decode cX7_undo 22 = .ok (.bipush 76, 2) := by decide +kernel
theorem dX7_undo_24 : decode cX7_undo 24 = .ok (.aload_n 0, 1) := by decide +kernel
theorem dX7_undo_25 : decode cX7_undo 25 = .ok (.getfield 26, 3) := by decide +kernel
theorem dX7_undo_28 : decode cX7_undo 28 = .ok (.imul, 1) := by decide +kernel
theorem dX7_undo_29 : decode cX7_undo 29 = .ok (.iconst 0, 1) := by decide +kernel
theorem dX7_undo_30 : decode cX7_undo 30 = .ok (.invokevirtual 29, 3) := by decide +kernel
theorem dX7_undo_33 : decode cX7_undo 33 = .ok (.aload_n 0, 1) := by decide +kernel
theorem dX7_undo_34 : decode cX7_undo 34 = .ok (.dup, 1) := by decide +kernel
theorem dX7_undo_35 : decode cX7_undo 35 = .ok (.getfield 26, 3) := by decide +kernel
theorem dX7_undo_38 : decode cX7_undo 38 = .ok (.iconst 1, 1) := by decide +kernel
theorem dX7_undo_39 : decode cX7_undo 39 = .ok (.isub, 1) := by decide +kernel
theorem dX7_undo_40 : decode cX7_undo 40 = .ok (.putfield 26, 3) := by decide +kernel
theorem dX7_undo_43 : decode cX7_undo 43 = .ok (.aload_n 0, 1) := by decide +kernel
theorem dX7_undo_44 : decode cX7_undo 44 = .ok (.getfield 26, 3) := by decide +kernel
theorem dX7_undo_47 : decode cX7_undo 47 = .ok (.ireturn, 1) := by decide +kernel
theorem dX7_digest_0 : decode cX7_digest 0 = .ok (.aload_n 0, 1) := by decide +kernel
theorem dX7_digest_1 : decode cX7_digest 1 = .ok (.iconst 0, 1) := by decide +kernel
theorem dX7_digest_2 : decode cX7_digest 2 = .ok (.putfield 22, 3) := by decide +kernel
theorem dX7_digest_5 : decode cX7_digest 5 = .ok (.ldc2_w 234, 3) := by decide +kernel
theorem dX7_digest_8 : decode cX7_digest 8 = .ok (.aload_n 0, 1) := by decide +kernel
theorem dX7_digest_9 : decode cX7_digest 9 = .ok (.getfield 26, 3) := by decide +kernel
theorem dX7_digest_12 : decode cX7_digest 12 = .ok (.i2l, 1) := by decide +kernel
theorem dX7_digest_13 : decode cX7_digest 13 = .ok (.ladd, 1) := by decide +kernel
theorem dX7_digest_14 : decode cX7_digest 14 = .ok (.lstore_n 1, 1) := by decide +kernel
theorem dX7_digest_15 : decode cX7_digest 15 = .ok (.iconst 0, 1) := by decide +kernel
theorem dX7_digest_16 : decode cX7_digest 16 = .ok (.istore_n 3, 1) := by decide +kernel
theorem dX7_digest_17 : decode cX7_digest 17 = .ok (.iload_n 3, 1) := by decide +kernel
theorem dX7_digest_18 : decode cX7_digest 18 = .ok (.bipush 14, 2) := by decide +kernel
theorem dX7_digest_20 : decode cX7_digest 20 = .ok (.if_icmp .ge 22, 3) := by decide +kernel
theorem dX7_digest_23 : decode cX7_digest 23 = .ok (.ldc2_w 236, 3) := by decide +kernel
theorem dX7_digest_26 : decode cX7_digest 26 = .ok (.lload_n 1, 1) := by decide +kernel
theorem dX7_digest_27 : decode cX7_digest 27 = .ok (.lmul, 1) := by decide +kernel
theorem dX7_digest_28 : decode cX7_digest 28 = .ok (.aload_n 0, 1) := by decide +kernel
theorem dX7_digest_29 : decode cX7_digest 29 = .ok (.iload_n 3, 1) := by decide +kernel
theorem dX7_digest_30 : decode cX7_digest 30 = .ok (.invokevirtual 155, 3) := by decide +kernel
theorem dX7_digest_33 : decode cX7_digest 33 = .ok (.i2l, 1) := by decide +kernel
theorem dX7_digest_34 : decode cX7_digest 34 = .ok (.ladd, 1) := by decide +kernel
theorem dX7_digest_35 : decode cX7_digest 35 = .ok (.lstore_n 1, 1) := by decide +kernel
theorem dX7_digest_36 : decode cX7_digest 36 = .ok (.iinc 3 1, 3) := by decide +kernel
theorem dX7_digest_39 : decode cX7_digest 39 = .ok (.goto (-22), 3) := by decide +kernel
theorem dX7_digest_42 : decode cX7_digest 42 = .ok (.iconst 0, 1) := by decide +kernel
theorem dX7_digest_43 : decode cX7_digest 43 = .ok (.istore_n 3, 1) := by decide +kernel
theorem dX7_digest_44 : decode cX7_digest 44 = .ok (.iload_n 3, 1) := by decide +kernel
theorem dX7_digest_45 : decode cX7_digest 45 = .ok (.aload_n 0, 1) := by decide +kernel
theorem dX7_digest_46 : decode cX7_digest 46 = .ok (.getfield 7, 3) := by decide +kernel
theorem dX7_digest_49 : decode cX7_digest 49 = .ok (.iconst 0, 1) := by decide +kernel
theorem dX7_digest_50 : decode cX7_digest 50 = .ok (.iaload, 1) := by decide +kernel
theorem dX7_digest_51 : decode cX7_digest 51 = .ok (.if_icmp .ge 54, 3) := by decide +kernel
theorem dX7_digest_54 : decode cX7_digest 54 = .ok (.ldc2_w 236, 3) := by decide +kernel
theorem dX7_digest_57 : decode cX7_digest 57 = .ok (.lload_n 1, 1) := by decide +kernel
theorem dX7_digest_58 : decode cX7_digest 58 = .ok (.lmul, 1) := by decide +kernel
theorem dX7_digest_59 : decode cX7_digest 59 = .ok (.aload_n 0, 1) := by decide +kernel
theorem dX7_digest_60 : decode cX7_digest 60 = .ok (.iload_n 3, 1) := by decide +kernel
theorem dX7_digest_61 : decode cX7_digest 61 = .ok (.iconst 0, 1) := by decide +kernel
theorem dX7_digest_62 : decode cX7_digest 62 = .ok (.invokevirtual 33, 3) := by decide +kernel
theorem dX7_digest_65 : decode cX7_digest 65 = .ok (.i2l, 1) := by decide +kernel
theorem dX7_digest_66 : decode cX7_digest 66 = .ok (.ladd, 1) := by decide +kernel
theorem dX7_digest_67 : decode cX7_digest 67 = .ok (.lstore_n 1, 1) := by decide +kernel
theorem dX7_digest_68 : decode cX7_digest 68 = .ok (.iconst 0, 1) := by decide +kernel
theorem dX7_digest_69 : decode cX7_digest 69 = .ok (.istore 4, 2) := by decide +kernel
theorem dX7_digest_71 : decode cX7_digest 71 = .ok (.iload 4, 2) := by decide +kernel
theorem dX7_digest_73 : decode cX7_digest 73 = .ok (.bipush 10, 2) := by decide +kernel
theorem dX7_digest_75 : decode cX7_digest 75 = .ok (.if_icmp .ge 24, 3) := by decide +kernel
theorem dX7_digest_78 : decode cX7_digest 78 = .ok (.ldc2_w 236, 3) := by decide +kernel
theorem dX7_digest_81 : decode cX7_digest 81 = .ok (.lload_n 1, 1) := by decide +kernel
theorem dX7_digest_82 : decode cX7_digest 82 = .ok (.lmul, 1) := by decide +kernel
theorem dX7_digest_83 : decode cX7_digest 83 = .ok (.aload_n 0, 1) := by decide +kernel
theorem dX7_digest_84 : decode cX7_digest 84 = .ok (.iload_n 3, 1) := by decide +kernel
theorem dX7_digest_85 : decode cX7_digest 85 = .ok (.iload 4, 2) := by decide +kernel
theorem dX7_digest_87 : decode cX7_digest 87 = .ok (.invokevirtual 140, 3) := by decide +kernel
theorem dX7_digest_90 : decode cX7_digest 90 = .ok (.i2l, 1) := by decide +kernel
theorem dX7_digest_91 : decode cX7_digest 91 = .ok (.ladd, 1) := by decide +kernel
theorem dX7_digest_92 : decode cX7_digest 92 = .ok (.lstore_n 1, 1) := by decide +kernel
theorem dX7_digest_93 : decode cX7_digest 93 = .ok (.iinc 4 1, 3) := by decide +kernel
theorem dX7_digest_96 : decode cX7_digest 96 = .ok (.goto (-25), 3) := by decide +kernel
theorem dX7_digest_99 : decode cX7_digest 99 = .ok (.iinc 3 1, 3) := by decide +kernel
theorem dX7_digest_102 : decode cX7_digest 102 = .ok (.goto (-58), 3) := by decide +kernel
theorem dX7_digest_105 : decode cX7_digest 105 = .ok (.iconst 0, 1) := by decide +kernel
theorem dX7_digest_106 : decode cX7_digest 106 = .ok (.istore_n 3, 1) := by decide +kernel
theorem dX7_digest_107 : decode cX7_digest 107 = .ok (.aload_n 0, 1) := by decide +kernel
theorem dX7_digest_108 : decode cX7_digest 108 = .ok (.iload_n 3, 1) := by decide +kernel
theorem dX7_digest_109 : decode cX7_digest 109 = .ok (.invokevirtual 101, 3) := by decide +kernel
theorem dX7_digest_112 : decode cX7_digest 112 = .ok (.ifCond .eq 52, 3) := by decide +kernel
theorem dX7_digest_115 : decode cX7_digest 115 = .ok (.iconst 0, 1) := by decide +kernel
theorem dX7_digest_116 : decode cX7_digest 116 = .ok (.istore 4, 2) := by decide +kernel
theorem dX7_digest_118 : decode cX7_digest 118 = .ok (.iload 4, 2) := by decide +kernel
theorem dX7_digest_120 : decode cX7_digest 120 = .ok (.iconst 5, 1) := by decide +kernel
theorem dX7_digest_121 : decode cX7_digest 121 = .ok (.if_icmp .ge 24, 3) := by decide +kernel
theorem dX7_digest_124 : decode cX7_digest 124 = .ok (.ldc2_w 236, 3) := by decide +kernel
theorem dX7_digest_127 : decode cX7_digest 127 = .ok (.lload_n 1, 1) := by decide +kernel
theorem dX7_digest_128 : decode cX7_digest 128 = .ok (.lmul, 1) := by decide +kernel
theorem dX7_digest_129 : decode cX7_digest 129 = .ok (.aload_n 0, 1) := by decide +kernel
theorem dX7_digest_130 : decode cX7_digest 130 = .ok (.iload_n 3, 1) := by decide +kernel
theorem dX7_digest_131 : decode cX7_digest 131 = .ok (.iload 4, 2) := by decide +kernel
theorem dX7_digest_133 : decode cX7_digest 133 = .ok (.invokevirtual 143, 3) := by decide +kernel
theorem dX7_digest_136 : decode cX7_digest 136 = .ok (.i2l, 1) := by decide +kernel
theorem dX7_digest_137 : decode cX7_digest 137 = .ok (.ladd, 1) := by decide +kernel
theorem dX7_digest_138 : decode cX7_digest 138 = .ok (.lstore_n 1, 1) := by decide +kernel
theorem dX7_digest_139 : decode cX7_digest 139 = .ok (.iinc 4 1, 3) := by decide +kernel
theorem dX7_digest_142 : decode cX7_digest 142 = .ok (.goto (-24), 3) := by decide +kernel
theorem dX7_digest_145 : decode cX7_digest 145 = .ok (.ldc2_w 236, 3) := by decide +kernel
theorem dX7_digest_148 : decode cX7_digest 148 = .ok (.lload_n 1, 1) := by decide +kernel
theorem dX7_digest_149 : decode cX7_digest 149 = .ok (.lmul, 1) := by decide +kernel
theorem dX7_digest_150 : decode cX7_digest 150 = .ok (.aload_n 0, 1) := by decide +kernel
theorem dX7_digest_151 : decode cX7_digest 151 = .ok (.iload_n 3, 1) := by decide +kernel
theorem dX7_digest_152 : decode cX7_digest 152 = .ok (.invokevirtual 116, 3) := by decide +kernel
theorem dX7_digest_155 : decode cX7_digest 155 = .ok (.i2l, 1) := by decide +kernel
theorem dX7_digest_156 : decode cX7_digest 156 = .ok (.ladd, 1) := by decide +kernel
theorem dX7_digest_157 : decode cX7_digest 157 = .ok (.lstore_n 1, 1) := by decide +kernel
theorem dX7_digest_158 : decode cX7_digest 158 = .ok (.iinc 3 1, 3) := by decide +kernel
theorem dX7_digest_161 : decode cX7_digest 161 = .ok (.goto (-54), 3) := by decide +kernel
theorem dX7_digest_164 : decode cX7_digest 164 = .ok (.ldc2_w 236, 3) := by decide +kernel
theorem dX7_digest_167 : decode cX7_digest 167 = .ok (.lload_n 1, 1) := by decide +kernel
theorem dX7_digest_168 : decode cX7_digest 168 = .ok (.lmul, 1) := by decide +kernel
theorem dX7_digest_169 : decode cX7_digest 169 = .ok (.aload_n 0, 1) := by decide +kernel
theorem dX7_digest_170 : decode cX7_digest 170 = .ok (.invokevirtual 238, 3) := by decide +kernel
theorem dX7_digest_173 : decode cX7_digest 173 = .ok (.i2l, 1) := by decide +kernel
theorem dX7_digest_174 : decode cX7_digest 174 = .ok (.ladd, 1) := by decide +kernel
theorem dX7_digest_175 : decode cX7_digest 175 = .ok (.lreturn, 1) := by decide +kernel
theorem dJx29ce0_ordinal_8abf5_0 : decode cJx29ce0_ordinal_8abf5 0 = .ok (.aload_n 0, 1) := by decide +kernel
theorem dJx29ce0_ordinal_8abf5_1 : decode cJx29ce0_ordinal_8abf5 1 = .ok (.getfield 7, 3) := by decide +kernel
theorem dJx29ce0_ordinal_8abf5_4 : decode cJx29ce0_ordinal_8abf5 4 = .ok (.ireturn, 1) := by decide +kernel
theorem dJ9_min_7cf53_0 : decode cJ9_min_7cf53 0 = .ok (.iload_n 0, 1) := by decide +kernel
theorem dJ9_min_7cf53_1 : decode cJ9_min_7cf53 1 = .ok (.iload_n 1, 1) := by decide +kernel
theorem dJ9_min_7cf53_2 : decode cJ9_min_7cf53 2 = .ok (.if_icmp .gt 7, 3) := by decide +kernel
theorem dJ9_min_7cf53_5 : decode cJ9_min_7cf53 5 = .ok (.iload_n 0, 1) := by decide +kernel
theorem dJ9_min_7cf53_6 : decode cJ9_min_7cf53 6 = .ok (.goto 4, 3) := by decide +kernel
theorem dJ9_min_7cf53_9 : decode cJ9_min_7cf53 9 = .ok (.iload_n 1, 1) := by decide +kernel
theorem dJ9_min_7cf53_10 : decode cJ9_min_7cf53 10 = .ok (.ireturn, 1) := by decide +kernel
theorem dJ0_length_8abf5_0 : decode cJ0_length_8abf5 0 = .ok (.aload_n 0, 1) := by decide +kernel
theorem dJ0_length_8abf5_1 : decode cJ0_length_8abf5 1 = .ok (.getfield 9, 3) := by decide +kernel
theorem dJ0_length_8abf5_4 : decode cJ0_length_8abf5 4 = .ok (.arraylength, 1) := by decide +kernel
theorem dJ0_length_8abf5_5 : decode cJ0_length_8abf5 5 = .ok (.aload_n 0, 1) := by decide +kernel
theorem dJ0_length_8abf5_6 : decode cJ0_length_8abf5 6 = .ok (.invokevirtual 335, 3) := by decide +kernel
theorem dJ0_length_8abf5_9 : decode cJ0_length_8abf5 9 = .ok (.ishr, 1) := by decide +kernel
theorem dJ0_length_8abf5_10 : decode cJ0_length_8abf5 10 = .ok (.ireturn, 1) := by decide +kernel
theorem dJ0_charAt_5068e_0 : decode cJ0_charAt_5068e 0 = .ok (.aload_n 0, 1) := by decide +kernel
theorem dJ0_charAt_5068e_1 : decode cJ0_charAt_5068e 1 = .ok (.invokevirtual 492, 3) := by decide +kernel
theorem dJ0_charAt_5068e_4 : decode cJ0_charAt_5068e 4 = .ok (.ifCond .eq 12, 3) := by decide +kernel
theorem dJ0_charAt_5068e_7 : decode cJ0_charAt_5068e 7 = .ok (.aload_n 0, 1) := by decide +kernel
theorem dJ0_charAt_5068e_8 : decode cJ0_charAt_5068e 8 = .ok (.getfield 9, 3) := by decide +kernel
theorem dJ0_charAt_5068e_11 : decode cJ0_charAt_5068e 11 = .ok (.iload_n 1, 1) := by decide +kernel
theorem dJ0_charAt_5068e_12 : decode cJ0_charAt_5068e 12 = .ok (.invokestatic 495, 3) := by decide +kernel
theorem dJ0_charAt_5068e_15 : decode cJ0_charAt_5068e 15 = .ok (.ireturn, 1) := by decide +kernel
theorem dJ0_charAt_5068e_16 : decode cJ0_charAt_5068e 16 = .ok (.aload_n 0, 1) := by decide +kernel
theorem dJ0_charAt_5068e_17 : decode cJ0_charAt_5068e 17 = .ok (.getfield 9, 3) := by decide +kernel
theorem dJ0_charAt_5068e_20 : decode cJ0_charAt_5068e 20 = .ok (.iload_n 1, 1) := by decide +kernel
theorem dJ0_charAt_5068e_21 : decode cJ0_charAt_5068e 21 = .ok (.invokestatic 498, 3) := by decide +kernel
theorem dJ0_charAt_5068e_24 : decode cJ0_charAt_5068e 24 = .ok (.ireturn, 1) := by decide +kernel
theorem dJ0_coder_7d493_0 : decode cJ0_coder_7d493 0 = .ok (.getstatic 38, 3) := by decide +kernel
theorem dJ0_coder_7d493_3 : decode cJ0_coder_7d493 3 = .ok (.ifCond .eq 10, 3) := by decide +kernel
theorem dJ0_coder_7d493_6 : decode cJ0_coder_7d493 6 = .ok (.aload_n 0, 1) := by decide +kernel
theorem dJ0_coder_7d493_7 : decode cJ0_coder_7d493 7 = .ok (.getfield 15, 3) := by decide +kernel
theorem dJ0_coder_7d493_10 : decode cJ0_coder_7d493 10 = .ok (.goto 4, 3) := by decide +kernel
theorem dJ0_coder_7d493_13 : decode cJ0_coder_7d493 13 = .ok (.iconst 1, 1) := by decide +kernel
theorem dJ0_coder_7d493_14 : decode cJ0_coder_7d493 14 = .ok (.ireturn, 1) := by decide +kernel
theorem dJ0_isLatin1_aae02_0 : decode cJ0_isLatin1_aae02 0 = .ok (.getstatic 38, 3) := by decide +kernel
theorem dJ0_isLatin1_aae02_3 : decode cJ0_isLatin1_aae02 3 = .ok (.ifCond .eq 14, 3) := by decide +kernel
theorem dJ0_isLatin1_aae02_6 : decode cJ0_isLatin1_aae02 6 = .ok (.aload_n 0, 1) := by decide +kernel
theorem dJ0_isLatin1_aae02_7 : decode cJ0_isLatin1_aae02 7 = .ok (.getfield 15, 3) := by decide +kernel
theorem dJ0_isLatin1_aae02_10 : decode cJ0_isLatin1_aae02 10 = .ok (.ifCond .ne 7, 3) := by decide +kernel
theorem dJ0_isLatin1_aae02_13 : decode cJ0_isLatin1_aae02 13 = .ok (.iconst 1, 1) := by decide +kernel
theorem dJ0_isLatin1_aae02_14 : decode cJ0_isLatin1_aae02 14 = .ok (.goto 4, 3) := by decide +kernel
theorem dJ0_isLatin1_aae02_17 : decode cJ0_isLatin1_aae02 17 = .ok (.iconst 0, 1) := by decide +kernel
theorem dJ0_isLatin1_aae02_18 : decode cJ0_isLatin1_aae02 18 = .ok (.ireturn, 1) := by decide +kernel
theorem dJ0_checkIndex_df160_0 : decode cJ0_checkIndex_df160 0 = .ok (.iload_n 0, 1) := by decide +kernel
theorem dJ0_checkIndex_df160_1 : decode cJ0_checkIndex_df160 1 = .ok (.iload_n 1, 1) := by decide +kernel
theorem dJ0_checkIndex_df160_2 : decode cJ0_checkIndex_df160 2 = .ok (.getstatic 1053, 3) := by decide +kernel
theorem dJ0_checkIndex_df160_5 : decode cJ0_checkIndex_df160 5 = .ok (.invokestatic 1059, 3) := by decide +kernel
theorem dJ0_checkIndex_df160_8 : decode cJ0_checkIndex_df160 8 = .ok (.pop, 1) := by decide +kernel
theorem dJ0_checkIndex_df160_9 : decode cJ0_checkIndex_df160 9 = .ok (.return_, 1) := by decide +kernel
theorem dJ1_charAt_3b067_0 : decode cJ1_charAt_3b067 0 = .ok (.iload_n 1, 1) := by decide +kernel
theorem dJ1_charAt_3b067_1 : decode cJ1_charAt_3b067 1 = .ok (.aload_n 0, 1) := by decide +kernel
theorem dJ1_charAt_3b067_2 : decode cJ1_charAt_3b067 2 = .ok (.arraylength, 1) := by decide +kernel
theorem dJ1_charAt_3b067_3 : decode cJ1_charAt_3b067 3 = .ok (.invokestatic 9, 3) := by decide +kernel
theorem dJ1_charAt_3b067_6 : decode cJ1_charAt_3b067 6 = .ok (.aload_n 0, 1) := by decide +kernel
theorem dJ1_charAt_3b067_7 : decode cJ1_charAt_3b067 7 = .ok (.iload_n 1, 1) := by decide +kernel
theorem dJ1_charAt_3b067_8 : decode cJ1_charAt_3b067 8 = .ok (.baload, 1) := by decide +kernel
theorem dJ1_charAt_3b067_9 : decode cJ1_charAt_3b067 9 = .ok (.sipush 255, 3) := by decide +kernel
theorem dJ1_charAt_3b067_12 : decode cJ1_charAt_3b067 12 = .ok (.iand, 1) := by decide +kernel
theorem dJ1_charAt_3b067_13 : decode cJ1_charAt_3b067 13 = .ok (.i2c, 1) := by decide +kernel
theorem dJ1_charAt_3b067_14 : decode cJ1_charAt_3b067 14 = .ok (.ireturn, 1) := by decide +kernel
theorem dJ2_getChar_3b067_0 : decode cJ2_getChar_3b067 0 = .ok (.getstatic 44, 3) := by decide +kernel
theorem dJ2_getChar_3b067_3 : decode cJ2_getChar_3b067 3 = .ok (.ifCond .ne 25, 3) := by decide +kernel
theorem dJ2_getChar_3b067_6 : decode cJ2_getChar_3b067 6 = .ok (.iload_n 1, 1) := by decide +kernel
theorem dJ2_getChar_3b067_7 : decode cJ2_getChar_3b067 7 = .ok (.ifCond .lt 11, 3) := by decide +kernel
theorem dJ2_getChar_3b067_10 : decode cJ2_getChar_3b067 10 = .ok (.iload_n 1, 1) := by decide +kernel
theorem dJ2_getChar_3b067_11 : decode cJ2_getChar_3b067 11 = .ok (.aload_n 0, 1) := by decide +kernel
theorem dJ2_getChar_3b067_12 : decode cJ2_getChar_3b067 12 = .ok (.invokestatic 48, 3) := by decide +kernel
theorem dJ2_getChar_3b067_15 : decode cJ2_getChar_3b067 15 = .ok (.if_icmp .lt 13, 3) := by decide +kernel
theorem dJ2_getChar_3b067_18 : decode cJ2_getChar_3b067 18 = .ok (.new 52, 3) := by decide +kernel
theorem dJ2_getChar_3b067_21 : decode cJ2_getChar_3b067 21 = .ok (.dup, 1) := by decide +kernel
theorem dJ2_getChar_3b067_22 : decode cJ2_getChar_3b067 22 = .ok (.ldc 54, 2) := by decide +kernel
theorem dJ2_getChar_3b067_24 : decode cJ2_getChar_3b067 24 = .ok (.invokespecial 56, 3) := by decide +kernel
theorem dJ2_getChar_3b067_27 : decode cJ2_getChar_3b067 27 = .ok (.athrow, 1) := by decide +kernel
theorem dJ2_getChar_3b067_28 : decode cJ2_getChar_3b067 28 = .ok (.iload_n 1, 1) := by decide +kernel
theorem dJ2_getChar_3b067_29 : decode cJ2_getChar_3b067 29 = .ok (.iconst 1, 1) := by decide +kernel
theorem dJ2_getChar_3b067_30 : decode cJ2_getChar_3b067 30 = .ok (.ishl, 1) := by decide +kernel
theorem dJ2_getChar_3b067_31 : decode cJ2_getChar_3b067 31 = .ok (.istore_n 1, 1) := by decide +kernel
theorem dJ2_getChar_3b067_32 : decode cJ2_getChar_3b067 32 = .ok (.aload_n 0, 1) := by decide +kernel
theorem dJ2_getChar_3b067_33 : decode cJ2_getChar_3b067 33 = .ok (.iload_n 1, 1) := by decide +kernel
theorem dJ2_getChar_3b067_34 : decode cJ2_getChar_3b067 34 = .ok (.iinc 1 1, 3) := by decide +kernel
theorem dJ2_getChar_3b067_37 : decode cJ2_getChar_3b067 37 = .ok (.baload, 1) := by decide +kernel
theorem dJ2_getChar_3b067_38 : decode cJ2_getChar_3b067 38 = .ok (.sipush 255, 3) := by decide +kernel
theorem dJ2_getChar_3b067_41 : decode cJ2_getChar_3b067 41 = .ok (.iand, 1) := by decide +kernel
theorem dJ2_getChar_3b067_42 : decode cJ2_getChar_3b067 42 = .ok (.getstatic 59, 3) := by decide +kernel
theorem dJ2_getChar_3b067_45 : decode cJ2_getChar_3b067 45 = .ok (.ishl, 1) := by decide +kernel
theorem dJ2_getChar_3b067_46 : decode cJ2_getChar_3b067 46 = .ok (.aload_n 0, 1) := by decide +kernel
theorem dJ2_getChar_3b067_47 : decode cJ2_getChar_3b067 47 = .ok (.iload_n 1, 1) := by decide +kernel
theorem dJ2_getChar_3b067_48 : decode cJ2_getChar_3b067 48 = .ok (.baload, 1) := by decide +kernel
theorem dJ2_getChar_3b067_49 : decode cJ2_getChar_3b067 49 = .ok (.sipush 255, 3) := by decide +kernel
theorem dJ2_getChar_3b067_52 : decode cJ2_getChar_3b067 52 = .ok (.iand, 1) := by decide +kernel
theorem dJ2_getChar_3b067_53 : decode cJ2_getChar_3b067 53 = .ok (.getstatic 63, 3) := by decide +kernel
theorem dJ2_getChar_3b067_56 : decode cJ2_getChar_3b067 56 = .ok (.ishl, 1) := by decide +kernel
theorem dJ2_getChar_3b067_57 : decode cJ2_getChar_3b067 57 = .ok (.ior, 1) := by decide +kernel
theorem dJ2_getChar_3b067_58 : decode cJ2_getChar_3b067 58 = .ok (.i2c, 1) := by decide +kernel
theorem dJ2_getChar_3b067_59 : decode cJ2_getChar_3b067 59 = .ok (.ireturn, 1) := by decide +kernel
theorem dJ2_length_9d52b_0 : decode cJ2_length_9d52b 0 = .ok (.aload_n 0, 1) := by decide +kernel
theorem dJ2_length_9d52b_1 : decode cJ2_length_9d52b 1 = .ok (.arraylength, 1) := by decide +kernel
theorem dJ2_length_9d52b_2 : decode cJ2_length_9d52b 2 = .ok (.iconst 1, 1) := by decide +kernel
theorem dJ2_length_9d52b_3 : decode cJ2_length_9d52b 3 = .ok (.ishr, 1) := by decide +kernel
theorem dJ2_length_9d52b_4 : decode cJ2_length_9d52b 4 = .ok (.ireturn, 1) := by decide +kernel
theorem dJ2_charAt_3b067_0 : decode cJ2_charAt_3b067 0 = .ok (.iload_n 1, 1) := by decide +kernel
theorem dJ2_charAt_3b067_1 : decode cJ2_charAt_3b067 1 = .ok (.aload_n 0, 1) := by decide +kernel
theorem dJ2_charAt_3b067_2 : decode cJ2_charAt_3b067 2 = .ok (.invokestatic 67, 3) := by decide +kernel
theorem dJ2_charAt_3b067_5 : decode cJ2_charAt_3b067 5 = .ok (.aload_n 0, 1) := by decide +kernel
theorem dJ2_charAt_3b067_6 : decode cJ2_charAt_3b067 6 = .ok (.iload_n 1, 1) := by decide +kernel
theorem dJ2_charAt_3b067_7 : decode cJ2_charAt_3b067 7 = .ok (.invokestatic 71, 3) := by decide +kernel
theorem dJ2_charAt_3b067_10 : decode cJ2_charAt_3b067 10 = .ok (.ireturn, 1) := by decide +kernel
theorem dJ2_checkIndex_2214a_0 : decode cJ2_checkIndex_2214a 0 = .ok (.iload_n 0, 1) := by decide +kernel
theorem dJ2_checkIndex_2214a_1 : decode cJ2_checkIndex_2214a 1 = .ok (.aload_n 1, 1) := by decide +kernel
theorem dJ2_checkIndex_2214a_2 : decode cJ2_checkIndex_2214a 2 = .ok (.invokestatic 48, 3) := by decide +kernel
theorem dJ2_checkIndex_2214a_5 : decode cJ2_checkIndex_2214a 5 = .ok (.invokestatic 414, 3) := by decide +kernel
theorem dJ2_checkIndex_2214a_8 : decode cJ2_checkIndex_2214a 8 = .ok (.return_, 1) := by decide +kernel
theorem dJ3_checkIndex_8e157_0 : decode cJ3_checkIndex_8e157 0 = .ok (.iload_n 0, 1) := by decide +kernel
theorem dJ3_checkIndex_8e157_1 : decode cJ3_checkIndex_8e157 1 = .ok (.ifCond .lt 8, 3) := by decide +kernel
theorem dJ3_checkIndex_8e157_4 : decode cJ3_checkIndex_8e157 4 = .ok (.iload_n 0, 1) := by decide +kernel
theorem dJ3_checkIndex_8e157_5 : decode cJ3_checkIndex_8e157 5 = .ok (.iload_n 1, 1) := by decide +kernel
theorem dJ3_checkIndex_8e157_6 : decode cJ3_checkIndex_8e157 6 = .ok (.if_icmp .lt 10, 3) := by decide +kernel
theorem dJ3_checkIndex_8e157_9 : decode cJ3_checkIndex_8e157 9 = .ok (.aload_n 2, 1) := by decide +kernel
theorem dJ3_checkIndex_8e157_10 : decode cJ3_checkIndex_8e157 10 = .ok (.iload_n 0, 1) := by decide +kernel
theorem dJ3_checkIndex_8e157_11 : decode cJ3_checkIndex_8e157 11 = .ok (.iload_n 1, 1) := by decide +kernel
theorem dJ3_checkIndex_8e157_12 : decode cJ3_checkIndex_8e157 12 = .ok (.invokestatic 95, 3) := by decide +kernel
theorem dJ3_checkIndex_8e157_15 : decode cJ3_checkIndex_8e157 15 = .ok (.athrow, 1) := by decide +kernel
theorem dJ3_checkIndex_8e157_16 : decode cJ3_checkIndex_8e157 16 = .ok (.iload_n 0, 1) := by decide +kernel
theorem dJ3_checkIndex_8e157_17 : decode cJ3_checkIndex_8e157 17 = .ok (.ireturn, 1) := by decide +kernel
theorem dL_join_0 : decode cL_join 0 = .ok (.aload_n 3, 1) := by decide +kernel
theorem dL_join_1 : decode cL_join 1 = .ok (.iconst 0, 1) := by decide +kernel
theorem dL_join_2 : decode cL_join 2 = .ok (.aload_n 0, 1) := by decide +kernel
theorem dL_join_3 : decode cL_join 3 = .ok (.iload_n 1, 1) := by decide +kernel
theorem dL_join_4 : decode cL_join 4 = .ok (.iload_n 2, 1) := by decide +kernel
theorem dL_join_5 : decode cL_join 5 = .ok (.invokevirtual 7, 3) := by decide +kernel
theorem dL_join_8 : decode cL_join 8 = .ok (.i2l, 1) := by decide +kernel
theorem dL_join_9 : decode cL_join 9 = .ok (.lastore, 1) := by decide +kernel
theorem dL_join_10 : decode cL_join 10 = .ok (.goto 11, 3) := by decide +kernel
theorem dL_join_13 : decode cL_join 13 = .ok (.astore 4, 2) := by decide +kernel
theorem dL_join_15 : decode cL_join 15 = .ok (.iconst 1, 1) := by decide +kernel
theorem dL_join_16 : decode cL_join 16 = .ok (.ireturn, 1) := by decide +kernel
theorem dL_join_17 : decode cL_join 17 = .ok (.astore 4, 2) := by decide +kernel
theorem dL_join_19 : decode cL_join 19 = .ok (.iconst 2, 1) := by decide +kernel
theorem dL_join_20 : decode cL_join 20 = .ok (.ireturn, 1) := by decide +kernel
theorem dL_join_21 : decode cL_join 21 = .ok (.iconst 0, 1) := by decide +kernel
theorem dL_join_22 : decode cL_join 22 = .ok (.ireturn, 1) := by decide +kernel
theorem dL_joinAt_0 : decode cL_joinAt 0 = .ok (.aload 4, 2) := by decide +kernel
theorem dL_joinAt_2 : decode cL_joinAt 2 = .ok (.iconst 0, 1) := by decide +kernel
theorem dL_joinAt_3 : decode cL_joinAt 3 = .ok (.aload_n 0, 1) := by decide +kernel
theorem dL_joinAt_4 : decode cL_joinAt 4 = .ok (.iload_n 1, 1) := by decide +kernel
theorem dL_joinAt_5 : decode cL_joinAt 5 = .ok (.iload_n 2, 1) := by decide +kernel
theorem dL_joinAt_6 : decode cL_joinAt 6 = .ok (.iload_n 3, 1) := by decide +kernel
theorem dL_joinAt_7 : decode cL_joinAt 7 = .ok (.invokevirtual 17, 3) := by decide +kernel
theorem dL_joinAt_10 : decode cL_joinAt 10 = .ok (.i2l, 1) := by decide +kernel
theorem dL_joinAt_11 : decode cL_joinAt 11 = .ok (.lastore, 1) := by decide +kernel
theorem dL_joinAt_12 : decode cL_joinAt 12 = .ok (.goto 11, 3) := by decide +kernel
theorem dL_joinAt_15 : decode cL_joinAt 15 = .ok (.astore 5, 2) := by decide +kernel
theorem dL_joinAt_17 : decode cL_joinAt 17 = .ok (.iconst 1, 1) := by decide +kernel
theorem dL_joinAt_18 : decode cL_joinAt 18 = .ok (.ireturn, 1) := by decide +kernel
theorem dL_joinAt_19 : decode cL_joinAt 19 = .ok (.astore 5, 2) := by decide +kernel
theorem dL_joinAt_21 : decode cL_joinAt 21 = .ok (.iconst 2, 1) := by decide +kernel
theorem dL_joinAt_22 : decode cL_joinAt 22 = .ok (.ireturn, 1) := by decide +kernel
theorem dL_joinAt_23 : decode cL_joinAt 23 = .ok (.iconst 0, 1) := by decide +kernel
theorem dL_joinAt_24 : decode cL_joinAt 24 = .ok (.ireturn, 1) := by decide +kernel
theorem dL_leave_0 : decode cL_leave 0 = .ok (.aload_n 2, 1) := by decide +kernel
theorem dL_leave_1 : decode cL_leave 1 = .ok (.iconst 0, 1) := by decide +kernel
theorem dL_leave_2 : decode cL_leave 2 = .ok (.aload_n 0, 1) := by decide +kernel
theorem dL_leave_3 : decode cL_leave 3 = .ok (.iload_n 1, 1) := by decide +kernel
theorem dL_leave_4 : decode cL_leave 4 = .ok (.invokevirtual 21, 3) := by decide +kernel
theorem dL_leave_7 : decode cL_leave 7 = .ok (.i2l, 1) := by decide +kernel
theorem dL_leave_8 : decode cL_leave 8 = .ok (.lastore, 1) := by decide +kernel
theorem dL_leave_9 : decode cL_leave 9 = .ok (.goto 6, 3) := by decide +kernel
theorem dL_leave_12 : decode cL_leave 12 = .ok (.astore_n 3, 1) := by decide +kernel
theorem dL_leave_13 : decode cL_leave 13 = .ok (.iconst 1, 1) := by decide +kernel
theorem dL_leave_14 : decode cL_leave 14 = .ok (.ireturn, 1) := by decide +kernel
theorem dL_leave_15 : decode cL_leave 15 = .ok (.iconst 0, 1) := by decide +kernel
theorem dL_leave_16 : decode cL_leave 16 = .ok (.ireturn, 1) := by decide +kernel
theorem dL_serve_0 : decode cL_serve 0 = .ok (.aload_n 1, 1) := by decide +kernel
theorem dL_serve_1 : decode cL_serve 1 = .ok (.iconst 0, 1) := by decide +kernel
theorem dL_serve_2 : decode cL_serve 2 = .ok (.aload_n 0, 1) := by decide +kernel
theorem dL_serve_3 : decode cL_serve 3 = .ok (.invokevirtual 27, 3) := by decide +kernel
theorem dL_serve_6 : decode cL_serve 6 = .ok (.i2l, 1) := by decide +kernel
theorem dL_serve_7 : decode cL_serve 7 = .ok (.lastore, 1) := by decide +kernel
theorem dL_serve_8 : decode cL_serve 8 = .ok (.goto 6, 3) := by decide +kernel
theorem dL_serve_11 : decode cL_serve 11 = .ok (.astore_n 2, 1) := by decide +kernel
theorem dL_serve_12 : decode cL_serve 12 = .ok (.iconst 1, 1) := by decide +kernel
theorem dL_serve_13 : decode cL_serve 13 = .ok (.ireturn, 1) := by decide +kernel
theorem dL_serve_14 : decode cL_serve 14 = .ok (.iconst 0, 1) := by decide +kernel
theorem dL_serve_15 : decode cL_serve 15 = .ok (.ireturn, 1) := by decide +kernel
theorem dL_say_0 : decode cL_say 0 = .ok (.aload_n 3, 1) := by decide +kernel
theorem dL_say_1 : decode cL_say 1 = .ok (.iconst 0, 1) := by decide +kernel
theorem dL_say_2 : decode cL_say 2 = .ok (.aload_n 0, 1) := by decide +kernel
theorem dL_say_3 : decode cL_say 3 = .ok (.iload_n 1, 1) := by decide +kernel
theorem dL_say_4 : decode cL_say 4 = .ok (.iload_n 2, 1) := by decide +kernel
theorem dL_say_5 : decode cL_say 5 = .ok (.invokevirtual 31, 3) := by decide +kernel
theorem dL_say_8 : decode cL_say 8 = .ok (.i2l, 1) := by decide +kernel
theorem dL_say_9 : decode cL_say 9 = .ok (.lastore, 1) := by decide +kernel
theorem dL_say_10 : decode cL_say 10 = .ok (.goto 11, 3) := by decide +kernel
theorem dL_say_13 : decode cL_say 13 = .ok (.astore 4, 2) := by decide +kernel
theorem dL_say_15 : decode cL_say 15 = .ok (.iconst 1, 1) := by decide +kernel
theorem dL_say_16 : decode cL_say 16 = .ok (.ireturn, 1) := by decide +kernel
theorem dL_say_17 : decode cL_say 17 = .ok (.astore 4, 2) := by decide +kernel
theorem dL_say_19 : decode cL_say 19 = .ok (.iconst 2, 1) := by decide +kernel
theorem dL_say_20 : decode cL_say 20 = .ok (.ireturn, 1) := by decide +kernel
theorem dL_say_21 : decode cL_say 21 = .ok (.iconst 0, 1) := by decide +kernel
theorem dL_say_22 : decode cL_say 22 = .ok (.ireturn, 1) := by decide +kernel
theorem dL_setSplit_0 : decode cL_setSplit 0 = .ok (.aload_n 2, 1) := by decide +kernel
theorem dL_setSplit_1 : decode cL_setSplit 1 = .ok (.iconst 0, 1) := by decide +kernel
theorem dL_setSplit_2 : decode cL_setSplit 2 = .ok (.aload_n 0, 1) := by decide +kernel
theorem dL_setSplit_3 : decode cL_setSplit 3 = .ok (.iload_n 1, 1) := by decide +kernel
theorem dL_setSplit_4 : decode cL_setSplit 4 = .ok (.invokevirtual 34, 3) := by decide +kernel
theorem dL_setSplit_7 : decode cL_setSplit 7 = .ok (.i2l, 1) := by decide +kernel
theorem dL_setSplit_8 : decode cL_setSplit 8 = .ok (.lastore, 1) := by decide +kernel
theorem dL_setSplit_9 : decode cL_setSplit 9 = .ok (.goto 6, 3) := by decide +kernel
theorem dL_setSplit_12 : decode cL_setSplit 12 = .ok (.astore_n 3, 1) := by decide +kernel
theorem dL_setSplit_13 : decode cL_setSplit 13 = .ok (.iconst 1, 1) := by decide +kernel
theorem dL_setSplit_14 : decode cL_setSplit 14 = .ok (.ireturn, 1) := by decide +kernel
theorem dL_setSplit_15 : decode cL_setSplit 15 = .ok (.iconst 0, 1) := by decide +kernel
theorem dL_setSplit_16 : decode cL_setSplit 16 = .ok (.ireturn, 1) := by decide +kernel
theorem dL_offer_0 : decode cL_offer 0 = .ok (.aload_n 3, 1) := by decide +kernel
theorem dL_offer_1 : decode cL_offer 1 = .ok (.iconst 0, 1) := by decide +kernel
theorem dL_offer_2 : decode cL_offer 2 = .ok (.aload_n 0, 1) := by decide +kernel
theorem dL_offer_3 : decode cL_offer 3 = .ok (.iload_n 1, 1) := by decide +kernel
theorem dL_offer_4 : decode cL_offer 4 = .ok (.iload_n 2, 1) := by decide +kernel
theorem dL_offer_5 : decode cL_offer 5 = .ok (.invokevirtual 37, 3) := by decide +kernel
theorem dL_offer_8 : decode cL_offer 8 = .ok (.i2l, 1) := by decide +kernel
theorem dL_offer_9 : decode cL_offer 9 = .ok (.lastore, 1) := by decide +kernel
theorem dL_offer_10 : decode cL_offer 10 = .ok (.goto 15, 3) := by decide +kernel
theorem dL_offer_13 : decode cL_offer 13 = .ok (.astore 4, 2) := by decide +kernel
theorem dL_offer_15 : decode cL_offer 15 = .ok (.iconst 1, 1) := by decide +kernel
theorem dL_offer_16 : decode cL_offer 16 = .ok (.ireturn, 1) := by decide +kernel
theorem dL_offer_17 : decode cL_offer 17 = .ok (.astore 4, 2) := by decide +kernel
theorem dL_offer_19 : decode cL_offer 19 = .ok (.iconst 2, 1) := by decide +kernel
theorem dL_offer_20 : decode cL_offer 20 = .ok (.ireturn, 1) := by decide +kernel
theorem dL_offer_21 : decode cL_offer 21 = .ok (.astore 4, 2) := by decide +kernel
theorem dL_offer_23 : decode cL_offer 23 = .ok (.iconst 3, 1) := by decide +kernel
theorem dL_offer_24 : decode cL_offer 24 = .ok (.ireturn, 1) := by decide +kernel
theorem dL_offer_25 : decode cL_offer 25 = .ok (.iconst 0, 1) := by decide +kernel
theorem dL_offer_26 : decode cL_offer 26 = .ok (.ireturn, 1) := by decide +kernel
theorem dL_take_0 : decode cL_take 0 = .ok (.aload_n 2, 1) := by decide +kernel
theorem dL_take_1 : decode cL_take 1 = .ok (.iconst 0, 1) := by decide +kernel
theorem dL_take_2 : decode cL_take 2 = .ok (.aload_n 0, 1) := by decide +kernel
theorem dL_take_3 : decode cL_take 3 = .ok (.iload_n 1, 1) := by decide +kernel
theorem dL_take_4 : decode cL_take 4 = .ok (.invokevirtual 40, 3) := by decide +kernel
theorem dL_take_7 : decode cL_take 7 = .ok (.i2l, 1) := by decide +kernel
theorem dL_take_8 : decode cL_take 8 = .ok (.lastore, 1) := by decide +kernel
theorem dL_take_9 : decode cL_take 9 = .ok (.goto 9, 3) := by decide +kernel
theorem dL_take_12 : decode cL_take 12 = .ok (.astore_n 3, 1) := by decide +kernel
theorem dL_take_13 : decode cL_take 13 = .ok (.iconst 1, 1) := by decide +kernel
theorem dL_take_14 : decode cL_take 14 = .ok (.ireturn, 1) := by decide +kernel
theorem dL_take_15 : decode cL_take 15 = .ok (.astore_n 3, 1) := by decide +kernel
theorem dL_take_16 : decode cL_take 16 = .ok (.iconst 2, 1) := by decide +kernel
theorem dL_take_17 : decode cL_take 17 = .ok (.ireturn, 1) := by decide +kernel
theorem dL_take_18 : decode cL_take 18 = .ok (.iconst 0, 1) := by decide +kernel
theorem dL_take_19 : decode cL_take 19 = .ok (.ireturn, 1) := by decide +kernel
theorem dL_swap_0 : decode cL_swap 0 = .ok (.aload_n 2, 1) := by decide +kernel
theorem dL_swap_1 : decode cL_swap 1 = .ok (.iconst 0, 1) := by decide +kernel
theorem dL_swap_2 : decode cL_swap 2 = .ok (.aload_n 0, 1) := by decide +kernel
theorem dL_swap_3 : decode cL_swap 3 = .ok (.iload_n 1, 1) := by decide +kernel
theorem dL_swap_4 : decode cL_swap 4 = .ok (.invokevirtual 43, 3) := by decide +kernel
theorem dL_swap_7 : decode cL_swap 7 = .ok (.i2l, 1) := by decide +kernel
theorem dL_swap_8 : decode cL_swap 8 = .ok (.lastore, 1) := by decide +kernel
theorem dL_swap_9 : decode cL_swap 9 = .ok (.goto 9, 3) := by decide +kernel
theorem dL_swap_12 : decode cL_swap 12 = .ok (.astore_n 3, 1) := by decide +kernel
theorem dL_swap_13 : decode cL_swap 13 = .ok (.iconst 1, 1) := by decide +kernel
theorem dL_swap_14 : decode cL_swap 14 = .ok (.ireturn, 1) := by decide +kernel
theorem dL_swap_15 : decode cL_swap 15 = .ok (.astore_n 3, 1) := by decide +kernel
theorem dL_swap_16 : decode cL_swap 16 = .ok (.iconst 2, 1) := by decide +kernel
theorem dL_swap_17 : decode cL_swap 17 = .ok (.ireturn, 1) := by decide +kernel
theorem dL_swap_18 : decode cL_swap 18 = .ok (.iconst 0, 1) := by decide +kernel
theorem dL_swap_19 : decode cL_swap 19 = .ok (.ireturn, 1) := by decide +kernel
theorem dL_befriend_0 : decode cL_befriend 0 = .ok (.aload_n 2, 1) := by decide +kernel
theorem dL_befriend_1 : decode cL_befriend 1 = .ok (.iconst 0, 1) := by decide +kernel
theorem dL_befriend_2 : decode cL_befriend 2 = .ok (.aload_n 0, 1) := by decide +kernel
theorem dL_befriend_3 : decode cL_befriend 3 = .ok (.iload_n 1, 1) := by decide +kernel
theorem dL_befriend_4 : decode cL_befriend 4 = .ok (.invokevirtual 46, 3) := by decide +kernel
theorem dL_befriend_7 : decode cL_befriend 7 = .ok (.i2l, 1) := by decide +kernel
theorem dL_befriend_8 : decode cL_befriend 8 = .ok (.lastore, 1) := by decide +kernel
theorem dL_befriend_9 : decode cL_befriend 9 = .ok (.goto 9, 3) := by decide +kernel
theorem dL_befriend_12 : decode cL_befriend 12 = .ok (.astore_n 3, 1) := by decide +kernel
theorem dL_befriend_13 : decode cL_befriend 13 = .ok (.iconst 1, 1) := by decide +kernel
theorem dL_befriend_14 : decode cL_befriend 14 = .ok (.ireturn, 1) := by decide +kernel
theorem dL_befriend_15 : decode cL_befriend 15 = .ok (.astore_n 3, 1) := by decide +kernel
theorem dL_befriend_16 : decode cL_befriend 16 = .ok (.iconst 2, 1) := by decide +kernel
theorem dL_befriend_17 : decode cL_befriend 17 = .ok (.ireturn, 1) := by decide +kernel
theorem dL_befriend_18 : decode cL_befriend 18 = .ok (.iconst 0, 1) := by decide +kernel
theorem dL_befriend_19 : decode cL_befriend 19 = .ok (.ireturn, 1) := by decide +kernel
theorem dL_part_0 : decode cL_part 0 = .ok (.aload_n 2, 1) := by decide +kernel
theorem dL_part_1 : decode cL_part 1 = .ok (.iconst 0, 1) := by decide +kernel
theorem dL_part_2 : decode cL_part 2 = .ok (.aload_n 0, 1) := by decide +kernel
theorem dL_part_3 : decode cL_part 3 = .ok (.iload_n 1, 1) := by decide +kernel
theorem dL_part_4 : decode cL_part 4 = .ok (.invokevirtual 49, 3) := by decide +kernel
theorem dL_part_7 : decode cL_part 7 = .ok (.i2l, 1) := by decide +kernel
theorem dL_part_8 : decode cL_part 8 = .ok (.lastore, 1) := by decide +kernel
theorem dL_part_9 : decode cL_part 9 = .ok (.goto 9, 3) := by decide +kernel
theorem dL_part_12 : decode cL_part 12 = .ok (.astore_n 3, 1) := by decide +kernel
theorem dL_part_13 : decode cL_part 13 = .ok (.iconst 1, 1) := by decide +kernel
theorem dL_part_14 : decode cL_part 14 = .ok (.ireturn, 1) := by decide +kernel
theorem dL_part_15 : decode cL_part 15 = .ok (.astore_n 3, 1) := by decide +kernel
theorem dL_part_16 : decode cL_part 16 = .ok (.iconst 2, 1) := by decide +kernel
theorem dL_part_17 : decode cL_part 17 = .ok (.ireturn, 1) := by decide +kernel
theorem dL_part_18 : decode cL_part 18 = .ok (.iconst 0, 1) := by decide +kernel
theorem dL_part_19 : decode cL_part 19 = .ok (.ireturn, 1) := by decide +kernel
theorem dL_member_0 : decode cL_member 0 = .ok (.aload_n 3, 1) := by decide +kernel
theorem dL_member_1 : decode cL_member 1 = .ok (.iconst 0, 1) := by decide +kernel
theorem dL_member_2 : decode cL_member 2 = .ok (.aload_n 0, 1) := by decide +kernel
theorem dL_member_3 : decode cL_member 3 = .ok (.iload_n 1, 1) := by decide +kernel
theorem dL_member_4 : decode cL_member 4 = .ok (.iload_n 2, 1) := by decide +kernel
theorem dL_member_5 : decode cL_member 5 = .ok (.invokevirtual 52, 3) := by decide +kernel
theorem dL_member_8 : decode cL_member 8 = .ok (.i2l, 1) := by decide +kernel
theorem dL_member_9 : decode cL_member 9 = .ok (.lastore, 1) := by decide +kernel
theorem dL_member_10 : decode cL_member 10 = .ok (.goto 11, 3) := by decide +kernel
theorem dL_member_13 : decode cL_member 13 = .ok (.astore 4, 2) := by decide +kernel
theorem dL_member_15 : decode cL_member 15 = .ok (.iconst 1, 1) := by decide +kernel
theorem dL_member_16 : decode cL_member 16 = .ok (.ireturn, 1) := by decide +kernel
theorem dL_member_17 : decode cL_member 17 = .ok (.astore 4, 2) := by decide +kernel
theorem dL_member_19 : decode cL_member 19 = .ok (.iconst 2, 1) := by decide +kernel
theorem dL_member_20 : decode cL_member 20 = .ok (.ireturn, 1) := by decide +kernel
theorem dL_member_21 : decode cL_member 21 = .ok (.iconst 0, 1) := by decide +kernel
theorem dL_member_22 : decode cL_member 22 = .ok (.ireturn, 1) := by decide +kernel
theorem dL_at_0 : decode cL_at 0 = .ok (.aload_n 2, 1) := by decide +kernel
theorem dL_at_1 : decode cL_at 1 = .ok (.iconst 0, 1) := by decide +kernel
theorem dL_at_2 : decode cL_at 2 = .ok (.aload_n 0, 1) := by decide +kernel
theorem dL_at_3 : decode cL_at 3 = .ok (.iload_n 1, 1) := by decide +kernel
theorem dL_at_4 : decode cL_at 4 = .ok (.invokevirtual 55, 3) := by decide +kernel
theorem dL_at_7 : decode cL_at 7 = .ok (.i2l, 1) := by decide +kernel
theorem dL_at_8 : decode cL_at 8 = .ok (.lastore, 1) := by decide +kernel
theorem dL_at_9 : decode cL_at 9 = .ok (.goto 6, 3) := by decide +kernel
theorem dL_at_12 : decode cL_at 12 = .ok (.astore_n 3, 1) := by decide +kernel
theorem dL_at_13 : decode cL_at 13 = .ok (.iconst 1, 1) := by decide +kernel
theorem dL_at_14 : decode cL_at 14 = .ok (.ireturn, 1) := by decide +kernel
theorem dL_at_15 : decode cL_at 15 = .ok (.iconst 0, 1) := by decide +kernel
theorem dL_at_16 : decode cL_at 16 = .ok (.ireturn, 1) := by decide +kernel
theorem dL_pair_0 : decode cL_pair 0 = .ok (.aload_n 3, 1) := by decide +kernel
theorem dL_pair_1 : decode cL_pair 1 = .ok (.iconst 0, 1) := by decide +kernel
theorem dL_pair_2 : decode cL_pair 2 = .ok (.aload_n 0, 1) := by decide +kernel
theorem dL_pair_3 : decode cL_pair 3 = .ok (.iload_n 1, 1) := by decide +kernel
theorem dL_pair_4 : decode cL_pair 4 = .ok (.iload_n 2, 1) := by decide +kernel
theorem dL_pair_5 : decode cL_pair 5 = .ok (.invokevirtual 58, 3) := by decide +kernel
theorem dL_pair_8 : decode cL_pair 8 = .ok (.i2l, 1) := by decide +kernel
theorem dL_pair_9 : decode cL_pair 9 = .ok (.lastore, 1) := by decide +kernel
theorem dL_pair_10 : decode cL_pair 10 = .ok (.goto 11, 3) := by decide +kernel
theorem dL_pair_13 : decode cL_pair 13 = .ok (.astore 4, 2) := by decide +kernel
theorem dL_pair_15 : decode cL_pair 15 = .ok (.iconst 1, 1) := by decide +kernel
theorem dL_pair_16 : decode cL_pair 16 = .ok (.ireturn, 1) := by decide +kernel
theorem dL_pair_17 : decode cL_pair 17 = .ok (.astore 4, 2) := by decide +kernel
theorem dL_pair_19 : decode cL_pair 19 = .ok (.iconst 2, 1) := by decide +kernel
theorem dL_pair_20 : decode cL_pair 20 = .ok (.ireturn, 1) := by decide +kernel
theorem dL_pair_21 : decode cL_pair 21 = .ok (.iconst 0, 1) := by decide +kernel
theorem dL_pair_22 : decode cL_pair 22 = .ok (.ireturn, 1) := by decide +kernel
theorem dL_whole_0 : decode cL_whole 0 = .ok (.aload_n 2, 1) := by decide +kernel
theorem dL_whole_1 : decode cL_whole 1 = .ok (.iconst 0, 1) := by decide +kernel
theorem dL_whole_2 : decode cL_whole 2 = .ok (.aload_n 0, 1) := by decide +kernel
theorem dL_whole_3 : decode cL_whole 3 = .ok (.iload_n 1, 1) := by decide +kernel
theorem dL_whole_4 : decode cL_whole 4 = .ok (.invokevirtual 61, 3) := by decide +kernel
theorem dL_whole_7 : decode cL_whole 7 = .ok (.i2l, 1) := by decide +kernel
theorem dL_whole_8 : decode cL_whole 8 = .ok (.lastore, 1) := by decide +kernel
theorem dL_whole_9 : decode cL_whole 9 = .ok (.goto 6, 3) := by decide +kernel
theorem dL_whole_12 : decode cL_whole 12 = .ok (.astore_n 3, 1) := by decide +kernel
theorem dL_whole_13 : decode cL_whole 13 = .ok (.iconst 1, 1) := by decide +kernel
theorem dL_whole_14 : decode cL_whole 14 = .ok (.ireturn, 1) := by decide +kernel
theorem dL_whole_15 : decode cL_whole 15 = .ok (.iconst 0, 1) := by decide +kernel
theorem dL_whole_16 : decode cL_whole 16 = .ok (.ireturn, 1) := by decide +kernel
theorem dL_reason_0 : decode cL_reason 0 = .ok (.aload_n 2, 1) := by decide +kernel
theorem dL_reason_1 : decode cL_reason 1 = .ok (.iconst 0, 1) := by decide +kernel
theorem dL_reason_2 : decode cL_reason 2 = .ok (.aload_n 0, 1) := by decide +kernel
theorem dL_reason_3 : decode cL_reason 3 = .ok (.iload_n 1, 1) := by decide +kernel
theorem dL_reason_4 : decode cL_reason 4 = .ok (.invokevirtual 64, 3) := by decide +kernel
theorem dL_reason_7 : decode cL_reason 7 = .ok (.i2l, 1) := by decide +kernel
theorem dL_reason_8 : decode cL_reason 8 = .ok (.lastore, 1) := by decide +kernel
theorem dL_reason_9 : decode cL_reason 9 = .ok (.goto 6, 3) := by decide +kernel
theorem dL_reason_12 : decode cL_reason 12 = .ok (.astore_n 3, 1) := by decide +kernel
theorem dL_reason_13 : decode cL_reason 13 = .ok (.iconst 1, 1) := by decide +kernel
theorem dL_reason_14 : decode cL_reason 14 = .ok (.ireturn, 1) := by decide +kernel
theorem dL_reason_15 : decode cL_reason 15 = .ok (.iconst 0, 1) := by decide +kernel
theorem dL_reason_16 : decode cL_reason 16 = .ok (.ireturn, 1) := by decide +kernel
theorem dL_settledPlace_0 : decode cL_settledPlace 0 = .ok (.aload_n 2, 1) := by decide +kernel
theorem dL_settledPlace_1 : decode cL_settledPlace 1 = .ok (.iconst 0, 1) := by decide +kernel
theorem dL_settledPlace_2 : decode cL_settledPlace 2 = .ok (.aload_n 0, 1) := by decide +kernel
theorem dL_settledPlace_3 : decode cL_settledPlace 3 = .ok (.iload_n 1, 1) := by decide +kernel
theorem dL_settledPlace_4 : decode cL_settledPlace 4 = .ok (.invokevirtual 67, 3) := by decide +kernel
theorem dL_settledPlace_7 : decode cL_settledPlace 7 = .ok (.i2l, 1) := by decide +kernel
theorem dL_settledPlace_8 : decode cL_settledPlace 8 = .ok (.lastore, 1) := by decide +kernel
theorem dL_settledPlace_9 : decode cL_settledPlace 9 = .ok (.goto 6, 3) := by decide +kernel
theorem dL_settledPlace_12 : decode cL_settledPlace 12 = .ok (.astore_n 3, 1) := by decide +kernel
theorem dL_settledPlace_13 : decode cL_settledPlace 13 = .ok (.iconst 1, 1) := by decide +kernel
theorem dL_settledPlace_14 : decode cL_settledPlace 14 = .ok (.ireturn, 1) := by decide +kernel
theorem dL_settledPlace_15 : decode cL_settledPlace 15 = .ok (.iconst 0, 1) := by decide +kernel
theorem dL_settledPlace_16 : decode cL_settledPlace 16 = .ok (.ireturn, 1) := by decide +kernel
theorem dL_profit_0 : decode cL_profit 0 = .ok (.aload_n 3, 1) := by decide +kernel
theorem dL_profit_1 : decode cL_profit 1 = .ok (.iconst 0, 1) := by decide +kernel
theorem dL_profit_2 : decode cL_profit 2 = .ok (.aload_n 0, 1) := by decide +kernel
theorem dL_profit_3 : decode cL_profit 3 = .ok (.iload_n 1, 1) := by decide +kernel
theorem dL_profit_4 : decode cL_profit 4 = .ok (.iload_n 2, 1) := by decide +kernel
theorem dL_profit_5 : decode cL_profit 5 = .ok (.invokevirtual 70, 3) := by decide +kernel
theorem dL_profit_8 : decode cL_profit 8 = .ok (.i2l, 1) := by decide +kernel
theorem dL_profit_9 : decode cL_profit 9 = .ok (.lastore, 1) := by decide +kernel
theorem dL_profit_10 : decode cL_profit 10 = .ok (.goto 11, 3) := by decide +kernel
theorem dL_profit_13 : decode cL_profit 13 = .ok (.astore 4, 2) := by decide +kernel
theorem dL_profit_15 : decode cL_profit 15 = .ok (.iconst 1, 1) := by decide +kernel
theorem dL_profit_16 : decode cL_profit 16 = .ok (.ireturn, 1) := by decide +kernel
theorem dL_profit_17 : decode cL_profit 17 = .ok (.astore 4, 2) := by decide +kernel
theorem dL_profit_19 : decode cL_profit 19 = .ok (.iconst 2, 1) := by decide +kernel
theorem dL_profit_20 : decode cL_profit 20 = .ok (.ireturn, 1) := by decide +kernel
theorem dL_profit_21 : decode cL_profit 21 = .ok (.iconst 0, 1) := by decide +kernel
theorem dL_profit_22 : decode cL_profit 22 = .ok (.ireturn, 1) := by decide +kernel
theorem dL_bestLie_0 : decode cL_bestLie 0 = .ok (.aload_n 2, 1) := by decide +kernel
theorem dL_bestLie_1 : decode cL_bestLie 1 = .ok (.iconst 0, 1) := by decide +kernel
theorem dL_bestLie_2 : decode cL_bestLie 2 = .ok (.aload_n 0, 1) := by decide +kernel
theorem dL_bestLie_3 : decode cL_bestLie 3 = .ok (.iload_n 1, 1) := by decide +kernel
theorem dL_bestLie_4 : decode cL_bestLie 4 = .ok (.invokevirtual 73, 3) := by decide +kernel
theorem dL_bestLie_7 : decode cL_bestLie 7 = .ok (.i2l, 1) := by decide +kernel
theorem dL_bestLie_8 : decode cL_bestLie 8 = .ok (.lastore, 1) := by decide +kernel
theorem dL_bestLie_9 : decode cL_bestLie 9 = .ok (.goto 6, 3) := by decide +kernel
theorem dL_bestLie_12 : decode cL_bestLie 12 = .ok (.astore_n 3, 1) := by decide +kernel
theorem dL_bestLie_13 : decode cL_bestLie 13 = .ok (.iconst 1, 1) := by decide +kernel
theorem dL_bestLie_14 : decode cL_bestLie 14 = .ok (.ireturn, 1) := by decide +kernel
theorem dL_bestLie_15 : decode cL_bestLie 15 = .ok (.iconst 0, 1) := by decide +kernel
theorem dL_bestLie_16 : decode cL_bestLie 16 = .ok (.ireturn, 1) := by decide +kernel
theorem dL_type_0 : decode cL_type 0 = .ok (.aload_n 2, 1) := by decide +kernel
theorem dL_type_1 : decode cL_type 1 = .ok (.iconst 0, 1) := by decide +kernel
theorem dL_type_2 : decode cL_type 2 = .ok (.aload_n 0, 1) := by decide +kernel
theorem dL_type_3 : decode cL_type 3 = .ok (.iload_n 1, 1) := by decide +kernel
theorem dL_type_4 : decode cL_type 4 = .ok (.invokevirtual 76, 3) := by decide +kernel
theorem dL_type_7 : decode cL_type 7 = .ok (.i2l, 1) := by decide +kernel
theorem dL_type_8 : decode cL_type 8 = .ok (.lastore, 1) := by decide +kernel
theorem dL_type_9 : decode cL_type 9 = .ok (.goto 9, 3) := by decide +kernel
theorem dL_type_12 : decode cL_type 12 = .ok (.astore_n 3, 1) := by decide +kernel
theorem dL_type_13 : decode cL_type 13 = .ok (.iconst 1, 1) := by decide +kernel
theorem dL_type_14 : decode cL_type 14 = .ok (.ireturn, 1) := by decide +kernel
theorem dL_type_15 : decode cL_type 15 = .ok (.astore_n 3, 1) := by decide +kernel
theorem dL_type_16 : decode cL_type 16 = .ok (.iconst 2, 1) := by decide +kernel
theorem dL_type_17 : decode cL_type 17 = .ok (.ireturn, 1) := by decide +kernel
theorem dL_type_18 : decode cL_type 18 = .ok (.iconst 0, 1) := by decide +kernel
theorem dL_type_19 : decode cL_type 19 = .ok (.ireturn, 1) := by decide +kernel
theorem dL_undo_0 : decode cL_undo 0 = .ok (.aload_n 1, 1) := by decide +kernel
theorem dL_undo_1 : decode cL_undo 1 = .ok (.iconst 0, 1) := by decide +kernel
theorem dL_undo_2 : decode cL_undo 2 = .ok (.aload_n 0, 1) := by decide +kernel
theorem dL_undo_3 : decode cL_undo 3 = .ok (.invokevirtual 79, 3) := by decide +kernel
theorem dL_undo_6 : decode cL_undo 6 = .ok (.i2l, 1) := by decide +kernel
theorem dL_undo_7 : decode cL_undo 7 = .ok (.lastore, 1) := by decide +kernel
theorem dL_undo_8 : decode cL_undo 8 = .ok (.goto 6, 3) := by decide +kernel
theorem dL_undo_11 : decode cL_undo 11 = .ok (.astore_n 2, 1) := by decide +kernel
theorem dL_undo_12 : decode cL_undo 12 = .ok (.iconst 1, 1) := by decide +kernel
theorem dL_undo_13 : decode cL_undo 13 = .ok (.ireturn, 1) := by decide +kernel
theorem dL_undo_14 : decode cL_undo 14 = .ok (.iconst 0, 1) := by decide +kernel
theorem dL_undo_15 : decode cL_undo 15 = .ok (.ireturn, 1) := by decide +kernel
theorem dL_law_0 : decode cL_law 0 = .ok (.new 8, 3) := by decide +kernel
theorem dL_law_3 : decode cL_law 3 = .ok (.dup, 1) := by decide +kernel
theorem dL_law_4 : decode cL_law 4 = .ok (.invokespecial 82, 3) := by decide +kernel
theorem dL_law_7 : decode cL_law 7 = .ok (.astore_n 1, 1) := by decide +kernel
theorem dL_law_8 : decode cL_law 8 = .ok (.new 83, 3) := by decide +kernel
theorem dL_law_11 : decode cL_law 11 = .ok (.dup, 1) := by decide +kernel
theorem dL_law_12 : decode cL_law 12 = .ok (.invokespecial 85, 3) := by decide +kernel
theorem dL_law_15 : decode cL_law 15 = .ok (.astore_n 2, 1) := by decide +kernel
theorem dL_law_16 : decode cL_law 16 = .ok (.iconst 1, 1) := by decide +kernel
theorem dL_law_17 : decode cL_law 17 = .ok (.newarray .long, 2) := by decide +kernel
theorem dL_law_19 : decode cL_law 19 = .ok (.astore_n 3, 1) := by decide +kernel
theorem dL_law_20 : decode cL_law 20 = .ok (.iconst 0, 1) := by decide +kernel
theorem dL_law_21 : decode cL_law 21 = .ok (.istore 4, 2) := by decide +kernel
theorem dL_law_23 : decode cL_law 23 = .ok (.iload 4, 2) := by decide +kernel
theorem dL_law_25 : decode cL_law 25 = .ok (.aload_n 0, 1) := by decide +kernel
theorem dL_law_26 : decode cL_law 26 = .ok (.arraylength, 1) := by decide +kernel
theorem dL_law_27 : decode cL_law 27 = .ok (.iconst 4, 1) := by decide +kernel
theorem dL_law_28 : decode cL_law 28 = .ok (.isub, 1) := by decide +kernel
theorem dL_law_29 : decode cL_law 29 = .ok (.if_icmp .gt 1464, 3) := by decide +kernel
theorem dL_law_32 : decode cL_law 32 = .ok (.aload_n 0, 1) := by decide +kernel
theorem dL_law_33 : decode cL_law 33 = .ok (.iload 4, 2) := by decide +kernel
theorem dL_law_35 : decode cL_law 35 = .ok (.iaload, 1) := by decide +kernel
theorem dL_law_36 : decode cL_law 36 = .ok (.bipush 31, 2) := by decide +kernel
theorem dL_law_38 : decode cL_law 38 = .ok (.iand, 1) := by decide +kernel
theorem dL_law_39 : decode cL_law 39 = .ok (.tableswitch 1448 0 26 #[121, 189, 269, 325, 369, 437, 493, 561, 617, 673, 729, 785, 798, 866, 922, 990, 1046, 1102, 1158, 1226, 1282, 1295, 1308, 1364, 1377, 1390, 1434], 121) := by decide +kernel
theorem dL_law_160 : decode cL_law 160 = .ok (.aload_n 1, 1) := by decide +kernel
theorem dL_law_161 : decode cL_law 161 = .ok (.aload_n 0, 1) := by decide +kernel
theorem dL_law_162 : decode cL_law 162 = .ok (.iload 4, 2) := by decide +kernel
theorem dL_law_164 : decode cL_law 164 = .ok (.iconst 1, 1) := by decide +kernel
theorem dL_law_165 : decode cL_law 165 = .ok (.iadd, 1) := by decide +kernel
theorem dL_law_166 : decode cL_law 166 = .ok (.iaload, 1) := by decide +kernel
theorem dL_law_167 : decode cL_law 167 = .ok (.aload_n 0, 1) := by decide +kernel
theorem dL_law_168 : decode cL_law 168 = .ok (.iload 4, 2) := by decide +kernel
theorem dL_law_170 : decode cL_law 170 = .ok (.iconst 2, 1) := by decide +kernel
theorem dL_law_171 : decode cL_law 171 = .ok (.iadd, 1) := by decide +kernel
theorem dL_law_172 : decode cL_law 172 = .ok (.iaload, 1) := by decide +kernel
theorem dL_law_173 : decode cL_law 173 = .ok (.aload_n 3, 1) := by decide +kernel
theorem dL_law_174 : decode cL_law 174 = .ok (.invokestatic 86, 3) := by decide +kernel
theorem dL_law_177 : decode cL_law 177 = .ok (.istore 5, 2) := by decide +kernel
theorem dL_law_179 : decode cL_law 179 = .ok (.aload_n 2, 1) := by decide +kernel
theorem dL_law_180 : decode cL_law 180 = .ok (.aload_n 0, 1) := by decide +kernel
theorem dL_law_181 : decode cL_law 181 = .ok (.iload 4, 2) := by decide +kernel
theorem dL_law_183 : decode cL_law 183 = .ok (.iconst 1, 1) := by decide +kernel
theorem dL_law_184 : decode cL_law 184 = .ok (.iadd, 1) := by decide +kernel
theorem dL_law_185 : decode cL_law 185 = .ok (.iaload, 1) := by decide +kernel
theorem dL_law_186 : decode cL_law 186 = .ok (.aload_n 0, 1) := by decide +kernel
theorem dL_law_187 : decode cL_law 187 = .ok (.iload 4, 2) := by decide +kernel
theorem dL_law_189 : decode cL_law 189 = .ok (.iconst 2, 1) := by decide +kernel
theorem dL_law_190 : decode cL_law 190 = .ok (.iadd, 1) := by decide +kernel
theorem dL_law_191 : decode cL_law 191 = .ok (.iaload, 1) := by decide +kernel
theorem dL_law_192 : decode cL_law 192 = .ok (.invokevirtual 91, 3) := by decide +kernel
theorem dL_law_195 : decode cL_law 195 = .ok (.istore 6, 2) := by decide +kernel
theorem dL_law_197 : decode cL_law 197 = .ok (.aload_n 2, 1) := by decide +kernel
theorem dL_law_198 : decode cL_law 198 = .ok (.invokevirtual 92, 3) := by decide +kernel
theorem dL_law_201 : decode cL_law 201 = .ok (.iload 5, 2) := by decide +kernel
theorem dL_law_203 : decode cL_law 203 = .ok (.if_icmp .eq 5, 3) := by decide +kernel
theorem dL_law_206 : decode cL_law 206 = .ok (.iconst 0, 1) := by decide +kernel
theorem dL_law_207 : decode cL_law 207 = .ok (.ireturn, 1) := by decide +kernel
theorem dL_law_208 : decode cL_law 208 = .ok (.iload 5, 2) := by decide +kernel
theorem dL_law_210 : decode cL_law 210 = .ok (.ifCond .ne 15, 3) := by decide +kernel
theorem dL_law_213 : decode cL_law 213 = .ok (.aload_n 3, 1) := by decide +kernel
theorem dL_law_214 : decode cL_law 214 = .ok (.iconst 0, 1) := by decide +kernel
theorem dL_law_215 : decode cL_law 215 = .ok (.laload, 1) := by decide +kernel
theorem dL_law_216 : decode cL_law 216 = .ok (.iload 6, 2) := by decide +kernel
theorem dL_law_218 : decode cL_law 218 = .ok (.i2l, 1) := by decide +kernel
theorem dL_law_219 : decode cL_law 219 = .ok (.lcmp, 1) := by decide +kernel
theorem dL_law_220 : decode cL_law 220 = .ok (.ifCond .eq 5, 3) := by decide +kernel
theorem dL_law_223 : decode cL_law 223 = .ok (.iconst 0, 1) := by decide +kernel
theorem dL_law_224 : decode cL_law 224 = .ok (.ireturn, 1) := by decide +kernel
theorem dL_law_225 : decode cL_law 225 = .ok (.goto 1262, 3) := by decide +kernel
theorem dL_law_228 : decode cL_law 228 = .ok (.aload_n 1, 1) := by decide +kernel
theorem dL_law_229 : decode cL_law 229 = .ok (.aload_n 0, 1) := by decide +kernel
theorem dL_law_230 : decode cL_law 230 = .ok (.iload 4, 2) := by decide +kernel
theorem dL_law_232 : decode cL_law 232 = .ok (.iconst 1, 1) := by decide +kernel
theorem dL_law_233 : decode cL_law 233 = .ok (.iadd, 1) := by decide +kernel
theorem dL_law_234 : decode cL_law 234 = .ok (.iaload, 1) := by decide +kernel
theorem dL_law_235 : decode cL_law 235 = .ok (.aload_n 0, 1) := by decide +kernel
theorem dL_law_236 : decode cL_law 236 = .ok (.iload 4, 2) := by decide +kernel
theorem dL_law_238 : decode cL_law 238 = .ok (.iconst 2, 1) := by decide +kernel
theorem dL_law_239 : decode cL_law 239 = .ok (.iadd, 1) := by decide +kernel
theorem dL_law_240 : decode cL_law 240 = .ok (.iaload, 1) := by decide +kernel
theorem dL_law_241 : decode cL_law 241 = .ok (.aload_n 0, 1) := by decide +kernel
theorem dL_law_242 : decode cL_law 242 = .ok (.iload 4, 2) := by decide +kernel
theorem dL_law_244 : decode cL_law 244 = .ok (.iconst 3, 1) := by decide +kernel
theorem dL_law_245 : decode cL_law 245 = .ok (.iadd, 1) := by decide +kernel
theorem dL_law_246 : decode cL_law 246 = .ok (.iaload, 1) := by decide +kernel
theorem dL_law_247 : decode cL_law 247 = .ok (.aload_n 3, 1) := by decide +kernel
theorem dL_law_248 : decode cL_law 248 = .ok (.invokestatic 95, 3) := by decide +kernel
theorem dL_law_251 : decode cL_law 251 = .ok (.istore 5, 2) := by decide +kernel
theorem dL_law_253 : decode cL_law 253 = .ok (.aload_n 2, 1) := by decide +kernel
theorem dL_law_254 : decode cL_law 254 = .ok (.aload_n 0, 1) := by decide +kernel
theorem dL_law_255 : decode cL_law 255 = .ok (.iload 4, 2) := by decide +kernel
theorem dL_law_257 : decode cL_law 257 = .ok (.iconst 1, 1) := by decide +kernel
theorem dL_law_258 : decode cL_law 258 = .ok (.iadd, 1) := by decide +kernel
theorem dL_law_259 : decode cL_law 259 = .ok (.iaload, 1) := by decide +kernel
theorem dL_law_260 : decode cL_law 260 = .ok (.aload_n 0, 1) := by decide +kernel
theorem dL_law_261 : decode cL_law 261 = .ok (.iload 4, 2) := by decide +kernel
theorem dL_law_263 : decode cL_law 263 = .ok (.iconst 2, 1) := by decide +kernel
theorem dL_law_264 : decode cL_law 264 = .ok (.iadd, 1) := by decide +kernel
theorem dL_law_265 : decode cL_law 265 = .ok (.iaload, 1) := by decide +kernel
theorem dL_law_266 : decode cL_law 266 = .ok (.aload_n 0, 1) := by decide +kernel
theorem dL_law_267 : decode cL_law 267 = .ok (.iload 4, 2) := by decide +kernel
theorem dL_law_269 : decode cL_law 269 = .ok (.iconst 3, 1) := by decide +kernel
theorem dL_law_270 : decode cL_law 270 = .ok (.iadd, 1) := by decide +kernel
theorem dL_law_271 : decode cL_law 271 = .ok (.iaload, 1) := by decide +kernel
theorem dL_law_272 : decode cL_law 272 = .ok (.invokevirtual 98, 3) := by decide +kernel
theorem dL_law_275 : decode cL_law 275 = .ok (.istore 6, 2) := by decide +kernel
theorem dL_law_277 : decode cL_law 277 = .ok (.aload_n 2, 1) := by decide +kernel
theorem dL_law_278 : decode cL_law 278 = .ok (.invokevirtual 92, 3) := by decide +kernel
theorem dL_law_281 : decode cL_law 281 = .ok (.iload 5, 2) := by decide +kernel
theorem dL_law_283 : decode cL_law 283 = .ok (.if_icmp .eq 5, 3) := by decide +kernel
theorem dL_law_286 : decode cL_law 286 = .ok (.iconst 0, 1) := by decide +kernel
theorem dL_law_287 : decode cL_law 287 = .ok (.ireturn, 1) := by decide +kernel
theorem dL_law_288 : decode cL_law 288 = .ok (.iload 5, 2) := by decide +kernel
theorem dL_law_290 : decode cL_law 290 = .ok (.ifCond .ne 15, 3) := by decide +kernel
theorem dL_law_293 : decode cL_law 293 = .ok (.aload_n 3, 1) := by decide +kernel
theorem dL_law_294 : decode cL_law 294 = .ok (.iconst 0, 1) := by decide +kernel
theorem dL_law_295 : decode cL_law 295 = .ok (.laload, 1) := by decide +kernel
theorem dL_law_296 : decode cL_law 296 = .ok (.iload 6, 2) := by decide +kernel
theorem dL_law_298 : decode cL_law 298 = .ok (.i2l, 1) := by decide +kernel
theorem dL_law_299 : decode cL_law 299 = .ok (.lcmp, 1) := by decide +kernel
theorem dL_law_300 : decode cL_law 300 = .ok (.ifCond .eq 5, 3) := by decide +kernel
theorem dL_law_303 : decode cL_law 303 = .ok (.iconst 0, 1) := by decide +kernel
theorem dL_law_304 : decode cL_law 304 = .ok (.ireturn, 1) := by decide +kernel
theorem dL_law_305 : decode cL_law 305 = .ok (.goto 1182, 3) := by decide +kernel
theorem dL_law_308 : decode cL_law 308 = .ok (.aload_n 1, 1) := by decide +kernel
theorem dL_law_309 : decode cL_law 309 = .ok (.aload_n 0, 1) := by decide +kernel
theorem dL_law_310 : decode cL_law 310 = .ok (.iload 4, 2) := by decide +kernel
theorem dL_law_312 : decode cL_law 312 = .ok (.iconst 1, 1) := by decide +kernel
theorem dL_law_313 : decode cL_law 313 = .ok (.iadd, 1) := by decide +kernel
theorem dL_law_314 : decode cL_law 314 = .ok (.iaload, 1) := by decide +kernel
theorem dL_law_315 : decode cL_law 315 = .ok (.aload_n 3, 1) := by decide +kernel
theorem dL_law_316 : decode cL_law 316 = .ok (.invokestatic 99, 3) := by decide +kernel
theorem dL_law_319 : decode cL_law 319 = .ok (.istore 5, 2) := by decide +kernel
theorem dL_law_321 : decode cL_law 321 = .ok (.aload_n 2, 1) := by decide +kernel
theorem dL_law_322 : decode cL_law 322 = .ok (.aload_n 0, 1) := by decide +kernel
theorem dL_law_323 : decode cL_law 323 = .ok (.iload 4, 2) := by decide +kernel
theorem dL_law_325 : decode cL_law 325 = .ok (.iconst 1, 1) := by decide +kernel
theorem dL_law_326 : decode cL_law 326 = .ok (.iadd, 1) := by decide +kernel
theorem dL_law_327 : decode cL_law 327 = .ok (.iaload, 1) := by decide +kernel
theorem dL_law_328 : decode cL_law 328 = .ok (.invokevirtual 102, 3) := by decide +kernel
theorem dL_law_331 : decode cL_law 331 = .ok (.istore 6, 2) := by decide +kernel
theorem dL_law_333 : decode cL_law 333 = .ok (.aload_n 2, 1) := by decide +kernel
theorem dL_law_334 : decode cL_law 334 = .ok (.invokevirtual 92, 3) := by decide +kernel
theorem dL_law_337 : decode cL_law 337 = .ok (.iload 5, 2) := by decide +kernel
theorem dL_law_339 : decode cL_law 339 = .ok (.if_icmp .eq 5, 3) := by decide +kernel
theorem dL_law_342 : decode cL_law 342 = .ok (.iconst 0, 1) := by decide +kernel
theorem dL_law_343 : decode cL_law 343 = .ok (.ireturn, 1) := by decide +kernel
theorem dL_law_344 : decode cL_law 344 = .ok (.iload 5, 2) := by decide +kernel
theorem dL_law_346 : decode cL_law 346 = .ok (.ifCond .ne 15, 3) := by decide +kernel
theorem dL_law_349 : decode cL_law 349 = .ok (.aload_n 3, 1) := by decide +kernel
theorem dL_law_350 : decode cL_law 350 = .ok (.iconst 0, 1) := by decide +kernel
theorem dL_law_351 : decode cL_law 351 = .ok (.laload, 1) := by decide +kernel
theorem dL_law_352 : decode cL_law 352 = .ok (.iload 6, 2) := by decide +kernel
theorem dL_law_354 : decode cL_law 354 = .ok (.i2l, 1) := by decide +kernel
theorem dL_law_355 : decode cL_law 355 = .ok (.lcmp, 1) := by decide +kernel
theorem dL_law_356 : decode cL_law 356 = .ok (.ifCond .eq 5, 3) := by decide +kernel
theorem dL_law_359 : decode cL_law 359 = .ok (.iconst 0, 1) := by decide +kernel
theorem dL_law_360 : decode cL_law 360 = .ok (.ireturn, 1) := by decide +kernel
theorem dL_law_361 : decode cL_law 361 = .ok (.goto 1126, 3) := by decide +kernel
theorem dL_law_364 : decode cL_law 364 = .ok (.aload_n 1, 1) := by decide +kernel
theorem dL_law_365 : decode cL_law 365 = .ok (.aload_n 3, 1) := by decide +kernel
theorem dL_law_366 : decode cL_law 366 = .ok (.invokestatic 103, 3) := by decide +kernel
theorem dL_law_369 : decode cL_law 369 = .ok (.istore 5, 2) := by decide +kernel
theorem dL_law_371 : decode cL_law 371 = .ok (.aload_n 2, 1) := by decide +kernel
theorem dL_law_372 : decode cL_law 372 = .ok (.invokevirtual 106, 3) := by decide +kernel
theorem dL_law_375 : decode cL_law 375 = .ok (.istore 6, 2) := by decide +kernel
theorem dL_law_377 : decode cL_law 377 = .ok (.aload_n 2, 1) := by decide +kernel
theorem dL_law_378 : decode cL_law 378 = .ok (.invokevirtual 92, 3) := by decide +kernel
theorem dL_law_381 : decode cL_law 381 = .ok (.iload 5, 2) := by decide +kernel
theorem dL_law_383 : decode cL_law 383 = .ok (.if_icmp .eq 5, 3) := by decide +kernel
theorem dL_law_386 : decode cL_law 386 = .ok (.iconst 0, 1) := by decide +kernel
theorem dL_law_387 : decode cL_law 387 = .ok (.ireturn, 1) := by decide +kernel
theorem dL_law_388 : decode cL_law 388 = .ok (.iload 5, 2) := by decide +kernel
theorem dL_law_390 : decode cL_law 390 = .ok (.ifCond .ne 15, 3) := by decide +kernel
theorem dL_law_393 : decode cL_law 393 = .ok (.aload_n 3, 1) := by decide +kernel
theorem dL_law_394 : decode cL_law 394 = .ok (.iconst 0, 1) := by decide +kernel
theorem dL_law_395 : decode cL_law 395 = .ok (.laload, 1) := by decide +kernel
theorem dL_law_396 : decode cL_law 396 = .ok (.iload 6, 2) := by decide +kernel
theorem dL_law_398 : decode cL_law 398 = .ok (.i2l, 1) := by decide +kernel
theorem dL_law_399 : decode cL_law 399 = .ok (.lcmp, 1) := by decide +kernel
theorem dL_law_400 : decode cL_law 400 = .ok (.ifCond .eq 5, 3) := by decide +kernel
theorem dL_law_403 : decode cL_law 403 = .ok (.iconst 0, 1) := by decide +kernel
theorem dL_law_404 : decode cL_law 404 = .ok (.ireturn, 1) := by decide +kernel
theorem dL_law_405 : decode cL_law 405 = .ok (.goto 1082, 3) := by decide +kernel
theorem dL_law_408 : decode cL_law 408 = .ok (.aload_n 1, 1) := by decide +kernel
theorem dL_law_409 : decode cL_law 409 = .ok (.aload_n 0, 1) := by decide +kernel
theorem dL_law_410 : decode cL_law 410 = .ok (.iload 4, 2) := by decide +kernel
theorem dL_law_412 : decode cL_law 412 = .ok (.iconst 1, 1) := by decide +kernel
theorem dL_law_413 : decode cL_law 413 = .ok (.iadd, 1) := by decide +kernel
theorem dL_law_414 : decode cL_law 414 = .ok (.iaload, 1) := by decide +kernel
theorem dL_law_415 : decode cL_law 415 = .ok (.aload_n 0, 1) := by decide +kernel
theorem dL_law_416 : decode cL_law 416 = .ok (.iload 4, 2) := by decide +kernel
theorem dL_law_418 : decode cL_law 418 = .ok (.iconst 2, 1) := by decide +kernel
theorem dL_law_419 : decode cL_law 419 = .ok (.iadd, 1) := by decide +kernel
theorem dL_law_420 : decode cL_law 420 = .ok (.iaload, 1) := by decide +kernel
theorem dL_law_421 : decode cL_law 421 = .ok (.aload_n 3, 1) := by decide +kernel
theorem dL_law_422 : decode cL_law 422 = .ok (.invokestatic 107, 3) := by decide +kernel
theorem dL_law_425 : decode cL_law 425 = .ok (.istore 5, 2) := by decide +kernel
theorem dL_law_427 : decode cL_law 427 = .ok (.aload_n 2, 1) := by decide +kernel
theorem dL_law_428 : decode cL_law 428 = .ok (.aload_n 0, 1) := by decide +kernel
theorem dL_law_429 : decode cL_law 429 = .ok (.iload 4, 2) := by decide +kernel
theorem dL_law_431 : decode cL_law 431 = .ok (.iconst 1, 1) := by decide +kernel
theorem dL_law_432 : decode cL_law 432 = .ok (.iadd, 1) := by decide +kernel
theorem dL_law_433 : decode cL_law 433 = .ok (.iaload, 1) := by decide +kernel
theorem dL_law_434 : decode cL_law 434 = .ok (.aload_n 0, 1) := by decide +kernel
theorem dL_law_435 : decode cL_law 435 = .ok (.iload 4, 2) := by decide +kernel
theorem dL_law_437 : decode cL_law 437 = .ok (.iconst 2, 1) := by decide +kernel
theorem dL_law_438 : decode cL_law 438 = .ok (.iadd, 1) := by decide +kernel
theorem dL_law_439 : decode cL_law 439 = .ok (.iaload, 1) := by decide +kernel
theorem dL_law_440 : decode cL_law 440 = .ok (.invokevirtual 109, 3) := by decide +kernel
theorem dL_law_443 : decode cL_law 443 = .ok (.istore 6, 2) := by decide +kernel
theorem dL_law_445 : decode cL_law 445 = .ok (.aload_n 2, 1) := by decide +kernel
theorem dL_law_446 : decode cL_law 446 = .ok (.invokevirtual 92, 3) := by decide +kernel
theorem dL_law_449 : decode cL_law 449 = .ok (.iload 5, 2) := by decide +kernel
theorem dL_law_451 : decode cL_law 451 = .ok (.if_icmp .eq 5, 3) := by decide +kernel
theorem dL_law_454 : decode cL_law 454 = .ok (.iconst 0, 1) := by decide +kernel
theorem dL_law_455 : decode cL_law 455 = .ok (.ireturn, 1) := by decide +kernel
theorem dL_law_456 : decode cL_law 456 = .ok (.iload 5, 2) := by decide +kernel
theorem dL_law_458 : decode cL_law 458 = .ok (.ifCond .ne 15, 3) := by decide +kernel
theorem dL_law_461 : decode cL_law 461 = .ok (.aload_n 3, 1) := by decide +kernel
theorem dL_law_462 : decode cL_law 462 = .ok (.iconst 0, 1) := by decide +kernel
theorem dL_law_463 : decode cL_law 463 = .ok (.laload, 1) := by decide +kernel
theorem dL_law_464 : decode cL_law 464 = .ok (.iload 6, 2) := by decide +kernel
theorem dL_law_466 : decode cL_law 466 = .ok (.i2l, 1) := by decide +kernel
theorem dL_law_467 : decode cL_law 467 = .ok (.lcmp, 1) := by decide +kernel
theorem dL_law_468 : decode cL_law 468 = .ok (.ifCond .eq 5, 3) := by decide +kernel
theorem dL_law_471 : decode cL_law 471 = .ok (.iconst 0, 1) := by decide +kernel
theorem dL_law_472 : decode cL_law 472 = .ok (.ireturn, 1) := by decide +kernel
theorem dL_law_473 : decode cL_law 473 = .ok (.goto 1014, 3) := by decide +kernel
theorem dL_law_476 : decode cL_law 476 = .ok (.aload_n 1, 1) := by decide +kernel
theorem dL_law_477 : decode cL_law 477 = .ok (.aload_n 0, 1) := by decide +kernel
theorem dL_law_478 : decode cL_law 478 = .ok (.iload 4, 2) := by decide +kernel
theorem dL_law_480 : decode cL_law 480 = .ok (.iconst 1, 1) := by decide +kernel
theorem dL_law_481 : decode cL_law 481 = .ok (.iadd, 1) := by decide +kernel
theorem dL_law_482 : decode cL_law 482 = .ok (.iaload, 1) := by decide +kernel
theorem dL_law_483 : decode cL_law 483 = .ok (.aload_n 3, 1) := by decide +kernel
theorem dL_law_484 : decode cL_law 484 = .ok (.invokestatic 110, 3) := by decide +kernel
theorem dL_law_487 : decode cL_law 487 = .ok (.istore 5, 2) := by decide +kernel
theorem dL_law_489 : decode cL_law 489 = .ok (.aload_n 2, 1) := by decide +kernel
theorem dL_law_490 : decode cL_law 490 = .ok (.aload_n 0, 1) := by decide +kernel
theorem dL_law_491 : decode cL_law 491 = .ok (.iload 4, 2) := by decide +kernel
theorem dL_law_493 : decode cL_law 493 = .ok (.iconst 1, 1) := by decide +kernel
theorem dL_law_494 : decode cL_law 494 = .ok (.iadd, 1) := by decide +kernel
theorem dL_law_495 : decode cL_law 495 = .ok (.iaload, 1) := by decide +kernel
theorem dL_law_496 : decode cL_law 496 = .ok (.invokevirtual 112, 3) := by decide +kernel
theorem dL_law_499 : decode cL_law 499 = .ok (.istore 6, 2) := by decide +kernel
theorem dL_law_501 : decode cL_law 501 = .ok (.aload_n 2, 1) := by decide +kernel
theorem dL_law_502 : decode cL_law 502 = .ok (.invokevirtual 92, 3) := by decide +kernel
theorem dL_law_505 : decode cL_law 505 = .ok (.iload 5, 2) := by decide +kernel
theorem dL_law_507 : decode cL_law 507 = .ok (.if_icmp .eq 5, 3) := by decide +kernel
theorem dL_law_510 : decode cL_law 510 = .ok (.iconst 0, 1) := by decide +kernel
theorem dL_law_511 : decode cL_law 511 = .ok (.ireturn, 1) := by decide +kernel
theorem dL_law_512 : decode cL_law 512 = .ok (.iload 5, 2) := by decide +kernel
theorem dL_law_514 : decode cL_law 514 = .ok (.ifCond .ne 15, 3) := by decide +kernel
theorem dL_law_517 : decode cL_law 517 = .ok (.aload_n 3, 1) := by decide +kernel
theorem dL_law_518 : decode cL_law 518 = .ok (.iconst 0, 1) := by decide +kernel
theorem dL_law_519 : decode cL_law 519 = .ok (.laload, 1) := by decide +kernel
theorem dL_law_520 : decode cL_law 520 = .ok (.iload 6, 2) := by decide +kernel
theorem dL_law_522 : decode cL_law 522 = .ok (.i2l, 1) := by decide +kernel
theorem dL_law_523 : decode cL_law 523 = .ok (.lcmp, 1) := by decide +kernel
theorem dL_law_524 : decode cL_law 524 = .ok (.ifCond .eq 5, 3) := by decide +kernel
theorem dL_law_527 : decode cL_law 527 = .ok (.iconst 0, 1) := by decide +kernel
theorem dL_law_528 : decode cL_law 528 = .ok (.ireturn, 1) := by decide +kernel
theorem dL_law_529 : decode cL_law 529 = .ok (.goto 958, 3) := by decide +kernel
theorem dL_law_532 : decode cL_law 532 = .ok (.aload_n 1, 1) := by decide +kernel
theorem dL_law_533 : decode cL_law 533 = .ok (.aload_n 0, 1) := by decide +kernel
theorem dL_law_534 : decode cL_law 534 = .ok (.iload 4, 2) := by decide +kernel
theorem dL_law_536 : decode cL_law 536 = .ok (.iconst 1, 1) := by decide +kernel
theorem dL_law_537 : decode cL_law 537 = .ok (.iadd, 1) := by decide +kernel
theorem dL_law_538 : decode cL_law 538 = .ok (.iaload, 1) := by decide +kernel
theorem dL_law_539 : decode cL_law 539 = .ok (.aload_n 0, 1) := by decide +kernel
theorem dL_law_540 : decode cL_law 540 = .ok (.iload 4, 2) := by decide +kernel
theorem dL_law_542 : decode cL_law 542 = .ok (.iconst 2, 1) := by decide +kernel
theorem dL_law_543 : decode cL_law 543 = .ok (.iadd, 1) := by decide +kernel
theorem dL_law_544 : decode cL_law 544 = .ok (.iaload, 1) := by decide +kernel
theorem dL_law_545 : decode cL_law 545 = .ok (.aload_n 3, 1) := by decide +kernel
theorem dL_law_546 : decode cL_law 546 = .ok (.invokestatic 113, 3) := by decide +kernel
theorem dL_law_549 : decode cL_law 549 = .ok (.istore 5, 2) := by decide +kernel
theorem dL_law_551 : decode cL_law 551 = .ok (.aload_n 2, 1) := by decide +kernel
theorem dL_law_552 : decode cL_law 552 = .ok (.aload_n 0, 1) := by decide +kernel
theorem dL_law_553 : decode cL_law 553 = .ok (.iload 4, 2) := by decide +kernel
theorem dL_law_555 : decode cL_law 555 = .ok (.iconst 1, 1) := by decide +kernel
theorem dL_law_556 : decode cL_law 556 = .ok (.iadd, 1) := by decide +kernel
theorem dL_law_557 : decode cL_law 557 = .ok (.iaload, 1) := by decide +kernel
theorem dL_law_558 : decode cL_law 558 = .ok (.aload_n 0, 1) := by decide +kernel
theorem dL_law_559 : decode cL_law 559 = .ok (.iload 4, 2) := by decide +kernel
theorem dL_law_561 : decode cL_law 561 = .ok (.iconst 2, 1) := by decide +kernel
theorem dL_law_562 : decode cL_law 562 = .ok (.iadd, 1) := by decide +kernel
theorem dL_law_563 : decode cL_law 563 = .ok (.iaload, 1) := by decide +kernel
theorem dL_law_564 : decode cL_law 564 = .ok (.invokevirtual 115, 3) := by decide +kernel
theorem dL_law_567 : decode cL_law 567 = .ok (.istore 6, 2) := by decide +kernel
theorem dL_law_569 : decode cL_law 569 = .ok (.aload_n 2, 1) := by decide +kernel
theorem dL_law_570 : decode cL_law 570 = .ok (.invokevirtual 92, 3) := by decide +kernel
theorem dL_law_573 : decode cL_law 573 = .ok (.iload 5, 2) := by decide +kernel
theorem dL_law_575 : decode cL_law 575 = .ok (.if_icmp .eq 5, 3) := by decide +kernel
theorem dL_law_578 : decode cL_law 578 = .ok (.iconst 0, 1) := by decide +kernel
theorem dL_law_579 : decode cL_law 579 = .ok (.ireturn, 1) := by decide +kernel
theorem dL_law_580 : decode cL_law 580 = .ok (.iload 5, 2) := by decide +kernel
theorem dL_law_582 : decode cL_law 582 = .ok (.ifCond .ne 15, 3) := by decide +kernel
theorem dL_law_585 : decode cL_law 585 = .ok (.aload_n 3, 1) := by decide +kernel
theorem dL_law_586 : decode cL_law 586 = .ok (.iconst 0, 1) := by decide +kernel
theorem dL_law_587 : decode cL_law 587 = .ok (.laload, 1) := by decide +kernel
theorem dL_law_588 : decode cL_law 588 = .ok (.iload 6, 2) := by decide +kernel
theorem dL_law_590 : decode cL_law 590 = .ok (.i2l, 1) := by decide +kernel
theorem dL_law_591 : decode cL_law 591 = .ok (.lcmp, 1) := by decide +kernel
theorem dL_law_592 : decode cL_law 592 = .ok (.ifCond .eq 5, 3) := by decide +kernel
theorem dL_law_595 : decode cL_law 595 = .ok (.iconst 0, 1) := by decide +kernel
theorem dL_law_596 : decode cL_law 596 = .ok (.ireturn, 1) := by decide +kernel
theorem dL_law_597 : decode cL_law 597 = .ok (.goto 890, 3) := by decide +kernel
theorem dL_law_600 : decode cL_law 600 = .ok (.aload_n 1, 1) := by decide +kernel
theorem dL_law_601 : decode cL_law 601 = .ok (.aload_n 0, 1) := by decide +kernel
theorem dL_law_602 : decode cL_law 602 = .ok (.iload 4, 2) := by decide +kernel
theorem dL_law_604 : decode cL_law 604 = .ok (.iconst 1, 1) := by decide +kernel
theorem dL_law_605 : decode cL_law 605 = .ok (.iadd, 1) := by decide +kernel
theorem dL_law_606 : decode cL_law 606 = .ok (.iaload, 1) := by decide +kernel
theorem dL_law_607 : decode cL_law 607 = .ok (.aload_n 3, 1) := by decide +kernel
theorem dL_law_608 : decode cL_law 608 = .ok (.invokestatic 116, 3) := by decide +kernel
theorem dL_law_611 : decode cL_law 611 = .ok (.istore 5, 2) := by decide +kernel
theorem dL_law_613 : decode cL_law 613 = .ok (.aload_n 2, 1) := by decide +kernel
theorem dL_law_614 : decode cL_law 614 = .ok (.aload_n 0, 1) := by decide +kernel
theorem dL_law_615 : decode cL_law 615 = .ok (.iload 4, 2) := by decide +kernel
theorem dL_law_617 : decode cL_law 617 = .ok (.iconst 1, 1) := by decide +kernel
theorem dL_law_618 : decode cL_law 618 = .ok (.iadd, 1) := by decide +kernel
theorem dL_law_619 : decode cL_law 619 = .ok (.iaload, 1) := by decide +kernel
theorem dL_law_620 : decode cL_law 620 = .ok (.invokevirtual 118, 3) := by decide +kernel
theorem dL_law_623 : decode cL_law 623 = .ok (.istore 6, 2) := by decide +kernel
theorem dL_law_625 : decode cL_law 625 = .ok (.aload_n 2, 1) := by decide +kernel
theorem dL_law_626 : decode cL_law 626 = .ok (.invokevirtual 92, 3) := by decide +kernel
theorem dL_law_629 : decode cL_law 629 = .ok (.iload 5, 2) := by decide +kernel
theorem dL_law_631 : decode cL_law 631 = .ok (.if_icmp .eq 5, 3) := by decide +kernel
theorem dL_law_634 : decode cL_law 634 = .ok (.iconst 0, 1) := by decide +kernel
theorem dL_law_635 : decode cL_law 635 = .ok (.ireturn, 1) := by decide +kernel
theorem dL_law_636 : decode cL_law 636 = .ok (.iload 5, 2) := by decide +kernel
theorem dL_law_638 : decode cL_law 638 = .ok (.ifCond .ne 15, 3) := by decide +kernel
theorem dL_law_641 : decode cL_law 641 = .ok (.aload_n 3, 1) := by decide +kernel
theorem dL_law_642 : decode cL_law 642 = .ok (.iconst 0, 1) := by decide +kernel
theorem dL_law_643 : decode cL_law 643 = .ok (.laload, 1) := by decide +kernel
theorem dL_law_644 : decode cL_law 644 = .ok (.iload 6, 2) := by decide +kernel
theorem dL_law_646 : decode cL_law 646 = .ok (.i2l, 1) := by decide +kernel
theorem dL_law_647 : decode cL_law 647 = .ok (.lcmp, 1) := by decide +kernel
theorem dL_law_648 : decode cL_law 648 = .ok (.ifCond .eq 5, 3) := by decide +kernel
theorem dL_law_651 : decode cL_law 651 = .ok (.iconst 0, 1) := by decide +kernel
theorem dL_law_652 : decode cL_law 652 = .ok (.ireturn, 1) := by decide +kernel
theorem dL_law_653 : decode cL_law 653 = .ok (.goto 834, 3) := by decide +kernel
theorem dL_law_656 : decode cL_law 656 = .ok (.aload_n 1, 1) := by decide +kernel
theorem dL_law_657 : decode cL_law 657 = .ok (.aload_n 0, 1) := by decide +kernel
theorem dL_law_658 : decode cL_law 658 = .ok (.iload 4, 2) := by decide +kernel
theorem dL_law_660 : decode cL_law 660 = .ok (.iconst 1, 1) := by decide +kernel
theorem dL_law_661 : decode cL_law 661 = .ok (.iadd, 1) := by decide +kernel
theorem dL_law_662 : decode cL_law 662 = .ok (.iaload, 1) := by decide +kernel
theorem dL_law_663 : decode cL_law 663 = .ok (.aload_n 3, 1) := by decide +kernel
theorem dL_law_664 : decode cL_law 664 = .ok (.invokestatic 119, 3) := by decide +kernel
theorem dL_law_667 : decode cL_law 667 = .ok (.istore 5, 2) := by decide +kernel
theorem dL_law_669 : decode cL_law 669 = .ok (.aload_n 2, 1) := by decide +kernel
theorem dL_law_670 : decode cL_law 670 = .ok (.aload_n 0, 1) := by decide +kernel
theorem dL_law_671 : decode cL_law 671 = .ok (.iload 4, 2) := by decide +kernel
theorem dL_law_673 : decode cL_law 673 = .ok (.iconst 1, 1) := by decide +kernel
theorem dL_law_674 : decode cL_law 674 = .ok (.iadd, 1) := by decide +kernel
theorem dL_law_675 : decode cL_law 675 = .ok (.iaload, 1) := by decide +kernel
theorem dL_law_676 : decode cL_law 676 = .ok (.invokevirtual 121, 3) := by decide +kernel
theorem dL_law_679 : decode cL_law 679 = .ok (.istore 6, 2) := by decide +kernel
theorem dL_law_681 : decode cL_law 681 = .ok (.aload_n 2, 1) := by decide +kernel
theorem dL_law_682 : decode cL_law 682 = .ok (.invokevirtual 92, 3) := by decide +kernel
theorem dL_law_685 : decode cL_law 685 = .ok (.iload 5, 2) := by decide +kernel
theorem dL_law_687 : decode cL_law 687 = .ok (.if_icmp .eq 5, 3) := by decide +kernel
theorem dL_law_690 : decode cL_law 690 = .ok (.iconst 0, 1) := by decide +kernel
theorem dL_law_691 : decode cL_law 691 = .ok (.ireturn, 1) := by decide +kernel
theorem dL_law_692 : decode cL_law 692 = .ok (.iload 5, 2) := by decide +kernel
theorem dL_law_694 : decode cL_law 694 = .ok (.ifCond .ne 15, 3) := by decide +kernel
theorem dL_law_697 : decode cL_law 697 = .ok (.aload_n 3, 1) := by decide +kernel
theorem dL_law_698 : decode cL_law 698 = .ok (.iconst 0, 1) := by decide +kernel
theorem dL_law_699 : decode cL_law 699 = .ok (.laload, 1) := by decide +kernel
theorem dL_law_700 : decode cL_law 700 = .ok (.iload 6, 2) := by decide +kernel
theorem dL_law_702 : decode cL_law 702 = .ok (.i2l, 1) := by decide +kernel
theorem dL_law_703 : decode cL_law 703 = .ok (.lcmp, 1) := by decide +kernel
theorem dL_law_704 : decode cL_law 704 = .ok (.ifCond .eq 5, 3) := by decide +kernel
theorem dL_law_707 : decode cL_law 707 = .ok (.iconst 0, 1) := by decide +kernel
theorem dL_law_708 : decode cL_law 708 = .ok (.ireturn, 1) := by decide +kernel
theorem dL_law_709 : decode cL_law 709 = .ok (.goto 778, 3) := by decide +kernel
theorem dL_law_712 : decode cL_law 712 = .ok (.aload_n 1, 1) := by decide +kernel
theorem dL_law_713 : decode cL_law 713 = .ok (.aload_n 0, 1) := by decide +kernel
theorem dL_law_714 : decode cL_law 714 = .ok (.iload 4, 2) := by decide +kernel
theorem dL_law_716 : decode cL_law 716 = .ok (.iconst 1, 1) := by decide +kernel
theorem dL_law_717 : decode cL_law 717 = .ok (.iadd, 1) := by decide +kernel
theorem dL_law_718 : decode cL_law 718 = .ok (.iaload, 1) := by decide +kernel
theorem dL_law_719 : decode cL_law 719 = .ok (.aload_n 3, 1) := by decide +kernel
theorem dL_law_720 : decode cL_law 720 = .ok (.invokestatic 122, 3) := by decide +kernel
theorem dL_law_723 : decode cL_law 723 = .ok (.istore 5, 2) := by decide +kernel
theorem dL_law_725 : decode cL_law 725 = .ok (.aload_n 2, 1) := by decide +kernel
theorem dL_law_726 : decode cL_law 726 = .ok (.aload_n 0, 1) := by decide +kernel
theorem dL_law_727 : decode cL_law 727 = .ok (.iload 4, 2) := by decide +kernel
theorem dL_law_729 : decode cL_law 729 = .ok (.iconst 1, 1) := by decide +kernel
theorem dL_law_730 : decode cL_law 730 = .ok (.iadd, 1) := by decide +kernel
theorem dL_law_731 : decode cL_law 731 = .ok (.iaload, 1) := by decide +kernel
theorem dL_law_732 : decode cL_law 732 = .ok (.invokevirtual 124, 3) := by decide +kernel
theorem dL_law_735 : decode cL_law 735 = .ok (.istore 6, 2) := by decide +kernel
theorem dL_law_737 : decode cL_law 737 = .ok (.aload_n 2, 1) := by decide +kernel
theorem dL_law_738 : decode cL_law 738 = .ok (.invokevirtual 92, 3) := by decide +kernel
theorem dL_law_741 : decode cL_law 741 = .ok (.iload 5, 2) := by decide +kernel
theorem dL_law_743 : decode cL_law 743 = .ok (.if_icmp .eq 5, 3) := by decide +kernel
theorem dL_law_746 : decode cL_law 746 = .ok (.iconst 0, 1) := by decide +kernel
theorem dL_law_747 : decode cL_law 747 = .ok (.ireturn, 1) := by decide +kernel
theorem dL_law_748 : decode cL_law 748 = .ok (.iload 5, 2) := by decide +kernel
theorem dL_law_750 : decode cL_law 750 = .ok (.ifCond .ne 15, 3) := by decide +kernel
theorem dL_law_753 : decode cL_law 753 = .ok (.aload_n 3, 1) := by decide +kernel
theorem dL_law_754 : decode cL_law 754 = .ok (.iconst 0, 1) := by decide +kernel
theorem dL_law_755 : decode cL_law 755 = .ok (.laload, 1) := by decide +kernel
theorem dL_law_756 : decode cL_law 756 = .ok (.iload 6, 2) := by decide +kernel
theorem dL_law_758 : decode cL_law 758 = .ok (.i2l, 1) := by decide +kernel
theorem dL_law_759 : decode cL_law 759 = .ok (.lcmp, 1) := by decide +kernel
theorem dL_law_760 : decode cL_law 760 = .ok (.ifCond .eq 5, 3) := by decide +kernel
theorem dL_law_763 : decode cL_law 763 = .ok (.iconst 0, 1) := by decide +kernel
theorem dL_law_764 : decode cL_law 764 = .ok (.ireturn, 1) := by decide +kernel
theorem dL_law_765 : decode cL_law 765 = .ok (.goto 722, 3) := by decide +kernel
theorem dL_law_768 : decode cL_law 768 = .ok (.aload_n 1, 1) := by decide +kernel
theorem dL_law_769 : decode cL_law 769 = .ok (.aload_n 0, 1) := by decide +kernel
theorem dL_law_770 : decode cL_law 770 = .ok (.iload 4, 2) := by decide +kernel
theorem dL_law_772 : decode cL_law 772 = .ok (.iconst 1, 1) := by decide +kernel
theorem dL_law_773 : decode cL_law 773 = .ok (.iadd, 1) := by decide +kernel
theorem dL_law_774 : decode cL_law 774 = .ok (.iaload, 1) := by decide +kernel
theorem dL_law_775 : decode cL_law 775 = .ok (.aload_n 3, 1) := by decide +kernel
theorem dL_law_776 : decode cL_law 776 = .ok (.invokestatic 125, 3) := by decide +kernel
theorem dL_law_779 : decode cL_law 779 = .ok (.istore 5, 2) := by decide +kernel
theorem dL_law_781 : decode cL_law 781 = .ok (.aload_n 2, 1) := by decide +kernel
theorem dL_law_782 : decode cL_law 782 = .ok (.aload_n 0, 1) := by decide +kernel
theorem dL_law_783 : decode cL_law 783 = .ok (.iload 4, 2) := by decide +kernel
theorem dL_law_785 : decode cL_law 785 = .ok (.iconst 1, 1) := by decide +kernel
theorem dL_law_786 : decode cL_law 786 = .ok (.iadd, 1) := by decide +kernel
theorem dL_law_787 : decode cL_law 787 = .ok (.iaload, 1) := by decide +kernel
theorem dL_law_788 : decode cL_law 788 = .ok (.invokevirtual 127, 3) := by decide +kernel
theorem dL_law_791 : decode cL_law 791 = .ok (.istore 6, 2) := by decide +kernel
theorem dL_law_793 : decode cL_law 793 = .ok (.aload_n 2, 1) := by decide +kernel
theorem dL_law_794 : decode cL_law 794 = .ok (.invokevirtual 92, 3) := by decide +kernel
theorem dL_law_797 : decode cL_law 797 = .ok (.iload 5, 2) := by decide +kernel
theorem dL_law_799 : decode cL_law 799 = .ok (.if_icmp .eq 5, 3) := by decide +kernel
theorem dL_law_802 : decode cL_law 802 = .ok (.iconst 0, 1) := by decide +kernel
theorem dL_law_803 : decode cL_law 803 = .ok (.ireturn, 1) := by decide +kernel
theorem dL_law_804 : decode cL_law 804 = .ok (.iload 5, 2) := by decide +kernel
theorem dL_law_806 : decode cL_law 806 = .ok (.ifCond .ne 15, 3) := by decide +kernel
theorem dL_law_809 : decode cL_law 809 = .ok (.aload_n 3, 1) := by decide +kernel
theorem dL_law_810 : decode cL_law 810 = .ok (.iconst 0, 1) := by decide +kernel
theorem dL_law_811 : decode cL_law 811 = .ok (.laload, 1) := by decide +kernel
theorem dL_law_812 : decode cL_law 812 = .ok (.iload 6, 2) := by decide +kernel
theorem dL_law_814 : decode cL_law 814 = .ok (.i2l, 1) := by decide +kernel
theorem dL_law_815 : decode cL_law 815 = .ok (.lcmp, 1) := by decide +kernel
theorem dL_law_816 : decode cL_law 816 = .ok (.ifCond .eq 5, 3) := by decide +kernel
theorem dL_law_819 : decode cL_law 819 = .ok (.iconst 0, 1) := by decide +kernel
theorem dL_law_820 : decode cL_law 820 = .ok (.ireturn, 1) := by decide +kernel
theorem dL_law_821 : decode cL_law 821 = .ok (.goto 666, 3) := by decide +kernel
theorem dL_law_824 : decode cL_law 824 = .ok (.aload_n 1, 1) := by decide +kernel
theorem dL_law_825 : decode cL_law 825 = .ok (.invokevirtual 128, 3) := by decide +kernel
theorem dL_law_828 : decode cL_law 828 = .ok (.aload_n 2, 1) := by decide +kernel
theorem dL_law_829 : decode cL_law 829 = .ok (.invokevirtual 131, 3) := by decide +kernel
theorem dL_law_832 : decode cL_law 832 = .ok (.if_icmp .eq 655, 3) := by decide +kernel
theorem dL_law_835 : decode cL_law 835 = .ok (.iconst 0, 1) := by decide +kernel
theorem dL_law_836 : decode cL_law 836 = .ok (.ireturn, 1) := by decide +kernel
theorem dL_law_837 : decode cL_law 837 = .ok (.aload_n 1, 1) := by decide +kernel
theorem dL_law_838 : decode cL_law 838 = .ok (.aload_n 0, 1) := by decide +kernel
theorem dL_law_839 : decode cL_law 839 = .ok (.iload 4, 2) := by decide +kernel
theorem dL_law_841 : decode cL_law 841 = .ok (.iconst 1, 1) := by decide +kernel
theorem dL_law_842 : decode cL_law 842 = .ok (.iadd, 1) := by decide +kernel
theorem dL_law_843 : decode cL_law 843 = .ok (.iaload, 1) := by decide +kernel
theorem dL_law_844 : decode cL_law 844 = .ok (.aload_n 0, 1) := by decide +kernel
theorem dL_law_845 : decode cL_law 845 = .ok (.iload 4, 2) := by decide +kernel
theorem dL_law_847 : decode cL_law 847 = .ok (.iconst 2, 1) := by decide +kernel
theorem dL_law_848 : decode cL_law 848 = .ok (.iadd, 1) := by decide +kernel
theorem dL_law_849 : decode cL_law 849 = .ok (.iaload, 1) := by decide +kernel
theorem dL_law_850 : decode cL_law 850 = .ok (.aload_n 3, 1) := by decide +kernel
theorem dL_law_851 : decode cL_law 851 = .ok (.invokestatic 132, 3) := by decide +kernel
theorem dL_law_854 : decode cL_law 854 = .ok (.istore 5, 2) := by decide +kernel
theorem dL_law_856 : decode cL_law 856 = .ok (.aload_n 2, 1) := by decide +kernel
theorem dL_law_857 : decode cL_law 857 = .ok (.aload_n 0, 1) := by decide +kernel
theorem dL_law_858 : decode cL_law 858 = .ok (.iload 4, 2) := by decide +kernel
theorem dL_law_860 : decode cL_law 860 = .ok (.iconst 1, 1) := by decide +kernel
theorem dL_law_861 : decode cL_law 861 = .ok (.iadd, 1) := by decide +kernel
theorem dL_law_862 : decode cL_law 862 = .ok (.iaload, 1) := by decide +kernel
theorem dL_law_863 : decode cL_law 863 = .ok (.aload_n 0, 1) := by decide +kernel
theorem dL_law_864 : decode cL_law 864 = .ok (.iload 4, 2) := by decide +kernel
theorem dL_law_866 : decode cL_law 866 = .ok (.iconst 2, 1) := by decide +kernel
theorem dL_law_867 : decode cL_law 867 = .ok (.iadd, 1) := by decide +kernel
theorem dL_law_868 : decode cL_law 868 = .ok (.iaload, 1) := by decide +kernel
theorem dL_law_869 : decode cL_law 869 = .ok (.invokevirtual 134, 3) := by decide +kernel
theorem dL_law_872 : decode cL_law 872 = .ok (.istore 6, 2) := by decide +kernel
theorem dL_law_874 : decode cL_law 874 = .ok (.aload_n 2, 1) := by decide +kernel
theorem dL_law_875 : decode cL_law 875 = .ok (.invokevirtual 92, 3) := by decide +kernel
theorem dL_law_878 : decode cL_law 878 = .ok (.iload 5, 2) := by decide +kernel
theorem dL_law_880 : decode cL_law 880 = .ok (.if_icmp .eq 5, 3) := by decide +kernel
theorem dL_law_883 : decode cL_law 883 = .ok (.iconst 0, 1) := by decide +kernel
theorem dL_law_884 : decode cL_law 884 = .ok (.ireturn, 1) := by decide +kernel
theorem dL_law_885 : decode cL_law 885 = .ok (.iload 5, 2) := by decide +kernel
theorem dL_law_887 : decode cL_law 887 = .ok (.ifCond .ne 15, 3) := by decide +kernel
theorem dL_law_890 : decode cL_law 890 = .ok (.aload_n 3, 1) := by decide +kernel
theorem dL_law_891 : decode cL_law 891 = .ok (.iconst 0, 1) := by decide +kernel
theorem dL_law_892 : decode cL_law 892 = .ok (.laload, 1) := by decide +kernel
theorem dL_law_893 : decode cL_law 893 = .ok (.iload 6, 2) := by decide +kernel
theorem dL_law_895 : decode cL_law 895 = .ok (.i2l, 1) := by decide +kernel
theorem dL_law_896 : decode cL_law 896 = .ok (.lcmp, 1) := by decide +kernel
theorem dL_law_897 : decode cL_law 897 = .ok (.ifCond .eq 5, 3) := by decide +kernel
theorem dL_law_900 : decode cL_law 900 = .ok (.iconst 0, 1) := by decide +kernel
theorem dL_law_901 : decode cL_law 901 = .ok (.ireturn, 1) := by decide +kernel
theorem dL_law_902 : decode cL_law 902 = .ok (.goto 585, 3) := by decide +kernel
theorem dL_law_905 : decode cL_law 905 = .ok (.aload_n 1, 1) := by decide +kernel
theorem dL_law_906 : decode cL_law 906 = .ok (.aload_n 0, 1) := by decide +kernel
theorem dL_law_907 : decode cL_law 907 = .ok (.iload 4, 2) := by decide +kernel
theorem dL_law_909 : decode cL_law 909 = .ok (.iconst 1, 1) := by decide +kernel
theorem dL_law_910 : decode cL_law 910 = .ok (.iadd, 1) := by decide +kernel
theorem dL_law_911 : decode cL_law 911 = .ok (.iaload, 1) := by decide +kernel
theorem dL_law_912 : decode cL_law 912 = .ok (.aload_n 3, 1) := by decide +kernel
theorem dL_law_913 : decode cL_law 913 = .ok (.invokestatic 135, 3) := by decide +kernel
theorem dL_law_916 : decode cL_law 916 = .ok (.istore 5, 2) := by decide +kernel
theorem dL_law_918 : decode cL_law 918 = .ok (.aload_n 2, 1) := by decide +kernel
theorem dL_law_919 : decode cL_law 919 = .ok (.aload_n 0, 1) := by decide +kernel
theorem dL_law_920 : decode cL_law 920 = .ok (.iload 4, 2) := by decide +kernel
theorem dL_law_922 : decode cL_law 922 = .ok (.iconst 1, 1) := by decide +kernel
theorem dL_law_923 : decode cL_law 923 = .ok (.iadd, 1) := by decide +kernel
theorem dL_law_924 : decode cL_law 924 = .ok (.iaload, 1) := by decide +kernel
theorem dL_law_925 : decode cL_law 925 = .ok (.invokevirtual 137, 3) := by decide +kernel
theorem dL_law_928 : decode cL_law 928 = .ok (.istore 6, 2) := by decide +kernel
theorem dL_law_930 : decode cL_law 930 = .ok (.aload_n 2, 1) := by decide +kernel
theorem dL_law_931 : decode cL_law 931 = .ok (.invokevirtual 92, 3) := by decide +kernel
theorem dL_law_934 : decode cL_law 934 = .ok (.iload 5, 2) := by decide +kernel
theorem dL_law_936 : decode cL_law 936 = .ok (.if_icmp .eq 5, 3) := by decide +kernel
theorem dL_law_939 : decode cL_law 939 = .ok (.iconst 0, 1) := by decide +kernel
theorem dL_law_940 : decode cL_law 940 = .ok (.ireturn, 1) := by decide +kernel
theorem dL_law_941 : decode cL_law 941 = .ok (.iload 5, 2) := by decide +kernel
theorem dL_law_943 : decode cL_law 943 = .ok (.ifCond .ne 15, 3) := by decide +kernel
theorem dL_law_946 : decode cL_law 946 = .ok (.aload_n 3, 1) := by decide +kernel
theorem dL_law_947 : decode cL_law 947 = .ok (.iconst 0, 1) := by decide +kernel
theorem dL_law_948 : decode cL_law 948 = .ok (.laload, 1) := by decide +kernel
theorem dL_law_949 : decode cL_law 949 = .ok (.iload 6, 2) := by decide +kernel
theorem dL_law_951 : decode cL_law 951 = .ok (.i2l, 1) := by decide +kernel
theorem dL_law_952 : decode cL_law 952 = .ok (.lcmp, 1) := by decide +kernel
theorem dL_law_953 : decode cL_law 953 = .ok (.ifCond .eq 5, 3) := by decide +kernel
theorem dL_law_956 : decode cL_law 956 = .ok (.iconst 0, 1) := by decide +kernel
theorem dL_law_957 : decode cL_law 957 = .ok (.ireturn, 1) := by decide +kernel
theorem dL_law_958 : decode cL_law 958 = .ok (.goto 529, 3) := by decide +kernel
theorem dL_law_961 : decode cL_law 961 = .ok (.aload_n 1, 1) := by decide +kernel
theorem dL_law_962 : decode cL_law 962 = .ok (.aload_n 0, 1) := by decide +kernel
theorem dL_law_963 : decode cL_law 963 = .ok (.iload 4, 2) := by decide +kernel
theorem dL_law_965 : decode cL_law 965 = .ok (.iconst 1, 1) := by decide +kernel
theorem dL_law_966 : decode cL_law 966 = .ok (.iadd, 1) := by decide +kernel
theorem dL_law_967 : decode cL_law 967 = .ok (.iaload, 1) := by decide +kernel
theorem dL_law_968 : decode cL_law 968 = .ok (.aload_n 0, 1) := by decide +kernel
theorem dL_law_969 : decode cL_law 969 = .ok (.iload 4, 2) := by decide +kernel
theorem dL_law_971 : decode cL_law 971 = .ok (.iconst 2, 1) := by decide +kernel
theorem dL_law_972 : decode cL_law 972 = .ok (.iadd, 1) := by decide +kernel
theorem dL_law_973 : decode cL_law 973 = .ok (.iaload, 1) := by decide +kernel
theorem dL_law_974 : decode cL_law 974 = .ok (.aload_n 3, 1) := by decide +kernel
theorem dL_law_975 : decode cL_law 975 = .ok (.invokestatic 138, 3) := by decide +kernel
theorem dL_law_978 : decode cL_law 978 = .ok (.istore 5, 2) := by decide +kernel
theorem dL_law_980 : decode cL_law 980 = .ok (.aload_n 2, 1) := by decide +kernel
theorem dL_law_981 : decode cL_law 981 = .ok (.aload_n 0, 1) := by decide +kernel
theorem dL_law_982 : decode cL_law 982 = .ok (.iload 4, 2) := by decide +kernel
theorem dL_law_984 : decode cL_law 984 = .ok (.iconst 1, 1) := by decide +kernel
theorem dL_law_985 : decode cL_law 985 = .ok (.iadd, 1) := by decide +kernel
theorem dL_law_986 : decode cL_law 986 = .ok (.iaload, 1) := by decide +kernel
theorem dL_law_987 : decode cL_law 987 = .ok (.aload_n 0, 1) := by decide +kernel
theorem dL_law_988 : decode cL_law 988 = .ok (.iload 4, 2) := by decide +kernel
theorem dL_law_990 : decode cL_law 990 = .ok (.iconst 2, 1) := by decide +kernel
theorem dL_law_991 : decode cL_law 991 = .ok (.iadd, 1) := by decide +kernel
theorem dL_law_992 : decode cL_law 992 = .ok (.iaload, 1) := by decide +kernel
theorem dL_law_993 : decode cL_law 993 = .ok (.invokevirtual 140, 3) := by decide +kernel
theorem dL_law_996 : decode cL_law 996 = .ok (.istore 6, 2) := by decide +kernel
theorem dL_law_998 : decode cL_law 998 = .ok (.aload_n 2, 1) := by decide +kernel
theorem dL_law_999 : decode cL_law 999 = .ok (.invokevirtual 92, 3) := by decide +kernel
theorem dL_law_1002 : decode cL_law 1002 = .ok (.iload 5, 2) := by decide +kernel
theorem dL_law_1004 : decode cL_law 1004 = .ok (.if_icmp .eq 5, 3) := by decide +kernel
theorem dL_law_1007 : decode cL_law 1007 = .ok (.iconst 0, 1) := by decide +kernel
theorem dL_law_1008 : decode cL_law 1008 = .ok (.ireturn, 1) := by decide +kernel
theorem dL_law_1009 : decode cL_law 1009 = .ok (.iload 5, 2) := by decide +kernel
theorem dL_law_1011 : decode cL_law 1011 = .ok (.ifCond .ne 15, 3) := by decide +kernel
theorem dL_law_1014 : decode cL_law 1014 = .ok (.aload_n 3, 1) := by decide +kernel
theorem dL_law_1015 : decode cL_law 1015 = .ok (.iconst 0, 1) := by decide +kernel
theorem dL_law_1016 : decode cL_law 1016 = .ok (.laload, 1) := by decide +kernel
theorem dL_law_1017 : decode cL_law 1017 = .ok (.iload 6, 2) := by decide +kernel
theorem dL_law_1019 : decode cL_law 1019 = .ok (.i2l, 1) := by decide +kernel
theorem dL_law_1020 : decode cL_law 1020 = .ok (.lcmp, 1) := by decide +kernel
theorem dL_law_1021 : decode cL_law 1021 = .ok (.ifCond .eq 5, 3) := by decide +kernel
theorem dL_law_1024 : decode cL_law 1024 = .ok (.iconst 0, 1) := by decide +kernel
theorem dL_law_1025 : decode cL_law 1025 = .ok (.ireturn, 1) := by decide +kernel
theorem dL_law_1026 : decode cL_law 1026 = .ok (.goto 461, 3) := by decide +kernel
theorem dL_law_1029 : decode cL_law 1029 = .ok (.aload_n 1, 1) := by decide +kernel
theorem dL_law_1030 : decode cL_law 1030 = .ok (.aload_n 0, 1) := by decide +kernel
theorem dL_law_1031 : decode cL_law 1031 = .ok (.iload 4, 2) := by decide +kernel
theorem dL_law_1033 : decode cL_law 1033 = .ok (.iconst 1, 1) := by decide +kernel
theorem dL_law_1034 : decode cL_law 1034 = .ok (.iadd, 1) := by decide +kernel
theorem dL_law_1035 : decode cL_law 1035 = .ok (.iaload, 1) := by decide +kernel
theorem dL_law_1036 : decode cL_law 1036 = .ok (.aload_n 3, 1) := by decide +kernel
theorem dL_law_1037 : decode cL_law 1037 = .ok (.invokestatic 141, 3) := by decide +kernel
theorem dL_law_1040 : decode cL_law 1040 = .ok (.istore 5, 2) := by decide +kernel
theorem dL_law_1042 : decode cL_law 1042 = .ok (.aload_n 2, 1) := by decide +kernel
theorem dL_law_1043 : decode cL_law 1043 = .ok (.aload_n 0, 1) := by decide +kernel
theorem dL_law_1044 : decode cL_law 1044 = .ok (.iload 4, 2) := by decide +kernel
theorem dL_law_1046 : decode cL_law 1046 = .ok (.iconst 1, 1) := by decide +kernel
theorem dL_law_1047 : decode cL_law 1047 = .ok (.iadd, 1) := by decide +kernel
theorem dL_law_1048 : decode cL_law 1048 = .ok (.iaload, 1) := by decide +kernel
theorem dL_law_1049 : decode cL_law 1049 = .ok (.invokevirtual 143, 3) := by decide +kernel
theorem dL_law_1052 : decode cL_law 1052 = .ok (.istore 6, 2) := by decide +kernel
theorem dL_law_1054 : decode cL_law 1054 = .ok (.aload_n 2, 1) := by decide +kernel
theorem dL_law_1055 : decode cL_law 1055 = .ok (.invokevirtual 92, 3) := by decide +kernel
theorem dL_law_1058 : decode cL_law 1058 = .ok (.iload 5, 2) := by decide +kernel
theorem dL_law_1060 : decode cL_law 1060 = .ok (.if_icmp .eq 5, 3) := by decide +kernel
theorem dL_law_1063 : decode cL_law 1063 = .ok (.iconst 0, 1) := by decide +kernel
theorem dL_law_1064 : decode cL_law 1064 = .ok (.ireturn, 1) := by decide +kernel
theorem dL_law_1065 : decode cL_law 1065 = .ok (.iload 5, 2) := by decide +kernel
theorem dL_law_1067 : decode cL_law 1067 = .ok (.ifCond .ne 15, 3) := by decide +kernel
theorem dL_law_1070 : decode cL_law 1070 = .ok (.aload_n 3, 1) := by decide +kernel
theorem dL_law_1071 : decode cL_law 1071 = .ok (.iconst 0, 1) := by decide +kernel
theorem dL_law_1072 : decode cL_law 1072 = .ok (.laload, 1) := by decide +kernel
theorem dL_law_1073 : decode cL_law 1073 = .ok (.iload 6, 2) := by decide +kernel
theorem dL_law_1075 : decode cL_law 1075 = .ok (.i2l, 1) := by decide +kernel
theorem dL_law_1076 : decode cL_law 1076 = .ok (.lcmp, 1) := by decide +kernel
theorem dL_law_1077 : decode cL_law 1077 = .ok (.ifCond .eq 5, 3) := by decide +kernel
theorem dL_law_1080 : decode cL_law 1080 = .ok (.iconst 0, 1) := by decide +kernel
theorem dL_law_1081 : decode cL_law 1081 = .ok (.ireturn, 1) := by decide +kernel
theorem dL_law_1082 : decode cL_law 1082 = .ok (.goto 405, 3) := by decide +kernel
theorem dL_law_1085 : decode cL_law 1085 = .ok (.aload_n 1, 1) := by decide +kernel
theorem dL_law_1086 : decode cL_law 1086 = .ok (.aload_n 0, 1) := by decide +kernel
theorem dL_law_1087 : decode cL_law 1087 = .ok (.iload 4, 2) := by decide +kernel
theorem dL_law_1089 : decode cL_law 1089 = .ok (.iconst 1, 1) := by decide +kernel
theorem dL_law_1090 : decode cL_law 1090 = .ok (.iadd, 1) := by decide +kernel
theorem dL_law_1091 : decode cL_law 1091 = .ok (.iaload, 1) := by decide +kernel
theorem dL_law_1092 : decode cL_law 1092 = .ok (.aload_n 3, 1) := by decide +kernel
theorem dL_law_1093 : decode cL_law 1093 = .ok (.invokestatic 144, 3) := by decide +kernel
theorem dL_law_1096 : decode cL_law 1096 = .ok (.istore 5, 2) := by decide +kernel
theorem dL_law_1098 : decode cL_law 1098 = .ok (.aload_n 2, 1) := by decide +kernel
theorem dL_law_1099 : decode cL_law 1099 = .ok (.aload_n 0, 1) := by decide +kernel
theorem dL_law_1100 : decode cL_law 1100 = .ok (.iload 4, 2) := by decide +kernel
theorem dL_law_1102 : decode cL_law 1102 = .ok (.iconst 1, 1) := by decide +kernel
theorem dL_law_1103 : decode cL_law 1103 = .ok (.iadd, 1) := by decide +kernel
theorem dL_law_1104 : decode cL_law 1104 = .ok (.iaload, 1) := by decide +kernel
theorem dL_law_1105 : decode cL_law 1105 = .ok (.invokevirtual 146, 3) := by decide +kernel
theorem dL_law_1108 : decode cL_law 1108 = .ok (.istore 6, 2) := by decide +kernel
theorem dL_law_1110 : decode cL_law 1110 = .ok (.aload_n 2, 1) := by decide +kernel
theorem dL_law_1111 : decode cL_law 1111 = .ok (.invokevirtual 92, 3) := by decide +kernel
theorem dL_law_1114 : decode cL_law 1114 = .ok (.iload 5, 2) := by decide +kernel
theorem dL_law_1116 : decode cL_law 1116 = .ok (.if_icmp .eq 5, 3) := by decide +kernel
theorem dL_law_1119 : decode cL_law 1119 = .ok (.iconst 0, 1) := by decide +kernel
theorem dL_law_1120 : decode cL_law 1120 = .ok (.ireturn, 1) := by decide +kernel
theorem dL_law_1121 : decode cL_law 1121 = .ok (.iload 5, 2) := by decide +kernel
theorem dL_law_1123 : decode cL_law 1123 = .ok (.ifCond .ne 15, 3) := by decide +kernel
theorem dL_law_1126 : decode cL_law 1126 = .ok (.aload_n 3, 1) := by decide +kernel
theorem dL_law_1127 : decode cL_law 1127 = .ok (.iconst 0, 1) := by decide +kernel
theorem dL_law_1128 : decode cL_law 1128 = .ok (.laload, 1) := by decide +kernel
theorem dL_law_1129 : decode cL_law 1129 = .ok (.iload 6, 2) := by decide +kernel
theorem dL_law_1131 : decode cL_law 1131 = .ok (.i2l, 1) := by decide +kernel
theorem dL_law_1132 : decode cL_law 1132 = .ok (.lcmp, 1) := by decide +kernel
theorem dL_law_1133 : decode cL_law 1133 = .ok (.ifCond .eq 5, 3) := by decide +kernel
theorem dL_law_1136 : decode cL_law 1136 = .ok (.iconst 0, 1) := by decide +kernel
theorem dL_law_1137 : decode cL_law 1137 = .ok (.ireturn, 1) := by decide +kernel
theorem dL_law_1138 : decode cL_law 1138 = .ok (.goto 349, 3) := by decide +kernel
theorem dL_law_1141 : decode cL_law 1141 = .ok (.aload_n 1, 1) := by decide +kernel
theorem dL_law_1142 : decode cL_law 1142 = .ok (.aload_n 0, 1) := by decide +kernel
theorem dL_law_1143 : decode cL_law 1143 = .ok (.iload 4, 2) := by decide +kernel
theorem dL_law_1145 : decode cL_law 1145 = .ok (.iconst 1, 1) := by decide +kernel
theorem dL_law_1146 : decode cL_law 1146 = .ok (.iadd, 1) := by decide +kernel
theorem dL_law_1147 : decode cL_law 1147 = .ok (.iaload, 1) := by decide +kernel
theorem dL_law_1148 : decode cL_law 1148 = .ok (.aload_n 3, 1) := by decide +kernel
theorem dL_law_1149 : decode cL_law 1149 = .ok (.invokestatic 147, 3) := by decide +kernel
theorem dL_law_1152 : decode cL_law 1152 = .ok (.istore 5, 2) := by decide +kernel
theorem dL_law_1154 : decode cL_law 1154 = .ok (.aload_n 2, 1) := by decide +kernel
theorem dL_law_1155 : decode cL_law 1155 = .ok (.aload_n 0, 1) := by decide +kernel
theorem dL_law_1156 : decode cL_law 1156 = .ok (.iload 4, 2) := by decide +kernel
theorem dL_law_1158 : decode cL_law 1158 = .ok (.iconst 1, 1) := by decide +kernel
theorem dL_law_1159 : decode cL_law 1159 = .ok (.iadd, 1) := by decide +kernel
theorem dL_law_1160 : decode cL_law 1160 = .ok (.iaload, 1) := by decide +kernel
theorem dL_law_1161 : decode cL_law 1161 = .ok (.invokevirtual 149, 3) := by decide +kernel
theorem dL_law_1164 : decode cL_law 1164 = .ok (.istore 6, 2) := by decide +kernel
theorem dL_law_1166 : decode cL_law 1166 = .ok (.aload_n 2, 1) := by decide +kernel
theorem dL_law_1167 : decode cL_law 1167 = .ok (.invokevirtual 92, 3) := by decide +kernel
theorem dL_law_1170 : decode cL_law 1170 = .ok (.iload 5, 2) := by decide +kernel
theorem dL_law_1172 : decode cL_law 1172 = .ok (.if_icmp .eq 5, 3) := by decide +kernel
theorem dL_law_1175 : decode cL_law 1175 = .ok (.iconst 0, 1) := by decide +kernel
theorem dL_law_1176 : decode cL_law 1176 = .ok (.ireturn, 1) := by decide +kernel
theorem dL_law_1177 : decode cL_law 1177 = .ok (.iload 5, 2) := by decide +kernel
theorem dL_law_1179 : decode cL_law 1179 = .ok (.ifCond .ne 15, 3) := by decide +kernel
theorem dL_law_1182 : decode cL_law 1182 = .ok (.aload_n 3, 1) := by decide +kernel
theorem dL_law_1183 : decode cL_law 1183 = .ok (.iconst 0, 1) := by decide +kernel
theorem dL_law_1184 : decode cL_law 1184 = .ok (.laload, 1) := by decide +kernel
theorem dL_law_1185 : decode cL_law 1185 = .ok (.iload 6, 2) := by decide +kernel
theorem dL_law_1187 : decode cL_law 1187 = .ok (.i2l, 1) := by decide +kernel
theorem dL_law_1188 : decode cL_law 1188 = .ok (.lcmp, 1) := by decide +kernel
theorem dL_law_1189 : decode cL_law 1189 = .ok (.ifCond .eq 5, 3) := by decide +kernel
theorem dL_law_1192 : decode cL_law 1192 = .ok (.iconst 0, 1) := by decide +kernel
theorem dL_law_1193 : decode cL_law 1193 = .ok (.ireturn, 1) := by decide +kernel
theorem dL_law_1194 : decode cL_law 1194 = .ok (.goto 293, 3) := by decide +kernel
theorem dL_law_1197 : decode cL_law 1197 = .ok (.aload_n 1, 1) := by decide +kernel
theorem dL_law_1198 : decode cL_law 1198 = .ok (.aload_n 0, 1) := by decide +kernel
theorem dL_law_1199 : decode cL_law 1199 = .ok (.iload 4, 2) := by decide +kernel
theorem dL_law_1201 : decode cL_law 1201 = .ok (.iconst 1, 1) := by decide +kernel
theorem dL_law_1202 : decode cL_law 1202 = .ok (.iadd, 1) := by decide +kernel
theorem dL_law_1203 : decode cL_law 1203 = .ok (.iaload, 1) := by decide +kernel
theorem dL_law_1204 : decode cL_law 1204 = .ok (.aload_n 0, 1) := by decide +kernel
theorem dL_law_1205 : decode cL_law 1205 = .ok (.iload 4, 2) := by decide +kernel
theorem dL_law_1207 : decode cL_law 1207 = .ok (.iconst 2, 1) := by decide +kernel
theorem dL_law_1208 : decode cL_law 1208 = .ok (.iadd, 1) := by decide +kernel
theorem dL_law_1209 : decode cL_law 1209 = .ok (.iaload, 1) := by decide +kernel
theorem dL_law_1210 : decode cL_law 1210 = .ok (.aload_n 3, 1) := by decide +kernel
theorem dL_law_1211 : decode cL_law 1211 = .ok (.invokestatic 150, 3) := by decide +kernel
theorem dL_law_1214 : decode cL_law 1214 = .ok (.istore 5, 2) := by decide +kernel
theorem dL_law_1216 : decode cL_law 1216 = .ok (.aload_n 2, 1) := by decide +kernel
theorem dL_law_1217 : decode cL_law 1217 = .ok (.aload_n 0, 1) := by decide +kernel
theorem dL_law_1218 : decode cL_law 1218 = .ok (.iload 4, 2) := by decide +kernel
theorem dL_law_1220 : decode cL_law 1220 = .ok (.iconst 1, 1) := by decide +kernel
theorem dL_law_1221 : decode cL_law 1221 = .ok (.iadd, 1) := by decide +kernel
theorem dL_law_1222 : decode cL_law 1222 = .ok (.iaload, 1) := by decide +kernel
theorem dL_law_1223 : decode cL_law 1223 = .ok (.aload_n 0, 1) := by decide +kernel
theorem dL_law_1224 : decode cL_law 1224 = .ok (.iload 4, 2) := by decide +kernel
theorem dL_law_1226 : decode cL_law 1226 = .ok (.iconst 2, 1) := by decide +kernel
theorem dL_law_1227 : decode cL_law 1227 = .ok (.iadd, 1) := by decide +kernel
theorem dL_law_1228 : decode cL_law 1228 = .ok (.iaload, 1) := by decide +kernel
theorem dL_law_1229 : decode cL_law 1229 = .ok (.invokevirtual 152, 3) := by decide +kernel
theorem dL_law_1232 : decode cL_law 1232 = .ok (.istore 6, 2) := by decide +kernel
theorem dL_law_1234 : decode cL_law 1234 = .ok (.aload_n 2, 1) := by decide +kernel
theorem dL_law_1235 : decode cL_law 1235 = .ok (.invokevirtual 92, 3) := by decide +kernel
theorem dL_law_1238 : decode cL_law 1238 = .ok (.iload 5, 2) := by decide +kernel
theorem dL_law_1240 : decode cL_law 1240 = .ok (.if_icmp .eq 5, 3) := by decide +kernel
theorem dL_law_1243 : decode cL_law 1243 = .ok (.iconst 0, 1) := by decide +kernel
theorem dL_law_1244 : decode cL_law 1244 = .ok (.ireturn, 1) := by decide +kernel
theorem dL_law_1245 : decode cL_law 1245 = .ok (.iload 5, 2) := by decide +kernel
theorem dL_law_1247 : decode cL_law 1247 = .ok (.ifCond .ne 15, 3) := by decide +kernel
theorem dL_law_1250 : decode cL_law 1250 = .ok (.aload_n 3, 1) := by decide +kernel
theorem dL_law_1251 : decode cL_law 1251 = .ok (.iconst 0, 1) := by decide +kernel
theorem dL_law_1252 : decode cL_law 1252 = .ok (.laload, 1) := by decide +kernel
theorem dL_law_1253 : decode cL_law 1253 = .ok (.iload 6, 2) := by decide +kernel
theorem dL_law_1255 : decode cL_law 1255 = .ok (.i2l, 1) := by decide +kernel
theorem dL_law_1256 : decode cL_law 1256 = .ok (.lcmp, 1) := by decide +kernel
theorem dL_law_1257 : decode cL_law 1257 = .ok (.ifCond .eq 5, 3) := by decide +kernel
theorem dL_law_1260 : decode cL_law 1260 = .ok (.iconst 0, 1) := by decide +kernel
theorem dL_law_1261 : decode cL_law 1261 = .ok (.ireturn, 1) := by decide +kernel
theorem dL_law_1262 : decode cL_law 1262 = .ok (.goto 225, 3) := by decide +kernel
theorem dL_law_1265 : decode cL_law 1265 = .ok (.aload_n 1, 1) := by decide +kernel
theorem dL_law_1266 : decode cL_law 1266 = .ok (.aload_n 0, 1) := by decide +kernel
theorem dL_law_1267 : decode cL_law 1267 = .ok (.iload 4, 2) := by decide +kernel
theorem dL_law_1269 : decode cL_law 1269 = .ok (.iconst 1, 1) := by decide +kernel
theorem dL_law_1270 : decode cL_law 1270 = .ok (.iadd, 1) := by decide +kernel
theorem dL_law_1271 : decode cL_law 1271 = .ok (.iaload, 1) := by decide +kernel
theorem dL_law_1272 : decode cL_law 1272 = .ok (.aload_n 3, 1) := by decide +kernel
theorem dL_law_1273 : decode cL_law 1273 = .ok (.invokestatic 153, 3) := by decide +kernel
theorem dL_law_1276 : decode cL_law 1276 = .ok (.istore 5, 2) := by decide +kernel
theorem dL_law_1278 : decode cL_law 1278 = .ok (.aload_n 2, 1) := by decide +kernel
theorem dL_law_1279 : decode cL_law 1279 = .ok (.aload_n 0, 1) := by decide +kernel
theorem dL_law_1280 : decode cL_law 1280 = .ok (.iload 4, 2) := by decide +kernel
theorem dL_law_1282 : decode cL_law 1282 = .ok (.iconst 1, 1) := by decide +kernel
theorem dL_law_1283 : decode cL_law 1283 = .ok (.iadd, 1) := by decide +kernel
theorem dL_law_1284 : decode cL_law 1284 = .ok (.iaload, 1) := by decide +kernel
theorem dL_law_1285 : decode cL_law 1285 = .ok (.invokevirtual 155, 3) := by decide +kernel
theorem dL_law_1288 : decode cL_law 1288 = .ok (.istore 6, 2) := by decide +kernel
theorem dL_law_1290 : decode cL_law 1290 = .ok (.aload_n 2, 1) := by decide +kernel
theorem dL_law_1291 : decode cL_law 1291 = .ok (.invokevirtual 92, 3) := by decide +kernel
theorem dL_law_1294 : decode cL_law 1294 = .ok (.iload 5, 2) := by decide +kernel
theorem dL_law_1296 : decode cL_law 1296 = .ok (.if_icmp .eq 5, 3) := by decide +kernel
theorem dL_law_1299 : decode cL_law 1299 = .ok (.iconst 0, 1) := by decide +kernel
theorem dL_law_1300 : decode cL_law 1300 = .ok (.ireturn, 1) := by decide +kernel
theorem dL_law_1301 : decode cL_law 1301 = .ok (.iload 5, 2) := by decide +kernel
theorem dL_law_1303 : decode cL_law 1303 = .ok (.ifCond .ne 15, 3) := by decide +kernel
theorem dL_law_1306 : decode cL_law 1306 = .ok (.aload_n 3, 1) := by decide +kernel
theorem dL_law_1307 : decode cL_law 1307 = .ok (.iconst 0, 1) := by decide +kernel
theorem dL_law_1308 : decode cL_law 1308 = .ok (.laload, 1) := by decide +kernel
theorem dL_law_1309 : decode cL_law 1309 = .ok (.iload 6, 2) := by decide +kernel
theorem dL_law_1311 : decode cL_law 1311 = .ok (.i2l, 1) := by decide +kernel
theorem dL_law_1312 : decode cL_law 1312 = .ok (.lcmp, 1) := by decide +kernel
theorem dL_law_1313 : decode cL_law 1313 = .ok (.ifCond .eq 5, 3) := by decide +kernel
theorem dL_law_1316 : decode cL_law 1316 = .ok (.iconst 0, 1) := by decide +kernel
theorem dL_law_1317 : decode cL_law 1317 = .ok (.ireturn, 1) := by decide +kernel
theorem dL_law_1318 : decode cL_law 1318 = .ok (.goto 169, 3) := by decide +kernel
theorem dL_law_1321 : decode cL_law 1321 = .ok (.aload_n 1, 1) := by decide +kernel
theorem dL_law_1322 : decode cL_law 1322 = .ok (.invokevirtual 156, 3) := by decide +kernel
theorem dL_law_1325 : decode cL_law 1325 = .ok (.aload_n 2, 1) := by decide +kernel
theorem dL_law_1326 : decode cL_law 1326 = .ok (.invokevirtual 159, 3) := by decide +kernel
theorem dL_law_1329 : decode cL_law 1329 = .ok (.if_icmp .eq 158, 3) := by decide +kernel
theorem dL_law_1332 : decode cL_law 1332 = .ok (.iconst 0, 1) := by decide +kernel
theorem dL_law_1333 : decode cL_law 1333 = .ok (.ireturn, 1) := by decide +kernel
theorem dL_law_1334 : decode cL_law 1334 = .ok (.aload_n 1, 1) := by decide +kernel
theorem dL_law_1335 : decode cL_law 1335 = .ok (.invokevirtual 160, 3) := by decide +kernel
theorem dL_law_1338 : decode cL_law 1338 = .ok (.aload_n 2, 1) := by decide +kernel
theorem dL_law_1339 : decode cL_law 1339 = .ok (.invokevirtual 163, 3) := by decide +kernel
theorem dL_law_1342 : decode cL_law 1342 = .ok (.if_icmp .eq 145, 3) := by decide +kernel
theorem dL_law_1345 : decode cL_law 1345 = .ok (.iconst 0, 1) := by decide +kernel
theorem dL_law_1346 : decode cL_law 1346 = .ok (.ireturn, 1) := by decide +kernel
theorem dL_law_1347 : decode cL_law 1347 = .ok (.aload_n 1, 1) := by decide +kernel
theorem dL_law_1348 : decode cL_law 1348 = .ok (.aload_n 0, 1) := by decide +kernel
theorem dL_law_1349 : decode cL_law 1349 = .ok (.iload 4, 2) := by decide +kernel
theorem dL_law_1351 : decode cL_law 1351 = .ok (.iconst 1, 1) := by decide +kernel
theorem dL_law_1352 : decode cL_law 1352 = .ok (.iadd, 1) := by decide +kernel
theorem dL_law_1353 : decode cL_law 1353 = .ok (.iaload, 1) := by decide +kernel
theorem dL_law_1354 : decode cL_law 1354 = .ok (.aload_n 3, 1) := by decide +kernel
theorem dL_law_1355 : decode cL_law 1355 = .ok (.invokestatic 164, 3) := by decide +kernel
theorem dL_law_1358 : decode cL_law 1358 = .ok (.istore 5, 2) := by decide +kernel
theorem dL_law_1360 : decode cL_law 1360 = .ok (.aload_n 2, 1) := by decide +kernel
theorem dL_law_1361 : decode cL_law 1361 = .ok (.aload_n 0, 1) := by decide +kernel
theorem dL_law_1362 : decode cL_law 1362 = .ok (.iload 4, 2) := by decide +kernel
theorem dL_law_1364 : decode cL_law 1364 = .ok (.iconst 1, 1) := by decide +kernel
theorem dL_law_1365 : decode cL_law 1365 = .ok (.iadd, 1) := by decide +kernel
theorem dL_law_1366 : decode cL_law 1366 = .ok (.iaload, 1) := by decide +kernel
theorem dL_law_1367 : decode cL_law 1367 = .ok (.invokevirtual 166, 3) := by decide +kernel
theorem dL_law_1370 : decode cL_law 1370 = .ok (.istore 6, 2) := by decide +kernel
theorem dL_law_1372 : decode cL_law 1372 = .ok (.aload_n 2, 1) := by decide +kernel
theorem dL_law_1373 : decode cL_law 1373 = .ok (.invokevirtual 92, 3) := by decide +kernel
theorem dL_law_1376 : decode cL_law 1376 = .ok (.iload 5, 2) := by decide +kernel
theorem dL_law_1378 : decode cL_law 1378 = .ok (.if_icmp .eq 5, 3) := by decide +kernel
theorem dL_law_1381 : decode cL_law 1381 = .ok (.iconst 0, 1) := by decide +kernel
theorem dL_law_1382 : decode cL_law 1382 = .ok (.ireturn, 1) := by decide +kernel
theorem dL_law_1383 : decode cL_law 1383 = .ok (.iload 5, 2) := by decide +kernel
theorem dL_law_1385 : decode cL_law 1385 = .ok (.ifCond .ne 15, 3) := by decide +kernel
theorem dL_law_1388 : decode cL_law 1388 = .ok (.aload_n 3, 1) := by decide +kernel
theorem dL_law_1389 : decode cL_law 1389 = .ok (.iconst 0, 1) := by decide +kernel
theorem dL_law_1390 : decode cL_law 1390 = .ok (.laload, 1) := by decide +kernel
theorem dL_law_1391 : decode cL_law 1391 = .ok (.iload 6, 2) := by decide +kernel
theorem dL_law_1393 : decode cL_law 1393 = .ok (.i2l, 1) := by decide +kernel
theorem dL_law_1394 : decode cL_law 1394 = .ok (.lcmp, 1) := by decide +kernel
theorem dL_law_1395 : decode cL_law 1395 = .ok (.ifCond .eq 5, 3) := by decide +kernel
theorem dL_law_1398 : decode cL_law 1398 = .ok (.iconst 0, 1) := by decide +kernel
theorem dL_law_1399 : decode cL_law 1399 = .ok (.ireturn, 1) := by decide +kernel
theorem dL_law_1400 : decode cL_law 1400 = .ok (.goto 87, 3) := by decide +kernel
theorem dL_law_1403 : decode cL_law 1403 = .ok (.aload_n 1, 1) := by decide +kernel
theorem dL_law_1404 : decode cL_law 1404 = .ok (.invokevirtual 167, 3) := by decide +kernel
theorem dL_law_1407 : decode cL_law 1407 = .ok (.aload_n 2, 1) := by decide +kernel
theorem dL_law_1408 : decode cL_law 1408 = .ok (.invokevirtual 170, 3) := by decide +kernel
theorem dL_law_1411 : decode cL_law 1411 = .ok (.if_icmp .eq 76, 3) := by decide +kernel
theorem dL_law_1414 : decode cL_law 1414 = .ok (.iconst 0, 1) := by decide +kernel
theorem dL_law_1415 : decode cL_law 1415 = .ok (.ireturn, 1) := by decide +kernel
theorem dL_law_1416 : decode cL_law 1416 = .ok (.aload_n 1, 1) := by decide +kernel
theorem dL_law_1417 : decode cL_law 1417 = .ok (.invokevirtual 171, 3) := by decide +kernel
theorem dL_law_1420 : decode cL_law 1420 = .ok (.aload_n 2, 1) := by decide +kernel
theorem dL_law_1421 : decode cL_law 1421 = .ok (.invokevirtual 174, 3) := by decide +kernel
theorem dL_law_1424 : decode cL_law 1424 = .ok (.if_icmp .eq 63, 3) := by decide +kernel
theorem dL_law_1427 : decode cL_law 1427 = .ok (.iconst 0, 1) := by decide +kernel
theorem dL_law_1428 : decode cL_law 1428 = .ok (.ireturn, 1) := by decide +kernel
theorem dL_law_1429 : decode cL_law 1429 = .ok (.aload_n 1, 1) := by decide +kernel
theorem dL_law_1430 : decode cL_law 1430 = .ok (.aload_n 3, 1) := by decide +kernel
theorem dL_law_1431 : decode cL_law 1431 = .ok (.invokestatic 175, 3) := by decide +kernel
theorem dL_law_1434 : decode cL_law 1434 = .ok (.istore 5, 2) := by decide +kernel
theorem dL_law_1436 : decode cL_law 1436 = .ok (.aload_n 2, 1) := by decide +kernel
theorem dL_law_1437 : decode cL_law 1437 = .ok (.invokevirtual 177, 3) := by decide +kernel
theorem dL_law_1440 : decode cL_law 1440 = .ok (.istore 6, 2) := by decide +kernel
theorem dL_law_1442 : decode cL_law 1442 = .ok (.aload_n 2, 1) := by decide +kernel
theorem dL_law_1443 : decode cL_law 1443 = .ok (.invokevirtual 92, 3) := by decide +kernel
theorem dL_law_1446 : decode cL_law 1446 = .ok (.iload 5, 2) := by decide +kernel
theorem dL_law_1448 : decode cL_law 1448 = .ok (.if_icmp .eq 5, 3) := by decide +kernel
theorem dL_law_1451 : decode cL_law 1451 = .ok (.iconst 0, 1) := by decide +kernel
theorem dL_law_1452 : decode cL_law 1452 = .ok (.ireturn, 1) := by decide +kernel
theorem dL_law_1453 : decode cL_law 1453 = .ok (.iload 5, 2) := by decide +kernel
theorem dL_law_1455 : decode cL_law 1455 = .ok (.ifCond .ne 15, 3) := by decide +kernel
theorem dL_law_1458 : decode cL_law 1458 = .ok (.aload_n 3, 1) := by decide +kernel
theorem dL_law_1459 : decode cL_law 1459 = .ok (.iconst 0, 1) := by decide +kernel
theorem dL_law_1460 : decode cL_law 1460 = .ok (.laload, 1) := by decide +kernel
theorem dL_law_1461 : decode cL_law 1461 = .ok (.iload 6, 2) := by decide +kernel
theorem dL_law_1463 : decode cL_law 1463 = .ok (.i2l, 1) := by decide +kernel
theorem dL_law_1464 : decode cL_law 1464 = .ok (.lcmp, 1) := by decide +kernel
theorem dL_law_1465 : decode cL_law 1465 = .ok (.ifCond .eq 5, 3) := by decide +kernel
theorem dL_law_1468 : decode cL_law 1468 = .ok (.iconst 0, 1) := by decide +kernel
theorem dL_law_1469 : decode cL_law 1469 = .ok (.ireturn, 1) := by decide +kernel
theorem dL_law_1470 : decode cL_law 1470 = .ok (.goto 17, 3) := by decide +kernel
theorem dL_law_1473 : decode cL_law 1473 = .ok (.aload_n 1, 1) := by decide +kernel
theorem dL_law_1474 : decode cL_law 1474 = .ok (.invokevirtual 178, 3) := by decide +kernel
theorem dL_law_1477 : decode cL_law 1477 = .ok (.aload_n 2, 1) := by decide +kernel
theorem dL_law_1478 : decode cL_law 1478 = .ok (.invokevirtual 182, 3) := by decide +kernel
theorem dL_law_1481 : decode cL_law 1481 = .ok (.lcmp, 1) := by decide +kernel
theorem dL_law_1482 : decode cL_law 1482 = .ok (.ifCond .eq 5, 3) := by decide +kernel
theorem dL_law_1485 : decode cL_law 1485 = .ok (.iconst 0, 1) := by decide +kernel
theorem dL_law_1486 : decode cL_law 1486 = .ok (.ireturn, 1) := by decide +kernel
theorem dL_law_1487 : decode cL_law 1487 = .ok (.iinc 4 4, 3) := by decide +kernel
theorem dL_law_1490 : decode cL_law 1490 = .ok (.goto (-1467), 3) := by decide +kernel
theorem dL_law_1493 : decode cL_law 1493 = .ok (.iconst 1, 1) := by decide +kernel
theorem dL_law_1494 : decode cL_law 1494 = .ok (.ireturn, 1) := by decide +kernel
abbrev vwCl : List vw_C := [(RX2, TX2, 6), (RX3, TX3, 2), (RX4, TX4, 8), (RX5, TX5, 7), (RX6, TX6, 4), (RX7, TX7, 9)]
/-! ===== END printed: names ===== -/
end
section
/-! BASE: the environment, the state of the system as numbers, the world of its 90 cells, and the rows of the machine said over it. -/
/-- the words of the tables that ride along from state to state -/
def pw_tbl : List Cond := lw_tbl.filter goodWord
theorem pw_good {w : Cond} (h : w ∈ pw_tbl) : (w.onTables && w.keeps) = true ∨ ∃ ty, w = .arrayClass ty := good_of_word (List.mem_filter.mp h).2
theorem pw_in {w : Cond} (i : Nat) (h : lw_tbl[i]? = some w) (hg : goodWord w = true) : w ∈ pw_tbl := List.mem_filter.mpr ⟨List.mem_of_getElem? h, hg⟩
/-- the environment: numbers of classes and slots, array classes, addresses of the cells, the base state, its arguments, addresses of the commands -/
abbrev GE : Type := va_G × (Nat → ClassId) × (Nat → Nat) × State × Array Value × (Nat → Nat)
abbrev gD (E : GE) : va_G := E.1
abbrev gC (E : GE) : Nat → ClassId := E.2.1
abbrev gA (E : GE) : Nat → Nat := E.2.2.1
abbrev gS (E : GE) : State := E.2.2.2.1
abbrev gV (E : GE) : Array Value := E.2.2.2.2.1
abbrev gN (E : GE) : Nat → Nat := E.2.2.2.2.2
abbrev g0 (E : GE) : Nat := (gS E).heap.size
def pt_tys (E : GE) : List (ClassId × FieldType) := [(gC E 0, .byte), (gC E 1, .int), (gC E 2, .object "ConsentQueue$Line"), (gC E 3, .object "ConsentQueue$Member"), (gC E 4, .long)]
/-- what is known of it -/
def Env0 (E : GE) : Prop := va_K (gD E) vwCl (pt_tys E) (gS E) ∧ (∀ i j, i < 90 → j < 90 → gA E i = gA E j → i = j) ∧ (∀ i, i < 90 → g0 E ≤ gA E i) ∧ (∀ w ∈ lw_tbl, w.before (gV E) (gS E) = true)
/-- the lines (scalars by field, places, members by field), the history, the text, the model, the law's own array -/
abbrev LT : Type := (Nat → Nat → Int32) × (Nat → Nat → Nat) × (Nat → Nat → Nat → Int32)
abbrev HT : Type := (Nat → Nat) × Int32
abbrev TT : Type := (Nat → Int32) × (Option Nat) × (Nat → Int32) × (Nat → Int32)
abbrev MT : Type := (Nat → Int32) × (Nat → Int32) × (Nat → Int32) × (Nat → Int32) × (Nat → Int32)
abbrev ST : Type := LT × HT × TT × MT × (Nat → Int64)
abbrev sc (L : LT) : Nat → Nat → Int32 := L.1
abbrev pm (L : LT) : Nat → Nat → Nat := L.2.1
abbrev mb (L : LT) : Nat → Nat → Nat → Int32 := L.2.2
abbrev sL (S : ST) : LT := S.1
abbrev sH (S : ST) : HT := S.2.1
abbrev sT (S : ST) : TT := S.2.2.1
abbrev sM (S : ST) : MT := S.2.2.2.1
abbrev sO (S : ST) : Nat → Int64 := S.2.2.2.2
def lnF (E : GE) (L : LT) (k : Nat) : List Value := [.ref (gA E (13 * k + 1)), .ref (gA E (13 * k + 12)), .int (sc L k 2), .int (sc L k 3), .int (sc L k 4), .int (sc L k 5), .int (sc L k 6), .int (sc L k 7)]
def arF (E : GE) (L : LT) (k : Nat) : va_E := .inl (gC E 3, 10, .inr (.inr (.inr (.inr (fun j => some (gA E (13 * k + 2 + pm L k j)))))))
def mbF (L : LT) (k j : Nat) : List Value := [.int (mb L k j 0), .int (mb L k j 1), .int (mb L k j 2), .int (mb L k j 3), .int (mb L k j 4), .int (mb L k j 5), .int (mb L k j 6)]
def hsF (E : GE) (h : HT) : va_E := .inl (gC E 2, 4, .inr (.inr (.inr (.inr (fun j => some (gA E (13 * h.1 j)))))))
def txF (E : GE) (t : TT) : List Value := [.ref (gA E 81), .int (t.1 1), .int (t.1 2), .int (t.1 3), va_re (gN E) t.2.1, .ref (gA E 82)]
def moF (E : GE) (M : MT) : List Value := [.ref (gA E 85), .int (M.1 1), .int (M.1 2), .ref (gA E 86), .int (M.1 4), .int (M.1 5), .int (M.1 6), .ref (gA E 87), .ref (gA E 88)]
/-- what the cell of number i holds -/
def pE (E : GE) (S : ST) (i : Nat) : va_E :=
  if i < 78 then
    if i % 13 = 0 then .inr (2, lnF E (sL S) (i / 13))
    else if i % 13 = 1 then arF E (sL S) (i / 13)
    else .inr (3, mbF (sL S) (i / 13) (i % 13 - 2))
  else if i = 78 then .inr (1, [.ref (gA E 79), .int (sH S).2])
  else if i = 79 then hsF E (sH S)
  else if i = 80 then .inr (0, txF E (sT S))
  else if i = 81 then .inl (gC E 0, 150, .inl (sT S).2.2.1)
  else if i = 82 then .inl (gC E 1, 3, .inl (sT S).2.2.2)
  else if i = 83 then .inr (4, [.ref (gA E 0), .ref (gA E 13), .ref (gA E 78), .ref (gA E 80)])
  else if i = 84 then .inr (5, moF E (sM S))
  else if i = 85 then .inl (gC E 1, 456, .inl (sM S).2.1)
  else if i = 86 then .inl (gC E 1, 150, .inl (sM S).2.2.1)
  else if i = 87 then .inl (gC E 1, 3, .inl (sM S).2.2.2.1)
  else if i = 88 then .inl (gC E 1, 10, .inl (sM S).2.2.2.2)
  else .inl (gC E 4, 1, .inr (.inl (sO S)))
theorem pE_ln (E : GE) (S : ST) {k : Nat} (h : k < 6) : pE E S (13 * k) = .inr (2, lnF E (sL S) k) := by
  unfold pE; rw [if_pos (by omega), if_pos (by omega), show 13 * k / 13 = k by omega]
theorem pE_ar (E : GE) (S : ST) {k : Nat} (h : k < 6) : pE E S (13 * k + 1) = arF E (sL S) k := by
  unfold pE; rw [if_pos (by omega), if_neg (by omega), if_pos (by omega), show (13 * k + 1) / 13 = k by omega]
theorem pE_mb (E : GE) (S : ST) {k j : Nat} (h : k < 6) (hj : j < 11) : pE E S (13 * k + 2 + j) = .inr (3, mbF (sL S) k j) := by
  unfold pE; rw [if_pos (by omega), if_neg (by omega), if_neg (by omega), show (13 * k + 2 + j) / 13 = k by omega, show (13 * k + 2 + j) % 13 - 2 = j by omega]
theorem pE_hi (E : GE) (S : ST) : pE E S 78 = .inr (1, [.ref (gA E 79), .int (sH S).2]) := rfl
theorem pE_sv (E : GE) (S : ST) : pE E S 79 = hsF E (sH S) := rfl
theorem pE_tx (E : GE) (S : ST) : pE E S 80 = .inr (0, txF E (sT S)) := rfl
theorem pE_by (E : GE) (S : ST) : pE E S 81 = .inl (gC E 0, 150, .inl (sT S).2.2.1) := rfl
theorem pE_nu (E : GE) (S : ST) : pE E S 82 = .inl (gC E 1, 3, .inl (sT S).2.2.2) := rfl
theorem pE_qu (E : GE) (S : ST) : pE E S 83 = .inr (4, [.ref (gA E 0), .ref (gA E 13), .ref (gA E 78), .ref (gA E 80)]) := rfl
theorem pE_mo (E : GE) (S : ST) : pE E S 84 = .inr (5, moF E (sM S)) := rfl
theorem pE_ro (E : GE) (S : ST) : pE E S 85 = .inl (gC E 1, 456, .inl (sM S).2.1) := rfl
theorem pE_mt (E : GE) (S : ST) : pE E S 86 = .inl (gC E 1, 150, .inl (sM S).2.2.1) := rfl
theorem pE_gi (E : GE) (S : ST) : pE E S 87 = .inl (gC E 1, 3, .inl (sM S).2.2.2.1) := rfl
theorem pE_be (E : GE) (S : ST) : pE E S 88 = .inl (gC E 1, 10, .inl (sM S).2.2.2.2) := rfl
theorem pE_ou (E : GE) (S : ST) : pE E S 89 = .inl (gC E 4, 1, .inr (.inl (sO S))) := rfl
/-- the world as a list of the kit's -/
def wl (E : GE) (f : Nat → va_E) : va_W := (List.range 90).map (fun i => (gA E i, f i))
theorem wl_at (E : GE) (f : Nat → va_E) {i : Nat} (h : i < 90) : (wl E f)[i]? = some (gA E i, f i) := by
  unfold wl; rw [List.getElem?_map, List.getElem?_range h]; rfl
theorem wl_set (E : GE) (f : Nat → va_E) {i : Nat} (h : i < 90) (e : va_E) : (wl E f).set i (gA E i, e) = wl E (va_up f i e) := by
  apply List.ext_getElem?
  intro j
  rw [List.getElem?_set]
  by_cases hj : i = j
  · subst hj
    rw [if_pos rfl, wl_at E _ h]
    have : i < (wl E f).length := by unfold wl; simp; exact h
    rw [if_pos this]; simp [va_up]
  · rw [if_neg hj]
    unfold wl
    rw [List.getElem?_map, List.getElem?_map]
    by_cases hl : j < 90
    · rw [List.getElem?_range hl]; simp [va_up, Ne.symm hj]
    · rw [List.getElem?_eq_none (by simp; omega)]; rfl
theorem wl_congr {E : GE} {f g : Nat → va_E} (h : ∀ i, i < 90 → f i = g i) : wl E f = wl E g := by
  unfold wl
  apply List.map_congr_left
  intro i hi
  rw [h i (List.mem_range.mp hi)]
abbrev gFr (E : GE) : Nat → Prop := fun q => g0 E ≤ q
/-- the heap holds the state S; nothing older than the base state has changed; what was written is newer -/
def JJ (E : GE) (S : ST) (H : Heap) (locs : List Loc) : Prop := va_P (gD E) vwCl (wl E (pE E S)) H ∧ va_S (gFr E) (gS E).heap H locs
/-- a machine state in which the system's state is S -/
def HS (E : GE) (S : ST) (U : State) : Prop := (gS E).WarmedH U.vm ∧ JJ E S U.heap []
theorem wl_D {E : GE} (hE : Env0 E) (f : Nat → va_E) : va_D (gFr E) (wl E f) := by
  have lt : ∀ (k : Nat) (q : Nat × va_E), (wl E f)[k]? = some q → k < 90 ∧ q = (gA E k, f k) := by
    intro k q hq
    have h1 : k < 90 := by have := (List.getElem?_eq_some_iff.mp hq).1; unfold wl at this; simpa using this
    exact ⟨h1, (Option.some.inj ((wl_at E f h1).symm.trans hq)).symm⟩
  refine ⟨fun i j p q hp hq he => ?_, fun k q hq => ?_⟩
  · obtain ⟨h1, rfl⟩ := lt i p hp
    obtain ⟨h2, rfl⟩ := lt j q hq
    exact hE.2.1 i j h1 h2 he
  · obtain ⟨h1, rfl⟩ := lt k q hq
    exact hE.2.2.1 k h1
/-- what a method's walk stands on -/
def Cx (E : GE) (p : Program) (s : State) (m : MethodId) (meth : Method) (c : Code) (cc : ByteArray) (own : String) (nL : Nat) : Prop := p.tables.exec = Jvm.exec ∧ c.code = cc ∧ c.maxLocals = nL ∧ s.vm.findClass own = some m.cls ∧ (gS E).WarmedH s.vm ∧ Env0 E ∧ meth.locks = false
section Base
variable {p : Program} {l : Launch} {e : Env} {R : Room} {s : State} {m : MethodId} {args : Array Value} {below : List Frame} {meth : Method} {c : Code} {H : Heap} {locs : List Loc} {cells slots : Nat} {Q : State → Prop} {E : GE} {S : ST} {cc : ByteArray} {own : String} {nL pc : Nat} {ls : Array Slot} {rest : List Value}
theorem Cx.x (C : Cx E p s m meth c cc own nL) : p.tables.exec = Jvm.exec := C.1
theorem Cx.b (C : Cx E p s m meth c cc own nL) : c.code = cc := C.2.1
theorem Cx.ml (C : Cx E p s m meth c cc own nL) : c.maxLocals = nL := C.2.2.1
theorem Cx.ow (C : Cx E p s m meth c cc own nL) : s.vm.findClass own = some m.cls := C.2.2.2.1
theorem Cx.hW (C : Cx E p s m meth c cc own nL) : (gS E).WarmedH s.vm := C.2.2.2.2.1
theorem Cx.env (C : Cx E p s m meth c cc own nL) : Env0 E := C.2.2.2.2.2.1
theorem Cx.lk (C : Cx E p s m meth c cc own nL) : meth.locks = false := C.2.2.2.2.2.2
theorem Cx.ts (C : Cx E p s m meth c cc own nL) : ∀ w ∈ pw_tbl, w.before args s = true := fun w h => word_at C.hW (pw_good h) (C.env.2.2.2 w (List.mem_filter.mp h).1)
theorem Cx.K (C : Cx E p s m meth c cc own nL) : va_K (gD E) vwCl (pt_tys E) s := va_K.moved C.hW.alike C.env.1
theorem Cx.D (C : Cx E p s m meth c cc own nL) (f : Nat → va_E) : va_D (gFr E) (wl E f) := wl_D C.env f
theorem JJ.set {f : Nat → va_E} {S' : ST} {i : Nat} {en : va_E} {H1 : Heap} {locs1 : List Loc} (h : i < 90) (hP : va_P (gD E) vwCl ((wl E (pE E S)).set i (gA E i, en)) H1) (hS : va_S (gFr E) (gS E).heap H1 locs1) (he : ∀ j, j < 90 → va_up (pE E S) i en j = pE E S' j) : JJ E S' H1 locs1 := by
  rw [wl_set E _ h, wl_congr he] at hP
  exact ⟨hP, hS⟩
/-- a field of a cell is read -/
theorem i_get (C : Cx E p s m meth c cc own nL) (hJ : JJ E S H locs) {i ci k N : Nat} {fs : List Value} {Cn ref : String} {T : u_T} {index : Nat} {v : Value} (hin : ∀ w ∈ u_ws Cn T N, w ∈ pw_tbl) (hc : vwCl[ci]? = some (Cn, T, N)) (hk : k < N) (hl : Cond.fieldLink own index ref (T k).2.1 (T k).2.2.1 ∈ pw_tbl) (hsame : (T k).1 = ref) (hi : i < 90) (hr : pE E S i = .inr (ci, fs)) (hv : fs[k]? = some v) (hdg : decode cc pc = .ok (.getfield index, 3))
    (kk : W p l e R s m args below meth c H locs cells slots Q (F0 m (pc + 3) ls (v :: rest))) : W p l e R s m args below meth c H locs cells slots Q (F0 m pc ls (.ref (gA E i) :: rest)) :=
  va_get (D := gD E) (ci := ci) (v := v) (fs := fs) (C := Cn) (T := T) (N := N) C.x C.b C.ts hin C.ow C.K hJ.1 i ((wl_at E _ hi).trans (by rw [hr])) hc k hk (C.ts _ hl) (fun _ h => by rw [← hsame]; exact h) hv hdg kk
theorem i_getN (C : Cx E p s m meth c cc own nL) (hJ : JJ E S H locs) {i ci k N : Nat} {fs : List Value} {Cn ref host : String} {T : u_T} {index : Nat} {v : Value} (hin : ∀ w ∈ u_ws Cn T N, w ∈ pw_tbl) (hc : vwCl[ci]? = some (Cn, T, N)) (hk : k < N) (hl : Cond.fieldLinkNest own index ref (T k).2.1 (T k).2.2.1 host ∈ lw_tbl) (hsame : (T k).1 = ref) (hi : i < 90) (hr : pE E S i = .inr (ci, fs)) (hv : fs[k]? = some v) (hdg : decode cc pc = .ok (.getfield index, 3))
    (kk : W p l e R s m args below meth c H locs cells slots Q (F0 m (pc + 3) ls (v :: rest))) : W p l e R s m args below meth c H locs cells slots Q (F0 m pc ls (.ref (gA E i) :: rest)) :=
  va_getN (D := gD E) (ci := ci) (v := v) (fs := fs) (C := Cn) (T := T) (N := N) C.x C.b C.ts hin C.ow C.K hJ.1 i ((wl_at E _ hi).trans (by rw [hr])) hc k hk (va_Nw.use rfl (va_Nw.warmF C.hW (va_Nw.of rfl (C.env.2.2.2 _ hl)))) (fun _ h => by rw [← hsame]; exact h) hv hdg kk
/-- .. is written -/
theorem i_put (C : Cx E p s m meth c cc own nL) (hJ : JJ E S H locs) {i ci k N : Nat} {fs : List Value} {Cn ref : String} {T : u_T} {ty0 : Nat → FieldType} {ty : FieldType} {index : Nat} {v : Value} (S' : ST) (hin : ∀ w ∈ u_ws Cn T N, w ∈ pw_tbl) (hty : ∀ k, k < N → parseFieldDescriptor (T k).2.2.1 = some (ty0 k)) (hnm : ∀ a, a < N → ∀ b, b < N → a ≠ b → (T a).2.1 ≠ (T b).2.1) (hc : vwCl[ci]? = some (Cn, T, N)) (hk : k < N) (hl : Cond.fieldLink own index ref (T k).2.1 (T k).2.2.1 ∈ pw_tbl) (hsame : (T k).1 = ref) (hfin : (T k).2.2.2 = false) (hd : parseFieldDescriptor (T k).2.2.1 = some ty) (hn : narrow ty v = v) (hfit : fits ty v = true) (hi : i < 90) (hr : pE E S i = .inr (ci, fs)) (hlen : k < fs.length) (hS : ∀ j, j < 90 → va_up (pE E S) i (.inr (ci, fs.set k v)) j = pE E S' j) (hdg : decode cc pc = .ok (.putfield index, 3))
    (kk : ∀ (H1 : Heap) (locs1 : List Loc), JJ E S' H1 locs1 → W p l e R s m args below meth c H1 locs1 cells slots Q (F0 m (pc + 3) ls rest)) : W p l e R s m args below meth c H locs cells slots Q (F0 m pc ls (v :: .ref (gA E i) :: rest)) :=
  va_put (D := gD E) (ci := ci) (v := v) (ty := ty) (fs := fs) (C := Cn) (T := T) (N := N) (A := gFr E) C.x C.b C.ts hin ty0 hty hnm C.ow C.K hJ.1 (C.D _) hJ.2 i ((wl_at E _ hi).trans (by rw [hr])) hc k hk (C.ts _ hl) (fun _ h => by rw [← hsame]; exact h) hfin hd hn hfit hlen hdg (fun H1 locs1 hP _ hS1 => kk H1 locs1 (JJ.set (f := pE E S) hi hP hS1 hS))
theorem i_putN (C : Cx E p s m meth c cc own nL) (hJ : JJ E S H locs) {i ci k N : Nat} {fs : List Value} {Cn ref host : String} {T : u_T} {ty0 : Nat → FieldType} {ty : FieldType} {index : Nat} {v : Value} (S' : ST) (hin : ∀ w ∈ u_ws Cn T N, w ∈ pw_tbl) (hty : ∀ k, k < N → parseFieldDescriptor (T k).2.2.1 = some (ty0 k)) (hnm : ∀ a, a < N → ∀ b, b < N → a ≠ b → (T a).2.1 ≠ (T b).2.1) (hc : vwCl[ci]? = some (Cn, T, N)) (hk : k < N) (hl : Cond.fieldLinkNest own index ref (T k).2.1 (T k).2.2.1 host ∈ lw_tbl) (hsame : (T k).1 = ref) (hfin : (T k).2.2.2 = false) (hd : parseFieldDescriptor (T k).2.2.1 = some ty) (hn : narrow ty v = v) (hfit : fits ty v = true) (hi : i < 90) (hr : pE E S i = .inr (ci, fs)) (hlen : k < fs.length) (hS : ∀ j, j < 90 → va_up (pE E S) i (.inr (ci, fs.set k v)) j = pE E S' j) (hdg : decode cc pc = .ok (.putfield index, 3))
    (kk : ∀ (H1 : Heap) (locs1 : List Loc), JJ E S' H1 locs1 → W p l e R s m args below meth c H1 locs1 cells slots Q (F0 m (pc + 3) ls rest)) : W p l e R s m args below meth c H locs cells slots Q (F0 m pc ls (v :: .ref (gA E i) :: rest)) :=
  va_putN (D := gD E) (ci := ci) (v := v) (ty := ty) (fs := fs) (C := Cn) (T := T) (N := N) (A := gFr E) C.x C.b C.ts hin ty0 hty hnm C.ow C.K hJ.1 (C.D _) hJ.2 i ((wl_at E _ hi).trans (by rw [hr])) hc k hk (va_Nw.use rfl (va_Nw.warmF C.hW (va_Nw.of rfl (C.env.2.2.2 _ hl)))) (fun _ h => by rw [← hsame]; exact h) hfin hd hn hfit hlen hdg (fun H1 locs1 hP _ hS1 => kk H1 locs1 (JJ.set (f := pE E S) hi hP hS1 hS))
/-- arrays: read -/
theorem i_iald (C : Cx E p s m meth c cc own nL) (hJ : JJ E S H locs) {i n : Nat} {f : Nat → Int32} (hi : i < 90) (hr : pE E S i = .inl (gC E 1, n, .inl f)) {x : Int32} (hin : vp_in x n) (hdg : decode cc pc = .ok (.iaload, 1))
    (kk : W p l e R s m args below meth c H locs cells slots Q (F0 m (pc + 1) ls (.int (f x.toNatClampNeg) :: rest))) : W p l e R s m args below meth c H locs cells slots Q (F0 m pc ls (.int x :: .ref (gA E i) :: rest)) :=
  va_iald C.x C.b C.K hJ.1 i 1 ((wl_at E _ hi).trans (by rw [hr])) rfl hin hdg kk
theorem i_bald (C : Cx E p s m meth c cc own nL) (hJ : JJ E S H locs) {i n : Nat} {f : Nat → Int32} (hi : i < 90) (hr : pE E S i = .inl (gC E 0, n, .inl f)) {x : Int32} (hin : vp_in x n) (hdg : decode cc pc = .ok (.baload, 1))
    (kk : W p l e R s m args below meth c H locs cells slots Q (F0 m (pc + 1) ls (.int (f x.toNatClampNeg) :: rest))) : W p l e R s m args below meth c H locs cells slots Q (F0 m pc ls (.int x :: .ref (gA E i) :: rest)) :=
  va_bald C.x C.b C.K hJ.1 i 0 ((wl_at E _ hi).trans (by rw [hr])) rfl hin hdg kk
theorem i_lald (C : Cx E p s m meth c cc own nL) (hJ : JJ E S H locs) {i n : Nat} {f : Nat → Int64} (hi : i < 90) (hr : pE E S i = .inl (gC E 4, n, .inr (.inl f))) {x : Int32} (hin : vp_in x n) (hdg : decode cc pc = .ok (.laload, 1))
    (kk : W p l e R s m args below meth c H locs cells slots Q (F0 m (pc + 1) ls (.long (f x.toNatClampNeg) :: rest))) : W p l e R s m args below meth c H locs cells slots Q (F0 m pc ls (.int x :: .ref (gA E i) :: rest)) :=
  va_lald C.x C.b C.K hJ.1 i 4 ((wl_at E _ hi).trans (by rw [hr])) rfl hin hdg kk
theorem i_aald (C : Cx E p s m meth c cc own nL) (hJ : JJ E S H locs) {i n t : Nat} {Cn : String} {cA : ClassId} {f : Nat → Option Nat} (hi : i < 90) (hr : pE E S i = .inl (cA, n, .inr (.inr (.inr (.inr f))))) (ht : (pt_tys E)[t]? = some (cA, .object Cn)) {x : Int32} (hin : vp_in x n) (hdg : decode cc pc = .ok (.aaload, 1))
    (kk : W p l e R s m args below meth c H locs cells slots Q (F0 m (pc + 1) ls (va_rf (f x.toNatClampNeg) :: rest))) : W p l e R s m args below meth c H locs cells slots Q (F0 m pc ls (.int x :: .ref (gA E i) :: rest)) :=
  va_aldq C.x C.b C.K hJ.1 i t ((wl_at E _ hi).trans (by rw [hr])) ht hin hdg kk
theorem i_alen (C : Cx E p s m meth c cc own nL) (hJ : JJ E S H locs) {i t : Nat} {cA : ClassId} {a : vp_A} {ty : FieldType} (hi : i < 90) (hr : pE E S i = .inl (cA, a)) (ht : (pt_tys E)[t]? = some (cA, ty)) {v : Int32} (hv : Int32.ofNat a.1 = v) (hdg : decode cc pc = .ok (.arraylength, 1))
    (kk : W p l e R s m args below meth c H locs cells slots Q (F0 m (pc + 1) ls (.int v :: rest))) : W p l e R s m args below meth c H locs cells slots Q (F0 m pc ls (.ref (gA E i) :: rest)) :=
  va_alen C.x C.b C.K hJ.1 i t ((wl_at E _ hi).trans (by rw [hr])) ht hv hdg kk
/-- arrays: written -/
theorem i_iast (C : Cx E p s m meth c cc own nL) (hJ : JJ E S H locs) {i n : Nat} {f : Nat → Int32} (S' : ST) (hi : i < 90) (hr : pE E S i = .inl (gC E 1, n, .inl f)) {x y : Int32} (hin : vp_in x n) (hS : ∀ j, j < 90 → va_up (pE E S) i (.inl (gC E 1, n, .inl (upd f x.toNatClampNeg y))) j = pE E S' j) (hdg : decode cc pc = .ok (.iastore, 1))
    (kk : ∀ (H1 : Heap) (locs1 : List Loc), JJ E S' H1 locs1 → W p l e R s m args below meth c H1 locs1 cells slots Q (F0 m (pc + 1) ls rest)) : W p l e R s m args below meth c H locs cells slots Q (F0 m pc ls (.int y :: .int x :: .ref (gA E i) :: rest)) :=
  va_iast C.x C.b C.K hJ.1 (C.D _) hJ.2 i 1 ((wl_at E _ hi).trans (by rw [hr])) rfl hin hdg (fun H1 locs1 hP _ hS1 => kk H1 locs1 (JJ.set (f := pE E S) hi hP hS1 hS))
theorem i_bast (C : Cx E p s m meth c cc own nL) (hJ : JJ E S H locs) {i n : Nat} {f : Nat → Int32} (S' : ST) (hi : i < 90) (hr : pE E S i = .inl (gC E 0, n, .inl f)) {x y : Int32} (hin : vp_in x n) (hS : ∀ j, j < 90 → va_up (pE E S) i (.inl (gC E 0, n, .inl (upd f x.toNatClampNeg (vp_nar .byte y)))) j = pE E S' j) (hdg : decode cc pc = .ok (.bastore, 1))
    (kk : ∀ (H1 : Heap) (locs1 : List Loc), JJ E S' H1 locs1 → W p l e R s m args below meth c H1 locs1 cells slots Q (F0 m (pc + 1) ls rest)) : W p l e R s m args below meth c H locs cells slots Q (F0 m pc ls (.int y :: .int x :: .ref (gA E i) :: rest)) :=
  va_bast C.x C.b C.K hJ.1 (C.D _) hJ.2 i 0 ((wl_at E _ hi).trans (by rw [hr])) rfl hin hdg (fun H1 locs1 hP _ hS1 => kk H1 locs1 (JJ.set (f := pE E S) hi hP hS1 hS))
theorem i_last (C : Cx E p s m meth c cc own nL) (hJ : JJ E S H locs) {i n : Nat} {f : Nat → Int64} (S' : ST) (hi : i < 90) (hr : pE E S i = .inl (gC E 4, n, .inr (.inl f))) {x : Int32} {y : Int64} (hin : vp_in x n) (hS : ∀ j, j < 90 → va_up (pE E S) i (.inl (gC E 4, n, .inr (.inl (vp_updL f x.toNatClampNeg y)))) j = pE E S' j) (hdg : decode cc pc = .ok (.lastore, 1))
    (kk : ∀ (H1 : Heap) (locs1 : List Loc), JJ E S' H1 locs1 → W p l e R s m args below meth c H1 locs1 cells slots Q (F0 m (pc + 1) ls rest)) : W p l e R s m args below meth c H locs cells slots Q (F0 m pc ls (.long y :: .int x :: .ref (gA E i) :: rest)) :=
  va_last C.x C.b C.K hJ.1 (C.D _) hJ.2 i 4 ((wl_at E _ hi).trans (by rw [hr])) rfl hin hdg (fun H1 locs1 hP _ hS1 => kk H1 locs1 (JJ.set (f := pE E S) hi hP hS1 hS))
theorem i_aast (C : Cx E p s m meth c cc own nL) (hJ : JJ E S H locs) {i n t v ci : Nat} {r : vw_C} {cA : ClassId} {vs : List Value} {f : Nat → Option Nat} (S' : ST) (hi : i < 90) (hr : pE E S i = .inl (cA, n, .inr (.inr (.inr (.inr f))))) (ht : (pt_tys E)[t]? = some (cA, .object r.1)) (hv : v < 90) (hrv : pE E S v = .inr (ci, vs)) (hc : vwCl[ci]? = some r) {x : Int32} (hin : vp_in x n) (hS : ∀ j, j < 90 → va_up (pE E S) i (.inl (cA, n, .inr (.inr (.inr (.inr (va_up f x.toNatClampNeg (some (gA E v)))))))) j = pE E S' j) (hdg : decode cc pc = .ok (.aastore, 1))
    (kk : ∀ (H1 : Heap) (locs1 : List Loc), JJ E S' H1 locs1 → W p l e R s m args below meth c H1 locs1 cells slots Q (F0 m (pc + 1) ls rest)) : W p l e R s m args below meth c H locs cells slots Q (F0 m pc ls (.ref (gA E v) :: .int x :: .ref (gA E i) :: rest)) :=
  va_astq C.x C.b C.K hJ.1 (C.D _) hJ.2 i t v ci ((wl_at E _ hi).trans (by rw [hr])) ht ((wl_at E _ hv).trans (by rw [hrv])) hc hin hdg (fun H1 locs1 hP _ hS1 => kk H1 locs1 (JJ.set (f := pE E S) hi hP hS1 hS))
end Base
end
section
/-! CALLS: a contract that reads (MR), one that writes (MW); their bodies, ends and calls. -/
section Calls
variable {p : Program} {l : Launch} {e : Env} {R : Room} {s : State} {m : MethodId} {args : Array Value} {below : List Frame} {meth : Method} {c : Code} {H : Heap} {locs : List Loc} {cells slots : Nat} {Q : State → Prop} {E : GE} {S : ST} {cc : ByteArray} {own : String} {nL pc : Nat} {ls : Array Slot} {rest : List Value}
def RQ (below : List Frame) (args : Array Value) (s : State) (v : Option Value) : State → Prop := MQ below (fun _ st o t => o = .returned v ∧ t.heap = st.heap) args s 0 0 (fun _ => False)
def WQ (below : List Frame) (args : Array Value) (s : State) (E : GE) (P : Option Value → ST → Prop) : State → Prop := MQ below (fun _ _ o t => ∃ (v : Option Value) (S' : ST), o = .returned v ∧ P v S' ∧ HS E S' t) args s 0 0 (gFr E)
abbrev rmZ (fr lo : Nat) : Room := { frames := fr, cells := 0, slots := 0, locals := lo }
def MR (l : Launch) (E : GE) (y : MethodName) (cc : ByteArray) (mL : Nat) (ret : Option FieldType) (fr lo : Nat) (S : ST) (as : List Value) (v : Option Value) : Prop :=
  Met l y [.code y cc mL ret] (rmZ fr lo) (va_Pc as (HS E S)) (fun _ st o t => o = .returned v ∧ t.heap = st.heap) 0 0 (fun _ => False)
def MW (l : Launch) (E : GE) (y : MethodName) (cc : ByteArray) (mL : Nat) (ret : Option FieldType) (fr lo : Nat) (S : ST) (as : List Value) (P : Option Value → ST → Prop) : Prop :=
  Met l y [.code y cc mL ret] (rmZ fr lo) (va_Pc as (HS E S)) (fun _ _ o t => ∃ (v : Option Value) (S' : ST), o = .returned v ∧ P v S' ∧ HS E S' t) 0 0 (gFr E)
theorem MR.of {y : MethodName} {mL fr lo : Nat} {ret : Option FieldType} {as : List Value} {v : Option Value} (hE : Env0 E) (hy : plainName y.cls = true) (hlen : (lg_sl as).length ≤ mL)
    (body : ∀ (p : Program) (e : Env) (s : State) (m : MethodId) (below : List Frame) (meth : Method) (c : Code) (ls : Array Slot), Cx E p s m meth c cc y.cls mL → JJ E S s.heap [] → meth.sig.returnType = ret → lv_has ls mL (lv_args 0 as) → W p l e (rmZ fr lo) s m as.toArray below meth c s.heap [] 0 0 (RQ below as.toArray s v) (F0 m 0 ls [])) : MR l E y cc mL ret fr lo S as v := by
  refine Met.ofW (cc := cc) (maxL := mL) (ret := ret) hy rfl ?_
  intro p e s m args below meth c s₁ B hml hv
  obtain ⟨rfl, hW, hJ⟩ := hv
  have hl := lv_entry as hlen
  rw [lg_entry_eq]
  generalize (lg_sl as ++ List.replicate (mL - (lg_sl as).length) Slot.unset).toArray = ls at hl ⊢
  exact body p e s m below meth c ls ⟨B.exec, B.bytes, hml, findClass_of_methodNamed B.named, hW, hE, B.notSynchronized⟩ hJ B.returns hl
theorem MW.of {y : MethodName} {mL fr lo : Nat} {ret : Option FieldType} {as : List Value} {P : Option Value → ST → Prop} (hE : Env0 E) (hy : plainName y.cls = true) (hlen : (lg_sl as).length ≤ mL)
    (body : ∀ (p : Program) (e : Env) (s : State) (m : MethodId) (below : List Frame) (meth : Method) (c : Code) (ls : Array Slot), Cx E p s m meth c cc y.cls mL → JJ E S s.heap [] → meth.sig.returnType = ret → lv_has ls mL (lv_args 0 as) → W p l e (rmZ fr lo) s m as.toArray below meth c s.heap [] 0 0 (WQ below as.toArray s E P) (F0 m 0 ls [])) : MW l E y cc mL ret fr lo S as P := by
  refine Met.ofW (cc := cc) (maxL := mL) (ret := ret) hy rfl ?_
  intro p e s m args below meth c s₁ B hml hv
  obtain ⟨rfl, hW, hJ⟩ := hv
  have hl := lv_entry as hlen
  rw [lg_entry_eq]
  generalize (lg_sl as ++ List.replicate (mL - (lg_sl as).length) Slot.unset).toArray = ls at hl ⊢
  exact body p e s m below meth c ls ⟨B.exec, B.bytes, hml, findClass_of_methodNamed B.named, hW, hE, B.notSynchronized⟩ hJ B.returns hl
/-- a contract that may not write is one that may -/
theorem MW.mono {y : MethodName} {mL fr lo : Nat} {ret : Option FieldType} {as : List Value} {P P' : Option Value → ST → Prop} (h : MW l E y cc mL ret fr lo S as P) (hp : ∀ v S', P v S' → P' v S') : MW l E y cc mL ret fr lo S as P' := by
  intro p e h1 h2 h3 s m args below h4 h5 h6 h7
  obtain ⟨n, o, a1, a2, a3, ⟨v, S', b1, b2, b3⟩, b4⟩ := h p e h1 h2 h3 s m args below h4 h5 h6 h7
  exact ⟨n, o, a1, a2, a3, ⟨v, S', b1, hp v S' b2, b3⟩, b4⟩
theorem JJ.nil (h : JJ E S H locs) : JJ E S H [] := ⟨h.1, h.2.1, h.2.2.1, fun _ h => by cases h⟩
theorem JJ.app {S' : ST} {H1 : Heap} {L : List Loc} (h : JJ E S H locs) (h1 : JJ E S' H1 []) (hL : ∀ q ∈ L, gFr E q.base) : JJ E S' H1 (locs ++ L) := ⟨h1.1, h1.2.1, h1.2.2.1, fun q hq => by
  rcases List.mem_append.mp hq with h2 | h2
  · exact h.2.2.2 q h2
  · exact hL q h2⟩
theorem HS.of {t : State} (C : Cx E p s m meth c cc own nL) (hJ : JJ E S H locs) (ht : t.heap = H) (hW : s.WarmedH t.vm) : HS E S t := ⟨State.WarmedH.trans C.hW hW, by rw [ht]; exact hJ.nil⟩
/-- the ends of a method that reads -/
theorem rR_i (C : Cx E p s m meth c cc own nL) {ty : FieldType} {v v' : Int32} (hr : meth.sig.returnType = some ty) (hn : narrow ty (.int v) = .int v) (hv : v = v') (hdg : decode cc pc = .ok (.ireturn, 1)) : W p l e R s m args below meth c s.heap [] 0 0 (RQ below args s (some (.int v'))) (F0 m pc ls [.int v]) :=
  W.zret C.x C.b hr hn (fun t ht _ => ⟨by rw [hv], ht⟩) (fun _ h => by cases h) hdg C.lk
theorem rR_l (C : Cx E p s m meth c cc own nL) {v v' : Int64} (hr : meth.sig.returnType = some .long) (hv : v = v') (hdg : decode cc pc = .ok (.lreturn, 1)) : W p l e R s m args below meth c s.heap [] 0 0 (RQ below args s (some (.long v'))) (F0 m pc ls [.long v]) :=
  W.lret C.x C.b hr (fun t ht _ => ⟨by rw [hv], ht⟩) (fun _ h => by cases h) hdg C.lk
theorem rR_a (C : Cx E p s m meth c cc own nL) {rt : FieldType} {v v' : Value} (hr : meth.sig.returnType = some rt) (hrt : (∃ n, rt = .object n) ∨ ∃ t, rt = .array t) (hva : v = .null ∨ ∃ a, v = .ref a) (hv : v = v') (hdg : decode cc pc = .ok (.areturn, 1)) : W p l e R s m args below meth c s.heap [] 0 0 (RQ below args s (some v')) (F0 m pc ls [v]) :=
  W.aret C.x C.b hr hrt hva (fun t ht _ => ⟨by rw [hv], ht⟩) (fun _ h => by cases h) hdg C.lk
theorem rR_v (C : Cx E p s m meth c cc own nL) (hr : meth.sig.returnType = none) (hdg : decode cc pc = .ok (.return_, 1)) : W p l e R s m args below meth c s.heap [] 0 0 (RQ below args s none) (F0 m pc ls []) :=
  W.vret C.x C.b hr (fun t ht _ => ⟨rfl, ht⟩) (fun _ h => by cases h) hdg C.lk
/-- .. of one that writes -/
theorem rW_i (C : Cx E p s m meth c cc own nL) (hJ : JJ E S H locs) {P : Option Value → ST → Prop} {ty : FieldType} {v : Int32} (hr : meth.sig.returnType = some ty) (hn : narrow ty (.int v) = .int v) (hP : P (some (.int v)) S) (hdg : decode cc pc = .ok (.ireturn, 1)) : W p l e R s m args below meth c H locs 0 0 (WQ below args s E P) (F0 m pc ls [.int v]) :=
  W.zret C.x C.b hr hn (fun t ht hW => ⟨_, S, rfl, hP, HS.of C hJ ht hW⟩) hJ.2.2.2 hdg C.lk
theorem rW_l (C : Cx E p s m meth c cc own nL) (hJ : JJ E S H locs) {P : Option Value → ST → Prop} {v : Int64} (hr : meth.sig.returnType = some .long) (hP : P (some (.long v)) S) (hdg : decode cc pc = .ok (.lreturn, 1)) : W p l e R s m args below meth c H locs 0 0 (WQ below args s E P) (F0 m pc ls [.long v]) :=
  W.lret C.x C.b hr (fun t ht hW => ⟨_, S, rfl, hP, HS.of C hJ ht hW⟩) hJ.2.2.2 hdg C.lk
theorem rW_v (C : Cx E p s m meth c cc own nL) (hJ : JJ E S H locs) {P : Option Value → ST → Prop} (hr : meth.sig.returnType = none) (hP : P none S) (hdg : decode cc pc = .ok (.return_, 1)) : W p l e R s m args below meth c H locs 0 0 (WQ below args s E P) (F0 m pc ls []) :=
  W.vret C.x C.b hr (fun t ht hW => ⟨_, S, rfl, hP, HS.of C hJ ht hW⟩) hJ.2.2.2 hdg C.lk
/-- behind a call -/
theorem k_R {st0 : List Value} {v : Option Value} (hr : va_Run p l e R s m args below meth c H locs cells slots 0 0 (F0 m pc ls st0) rest (fun st o t => o = .returned v ∧ t.heap = st.heap) (fun _ => False))
    (kk : W p l e R s m args below meth c H locs cells slots Q (F0 m (pc + 3) ls (v.toList ++ rest))) : W p l e R s m args below meth c H locs cells slots Q (F0 m pc ls st0) := by
  intro T hT X
  obtain ⟨v', st₀, t, T', L, h0, X', hL, e1, e2, ⟨hv, hh⟩, st⟩ := hr T hT X
  cases hv
  obtain ⟨t2, a1, b1⟩ := kk T' (by rw [e1, hh, h0]) (Stand.forget X' (fun q h => (hL q h).elim))
  exact ⟨t2, st t2 a1, b1⟩
theorem k_W {st0 : List Value} {P : Option Value → ST → Prop} (hJ : JJ E S H locs) (hr : va_Run p l e R s m args below meth c H locs cells slots 0 0 (F0 m pc ls st0) rest (fun _ o t => ∃ (v : Option Value) (S' : ST), o = .returned v ∧ P v S' ∧ HS E S' t) (gFr E))
    (kk : ∀ (v : Option Value) (S' : ST) (H1 : Heap) (locs1 : List Loc), P v S' → JJ E S' H1 locs1 → W p l e R s m args below meth c H1 locs1 cells slots Q (F0 m (pc + 3) ls (v.toList ++ rest))) : W p l e R s m args below meth c H locs cells slots Q (F0 m pc ls st0) := by
  intro T hT X
  obtain ⟨v', st₀, t, T', L, h0, X', hL, e1, e2, ⟨v, S', hv, hP, hW1, hJ1⟩, st⟩ := hr T hT X
  cases hv
  obtain ⟨t2, a1, b1⟩ := kk v' S' T'.heap (locs ++ L) hP (hJ.app (by rw [e1]; exact hJ1) hL) T' rfl X'
  exact ⟨t2, st t2 a1, b1⟩
theorem blind (as : List Value) : FrameBlind (va_Pc as (HS E S)) := fun _ _ _ _ h => h
theorem good1 {y : MethodName} {bytes : ByteArray} {mL : Nat} {ret : Option FieldType} (h : Cond.code y bytes mL ret ∈ pw_tbl) : GoodIn pw_tbl [Cond.code y bytes mL ret] := fun w hw => by
  rw [List.mem_singleton.mp hw]; exact ⟨h, pw_good h⟩
/-- a call of an own method (invokevirtual), of a nest mate's, of a static one -/
theorem r_V (C : Cx E p s m meth c cc own nL) (hJ : JJ E S H locs) {y : MethodName} {bytes : ByteArray} {mL fr lo i ci N n index : Nat} {ret : Option FieldType} {As st0 fs : List Value} {Cn : String} {T : u_T} {Qc : Array Value → State → Outcome → State → Prop} {free : Addr → Prop}
    (hM : Met l y [.code y bytes mL ret] (rmZ fr lo) (va_Pc (.ref (gA E i) :: As) (HS E S)) Qc 0 0 free) (hi : i < 90) (hr : pE E S i = .inr (ci, fs)) (hc : vwCl[ci]? = some (Cn, T, N))
    (h1 : Cond.methodLink own index y ∈ pw_tbl) (h2 : Cond.instanceMethod y ∈ pw_tbl) (h3 : Cond.selects Cn y y ∈ pw_tbl) (h4 : Cond.initialized Cn ∈ pw_tbl) (h5 : Cond.code y bytes mL ret ∈ pw_tbl)
    (hd : y.cls = Cn ∧ y.cls ≠ "java/lang/invoke/MethodHandle" ∧ y.cls ≠ "java/lang/invoke/VarHandle" ∧ (parseMethodDescriptor y.desc).map (fun d => d.parameters.length) = some n) (hn : As.length = n) (hdg : decode cc pc = .ok (.invokevirtual index, 3))
    (hls : ls.size = nL) (hR : fr + 1 ≤ R.frames ∧ 8 + (mL + 11) + lo ≤ R.locals) (hf : cells ≤ R.cells ∧ slots ≤ R.slots) (hcat : (rest.map fun v => v.category).sum ≤ 8) (hstk : st0 = As.reverse ++ .ref (gA E i) :: rest) :
    va_Run p l e R s m args below meth c H locs cells slots 0 0 (F0 m pc ls st0) rest (Qc (Value.ref (gA E i) :: As).toArray) free :=
  va_runV (Ts := pw_tbl) ⟨C.x, C.b, C.ml, C.ow, C.ts⟩ hM (cwV n C.ts (fun w hw => by
      rcases List.mem_append.mp hw with h | h
      · simp only [List.mem_cons, List.not_mem_nil, or_false] at h
        rcases h with rfl | rfl | rfl | rfl
        · exact ⟨h1, pw_good h1⟩
        · exact ⟨h2, pw_good h2⟩
        · exact ⟨h3, pw_good h3⟩
        · exact ⟨h4, pw_good h4⟩
      · exact good1 h5 w h) rfl rfl rfl hd hR) ⟨blind _, va_recv C.K hJ.1 hc ((wl_at E _ hi).trans (by rw [hr])), fun U hU hW => ⟨rfl, HS.of C hJ hU hW⟩⟩ rfl hn hls hstk (lv_room hcat) hdg hf
theorem r_VN (C : Cx E p s m meth c cc own nL) (hJ : JJ E S H locs) {y : MethodName} {bytes : ByteArray} {mL fr lo i ci N n index : Nat} {ret : Option FieldType} {As st0 fs : List Value} {Cn host : String} {T : u_T} {Qc : Array Value → State → Outcome → State → Prop} {free : Addr → Prop}
    (hM : Met l y [.code y bytes mL ret] (rmZ fr lo) (va_Pc (.ref (gA E i) :: As) (HS E S)) Qc 0 0 free) (hi : i < 90) (hr : pE E S i = .inr (ci, fs)) (hc : vwCl[ci]? = some (Cn, T, N))
    (h1 : Cond.methodLinkNest own index y host ∈ lw_tbl) (h2 : Cond.instanceMethod y ∈ pw_tbl) (h3 : Cond.selects Cn y y ∈ pw_tbl) (h4 : Cond.initialized y.cls ∈ pw_tbl) (h5 : Cond.code y bytes mL ret ∈ pw_tbl)
    (hd : y.cls ≠ "java/lang/invoke/MethodHandle" ∧ y.cls ≠ "java/lang/invoke/VarHandle" ∧ (parseMethodDescriptor y.desc).map (fun d => d.parameters.length) = some n) (hn : As.length = n) (hdg : decode cc pc = .ok (.invokevirtual index, 3))
    (hls : ls.size = nL) (hR : fr + 1 ≤ R.frames ∧ 8 + (mL + 11) + lo ≤ R.locals) (hf : cells ≤ R.cells ∧ slots ≤ R.slots) (hcat : (rest.map fun v => v.category).sum ≤ 8) (hstk : st0 = As.reverse ++ .ref (gA E i) :: rest) :
    va_Run p l e R s m args below meth c H locs cells slots 0 0 (F0 m pc ls st0) rest (Qc (Value.ref (gA E i) :: As).toArray) free :=
  va_runVN (Ts := pw_tbl) ⟨C.x, C.b, C.ml, C.ow, C.ts⟩ hM ⟨va_cnB (own := own) (host := host) n C.ts (good1 h5) rfl rfl rfl (va_Nw.warmM C.hW (va_Nw.of rfl (C.env.2.2.2 _ h1))) (C.ts _ h4) hd hR, C.ts _ h2, C.ts _ h3⟩ ⟨blind _, va_recv C.K hJ.1 hc ((wl_at E _ hi).trans (by rw [hr])), fun U hU hW => ⟨rfl, HS.of C hJ hU hW⟩⟩ rfl hn hls hstk (lv_room hcat) hdg hf
theorem r_S (C : Cx E p s m meth c cc own nL) (hJ : JJ E S H locs) {y : MethodName} {bytes : ByteArray} {mL fr lo n index : Nat} {ret : Option FieldType} {As st0 : List Value} {Qc : Array Value → State → Outcome → State → Prop} {free : Addr → Prop}
    (hM : Met l y [.code y bytes mL ret] (rmZ fr lo) (va_Pc As (HS E S)) Qc 0 0 free)
    (h1 : Cond.methodLink own index y ∈ pw_tbl) (h2 : Cond.static y ∈ pw_tbl) (h4 : Cond.initialized own ∈ pw_tbl) (h5 : Cond.code y bytes mL ret ∈ pw_tbl)
    (hd : y.cls = own ∧ y.cls ≠ "java/lang/invoke/MethodHandle" ∧ y.cls ≠ "java/lang/invoke/VarHandle" ∧ (parseMethodDescriptor y.desc).map (fun d => d.parameters.length) = some n) (hn : As.length = n) (hdg : decode cc pc = .ok (.invokestatic index, 3))
    (hls : ls.size = nL) (hR : fr + 1 ≤ R.frames ∧ 8 + (mL + 11) + lo ≤ R.locals) (hf : cells ≤ R.cells ∧ slots ≤ R.slots) (hcat : (rest.map fun v => v.category).sum ≤ 8) (hstk : st0 = As.reverse ++ rest) :
    va_Run p l e R s m args below meth c H locs cells slots 0 0 (F0 m pc ls st0) rest (Qc As.toArray) free :=
  va_runS (Ts := pw_tbl) ⟨C.x, C.b, C.ml, C.ow, C.ts⟩ hM (cwS n C.ts (fun w hw => by
      rcases List.mem_append.mp hw with h | h
      · simp only [List.mem_cons, List.not_mem_nil, or_false] at h
        rcases h with rfl | rfl | rfl
        · exact ⟨h1, pw_good h1⟩
        · exact ⟨h2, pw_good h2⟩
        · exact ⟨h4, pw_good h4⟩
      · exact good1 h5 w h) rfl rfl rfl hd hR) ⟨blind _, fun U hU hW => ⟨rfl, HS.of C hJ hU hW⟩⟩ rfl hn hls hstk (lv_room hcat) hdg hf
end Calls
end
section
/-! WORDS: where each word of the tables stands (by program, out of the Statement's tables) -/
theorem ks_X6_perform : Cond.selects RX6 yX6_perform yX6_perform ∈ pw_tbl := pw_in 0 (by decide +kernel) (by decide +kernel)
theorem ks_X6_faultOf : Cond.selects RX6 yX6_faultOf yX6_faultOf ∈ pw_tbl := pw_in 1 (by decide +kernel) (by decide +kernel)
theorem ks_X6_joinFault : Cond.selects RX6 yX6_joinFault yX6_joinFault ∈ pw_tbl := pw_in 2 (by decide +kernel) (by decide +kernel)
theorem ks_X4_memberAt : Cond.selects RX4 yX4_memberAt yX4_memberAt ∈ pw_tbl := pw_in 3 (by decide +kernel) (by decide +kernel)
theorem ks_X4_placeOf : Cond.selects RX4 yX4_placeOf yX4_placeOf ∈ pw_tbl := pw_in 4 (by decide +kernel) (by decide +kernel)
theorem ks_X6_memberFault : Cond.selects RX6 yX6_memberFault yX6_memberFault ∈ pw_tbl := pw_in 5 (by decide +kernel) (by decide +kernel)
theorem ks_X6_offerFault : Cond.selects RX6 yX6_offerFault yX6_offerFault ∈ pw_tbl := pw_in 6 (by decide +kernel) (by decide +kernel)
theorem ks_X6_takeFault : Cond.selects RX6 yX6_takeFault yX6_takeFault ∈ pw_tbl := pw_in 7 (by decide +kernel) (by decide +kernel)
theorem ks_X4_wouldTake : Cond.selects RX4 yX4_wouldTake yX4_wouldTake ∈ pw_tbl := pw_in 8 (by decide +kernel) (by decide +kernel)
theorem ks_X4_loss : Cond.selects RX4 yX4_loss yX4_loss ∈ pw_tbl := pw_in 9 (by decide +kernel) (by decide +kernel)
theorem ks_X4_isHeldByFriends : Cond.selects RX4 yX4_isHeldByFriends yX4_isHeldByFriends ∈ pw_tbl := pw_in 10 (by decide +kernel) (by decide +kernel)
theorem ks_X4_wouldSwap : Cond.selects RX4 yX4_wouldSwap yX4_wouldSwap ∈ pw_tbl := pw_in 11 (by decide +kernel) (by decide +kernel)
theorem ks_X4_hindrance : Cond.selects RX4 yX4_hindrance yX4_hindrance ∈ pw_tbl := pw_in 12 (by decide +kernel) (by decide +kernel)
theorem ks_X4_areFriends : Cond.selects RX4 yX4_areFriends yX4_areFriends ∈ pw_tbl := pw_in 13 (by decide +kernel) (by decide +kernel)
theorem ks_X4_surplus : Cond.selects RX4 yX4_surplus yX4_surplus ∈ pw_tbl := pw_in 14 (by decide +kernel) (by decide +kernel)
theorem ks_X6_pairFault : Cond.selects RX6 yX6_pairFault yX6_pairFault ∈ pw_tbl := pw_in 15 (by decide +kernel) (by decide +kernel)
theorem ks_X3_push : Cond.selects RX3 yX3_push yX3_push ∈ pw_tbl := pw_in 17 (by decide +kernel) (by decide +kernel)
theorem ks_X3_dropOldest : Cond.selects RX3 yX3_dropOldest yX3_dropOldest ∈ pw_tbl := pw_in 18 (by decide +kernel) (by decide +kernel)
theorem ks_X4_copyFrom : Cond.selects RX4 yX4_copyFrom yX4_copyFrom ∈ pw_tbl := pw_in 19 (by decide +kernel) (by decide +kernel)
theorem ks_X5_copyFrom : Cond.selects RX5 yX5_copyFrom yX5_copyFrom ∈ pw_tbl := pw_in 20 (by decide +kernel) (by decide +kernel)
theorem ks_X6_carryOut : Cond.selects RX6 yX6_carryOut yX6_carryOut ∈ pw_tbl := pw_in 21 (by decide +kernel) (by decide +kernel)
theorem ks_X4_insert : Cond.selects RX4 yX4_insert yX4_insert ∈ pw_tbl := pw_in 22 (by decide +kernel) (by decide +kernel)
theorem ks_X5_begin : Cond.selects RX5 yX5_begin yX5_begin ∈ pw_tbl := pw_in 23 (by decide +kernel) (by decide +kernel)
theorem ks_X5_loseOneAhead : Cond.selects RX5 yX5_loseOneAhead yX5_loseOneAhead ∈ pw_tbl := pw_in 24 (by decide +kernel) (by decide +kernel)
theorem ks_X4_removeMember : Cond.selects RX4 yX4_removeMember yX4_removeMember ∈ pw_tbl := pw_in 25 (by decide +kernel) (by decide +kernel)
theorem ks_X4_removeAt : Cond.selects RX4 yX4_removeAt yX4_removeAt ∈ pw_tbl := pw_in 26 (by decide +kernel) (by decide +kernel)
theorem ks_X4_tell : Cond.selects RX4 yX4_tell yX4_tell ∈ pw_tbl := pw_in 27 (by decide +kernel) (by decide +kernel)
theorem ks_X4_makeOffer : Cond.selects RX4 yX4_makeOffer yX4_makeOffer ∈ pw_tbl := pw_in 28 (by decide +kernel) (by decide +kernel)
theorem ks_X4_swapAsOffered : Cond.selects RX4 yX4_swapAsOffered yX4_swapAsOffered ∈ pw_tbl := pw_in 29 (by decide +kernel) (by decide +kernel)
theorem ks_X4_swapAt : Cond.selects RX4 yX4_swapAt yX4_swapAt ∈ pw_tbl := pw_in 30 (by decide +kernel) (by decide +kernel)
theorem ks_X4_swapFairly : Cond.selects RX4 yX4_swapFairly yX4_swapFairly ∈ pw_tbl := pw_in 31 (by decide +kernel) (by decide +kernel)
theorem ks_X4_fairPrice : Cond.selects RX4 yX4_fairPrice yX4_fairPrice ∈ pw_tbl := pw_in 32 (by decide +kernel) (by decide +kernel)
theorem ks_X4_setFriends : Cond.selects RX4 yX4_setFriends yX4_setFriends ∈ pw_tbl := pw_in 33 (by decide +kernel) (by decide +kernel)
theorem ks_X4_friendPairs : Cond.selects RX4 yX4_friendPairs yX4_friendPairs ∈ pw_tbl := pw_in 34 (by decide +kernel) (by decide +kernel)
theorem ks_X4_serveFirst : Cond.selects RX4 yX4_serveFirst yX4_serveFirst ∈ pw_tbl := pw_in 35 (by decide +kernel) (by decide +kernel)
theorem ks_X4_settleDown : Cond.selects RX4 yX4_settleDown yX4_settleDown ∈ pw_tbl := pw_in 36 (by decide +kernel) (by decide +kernel)
theorem ks_X4_keenestPair : Cond.selects RX4 yX4_keenestPair yX4_keenestPair ∈ pw_tbl := pw_in 37 (by decide +kernel) (by decide +kernel)
theorem ks_X4_tellTruth : Cond.selects RX4 yX4_tellTruth yX4_tellTruth ∈ pw_tbl := pw_in 38 (by decide +kernel) (by decide +kernel)
theorem ks_X4_cost : Cond.selects RX4 yX4_cost yX4_cost ∈ pw_tbl := pw_in 39 (by decide +kernel) (by decide +kernel)
theorem ks_X4_costAt : Cond.selects RX4 yX4_costAt yX4_costAt ∈ pw_tbl := pw_in 40 (by decide +kernel) (by decide +kernel)
theorem ks_X4_waitAt : Cond.selects RX4 yX4_waitAt yX4_waitAt ∈ pw_tbl := pw_in 41 (by decide +kernel) (by decide +kernel)
theorem ks_X4_wrongPairs : Cond.selects RX4 yX4_wrongPairs yX4_wrongPairs ∈ pw_tbl := pw_in 42 (by decide +kernel) (by decide +kernel)
theorem ks_X4_waitingCost : Cond.selects RX4 yX4_waitingCost yX4_waitingCost ∈ pw_tbl := pw_in 43 (by decide +kernel) (by decide +kernel)
theorem ks_X2_findFault : Cond.selects RX2 yX2_findFault yX2_findFault ∈ pw_tbl := pw_in 44 (by decide +kernel) (by decide +kernel)
theorem ks_X2_startReading : Cond.selects RX2 yX2_startReading yX2_startReading ∈ pw_tbl := pw_in 45 (by decide +kernel) (by decide +kernel)
theorem ks_X2_hasCommand : Cond.selects RX2 yX2_hasCommand yX2_hasCommand ∈ pw_tbl := pw_in 46 (by decide +kernel) (by decide +kernel)
theorem ks_X2_skipSpaces : Cond.selects RX2 yX2_skipSpaces yX2_skipSpaces ∈ pw_tbl := pw_in 47 (by decide +kernel) (by decide +kernel)
theorem ks_X2_byteAt : Cond.selects RX2 yX2_byteAt yX2_byteAt ∈ pw_tbl := pw_in 48 (by decide +kernel) (by decide +kernel)
theorem ks_X2_readCommand : Cond.selects RX2 yX2_readCommand yX2_readCommand ∈ pw_tbl := pw_in 49 (by decide +kernel) (by decide +kernel)
theorem ks_X2_skipLetters : Cond.selects RX2 yX2_skipLetters yX2_skipLetters ∈ pw_tbl := pw_in 50 (by decide +kernel) (by decide +kernel)
theorem ks_X2_commandSpelled : Cond.selects RX2 yX2_commandSpelled yX2_commandSpelled ∈ pw_tbl := pw_in 51 (by decide +kernel) (by decide +kernel)
theorem ks_X2_isSpelled : Cond.selects RX2 yX2_isSpelled yX2_isSpelled ∈ pw_tbl := pw_in 52 (by decide +kernel) (by decide +kernel)
theorem ks_X2_readNumber : Cond.selects RX2 yX2_readNumber yX2_readNumber ∈ pw_tbl := pw_in 53 (by decide +kernel) (by decide +kernel)
theorem ks_X2_readDigits : Cond.selects RX2 yX2_readDigits yX2_readDigits ∈ pw_tbl := pw_in 54 (by decide +kernel) (by decide +kernel)
theorem ks_X2_readSemicolon : Cond.selects RX2 yX2_readSemicolon yX2_readSemicolon ∈ pw_tbl := pw_in 55 (by decide +kernel) (by decide +kernel)
theorem ks_X6_carryOutRead : Cond.selects RX6 yX6_carryOutRead yX6_carryOutRead ∈ pw_tbl := pw_in 56 (by decide +kernel) (by decide +kernel)
theorem ks_X2_number : Cond.selects RX2 yX2_number yX2_number ∈ pw_tbl := pw_in 57 (by decide +kernel) (by decide +kernel)
theorem ks_X6_wholeValue : Cond.selects RX6 yX6_wholeValue yX6_wholeValue ∈ pw_tbl := pw_in 58 (by decide +kernel) (by decide +kernel)
theorem ks_X4_wholeValue : Cond.selects RX4 yX4_wholeValue yX4_wholeValue ∈ pw_tbl := pw_in 59 (by decide +kernel) (by decide +kernel)
theorem ks_X4_toldCost : Cond.selects RX4 yX4_toldCost yX4_toldCost ∈ pw_tbl := pw_in 60 (by decide +kernel) (by decide +kernel)
theorem ks_X4_bestCost : Cond.selects RX4 yX4_bestCost yX4_bestCost ∈ pw_tbl := pw_in 61 (by decide +kernel) (by decide +kernel)
theorem ks_X4_willingPairs : Cond.selects RX4 yX4_willingPairs yX4_willingPairs ∈ pw_tbl := pw_in 62 (by decide +kernel) (by decide +kernel)
theorem ks_X4_offers : Cond.selects RX4 yX4_offers yX4_offers ∈ pw_tbl := pw_in 63 (by decide +kernel) (by decide +kernel)
theorem ks_X4_welcomeOffers : Cond.selects RX4 yX4_welcomeOffers yX4_welcomeOffers ∈ pw_tbl := pw_in 64 (by decide +kernel) (by decide +kernel)
theorem ks_X6_digestMembers : Cond.selects RX6 yX6_digestMembers yX6_digestMembers ∈ pw_tbl := pw_in 65 (by decide +kernel) (by decide +kernel)
theorem ks_X4_memberValue : Cond.selects RX4 yX4_memberValue yX4_memberValue ∈ pw_tbl := pw_in 66 (by decide +kernel) (by decide +kernel)
theorem ks_X4_friendsAt : Cond.selects RX4 yX4_friendsAt yX4_friendsAt ∈ pw_tbl := pw_in 67 (by decide +kernel) (by decide +kernel)
theorem ks_X6_digestPairs : Cond.selects RX6 yX6_digestPairs yX6_digestPairs ∈ pw_tbl := pw_in 68 (by decide +kernel) (by decide +kernel)
theorem ks_X4_pairValue : Cond.selects RX4 yX4_pairValue yX4_pairValue ∈ pw_tbl := pw_in 69 (by decide +kernel) (by decide +kernel)
theorem ks_X4_gain : Cond.selects RX4 yX4_gain yX4_gain ∈ pw_tbl := pw_in 70 (by decide +kernel) (by decide +kernel)
theorem ks_X6_profitAt : Cond.selects RX6 yX6_profitAt yX6_profitAt ∈ pw_tbl := pw_in 71 (by decide +kernel) (by decide +kernel)
theorem ks_X2_append : Cond.selects RX2 yX2_append yX2_append ∈ pw_tbl := pw_in 72 (by decide +kernel) (by decide +kernel)
theorem ks_X3_popInto : Cond.selects RX3 yX3_popInto yX3_popInto ∈ pw_tbl := pw_in 73 (by decide +kernel) (by decide +kernel)
theorem ks_X7_whyNotJoin : Cond.selects RX7 yX7_whyNotJoin yX7_whyNotJoin ∈ pw_tbl := pw_in 74 (by decide +kernel) (by decide +kernel)
theorem ks_X7_of : Cond.selects RX7 yX7_of yX7_of ∈ pw_tbl := pw_in 75 (by decide +kernel) (by decide +kernel)
theorem ks_X7_isRefused : Cond.selects RX7 yX7_isRefused yX7_isRefused ∈ pw_tbl := pw_in 76 (by decide +kernel) (by decide +kernel)
theorem ks_X7_saves : Cond.selects RX7 yX7_saves yX7_saves ∈ pw_tbl := pw_in 77 (by decide +kernel) (by decide +kernel)
theorem ks_X7_copies : Cond.selects RX7 yX7_copies yX7_copies ∈ pw_tbl := pw_in 78 (by decide +kernel) (by decide +kernel)
theorem ks_X7_joins : Cond.selects RX7 yX7_joins yX7_joins ∈ pw_tbl := pw_in 79 (by decide +kernel) (by decide +kernel)
theorem ks_X7_brings : Cond.selects RX7 yX7_brings yX7_brings ∈ pw_tbl := pw_in 80 (by decide +kernel) (by decide +kernel)
theorem ks_X7_set : Cond.selects RX7 yX7_set yX7_set ∈ pw_tbl := pw_in 81 (by decide +kernel) (by decide +kernel)
theorem ks_X7_whyNoMember : Cond.selects RX7 yX7_whyNoMember yX7_whyNoMember ∈ pw_tbl := pw_in 82 (by decide +kernel) (by decide +kernel)
theorem ks_X7_find : Cond.selects RX7 yX7_find yX7_find ∈ pw_tbl := pw_in 83 (by decide +kernel) (by decide +kernel)
theorem ks_X7_goes : Cond.selects RX7 yX7_goes yX7_goes ∈ pw_tbl := pw_in 84 (by decide +kernel) (by decide +kernel)
theorem ks_X7_serves : Cond.selects RX7 yX7_serves yX7_serves ∈ pw_tbl := pw_in 85 (by decide +kernel) (by decide +kernel)
theorem ks_X7_whyNotSay : Cond.selects RX7 yX7_whyNotSay yX7_whyNotSay ∈ pw_tbl := pw_in 86 (by decide +kernel) (by decide +kernel)
theorem ks_X7_says : Cond.selects RX7 yX7_says yX7_says ∈ pw_tbl := pw_in 87 (by decide +kernel) (by decide +kernel)
theorem ks_X7_whyNotOffer : Cond.selects RX7 yX7_whyNotOffer yX7_whyNotOffer ∈ pw_tbl := pw_in 88 (by decide +kernel) (by decide +kernel)
theorem ks_X7_offers : Cond.selects RX7 yX7_offers yX7_offers ∈ pw_tbl := pw_in 89 (by decide +kernel) (by decide +kernel)
theorem ks_X7_whyNotTake : Cond.selects RX7 yX7_whyNotTake yX7_whyNotTake ∈ pw_tbl := pw_in 90 (by decide +kernel) (by decide +kernel)
theorem ks_X7_isTaken : Cond.selects RX7 yX7_isTaken yX7_isTaken ∈ pw_tbl := pw_in 91 (by decide +kernel) (by decide +kernel)
theorem ks_X7_isPair : Cond.selects RX7 yX7_isPair yX7_isPair ∈ pw_tbl := pw_in 92 (by decide +kernel) (by decide +kernel)
theorem ks_X7_loss : Cond.selects RX7 yX7_loss yX7_loss ∈ pw_tbl := pw_in 93 (by decide +kernel) (by decide +kernel)
theorem ks_X7_friendsAgainst : Cond.selects RX7 yX7_friendsAgainst yX7_friendsAgainst ∈ pw_tbl := pw_in 94 (by decide +kernel) (by decide +kernel)
theorem ks_X7_takes : Cond.selects RX7 yX7_takes yX7_takes ∈ pw_tbl := pw_in 95 (by decide +kernel) (by decide +kernel)
theorem ks_X7_swaps : Cond.selects RX7 yX7_swaps yX7_swaps ∈ pw_tbl := pw_in 96 (by decide +kernel) (by decide +kernel)
theorem ks_X7_whyNotSwap : Cond.selects RX7 yX7_whyNotSwap yX7_whyNotSwap ∈ pw_tbl := pw_in 97 (by decide +kernel) (by decide +kernel)
theorem ks_X7_reasonOf : Cond.selects RX7 yX7_reasonOf yX7_reasonOf ∈ pw_tbl := pw_in 98 (by decide +kernel) (by decide +kernel)
theorem ks_X7_surplus : Cond.selects RX7 yX7_surplus yX7_surplus ∈ pw_tbl := pw_in 99 (by decide +kernel) (by decide +kernel)
theorem ks_X7_gain : Cond.selects RX7 yX7_gain yX7_gain ∈ pw_tbl := pw_in 100 (by decide +kernel) (by decide +kernel)
theorem ks_X7_fairPrice : Cond.selects RX7 yX7_fairPrice yX7_fairPrice ∈ pw_tbl := pw_in 101 (by decide +kernel) (by decide +kernel)
theorem ks_X7_whyNotFriends : Cond.selects RX7 yX7_whyNotFriends yX7_whyNotFriends ∈ pw_tbl := pw_in 102 (by decide +kernel) (by decide +kernel)
theorem ks_X7_befriends : Cond.selects RX7 yX7_befriends yX7_befriends ∈ pw_tbl := pw_in 103 (by decide +kernel) (by decide +kernel)
theorem ks_X7_friends : Cond.selects RX7 yX7_friends yX7_friends ∈ pw_tbl := pw_in 104 (by decide +kernel) (by decide +kernel)
theorem ks_X7_settles : Cond.selects RX7 yX7_settles yX7_settles ∈ pw_tbl := pw_in 105 (by decide +kernel) (by decide +kernel)
theorem ks_X7_memberValue : Cond.selects RX7 yX7_memberValue yX7_memberValue ∈ pw_tbl := pw_in 106 (by decide +kernel) (by decide +kernel)
theorem ks_X7_waitOf : Cond.selects RX7 yX7_waitOf yX7_waitOf ∈ pw_tbl := pw_in 107 (by decide +kernel) (by decide +kernel)
theorem ks_X7_pairValue : Cond.selects RX7 yX7_pairValue yX7_pairValue ∈ pw_tbl := pw_in 108 (by decide +kernel) (by decide +kernel)
theorem ks_X7_wholeValue : Cond.selects RX7 yX7_wholeValue yX7_wholeValue ∈ pw_tbl := pw_in 109 (by decide +kernel) (by decide +kernel)
theorem ks_X7_costBy : Cond.selects RX7 yX7_costBy yX7_costBy ∈ pw_tbl := pw_in 110 (by decide +kernel) (by decide +kernel)
theorem ks_X7_bestCost : Cond.selects RX7 yX7_bestCost yX7_bestCost ∈ pw_tbl := pw_in 111 (by decide +kernel) (by decide +kernel)
theorem ks_X7_putAside : Cond.selects RX7 yX7_putAside yX7_putAside ∈ pw_tbl := pw_in 112 (by decide +kernel) (by decide +kernel)
theorem ks_X7_comesBack : Cond.selects RX7 yX7_comesBack yX7_comesBack ∈ pw_tbl := pw_in 113 (by decide +kernel) (by decide +kernel)
theorem ks_X7_profitBy : Cond.selects RX7 yX7_profitBy yX7_profitBy ∈ pw_tbl := pw_in 114 (by decide +kernel) (by decide +kernel)
theorem ks_X7_has : Cond.selects RX7 yX7_has yX7_has ∈ pw_tbl := pw_in 115 (by decide +kernel) (by decide +kernel)
theorem ks_X7_fault : Cond.selects RX7 yX7_fault yX7_fault ∈ pw_tbl := pw_in 116 (by decide +kernel) (by decide +kernel)
theorem ks_X7_passSpaces : Cond.selects RX7 yX7_passSpaces yX7_passSpaces ∈ pw_tbl := pw_in 117 (by decide +kernel) (by decide +kernel)
theorem ks_X7_here : Cond.selects RX7 yX7_here yX7_here ∈ pw_tbl := pw_in 118 (by decide +kernel) (by decide +kernel)
theorem ks_X7_command : Cond.selects RX7 yX7_command yX7_command ∈ pw_tbl := pw_in 119 (by decide +kernel) (by decide +kernel)
theorem ks_X7_word : Cond.selects RX7 yX7_word yX7_word ∈ pw_tbl := pw_in 120 (by decide +kernel) (by decide +kernel)
theorem ks_X7_isNumber : Cond.selects RX7 yX7_isNumber yX7_isNumber ∈ pw_tbl := pw_in 121 (by decide +kernel) (by decide +kernel)
theorem ks_X7_whyNot : Cond.selects RX7 yX7_whyNot yX7_whyNot ∈ pw_tbl := pw_in 122 (by decide +kernel) (by decide +kernel)
theorem ks_X7_does : Cond.selects RX7 yX7_does yX7_does ∈ pw_tbl := pw_in 123 (by decide +kernel) (by decide +kernel)
theorem k0_L : Cond.initialized RL ∈ pw_tbl := pw_in 124 (by decide +kernel) (by decide +kernel)
theorem k0_X6 : Cond.initialized RX6 ∈ pw_tbl := pw_in 125 (by decide +kernel) (by decide +kernel)
theorem k0_X4 : Cond.initialized RX4 ∈ pw_tbl := pw_in 126 (by decide +kernel) (by decide +kernel)
theorem k0_X5 : Cond.initialized RX5 ∈ pw_tbl := pw_in 127 (by decide +kernel) (by decide +kernel)
theorem k0_X3 : Cond.initialized RX3 ∈ pw_tbl := pw_in 128 (by decide +kernel) (by decide +kernel)
theorem k0_X2 : Cond.initialized RX2 ∈ pw_tbl := pw_in 129 (by decide +kernel) (by decide +kernel)
theorem k0_X7 : Cond.initialized RX7 ∈ pw_tbl := pw_in 130 (by decide +kernel) (by decide +kernel)
theorem k0_Jx29ce0 : Cond.initialized RJx29ce0 ∈ pw_tbl := pw_in 131 (by decide +kernel) (by decide +kernel)
theorem k0_X1 : Cond.initialized RX1 ∈ pw_tbl := pw_in 132 (by decide +kernel) (by decide +kernel)
theorem k0_X0 : Cond.initialized RX0 ∈ pw_tbl := pw_in 133 (by decide +kernel) (by decide +kernel)
theorem k0_java_lang_Throwable : Cond.initialized "java/lang/Throwable" ∈ pw_tbl := pw_in 134 (by decide +kernel) (by decide +kernel)
theorem k0_java_lang_Exception : Cond.initialized "java/lang/Exception" ∈ pw_tbl := pw_in 135 (by decide +kernel) (by decide +kernel)
theorem k0_java_lang_RuntimeException : Cond.initialized "java/lang/RuntimeException" ∈ pw_tbl := pw_in 136 (by decide +kernel) (by decide +kernel)
theorem k0_java_lang_IndexOutOfBoundsException : Cond.initialized "java/lang/IndexOutOfBoundsException" ∈ pw_tbl := pw_in 137 (by decide +kernel) (by decide +kernel)
theorem k0_java_lang_IllegalArgumentException : Cond.initialized "java/lang/IllegalArgumentException" ∈ pw_tbl := pw_in 138 (by decide +kernel) (by decide +kernel)
theorem k0_java_lang_IllegalStateException : Cond.initialized "java/lang/IllegalStateException" ∈ pw_tbl := pw_in 139 (by decide +kernel) (by decide +kernel)
theorem k0_J9 : Cond.initialized RJ9 ∈ pw_tbl := pw_in 140 (by decide +kernel) (by decide +kernel)
theorem k0_J0 : Cond.initialized RJ0 ∈ pw_tbl := pw_in 141 (by decide +kernel) (by decide +kernel)
theorem k0_J1 : Cond.initialized RJ1 ∈ pw_tbl := pw_in 142 (by decide +kernel) (by decide +kernel)
theorem k0_J3 : Cond.initialized RJ3 ∈ pw_tbl := pw_in 143 (by decide +kernel) (by decide +kernel)
theorem k0_J2 : Cond.initialized RJ2 ∈ pw_tbl := pw_in 144 (by decide +kernel) (by decide +kernel)
theorem kk_L_8 : Cond.classLink RL 8 RX6 ∈ pw_tbl := pw_in 145 (by decide +kernel) (by decide +kernel)
theorem kx_X6 : Cond.instantiable RX6 4 ∈ pw_tbl := pw_in 146 (by decide +kernel) (by decide +kernel)
theorem km_L_82 : Cond.methodLink RL 82 yX6_init ∈ pw_tbl := pw_in 147 (by decide +kernel) (by decide +kernel)
theorem ki_X6_init : Cond.instanceMethod yX6_init ∈ pw_tbl := pw_in 148 (by decide +kernel) (by decide +kernel)
theorem kc_X6_init : Cond.code yX6_init cX6_init 1 (none : Option Jvm.ClassFile.FieldType) ∈ pw_tbl := pw_in 149 (by decide +kernel) (by decide +kernel)
theorem km_X6_1 : Cond.methodLink RX6 1 objectInit ∈ pw_tbl := pw_in 150 (by decide +kernel) (by decide +kernel)
theorem ki_objectInit : Cond.instanceMethod objectInit ∈ pw_tbl := pw_in 151 (by decide +kernel) (by decide +kernel)
theorem kc_objectInit : Cond.code objectInit ⟨#[0xb1]⟩ 1 none ∈ pw_tbl := pw_in 152 (by decide +kernel) (by decide +kernel)
theorem kk_X6_7 : Cond.classLink RX6 7 RX4 ∈ pw_tbl := pw_in 153 (by decide +kernel) (by decide +kernel)
theorem kx_X4 : Cond.instantiable RX4 8 ∈ pw_tbl := pw_in 154 (by decide +kernel) (by decide +kernel)
theorem kN_X6_9 : Cond.methodLinkNest RX6 9 yX4_init "ConsentQueue" ∈ lw_tbl := List.mem_of_getElem? (i := 155) (by decide +kernel)
theorem ki_X4_init : Cond.instanceMethod yX4_init ∈ pw_tbl := pw_in 156 (by decide +kernel) (by decide +kernel)
theorem kc_X4_init : Cond.code yX4_init cX4_init 2 (none : Option Jvm.ClassFile.FieldType) ∈ pw_tbl := pw_in 157 (by decide +kernel) (by decide +kernel)
theorem km_X4_3 : Cond.methodLink RX4 3 objectInit ∈ pw_tbl := pw_in 158 (by decide +kernel) (by decide +kernel)
theorem kk_X4_9 : Cond.classLink RX4 9 RX5 ∈ pw_tbl := pw_in 159 (by decide +kernel) (by decide +kernel)
theorem kx_X5 : Cond.instantiable RX5 7 ∈ pw_tbl := pw_in 161 (by decide +kernel) (by decide +kernel)
theorem kN_X4_17 : Cond.methodLinkNest RX4 17 yX5_init "ConsentQueue" ∈ lw_tbl := List.mem_of_getElem? (i := 162) (by decide +kernel)
theorem ki_X5_init : Cond.instanceMethod yX5_init ∈ pw_tbl := pw_in 163 (by decide +kernel) (by decide +kernel)
theorem kc_X5_init : Cond.code yX5_init cX5_init 1 (none : Option Jvm.ClassFile.FieldType) ∈ pw_tbl := pw_in 164 (by decide +kernel) (by decide +kernel)
theorem km_X5_3 : Cond.methodLink RX5 3 objectInit ∈ pw_tbl := pw_in 165 (by decide +kernel) (by decide +kernel)
theorem kf_X5_9 : Cond.fieldLink RX5 9 "ConsentQueue$Member" "number" "I" ∈ pw_tbl := pw_in 166 (by decide +kernel) (by decide +kernel)
theorem kn_X4_49 : Cond.fieldLinkNest RX4 49 "ConsentQueue$Member" "number" "I" "ConsentQueue" ∈ lw_tbl := List.mem_of_getElem? (i := 167) (by decide +kernel)
theorem kn_X6_105 : Cond.fieldLinkNest RX6 105 "ConsentQueue$Member" "number" "I" "ConsentQueue" ∈ lw_tbl := List.mem_of_getElem? (i := 168) (by decide +kernel)
theorem kf_X5_18 : Cond.fieldLink RX5 18 "ConsentQueue$Member" "worth" "I" ∈ pw_tbl := pw_in 169 (by decide +kernel) (by decide +kernel)
theorem kn_X4_70 : Cond.fieldLinkNest RX4 70 "ConsentQueue$Member" "worth" "I" "ConsentQueue" ∈ lw_tbl := List.mem_of_getElem? (i := 170) (by decide +kernel)
theorem kf_X5_21 : Cond.fieldLink RX5 21 "ConsentQueue$Member" "told" "I" ∈ pw_tbl := pw_in 171 (by decide +kernel) (by decide +kernel)
theorem kn_X4_67 : Cond.fieldLinkNest RX4 67 "ConsentQueue$Member" "told" "I" "ConsentQueue" ∈ lw_tbl := List.mem_of_getElem? (i := 172) (by decide +kernel)
theorem kn_X6_189 : Cond.fieldLinkNest RX6 189 "ConsentQueue$Member" "told" "I" "ConsentQueue" ∈ lw_tbl := List.mem_of_getElem? (i := 173) (by decide +kernel)
theorem kf_X5_24 : Cond.fieldLink RX5 24 "ConsentQueue$Member" "service" "I" ∈ pw_tbl := pw_in 174 (by decide +kernel) (by decide +kernel)
theorem kn_X4_107 : Cond.fieldLinkNest RX4 107 "ConsentQueue$Member" "service" "I" "ConsentQueue" ∈ lw_tbl := List.mem_of_getElem? (i := 175) (by decide +kernel)
theorem kf_X5_27 : Cond.fieldLink RX5 27 "ConsentQueue$Member" "money" "I" ∈ pw_tbl := pw_in 176 (by decide +kernel) (by decide +kernel)
theorem kn_X4_91 : Cond.fieldLinkNest RX4 91 "ConsentQueue$Member" "money" "I" "ConsentQueue" ∈ lw_tbl := List.mem_of_getElem? (i := 177) (by decide +kernel)
theorem kn_X6_195 : Cond.fieldLinkNest RX6 195 "ConsentQueue$Member" "money" "I" "ConsentQueue" ∈ lw_tbl := List.mem_of_getElem? (i := 178) (by decide +kernel)
theorem kf_X5_15 : Cond.fieldLink RX5 15 "ConsentQueue$Member" "offer" "I" ∈ pw_tbl := pw_in 179 (by decide +kernel) (by decide +kernel)
theorem kn_X4_73 : Cond.fieldLinkNest RX4 73 "ConsentQueue$Member" "offer" "I" "ConsentQueue" ∈ lw_tbl := List.mem_of_getElem? (i := 180) (by decide +kernel)
theorem kf_X5_30 : Cond.fieldLink RX5 30 "ConsentQueue$Member" "friendAhead" "Z" ∈ pw_tbl := pw_in 181 (by decide +kernel) (by decide +kernel)
theorem kn_X4_76 : Cond.fieldLinkNest RX4 76 "ConsentQueue$Member" "friendAhead" "Z" "ConsentQueue" ∈ lw_tbl := List.mem_of_getElem? (i := 182) (by decide +kernel)
theorem kn_X6_256 : Cond.fieldLinkNest RX6 256 "ConsentQueue$Member" "friendAhead" "Z" "ConsentQueue" ∈ lw_tbl := List.mem_of_getElem? (i := 183) (by decide +kernel)
theorem kf_X4_11 : Cond.fieldLink RX4 11 "ConsentQueue$Line" "members" "[LConsentQueue$Member;" ∈ pw_tbl := pw_in 199 (by decide +kernel) (by decide +kernel)
theorem kf_X4_18 : Cond.fieldLink RX4 18 "ConsentQueue$Line" "nobody" "LConsentQueue$Member;" ∈ pw_tbl := pw_in 200 (by decide +kernel) (by decide +kernel)
theorem kf_X4_26 : Cond.fieldLink RX4 26 "ConsentQueue$Line" "count" "I" ∈ pw_tbl := pw_in 201 (by decide +kernel) (by decide +kernel)
theorem kn_X6_185 : Cond.fieldLinkNest RX6 185 "ConsentQueue$Line" "count" "I" "ConsentQueue" ∈ lw_tbl := List.mem_of_getElem? (i := 202) (by decide +kernel)
theorem kf_X4_22 : Cond.fieldLink RX4 22 "ConsentQueue$Line" "split" "I" ∈ pw_tbl := pw_in 203 (by decide +kernel) (by decide +kernel)
theorem kn_X6_67 : Cond.fieldLinkNest RX6 67 "ConsentQueue$Line" "split" "I" "ConsentQueue" ∈ lw_tbl := List.mem_of_getElem? (i := 204) (by decide +kernel)
theorem kf_X4_29 : Cond.fieldLink RX4 29 "ConsentQueue$Line" "swaps" "I" ∈ pw_tbl := pw_in 205 (by decide +kernel) (by decide +kernel)
theorem kf_X4_32 : Cond.fieldLink RX4 32 "ConsentQueue$Line" "paid" "I" ∈ pw_tbl := pw_in 206 (by decide +kernel) (by decide +kernel)
theorem kf_X4_35 : Cond.fieldLink RX4 35 "ConsentQueue$Line" "served" "I" ∈ pw_tbl := pw_in 207 (by decide +kernel) (by decide +kernel)
theorem kf_X4_38 : Cond.fieldLink RX4 38 "ConsentQueue$Line" "joined" "I" ∈ pw_tbl := pw_in 208 (by decide +kernel) (by decide +kernel)
theorem kk_X6_19 : Cond.classLink RX6 19 RX3 ∈ pw_tbl := pw_in 226 (by decide +kernel) (by decide +kernel)
theorem kx_X3 : Cond.instantiable RX3 2 ∈ pw_tbl := pw_in 227 (by decide +kernel) (by decide +kernel)
theorem kN_X6_21 : Cond.methodLinkNest RX6 21 yX3_init "ConsentQueue" ∈ lw_tbl := List.mem_of_getElem? (i := 228) (by decide +kernel)
theorem ki_X3_init : Cond.instanceMethod yX3_init ∈ pw_tbl := pw_in 229 (by decide +kernel) (by decide +kernel)
theorem kc_X3_init : Cond.code yX3_init cX3_init 2 (none : Option Jvm.ClassFile.FieldType) ∈ pw_tbl := pw_in 230 (by decide +kernel) (by decide +kernel)
theorem km_X3_3 : Cond.methodLink RX3 3 objectInit ∈ pw_tbl := pw_in 231 (by decide +kernel) (by decide +kernel)
theorem kk_X3_9 : Cond.classLink RX3 9 RX4 ∈ pw_tbl := pw_in 232 (by decide +kernel) (by decide +kernel)
theorem kN_X3_17 : Cond.methodLinkNest RX3 17 yX4_init "ConsentQueue" ∈ lw_tbl := List.mem_of_getElem? (i := 234) (by decide +kernel)
theorem kf_X3_11 : Cond.fieldLink RX3 11 "ConsentQueue$History" "saved" "[LConsentQueue$Line;" ∈ pw_tbl := pw_in 235 (by decide +kernel) (by decide +kernel)
theorem kf_X3_18 : Cond.fieldLink RX3 18 "ConsentQueue$History" "size" "I" ∈ pw_tbl := pw_in 236 (by decide +kernel) (by decide +kernel)
theorem kn_X6_168 : Cond.fieldLinkNest RX6 168 "ConsentQueue$History" "size" "I" "ConsentQueue" ∈ lw_tbl := List.mem_of_getElem? (i := 237) (by decide +kernel)
theorem kk_X6_26 : Cond.classLink RX6 26 RX2 ∈ pw_tbl := pw_in 243 (by decide +kernel) (by decide +kernel)
theorem kx_X2 : Cond.instantiable RX2 6 ∈ pw_tbl := pw_in 244 (by decide +kernel) (by decide +kernel)
theorem kN_X6_28 : Cond.methodLinkNest RX6 28 yX2_init "ConsentQueue" ∈ lw_tbl := List.mem_of_getElem? (i := 245) (by decide +kernel)
theorem ki_X2_init : Cond.instanceMethod yX2_init ∈ pw_tbl := pw_in 246 (by decide +kernel) (by decide +kernel)
theorem kc_X2_init : Cond.code yX2_init cX2_init 1 (none : Option Jvm.ClassFile.FieldType) ∈ pw_tbl := pw_in 247 (by decide +kernel) (by decide +kernel)
theorem km_X2_3 : Cond.methodLink RX2 3 objectInit ∈ pw_tbl := pw_in 248 (by decide +kernel) (by decide +kernel)
theorem kf_X2_9 : Cond.fieldLink RX2 9 "ConsentQueue$CommandText" "bytes" "[B" ∈ pw_tbl := pw_in 249 (by decide +kernel) (by decide +kernel)
theorem kf_X2_23 : Cond.fieldLink RX2 23 "ConsentQueue$CommandText" "length" "I" ∈ pw_tbl := pw_in 250 (by decide +kernel) (by decide +kernel)
theorem kn_X6_142 : Cond.fieldLinkNest RX6 142 "ConsentQueue$CommandText" "length" "I" "ConsentQueue" ∈ lw_tbl := List.mem_of_getElem? (i := 251) (by decide +kernel)
theorem kf_X2_36 : Cond.fieldLink RX2 36 "ConsentQueue$CommandText" "position" "I" ∈ pw_tbl := pw_in 252 (by decide +kernel) (by decide +kernel)
theorem kf_X2_15 : Cond.fieldLink RX2 15 "ConsentQueue$CommandText" "fault" "I" ∈ pw_tbl := pw_in 253 (by decide +kernel) (by decide +kernel)
theorem kf_X2_39 : Cond.fieldLink RX2 39 "ConsentQueue$CommandText" "command" "LConsentQueue$Command;" ∈ pw_tbl := pw_in 254 (by decide +kernel) (by decide +kernel)
theorem kn_X6_161 : Cond.fieldLinkNest RX6 161 "ConsentQueue$CommandText" "command" "LConsentQueue$Command;" "ConsentQueue" ∈ lw_tbl := List.mem_of_getElem? (i := 255) (by decide +kernel)
theorem kf_X2_19 : Cond.fieldLink RX2 19 "ConsentQueue$CommandText" "numbers" "[I" ∈ pw_tbl := pw_in 256 (by decide +kernel) (by decide +kernel)
theorem kf_X6_10 : Cond.fieldLink RX6 10 "ConsentQueue" "line" "LConsentQueue$Line;" ∈ pw_tbl := pw_in 272 (by decide +kernel) (by decide +kernel)
theorem kf_X6_16 : Cond.fieldLink RX6 16 "ConsentQueue" "trial" "LConsentQueue$Line;" ∈ pw_tbl := pw_in 273 (by decide +kernel) (by decide +kernel)
theorem kf_X6_22 : Cond.fieldLink RX6 22 "ConsentQueue" "history" "LConsentQueue$History;" ∈ pw_tbl := pw_in 274 (by decide +kernel) (by decide +kernel)
theorem kf_X6_29 : Cond.fieldLink RX6 29 "ConsentQueue" "text" "LConsentQueue$CommandText;" ∈ pw_tbl := pw_in 275 (by decide +kernel) (by decide +kernel)
theorem km_L_128 : Cond.methodLink RL 128 yX6_settle ∈ pw_tbl := pw_in 285 (by decide +kernel) (by decide +kernel)
theorem ki_X6_settle : Cond.instanceMethod yX6_settle ∈ pw_tbl := pw_in 286 (by decide +kernel) (by decide +kernel)
theorem ks_X6_settle : Cond.selects RX6 yX6_settle yX6_settle ∈ pw_tbl := pw_in 287 (by decide +kernel) (by decide +kernel)
theorem kc_X6_settle : Cond.code yX6_settle cX6_settle 1 (some .int) ∈ pw_tbl := pw_in 288 (by decide +kernel) (by decide +kernel)
theorem kf_X6_86 : Cond.fieldLink RX6 86 "ConsentQueue$Command" "SETTLE" "LConsentQueue$Command;" ∈ pw_tbl := pw_in 289 (by decide +kernel) (by decide +kernel)
theorem km_X6_39 : Cond.methodLink RX6 39 yX6_perform ∈ pw_tbl := pw_in 291 (by decide +kernel) (by decide +kernel)
theorem ki_X6_perform : Cond.instanceMethod yX6_perform ∈ pw_tbl := pw_in 293 (by decide +kernel) (by decide +kernel)
theorem kc_X6_perform : Cond.code yX6_perform cX6_perform 5 (some .int) ∈ pw_tbl := pw_in 294 (by decide +kernel) (by decide +kernel)
theorem km_X6_198 : Cond.methodLink RX6 198 yX6_faultOf ∈ pw_tbl := pw_in 295 (by decide +kernel) (by decide +kernel)
theorem ki_X6_faultOf : Cond.instanceMethod yX6_faultOf ∈ pw_tbl := pw_in 297 (by decide +kernel) (by decide +kernel)
theorem kc_X6_faultOf : Cond.code yX6_faultOf cX6_faultOf 5 (some .int) ∈ pw_tbl := pw_in 298 (by decide +kernel) (by decide +kernel)
theorem kf_X6_206 : Cond.fieldLink RX6 206 "ConsentQueue$1" "$SwitchMap$ConsentQueue$Command" "[I" ∈ pw_tbl := pw_in 299 (by decide +kernel) (by decide +kernel)
theorem ki_Jx29ce0_ordinal_8abf5 : Cond.instanceMethod yJx29ce0_ordinal_8abf5 ∈ pw_tbl := pw_in 305 (by decide +kernel) (by decide +kernel)
theorem kc_Jx29ce0_ordinal_8abf5 : Cond.code yJx29ce0_ordinal_8abf5 cJx29ce0_ordinal_8abf5 1 (some .int) ∈ pw_tbl := pw_in 306 (by decide +kernel) (by decide +kernel)
theorem km_X6_215 : Cond.methodLink RX6 215 yX6_joinFault ∈ pw_tbl := pw_in 307 (by decide +kernel) (by decide +kernel)
theorem ki_X6_joinFault : Cond.instanceMethod yX6_joinFault ∈ pw_tbl := pw_in 309 (by decide +kernel) (by decide +kernel)
theorem kc_X6_joinFault : Cond.code yX6_joinFault cX6_joinFault 5 (some .int) ∈ pw_tbl := pw_in 310 (by decide +kernel) (by decide +kernel)
theorem km_X6_55 : Cond.methodLink RX6 55 yX6_isWithin ∈ pw_tbl := pw_in 311 (by decide +kernel) (by decide +kernel)
theorem kt_X6_isWithin : Cond.static yX6_isWithin ∈ pw_tbl := pw_in 312 (by decide +kernel) (by decide +kernel)
theorem kc_X6_isWithin : Cond.code yX6_isWithin cX6_isWithin 3 (some .boolean) ∈ pw_tbl := pw_in 313 (by decide +kernel) (by decide +kernel)
theorem kN_X6_101 : Cond.methodLinkNest RX6 101 yX4_memberAt "ConsentQueue" ∈ lw_tbl := List.mem_of_getElem? (i := 314) (by decide +kernel)
theorem ki_X4_memberAt : Cond.instanceMethod yX4_memberAt ∈ pw_tbl := pw_in 316 (by decide +kernel) (by decide +kernel)
theorem kc_X4_memberAt : Cond.code yX4_memberAt cX4_memberAt 3 (some (.object "ConsentQueue$Member")) ∈ pw_tbl := pw_in 317 (by decide +kernel) (by decide +kernel)
theorem kN_X6_89 : Cond.methodLinkNest RX6 89 yX4_placeOf "ConsentQueue" ∈ lw_tbl := List.mem_of_getElem? (i := 318) (by decide +kernel)
theorem ki_X4_placeOf : Cond.instanceMethod yX4_placeOf ∈ pw_tbl := pw_in 320 (by decide +kernel) (by decide +kernel)
theorem kc_X4_placeOf : Cond.code yX4_placeOf cX4_placeOf 3 (some .int) ∈ pw_tbl := pw_in 321 (by decide +kernel) (by decide +kernel)
theorem km_X4_41 : Cond.methodLink RX4 41 yX4_memberAt ∈ pw_tbl := pw_in 322 (by decide +kernel) (by decide +kernel)
theorem km_X6_93 : Cond.methodLink RX6 93 yX6_memberFault ∈ pw_tbl := pw_in 323 (by decide +kernel) (by decide +kernel)
theorem ki_X6_memberFault : Cond.instanceMethod yX6_memberFault ∈ pw_tbl := pw_in 325 (by decide +kernel) (by decide +kernel)
theorem kc_X6_memberFault : Cond.code yX6_memberFault cX6_memberFault 3 (some .int) ∈ pw_tbl := pw_in 326 (by decide +kernel) (by decide +kernel)
theorem km_X6_219 : Cond.methodLink RX6 219 yX6_offerFault ∈ pw_tbl := pw_in 327 (by decide +kernel) (by decide +kernel)
theorem ki_X6_offerFault : Cond.instanceMethod yX6_offerFault ∈ pw_tbl := pw_in 329 (by decide +kernel) (by decide +kernel)
theorem kc_X6_offerFault : Cond.code yX6_offerFault cX6_offerFault 4 (some .int) ∈ pw_tbl := pw_in 330 (by decide +kernel) (by decide +kernel)
theorem km_X6_222 : Cond.methodLink RX6 222 yX6_takeFault ∈ pw_tbl := pw_in 331 (by decide +kernel) (by decide +kernel)
theorem ki_X6_takeFault : Cond.instanceMethod yX6_takeFault ∈ pw_tbl := pw_in 333 (by decide +kernel) (by decide +kernel)
theorem kc_X6_takeFault : Cond.code yX6_takeFault cX6_takeFault 3 (some .int) ∈ pw_tbl := pw_in 334 (by decide +kernel) (by decide +kernel)
theorem kN_X6_260 : Cond.methodLinkNest RX6 260 yX4_wouldTake "ConsentQueue" ∈ lw_tbl := List.mem_of_getElem? (i := 335) (by decide +kernel)
theorem ki_X4_wouldTake : Cond.instanceMethod yX4_wouldTake ∈ pw_tbl := pw_in 337 (by decide +kernel) (by decide +kernel)
theorem kc_X4_wouldTake : Cond.code yX4_wouldTake cX4_wouldTake 3 (some .boolean) ∈ pw_tbl := pw_in 338 (by decide +kernel) (by decide +kernel)
theorem km_X4_113 : Cond.methodLink RX4 113 yX4_loss ∈ pw_tbl := pw_in 339 (by decide +kernel) (by decide +kernel)
theorem ki_X4_loss : Cond.instanceMethod yX4_loss ∈ pw_tbl := pw_in 341 (by decide +kernel) (by decide +kernel)
theorem kc_X4_loss : Cond.code yX4_loss cX4_loss 2 (some .int) ∈ pw_tbl := pw_in 342 (by decide +kernel) (by decide +kernel)
theorem km_X4_103 : Cond.methodLink RX4 103 yX4_isHeldByFriends ∈ pw_tbl := pw_in 343 (by decide +kernel) (by decide +kernel)
theorem ki_X4_isHeldByFriends : Cond.instanceMethod yX4_isHeldByFriends ∈ pw_tbl := pw_in 345 (by decide +kernel) (by decide +kernel)
theorem kc_X4_isHeldByFriends : Cond.code yX4_isHeldByFriends cX4_isHeldByFriends 2 (some .boolean) ∈ pw_tbl := pw_in 346 (by decide +kernel) (by decide +kernel)
theorem kN_X6_225 : Cond.methodLinkNest RX6 225 yX4_wouldSwap "ConsentQueue" ∈ lw_tbl := List.mem_of_getElem? (i := 347) (by decide +kernel)
theorem ki_X4_wouldSwap : Cond.instanceMethod yX4_wouldSwap ∈ pw_tbl := pw_in 349 (by decide +kernel) (by decide +kernel)
theorem kc_X4_wouldSwap : Cond.code yX4_wouldSwap cX4_wouldSwap 2 (some .boolean) ∈ pw_tbl := pw_in 350 (by decide +kernel) (by decide +kernel)
theorem km_X4_110 : Cond.methodLink RX4 110 yX4_hindrance ∈ pw_tbl := pw_in 351 (by decide +kernel) (by decide +kernel)
theorem ki_X4_hindrance : Cond.instanceMethod yX4_hindrance ∈ pw_tbl := pw_in 353 (by decide +kernel) (by decide +kernel)
theorem kc_X4_hindrance : Cond.code yX4_hindrance cX4_hindrance 2 (some .int) ∈ pw_tbl := pw_in 354 (by decide +kernel) (by decide +kernel)
theorem km_X4_116 : Cond.methodLink RX4 116 yX4_areFriends ∈ pw_tbl := pw_in 355 (by decide +kernel) (by decide +kernel)
theorem ki_X4_areFriends : Cond.instanceMethod yX4_areFriends ∈ pw_tbl := pw_in 357 (by decide +kernel) (by decide +kernel)
theorem kc_X4_areFriends : Cond.code yX4_areFriends cX4_areFriends 2 (some .boolean) ∈ pw_tbl := pw_in 358 (by decide +kernel) (by decide +kernel)
theorem km_X4_100 : Cond.methodLink RX4 100 yX4_surplus ∈ pw_tbl := pw_in 359 (by decide +kernel) (by decide +kernel)
theorem ki_X4_surplus : Cond.instanceMethod yX4_surplus ∈ pw_tbl := pw_in 361 (by decide +kernel) (by decide +kernel)
theorem kc_X4_surplus : Cond.code yX4_surplus cX4_surplus 4 (some .int) ∈ pw_tbl := pw_in 362 (by decide +kernel) (by decide +kernel)
theorem km_X6_110 : Cond.methodLink RX6 110 yX6_pairFault ∈ pw_tbl := pw_in 363 (by decide +kernel) (by decide +kernel)
theorem ki_X6_pairFault : Cond.instanceMethod yX6_pairFault ∈ pw_tbl := pw_in 365 (by decide +kernel) (by decide +kernel)
theorem kc_X6_pairFault : Cond.code yX6_pairFault cX6_pairFault 4 (some .int) ∈ pw_tbl := pw_in 366 (by decide +kernel) (by decide +kernel)
theorem kN_X6_229 : Cond.methodLinkNest RX6 229 yX4_areFriends "ConsentQueue" ∈ lw_tbl := List.mem_of_getElem? (i := 367) (by decide +kernel)
theorem km_X6_59 : Cond.methodLink RX6 59 yX6_refuse ∈ pw_tbl := pw_in 368 (by decide +kernel) (by decide +kernel)
theorem kt_X6_refuse : Cond.static yX6_refuse ∈ pw_tbl := pw_in 369 (by decide +kernel) (by decide +kernel)
theorem kc_X6_refuse : Cond.code yX6_refuse cX6_refuse 1 (none : Option Jvm.ClassFile.FieldType) ∈ pw_tbl := pw_in 370 (by decide +kernel) (by decide +kernel)
theorem kk_X6_263 : Cond.classLink RX6 263 "java/lang/IndexOutOfBoundsException" ∈ pw_tbl := pw_in 371 (by decide +kernel) (by decide +kernel)
theorem kx_java_lang_IndexOutOfBoundsException : Cond.instantiable "java/lang/IndexOutOfBoundsException" 6 ∈ pw_tbl := pw_in 372 (by decide +kernel) (by decide +kernel)
theorem kx_java_lang_Throwable : Cond.instantiable "java/lang/Throwable" 6 ∈ pw_tbl := pw_in 410 (by decide +kernel) (by decide +kernel)
theorem kk_X6_270 : Cond.classLink RX6 270 "java/lang/IllegalArgumentException" ∈ pw_tbl := pw_in 438 (by decide +kernel) (by decide +kernel)
theorem kx_java_lang_IllegalArgumentException : Cond.instantiable "java/lang/IllegalArgumentException" 6 ∈ pw_tbl := pw_in 439 (by decide +kernel) (by decide +kernel)
theorem kk_X6_275 : Cond.classLink RX6 275 "java/lang/IllegalStateException" ∈ pw_tbl := pw_in 454 (by decide +kernel) (by decide +kernel)
theorem kx_java_lang_IllegalStateException : Cond.instantiable "java/lang/IllegalStateException" 6 ∈ pw_tbl := pw_in 455 (by decide +kernel) (by decide +kernel)
theorem kN_X6_63 : Cond.methodLinkNest RX6 63 yX3_push "ConsentQueue" ∈ lw_tbl := List.mem_of_getElem? (i := 470) (by decide +kernel)
theorem ki_X3_push : Cond.instanceMethod yX3_push ∈ pw_tbl := pw_in 472 (by decide +kernel) (by decide +kernel)
theorem kc_X3_push : Cond.code yX3_push cX3_push 3 (none : Option Jvm.ClassFile.FieldType) ∈ pw_tbl := pw_in 473 (by decide +kernel) (by decide +kernel)
theorem km_X3_22 : Cond.methodLink RX3 22 yX3_dropOldest ∈ pw_tbl := pw_in 474 (by decide +kernel) (by decide +kernel)
theorem ki_X3_dropOldest : Cond.instanceMethod yX3_dropOldest ∈ pw_tbl := pw_in 476 (by decide +kernel) (by decide +kernel)
theorem kc_X3_dropOldest : Cond.code yX3_dropOldest cX3_dropOldest 3 (none : Option Jvm.ClassFile.FieldType) ∈ pw_tbl := pw_in 477 (by decide +kernel) (by decide +kernel)
theorem kN_X3_25 : Cond.methodLinkNest RX3 25 yX4_copyFrom "ConsentQueue" ∈ lw_tbl := List.mem_of_getElem? (i := 478) (by decide +kernel)
theorem ki_X4_copyFrom : Cond.instanceMethod yX4_copyFrom ∈ pw_tbl := pw_in 480 (by decide +kernel) (by decide +kernel)
theorem kc_X4_copyFrom : Cond.code yX4_copyFrom cX4_copyFrom 3 (none : Option Jvm.ClassFile.FieldType) ∈ pw_tbl := pw_in 481 (by decide +kernel) (by decide +kernel)
theorem kN_X4_45 : Cond.methodLinkNest RX4 45 yX5_copyFrom "ConsentQueue" ∈ lw_tbl := List.mem_of_getElem? (i := 482) (by decide +kernel)
theorem ki_X5_copyFrom : Cond.instanceMethod yX5_copyFrom ∈ pw_tbl := pw_in 484 (by decide +kernel) (by decide +kernel)
theorem kc_X5_copyFrom : Cond.code yX5_copyFrom cX5_copyFrom 2 (none : Option Jvm.ClassFile.FieldType) ∈ pw_tbl := pw_in 485 (by decide +kernel) (by decide +kernel)
theorem km_X6_201 : Cond.methodLink RX6 201 yX6_carryOut ∈ pw_tbl := pw_in 486 (by decide +kernel) (by decide +kernel)
theorem ki_X6_carryOut : Cond.instanceMethod yX6_carryOut ∈ pw_tbl := pw_in 488 (by decide +kernel) (by decide +kernel)
theorem kc_X6_carryOut : Cond.code yX6_carryOut cX6_carryOut 5 (some .int) ∈ pw_tbl := pw_in 489 (by decide +kernel) (by decide +kernel)
theorem kN_X6_232 : Cond.methodLinkNest RX6 232 yX4_insert "ConsentQueue" ∈ lw_tbl := List.mem_of_getElem? (i := 490) (by decide +kernel)
theorem ki_X4_insert : Cond.instanceMethod yX4_insert ∈ pw_tbl := pw_in 492 (by decide +kernel) (by decide +kernel)
theorem kc_X4_insert : Cond.code yX4_insert cX4_insert 6 (some .int) ∈ pw_tbl := pw_in 493 (by decide +kernel) (by decide +kernel)
theorem kN_X4_52 : Cond.methodLinkNest RX4 52 yX5_begin "ConsentQueue" ∈ lw_tbl := List.mem_of_getElem? (i := 494) (by decide +kernel)
theorem ki_X5_begin : Cond.instanceMethod yX5_begin ∈ pw_tbl := pw_in 496 (by decide +kernel) (by decide +kernel)
theorem kc_X5_begin : Cond.code yX5_begin cX5_begin 4 (none : Option Jvm.ClassFile.FieldType) ∈ pw_tbl := pw_in 497 (by decide +kernel) (by decide +kernel)
theorem km_X5_34 : Cond.methodLink RX5 34 yX5_loseOneAhead ∈ pw_tbl := pw_in 498 (by decide +kernel) (by decide +kernel)
theorem ki_X5_loseOneAhead : Cond.instanceMethod yX5_loseOneAhead ∈ pw_tbl := pw_in 500 (by decide +kernel) (by decide +kernel)
theorem kc_X5_loseOneAhead : Cond.code yX5_loseOneAhead cX5_loseOneAhead 1 (none : Option Jvm.ClassFile.FieldType) ∈ pw_tbl := pw_in 501 (by decide +kernel) (by decide +kernel)
theorem kN_X4_56 : Cond.methodLinkNest RX4 56 yX5_loseOneAhead "ConsentQueue" ∈ lw_tbl := List.mem_of_getElem? (i := 502) (by decide +kernel)
theorem kN_X6_235 : Cond.methodLinkNest RX6 235 yX4_removeMember "ConsentQueue" ∈ lw_tbl := List.mem_of_getElem? (i := 503) (by decide +kernel)
theorem ki_X4_removeMember : Cond.instanceMethod yX4_removeMember ∈ pw_tbl := pw_in 505 (by decide +kernel) (by decide +kernel)
theorem kc_X4_removeMember : Cond.code yX4_removeMember cX4_removeMember 3 (some .int) ∈ pw_tbl := pw_in 506 (by decide +kernel) (by decide +kernel)
theorem km_X4_59 : Cond.methodLink RX4 59 yX4_placeOf ∈ pw_tbl := pw_in 507 (by decide +kernel) (by decide +kernel)
theorem km_X4_63 : Cond.methodLink RX4 63 yX4_removeAt ∈ pw_tbl := pw_in 508 (by decide +kernel) (by decide +kernel)
theorem ki_X4_removeAt : Cond.instanceMethod yX4_removeAt ∈ pw_tbl := pw_in 510 (by decide +kernel) (by decide +kernel)
theorem kc_X4_removeAt : Cond.code yX4_removeAt cX4_removeAt 4 (none : Option Jvm.ClassFile.FieldType) ∈ pw_tbl := pw_in 511 (by decide +kernel) (by decide +kernel)
theorem kN_X6_238 : Cond.methodLinkNest RX6 238 yX4_tell "ConsentQueue" ∈ lw_tbl := List.mem_of_getElem? (i := 512) (by decide +kernel)
theorem ki_X4_tell : Cond.instanceMethod yX4_tell ∈ pw_tbl := pw_in 514 (by decide +kernel) (by decide +kernel)
theorem kc_X4_tell : Cond.code yX4_tell cX4_tell 5 (some .int) ∈ pw_tbl := pw_in 515 (by decide +kernel) (by decide +kernel)
theorem kN_X6_241 : Cond.methodLinkNest RX6 241 yX4_makeOffer "ConsentQueue" ∈ lw_tbl := List.mem_of_getElem? (i := 516) (by decide +kernel)
theorem ki_X4_makeOffer : Cond.instanceMethod yX4_makeOffer ∈ pw_tbl := pw_in 518 (by decide +kernel) (by decide +kernel)
theorem kc_X4_makeOffer : Cond.code yX4_makeOffer cX4_makeOffer 5 (some .int) ∈ pw_tbl := pw_in 519 (by decide +kernel) (by decide +kernel)
theorem kN_X6_244 : Cond.methodLinkNest RX6 244 yX4_swapAsOffered "ConsentQueue" ∈ lw_tbl := List.mem_of_getElem? (i := 520) (by decide +kernel)
theorem ki_X4_swapAsOffered : Cond.instanceMethod yX4_swapAsOffered ∈ pw_tbl := pw_in 522 (by decide +kernel) (by decide +kernel)
theorem kc_X4_swapAsOffered : Cond.code yX4_swapAsOffered cX4_swapAsOffered 2 (some .int) ∈ pw_tbl := pw_in 523 (by decide +kernel) (by decide +kernel)
theorem km_X4_84 : Cond.methodLink RX4 84 yX4_swapAt ∈ pw_tbl := pw_in 524 (by decide +kernel) (by decide +kernel)
theorem ki_X4_swapAt : Cond.instanceMethod yX4_swapAt ∈ pw_tbl := pw_in 526 (by decide +kernel) (by decide +kernel)
theorem kc_X4_swapAt : Cond.code yX4_swapAt cX4_swapAt 5 (some .int) ∈ pw_tbl := pw_in 527 (by decide +kernel) (by decide +kernel)
theorem kN_X6_247 : Cond.methodLinkNest RX6 247 yX4_swapFairly "ConsentQueue" ∈ lw_tbl := List.mem_of_getElem? (i := 528) (by decide +kernel)
theorem ki_X4_swapFairly : Cond.instanceMethod yX4_swapFairly ∈ pw_tbl := pw_in 530 (by decide +kernel) (by decide +kernel)
theorem kc_X4_swapFairly : Cond.code yX4_swapFairly cX4_swapFairly 2 (some .int) ∈ pw_tbl := pw_in 531 (by decide +kernel) (by decide +kernel)
theorem km_X4_88 : Cond.methodLink RX4 88 yX4_fairPrice ∈ pw_tbl := pw_in 532 (by decide +kernel) (by decide +kernel)
theorem ki_X4_fairPrice : Cond.instanceMethod yX4_fairPrice ∈ pw_tbl := pw_in 534 (by decide +kernel) (by decide +kernel)
theorem kc_X4_fairPrice : Cond.code yX4_fairPrice cX4_fairPrice 6 (some .int) ∈ pw_tbl := pw_in 535 (by decide +kernel) (by decide +kernel)
theorem kN_X6_250 : Cond.methodLinkNest RX6 250 yX4_setFriends "ConsentQueue" ∈ lw_tbl := List.mem_of_getElem? (i := 536) (by decide +kernel)
theorem ki_X4_setFriends : Cond.instanceMethod yX4_setFriends ∈ pw_tbl := pw_in 538 (by decide +kernel) (by decide +kernel)
theorem kc_X4_setFriends : Cond.code yX4_setFriends cX4_setFriends 3 (some .int) ∈ pw_tbl := pw_in 539 (by decide +kernel) (by decide +kernel)
theorem km_X4_80 : Cond.methodLink RX4 80 yX4_friendPairs ∈ pw_tbl := pw_in 540 (by decide +kernel) (by decide +kernel)
theorem ki_X4_friendPairs : Cond.instanceMethod yX4_friendPairs ∈ pw_tbl := pw_in 542 (by decide +kernel) (by decide +kernel)
theorem kc_X4_friendPairs : Cond.code yX4_friendPairs cX4_friendPairs 3 (some .int) ∈ pw_tbl := pw_in 543 (by decide +kernel) (by decide +kernel)
theorem kN_X6_253 : Cond.methodLinkNest RX6 253 yX4_serveFirst "ConsentQueue" ∈ lw_tbl := List.mem_of_getElem? (i := 544) (by decide +kernel)
theorem ki_X4_serveFirst : Cond.instanceMethod yX4_serveFirst ∈ pw_tbl := pw_in 546 (by decide +kernel) (by decide +kernel)
theorem kc_X4_serveFirst : Cond.code yX4_serveFirst cX4_serveFirst 2 (some .int) ∈ pw_tbl := pw_in 547 (by decide +kernel) (by decide +kernel)
theorem kN_X6_126 : Cond.methodLinkNest RX6 126 yX4_settleDown "ConsentQueue" ∈ lw_tbl := List.mem_of_getElem? (i := 548) (by decide +kernel)
theorem ki_X4_settleDown : Cond.instanceMethod yX4_settleDown ∈ pw_tbl := pw_in 550 (by decide +kernel) (by decide +kernel)
theorem kc_X4_settleDown : Cond.code yX4_settleDown cX4_settleDown 3 (some .int) ∈ pw_tbl := pw_in 551 (by decide +kernel) (by decide +kernel)
theorem km_X4_94 : Cond.methodLink RX4 94 yX4_keenestPair ∈ pw_tbl := pw_in 552 (by decide +kernel) (by decide +kernel)
theorem ki_X4_keenestPair : Cond.instanceMethod yX4_keenestPair ∈ pw_tbl := pw_in 554 (by decide +kernel) (by decide +kernel)
theorem kc_X4_keenestPair : Cond.code yX4_keenestPair cX4_keenestPair 5 (some .int) ∈ pw_tbl := pw_in 555 (by decide +kernel) (by decide +kernel)
theorem km_X4_97 : Cond.methodLink RX4 97 yX4_swapFairly ∈ pw_tbl := pw_in 556 (by decide +kernel) (by decide +kernel)
theorem km_L_156 : Cond.methodLink RL 156 yX6_honestCost ∈ pw_tbl := pw_in 557 (by decide +kernel) (by decide +kernel)
theorem ki_X6_honestCost : Cond.instanceMethod yX6_honestCost ∈ pw_tbl := pw_in 558 (by decide +kernel) (by decide +kernel)
theorem ks_X6_honestCost : Cond.selects RX6 yX6_honestCost yX6_honestCost ∈ pw_tbl := pw_in 559 (by decide +kernel) (by decide +kernel)
theorem kc_X6_honestCost : Cond.code yX6_honestCost cX6_honestCost 1 (some .int) ∈ pw_tbl := pw_in 560 (by decide +kernel) (by decide +kernel)
theorem kN_X6_123 : Cond.methodLinkNest RX6 123 yX4_copyFrom "ConsentQueue" ∈ lw_tbl := List.mem_of_getElem? (i := 561) (by decide +kernel)
theorem kN_X6_133 : Cond.methodLinkNest RX6 133 yX4_tellTruth "ConsentQueue" ∈ lw_tbl := List.mem_of_getElem? (i := 562) (by decide +kernel)
theorem ki_X4_tellTruth : Cond.instanceMethod yX4_tellTruth ∈ pw_tbl := pw_in 564 (by decide +kernel) (by decide +kernel)
theorem kc_X4_tellTruth : Cond.code yX4_tellTruth cX4_tellTruth 2 (none : Option Jvm.ClassFile.FieldType) ∈ pw_tbl := pw_in 565 (by decide +kernel) (by decide +kernel)
theorem kN_X6_136 : Cond.methodLinkNest RX6 136 yX4_cost "ConsentQueue" ∈ lw_tbl := List.mem_of_getElem? (i := 566) (by decide +kernel)
theorem ki_X4_cost : Cond.instanceMethod yX4_cost ∈ pw_tbl := pw_in 568 (by decide +kernel) (by decide +kernel)
theorem kc_X4_cost : Cond.code yX4_cost cX4_cost 3 (some .int) ∈ pw_tbl := pw_in 569 (by decide +kernel) (by decide +kernel)
theorem km_X4_125 : Cond.methodLink RX4 125 yX4_costAt ∈ pw_tbl := pw_in 570 (by decide +kernel) (by decide +kernel)
theorem ki_X4_costAt : Cond.instanceMethod yX4_costAt ∈ pw_tbl := pw_in 572 (by decide +kernel) (by decide +kernel)
theorem kc_X4_costAt : Cond.code yX4_costAt cX4_costAt 2 (some .int) ∈ pw_tbl := pw_in 573 (by decide +kernel) (by decide +kernel)
theorem km_X4_122 : Cond.methodLink RX4 122 yX4_waitAt ∈ pw_tbl := pw_in 574 (by decide +kernel) (by decide +kernel)
theorem ki_X4_waitAt : Cond.instanceMethod yX4_waitAt ∈ pw_tbl := pw_in 576 (by decide +kernel) (by decide +kernel)
theorem kc_X4_waitAt : Cond.code yX4_waitAt cX4_waitAt 4 (some .int) ∈ pw_tbl := pw_in 577 (by decide +kernel) (by decide +kernel)
theorem km_L_160 : Cond.methodLink RL 160 yX6_disorder ∈ pw_tbl := pw_in 578 (by decide +kernel) (by decide +kernel)
theorem ki_X6_disorder : Cond.instanceMethod yX6_disorder ∈ pw_tbl := pw_in 579 (by decide +kernel) (by decide +kernel)
theorem ks_X6_disorder : Cond.selects RX6 yX6_disorder yX6_disorder ∈ pw_tbl := pw_in 580 (by decide +kernel) (by decide +kernel)
theorem kc_X6_disorder : Cond.code yX6_disorder cX6_disorder 1 (some .int) ∈ pw_tbl := pw_in 581 (by decide +kernel) (by decide +kernel)
theorem kN_X6_139 : Cond.methodLinkNest RX6 139 yX4_wrongPairs "ConsentQueue" ∈ lw_tbl := List.mem_of_getElem? (i := 582) (by decide +kernel)
theorem ki_X4_wrongPairs : Cond.instanceMethod yX4_wrongPairs ∈ pw_tbl := pw_in 584 (by decide +kernel) (by decide +kernel)
theorem kc_X4_wrongPairs : Cond.code yX4_wrongPairs cX4_wrongPairs 4 (some .int) ∈ pw_tbl := pw_in 585 (by decide +kernel) (by decide +kernel)
theorem km_X4_131 : Cond.methodLink RX4 131 yX4_waitingCost ∈ pw_tbl := pw_in 586 (by decide +kernel) (by decide +kernel)
theorem ki_X4_waitingCost : Cond.instanceMethod yX4_waitingCost ∈ pw_tbl := pw_in 588 (by decide +kernel) (by decide +kernel)
theorem kc_X4_waitingCost : Cond.code yX4_waitingCost cX4_waitingCost 3 (some .int) ∈ pw_tbl := pw_in 589 (by decide +kernel) (by decide +kernel)
theorem km_L_167 : Cond.methodLink RL 167 yX6_clearCommands ∈ pw_tbl := pw_in 590 (by decide +kernel) (by decide +kernel)
theorem ki_X6_clearCommands : Cond.instanceMethod yX6_clearCommands ∈ pw_tbl := pw_in 591 (by decide +kernel) (by decide +kernel)
theorem ks_X6_clearCommands : Cond.selects RX6 yX6_clearCommands yX6_clearCommands ∈ pw_tbl := pw_in 592 (by decide +kernel) (by decide +kernel)
theorem kc_X6_clearCommands : Cond.code yX6_clearCommands cX6_clearCommands 2 (some .int) ∈ pw_tbl := pw_in 593 (by decide +kernel) (by decide +kernel)
theorem km_L_171 : Cond.methodLink RL 171 yX6_runCommands ∈ pw_tbl := pw_in 594 (by decide +kernel) (by decide +kernel)
theorem ki_X6_runCommands : Cond.instanceMethod yX6_runCommands ∈ pw_tbl := pw_in 595 (by decide +kernel) (by decide +kernel)
theorem ks_X6_runCommands : Cond.selects RX6 yX6_runCommands yX6_runCommands ∈ pw_tbl := pw_in 596 (by decide +kernel) (by decide +kernel)
theorem kc_X6_runCommands : Cond.code yX6_runCommands cX6_runCommands 4 (some .int) ∈ pw_tbl := pw_in 597 (by decide +kernel) (by decide +kernel)
theorem kN_X6_148 : Cond.methodLinkNest RX6 148 yX2_findFault "ConsentQueue" ∈ lw_tbl := List.mem_of_getElem? (i := 598) (by decide +kernel)
theorem ki_X2_findFault : Cond.instanceMethod yX2_findFault ∈ pw_tbl := pw_in 600 (by decide +kernel) (by decide +kernel)
theorem kc_X2_findFault : Cond.code yX2_findFault cX2_findFault 2 (some .int) ∈ pw_tbl := pw_in 601 (by decide +kernel) (by decide +kernel)
theorem km_X2_26 : Cond.methodLink RX2 26 yX2_startReading ∈ pw_tbl := pw_in 602 (by decide +kernel) (by decide +kernel)
theorem ki_X2_startReading : Cond.instanceMethod yX2_startReading ∈ pw_tbl := pw_in 604 (by decide +kernel) (by decide +kernel)
theorem kc_X2_startReading : Cond.code yX2_startReading cX2_startReading 1 (none : Option Jvm.ClassFile.FieldType) ∈ pw_tbl := pw_in 605 (by decide +kernel) (by decide +kernel)
theorem km_X2_29 : Cond.methodLink RX2 29 yX2_hasCommand ∈ pw_tbl := pw_in 606 (by decide +kernel) (by decide +kernel)
theorem ki_X2_hasCommand : Cond.instanceMethod yX2_hasCommand ∈ pw_tbl := pw_in 608 (by decide +kernel) (by decide +kernel)
theorem kc_X2_hasCommand : Cond.code yX2_hasCommand cX2_hasCommand 1 (some .boolean) ∈ pw_tbl := pw_in 609 (by decide +kernel) (by decide +kernel)
theorem km_X2_43 : Cond.methodLink RX2 43 yX2_skipSpaces ∈ pw_tbl := pw_in 610 (by decide +kernel) (by decide +kernel)
theorem ki_X2_skipSpaces : Cond.instanceMethod yX2_skipSpaces ∈ pw_tbl := pw_in 612 (by decide +kernel) (by decide +kernel)
theorem kc_X2_skipSpaces : Cond.code yX2_skipSpaces cX2_skipSpaces 1 (none : Option Jvm.ClassFile.FieldType) ∈ pw_tbl := pw_in 613 (by decide +kernel) (by decide +kernel)
theorem km_X2_64 : Cond.methodLink RX2 64 yX2_byteAt ∈ pw_tbl := pw_in 614 (by decide +kernel) (by decide +kernel)
theorem ki_X2_byteAt : Cond.instanceMethod yX2_byteAt ∈ pw_tbl := pw_in 616 (by decide +kernel) (by decide +kernel)
theorem kc_X2_byteAt : Cond.code yX2_byteAt cX2_byteAt 2 (some .int) ∈ pw_tbl := pw_in 617 (by decide +kernel) (by decide +kernel)
theorem km_X2_33 : Cond.methodLink RX2 33 yX2_readCommand ∈ pw_tbl := pw_in 618 (by decide +kernel) (by decide +kernel)
theorem ki_X2_readCommand : Cond.instanceMethod yX2_readCommand ∈ pw_tbl := pw_in 620 (by decide +kernel) (by decide +kernel)
theorem kc_X2_readCommand : Cond.code yX2_readCommand cX2_readCommand 4 (none : Option Jvm.ClassFile.FieldType) ∈ pw_tbl := pw_in 621 (by decide +kernel) (by decide +kernel)
theorem km_X2_46 : Cond.methodLink RX2 46 yX2_skipLetters ∈ pw_tbl := pw_in 622 (by decide +kernel) (by decide +kernel)
theorem ki_X2_skipLetters : Cond.instanceMethod yX2_skipLetters ∈ pw_tbl := pw_in 624 (by decide +kernel) (by decide +kernel)
theorem kc_X2_skipLetters : Cond.code yX2_skipLetters cX2_skipLetters 1 (none : Option Jvm.ClassFile.FieldType) ∈ pw_tbl := pw_in 625 (by decide +kernel) (by decide +kernel)
theorem km_X2_76 : Cond.methodLink RX2 76 yX2_isLetter ∈ pw_tbl := pw_in 626 (by decide +kernel) (by decide +kernel)
theorem kt_X2_isLetter : Cond.static yX2_isLetter ∈ pw_tbl := pw_in 627 (by decide +kernel) (by decide +kernel)
theorem kc_X2_isLetter : Cond.code yX2_isLetter cX2_isLetter 1 (some .boolean) ∈ pw_tbl := pw_in 628 (by decide +kernel) (by decide +kernel)
theorem km_X2_49 : Cond.methodLink RX2 49 yX2_commandSpelled ∈ pw_tbl := pw_in 629 (by decide +kernel) (by decide +kernel)
theorem ki_X2_commandSpelled : Cond.instanceMethod yX2_commandSpelled ∈ pw_tbl := pw_in 631 (by decide +kernel) (by decide +kernel)
theorem kc_X2_commandSpelled : Cond.code yX2_commandSpelled cX2_commandSpelled 7 (some (.object "ConsentQueue$Command")) ∈ pw_tbl := pw_in 632 (by decide +kernel) (by decide +kernel)
theorem kn_X2_79 : Cond.fieldLinkNest RX2 79 "ConsentQueue$Command" "ALL" "[LConsentQueue$Command;" "ConsentQueue" ∈ lw_tbl := List.mem_of_getElem? (i := 633) (by decide +kernel)
theorem km_X2_87 : Cond.methodLink RX2 87 yX2_isSpelled ∈ pw_tbl := pw_in 635 (by decide +kernel) (by decide +kernel)
theorem ki_X2_isSpelled : Cond.instanceMethod yX2_isSpelled ∈ pw_tbl := pw_in 637 (by decide +kernel) (by decide +kernel)
theorem kc_X2_isSpelled : Cond.code yX2_isSpelled cX2_isSpelled 5 (some .boolean) ∈ pw_tbl := pw_in 638 (by decide +kernel) (by decide +kernel)
theorem km_X2_91 : Cond.methodLink RX2 91 yJ0_length_8abf5 ∈ pw_tbl := pw_in 639 (by decide +kernel) (by decide +kernel)
theorem ki_J0_length_8abf5 : Cond.instanceMethod yJ0_length_8abf5 ∈ pw_tbl := pw_in 640 (by decide +kernel) (by decide +kernel)
theorem ks_J0_length_8abf5 : Cond.selects RJ0 yJ0_length_8abf5 yJ0_length_8abf5 ∈ pw_tbl := pw_in 641 (by decide +kernel) (by decide +kernel)
theorem kc_J0_length_8abf5 : Cond.code yJ0_length_8abf5 cJ0_length_8abf5 1 (some .int) ∈ pw_tbl := pw_in 642 (by decide +kernel) (by decide +kernel)
theorem km_J0_335 : Cond.methodLink RJ0 335 yJ0_coder_7d493 ∈ pw_tbl := pw_in 643 (by decide +kernel) (by decide +kernel)
theorem ki_J0_coder_7d493 : Cond.instanceMethod yJ0_coder_7d493 ∈ pw_tbl := pw_in 644 (by decide +kernel) (by decide +kernel)
theorem ks_J0_coder_7d493 : Cond.selects RJ0 yJ0_coder_7d493 yJ0_coder_7d493 ∈ pw_tbl := pw_in 645 (by decide +kernel) (by decide +kernel)
theorem kc_J0_coder_7d493 : Cond.code yJ0_coder_7d493 cJ0_coder_7d493 1 (some .byte) ∈ pw_tbl := pw_in 646 (by decide +kernel) (by decide +kernel)
theorem kf_J0_38 : Cond.fieldLink RJ0 38 "java/lang/String" "COMPACT_STRINGS" "Z" ∈ pw_tbl := pw_in 647 (by decide +kernel) (by decide +kernel)
theorem km_X2_95 : Cond.methodLink RX2 95 yJ0_charAt_5068e ∈ pw_tbl := pw_in 649 (by decide +kernel) (by decide +kernel)
theorem ki_J0_charAt_5068e : Cond.instanceMethod yJ0_charAt_5068e ∈ pw_tbl := pw_in 650 (by decide +kernel) (by decide +kernel)
theorem ks_J0_charAt_5068e : Cond.selects RJ0 yJ0_charAt_5068e yJ0_charAt_5068e ∈ pw_tbl := pw_in 651 (by decide +kernel) (by decide +kernel)
theorem kc_J0_charAt_5068e : Cond.code yJ0_charAt_5068e cJ0_charAt_5068e 2 (some .char) ∈ pw_tbl := pw_in 652 (by decide +kernel) (by decide +kernel)
theorem km_J0_492 : Cond.methodLink RJ0 492 yJ0_isLatin1_aae02 ∈ pw_tbl := pw_in 653 (by decide +kernel) (by decide +kernel)
theorem ki_J0_isLatin1_aae02 : Cond.instanceMethod yJ0_isLatin1_aae02 ∈ pw_tbl := pw_in 654 (by decide +kernel) (by decide +kernel)
theorem ks_J0_isLatin1_aae02 : Cond.selects RJ0 yJ0_isLatin1_aae02 yJ0_isLatin1_aae02 ∈ pw_tbl := pw_in 655 (by decide +kernel) (by decide +kernel)
theorem kc_J0_isLatin1_aae02 : Cond.code yJ0_isLatin1_aae02 cJ0_isLatin1_aae02 1 (some .boolean) ∈ pw_tbl := pw_in 656 (by decide +kernel) (by decide +kernel)
theorem km_J0_495 : Cond.methodLink RJ0 495 yJ1_charAt_3b067 ∈ pw_tbl := pw_in 657 (by decide +kernel) (by decide +kernel)
theorem kt_J1_charAt_3b067 : Cond.static yJ1_charAt_3b067 ∈ pw_tbl := pw_in 658 (by decide +kernel) (by decide +kernel)
theorem kc_J1_charAt_3b067 : Cond.code yJ1_charAt_3b067 cJ1_charAt_3b067 2 (some .char) ∈ pw_tbl := pw_in 659 (by decide +kernel) (by decide +kernel)
theorem km_J1_9 : Cond.methodLink RJ1 9 yJ0_checkIndex_df160 ∈ pw_tbl := pw_in 660 (by decide +kernel) (by decide +kernel)
theorem kt_J0_checkIndex_df160 : Cond.static yJ0_checkIndex_df160 ∈ pw_tbl := pw_in 661 (by decide +kernel) (by decide +kernel)
theorem kc_J0_checkIndex_df160 : Cond.code yJ0_checkIndex_df160 cJ0_checkIndex_df160 2 (none : Option Jvm.ClassFile.FieldType) ∈ pw_tbl := pw_in 662 (by decide +kernel) (by decide +kernel)
theorem kf_J0_1053 : Cond.fieldLink RJ0 1053 "jdk/internal/util/Preconditions" "SIOOBE_FORMATTER" "Ljava/util/function/BiFunction;" ∈ pw_tbl := pw_in 663 (by decide +kernel) (by decide +kernel)
theorem km_J0_1059 : Cond.methodLink RJ0 1059 yJ3_checkIndex_8e157 ∈ pw_tbl := pw_in 665 (by decide +kernel) (by decide +kernel)
theorem kt_J3_checkIndex_8e157 : Cond.static yJ3_checkIndex_8e157 ∈ pw_tbl := pw_in 666 (by decide +kernel) (by decide +kernel)
theorem kc_J3_checkIndex_8e157 : Cond.code yJ3_checkIndex_8e157 cJ3_checkIndex_8e157 3 (some .int) ∈ pw_tbl := pw_in 667 (by decide +kernel) (by decide +kernel)
theorem km_J0_498 : Cond.methodLink RJ0 498 yJ2_charAt_3b067 ∈ pw_tbl := pw_in 668 (by decide +kernel) (by decide +kernel)
theorem kt_J2_charAt_3b067 : Cond.static yJ2_charAt_3b067 ∈ pw_tbl := pw_in 669 (by decide +kernel) (by decide +kernel)
theorem kc_J2_charAt_3b067 : Cond.code yJ2_charAt_3b067 cJ2_charAt_3b067 2 (some .char) ∈ pw_tbl := pw_in 670 (by decide +kernel) (by decide +kernel)
theorem km_J2_67 : Cond.methodLink RJ2 67 yJ2_checkIndex_2214a ∈ pw_tbl := pw_in 671 (by decide +kernel) (by decide +kernel)
theorem kt_J2_checkIndex_2214a : Cond.static yJ2_checkIndex_2214a ∈ pw_tbl := pw_in 672 (by decide +kernel) (by decide +kernel)
theorem kc_J2_checkIndex_2214a : Cond.code yJ2_checkIndex_2214a cJ2_checkIndex_2214a 2 (none : Option Jvm.ClassFile.FieldType) ∈ pw_tbl := pw_in 673 (by decide +kernel) (by decide +kernel)
theorem km_J2_48 : Cond.methodLink RJ2 48 yJ2_length_9d52b ∈ pw_tbl := pw_in 674 (by decide +kernel) (by decide +kernel)
theorem kt_J2_length_9d52b : Cond.static yJ2_length_9d52b ∈ pw_tbl := pw_in 675 (by decide +kernel) (by decide +kernel)
theorem kc_J2_length_9d52b : Cond.code yJ2_length_9d52b cJ2_length_9d52b 1 (some .int) ∈ pw_tbl := pw_in 676 (by decide +kernel) (by decide +kernel)
theorem km_J2_414 : Cond.methodLink RJ2 414 yJ0_checkIndex_df160 ∈ pw_tbl := pw_in 677 (by decide +kernel) (by decide +kernel)
theorem km_J2_71 : Cond.methodLink RJ2 71 yJ2_getChar_3b067 ∈ pw_tbl := pw_in 678 (by decide +kernel) (by decide +kernel)
theorem kt_J2_getChar_3b067 : Cond.static yJ2_getChar_3b067 ∈ pw_tbl := pw_in 679 (by decide +kernel) (by decide +kernel)
theorem kc_J2_getChar_3b067 : Cond.code yJ2_getChar_3b067 cJ2_getChar_3b067 2 (some .char) ∈ pw_tbl := pw_in 680 (by decide +kernel) (by decide +kernel)
theorem kf_J2_44 : Cond.fieldLink RJ2 44 "java/lang/StringUTF16" "$assertionsDisabled" "Z" ∈ pw_tbl := pw_in 681 (by decide +kernel) (by decide +kernel)
theorem kf_J2_59 : Cond.fieldLink RJ2 59 "java/lang/StringUTF16" "HI_BYTE_SHIFT" "I" ∈ pw_tbl := pw_in 683 (by decide +kernel) (by decide +kernel)
theorem kf_J2_63 : Cond.fieldLink RJ2 63 "java/lang/StringUTF16" "LO_BYTE_SHIFT" "I" ∈ pw_tbl := pw_in 685 (by decide +kernel) (by decide +kernel)
theorem km_X2_57 : Cond.methodLink RX2 57 yX2_readNumber ∈ pw_tbl := pw_in 687 (by decide +kernel) (by decide +kernel)
theorem ki_X2_readNumber : Cond.instanceMethod yX2_readNumber ∈ pw_tbl := pw_in 689 (by decide +kernel) (by decide +kernel)
theorem kc_X2_readNumber : Cond.code yX2_readNumber cX2_readNumber 4 (none : Option Jvm.ClassFile.FieldType) ∈ pw_tbl := pw_in 690 (by decide +kernel) (by decide +kernel)
theorem km_X2_68 : Cond.methodLink RX2 68 yX2_isDigit ∈ pw_tbl := pw_in 691 (by decide +kernel) (by decide +kernel)
theorem kt_X2_isDigit : Cond.static yX2_isDigit ∈ pw_tbl := pw_in 692 (by decide +kernel) (by decide +kernel)
theorem kc_X2_isDigit : Cond.code yX2_isDigit cX2_isDigit 1 (some .boolean) ∈ pw_tbl := pw_in 693 (by decide +kernel) (by decide +kernel)
theorem km_X2_72 : Cond.methodLink RX2 72 yX2_readDigits ∈ pw_tbl := pw_in 694 (by decide +kernel) (by decide +kernel)
theorem ki_X2_readDigits : Cond.instanceMethod yX2_readDigits ∈ pw_tbl := pw_in 696 (by decide +kernel) (by decide +kernel)
theorem kc_X2_readDigits : Cond.code yX2_readDigits cX2_readDigits 3 (some .int) ∈ pw_tbl := pw_in 697 (by decide +kernel) (by decide +kernel)
theorem km_X2_61 : Cond.methodLink RX2 61 yX2_readSemicolon ∈ pw_tbl := pw_in 698 (by decide +kernel) (by decide +kernel)
theorem ki_X2_readSemicolon : Cond.instanceMethod yX2_readSemicolon ∈ pw_tbl := pw_in 700 (by decide +kernel) (by decide +kernel)
theorem kc_X2_readSemicolon : Cond.code yX2_readSemicolon cX2_readSemicolon 1 (none : Option Jvm.ClassFile.FieldType) ∈ pw_tbl := pw_in 701 (by decide +kernel) (by decide +kernel)
theorem kN_X6_151 : Cond.methodLinkNest RX6 151 yX2_startReading "ConsentQueue" ∈ lw_tbl := List.mem_of_getElem? (i := 702) (by decide +kernel)
theorem kN_X6_154 : Cond.methodLinkNest RX6 154 yX2_hasCommand "ConsentQueue" ∈ lw_tbl := List.mem_of_getElem? (i := 703) (by decide +kernel)
theorem kN_X6_158 : Cond.methodLinkNest RX6 158 yX2_readCommand "ConsentQueue" ∈ lw_tbl := List.mem_of_getElem? (i := 704) (by decide +kernel)
theorem km_X6_164 : Cond.methodLink RX6 164 yX6_carryOutRead ∈ pw_tbl := pw_in 705 (by decide +kernel) (by decide +kernel)
theorem ki_X6_carryOutRead : Cond.instanceMethod yX6_carryOutRead ∈ pw_tbl := pw_in 707 (by decide +kernel) (by decide +kernel)
theorem kc_X6_carryOutRead : Cond.code yX6_carryOutRead cX6_carryOutRead 5 (some .boolean) ∈ pw_tbl := pw_in 708 (by decide +kernel) (by decide +kernel)
theorem kN_X6_204 : Cond.methodLinkNest RX6 204 yX2_number "ConsentQueue" ∈ lw_tbl := List.mem_of_getElem? (i := 709) (by decide +kernel)
theorem ki_X2_number : Cond.instanceMethod yX2_number ∈ pw_tbl := pw_in 711 (by decide +kernel) (by decide +kernel)
theorem kc_X2_number : Cond.code yX2_number cX2_number 2 (some .int) ∈ pw_tbl := pw_in 712 (by decide +kernel) (by decide +kernel)
theorem km_L_178 : Cond.methodLink RL 178 yX6_digest ∈ pw_tbl := pw_in 713 (by decide +kernel) (by decide +kernel)
theorem ki_X6_digest : Cond.instanceMethod yX6_digest ∈ pw_tbl := pw_in 714 (by decide +kernel) (by decide +kernel)
theorem ks_X6_digest : Cond.selects RX6 yX6_digest yX6_digest ∈ pw_tbl := pw_in 715 (by decide +kernel) (by decide +kernel)
theorem kc_X6_digest : Cond.code yX6_digest cX6_digest 4 (some .long) ∈ pw_tbl := pw_in 716 (by decide +kernel) (by decide +kernel)
theorem kl_X6_174 : Cond.constantLong RX6 174 (1359102) ∈ pw_tbl := pw_in 717 (by decide +kernel) (by decide +kernel)
theorem kl_X6_176 : Cond.constantLong RX6 176 (31) ∈ pw_tbl := pw_in 718 (by decide +kernel) (by decide +kernel)
theorem km_X6_117 : Cond.methodLink RX6 117 yX6_wholeValue ∈ pw_tbl := pw_in 719 (by decide +kernel) (by decide +kernel)
theorem ki_X6_wholeValue : Cond.instanceMethod yX6_wholeValue ∈ pw_tbl := pw_in 721 (by decide +kernel) (by decide +kernel)
theorem kc_X6_wholeValue : Cond.code yX6_wholeValue cX6_wholeValue 2 (some .int) ∈ pw_tbl := pw_in 722 (by decide +kernel) (by decide +kernel)
theorem kN_X6_188 : Cond.methodLinkNest RX6 188 yX4_wholeValue "ConsentQueue" ∈ lw_tbl := List.mem_of_getElem? (i := 723) (by decide +kernel)
theorem ki_X4_wholeValue : Cond.instanceMethod yX4_wholeValue ∈ pw_tbl := pw_in 725 (by decide +kernel) (by decide +kernel)
theorem kc_X4_wholeValue : Cond.code yX4_wholeValue cX4_wholeValue 2 (some .int) ∈ pw_tbl := pw_in 726 (by decide +kernel) (by decide +kernel)
theorem km_X4_142 : Cond.methodLink RX4 142 yX4_cost ∈ pw_tbl := pw_in 727 (by decide +kernel) (by decide +kernel)
theorem km_X4_145 : Cond.methodLink RX4 145 yX4_toldCost ∈ pw_tbl := pw_in 728 (by decide +kernel) (by decide +kernel)
theorem ki_X4_toldCost : Cond.instanceMethod yX4_toldCost ∈ pw_tbl := pw_in 730 (by decide +kernel) (by decide +kernel)
theorem kc_X4_toldCost : Cond.code yX4_toldCost cX4_toldCost 3 (some .int) ∈ pw_tbl := pw_in 731 (by decide +kernel) (by decide +kernel)
theorem km_X4_148 : Cond.methodLink RX4 148 yX4_bestCost ∈ pw_tbl := pw_in 732 (by decide +kernel) (by decide +kernel)
theorem ki_X4_bestCost : Cond.instanceMethod yX4_bestCost ∈ pw_tbl := pw_in 734 (by decide +kernel) (by decide +kernel)
theorem kc_X4_bestCost : Cond.code yX4_bestCost cX4_bestCost 4 (some .int) ∈ pw_tbl := pw_in 735 (by decide +kernel) (by decide +kernel)
theorem km_X4_134 : Cond.methodLink RX4 134 yJ9_min_7cf53 ∈ pw_tbl := pw_in 736 (by decide +kernel) (by decide +kernel)
theorem kt_J9_min_7cf53 : Cond.static yJ9_min_7cf53 ∈ pw_tbl := pw_in 737 (by decide +kernel) (by decide +kernel)
theorem kc_J9_min_7cf53 : Cond.code yJ9_min_7cf53 cJ9_min_7cf53 2 (some .int) ∈ pw_tbl := pw_in 738 (by decide +kernel) (by decide +kernel)
theorem km_X4_151 : Cond.methodLink RX4 151 yX4_willingPairs ∈ pw_tbl := pw_in 739 (by decide +kernel) (by decide +kernel)
theorem ki_X4_willingPairs : Cond.instanceMethod yX4_willingPairs ∈ pw_tbl := pw_in 741 (by decide +kernel) (by decide +kernel)
theorem kc_X4_willingPairs : Cond.code yX4_willingPairs cX4_willingPairs 3 (some .int) ∈ pw_tbl := pw_in 742 (by decide +kernel) (by decide +kernel)
theorem km_X4_154 : Cond.methodLink RX4 154 yX4_offers ∈ pw_tbl := pw_in 743 (by decide +kernel) (by decide +kernel)
theorem ki_X4_offers : Cond.instanceMethod yX4_offers ∈ pw_tbl := pw_in 745 (by decide +kernel) (by decide +kernel)
theorem kc_X4_offers : Cond.code yX4_offers cX4_offers 3 (some .int) ∈ pw_tbl := pw_in 746 (by decide +kernel) (by decide +kernel)
theorem km_X4_157 : Cond.methodLink RX4 157 yX4_welcomeOffers ∈ pw_tbl := pw_in 747 (by decide +kernel) (by decide +kernel)
theorem ki_X4_welcomeOffers : Cond.instanceMethod yX4_welcomeOffers ∈ pw_tbl := pw_in 749 (by decide +kernel) (by decide +kernel)
theorem kc_X4_welcomeOffers : Cond.code yX4_welcomeOffers cX4_welcomeOffers 3 (some .int) ∈ pw_tbl := pw_in 750 (by decide +kernel) (by decide +kernel)
theorem km_X4_139 : Cond.methodLink RX4 139 yX4_wouldTake ∈ pw_tbl := pw_in 751 (by decide +kernel) (by decide +kernel)
theorem km_X6_178 : Cond.methodLink RX6 178 yX6_digestMembers ∈ pw_tbl := pw_in 752 (by decide +kernel) (by decide +kernel)
theorem ki_X6_digestMembers : Cond.instanceMethod yX6_digestMembers ∈ pw_tbl := pw_in 754 (by decide +kernel) (by decide +kernel)
theorem kc_X6_digestMembers : Cond.code yX6_digestMembers cX6_digestMembers 7 (some .long) ∈ pw_tbl := pw_in 755 (by decide +kernel) (by decide +kernel)
theorem kN_X6_97 : Cond.methodLinkNest RX6 97 yX4_memberValue "ConsentQueue" ∈ lw_tbl := List.mem_of_getElem? (i := 756) (by decide +kernel)
theorem ki_X4_memberValue : Cond.instanceMethod yX4_memberValue ∈ pw_tbl := pw_in 758 (by decide +kernel) (by decide +kernel)
theorem kc_X4_memberValue : Cond.code yX4_memberValue cX4_memberValue 4 (some .int) ∈ pw_tbl := pw_in 759 (by decide +kernel) (by decide +kernel)
theorem km_X4_128 : Cond.methodLink RX4 128 yX4_friendsAt ∈ pw_tbl := pw_in 760 (by decide +kernel) (by decide +kernel)
theorem ki_X4_friendsAt : Cond.instanceMethod yX4_friendsAt ∈ pw_tbl := pw_in 762 (by decide +kernel) (by decide +kernel)
theorem kc_X4_friendsAt : Cond.code yX4_friendsAt cX4_friendsAt 2 (some .int) ∈ pw_tbl := pw_in 763 (by decide +kernel) (by decide +kernel)
theorem km_X6_182 : Cond.methodLink RX6 182 yX6_digestPairs ∈ pw_tbl := pw_in 764 (by decide +kernel) (by decide +kernel)
theorem ki_X6_digestPairs : Cond.instanceMethod yX6_digestPairs ∈ pw_tbl := pw_in 766 (by decide +kernel) (by decide +kernel)
theorem kc_X6_digestPairs : Cond.code yX6_digestPairs cX6_digestPairs 7 (some .long) ∈ pw_tbl := pw_in 767 (by decide +kernel) (by decide +kernel)
theorem kN_X6_114 : Cond.methodLinkNest RX6 114 yX4_pairValue "ConsentQueue" ∈ lw_tbl := List.mem_of_getElem? (i := 768) (by decide +kernel)
theorem ki_X4_pairValue : Cond.instanceMethod yX4_pairValue ∈ pw_tbl := pw_in 770 (by decide +kernel) (by decide +kernel)
theorem kc_X4_pairValue : Cond.code yX4_pairValue cX4_pairValue 3 (some .int) ∈ pw_tbl := pw_in 771 (by decide +kernel) (by decide +kernel)
theorem km_X4_119 : Cond.methodLink RX4 119 yX4_gain ∈ pw_tbl := pw_in 772 (by decide +kernel) (by decide +kernel)
theorem ki_X4_gain : Cond.instanceMethod yX4_gain ∈ pw_tbl := pw_in 774 (by decide +kernel) (by decide +kernel)
theorem kc_X4_gain : Cond.code yX4_gain cX4_gain 2 (some .int) ∈ pw_tbl := pw_in 775 (by decide +kernel) (by decide +kernel)
theorem kN_X6_120 : Cond.methodLinkNest RX6 120 yX4_hindrance "ConsentQueue" ∈ lw_tbl := List.mem_of_getElem? (i := 776) (by decide +kernel)
theorem km_L_86 : Cond.methodLink RL 86 yL_join ∈ pw_tbl := pw_in 777 (by decide +kernel) (by decide +kernel)
theorem kt_L_join : Cond.static yL_join ∈ pw_tbl := pw_in 778 (by decide +kernel) (by decide +kernel)
theorem kc_L_join : Cond.codeWith yL_join cL_join 5 (some .int) [(0, 10, 13, 13), (0, 10, 17, 15)] ∈ pw_tbl := pw_in 779 (by decide +kernel) (by decide +kernel)
theorem kk_L_13 : Cond.classLink RL 13 "java/lang/IllegalArgumentException" ∈ pw_tbl := pw_in 780 (by decide +kernel) (by decide +kernel)
theorem kk_L_15 : Cond.classLink RL 15 "java/lang/IllegalStateException" ∈ pw_tbl := pw_in 781 (by decide +kernel) (by decide +kernel)
theorem km_L_7 : Cond.methodLink RL 7 yX6_join ∈ pw_tbl := pw_in 782 (by decide +kernel) (by decide +kernel)
theorem ki_X6_join : Cond.instanceMethod yX6_join ∈ pw_tbl := pw_in 783 (by decide +kernel) (by decide +kernel)
theorem ks_X6_join : Cond.selects RX6 yX6_join yX6_join ∈ pw_tbl := pw_in 784 (by decide +kernel) (by decide +kernel)
theorem kc_X6_join : Cond.code yX6_join cX6_join 3 (some .int) ∈ pw_tbl := pw_in 785 (by decide +kernel) (by decide +kernel)
theorem kf_X6_33 : Cond.fieldLink RX6 33 "ConsentQueue$Command" "JOIN" "LConsentQueue$Command;" ∈ pw_tbl := pw_in 786 (by decide +kernel) (by decide +kernel)
theorem km_L_95 : Cond.methodLink RL 95 yL_joinAt ∈ pw_tbl := pw_in 788 (by decide +kernel) (by decide +kernel)
theorem kt_L_joinAt : Cond.static yL_joinAt ∈ pw_tbl := pw_in 789 (by decide +kernel) (by decide +kernel)
theorem kc_L_joinAt : Cond.codeWith yL_joinAt cL_joinAt 6 (some .int) [(0, 12, 15, 13), (0, 12, 19, 15)] ∈ pw_tbl := pw_in 790 (by decide +kernel) (by decide +kernel)
theorem km_L_17 : Cond.methodLink RL 17 yX6_joinAt ∈ pw_tbl := pw_in 791 (by decide +kernel) (by decide +kernel)
theorem ki_X6_joinAt : Cond.instanceMethod yX6_joinAt ∈ pw_tbl := pw_in 792 (by decide +kernel) (by decide +kernel)
theorem ks_X6_joinAt : Cond.selects RX6 yX6_joinAt yX6_joinAt ∈ pw_tbl := pw_in 793 (by decide +kernel) (by decide +kernel)
theorem kc_X6_joinAt : Cond.code yX6_joinAt cX6_joinAt 4 (some .int) ∈ pw_tbl := pw_in 794 (by decide +kernel) (by decide +kernel)
theorem kf_X6_43 : Cond.fieldLink RX6 43 "ConsentQueue$Command" "PUSH" "LConsentQueue$Command;" ∈ pw_tbl := pw_in 795 (by decide +kernel) (by decide +kernel)
theorem km_L_99 : Cond.methodLink RL 99 yL_leave ∈ pw_tbl := pw_in 797 (by decide +kernel) (by decide +kernel)
theorem kt_L_leave : Cond.static yL_leave ∈ pw_tbl := pw_in 798 (by decide +kernel) (by decide +kernel)
theorem kc_L_leave : Cond.codeWith yL_leave cL_leave 4 (some .int) [(0, 9, 12, 25)] ∈ pw_tbl := pw_in 799 (by decide +kernel) (by decide +kernel)
theorem kk_L_25 : Cond.classLink RL 25 "java/lang/IndexOutOfBoundsException" ∈ pw_tbl := pw_in 800 (by decide +kernel) (by decide +kernel)
theorem km_L_21 : Cond.methodLink RL 21 yX6_leave ∈ pw_tbl := pw_in 801 (by decide +kernel) (by decide +kernel)
theorem ki_X6_leave : Cond.instanceMethod yX6_leave ∈ pw_tbl := pw_in 802 (by decide +kernel) (by decide +kernel)
theorem ks_X6_leave : Cond.selects RX6 yX6_leave yX6_leave ∈ pw_tbl := pw_in 803 (by decide +kernel) (by decide +kernel)
theorem kc_X6_leave : Cond.code yX6_leave cX6_leave 2 (some .int) ∈ pw_tbl := pw_in 804 (by decide +kernel) (by decide +kernel)
theorem kf_X6_46 : Cond.fieldLink RX6 46 "ConsentQueue$Command" "LEAVE" "LConsentQueue$Command;" ∈ pw_tbl := pw_in 805 (by decide +kernel) (by decide +kernel)
theorem km_L_103 : Cond.methodLink RL 103 yL_serve ∈ pw_tbl := pw_in 807 (by decide +kernel) (by decide +kernel)
theorem kt_L_serve : Cond.static yL_serve ∈ pw_tbl := pw_in 808 (by decide +kernel) (by decide +kernel)
theorem kc_L_serve : Cond.codeWith yL_serve cL_serve 3 (some .int) [(0, 8, 11, 15)] ∈ pw_tbl := pw_in 809 (by decide +kernel) (by decide +kernel)
theorem km_L_27 : Cond.methodLink RL 27 yX6_serve ∈ pw_tbl := pw_in 810 (by decide +kernel) (by decide +kernel)
theorem ki_X6_serve : Cond.instanceMethod yX6_serve ∈ pw_tbl := pw_in 811 (by decide +kernel) (by decide +kernel)
theorem ks_X6_serve : Cond.selects RX6 yX6_serve yX6_serve ∈ pw_tbl := pw_in 812 (by decide +kernel) (by decide +kernel)
theorem kc_X6_serve : Cond.code yX6_serve cX6_serve 1 (some .int) ∈ pw_tbl := pw_in 813 (by decide +kernel) (by decide +kernel)
theorem kf_X6_49 : Cond.fieldLink RX6 49 "ConsentQueue$Command" "SERVE" "LConsentQueue$Command;" ∈ pw_tbl := pw_in 814 (by decide +kernel) (by decide +kernel)
theorem km_L_107 : Cond.methodLink RL 107 yL_say ∈ pw_tbl := pw_in 816 (by decide +kernel) (by decide +kernel)
theorem kt_L_say : Cond.static yL_say ∈ pw_tbl := pw_in 817 (by decide +kernel) (by decide +kernel)
theorem kc_L_say : Cond.codeWith yL_say cL_say 5 (some .int) [(0, 10, 13, 25), (0, 10, 17, 13)] ∈ pw_tbl := pw_in 818 (by decide +kernel) (by decide +kernel)
theorem km_L_31 : Cond.methodLink RL 31 yX6_say ∈ pw_tbl := pw_in 819 (by decide +kernel) (by decide +kernel)
theorem ki_X6_say : Cond.instanceMethod yX6_say ∈ pw_tbl := pw_in 820 (by decide +kernel) (by decide +kernel)
theorem ks_X6_say : Cond.selects RX6 yX6_say yX6_say ∈ pw_tbl := pw_in 821 (by decide +kernel) (by decide +kernel)
theorem kc_X6_say : Cond.code yX6_say cX6_say 3 (some .int) ∈ pw_tbl := pw_in 822 (by decide +kernel) (by decide +kernel)
theorem kf_X6_52 : Cond.fieldLink RX6 52 "ConsentQueue$Command" "SAY" "LConsentQueue$Command;" ∈ pw_tbl := pw_in 823 (by decide +kernel) (by decide +kernel)
theorem km_L_110 : Cond.methodLink RL 110 yL_setSplit ∈ pw_tbl := pw_in 825 (by decide +kernel) (by decide +kernel)
theorem kt_L_setSplit : Cond.static yL_setSplit ∈ pw_tbl := pw_in 826 (by decide +kernel) (by decide +kernel)
theorem kc_L_setSplit : Cond.codeWith yL_setSplit cL_setSplit 4 (some .int) [(0, 9, 12, 13)] ∈ pw_tbl := pw_in 827 (by decide +kernel) (by decide +kernel)
theorem km_L_34 : Cond.methodLink RL 34 yX6_setSplit ∈ pw_tbl := pw_in 828 (by decide +kernel) (by decide +kernel)
theorem ki_X6_setSplit : Cond.instanceMethod yX6_setSplit ∈ pw_tbl := pw_in 829 (by decide +kernel) (by decide +kernel)
theorem ks_X6_setSplit : Cond.selects RX6 yX6_setSplit yX6_setSplit ∈ pw_tbl := pw_in 830 (by decide +kernel) (by decide +kernel)
theorem kc_X6_setSplit : Cond.code yX6_setSplit cX6_setSplit 3 (some .int) ∈ pw_tbl := pw_in 831 (by decide +kernel) (by decide +kernel)
theorem km_L_113 : Cond.methodLink RL 113 yL_offer ∈ pw_tbl := pw_in 832 (by decide +kernel) (by decide +kernel)
theorem kt_L_offer : Cond.static yL_offer ∈ pw_tbl := pw_in 833 (by decide +kernel) (by decide +kernel)
theorem kc_L_offer : Cond.codeWith yL_offer cL_offer 5 (some .int) [(0, 10, 13, 25), (0, 10, 17, 13), (0, 10, 21, 15)] ∈ pw_tbl := pw_in 834 (by decide +kernel) (by decide +kernel)
theorem km_L_37 : Cond.methodLink RL 37 yX6_offer ∈ pw_tbl := pw_in 835 (by decide +kernel) (by decide +kernel)
theorem ki_X6_offer : Cond.instanceMethod yX6_offer ∈ pw_tbl := pw_in 836 (by decide +kernel) (by decide +kernel)
theorem ks_X6_offer : Cond.selects RX6 yX6_offer yX6_offer ∈ pw_tbl := pw_in 837 (by decide +kernel) (by decide +kernel)
theorem kc_X6_offer : Cond.code yX6_offer cX6_offer 3 (some .int) ∈ pw_tbl := pw_in 838 (by decide +kernel) (by decide +kernel)
theorem kf_X6_71 : Cond.fieldLink RX6 71 "ConsentQueue$Command" "OFFER" "LConsentQueue$Command;" ∈ pw_tbl := pw_in 839 (by decide +kernel) (by decide +kernel)
theorem km_L_116 : Cond.methodLink RL 116 yL_take ∈ pw_tbl := pw_in 841 (by decide +kernel) (by decide +kernel)
theorem kt_L_take : Cond.static yL_take ∈ pw_tbl := pw_in 842 (by decide +kernel) (by decide +kernel)
theorem kc_L_take : Cond.codeWith yL_take cL_take 4 (some .int) [(0, 9, 12, 25), (0, 9, 15, 15)] ∈ pw_tbl := pw_in 843 (by decide +kernel) (by decide +kernel)
theorem km_L_40 : Cond.methodLink RL 40 yX6_take ∈ pw_tbl := pw_in 844 (by decide +kernel) (by decide +kernel)
theorem ki_X6_take : Cond.instanceMethod yX6_take ∈ pw_tbl := pw_in 845 (by decide +kernel) (by decide +kernel)
theorem ks_X6_take : Cond.selects RX6 yX6_take yX6_take ∈ pw_tbl := pw_in 846 (by decide +kernel) (by decide +kernel)
theorem kc_X6_take : Cond.code yX6_take cX6_take 2 (some .int) ∈ pw_tbl := pw_in 847 (by decide +kernel) (by decide +kernel)
theorem kf_X6_74 : Cond.fieldLink RX6 74 "ConsentQueue$Command" "TAKE" "LConsentQueue$Command;" ∈ pw_tbl := pw_in 848 (by decide +kernel) (by decide +kernel)
theorem km_L_119 : Cond.methodLink RL 119 yL_swap ∈ pw_tbl := pw_in 850 (by decide +kernel) (by decide +kernel)
theorem kt_L_swap : Cond.static yL_swap ∈ pw_tbl := pw_in 851 (by decide +kernel) (by decide +kernel)
theorem kc_L_swap : Cond.codeWith yL_swap cL_swap 4 (some .int) [(0, 9, 12, 25), (0, 9, 15, 15)] ∈ pw_tbl := pw_in 852 (by decide +kernel) (by decide +kernel)
theorem km_L_43 : Cond.methodLink RL 43 yX6_swap ∈ pw_tbl := pw_in 853 (by decide +kernel) (by decide +kernel)
theorem ki_X6_swap : Cond.instanceMethod yX6_swap ∈ pw_tbl := pw_in 854 (by decide +kernel) (by decide +kernel)
theorem ks_X6_swap : Cond.selects RX6 yX6_swap yX6_swap ∈ pw_tbl := pw_in 855 (by decide +kernel) (by decide +kernel)
theorem kc_X6_swap : Cond.code yX6_swap cX6_swap 2 (some .int) ∈ pw_tbl := pw_in 856 (by decide +kernel) (by decide +kernel)
theorem kf_X6_77 : Cond.fieldLink RX6 77 "ConsentQueue$Command" "SWAP" "LConsentQueue$Command;" ∈ pw_tbl := pw_in 857 (by decide +kernel) (by decide +kernel)
theorem km_L_122 : Cond.methodLink RL 122 yL_befriend ∈ pw_tbl := pw_in 859 (by decide +kernel) (by decide +kernel)
theorem kt_L_befriend : Cond.static yL_befriend ∈ pw_tbl := pw_in 860 (by decide +kernel) (by decide +kernel)
theorem kc_L_befriend : Cond.codeWith yL_befriend cL_befriend 4 (some .int) [(0, 9, 12, 25), (0, 9, 15, 15)] ∈ pw_tbl := pw_in 861 (by decide +kernel) (by decide +kernel)
theorem km_L_46 : Cond.methodLink RL 46 yX6_befriend ∈ pw_tbl := pw_in 862 (by decide +kernel) (by decide +kernel)
theorem ki_X6_befriend : Cond.instanceMethod yX6_befriend ∈ pw_tbl := pw_in 863 (by decide +kernel) (by decide +kernel)
theorem ks_X6_befriend : Cond.selects RX6 yX6_befriend yX6_befriend ∈ pw_tbl := pw_in 864 (by decide +kernel) (by decide +kernel)
theorem kc_X6_befriend : Cond.code yX6_befriend cX6_befriend 2 (some .int) ∈ pw_tbl := pw_in 865 (by decide +kernel) (by decide +kernel)
theorem kf_X6_80 : Cond.fieldLink RX6 80 "ConsentQueue$Command" "FRIEND" "LConsentQueue$Command;" ∈ pw_tbl := pw_in 866 (by decide +kernel) (by decide +kernel)
theorem km_L_125 : Cond.methodLink RL 125 yL_part ∈ pw_tbl := pw_in 868 (by decide +kernel) (by decide +kernel)
theorem kt_L_part : Cond.static yL_part ∈ pw_tbl := pw_in 869 (by decide +kernel) (by decide +kernel)
theorem kc_L_part : Cond.codeWith yL_part cL_part 4 (some .int) [(0, 9, 12, 25), (0, 9, 15, 15)] ∈ pw_tbl := pw_in 870 (by decide +kernel) (by decide +kernel)
theorem km_L_49 : Cond.methodLink RL 49 yX6_part ∈ pw_tbl := pw_in 871 (by decide +kernel) (by decide +kernel)
theorem ki_X6_part : Cond.instanceMethod yX6_part ∈ pw_tbl := pw_in 872 (by decide +kernel) (by decide +kernel)
theorem ks_X6_part : Cond.selects RX6 yX6_part yX6_part ∈ pw_tbl := pw_in 873 (by decide +kernel) (by decide +kernel)
theorem kc_X6_part : Cond.code yX6_part cX6_part 2 (some .int) ∈ pw_tbl := pw_in 874 (by decide +kernel) (by decide +kernel)
theorem kf_X6_83 : Cond.fieldLink RX6 83 "ConsentQueue$Command" "PART" "LConsentQueue$Command;" ∈ pw_tbl := pw_in 875 (by decide +kernel) (by decide +kernel)
theorem km_L_132 : Cond.methodLink RL 132 yL_member ∈ pw_tbl := pw_in 877 (by decide +kernel) (by decide +kernel)
theorem kt_L_member : Cond.static yL_member ∈ pw_tbl := pw_in 878 (by decide +kernel) (by decide +kernel)
theorem kc_L_member : Cond.codeWith yL_member cL_member 5 (some .int) [(0, 10, 13, 25), (0, 10, 17, 13)] ∈ pw_tbl := pw_in 879 (by decide +kernel) (by decide +kernel)
theorem km_L_52 : Cond.methodLink RL 52 yX6_member ∈ pw_tbl := pw_in 880 (by decide +kernel) (by decide +kernel)
theorem ki_X6_member : Cond.instanceMethod yX6_member ∈ pw_tbl := pw_in 881 (by decide +kernel) (by decide +kernel)
theorem ks_X6_member : Cond.selects RX6 yX6_member yX6_member ∈ pw_tbl := pw_in 882 (by decide +kernel) (by decide +kernel)
theorem kc_X6_member : Cond.code yX6_member cX6_member 4 (some .int) ∈ pw_tbl := pw_in 883 (by decide +kernel) (by decide +kernel)
theorem km_L_135 : Cond.methodLink RL 135 yL_at ∈ pw_tbl := pw_in 884 (by decide +kernel) (by decide +kernel)
theorem kt_L_at : Cond.static yL_at ∈ pw_tbl := pw_in 885 (by decide +kernel) (by decide +kernel)
theorem kc_L_at : Cond.codeWith yL_at cL_at 4 (some .int) [(0, 9, 12, 13)] ∈ pw_tbl := pw_in 886 (by decide +kernel) (by decide +kernel)
theorem km_L_55 : Cond.methodLink RL 55 yX6_at ∈ pw_tbl := pw_in 887 (by decide +kernel) (by decide +kernel)
theorem ki_X6_at : Cond.instanceMethod yX6_at ∈ pw_tbl := pw_in 888 (by decide +kernel) (by decide +kernel)
theorem ks_X6_at : Cond.selects RX6 yX6_at yX6_at ∈ pw_tbl := pw_in 889 (by decide +kernel) (by decide +kernel)
theorem kc_X6_at : Cond.code yX6_at cX6_at 2 (some .int) ∈ pw_tbl := pw_in 890 (by decide +kernel) (by decide +kernel)
theorem km_L_138 : Cond.methodLink RL 138 yL_pair ∈ pw_tbl := pw_in 891 (by decide +kernel) (by decide +kernel)
theorem kt_L_pair : Cond.static yL_pair ∈ pw_tbl := pw_in 892 (by decide +kernel) (by decide +kernel)
theorem kc_L_pair : Cond.codeWith yL_pair cL_pair 5 (some .int) [(0, 10, 13, 25), (0, 10, 17, 13)] ∈ pw_tbl := pw_in 893 (by decide +kernel) (by decide +kernel)
theorem km_L_58 : Cond.methodLink RL 58 yX6_pair ∈ pw_tbl := pw_in 894 (by decide +kernel) (by decide +kernel)
theorem ki_X6_pair : Cond.instanceMethod yX6_pair ∈ pw_tbl := pw_in 895 (by decide +kernel) (by decide +kernel)
theorem ks_X6_pair : Cond.selects RX6 yX6_pair yX6_pair ∈ pw_tbl := pw_in 896 (by decide +kernel) (by decide +kernel)
theorem kc_X6_pair : Cond.code yX6_pair cX6_pair 3 (some .int) ∈ pw_tbl := pw_in 897 (by decide +kernel) (by decide +kernel)
theorem km_L_141 : Cond.methodLink RL 141 yL_whole ∈ pw_tbl := pw_in 898 (by decide +kernel) (by decide +kernel)
theorem kt_L_whole : Cond.static yL_whole ∈ pw_tbl := pw_in 899 (by decide +kernel) (by decide +kernel)
theorem kc_L_whole : Cond.codeWith yL_whole cL_whole 4 (some .int) [(0, 9, 12, 13)] ∈ pw_tbl := pw_in 900 (by decide +kernel) (by decide +kernel)
theorem km_L_61 : Cond.methodLink RL 61 yX6_whole ∈ pw_tbl := pw_in 901 (by decide +kernel) (by decide +kernel)
theorem ki_X6_whole : Cond.instanceMethod yX6_whole ∈ pw_tbl := pw_in 902 (by decide +kernel) (by decide +kernel)
theorem ks_X6_whole : Cond.selects RX6 yX6_whole yX6_whole ∈ pw_tbl := pw_in 903 (by decide +kernel) (by decide +kernel)
theorem kc_X6_whole : Cond.code yX6_whole cX6_whole 2 (some .int) ∈ pw_tbl := pw_in 904 (by decide +kernel) (by decide +kernel)
theorem km_L_144 : Cond.methodLink RL 144 yL_reason ∈ pw_tbl := pw_in 905 (by decide +kernel) (by decide +kernel)
theorem kt_L_reason : Cond.static yL_reason ∈ pw_tbl := pw_in 906 (by decide +kernel) (by decide +kernel)
theorem kc_L_reason : Cond.codeWith yL_reason cL_reason 4 (some .int) [(0, 9, 12, 25)] ∈ pw_tbl := pw_in 907 (by decide +kernel) (by decide +kernel)
theorem km_L_64 : Cond.methodLink RL 64 yX6_reason ∈ pw_tbl := pw_in 908 (by decide +kernel) (by decide +kernel)
theorem ki_X6_reason : Cond.instanceMethod yX6_reason ∈ pw_tbl := pw_in 909 (by decide +kernel) (by decide +kernel)
theorem ks_X6_reason : Cond.selects RX6 yX6_reason yX6_reason ∈ pw_tbl := pw_in 910 (by decide +kernel) (by decide +kernel)
theorem kc_X6_reason : Cond.code yX6_reason cX6_reason 2 (some .int) ∈ pw_tbl := pw_in 911 (by decide +kernel) (by decide +kernel)
theorem km_L_147 : Cond.methodLink RL 147 yL_settledPlace ∈ pw_tbl := pw_in 912 (by decide +kernel) (by decide +kernel)
theorem kt_L_settledPlace : Cond.static yL_settledPlace ∈ pw_tbl := pw_in 913 (by decide +kernel) (by decide +kernel)
theorem kc_L_settledPlace : Cond.codeWith yL_settledPlace cL_settledPlace 4 (some .int) [(0, 9, 12, 25)] ∈ pw_tbl := pw_in 914 (by decide +kernel) (by decide +kernel)
theorem km_L_67 : Cond.methodLink RL 67 yX6_settledPlace ∈ pw_tbl := pw_in 915 (by decide +kernel) (by decide +kernel)
theorem ki_X6_settledPlace : Cond.instanceMethod yX6_settledPlace ∈ pw_tbl := pw_in 916 (by decide +kernel) (by decide +kernel)
theorem ks_X6_settledPlace : Cond.selects RX6 yX6_settledPlace yX6_settledPlace ∈ pw_tbl := pw_in 917 (by decide +kernel) (by decide +kernel)
theorem kc_X6_settledPlace : Cond.code yX6_settledPlace cX6_settledPlace 2 (some .int) ∈ pw_tbl := pw_in 918 (by decide +kernel) (by decide +kernel)
theorem km_L_150 : Cond.methodLink RL 150 yL_profit ∈ pw_tbl := pw_in 919 (by decide +kernel) (by decide +kernel)
theorem kt_L_profit : Cond.static yL_profit ∈ pw_tbl := pw_in 920 (by decide +kernel) (by decide +kernel)
theorem kc_L_profit : Cond.codeWith yL_profit cL_profit 5 (some .int) [(0, 10, 13, 25), (0, 10, 17, 13)] ∈ pw_tbl := pw_in 921 (by decide +kernel) (by decide +kernel)
theorem km_L_70 : Cond.methodLink RL 70 yX6_profit ∈ pw_tbl := pw_in 922 (by decide +kernel) (by decide +kernel)
theorem ki_X6_profit : Cond.instanceMethod yX6_profit ∈ pw_tbl := pw_in 923 (by decide +kernel) (by decide +kernel)
theorem ks_X6_profit : Cond.selects RX6 yX6_profit yX6_profit ∈ pw_tbl := pw_in 924 (by decide +kernel) (by decide +kernel)
theorem kc_X6_profit : Cond.code yX6_profit cX6_profit 4 (some .int) ∈ pw_tbl := pw_in 925 (by decide +kernel) (by decide +kernel)
theorem km_X6_130 : Cond.methodLink RX6 130 yX6_profitAt ∈ pw_tbl := pw_in 926 (by decide +kernel) (by decide +kernel)
theorem ki_X6_profitAt : Cond.instanceMethod yX6_profitAt ∈ pw_tbl := pw_in 928 (by decide +kernel) (by decide +kernel)
theorem kc_X6_profitAt : Cond.code yX6_profitAt cX6_profitAt 6 (some .int) ∈ pw_tbl := pw_in 929 (by decide +kernel) (by decide +kernel)
theorem kN_X6_192 : Cond.methodLinkNest RX6 192 yX4_costAt "ConsentQueue" ∈ lw_tbl := List.mem_of_getElem? (i := 930) (by decide +kernel)
theorem km_L_153 : Cond.methodLink RL 153 yL_bestLie ∈ pw_tbl := pw_in 931 (by decide +kernel) (by decide +kernel)
theorem kt_L_bestLie : Cond.static yL_bestLie ∈ pw_tbl := pw_in 932 (by decide +kernel) (by decide +kernel)
theorem kc_L_bestLie : Cond.codeWith yL_bestLie cL_bestLie 4 (some .int) [(0, 9, 12, 25)] ∈ pw_tbl := pw_in 933 (by decide +kernel) (by decide +kernel)
theorem km_L_73 : Cond.methodLink RL 73 yX6_bestLie ∈ pw_tbl := pw_in 934 (by decide +kernel) (by decide +kernel)
theorem ki_X6_bestLie : Cond.instanceMethod yX6_bestLie ∈ pw_tbl := pw_in 935 (by decide +kernel) (by decide +kernel)
theorem ks_X6_bestLie : Cond.selects RX6 yX6_bestLie yX6_bestLie ∈ pw_tbl := pw_in 936 (by decide +kernel) (by decide +kernel)
theorem kc_X6_bestLie : Cond.code yX6_bestLie cX6_bestLie 7 (some .int) ∈ pw_tbl := pw_in 937 (by decide +kernel) (by decide +kernel)
theorem km_L_164 : Cond.methodLink RL 164 yL_type ∈ pw_tbl := pw_in 938 (by decide +kernel) (by decide +kernel)
theorem kt_L_type : Cond.static yL_type ∈ pw_tbl := pw_in 939 (by decide +kernel) (by decide +kernel)
theorem kc_L_type : Cond.codeWith yL_type cL_type 4 (some .int) [(0, 9, 12, 13), (0, 9, 15, 15)] ∈ pw_tbl := pw_in 940 (by decide +kernel) (by decide +kernel)
theorem km_L_76 : Cond.methodLink RL 76 yX6_type ∈ pw_tbl := pw_in 941 (by decide +kernel) (by decide +kernel)
theorem ki_X6_type : Cond.instanceMethod yX6_type ∈ pw_tbl := pw_in 942 (by decide +kernel) (by decide +kernel)
theorem ks_X6_type : Cond.selects RX6 yX6_type yX6_type ∈ pw_tbl := pw_in 943 (by decide +kernel) (by decide +kernel)
theorem kc_X6_type : Cond.code yX6_type cX6_type 2 (some .int) ∈ pw_tbl := pw_in 944 (by decide +kernel) (by decide +kernel)
theorem kN_X6_145 : Cond.methodLinkNest RX6 145 yX2_append "ConsentQueue" ∈ lw_tbl := List.mem_of_getElem? (i := 945) (by decide +kernel)
theorem ki_X2_append : Cond.instanceMethod yX2_append ∈ pw_tbl := pw_in 947 (by decide +kernel) (by decide +kernel)
theorem kc_X2_append : Cond.code yX2_append cX2_append 2 (none : Option Jvm.ClassFile.FieldType) ∈ pw_tbl := pw_in 948 (by decide +kernel) (by decide +kernel)
theorem km_L_175 : Cond.methodLink RL 175 yL_undo ∈ pw_tbl := pw_in 949 (by decide +kernel) (by decide +kernel)
theorem kt_L_undo : Cond.static yL_undo ∈ pw_tbl := pw_in 950 (by decide +kernel) (by decide +kernel)
theorem kc_L_undo : Cond.codeWith yL_undo cL_undo 3 (some .int) [(0, 8, 11, 15)] ∈ pw_tbl := pw_in 951 (by decide +kernel) (by decide +kernel)
theorem km_L_79 : Cond.methodLink RL 79 yX6_undo ∈ pw_tbl := pw_in 952 (by decide +kernel) (by decide +kernel)
theorem ki_X6_undo : Cond.instanceMethod yX6_undo ∈ pw_tbl := pw_in 953 (by decide +kernel) (by decide +kernel)
theorem ks_X6_undo : Cond.selects RX6 yX6_undo yX6_undo ∈ pw_tbl := pw_in 954 (by decide +kernel) (by decide +kernel)
theorem kc_X6_undo : Cond.code yX6_undo cX6_undo 1 (some .int) ∈ pw_tbl := pw_in 955 (by decide +kernel) (by decide +kernel)
theorem kN_X6_171 : Cond.methodLinkNest RX6 171 yX3_popInto "ConsentQueue" ∈ lw_tbl := List.mem_of_getElem? (i := 956) (by decide +kernel)
theorem ki_X3_popInto : Cond.instanceMethod yX3_popInto ∈ pw_tbl := pw_in 958 (by decide +kernel) (by decide +kernel)
theorem kc_X3_popInto : Cond.code yX3_popInto cX3_popInto 3 (none : Option Jvm.ClassFile.FieldType) ∈ pw_tbl := pw_in 959 (by decide +kernel) (by decide +kernel)
theorem kk_L_83 : Cond.classLink RL 83 RX7 ∈ pw_tbl := pw_in 960 (by decide +kernel) (by decide +kernel)
theorem kx_X7 : Cond.instantiable RX7 9 ∈ pw_tbl := pw_in 961 (by decide +kernel) (by decide +kernel)
theorem km_L_85 : Cond.methodLink RL 85 yX7_init ∈ pw_tbl := pw_in 962 (by decide +kernel) (by decide +kernel)
theorem ki_X7_init : Cond.instanceMethod yX7_init ∈ pw_tbl := pw_in 963 (by decide +kernel) (by decide +kernel)
theorem kc_X7_init : Cond.code yX7_init cX7_init 1 (none : Option Jvm.ClassFile.FieldType) ∈ pw_tbl := pw_in 964 (by decide +kernel) (by decide +kernel)
theorem km_X7_1 : Cond.methodLink RX7 1 objectInit ∈ pw_tbl := pw_in 965 (by decide +kernel) (by decide +kernel)
theorem kf_X7_7 : Cond.fieldLink RX7 7 "ConsentQueueModel" "row" "[I" ∈ pw_tbl := pw_in 966 (by decide +kernel) (by decide +kernel)
theorem kf_X7_26 : Cond.fieldLink RX7 26 "ConsentQueueModel" "kept" "I" ∈ pw_tbl := pw_in 967 (by decide +kernel) (by decide +kernel)
theorem kf_X7_22 : Cond.fieldLink RX7 22 "ConsentQueueModel" "thrown" "I" ∈ pw_tbl := pw_in 968 (by decide +kernel) (by decide +kernel)
theorem kf_X7_13 : Cond.fieldLink RX7 13 "ConsentQueueModel" "text" "[I" ∈ pw_tbl := pw_in 969 (by decide +kernel) (by decide +kernel)
theorem kf_X7_152 : Cond.fieldLink RX7 152 "ConsentQueueModel" "length" "I" ∈ pw_tbl := pw_in 970 (by decide +kernel) (by decide +kernel)
theorem kf_X7_170 : Cond.fieldLink RX7 170 "ConsentQueueModel" "at" "I" ∈ pw_tbl := pw_in 971 (by decide +kernel) (by decide +kernel)
theorem kf_X7_207 : Cond.fieldLink RX7 207 "ConsentQueueModel" "numbers" "I" ∈ pw_tbl := pw_in 972 (by decide +kernel) (by decide +kernel)
theorem kf_X7_16 : Cond.fieldLink RX7 16 "ConsentQueueModel" "given" "[I" ∈ pw_tbl := pw_in 973 (by decide +kernel) (by decide +kernel)
theorem kf_X7_19 : Cond.fieldLink RX7 19 "ConsentQueueModel" "best" "[I" ∈ pw_tbl := pw_in 974 (by decide +kernel) (by decide +kernel)
theorem km_L_92 : Cond.methodLink RL 92 yX7_thrown ∈ pw_tbl := pw_in 994 (by decide +kernel) (by decide +kernel)
theorem ki_X7_thrown : Cond.instanceMethod yX7_thrown ∈ pw_tbl := pw_in 995 (by decide +kernel) (by decide +kernel)
theorem ks_X7_thrown : Cond.selects RX7 yX7_thrown yX7_thrown ∈ pw_tbl := pw_in 996 (by decide +kernel) (by decide +kernel)
theorem kc_X7_thrown : Cond.code yX7_thrown cX7_thrown 1 (some .int) ∈ pw_tbl := pw_in 997 (by decide +kernel) (by decide +kernel)
theorem km_L_91 : Cond.methodLink RL 91 yX7_join ∈ pw_tbl := pw_in 998 (by decide +kernel) (by decide +kernel)
theorem ki_X7_join : Cond.instanceMethod yX7_join ∈ pw_tbl := pw_in 999 (by decide +kernel) (by decide +kernel)
theorem ks_X7_join : Cond.selects RX7 yX7_join yX7_join ∈ pw_tbl := pw_in 1000 (by decide +kernel) (by decide +kernel)
theorem kc_X7_join : Cond.code yX7_join cX7_join 3 (some .int) ∈ pw_tbl := pw_in 1001 (by decide +kernel) (by decide +kernel)
theorem km_X7_52 : Cond.methodLink RX7 52 yX7_whyNotJoin ∈ pw_tbl := pw_in 1002 (by decide +kernel) (by decide +kernel)
theorem ki_X7_whyNotJoin : Cond.instanceMethod yX7_whyNotJoin ∈ pw_tbl := pw_in 1004 (by decide +kernel) (by decide +kernel)
theorem kc_X7_whyNotJoin : Cond.code yX7_whyNotJoin cX7_whyNotJoin 4 (some .int) ∈ pw_tbl := pw_in 1005 (by decide +kernel) (by decide +kernel)
theorem km_X7_37 : Cond.methodLink RX7 37 yX7_in ∈ pw_tbl := pw_in 1006 (by decide +kernel) (by decide +kernel)
theorem kt_X7_in : Cond.static yX7_in ∈ pw_tbl := pw_in 1007 (by decide +kernel) (by decide +kernel)
theorem kc_X7_in : Cond.code yX7_in cX7_in 3 (some .boolean) ∈ pw_tbl := pw_in 1008 (by decide +kernel) (by decide +kernel)
theorem km_X7_33 : Cond.methodLink RX7 33 yX7_of ∈ pw_tbl := pw_in 1009 (by decide +kernel) (by decide +kernel)
theorem ki_X7_of : Cond.instanceMethod yX7_of ∈ pw_tbl := pw_in 1011 (by decide +kernel) (by decide +kernel)
theorem kc_X7_of : Cond.code yX7_of cX7_of 3 (some .int) ∈ pw_tbl := pw_in 1012 (by decide +kernel) (by decide +kernel)
theorem km_X7_56 : Cond.methodLink RX7 56 yX7_isRefused ∈ pw_tbl := pw_in 1013 (by decide +kernel) (by decide +kernel)
theorem ki_X7_isRefused : Cond.instanceMethod yX7_isRefused ∈ pw_tbl := pw_in 1015 (by decide +kernel) (by decide +kernel)
theorem kc_X7_isRefused : Cond.code yX7_isRefused cX7_isRefused 2 (some .boolean) ∈ pw_tbl := pw_in 1016 (by decide +kernel) (by decide +kernel)
theorem km_X7_60 : Cond.methodLink RX7 60 yX7_saves ∈ pw_tbl := pw_in 1017 (by decide +kernel) (by decide +kernel)
theorem ki_X7_saves : Cond.instanceMethod yX7_saves ∈ pw_tbl := pw_in 1019 (by decide +kernel) (by decide +kernel)
theorem kc_X7_saves : Cond.code yX7_saves cX7_saves 2 (none : Option Jvm.ClassFile.FieldType) ∈ pw_tbl := pw_in 1020 (by decide +kernel) (by decide +kernel)
theorem km_X7_29 : Cond.methodLink RX7 29 yX7_copies ∈ pw_tbl := pw_in 1021 (by decide +kernel) (by decide +kernel)
theorem ki_X7_copies : Cond.instanceMethod yX7_copies ∈ pw_tbl := pw_in 1023 (by decide +kernel) (by decide +kernel)
theorem kc_X7_copies : Cond.code yX7_copies cX7_copies 4 (none : Option Jvm.ClassFile.FieldType) ∈ pw_tbl := pw_in 1024 (by decide +kernel) (by decide +kernel)
theorem km_X7_63 : Cond.methodLink RX7 63 yX7_joins ∈ pw_tbl := pw_in 1025 (by decide +kernel) (by decide +kernel)
theorem ki_X7_joins : Cond.instanceMethod yX7_joins ∈ pw_tbl := pw_in 1027 (by decide +kernel) (by decide +kernel)
theorem kc_X7_joins : Cond.code yX7_joins cX7_joins 5 (some .int) ∈ pw_tbl := pw_in 1028 (by decide +kernel) (by decide +kernel)
theorem km_X7_49 : Cond.methodLink RX7 49 yX7_brings ∈ pw_tbl := pw_in 1029 (by decide +kernel) (by decide +kernel)
theorem ki_X7_brings : Cond.instanceMethod yX7_brings ∈ pw_tbl := pw_in 1031 (by decide +kernel) (by decide +kernel)
theorem kc_X7_brings : Cond.code yX7_brings cX7_brings 4 (none : Option Jvm.ClassFile.FieldType) ∈ pw_tbl := pw_in 1032 (by decide +kernel) (by decide +kernel)
theorem km_X7_41 : Cond.methodLink RX7 41 yX7_set ∈ pw_tbl := pw_in 1033 (by decide +kernel) (by decide +kernel)
theorem ki_X7_set : Cond.instanceMethod yX7_set ∈ pw_tbl := pw_in 1035 (by decide +kernel) (by decide +kernel)
theorem kc_X7_set : Cond.code yX7_set cX7_set 4 (none : Option Jvm.ClassFile.FieldType) ∈ pw_tbl := pw_in 1036 (by decide +kernel) (by decide +kernel)
theorem km_L_98 : Cond.methodLink RL 98 yX7_joinAt ∈ pw_tbl := pw_in 1037 (by decide +kernel) (by decide +kernel)
theorem ki_X7_joinAt : Cond.instanceMethod yX7_joinAt ∈ pw_tbl := pw_in 1038 (by decide +kernel) (by decide +kernel)
theorem ks_X7_joinAt : Cond.selects RX7 yX7_joinAt yX7_joinAt ∈ pw_tbl := pw_in 1039 (by decide +kernel) (by decide +kernel)
theorem kc_X7_joinAt : Cond.code yX7_joinAt cX7_joinAt 4 (some .int) ∈ pw_tbl := pw_in 1040 (by decide +kernel) (by decide +kernel)
theorem km_L_102 : Cond.methodLink RL 102 yX7_leave ∈ pw_tbl := pw_in 1041 (by decide +kernel) (by decide +kernel)
theorem ki_X7_leave : Cond.instanceMethod yX7_leave ∈ pw_tbl := pw_in 1042 (by decide +kernel) (by decide +kernel)
theorem ks_X7_leave : Cond.selects RX7 yX7_leave yX7_leave ∈ pw_tbl := pw_in 1043 (by decide +kernel) (by decide +kernel)
theorem kc_X7_leave : Cond.code yX7_leave cX7_leave 3 (some .int) ∈ pw_tbl := pw_in 1044 (by decide +kernel) (by decide +kernel)
theorem km_X7_66 : Cond.methodLink RX7 66 yX7_whyNoMember ∈ pw_tbl := pw_in 1045 (by decide +kernel) (by decide +kernel)
theorem ki_X7_whyNoMember : Cond.instanceMethod yX7_whyNoMember ∈ pw_tbl := pw_in 1047 (by decide +kernel) (by decide +kernel)
theorem kc_X7_whyNoMember : Cond.code yX7_whyNoMember cX7_whyNoMember 2 (some .int) ∈ pw_tbl := pw_in 1048 (by decide +kernel) (by decide +kernel)
theorem km_X7_45 : Cond.methodLink RX7 45 yX7_find ∈ pw_tbl := pw_in 1049 (by decide +kernel) (by decide +kernel)
theorem ki_X7_find : Cond.instanceMethod yX7_find ∈ pw_tbl := pw_in 1051 (by decide +kernel) (by decide +kernel)
theorem kc_X7_find : Cond.code yX7_find cX7_find 3 (some .int) ∈ pw_tbl := pw_in 1052 (by decide +kernel) (by decide +kernel)
theorem km_X7_69 : Cond.methodLink RX7 69 yX7_goes ∈ pw_tbl := pw_in 1053 (by decide +kernel) (by decide +kernel)
theorem ki_X7_goes : Cond.instanceMethod yX7_goes ∈ pw_tbl := pw_in 1055 (by decide +kernel) (by decide +kernel)
theorem kc_X7_goes : Cond.code yX7_goes cX7_goes 3 (none : Option Jvm.ClassFile.FieldType) ∈ pw_tbl := pw_in 1056 (by decide +kernel) (by decide +kernel)
theorem km_L_106 : Cond.methodLink RL 106 yX7_serve ∈ pw_tbl := pw_in 1057 (by decide +kernel) (by decide +kernel)
theorem ki_X7_serve : Cond.instanceMethod yX7_serve ∈ pw_tbl := pw_in 1058 (by decide +kernel) (by decide +kernel)
theorem ks_X7_serve : Cond.selects RX7 yX7_serve yX7_serve ∈ pw_tbl := pw_in 1059 (by decide +kernel) (by decide +kernel)
theorem kc_X7_serve : Cond.code yX7_serve cX7_serve 1 (some .int) ∈ pw_tbl := pw_in 1060 (by decide +kernel) (by decide +kernel)
theorem km_X7_73 : Cond.methodLink RX7 73 yX7_serves ∈ pw_tbl := pw_in 1061 (by decide +kernel) (by decide +kernel)
theorem ki_X7_serves : Cond.instanceMethod yX7_serves ∈ pw_tbl := pw_in 1063 (by decide +kernel) (by decide +kernel)
theorem kc_X7_serves : Cond.code yX7_serves cX7_serves 2 (some .int) ∈ pw_tbl := pw_in 1064 (by decide +kernel) (by decide +kernel)
theorem km_L_109 : Cond.methodLink RL 109 yX7_say ∈ pw_tbl := pw_in 1065 (by decide +kernel) (by decide +kernel)
theorem ki_X7_say : Cond.instanceMethod yX7_say ∈ pw_tbl := pw_in 1066 (by decide +kernel) (by decide +kernel)
theorem ks_X7_say : Cond.selects RX7 yX7_say yX7_say ∈ pw_tbl := pw_in 1067 (by decide +kernel) (by decide +kernel)
theorem kc_X7_say : Cond.code yX7_say cX7_say 3 (some .int) ∈ pw_tbl := pw_in 1068 (by decide +kernel) (by decide +kernel)
theorem km_X7_77 : Cond.methodLink RX7 77 yX7_whyNotSay ∈ pw_tbl := pw_in 1069 (by decide +kernel) (by decide +kernel)
theorem ki_X7_whyNotSay : Cond.instanceMethod yX7_whyNotSay ∈ pw_tbl := pw_in 1071 (by decide +kernel) (by decide +kernel)
theorem kc_X7_whyNotSay : Cond.code yX7_whyNotSay cX7_whyNotSay 3 (some .int) ∈ pw_tbl := pw_in 1072 (by decide +kernel) (by decide +kernel)
theorem km_X7_80 : Cond.methodLink RX7 80 yX7_says ∈ pw_tbl := pw_in 1073 (by decide +kernel) (by decide +kernel)
theorem ki_X7_says : Cond.instanceMethod yX7_says ∈ pw_tbl := pw_in 1075 (by decide +kernel) (by decide +kernel)
theorem kc_X7_says : Cond.code yX7_says cX7_says 5 (some .int) ∈ pw_tbl := pw_in 1076 (by decide +kernel) (by decide +kernel)
theorem km_L_112 : Cond.methodLink RL 112 yX7_setSplit ∈ pw_tbl := pw_in 1077 (by decide +kernel) (by decide +kernel)
theorem ki_X7_setSplit : Cond.instanceMethod yX7_setSplit ∈ pw_tbl := pw_in 1078 (by decide +kernel) (by decide +kernel)
theorem ks_X7_setSplit : Cond.selects RX7 yX7_setSplit yX7_setSplit ∈ pw_tbl := pw_in 1079 (by decide +kernel) (by decide +kernel)
theorem kc_X7_setSplit : Cond.code yX7_setSplit cX7_setSplit 3 (some .int) ∈ pw_tbl := pw_in 1080 (by decide +kernel) (by decide +kernel)
theorem km_L_115 : Cond.methodLink RL 115 yX7_offer ∈ pw_tbl := pw_in 1081 (by decide +kernel) (by decide +kernel)
theorem ki_X7_offer : Cond.instanceMethod yX7_offer ∈ pw_tbl := pw_in 1082 (by decide +kernel) (by decide +kernel)
theorem ks_X7_offer : Cond.selects RX7 yX7_offer yX7_offer ∈ pw_tbl := pw_in 1083 (by decide +kernel) (by decide +kernel)
theorem kc_X7_offer : Cond.code yX7_offer cX7_offer 3 (some .int) ∈ pw_tbl := pw_in 1084 (by decide +kernel) (by decide +kernel)
theorem km_X7_95 : Cond.methodLink RX7 95 yX7_whyNotOffer ∈ pw_tbl := pw_in 1085 (by decide +kernel) (by decide +kernel)
theorem ki_X7_whyNotOffer : Cond.instanceMethod yX7_whyNotOffer ∈ pw_tbl := pw_in 1087 (by decide +kernel) (by decide +kernel)
theorem kc_X7_whyNotOffer : Cond.code yX7_whyNotOffer cX7_whyNotOffer 3 (some .int) ∈ pw_tbl := pw_in 1088 (by decide +kernel) (by decide +kernel)
theorem km_X7_98 : Cond.methodLink RX7 98 yX7_offers ∈ pw_tbl := pw_in 1089 (by decide +kernel) (by decide +kernel)
theorem ki_X7_offers : Cond.instanceMethod yX7_offers ∈ pw_tbl := pw_in 1091 (by decide +kernel) (by decide +kernel)
theorem kc_X7_offers : Cond.code yX7_offers cX7_offers 5 (some .int) ∈ pw_tbl := pw_in 1092 (by decide +kernel) (by decide +kernel)
theorem km_L_118 : Cond.methodLink RL 118 yX7_take ∈ pw_tbl := pw_in 1093 (by decide +kernel) (by decide +kernel)
theorem ki_X7_take : Cond.instanceMethod yX7_take ∈ pw_tbl := pw_in 1094 (by decide +kernel) (by decide +kernel)
theorem ks_X7_take : Cond.selects RX7 yX7_take yX7_take ∈ pw_tbl := pw_in 1095 (by decide +kernel) (by decide +kernel)
theorem kc_X7_take : Cond.code yX7_take cX7_take 2 (some .int) ∈ pw_tbl := pw_in 1096 (by decide +kernel) (by decide +kernel)
theorem km_X7_110 : Cond.methodLink RX7 110 yX7_whyNotTake ∈ pw_tbl := pw_in 1097 (by decide +kernel) (by decide +kernel)
theorem ki_X7_whyNotTake : Cond.instanceMethod yX7_whyNotTake ∈ pw_tbl := pw_in 1099 (by decide +kernel) (by decide +kernel)
theorem kc_X7_whyNotTake : Cond.code yX7_whyNotTake cX7_whyNotTake 2 (some .int) ∈ pw_tbl := pw_in 1100 (by decide +kernel) (by decide +kernel)
theorem km_X7_104 : Cond.methodLink RX7 104 yX7_isTaken ∈ pw_tbl := pw_in 1101 (by decide +kernel) (by decide +kernel)
theorem ki_X7_isTaken : Cond.instanceMethod yX7_isTaken ∈ pw_tbl := pw_in 1103 (by decide +kernel) (by decide +kernel)
theorem kc_X7_isTaken : Cond.code yX7_isTaken cX7_isTaken 2 (some .boolean) ∈ pw_tbl := pw_in 1104 (by decide +kernel) (by decide +kernel)
theorem km_X7_101 : Cond.methodLink RX7 101 yX7_isPair ∈ pw_tbl := pw_in 1105 (by decide +kernel) (by decide +kernel)
theorem ki_X7_isPair : Cond.instanceMethod yX7_isPair ∈ pw_tbl := pw_in 1107 (by decide +kernel) (by decide +kernel)
theorem kc_X7_isPair : Cond.code yX7_isPair cX7_isPair 2 (some .boolean) ∈ pw_tbl := pw_in 1108 (by decide +kernel) (by decide +kernel)
theorem km_X7_86 : Cond.methodLink RX7 86 yX7_loss ∈ pw_tbl := pw_in 1109 (by decide +kernel) (by decide +kernel)
theorem ki_X7_loss : Cond.instanceMethod yX7_loss ∈ pw_tbl := pw_in 1111 (by decide +kernel) (by decide +kernel)
theorem kc_X7_loss : Cond.code yX7_loss cX7_loss 2 (some .int) ∈ pw_tbl := pw_in 1112 (by decide +kernel) (by decide +kernel)
theorem km_X7_92 : Cond.methodLink RX7 92 yX7_friendsAgainst ∈ pw_tbl := pw_in 1113 (by decide +kernel) (by decide +kernel)
theorem ki_X7_friendsAgainst : Cond.instanceMethod yX7_friendsAgainst ∈ pw_tbl := pw_in 1115 (by decide +kernel) (by decide +kernel)
theorem kc_X7_friendsAgainst : Cond.code yX7_friendsAgainst cX7_friendsAgainst 2 (some .int) ∈ pw_tbl := pw_in 1116 (by decide +kernel) (by decide +kernel)
theorem km_X7_113 : Cond.methodLink RX7 113 yX7_takes ∈ pw_tbl := pw_in 1117 (by decide +kernel) (by decide +kernel)
theorem ki_X7_takes : Cond.instanceMethod yX7_takes ∈ pw_tbl := pw_in 1119 (by decide +kernel) (by decide +kernel)
theorem kc_X7_takes : Cond.code yX7_takes cX7_takes 3 (some .int) ∈ pw_tbl := pw_in 1120 (by decide +kernel) (by decide +kernel)
theorem km_X7_107 : Cond.methodLink RX7 107 yX7_swaps ∈ pw_tbl := pw_in 1121 (by decide +kernel) (by decide +kernel)
theorem ki_X7_swaps : Cond.instanceMethod yX7_swaps ∈ pw_tbl := pw_in 1123 (by decide +kernel) (by decide +kernel)
theorem kc_X7_swaps : Cond.code yX7_swaps cX7_swaps 5 (some .int) ∈ pw_tbl := pw_in 1124 (by decide +kernel) (by decide +kernel)
theorem km_L_121 : Cond.methodLink RL 121 yX7_swap ∈ pw_tbl := pw_in 1125 (by decide +kernel) (by decide +kernel)
theorem ki_X7_swap : Cond.instanceMethod yX7_swap ∈ pw_tbl := pw_in 1126 (by decide +kernel) (by decide +kernel)
theorem ks_X7_swap : Cond.selects RX7 yX7_swap yX7_swap ∈ pw_tbl := pw_in 1127 (by decide +kernel) (by decide +kernel)
theorem kc_X7_swap : Cond.code yX7_swap cX7_swap 2 (some .int) ∈ pw_tbl := pw_in 1128 (by decide +kernel) (by decide +kernel)
theorem km_X7_119 : Cond.methodLink RX7 119 yX7_whyNotSwap ∈ pw_tbl := pw_in 1129 (by decide +kernel) (by decide +kernel)
theorem ki_X7_whyNotSwap : Cond.instanceMethod yX7_whyNotSwap ∈ pw_tbl := pw_in 1131 (by decide +kernel) (by decide +kernel)
theorem kc_X7_whyNotSwap : Cond.code yX7_whyNotSwap cX7_whyNotSwap 2 (some .int) ∈ pw_tbl := pw_in 1132 (by decide +kernel) (by decide +kernel)
theorem km_X7_116 : Cond.methodLink RX7 116 yX7_reasonOf ∈ pw_tbl := pw_in 1133 (by decide +kernel) (by decide +kernel)
theorem ki_X7_reasonOf : Cond.instanceMethod yX7_reasonOf ∈ pw_tbl := pw_in 1135 (by decide +kernel) (by decide +kernel)
theorem kc_X7_reasonOf : Cond.code yX7_reasonOf cX7_reasonOf 3 (some .int) ∈ pw_tbl := pw_in 1136 (by decide +kernel) (by decide +kernel)
theorem km_X7_89 : Cond.methodLink RX7 89 yX7_surplus ∈ pw_tbl := pw_in 1137 (by decide +kernel) (by decide +kernel)
theorem ki_X7_surplus : Cond.instanceMethod yX7_surplus ∈ pw_tbl := pw_in 1139 (by decide +kernel) (by decide +kernel)
theorem kc_X7_surplus : Cond.code yX7_surplus cX7_surplus 2 (some .int) ∈ pw_tbl := pw_in 1140 (by decide +kernel) (by decide +kernel)
theorem km_X7_83 : Cond.methodLink RX7 83 yX7_gain ∈ pw_tbl := pw_in 1141 (by decide +kernel) (by decide +kernel)
theorem ki_X7_gain : Cond.instanceMethod yX7_gain ∈ pw_tbl := pw_in 1143 (by decide +kernel) (by decide +kernel)
theorem kc_X7_gain : Cond.code yX7_gain cX7_gain 2 (some .int) ∈ pw_tbl := pw_in 1144 (by decide +kernel) (by decide +kernel)
theorem km_X7_122 : Cond.methodLink RX7 122 yX7_fairPrice ∈ pw_tbl := pw_in 1145 (by decide +kernel) (by decide +kernel)
theorem ki_X7_fairPrice : Cond.instanceMethod yX7_fairPrice ∈ pw_tbl := pw_in 1147 (by decide +kernel) (by decide +kernel)
theorem kc_X7_fairPrice : Cond.code yX7_fairPrice cX7_fairPrice 2 (some .int) ∈ pw_tbl := pw_in 1148 (by decide +kernel) (by decide +kernel)
theorem km_L_124 : Cond.methodLink RL 124 yX7_befriend ∈ pw_tbl := pw_in 1149 (by decide +kernel) (by decide +kernel)
theorem ki_X7_befriend : Cond.instanceMethod yX7_befriend ∈ pw_tbl := pw_in 1150 (by decide +kernel) (by decide +kernel)
theorem ks_X7_befriend : Cond.selects RX7 yX7_befriend yX7_befriend ∈ pw_tbl := pw_in 1151 (by decide +kernel) (by decide +kernel)
theorem kc_X7_befriend : Cond.code yX7_befriend cX7_befriend 2 (some .int) ∈ pw_tbl := pw_in 1152 (by decide +kernel) (by decide +kernel)
theorem km_X7_128 : Cond.methodLink RX7 128 yX7_whyNotFriends ∈ pw_tbl := pw_in 1153 (by decide +kernel) (by decide +kernel)
theorem ki_X7_whyNotFriends : Cond.instanceMethod yX7_whyNotFriends ∈ pw_tbl := pw_in 1155 (by decide +kernel) (by decide +kernel)
theorem kc_X7_whyNotFriends : Cond.code yX7_whyNotFriends cX7_whyNotFriends 3 (some .int) ∈ pw_tbl := pw_in 1156 (by decide +kernel) (by decide +kernel)
theorem km_X7_131 : Cond.methodLink RX7 131 yX7_befriends ∈ pw_tbl := pw_in 1157 (by decide +kernel) (by decide +kernel)
theorem ki_X7_befriends : Cond.instanceMethod yX7_befriends ∈ pw_tbl := pw_in 1159 (by decide +kernel) (by decide +kernel)
theorem kc_X7_befriends : Cond.code yX7_befriends cX7_befriends 3 (some .int) ∈ pw_tbl := pw_in 1160 (by decide +kernel) (by decide +kernel)
theorem km_X7_125 : Cond.methodLink RX7 125 yX7_friends ∈ pw_tbl := pw_in 1161 (by decide +kernel) (by decide +kernel)
theorem ki_X7_friends : Cond.instanceMethod yX7_friends ∈ pw_tbl := pw_in 1163 (by decide +kernel) (by decide +kernel)
theorem kc_X7_friends : Cond.code yX7_friends cX7_friends 3 (some .int) ∈ pw_tbl := pw_in 1164 (by decide +kernel) (by decide +kernel)
theorem km_L_127 : Cond.methodLink RL 127 yX7_part ∈ pw_tbl := pw_in 1165 (by decide +kernel) (by decide +kernel)
theorem ki_X7_part : Cond.instanceMethod yX7_part ∈ pw_tbl := pw_in 1166 (by decide +kernel) (by decide +kernel)
theorem ks_X7_part : Cond.selects RX7 yX7_part yX7_part ∈ pw_tbl := pw_in 1167 (by decide +kernel) (by decide +kernel)
theorem kc_X7_part : Cond.code yX7_part cX7_part 2 (some .int) ∈ pw_tbl := pw_in 1168 (by decide +kernel) (by decide +kernel)
theorem km_L_131 : Cond.methodLink RL 131 yX7_settle ∈ pw_tbl := pw_in 1169 (by decide +kernel) (by decide +kernel)
theorem ki_X7_settle : Cond.instanceMethod yX7_settle ∈ pw_tbl := pw_in 1170 (by decide +kernel) (by decide +kernel)
theorem ks_X7_settle : Cond.selects RX7 yX7_settle yX7_settle ∈ pw_tbl := pw_in 1171 (by decide +kernel) (by decide +kernel)
theorem kc_X7_settle : Cond.code yX7_settle cX7_settle 1 (some .int) ∈ pw_tbl := pw_in 1172 (by decide +kernel) (by decide +kernel)
theorem km_X7_134 : Cond.methodLink RX7 134 yX7_settles ∈ pw_tbl := pw_in 1173 (by decide +kernel) (by decide +kernel)
theorem ki_X7_settles : Cond.instanceMethod yX7_settles ∈ pw_tbl := pw_in 1175 (by decide +kernel) (by decide +kernel)
theorem kc_X7_settles : Cond.code yX7_settles cX7_settles 4 (some .int) ∈ pw_tbl := pw_in 1176 (by decide +kernel) (by decide +kernel)
theorem km_L_134 : Cond.methodLink RL 134 yX7_member ∈ pw_tbl := pw_in 1177 (by decide +kernel) (by decide +kernel)
theorem ki_X7_member : Cond.instanceMethod yX7_member ∈ pw_tbl := pw_in 1178 (by decide +kernel) (by decide +kernel)
theorem ks_X7_member : Cond.selects RX7 yX7_member yX7_member ∈ pw_tbl := pw_in 1179 (by decide +kernel) (by decide +kernel)
theorem kc_X7_member : Cond.code yX7_member cX7_member 3 (some .int) ∈ pw_tbl := pw_in 1180 (by decide +kernel) (by decide +kernel)
theorem km_X7_140 : Cond.methodLink RX7 140 yX7_memberValue ∈ pw_tbl := pw_in 1181 (by decide +kernel) (by decide +kernel)
theorem ki_X7_memberValue : Cond.instanceMethod yX7_memberValue ∈ pw_tbl := pw_in 1183 (by decide +kernel) (by decide +kernel)
theorem kc_X7_memberValue : Cond.code yX7_memberValue cX7_memberValue 3 (some .int) ∈ pw_tbl := pw_in 1184 (by decide +kernel) (by decide +kernel)
theorem km_X7_137 : Cond.methodLink RX7 137 yX7_waitOf ∈ pw_tbl := pw_in 1185 (by decide +kernel) (by decide +kernel)
theorem ki_X7_waitOf : Cond.instanceMethod yX7_waitOf ∈ pw_tbl := pw_in 1187 (by decide +kernel) (by decide +kernel)
theorem kc_X7_waitOf : Cond.code yX7_waitOf cX7_waitOf 4 (some .int) ∈ pw_tbl := pw_in 1188 (by decide +kernel) (by decide +kernel)
theorem km_L_137 : Cond.methodLink RL 137 yX7_at ∈ pw_tbl := pw_in 1189 (by decide +kernel) (by decide +kernel)
theorem ki_X7_at : Cond.instanceMethod yX7_at ∈ pw_tbl := pw_in 1190 (by decide +kernel) (by decide +kernel)
theorem ks_X7_at : Cond.selects RX7 yX7_at yX7_at ∈ pw_tbl := pw_in 1191 (by decide +kernel) (by decide +kernel)
theorem kc_X7_at : Cond.code yX7_at cX7_at 2 (some .int) ∈ pw_tbl := pw_in 1192 (by decide +kernel) (by decide +kernel)
theorem km_L_140 : Cond.methodLink RL 140 yX7_pair ∈ pw_tbl := pw_in 1193 (by decide +kernel) (by decide +kernel)
theorem ki_X7_pair : Cond.instanceMethod yX7_pair ∈ pw_tbl := pw_in 1194 (by decide +kernel) (by decide +kernel)
theorem ks_X7_pair : Cond.selects RX7 yX7_pair yX7_pair ∈ pw_tbl := pw_in 1195 (by decide +kernel) (by decide +kernel)
theorem kc_X7_pair : Cond.code yX7_pair cX7_pair 3 (some .int) ∈ pw_tbl := pw_in 1196 (by decide +kernel) (by decide +kernel)
theorem km_X7_143 : Cond.methodLink RX7 143 yX7_pairValue ∈ pw_tbl := pw_in 1197 (by decide +kernel) (by decide +kernel)
theorem ki_X7_pairValue : Cond.instanceMethod yX7_pairValue ∈ pw_tbl := pw_in 1199 (by decide +kernel) (by decide +kernel)
theorem kc_X7_pairValue : Cond.code yX7_pairValue cX7_pairValue 3 (some .int) ∈ pw_tbl := pw_in 1200 (by decide +kernel) (by decide +kernel)
theorem km_L_143 : Cond.methodLink RL 143 yX7_whole ∈ pw_tbl := pw_in 1201 (by decide +kernel) (by decide +kernel)
theorem ki_X7_whole : Cond.instanceMethod yX7_whole ∈ pw_tbl := pw_in 1202 (by decide +kernel) (by decide +kernel)
theorem ks_X7_whole : Cond.selects RX7 yX7_whole yX7_whole ∈ pw_tbl := pw_in 1203 (by decide +kernel) (by decide +kernel)
theorem kc_X7_whole : Cond.code yX7_whole cX7_whole 2 (some .int) ∈ pw_tbl := pw_in 1204 (by decide +kernel) (by decide +kernel)
theorem km_X7_155 : Cond.methodLink RX7 155 yX7_wholeValue ∈ pw_tbl := pw_in 1205 (by decide +kernel) (by decide +kernel)
theorem ki_X7_wholeValue : Cond.instanceMethod yX7_wholeValue ∈ pw_tbl := pw_in 1207 (by decide +kernel) (by decide +kernel)
theorem kc_X7_wholeValue : Cond.code yX7_wholeValue cX7_wholeValue 6 (some .int) ∈ pw_tbl := pw_in 1208 (by decide +kernel) (by decide +kernel)
theorem km_X7_146 : Cond.methodLink RX7 146 yX7_costBy ∈ pw_tbl := pw_in 1209 (by decide +kernel) (by decide +kernel)
theorem ki_X7_costBy : Cond.instanceMethod yX7_costBy ∈ pw_tbl := pw_in 1211 (by decide +kernel) (by decide +kernel)
theorem kc_X7_costBy : Cond.code yX7_costBy cX7_costBy 4 (some .int) ∈ pw_tbl := pw_in 1212 (by decide +kernel) (by decide +kernel)
theorem km_X7_149 : Cond.methodLink RX7 149 yX7_bestCost ∈ pw_tbl := pw_in 1213 (by decide +kernel) (by decide +kernel)
theorem ki_X7_bestCost : Cond.instanceMethod yX7_bestCost ∈ pw_tbl := pw_in 1215 (by decide +kernel) (by decide +kernel)
theorem kc_X7_bestCost : Cond.code yX7_bestCost cX7_bestCost 5 (some .int) ∈ pw_tbl := pw_in 1216 (by decide +kernel) (by decide +kernel)
theorem km_L_146 : Cond.methodLink RL 146 yX7_reason ∈ pw_tbl := pw_in 1217 (by decide +kernel) (by decide +kernel)
theorem ki_X7_reason : Cond.instanceMethod yX7_reason ∈ pw_tbl := pw_in 1218 (by decide +kernel) (by decide +kernel)
theorem ks_X7_reason : Cond.selects RX7 yX7_reason yX7_reason ∈ pw_tbl := pw_in 1219 (by decide +kernel) (by decide +kernel)
theorem kc_X7_reason : Cond.code yX7_reason cX7_reason 2 (some .int) ∈ pw_tbl := pw_in 1220 (by decide +kernel) (by decide +kernel)
theorem km_L_149 : Cond.methodLink RL 149 yX7_settledPlace ∈ pw_tbl := pw_in 1221 (by decide +kernel) (by decide +kernel)
theorem ki_X7_settledPlace : Cond.instanceMethod yX7_settledPlace ∈ pw_tbl := pw_in 1222 (by decide +kernel) (by decide +kernel)
theorem ks_X7_settledPlace : Cond.selects RX7 yX7_settledPlace yX7_settledPlace ∈ pw_tbl := pw_in 1223 (by decide +kernel) (by decide +kernel)
theorem kc_X7_settledPlace : Cond.code yX7_settledPlace cX7_settledPlace 3 (some .int) ∈ pw_tbl := pw_in 1224 (by decide +kernel) (by decide +kernel)
theorem km_X7_158 : Cond.methodLink RX7 158 yX7_putAside ∈ pw_tbl := pw_in 1225 (by decide +kernel) (by decide +kernel)
theorem ki_X7_putAside : Cond.instanceMethod yX7_putAside ∈ pw_tbl := pw_in 1227 (by decide +kernel) (by decide +kernel)
theorem kc_X7_putAside : Cond.code yX7_putAside cX7_putAside 1 (none : Option Jvm.ClassFile.FieldType) ∈ pw_tbl := pw_in 1228 (by decide +kernel) (by decide +kernel)
theorem km_X7_161 : Cond.methodLink RX7 161 yX7_comesBack ∈ pw_tbl := pw_in 1229 (by decide +kernel) (by decide +kernel)
theorem ki_X7_comesBack : Cond.instanceMethod yX7_comesBack ∈ pw_tbl := pw_in 1231 (by decide +kernel) (by decide +kernel)
theorem kc_X7_comesBack : Cond.code yX7_comesBack cX7_comesBack 1 (none : Option Jvm.ClassFile.FieldType) ∈ pw_tbl := pw_in 1232 (by decide +kernel) (by decide +kernel)
theorem km_L_152 : Cond.methodLink RL 152 yX7_profit ∈ pw_tbl := pw_in 1233 (by decide +kernel) (by decide +kernel)
theorem ki_X7_profit : Cond.instanceMethod yX7_profit ∈ pw_tbl := pw_in 1234 (by decide +kernel) (by decide +kernel)
theorem ks_X7_profit : Cond.selects RX7 yX7_profit yX7_profit ∈ pw_tbl := pw_in 1235 (by decide +kernel) (by decide +kernel)
theorem kc_X7_profit : Cond.code yX7_profit cX7_profit 3 (some .int) ∈ pw_tbl := pw_in 1236 (by decide +kernel) (by decide +kernel)
theorem km_X7_167 : Cond.methodLink RX7 167 yX7_profitBy ∈ pw_tbl := pw_in 1237 (by decide +kernel) (by decide +kernel)
theorem ki_X7_profitBy : Cond.instanceMethod yX7_profitBy ∈ pw_tbl := pw_in 1239 (by decide +kernel) (by decide +kernel)
theorem kc_X7_profitBy : Cond.code yX7_profitBy cX7_profitBy 5 (some .int) ∈ pw_tbl := pw_in 1240 (by decide +kernel) (by decide +kernel)
theorem km_X7_164 : Cond.methodLink RX7 164 yX7_has ∈ pw_tbl := pw_in 1241 (by decide +kernel) (by decide +kernel)
theorem ki_X7_has : Cond.instanceMethod yX7_has ∈ pw_tbl := pw_in 1243 (by decide +kernel) (by decide +kernel)
theorem kc_X7_has : Cond.code yX7_has cX7_has 3 (some .int) ∈ pw_tbl := pw_in 1244 (by decide +kernel) (by decide +kernel)
theorem km_L_155 : Cond.methodLink RL 155 yX7_bestLie ∈ pw_tbl := pw_in 1245 (by decide +kernel) (by decide +kernel)
theorem ki_X7_bestLie : Cond.instanceMethod yX7_bestLie ∈ pw_tbl := pw_in 1246 (by decide +kernel) (by decide +kernel)
theorem ks_X7_bestLie : Cond.selects RX7 yX7_bestLie yX7_bestLie ∈ pw_tbl := pw_in 1247 (by decide +kernel) (by decide +kernel)
theorem kc_X7_bestLie : Cond.code yX7_bestLie cX7_bestLie 6 (some .int) ∈ pw_tbl := pw_in 1248 (by decide +kernel) (by decide +kernel)
theorem km_L_159 : Cond.methodLink RL 159 yX7_honestCost ∈ pw_tbl := pw_in 1249 (by decide +kernel) (by decide +kernel)
theorem ki_X7_honestCost : Cond.instanceMethod yX7_honestCost ∈ pw_tbl := pw_in 1250 (by decide +kernel) (by decide +kernel)
theorem ks_X7_honestCost : Cond.selects RX7 yX7_honestCost yX7_honestCost ∈ pw_tbl := pw_in 1251 (by decide +kernel) (by decide +kernel)
theorem kc_X7_honestCost : Cond.code yX7_honestCost cX7_honestCost 2 (some .int) ∈ pw_tbl := pw_in 1252 (by decide +kernel) (by decide +kernel)
theorem km_L_163 : Cond.methodLink RL 163 yX7_disorder ∈ pw_tbl := pw_in 1253 (by decide +kernel) (by decide +kernel)
theorem ki_X7_disorder : Cond.instanceMethod yX7_disorder ∈ pw_tbl := pw_in 1254 (by decide +kernel) (by decide +kernel)
theorem ks_X7_disorder : Cond.selects RX7 yX7_disorder yX7_disorder ∈ pw_tbl := pw_in 1255 (by decide +kernel) (by decide +kernel)
theorem kc_X7_disorder : Cond.code yX7_disorder cX7_disorder 4 (some .int) ∈ pw_tbl := pw_in 1256 (by decide +kernel) (by decide +kernel)
theorem km_L_166 : Cond.methodLink RL 166 yX7_type ∈ pw_tbl := pw_in 1257 (by decide +kernel) (by decide +kernel)
theorem ki_X7_type : Cond.instanceMethod yX7_type ∈ pw_tbl := pw_in 1258 (by decide +kernel) (by decide +kernel)
theorem ks_X7_type : Cond.selects RX7 yX7_type yX7_type ∈ pw_tbl := pw_in 1259 (by decide +kernel) (by decide +kernel)
theorem kc_X7_type : Cond.code yX7_type cX7_type 2 (some .int) ∈ pw_tbl := pw_in 1260 (by decide +kernel) (by decide +kernel)
theorem km_L_170 : Cond.methodLink RL 170 yX7_clearCommands ∈ pw_tbl := pw_in 1261 (by decide +kernel) (by decide +kernel)
theorem ki_X7_clearCommands : Cond.instanceMethod yX7_clearCommands ∈ pw_tbl := pw_in 1262 (by decide +kernel) (by decide +kernel)
theorem ks_X7_clearCommands : Cond.selects RX7 yX7_clearCommands yX7_clearCommands ∈ pw_tbl := pw_in 1263 (by decide +kernel) (by decide +kernel)
theorem kc_X7_clearCommands : Cond.code yX7_clearCommands cX7_clearCommands 2 (some .int) ∈ pw_tbl := pw_in 1264 (by decide +kernel) (by decide +kernel)
theorem km_L_174 : Cond.methodLink RL 174 yX7_runCommands ∈ pw_tbl := pw_in 1265 (by decide +kernel) (by decide +kernel)
theorem ki_X7_runCommands : Cond.instanceMethod yX7_runCommands ∈ pw_tbl := pw_in 1266 (by decide +kernel) (by decide +kernel)
theorem ks_X7_runCommands : Cond.selects RX7 yX7_runCommands yX7_runCommands ∈ pw_tbl := pw_in 1267 (by decide +kernel) (by decide +kernel)
theorem kc_X7_runCommands : Cond.code yX7_runCommands cX7_runCommands 4 (some .int) ∈ pw_tbl := pw_in 1268 (by decide +kernel) (by decide +kernel)
theorem km_X7_223 : Cond.methodLink RX7 223 yX7_fault ∈ pw_tbl := pw_in 1269 (by decide +kernel) (by decide +kernel)
theorem ki_X7_fault : Cond.instanceMethod yX7_fault ∈ pw_tbl := pw_in 1271 (by decide +kernel) (by decide +kernel)
theorem kc_X7_fault : Cond.code yX7_fault cX7_fault 1 (some .int) ∈ pw_tbl := pw_in 1272 (by decide +kernel) (by decide +kernel)
theorem km_X7_204 : Cond.methodLink RX7 204 yX7_passSpaces ∈ pw_tbl := pw_in 1273 (by decide +kernel) (by decide +kernel)
theorem ki_X7_passSpaces : Cond.instanceMethod yX7_passSpaces ∈ pw_tbl := pw_in 1275 (by decide +kernel) (by decide +kernel)
theorem kc_X7_passSpaces : Cond.code yX7_passSpaces cX7_passSpaces 1 (none : Option Jvm.ClassFile.FieldType) ∈ pw_tbl := pw_in 1276 (by decide +kernel) (by decide +kernel)
theorem km_X7_173 : Cond.methodLink RX7 173 yX7_here ∈ pw_tbl := pw_in 1277 (by decide +kernel) (by decide +kernel)
theorem ki_X7_here : Cond.instanceMethod yX7_here ∈ pw_tbl := pw_in 1279 (by decide +kernel) (by decide +kernel)
theorem kc_X7_here : Cond.code yX7_here cX7_here 1 (some .int) ∈ pw_tbl := pw_in 1280 (by decide +kernel) (by decide +kernel)
theorem km_X7_220 : Cond.methodLink RX7 220 yX7_command ∈ pw_tbl := pw_in 1281 (by decide +kernel) (by decide +kernel)
theorem ki_X7_command : Cond.instanceMethod yX7_command ∈ pw_tbl := pw_in 1283 (by decide +kernel) (by decide +kernel)
theorem kc_X7_command : Cond.code yX7_command cX7_command 3 (some .int) ∈ pw_tbl := pw_in 1284 (by decide +kernel) (by decide +kernel)
theorem km_X7_210 : Cond.methodLink RX7 210 yX7_word ∈ pw_tbl := pw_in 1285 (by decide +kernel) (by decide +kernel)
theorem ki_X7_word : Cond.instanceMethod yX7_word ∈ pw_tbl := pw_in 1287 (by decide +kernel) (by decide +kernel)
theorem kc_X7_word : Cond.code yX7_word cX7_word 5 (some .int) ∈ pw_tbl := pw_in 1288 (by decide +kernel) (by decide +kernel)
theorem kl_X7_176 : Cond.constantLong RX7 176 (27) ∈ pw_tbl := pw_in 1289 (by decide +kernel) (by decide +kernel)
theorem kl_X7_178 : Cond.constantLong RX7 178 (96) ∈ pw_tbl := pw_in 1290 (by decide +kernel) (by decide +kernel)
theorem kl_X7_180 : Cond.constantLong RX7 180 (-1) ∈ pw_tbl := pw_in 1291 (by decide +kernel) (by decide +kernel)
theorem kl_X7_182 : Cond.constantLong RX7 182 (208022) ∈ pw_tbl := pw_in 1292 (by decide +kernel) (by decide +kernel)
theorem kl_X7_184 : Cond.constantLong RX7 184 (330758) ∈ pw_tbl := pw_in 1293 (by decide +kernel) (by decide +kernel)
theorem kl_X7_186 : Cond.constantLong RX7 186 (6477035) ∈ pw_tbl := pw_in 1294 (by decide +kernel) (by decide +kernel)
theorem kl_X7_188 : Cond.constantLong RX7 188 (13903) ∈ pw_tbl := pw_in 1295 (by decide +kernel) (by decide +kernel)
theorem kl_X7_190 : Cond.constantLong RX7 190 (8094240) ∈ pw_tbl := pw_in 1296 (by decide +kernel) (by decide +kernel)
theorem kl_X7_192 : Cond.constantLong RX7 192 (394691) ∈ pw_tbl := pw_in 1297 (by decide +kernel) (by decide +kernel)
theorem kl_X7_194 : Cond.constantLong RX7 194 (390787) ∈ pw_tbl := pw_in 1298 (by decide +kernel) (by decide +kernel)
theorem kl_X7_196 : Cond.constantLong RX7 196 (95840554) ∈ pw_tbl := pw_in 1299 (by decide +kernel) (by decide +kernel)
theorem kl_X7_198 : Cond.constantLong RX7 198 (316163) ∈ pw_tbl := pw_in 1300 (by decide +kernel) (by decide +kernel)
theorem kl_X7_200 : Cond.constantLong RX7 200 (10209515) ∈ pw_tbl := pw_in 1301 (by decide +kernel) (by decide +kernel)
theorem kl_X7_202 : Cond.constantLong RX7 202 (275695007) ∈ pw_tbl := pw_in 1302 (by decide +kernel) (by decide +kernel)
theorem km_X7_213 : Cond.methodLink RX7 213 yX7_numbersOf ∈ pw_tbl := pw_in 1303 (by decide +kernel) (by decide +kernel)
theorem kt_X7_numbersOf : Cond.static yX7_numbersOf ∈ pw_tbl := pw_in 1304 (by decide +kernel) (by decide +kernel)
theorem kc_X7_numbersOf : Cond.code yX7_numbersOf cX7_numbersOf 1 (some .int) ∈ pw_tbl := pw_in 1305 (by decide +kernel) (by decide +kernel)
theorem km_X7_216 : Cond.methodLink RX7 216 yX7_isNumber ∈ pw_tbl := pw_in 1306 (by decide +kernel) (by decide +kernel)
theorem ki_X7_isNumber : Cond.instanceMethod yX7_isNumber ∈ pw_tbl := pw_in 1308 (by decide +kernel) (by decide +kernel)
theorem kc_X7_isNumber : Cond.code yX7_isNumber cX7_isNumber 3 (some .boolean) ∈ pw_tbl := pw_in 1309 (by decide +kernel) (by decide +kernel)
theorem km_X7_226 : Cond.methodLink RX7 226 yX7_whyNot ∈ pw_tbl := pw_in 1310 (by decide +kernel) (by decide +kernel)
theorem ki_X7_whyNot : Cond.instanceMethod yX7_whyNot ∈ pw_tbl := pw_in 1312 (by decide +kernel) (by decide +kernel)
theorem kc_X7_whyNot : Cond.code yX7_whyNot cX7_whyNot 5 (some .int) ∈ pw_tbl := pw_in 1313 (by decide +kernel) (by decide +kernel)
theorem km_X7_230 : Cond.methodLink RX7 230 yX7_does ∈ pw_tbl := pw_in 1314 (by decide +kernel) (by decide +kernel)
theorem ki_X7_does : Cond.instanceMethod yX7_does ∈ pw_tbl := pw_in 1316 (by decide +kernel) (by decide +kernel)
theorem kc_X7_does : Cond.code yX7_does cX7_does 5 (none : Option Jvm.ClassFile.FieldType) ∈ pw_tbl := pw_in 1317 (by decide +kernel) (by decide +kernel)
theorem km_L_177 : Cond.methodLink RL 177 yX7_undo ∈ pw_tbl := pw_in 1318 (by decide +kernel) (by decide +kernel)
theorem ki_X7_undo : Cond.instanceMethod yX7_undo ∈ pw_tbl := pw_in 1319 (by decide +kernel) (by decide +kernel)
theorem ks_X7_undo : Cond.selects RX7 yX7_undo yX7_undo ∈ pw_tbl := pw_in 1320 (by decide +kernel) (by decide +kernel)
theorem kc_X7_undo : Cond.code yX7_undo cX7_undo 1 (some .int) ∈ pw_tbl := pw_in 1321 (by decide +kernel) (by decide +kernel)
theorem km_L_182 : Cond.methodLink RL 182 yX7_digest ∈ pw_tbl := pw_in 1322 (by decide +kernel) (by decide +kernel)
theorem ki_X7_digest : Cond.instanceMethod yX7_digest ∈ pw_tbl := pw_in 1323 (by decide +kernel) (by decide +kernel)
theorem ks_X7_digest : Cond.selects RX7 yX7_digest yX7_digest ∈ pw_tbl := pw_in 1324 (by decide +kernel) (by decide +kernel)
theorem kc_X7_digest : Cond.code yX7_digest cX7_digest 5 (some .long) ∈ pw_tbl := pw_in 1325 (by decide +kernel) (by decide +kernel)
theorem kl_X7_234 : Cond.constantLong RX7 234 (1359102) ∈ pw_tbl := pw_in 1326 (by decide +kernel) (by decide +kernel)
theorem kl_X7_236 : Cond.constantLong RX7 236 (31) ∈ pw_tbl := pw_in 1327 (by decide +kernel) (by decide +kernel)
theorem km_X7_238 : Cond.methodLink RX7 238 yX7_disorder ∈ pw_tbl := pw_in 1328 (by decide +kernel) (by decide +kernel)
theorem kf_Jx29ce0_7 : Cond.fieldLink RJx29ce0 7 "java/lang/Enum" "ordinal" "I" ∈ pw_tbl := pw_in 1331 (by decide +kernel) (by decide +kernel)
theorem kn_X2_83 : Cond.fieldLinkNest RX2 83 "ConsentQueue$Command" "word" "Ljava/lang/String;" "ConsentQueue" ∈ lw_tbl := List.mem_of_getElem? (i := 1332) (by decide +kernel)
theorem kf_J0_9 : Cond.fieldLink RJ0 9 "java/lang/String" "value" "[B" ∈ pw_tbl := pw_in 1333 (by decide +kernel) (by decide +kernel)
theorem kf_J0_15 : Cond.fieldLink RJ0 15 "java/lang/String" "coder" "B" ∈ pw_tbl := pw_in 1334 (by decide +kernel) (by decide +kernel)
theorem kn_X2_53 : Cond.fieldLinkNest RX2 53 "ConsentQueue$Command" "numbers" "I" "ConsentQueue" ∈ lw_tbl := List.mem_of_getElem? (i := 1335) (by decide +kernel)
theorem kw_X2 : ∀ w ∈ u_ws RX2 TX2 6, w ∈ pw_tbl := by
  intro w hw
  obtain ⟨k, hk, rfl⟩ := List.mem_map.mp hw
  have hk := List.mem_range.mp hk
  match k, hk with
  | 0, _ => exact pw_in 257 (by decide +kernel) (by decide +kernel)
  | 1, _ => exact pw_in 259 (by decide +kernel) (by decide +kernel)
  | 2, _ => exact pw_in 261 (by decide +kernel) (by decide +kernel)
  | 3, _ => exact pw_in 263 (by decide +kernel) (by decide +kernel)
  | 4, _ => exact pw_in 265 (by decide +kernel) (by decide +kernel)
  | 5, _ => exact pw_in 267 (by decide +kernel) (by decide +kernel)
  | k + 6, hk => exact absurd hk (by omega)
theorem kw_X3 : ∀ w ∈ u_ws RX3 TX3 2, w ∈ pw_tbl := by
  intro w hw
  obtain ⟨k, hk, rfl⟩ := List.mem_map.mp hw
  have hk := List.mem_range.mp hk
  match k, hk with
  | 0, _ => exact pw_in 238 (by decide +kernel) (by decide +kernel)
  | 1, _ => exact pw_in 240 (by decide +kernel) (by decide +kernel)
  | k + 2, hk => exact absurd hk (by omega)
theorem kw_X4 : ∀ w ∈ u_ws RX4 TX4 8, w ∈ pw_tbl := by
  intro w hw
  obtain ⟨k, hk, rfl⟩ := List.mem_map.mp hw
  have hk := List.mem_range.mp hk
  match k, hk with
  | 0, _ => exact pw_in 209 (by decide +kernel) (by decide +kernel)
  | 1, _ => exact pw_in 211 (by decide +kernel) (by decide +kernel)
  | 2, _ => exact pw_in 213 (by decide +kernel) (by decide +kernel)
  | 3, _ => exact pw_in 215 (by decide +kernel) (by decide +kernel)
  | 4, _ => exact pw_in 217 (by decide +kernel) (by decide +kernel)
  | 5, _ => exact pw_in 219 (by decide +kernel) (by decide +kernel)
  | 6, _ => exact pw_in 221 (by decide +kernel) (by decide +kernel)
  | 7, _ => exact pw_in 223 (by decide +kernel) (by decide +kernel)
  | k + 8, hk => exact absurd hk (by omega)
theorem kw_X5 : ∀ w ∈ u_ws RX5 TX5 7, w ∈ pw_tbl := by
  intro w hw
  obtain ⟨k, hk, rfl⟩ := List.mem_map.mp hw
  have hk := List.mem_range.mp hk
  match k, hk with
  | 0, _ => exact pw_in 184 (by decide +kernel) (by decide +kernel)
  | 1, _ => exact pw_in 186 (by decide +kernel) (by decide +kernel)
  | 2, _ => exact pw_in 188 (by decide +kernel) (by decide +kernel)
  | 3, _ => exact pw_in 190 (by decide +kernel) (by decide +kernel)
  | 4, _ => exact pw_in 192 (by decide +kernel) (by decide +kernel)
  | 5, _ => exact pw_in 194 (by decide +kernel) (by decide +kernel)
  | 6, _ => exact pw_in 196 (by decide +kernel) (by decide +kernel)
  | k + 7, hk => exact absurd hk (by omega)
theorem kw_X6 : ∀ w ∈ u_ws RX6 TX6 4, w ∈ pw_tbl := by
  intro w hw
  obtain ⟨k, hk, rfl⟩ := List.mem_map.mp hw
  have hk := List.mem_range.mp hk
  match k, hk with
  | 0, _ => exact pw_in 276 (by decide +kernel) (by decide +kernel)
  | 1, _ => exact pw_in 278 (by decide +kernel) (by decide +kernel)
  | 2, _ => exact pw_in 280 (by decide +kernel) (by decide +kernel)
  | 3, _ => exact pw_in 282 (by decide +kernel) (by decide +kernel)
  | k + 4, hk => exact absurd hk (by omega)
theorem kw_X7 : ∀ w ∈ u_ws RX7 TX7 9, w ∈ pw_tbl := by
  intro w hw
  obtain ⟨k, hk, rfl⟩ := List.mem_map.mp hw
  have hk := List.mem_range.mp hk
  match k, hk with
  | 0, _ => exact pw_in 975 (by decide +kernel) (by decide +kernel)
  | 1, _ => exact pw_in 977 (by decide +kernel) (by decide +kernel)
  | 2, _ => exact pw_in 979 (by decide +kernel) (by decide +kernel)
  | 3, _ => exact pw_in 981 (by decide +kernel) (by decide +kernel)
  | 4, _ => exact pw_in 983 (by decide +kernel) (by decide +kernel)
  | 5, _ => exact pw_in 985 (by decide +kernel) (by decide +kernel)
  | 6, _ => exact pw_in 987 (by decide +kernel) (by decide +kernel)
  | 7, _ => exact pw_in 989 (by decide +kernel) (by decide +kernel)
  | 8, _ => exact pw_in 991 (by decide +kernel) (by decide +kernel)
  | k + 9, hk => exact absurd hk (by omega)
end
section
/-! CELLS: what a write does to the state. -/
def up2 {α : Type} (f : Nat → Nat → α) (a b : Nat) (v : α) : Nat → Nat → α := fun x y => if x = a ∧ y = b then v else f x y
def up3 {α : Type} (f : Nat → Nat → Nat → α) (a b d : Nat) (v : α) : Nat → Nat → Nat → α := fun x y z => if x = a ∧ y = b ∧ z = d then v else f x y z
def lSc (L : LT) (k i : Nat) (v : Int32) : LT := (up2 L.1 k i v, L.2)
def lPm (L : LT) (k p j : Nat) : LT := (L.1, up2 L.2.1 k p j, L.2.2)
def lMb (L : LT) (k j i : Nat) (v : Int32) : LT := (L.1, L.2.1, up3 L.2.2 k j i v)
def setL (S : ST) (L : LT) : ST := (L, S.2)
def setHs (S : ST) (i k : Nat) : ST := (S.1, (va_up (sH S).1 i k, (sH S).2), S.2.2)
def setHn (S : ST) (v : Int32) : ST := (S.1, ((sH S).1, v), S.2.2)
def setTs (S : ST) (i : Nat) (v : Int32) : ST := (S.1, S.2.1, (upd (sT S).1 i v, (sT S).2), S.2.2.2)
def setTc (S : ST) (o : Option Nat) : ST := (S.1, S.2.1, ((sT S).1, o, (sT S).2.2), S.2.2.2)
def setTb (S : ST) (i : Nat) (v : Int32) : ST := (S.1, S.2.1, ((sT S).1, (sT S).2.1, upd (sT S).2.2.1 i v, (sT S).2.2.2), S.2.2.2)
def setTn (S : ST) (i : Nat) (v : Int32) : ST := (S.1, S.2.1, ((sT S).1, (sT S).2.1, (sT S).2.2.1, upd (sT S).2.2.2 i v), S.2.2.2)
def setM (S : ST) (M : MT) : ST := (S.1, S.2.1, S.2.2.1, M, S.2.2.2.2)
def mMs (M : MT) (i : Nat) (v : Int32) : MT := (upd M.1 i v, M.2)
def mRo (M : MT) (i : Nat) (v : Int32) : MT := (M.1, upd M.2.1 i v, M.2.2)
def mTx (M : MT) (i : Nat) (v : Int32) : MT := (M.1, M.2.1, upd M.2.2.1 i v, M.2.2.2)
def mGi (M : MT) (i : Nat) (v : Int32) : MT := (M.1, M.2.1, M.2.2.1, upd M.2.2.2.1 i v, M.2.2.2.2)
def mBe (M : MT) (i : Nat) (v : Int32) : MT := (M.1, M.2.1, M.2.2.1, M.2.2.2.1, upd M.2.2.2.2 i v)
def setO (S : ST) (i : Nat) (v : Int64) : ST := (S.1, S.2.1, S.2.2.1, S.2.2.2.1, vp_updL (sO S) i v)
theorem up2_s {α : Type} (f : Nat → Nat → α) (a b : Nat) (v : α) : up2 f a b v a b = v := by simp [up2]
theorem up3_s {α : Type} (f : Nat → Nat → Nat → α) (a b d : Nat) (v : α) : up3 f a b d v a b d = v := by simp [up3]
theorem pE_line {E : GE} {S S' : ST} (h : S.2 = S'.2) {q : Nat} (hl : ∀ k, k < 6 → q = 13 * k → lnF E (sL S) k = lnF E (sL S') k) (ha : ∀ k, k < 6 → q = 13 * k + 1 → arF E (sL S) k = arF E (sL S') k) (hm : ∀ k j, k < 6 → j < 11 → q = 13 * k + 2 + j → mbF (sL S) k j = mbF (sL S') k j) : pE E S q = pE E S' q := by
  have h1 : sH S = sH S' := congrArg Prod.fst h
  have h2 : sT S = sT S' := congrArg (fun x => x.2.1) h
  have h3 : sM S = sM S' := congrArg (fun x => x.2.2.1) h
  have h4 : sO S = sO S' := congrArg (fun x => x.2.2.2) h
  unfold pE
  by_cases h78 : q < 78
  · rw [if_pos h78, if_pos h78]
    by_cases h0 : q % 13 = 0
    · rw [if_pos h0, if_pos h0, hl (q / 13) (by omega) (by omega)]
    · rw [if_neg h0, if_neg h0]
      by_cases h1 : q % 13 = 1
      · rw [if_pos h1, if_pos h1, ha (q / 13) (by omega) (by omega)]
      · rw [if_neg h1, if_neg h1, hm (q / 13) (q % 13 - 2) (by omega) (by omega) (by omega)]
  · rw [if_neg h78, if_neg h78, h1, h2, h3, h4]
theorem u_Sc (E : GE) (S : ST) {k i : Nat} (hk : k < 6) (h2 : 2 ≤ i) (h8 : i < 8) (v : Int32) : ∀ q, q < 90 → va_up (pE E S) (13 * k) (.inr (2, (lnF E (sL S) k).set i (.int v))) q = pE E (setL S (lSc (sL S) k i v)) q := by
  intro q hq
  by_cases h : q = 13 * k
  · subst h
    rw [pE_ln E _ hk]
    simp only [va_up, if_pos]
    rcases (show i = 2 ∨ i = 3 ∨ i = 4 ∨ i = 5 ∨ i = 6 ∨ i = 7 by omega) with rfl | rfl | rfl | rfl | rfl | rfl <;> simp [lnF, setL, lSc, up2, sL, sc]
  · simp only [va_up, if_neg h]
    exact pE_line (S := S) (S' := setL S (lSc (sL S) k i v)) rfl (fun k' _ e => by
      have hne : k' ≠ k := by intro e2; subst e2; exact h e
      simp [lnF, setL, lSc, up2, sL, sc, hne]) (fun _ _ _ => rfl) (fun _ _ _ _ _ => rfl)
theorem u_Pm (E : GE) (S : ST) {k : Nat} (hk : k < 6) (p j : Nat) : ∀ q, q < 90 → va_up (pE E S) (13 * k + 1) (.inl (gC E 3, 10, .inr (.inr (.inr (.inr (va_up (fun j => some (gA E (13 * k + 2 + pm (sL S) k j))) p (some (gA E (13 * k + 2 + j))))))))) q = pE E (setL S (lPm (sL S) k p j)) q := by
  intro q hq
  by_cases h : q = 13 * k + 1
  · subst h
    rw [pE_ar E _ hk]
    have hf : va_up (fun j => some (gA E (13 * k + 2 + pm (sL S) k j))) p (some (gA E (13 * k + 2 + j))) = fun x => some (gA E (13 * k + 2 + pm (lPm (sL S) k p j) k x)) := by
      funext x
      by_cases hx : x = p <;> simp [va_up, lPm, up2, pm, hx]
    rw [hf]
    simp only [va_up, if_pos]
    rfl
  · simp only [va_up, if_neg h]
    exact pE_line (S := S) (S' := setL S (lPm (sL S) k p j)) rfl (fun _ _ _ => rfl) (fun k' _ e => by
      have hne : k' ≠ k := by intro e2; subst e2; exact h e
      simp [arF, setL, lPm, up2, sL, pm, hne]) (fun _ _ _ _ _ => rfl)
theorem u_Mb (E : GE) (S : ST) {k j i : Nat} (hk : k < 6) (hj : j < 11) (hi : i < 7) (v : Int32) : ∀ q, q < 90 → va_up (pE E S) (13 * k + 2 + j) (.inr (3, (mbF (sL S) k j).set i (.int v))) q = pE E (setL S (lMb (sL S) k j i v)) q := by
  intro q hq
  by_cases h : q = 13 * k + 2 + j
  · subst h
    rw [pE_mb E _ hk hj]
    simp only [va_up, if_pos]
    rcases (show i = 0 ∨ i = 1 ∨ i = 2 ∨ i = 3 ∨ i = 4 ∨ i = 5 ∨ i = 6 by omega) with rfl | rfl | rfl | rfl | rfl | rfl | rfl <;> simp [mbF, setL, lMb, up3, sL, mb]
  · simp only [va_up, if_neg h]
    exact pE_line (S := S) (S' := setL S (lMb (sL S) k j i v)) rfl (fun _ _ _ => rfl) (fun _ _ _ => rfl) (fun k' j' h6 h11 e => by
      have hne : ¬ (k' = k ∧ j' = j) := by rintro ⟨rfl, rfl⟩; exact h e
      have hn : ∀ z w : Nat, ¬ (k' = k ∧ j' = j ∧ z = w) := fun z w h => hne ⟨h.1, h.2.1⟩
      simp [mbF, setL, lMb, up3, sL, mb, hn])
theorem pE_top {E : GE} {S S' : ST} (h : S.1 = S'.1) {q : Nat} (hq : q < 78) : pE E S q = pE E S' q := by
  unfold pE; rw [if_pos hq, if_pos hq, show sL S = sL S' from h]
theorem u_all {E : GE} {S S' : ST} {i : Nat} {en : va_E} (h : S.1 = S'.1) (hi : 78 ≤ i) (hs : pE E S' i = en) (ho : ∀ q, 78 ≤ q → q < 90 → q ≠ i → pE E S q = pE E S' q) : ∀ q, q < 90 → va_up (pE E S) i en q = pE E S' q := by
  intro q hq
  by_cases e : q = i
  · subst e; simp only [va_up, if_pos]; exact hs.symm
  · simp only [va_up, if_neg e]
    by_cases h8 : q < 78
    · exact pE_top h h8
    · exact ho q (by omega) hq e
theorem q12 {P : Nat → Prop} (h : P 78 ∧ P 79 ∧ P 80 ∧ P 81 ∧ P 82 ∧ P 83 ∧ P 84 ∧ P 85 ∧ P 86 ∧ P 87 ∧ P 88 ∧ P 89) : ∀ q, 78 ≤ q → q < 90 → P q := by
  obtain ⟨a, b, c, d, e, f, g, h, i, j, k, l⟩ := h
  intro q h1 h2
  rcases (show q = 78 ∨ q = 79 ∨ q = 80 ∨ q = 81 ∨ q = 82 ∨ q = 83 ∨ q = 84 ∨ q = 85 ∨ q = 86 ∨ q = 87 ∨ q = 88 ∨ q = 89 by omega) with rfl | rfl | rfl | rfl | rfl | rfl | rfl | rfl | rfl | rfl | rfl | rfl <;> assumption
theorem u_Hn (E : GE) (S : ST) (v : Int32) : ∀ q, q < 90 → va_up (pE E S) 78 (.inr (1, [Value.ref (gA E 79), .int (sH S).2].set 1 (.int v))) q = pE E (setHn S v) q :=
  u_all rfl (by omega) rfl (q12 (P := fun q => q ≠ 78 → pE E S q = pE E (setHn S v) q) ⟨fun h => absurd rfl h, fun _ => rfl, fun _ => rfl, fun _ => rfl, fun _ => rfl, fun _ => rfl, fun _ => rfl, fun _ => rfl, fun _ => rfl, fun _ => rfl, fun _ => rfl, fun _ => rfl⟩)
theorem u_Hs (E : GE) (S : ST) (i k : Nat) : ∀ q, q < 90 → va_up (pE E S) 79 (.inl (gC E 2, 4, .inr (.inr (.inr (.inr (va_up (fun j => some (gA E (13 * (sH S).1 j))) i (some (gA E (13 * k))))))))) q = pE E (setHs S i k) q :=
  u_all rfl (by omega) (by
    show hsF E (va_up (sH S).1 i k, (sH S).2) = _
    have hf : va_up (fun j => some (gA E (13 * (sH S).1 j))) i (some (gA E (13 * k))) = fun x => some (gA E (13 * (va_up (sH S).1 i k) x)) := by
      funext x
      by_cases hx : x = i <;> simp [va_up, hx]
    rw [hf]
    rfl) (q12 (P := fun q => q ≠ 79 → pE E S q = pE E (setHs S i k) q) ⟨fun _ => rfl, fun h => absurd rfl h, fun _ => rfl, fun _ => rfl, fun _ => rfl, fun _ => rfl, fun _ => rfl, fun _ => rfl, fun _ => rfl, fun _ => rfl, fun _ => rfl, fun _ => rfl⟩)
theorem u_Ts (E : GE) (S : ST) {i : Nat} (h1 : 1 ≤ i) (h3 : i ≤ 3) (v : Int32) : ∀ q, q < 90 → va_up (pE E S) 80 (.inr (0, (txF E (sT S)).set i (.int v))) q = pE E (setTs S i v) q :=
  u_all rfl (by omega) (by
    show Sum.inr (0, txF E (upd (sT S).1 i v, (sT S).2)) = _
    rcases (show i = 1 ∨ i = 2 ∨ i = 3 by omega) with rfl | rfl | rfl <;> simp [txF, upd]) (q12 (P := fun q => q ≠ 80 → pE E S q = pE E (setTs S i v) q) ⟨fun _ => rfl, fun _ => rfl, fun h => absurd rfl h, fun _ => rfl, fun _ => rfl, fun _ => rfl, fun _ => rfl, fun _ => rfl, fun _ => rfl, fun _ => rfl, fun _ => rfl, fun _ => rfl⟩)
theorem u_Tc (E : GE) (S : ST) (o : Option Nat) : ∀ q, q < 90 → va_up (pE E S) 80 (.inr (0, (txF E (sT S)).set 4 (va_re (gN E) o))) q = pE E (setTc S o) q :=
  u_all rfl (by omega) rfl (q12 (P := fun q => q ≠ 80 → pE E S q = pE E (setTc S o) q) ⟨fun _ => rfl, fun _ => rfl, fun h => absurd rfl h, fun _ => rfl, fun _ => rfl, fun _ => rfl, fun _ => rfl, fun _ => rfl, fun _ => rfl, fun _ => rfl, fun _ => rfl, fun _ => rfl⟩)
theorem u_Tb (E : GE) (S : ST) (i : Nat) (v : Int32) : ∀ q, q < 90 → va_up (pE E S) 81 (.inl (gC E 0, 150, .inl (upd (sT S).2.2.1 i v))) q = pE E (setTb S i v) q :=
  u_all rfl (by omega) rfl (q12 (P := fun q => q ≠ 81 → pE E S q = pE E (setTb S i v) q) ⟨fun _ => rfl, fun _ => rfl, fun _ => rfl, fun h => absurd rfl h, fun _ => rfl, fun _ => rfl, fun _ => rfl, fun _ => rfl, fun _ => rfl, fun _ => rfl, fun _ => rfl, fun _ => rfl⟩)
theorem u_Tn (E : GE) (S : ST) (i : Nat) (v : Int32) : ∀ q, q < 90 → va_up (pE E S) 82 (.inl (gC E 1, 3, .inl (upd (sT S).2.2.2 i v))) q = pE E (setTn S i v) q :=
  u_all rfl (by omega) rfl (q12 (P := fun q => q ≠ 82 → pE E S q = pE E (setTn S i v) q) ⟨fun _ => rfl, fun _ => rfl, fun _ => rfl, fun _ => rfl, fun h => absurd rfl h, fun _ => rfl, fun _ => rfl, fun _ => rfl, fun _ => rfl, fun _ => rfl, fun _ => rfl, fun _ => rfl⟩)
theorem u_Ms (E : GE) (S : ST) {i : Nat} (h : i = 1 ∨ i = 2 ∨ i = 4 ∨ i = 5 ∨ i = 6) (v : Int32) : ∀ q, q < 90 → va_up (pE E S) 84 (.inr (5, (moF E (sM S)).set i (.int v))) q = pE E (setM S (mMs (sM S) i v)) q :=
  u_all rfl (by omega) (by
    show Sum.inr (5, moF E (mMs (sM S) i v)) = _
    rcases h with rfl | rfl | rfl | rfl | rfl <;> simp [moF, upd, mMs]) (q12 (P := fun q => q ≠ 84 → pE E S q = pE E (setM S (mMs (sM S) i v)) q) ⟨fun _ => rfl, fun _ => rfl, fun _ => rfl, fun _ => rfl, fun _ => rfl, fun _ => rfl, fun h => absurd rfl h, fun _ => rfl, fun _ => rfl, fun _ => rfl, fun _ => rfl, fun _ => rfl⟩)
theorem u_Ro (E : GE) (S : ST) (i : Nat) (v : Int32) : ∀ q, q < 90 → va_up (pE E S) 85 (.inl (gC E 1, 456, .inl (upd (sM S).2.1 i v))) q = pE E (setM S (mRo (sM S) i v)) q :=
  u_all rfl (by omega) rfl (q12 (P := fun q => q ≠ 85 → pE E S q = pE E (setM S (mRo (sM S) i v)) q) ⟨fun _ => rfl, fun _ => rfl, fun _ => rfl, fun _ => rfl, fun _ => rfl, fun _ => rfl, fun _ => rfl, fun h => absurd rfl h, fun _ => rfl, fun _ => rfl, fun _ => rfl, fun _ => rfl⟩)
theorem u_Mt (E : GE) (S : ST) (i : Nat) (v : Int32) : ∀ q, q < 90 → va_up (pE E S) 86 (.inl (gC E 1, 150, .inl (upd (sM S).2.2.1 i v))) q = pE E (setM S (mTx (sM S) i v)) q :=
  u_all rfl (by omega) rfl (q12 (P := fun q => q ≠ 86 → pE E S q = pE E (setM S (mTx (sM S) i v)) q) ⟨fun _ => rfl, fun _ => rfl, fun _ => rfl, fun _ => rfl, fun _ => rfl, fun _ => rfl, fun _ => rfl, fun _ => rfl, fun h => absurd rfl h, fun _ => rfl, fun _ => rfl, fun _ => rfl⟩)
theorem u_Mg (E : GE) (S : ST) (i : Nat) (v : Int32) : ∀ q, q < 90 → va_up (pE E S) 87 (.inl (gC E 1, 3, .inl (upd (sM S).2.2.2.1 i v))) q = pE E (setM S (mGi (sM S) i v)) q :=
  u_all rfl (by omega) rfl (q12 (P := fun q => q ≠ 87 → pE E S q = pE E (setM S (mGi (sM S) i v)) q) ⟨fun _ => rfl, fun _ => rfl, fun _ => rfl, fun _ => rfl, fun _ => rfl, fun _ => rfl, fun _ => rfl, fun _ => rfl, fun _ => rfl, fun h => absurd rfl h, fun _ => rfl, fun _ => rfl⟩)
theorem u_Me (E : GE) (S : ST) (i : Nat) (v : Int32) : ∀ q, q < 90 → va_up (pE E S) 88 (.inl (gC E 1, 10, .inl (upd (sM S).2.2.2.2 i v))) q = pE E (setM S (mBe (sM S) i v)) q :=
  u_all rfl (by omega) rfl (q12 (P := fun q => q ≠ 88 → pE E S q = pE E (setM S (mBe (sM S) i v)) q) ⟨fun _ => rfl, fun _ => rfl, fun _ => rfl, fun _ => rfl, fun _ => rfl, fun _ => rfl, fun _ => rfl, fun _ => rfl, fun _ => rfl, fun _ => rfl, fun h => absurd rfl h, fun _ => rfl⟩)
theorem u_Ou (E : GE) (S : ST) (i : Nat) (v : Int64) : ∀ q, q < 90 → va_up (pE E S) 89 (.inl (gC E 4, 1, .inr (.inl (vp_updL (sO S) i v)))) q = pE E (setO S i v) q :=
  u_all rfl (by omega) rfl (q12 (P := fun q => q ≠ 89 → pE E S q = pE E (setO S i v) q) ⟨fun _ => rfl, fun _ => rfl, fun _ => rfl, fun _ => rfl, fun _ => rfl, fun _ => rfl, fun _ => rfl, fun _ => rfl, fun _ => rfl, fun _ => rfl, fun _ => rfl, fun h => absurd rfl h⟩)
end
