-- ===== PART A: goes FIRST, ahead of the names: the tables' words, and 'selects' of the private methods out of them =====
/-- a private method of a class that the tables say can be made, by its rows of tables_1 -/
def lw_okq (q : MethodName × Nat) : Prop := (q.1.cls ≠ "java/lang/invoke/MethodHandle" ∧ q.1.cls ≠ "java/lang/invoke/VarHandle") ∧ Cond.instantiable q.1.cls q.2 ∈ tables_1 ∧ Cond.privateMethod q.1 ∈ tables_1 ∧ Cond.instanceMethod q.1 ∈ tables_1
theorem lw_p0 : lw_okq (⟨"ClawCranes$Prizes", "setIn", "(I)I"⟩, 7) := ⟨⟨by decide +kernel, by decide +kernel⟩, List.mem_of_getElem? (i := 26) (by decide +kernel), List.mem_of_getElem? (i := 225) (by decide +kernel), List.mem_of_getElem? (i := 226) (by decide +kernel)⟩
theorem lw_p1 : lw_okq (⟨"ClawCranes$Prizes", "valueWon", "()I"⟩, 7) := ⟨⟨by decide +kernel, by decide +kernel⟩, List.mem_of_getElem? (i := 26) (by decide +kernel), List.mem_of_getElem? (i := 235) (by decide +kernel), List.mem_of_getElem? (i := 236) (by decide +kernel)⟩
theorem lw_p2 : lw_okq (⟨"ClawCranes$Pit", "emptyColumns", "()I"⟩, 2) := ⟨⟨by decide +kernel, by decide +kernel⟩, List.mem_of_getElem? (i := 66) (by decide +kernel), List.mem_of_getElem? (i := 239) (by decide +kernel), List.mem_of_getElem? (i := 240) (by decide +kernel)⟩
theorem lw_p3 : lw_okq (⟨"ClawCranes$History", "stepBack", "(LClawCranes$Crane;)V"⟩, 3) := ⟨⟨by decide +kernel, by decide +kernel⟩, List.mem_of_getElem? (i := 148) (by decide +kernel), List.mem_of_getElem? (i := 247) (by decide +kernel), List.mem_of_getElem? (i := 248) (by decide +kernel)⟩
theorem lw_p4 : lw_okq (⟨"ClawCranes$Crane", "copyFrom", "(LClawCranes$Crane;)V"⟩, 11) := ⟨⟨by decide +kernel, by decide +kernel⟩, List.mem_of_getElem? (i := 20) (by decide +kernel), List.mem_of_getElem? (i := 251) (by decide +kernel), List.mem_of_getElem? (i := 252) (by decide +kernel)⟩
theorem lw_p5 : lw_okq (⟨"ClawCranes$Prizes", "copyFrom", "(LClawCranes$Prizes;)V"⟩, 7) := ⟨⟨by decide +kernel, by decide +kernel⟩, List.mem_of_getElem? (i := 26) (by decide +kernel), List.mem_of_getElem? (i := 255) (by decide +kernel), List.mem_of_getElem? (i := 256) (by decide +kernel)⟩
theorem lw_p6 : lw_okq (⟨"ClawCranes$Pit", "copyFrom", "(LClawCranes$Pit;)V"⟩, 2) := ⟨⟨by decide +kernel, by decide +kernel⟩, List.mem_of_getElem? (i := 66) (by decide +kernel), List.mem_of_getElem? (i := 260) (by decide +kernel), List.mem_of_getElem? (i := 261) (by decide +kernel)⟩
theorem lw_p7 : lw_okq (⟨"ClawCranes$Diary", "copyFrom", "(LClawCranes$Diary;)V"⟩, 3) := ⟨⟨by decide +kernel, by decide +kernel⟩, List.mem_of_getElem? (i := 80) (by decide +kernel), List.mem_of_getElem? (i := 265) (by decide +kernel), List.mem_of_getElem? (i := 266) (by decide +kernel)⟩
theorem lw_p8 : lw_okq (⟨"ClawCranes$History", "note", "(LClawCranes$Crane;)V"⟩, 3) := ⟨⟨by decide +kernel, by decide +kernel⟩, List.mem_of_getElem? (i := 148) (by decide +kernel), List.mem_of_getElem? (i := 282) (by decide +kernel), List.mem_of_getElem? (i := 283) (by decide +kernel)⟩
theorem lw_p9 : lw_okq (⟨"ClawCranes", "recorded", "(I)I"⟩, 5) := ⟨⟨by decide +kernel, by decide +kernel⟩, List.mem_of_getElem? (i := 12) (by decide +kernel), List.mem_of_getElem? (i := 286) (by decide +kernel), List.mem_of_getElem? (i := 287) (by decide +kernel)⟩
theorem lw_p10 : lw_okq (⟨"ClawCranes$History", "keepNoted", "()V"⟩, 3) := ⟨⟨by decide +kernel, by decide +kernel⟩, List.mem_of_getElem? (i := 148) (by decide +kernel), List.mem_of_getElem? (i := 290) (by decide +kernel), List.mem_of_getElem? (i := 291) (by decide +kernel)⟩
theorem lw_p11 : lw_okq (⟨"ClawCranes$Pit", "spotOf", "(I)I"⟩, 2) := ⟨⟨by decide +kernel, by decide +kernel⟩, List.mem_of_getElem? (i := 66) (by decide +kernel), List.mem_of_getElem? (i := 312) (by decide +kernel), List.mem_of_getElem? (i := 313) (by decide +kernel)⟩
theorem lw_p12 : lw_okq (⟨"ClawCranes$Pit", "prizeAt", "(II)I"⟩, 2) := ⟨⟨by decide +kernel, by decide +kernel⟩, List.mem_of_getElem? (i := 66) (by decide +kernel), List.mem_of_getElem? (i := 316) (by decide +kernel), List.mem_of_getElem? (i := 317) (by decide +kernel)⟩
theorem lw_p13 : lw_okq (⟨"ClawCranes$Diary", "tell", "(II)I"⟩, 3) := ⟨⟨by decide +kernel, by decide +kernel⟩, List.mem_of_getElem? (i := 80) (by decide +kernel), List.mem_of_getElem? (i := 324) (by decide +kernel), List.mem_of_getElem? (i := 325) (by decide +kernel)⟩
theorem lw_p14 : lw_okq (⟨"ClawCranes$Pit", "top", "(I)I"⟩, 2) := ⟨⟨by decide +kernel, by decide +kernel⟩, List.mem_of_getElem? (i := 66) (by decide +kernel), List.mem_of_getElem? (i := 346) (by decide +kernel), List.mem_of_getElem? (i := 347) (by decide +kernel)⟩
theorem lw_p15 : lw_okq (⟨"ClawCranes$Crane", "loadOfTop", "(II)I"⟩, 11) := ⟨⟨by decide +kernel, by decide +kernel⟩, List.mem_of_getElem? (i := 20) (by decide +kernel), List.mem_of_getElem? (i := 350) (by decide +kernel), List.mem_of_getElem? (i := 351) (by decide +kernel)⟩
def lw_privs_1 : List (MethodName × Nat) := [(⟨"ClawCranes$Prizes", "setIn", "(I)I"⟩, 7), (⟨"ClawCranes$Prizes", "valueWon", "()I"⟩, 7), (⟨"ClawCranes$Pit", "emptyColumns", "()I"⟩, 2), (⟨"ClawCranes$History", "stepBack", "(LClawCranes$Crane;)V"⟩, 3), (⟨"ClawCranes$Crane", "copyFrom", "(LClawCranes$Crane;)V"⟩, 11), (⟨"ClawCranes$Prizes", "copyFrom", "(LClawCranes$Prizes;)V"⟩, 7), (⟨"ClawCranes$Pit", "copyFrom", "(LClawCranes$Pit;)V"⟩, 2), (⟨"ClawCranes$Diary", "copyFrom", "(LClawCranes$Diary;)V"⟩, 3), (⟨"ClawCranes$History", "note", "(LClawCranes$Crane;)V"⟩, 3), (⟨"ClawCranes", "recorded", "(I)I"⟩, 5), (⟨"ClawCranes$History", "keepNoted", "()V"⟩, 3), (⟨"ClawCranes$Pit", "spotOf", "(I)I"⟩, 2), (⟨"ClawCranes$Pit", "prizeAt", "(II)I"⟩, 2), (⟨"ClawCranes$Diary", "tell", "(II)I"⟩, 3), (⟨"ClawCranes$Pit", "top", "(I)I"⟩, 2), (⟨"ClawCranes$Crane", "loadOfTop", "(II)I"⟩, 11)]
theorem lw_r1 : ∀ q ∈ lw_privs_1, lw_okq q := List.forall_mem_cons.mpr ⟨lw_p0, List.forall_mem_cons.mpr ⟨lw_p1, List.forall_mem_cons.mpr ⟨lw_p2, List.forall_mem_cons.mpr ⟨lw_p3, List.forall_mem_cons.mpr ⟨lw_p4, List.forall_mem_cons.mpr ⟨lw_p5, List.forall_mem_cons.mpr ⟨lw_p6, List.forall_mem_cons.mpr ⟨lw_p7, List.forall_mem_cons.mpr ⟨lw_p8, List.forall_mem_cons.mpr ⟨lw_p9, List.forall_mem_cons.mpr ⟨lw_p10, List.forall_mem_cons.mpr ⟨lw_p11, List.forall_mem_cons.mpr ⟨lw_p12, List.forall_mem_cons.mpr ⟨lw_p13, List.forall_mem_cons.mpr ⟨lw_p14, List.forall_mem_cons.mpr ⟨lw_p15, fun _ h => absurd h List.not_mem_nil⟩⟩⟩⟩⟩⟩⟩⟩⟩⟩⟩⟩⟩⟩⟩⟩
theorem lw_p16 : lw_okq (⟨"ClawCranes$Prizes", "inPitUpTo", "(I)I"⟩, 7) := ⟨⟨by decide +kernel, by decide +kernel⟩, List.mem_of_getElem? (i := 26) (by decide +kernel), List.mem_of_getElem? (i := 359) (by decide +kernel), List.mem_of_getElem? (i := 360) (by decide +kernel)⟩
theorem lw_p17 : lw_okq (⟨"ClawCranes$Prizes", "inPitByValue", "(I)I"⟩, 7) := ⟨⟨by decide +kernel, by decide +kernel⟩, List.mem_of_getElem? (i := 26) (by decide +kernel), List.mem_of_getElem? (i := 367) (by decide +kernel), List.mem_of_getElem? (i := 368) (by decide +kernel)⟩
theorem lw_p18 : lw_okq (⟨"ClawCranes$Prizes", "rankInPit", "(I)I"⟩, 7) := ⟨⟨by decide +kernel, by decide +kernel⟩, List.mem_of_getElem? (i := 26) (by decide +kernel), List.mem_of_getElem? (i := 371) (by decide +kernel), List.mem_of_getElem? (i := 372) (by decide +kernel)⟩
theorem lw_p19 : lw_okq (⟨"ClawCranes$Prizes", "isBefore", "(II)Z"⟩, 7) := ⟨⟨by decide +kernel, by decide +kernel⟩, List.mem_of_getElem? (i := 26) (by decide +kernel), List.mem_of_getElem? (i := 375) (by decide +kernel), List.mem_of_getElem? (i := 376) (by decide +kernel)⟩
theorem lw_p20 : lw_okq (⟨"ClawCranes$Crane", "playsUntilFull", "()I"⟩, 11) := ⟨⟨by decide +kernel, by decide +kernel⟩, List.mem_of_getElem? (i := 20) (by decide +kernel), List.mem_of_getElem? (i := 389) (by decide +kernel), List.mem_of_getElem? (i := 390) (by decide +kernel)⟩
theorem lw_p21 : lw_okq (⟨"ClawCranes$Crane", "changeSetting", "(II)I"⟩, 11) := ⟨⟨by decide +kernel, by decide +kernel⟩, List.mem_of_getElem? (i := 20) (by decide +kernel), List.mem_of_getElem? (i := 406) (by decide +kernel), List.mem_of_getElem? (i := 407) (by decide +kernel)⟩
theorem lw_p22 : lw_okq (⟨"ClawCranes$Crane", "takePrize", "(III)I"⟩, 11) := ⟨⟨by decide +kernel, by decide +kernel⟩, List.mem_of_getElem? (i := 20) (by decide +kernel), List.mem_of_getElem? (i := 418) (by decide +kernel), List.mem_of_getElem? (i := 419) (by decide +kernel)⟩
theorem lw_p23 : lw_okq (⟨"ClawCranes$Prizes", "come", "(III)I"⟩, 7) := ⟨⟨by decide +kernel, by decide +kernel⟩, List.mem_of_getElem? (i := 26) (by decide +kernel), List.mem_of_getElem? (i := 422) (by decide +kernel), List.mem_of_getElem? (i := 423) (by decide +kernel)⟩
theorem lw_p24 : lw_okq (⟨"ClawCranes$Crane", "addToColumn", "(I)I"⟩, 11) := ⟨⟨by decide +kernel, by decide +kernel⟩, List.mem_of_getElem? (i := 20) (by decide +kernel), List.mem_of_getElem? (i := 430) (by decide +kernel), List.mem_of_getElem? (i := 431) (by decide +kernel)⟩
theorem lw_p25 : lw_okq (⟨"ClawCranes$Prizes", "storeIsEmpty", "()Z"⟩, 7) := ⟨⟨by decide +kernel, by decide +kernel⟩, List.mem_of_getElem? (i := 26) (by decide +kernel), List.mem_of_getElem? (i := 435) (by decide +kernel), List.mem_of_getElem? (i := 436) (by decide +kernel)⟩
theorem lw_p26 : lw_okq (⟨"ClawCranes$Prizes", "leaveStore", "()I"⟩, 7) := ⟨⟨by decide +kernel, by decide +kernel⟩, List.mem_of_getElem? (i := 26) (by decide +kernel), List.mem_of_getElem? (i := 439) (by decide +kernel), List.mem_of_getElem? (i := 440) (by decide +kernel)⟩
theorem lw_p27 : lw_okq (⟨"ClawCranes$Pit", "lay", "(II)V"⟩, 2) := ⟨⟨by decide +kernel, by decide +kernel⟩, List.mem_of_getElem? (i := 66) (by decide +kernel), List.mem_of_getElem? (i := 443) (by decide +kernel), List.mem_of_getElem? (i := 444) (by decide +kernel)⟩
theorem lw_p28 : lw_okq (⟨"ClawCranes$Crane", "takeCoins", "(I)I"⟩, 11) := ⟨⟨by decide +kernel, by decide +kernel⟩, List.mem_of_getElem? (i := 20) (by decide +kernel), List.mem_of_getElem? (i := 451) (by decide +kernel), List.mem_of_getElem? (i := 452) (by decide +kernel)⟩
theorem lw_p29 : lw_okq (⟨"ClawCranes$Crane", "playForCredit", "(II)I"⟩, 11) := ⟨⟨by decide +kernel, by decide +kernel⟩, List.mem_of_getElem? (i := 20) (by decide +kernel), List.mem_of_getElem? (i := 459) (by decide +kernel), List.mem_of_getElem? (i := 460) (by decide +kernel)⟩
theorem lw_p30 : lw_okq (⟨"ClawCranes$Crane", "pull", "(II)I"⟩, 11) := ⟨⟨by decide +kernel, by decide +kernel⟩, List.mem_of_getElem? (i := 20) (by decide +kernel), List.mem_of_getElem? (i := 464) (by decide +kernel), List.mem_of_getElem? (i := 465) (by decide +kernel)⟩
theorem lw_p31 : lw_okq (⟨"ClawCranes$Crane", "outcome", "(II)I"⟩, 11) := ⟨⟨by decide +kernel, by decide +kernel⟩, List.mem_of_getElem? (i := 20) (by decide +kernel), List.mem_of_getElem? (i := 468) (by decide +kernel), List.mem_of_getElem? (i := 469) (by decide +kernel)⟩
def lw_privs_2 : List (MethodName × Nat) := [(⟨"ClawCranes$Prizes", "inPitUpTo", "(I)I"⟩, 7), (⟨"ClawCranes$Prizes", "inPitByValue", "(I)I"⟩, 7), (⟨"ClawCranes$Prizes", "rankInPit", "(I)I"⟩, 7), (⟨"ClawCranes$Prizes", "isBefore", "(II)Z"⟩, 7), (⟨"ClawCranes$Crane", "playsUntilFull", "()I"⟩, 11), (⟨"ClawCranes$Crane", "changeSetting", "(II)I"⟩, 11), (⟨"ClawCranes$Crane", "takePrize", "(III)I"⟩, 11), (⟨"ClawCranes$Prizes", "come", "(III)I"⟩, 7), (⟨"ClawCranes$Crane", "addToColumn", "(I)I"⟩, 11), (⟨"ClawCranes$Prizes", "storeIsEmpty", "()Z"⟩, 7), (⟨"ClawCranes$Prizes", "leaveStore", "()I"⟩, 7), (⟨"ClawCranes$Pit", "lay", "(II)V"⟩, 2), (⟨"ClawCranes$Crane", "takeCoins", "(I)I"⟩, 11), (⟨"ClawCranes$Crane", "playForCredit", "(II)I"⟩, 11), (⟨"ClawCranes$Crane", "pull", "(II)I"⟩, 11), (⟨"ClawCranes$Crane", "outcome", "(II)I"⟩, 11)]
theorem lw_r2 : ∀ q ∈ lw_privs_2, lw_okq q := List.forall_mem_cons.mpr ⟨lw_p16, List.forall_mem_cons.mpr ⟨lw_p17, List.forall_mem_cons.mpr ⟨lw_p18, List.forall_mem_cons.mpr ⟨lw_p19, List.forall_mem_cons.mpr ⟨lw_p20, List.forall_mem_cons.mpr ⟨lw_p21, List.forall_mem_cons.mpr ⟨lw_p22, List.forall_mem_cons.mpr ⟨lw_p23, List.forall_mem_cons.mpr ⟨lw_p24, List.forall_mem_cons.mpr ⟨lw_p25, List.forall_mem_cons.mpr ⟨lw_p26, List.forall_mem_cons.mpr ⟨lw_p27, List.forall_mem_cons.mpr ⟨lw_p28, List.forall_mem_cons.mpr ⟨lw_p29, List.forall_mem_cons.mpr ⟨lw_p30, List.forall_mem_cons.mpr ⟨lw_p31, fun _ h => absurd h List.not_mem_nil⟩⟩⟩⟩⟩⟩⟩⟩⟩⟩⟩⟩⟩⟩⟩⟩
theorem lw_p32 : lw_okq (⟨"ClawCranes$Crane", "grip", "(I)I"⟩, 11) := ⟨⟨by decide +kernel, by decide +kernel⟩, List.mem_of_getElem? (i := 20) (by decide +kernel), List.mem_of_getElem? (i := 472) (by decide +kernel), List.mem_of_getElem? (i := 473) (by decide +kernel)⟩
theorem lw_p33 : lw_okq (⟨"ClawCranes$Crane", "nextGripIsFull", "()Z"⟩, 11) := ⟨⟨by decide +kernel, by decide +kernel⟩, List.mem_of_getElem? (i := 20) (by decide +kernel), List.mem_of_getElem? (i := 476) (by decide +kernel), List.mem_of_getElem? (i := 477) (by decide +kernel)⟩
theorem lw_p34 : lw_okq (⟨"ClawCranes$Pit", "rollTarget", "(I)I"⟩, 2) := ⟨⟨by decide +kernel, by decide +kernel⟩, List.mem_of_getElem? (i := 66) (by decide +kernel), List.mem_of_getElem? (i := 481) (by decide +kernel), List.mem_of_getElem? (i := 482) (by decide +kernel)⟩
theorem lw_p35 : lw_okq (⟨"ClawCranes$Pit", "heightOrWall", "(I)I"⟩, 2) := ⟨⟨by decide +kernel, by decide +kernel⟩, List.mem_of_getElem? (i := 66) (by decide +kernel), List.mem_of_getElem? (i := 485) (by decide +kernel), List.mem_of_getElem? (i := 486) (by decide +kernel)⟩
theorem lw_p36 : lw_okq (⟨"ClawCranes$Crane", "pay", "(Z)V"⟩, 11) := ⟨⟨by decide +kernel, by decide +kernel⟩, List.mem_of_getElem? (i := 20) (by decide +kernel), List.mem_of_getElem? (i := 490) (by decide +kernel), List.mem_of_getElem? (i := 491) (by decide +kernel)⟩
theorem lw_p37 : lw_okq (⟨"ClawCranes$Diary", "write", "(IIIZ)V"⟩, 3) := ⟨⟨by decide +kernel, by decide +kernel⟩, List.mem_of_getElem? (i := 80) (by decide +kernel), List.mem_of_getElem? (i := 494) (by decide +kernel), List.mem_of_getElem? (i := 495) (by decide +kernel)⟩
theorem lw_p38 : lw_okq (⟨"ClawCranes$Crane", "moveGripped", "(III)V"⟩, 11) := ⟨⟨by decide +kernel, by decide +kernel⟩, List.mem_of_getElem? (i := 20) (by decide +kernel), List.mem_of_getElem? (i := 499) (by decide +kernel), List.mem_of_getElem? (i := 500) (by decide +kernel)⟩
theorem lw_p39 : lw_okq (⟨"ClawCranes$Pit", "lift", "(I)V"⟩, 2) := ⟨⟨by decide +kernel, by decide +kernel⟩, List.mem_of_getElem? (i := 66) (by decide +kernel), List.mem_of_getElem? (i := 503) (by decide +kernel), List.mem_of_getElem? (i := 504) (by decide +kernel)⟩
theorem lw_p40 : lw_okq (⟨"ClawCranes$Crane", "fillUp", "()V"⟩, 11) := ⟨⟨by decide +kernel, by decide +kernel⟩, List.mem_of_getElem? (i := 20) (by decide +kernel), List.mem_of_getElem? (i := 507) (by decide +kernel), List.mem_of_getElem? (i := 508) (by decide +kernel)⟩
theorem lw_p41 : lw_okq (⟨"ClawCranes$Pit", "prizesInAll", "()I"⟩, 2) := ⟨⟨by decide +kernel, by decide +kernel⟩, List.mem_of_getElem? (i := 66) (by decide +kernel), List.mem_of_getElem? (i := 511) (by decide +kernel), List.mem_of_getElem? (i := 512) (by decide +kernel)⟩
theorem lw_p42 : lw_okq (⟨"ClawCranes$Pit", "lowestColumn", "()I"⟩, 2) := ⟨⟨by decide +kernel, by decide +kernel⟩, List.mem_of_getElem? (i := 66) (by decide +kernel), List.mem_of_getElem? (i := 515) (by decide +kernel), List.mem_of_getElem? (i := 516) (by decide +kernel)⟩
theorem lw_p43 : lw_okq (⟨"ClawCranes$Crane", "coinsToWin", "(I)I"⟩, 11) := ⟨⟨by decide +kernel, by decide +kernel⟩, List.mem_of_getElem? (i := 20) (by decide +kernel), List.mem_of_getElem? (i := 528) (by decide +kernel), List.mem_of_getElem? (i := 529) (by decide +kernel)⟩
theorem lw_p44 : lw_okq (⟨"ClawCranes$Pad", "firstFault", "()I"⟩, 8) := ⟨⟨by decide +kernel, by decide +kernel⟩, List.mem_of_getElem? (i := 168) (by decide +kernel), List.mem_of_getElem? (i := 541) (by decide +kernel), List.mem_of_getElem? (i := 542) (by decide +kernel)⟩
theorem lw_p45 : lw_okq (⟨"ClawCranes$Pad", "begin", "()V"⟩, 8) := ⟨⟨by decide +kernel, by decide +kernel⟩, List.mem_of_getElem? (i := 168) (by decide +kernel), List.mem_of_getElem? (i := 545) (by decide +kernel), List.mem_of_getElem? (i := 546) (by decide +kernel)⟩
theorem lw_p46 : lw_okq (⟨"ClawCranes$Pad", "nextOrder", "()Z"⟩, 8) := ⟨⟨by decide +kernel, by decide +kernel⟩, List.mem_of_getElem? (i := 168) (by decide +kernel), List.mem_of_getElem? (i := 549) (by decide +kernel), List.mem_of_getElem? (i := 550) (by decide +kernel)⟩
theorem lw_p47 : lw_okq (⟨"ClawCranes$Pad", "expect", "(I)V"⟩, 8) := ⟨⟨by decide +kernel, by decide +kernel⟩, List.mem_of_getElem? (i := 168) (by decide +kernel), List.mem_of_getElem? (i := 553) (by decide +kernel), List.mem_of_getElem? (i := 554) (by decide +kernel)⟩
def lw_privs_3 : List (MethodName × Nat) := [(⟨"ClawCranes$Crane", "grip", "(I)I"⟩, 11), (⟨"ClawCranes$Crane", "nextGripIsFull", "()Z"⟩, 11), (⟨"ClawCranes$Pit", "rollTarget", "(I)I"⟩, 2), (⟨"ClawCranes$Pit", "heightOrWall", "(I)I"⟩, 2), (⟨"ClawCranes$Crane", "pay", "(Z)V"⟩, 11), (⟨"ClawCranes$Diary", "write", "(IIIZ)V"⟩, 3), (⟨"ClawCranes$Crane", "moveGripped", "(III)V"⟩, 11), (⟨"ClawCranes$Pit", "lift", "(I)V"⟩, 2), (⟨"ClawCranes$Crane", "fillUp", "()V"⟩, 11), (⟨"ClawCranes$Pit", "prizesInAll", "()I"⟩, 2), (⟨"ClawCranes$Pit", "lowestColumn", "()I"⟩, 2), (⟨"ClawCranes$Crane", "coinsToWin", "(I)I"⟩, 11), (⟨"ClawCranes$Pad", "firstFault", "()I"⟩, 8), (⟨"ClawCranes$Pad", "begin", "()V"⟩, 8), (⟨"ClawCranes$Pad", "nextOrder", "()Z"⟩, 8), (⟨"ClawCranes$Pad", "expect", "(I)V"⟩, 8)]
theorem lw_r3 : ∀ q ∈ lw_privs_3, lw_okq q := List.forall_mem_cons.mpr ⟨lw_p32, List.forall_mem_cons.mpr ⟨lw_p33, List.forall_mem_cons.mpr ⟨lw_p34, List.forall_mem_cons.mpr ⟨lw_p35, List.forall_mem_cons.mpr ⟨lw_p36, List.forall_mem_cons.mpr ⟨lw_p37, List.forall_mem_cons.mpr ⟨lw_p38, List.forall_mem_cons.mpr ⟨lw_p39, List.forall_mem_cons.mpr ⟨lw_p40, List.forall_mem_cons.mpr ⟨lw_p41, List.forall_mem_cons.mpr ⟨lw_p42, List.forall_mem_cons.mpr ⟨lw_p43, List.forall_mem_cons.mpr ⟨lw_p44, List.forall_mem_cons.mpr ⟨lw_p45, List.forall_mem_cons.mpr ⟨lw_p46, List.forall_mem_cons.mpr ⟨lw_p47, fun _ h => absurd h List.not_mem_nil⟩⟩⟩⟩⟩⟩⟩⟩⟩⟩⟩⟩⟩⟩⟩⟩
theorem lw_p48 : lw_okq (⟨"ClawCranes$Pad", "here", "()I"⟩, 8) := ⟨⟨by decide +kernel, by decide +kernel⟩, List.mem_of_getElem? (i := 168) (by decide +kernel), List.mem_of_getElem? (i := 557) (by decide +kernel), List.mem_of_getElem? (i := 558) (by decide +kernel)⟩
theorem lw_p49 : lw_okq (⟨"ClawCranes$Pad", "readCoins", "()V"⟩, 8) := ⟨⟨by decide +kernel, by decide +kernel⟩, List.mem_of_getElem? (i := 168) (by decide +kernel), List.mem_of_getElem? (i := 561) (by decide +kernel), List.mem_of_getElem? (i := 562) (by decide +kernel)⟩
theorem lw_p50 : lw_okq (⟨"ClawCranes$Pad", "number", "()I"⟩, 8) := ⟨⟨by decide +kernel, by decide +kernel⟩, List.mem_of_getElem? (i := 168) (by decide +kernel), List.mem_of_getElem? (i := 565) (by decide +kernel), List.mem_of_getElem? (i := 566) (by decide +kernel)⟩
theorem lw_p51 : lw_okq (⟨"ClawCranes$Pad", "digit", "()I"⟩, 8) := ⟨⟨by decide +kernel, by decide +kernel⟩, List.mem_of_getElem? (i := 168) (by decide +kernel), List.mem_of_getElem? (i := 569) (by decide +kernel), List.mem_of_getElem? (i := 570) (by decide +kernel)⟩
theorem lw_p52 : lw_okq (⟨"ClawCranes$Pad", "readPlay", "()V"⟩, 8) := ⟨⟨by decide +kernel, by decide +kernel⟩, List.mem_of_getElem? (i := 168) (by decide +kernel), List.mem_of_getElem? (i := 576) (by decide +kernel), List.mem_of_getElem? (i := 577) (by decide +kernel)⟩
theorem lw_p53 : lw_okq (⟨"ClawCranes$Pad", "readPrize", "()V"⟩, 8) := ⟨⟨by decide +kernel, by decide +kernel⟩, List.mem_of_getElem? (i := 168) (by decide +kernel), List.mem_of_getElem? (i := 580) (by decide +kernel), List.mem_of_getElem? (i := 581) (by decide +kernel)⟩
theorem lw_p54 : lw_okq (⟨"ClawCranes$Pad", "kind", "()I"⟩, 8) := ⟨⟨by decide +kernel, by decide +kernel⟩, List.mem_of_getElem? (i := 168) (by decide +kernel), List.mem_of_getElem? (i := 584) (by decide +kernel), List.mem_of_getElem? (i := 585) (by decide +kernel)⟩
theorem lw_p55 : lw_okq (⟨"ClawCranes$Pad", "readAdding", "()V"⟩, 8) := ⟨⟨by decide +kernel, by decide +kernel⟩, List.mem_of_getElem? (i := 168) (by decide +kernel), List.mem_of_getElem? (i := 588) (by decide +kernel), List.mem_of_getElem? (i := 589) (by decide +kernel)⟩
theorem lw_p56 : lw_okq (⟨"ClawCranes", "carriedOrder", "()I"⟩, 5) := ⟨⟨by decide +kernel, by decide +kernel⟩, List.mem_of_getElem? (i := 12) (by decide +kernel), List.mem_of_getElem? (i := 594) (by decide +kernel), List.mem_of_getElem? (i := 595) (by decide +kernel)⟩
def lw_privs_4 : List (MethodName × Nat) := [(⟨"ClawCranes$Pad", "here", "()I"⟩, 8), (⟨"ClawCranes$Pad", "readCoins", "()V"⟩, 8), (⟨"ClawCranes$Pad", "number", "()I"⟩, 8), (⟨"ClawCranes$Pad", "digit", "()I"⟩, 8), (⟨"ClawCranes$Pad", "readPlay", "()V"⟩, 8), (⟨"ClawCranes$Pad", "readPrize", "()V"⟩, 8), (⟨"ClawCranes$Pad", "kind", "()I"⟩, 8), (⟨"ClawCranes$Pad", "readAdding", "()V"⟩, 8), (⟨"ClawCranes", "carriedOrder", "()I"⟩, 5)]
theorem lw_r4 : ∀ q ∈ lw_privs_4, lw_okq q := List.forall_mem_cons.mpr ⟨lw_p48, List.forall_mem_cons.mpr ⟨lw_p49, List.forall_mem_cons.mpr ⟨lw_p50, List.forall_mem_cons.mpr ⟨lw_p51, List.forall_mem_cons.mpr ⟨lw_p52, List.forall_mem_cons.mpr ⟨lw_p53, List.forall_mem_cons.mpr ⟨lw_p54, List.forall_mem_cons.mpr ⟨lw_p55, List.forall_mem_cons.mpr ⟨lw_p56, fun _ h => absurd h List.not_mem_nil⟩⟩⟩⟩⟩⟩⟩⟩⟩
def lw_privs : List (MethodName × Nat) := lw_privs_1 ++ (lw_privs_2 ++ (lw_privs_3 ++ (lw_privs_4)))
def lw_tbl : List Cond := k2_sels lw_privs ++ tables_1
theorem lw_privs_ok : ∀ q ∈ lw_privs, lw_okq q := by
  show ∀ q ∈ lw_privs_1 ++ (lw_privs_2 ++ (lw_privs_3 ++ (lw_privs_4))), lw_okq q
  exact List.forall_mem_append.mpr ⟨lw_r1, List.forall_mem_append.mpr ⟨lw_r2, List.forall_mem_append.mpr ⟨lw_r3, lw_r4⟩⟩⟩
-- ===== end of PART A; then your names; then what follows =====
def RX0 : String := "ClawCranes$Crane"
def TX0 : u_T := fun k => match k with
  | 0 => ("ClawCranes$Crane", "settings", "[I", true)
  | 1 => ("ClawCranes$Crane", "prizes", "LClawCranes$Prizes;", true)
  | 2 => ("ClawCranes$Crane", "pit", "LClawCranes$Pit;", true)
  | 3 => ("ClawCranes$Crane", "diary", "LClawCranes$Diary;", true)
  | 4 => ("ClawCranes$Crane", "credit", "I", false)
  | 5 => ("ClawCranes$Crane", "paidSincePrize", "I", false)
  | 6 => ("ClawCranes$Crane", "paid", "I", false)
  | 7 => ("ClawCranes$Crane", "plays", "I", false)
  | 8 => ("ClawCranes$Crane", "fullPlays", "I", false)
  | 9 => ("ClawCranes$Crane", "slips", "I", false)
  | _ => ("ClawCranes$Crane", "fillings", "I", false)
def tyX0 : Nat → FieldType := fun k => match k with
  | 0 => .array .int
  | 1 => .object "ClawCranes$Prizes"
  | 2 => .object "ClawCranes$Pit"
  | 3 => .object "ClawCranes$Diary"
  | 4 => .int
  | 5 => .int
  | 6 => .int
  | 7 => .int
  | 8 => .int
  | 9 => .int
  | _ => .int
theorem nmX0 : ∀ a, a < 11 → ∀ b, b < 11 → a ≠ b → (TX0 a).2.1 ≠ (TX0 b).2.1 := by decide +kernel
theorem tyX0_ok : ∀ k, k < 11 → parseFieldDescriptor (TX0 k).2.2.1 = some (tyX0 k) := by decide +kernel
theorem inX0 : ∀ w ∈ u_ws RX0 TX0 11, w ∈ lw_tbl := by decide +kernel
def RX1 : String := "ClawCranes$Diary"
def TX1 : u_T := fun k => match k with
  | 0 => ("ClawCranes$Diary", "rows", "[I", true)
  | 1 => ("ClawCranes$Diary", "size", "I", false)
  | _ => ("ClawCranes$Diary", "latest", "I", false)
def tyX1 : Nat → FieldType := fun k => match k with
  | 0 => .array .int
  | 1 => .int
  | _ => .int
theorem nmX1 : ∀ a, a < 3 → ∀ b, b < 3 → a ≠ b → (TX1 a).2.1 ≠ (TX1 b).2.1 := by decide +kernel
theorem tyX1_ok : ∀ k, k < 3 → parseFieldDescriptor (TX1 k).2.2.1 = some (tyX1 k) := by decide +kernel
theorem inX1 : ∀ w ∈ u_ws RX1 TX1 3, w ∈ lw_tbl := by decide +kernel
def RX2 : String := "ClawCranes$History"
def TX2 : u_T := fun k => match k with
  | 0 => ("ClawCranes$History", "states", "[LClawCranes$Crane;", true)
  | 1 => ("ClawCranes$History", "size", "I", false)
  | _ => ("ClawCranes$History", "spare", "I", false)
def tyX2 : Nat → FieldType := fun k => match k with
  | 0 => .array (.object "ClawCranes$Crane")
  | 1 => .int
  | _ => .int
theorem nmX2 : ∀ a, a < 3 → ∀ b, b < 3 → a ≠ b → (TX2 a).2.1 ≠ (TX2 b).2.1 := by decide +kernel
theorem tyX2_ok : ∀ k, k < 3 → parseFieldDescriptor (TX2 k).2.2.1 = some (tyX2 k) := by decide +kernel
theorem inX2 : ∀ w ∈ u_ws RX2 TX2 3, w ∈ lw_tbl := by decide +kernel
def RX3 : String := "ClawCranes$Pad"
def TX3 : u_T := fun k => match k with
  | 0 => ("ClawCranes$Pad", "signs", "[C", true)
  | 1 => ("ClawCranes$Pad", "length", "I", false)
  | 2 => ("ClawCranes$Pad", "place", "I", false)
  | 3 => ("ClawCranes$Pad", "faulty", "Z", false)
  | 4 => ("ClawCranes$Pad", "letter", "I", false)
  | 5 => ("ClawCranes$Pad", "first", "I", false)
  | 6 => ("ClawCranes$Pad", "second", "I", false)
  | _ => ("ClawCranes$Pad", "third", "I", false)
def tyX3 : Nat → FieldType := fun k => match k with
  | 0 => .array .char
  | 1 => .int
  | 2 => .int
  | 3 => .boolean
  | 4 => .int
  | 5 => .int
  | 6 => .int
  | _ => .int
theorem nmX3 : ∀ a, a < 8 → ∀ b, b < 8 → a ≠ b → (TX3 a).2.1 ≠ (TX3 b).2.1 := by decide +kernel
theorem tyX3_ok : ∀ k, k < 8 → parseFieldDescriptor (TX3 k).2.2.1 = some (tyX3 k) := by decide +kernel
theorem inX3 : ∀ w ∈ u_ws RX3 TX3 8, w ∈ lw_tbl := by decide +kernel
def RX4 : String := "ClawCranes$Pit"
def TX4 : u_T := fun k => match k with
  | 0 => ("ClawCranes$Pit", "cells", "[I", true)
  | _ => ("ClawCranes$Pit", "heights", "[I", true)
def tyX4 : Nat → FieldType := fun k => match k with
  | 0 => .array .int
  | _ => .array .int
theorem nmX4 : ∀ a, a < 2 → ∀ b, b < 2 → a ≠ b → (TX4 a).2.1 ≠ (TX4 b).2.1 := by decide +kernel
theorem tyX4_ok : ∀ k, k < 2 → parseFieldDescriptor (TX4 k).2.2.1 = some (tyX4 k) := by decide +kernel
theorem inX4 : ∀ w ∈ u_ws RX4 TX4 2, w ∈ lw_tbl := by decide +kernel
def RX5 : String := "ClawCranes$Prizes"
def TX5 : u_T := fun k => match k with
  | 0 => ("ClawCranes$Prizes", "kind", "[I", true)
  | 1 => ("ClawCranes$Prizes", "weight", "[I", true)
  | 2 => ("ClawCranes$Prizes", "value", "[I", true)
  | 3 => ("ClawCranes$Prizes", "place", "[I", true)
  | 4 => ("ClawCranes$Prizes", "grips", "[I", true)
  | 5 => ("ClawCranes$Prizes", "came", "I", false)
  | _ => ("ClawCranes$Prizes", "leftStore", "I", false)
def tyX5 : Nat → FieldType := fun k => match k with
  | 0 => .array .int
  | 1 => .array .int
  | 2 => .array .int
  | 3 => .array .int
  | 4 => .array .int
  | 5 => .int
  | _ => .int
theorem nmX5 : ∀ a, a < 7 → ∀ b, b < 7 → a ≠ b → (TX5 a).2.1 ≠ (TX5 b).2.1 := by decide +kernel
theorem tyX5_ok : ∀ k, k < 7 → parseFieldDescriptor (TX5 k).2.2.1 = some (tyX5 k) := by decide +kernel
theorem inX5 : ∀ w ∈ u_ws RX5 TX5 7, w ∈ lw_tbl := by decide +kernel
def RX6 : String := "ClawCranes"
def TX6 : u_T := fun k => match k with
  | 0 => ("ClawCranes", "crane", "LClawCranes$Crane;", true)
  | 1 => ("ClawCranes", "slots", "[LClawCranes$Crane;", true)
  | 2 => ("ClawCranes", "saved", "[Z", true)
  | 3 => ("ClawCranes", "history", "LClawCranes$History;", true)
  | _ => ("ClawCranes", "pad", "LClawCranes$Pad;", true)
def tyX6 : Nat → FieldType := fun k => match k with
  | 0 => .object "ClawCranes$Crane"
  | 1 => .array (.object "ClawCranes$Crane")
  | 2 => .array .boolean
  | 3 => .object "ClawCranes$History"
  | _ => .object "ClawCranes$Pad"
theorem nmX6 : ∀ a, a < 5 → ∀ b, b < 5 → a ≠ b → (TX6 a).2.1 ≠ (TX6 b).2.1 := by decide +kernel
theorem tyX6_ok : ∀ k, k < 5 → parseFieldDescriptor (TX6 k).2.2.1 = some (tyX6 k) := by decide +kernel
theorem inX6 : ∀ w ∈ u_ws RX6 TX6 5, w ∈ lw_tbl := by decide +kernel
abbrev vwCl : List vw_C := [(RX0, TX0, 11), (RX1, TX1, 3), (RX2, TX2, 3), (RX3, TX3, 8), (RX4, TX4, 2), (RX5, TX5, 7), (RX6, TX6, 5)]
def nmO : Nat → String | 0 => "ClawCranes$Crane" | 1 => "ClawCranes$Diary" | 2 => "ClawCranes$History" | 3 => "ClawCranes$Pad" | 4 => "ClawCranes$Pit" | 5 => "ClawCranes$Prizes" | 6 => "ClawCranes" | 7 => "ClawCranesModel" | 8 => "ClawCranesLaw" | _ => "java/lang/Integer"
abbrev Mr : Type := MethodName × ByteArray × Nat × Option FieldType × Nat
def mrL0 : List Mr := [(⟨"ClawCranes$Crane", "<init>", "()V"⟩, prog_2_method_1_code, 1, none, 0),
  (⟨"ClawCranes$Crane", "copyFrom", "(LClawCranes$Crane;)V"⟩, prog_2_method_2_code, 2, none, 0),
  (⟨"ClawCranes$Crane", "changeSetting", "(II)I"⟩, prog_2_method_3_code, 4, (some .int), 0),
  (⟨"ClawCranes$Crane", "takePrize", "(III)I"⟩, prog_2_method_4_code, 5, (some .int), 0),
  (⟨"ClawCranes$Crane", "addToColumn", "(I)I"⟩, prog_2_method_5_code, 3, (some .int), 0),
  (⟨"ClawCranes$Crane", "takeCoins", "(I)I"⟩, prog_2_method_6_code, 2, (some .int), 0),
  (⟨"ClawCranes$Crane", "playForCredit", "(II)I"⟩, prog_2_method_7_code, 4, (some .int), 0),
  (⟨"ClawCranes$Crane", "pull", "(II)I"⟩, prog_2_method_8_code, 6, (some .int), 0),
  (⟨"ClawCranes$Crane", "pay", "(Z)V"⟩, prog_2_method_9_code, 2, none, 0),
  (⟨"ClawCranes$Crane", "moveGripped", "(III)V"⟩, prog_2_method_10_code, 5, none, 0),
  (⟨"ClawCranes$Crane", "fillUp", "()V"⟩, prog_2_method_11_code, 4, none, 0),
  (⟨"ClawCranes$Crane", "outcome", "(II)I"⟩, prog_2_method_12_code, 5, (some .int), 0),
  (⟨"ClawCranes$Crane", "grip", "(I)I"⟩, prog_2_method_13_code, 3, (some .int), 0),
  (⟨"ClawCranes$Crane", "nextGripIsFull", "()Z"⟩, prog_2_method_14_code, 1, (some .boolean), 0),
  (⟨"ClawCranes$Crane", "loadOfTop", "(II)I"⟩, prog_2_method_15_code, 5, (some .int), 0),
  (⟨"ClawCranes$Crane", "playsUntilFull", "()I"⟩, prog_2_method_16_code, 4, (some .int), 0),
  (⟨"ClawCranes$Crane", "coinsToWin", "(I)I"⟩, prog_2_method_18_code, 3, (some .int), 0),
  (⟨"ClawCranes$Diary", "<init>", "()V"⟩, prog_3_method_1_code, 1, none, 1),
  (⟨"ClawCranes$Diary", "copyFrom", "(LClawCranes$Diary;)V"⟩, prog_3_method_2_code, 2, none, 1),
  (⟨"ClawCranes$Diary", "write", "(IIIZ)V"⟩, prog_3_method_3_code, 6, none, 1),
  (⟨"ClawCranes$Diary", "tell", "(II)I"⟩, prog_3_method_4_code, 4, (some .int), 1),
  (⟨"ClawCranes$History", "<init>", "()V"⟩, prog_4_method_1_code, 2, none, 2),
  (⟨"ClawCranes$History", "note", "(LClawCranes$Crane;)V"⟩, prog_4_method_2_code, 2, none, 2),
  (⟨"ClawCranes$History", "keepNoted", "()V"⟩, prog_4_method_3_code, 1, none, 2),
  (⟨"ClawCranes$History", "stepBack", "(LClawCranes$Crane;)V"⟩, prog_4_method_4_code, 2, none, 2),
  (⟨"ClawCranes$Pad", "<init>", "()V"⟩, prog_5_method_1_code, 1, none, 3),
  (⟨"ClawCranes$Pad", "begin", "()V"⟩, prog_5_method_4_code, 1, none, 3)]
def mpL0 : List Nat := [80, 310, 465, 477, 489, 510, 518, 523, 549, 558, 566, 527, 531, 535, 409, 448, 587, 140, 324, 553, 383, 208, 341, 349, 306, 228, 604]
theorem mcL0 : mpL0.map (fun i => lw_tbl[i]?) = mrL0.map (fun M => some (Cond.code M.1 M.2.1 M.2.2.1 M.2.2.2.1)) := by decide +kernel
def mrL1 : List Mr := [(⟨"ClawCranes$Pad", "firstFault", "()I"⟩, prog_5_method_5_code, 2, (some .int), 3),
  (⟨"ClawCranes$Pad", "nextOrder", "()Z"⟩, prog_5_method_6_code, 1, (some .boolean), 3),
  (⟨"ClawCranes$Pad", "readCoins", "()V"⟩, prog_5_method_7_code, 1, none, 3),
  (⟨"ClawCranes$Pad", "readPlay", "()V"⟩, prog_5_method_8_code, 1, none, 3),
  (⟨"ClawCranes$Pad", "readPrize", "()V"⟩, prog_5_method_9_code, 1, none, 3),
  (⟨"ClawCranes$Pad", "readAdding", "()V"⟩, prog_5_method_10_code, 1, none, 3),
  (⟨"ClawCranes$Pad", "kind", "()I"⟩, prog_5_method_11_code, 1, (some .int), 3),
  (⟨"ClawCranes$Pad", "number", "()I"⟩, prog_5_method_12_code, 2, (some .int), 3),
  (⟨"ClawCranes$Pad", "digit", "()I"⟩, prog_5_method_13_code, 2, (some .int), 3),
  (⟨"ClawCranes$Pad", "isDigit", "(I)Z"⟩, prog_5_method_14_code, 1, (some .boolean), 3),
  (⟨"ClawCranes$Pad", "expect", "(I)V"⟩, prog_5_method_15_code, 2, none, 3),
  (⟨"ClawCranes$Pad", "here", "()I"⟩, prog_5_method_16_code, 1, (some .int), 3),
  (⟨"ClawCranes$Pit", "<init>", "()V"⟩, prog_6_method_1_code, 1, none, 4),
  (⟨"ClawCranes$Pit", "copyFrom", "(LClawCranes$Pit;)V"⟩, prog_6_method_2_code, 2, none, 4),
  (⟨"ClawCranes$Pit", "prizeAt", "(II)I"⟩, prog_6_method_3_code, 3, (some .int), 4),
  (⟨"ClawCranes$Pit", "top", "(I)I"⟩, prog_6_method_4_code, 3, (some .int), 4),
  (⟨"ClawCranes$Pit", "spotOf", "(I)I"⟩, prog_6_method_5_code, 4, (some .int), 4),
  (⟨"ClawCranes$Pit", "lay", "(II)V"⟩, prog_6_method_6_code, 3, none, 4),
  (⟨"ClawCranes$Pit", "lift", "(I)V"⟩, prog_6_method_7_code, 2, none, 4),
  (⟨"ClawCranes$Pit", "prizesInAll", "()I"⟩, prog_6_method_8_code, 3, (some .int), 4),
  (⟨"ClawCranes$Pit", "lowestColumn", "()I"⟩, prog_6_method_9_code, 3, (some .int), 4),
  (⟨"ClawCranes$Pit", "emptyColumns", "()I"⟩, prog_6_method_10_code, 3, (some .int), 4),
  (⟨"ClawCranes$Pit", "rollTarget", "(I)I"⟩, prog_6_method_11_code, 4, (some .int), 4),
  (⟨"ClawCranes$Pit", "heightOrWall", "(I)I"⟩, prog_6_method_12_code, 2, (some .int), 4),
  (⟨"ClawCranes$Prizes", "<init>", "()V"⟩, prog_7_method_1_code, 1, none, 5),
  (⟨"ClawCranes$Prizes", "copyFrom", "(LClawCranes$Prizes;)V"⟩, prog_7_method_2_code, 2, none, 5),
  (⟨"ClawCranes$Prizes", "come", "(III)I"⟩, prog_7_method_3_code, 5, (some .int), 5)]
def mpL1 : List Nat := [600, 608, 620, 635, 639, 647, 643, 624, 628, 631, 612, 616, 126, 319, 375, 405, 371, 502, 562, 570, 574, 298, 540, 544, 86, 314, 481]
theorem mcL1 : mpL1.map (fun i => lw_tbl[i]?) = mrL1.map (fun M => some (Cond.code M.1 M.2.1 M.2.2.1 M.2.2.2.1)) := by decide +kernel
def mrL2 : List Mr := [(⟨"ClawCranes$Prizes", "storeIsEmpty", "()Z"⟩, prog_7_method_4_code, 1, (some .boolean), 5),
  (⟨"ClawCranes$Prizes", "leaveStore", "()I"⟩, prog_7_method_5_code, 2, (some .int), 5),
  (⟨"ClawCranes$Prizes", "setIn", "(I)I"⟩, prog_7_method_6_code, 4, (some .int), 5),
  (⟨"ClawCranes$Prizes", "valueWon", "()I"⟩, prog_7_method_7_code, 3, (some .int), 5),
  (⟨"ClawCranes$Prizes", "inPitUpTo", "(I)I"⟩, prog_7_method_8_code, 4, (some .int), 5),
  (⟨"ClawCranes$Prizes", "inPitByValue", "(I)I"⟩, prog_7_method_9_code, 3, (some .int), 5),
  (⟨"ClawCranes$Prizes", "rankInPit", "(I)I"⟩, prog_7_method_10_code, 4, (some .int), 5),
  (⟨"ClawCranes$Prizes", "isBefore", "(II)Z"⟩, prog_7_method_11_code, 3, (some .boolean), 5),
  (⟨"ClawCranes", "<init>", "()V"⟩, prog_1_method_1_code, 2, none, 6),
  (⟨"ClawCranes", "set", "(II)I"⟩, prog_1_method_2_code, 3, (some .int), 6),
  (⟨"ClawCranes", "prize", "(III)I"⟩, prog_1_method_3_code, 4, (some .int), 6),
  (⟨"ClawCranes", "add", "(I)I"⟩, prog_1_method_4_code, 2, (some .int), 6),
  (⟨"ClawCranes", "coins", "(I)I"⟩, prog_1_method_5_code, 2, (some .int), 6),
  (⟨"ClawCranes", "play", "(II)I"⟩, prog_1_method_6_code, 3, (some .int), 6),
  (⟨"ClawCranes", "recorded", "(I)I"⟩, prog_1_method_7_code, 2, (some .int), 6),
  (⟨"ClawCranes", "of", "(II)I"⟩, prog_1_method_8_code, 3, (some .int), 6),
  (⟨"ClawCranes", "at", "(II)I"⟩, prog_1_method_9_code, 3, (some .int), 6),
  (⟨"ClawCranes", "book", "(II)I"⟩, prog_1_method_10_code, 3, (some .int), 6),
  (⟨"ClawCranes", "byValue", "(I)I"⟩, prog_1_method_11_code, 2, (some .int), 6),
  (⟨"ClawCranes", "lighter", "(I)I"⟩, prog_1_method_12_code, 2, (some .int), 6),
  (⟨"ClawCranes", "count", "(I)I"⟩, prog_1_method_13_code, 2, (some .int), 6),
  (⟨"ClawCranes", "ifPlayed", "(II)I"⟩, prog_1_method_14_code, 4, (some .int), 6),
  (⟨"ClawCranes", "load", "(II)I"⟩, prog_1_method_15_code, 4, (some .int), 6),
  (⟨"ClawCranes", "untilFull", "()I"⟩, prog_1_method_16_code, 1, (some .int), 6),
  (⟨"ClawCranes", "costs", "(I)I"⟩, prog_1_method_18_code, 2, (some .int), 6),
  (⟨"ClawCranes", "wipe", "()I"⟩, prog_1_method_20_code, 2, (some .int), 6),
  (⟨"ClawCranes", "fault", "()I"⟩, prog_1_method_21_code, 1, (some .int), 6)]
def mpL2 : List Nat := [494, 498, 284, 294, 418, 426, 430, 434, 72, 461, 473, 485, 506, 514, 345, 367, 390, 379, 422, 414, 280, 578, 398, 444, 583, 592, 657]
theorem mcL2 : mpL2.map (fun i => lw_tbl[i]?) = mrL2.map (fun M => some (Cond.code M.1 M.2.1 M.2.2.1 M.2.2.2.1)) := by decide +kernel
def mrL3 : List Mr := [(⟨"ClawCranes", "carryOut", "()I"⟩, prog_1_method_22_code, 2, (some .int), 6),
  (⟨"ClawCranes", "carriedOrder", "()I"⟩, prog_1_method_23_code, 1, (some .int), 6),
  (⟨"ClawCranes", "undo", "()I"⟩, prog_1_method_24_code, 1, (some .int), 6),
  (⟨"ClawCranes", "save", "(I)I"⟩, prog_1_method_25_code, 2, (some .int), 6),
  (⟨"ClawCranes", "restore", "(I)I"⟩, prog_1_method_26_code, 2, (some .int), 6),
  (⟨"ClawCranes", "isSlot", "(I)Z"⟩, prog_1_method_27_code, 1, (some .boolean), 6),
  (⟨"ClawCranes", "isColumn", "(I)Z"⟩, prog_1_method_28_code, 1, (some .boolean), 6),
  (⟨"ClawCranes", "errorOfAim", "(II)I"⟩, prog_1_method_29_code, 2, (some .int), 6),
  (⟨"java/lang/Integer", "bitCount", "(I)I"⟩, prog_10_method_49_code, 1, (some .int), 9)]
def mpL3 : List Nat := [596, 653, 302, 329, 337, 332, 393, 401, 287]
theorem mcL3 : mpL3.map (fun i => lw_tbl[i]?) = mrL3.map (fun M => some (Cond.code M.1 M.2.1 M.2.2.1 M.2.2.2.1)) := by decide +kernel
def mrL4 : List Mr := [(⟨"ClawCranesLaw", "cell", "([II)I"⟩, method_2_code, 2, (some .int), 8)]
def mpL4 : List Nat := [355]
theorem mcL4 : mpL4.map (fun i => lw_tbl[i]?) = mrL4.map (fun M => some (Cond.code M.1 M.2.1 M.2.2.1 M.2.2.2.1)) := by decide +kernel
def mrL5 : List Mr := [(⟨"ClawCranesLaw", "seen", "(LClawCranes;)J"⟩, method_3_code, 4, (some .long), 8)]
def mpL5 : List Nat := [361]
theorem mcL5 : mpL5.map (fun i => lw_tbl[i]?) = mrL5.map (fun M => some (Cond.code M.1 M.2.1 M.2.2.1 M.2.2.2.1)) := by decide +kernel
def mrL6 : List Mr := [(⟨"ClawCranesLaw", "arePrizes", "(LClawCranes;)Z"⟩, method_4_code, 13, (some .boolean), 8)]
def mpL6 : List Nat := [386]
set_option maxRecDepth 100000 in
theorem mcH6 : tables_1_2[89]? = some (Cond.code ⟨"ClawCranesLaw", "arePrizes", "(LClawCranes;)Z"⟩ method_4_code 13 (some .boolean)) := rfl
theorem mcL6 : mpL6.map (fun i => lw_tbl[i]?) = mrL6.map (fun M => some (Cond.code M.1 M.2.1 M.2.2.1 M.2.2.2.1)) := by
  have l0 : (k2_sels lw_privs).length = 57 := by decide +kernel
  have l1 : tables_1_1.length = 240 := by decide +kernel
  have l2 : tables_1_2.length = 240 := by decide +kernel
  have e : lw_tbl[386]? = some (Cond.code ⟨"ClawCranesLaw", "arePrizes", "(LClawCranes;)Z"⟩ method_4_code 13 (some .boolean)) := by
    rw [show lw_tbl = k2_sels lw_privs ++ (tables_1_1 ++ (tables_1_2 ++ tables_1_3)) from rfl, List.getElem?_append_right (by rw [l0]; decide), l0, List.getElem?_append_right (by rw [l1]; decide), l1, List.getElem?_append_left (by rw [l2]; decide)]
    exact mcH6
  unfold mpL6 mrL6
  simp only [List.map_cons, List.map_nil, e]
def mrL7 : List Mr := [(⟨"ClawCranesLaw", "isFirst", "(LClawCranes;II)Z"⟩, method_5_code, 9, (some .boolean), 8)]
def mpL7 : List Nat := [437]
theorem mcL7 : mpL7.map (fun i => lw_tbl[i]?) = mrL7.map (fun M => some (Cond.code M.1 M.2.1 M.2.2.1 M.2.2.2.1)) := by decide +kernel
def mrL8 : List Mr := [(⟨"ClawCranesLaw", "areCoins", "(LClawCranes;)Z"⟩, method_6_code, 3, (some .boolean), 8)]
def mpL8 : List Nat := [440]
theorem mcL8 : mpL8.map (fun i => lw_tbl[i]?) = mrL8.map (fun M => some (Cond.code M.1 M.2.1 M.2.2.1 M.2.2.2.1)) := by decide +kernel
def mrL9 : List Mr := [(⟨"ClawCranesLaw", "refusesAny", "(LClawCranes;I)Z"⟩, method_7_code, 6, (some .boolean), 8)]
def mpL9 : List Nat := [457]
set_option maxRecDepth 100000 in
theorem mcH9 : tables_1_2[160]? = some (Cond.code ⟨"ClawCranesLaw", "refusesAny", "(LClawCranes;I)Z"⟩ method_7_code 6 (some .boolean)) := rfl
theorem mcL9 : mpL9.map (fun i => lw_tbl[i]?) = mrL9.map (fun M => some (Cond.code M.1 M.2.1 M.2.2.1 M.2.2.2.1)) := by
  have l0 : (k2_sels lw_privs).length = 57 := by decide +kernel
  have l1 : tables_1_1.length = 240 := by decide +kernel
  have l2 : tables_1_2.length = 240 := by decide +kernel
  have e : lw_tbl[457]? = some (Cond.code ⟨"ClawCranesLaw", "refusesAny", "(LClawCranes;I)Z"⟩ method_7_code 6 (some .boolean)) := by
    rw [show lw_tbl = k2_sels lw_privs ++ (tables_1_1 ++ (tables_1_2 ++ tables_1_3)) from rfl, List.getElem?_append_right (by rw [l0]; decide), l0, List.getElem?_append_right (by rw [l1]; decide), l1, List.getElem?_append_left (by rw [l2]; decide)]
    exact mcH9
  unfold mpL9 mrL9
  simp only [List.map_cons, List.map_nil, e]
def mrL10 : List Mr := [(⟨"ClawCranesLaw", "refuses", "(LClawCranes;I)Z"⟩, method_8_code, 5, (some .boolean), 8)]
def mpL10 : List Nat := [454]
theorem mcL10 : mpL10.map (fun i => lw_tbl[i]?) = mrL10.map (fun M => some (Cond.code M.1 M.2.1 M.2.2.1 M.2.2.2.1)) := by decide +kernel
def mrL11 : List Mr := [(⟨"ClawCranesLaw", "play", "(LClawCranes;II)I"⟩, method_9_code, 15, (some .int), 8)]
def mpL11 : List Nat := [663]
theorem mcL11 : mpL11.map (fun i => lw_tbl[i]?) = mrL11.map (fun M => some (Cond.code M.1 M.2.1 M.2.2.1 M.2.2.2.1)) := by decide +kernel
def mrL12 : List Mr := [(⟨"ClawCranesLaw", "act", "(LClawCranes;I)I"⟩, method_10_code, 9, (some .int), 8)]
def mpL12 : List Nat := [660]
set_option maxRecDepth 100000 in
theorem mcH12 : tables_1_3[123]? = some (Cond.code ⟨"ClawCranesLaw", "act", "(LClawCranes;I)I"⟩ method_10_code 9 (some .int)) := rfl
theorem mcL12 : mpL12.map (fun i => lw_tbl[i]?) = mrL12.map (fun M => some (Cond.code M.1 M.2.1 M.2.2.1 M.2.2.2.1)) := by
  have l0 : (k2_sels lw_privs).length = 57 := by decide +kernel
  have l1 : tables_1_1.length = 240 := by decide +kernel
  have l2 : tables_1_2.length = 240 := by decide +kernel
  have l3 : tables_1_3.length = 127 := by decide +kernel
  have e : lw_tbl[660]? = some (Cond.code ⟨"ClawCranesLaw", "act", "(LClawCranes;I)I"⟩ method_10_code 9 (some .int)) := by
    rw [show lw_tbl = k2_sels lw_privs ++ (tables_1_1 ++ (tables_1_2 ++ tables_1_3)) from rfl, List.getElem?_append_right (by rw [l0]; decide), l0, List.getElem?_append_right (by rw [l1]; decide), l1, List.getElem?_append_right (by rw [l2]; decide), l2]
    exact mcH12
  unfold mpL12 mrL12
  simp only [List.map_cons, List.map_nil, e]
def mrL : List Mr := mrL0 ++ (mrL1 ++ (mrL2 ++ (mrL3 ++ (mrL4 ++ (mrL5 ++ (mrL6 ++ (mrL7 ++ (mrL8 ++ (mrL9 ++ (mrL10 ++ (mrL11 ++ (mrL12))))))))))))
def mpL : List Nat := mpL0 ++ (mpL1 ++ (mpL2 ++ (mpL3 ++ (mpL4 ++ (mpL5 ++ (mpL6 ++ (mpL7 ++ (mpL8 ++ (mpL9 ++ (mpL10 ++ (mpL11 ++ (mpL12))))))))))))
def mr (k : Nat) : Mr := (mrL[k]?).getD (⟨"", "", ""⟩, ⟨#[]⟩, 0, none, 0)
def fTbl : List ((Nat × Nat) × (Nat × Nat × Bool)) := [((0, 9), (0, 0, false)), ((0, 18), (0, 1, false)), ((0, 25), (0, 2, false)), ((0, 32), (0, 3, false)), ((0, 55), (0, 4, false)), ((0, 59), (0, 5, false)), ((0, 62), (0, 6, false)), ((0, 65), (0, 7, false)), ((0, 68), (0, 8, false)), ((0, 71), (0, 9, false)), ((0, 74), (0, 10, false)), ((0, 83), (5, 5, true)), ((0, 98), (4, 1, true)), ((0, 134), (5, 4, true)), ((0, 148), (5, 3, true)), ((0, 166), (5, 0, true)), ((0, 169), (5, 1, true)), ((1, 9), (1, 0, false)), ((1, 21), (1, 1, false)), ((1, 25), (1, 2, false)), ((2, 11), (2, 0, false)), ((2, 18), (2, 2, false)), ((2, 26), (2, 1, false)), ((3, 9), (3, 0, false)), ((3, 21), (3, 1, false)), ((3, 25), (3, 2, false)), ((3, 28), (3, 3, false)), ((3, 47), (3, 4, false)), ((3, 65), (3, 5, false)), ((3, 71), (3, 6, false)), ((3, 77), (3, 7, false)), ((4, 9), (4, 0, false)), ((4, 15), (4, 1, false)), ((5, 9), (5, 0, false)), ((5, 15), (5, 1, false)), ((5, 18), (5, 2, false)), ((5, 21), (5, 3, false)), ((5, 24), (5, 4, false)), ((5, 33), (5, 5, false)), ((5, 37), (5, 6, false)), ((6, 10), (6, 0, false)), ((6, 16), (6, 1, false)), ((6, 20), (6, 2, false)), ((6, 27), (6, 3, false)), ((6, 34), (6, 4, false)), ((6, 66), (0, 1, true)), ((6, 70), (5, 5, true)), ((6, 76), (5, 0, true)), ((6, 80), (5, 1, true)), ((6, 83), (5, 2, true)), ((6, 86), (5, 3, true)), ((6, 89), (0, 2, true)), ((6, 98), (5, 4, true)), ((6, 108), (0, 3, true)), ((6, 112), (1, 1, true)), ((6, 126), (0, 0, true)), ((6, 129), (0, 4, true)), ((6, 132), (0, 5, true)), ((6, 135), (0, 6, true)), ((6, 138), (0, 7, true)), ((6, 141), (0, 8, true)), ((6, 152), (0, 9, true)), ((6, 162), (0, 10, true)), ((6, 165), (3, 1, true)), ((6, 168), (2, 1, true)), ((6, 211), (3, 4, true)), ((6, 214), (3, 5, true)), ((6, 217), (3, 6, true)), ((6, 220), (3, 7, true))]
def mTbP0 : List (((Nat × Nat) × (Nat × Nat × Nat)) × List Nat) := [(((0, 3), (0, 9, 1)), [81, 74, 75]), (((0, 17), (51, 3, 1)), [84, 85, 60]), (((0, 24), (39, 3, 1)), [124, 125, 61]), (((0, 31), (17, 3, 1)), [138, 139, 62]), (((0, 39), (0, 10, 5)), [155, 157, 156, 63]), (((0, 45), (52, 5, 2)), [311, 313, 5, 60]), (((0, 49), (40, 5, 2)), [316, 318, 6, 61]), (((0, 52), (18, 5, 2)), [321, 323, 7, 62]), (((0, 86), (53, 5, 4)), [478, 480, 23, 60]), (((0, 90), (87, 1, 1)), [490, 392, 58]), (((0, 94), (54, 5, 1)), [491, 493, 25, 60]), (((0, 101), (55, 5, 1)), [495, 497, 26, 60]), (((0, 105), (44, 5, 3)), [499, 501, 27, 61]), (((0, 109), (88, 1, 2)), [519, 400, 58]), (((0, 113), (7, 4, 3)), [520, 522, 30, 59]), (((0, 116), (11, 4, 3)), [524, 526, 31, 59]), (((0, 119), (42, 5, 2)), [410, 404, 14, 61]), (((0, 123), (13, 4, 1)), [532, 534, 33, 59]), (((0, 126), (8, 4, 2)), [546, 548, 36, 59]), (((0, 130), (19, 5, 5)), [550, 552, 37, 62]), (((0, 137), (9, 4, 4)), [555, 557, 38, 59]), (((0, 141), (10, 4, 1)), [563, 565, 40, 59]), (((0, 144), (45, 5, 2)), [559, 561, 39, 61]), (((0, 151), (49, 5, 2)), [537, 539, 34, 61]), (((0, 154), (46, 5, 1)), [567, 569, 41, 61]), (((0, 157), (47, 5, 1)), [571, 573, 42, 61]), (((0, 160), (12, 4, 2)), [528, 530, 32, 59]), (((0, 163), (14, 4, 3)), [536, 408, 15, 59]), (((0, 172), (0, 11, 2)), [449, 450, 66, 451]), (((0, 180), (15, 4, 1)), [588, 447, 20, 59])]
def mTbP1 : List (((Nat × Nat) × (Nat × Nat × Nat)) × List Nat) := [(((1, 3), (0, 9, 1)), [141, 74, 75]), (((1, 15), (0, 10, 5)), [325, 157, 156, 63]), (((1, 28), (0, 12, 2)), [554, 351, 66, 352]), (((2, 3), (0, 9, 1)), [209, 74, 75]), (((2, 17), (0, 3, 1)), [211, 79, 59]), (((2, 22), (1, 5, 2)), [307, 309, 4, 59]), (((2, 29), (0, 12, 2)), [350, 351, 66, 352]), (((3, 3), (0, 9, 1)), [229, 74, 75]), (((3, 32), (26, 4, 1)), [601, 603, 45, 65]), (((3, 35), (28, 4, 1)), [605, 607, 46, 65]), (((3, 39), (37, 4, 2)), [609, 611, 47, 65]), (((3, 43), (38, 4, 1)), [613, 615, 48, 65]), (((3, 50), (29, 4, 1)), [617, 619, 49, 65]), (((3, 53), (30, 4, 1)), [632, 634, 52, 65]), (((3, 56), (31, 4, 1)), [636, 638, 53, 65]), (((3, 59), (32, 4, 1)), [644, 646, 55, 65]), (((3, 62), (34, 4, 1)), [621, 623, 50, 65]), (((3, 68), (35, 4, 1)), [625, 627, 51, 65]), (((3, 74), (33, 4, 1)), [640, 642, 54, 65]), (((3, 80), (36, 0, 1)), [629, 630, 65]), (((4, 3), (0, 9, 1)), [127, 74, 75]), (((4, 18), (0, 10, 5)), [320, 157, 156, 63]), (((4, 24), (41, 4, 3)), [372, 374, 12, 61]), (((4, 28), (50, 4, 2)), [541, 543, 35, 61]), (((4, 32), (0, 12, 2)), [545, 351, 66, 352]), (((5, 3), (0, 9, 1)), [87, 74, 75]), (((5, 27), (0, 10, 5)), [315, 157, 156, 63]), (((5, 40), (60, 4, 2)), [427, 429, 18, 60]), (((5, 44), (61, 4, 3)), [431, 433, 19, 60]), (((6, 1), (0, 9, 1)), [73, 74, 75])]
def mTbP2 : List (((Nat × Nat) × (Nat × Nat × Nat)) × List Nat) := [(((6, 9), (0, 3, 1)), [78, 79, 59]), (((6, 26), (21, 3, 1)), [206, 207, 64]), (((6, 33), (25, 3, 1)), [226, 227, 65]), (((6, 38), (22, 5, 2)), [338, 340, 8, 64]), (((6, 42), (2, 5, 3)), [462, 464, 21, 59]), (((6, 46), (68, 4, 2)), [342, 344, 9, 58]), (((6, 50), (3, 5, 4)), [474, 476, 22, 59]), (((6, 54), (4, 5, 2)), [486, 488, 24, 59]), (((6, 57), (5, 5, 2)), [507, 509, 28, 59]), (((6, 60), (6, 5, 3)), [515, 517, 29, 59]), (((6, 63), (23, 5, 1)), [346, 348, 10, 64]), (((6, 93), (43, 5, 2)), [368, 370, 11, 61]), (((6, 101), (87, 0, 1)), [391, 392, 58]), (((6, 105), (41, 5, 3)), [394, 374, 12, 61]), (((6, 117), (20, 5, 3)), [380, 382, 13, 62]), (((6, 120), (59, 5, 2)), [423, 425, 17, 60]), (((6, 123), (58, 5, 2)), [415, 417, 16, 60]), (((6, 144), (56, 5, 2)), [281, 283, 0, 60]), (((6, 147), (89, 0, 1)), [285, 286, 67]), (((6, 155), (57, 5, 1)), [291, 293, 1, 60]), (((6, 159), (48, 5, 1)), [295, 297, 2, 61]), (((6, 169), (88, 0, 2)), [399, 400, 58]), (((6, 172), (11, 5, 3)), [579, 526, 31, 59]), (((6, 175), (42, 5, 2)), [402, 404, 14, 61]), (((6, 178), (14, 5, 3)), [406, 408, 15, 59]), (((6, 181), (15, 5, 1)), [445, 447, 20, 59]), (((6, 187), (16, 5, 2)), [584, 586, 43, 59]), (((6, 198), (27, 5, 1)), [597, 599, 44, 65]), (((6, 201), (26, 5, 1)), [648, 603, 45, 65]), (((6, 204), (28, 5, 1)), [649, 607, 46, 65])]
def mTbP3 : List (((Nat × Nat) × (Nat × Nat × Nat)) × List Nat) := [(((6, 208), (82, 4, 1)), [650, 652, 56, 58]), (((6, 223), (24, 5, 2)), [303, 305, 3, 64]), (((6, 226), (86, 0, 1)), [330, 331, 58]), (((6, 229), (1, 5, 2)), [333, 309, 4, 59]), (((8, 14), (74, 4, 2)), [277, 278, 279, 58]), (((8, 20), (69, 4, 3)), [364, 365, 366, 58]), (((8, 24), (71, 4, 3)), [376, 377, 378, 58]), (((8, 29), (70, 4, 3)), [387, 388, 389, 58]), (((8, 32), (76, 4, 3)), [395, 396, 397, 58]), (((8, 35), (73, 4, 2)), [411, 412, 413, 58]), (((8, 38), (72, 4, 2)), [419, 420, 421, 58]), (((8, 41), (93, 0, 3)), [435, 436, 57]), (((8, 45), (77, 4, 1)), [441, 442, 443, 58]), (((8, 49), (63, 4, 3)), [458, 459, 460, 58]), (((8, 52), (64, 4, 4)), [470, 471, 472, 58]), (((8, 56), (65, 4, 2)), [482, 483, 484, 58]), (((8, 59), (66, 4, 2)), [503, 504, 505, 58]), (((8, 62), (67, 4, 3)), [511, 512, 513, 58]), (((8, 65), (75, 4, 3)), [575, 576, 577, 58]), (((8, 68), (78, 4, 2)), [580, 581, 582, 58]), (((8, 71), (84, 4, 2)), [326, 327, 328, 58]), (((8, 74), (85, 4, 2)), [334, 335, 336, 58]), (((8, 77), (79, 4, 1)), [589, 590, 591, 58]), (((8, 80), (81, 4, 1)), [593, 594, 595, 58]), (((8, 83), (80, 4, 1)), [654, 655, 656, 58]), (((8, 86), (91, 0, 1)), [359, 360, 57]), (((8, 90), (95, 0, 2)), [455, 456, 57]), (((8, 94), (97, 0, 3)), [661, 662, 57]), (((8, 97), (62, 2, 1)), [70, 71, 58]), (((8, 98), (83, 4, 1)), [299, 300, 301, 58])]
def mTbP4 : List (((Nat × Nat) × (Nat × Nat × Nat)) × List Nat) := [(((8, 101), (96, 0, 2)), [452, 453, 57]), (((8, 104), (90, 0, 2)), [353, 354, 57]), (((8, 108), (98, 0, 2)), [658, 659, 57]), (((8, 112), (94, 0, 1)), [438, 439, 57]), (((8, 116), (92, 0, 1)), [384, 385, 57])]
def mTbP : List (((Nat × Nat) × (Nat × Nat × Nat)) × List Nat) := mTbP0 ++ (mTbP1 ++ (mTbP2 ++ (mTbP3 ++ (mTbP4))))
def mTbl : List ((Nat × Nat) × (Nat × Nat × Nat)) := mTbP.map (·.1)
def sTbl : List ((Nat × Nat) × (Nat × Bool)) := [((0, 36), (1, true)), ((0, 77), (2, true)), ((0, 80), (3, true))]
def cTbl : List ((Nat × Nat) × Nat) := [((0, 15), 5), ((0, 22), 4), ((0, 29), 1), ((2, 9), 0), ((6, 7), 0), ((6, 24), 2), ((6, 31), 3), ((8, 15), 6)]
def iTbl : List ((Nat × Nat) × Int32) := [((8, 7), 1322822219), ((8, 8), 65003), ((8, 9), 2147483647), ((9, 265), 1431655765), ((9, 266), 858993459), ((9, 267), 252645135)]
def jTbl : List ((Nat × Nat) × Int64) := [((8, 10), 173), ((8, 12), 31)]
def rF (o i : Nat) : Option (Nat × Nat × Bool) := fTbl.lookup (o, i)
def rM (o i : Nat) : Option (Nat × Nat × Nat) := mTbl.lookup (o, i)
def rS (o i : Nat) : Option (Nat × Bool) := sTbl.lookup (o, i)
def rC (o i : Nat) : Option (Nat) := cTbl.lookup (o, i)
def rI (o i : Nat) : Option (Int32) := iTbl.lookup (o, i)
def rJ (o i : Nat) : Option (Int64) := jTbl.lookup (o, i)
-- checks of the tables: each resolved place has its words among lw_tbl
def fWd (e : (Nat × Nat) × (Nat × Nat × Bool)) : Cond := match vwCl[e.2.1]? with
  | some q => if e.2.2.2 then .fieldLinkNest (nmO e.1.1) e.1.2 (q.2.1 e.2.2.1).1 (q.2.1 e.2.2.1).2.1 (q.2.1 e.2.2.1).2.2.1 "ClawCranes" else .fieldLink (nmO e.1.1) e.1.2 (q.2.1 e.2.2.1).1 (q.2.1 e.2.2.1).2.1 (q.2.1 e.2.2.1).2.2.1
  | none => .fieldLink "" 0 "" "" ""
theorem fTbl_ok : ∀ e ∈ fTbl, fWd e ∈ lw_tbl := by decide +kernel
def sNm : Nat → String
  | 1 => "FIRST_SETTING"
  | 2 => "LEAST_SETTING"
  | _ => "MOST_SETTING"
def sWd (e : (Nat × Nat) × (Nat × Bool)) : Cond := if e.2.2 then .fieldLinkNest (nmO e.1.1) e.1.2 "ClawCranes" (sNm e.2.1) "[I" "ClawCranes" else .fieldLink (nmO e.1.1) e.1.2 "ClawCranes" (sNm e.2.1) "[I"
theorem sTbl_ok : ∀ e ∈ sTbl, sWd e ∈ lw_tbl ∧ 1 ≤ e.2.1 ∧ e.2.1 < 4 := by decide +kernel
def cWs (e : (Nat × Nat) × Nat) : List Cond := match vwCl[e.2]? with
  | some q => [.classLink (nmO e.1.1) e.1.2 q.1, .instantiable q.1 q.2.2, .initialized q.1]
  | none => [.classLink "" 0 ""]
theorem cTbl_ok : ∀ e ∈ cTbl, ∀ w ∈ cWs e, w ∈ lw_tbl := by decide +kernel
theorem iTbl_ok : ∀ e ∈ iTbl, Cond.constant (nmO e.1.1) e.1.2 e.2 ∈ lw_tbl := by decide +kernel
theorem jTbl_ok : ∀ e ∈ jTbl, Cond.constantLong (nmO e.1.1) e.1.2 e.2 ∈ lw_tbl := by decide +kernel
/-- the words that a call of the method y takes, by the kind of the call -/
def kWs (own : String) (i : Nat) (y : MethodName) : Nat → List Cond
  | 0 => [.methodLink own i y, .static y, .initialized y.cls]
  | 1 => [.methodLinkNest own i y "ClawCranes", .static y, .initialized y.cls]
  | 2 => [.methodLink own i y, .instanceMethod y, .initialized y.cls]
  | 3 => [.methodLinkNest own i y "ClawCranes", .instanceMethod y, .initialized y.cls]
  | 4 => [.methodLink own i y, .instanceMethod y, .selects y.cls y y, .initialized y.cls]
  | 5 => [.methodLinkNest own i y "ClawCranes", .instanceMethod y, .selects y.cls y y, .initialized y.cls]
  | 9 => [.methodLink own i objectInit, .instanceMethod objectInit, .code objectInit ⟨#[0xb1]⟩ 1 none]
  | 10 => [.methodLink own i arraycopyName, .native arraycopyName, .static arraycopyName, .initialized "java/lang/System"]
  | 11 => [.methodLink own i Lib.Math.max.name, .static Lib.Math.max.name, .initialized "java/lang/Math", .code Lib.Math.max.name Lib.Math.max.code 2 (some .int)]
  | 12 => [.methodLink own i Lib.Math.min.name, .static Lib.Math.min.name, .initialized "java/lang/Math", .code Lib.Math.min.name Lib.Math.min.code 2 (some .int)]
  | _ => [.classLink "" 0 ""]
def mEx (e : (Nat × Nat) × (Nat × Nat × Nat)) : Bool := e.2.2.1 ≥ 9 || (decide (e.2.1 < mrL.length) && decide (plainName (mr e.2.1).1.cls = true) && decide ((mr e.2.1).1.cls ≠ "java/lang/invoke/MethodHandle" ∧ (mr e.2.1).1.cls ≠ "java/lang/invoke/VarHandle") && decide ((parseMethodDescriptor (mr e.2.1).1.desc).map (fun d => d.parameters.length + (if e.2.2.1 < 2 then 0 else 1)) = some e.2.2.2) && decide ((mr e.2.1).2.2.1 ≤ 18) && decide ((mr e.2.1).1.cls = nmO (mr e.2.1).2.2.2.2) && (decide (e.2.2.1 < 2 ∨ 3 < e.2.2.1) || decide ((mr e.2.1).1.name = "<init>" ∧ (mr e.2.1).2.2.2.1 = none)))
theorem mTbl_ex : ∀ e ∈ mTbl, mEx e = true := by decide +kernel
theorem mTok0 : ∀ q ∈ mTbP0, kWs (nmO q.1.1.1) q.1.1.2 (mr q.1.2.1).1 q.1.2.2.1 = q.2.filterMap (fun i => lw_tbl[i]?) := by decide +kernel
theorem mTok1 : ∀ q ∈ mTbP1, kWs (nmO q.1.1.1) q.1.1.2 (mr q.1.2.1).1 q.1.2.2.1 = q.2.filterMap (fun i => lw_tbl[i]?) := by decide +kernel
theorem mTok2 : ∀ q ∈ mTbP2, kWs (nmO q.1.1.1) q.1.1.2 (mr q.1.2.1).1 q.1.2.2.1 = q.2.filterMap (fun i => lw_tbl[i]?) := by decide +kernel
theorem mTok3 : ∀ q ∈ mTbP3, kWs (nmO q.1.1.1) q.1.1.2 (mr q.1.2.1).1 q.1.2.2.1 = q.2.filterMap (fun i => lw_tbl[i]?) := by decide +kernel
theorem mTok4 : ∀ q ∈ mTbP4, kWs (nmO q.1.1.1) q.1.1.2 (mr q.1.2.1).1 q.1.2.2.1 = q.2.filterMap (fun i => lw_tbl[i]?) := by decide +kernel
theorem mTbl_ok : ∀ e ∈ mTbl, ∀ w ∈ kWs (nmO e.1.1) e.1.2 (mr e.2.1).1 e.2.2.1, w ∈ lw_tbl := by
  intro e he w hw
  obtain ⟨q, hq, rfl⟩ := List.mem_map.mp he
  have key : kWs (nmO q.1.1.1) q.1.1.2 (mr q.1.2.1).1 q.1.2.2.1 = q.2.filterMap (fun i => lw_tbl[i]?) := by
    simp only [mTbP, List.mem_append] at hq
    rcases hq with h | h | h | h | h
    · exact mTok0 q h
    · exact mTok1 q h
    · exact mTok2 q h
    · exact mTok3 q h
    · exact mTok4 q h
  rw [key] at hw
  obtain ⟨i, -, hi⟩ := List.mem_filterMap.mp hw
  exact List.mem_of_getElem? hi
