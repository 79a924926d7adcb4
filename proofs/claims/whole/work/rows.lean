section
-- ===== PART A: goes FIRST, ahead of the names: the tables' words, and 'selects' of the private methods out of them =====
/-- a private method of a class that the tables say can be made, by its rows of tables_1 -/
def lw_okq (q : MethodName × Nat) : Prop := (q.1.cls ≠ "java/lang/invoke/MethodHandle" ∧ q.1.cls ≠ "java/lang/invoke/VarHandle") ∧ Cond.instantiable q.1.cls q.2 ∈ tables_1 ∧ Cond.privateMethod q.1 ∈ tables_1 ∧ Cond.instanceMethod q.1 ∈ tables_1
theorem lw_p0 : lw_okq (⟨"ClawCranes$History", "note", "(LClawCranes$Crane;)V"⟩, 3) := ⟨⟨by decide +kernel, by decide +kernel⟩, List.mem_of_getElem? (i := 150) (by decide +kernel), List.mem_of_getElem? (i := 227) (by decide +kernel), List.mem_of_getElem? (i := 228) (by decide +kernel)⟩
theorem lw_p1 : lw_okq (⟨"ClawCranes$Crane", "copyFrom", "(LClawCranes$Crane;)V"⟩, 11) := ⟨⟨by decide +kernel, by decide +kernel⟩, List.mem_of_getElem? (i := 21) (by decide +kernel), List.mem_of_getElem? (i := 231) (by decide +kernel), List.mem_of_getElem? (i := 232) (by decide +kernel)⟩
theorem lw_p2 : lw_okq (⟨"ClawCranes$Prizes", "copyFrom", "(LClawCranes$Prizes;)V"⟩, 7) := ⟨⟨by decide +kernel, by decide +kernel⟩, List.mem_of_getElem? (i := 27) (by decide +kernel), List.mem_of_getElem? (i := 235) (by decide +kernel), List.mem_of_getElem? (i := 236) (by decide +kernel)⟩
theorem lw_p3 : lw_okq (⟨"ClawCranes$Pit", "copyFrom", "(LClawCranes$Pit;)V"⟩, 2) := ⟨⟨by decide +kernel, by decide +kernel⟩, List.mem_of_getElem? (i := 68) (by decide +kernel), List.mem_of_getElem? (i := 240) (by decide +kernel), List.mem_of_getElem? (i := 241) (by decide +kernel)⟩
theorem lw_p4 : lw_okq (⟨"ClawCranes$Diary", "copyFrom", "(LClawCranes$Diary;)V"⟩, 3) := ⟨⟨by decide +kernel, by decide +kernel⟩, List.mem_of_getElem? (i := 82) (by decide +kernel), List.mem_of_getElem? (i := 245) (by decide +kernel), List.mem_of_getElem? (i := 246) (by decide +kernel)⟩
theorem lw_p5 : lw_okq (⟨"ClawCranes$Crane", "changeSetting", "(II)I"⟩, 11) := ⟨⟨by decide +kernel, by decide +kernel⟩, List.mem_of_getElem? (i := 21) (by decide +kernel), List.mem_of_getElem? (i := 250) (by decide +kernel), List.mem_of_getElem? (i := 251) (by decide +kernel)⟩
theorem lw_p6 : lw_okq (⟨"ClawCranes", "recorded", "(I)I"⟩, 5) := ⟨⟨by decide +kernel, by decide +kernel⟩, List.mem_of_getElem? (i := 13) (by decide +kernel), List.mem_of_getElem? (i := 258) (by decide +kernel), List.mem_of_getElem? (i := 259) (by decide +kernel)⟩
theorem lw_p7 : lw_okq (⟨"ClawCranes$History", "keepNoted", "()V"⟩, 3) := ⟨⟨by decide +kernel, by decide +kernel⟩, List.mem_of_getElem? (i := 150) (by decide +kernel), List.mem_of_getElem? (i := 262) (by decide +kernel), List.mem_of_getElem? (i := 263) (by decide +kernel)⟩
theorem lw_p8 : lw_okq (⟨"ClawCranes$Crane", "takePrize", "(III)I"⟩, 11) := ⟨⟨by decide +kernel, by decide +kernel⟩, List.mem_of_getElem? (i := 21) (by decide +kernel), List.mem_of_getElem? (i := 273) (by decide +kernel), List.mem_of_getElem? (i := 274) (by decide +kernel)⟩
theorem lw_p9 : lw_okq (⟨"ClawCranes$Prizes", "come", "(III)I"⟩, 7) := ⟨⟨by decide +kernel, by decide +kernel⟩, List.mem_of_getElem? (i := 27) (by decide +kernel), List.mem_of_getElem? (i := 277) (by decide +kernel), List.mem_of_getElem? (i := 278) (by decide +kernel)⟩
theorem lw_p10 : lw_okq (⟨"ClawCranes$Crane", "addToColumn", "(I)I"⟩, 11) := ⟨⟨by decide +kernel, by decide +kernel⟩, List.mem_of_getElem? (i := 21) (by decide +kernel), List.mem_of_getElem? (i := 285) (by decide +kernel), List.mem_of_getElem? (i := 286) (by decide +kernel)⟩
theorem lw_p11 : lw_okq (⟨"ClawCranes$Prizes", "storeIsEmpty", "()Z"⟩, 7) := ⟨⟨by decide +kernel, by decide +kernel⟩, List.mem_of_getElem? (i := 27) (by decide +kernel), List.mem_of_getElem? (i := 292) (by decide +kernel), List.mem_of_getElem? (i := 293) (by decide +kernel)⟩
theorem lw_p12 : lw_okq (⟨"ClawCranes$Prizes", "leaveStore", "()I"⟩, 7) := ⟨⟨by decide +kernel, by decide +kernel⟩, List.mem_of_getElem? (i := 27) (by decide +kernel), List.mem_of_getElem? (i := 296) (by decide +kernel), List.mem_of_getElem? (i := 297) (by decide +kernel)⟩
theorem lw_p13 : lw_okq (⟨"ClawCranes$Pit", "lay", "(II)V"⟩, 2) := ⟨⟨by decide +kernel, by decide +kernel⟩, List.mem_of_getElem? (i := 68) (by decide +kernel), List.mem_of_getElem? (i := 300) (by decide +kernel), List.mem_of_getElem? (i := 301) (by decide +kernel)⟩
theorem lw_p14 : lw_okq (⟨"ClawCranes$Crane", "takeCoins", "(I)I"⟩, 11) := ⟨⟨by decide +kernel, by decide +kernel⟩, List.mem_of_getElem? (i := 21) (by decide +kernel), List.mem_of_getElem? (i := 308) (by decide +kernel), List.mem_of_getElem? (i := 309) (by decide +kernel)⟩
theorem lw_p15 : lw_okq (⟨"ClawCranes$Crane", "playForCredit", "(II)I"⟩, 11) := ⟨⟨by decide +kernel, by decide +kernel⟩, List.mem_of_getElem? (i := 21) (by decide +kernel), List.mem_of_getElem? (i := 316) (by decide +kernel), List.mem_of_getElem? (i := 317) (by decide +kernel)⟩
def lw_privs_1 : List (MethodName × Nat) := [(⟨"ClawCranes$History", "note", "(LClawCranes$Crane;)V"⟩, 3), (⟨"ClawCranes$Crane", "copyFrom", "(LClawCranes$Crane;)V"⟩, 11), (⟨"ClawCranes$Prizes", "copyFrom", "(LClawCranes$Prizes;)V"⟩, 7), (⟨"ClawCranes$Pit", "copyFrom", "(LClawCranes$Pit;)V"⟩, 2), (⟨"ClawCranes$Diary", "copyFrom", "(LClawCranes$Diary;)V"⟩, 3), (⟨"ClawCranes$Crane", "changeSetting", "(II)I"⟩, 11), (⟨"ClawCranes", "recorded", "(I)I"⟩, 5), (⟨"ClawCranes$History", "keepNoted", "()V"⟩, 3), (⟨"ClawCranes$Crane", "takePrize", "(III)I"⟩, 11), (⟨"ClawCranes$Prizes", "come", "(III)I"⟩, 7), (⟨"ClawCranes$Crane", "addToColumn", "(I)I"⟩, 11), (⟨"ClawCranes$Prizes", "storeIsEmpty", "()Z"⟩, 7), (⟨"ClawCranes$Prizes", "leaveStore", "()I"⟩, 7), (⟨"ClawCranes$Pit", "lay", "(II)V"⟩, 2), (⟨"ClawCranes$Crane", "takeCoins", "(I)I"⟩, 11), (⟨"ClawCranes$Crane", "playForCredit", "(II)I"⟩, 11)]
theorem lw_r1 : ∀ q ∈ lw_privs_1, lw_okq q := List.forall_mem_cons.mpr ⟨lw_p0, List.forall_mem_cons.mpr ⟨lw_p1, List.forall_mem_cons.mpr ⟨lw_p2, List.forall_mem_cons.mpr ⟨lw_p3, List.forall_mem_cons.mpr ⟨lw_p4, List.forall_mem_cons.mpr ⟨lw_p5, List.forall_mem_cons.mpr ⟨lw_p6, List.forall_mem_cons.mpr ⟨lw_p7, List.forall_mem_cons.mpr ⟨lw_p8, List.forall_mem_cons.mpr ⟨lw_p9, List.forall_mem_cons.mpr ⟨lw_p10, List.forall_mem_cons.mpr ⟨lw_p11, List.forall_mem_cons.mpr ⟨lw_p12, List.forall_mem_cons.mpr ⟨lw_p13, List.forall_mem_cons.mpr ⟨lw_p14, List.forall_mem_cons.mpr ⟨lw_p15, fun _ h => absurd h List.not_mem_nil⟩⟩⟩⟩⟩⟩⟩⟩⟩⟩⟩⟩⟩⟩⟩⟩
theorem lw_p16 : lw_okq (⟨"ClawCranes$Crane", "pull", "(II)I"⟩, 11) := ⟨⟨by decide +kernel, by decide +kernel⟩, List.mem_of_getElem? (i := 21) (by decide +kernel), List.mem_of_getElem? (i := 324) (by decide +kernel), List.mem_of_getElem? (i := 325) (by decide +kernel)⟩
theorem lw_p17 : lw_okq (⟨"ClawCranes$Crane", "outcome", "(II)I"⟩, 11) := ⟨⟨by decide +kernel, by decide +kernel⟩, List.mem_of_getElem? (i := 21) (by decide +kernel), List.mem_of_getElem? (i := 328) (by decide +kernel), List.mem_of_getElem? (i := 329) (by decide +kernel)⟩
theorem lw_p18 : lw_okq (⟨"ClawCranes$Pit", "top", "(I)I"⟩, 2) := ⟨⟨by decide +kernel, by decide +kernel⟩, List.mem_of_getElem? (i := 68) (by decide +kernel), List.mem_of_getElem? (i := 332) (by decide +kernel), List.mem_of_getElem? (i := 333) (by decide +kernel)⟩
theorem lw_p19 : lw_okq (⟨"ClawCranes$Crane", "grip", "(I)I"⟩, 11) := ⟨⟨by decide +kernel, by decide +kernel⟩, List.mem_of_getElem? (i := 21) (by decide +kernel), List.mem_of_getElem? (i := 336) (by decide +kernel), List.mem_of_getElem? (i := 337) (by decide +kernel)⟩
theorem lw_p20 : lw_okq (⟨"ClawCranes$Crane", "nextGripIsFull", "()Z"⟩, 11) := ⟨⟨by decide +kernel, by decide +kernel⟩, List.mem_of_getElem? (i := 21) (by decide +kernel), List.mem_of_getElem? (i := 340) (by decide +kernel), List.mem_of_getElem? (i := 341) (by decide +kernel)⟩
theorem lw_p21 : lw_okq (⟨"ClawCranes$Crane", "loadOfTop", "(II)I"⟩, 11) := ⟨⟨by decide +kernel, by decide +kernel⟩, List.mem_of_getElem? (i := 21) (by decide +kernel), List.mem_of_getElem? (i := 344) (by decide +kernel), List.mem_of_getElem? (i := 345) (by decide +kernel)⟩
theorem lw_p22 : lw_okq (⟨"ClawCranes$Pit", "rollTarget", "(I)I"⟩, 2) := ⟨⟨by decide +kernel, by decide +kernel⟩, List.mem_of_getElem? (i := 68) (by decide +kernel), List.mem_of_getElem? (i := 348) (by decide +kernel), List.mem_of_getElem? (i := 349) (by decide +kernel)⟩
theorem lw_p23 : lw_okq (⟨"ClawCranes$Pit", "heightOrWall", "(I)I"⟩, 2) := ⟨⟨by decide +kernel, by decide +kernel⟩, List.mem_of_getElem? (i := 68) (by decide +kernel), List.mem_of_getElem? (i := 352) (by decide +kernel), List.mem_of_getElem? (i := 353) (by decide +kernel)⟩
theorem lw_p24 : lw_okq (⟨"ClawCranes$Crane", "pay", "(Z)V"⟩, 11) := ⟨⟨by decide +kernel, by decide +kernel⟩, List.mem_of_getElem? (i := 21) (by decide +kernel), List.mem_of_getElem? (i := 357) (by decide +kernel), List.mem_of_getElem? (i := 358) (by decide +kernel)⟩
theorem lw_p25 : lw_okq (⟨"ClawCranes$Diary", "write", "(IIIZ)V"⟩, 3) := ⟨⟨by decide +kernel, by decide +kernel⟩, List.mem_of_getElem? (i := 82) (by decide +kernel), List.mem_of_getElem? (i := 361) (by decide +kernel), List.mem_of_getElem? (i := 362) (by decide +kernel)⟩
theorem lw_p26 : lw_okq (⟨"ClawCranes$Crane", "moveGripped", "(III)V"⟩, 11) := ⟨⟨by decide +kernel, by decide +kernel⟩, List.mem_of_getElem? (i := 21) (by decide +kernel), List.mem_of_getElem? (i := 366) (by decide +kernel), List.mem_of_getElem? (i := 367) (by decide +kernel)⟩
theorem lw_p27 : lw_okq (⟨"ClawCranes$Pit", "lift", "(I)V"⟩, 2) := ⟨⟨by decide +kernel, by decide +kernel⟩, List.mem_of_getElem? (i := 68) (by decide +kernel), List.mem_of_getElem? (i := 370) (by decide +kernel), List.mem_of_getElem? (i := 371) (by decide +kernel)⟩
theorem lw_p28 : lw_okq (⟨"ClawCranes$Crane", "fillUp", "()V"⟩, 11) := ⟨⟨by decide +kernel, by decide +kernel⟩, List.mem_of_getElem? (i := 21) (by decide +kernel), List.mem_of_getElem? (i := 374) (by decide +kernel), List.mem_of_getElem? (i := 375) (by decide +kernel)⟩
theorem lw_p29 : lw_okq (⟨"ClawCranes$Pit", "prizesInAll", "()I"⟩, 2) := ⟨⟨by decide +kernel, by decide +kernel⟩, List.mem_of_getElem? (i := 68) (by decide +kernel), List.mem_of_getElem? (i := 378) (by decide +kernel), List.mem_of_getElem? (i := 379) (by decide +kernel)⟩
theorem lw_p30 : lw_okq (⟨"ClawCranes$Pit", "lowestColumn", "()I"⟩, 2) := ⟨⟨by decide +kernel, by decide +kernel⟩, List.mem_of_getElem? (i := 68) (by decide +kernel), List.mem_of_getElem? (i := 382) (by decide +kernel), List.mem_of_getElem? (i := 383) (by decide +kernel)⟩
theorem lw_p31 : lw_okq (⟨"ClawCranes$Pit", "spotOf", "(I)I"⟩, 2) := ⟨⟨by decide +kernel, by decide +kernel⟩, List.mem_of_getElem? (i := 68) (by decide +kernel), List.mem_of_getElem? (i := 390) (by decide +kernel), List.mem_of_getElem? (i := 391) (by decide +kernel)⟩
def lw_privs_2 : List (MethodName × Nat) := [(⟨"ClawCranes$Crane", "pull", "(II)I"⟩, 11), (⟨"ClawCranes$Crane", "outcome", "(II)I"⟩, 11), (⟨"ClawCranes$Pit", "top", "(I)I"⟩, 2), (⟨"ClawCranes$Crane", "grip", "(I)I"⟩, 11), (⟨"ClawCranes$Crane", "nextGripIsFull", "()Z"⟩, 11), (⟨"ClawCranes$Crane", "loadOfTop", "(II)I"⟩, 11), (⟨"ClawCranes$Pit", "rollTarget", "(I)I"⟩, 2), (⟨"ClawCranes$Pit", "heightOrWall", "(I)I"⟩, 2), (⟨"ClawCranes$Crane", "pay", "(Z)V"⟩, 11), (⟨"ClawCranes$Diary", "write", "(IIIZ)V"⟩, 3), (⟨"ClawCranes$Crane", "moveGripped", "(III)V"⟩, 11), (⟨"ClawCranes$Pit", "lift", "(I)V"⟩, 2), (⟨"ClawCranes$Crane", "fillUp", "()V"⟩, 11), (⟨"ClawCranes$Pit", "prizesInAll", "()I"⟩, 2), (⟨"ClawCranes$Pit", "lowestColumn", "()I"⟩, 2), (⟨"ClawCranes$Pit", "spotOf", "(I)I"⟩, 2)]
theorem lw_r2 : ∀ q ∈ lw_privs_2, lw_okq q := List.forall_mem_cons.mpr ⟨lw_p16, List.forall_mem_cons.mpr ⟨lw_p17, List.forall_mem_cons.mpr ⟨lw_p18, List.forall_mem_cons.mpr ⟨lw_p19, List.forall_mem_cons.mpr ⟨lw_p20, List.forall_mem_cons.mpr ⟨lw_p21, List.forall_mem_cons.mpr ⟨lw_p22, List.forall_mem_cons.mpr ⟨lw_p23, List.forall_mem_cons.mpr ⟨lw_p24, List.forall_mem_cons.mpr ⟨lw_p25, List.forall_mem_cons.mpr ⟨lw_p26, List.forall_mem_cons.mpr ⟨lw_p27, List.forall_mem_cons.mpr ⟨lw_p28, List.forall_mem_cons.mpr ⟨lw_p29, List.forall_mem_cons.mpr ⟨lw_p30, List.forall_mem_cons.mpr ⟨lw_p31, fun _ h => absurd h List.not_mem_nil⟩⟩⟩⟩⟩⟩⟩⟩⟩⟩⟩⟩⟩⟩⟩⟩
theorem lw_p32 : lw_okq (⟨"ClawCranes$Pit", "prizeAt", "(II)I"⟩, 2) := ⟨⟨by decide +kernel, by decide +kernel⟩, List.mem_of_getElem? (i := 68) (by decide +kernel), List.mem_of_getElem? (i := 394) (by decide +kernel), List.mem_of_getElem? (i := 395) (by decide +kernel)⟩
theorem lw_p33 : lw_okq (⟨"ClawCranes$Diary", "tell", "(II)I"⟩, 3) := ⟨⟨by decide +kernel, by decide +kernel⟩, List.mem_of_getElem? (i := 82) (by decide +kernel), List.mem_of_getElem? (i := 407) (by decide +kernel), List.mem_of_getElem? (i := 408) (by decide +kernel)⟩
theorem lw_p34 : lw_okq (⟨"ClawCranes$Prizes", "inPitByValue", "(I)I"⟩, 7) := ⟨⟨by decide +kernel, by decide +kernel⟩, List.mem_of_getElem? (i := 27) (by decide +kernel), List.mem_of_getElem? (i := 415) (by decide +kernel), List.mem_of_getElem? (i := 416) (by decide +kernel)⟩
theorem lw_p35 : lw_okq (⟨"ClawCranes$Prizes", "rankInPit", "(I)I"⟩, 7) := ⟨⟨by decide +kernel, by decide +kernel⟩, List.mem_of_getElem? (i := 27) (by decide +kernel), List.mem_of_getElem? (i := 419) (by decide +kernel), List.mem_of_getElem? (i := 420) (by decide +kernel)⟩
theorem lw_p36 : lw_okq (⟨"ClawCranes$Prizes", "isBefore", "(II)Z"⟩, 7) := ⟨⟨by decide +kernel, by decide +kernel⟩, List.mem_of_getElem? (i := 27) (by decide +kernel), List.mem_of_getElem? (i := 423) (by decide +kernel), List.mem_of_getElem? (i := 424) (by decide +kernel)⟩
theorem lw_p37 : lw_okq (⟨"ClawCranes$Prizes", "inPitUpTo", "(I)I"⟩, 7) := ⟨⟨by decide +kernel, by decide +kernel⟩, List.mem_of_getElem? (i := 27) (by decide +kernel), List.mem_of_getElem? (i := 431) (by decide +kernel), List.mem_of_getElem? (i := 432) (by decide +kernel)⟩
theorem lw_p38 : lw_okq (⟨"ClawCranes$Prizes", "setIn", "(I)I"⟩, 7) := ⟨⟨by decide +kernel, by decide +kernel⟩, List.mem_of_getElem? (i := 27) (by decide +kernel), List.mem_of_getElem? (i := 439) (by decide +kernel), List.mem_of_getElem? (i := 440) (by decide +kernel)⟩
theorem lw_p39 : lw_okq (⟨"ClawCranes$Prizes", "valueWon", "()I"⟩, 7) := ⟨⟨by decide +kernel, by decide +kernel⟩, List.mem_of_getElem? (i := 27) (by decide +kernel), List.mem_of_getElem? (i := 449) (by decide +kernel), List.mem_of_getElem? (i := 450) (by decide +kernel)⟩
theorem lw_p40 : lw_okq (⟨"ClawCranes$Pit", "emptyColumns", "()I"⟩, 2) := ⟨⟨by decide +kernel, by decide +kernel⟩, List.mem_of_getElem? (i := 68) (by decide +kernel), List.mem_of_getElem? (i := 453) (by decide +kernel), List.mem_of_getElem? (i := 454) (by decide +kernel)⟩
theorem lw_p41 : lw_okq (⟨"ClawCranes$Crane", "playsUntilFull", "()I"⟩, 11) := ⟨⟨by decide +kernel, by decide +kernel⟩, List.mem_of_getElem? (i := 21) (by decide +kernel), List.mem_of_getElem? (i := 473) (by decide +kernel), List.mem_of_getElem? (i := 474) (by decide +kernel)⟩
theorem lw_p42 : lw_okq (⟨"ClawCranes$Crane", "valueIfWon", "(I)I"⟩, 11) := ⟨⟨by decide +kernel, by decide +kernel⟩, List.mem_of_getElem? (i := 21) (by decide +kernel), List.mem_of_getElem? (i := 484) (by decide +kernel), List.mem_of_getElem? (i := 485) (by decide +kernel)⟩
theorem lw_p43 : lw_okq (⟨"ClawCranes$Crane", "coinsToWin", "(I)I"⟩, 11) := ⟨⟨by decide +kernel, by decide +kernel⟩, List.mem_of_getElem? (i := 21) (by decide +kernel), List.mem_of_getElem? (i := 492) (by decide +kernel), List.mem_of_getElem? (i := 493) (by decide +kernel)⟩
theorem lw_p44 : lw_okq (⟨"ClawCranes$Pad", "append", "(JI)V"⟩, 8) := ⟨⟨by decide +kernel, by decide +kernel⟩, List.mem_of_getElem? (i := 170) (by decide +kernel), List.mem_of_getElem? (i := 507) (by decide +kernel), List.mem_of_getElem? (i := 508) (by decide +kernel)⟩
theorem lw_p45 : lw_okq (⟨"ClawCranes$Pad", "firstFault", "()I"⟩, 8) := ⟨⟨by decide +kernel, by decide +kernel⟩, List.mem_of_getElem? (i := 170) (by decide +kernel), List.mem_of_getElem? (i := 519) (by decide +kernel), List.mem_of_getElem? (i := 520) (by decide +kernel)⟩
theorem lw_p46 : lw_okq (⟨"ClawCranes$Pad", "begin", "()V"⟩, 8) := ⟨⟨by decide +kernel, by decide +kernel⟩, List.mem_of_getElem? (i := 170) (by decide +kernel), List.mem_of_getElem? (i := 523) (by decide +kernel), List.mem_of_getElem? (i := 524) (by decide +kernel)⟩
theorem lw_p47 : lw_okq (⟨"ClawCranes$Pad", "nextOrder", "()Z"⟩, 8) := ⟨⟨by decide +kernel, by decide +kernel⟩, List.mem_of_getElem? (i := 170) (by decide +kernel), List.mem_of_getElem? (i := 527) (by decide +kernel), List.mem_of_getElem? (i := 528) (by decide +kernel)⟩
def lw_privs_3 : List (MethodName × Nat) := [(⟨"ClawCranes$Pit", "prizeAt", "(II)I"⟩, 2), (⟨"ClawCranes$Diary", "tell", "(II)I"⟩, 3), (⟨"ClawCranes$Prizes", "inPitByValue", "(I)I"⟩, 7), (⟨"ClawCranes$Prizes", "rankInPit", "(I)I"⟩, 7), (⟨"ClawCranes$Prizes", "isBefore", "(II)Z"⟩, 7), (⟨"ClawCranes$Prizes", "inPitUpTo", "(I)I"⟩, 7), (⟨"ClawCranes$Prizes", "setIn", "(I)I"⟩, 7), (⟨"ClawCranes$Prizes", "valueWon", "()I"⟩, 7), (⟨"ClawCranes$Pit", "emptyColumns", "()I"⟩, 2), (⟨"ClawCranes$Crane", "playsUntilFull", "()I"⟩, 11), (⟨"ClawCranes$Crane", "valueIfWon", "(I)I"⟩, 11), (⟨"ClawCranes$Crane", "coinsToWin", "(I)I"⟩, 11), (⟨"ClawCranes$Pad", "append", "(JI)V"⟩, 8), (⟨"ClawCranes$Pad", "firstFault", "()I"⟩, 8), (⟨"ClawCranes$Pad", "begin", "()V"⟩, 8), (⟨"ClawCranes$Pad", "nextOrder", "()Z"⟩, 8)]
theorem lw_r3 : ∀ q ∈ lw_privs_3, lw_okq q := List.forall_mem_cons.mpr ⟨lw_p32, List.forall_mem_cons.mpr ⟨lw_p33, List.forall_mem_cons.mpr ⟨lw_p34, List.forall_mem_cons.mpr ⟨lw_p35, List.forall_mem_cons.mpr ⟨lw_p36, List.forall_mem_cons.mpr ⟨lw_p37, List.forall_mem_cons.mpr ⟨lw_p38, List.forall_mem_cons.mpr ⟨lw_p39, List.forall_mem_cons.mpr ⟨lw_p40, List.forall_mem_cons.mpr ⟨lw_p41, List.forall_mem_cons.mpr ⟨lw_p42, List.forall_mem_cons.mpr ⟨lw_p43, List.forall_mem_cons.mpr ⟨lw_p44, List.forall_mem_cons.mpr ⟨lw_p45, List.forall_mem_cons.mpr ⟨lw_p46, List.forall_mem_cons.mpr ⟨lw_p47, fun _ h => absurd h List.not_mem_nil⟩⟩⟩⟩⟩⟩⟩⟩⟩⟩⟩⟩⟩⟩⟩⟩
theorem lw_p48 : lw_okq (⟨"ClawCranes$Pad", "expect", "(I)V"⟩, 8) := ⟨⟨by decide +kernel, by decide +kernel⟩, List.mem_of_getElem? (i := 170) (by decide +kernel), List.mem_of_getElem? (i := 531) (by decide +kernel), List.mem_of_getElem? (i := 532) (by decide +kernel)⟩
theorem lw_p49 : lw_okq (⟨"ClawCranes$Pad", "here", "()I"⟩, 8) := ⟨⟨by decide +kernel, by decide +kernel⟩, List.mem_of_getElem? (i := 170) (by decide +kernel), List.mem_of_getElem? (i := 535) (by decide +kernel), List.mem_of_getElem? (i := 536) (by decide +kernel)⟩
theorem lw_p50 : lw_okq (⟨"ClawCranes$Pad", "readCoins", "()V"⟩, 8) := ⟨⟨by decide +kernel, by decide +kernel⟩, List.mem_of_getElem? (i := 170) (by decide +kernel), List.mem_of_getElem? (i := 539) (by decide +kernel), List.mem_of_getElem? (i := 540) (by decide +kernel)⟩
theorem lw_p51 : lw_okq (⟨"ClawCranes$Pad", "number", "()I"⟩, 8) := ⟨⟨by decide +kernel, by decide +kernel⟩, List.mem_of_getElem? (i := 170) (by decide +kernel), List.mem_of_getElem? (i := 543) (by decide +kernel), List.mem_of_getElem? (i := 544) (by decide +kernel)⟩
theorem lw_p52 : lw_okq (⟨"ClawCranes$Pad", "digit", "()I"⟩, 8) := ⟨⟨by decide +kernel, by decide +kernel⟩, List.mem_of_getElem? (i := 170) (by decide +kernel), List.mem_of_getElem? (i := 547) (by decide +kernel), List.mem_of_getElem? (i := 548) (by decide +kernel)⟩
theorem lw_p53 : lw_okq (⟨"ClawCranes$Pad", "readPlay", "()V"⟩, 8) := ⟨⟨by decide +kernel, by decide +kernel⟩, List.mem_of_getElem? (i := 170) (by decide +kernel), List.mem_of_getElem? (i := 554) (by decide +kernel), List.mem_of_getElem? (i := 555) (by decide +kernel)⟩
theorem lw_p54 : lw_okq (⟨"ClawCranes$Pad", "readPrize", "()V"⟩, 8) := ⟨⟨by decide +kernel, by decide +kernel⟩, List.mem_of_getElem? (i := 170) (by decide +kernel), List.mem_of_getElem? (i := 558) (by decide +kernel), List.mem_of_getElem? (i := 559) (by decide +kernel)⟩
theorem lw_p55 : lw_okq (⟨"ClawCranes$Pad", "kind", "()I"⟩, 8) := ⟨⟨by decide +kernel, by decide +kernel⟩, List.mem_of_getElem? (i := 170) (by decide +kernel), List.mem_of_getElem? (i := 562) (by decide +kernel), List.mem_of_getElem? (i := 563) (by decide +kernel)⟩
theorem lw_p56 : lw_okq (⟨"ClawCranes$Pad", "readAdding", "()V"⟩, 8) := ⟨⟨by decide +kernel, by decide +kernel⟩, List.mem_of_getElem? (i := 170) (by decide +kernel), List.mem_of_getElem? (i := 566) (by decide +kernel), List.mem_of_getElem? (i := 567) (by decide +kernel)⟩
theorem lw_p57 : lw_okq (⟨"ClawCranes", "carriedOrder", "()I"⟩, 5) := ⟨⟨by decide +kernel, by decide +kernel⟩, List.mem_of_getElem? (i := 13) (by decide +kernel), List.mem_of_getElem? (i := 576) (by decide +kernel), List.mem_of_getElem? (i := 577) (by decide +kernel)⟩
theorem lw_p58 : lw_okq (⟨"ClawCranes$History", "stepBack", "(LClawCranes$Crane;)V"⟩, 3) := ⟨⟨by decide +kernel, by decide +kernel⟩, List.mem_of_getElem? (i := 150) (by decide +kernel), List.mem_of_getElem? (i := 584) (by decide +kernel), List.mem_of_getElem? (i := 585) (by decide +kernel)⟩
theorem lw_p59 : lw_okq (⟨"ClawCranesModel", "record", "()V"⟩, 11) := ⟨⟨by decide +kernel, by decide +kernel⟩, List.mem_of_getElem? (i := 600) (by decide +kernel), List.mem_of_getElem? (i := 658) (by decide +kernel), List.mem_of_getElem? (i := 659) (by decide +kernel)⟩
theorem lw_p60 : lw_okq (⟨"ClawCranesModel", "whyNotPrize", "(III)I"⟩, 11) := ⟨⟨by decide +kernel, by decide +kernel⟩, List.mem_of_getElem? (i := 600) (by decide +kernel), List.mem_of_getElem? (i := 673) (by decide +kernel), List.mem_of_getElem? (i := 674) (by decide +kernel)⟩
theorem lw_p61 : lw_okq (⟨"ClawCranesModel", "prizeNow", "(III)V"⟩, 11) := ⟨⟨by decide +kernel, by decide +kernel⟩, List.mem_of_getElem? (i := 600) (by decide +kernel), List.mem_of_getElem? (i := 677) (by decide +kernel), List.mem_of_getElem? (i := 678) (by decide +kernel)⟩
theorem lw_p62 : lw_okq (⟨"ClawCranesModel", "lay", "(III)V"⟩, 11) := ⟨⟨by decide +kernel, by decide +kernel⟩, List.mem_of_getElem? (i := 600) (by decide +kernel), List.mem_of_getElem? (i := 681) (by decide +kernel), List.mem_of_getElem? (i := 682) (by decide +kernel)⟩
theorem lw_p63 : lw_okq (⟨"ClawCranesModel", "take", "(II)V"⟩, 11) := ⟨⟨by decide +kernel, by decide +kernel⟩, List.mem_of_getElem? (i := 600) (by decide +kernel), List.mem_of_getElem? (i := 685) (by decide +kernel), List.mem_of_getElem? (i := 686) (by decide +kernel)⟩
def lw_privs_4 : List (MethodName × Nat) := [(⟨"ClawCranes$Pad", "expect", "(I)V"⟩, 8), (⟨"ClawCranes$Pad", "here", "()I"⟩, 8), (⟨"ClawCranes$Pad", "readCoins", "()V"⟩, 8), (⟨"ClawCranes$Pad", "number", "()I"⟩, 8), (⟨"ClawCranes$Pad", "digit", "()I"⟩, 8), (⟨"ClawCranes$Pad", "readPlay", "()V"⟩, 8), (⟨"ClawCranes$Pad", "readPrize", "()V"⟩, 8), (⟨"ClawCranes$Pad", "kind", "()I"⟩, 8), (⟨"ClawCranes$Pad", "readAdding", "()V"⟩, 8), (⟨"ClawCranes", "carriedOrder", "()I"⟩, 5), (⟨"ClawCranes$History", "stepBack", "(LClawCranes$Crane;)V"⟩, 3), (⟨"ClawCranesModel", "record", "()V"⟩, 11), (⟨"ClawCranesModel", "whyNotPrize", "(III)I"⟩, 11), (⟨"ClawCranesModel", "prizeNow", "(III)V"⟩, 11), (⟨"ClawCranesModel", "lay", "(III)V"⟩, 11), (⟨"ClawCranesModel", "take", "(II)V"⟩, 11)]
theorem lw_r4 : ∀ q ∈ lw_privs_4, lw_okq q := List.forall_mem_cons.mpr ⟨lw_p48, List.forall_mem_cons.mpr ⟨lw_p49, List.forall_mem_cons.mpr ⟨lw_p50, List.forall_mem_cons.mpr ⟨lw_p51, List.forall_mem_cons.mpr ⟨lw_p52, List.forall_mem_cons.mpr ⟨lw_p53, List.forall_mem_cons.mpr ⟨lw_p54, List.forall_mem_cons.mpr ⟨lw_p55, List.forall_mem_cons.mpr ⟨lw_p56, List.forall_mem_cons.mpr ⟨lw_p57, List.forall_mem_cons.mpr ⟨lw_p58, List.forall_mem_cons.mpr ⟨lw_p59, List.forall_mem_cons.mpr ⟨lw_p60, List.forall_mem_cons.mpr ⟨lw_p61, List.forall_mem_cons.mpr ⟨lw_p62, List.forall_mem_cons.mpr ⟨lw_p63, fun _ h => absurd h List.not_mem_nil⟩⟩⟩⟩⟩⟩⟩⟩⟩⟩⟩⟩⟩⟩⟩⟩
theorem lw_p64 : lw_okq (⟨"ClawCranesModel", "whyNotAdd", "(I)I"⟩, 11) := ⟨⟨by decide +kernel, by decide +kernel⟩, List.mem_of_getElem? (i := 600) (by decide +kernel), List.mem_of_getElem? (i := 693) (by decide +kernel), List.mem_of_getElem? (i := 694) (by decide +kernel)⟩
theorem lw_p65 : lw_okq (⟨"ClawCranesModel", "nextOfStore", "()I"⟩, 11) := ⟨⟨by decide +kernel, by decide +kernel⟩, List.mem_of_getElem? (i := 600) (by decide +kernel), List.mem_of_getElem? (i := 700) (by decide +kernel), List.mem_of_getElem? (i := 701) (by decide +kernel)⟩
theorem lw_p66 : lw_okq (⟨"ClawCranesModel", "of1", "(II)I"⟩, 11) := ⟨⟨by decide +kernel, by decide +kernel⟩, List.mem_of_getElem? (i := 600) (by decide +kernel), List.mem_of_getElem? (i := 704) (by decide +kernel), List.mem_of_getElem? (i := 705) (by decide +kernel)⟩
theorem lw_p67 : lw_okq (⟨"ClawCranesModel", "sizeOf", "(I)I"⟩, 11) := ⟨⟨by decide +kernel, by decide +kernel⟩, List.mem_of_getElem? (i := 600) (by decide +kernel), List.mem_of_getElem? (i := 708) (by decide +kernel), List.mem_of_getElem? (i := 709) (by decide +kernel)⟩
theorem lw_p68 : lw_okq (⟨"ClawCranesModel", "put", "(II)V"⟩, 11) := ⟨⟨by decide +kernel, by decide +kernel⟩, List.mem_of_getElem? (i := 600) (by decide +kernel), List.mem_of_getElem? (i := 712) (by decide +kernel), List.mem_of_getElem? (i := 713) (by decide +kernel)⟩
theorem lw_p69 : lw_okq (⟨"ClawCranesModel", "whyNotCoins", "(I)I"⟩, 11) := ⟨⟨by decide +kernel, by decide +kernel⟩, List.mem_of_getElem? (i := 600) (by decide +kernel), List.mem_of_getElem? (i := 720) (by decide +kernel), List.mem_of_getElem? (i := 721) (by decide +kernel)⟩
theorem lw_p70 : lw_okq (⟨"ClawCranesModel", "whyNotPlay", "(II)I"⟩, 11) := ⟨⟨by decide +kernel, by decide +kernel⟩, List.mem_of_getElem? (i := 600) (by decide +kernel), List.mem_of_getElem? (i := 728) (by decide +kernel), List.mem_of_getElem? (i := 729) (by decide +kernel)⟩
theorem lw_p71 : lw_okq (⟨"ClawCranesModel", "playNow", "(II)I"⟩, 11) := ⟨⟨by decide +kernel, by decide +kernel⟩, List.mem_of_getElem? (i := 600) (by decide +kernel), List.mem_of_getElem? (i := 732) (by decide +kernel), List.mem_of_getElem? (i := 733) (by decide +kernel)⟩
theorem lw_p72 : lw_okq (⟨"ClawCranesModel", "isFull", "(I)Z"⟩, 11) := ⟨⟨by decide +kernel, by decide +kernel⟩, List.mem_of_getElem? (i := 600) (by decide +kernel), List.mem_of_getElem? (i := 736) (by decide +kernel), List.mem_of_getElem? (i := 737) (by decide +kernel)⟩
theorem lw_p73 : lw_okq (⟨"ClawCranesModel", "top", "(I)I"⟩, 11) := ⟨⟨by decide +kernel, by decide +kernel⟩, List.mem_of_getElem? (i := 600) (by decide +kernel), List.mem_of_getElem? (i := 740) (by decide +kernel), List.mem_of_getElem? (i := 741) (by decide +kernel)⟩
theorem lw_p74 : lw_okq (⟨"ClawCranesModel", "prizeAt", "(I)I"⟩, 11) := ⟨⟨by decide +kernel, by decide +kernel⟩, List.mem_of_getElem? (i := 600) (by decide +kernel), List.mem_of_getElem? (i := 744) (by decide +kernel), List.mem_of_getElem? (i := 745) (by decide +kernel)⟩
theorem lw_p75 : lw_okq (⟨"ClawCranesModel", "book", "(IIII)V"⟩, 11) := ⟨⟨by decide +kernel, by decide +kernel⟩, List.mem_of_getElem? (i := 600) (by decide +kernel), List.mem_of_getElem? (i := 748) (by decide +kernel), List.mem_of_getElem? (i := 749) (by decide +kernel)⟩
theorem lw_p76 : lw_okq (⟨"ClawCranesModel", "wins", "(IIII)Z"⟩, 11) := ⟨⟨by decide +kernel, by decide +kernel⟩, List.mem_of_getElem? (i := 600) (by decide +kernel), List.mem_of_getElem? (i := 752) (by decide +kernel), List.mem_of_getElem? (i := 753) (by decide +kernel)⟩
theorem lw_p77 : lw_okq (⟨"ClawCranesModel", "loadOf", "(III)I"⟩, 11) := ⟨⟨by decide +kernel, by decide +kernel⟩, List.mem_of_getElem? (i := 600) (by decide +kernel), List.mem_of_getElem? (i := 756) (by decide +kernel), List.mem_of_getElem? (i := 757) (by decide +kernel)⟩
theorem lw_p78 : lw_okq (⟨"ClawCranesModel", "roll", "(II)V"⟩, 11) := ⟨⟨by decide +kernel, by decide +kernel⟩, List.mem_of_getElem? (i := 600) (by decide +kernel), List.mem_of_getElem? (i := 760) (by decide +kernel), List.mem_of_getElem? (i := 761) (by decide +kernel)⟩
theorem lw_p79 : lw_okq (⟨"ClawCranesModel", "rolls", "(II)Z"⟩, 11) := ⟨⟨by decide +kernel, by decide +kernel⟩, List.mem_of_getElem? (i := 600) (by decide +kernel), List.mem_of_getElem? (i := 764) (by decide +kernel), List.mem_of_getElem? (i := 765) (by decide +kernel)⟩
def lw_privs_5 : List (MethodName × Nat) := [(⟨"ClawCranesModel", "whyNotAdd", "(I)I"⟩, 11), (⟨"ClawCranesModel", "nextOfStore", "()I"⟩, 11), (⟨"ClawCranesModel", "of1", "(II)I"⟩, 11), (⟨"ClawCranesModel", "sizeOf", "(I)I"⟩, 11), (⟨"ClawCranesModel", "put", "(II)V"⟩, 11), (⟨"ClawCranesModel", "whyNotCoins", "(I)I"⟩, 11), (⟨"ClawCranesModel", "whyNotPlay", "(II)I"⟩, 11), (⟨"ClawCranesModel", "playNow", "(II)I"⟩, 11), (⟨"ClawCranesModel", "isFull", "(I)Z"⟩, 11), (⟨"ClawCranesModel", "top", "(I)I"⟩, 11), (⟨"ClawCranesModel", "prizeAt", "(I)I"⟩, 11), (⟨"ClawCranesModel", "book", "(IIII)V"⟩, 11), (⟨"ClawCranesModel", "wins", "(IIII)Z"⟩, 11), (⟨"ClawCranesModel", "loadOf", "(III)I"⟩, 11), (⟨"ClawCranesModel", "roll", "(II)V"⟩, 11), (⟨"ClawCranesModel", "rolls", "(II)Z"⟩, 11)]
theorem lw_r5 : ∀ q ∈ lw_privs_5, lw_okq q := List.forall_mem_cons.mpr ⟨lw_p64, List.forall_mem_cons.mpr ⟨lw_p65, List.forall_mem_cons.mpr ⟨lw_p66, List.forall_mem_cons.mpr ⟨lw_p67, List.forall_mem_cons.mpr ⟨lw_p68, List.forall_mem_cons.mpr ⟨lw_p69, List.forall_mem_cons.mpr ⟨lw_p70, List.forall_mem_cons.mpr ⟨lw_p71, List.forall_mem_cons.mpr ⟨lw_p72, List.forall_mem_cons.mpr ⟨lw_p73, List.forall_mem_cons.mpr ⟨lw_p74, List.forall_mem_cons.mpr ⟨lw_p75, List.forall_mem_cons.mpr ⟨lw_p76, List.forall_mem_cons.mpr ⟨lw_p77, List.forall_mem_cons.mpr ⟨lw_p78, List.forall_mem_cons.mpr ⟨lw_p79, fun _ h => absurd h List.not_mem_nil⟩⟩⟩⟩⟩⟩⟩⟩⟩⟩⟩⟩⟩⟩⟩⟩
theorem lw_p80 : lw_okq (⟨"ClawCranesModel", "rollsTo", "(I)I"⟩, 11) := ⟨⟨by decide +kernel, by decide +kernel⟩, List.mem_of_getElem? (i := 600) (by decide +kernel), List.mem_of_getElem? (i := 768) (by decide +kernel), List.mem_of_getElem? (i := 769) (by decide +kernel)⟩
theorem lw_p81 : lw_okq (⟨"ClawCranesModel", "fillUp", "()V"⟩, 11) := ⟨⟨by decide +kernel, by decide +kernel⟩, List.mem_of_getElem? (i := 600) (by decide +kernel), List.mem_of_getElem? (i := 772) (by decide +kernel), List.mem_of_getElem? (i := 773) (by decide +kernel)⟩
theorem lw_p82 : lw_okq (⟨"ClawCranesModel", "many", "(I)I"⟩, 11) := ⟨⟨by decide +kernel, by decide +kernel⟩, List.mem_of_getElem? (i := 600) (by decide +kernel), List.mem_of_getElem? (i := 776) (by decide +kernel), List.mem_of_getElem? (i := 777) (by decide +kernel)⟩
theorem lw_p83 : lw_okq (⟨"ClawCranesModel", "lowestColumn", "()I"⟩, 11) := ⟨⟨by decide +kernel, by decide +kernel⟩, List.mem_of_getElem? (i := 600) (by decide +kernel), List.mem_of_getElem? (i := 780) (by decide +kernel), List.mem_of_getElem? (i := 781) (by decide +kernel)⟩
theorem lw_p84 : lw_okq (⟨"ClawCranesModel", "isPrize", "(I)Z"⟩, 11) := ⟨⟨by decide +kernel, by decide +kernel⟩, List.mem_of_getElem? (i := 600) (by decide +kernel), List.mem_of_getElem? (i := 788) (by decide +kernel), List.mem_of_getElem? (i := 789) (by decide +kernel)⟩
theorem lw_p85 : lw_okq (⟨"ClawCranesModel", "rankOf", "(I)I"⟩, 11) := ⟨⟨by decide +kernel, by decide +kernel⟩, List.mem_of_getElem? (i := 600) (by decide +kernel), List.mem_of_getElem? (i := 804) (by decide +kernel), List.mem_of_getElem? (i := 805) (by decide +kernel)⟩
theorem lw_p86 : lw_okq (⟨"ClawCranesModel", "isAhead", "(II)Z"⟩, 11) := ⟨⟨by decide +kernel, by decide +kernel⟩, List.mem_of_getElem? (i := 600) (by decide +kernel), List.mem_of_getElem? (i := 808) (by decide +kernel), List.mem_of_getElem? (i := 809) (by decide +kernel)⟩
theorem lw_p87 : lw_okq (⟨"ClawCranesModel", "prizesIn", "(I)I"⟩, 11) := ⟨⟨by decide +kernel, by decide +kernel⟩, List.mem_of_getElem? (i := 600) (by decide +kernel), List.mem_of_getElem? (i := 820) (by decide +kernel), List.mem_of_getElem? (i := 821) (by decide +kernel)⟩
theorem lw_p88 : lw_okq (⟨"ClawCranesModel", "emptyColumns", "()I"⟩, 11) := ⟨⟨by decide +kernel, by decide +kernel⟩, List.mem_of_getElem? (i := 600) (by decide +kernel), List.mem_of_getElem? (i := 824) (by decide +kernel), List.mem_of_getElem? (i := 825) (by decide +kernel)⟩
theorem lw_p89 : lw_okq (⟨"ClawCranesModel", "playsFor", "(II)I"⟩, 11) := ⟨⟨by decide +kernel, by decide +kernel⟩, List.mem_of_getElem? (i := 600) (by decide +kernel), List.mem_of_getElem? (i := 849) (by decide +kernel), List.mem_of_getElem? (i := 850) (by decide +kernel)⟩
theorem lw_p90 : lw_okq (⟨"ClawCranesModel", "readPad", "()Z"⟩, 11) := ⟨⟨by decide +kernel, by decide +kernel⟩, List.mem_of_getElem? (i := 600) (by decide +kernel), List.mem_of_getElem? (i := 866) (by decide +kernel), List.mem_of_getElem? (i := 867) (by decide +kernel)⟩
theorem lw_p91 : lw_okq (⟨"ClawCranesModel", "readOrder", "()Z"⟩, 11) := ⟨⟨by decide +kernel, by decide +kernel⟩, List.mem_of_getElem? (i := 600) (by decide +kernel), List.mem_of_getElem? (i := 870) (by decide +kernel), List.mem_of_getElem? (i := 871) (by decide +kernel)⟩
theorem lw_p92 : lw_okq (⟨"ClawCranesModel", "kind", "()I"⟩, 11) := ⟨⟨by decide +kernel, by decide +kernel⟩, List.mem_of_getElem? (i := 600) (by decide +kernel), List.mem_of_getElem? (i := 874) (by decide +kernel), List.mem_of_getElem? (i := 875) (by decide +kernel)⟩
theorem lw_p93 : lw_okq (⟨"ClawCranesModel", "sees", "(II)Z"⟩, 11) := ⟨⟨by decide +kernel, by decide +kernel⟩, List.mem_of_getElem? (i := 600) (by decide +kernel), List.mem_of_getElem? (i := 878) (by decide +kernel), List.mem_of_getElem? (i := 879) (by decide +kernel)⟩
theorem lw_p94 : lw_okq (⟨"ClawCranesModel", "number", "(I)I"⟩, 11) := ⟨⟨by decide +kernel, by decide +kernel⟩, List.mem_of_getElem? (i := 600) (by decide +kernel), List.mem_of_getElem? (i := 882) (by decide +kernel), List.mem_of_getElem? (i := 883) (by decide +kernel)⟩
theorem lw_p95 : lw_okq (⟨"ClawCranesModel", "takes", "(I)Z"⟩, 11) := ⟨⟨by decide +kernel, by decide +kernel⟩, List.mem_of_getElem? (i := 600) (by decide +kernel), List.mem_of_getElem? (i := 886) (by decide +kernel), List.mem_of_getElem? (i := 887) (by decide +kernel)⟩
def lw_privs_6 : List (MethodName × Nat) := [(⟨"ClawCranesModel", "rollsTo", "(I)I"⟩, 11), (⟨"ClawCranesModel", "fillUp", "()V"⟩, 11), (⟨"ClawCranesModel", "many", "(I)I"⟩, 11), (⟨"ClawCranesModel", "lowestColumn", "()I"⟩, 11), (⟨"ClawCranesModel", "isPrize", "(I)Z"⟩, 11), (⟨"ClawCranesModel", "rankOf", "(I)I"⟩, 11), (⟨"ClawCranesModel", "isAhead", "(II)Z"⟩, 11), (⟨"ClawCranesModel", "prizesIn", "(I)I"⟩, 11), (⟨"ClawCranesModel", "emptyColumns", "()I"⟩, 11), (⟨"ClawCranesModel", "playsFor", "(II)I"⟩, 11), (⟨"ClawCranesModel", "readPad", "()Z"⟩, 11), (⟨"ClawCranesModel", "readOrder", "()Z"⟩, 11), (⟨"ClawCranesModel", "kind", "()I"⟩, 11), (⟨"ClawCranesModel", "sees", "(II)Z"⟩, 11), (⟨"ClawCranesModel", "number", "(I)I"⟩, 11), (⟨"ClawCranesModel", "takes", "(I)Z"⟩, 11)]
theorem lw_r6 : ∀ q ∈ lw_privs_6, lw_okq q := List.forall_mem_cons.mpr ⟨lw_p80, List.forall_mem_cons.mpr ⟨lw_p81, List.forall_mem_cons.mpr ⟨lw_p82, List.forall_mem_cons.mpr ⟨lw_p83, List.forall_mem_cons.mpr ⟨lw_p84, List.forall_mem_cons.mpr ⟨lw_p85, List.forall_mem_cons.mpr ⟨lw_p86, List.forall_mem_cons.mpr ⟨lw_p87, List.forall_mem_cons.mpr ⟨lw_p88, List.forall_mem_cons.mpr ⟨lw_p89, List.forall_mem_cons.mpr ⟨lw_p90, List.forall_mem_cons.mpr ⟨lw_p91, List.forall_mem_cons.mpr ⟨lw_p92, List.forall_mem_cons.mpr ⟨lw_p93, List.forall_mem_cons.mpr ⟨lw_p94, List.forall_mem_cons.mpr ⟨lw_p95, fun _ h => absurd h List.not_mem_nil⟩⟩⟩⟩⟩⟩⟩⟩⟩⟩⟩⟩⟩⟩⟩⟩
theorem lw_p96 : lw_okq (⟨"ClawCranesModel", "whyNot", "(I)I"⟩, 11) := ⟨⟨by decide +kernel, by decide +kernel⟩, List.mem_of_getElem? (i := 600) (by decide +kernel), List.mem_of_getElem? (i := 894) (by decide +kernel), List.mem_of_getElem? (i := 895) (by decide +kernel)⟩
theorem lw_p97 : lw_okq (⟨"ClawCranesModel", "doOrder", "(I)V"⟩, 11) := ⟨⟨by decide +kernel, by decide +kernel⟩, List.mem_of_getElem? (i := 600) (by decide +kernel), List.mem_of_getElem? (i := 898) (by decide +kernel), List.mem_of_getElem? (i := 899) (by decide +kernel)⟩
def lw_privs_7 : List (MethodName × Nat) := [(⟨"ClawCranesModel", "whyNot", "(I)I"⟩, 11), (⟨"ClawCranesModel", "doOrder", "(I)V"⟩, 11)]
theorem lw_r7 : ∀ q ∈ lw_privs_7, lw_okq q := List.forall_mem_cons.mpr ⟨lw_p96, List.forall_mem_cons.mpr ⟨lw_p97, fun _ h => absurd h List.not_mem_nil⟩⟩
def lw_privs : List (MethodName × Nat) := lw_privs_1 ++ (lw_privs_2 ++ (lw_privs_3 ++ (lw_privs_4 ++ (lw_privs_5 ++ (lw_privs_6 ++ (lw_privs_7))))))
def lw_tbl : List Cond := k2_sels lw_privs ++ tables_1
theorem lw_privs_ok : ∀ q ∈ lw_privs, lw_okq q := by
  show ∀ q ∈ lw_privs_1 ++ (lw_privs_2 ++ (lw_privs_3 ++ (lw_privs_4 ++ (lw_privs_5 ++ (lw_privs_6 ++ (lw_privs_7)))))), lw_okq q
  exact List.forall_mem_append.mpr ⟨lw_r1, List.forall_mem_append.mpr ⟨lw_r2, List.forall_mem_append.mpr ⟨lw_r3, List.forall_mem_append.mpr ⟨lw_r4, List.forall_mem_append.mpr ⟨lw_r5, List.forall_mem_append.mpr ⟨lw_r6, lw_r7⟩⟩⟩⟩⟩⟩
-- ===== end of PART A; then your names; then what follows =====
def RX0 : String := "ClawCranes$Crane"
def TX0 : u_T := fun k => match k with
  | 0 => ("ClawCranes$Crane", "settings", "[I", true)
  | 1 => ("ClawCranes$Crane", "prizes", "LClawCranes$Prizes;", true)
  | 2 => ("ClawCranes$Crane", "pit", "LClawCranes$Pit;", true)
  | 3 => ("ClawCranes$Crane", "diary", "LClawCranes$Diary;", true)
  | 4 => ("ClawCranes$Crane", "credit", "I", false)
  | 5 => ("ClawCranes$Crane", "paidSincePrize", "I", false)
  | 6 => ("ClawCranes$Crane", "paid", "I", false)
  | 7 => ("ClawCranes$Crane", "plays", "I", false)
  | 8 => ("ClawCranes$Crane", "fullPlays", "I", false)
  | 9 => ("ClawCranes$Crane", "slips", "I", false)
  | _ => ("ClawCranes$Crane", "fillings", "I", false)
def tyX0 : Nat → FieldType := fun k => match k with
  | 0 => .array .int
  | 1 => .object "ClawCranes$Prizes"
  | 2 => .object "ClawCranes$Pit"
  | 3 => .object "ClawCranes$Diary"
  | 4 => .int
  | 5 => .int
  | 6 => .int
  | 7 => .int
  | 8 => .int
  | 9 => .int
  | _ => .int
theorem nmX0 : ∀ a, a < 11 → ∀ b, b < 11 → a ≠ b → (TX0 a).2.1 ≠ (TX0 b).2.1 := by decide +kernel
theorem tyX0_ok : ∀ k, k < 11 → parseFieldDescriptor (TX0 k).2.2.1 = some (tyX0 k) := by decide +kernel
theorem inX0 : ∀ w ∈ u_ws RX0 TX0 11, w ∈ lw_tbl := by decide +kernel
def RX1 : String := "ClawCranes$Diary"
def TX1 : u_T := fun k => match k with
  | 0 => ("ClawCranes$Diary", "rows", "[I", true)
  | 1 => ("ClawCranes$Diary", "size", "I", false)
  | _ => ("ClawCranes$Diary", "latest", "I", false)
def tyX1 : Nat → FieldType := fun k => match k with
  | 0 => .array .int
  | 1 => .int
  | _ => .int
theorem nmX1 : ∀ a, a < 3 → ∀ b, b < 3 → a ≠ b → (TX1 a).2.1 ≠ (TX1 b).2.1 := by decide +kernel
theorem tyX1_ok : ∀ k, k < 3 → parseFieldDescriptor (TX1 k).2.2.1 = some (tyX1 k) := by decide +kernel
theorem inX1 : ∀ w ∈ u_ws RX1 TX1 3, w ∈ lw_tbl := by decide +kernel
def RX2 : String := "ClawCranes$History"
def TX2 : u_T := fun k => match k with
  | 0 => ("ClawCranes$History", "states", "[LClawCranes$Crane;", true)
  | 1 => ("ClawCranes$History", "size", "I", false)
  | _ => ("ClawCranes$History", "spare", "I", false)
def tyX2 : Nat → FieldType := fun k => match k with
  | 0 => .array (.object "ClawCranes$Crane")
  | 1 => .int
  | _ => .int
theorem nmX2 : ∀ a, a < 3 → ∀ b, b < 3 → a ≠ b → (TX2 a).2.1 ≠ (TX2 b).2.1 := by decide +kernel
theorem tyX2_ok : ∀ k, k < 3 → parseFieldDescriptor (TX2 k).2.2.1 = some (tyX2 k) := by decide +kernel
theorem inX2 : ∀ w ∈ u_ws RX2 TX2 3, w ∈ lw_tbl := by decide +kernel
def RX3 : String := "ClawCranes$Pad"
def TX3 : u_T := fun k => match k with
  | 0 => ("ClawCranes$Pad", "signs", "[C", true)
  | 1 => ("ClawCranes$Pad", "length", "I", false)
  | 2 => ("ClawCranes$Pad", "place", "I", false)
  | 3 => ("ClawCranes$Pad", "faulty", "Z", false)
  | 4 => ("ClawCranes$Pad", "letter", "I", false)
  | 5 => ("ClawCranes$Pad", "first", "I", false)
  | 6 => ("ClawCranes$Pad", "second", "I", false)
  | _ => ("ClawCranes$Pad", "third", "I", false)
def tyX3 : Nat → FieldType := fun k => match k with
  | 0 => .array .char
  | 1 => .int
  | 2 => .int
  | 3 => .boolean
  | 4 => .int
  | 5 => .int
  | 6 => .int
  | _ => .int
theorem nmX3 : ∀ a, a < 8 → ∀ b, b < 8 → a ≠ b → (TX3 a).2.1 ≠ (TX3 b).2.1 := by decide +kernel
theorem tyX3_ok : ∀ k, k < 8 → parseFieldDescriptor (TX3 k).2.2.1 = some (tyX3 k) := by decide +kernel
theorem inX3 : ∀ w ∈ u_ws RX3 TX3 8, w ∈ lw_tbl := by decide +kernel
def RX4 : String := "ClawCranes$Pit"
def TX4 : u_T := fun k => match k with
  | 0 => ("ClawCranes$Pit", "cells", "[I", true)
  | _ => ("ClawCranes$Pit", "heights", "[I", true)
def tyX4 : Nat → FieldType := fun k => match k with
  | 0 => .array .int
  | _ => .array .int
theorem nmX4 : ∀ a, a < 2 → ∀ b, b < 2 → a ≠ b → (TX4 a).2.1 ≠ (TX4 b).2.1 := by decide +kernel
theorem tyX4_ok : ∀ k, k < 2 → parseFieldDescriptor (TX4 k).2.2.1 = some (tyX4 k) := by decide +kernel
theorem inX4 : ∀ w ∈ u_ws RX4 TX4 2, w ∈ lw_tbl := by decide +kernel
def RX5 : String := "ClawCranes$Prizes"
def TX5 : u_T := fun k => match k with
  | 0 => ("ClawCranes$Prizes", "kind", "[I", true)
  | 1 => ("ClawCranes$Prizes", "weight", "[I", true)
  | 2 => ("ClawCranes$Prizes", "value", "[I", true)
  | 3 => ("ClawCranes$Prizes", "place", "[I", true)
  | 4 => ("ClawCranes$Prizes", "grips", "[I", true)
  | 5 => ("ClawCranes$Prizes", "came", "I", false)
  | _ => ("ClawCranes$Prizes", "leftStore", "I", false)
def tyX5 : Nat → FieldType := fun k => match k with
  | 0 => .array .int
  | 1 => .array .int
  | 2 => .array .int
  | 3 => .array .int
  | 4 => .array .int
  | 5 => .int
  | _ => .int
theorem nmX5 : ∀ a, a < 7 → ∀ b, b < 7 → a ≠ b → (TX5 a).2.1 ≠ (TX5 b).2.1 := by decide +kernel
theorem tyX5_ok : ∀ k, k < 7 → parseFieldDescriptor (TX5 k).2.2.1 = some (tyX5 k) := by decide +kernel
theorem inX5 : ∀ w ∈ u_ws RX5 TX5 7, w ∈ lw_tbl := by decide +kernel
def RX6 : String := "ClawCranes"
def TX6 : u_T := fun k => match k with
  | 0 => ("ClawCranes", "crane", "LClawCranes$Crane;", true)
  | 1 => ("ClawCranes", "slots", "[LClawCranes$Crane;", true)
  | 2 => ("ClawCranes", "saved", "[Z", true)
  | 3 => ("ClawCranes", "history", "LClawCranes$History;", true)
  | _ => ("ClawCranes", "pad", "LClawCranes$Pad;", true)
def tyX6 : Nat → FieldType := fun k => match k with
  | 0 => .object "ClawCranes$Crane"
  | 1 => .array (.object "ClawCranes$Crane")
  | 2 => .array .boolean
  | 3 => .object "ClawCranes$History"
  | _ => .object "ClawCranes$Pad"
theorem nmX6 : ∀ a, a < 5 → ∀ b, b < 5 → a ≠ b → (TX6 a).2.1 ≠ (TX6 b).2.1 := by decide +kernel
theorem tyX6_ok : ∀ k, k < 5 → parseFieldDescriptor (TX6 k).2.2.1 = some (tyX6 k) := by decide +kernel
theorem inX6 : ∀ w ∈ u_ws RX6 TX6 5, w ∈ lw_tbl := by decide +kernel
def RX7 : String := "ClawCranesModel"
def TX7 : u_T := fun k => match k with
  | 0 => ("ClawCranesModel", "z", "[I", true)
  | 1 => ("ClawCranesModel", "spare", "[I", true)
  | 2 => ("ClawCranesModel", "past", "[I", true)
  | 3 => ("ClawCranesModel", "states", "I", false)
  | 4 => ("ClawCranesModel", "slots", "[I", true)
  | 5 => ("ClawCranesModel", "isSaved", "[Z", true)
  | 6 => ("ClawCranesModel", "pad", "[I", true)
  | 7 => ("ClawCranesModel", "typed", "I", false)
  | 8 => ("ClawCranesModel", "spot", "I", false)
  | 9 => ("ClawCranesModel", "told", "[I", true)
  | _ => ("ClawCranesModel", "toldMany", "I", false)
def tyX7 : Nat → FieldType := fun k => match k with
  | 0 => .array .int
  | 1 => .array .int
  | 2 => .array .int
  | 3 => .int
  | 4 => .array .int
  | 5 => .array .boolean
  | 6 => .array .int
  | 7 => .int
  | 8 => .int
  | 9 => .array .int
  | _ => .int
theorem nmX7 : ∀ a, a < 11 → ∀ b, b < 11 → a ≠ b → (TX7 a).2.1 ≠ (TX7 b).2.1 := by decide +kernel
theorem tyX7_ok : ∀ k, k < 11 → parseFieldDescriptor (TX7 k).2.2.1 = some (tyX7 k) := by decide +kernel
theorem inX7 : ∀ w ∈ u_ws RX7 TX7 11, w ∈ lw_tbl := by decide +kernel
abbrev vwCl : List vw_C := [(RX0, TX0, 11), (RX1, TX1, 3), (RX2, TX2, 3), (RX3, TX3, 8), (RX4, TX4, 2), (RX5, TX5, 7), (RX6, TX6, 5), (RX7, TX7, 11)]
def nmO : Nat → String | 0 => "ClawCranes$Crane" | 1 => "ClawCranes$Diary" | 2 => "ClawCranes$History" | 3 => "ClawCranes$Pad" | 4 => "ClawCranes$Pit" | 5 => "ClawCranes$Prizes" | 6 => "ClawCranes" | 7 => "ClawCranesModel" | 8 => "ClawCranesLaw" | _ => "java/lang/Integer"
abbrev Mr : Type := MethodName × ByteArray × Nat × Option FieldType × Nat
def mrL0 : List Mr := [(⟨"ClawCranes$Crane", "<init>", "()V"⟩, prog_2_method_1_code, 1, none, 0),
  (⟨"ClawCranes$Crane", "copyFrom", "(LClawCranes$Crane;)V"⟩, prog_2_method_2_code, 2, none, 0),
  (⟨"ClawCranes$Crane", "changeSetting", "(II)I"⟩, prog_2_method_3_code, 4, (some .int), 0),
  (⟨"ClawCranes$Crane", "takePrize", "(III)I"⟩, prog_2_method_4_code, 5, (some .int), 0),
  (⟨"ClawCranes$Crane", "addToColumn", "(I)I"⟩, prog_2_method_5_code, 3, (some .int), 0),
  (⟨"ClawCranes$Crane", "takeCoins", "(I)I"⟩, prog_2_method_6_code, 2, (some .int), 0),
  (⟨"ClawCranes$Crane", "playForCredit", "(II)I"⟩, prog_2_method_7_code, 4, (some .int), 0),
  (⟨"ClawCranes$Crane", "pull", "(II)I"⟩, prog_2_method_8_code, 6, (some .int), 0),
  (⟨"ClawCranes$Crane", "pay", "(Z)V"⟩, prog_2_method_9_code, 2, none, 0),
  (⟨"ClawCranes$Crane", "moveGripped", "(III)V"⟩, prog_2_method_10_code, 5, none, 0),
  (⟨"ClawCranes$Crane", "fillUp", "()V"⟩, prog_2_method_11_code, 4, none, 0),
  (⟨"ClawCranes$Crane", "outcome", "(II)I"⟩, prog_2_method_12_code, 5, (some .int), 0),
  (⟨"ClawCranes$Crane", "grip", "(I)I"⟩, prog_2_method_13_code, 3, (some .int), 0),
  (⟨"ClawCranes$Crane", "nextGripIsFull", "()Z"⟩, prog_2_method_14_code, 1, (some .boolean), 0),
  (⟨"ClawCranes$Crane", "loadOfTop", "(II)I"⟩, prog_2_method_15_code, 5, (some .int), 0),
  (⟨"ClawCranes$Crane", "playsUntilFull", "()I"⟩, prog_2_method_16_code, 4, (some .int), 0),
  (⟨"ClawCranes$Crane", "valueIfWon", "(I)I"⟩, prog_2_method_17_code, 3, (some .int), 0),
  (⟨"ClawCranes$Crane", "coinsToWin", "(I)I"⟩, prog_2_method_18_code, 3, (some .int), 0),
  (⟨"ClawCranes$Diary", "<init>", "()V"⟩, prog_3_method_1_code, 1, none, 1),
  (⟨"ClawCranes$Diary", "copyFrom", "(LClawCranes$Diary;)V"⟩, prog_3_method_2_code, 2, none, 1),
  (⟨"ClawCranes$Diary", "write", "(IIIZ)V"⟩, prog_3_method_3_code, 6, none, 1),
  (⟨"ClawCranes$Diary", "tell", "(II)I"⟩, prog_3_method_4_code, 4, (some .int), 1),
  (⟨"ClawCranes$History", "<init>", "()V"⟩, prog_4_method_1_code, 2, none, 2),
  (⟨"ClawCranes$History", "note", "(LClawCranes$Crane;)V"⟩, prog_4_method_2_code, 2, none, 2),
  (⟨"ClawCranes$History", "keepNoted", "()V"⟩, prog_4_method_3_code, 1, none, 2),
  (⟨"ClawCranes$History", "stepBack", "(LClawCranes$Crane;)V"⟩, prog_4_method_4_code, 2, none, 2),
  (⟨"ClawCranes$Pad", "<init>", "()V"⟩, prog_5_method_1_code, 1, none, 3)]
def mpL0 : List Nat := [122, 331, 350, 373, 385, 408, 416, 424, 457, 466, 474, 428, 436, 440, 444, 573, 584, 592, 183, 345, 461, 507, 251, 327, 362, 684, 271]
theorem mcL0 : mpL0.map (fun i => lw_tbl[i]?) = mrL0.map (fun M => some (Cond.code M.1 M.2.1 M.2.2.1 M.2.2.2.1)) := by decide +kernel
def mrL1 : List Mr := [(⟨"ClawCranes$Pad", "signsIn", "(J)I"⟩, prog_5_method_2_code, 7, (some .int), 3),
  (⟨"ClawCranes$Pad", "append", "(JI)V"⟩, prog_5_method_3_code, 5, none, 3),
  (⟨"ClawCranes$Pad", "begin", "()V"⟩, prog_5_method_4_code, 1, none, 3),
  (⟨"ClawCranes$Pad", "firstFault", "()I"⟩, prog_5_method_5_code, 2, (some .int), 3),
  (⟨"ClawCranes$Pad", "nextOrder", "()Z"⟩, prog_5_method_6_code, 1, (some .boolean), 3),
  (⟨"ClawCranes$Pad", "readCoins", "()V"⟩, prog_5_method_7_code, 1, none, 3),
  (⟨"ClawCranes$Pad", "readPlay", "()V"⟩, prog_5_method_8_code, 1, none, 3),
  (⟨"ClawCranes$Pad", "readPrize", "()V"⟩, prog_5_method_9_code, 1, none, 3),
  (⟨"ClawCranes$Pad", "readAdding", "()V"⟩, prog_5_method_10_code, 1, none, 3),
  (⟨"ClawCranes$Pad", "kind", "()I"⟩, prog_5_method_11_code, 1, (some .int), 3),
  (⟨"ClawCranes$Pad", "number", "()I"⟩, prog_5_method_12_code, 2, (some .int), 3),
  (⟨"ClawCranes$Pad", "digit", "()I"⟩, prog_5_method_13_code, 2, (some .int), 3),
  (⟨"ClawCranes$Pad", "isDigit", "(I)Z"⟩, prog_5_method_14_code, 1, (some .boolean), 3),
  (⟨"ClawCranes$Pad", "expect", "(I)V"⟩, prog_5_method_15_code, 2, none, 3),
  (⟨"ClawCranes$Pad", "here", "()I"⟩, prog_5_method_16_code, 1, (some .int), 3),
  (⟨"ClawCranes$Pit", "<init>", "()V"⟩, prog_6_method_1_code, 1, none, 4),
  (⟨"ClawCranes$Pit", "copyFrom", "(LClawCranes$Pit;)V"⟩, prog_6_method_2_code, 2, none, 4),
  (⟨"ClawCranes$Pit", "prizeAt", "(II)I"⟩, prog_6_method_3_code, 3, (some .int), 4),
  (⟨"ClawCranes$Pit", "top", "(I)I"⟩, prog_6_method_4_code, 3, (some .int), 4),
  (⟨"ClawCranes$Pit", "spotOf", "(I)I"⟩, prog_6_method_5_code, 4, (some .int), 4),
  (⟨"ClawCranes$Pit", "lay", "(II)V"⟩, prog_6_method_6_code, 3, none, 4),
  (⟨"ClawCranes$Pit", "lift", "(I)V"⟩, prog_6_method_7_code, 2, none, 4),
  (⟨"ClawCranes$Pit", "prizesInAll", "()I"⟩, prog_6_method_8_code, 3, (some .int), 4),
  (⟨"ClawCranes$Pit", "lowestColumn", "()I"⟩, prog_6_method_9_code, 3, (some .int), 4),
  (⟨"ClawCranes$Pit", "emptyColumns", "()I"⟩, prog_6_method_10_code, 3, (some .int), 4),
  (⟨"ClawCranes$Pit", "rollTarget", "(I)I"⟩, prog_6_method_11_code, 4, (some .int), 4),
  (⟨"ClawCranes$Pit", "heightOrWall", "(I)I"⟩, prog_6_method_12_code, 2, (some .int), 4)]
def mpL1 : List Nat := [600, 607, 623, 619, 627, 639, 654, 658, 666, 662, 643, 647, 650, 631, 635, 169, 340, 494, 432, 490, 400, 470, 478, 482, 553, 448, 452]
theorem mcL1 : mpL1.map (fun i => lw_tbl[i]?) = mrL1.map (fun M => some (Cond.code M.1 M.2.1 M.2.2.1 M.2.2.2.1)) := by decide +kernel
def mrL2 : List Mr := [(⟨"ClawCranes$Prizes", "<init>", "()V"⟩, prog_7_method_1_code, 1, none, 5),
  (⟨"ClawCranes$Prizes", "copyFrom", "(LClawCranes$Prizes;)V"⟩, prog_7_method_2_code, 2, none, 5),
  (⟨"ClawCranes$Prizes", "come", "(III)I"⟩, prog_7_method_3_code, 5, (some .int), 5),
  (⟨"ClawCranes$Prizes", "storeIsEmpty", "()Z"⟩, prog_7_method_4_code, 1, (some .boolean), 5),
  (⟨"ClawCranes$Prizes", "leaveStore", "()I"⟩, prog_7_method_5_code, 2, (some .int), 5),
  (⟨"ClawCranes$Prizes", "setIn", "(I)I"⟩, prog_7_method_6_code, 4, (some .int), 5),
  (⟨"ClawCranes$Prizes", "valueWon", "()I"⟩, prog_7_method_7_code, 3, (some .int), 5),
  (⟨"ClawCranes$Prizes", "inPitUpTo", "(I)I"⟩, prog_7_method_8_code, 4, (some .int), 5),
  (⟨"ClawCranes$Prizes", "inPitByValue", "(I)I"⟩, prog_7_method_9_code, 3, (some .int), 5),
  (⟨"ClawCranes$Prizes", "rankInPit", "(I)I"⟩, prog_7_method_10_code, 4, (some .int), 5),
  (⟨"ClawCranes$Prizes", "isBefore", "(II)Z"⟩, prog_7_method_11_code, 3, (some .boolean), 5),
  (⟨"ClawCranes", "<init>", "()V"⟩, prog_1_method_1_code, 2, none, 6),
  (⟨"ClawCranes", "set", "(II)I"⟩, prog_1_method_2_code, 3, (some .int), 6),
  (⟨"ClawCranes", "prize", "(III)I"⟩, prog_1_method_3_code, 4, (some .int), 6),
  (⟨"ClawCranes", "add", "(I)I"⟩, prog_1_method_4_code, 2, (some .int), 6),
  (⟨"ClawCranes", "coins", "(I)I"⟩, prog_1_method_5_code, 2, (some .int), 6),
  (⟨"ClawCranes", "play", "(II)I"⟩, prog_1_method_6_code, 3, (some .int), 6),
  (⟨"ClawCranes", "recorded", "(I)I"⟩, prog_1_method_7_code, 2, (some .int), 6),
  (⟨"ClawCranes", "of", "(II)I"⟩, prog_1_method_8_code, 3, (some .int), 6),
  (⟨"ClawCranes", "at", "(II)I"⟩, prog_1_method_9_code, 3, (some .int), 6),
  (⟨"ClawCranes", "book", "(II)I"⟩, prog_1_method_10_code, 3, (some .int), 6),
  (⟨"ClawCranes", "byValue", "(I)I"⟩, prog_1_method_11_code, 2, (some .int), 6),
  (⟨"ClawCranes", "lighter", "(I)I"⟩, prog_1_method_12_code, 2, (some .int), 6),
  (⟨"ClawCranes", "count", "(I)I"⟩, prog_1_method_13_code, 2, (some .int), 6),
  (⟨"ClawCranes", "ifPlayed", "(II)I"⟩, prog_1_method_14_code, 4, (some .int), 6),
  (⟨"ClawCranes", "load", "(II)I"⟩, prog_1_method_15_code, 4, (some .int), 6),
  (⟨"ClawCranes", "untilFull", "()I"⟩, prog_1_method_16_code, 1, (some .int), 6)]
def mpL2 : List Nat := [128, 335, 377, 392, 396, 539, 549, 531, 515, 519, 523, 114, 323, 369, 381, 404, 412, 358, 486, 498, 503, 511, 527, 535, 557, 563, 569]
theorem mcL2 : mpL2.map (fun i => lw_tbl[i]?) = mrL2.map (fun M => some (Cond.code M.1 M.2.1 M.2.2.1 M.2.2.2.1)) := by decide +kernel
def mrL3 : List Mr := [(⟨"ClawCranes", "bestColumn", "()I"⟩, prog_1_method_17_code, 5, (some .int), 6),
  (⟨"ClawCranes", "costs", "(I)I"⟩, prog_1_method_18_code, 2, (some .int), 6),
  (⟨"ClawCranes", "put", "(J)I"⟩, prog_1_method_19_code, 4, (some .int), 6),
  (⟨"ClawCranes", "wipe", "()I"⟩, prog_1_method_20_code, 2, (some .int), 6),
  (⟨"ClawCranes", "fault", "()I"⟩, prog_1_method_21_code, 1, (some .int), 6),
  (⟨"ClawCranes", "carryOut", "()I"⟩, prog_1_method_22_code, 2, (some .int), 6),
  (⟨"ClawCranes", "carriedOrder", "()I"⟩, prog_1_method_23_code, 1, (some .int), 6),
  (⟨"ClawCranes", "undo", "()I"⟩, prog_1_method_24_code, 1, (some .int), 6),
  (⟨"ClawCranes", "save", "(I)I"⟩, prog_1_method_25_code, 2, (some .int), 6),
  (⟨"ClawCranes", "restore", "(I)I"⟩, prog_1_method_26_code, 2, (some .int), 6),
  (⟨"ClawCranes", "isSlot", "(I)Z"⟩, prog_1_method_27_code, 1, (some .boolean), 6),
  (⟨"ClawCranes", "isColumn", "(I)Z"⟩, prog_1_method_28_code, 1, (some .boolean), 6),
  (⟨"ClawCranes", "errorOfAim", "(II)I"⟩, prog_1_method_29_code, 2, (some .int), 6),
  (⟨"ClawCranesModel", "<init>", "()V"⟩, prog_9_method_1_code, 1, none, 7),
  (⟨"ClawCranesModel", "in", "(III)Z"⟩, prog_9_method_2_code, 3, (some .boolean), 7),
  (⟨"ClawCranesModel", "isColumn", "(I)Z"⟩, prog_9_method_3_code, 1, (some .boolean), 7),
  (⟨"ClawCranesModel", "of1", "(II)I"⟩, prog_9_method_4_code, 3, (some .int), 7),
  (⟨"ClawCranesModel", "lay", "(III)V"⟩, prog_9_method_5_code, 4, none, 7),
  (⟨"ClawCranesModel", "isPrize", "(I)Z"⟩, prog_9_method_6_code, 2, (some .boolean), 7),
  (⟨"ClawCranesModel", "copyState", "([II[II)V"⟩, prog_9_method_7_code, 5, none, 7),
  (⟨"ClawCranesModel", "record", "()V"⟩, prog_9_method_8_code, 2, none, 7),
  (⟨"ClawCranesModel", "undo", "()I"⟩, prog_9_method_9_code, 1, (some .int), 7),
  (⟨"ClawCranesModel", "save", "(I)I"⟩, prog_9_method_10_code, 2, (some .int), 7),
  (⟨"ClawCranesModel", "restore", "(I)I"⟩, prog_9_method_11_code, 2, (some .int), 7),
  (⟨"ClawCranesModel", "sizeOf", "(I)I"⟩, prog_9_method_12_code, 4, (some .int), 7),
  (⟨"ClawCranesModel", "prizeAt", "(I)I"⟩, prog_9_method_13_code, 4, (some .int), 7),
  (⟨"ClawCranesModel", "top", "(I)I"⟩, prog_9_method_14_code, 3, (some .int), 7)]
def mpL3 : List Nat := [580, 588, 597, 611, 615, 670, 676, 680, 688, 696, 691, 388, 419, 701, 750, 796, 804, 781, 888, 743, 758, 740, 747, 754, 808, 844, 840]
theorem mcL3 : mpL3.map (fun i => lw_tbl[i]?) = mrL3.map (fun M => some (Cond.code M.1 M.2.1 M.2.2.1 M.2.2.2.1)) := by decide +kernel
def mrL4 : List Mr := [(⟨"ClawCranesModel", "prizesIn", "(I)I"⟩, prog_9_method_15_code, 4, (some .int), 7),
  (⟨"ClawCranesModel", "many", "(I)I"⟩, prog_9_method_16_code, 4, (some .int), 7),
  (⟨"ClawCranesModel", "nextOfStore", "()I"⟩, prog_9_method_17_code, 2, (some .int), 7),
  (⟨"ClawCranesModel", "put", "(II)V"⟩, prog_9_method_18_code, 4, none, 7),
  (⟨"ClawCranesModel", "take", "(II)V"⟩, prog_9_method_19_code, 3, none, 7),
  (⟨"ClawCranesModel", "lowestColumn", "()I"⟩, prog_9_method_20_code, 3, (some .int), 7),
  (⟨"ClawCranesModel", "isValue", "(II)Z"⟩, prog_9_method_21_code, 2, (some .boolean), 7),
  (⟨"ClawCranesModel", "set", "(II)I"⟩, prog_9_method_22_code, 4, (some .int), 7),
  (⟨"ClawCranesModel", "whyNotPrize", "(III)I"⟩, prog_9_method_23_code, 4, (some .int), 7),
  (⟨"ClawCranesModel", "prizeNow", "(III)V"⟩, prog_9_method_24_code, 5, none, 7),
  (⟨"ClawCranesModel", "prize", "(III)I"⟩, prog_9_method_25_code, 5, (some .int), 7),
  (⟨"ClawCranesModel", "whyNotAdd", "(I)I"⟩, prog_9_method_26_code, 2, (some .int), 7),
  (⟨"ClawCranesModel", "add", "(I)I"⟩, prog_9_method_27_code, 4, (some .int), 7),
  (⟨"ClawCranesModel", "whyNotCoins", "(I)I"⟩, prog_9_method_28_code, 2, (some .int), 7),
  (⟨"ClawCranesModel", "coins", "(I)I"⟩, prog_9_method_29_code, 3, (some .int), 7),
  (⟨"ClawCranesModel", "loadOf", "(III)I"⟩, prog_9_method_30_code, 5, (some .int), 7),
  (⟨"ClawCranesModel", "isFull", "(I)Z"⟩, prog_9_method_31_code, 2, (some .boolean), 7),
  (⟨"ClawCranesModel", "wins", "(IIII)Z"⟩, prog_9_method_32_code, 6, (some .boolean), 7),
  (⟨"ClawCranesModel", "rollsTo", "(I)I"⟩, prog_9_method_33_code, 5, (some .int), 7),
  (⟨"ClawCranesModel", "rolls", "(II)Z"⟩, prog_9_method_34_code, 3, (some .boolean), 7),
  (⟨"ClawCranesModel", "book", "(IIII)V"⟩, prog_9_method_35_code, 6, none, 7),
  (⟨"ClawCranesModel", "fillUp", "()V"⟩, prog_9_method_36_code, 2, none, 7),
  (⟨"ClawCranesModel", "playNow", "(II)I"⟩, prog_9_method_37_code, 7, (some .int), 7),
  (⟨"ClawCranesModel", "roll", "(II)V"⟩, prog_9_method_38_code, 3, none, 7),
  (⟨"ClawCranesModel", "whyNotPlay", "(II)I"⟩, prog_9_method_39_code, 3, (some .int), 7),
  (⟨"ClawCranesModel", "play", "(II)I"⟩, prog_9_method_40_code, 4, (some .int), 7),
  (⟨"ClawCranesModel", "of", "(II)I"⟩, prog_9_method_41_code, 3, (some .int), 7)]
def mpL4 : List Nat := [920, 876, 800, 812, 785, 880, 765, 762, 773, 777, 769, 793, 789, 820, 816, 856, 836, 852, 868, 864, 848, 872, 832, 860, 828, 824, 884]
theorem mcL4 : mpL4.map (fun i => lw_tbl[i]?) = mrL4.map (fun M => some (Cond.code M.1 M.2.1 M.2.2.1 M.2.2.2.1)) := by decide +kernel
def mrL5 : List Mr := [(⟨"ClawCranesModel", "at", "(II)I"⟩, prog_9_method_42_code, 3, (some .int), 7),
  (⟨"ClawCranesModel", "book", "(II)I"⟩, prog_9_method_43_code, 3, (some .int), 7),
  (⟨"ClawCranesModel", "isAhead", "(II)Z"⟩, prog_9_method_44_code, 4, (some .boolean), 7),
  (⟨"ClawCranesModel", "rankOf", "(I)I"⟩, prog_9_method_45_code, 4, (some .int), 7),
  (⟨"ClawCranesModel", "byValue", "(I)I"⟩, prog_9_method_46_code, 4, (some .int), 7),
  (⟨"ClawCranesModel", "lighter", "(I)I"⟩, prog_9_method_47_code, 4, (some .int), 7),
  (⟨"ClawCranesModel", "emptyColumns", "()I"⟩, prog_9_method_48_code, 3, (some .int), 7),
  (⟨"ClawCranesModel", "count", "(I)I"⟩, prog_9_method_49_code, 2, (some .int), 7),
  (⟨"ClawCranesModel", "ifPlayed", "(II)I"⟩, prog_9_method_50_code, 4, (some .int), 7),
  (⟨"ClawCranesModel", "load", "(II)I"⟩, prog_9_method_51_code, 4, (some .int), 7),
  (⟨"ClawCranesModel", "untilFull", "()I"⟩, prog_9_method_52_code, 2, (some .int), 7),
  (⟨"ClawCranesModel", "bestColumn", "()I"⟩, prog_9_method_53_code, 6, (some .int), 7),
  (⟨"ClawCranesModel", "playsFor", "(II)I"⟩, prog_9_method_54_code, 4, (some .int), 7),
  (⟨"ClawCranesModel", "costs", "(I)I"⟩, prog_9_method_55_code, 4, (some .int), 7),
  (⟨"ClawCranesModel", "put", "(J)I"⟩, prog_9_method_56_code, 7, (some .int), 7),
  (⟨"ClawCranesModel", "wipe", "()I"⟩, prog_9_method_57_code, 2, (some .int), 7),
  (⟨"ClawCranesModel", "sees", "(II)Z"⟩, prog_9_method_58_code, 3, (some .boolean), 7),
  (⟨"ClawCranesModel", "takes", "(I)Z"⟩, prog_9_method_59_code, 3, (some .boolean), 7),
  (⟨"ClawCranesModel", "number", "(I)I"⟩, prog_9_method_60_code, 3, (some .int), 7),
  (⟨"ClawCranesModel", "kind", "()I"⟩, prog_9_method_61_code, 2, (some .int), 7),
  (⟨"ClawCranesModel", "readOrder", "()Z"⟩, prog_9_method_62_code, 5, (some .boolean), 7),
  (⟨"ClawCranesModel", "readPad", "()Z"⟩, prog_9_method_63_code, 2, (some .boolean), 7),
  (⟨"ClawCranesModel", "fault", "()I"⟩, prog_9_method_64_code, 1, (some .int), 7),
  (⟨"ClawCranesModel", "whyNot", "(I)I"⟩, prog_9_method_65_code, 3, (some .int), 7),
  (⟨"ClawCranesModel", "doOrder", "(I)V"⟩, prog_9_method_66_code, 3, none, 7),
  (⟨"ClawCranesModel", "carryOut", "()I"⟩, prog_9_method_67_code, 2, (some .int), 7),
  (⟨"java/lang/Integer", "bitCount", "(I)I"⟩, prog_10_method_49_code, 1, (some .int), 9)]
def mpL5 : List Nat := [892, 896, 908, 904, 900, 912, 924, 916, 928, 932, 936, 940, 949, 945, 953, 958, 978, 986, 982, 974, 970, 966, 962, 994, 998, 990, 542]
theorem mcL5 : mpL5.map (fun i => lw_tbl[i]?) = mrL5.map (fun M => some (Cond.code M.1 M.2.1 M.2.2.1 M.2.2.2.1)) := by decide +kernel
def mrL : List Mr := mrL0 ++ (mrL1 ++ (mrL2 ++ (mrL3 ++ (mrL4 ++ (mrL5)))))
def mpL : List Nat := mpL0 ++ (mpL1 ++ (mpL2 ++ (mpL3 ++ (mpL4 ++ (mpL5)))))
def mr (k : Nat) : Mr := (mrL[k]?).getD (⟨"", "", ""⟩, ⟨#[]⟩, 0, none, 0)
def fTbl : List ((Nat × Nat) × (Nat × Nat × Bool)) := [((0, 9), (0, 0, false)), ((0, 18), (0, 1, false)), ((0, 25), (0, 2, false)), ((0, 32), (0, 3, false)), ((0, 55), (0, 4, false)), ((0, 59), (0, 5, false)), ((0, 62), (0, 6, false)), ((0, 65), (0, 7, false)), ((0, 68), (0, 8, false)), ((0, 71), (0, 9, false)), ((0, 74), (0, 10, false)), ((0, 83), (5, 5, true)), ((0, 98), (4, 1, true)), ((0, 134), (5, 4, true)), ((0, 148), (5, 3, true)), ((0, 166), (5, 0, true)), ((0, 169), (5, 1, true)), ((0, 177), (5, 2, true)), ((1, 9), (1, 0, false)), ((1, 21), (1, 1, false)), ((1, 25), (1, 2, false)), ((2, 11), (2, 0, false)), ((2, 18), (2, 2, false)), ((2, 26), (2, 1, false)), ((3, 9), (3, 0, false)), ((3, 21), (3, 1, false)), ((3, 25), (3, 2, false)), ((3, 28), (3, 3, false)), ((3, 47), (3, 4, false)), ((3, 65), (3, 5, false)), ((3, 71), (3, 6, false)), ((3, 77), (3, 7, false)), ((4, 9), (4, 0, false)), ((4, 15), (4, 1, false)), ((5, 9), (5, 0, false)), ((5, 15), (5, 1, false)), ((5, 18), (5, 2, false)), ((5, 21), (5, 3, false)), ((5, 24), (5, 4, false)), ((5, 33), (5, 5, false)), ((5, 37), (5, 6, false)), ((6, 10), (6, 0, false)), ((6, 16), (6, 1, false)), ((6, 20), (6, 2, false)), ((6, 27), (6, 3, false)), ((6, 34), (6, 4, false)), ((6, 66), (0, 1, true)), ((6, 70), (5, 5, true)), ((6, 76), (5, 0, true)), ((6, 80), (5, 1, true)), ((6, 83), (5, 2, true)), ((6, 86), (5, 3, true)), ((6, 89), (0, 2, true)), ((6, 98), (5, 4, true)), ((6, 108), (0, 3, true)), ((6, 112), (1, 1, true)), ((6, 126), (0, 0, true)), ((6, 129), (0, 4, true)), ((6, 132), (0, 5, true)), ((6, 135), (0, 6, true)), ((6, 138), (0, 7, true)), ((6, 141), (0, 8, true)), ((6, 152), (0, 9, true)), ((6, 162), (0, 10, true)), ((6, 165), (3, 1, true)), ((6, 168), (2, 1, true)), ((6, 211), (3, 4, true)), ((6, 214), (3, 5, true)), ((6, 217), (3, 6, true)), ((6, 220), (3, 7, true)), ((7, 7), (7, 0, false)), ((7, 13), (7, 1, false)), ((7, 16), (7, 2, false)), ((7, 19), (7, 4, false)), ((7, 22), (7, 5, false)), ((7, 26), (7, 6, false)), ((7, 29), (7, 9, false)), ((7, 36), (7, 3, false)), ((7, 150), (7, 7, false)), ((7, 161), (7, 8, false)), ((7, 176), (7, 10, false))]
def mTbP0 : List (((Nat × Nat) × (Nat × Nat × Nat)) × List Nat) := [(((0, 3), (0, 9, 1)), [123, 116, 117]), (((0, 17), (54, 3, 1)), [126, 127, 101]), (((0, 24), (42, 3, 1)), [167, 168, 102]), (((0, 31), (18, 3, 1)), [181, 182, 103]), (((0, 39), (0, 10, 5)), [198, 200, 199, 104]), (((0, 45), (55, 5, 2)), [332, 334, 2, 101]), (((0, 49), (43, 5, 2)), [337, 339, 3, 102]), (((0, 52), (19, 5, 2)), [342, 344, 4, 103]), (((0, 86), (56, 5, 4)), [374, 376, 9, 101]), (((0, 90), (92, 1, 1)), [386, 387, 99]), (((0, 94), (57, 5, 1)), [389, 391, 11, 101]), (((0, 101), (58, 5, 1)), [393, 395, 12, 101]), (((0, 105), (47, 5, 3)), [397, 399, 13, 102]), (((0, 109), (93, 1, 2)), [417, 418, 99]), (((0, 113), (7, 4, 3)), [421, 423, 16, 100]), (((0, 116), (11, 4, 3)), [425, 427, 17, 100]), (((0, 119), (45, 5, 2)), [429, 431, 18, 102]), (((0, 123), (13, 4, 1)), [437, 439, 20, 100]), (((0, 126), (8, 4, 2)), [454, 456, 24, 100]), (((0, 130), (20, 5, 5)), [458, 460, 25, 103]), (((0, 137), (9, 4, 4)), [463, 465, 26, 100]), (((0, 141), (10, 4, 1)), [471, 473, 28, 100]), (((0, 144), (48, 5, 2)), [467, 469, 27, 102]), (((0, 151), (52, 5, 2)), [445, 447, 22, 102]), (((0, 154), (49, 5, 1)), [475, 477, 29, 102]), (((0, 157), (50, 5, 1)), [479, 481, 30, 102]), (((0, 160), (12, 4, 2)), [433, 435, 19, 100]), (((0, 163), (14, 4, 3)), [441, 443, 21, 100]), (((0, 172), (0, 11, 2)), [574, 575, 108, 576]), (((0, 180), (15, 4, 1)), [593, 572, 41, 100])]
def mTbP1 : List (((Nat × Nat) × (Nat × Nat × Nat)) × List Nat) := [(((1, 3), (0, 9, 1)), [184, 116, 117]), (((1, 15), (0, 10, 5)), [346, 200, 199, 104]), (((1, 28), (0, 12, 2)), [462, 364, 108, 365]), (((2, 3), (0, 9, 1)), [252, 116, 117]), (((2, 17), (0, 3, 1)), [254, 121, 100]), (((2, 22), (1, 5, 2)), [328, 330, 1, 100]), (((2, 29), (0, 12, 2)), [363, 364, 108, 365]), (((3, 3), (0, 9, 1)), [272, 116, 117]), (((3, 32), (29, 4, 1)), [620, 622, 46, 106]), (((3, 35), (31, 4, 1)), [624, 626, 47, 106]), (((3, 39), (40, 4, 2)), [628, 630, 48, 106]), (((3, 43), (41, 4, 1)), [632, 634, 49, 106]), (((3, 50), (32, 4, 1)), [636, 638, 50, 106]), (((3, 53), (33, 4, 1)), [651, 653, 53, 106]), (((3, 56), (34, 4, 1)), [655, 657, 54, 106]), (((3, 59), (35, 4, 1)), [663, 665, 56, 106]), (((3, 62), (37, 4, 1)), [640, 642, 51, 106]), (((3, 68), (38, 4, 1)), [644, 646, 52, 106]), (((3, 74), (36, 4, 1)), [659, 661, 55, 106]), (((3, 80), (39, 0, 1)), [648, 649, 106]), (((4, 3), (0, 9, 1)), [170, 116, 117]), (((4, 18), (0, 10, 5)), [341, 200, 199, 104]), (((4, 24), (44, 4, 3)), [491, 493, 32, 102]), (((4, 28), (53, 4, 2)), [449, 451, 23, 102]), (((4, 32), (0, 12, 2)), [453, 364, 108, 365]), (((5, 3), (0, 9, 1)), [129, 116, 117]), (((5, 27), (0, 10, 5)), [336, 200, 199, 104]), (((5, 40), (63, 4, 2)), [516, 518, 35, 101]), (((5, 44), (64, 4, 3)), [520, 522, 36, 101]), (((6, 1), (0, 9, 1)), [115, 116, 117])]
def mTbP2 : List (((Nat × Nat) × (Nat × Nat × Nat)) × List Nat) := [(((6, 9), (0, 3, 1)), [120, 121, 100]), (((6, 26), (22, 3, 1)), [249, 250, 105]), (((6, 33), (26, 3, 1)), [269, 270, 106]), (((6, 38), (23, 5, 2)), [324, 326, 0, 105]), (((6, 42), (2, 5, 3)), [347, 349, 5, 100]), (((6, 46), (71, 4, 2)), [355, 357, 6, 99]), (((6, 50), (3, 5, 4)), [370, 372, 8, 100]), (((6, 54), (4, 5, 2)), [382, 384, 10, 100]), (((6, 57), (5, 5, 2)), [405, 407, 14, 100]), (((6, 60), (6, 5, 3)), [413, 415, 15, 100]), (((6, 63), (24, 5, 1)), [359, 361, 7, 105]), (((6, 93), (46, 5, 2)), [487, 489, 31, 102]), (((6, 101), (92, 0, 1)), [420, 387, 99]), (((6, 105), (44, 5, 3)), [499, 493, 32, 102]), (((6, 117), (21, 5, 3)), [504, 506, 33, 103]), (((6, 120), (62, 5, 2)), [512, 514, 34, 101]), (((6, 123), (61, 5, 2)), [528, 530, 37, 101]), (((6, 144), (59, 5, 2)), [536, 538, 38, 101]), (((6, 147), (161, 0, 1)), [540, 541, 109]), (((6, 155), (60, 5, 1)), [546, 548, 39, 101]), (((6, 159), (51, 5, 1)), [550, 552, 40, 102]), (((6, 169), (93, 0, 2)), [558, 418, 99]), (((6, 172), (11, 5, 3)), [559, 427, 17, 100]), (((6, 175), (45, 5, 2)), [564, 431, 18, 102]), (((6, 178), (14, 5, 3)), [565, 443, 21, 100]), (((6, 181), (15, 5, 1)), [570, 572, 41, 100]), (((6, 184), (16, 5, 2)), [581, 583, 42, 100]), (((6, 187), (17, 5, 2)), [589, 591, 43, 100]), (((6, 190), (27, 1, 1)), [598, 599, 106]), (((6, 194), (28, 5, 3)), [604, 606, 44, 106])]
def mTbP3 : List (((Nat × Nat) × (Nat × Nat × Nat)) × List Nat) := [(((6, 198), (30, 5, 1)), [616, 618, 45, 106]), (((6, 201), (29, 5, 1)), [671, 622, 46, 106]), (((6, 204), (31, 5, 1)), [672, 626, 47, 106]), (((6, 208), (87, 4, 1)), [673, 675, 57, 99]), (((6, 223), (25, 5, 2)), [681, 683, 58, 105]), (((6, 226), (91, 0, 1)), [689, 690, 99]), (((6, 229), (1, 5, 2)), [692, 330, 1, 100]), (((7, 1), (0, 9, 1)), [702, 116, 117]), (((7, 32), (95, 0, 3)), [748, 749, 107]), (((7, 40), (100, 0, 4)), [741, 742, 107]), (((7, 44), (101, 4, 1)), [755, 757, 59, 107]), (((7, 47), (97, 4, 3)), [801, 803, 66, 107]), (((7, 51), (105, 4, 2)), [805, 807, 67, 107]), (((7, 55), (106, 4, 2)), [841, 843, 74, 107]), (((7, 58), (98, 4, 4)), [778, 780, 62, 107]), (((7, 62), (114, 0, 2)), [763, 764, 107]), (((7, 66), (112, 4, 3)), [782, 784, 63, 107]), (((7, 70), (116, 4, 4)), [770, 772, 60, 107]), (((7, 74), (117, 4, 4)), [774, 776, 61, 107]), (((7, 77), (96, 0, 1)), [794, 795, 107]), (((7, 81), (110, 4, 1)), [797, 799, 65, 107]), (((7, 85), (119, 4, 2)), [790, 792, 64, 107]), (((7, 88), (111, 4, 3)), [809, 811, 68, 107]), (((7, 91), (121, 4, 2)), [817, 819, 69, 107]), (((7, 94), (124, 4, 2)), [833, 835, 72, 107]), (((7, 97), (123, 4, 4)), [853, 855, 77, 107]), (((7, 100), (126, 4, 2)), [865, 867, 80, 107]), (((7, 103), (109, 4, 2)), [873, 875, 82, 107]), (((7, 106), (113, 4, 1)), [877, 879, 83, 107]), (((7, 109), (128, 4, 5)), [845, 847, 75, 107])]
def mTbP4 : List (((Nat × Nat) × (Nat × Nat × Nat)) × List Nat) := [(((7, 113), (107, 4, 2)), [837, 839, 73, 107]), (((7, 116), (125, 4, 5)), [849, 851, 76, 107]), (((7, 120), (131, 4, 3)), [857, 859, 78, 107]), (((7, 123), (129, 4, 1)), [869, 871, 81, 107]), (((7, 126), (127, 4, 3)), [861, 863, 79, 107]), (((7, 129), (132, 4, 3)), [825, 827, 70, 107]), (((7, 132), (130, 4, 3)), [829, 831, 71, 107]), (((7, 135), (99, 4, 2)), [885, 887, 84, 107]), (((7, 138), (137, 4, 3)), [905, 907, 86, 107]), (((7, 141), (138, 4, 2)), [901, 903, 85, 107]), (((7, 144), (108, 4, 2)), [917, 919, 87, 107]), (((7, 147), (141, 4, 1)), [921, 923, 88, 107]), (((7, 153), (143, 4, 3)), [941, 926, 927, 107]), (((7, 156), (147, 4, 3)), [946, 948, 89, 107]), (((7, 164), (151, 4, 3)), [975, 977, 93, 107]), (((7, 167), (154, 4, 1)), [971, 973, 92, 107]), (((7, 170), (153, 4, 2)), [979, 981, 94, 107]), (((7, 173), (152, 4, 2)), [983, 985, 95, 107]), (((7, 179), (155, 4, 1)), [967, 969, 91, 107]), (((7, 183), (156, 4, 1)), [963, 965, 90, 107]), (((7, 186), (158, 4, 2)), [991, 993, 96, 107]), (((7, 189), (159, 4, 2)), [995, 997, 97, 107]), (((8, 9), (65, 2, 1)), [112, 113, 99]), (((8, 12), (94, 2, 1)), [699, 700, 107]), (((8, 13), (66, 4, 3)), [320, 321, 322, 99]), (((8, 17), (115, 4, 3)), [759, 760, 761, 107]), (((8, 18), (67, 4, 4)), [366, 367, 368, 99]), (((8, 22), (118, 4, 4)), [766, 767, 768, 107]), (((8, 23), (68, 4, 2)), [378, 379, 380, 99]), (((8, 27), (120, 4, 2)), [786, 787, 788, 107])]
def mTbP5 : List (((Nat × Nat) × (Nat × Nat × Nat)) × List Nat) := [(((8, 28), (69, 4, 2)), [401, 402, 403, 99]), (((8, 31), (122, 4, 2)), [813, 814, 815, 107]), (((8, 32), (70, 4, 3)), [409, 410, 411, 99]), (((8, 35), (133, 4, 3)), [821, 822, 823, 107]), (((8, 36), (72, 4, 3)), [483, 484, 485, 99]), (((8, 39), (134, 4, 3)), [881, 882, 883, 107]), (((8, 40), (73, 4, 3)), [495, 496, 497, 99]), (((8, 43), (135, 4, 3)), [889, 890, 891, 107]), (((8, 44), (74, 4, 3)), [500, 501, 502, 99]), (((8, 47), (136, 4, 3)), [893, 894, 895, 107]), (((8, 48), (75, 4, 2)), [508, 509, 510, 99]), (((8, 51), (139, 4, 2)), [897, 898, 899, 107]), (((8, 52), (76, 4, 2)), [524, 525, 526, 99]), (((8, 55), (140, 4, 2)), [909, 910, 911, 107]), (((8, 56), (77, 4, 2)), [532, 533, 534, 99]), (((8, 59), (142, 4, 2)), [913, 914, 915, 107]), (((8, 60), (78, 4, 3)), [554, 555, 556, 99]), (((8, 63), (143, 4, 3)), [925, 926, 927, 107]), (((8, 64), (79, 4, 3)), [560, 561, 562, 99]), (((8, 67), (144, 4, 3)), [929, 930, 931, 107]), (((8, 68), (80, 4, 1)), [566, 567, 568, 99]), (((8, 72), (145, 4, 1)), [933, 934, 935, 107]), (((8, 73), (81, 4, 1)), [577, 578, 579, 99]), (((8, 76), (146, 4, 1)), [937, 938, 939, 107]), (((8, 77), (82, 4, 2)), [585, 586, 587, 99]), (((8, 80), (148, 4, 2)), [942, 943, 944, 107]), (((8, 83), (83, 4, 2)), [594, 595, 596, 99]), (((8, 87), (149, 4, 2)), [950, 951, 952, 107]), (((8, 88), (84, 4, 1)), [608, 609, 610, 99]), (((8, 91), (150, 4, 1)), [955, 956, 957, 107])]
def mTbP6 : List (((Nat × Nat) × (Nat × Nat × Nat)) × List Nat) := [(((8, 92), (85, 4, 1)), [612, 613, 614, 99]), (((8, 95), (157, 4, 1)), [959, 960, 961, 107]), (((8, 96), (86, 4, 1)), [667, 668, 669, 99]), (((8, 99), (160, 4, 1)), [987, 988, 989, 107]), (((8, 100), (88, 4, 1)), [677, 678, 679, 99]), (((8, 103), (102, 4, 1)), [737, 738, 739, 107]), (((8, 104), (89, 4, 2)), [685, 686, 687, 99]), (((8, 107), (103, 4, 2)), [744, 745, 746, 107]), (((8, 108), (90, 4, 2)), [693, 694, 695, 99]), (((8, 111), (104, 4, 2)), [751, 752, 753, 107])]
def mTbP : List (((Nat × Nat) × (Nat × Nat × Nat)) × List Nat) := mTbP0 ++ (mTbP1 ++ (mTbP2 ++ (mTbP3 ++ (mTbP4 ++ (mTbP5 ++ (mTbP6))))))
def mTbl : List ((Nat × Nat) × (Nat × Nat × Nat)) := mTbP.map (·.1)
def sTbl : List ((Nat × Nat) × (Nat × Bool)) := [((0, 36), (1, true)), ((0, 77), (2, true)), ((0, 80), (3, true))]
def cTbl : List ((Nat × Nat) × Nat) := [((0, 15), 5), ((0, 22), 4), ((0, 29), 1), ((2, 9), 0), ((6, 7), 0), ((6, 24), 2), ((6, 31), 3), ((8, 7), 6), ((8, 10), 7)]
def iTbl : List ((Nat × Nat) × Int32) := [((9, 265), 1431655765), ((9, 266), 858993459), ((9, 267), 252645135)]
def jTbl : List ((Nat × Nat) × Int64) := [((3, 15), 255), ((3, 17), 33), ((3, 19), 126), ((8, 81), 4294967295), ((7, 159), 255)]
def rF (o i : Nat) : Option (Nat × Nat × Bool) := fTbl.lookup (o, i)
def rM (o i : Nat) : Option (Nat × Nat × Nat) := mTbl.lookup (o, i)
def rS (o i : Nat) : Option (Nat × Bool) := sTbl.lookup (o, i)
def rC (o i : Nat) : Option (Nat) := cTbl.lookup (o, i)
def rI (o i : Nat) : Option (Int32) := iTbl.lookup (o, i)
def rJ (o i : Nat) : Option (Int64) := jTbl.lookup (o, i)
-- checks of the tables: each resolved place has its words among lw_tbl
def fWd (e : (Nat × Nat) × (Nat × Nat × Bool)) : Cond := match vwCl[e.2.1]? with
  | some q => if e.2.2.2 then .fieldLinkNest (nmO e.1.1) e.1.2 (q.2.1 e.2.2.1).1 (q.2.1 e.2.2.1).2.1 (q.2.1 e.2.2.1).2.2.1 "ClawCranes" else .fieldLink (nmO e.1.1) e.1.2 (q.2.1 e.2.2.1).1 (q.2.1 e.2.2.1).2.1 (q.2.1 e.2.2.1).2.2.1
  | none => .fieldLink "" 0 "" "" ""
theorem fTbl_ok : ∀ e ∈ fTbl, fWd e ∈ lw_tbl := by decide +kernel
def sNm : Nat → String
  | 1 => "FIRST_SETTING"
  | 2 => "LEAST_SETTING"
  | _ => "MOST_SETTING"
def sWd (e : (Nat × Nat) × (Nat × Bool)) : Cond := if e.2.2 then .fieldLinkNest (nmO e.1.1) e.1.2 "ClawCranes" (sNm e.2.1) "[I" "ClawCranes" else .fieldLink (nmO e.1.1) e.1.2 "ClawCranes" (sNm e.2.1) "[I"
theorem sTbl_ok : ∀ e ∈ sTbl, sWd e ∈ lw_tbl ∧ 1 ≤ e.2.1 ∧ e.2.1 < 4 := by decide +kernel
def cWs (e : (Nat × Nat) × Nat) : List Cond := match vwCl[e.2]? with
  | some q => [.classLink (nmO e.1.1) e.1.2 q.1, .instantiable q.1 q.2.2, .initialized q.1]
  | none => [.classLink "" 0 ""]
theorem cTbl_ok : ∀ e ∈ cTbl, ∀ w ∈ cWs e, w ∈ lw_tbl := by decide +kernel
theorem iTbl_ok : ∀ e ∈ iTbl, Cond.constant (nmO e.1.1) e.1.2 e.2 ∈ lw_tbl := by decide +kernel
theorem jTbl_ok : ∀ e ∈ jTbl, Cond.constantLong (nmO e.1.1) e.1.2 e.2 ∈ lw_tbl := by decide +kernel
/-- the words that a call of the method y takes, by the kind of the call -/
def kWs (own : String) (i : Nat) (y : MethodName) : Nat → List Cond
  | 0 => [.methodLink own i y, .static y, .initialized y.cls]
  | 1 => [.methodLinkNest own i y "ClawCranes", .static y, .initialized y.cls]
  | 2 => [.methodLink own i y, .instanceMethod y, .initialized y.cls]
  | 3 => [.methodLinkNest own i y "ClawCranes", .instanceMethod y, .initialized y.cls]
  | 4 => [.methodLink own i y, .instanceMethod y, .selects y.cls y y, .initialized y.cls]
  | 5 => [.methodLinkNest own i y "ClawCranes", .instanceMethod y, .selects y.cls y y, .initialized y.cls]
  | 9 => [.methodLink own i objectInit, .instanceMethod objectInit, .code objectInit ⟨#[0xb1]⟩ 1 none]
  | 10 => [.methodLink own i arraycopyName, .native arraycopyName, .static arraycopyName, .initialized "java/lang/System"]
  | 11 => [.methodLink own i Lib.Math.max.name, .static Lib.Math.max.name, .initialized "java/lang/Math", .code Lib.Math.max.name Lib.Math.max.code 2 (some .int)]
  | 12 => [.methodLink own i Lib.Math.min.name, .static Lib.Math.min.name, .initialized "java/lang/Math", .code Lib.Math.min.name Lib.Math.min.code 2 (some .int)]
  | _ => [.classLink "" 0 ""]
def mEx (e : (Nat × Nat) × (Nat × Nat × Nat)) : Bool := e.2.2.1 ≥ 9 || (decide (e.2.1 < mrL.length) && decide (plainName (mr e.2.1).1.cls = true) && decide ((mr e.2.1).1.cls ≠ "java/lang/invoke/MethodHandle" ∧ (mr e.2.1).1.cls ≠ "java/lang/invoke/VarHandle") && decide ((parseMethodDescriptor (mr e.2.1).1.desc).map (fun d => d.parameters.length + (if e.2.2.1 < 2 then 0 else 1)) = some e.2.2.2) && decide ((mr e.2.1).2.2.1 ≤ 18) && decide ((mr e.2.1).1.cls = nmO (mr e.2.1).2.2.2.2) && (decide (e.2.2.1 < 2 ∨ 3 < e.2.2.1) || decide ((mr e.2.1).1.name = "<init>" ∧ (mr e.2.1).2.2.2.1 = none)))
theorem mTbl_ex : ∀ e ∈ mTbl, mEx e = true := by decide +kernel
theorem mTok0 : ∀ q ∈ mTbP0, kWs (nmO q.1.1.1) q.1.1.2 (mr q.1.2.1).1 q.1.2.2.1 = q.2.filterMap (fun i => lw_tbl[i]?) := by decide +kernel
theorem mTok1 : ∀ q ∈ mTbP1, kWs (nmO q.1.1.1) q.1.1.2 (mr q.1.2.1).1 q.1.2.2.1 = q.2.filterMap (fun i => lw_tbl[i]?) := by decide +kernel
theorem mTok2 : ∀ q ∈ mTbP2, kWs (nmO q.1.1.1) q.1.1.2 (mr q.1.2.1).1 q.1.2.2.1 = q.2.filterMap (fun i => lw_tbl[i]?) := by decide +kernel
theorem mTok3 : ∀ q ∈ mTbP3, kWs (nmO q.1.1.1) q.1.1.2 (mr q.1.2.1).1 q.1.2.2.1 = q.2.filterMap (fun i => lw_tbl[i]?) := by decide +kernel
theorem mTok4 : ∀ q ∈ mTbP4, kWs (nmO q.1.1.1) q.1.1.2 (mr q.1.2.1).1 q.1.2.2.1 = q.2.filterMap (fun i => lw_tbl[i]?) := by decide +kernel
theorem mTok5 : ∀ q ∈ mTbP5, kWs (nmO q.1.1.1) q.1.1.2 (mr q.1.2.1).1 q.1.2.2.1 = q.2.filterMap (fun i => lw_tbl[i]?) := by decide +kernel
theorem mTok6 : ∀ q ∈ mTbP6, kWs (nmO q.1.1.1) q.1.1.2 (mr q.1.2.1).1 q.1.2.2.1 = q.2.filterMap (fun i => lw_tbl[i]?) := by decide +kernel
theorem mTbl_ok : ∀ e ∈ mTbl, ∀ w ∈ kWs (nmO e.1.1) e.1.2 (mr e.2.1).1 e.2.2.1, w ∈ lw_tbl := by
  intro e he w hw
  obtain ⟨q, hq, rfl⟩ := List.mem_map.mp he
  have key : kWs (nmO q.1.1.1) q.1.1.2 (mr q.1.2.1).1 q.1.2.2.1 = q.2.filterMap (fun i => lw_tbl[i]?) := by
    simp only [mTbP, List.mem_append] at hq
    rcases hq with h | h | h | h | h | h | h
    · exact mTok0 q h
    · exact mTok1 q h
    · exact mTok2 q h
    · exact mTok3 q h
    · exact mTok4 q h
    · exact mTok5 q h
    · exact mTok6 q h
  rw [key] at hw
  obtain ⟨i, -, hi⟩ := List.mem_filterMap.mp hw
  exact List.mem_of_getElem? hi
end
section
/-! THE FRAME: worlds as functions, contracts of whole worlds, one step of a method as a Prop -/
abbrev En : Type := ((Nat × Nat) × (Nat → Int32)) ⊕ ((Nat × (Nat → Option Nat)) ⊕ (Nat × List Value))
abbrev Wd : Type := Nat → Option En
abbrev Gx : Type := Launch × va_G × (Nat → ClassId) × Nat × (Nat → Nat) × (Nat → Nat × (Nat → Int32))
def gL (G : Gx) : Launch := G.1
def gD (G : Gx) : va_G := G.2.1
def gC (G : Gx) : Nat → ClassId := G.2.2.1
def gB (G : Gx) : Nat := G.2.2.2.1
def gS (G : Gx) : Nat → Nat := G.2.2.2.2.1
def gR (G : Gx) : Nat → Nat × (Nat → Int32) := G.2.2.2.2.2
def gA (G : Gx) : Nat → Prop := fun q => gB G ≤ q
def gal (G : Gx) (i : Nat) : Nat := if i < 1000 then gB G + i else gS G (i - 1000)
def gtv (G : Gx) : Value → Value
  | .ref i => .ref (gal G i)
  | v => v
def gte (G : Gx) : Option En → va_E
  | some (.inl ((k, n), f)) => .inl (gC G k, n, .inl f)
  | some (.inr (.inl (n, g))) => .inl (gC G 3, n, .inr (.inr (.inr (.inr (fun i => (g i).map (gal G))))))
  | some (.inr (.inr (ci, fs))) => .inr (ci, fs.map (gtv G))
  | none => .inr (0, [])
def gwl (G : Gx) (n : Nat) (w : Wd) : va_W := (List.range n).map (fun i => (gB G + i, gte G (w i)))
def eRO : En → Bool
  | .inl ((4, _), _) => true
  | _ => false
def gdm (G : Gx) (n : Nat) (w : Wd) : Prop := n ≤ 1000 ∧ ∀ i e, w i = some e → (i < n ∧ eRO e = false) ∨ ∃ j, j < 4 ∧ i = 1000 + j ∧ e = .inl ((4, (gR G j).1), (gR G j).2)
abbrev gty (G : Gx) : List (ClassId × FieldType) := [(gC G 0, .int), (gC G 1, .boolean), (gC G 2, .char), (gC G 3, .object "ClawCranes$Crane")]
def Cur (G : Gx) (n : Nat) (w : Wd) (H : Heap) : Prop := va_P (gD G) vwCl (gwl G n w) H ∧ gdm G n w
def isNst : Cond → Bool
  | .methodLinkNest .. => true
  | .fieldLinkNest .. => true
  | _ => false
def Kn (G : Gx) (U : State) : Prop := va_K (gD G) vwCl (gty G) U ∧ (∀ j, j < 4 → va_X (gS G j) (gR G j).1 (gR G j).2 U U.heap ∧ gS G j < gB G) ∧ (∀ j, 1 ≤ j → j < 4 → va_Z "ClawCranes" (sNm j) "[I" (.ref (gS G j)) (gA G) U U.heap) ∧ (∀ w ∈ lw_tbl, isNst w = true → va_Nw w U) ∧ va_AO "ClawCranes$Crane" U
def lw_gd : List Cond := lw_tbl.filter goodWord
def wLs (mi : Nat) : List Cond := Cond.code (mr mi).1 (mr mi).2.1 (mr mi).2.2.1 (mr mi).2.2.2.1 :: lw_gd
def gPc (G : Gx) (args : List Value) (n : Nat) (w : Wd) : Array Value → State → Prop := va_Pc (args.map (gtv G)) (fun U => Cur G n w U.heap ∧ Kn G U ∧ U.heap.size = gB G + n)
def gQc (G : Gx) (n : Nat) (Q : Option Value → Wd → Prop) : Array Value → State → Outcome → State → Prop := fun _ st o t => (∃ (r : Option Value) (w' : Wd), o = .returned (r.map (gtv G)) ∧ Q r w' ∧ Cur G n w' t.heap) ∧ va_F (gA G) st t
/-- the contract: method mi at depth d, making k cells, from the world w with n cells: it answers r with the world w' so that Q r w' -/
def T (G : Gx) (d k mi : Nat) (args : List Value) (n : Nat) (w : Wd) (Q : Option Value → Wd → Prop) : Prop :=
  Met (gL G) (mr mi).1 (wLs mi) { frames := d, cells := k, slots := 2000 * k, locals := 37 * d } (gPc G args n w) (gQc G (n + k) Q) k (2000 * k) (gA G)
-- ===== worlds =====
theorem gwl_len (G : Gx) (n : Nat) (w : Wd) : (gwl G n w).length = n := by simp [gwl]
theorem gwl_get {G : Gx} {n : Nat} {w : Wd} {i : Nat} (h : i < n) : (gwl G n w)[i]? = some (gB G + i, gte G (w i)) := by
  simp [gwl, h]
theorem gwl_lt {G : Gx} {n : Nat} {w : Wd} {i : Nat} {q : Nat × va_E} (h : (gwl G n w)[i]? = some q) : i < n ∧ q = (gB G + i, gte G (w i)) := by
  have hl : i < n := by have := (List.getElem?_eq_some_iff.mp h).1; rwa [gwl_len] at this
  rw [gwl_get hl] at h
  exact ⟨hl, (Option.some.inj h).symm⟩
theorem gwl_set {G : Gx} {n : Nat} {w : Wd} {i : Nat} (h : i < n) (e : En) : (gwl G n w).set i (gB G + i, gte G (some e)) = gwl G n (va_up w i (some e)) := by
  apply List.ext_getElem?
  intro j
  rw [List.getElem?_set]
  by_cases hj : i = j
  · subst hj
    rw [if_pos rfl, gwl_len, if_pos h, gwl_get h]
    simp [va_up]
  · rw [if_neg hj]
    by_cases hn : j < n
    · rw [gwl_get hn, gwl_get hn]
      simp [va_up, Ne.symm hj]
    · rw [List.getElem?_eq_none (by rw [gwl_len]; omega), List.getElem?_eq_none (by rw [gwl_len]; omega)]
theorem gwl_push {G : Gx} {n : Nat} {w : Wd} (e : En) : gwl G n w ++ [(gB G + n, gte G (some e))] = gwl G (n + 1) (va_up w n (some e)) := by
  unfold gwl
  rw [List.range_succ, List.map_append]
  congr 1
  · apply List.map_congr_left
    intro j hj
    have : j ≠ n := by have := List.mem_range.mp hj; omega
    simp [va_up, this]
  · simp [va_up]
theorem gwl_D {G : Gx} {n : Nat} {w : Wd} : va_D (gA G) (gwl G n w) := by
  refine ⟨fun i j p q hp hq h => ?_, fun k q hq => ?_⟩
  · obtain ⟨-, rfl⟩ := gwl_lt hp
    obtain ⟨-, rfl⟩ := gwl_lt hq
    exact Nat.add_left_cancel h
  · obtain ⟨-, rfl⟩ := gwl_lt hq
    exact Nat.le_add_right _ _
theorem gdm_lt {G : Gx} {n : Nat} {w : Wd} (h : gdm G n w) {i : Nat} {e : En} (he : w i = some e) (hr : eRO e = false) : i < n := by
  rcases h.2 i e he with q | ⟨j, -, -, q⟩
  · exact q.1
  · subst q
    cases hr
theorem gdm_al {G : Gx} {n : Nat} {w : Wd} (h : gdm G n w) {i : Nat} {e : En} (he : w i = some e) (hr : eRO e = false) : gal G i = gB G + i := by
  have h1 := gdm_lt h he hr
  have h2 := h.1
  unfold gal
  rw [if_pos (by omega)]
theorem gdm_up {G : Gx} {n : Nat} {w : Wd} (h : gdm G n w) {i : Nat} {e e' : En} (he : w i = some e) (hr : eRO e = false) (hr' : eRO e' = false) : gdm G n (va_up w i (some e')) := by
  refine ⟨h.1, fun j x hx => ?_⟩
  by_cases hj : j = i
  · subst hj
    simp only [va_up, if_pos rfl] at hx
    cases hx
    exact Or.inl ⟨gdm_lt h he hr, hr'⟩
  · simp only [va_up, if_neg hj] at hx
    exact h.2 j x hx
theorem gdm_push {G : Gx} {n : Nat} {w : Wd} (h : gdm G n w) (hn : n + 1 ≤ 1000) {e' : En} (hr' : eRO e' = false) : gdm G (n + 1) (va_up w n (some e')) := by
  refine ⟨hn, fun j x hx => ?_⟩
  by_cases hj : j = n
  · subst hj
    simp only [va_up, if_pos rfl] at hx
    cases hx
    exact Or.inl ⟨Nat.lt_succ_self _, hr'⟩
  · simp only [va_up, if_neg hj] at hx
    rcases h.2 j x hx with q | q
    · exact Or.inl ⟨by omega, q.2⟩
    · exact Or.inr q
theorem gdm_ro {G : Gx} {n : Nat} {w : Wd} (h : gdm G n w) {i len : Nat} {f : Nat → Int32} (he : w i = some (.inl ((4, len), f))) : ∃ j, j < 4 ∧ gal G i = gS G j ∧ len = (gR G j).1 ∧ f = (gR G j).2 := by
  rcases h.2 i _ he with q | ⟨j, h1, h2, h3⟩
  · exact absurd q.2 (by simp [eRO])
  · injection h3 with h3
    injection h3 with h3 h4
    injection h3 with h3 h5
    refine ⟨j, h1, ?_, h5, h4⟩
    unfold gal
    rw [if_neg (by omega), h2, Nat.add_sub_cancel_left]
-- ===== locals =====
def lsE (G : Gx) (k : Nat) : Value → Option (Nat × Value)
  | .null => none
  | .int x => some (k, .int x)
  | .long x => some (k, .long x)
  | .float x => some (k, .float x)
  | .double x => some (k, .double x)
  | .ref x => some (k, gtv G (.ref x))
  | .retAddr x => some (k, .retAddr x)
theorem lsE_ne {G : Gx} {k : Nat} {v : Value} (h : v ≠ .null) : lsE G k v = some (k, gtv G v) := by
  cases v <;> first | rfl | exact (h rfl).elim
def lsO (G : Gx) (L : List Value) : List (Nat × Value) := (List.range L.length).filterMap fun k => (L[k]?).bind (lsE G k)
theorem lsO_mem {G : Gx} {L : List Value} {q : Nat × Value} : q ∈ lsO G L ↔ ∃ v, L[q.1]? = some v ∧ v ≠ .null ∧ q.2 = gtv G v := by
  unfold lsO
  rw [List.mem_filterMap]
  constructor
  · rintro ⟨k, -, hk⟩
    cases hv : L[k]? with
    | none => rw [hv] at hk; cases hk
    | some v =>
      rw [hv] at hk
      have h2 : v ≠ .null := by rintro rfl; cases hk
      have h3 : some (k, gtv G v) = some q := by
        rw [← hk, Option.bind_some, lsE_ne h2]
      cases h3
      exact ⟨v, hv, h2, rfl⟩
  · rintro ⟨v, h1, h2, h3⟩
    refine ⟨q.1, List.mem_range.mpr (List.getElem?_eq_some_iff.mp h1).1, ?_⟩
    rw [h1, Option.bind_some, lsE_ne h2, ← h3]
def lvL (G : Gx) (ls : Array Slot) (L : List Value) : Prop := lv_has ls L.length (lsO G L)
theorem lvL_at {G : Gx} {ls : Array Slot} {L : List Value} (h : lvL G ls L) {k : Nat} {v : Value} (hk : L[k]? = some v) (hv : v ≠ .null) : ls[k]? = some (.val (gtv G v)) := h.2.2 (k, gtv G v) (lsO_mem.mpr ⟨v, hk, hv, rfl⟩)
def clr : Value → Value
  | .long _ => .null
  | .double _ => .null
  | v => v
def sto : Nat → Value → List Value → List Value
  | 0, v, _ :: l => v :: l
  | 1, v, a :: _ :: l => clr a :: v :: l
  | k + 2, v, a :: l => a :: sto (k + 1) v l
  | _, _, l => l
theorem sto_len : ∀ (k : Nat) (v : Value) (l : List Value), (sto k v l).length = l.length
  | 0, v, [] => rfl
  | 0, v, _ :: l => rfl
  | 1, v, [] => rfl
  | 1, v, [_] => rfl
  | 1, v, _ :: _ :: l => rfl
  | k + 2, v, [] => rfl
  | k + 2, v, a :: l => by simp [sto, sto_len (k + 1) v l]
theorem sto_get : ∀ (k : Nat) (v : Value) (l : List Value) (j : Nat) (x : Value), (sto k v l)[j]? = some x → x ≠ .null → k < l.length → (j = k ∧ x = v) ∨ (j ≠ k ∧ l[j]? = some x ∧ ¬ (j + 1 = k ∧ x.category = 2))
  | 0, v, [], j, x, h, hx, hk => by simp at hk
  | 0, v, a :: l, 0, x, h, hx, hk => by simp [sto] at h; exact Or.inl ⟨rfl, h.symm⟩
  | 0, v, a :: l, j + 1, x, h, hx, hk => by
    simp [sto] at h
    exact Or.inr ⟨by omega, by simpa using h, by omega⟩
  | 1, v, [], j, x, h, hx, hk => by simp at hk
  | 1, v, [_], j, x, h, hx, hk => by simp at hk
  | 1, v, a :: b :: l, 0, x, h, hx, hk => by
    simp [sto] at h
    refine Or.inr ⟨by omega, ?_, ?_⟩
    · cases a <;> first | (simp [clr] at h; simp [h]; done) | (simp [clr] at h; exact absurd h.symm hx)
    · intro h2
      cases a <;> simp [clr] at h <;> subst h <;> simp [Value.category] at h2
  | 1, v, a :: b :: l, 1, x, h, hx, hk => by simp [sto] at h; exact Or.inl ⟨rfl, h.symm⟩
  | 1, v, a :: b :: l, j + 2, x, h, hx, hk => by
    simp [sto] at h
    exact Or.inr ⟨by omega, by simpa using h, by omega⟩
  | k + 2, v, [], j, x, h, hx, hk => by simp at hk
  | k + 2, v, a :: l, 0, x, h, hx, hk => by
    simp [sto] at h
    exact Or.inr ⟨by omega, by simp [h], by omega⟩
  | k + 2, v, a :: l, j + 1, x, h, hx, hk => by
    simp [sto] at h
    rcases sto_get (k + 1) v l j x h hx (by simp only [List.length_cons] at hk; omega) with ⟨h1, h2⟩ | ⟨h1, h2, h3⟩
    · exact Or.inl ⟨by omega, h2⟩
    · exact Or.inr ⟨by omega, by simpa using h2, fun q => h3 ⟨by omega, q.2⟩⟩
theorem gtv_cat (G : Gx) (v : Value) : (gtv G v).category = v.category := by cases v <;> rfl
theorem lvL_sto {G : Gx} {ls' : Array Slot} {L : List Value} {k : Nat} {v : Value} (hk : k < L.length) (h : lv_has ls' L.length ((k, gtv G v) :: (lsO G L).filter (fun q => !(q.1 == k) && !(q.1 + 1 == k && q.2.category == 2)))) : lvL G ls' (sto k v L) := by
  refine ⟨h.1.trans (sto_len k v L).symm, h.2.1, fun q hq => ?_⟩
  obtain ⟨x, h1, h2, h3⟩ := lsO_mem.mp hq
  rcases sto_get k v L q.1 x h1 h2 hk with ⟨e1, e2⟩ | ⟨e1, e2, e3⟩
  · have : q = (k, gtv G v) := by
      obtain ⟨a, b⟩ := q
      dsimp only at e1 h3
      rw [e1, h3, e2]
    rw [this]
    exact h.2.2 _ List.mem_cons_self
  · refine h.2.2 q (List.mem_cons_of_mem _ (List.mem_filter.mpr ⟨lsO_mem.mpr ⟨x, e2, h2, h3⟩, ?_⟩))
    rw [h3, gtv_cat]
    simp only [Bool.and_eq_true, Bool.not_eq_true', beq_eq_false_iff_ne, Bool.and_eq_false_iff, ne_eq]
    exact ⟨e1, Decidable.not_and_iff_or_not.mp e3⟩
theorem lvL_sto2 {G : Gx} {ls' : Array Slot} {L : List Value} {k : Nat} {v : Value} (hk : k + 1 < L.length) (h : lv_has ls' L.length ((k, gtv G v) :: (lsO G L).filter (fun q => !(q.1 == k) && (!(q.1 == k + 1) && !(q.1 + 1 == k && q.2.category == 2))))) : lvL G ls' (sto k v (sto (k + 1) .null L)) := by
  have hl : (sto (k + 1) .null L).length = L.length := sto_len _ _ _
  refine ⟨h.1.trans ((sto_len k v _).trans hl).symm, h.2.1, fun q hq => ?_⟩
  obtain ⟨x, h1, h2, h3⟩ := lsO_mem.mp hq
  rcases sto_get k v _ q.1 x h1 h2 (by omega) with ⟨e1, e2⟩ | ⟨e1, e2, e3⟩
  · have : q = (k, gtv G v) := by
      obtain ⟨a, b⟩ := q
      dsimp only at e1 h3
      rw [e1, h3, e2]
    rw [this]
    exact h.2.2 _ List.mem_cons_self
  · rcases sto_get (k + 1) .null L q.1 x e2 h2 hk with ⟨f1, f2⟩ | ⟨f1, f2, f3⟩
    · exact absurd f2 h2
    · refine h.2.2 q (List.mem_cons_of_mem _ (List.mem_filter.mpr ⟨lsO_mem.mpr ⟨x, f2, h2, h3⟩, ?_⟩))
      rw [h3, gtv_cat]
      simp only [Bool.and_eq_true, Bool.not_eq_true', beq_eq_false_iff_ne, Bool.and_eq_false_iff, ne_eq]
      exact ⟨e1, f1, Decidable.not_and_iff_or_not.mp e3⟩
def entL (mL : Nat) (args : List Value) : List Value := (args.flatMap fun v => if v.category = 2 then [v, .null] else [v]) ++ List.replicate (mL - (args.flatMap fun v => if v.category = 2 then [v, .null] else [v]).length) .null
theorem entL_at : ∀ (args : List Value) (r : Nat) (i j : Nat) (x : Value), ((args.flatMap fun v => if v.category = 2 then [v, .null] else [v]) ++ List.replicate r Value.null)[j]? = some x → x ≠ .null → (i + j, x) ∈ lv_args i args
  | [], r, i, j, x, h, hx => by
    simp only [List.flatMap_nil, List.nil_append] at h
    have := List.eq_of_mem_replicate (List.mem_of_getElem? h)
    exact absurd this hx
  | v :: args, r, i, j, x, h, hx => by
    rw [List.flatMap_cons, List.append_assoc] at h
    unfold lv_args
    by_cases hc : v.category = 2
    · rw [if_pos hc] at h
      rw [if_pos hc]
      match j, h with
      | 0, h => simp at h; subst h; exact List.mem_cons_self
      | 1, h => simp at h; exact absurd h.symm hx
      | j + 2, h =>
        have h' : ((args.flatMap fun v => if v.category = 2 then [v, .null] else [v]) ++ List.replicate r Value.null)[j]? = some x := by simpa using h
        have := entL_at args r (i + 2) j x h' hx
        exact List.mem_cons_of_mem _ (by rw [show i + (j + 2) = i + 2 + j by omega]; exact this)
    · rw [if_neg hc] at h
      rw [if_neg hc]
      match j, h with
      | 0, h => simp at h; subst h; exact List.mem_cons_self
      | j + 1, h =>
        have h' : ((args.flatMap fun v => if v.category = 2 then [v, .null] else [v]) ++ List.replicate r Value.null)[j]? = some x := by simpa using h
        have := entL_at args r (i + 1) j x h' hx
        exact List.mem_cons_of_mem _ (by rw [show i + (j + 1) = i + 1 + j by omega]; exact this)
theorem lv_args_map (G : Gx) : ∀ (args : List Value) (i : Nat) (q : Nat × Value), q ∈ lv_args i args → (q.1, gtv G q.2) ∈ lv_args i (args.map (gtv G))
  | [], i, q, h => by cases h
  | v :: args, i, q, h => by
    unfold lv_args at h ⊢
    simp only [List.map_cons]
    rcases List.mem_cons.mp h with rfl | h
    · exact List.mem_cons_self
    · rw [gtv_cat]
      exact List.mem_cons_of_mem _ (lv_args_map G args _ q h)
theorem lg_sl_len (G : Gx) (args : List Value) : (lg_sl (args.map (gtv G))).length = (args.flatMap fun v => if v.category = 2 then [v, .null] else [v]).length := by
  unfold lg_sl
  induction args with
  | nil => rfl
  | cons v l ih =>
    rw [List.map_cons, List.flatMap_cons, List.flatMap_cons, List.length_append, List.length_append, ih, gtv_cat]
    congr 1
    by_cases h : v.category = 2
    · rw [if_pos h, if_pos h]; rfl
    · rw [if_neg h, if_neg h]; rfl
theorem lvL_entry {G : Gx} {args : List Value} {mL : Nat} (h : (args.flatMap fun v => if v.category = 2 then [v, .null] else [v]).length ≤ mL) :
    lvL G ((lg_sl (args.map (gtv G)) ++ List.replicate (mL - (lg_sl (args.map (gtv G))).length) Slot.unset).toArray) (entL mL args) := by
  have h0 := lv_entry (args.map (gtv G)) (n := mL) (by rw [lg_sl_len]; exact h)
  have hl : (entL mL args).length = mL := by
    unfold entL
    rw [List.length_append, List.length_replicate]
    omega
  refine ⟨by rw [hl]; exact h0.1, h0.2.1, fun q hq => ?_⟩
  obtain ⟨v, h1, h2, h3⟩ := lsO_mem.mp hq
  have h4 := entL_at args _ 0 q.1 v h1 h2
  rw [Nat.zero_add] at h4
  have h5 := lv_args_map G args 0 _ h4
  refine h0.2.2 q ?_
  obtain ⟨a, b⟩ := q
  dsimp only at h3 h5 ⊢
  rw [h3]
  exact h5
end
section
/-! ONE STEP of a method over a world, as a Prop: what must hold so that the method goes on -/
def ilen : Instr → Nat
  | .bipush _ => 2
  | .sipush _ => 3
  | .ldc _ => 2
  | .ldc_w _ => 3
  | .ldc2_w _ => 3
  | .iload _ => 2
  | .lload _ => 2
  | .istore _ => 2
  | .lstore _ => 2
  | .iinc _ _ => 3
  | .if_icmp _ _ => 3
  | .ifCond _ _ => 3
  | .goto _ => 3
  | .getfield _ => 3
  | .putfield _ => 3
  | .getstatic _ => 3
  | .new _ => 3
  | .newarray _ => 2
  | .anewarray _ => 3
  | .invokevirtual _ => 3
  | .invokespecial _ => 3
  | .invokestatic _ => 3
  | _ => 1
def isSw : Instr → Bool
  | .tableswitch .. => true
  | .lookupswitch .. => true
  | _ => false
def iaux (pc : Nat) : Instr → Nat × Int32
  | .iload_n k => (k, 0)
  | .lload_n k => (k, 0)
  | .aload_n k => (k, 0)
  | .istore_n k => (k, 0)
  | .lstore_n k => (k, 0)
  | .astore_n k => (k, 0)
  | .iload k => (k, 0)
  | .lload k => (k, 0)
  | .istore k => (k, 0)
  | .lstore k => (k, 0)
  | .iinc k v => (k, Int32.ofInt v)
  | .iconst v => (0, Int32.ofInt v)
  | .bipush v => (0, (Int8.ofInt v).toInt32)
  | .sipush v => (0, (Int16.ofInt v).toInt32)
  | .if_icmp _ off => (((pc : Int) + off).toNat, 0)
  | .ifCond _ off => (((pc : Int) + off).toNat, 0)
  | .goto off => (((pc : Int) + off).toNat, 0)
  | _ => (0, 0)
def ifwd (pc : Nat) : Instr → Bool
  | .if_icmp _ off => decide (0 ≤ (pc : Int) + off)
  | .ifCond _ off => decide (0 ≤ (pc : Int) + off)
  | .goto off => decide (0 ≤ (pc : Int) + off)
  | _ => true
abbrev Dc : Type := Instr × Nat × Nat × Int32
def dec (cc : ByteArray) (pc : Nat) : Option Dc := match decode cc pc with
  | .ok (i, len) => if (isSw i || decide (len = ilen i)) && ifwd pc i then some (i, pc + len, (iaux pc i).1, (iaux pc i).2) else none
  | .error _ => none
theorem dec_of {cc : ByteArray} {pc : Nat} {i : Instr} {nx ax : Nat} {v : Int32} (h : dec cc pc = some (i, nx, ax, v)) : ∃ len, decode cc pc = .ok (i, len) ∧ (isSw i = true ∨ len = ilen i) ∧ ifwd pc i = true ∧ nx = pc + len ∧ ax = (iaux pc i).1 ∧ v = (iaux pc i).2 := by
  unfold dec at h
  cases hd : decode cc pc with
  | error e => rw [hd] at h; cases h
  | ok q =>
    obtain ⟨j, len⟩ := q
    rw [hd] at h
    dsimp only at h
    by_cases hc : ((isSw j || decide (len = ilen j)) && ifwd pc j) = true
    · rw [if_pos hc] at h
      cases h
      rw [Bool.and_eq_true, Bool.or_eq_true, decide_eq_true_eq] at hc
      exact ⟨len, rfl, hc.1, hc.2, rfl, rfl, rfl⟩
    · rw [if_neg hc] at h
      cases h
def swT (ins : Instr) (pc : Nat) (x : Int32) : Option Nat := match ins with
  | .tableswitch df lo hi offs => (if x.toInt < lo ∨ hi < x.toInt then some df else offs[(x.toInt - lo).toNat]?).bind fun off => if 0 ≤ (pc : Int) + off then some ((pc : Int) + off).toNat else none
  | .lookupswitch df ps => if (ps.toList.zip (ps.toList.drop 1)).all (fun (a, next) => a.1 < next.1) = true then (if 0 ≤ (pc : Int) + Op.lookupswitch.offset ps.toList df x.toInt then some ((pc : Int) + Op.lookupswitch.offset ps.toList df x.toInt).toNat else none) else none
  | _ => none
-- what a value, a cell is
def isI : Option Value → Prop
  | some (.int _) => True
  | _ => False
def isJ : Option Value → Prop
  | some (.long _) => True
  | _ => False
def isA : Option Value → Prop
  | some (.ref _) => True
  | _ => False
def vI : Option Value → Value
  | some v => v
  | none => .null
def nI32 : Option Value → Int32
  | some (.int x) => x
  | _ => 0
def isF : Option En → Nat → Nat → Prop
  | some (.inr (.inr (c, fs))), ci, k => c = ci ∧ k < fs.length
  | _, _, _ => False
def gF : Option En → Nat → Value
  | some (.inr (.inr (_, fs))), k => vI fs[k]?
  | _, _ => .null
def sF : Option En → Nat → Value → Option En
  | some (.inr (.inr (c, fs))), k, v => some (.inr (.inr (c, fs.set k v)))
  | e, _, _ => e
def isO : Option En → Nat → Prop
  | some (.inr (.inr (c, _))), ci => c = ci
  | _, _ => False
def isP : Option En → Nat → Int32 → Prop
  | some (.inl ((q, len), _)), k, i => q = k ∧ vp_in i len
  | _, _, _ => False
def isP0 : Option En → Int32 → Prop
  | some (.inl ((q, len), _)), i => (q = 0 ∨ q = 4) ∧ vp_in i len
  | _, _ => False
def gE : Option En → Nat → Int32
  | some (.inl (_, f)), j => f j
  | _, _ => 0
def sE : Option En → Nat → Int32 → Option En
  | some (.inl (h, f)), j, x => some (.inl (h, upd f j x))
  | e, _, _ => e
def isR : Option En → Int32 → Prop
  | some (.inr (.inl (len, _))), i => vp_in i len
  | _, _ => False
def gO : Option En → Nat → Option Nat
  | some (.inr (.inl (_, g))), j => g j
  | _, _ => none
def sO : Option En → Nat → Nat → Option En
  | some (.inr (.inl (len, g))), j, v => some (.inr (.inl (len, va_up g j (some v))))
  | e, _, _ => e
def isS : Option Nat → Prop
  | some _ => True
  | none => False
def vS : Option Nat → Nat
  | some v => v
  | none => 0
def isSc : Option En → Prop
  | some (.inl ((4, _), _)) => True
  | _ => False
def nSc : Option En → Int32
  | some (.inl ((_, len), _)) => Int32.ofNat len
  | _ => 0
def ftC (ci k : Nat) : FieldType := match ci with
  | 0 => tyX0 k
  | 1 => tyX1 k
  | 2 => tyX2 k
  | 3 => tyX3 k
  | 4 => tyX4 k
  | 5 => tyX5 k
  | 6 => tyX6 k
  | _ => tyX7 k
def pok (ty : FieldType) (v : Value) : Prop := narrow ty v = v ∧ fits ty v = true
def fnC (ci k : Nat) : Bool := match vwCl[ci]? with
  | some q => (q.2.1 k).2.2.2
  | none => true
def dfl : Nat → List Value
  | 0 => [.null, .null, .null, .null, .int 0, .int 0, .int 0, .int 0, .int 0, .int 0, .int 0]
  | 1 => [.null, .int 0, .int 0]
  | 2 => [.null, .int 0, .int 0]
  | 3 => [.null, .int 0, .int 0, .int 0, .int 0, .int 0, .int 0, .int 0]
  | 4 => [.null, .null]
  | 5 => [.null, .null, .null, .null, .null, .int 0, .int 0]
  | 6 => [.null, .null, .null, .null, .null]
  | _ => [.null, .null, .null, .int 0, .null, .null, .null, .int 0, .int 0, .null, .int 0]
def akd : ArrayType → Nat
  | .int => 0
  | .boolean => 1
  | .char => 2
  | _ => 9
-- the stack's shapes
def s1I (st : List Value) (f : Int32 → List Value → Prop) : Prop := match st with
  | .int a :: r => f a r
  | _ => False
def s2I (st : List Value) (f : Int32 → Int32 → List Value → Prop) : Prop := match st with
  | .int b :: .int a :: r => f a b r
  | _ => False
def s1J (st : List Value) (f : Int64 → List Value → Prop) : Prop := match st with
  | .long a :: r => f a r
  | _ => False
def s2J (st : List Value) (f : Int64 → Int64 → List Value → Prop) : Prop := match st with
  | .long b :: .long a :: r => f a b r
  | _ => False
def sJI (st : List Value) (f : Int64 → Int32 → List Value → Prop) : Prop := match st with
  | .int b :: .long a :: r => f a b r
  | _ => False
def s1A (st : List Value) (f : Nat → List Value → Prop) : Prop := match st with
  | .ref a :: r => f a r
  | _ => False
def sVA (st : List Value) (f : Nat → Value → List Value → Prop) : Prop := match st with
  | v :: .ref a :: r => f a v r
  | _ => False
def sAI (st : List Value) (f : Nat → Int32 → List Value → Prop) : Prop := match st with
  | .int i :: .ref a :: r => f a i r
  | _ => False
def sAII (st : List Value) (f : Nat → Int32 → Int32 → List Value → Prop) : Prop := match st with
  | .int x :: .int i :: .ref a :: r => f a i x r
  | _ => False
def sAIA (st : List Value) (f : Nat → Int32 → Nat → List Value → Prop) : Prop := match st with
  | .ref v :: .int i :: .ref a :: r => f a i v r
  | _ => False
def sCpy (st : List Value) (f : Nat → Int32 → Nat → Int32 → Int32 → List Value → Prop) : Prop := match st with
  | .int n :: .int dp :: .ref b :: .int sp :: .ref a :: r => f a sp b dp n r
  | _ => False
theorem s1I_inv {st : List Value} {f : Int32 → List Value → Prop} (h : s1I st f) : ∃ a r, st = .int a :: r ∧ f a r := by
  unfold s1I at h
  split at h
  · exact ⟨_, _, rfl, h⟩
  · exact h.elim
theorem s2I_inv {st : List Value} {f : Int32 → Int32 → List Value → Prop} (h : s2I st f) : ∃ a b r, st = .int b :: .int a :: r ∧ f a b r := by
  unfold s2I at h
  split at h
  · exact ⟨_, _, _, rfl, h⟩
  · exact h.elim
theorem s1J_inv {st : List Value} {f : Int64 → List Value → Prop} (h : s1J st f) : ∃ a r, st = .long a :: r ∧ f a r := by
  unfold s1J at h
  split at h
  · exact ⟨_, _, rfl, h⟩
  · exact h.elim
theorem s2J_inv {st : List Value} {f : Int64 → Int64 → List Value → Prop} (h : s2J st f) : ∃ a b r, st = .long b :: .long a :: r ∧ f a b r := by
  unfold s2J at h
  split at h
  · exact ⟨_, _, _, rfl, h⟩
  · exact h.elim
theorem sJI_inv {st : List Value} {f : Int64 → Int32 → List Value → Prop} (h : sJI st f) : ∃ a b r, st = .int b :: .long a :: r ∧ f a b r := by
  unfold sJI at h
  split at h
  · exact ⟨_, _, _, rfl, h⟩
  · exact h.elim
theorem s1A_inv {st : List Value} {f : Nat → List Value → Prop} (h : s1A st f) : ∃ a r, st = .ref a :: r ∧ f a r := by
  unfold s1A at h
  split at h
  · exact ⟨_, _, rfl, h⟩
  · exact h.elim
theorem sVA_inv {st : List Value} {f : Nat → Value → List Value → Prop} (h : sVA st f) : ∃ a v r, st = v :: .ref a :: r ∧ f a v r := by
  unfold sVA at h
  split at h
  · exact ⟨_, _, _, rfl, h⟩
  · exact h.elim
theorem sAI_inv {st : List Value} {f : Nat → Int32 → List Value → Prop} (h : sAI st f) : ∃ a i r, st = .int i :: .ref a :: r ∧ f a i r := by
  unfold sAI at h
  split at h
  · exact ⟨_, _, _, rfl, h⟩
  · exact h.elim
theorem sAII_inv {st : List Value} {f : Nat → Int32 → Int32 → List Value → Prop} (h : sAII st f) : ∃ a i x r, st = .int x :: .int i :: .ref a :: r ∧ f a i x r := by
  unfold sAII at h
  split at h
  · exact ⟨_, _, _, _, rfl, h⟩
  · exact h.elim
theorem sAIA_inv {st : List Value} {f : Nat → Int32 → Nat → List Value → Prop} (h : sAIA st f) : ∃ a i v r, st = .ref v :: .int i :: .ref a :: r ∧ f a i v r := by
  unfold sAIA at h
  split at h
  · exact ⟨_, _, _, _, rfl, h⟩
  · exact h.elim
theorem sCpy_inv {st : List Value} {f : Nat → Int32 → Nat → Int32 → Int32 → List Value → Prop} (h : sCpy st f) : ∃ a sp b dp n r, st = .int n :: .int dp :: .ref b :: .int sp :: .ref a :: r ∧ f a sp b dp n r := by
  unfold sCpy at h
  split at h
  · exact ⟨_, _, _, _, _, _, rfl, h⟩
  · exact h.elim
abbrev Kt : Type := Nat → List Value → List Value → Nat → Wd → Prop
def icm (c : ClassFile.Cond) (x y : Int32) (A B : Prop) : Prop := match c with
  | .eq => (x = y → A) ∧ (¬ x = y → B)
  | .ne => (¬ x = y → A) ∧ (x = y → B)
  | .lt => (x < y → A) ∧ (¬ x < y → B)
  | .ge => (y ≤ x → A) ∧ (¬ y ≤ x → B)
  | .gt => (y < x → A) ∧ (¬ y < x → B)
  | .le => (x ≤ y → A) ∧ (¬ x ≤ y → B)
def isCp : Option En → Option En → Int32 → Int32 → Int32 → Prop
  | some (.inl ((k0, n0), _)), some (.inl ((k1, n1), _)), sp, dp, n => (k0 = 0 ∨ k0 = 4) ∧ k1 = 0 ∧ ¬ sp < 0 ∧ ¬ dp < 0 ∧ ¬ n < 0 ∧ sp.toNatClampNeg + n.toNatClampNeg ≤ n0 ∧ dp.toNatClampNeg + n.toNatClampNeg ≤ n1
  | _, _, _, _, _ => False
def cpE : Option En → Option En → Int32 → Int32 → Int32 → Option En
  | some (.inl (_, f)), some (.inl (h, g)), sp, dp, n => some (.inl (h, va_cpy f g sp.toNatClampNeg dp.toNatClampNeg n.toNatClampNeg))
  | _, e, _, _, _ => e
def isRc (w : Wd) (mi : Nat) : List Value → Prop
  | .ref a :: _ => isO (w a) (mr mi).2.2.2.2
  | _ => False
def kkd : Nat → Option (Nat × Nat × Nat) → Prop
  | 0, some (_, kd, _) => kd = 2 ∨ kd = 3 ∨ kd = 9
  | 1, some (_, kd, _) => kd = 4 ∨ kd = 5
  | _, some (_, kd, _) => kd = 0 ∨ kd = 1 ∨ kd = 10 ∨ kd = 11 ∨ kd = 12
  | _, none => False
def ivk (G : Gx) (d nm : Nat) (J K : Kt) (e : Option (Nat × Nat × Nat)) (nx : Nat) (L st : List Value) (n : Nat) (w : Wd) : Prop := match e with
  | none => False
  | some (mi, kd, na) =>
    if kd = 9 then s1A st fun _ r => r.length ≤ 4 ∧ K nx L r n w
    else if kd = 10 then sCpy st fun a sp b dp m r => r.length ≤ 4 ∧ isCp (w a) (w b) sp dp m ∧ K nx L r n (va_up w b (cpE (w a) (w b) sp dp m))
    else if kd = 11 then s2I st fun a b r => r.length ≤ 4 ∧ K nx L (.int (if a < b then b else a) :: r) n w
    else if kd = 12 then s2I st fun a b r => r.length ≤ 4 ∧ K nx L (.int (if b < a then b else a) :: r) n w
    else na ≤ st.length ∧ (st.drop na).length ≤ 4 ∧ (1 < kd → isRc w mi (st.take na).reverse) ∧ ∃ k, n + k ≤ nm ∧ T G d k mi (st.take na).reverse n w (fun r w' => J nx L (r.toList ++ st.drop na) (n + k) w')
/-- one step -/
def stp (G : Gx) (o : Nat) (ini : Bool) (mL : Nat) (rt : Option FieldType) (d nm : Nat) (J K : Kt) (Rt : Option Value → Nat → Wd → Prop) (pc : Nat) (i : Option Dc) (L st : List Value) (n : Nat) (w : Wd) : Prop := match i with
  | none => False
  | some (ins, nx, ax, v) => match ins with
    | .iconst _ => K nx L (.int v :: st) n w
    | .bipush _ => K nx L (.int v :: st) n w
    | .sipush _ => K nx L (.int v :: st) n w
    | .lconst a => K nx L (.long (Int64.ofNat (a : Nat)) :: st) n w
    | .ldc_w idx => match rI o idx with
      | some c => K nx L (.int c :: st) n w
      | none => False
    | .ldc2_w idx => match rJ o idx with
      | some c => K nx L (.long c :: st) n w
      | none => False
    | .iload _ => isI L[ax]? ∧ K nx L (vI L[ax]? :: st) n w
    | .iload_n _ => isI L[ax]? ∧ K nx L (vI L[ax]? :: st) n w
    | .lload _ => isJ L[ax]? ∧ K nx L (vI L[ax]? :: st) n w
    | .lload_n _ => isJ L[ax]? ∧ K nx L (vI L[ax]? :: st) n w
    | .aload_n _ => isA L[ax]? ∧ K nx L (vI L[ax]? :: st) n w
    | .istore _ => s1I st fun x r => ax < mL ∧ K nx (sto ax (.int x) L) r n w
    | .istore_n _ => s1I st fun x r => ax < mL ∧ K nx (sto ax (.int x) L) r n w
    | .lstore _ => s1J st fun x r => ax + 1 < mL ∧ K nx (sto ax (.long x) (sto (ax + 1) .null L)) r n w
    | .lstore_n _ => s1J st fun x r => ax + 1 < mL ∧ K nx (sto ax (.long x) (sto (ax + 1) .null L)) r n w
    | .astore_n _ => s1A st fun x r => ax < mL ∧ K nx (sto ax (.ref x) L) r n w
    | .iinc _ _ => isI L[ax]? ∧ ax < mL ∧ K nx (sto ax (.int (nI32 L[ax]? + v)) L) st n w
    | .iadd => s2I st fun a b r => K nx L (.int (a + b) :: r) n w
    | .isub => s2I st fun a b r => K nx L (.int (a - b) :: r) n w
    | .imul => s2I st fun a b r => K nx L (.int (a * b) :: r) n w
    | .idiv => s2I st fun a b r => ¬ b = 0 ∧ K nx L (.int (a / b) :: r) n w
    | .irem => s2I st fun a b r => ¬ b = 0 ∧ K nx L (.int (a - a / b * b) :: r) n w
    | .iand => s2I st fun a b r => K nx L (.int (a &&& b) :: r) n w
    | .ior => s2I st fun a b r => K nx L (.int (a ||| b) :: r) n w
    | .ishl => s2I st fun a b r => K nx L (.int (a <<< (b &&& 31)) :: r) n w
    | .iushr => s2I st fun a b r => K nx L (.int (a.toUInt32 >>> (b.toUInt32 &&& Int32.toUInt32 31)).toInt32 :: r) n w
    | .land => s2J st fun a b r => K nx L (.long (a &&& b) :: r) n w
    | .lor => s2J st fun a b r => K nx L (.long (a ||| b) :: r) n w
    | .lcmp => s2J st fun a b r => K nx L (.int (lg_cmp a b) :: r) n w
    | .lushr => sJI st fun a b r => K nx L (.long (a.toUInt64 >>> (b.toInt64.toUInt64 &&& Int64.toUInt64 63)).toInt64 :: r) n w
    | .lshl => sJI st fun a b r => K nx L (.long (a <<< (b.toInt64 &&& 63)) :: r) n w
    | .i2l => s1I st fun a r => K nx L (.long a.toInt64 :: r) n w
    | .l2i => s1J st fun a r => K nx L (.int a.toInt32 :: r) n w
    | .i2c => s1I st fun a r => K nx L (.int (a.toUInt32 % 65536).toInt32 :: r) n w
    | .if_icmp c _ => s2I st fun a b r => icm c a b (K ax L r n w) (K nx L r n w)
    | .ifCond c _ => s1I st fun a r => icm c a 0 (K ax L r n w) (K nx L r n w)
    | .goto _ => K ax L st n w
    | .dup => match st with
      | v :: r => v.category = 1 ∧ K nx L (v :: v :: r) n w
      | _ => False
    | .dup2 => match st with
      | v :: u :: r => v.category = 1 ∧ u.category = 1 ∧ K nx L (v :: u :: v :: u :: r) n w
      | _ => False
    | .pop => match st with
      | v :: r => v.category = 1 ∧ K nx L r n w
      | _ => False
    | .tableswitch a b c e => s1I st fun x r => ∃ t, swT (.tableswitch a b c e) pc x = some t ∧ J t L r n w
    | .lookupswitch a b => s1I st fun x r => ∃ t, swT (.lookupswitch a b) pc x = some t ∧ J t L r n w
    | .getfield idx => match rF o idx with
      | some (ci, k, _) => s1A st fun a r => isF (w a) ci k ∧ K nx L (gF (w a) k :: r) n w
      | none => False
    | .putfield idx => match rF o idx with
      | some (ci, k, _) => sVA st fun a v r => isF (w a) ci k ∧ pok (ftC ci k) v ∧ (fnC ci k = true → ini = true ∧ ci = o) ∧ K nx L r n (va_up w a (sF (w a) k v))
      | none => False
    | .getstatic idx => match rS o idx with
      | some (j, _) => K nx L (.ref (1000 + j) :: st) n w
      | none => False
    | .iaload => sAI st fun a i r => isP0 (w a) i ∧ K nx L (.int (gE (w a) i.toNatClampNeg) :: r) n w
    | .baload => sAI st fun a i r => isP (w a) 1 i ∧ K nx L (.int (gE (w a) i.toNatClampNeg) :: r) n w
    | .caload => sAI st fun a i r => isP (w a) 2 i ∧ K nx L (.int (gE (w a) i.toNatClampNeg) :: r) n w
    | .iastore => sAII st fun a i x r => isP (w a) 0 i ∧ K nx L r n (va_up w a (sE (w a) i.toNatClampNeg x))
    | .bastore => sAII st fun a i x r => isP (w a) 1 i ∧ K nx L r n (va_up w a (sE (w a) i.toNatClampNeg (vp_nar .boolean x)))
    | .castore => sAII st fun a i x r => isP (w a) 2 i ∧ K nx L r n (va_up w a (sE (w a) i.toNatClampNeg (vp_nar .char x)))
    | .aaload => sAI st fun a i r => isR (w a) i ∧ isS (gO (w a) i.toNatClampNeg) ∧ K nx L (.ref (vS (gO (w a) i.toNatClampNeg)) :: r) n w
    | .aastore => sAIA st fun a i v r => isR (w a) i ∧ isO (w v) 0 ∧ K nx L r n (va_up w a (sO (w a) i.toNatClampNeg v))
    | .arraylength => s1A st fun a r => isSc (w a) ∧ K nx L (.int (nSc (w a)) :: r) n w
    | .new idx => match rC o idx with
      | some ci => n + 1 ≤ nm ∧ K nx L (.ref n :: st) (n + 1) (va_up w n (some (.inr (.inr (ci, dfl ci)))))
      | none => False
    | .newarray ty => s1I st fun x r => akd ty < 3 ∧ ¬ x < 0 ∧ x.toNatClampNeg ≤ 2000 ∧ n + 1 ≤ nm ∧ K nx L (.ref n :: r) (n + 1) (va_up w n (some (.inl ((akd ty, x.toNatClampNeg), fun _ => 0))))
    | .anewarray idx => s1I st fun x r => rC o idx = some 0 ∧ ¬ x < 0 ∧ x.toNatClampNeg ≤ 2000 ∧ n + 1 ≤ nm ∧ K nx L (.ref n :: r) (n + 1) (va_up w n (some (.inr (.inl (x.toNatClampNeg, fun _ => none)))))
    | .invokevirtual idx => kkd 1 (rM o idx) ∧ ivk G d nm J K (rM o idx) nx L st n w
    | .invokespecial idx => kkd 0 (rM o idx) ∧ ivk G d nm J K (rM o idx) nx L st n w
    | .invokestatic idx => kkd 2 (rM o idx) ∧ ivk G d nm J K (rM o idx) nx L st n w
    | .ireturn => s1I st fun x r => r = [] ∧ (∃ ty, rt = some ty ∧ narrow ty (.int x) = .int x) ∧ Rt (some (.int x)) n w
    | .return_ => st = [] ∧ rt = none ∧ Rt none n w
    | _ => False
end
section
/-! SOUNDNESS of the step over the machine -/
theorem lk_mem {α β : Type} [BEq α] [LawfulBEq α] {a : α} {b : β} : ∀ {l : List (α × β)}, l.lookup a = some b → (a, b) ∈ l
  | [], h => by cases h
  | (x, y) :: l, h => by
    rw [List.lookup_cons] at h
    by_cases hx : (a == x) = true
    · rw [hx] at h
      cases h
      rw [eq_of_beq hx]
      exact List.mem_cons_self
    · rw [Bool.not_eq_true] at hx
      rw [hx] at h
      exact List.mem_cons_of_mem _ (lk_mem h)
theorem gd_of {w : Cond} (h : w ∈ lw_tbl) (hg : goodWord w = true) : w ∈ lw_gd := List.mem_filter.mpr ⟨h, hg⟩
theorem uws_good (C : String) (F : u_T) (N : Nat) : ∀ w ∈ u_ws C F N, goodWord w = true := by
  intro w hw
  obtain ⟨k, -, rfl⟩ := List.mem_map.mp hw
  unfold u_lay
  by_cases h : (F k).2.2.2 = true
  · rw [if_pos h]; rfl
  · rw [if_neg h]; rfl
def clOk (ci : Nat) (q : vw_C) : Prop := (∀ w ∈ u_ws q.1 q.2.1 q.2.2, w ∈ lw_gd) ∧ (∀ a, a < q.2.2 → ∀ b, b < q.2.2 → a ≠ b → (q.2.1 a).2.1 ≠ (q.2.1 b).2.1) ∧ (∀ k, k < q.2.2 → parseFieldDescriptor (q.2.1 k).2.2.1 = some (ftC ci k)) ∧ (∀ j, j < q.2.2 → defaultValue (ftC ci j) = vp_V (dfl ci) j) ∧ q.2.2 ≤ 2000 ∧ q.1 = nmO ci
theorem cl_ok {ci : Nat} {q : vw_C} (h : vwCl[ci]? = some q) : clOk ci q := by
  match ci, h with
  | 0, h => cases h; exact ⟨fun w hw => gd_of (inX0 w hw) (uws_good _ _ _ w hw), nmX0, tyX0_ok, (by decide +kernel), (by decide), rfl⟩
  | 1, h => cases h; exact ⟨fun w hw => gd_of (inX1 w hw) (uws_good _ _ _ w hw), nmX1, tyX1_ok, (by decide +kernel), (by decide), rfl⟩
  | 2, h => cases h; exact ⟨fun w hw => gd_of (inX2 w hw) (uws_good _ _ _ w hw), nmX2, tyX2_ok, (by decide +kernel), (by decide), rfl⟩
  | 3, h => cases h; exact ⟨fun w hw => gd_of (inX3 w hw) (uws_good _ _ _ w hw), nmX3, tyX3_ok, (by decide +kernel), (by decide), rfl⟩
  | 4, h => cases h; exact ⟨fun w hw => gd_of (inX4 w hw) (uws_good _ _ _ w hw), nmX4, tyX4_ok, (by decide +kernel), (by decide), rfl⟩
  | 5, h => cases h; exact ⟨fun w hw => gd_of (inX5 w hw) (uws_good _ _ _ w hw), nmX5, tyX5_ok, (by decide +kernel), (by decide), rfl⟩
  | 6, h => cases h; exact ⟨fun w hw => gd_of (inX6 w hw) (uws_good _ _ _ w hw), nmX6, tyX6_ok, (by decide +kernel), (by decide), rfl⟩
  | 7, h => cases h; exact ⟨fun w hw => gd_of (inX7 w hw) (uws_good _ _ _ w hw), nmX7, tyX7_ok, (by decide +kernel), (by decide), rfl⟩
  | ci + 8, h => simp at h
theorem fTbl_k : ∀ e ∈ fTbl, (vwCl[e.2.1]?).any (fun q => decide (e.2.2.1 < q.2.2)) = true := by decide +kernel
theorem rF_ok {o i ci k : Nat} {b : Bool} (h : rF o i = some (ci, k, b)) : ∃ q, vwCl[ci]? = some q ∧ k < q.2.2 ∧ (if b then Cond.fieldLinkNest (nmO o) i (q.2.1 k).1 (q.2.1 k).2.1 (q.2.1 k).2.2.1 "ClawCranes" else Cond.fieldLink (nmO o) i (q.2.1 k).1 (q.2.1 k).2.1 (q.2.1 k).2.2.1) ∈ lw_tbl := by
  have h1 := lk_mem h
  have h2 := fTbl_k _ h1
  have h3 := fTbl_ok _ h1
  unfold fWd at h3
  cases hq : vwCl[ci]? with
  | none => rw [hq] at h2; cases h2
  | some q =>
    rw [hq] at h2 h3
    exact ⟨q, rfl, of_decide_eq_true h2, h3⟩
theorem mk_pos : mpL.map (fun i => lw_tbl[i]?) = mrL.map (fun M => some (Cond.code M.1 M.2.1 M.2.2.1 M.2.2.2.1)) := by
  simp only [mpL, mrL, List.map_append, mcL0, mcL1, mcL2, mcL3, mcL4, mcL5]
theorem mr_code {mi : Nat} (h : mi < mrL.length) : Cond.code (mr mi).1 (mr mi).2.1 (mr mi).2.2.1 (mr mi).2.2.2.1 ∈ lw_tbl := by
  have h1 : (mrL.map (fun M => some (Cond.code M.1 M.2.1 M.2.2.1 M.2.2.2.1)))[mi]? = some (some (Cond.code (mr mi).1 (mr mi).2.1 (mr mi).2.2.1 (mr mi).2.2.2.1)) := by
    rw [List.getElem?_map, List.getElem?_eq_getElem h]
    simp only [mr, List.getElem?_eq_getElem h, Option.map_some, Option.getD_some]
  rw [← mk_pos, List.getElem?_map] at h1
  cases hi : mpL[mi]? with
  | none => rw [hi] at h1; cases h1
  | some i =>
    rw [hi] at h1
    exact List.mem_of_getElem? (Option.some.inj h1)
theorem wLs_good {mi : Nat} (h : mi < mrL.length) : GoodIn lw_gd (wLs mi) := by
  intro w hw
  rcases List.mem_cons.mp hw with rfl | hw
  · exact ⟨gd_of (mr_code h) rfl, good_of_word rfl⟩
  · exact ⟨hw, good_of_word (List.mem_filter.mp hw).2⟩
theorem Kn_same {G : Gx} {u U : State} (h1 : u.vm = U.vm) (h2 : u.heap = U.heap) (h : Kn G u) : Kn G U := by
  obtain ⟨hK, hX, hZ, hN, hO⟩ := h
  have ha : u.vm.Alike U.vm := by rw [h1]; exact Vm.Alike.refl _
  exact ⟨hK.moved ha, fun j hj => ⟨by rw [← h2]; exact (hX j hj).1.moved ha, (hX j hj).2⟩, fun j a b => by rw [← h2]; exact (hZ j a b).moved ha, fun w hw hn => (hN w hw hn).same (by cases w <;> first | rfl | cases hn) h1, hO.moved ha⟩
theorem Kn_warm {G : Gx} {s U : State} {H : Heap} {locs : List Loc} (hU : U.heap = H) (hW : s.WarmedH U.vm) (hS : va_S (gA G) s.heap H locs) (hg : gB G ≤ s.heap.size) (h : Kn G s) : Kn G U := by
  obtain ⟨hK, hX, hZ, hN, hO⟩ := h
  have ha := hW.alike
  refine ⟨hK.moved ha, fun j hj => ⟨?_, (hX j hj).2⟩, fun j a b => ?_, fun w hw hn => ?_, hO.moved ha⟩
  · rw [hU]
    exact ((hX j hj).1.kept (hS.2.1 _ (Nat.lt_of_lt_of_le (hX j hj).2 hg) (Nat.not_le.mpr (hX j hj).2))).moved ha
  · rw [hU]
    exact ((hZ j a b).kept (fun q h1 h2 => hS.2.1 q h1 h2)).moved ha
  · cases w <;> first | exact (hN _ hw hn).warmF hW | exact (hN _ hw hn).warmM hW | cases hn
theorem gPc_blind {G : Gx} {args : List Value} {n : Nat} {w : Wd} : FrameBlind (gPc G args n w) := fun a U g mk h => ⟨h.1, h.2.1, Kn_same (u := U) (U := U.calling g mk a) rfl rfl h.2.2.1, h.2.2.2⟩
theorem isI_inv {x : Option Value} (h : isI x) : ∃ a, x = some (.int a) := by
  unfold isI at h
  split at h
  · exact ⟨_, rfl⟩
  · exact h.elim
theorem isJ_inv {x : Option Value} (h : isJ x) : ∃ a, x = some (.long a) := by
  unfold isJ at h
  split at h
  · exact ⟨_, rfl⟩
  · exact h.elim
theorem isA_inv {x : Option Value} (h : isA x) : ∃ a, x = some (.ref a) := by
  unfold isA at h
  split at h
  · exact ⟨_, rfl⟩
  · exact h.elim
theorem isF_inv {x : Option En} {ci k : Nat} (h : isF x ci k) : ∃ fs, x = some (.inr (.inr (ci, fs))) ∧ k < fs.length := by
  unfold isF at h
  split at h
  · obtain ⟨rfl, h⟩ := h
    exact ⟨_, rfl, h⟩
  · exact h.elim
theorem isO_inv {x : Option En} {ci : Nat} (h : isO x ci) : ∃ fs, x = some (.inr (.inr (ci, fs))) := by
  unfold isO at h
  split at h
  · subst h
    exact ⟨_, rfl⟩
  · exact h.elim
theorem isP_inv {x : Option En} {k : Nat} {i : Int32} (h : isP x k i) : ∃ len f, x = some (.inl ((k, len), f)) ∧ vp_in i len := by
  unfold isP at h
  split at h
  · obtain ⟨rfl, h⟩ := h
    exact ⟨_, _, rfl, h⟩
  · exact h.elim
theorem isP0_inv {x : Option En} {i : Int32} (h : isP0 x i) : ∃ k len f, x = some (.inl ((k, len), f)) ∧ vp_in i len ∧ (k = 0 ∨ k = 4) := by
  unfold isP0 at h
  split at h
  · exact ⟨_, _, _, rfl, h.2, h.1⟩
  · exact h.elim
theorem isR_inv {x : Option En} {i : Int32} (h : isR x i) : ∃ len g, x = some (.inr (.inl (len, g))) ∧ vp_in i len := by
  unfold isR at h
  split at h
  · exact ⟨_, _, rfl, h⟩
  · exact h.elim
theorem isS_inv {x : Option Nat} (h : isS x) : ∃ v, x = some v := by
  cases x with
  | none => exact h.elim
  | some v => exact ⟨v, rfl⟩
theorem isSc_inv {x : Option En} (h : isSc x) : ∃ len f, x = some (.inl ((4, len), f)) := by
  unfold isSc at h
  split at h
  · exact ⟨_, _, rfl⟩
  · exact h.elim
theorem isCp_inv {x y : Option En} {sp dp n : Int32} (h : isCp x y sp dp n) : ∃ k0 n0 f n1 g, x = some (.inl ((k0, n0), f)) ∧ y = some (.inl ((0, n1), g)) ∧ (k0 = 0 ∨ k0 = 4) ∧ ¬ sp < 0 ∧ ¬ dp < 0 ∧ ¬ n < 0 ∧ sp.toNatClampNeg + n.toNatClampNeg ≤ n0 ∧ dp.toNatClampNeg + n.toNatClampNeg ≤ n1 := by
  unfold isCp at h
  split at h
  · obtain ⟨a, rfl, b⟩ := h
    exact ⟨_, _, _, _, _, rfl, rfl, a, b⟩
  · exact h.elim
theorem cat_le (G : Gx) : ∀ (r : List Value), ((r.map (gtv G)).map fun v => v.category).sum ≤ 2 * r.length
  | [] => Nat.le_refl _
  | v :: r => by
    have h := cat_le G r
    have h2 : v.category ≤ 2 := by cases v <;> simp [Value.category]
    simp only [List.map_cons, List.sum_cons, List.length_cons, gtv_cat]
    omega
end
section
/-! SOUNDNESS of the step over the machine: the rows -/
section SND
variable {G : Gx} {p : Program} {e : Env} {R : Room} {s : State} {m : MethodId} {args : Array Value} {below : List Frame} {meth : Method} {c : Code} {Z : State → Prop} {cc : ByteArray} {o mL d n0 nm : Nat} {ini : Bool} {rt : Option FieldType} {Rt : Option Value → Nat → Wd → Prop}
def Jm (G : Gx) (p : Program) (e : Env) (R : Room) (s : State) (m : MethodId) (args : Array Value) (below : List Frame) (meth : Method) (c : Code) (Z : State → Prop) (mL n0 nm : Nat) : Kt := fun pc L st n w => n0 ≤ n ∧ n ≤ nm → L.length = mL → ∀ (H : Heap) (locs : List Loc) (ls : Array Slot), Cur G n w H → va_S (gA G) s.heap H locs → lvL G ls L → W p (gL G) e R s m args below meth c H locs (n - n0) (2000 * (n - n0)) Z (F0 m pc ls (st.map (gtv G)))
def Cx (G : Gx) (p : Program) (R : Room) (s : State) (m : MethodId) (args : Array Value) (meth : Method) (c : Code) (cc : ByteArray) (o mL d n0 nm : Nat) (ini : Bool) : Prop :=
  p.tables.exec = Jvm.exec ∧ c.code = cc ∧ c.maxLocals = mL ∧ s.vm.findClass (nmO o) = some m.cls ∧ (∀ w ∈ lw_gd, w.before args s = true) ∧ Kn G s ∧ s.heap.size = gB G + n0 ∧ d + 1 ≤ R.frames ∧ 37 * (d + 1) ≤ R.locals ∧ nm - n0 ≤ R.cells ∧ 2000 * (nm - n0) ≤ R.slots ∧ nm ≤ 1000 ∧ (ini = true → meth.name = "<init>")
def Rok (G : Gx) (p : Program) (e : Env) (R : Room) (s : State) (m : MethodId) (args : Array Value) (below : List Frame) (meth : Method) (c : Code) (Z : State → Prop) (cc : ByteArray) (n0 : Nat) (rt : Option FieldType) (Rt : Option Value → Nat → Wd → Prop) : Prop :=
  (∀ (x : Int32) (ty : FieldType) (n : Nat) (w : Wd) (pc : Nat) (H : Heap) (locs : List Loc) (ls : Array Slot), decode cc pc = .ok (.ireturn, 1) → rt = some ty → narrow ty (.int x) = .int x → Rt (some (.int x)) n w → n0 ≤ n → Cur G n w H → va_S (gA G) s.heap H locs → W p (gL G) e R s m args below meth c H locs (n - n0) (2000 * (n - n0)) Z (F0 m pc ls [.int x])) ∧
  (∀ (n : Nat) (w : Wd) (pc : Nat) (H : Heap) (locs : List Loc) (ls : Array Slot), decode cc pc = .ok (.return_, 1) → rt = none → Rt none n w → n0 ≤ n → Cur G n w H → va_S (gA G) s.heap H locs → W p (gL G) e R s m args below meth c H locs (n - n0) (2000 * (n - n0)) Z (F0 m pc ls []))
theorem Cur_up {n : Nat} {w : Wd} {H H1 : Heap} {a : Nat} {e0 e1 : En} (hC : Cur G n w H) (ha : w a = some e0) (h0 : eRO e0 = false) (h1 : eRO e1 = false) (hP : va_P (gD G) vwCl ((gwl G n w).set a (gal G a, gte G (some e1))) H1) : Cur G n (va_up w a (some e1)) H1 :=
  ⟨by rw [← gwl_set (gdm_lt hC.2 ha h0), ← gdm_al hC.2 ha h0]; exact hP, gdm_up hC.2 ha h0 h1⟩
theorem Cur_lo {n : Nat} {w : Wd} {H : Heap} (hC : Cur G n w H) (hg : gB G ≤ H.size) : gB G + n ≤ H.size := by
  match n, hC with
  | 0, _ => exact hg
  | n + 1, hC =>
    have h1 := gwl_get (G := G) (w := w) (Nat.lt_succ_self n)
    have h2 := (hC.1 n _ h1).lt
    dsimp only at h2
    omega
theorem gwl_at {n : Nat} {w : Wd} {a : Nat} {e0 : En} (hd : gdm G n w) (ha : w a = some e0) (h0 : eRO e0 = false) : (gwl G n w)[a]? = some (gal G a, gte G (some e0)) := by
  rw [gwl_get (gdm_lt hd ha h0), ha, gdm_al hd ha h0]
end SND
section SZ
variable {p : Program} {l : Launch} {e : Env} {R : Room} {s : State} {m : MethodId} {args : Array Value} {below : List Frame} {meth : Method} {c : Code} {H : Heap} {locs : List Loc} {cells slots : Nat} {Q : State → Prop}
variable {cc : ByteArray} {pc : Nat} {ls : Array Slot} {rest : List Value} {D : va_G} {cl : List vw_C} {A : Nat → Prop} {a : Nat} {tys : List (ClassId × FieldType)} {ws : va_W} {H0 : Heap}
theorem W_sz {g : JFrame} (kk : H.size ≤ s.heap.size + cells → W p l e R s m args below meth c H locs cells slots Q g) : W p l e R s m args below meth c H locs cells slots Q g := fun T hT X => kk (by have := X.same.2.2.1; rw [← hT]; exact this) T hT X
theorem g_new {c0 : Code} (hexec : p.tables.exec = Jvm.exec) (hb : c0.code = cc) {own C : String} {T : u_T} {N ci index : Nat} {Ts : List Cond} (hts : ∀ w ∈ Ts, w.before args s = true) (hin : ∀ w ∈ u_ws C T N, w ∈ Ts) (ty : Nat → FieldType) (hty : ∀ k, k < N → parseFieldDescriptor (T k).2.2.1 = some (ty k)) (hown : s.vm.findClass own = some m.cls) (hcl : (Cond.classLink own index C).before args s = true) (hinst : (Cond.instantiable C N).before args s = true) (hini : (Cond.initialized C).before args s = true)
    (hK : va_K D cl tys s) (hP : va_P D cl ws H) (hS : va_S A s.heap H locs) (hc : cl[ci]? = some (C, T, N)) {fs : List Value} (hfs : ∀ j, j < N → defaultValue (ty j) = vp_V fs j) (hcells : cells + 1 ≤ R.cells) (hslots : slots + N ≤ R.slots) (hdg : decode cc pc = .ok (.new index, 3))
    (kk : ∀ (H1 : Heap), va_P D cl (ws ++ [(H.size, .inr (ci, fs))]) H1 → va_S A s.heap H1 locs → W p l e R s m args below meth c0 H1 locs (cells + 1) (slots + N) Q (F0 m (pc + 3) ls (.ref H.size :: rest))) : W p l e R s m args below meth c0 H locs cells slots Q (F0 m pc ls rest) := by
  have hKn := hK.1 ci _ hc
  refine W.newcK hexec hb hown hcl hinst hini rfl hdg hcells hslots hKn.2.1 rfl fun H1 kC hkC e1 z1 o1 => ?_
  refine kk H1 ((hP.kept (fun k x hx => o1 x.1 ((hP k x hx).lt))).app (fun k x hx => ?_)) ⟨Nat.le_trans hS.1 (by omega), fun x h1 h2 => (o1 x (Nat.lt_of_lt_of_le h1 hS.1)).trans (hS.2.1 x h1 h2), hS.2.2⟩
  have hz : k < 1 := (List.getElem?_eq_some_iff.mp hx).1
  rw [show k = 0 by omega] at hx
  cases hx
  exact ⟨_, hc, (u_born ty hts hin hKn hkC e1 hty).to hfs⟩
theorem g_newa (hexec : p.tables.exec = Jvm.exec) (hb : c.code = cc) {atype : ArrayType} (harr : (Cond.arrayClass (newarray.typeOf atype)).before args s = true) {cA : ClassId} (hA : s.vm.findClass ("[" ++ (newarray.typeOf atype).toString) = some cA) (hdf : defaultValue (newarray.typeOf atype) = .int 0) (hP : va_P D cl ws H) (hS : va_S A s.heap H locs)
    {n : Int32} {N' : Nat} (hn : ¬ n < 0) (hN : n.toNatClampNeg = N') (hbytes : N' * componentBytes (newarray.typeOf atype) ≤ 536870912) (hcells : cells + 1 ≤ R.cells) (hslots : slots + N' ≤ R.slots) (hdg : decode cc pc = .ok (.newarray atype, 2))
    (kk : ∀ (H1 : Heap), va_P D cl (ws ++ [(H.size, .inl (cA, N', .inl (fun _ => 0)))]) H1 → va_S A s.heap H1 locs → W p l e R s m args below meth c H1 locs (cells + 1) (slots + N') Q (F0 m (pc + 2) ls (.ref H.size :: rest))) : W p l e R s m args below meth c H locs cells slots Q (F0 m pc ls (.int n :: rest)) := by
  refine va_newaK hexec hb harr rfl hdg rfl hn hN hbytes hcells hslots rfl fun H1 cA' e1 z1 o1 hAr hNm => ?_
  cases hA.symm.trans hNm
  refine kk H1 ((hP.kept (fun k x hx => o1 x.1 ((hP k x hx).lt))).app (fun k x hx => ?_)) ⟨Nat.le_trans hS.1 (by omega), fun x h1 h2 => (o1 x (Nat.lt_of_lt_of_le h1 hS.1)).trans (hS.2.1 x h1 h2), hS.2.2⟩
  have hz : k < 1 := (List.getElem?_eq_some_iff.mp hx).1
  rw [show k = 0 by omega] at hx
  cases hx
  show H1[H.size]? = some (vp_cell _ _)
  rw [e1, hdf]
  rfl
theorem g_newq (hexec : p.tables.exec = Jvm.exec) (hb : c.code = cc) {own C : String} {index : Nat} (hown : s.vm.findClass own = some m.cls) (hclink : (Cond.classLink own index C).before args s = true) (hover : va_AO C s) {cA : ClassId} (hA : s.vm.findClass ("[" ++ (FieldType.object C).toString) = some cA) (hP : va_P D cl ws H) (hS : va_S A s.heap H locs)
    {n : Int32} {N' : Nat} (hn : ¬ n < 0) (hN : n.toNatClampNeg = N') (hbytes : N' * 4 ≤ 536870912) (hcells : cells + 1 ≤ R.cells) (hslots : slots + N' ≤ R.slots) (hdg : decode cc pc = .ok (.anewarray index, 3))
    (kk : ∀ (H1 : Heap), va_P D cl (ws ++ [(H.size, .inl (cA, N', .inr (.inr (.inr (.inr (fun _ => none))))))]) H1 → va_S A s.heap H1 locs → W p l e R s m args below meth c H1 locs (cells + 1) (slots + N') Q (F0 m (pc + 3) ls (.ref H.size :: rest))) : W p l e R s m args below meth c H locs cells slots Q (F0 m pc ls (.int n :: rest)) := by
  subst hN
  refine W.anew hexec hb hown hclink (va_AO.use hover) rfl hdg rfl hn hbytes hcells hslots fun cA' kA comp f1 f2 f3 f4 => ?_
  cases hA.symm.trans f1
  generalize hH1 : H.push ({ cls := cA, slots := Array.replicate n.toNatClampNeg .null, vm := .none } : Cell) = H1
  have z1 : H1.size = H.size + 1 := by rw [← hH1, Array.size_push]
  have e1 : H1[H.size]? = some (arrV cA n.toNatClampNeg (fun _ => .null)) := by rw [← hH1, Array.getElem?_push_size, ← arrV_new]
  have o1 : ∀ q : Nat, q < H.size → H1[q]? = H[q]? := fun q hq => by rw [← hH1, Array.getElem?_push, if_neg (Nat.ne_of_lt hq)]
  refine kk H1 ((hP.kept (fun k x hx => o1 x.1 ((hP k x hx).lt))).app (fun k x hx => ?_)) ⟨Nat.le_trans hS.1 (by omega), fun x h1 h2 => (o1 x (Nat.lt_of_lt_of_le h1 hS.1)).trans (hS.2.1 x h1 h2), hS.2.2⟩
  have hz : k < 1 := (List.getElem?_eq_some_iff.mp hx).1
  rw [show k = 0 by omega] at hx
  cases hx
  show H1[H.size]? = some (vp_cell _ _)
  rw [e1]
  rfl
theorem g_call {G : Gx} {n : Nat} {Q0 : Option Value → Wd → Prop} {mc ms : Nat} {st0 : List Value} {av : Array Value} (hr : va_Run p l e R s m args below meth c H locs cells slots mc ms (F0 m pc ls st0) rest (gQc G n Q0 av) (gA G)) (hS : va_S (gA G) s.heap H locs)
    (kk : ∀ (r : Option Value) (w' : Wd) (H1 : Heap) (locs1 : List Loc), Q0 r w' → Cur G n w' H1 → va_S (gA G) s.heap H1 locs1 → W p l e R s m args below meth c H1 locs1 (cells + mc) (slots + ms) Q (F0 m (pc + 3) ls ((r.map (gtv G)).toList ++ rest))) : W p l e R s m args below meth c H locs cells slots Q (F0 m pc ls st0) := by
  intro T hT X
  obtain ⟨v, st₀, t, T', L, h0, X', hL, e1, e2, ⟨⟨r, w', hv, hp, hb⟩, hz, hk⟩, st⟩ := hr T hT X
  cases hv
  rw [h0] at hz hk
  obtain ⟨t2, a1, b1⟩ := kk r w' T'.heap (locs ++ L) hp (by rw [e1]; exact hb)
    ⟨Nat.le_trans hS.1 (by rw [e1]; exact hz), fun q h1 h2 => by rw [e1, hk q (Nat.lt_of_lt_of_le h1 hS.1) h2]; exact hS.2.1 q h1 h2, fun q hq => by
      rcases List.mem_append.mp hq with h | h
      · exact hS.2.2 q h
      · exact hL q h⟩ T' rfl X'
  exact ⟨t2, st t2 a1, b1⟩
end SZ
end
section
/-! SOUNDNESS of the step over the machine: the theorem -/
theorem fTbl_own : ∀ e ∈ fTbl, (vwCl[e.2.1]?).all (fun q => decide ((q.2.1 e.2.2.1).1 = q.1)) = true := by decide +kernel
theorem fTbl_nst : ∀ e ∈ fTbl, (decide (e.2.2.2 = true → ¬ e.2.1 = e.1.1)) = true := by decide +kernel
theorem cNo : ¬ Cond.classLink "" 0 "" ∈ lw_tbl := by decide +kernel
theorem acI : Cond.arrayClass .int ∈ lw_tbl := by decide +kernel
theorem acZ : Cond.arrayClass .boolean ∈ lw_tbl := by decide +kernel
theorem acC : Cond.arrayClass .char ∈ lw_tbl := by decide +kernel
section SND3
variable {G : Gx} {p : Program} {e : Env} {R : Room} {s : State} {m : MethodId} {args : Array Value} {below : List Frame} {meth : Method} {c : Code} {Z : State → Prop} {cc : ByteArray} {o mL d n0 nm : Nat} {ini : Bool} {rt : Option FieldType} {Rt : Option Value → Nat → Wd → Prop}
theorem st_split (G : Gx) (st : List Value) (na : Nat) : st.map (gtv G) = (((st.take na).reverse).map (gtv G)).reverse ++ (st.drop na).map (gtv G) := by
  rw [List.map_reverse, List.reverse_reverse, ← List.map_append, List.take_append_drop]
theorem mEx_of {o idx mi kd na : Nat} (h : rM o idx = some (mi, kd, na)) (hk : kd < 9) : mi < mrL.length ∧ ((mr mi).1.cls ≠ "java/lang/invoke/MethodHandle" ∧ (mr mi).1.cls ≠ "java/lang/invoke/VarHandle") ∧ (∀ sig, parseMethodDescriptor (mr mi).1.desc = some sig → na = sig.parameters.length + (if kd < 2 then 0 else 1)) ∧ (mr mi).2.2.1 ≤ 18 ∧ (mr mi).1.cls = nmO (mr mi).2.2.2.2 ∧ (kd = 2 ∨ kd = 3 → (mr mi).1.name = "<init>" ∧ (mr mi).2.2.2.1 = none) := by
  have h1 := mTbl_ex _ (lk_mem h)
  simp only [mEx, Bool.or_eq_true, Bool.and_eq_true, decide_eq_true_eq] at h1
  rcases h1 with h1 | ⟨⟨⟨⟨⟨⟨a1, a2⟩, a3⟩, a4⟩, a5⟩, a6⟩, a7⟩
  · omega
  · refine ⟨a1, a3, fun sig hs => ?_, a5, a6, fun hq => ?_⟩
    · rw [hs] at a4
      exact (Option.some.inj a4).symm
    · rcases a7 with a7 | a7
      · omega
      · exact a7
theorem call_go {k n : Nat} {L st : List Value} {na : Nat} {pc : Nat} {av : Array Value} (hn : n0 ≤ n ∧ n ≤ nm) (hk : n + k ≤ nm) (hL : L.length = mL) {H : Heap} {locs : List Loc} {ls : Array Slot} (hS : va_S (gA G) s.heap H locs) (hl : lvL G ls L)
    (hr : va_Run p (gL G) e R s m args below meth c H locs (n - n0) (2000 * (n - n0)) k (2000 * k) (F0 m pc ls (st.map (gtv G))) ((st.drop na).map (gtv G)) (gQc G (n + k) (fun r w' => Jm G p e R s m args below meth c Z mL n0 nm (pc + 3) L (r.toList ++ st.drop na) (n + k) w') av) (gA G)) :
    W p (gL G) e R s m args below meth c H locs (n - n0) (2000 * (n - n0)) Z (F0 m pc ls (st.map (gtv G))) := by
  refine g_call hr hS fun r w' H1 locs1 hQ hC1 hS1 => ?_
  have h1 := hQ (by omega) hL H1 locs1 ls hC1 hS1 hl
  have e1 : (r.toList ++ st.drop na).map (gtv G) = (r.map (gtv G)).toList ++ (st.drop na).map (gtv G) := by cases r <;> simp
  rw [e1] at h1
  exact W.widen (k := n + k - n0) (n := 2000 * (n + k - n0)) (by omega) (by omega) h1
theorem snd_st (C : Cx G p R s m args meth c cc o mL d n0 nm ini) {K : Kt} (hK : ∀ pc L st n w, K pc L st n w → Jm G p e R s m args below meth c Z mL n0 nm pc L st n w) {pc idx : Nat} {L st : List Value} {n : Nat} {w : Wd}
    (hdg : decode cc pc = .ok (.invokestatic idx, 3)) (hk : kkd 2 (rM o idx)) (h : ivk G d nm (Jm G p e R s m args below meth c Z mL n0 nm) K (rM o idx) (pc + 3) L st n w) : Jm G p e R s m args below meth c Z mL n0 nm pc L st n w := by
  obtain ⟨hx, hb, hml, hown, hts, hKn, hgb, hRf, hRl, hRc, hRs, hnm, hin⟩ := C
  have hgl : gB G ≤ s.heap.size := by omega
  intro hn hL H locs ls hC hS hl
  cases hr : rM o idx with
  | none => rw [hr] at h; exact h.elim
  | some q =>
    obtain ⟨mi, kd, na⟩ := q
    rw [hr] at hk h
    have hok := mTbl_ok _ (lk_mem hr)
    dsimp only at hok
    have hsz : ls.size = mL := hl.1.trans hL
    rcases hk with rfl | rfl | rfl | rfl | rfl
    · obtain ⟨h1, h2, -, k, h3, hT⟩ := h
      obtain ⟨m1, m2, m3, m4, m5, m6⟩ := mEx_of hr (by omega)
      refine W_sz fun hz => ?_
      have hlo := Cur_lo hC (Nat.le_trans hgl hS.1)
      have hHs : H.size = gB G + n := by omega
      refine call_go hn h3 hL hS hl (va_runS (own := nmO o) (index := idx) (n := na) (nL := mL) (As := ((st.take na).reverse).map (gtv G)) ⟨hx, hb, hml, hown, hts⟩ hT ⟨⟨rfl, rfl, hRf, by show 8 + ((mr mi).2.2.1 + 11) + 37 * d ≤ _; omega, pay_in hts (wLs_good m1), List.mem_cons_self, hts _ (gd_of (mr_code m1) rfl), hts _ (gd_of (hok _ (by simp [kWs])) rfl), m2, fun sig hs => by have := m3 sig hs; simpa using this, hts _ (gd_of (hok _ (by simp [kWs])) rfl)⟩, hts _ (gd_of (hok _ (by simp [kWs])) rfl)⟩ ⟨gPc_blind, fun U hU hW => ⟨rfl, by rw [hU]; exact hC, Kn_warm hU hW hS hgl hKn, by rw [hU]; exact hHs⟩⟩ rfl (by simp; omega) hsz (st_split G st na) (lv_room (Nat.le_trans (cat_le G _) (by omega))) hdg ⟨by omega, by omega⟩)
    · obtain ⟨h1, h2, -, k, h3, hT⟩ := h
      obtain ⟨m1, m2, m3, m4, m5, m6⟩ := mEx_of hr (by omega)
      refine W_sz fun hz => ?_
      have hlo := Cur_lo hC (Nat.le_trans hgl hS.1)
      have hHs : H.size = gB G + n := by omega
      refine call_go hn h3 hL hS hl (va_runSN (own := nmO o) (index := idx) (n := na) (nL := mL) (As := ((st.take na).reverse).map (gtv G)) ⟨hx, hb, hml, hown, hts⟩ hT ⟨⟨⟨rfl, rfl, hRf, by show 8 + ((mr mi).2.2.1 + 11) + 37 * d ≤ _; omega, pay_in hts (wLs_good m1), List.mem_cons_self⟩, hts _ (gd_of (mr_code m1) rfl), hts _ (gd_of (hok _ (by simp [kWs])) rfl), m2, fun sig hs => by have := m3 sig hs; simpa using this, (hKn.2.2.2.1 _ (hok _ List.mem_cons_self) rfl).use rfl⟩, hts _ (gd_of (hok _ (by simp [kWs])) rfl), trivial⟩ ⟨gPc_blind, fun U hU hW => ⟨rfl, by rw [hU]; exact hC, Kn_warm hU hW hS hgl hKn, by rw [hU]; exact hHs⟩⟩ rfl (by simp; omega) hsz (st_split G st na) (lv_room (Nat.le_trans (cat_le G _) (by omega))) hdg ⟨by omega, by omega⟩)
    · obtain ⟨a, sp, b, dp, q, r, rfl, h1, h2, h⟩ := sCpy_inv h
      obtain ⟨k0, l0, f, l1, g, ha, hb1, hk0, c1, c2, c3, c4, c5⟩ := isCp_inv h2
      rw [ha, hb1] at h
      have fin : ∀ (H1 : Heap) (locs1 : List Loc), va_P (gD G) vwCl ((gwl G n w).set b (gal G b, .inl (gC G 0, l1, .inl (va_cpy f g sp.toNatClampNeg dp.toNatClampNeg q.toNatClampNeg)))) H1 → va_S (gA G) s.heap H1 locs1 → W p (gL G) e R s m args below meth c H1 locs1 (n - n0) (2000 * (n - n0)) Z (F0 m (pc + 3) ls (r.map (gtv G))) := fun H1 locs1 hP1 hS1 => hK _ _ _ _ _ h hn hL H1 locs1 ls (Cur_up (e1 := .inl ((0, l1), va_cpy f g sp.toNatClampNeg dp.toNatClampNeg q.toNatClampNeg)) hC hb1 rfl rfl hP1) hS1 hl
      have hlc : ((r.map (gtv G)).map fun v => v.category).sum + (nativeFrameWords "java/lang/System" "arraycopy" 5 + 11) ≤ R.locals := by
        have := cat_le G r
        have e3 : nativeFrameWords "java/lang/System" "arraycopy" 5 ≤ 16 := by decide +kernel
        omega
      rcases hk0 with rfl | rfl
      · exact va_copyi hx hb (hml.trans hsz.symm) hown (hts _ (gd_of (hok _ (by simp [kWs])) rfl)) (hts _ (gd_of (hok _ (by simp [kWs])) rfl)) (hts _ (gd_of (hok _ (by simp [kWs])) rfl)) (hts _ (gd_of (hok _ (by simp [kWs])) rfl)) hKn.1 hC.1 gwl_D hS a b 0 0 (gwl_at hC.2 ha rfl) (gwl_at hC.2 hb1 rfl) rfl rfl rfl c1 c2 c3 c4 c5 (fun i _ => rfl) (by omega) hlc hdg (fun H1 locs1 hP1 _ hS1 => fin H1 locs1 hP1 hS1)
      · obtain ⟨j, hj, e1, rfl, rfl⟩ := gdm_ro hC.2 ha
        have hlt := (hKn.2.1 j hj).2
        show W p (gL G) e R s m args below meth c H locs (n - n0) (2000 * (n - n0)) Z (F0 m pc ls (.int q :: .int dp :: .ref (gal G b) :: .int sp :: .ref (gal G a) :: r.map (gtv G)))
        rw [e1]
        exact va_copyx hx hb (hml.trans hsz.symm) hown (hts _ (gd_of (hok _ (by simp [kWs])) rfl)) (hts _ (gd_of (hok _ (by simp [kWs])) rfl)) (hts _ (gd_of (hok _ (by simp [kWs])) rfl)) (hts _ (gd_of (hok _ (by simp [kWs])) rfl)) hKn.1 hC.1 gwl_D hS (hKn.2.1 j hj).1 (Nat.lt_of_lt_of_le hlt hgl) (Nat.not_le.mpr hlt) b 0 (gwl_at hC.2 hb1 rfl) rfl c1 c2 c3 c4 c5 (by omega) hlc hdg (fun H1 locs1 hP1 _ hS1 => fin H1 locs1 hP1 hS1)
    · obtain ⟨a, b, r, rfl, h1, h⟩ := s2I_inv h
      have := cat_le G r
      exact va_mmax hx hb (hml.trans hsz.symm) hown (hts _ (gd_of (hok _ (by simp [kWs])) rfl)) (hts _ (gd_of (hok _ (by simp [kWs])) rfl)) (hts _ (gd_of (hok _ (by simp [kWs])) rfl)) (hts _ (gd_of (hok _ (by simp [kWs])) rfl)) (by omega) (by omega) (by omega) (by omega) hdg (hK _ _ _ _ _ h hn hL H locs ls hC hS hl)
    · obtain ⟨a, b, r, rfl, h1, h⟩ := s2I_inv h
      have := cat_le G r
      exact va_mmin hx hb (hml.trans hsz.symm) hown (hts _ (gd_of (hok _ (by simp [kWs])) rfl)) (hts _ (gd_of (hok _ (by simp [kWs])) rfl)) (hts _ (gd_of (hok _ (by simp [kWs])) rfl)) (hts _ (gd_of (hok _ (by simp [kWs])) rfl)) (by omega) (by omega) (by omega) (by omega) hdg (hK _ _ _ _ _ h hn hL H locs ls hC hS hl)
theorem isRc_inv {w : Wd} {mi : Nat} {l : List Value} (h : isRc w mi l) : ∃ b l' fs, l = .ref b :: l' ∧ w b = some (.inr (.inr ((mr mi).2.2.2.2, fs))) := by
  match l, h with
  | .ref b :: l', h =>
    obtain ⟨fs, hf⟩ := isO_inv h
    exact ⟨b, l', fs, rfl, hf⟩
theorem st_split2 (G : Gx) {st : List Value} {na b : Nat} {l : List Value} (h : (st.take na).reverse = .ref b :: l) : st.map (gtv G) = (l.map (gtv G)).reverse ++ .ref (gal G b) :: (st.drop na).map (gtv G) := by
  rw [st_split G st na, h, List.map_cons, List.reverse_cons, List.append_assoc]
  rfl
theorem snd_sp (C : Cx G p R s m args meth c cc o mL d n0 nm ini) {K : Kt} (hK : ∀ pc L st n w, K pc L st n w → Jm G p e R s m args below meth c Z mL n0 nm pc L st n w) {pc idx : Nat} {L st : List Value} {n : Nat} {w : Wd}
    (hdg : decode cc pc = .ok (.invokespecial idx, 3)) (hk : kkd 0 (rM o idx)) (h : ivk G d nm (Jm G p e R s m args below meth c Z mL n0 nm) K (rM o idx) (pc + 3) L st n w) : Jm G p e R s m args below meth c Z mL n0 nm pc L st n w := by
  obtain ⟨hx, hb, hml, hown, hts, hKn, hgb, hRf, hRl, hRc, hRs, hnm, hin⟩ := C
  have hgl : gB G ≤ s.heap.size := by omega
  intro hn hL H locs ls hC hS hl
  cases hr : rM o idx with
  | none => rw [hr] at h; exact h.elim
  | some q =>
    obtain ⟨mi, kd, na⟩ := q
    rw [hr] at hk h
    have hok := mTbl_ok _ (lk_mem hr)
    dsimp only at hok
    have hsz : ls.size = mL := hl.1.trans hL
    rcases hk with rfl | rfl | rfl
    · obtain ⟨h1, h2, h0, k, h3, hT⟩ := h
      obtain ⟨m1, m2, m3, m4, m5, m6⟩ := mEx_of hr (by omega)
      obtain ⟨m7, m8⟩ := m6 (by omega)
      obtain ⟨b, l, fs, e0, hwb⟩ := isRc_inv (h0 (by omega))
      have hln : (st.take na).reverse.length = l.length + 1 := by rw [e0]; rfl
      rw [List.length_reverse, List.length_take] at hln
      refine W_sz fun hz => ?_
      have hlo := Cur_lo hC (Nat.le_trans hgl hS.1)
      have hHs : H.size = gB G + n := by omega
      rw [e0] at hT
      refine call_go hn h3 hL hS hl (va_runI (own := nmO o) (index := idx) (n := na - 1) (nL := mL) (b := gal G b) (As := l.map (gtv G)) ⟨hx, hb, hml, hown, hts⟩ hT ⟨⟨rfl, rfl, hRf, by show 8 + ((mr mi).2.2.1 + 11) + 37 * d ≤ _; omega, pay_in hts (wLs_good m1), by rw [← m8]; exact List.mem_cons_self, by rw [← m8]; exact hts _ (gd_of (mr_code m1) rfl), hts _ (gd_of (hok _ (by simp [kWs])) rfl), m2, fun sig hs => by have := m3 sig hs; simp at this; omega, hts _ (gd_of (hok _ (by simp [kWs])) rfl)⟩, m7, hts _ (gd_of (hok _ (by simp [kWs])) rfl)⟩ ⟨gPc_blind, fun U hU hW => ⟨rfl, by rw [hU]; exact hC, Kn_warm hU hW hS hgl hKn, by rw [hU]; exact hHs⟩⟩ rfl (by simp; omega) hsz (st_split2 G e0) (lv_room (Nat.le_trans (cat_le G _) (by omega))) hdg ⟨by omega, by omega⟩)
    · obtain ⟨h1, h2, h0, k, h3, hT⟩ := h
      obtain ⟨m1, m2, m3, m4, m5, m6⟩ := mEx_of hr (by omega)
      obtain ⟨m7, m8⟩ := m6 (by omega)
      obtain ⟨b, l, fs, e0, hwb⟩ := isRc_inv (h0 (by omega))
      have hln : (st.take na).reverse.length = l.length + 1 := by rw [e0]; rfl
      rw [List.length_reverse, List.length_take] at hln
      refine W_sz fun hz => ?_
      have hlo := Cur_lo hC (Nat.le_trans hgl hS.1)
      have hHs : H.size = gB G + n := by omega
      rw [e0] at hT
      refine call_go hn h3 hL hS hl (va_runIN (own := nmO o) (index := idx) (n := na - 1) (nL := mL) (b := gal G b) (As := l.map (gtv G)) ⟨hx, hb, hml, hown, hts⟩ hT ⟨⟨⟨rfl, rfl, hRf, by show 8 + ((mr mi).2.2.1 + 11) + 37 * d ≤ _; omega, pay_in hts (wLs_good m1), by rw [← m8]; exact List.mem_cons_self⟩, by rw [← m8]; exact hts _ (gd_of (mr_code m1) rfl), hts _ (gd_of (hok _ (by simp [kWs])) rfl), m2, fun sig hs => by have := m3 sig hs; simp at this; omega, (hKn.2.2.2.1 _ (hok _ List.mem_cons_self) rfl).use rfl⟩, m7, hts _ (gd_of (hok _ (by simp [kWs])) rfl)⟩ ⟨gPc_blind, fun U hU hW => ⟨rfl, by rw [hU]; exact hC, Kn_warm hU hW hS hgl hKn, by rw [hU]; exact hHs⟩⟩ rfl (by simp; omega) hsz (st_split2 G e0) (lv_room (Nat.le_trans (cat_le G _) (by omega))) hdg ⟨by omega, by omega⟩)
    · obtain ⟨a, r, rfl, h1, h⟩ := s1A_inv h
      have := cat_le G r
      refine W.objInit hx hb hown (hts _ (gd_of (hok _ (by simp [kWs])) rfl)) (hts _ (gd_of (hok _ (by simp [kWs])) rfl)) (hts _ (gd_of (hok _ (by simp [kWs])) rfl)) rfl (hsz.trans hml.symm) rfl hdg (by omega) ?_ (hK _ _ _ _ _ h hn hL H locs ls hC hS hl)
      show 2 * 0 + ((r.map (gtv G)).map fun v => v.category).sum + 12 ≤ R.locals
      omega
theorem snd_vi (C : Cx G p R s m args meth c cc o mL d n0 nm ini) {K : Kt} (hK : ∀ pc L st n w, K pc L st n w → Jm G p e R s m args below meth c Z mL n0 nm pc L st n w) {pc idx : Nat} {L st : List Value} {n : Nat} {w : Wd}
    (hdg : decode cc pc = .ok (.invokevirtual idx, 3)) (hk : kkd 1 (rM o idx)) (h : ivk G d nm (Jm G p e R s m args below meth c Z mL n0 nm) K (rM o idx) (pc + 3) L st n w) : Jm G p e R s m args below meth c Z mL n0 nm pc L st n w := by
  obtain ⟨hx, hb, hml, hown, hts, hKn, hgb, hRf, hRl, hRc, hRs, hnm, hin⟩ := C
  have hgl : gB G ≤ s.heap.size := by omega
  intro hn hL H locs ls hC hS hl
  cases hr : rM o idx with
  | none => rw [hr] at h; exact h.elim
  | some q =>
    obtain ⟨mi, kd, na⟩ := q
    rw [hr] at hk h
    have hok := mTbl_ok _ (lk_mem hr)
    dsimp only at hok
    have hsz : ls.size = mL := hl.1.trans hL
    rcases hk with rfl | rfl
    · obtain ⟨h1, h2, h0, k, h3, hT⟩ := h
      obtain ⟨m1, m2, m3, m4, m5, m6⟩ := mEx_of hr (by omega)
      obtain ⟨b, l, fs, e0, hwb⟩ := isRc_inv (h0 (by omega))
      have hln : (st.take na).reverse.length = l.length + 1 := by rw [e0]; rfl
      rw [List.length_reverse, List.length_take] at hln
      refine W_sz fun hz => ?_
      have hlo := Cur_lo hC (Nat.le_trans hgl hS.1)
      have hHs : H.size = gB G + n := by omega
      rw [e0] at hT
      have hat := gwl_at hC.2 hwb rfl
      obtain ⟨q, hq, -⟩ := hC.1 b _ hat
      have hrv := va_recv hKn.1 hC.1 hq hat
      rw [(cl_ok hq).2.2.2.2.2, ← m5] at hrv
      refine call_go hn h3 hL hS hl (va_runV (C := (mr mi).1.cls) (own := nmO o) (index := idx) (n := na - 1) (nL := mL) (b := gal G b) (As := l.map (gtv G)) ⟨hx, hb, hml, hown, hts⟩ hT ⟨⟨rfl, rfl, hRf, by show 8 + ((mr mi).2.2.1 + 11) + 37 * d ≤ _; omega, pay_in hts (wLs_good m1), List.mem_cons_self, hts _ (gd_of (mr_code m1) rfl), hts _ (gd_of (hok _ (by simp [kWs])) rfl), m2, fun sig hs => by have := m3 sig hs; simp at this; omega, hts _ (gd_of (hok _ (by simp [kWs])) rfl)⟩, hts _ (gd_of (hok _ (by simp [kWs])) rfl), hts _ (gd_of (hok _ (by simp [kWs])) rfl)⟩ ⟨gPc_blind, hrv, fun U hU hW => ⟨rfl, by rw [hU]; exact hC, Kn_warm hU hW hS hgl hKn, by rw [hU]; exact hHs⟩⟩ rfl (by simp; omega) hsz (st_split2 G e0) (lv_room (Nat.le_trans (cat_le G _) (by omega))) hdg ⟨by omega, by omega⟩)
    · obtain ⟨h1, h2, h0, k, h3, hT⟩ := h
      obtain ⟨m1, m2, m3, m4, m5, m6⟩ := mEx_of hr (by omega)
      obtain ⟨b, l, fs, e0, hwb⟩ := isRc_inv (h0 (by omega))
      have hln : (st.take na).reverse.length = l.length + 1 := by rw [e0]; rfl
      rw [List.length_reverse, List.length_take] at hln
      refine W_sz fun hz => ?_
      have hlo := Cur_lo hC (Nat.le_trans hgl hS.1)
      have hHs : H.size = gB G + n := by omega
      rw [e0] at hT
      have hat := gwl_at hC.2 hwb rfl
      obtain ⟨q, hq, -⟩ := hC.1 b _ hat
      have hrv := va_recv hKn.1 hC.1 hq hat
      rw [(cl_ok hq).2.2.2.2.2, ← m5] at hrv
      refine call_go hn h3 hL hS hl (va_runVN (C := (mr mi).1.cls) (own := nmO o) (index := idx) (n := na - 1) (nL := mL) (b := gal G b) (As := l.map (gtv G)) ⟨hx, hb, hml, hown, hts⟩ hT ⟨⟨⟨rfl, rfl, hRf, by show 8 + ((mr mi).2.2.1 + 11) + 37 * d ≤ _; omega, pay_in hts (wLs_good m1), List.mem_cons_self⟩, hts _ (gd_of (mr_code m1) rfl), hts _ (gd_of (hok _ (by simp [kWs])) rfl), m2, fun sig hs => by have := m3 sig hs; simp at this; omega, (hKn.2.2.2.1 _ (hok _ List.mem_cons_self) rfl).use rfl⟩, hts _ (gd_of (hok _ (by simp [kWs])) rfl), hts _ (gd_of (hok _ (by simp [kWs])) rfl)⟩ ⟨gPc_blind, hrv, fun U hU hW => ⟨rfl, by rw [hU]; exact hC, Kn_warm hU hW hS hgl hKn, by rw [hU]; exact hHs⟩⟩ rfl (by simp; omega) hsz (st_split2 G e0) (lv_room (Nat.le_trans (cat_le G _) (by omega))) hdg ⟨by omega, by omega⟩)
set_option maxHeartbeats 4000000 in
theorem snd (C : Cx G p R s m args meth c cc o mL d n0 nm ini) (hRt : Rok G p e R s m args below meth c Z cc n0 rt Rt) {K : Kt} (hK : ∀ pc L st n w, K pc L st n w → Jm G p e R s m args below meth c Z mL n0 nm pc L st n w) {pc : Nat} {L st : List Value} {n : Nat} {w : Wd}
    (h : stp G o ini mL rt d nm (Jm G p e R s m args below meth c Z mL n0 nm) K Rt pc (dec cc pc) L st n w) : Jm G p e R s m args below meth c Z mL n0 nm pc L st n w := by
  cases hd : dec cc pc with
  | none => rw [hd] at h; exact False.elim h
  | some q =>
    obtain ⟨ins, nx, ax, v⟩ := q
    rw [hd] at h
    obtain ⟨len, hdg, hlen, hfw, rfl, rfl, rfl⟩ := dec_of hd
    have C' := C
    obtain ⟨hx, hb, hml, hown, hts, hKn, hgb, hRf, hRl, hRc, hRs, hnm, hin⟩ := C
    have hgl : gB G ≤ s.heap.size := by omega
    cases ins with
    | iconst k =>
      obtain rfl : len = 1 := hlen.resolve_left (by simp [isSw])
      intro hn hL H locs ls hC hS hl
      exact lv_iconst hx hb hdg rfl (hK _ _ _ _ _ h hn hL H locs ls hC hS hl)
    | bipush k =>
      obtain rfl : len = 2 := hlen.resolve_left (by simp [isSw])
      intro hn hL H locs ls hC hS hl
      exact lv_bipush hx hb hdg rfl (hK _ _ _ _ _ h hn hL H locs ls hC hS hl)
    | sipush k =>
      obtain rfl : len = 3 := hlen.resolve_left (by simp [isSw])
      intro hn hL H locs ls hC hS hl
      exact lv_sipush hx hb hdg rfl (hK _ _ _ _ _ h hn hL H locs ls hC hS hl)
    | lconst k =>
      obtain rfl : len = 1 := hlen.resolve_left (by simp [isSw])
      intro hn hL H locs ls hC hS hl
      exact lv_lconst hx hb hdg rfl (hK _ _ _ _ _ h hn hL H locs ls hC hS hl)
    | ldc_w idx =>
      obtain rfl : len = 3 := hlen.resolve_left (by simp [isSw])
      intro hn hL H locs ls hC hS hl
      cases hr : rI o idx with
      | none => simp only [stp, hr] at h
      | some z =>
        simp only [stp, hr] at h
        have hw := iTbl_ok _ (lk_mem hr)
        exact lv_ldcw hx hb hown (hts _ (gd_of hw rfl)) hdg (hK _ _ _ _ _ h hn hL H locs ls hC hS hl)
    | ldc2_w idx =>
      obtain rfl : len = 3 := hlen.resolve_left (by simp [isSw])
      intro hn hL H locs ls hC hS hl
      cases hr : rJ o idx with
      | none => simp only [stp, hr] at h
      | some z =>
        simp only [stp, hr] at h
        have hw := jTbl_ok _ (lk_mem hr)
        exact lv_ldc2 hx hb hown (hts _ (gd_of hw rfl)) hdg (hK _ _ _ _ _ h hn hL H locs ls hC hS hl)
    | iload k =>
      obtain rfl : len = 2 := hlen.resolve_left (by simp [isSw])
      intro hn hL H locs ls hC hS hl
      obtain ⟨h1, h⟩ := h
      obtain ⟨a, ha⟩ := isI_inv h1
      rw [ha] at h
      exact lv_iload hx hb hdg (lvL_at hl ha (by simp)) (hK _ _ _ _ _ h hn hL H locs ls hC hS hl)
    | iload_n k =>
      obtain rfl : len = 1 := hlen.resolve_left (by simp [isSw])
      intro hn hL H locs ls hC hS hl
      obtain ⟨h1, h⟩ := h
      obtain ⟨a, ha⟩ := isI_inv h1
      rw [ha] at h
      exact lv_iload_n hx hb hdg rfl (lvL_at hl ha (by simp)) (hK _ _ _ _ _ h hn hL H locs ls hC hS hl)
    | lload k =>
      obtain rfl : len = 2 := hlen.resolve_left (by simp [isSw])
      intro hn hL H locs ls hC hS hl
      obtain ⟨h1, h⟩ := h
      obtain ⟨a, ha⟩ := isJ_inv h1
      rw [ha] at h
      exact lv_lload hx hb hdg (lvL_at hl ha (by simp)) (hK _ _ _ _ _ h hn hL H locs ls hC hS hl)
    | lload_n k =>
      obtain rfl : len = 1 := hlen.resolve_left (by simp [isSw])
      intro hn hL H locs ls hC hS hl
      obtain ⟨h1, h⟩ := h
      obtain ⟨a, ha⟩ := isJ_inv h1
      rw [ha] at h
      exact lv_lload_n hx hb hdg rfl (lvL_at hl ha (by simp)) (hK _ _ _ _ _ h hn hL H locs ls hC hS hl)
    | aload_n k =>
      obtain rfl : len = 1 := hlen.resolve_left (by simp [isSw])
      intro hn hL H locs ls hC hS hl
      obtain ⟨h1, h⟩ := h
      obtain ⟨a, ha⟩ := isA_inv h1
      rw [ha] at h
      exact lv_aload_n hx hb hdg rfl (lvL_at hl ha (by simp)) (hK _ _ _ _ _ h hn hL H locs ls hC hS hl)
    | istore k =>
      obtain rfl : len = 2 := hlen.resolve_left (by simp [isSw])
      intro hn hL H locs ls hC hS hl
      obtain ⟨a, r, rfl, h1, h⟩ := s1I_inv h
      exact lv_istore hx hb hdg hl (by rw [hL]; exact h1) rfl (fun ls' hl2 => hK _ _ _ _ _ h hn ((sto_len _ _ _).trans hL) H locs ls' hC hS (lvL_sto (v := .int a) (by rw [hL]; exact h1) hl2))
    | istore_n k =>
      obtain rfl : len = 1 := hlen.resolve_left (by simp [isSw])
      intro hn hL H locs ls hC hS hl
      obtain ⟨a, r, rfl, h1, h⟩ := s1I_inv h
      exact lv_istore_n hx hb hdg rfl hl (by rw [hL]; exact h1) rfl (fun ls' hl2 => hK _ _ _ _ _ h hn ((sto_len _ _ _).trans hL) H locs ls' hC hS (lvL_sto (v := .int a) (by rw [hL]; exact h1) hl2))
    | lstore k =>
      obtain rfl : len = 2 := hlen.resolve_left (by simp [isSw])
      intro hn hL H locs ls hC hS hl
      obtain ⟨a, r, rfl, h1, h⟩ := s1J_inv h
      exact lv_lstore hx hb hdg hl (by rw [hL]; exact h1) rfl (fun ls' hl2 => hK _ _ _ _ _ h hn ((sto_len _ _ _).trans ((sto_len _ _ _).trans hL)) H locs ls' hC hS (lvL_sto2 (v := .long a) (by rw [hL]; exact h1) hl2))
    | lstore_n k =>
      obtain rfl : len = 1 := hlen.resolve_left (by simp [isSw])
      intro hn hL H locs ls hC hS hl
      obtain ⟨a, r, rfl, h1, h⟩ := s1J_inv h
      exact lv_lstore_n hx hb hdg rfl hl (by rw [hL]; exact h1) rfl (fun ls' hl2 => hK _ _ _ _ _ h hn ((sto_len _ _ _).trans ((sto_len _ _ _).trans hL)) H locs ls' hC hS (lvL_sto2 (v := .long a) (by rw [hL]; exact h1) hl2))
    | astore_n k =>
      obtain rfl : len = 1 := hlen.resolve_left (by simp [isSw])
      intro hn hL H locs ls hC hS hl
      obtain ⟨a, r, rfl, h1, h⟩ := s1A_inv h
      exact lv_astore_n hx hb hdg rfl hl (by rw [hL]; exact h1) rfl (fun ls' hl2 => hK _ _ _ _ _ h hn ((sto_len _ _ _).trans hL) H locs ls' hC hS (lvL_sto (v := .ref a) (by rw [hL]; exact h1) hl2))
    | iinc k q =>
      obtain rfl : len = 3 := hlen.resolve_left (by simp [isSw])
      intro hn hL H locs ls hC hS hl
      obtain ⟨h1, h2, h⟩ := h
      obtain ⟨a, ha⟩ := isI_inv h1
      rw [ha] at h
      obtain ⟨j, hj⟩ := List.getElem?_of_mem (lsO_mem (G := G) (L := L) (q := (k, .int a)).mpr ⟨.int a, ha, by simp, rfl⟩)
      exact lv_iinc (v := a + Int32.ofInt q) hx hb hdg hl hj rfl (by rw [hL]; exact h2) rfl (fun ls' hl2 => hK _ _ _ _ _ h hn ((sto_len _ _ _).trans hL) H locs ls' hC hS (lvL_sto (v := .int (a + Int32.ofInt q)) (by rw [hL]; exact h2) hl2))
    | iadd =>
      obtain rfl : len = 1 := hlen.resolve_left (by simp [isSw])
      intro hn hL H locs ls hC hS hl
      obtain ⟨a, b, r, rfl, h⟩ := s2I_inv h
      exact lv_iadd hx hb hdg (hK _ _ _ _ _ h hn hL H locs ls hC hS hl)
    | isub =>
      obtain rfl : len = 1 := hlen.resolve_left (by simp [isSw])
      intro hn hL H locs ls hC hS hl
      obtain ⟨a, b, r, rfl, h⟩ := s2I_inv h
      exact lv_isub hx hb hdg (hK _ _ _ _ _ h hn hL H locs ls hC hS hl)
    | imul =>
      obtain rfl : len = 1 := hlen.resolve_left (by simp [isSw])
      intro hn hL H locs ls hC hS hl
      obtain ⟨a, b, r, rfl, h⟩ := s2I_inv h
      exact lv_imul hx hb hdg (hK _ _ _ _ _ h hn hL H locs ls hC hS hl)
    | iand =>
      obtain rfl : len = 1 := hlen.resolve_left (by simp [isSw])
      intro hn hL H locs ls hC hS hl
      obtain ⟨a, b, r, rfl, h⟩ := s2I_inv h
      exact lv_iand hx hb hdg (hK _ _ _ _ _ h hn hL H locs ls hC hS hl)
    | ior =>
      obtain rfl : len = 1 := hlen.resolve_left (by simp [isSw])
      intro hn hL H locs ls hC hS hl
      obtain ⟨a, b, r, rfl, h⟩ := s2I_inv h
      exact lv_ior hx hb hdg (hK _ _ _ _ _ h hn hL H locs ls hC hS hl)
    | ishl =>
      obtain rfl : len = 1 := hlen.resolve_left (by simp [isSw])
      intro hn hL H locs ls hC hS hl
      obtain ⟨a, b, r, rfl, h⟩ := s2I_inv h
      exact lv_ishl hx hb hdg (hK _ _ _ _ _ h hn hL H locs ls hC hS hl)
    | iushr =>
      obtain rfl : len = 1 := hlen.resolve_left (by simp [isSw])
      intro hn hL H locs ls hC hS hl
      obtain ⟨a, b, r, rfl, h⟩ := s2I_inv h
      exact lv_iushr hx hb hdg rfl (hK _ _ _ _ _ h hn hL H locs ls hC hS hl)
    | land =>
      obtain rfl : len = 1 := hlen.resolve_left (by simp [isSw])
      intro hn hL H locs ls hC hS hl
      obtain ⟨a, b, r, rfl, h⟩ := s2J_inv h
      exact lv_land hx hb hdg (hK _ _ _ _ _ h hn hL H locs ls hC hS hl)
    | lor =>
      obtain rfl : len = 1 := hlen.resolve_left (by simp [isSw])
      intro hn hL H locs ls hC hS hl
      obtain ⟨a, b, r, rfl, h⟩ := s2J_inv h
      exact lv_lor hx hb hdg (hK _ _ _ _ _ h hn hL H locs ls hC hS hl)
    | lcmp =>
      obtain rfl : len = 1 := hlen.resolve_left (by simp [isSw])
      intro hn hL H locs ls hC hS hl
      obtain ⟨a, b, r, rfl, h⟩ := s2J_inv h
      exact W.lcmp hx hb hdg (hK _ _ _ _ _ h hn hL H locs ls hC hS hl)
    | lushr =>
      obtain rfl : len = 1 := hlen.resolve_left (by simp [isSw])
      intro hn hL H locs ls hC hS hl
      obtain ⟨a, b, r, rfl, h⟩ := sJI_inv h
      exact lv_lushr hx hb hdg rfl (hK _ _ _ _ _ h hn hL H locs ls hC hS hl)
    | lshl =>
      obtain rfl : len = 1 := hlen.resolve_left (by simp [isSw])
      intro hn hL H locs ls hC hS hl
      obtain ⟨a, b, r, rfl, h⟩ := sJI_inv h
      exact lv_lshl hx hb hdg rfl (hK _ _ _ _ _ h hn hL H locs ls hC hS hl)
    | i2l =>
      obtain rfl : len = 1 := hlen.resolve_left (by simp [isSw])
      intro hn hL H locs ls hC hS hl
      obtain ⟨a, r, rfl, h⟩ := s1I_inv h
      exact lv_i2l hx hb hdg rfl (hK _ _ _ _ _ h hn hL H locs ls hC hS hl)
    | l2i =>
      obtain rfl : len = 1 := hlen.resolve_left (by simp [isSw])
      intro hn hL H locs ls hC hS hl
      obtain ⟨a, r, rfl, h⟩ := s1J_inv h
      exact lv_l2i hx hb hdg rfl (hK _ _ _ _ _ h hn hL H locs ls hC hS hl)
    | i2c =>
      obtain rfl : len = 1 := hlen.resolve_left (by simp [isSw])
      intro hn hL H locs ls hC hS hl
      obtain ⟨a, r, rfl, h⟩ := s1I_inv h
      exact lv_i2c hx hb hdg rfl (hK _ _ _ _ _ h hn hL H locs ls hC hS hl)
    | idiv =>
      obtain rfl : len = 1 := hlen.resolve_left (by simp [isSw])
      intro hn hL H locs ls hC hS hl
      obtain ⟨a, b, r, rfl, h1, h⟩ := s2I_inv h
      exact lv_idiv hx hb hdg h1 (hK _ _ _ _ _ h hn hL H locs ls hC hS hl)
    | irem =>
      obtain rfl : len = 1 := hlen.resolve_left (by simp [isSw])
      intro hn hL H locs ls hC hS hl
      obtain ⟨a, b, r, rfl, h1, h⟩ := s2I_inv h
      exact lv_irem hx hb hdg h1 (hK _ _ _ _ _ h hn hL H locs ls hC hS hl)
    | if_icmp k off =>
      obtain rfl : len = 3 := hlen.resolve_left (by simp [isSw])
      intro hn hL H locs ls hC hS hl
      have ht : (pc : Int) + off = ((((pc : Int) + off).toNat : Nat) : Int) := (Int.toNat_of_nonneg (of_decide_eq_true hfw)).symm
      obtain ⟨a, b, r, rfl, h⟩ := s2I_inv h
      cases k with
      | eq => exact lv_icmp_eq hx hb hdg ht (fun z => hK _ _ _ _ _ (h.1 z) hn hL H locs ls hC hS hl) (fun z => hK _ _ _ _ _ (h.2 z) hn hL H locs ls hC hS hl)
      | ne => exact lv_icmp_ne hx hb hdg ht (fun z => hK _ _ _ _ _ (h.1 z) hn hL H locs ls hC hS hl) (fun z => hK _ _ _ _ _ (h.2 z) hn hL H locs ls hC hS hl)
      | lt => exact lv_icmp_lt hx hb hdg ht (fun z => hK _ _ _ _ _ (h.1 z) hn hL H locs ls hC hS hl) (fun z => hK _ _ _ _ _ (h.2 z) hn hL H locs ls hC hS hl)
      | ge => exact lv_icmp_ge hx hb hdg ht (fun z => hK _ _ _ _ _ (h.1 z) hn hL H locs ls hC hS hl) (fun z => hK _ _ _ _ _ (h.2 z) hn hL H locs ls hC hS hl)
      | gt => exact lv_icmp_gt hx hb hdg ht (fun z => hK _ _ _ _ _ (h.1 z) hn hL H locs ls hC hS hl) (fun z => hK _ _ _ _ _ (h.2 z) hn hL H locs ls hC hS hl)
      | le => exact lv_icmp_le hx hb hdg ht (fun z => hK _ _ _ _ _ (h.1 z) hn hL H locs ls hC hS hl) (fun z => hK _ _ _ _ _ (h.2 z) hn hL H locs ls hC hS hl)
    | ifCond k off =>
      obtain rfl : len = 3 := hlen.resolve_left (by simp [isSw])
      intro hn hL H locs ls hC hS hl
      have ht : (pc : Int) + off = ((((pc : Int) + off).toNat : Nat) : Int) := (Int.toNat_of_nonneg (of_decide_eq_true hfw)).symm
      obtain ⟨a, r, rfl, h⟩ := s1I_inv h
      cases k with
      | eq => exact lv_if_eq hx hb hdg ht (fun z => hK _ _ _ _ _ (h.1 z) hn hL H locs ls hC hS hl) (fun z => hK _ _ _ _ _ (h.2 z) hn hL H locs ls hC hS hl)
      | ne => exact lv_if_ne hx hb hdg ht (fun z => hK _ _ _ _ _ (h.1 z) hn hL H locs ls hC hS hl) (fun z => hK _ _ _ _ _ (h.2 z) hn hL H locs ls hC hS hl)
      | lt => exact lv_if_lt hx hb hdg ht (fun z => hK _ _ _ _ _ (h.1 z) hn hL H locs ls hC hS hl) (fun z => hK _ _ _ _ _ (h.2 z) hn hL H locs ls hC hS hl)
      | ge => exact lv_if_ge hx hb hdg ht (fun z => hK _ _ _ _ _ (h.1 z) hn hL H locs ls hC hS hl) (fun z => hK _ _ _ _ _ (h.2 z) hn hL H locs ls hC hS hl)
      | gt => exact lv_if_gt hx hb hdg ht (fun z => hK _ _ _ _ _ (h.1 z) hn hL H locs ls hC hS hl) (fun z => hK _ _ _ _ _ (h.2 z) hn hL H locs ls hC hS hl)
      | le => exact lv_if_le hx hb hdg ht (fun z => hK _ _ _ _ _ (h.1 z) hn hL H locs ls hC hS hl) (fun z => hK _ _ _ _ _ (h.2 z) hn hL H locs ls hC hS hl)
    | goto off =>
      obtain rfl : len = 3 := hlen.resolve_left (by simp [isSw])
      intro hn hL H locs ls hC hS hl
      have ht : (pc : Int) + off = ((((pc : Int) + off).toNat : Nat) : Int) := (Int.toNat_of_nonneg (of_decide_eq_true hfw)).symm
      exact lv_goto hx hb hdg ht (hK _ _ _ _ _ h hn hL H locs ls hC hS hl)
    | dup =>
      obtain rfl : len = 1 := hlen.resolve_left (by simp [isSw])
      intro hn hL H locs ls hC hS hl
      match st, h with
      | u :: r, h => exact lv_dup hx hb hdg ((gtv_cat G u).trans h.1) (hK _ _ _ _ _ h.2 hn hL H locs ls hC hS hl)
    | dup2 =>
      obtain rfl : len = 1 := hlen.resolve_left (by simp [isSw])
      intro hn hL H locs ls hC hS hl
      match st, h with
      | u :: z :: r, h => exact lv_dup2_11 hx hb hdg ((gtv_cat G u).trans h.1) ((gtv_cat G z).trans h.2.1) (hK _ _ _ _ _ h.2.2 hn hL H locs ls hC hS hl)
    | pop =>
      obtain rfl : len = 1 := hlen.resolve_left (by simp [isSw])
      intro hn hL H locs ls hC hS hl
      match st, h with
      | u :: r, h => exact lv_pop hx hb hdg ((gtv_cat G u).trans h.1) (hK _ _ _ _ _ h.2 hn hL H locs ls hC hS hl)
    | tableswitch df lo hi offs =>
      intro hn hL H locs ls hC hS hl
      obtain ⟨a, r, rfl, t, h1, h⟩ := s1I_inv h
      simp only [swT] at h1
      by_cases hr : a.toInt < lo ∨ hi < a.toInt
      · rw [if_pos hr, Option.bind_some] at h1
        by_cases hz : 0 ≤ (pc : Int) + df
        · rw [if_pos hz] at h1
          cases h1
          exact lv_tableOut hx hb hdg hr (Int.toNat_of_nonneg hz).symm (h hn hL H locs ls hC hS hl)
        · rw [if_neg hz] at h1
          cases h1
      · rw [if_neg hr] at h1
        cases ho : offs[(a.toInt - lo).toNat]? with
        | none => rw [ho] at h1; cases h1
        | some off =>
          rw [ho, Option.bind_some] at h1
          by_cases hz : 0 ≤ (pc : Int) + off
          · rw [if_pos hz] at h1
            cases h1
            exact lv_tableIn hx hb hdg (fun q => hr (Or.inl q)) (fun q => hr (Or.inr q)) ho (Int.toNat_of_nonneg hz).symm (h hn hL H locs ls hC hS hl)
          · rw [if_neg hz] at h1
            cases h1
    | lookupswitch df ps =>
      intro hn hL H locs ls hC hS hl
      obtain ⟨a, r, rfl, t, h1, h⟩ := s1I_inv h
      simp only [swT] at h1
      by_cases hr : (ps.toList.zip (ps.toList.drop 1)).all (fun (a, next) => a.1 < next.1) = true
      · rw [if_pos hr] at h1
        by_cases hz : 0 ≤ (pc : Int) + Op.lookupswitch.offset ps.toList df a.toInt
        · rw [if_pos hz] at h1
          cases h1
          exact lv_lookup hx hb hdg hr rfl (Int.toNat_of_nonneg hz).symm (h hn hL H locs ls hC hS hl)
        · rw [if_neg hz] at h1
          cases h1
      · rw [if_neg hr] at h1
        cases h1
    | getfield idx =>
      obtain rfl : len = 3 := hlen.resolve_left (by simp [isSw])
      intro hn hL H locs ls hC hS hl
      cases hr : rF o idx with
      | none => simp only [stp, hr] at h
      | some q =>
        obtain ⟨ci, k, b⟩ := q
        simp only [stp, hr] at h
        obtain ⟨a, r, rfl, h1, h⟩ := s1A_inv h
        obtain ⟨fs, ha, hk⟩ := isF_inv h1
        obtain ⟨q, hq, hkq, hwd⟩ := rF_ok hr
        have hcl := cl_ok hq
        rw [ha] at h
        have hat := gwl_at hC.2 ha rfl
        have hv : (fs.map (gtv G))[k]? = some (gtv G (vI fs[k]?)) := by
          rw [List.getElem?_map, List.getElem?_eq_getElem hk]; rfl
        cases b with
        | false => exact va_get hx hb hts hcl.1 hown hKn.1 hC.1 a hat hq k hkq (hts _ (gd_of hwd rfl)) (fun _ z => z) hv hdg (hK _ _ _ _ _ h hn hL H locs ls hC hS hl)
        | true => exact va_getN hx hb hts hcl.1 hown hKn.1 hC.1 a hat hq k hkq ((hKn.2.2.2.1 _ hwd rfl).use rfl) (fun _ z => z) hv hdg (hK _ _ _ _ _ h hn hL H locs ls hC hS hl)
    | putfield idx =>
      obtain rfl : len = 3 := hlen.resolve_left (by simp [isSw])
      intro hn hL H locs ls hC hS hl
      cases hr : rF o idx with
      | none => simp only [stp, hr] at h
      | some q =>
        obtain ⟨ci, k, b⟩ := q
        simp only [stp, hr] at h
        obtain ⟨a, u, r, rfl, h1, hpk, hfn, h⟩ := sVA_inv h
        obtain ⟨fs, ha, hk⟩ := isF_inv h1
        obtain ⟨q, hq, hkq, hwd⟩ := rF_ok hr
        have hcl := cl_ok hq
        rw [ha] at h
        have hat := gwl_at hC.2 ha rfl
        have hpk2 : narrow (ftC ci k) (gtv G u) = gtv G u ∧ fits (ftC ci k) (gtv G u) = true := by
          obtain ⟨p1, p2⟩ := hpk
          cases u <;> first | exact ⟨p1, p2⟩ | (constructor <;> (cases hft : ftC ci k <;> simp_all [narrow, fits, gtv]))
        have hfq : fnC ci k = (q.2.1 k).2.2.2 := by simp only [fnC, hq]
        have hset : (fs.map (gtv G)).set k (gtv G u) = (fs.set k u).map (gtv G) := (List.map_set).symm
        have fin : ∀ (H1 : Heap) (locs1 : List Loc), va_P (gD G) vwCl ((gwl G n w).set a (gal G a, .inr (ci, (fs.map (gtv G)).set k (gtv G u)))) H1 → va_D (gA G) ((gwl G n w).set a (gal G a, .inr (ci, (fs.map (gtv G)).set k (gtv G u)))) → va_S (gA G) s.heap H1 locs1 → W p (gL G) e R s m args below meth c H1 locs1 (n - n0) (2000 * (n - n0)) Z (F0 m (pc + 3) ls (r.map (gtv G))) := by
          intro H1 locs1 hP1 _ hS1
          rw [hset] at hP1
          exact hK _ _ _ _ _ h hn hL H1 locs1 ls (Cur_up (e1 := .inr (.inr (ci, fs.set k u))) hC ha rfl rfl hP1) hS1 hl
        cases hf : (q.2.1 k).2.2.2 with
        | false =>
          cases b with
          | false => exact va_put hx hb hts hcl.1 (ftC ci) hcl.2.2.1 hcl.2.1 hown hKn.1 hC.1 gwl_D hS a hat hq k hkq (hts _ (gd_of hwd rfl)) (fun _ z => z) hf (hcl.2.2.1 k hkq) hpk2.1 hpk2.2 (by rw [List.length_map]; exact hk) hdg fin
          | true => exact va_putN hx hb hts hcl.1 (ftC ci) hcl.2.2.1 hcl.2.1 hown hKn.1 hC.1 gwl_D hS a hat hq k hkq ((hKn.2.2.2.1 _ hwd rfl).use rfl) (fun _ z => z) hf (hcl.2.2.1 k hkq) hpk2.1 hpk2.2 (by rw [List.length_map]; exact hk) hdg fin
        | true =>
          obtain ⟨hi1, hi2⟩ := hfn (hfq.trans hf)
          have hdecl : (q.2.1 k).1 = nmO o := by
            have := fTbl_own _ (lk_mem hr)
            rw [hq] at this
            simp only [Option.all_some, decide_eq_true_eq] at this
            rw [this, hcl.2.2.2.2.2, hi2]
          cases b with
          | false => exact va_putF hx hb hts hcl.1 (ftC ci) hcl.2.2.1 hcl.2.1 hown hKn.1 hC.1 gwl_D hS a hat hq k hkq (hts _ (gd_of hwd rfl)) (fun _ z => z) hf (hin hi1) hdecl (hcl.2.2.1 k hkq) hpk2.1 hpk2.2 (by rw [List.length_map]; exact hk) hdg fin
          | true =>
            have := fTbl_nst _ (lk_mem hr)
            exact absurd hi2 (of_decide_eq_true this rfl)
    | getstatic idx =>
      obtain rfl : len = 3 := hlen.resolve_left (by simp [isSw])
      intro hn hL H locs ls hC hS hl
      cases hr : rS o idx with
      | none => simp only [stp, hr] at h
      | some q =>
        obtain ⟨j, b⟩ := q
        simp only [stp, hr] at h
        obtain ⟨hwd, hj1, hj2⟩ := sTbl_ok _ (lk_mem hr)
        have hnx := hK _ _ _ _ _ h hn hL H locs ls hC hS hl
        have hal : gtv G (.ref (1000 + j)) = .ref (gS G j) := by
          show Value.ref (gal G (1000 + j)) = _
          unfold gal
          rw [if_neg (by omega), Nat.add_sub_cancel_left]
        rw [List.map_cons, hal] at hnx
        cases b with
        | false => exact va_gets hx hb (hKn.2.2.1 j hj1 hj2) hS hown (hts _ (gd_of hwd rfl)) (fun _ z => z) hdg hnx
        | true => exact va_getsN hx hb (hKn.2.2.1 j hj1 hj2) hS hown ((hKn.2.2.2.1 _ hwd rfl).use rfl) (fun _ z => z) hdg hnx
    | iaload =>
      obtain rfl : len = 1 := hlen.resolve_left (by simp [isSw])
      intro hn hL H locs ls hC hS hl
      obtain ⟨a, i, r, rfl, h1, h⟩ := sAI_inv h
      obtain ⟨k, ln, f, ha, hvi, hk⟩ := isP0_inv h1
      rw [ha] at h
      rcases hk with rfl | rfl
      · exact va_iald hx hb hKn.1 hC.1 a 0 (gwl_at hC.2 ha rfl) rfl hvi hdg (hK _ _ _ _ _ h hn hL H locs ls hC hS hl)
      · obtain ⟨j, hj, e1, rfl, rfl⟩ := gdm_ro hC.2 ha
        have hnx := hK _ _ _ _ _ h hn hL H locs ls hC hS hl
        have hlt := (hKn.2.1 j hj).2
        show W p (gL G) e R s m args below meth c H locs (n - n0) (2000 * (n - n0)) Z (F0 m pc ls (.int i :: .ref (gal G a) :: r.map (gtv G)))
        rw [e1]
        exact va_sld hx hb (hKn.2.1 j hj).1 (Nat.lt_of_lt_of_le hlt hgl) (Nat.not_le.mpr hlt) hS hvi hdg hnx
    | baload =>
      obtain rfl : len = 1 := hlen.resolve_left (by simp [isSw])
      intro hn hL H locs ls hC hS hl
      obtain ⟨a, i, r, rfl, h1, h⟩ := sAI_inv h
      obtain ⟨ln, f, ha, hvi⟩ := isP_inv h1
      rw [ha] at h
      exact va_zald hx hb hKn.1 hC.1 a 1 (gwl_at hC.2 ha rfl) rfl hvi hdg (hK _ _ _ _ _ h hn hL H locs ls hC hS hl)
    | caload =>
      obtain rfl : len = 1 := hlen.resolve_left (by simp [isSw])
      intro hn hL H locs ls hC hS hl
      obtain ⟨a, i, r, rfl, h1, h⟩ := sAI_inv h
      obtain ⟨ln, f, ha, hvi⟩ := isP_inv h1
      rw [ha] at h
      exact va_cald hx hb hKn.1 hC.1 a 2 (gwl_at hC.2 ha rfl) rfl hvi hdg (hK _ _ _ _ _ h hn hL H locs ls hC hS hl)
    | iastore =>
      obtain rfl : len = 1 := hlen.resolve_left (by simp [isSw])
      intro hn hL H locs ls hC hS hl
      obtain ⟨a, i, x, r, rfl, h1, h⟩ := sAII_inv h
      obtain ⟨ln, f, ha, hvi⟩ := isP_inv h1
      rw [ha] at h
      exact va_iast hx hb hKn.1 hC.1 gwl_D hS a 0 (gwl_at hC.2 ha rfl) rfl hvi hdg (fun H1 locs1 hP1 _ hS1 => hK _ _ _ _ _ h hn hL H1 locs1 ls (Cur_up (e1 := .inl ((0, ln), upd f i.toNatClampNeg x)) hC ha rfl rfl hP1) hS1 hl)
    | bastore =>
      obtain rfl : len = 1 := hlen.resolve_left (by simp [isSw])
      intro hn hL H locs ls hC hS hl
      obtain ⟨a, i, x, r, rfl, h1, h⟩ := sAII_inv h
      obtain ⟨ln, f, ha, hvi⟩ := isP_inv h1
      rw [ha] at h
      exact va_zast hx hb hKn.1 hC.1 gwl_D hS a 1 (gwl_at hC.2 ha rfl) rfl hvi hdg (fun H1 locs1 hP1 _ hS1 => hK _ _ _ _ _ h hn hL H1 locs1 ls (Cur_up (e1 := .inl ((1, ln), upd f i.toNatClampNeg (vp_nar .boolean x))) hC ha rfl rfl hP1) hS1 hl)
    | castore =>
      obtain rfl : len = 1 := hlen.resolve_left (by simp [isSw])
      intro hn hL H locs ls hC hS hl
      obtain ⟨a, i, x, r, rfl, h1, h⟩ := sAII_inv h
      obtain ⟨ln, f, ha, hvi⟩ := isP_inv h1
      rw [ha] at h
      exact va_cast hx hb hKn.1 hC.1 gwl_D hS a 2 (gwl_at hC.2 ha rfl) rfl hvi hdg (fun H1 locs1 hP1 _ hS1 => hK _ _ _ _ _ h hn hL H1 locs1 ls (Cur_up (e1 := .inl ((2, ln), upd f i.toNatClampNeg (vp_nar .char x))) hC ha rfl rfl hP1) hS1 hl)
    | aaload =>
      obtain rfl : len = 1 := hlen.resolve_left (by simp [isSw])
      intro hn hL H locs ls hC hS hl
      obtain ⟨a, i, r, rfl, h1, h2, h⟩ := sAI_inv h
      obtain ⟨ln, g, ha, hvi⟩ := isR_inv h1
      rw [ha] at h h2
      obtain ⟨y, hy⟩ := isS_inv h2
      rw [hy] at h
      have hnx := hK _ _ _ _ _ h hn hL H locs ls hC hS hl
      have hy' : g i.toNatClampNeg = some y := hy
      refine va_aldq hx hb hKn.1 hC.1 a 3 (gwl_at hC.2 ha rfl) rfl hvi hdg ?_
      rw [hy']
      exact hnx
    | aastore =>
      obtain rfl : len = 1 := hlen.resolve_left (by simp [isSw])
      intro hn hL H locs ls hC hS hl
      obtain ⟨a, i, y, r, rfl, h1, h2, h⟩ := sAIA_inv h
      obtain ⟨ln, g, ha, hvi⟩ := isR_inv h1
      obtain ⟨fs, hy⟩ := isO_inv h2
      rw [ha] at h
      refine va_astq hx hb hKn.1 hC.1 gwl_D hS a 3 y 0 (r := (RX0, TX0, 11)) (gwl_at hC.2 ha rfl) rfl (gwl_at hC.2 hy rfl) rfl hvi hdg (fun H1 locs1 hP1 _ hS1 => hK _ _ _ _ _ h hn hL H1 locs1 ls (Cur_up (e1 := .inr (.inl (ln, va_up g i.toNatClampNeg (some y)))) hC ha rfl rfl ?_) hS1 hl)
      have e2 : (va_up (fun i => (g i).map (gal G)) i.toNatClampNeg (some (gal G y))) = fun j => (va_up g i.toNatClampNeg (some y) j).map (gal G) := by
        funext j
        by_cases hj : j = i.toNatClampNeg
        · simp [va_up, hj]
        · simp [va_up, hj]
      rw [e2] at hP1
      exact hP1
    | arraylength =>
      obtain rfl : len = 1 := hlen.resolve_left (by simp [isSw])
      intro hn hL H locs ls hC hS hl
      obtain ⟨a, r, rfl, h1, h⟩ := s1A_inv h
      obtain ⟨ln, f, ha⟩ := isSc_inv h1
      rw [ha] at h
      obtain ⟨j, hj, e1, rfl, rfl⟩ := gdm_ro hC.2 ha
      obtain ⟨⟨scr, x1, x2, x3, x4, x5⟩, hlt⟩ := hKn.2.1 j hj
      have hnx := hK _ _ _ _ _ h hn hL H locs ls hC hS hl
      show W p (gL G) e R s m args below meth c H locs (n - n0) (2000 * (n - n0)) Z (F0 m pc ls (.ref (gal G a) :: r.map (gtv G)))
      rw [e1]
      exact W.alen hx hb (by rw [hS.2.1 _ (Nat.lt_of_lt_of_le hlt hgl) (Nat.not_le.mpr hlt)]; exact x1) x2 (by rw [x4]; rfl) rfl rfl hdg hnx
    | new idx =>
      obtain rfl : len = 3 := hlen.resolve_left (by simp [isSw])
      intro hn hL H locs ls hC hS hl
      cases hr : rC o idx with
      | none => simp only [stp, hr] at h
      | some ci =>
        simp only [stp, hr] at h
        obtain ⟨h1, h⟩ := h
        have hws := cTbl_ok _ (lk_mem hr)
        cases hq : vwCl[ci]? with
        | none => simp only [cWs, hq] at hws; exact absurd (hws _ List.mem_cons_self) cNo
        | some q =>
          simp only [cWs, hq] at hws
          have hcl := cl_ok hq
          refine W_sz fun hz => ?_
          have hlo := Cur_lo hC (Nat.le_trans hgl hS.1)
          have hHs : H.size = gB G + n := by omega
          refine g_new (fs := dfl ci) hx hb hts hcl.1 (ftC ci) hcl.2.2.1 hown (hts _ (gd_of (hws _ (by simp)) rfl)) (hts _ (gd_of (hws _ (by simp)) rfl)) (hts _ (gd_of (hws _ (by simp)) rfl)) hKn.1 hC.1 hS hq hcl.2.2.2.1 (by omega) (Nat.le_trans (Nat.add_le_add_left hcl.2.2.2.2.1 _) (by omega)) hdg (fun H1 hP1 hS1 => ?_)
          have hmap : (dfl ci).map (gtv G) = dfl ci := by
            match ci, hq with
            | 0, _ => rfl
            | 1, _ => rfl
            | 2, _ => rfl
            | 3, _ => rfl
            | 4, _ => rfl
            | 5, _ => rfl
            | 6, _ => rfl
            | 7, _ => rfl
            | k + 8, hq => simp at hq
          rw [hHs] at hP1 ⊢
          have hP2 : va_P (gD G) vwCl (gwl G (n + 1) (va_up w n (some (.inr (.inr (ci, dfl ci)))))) H1 := by
            rw [← gwl_push]
            show va_P (gD G) vwCl (gwl G n w ++ [(gB G + n, .inr (ci, (dfl ci).map (gtv G)))]) H1
            rw [hmap]
            exact hP1
          have hnx := hK _ _ _ _ _ h (by omega) hL H1 locs ls ⟨hP2, gdm_push hC.2 (by omega) rfl⟩ hS1 hl
          have hal : gtv G (.ref n) = .ref (gB G + n) := by
            show Value.ref (gal G n) = _
            unfold gal
            rw [if_pos (by omega)]
          rw [List.map_cons, hal] at hnx
          exact W.widen (k := n + 1 - n0) (n := 2000 * (n + 1 - n0)) (by omega) (by have := hcl.2.2.2.2.1; omega) hnx
    | newarray ty =>
      obtain rfl : len = 2 := hlen.resolve_left (by simp [isSw])
      intro hn hL H locs ls hC hS hl
      obtain ⟨x, r, rfl, h1, h2, h3, h4, h⟩ := s1I_inv h
      refine W_sz fun hz => ?_
      have hlo := Cur_lo hC (Nat.le_trans hgl hS.1)
      have hHs : H.size = gB G + n := by omega
      have key : ∀ (kd : Nat), akd ty = kd → (Cond.arrayClass (newarray.typeOf ty)).before args s = true → s.vm.findClass ("[" ++ (newarray.typeOf ty).toString) = some (gC G kd) → defaultValue (newarray.typeOf ty) = .int 0 → componentBytes (newarray.typeOf ty) ≤ 4 → W p (gL G) e R s m args below meth c H locs (n - n0) (2000 * (n - n0)) Z (F0 m pc ls ((Value.int x :: r).map (gtv G))) := by
        intro kd hkd w1 w2 w3 w4
        rw [hkd] at h
        refine g_newa hx hb w1 w2 w3 hC.1 hS h2 rfl (Nat.le_trans (Nat.mul_le_mul h3 w4) (by decide)) (by omega) (by omega) hdg (fun H1 hP1 hS1 => ?_)
        rw [hHs] at hP1 ⊢
        have hP2 : va_P (gD G) vwCl (gwl G (n + 1) (va_up w n (some (.inl ((kd, x.toNatClampNeg), fun _ => 0))))) H1 := by
          rw [← gwl_push]
          exact hP1
        have hro : eRO (.inl ((kd, x.toNatClampNeg), fun _ => 0)) = false := by
          have : kd < 3 := by rw [← hkd]; exact h1
          match kd, this with
          | 0, _ => rfl
          | 1, _ => rfl
          | 2, _ => rfl
        have hnx := hK _ _ _ _ _ h (by omega) hL H1 locs ls ⟨hP2, gdm_push hC.2 (by omega) hro⟩ hS1 hl
        have hal : gtv G (.ref n) = .ref (gB G + n) := by
          show Value.ref (gal G n) = _
          unfold gal
          rw [if_pos (by omega)]
        rw [List.map_cons, hal] at hnx
        exact W.widen (k := n + 1 - n0) (n := 2000 * (n + 1 - n0)) (by omega) (by omega) hnx
      cases ty with
      | int => exact key 0 rfl (hts _ (gd_of acI rfl)) (hKn.1.2 0 _ rfl).2 rfl (by decide)
      | boolean => exact key 1 rfl (hts _ (gd_of acZ rfl)) (hKn.1.2 1 _ rfl).2 rfl (by decide)
      | char => exact key 2 rfl (hts _ (gd_of acC rfl)) (hKn.1.2 2 _ rfl).2 rfl (by decide)
      | _ => exact absurd h1 (by decide)
    | anewarray idx =>
      obtain rfl : len = 3 := hlen.resolve_left (by simp [isSw])
      intro hn hL H locs ls hC hS hl
      obtain ⟨x, r, rfl, h1, h2, h3, h4, h⟩ := s1I_inv h
      refine W_sz fun hz => ?_
      have hlo := Cur_lo hC (Nat.le_trans hgl hS.1)
      have hHs : H.size = gB G + n := by omega
      have hws := cTbl_ok _ (lk_mem h1)
      obtain ⟨kA, comp, -, -, -, hfc⟩ := (hKn.1.2 3 _ rfl).2
      refine g_newq (cA := gC G 3) hx hb hown (hts _ (gd_of (hws _ List.mem_cons_self) rfl)) hKn.2.2.2.2 hfc hC.1 hS h2 rfl (by omega) (by omega) (by omega) hdg (fun H1 hP1 hS1 => ?_)
      rw [hHs] at hP1 ⊢
      have hP2 : va_P (gD G) vwCl (gwl G (n + 1) (va_up w n (some (.inr (.inl (x.toNatClampNeg, fun _ => none)))))) H1 := by
        rw [← gwl_push]
        exact hP1
      have hnx := hK _ _ _ _ _ h (by omega) hL H1 locs ls ⟨hP2, gdm_push hC.2 (by omega) rfl⟩ hS1 hl
      have hal : gtv G (.ref n) = .ref (gB G + n) := by
        show Value.ref (gal G n) = _
        unfold gal
        rw [if_pos (by omega)]
      rw [List.map_cons, hal] at hnx
      exact W.widen (k := n + 1 - n0) (n := 2000 * (n + 1 - n0)) (by omega) (by omega) hnx
    | invokevirtual idx =>
      obtain rfl : len = 3 := hlen.resolve_left (by simp [isSw])
      exact snd_vi C' hK hdg h.1 h.2
    | invokespecial idx =>
      obtain rfl : len = 3 := hlen.resolve_left (by simp [isSw])
      exact snd_sp C' hK hdg h.1 h.2
    | invokestatic idx =>
      obtain rfl : len = 3 := hlen.resolve_left (by simp [isSw])
      exact snd_st C' hK hdg h.1 h.2
    | ireturn =>
      obtain rfl : len = 1 := hlen.resolve_left (by simp [isSw])
      intro hn hL H locs ls hC hS hl
      obtain ⟨x, r, rfl, rfl, ⟨ty, h1, h2⟩, h⟩ := s1I_inv h
      exact hRt.1 x ty n w pc H locs ls hdg h1 h2 h hn.1 hC hS
    | return_ =>
      obtain rfl : len = 1 := hlen.resolve_left (by simp [isSw])
      intro hn hL H locs ls hC hS hl
      obtain ⟨rfl, h1, h⟩ := h
      exact hRt.2 n w pc H locs ls hdg h1 h hn.1 hC hS
    | _ => exact False.elim h
end SND3
end
section
/-! FROM STEPS TO CONTRACTS -/
theorem T_of {G : Gx} {d k mi : Nat} {args : List Value} {n : Nat} {w : Wd} {Q : Option Value → Wd → Prop} {y : MethodName} {cc : ByteArray} {mL : Nat} {rt : Option FieldType} {o : Nat} (ini : Bool) (hm : mr mi = (y, cc, mL, rt, o)) (hpn : plainName y.cls = true) (ho : y.cls = nmO o)
    (hal : (args.flatMap fun v => if v.category = 2 then [v, .null] else [v]).length ≤ mL) (hmax : n + k ≤ 1000) (hini : ini = true → y.name = "<init>")
    (h : ∀ J : Kt, (∀ K : Kt, (∀ pc L st n' w', K pc L st n' w' → J pc L st n' w') → ∀ pc L st n' w', stp G o ini mL rt d (n + k) J K (fun r n' w' => n' = n + k ∧ Q r w') pc (dec cc pc) L st n' w' → J pc L st n' w') → J 0 (entL mL args) [] n w) : T G (d + 1) k mi args n w Q := by
  have e1 : (mr mi).1 = y := by rw [hm]
  have e2 : (mr mi).2.1 = cc := by rw [hm]
  have e3 : (mr mi).2.2.1 = mL := by rw [hm]
  have e4 : (mr mi).2.2.2.1 = rt := by rw [hm]
  unfold T
  refine Met.ofW (cc := cc) (maxL := mL) (ret := rt) (by rw [e1]; exact hpn) (by unfold wLs; rw [e1, e2, e3, e4]) ?_
  intro p e s m args' below meth c s₁ B hml hv
  obtain ⟨rfl, hC, hKn, hsz⟩ := hv
  have hx := B.exec
  have hb := B.bytes
  have hr := B.returns
  have hts := atoms_spec (ws := wLs mi) B.pre
  have hown := findClass_of_methodNamed B.named
  rw [e1, ho] at hown
  have hlocks := B.notSynchronized
  have hin : meth.name = y.name := by rw [← e1]; exact (name_of_methodNamed B.named B.method).1
  rw [lg_entry_eq]
  have hCx : Cx G p (headSpec (wLs mi) { frames := d + 1, cells := k, slots := 2000 * k, locals := 37 * (d + 1) }).room s m (args.map (gtv G)).toArray meth c cc o mL d n (n + k) ini :=
    ⟨hx, hb, hml, hown, fun w hw => hts w (List.mem_cons_of_mem _ hw), hKn, hsz, Nat.le_refl _, Nat.le_refl _, by show n + k - n ≤ k; omega, by show 2000 * (n + k - n) ≤ 2000 * k; omega, hmax, fun q => hin.trans (hini q)⟩
  have hRok : Rok G p e (headSpec (wLs mi) { frames := d + 1, cells := k, slots := 2000 * k, locals := 37 * (d + 1) }).room s m (args.map (gtv G)).toArray below meth c (MQ below (gQc G (n + k) Q) (args.map (gtv G)).toArray s k (2000 * k) (gA G)) cc n rt (fun r n' w' => n' = n + k ∧ Q r w') := by
    refine ⟨?_, ?_⟩
    · intro x ty n' w' pc H locs ls hd hrt hn hq hnn hCu hS
      obtain ⟨rfl, hq⟩ := hq
      rw [Nat.add_sub_cancel_left]
      exact W.zret hx hb (hr.trans hrt) hn (fun t ht hW => ⟨⟨some (.int x), w', rfl, hq, by rw [ht]; exact hCu⟩, hS.F ht⟩) hS.2.2 hd
    · intro n' w' pc H locs ls hd hrt hq hnn hCu hS
      obtain ⟨rfl, hq⟩ := hq
      rw [Nat.add_sub_cancel_left]
      exact W.vret hx hb (hr.trans hrt) (fun t ht hW => ⟨⟨none, w', rfl, hq, by rw [ht]; exact hCu⟩, hS.F ht⟩) hS.2.2 hd
  have hJ := h (Jm G p e (headSpec (wLs mi) { frames := d + 1, cells := k, slots := 2000 * k, locals := 37 * (d + 1) }).room s m (args.map (gtv G)).toArray below meth c (MQ below (gQc G (n + k) Q) (args.map (gtv G)).toArray s k (2000 * k) (gA G)) mL n (n + k)) (fun K hK pc L st n' w' hs => snd hCx hRok hK hs)
  have hl0 : (entL mL args).length = mL := by
    unfold entL
    rw [List.length_append, List.length_replicate]
    omega
  have h1 := hJ ⟨Nat.le_refl _, Nat.le_add_right _ _⟩ hl0 s.heap [] _ hC va_S.rf (lvL_entry hal)
  rw [Nat.sub_self] at h1
  exact h1
/-- a run of steps up to the places S -/
def run (G : Gx) (o : Nat) (ini : Bool) (mL : Nat) (rt : Option FieldType) (d nm : Nat) (J : Kt) (Rt : Option Value → Nat → Wd → Prop) (cc : ByteArray) (S : Nat → Bool) : Nat → Kt
  | 0 => J
  | f + 1 => fun pc L st n w => if S pc = true then J pc L st n w else stp G o ini mL rt d nm J (run G o ini mL rt d nm J Rt cc S f) Rt pc (dec cc pc) L st n w
abbrev Clo (G : Gx) (o : Nat) (ini : Bool) (mL : Nat) (rt : Option FieldType) (d nm : Nat) (J : Kt) (Rt : Option Value → Nat → Wd → Prop) (cc : ByteArray) : Prop := ∀ K : Kt, (∀ pc L st n' w', K pc L st n' w' → J pc L st n' w') → ∀ pc L st n' w', stp G o ini mL rt d nm J K Rt pc (dec cc pc) L st n' w' → J pc L st n' w'
theorem run_ok {G : Gx} {o : Nat} {ini : Bool} {mL : Nat} {rt : Option FieldType} {d nm : Nat} {J : Kt} {Rt : Option Value → Nat → Wd → Prop} {cc : ByteArray} (hJ : Clo G o ini mL rt d nm J Rt cc) (S : Nat → Bool) : ∀ f pc L st n w, run G o ini mL rt d nm J Rt cc S f pc L st n w → J pc L st n w
  | 0, _, _, _, _, _, h => h
  | f + 1, pc, L, st, n, w, h => by
    unfold run at h
    by_cases hs : S pc = true
    · rw [if_pos hs] at h; exact h
    · rw [if_neg hs] at h
      exact hJ _ (run_ok hJ S f) _ _ _ _ _ h
/-- one step in any case, then a run -/
theorem go_ok {G : Gx} {o : Nat} {ini : Bool} {mL : Nat} {rt : Option FieldType} {d nm : Nat} {J : Kt} {Rt : Option Value → Nat → Wd → Prop} {cc : ByteArray} (hJ : Clo G o ini mL rt d nm J Rt cc) (S : Nat → Bool) (f : Nat) {pc : Nat} {L st : List Value} {n : Nat} {w : Wd} (h : stp G o ini mL rt d nm J (run G o ini mL rt d nm J Rt cc S f) Rt pc (dec cc pc) L st n w) : J pc L st n w := hJ _ (run_ok hJ S f) _ _ _ _ _ h
theorem T.mono {G : Gx} {d k mi : Nat} {args : List Value} {n : Nat} {w : Wd} {Q Q' : Option Value → Wd → Prop} (h : T G d k mi args n w Q) (hq : ∀ r w', Q r w' → Q' r w') : T G d k mi args n w Q' := by
  intro p e ha hc hk s m args0 below hf happ hP hT
  obtain ⟨kk, o, h1, h2, h3, h4, h5⟩ := h p e ha hc hk s m args0 below hf happ hP hT
  obtain ⟨⟨r, w', a, b, c⟩, h6⟩ := h4
  exact ⟨kk, o, h1, h2, h3, ⟨⟨r, w', a, hq r w' b, c⟩, h6⟩, h5⟩
theorem call0 {G : Gx} {d mi : Nat} {args : List Value} {n : Nat} {w : Wd} {Q : Nat → Option Value → Wd → Prop} (h : T G d 0 mi args n w (Q 0)) : ∃ k, n + k ≤ n ∧ T G d k mi args n w (Q k) := ⟨0, Nat.le_refl _, h⟩
-- the steps as equations
section EQS
variable {G : Gx} {o : Nat} {ini : Bool} {mL : Nat} {rt : Option FieldType} {d nm : Nat} {J K : Kt} {Rt : Option Value → Nat → Wd → Prop} {pc nx ax n : Nat} {v : Int32} {L st : List Value} {w : Wd} {a b i x : Int32} {p q : Int64} {r r2 : Nat} {u z : Value} {cc : ByteArray} {S : Nat → Bool} {f : Nat}
theorem s_iconst {k : Int} : stp G o ini mL rt d nm J K Rt pc (some (.iconst k, nx, ax, v)) L st n w = (K nx L (.int v :: st) n w) := rfl
theorem s_bipush {k : Int} : stp G o ini mL rt d nm J K Rt pc (some (.bipush k, nx, ax, v)) L st n w = (K nx L (.int v :: st) n w) := rfl
theorem s_sipush {k : Int} : stp G o ini mL rt d nm J K Rt pc (some (.sipush k, nx, ax, v)) L st n w = (K nx L (.int v :: st) n w) := rfl
theorem s_lconst {k : Fin 2} : stp G o ini mL rt d nm J K Rt pc (some (.lconst k, nx, ax, v)) L st n w = (K nx L (.long (Int64.ofNat (k : Nat)) :: st) n w) := rfl
theorem s_iload {k : Nat} : stp G o ini mL rt d nm J K Rt pc (some (.iload k, nx, ax, v)) L st n w = (isI L[ax]? ∧ K nx L (vI L[ax]? :: st) n w) := rfl
theorem s_iload_n {k : Fin 4} : stp G o ini mL rt d nm J K Rt pc (some (.iload_n k, nx, ax, v)) L st n w = (isI L[ax]? ∧ K nx L (vI L[ax]? :: st) n w) := rfl
theorem s_lload {k : Nat} : stp G o ini mL rt d nm J K Rt pc (some (.lload k, nx, ax, v)) L st n w = (isJ L[ax]? ∧ K nx L (vI L[ax]? :: st) n w) := rfl
theorem s_lload_n {k : Fin 4} : stp G o ini mL rt d nm J K Rt pc (some (.lload_n k, nx, ax, v)) L st n w = (isJ L[ax]? ∧ K nx L (vI L[ax]? :: st) n w) := rfl
theorem s_aload_n {k : Fin 4} : stp G o ini mL rt d nm J K Rt pc (some (.aload_n k, nx, ax, v)) L st n w = (isA L[ax]? ∧ K nx L (vI L[ax]? :: st) n w) := rfl
theorem s_istore {k : Nat} : stp G o ini mL rt d nm J K Rt pc (some (.istore k, nx, ax, v)) L (.int x :: st) n w = (ax < mL ∧ K nx (sto ax (.int x) L) st n w) := rfl
theorem s_istore_n {k : Fin 4} : stp G o ini mL rt d nm J K Rt pc (some (.istore_n k, nx, ax, v)) L (.int x :: st) n w = (ax < mL ∧ K nx (sto ax (.int x) L) st n w) := rfl
theorem s_lstore {k : Nat} : stp G o ini mL rt d nm J K Rt pc (some (.lstore k, nx, ax, v)) L (.long p :: st) n w = (ax + 1 < mL ∧ K nx (sto ax (.long p) (sto (ax + 1) .null L)) st n w) := rfl
theorem s_lstore_n {k : Fin 4} : stp G o ini mL rt d nm J K Rt pc (some (.lstore_n k, nx, ax, v)) L (.long p :: st) n w = (ax + 1 < mL ∧ K nx (sto ax (.long p) (sto (ax + 1) .null L)) st n w) := rfl
theorem s_astore_n {k : Fin 4} : stp G o ini mL rt d nm J K Rt pc (some (.astore_n k, nx, ax, v)) L (.ref r :: st) n w = (ax < mL ∧ K nx (sto ax (.ref r) L) st n w) := rfl
theorem s_iinc {k : Nat} {c : Int} : stp G o ini mL rt d nm J K Rt pc (some (.iinc k c, nx, ax, v)) L st n w = (isI L[ax]? ∧ ax < mL ∧ K nx (sto ax (.int (nI32 L[ax]? + v)) L) st n w) := rfl
theorem s_iadd : stp G o ini mL rt d nm J K Rt pc (some (.iadd, nx, ax, v)) L (.int b :: .int a :: st) n w = (K nx L (.int (a + b) :: st) n w) := rfl
theorem s_isub : stp G o ini mL rt d nm J K Rt pc (some (.isub, nx, ax, v)) L (.int b :: .int a :: st) n w = (K nx L (.int (a - b) :: st) n w) := rfl
theorem s_imul : stp G o ini mL rt d nm J K Rt pc (some (.imul, nx, ax, v)) L (.int b :: .int a :: st) n w = (K nx L (.int (a * b) :: st) n w) := rfl
theorem s_iand : stp G o ini mL rt d nm J K Rt pc (some (.iand, nx, ax, v)) L (.int b :: .int a :: st) n w = (K nx L (.int (a &&& b) :: st) n w) := rfl
theorem s_ior : stp G o ini mL rt d nm J K Rt pc (some (.ior, nx, ax, v)) L (.int b :: .int a :: st) n w = (K nx L (.int (a ||| b) :: st) n w) := rfl
theorem s_ishl : stp G o ini mL rt d nm J K Rt pc (some (.ishl, nx, ax, v)) L (.int b :: .int a :: st) n w = (K nx L (.int (a <<< (b &&& 31)) :: st) n w) := rfl
theorem s_iushr : stp G o ini mL rt d nm J K Rt pc (some (.iushr, nx, ax, v)) L (.int b :: .int a :: st) n w = (K nx L (.int ((a.toUInt32 >>> (b.toUInt32 &&& Int32.toUInt32 31)).toInt32) :: st) n w) := rfl
theorem s_idiv : stp G o ini mL rt d nm J K Rt pc (some (.idiv, nx, ax, v)) L (.int b :: .int a :: st) n w = (¬ b = 0 ∧ K nx L (.int (a / b) :: st) n w) := rfl
theorem s_irem : stp G o ini mL rt d nm J K Rt pc (some (.irem, nx, ax, v)) L (.int b :: .int a :: st) n w = (¬ b = 0 ∧ K nx L (.int (a - a / b * b) :: st) n w) := rfl
theorem s_land : stp G o ini mL rt d nm J K Rt pc (some (.land, nx, ax, v)) L (.long q :: .long p :: st) n w = (K nx L (.long (p &&& q) :: st) n w) := rfl
theorem s_lor : stp G o ini mL rt d nm J K Rt pc (some (.lor, nx, ax, v)) L (.long q :: .long p :: st) n w = (K nx L (.long (p ||| q) :: st) n w) := rfl
theorem s_lcmp : stp G o ini mL rt d nm J K Rt pc (some (.lcmp, nx, ax, v)) L (.long q :: .long p :: st) n w = (K nx L (.int (lg_cmp p q) :: st) n w) := rfl
theorem s_lushr : stp G o ini mL rt d nm J K Rt pc (some (.lushr, nx, ax, v)) L (.int b :: .long p :: st) n w = (K nx L (.long (p.toUInt64 >>> (b.toInt64.toUInt64 &&& Int64.toUInt64 63)).toInt64 :: st) n w) := rfl
theorem s_lshl : stp G o ini mL rt d nm J K Rt pc (some (.lshl, nx, ax, v)) L (.int b :: .long p :: st) n w = (K nx L (.long (p <<< (b.toInt64 &&& 63)) :: st) n w) := rfl
theorem s_i2l : stp G o ini mL rt d nm J K Rt pc (some (.i2l, nx, ax, v)) L (.int a :: st) n w = (K nx L (.long a.toInt64 :: st) n w) := rfl
theorem s_l2i : stp G o ini mL rt d nm J K Rt pc (some (.l2i, nx, ax, v)) L (.long p :: st) n w = (K nx L (.int p.toInt32 :: st) n w) := rfl
theorem s_i2c : stp G o ini mL rt d nm J K Rt pc (some (.i2c, nx, ax, v)) L (.int a :: st) n w = (K nx L (.int (a.toUInt32 % 65536).toInt32 :: st) n w) := rfl
theorem s_icmp_eq {c : Int} : stp G o ini mL rt d nm J K Rt pc (some (.if_icmp .eq c, nx, ax, v)) L (.int b :: .int a :: st) n w = ((a = b → K ax L st n w) ∧ (¬ a = b → K nx L st n w)) := rfl
theorem s_if_eq {c : Int} : stp G o ini mL rt d nm J K Rt pc (some (.ifCond .eq c, nx, ax, v)) L (.int a :: st) n w = ((a = 0 → K ax L st n w) ∧ (¬ a = 0 → K nx L st n w)) := rfl
theorem s_icmp_ne {c : Int} : stp G o ini mL rt d nm J K Rt pc (some (.if_icmp .ne c, nx, ax, v)) L (.int b :: .int a :: st) n w = ((¬ a = b → K ax L st n w) ∧ (a = b → K nx L st n w)) := rfl
theorem s_if_ne {c : Int} : stp G o ini mL rt d nm J K Rt pc (some (.ifCond .ne c, nx, ax, v)) L (.int a :: st) n w = ((¬ a = 0 → K ax L st n w) ∧ (a = 0 → K nx L st n w)) := rfl
theorem s_icmp_lt {c : Int} : stp G o ini mL rt d nm J K Rt pc (some (.if_icmp .lt c, nx, ax, v)) L (.int b :: .int a :: st) n w = ((a < b → K ax L st n w) ∧ (¬ a < b → K nx L st n w)) := rfl
theorem s_if_lt {c : Int} : stp G o ini mL rt d nm J K Rt pc (some (.ifCond .lt c, nx, ax, v)) L (.int a :: st) n w = ((a < 0 → K ax L st n w) ∧ (¬ a < 0 → K nx L st n w)) := rfl
theorem s_icmp_ge {c : Int} : stp G o ini mL rt d nm J K Rt pc (some (.if_icmp .ge c, nx, ax, v)) L (.int b :: .int a :: st) n w = ((b ≤ a → K ax L st n w) ∧ (¬ b ≤ a → K nx L st n w)) := rfl
theorem s_if_ge {c : Int} : stp G o ini mL rt d nm J K Rt pc (some (.ifCond .ge c, nx, ax, v)) L (.int a :: st) n w = ((0 ≤ a → K ax L st n w) ∧ (¬ 0 ≤ a → K nx L st n w)) := rfl
theorem s_icmp_gt {c : Int} : stp G o ini mL rt d nm J K Rt pc (some (.if_icmp .gt c, nx, ax, v)) L (.int b :: .int a :: st) n w = ((b < a → K ax L st n w) ∧ (¬ b < a → K nx L st n w)) := rfl
theorem s_if_gt {c : Int} : stp G o ini mL rt d nm J K Rt pc (some (.ifCond .gt c, nx, ax, v)) L (.int a :: st) n w = ((0 < a → K ax L st n w) ∧ (¬ 0 < a → K nx L st n w)) := rfl
theorem s_icmp_le {c : Int} : stp G o ini mL rt d nm J K Rt pc (some (.if_icmp .le c, nx, ax, v)) L (.int b :: .int a :: st) n w = ((a ≤ b → K ax L st n w) ∧ (¬ a ≤ b → K nx L st n w)) := rfl
theorem s_if_le {c : Int} : stp G o ini mL rt d nm J K Rt pc (some (.ifCond .le c, nx, ax, v)) L (.int a :: st) n w = ((a ≤ 0 → K ax L st n w) ∧ (¬ a ≤ 0 → K nx L st n w)) := rfl
theorem s_goto {c : Int} : stp G o ini mL rt d nm J K Rt pc (some (.goto c, nx, ax, v)) L st n w = (K ax L st n w) := rfl
theorem s_dup : stp G o ini mL rt d nm J K Rt pc (some (.dup, nx, ax, v)) L (u :: st) n w = (u.category = 1 ∧ K nx L (u :: u :: st) n w) := rfl
theorem s_dup2 : stp G o ini mL rt d nm J K Rt pc (some (.dup2, nx, ax, v)) L (u :: z :: st) n w = (u.category = 1 ∧ z.category = 1 ∧ K nx L (u :: z :: u :: z :: st) n w) := rfl
theorem s_pop : stp G o ini mL rt d nm J K Rt pc (some (.pop, nx, ax, v)) L (u :: st) n w = (u.category = 1 ∧ K nx L st n w) := rfl
theorem s_tsw {c1 c2 c3 : Int} {c4 : Array Int} : stp G o ini mL rt d nm J K Rt pc (some (.tableswitch c1 c2 c3 c4, nx, ax, v)) L (.int x :: st) n w = (∃ t, swT (.tableswitch c1 c2 c3 c4) pc x = some t ∧ J t L st n w) := rfl
theorem s_lsw {c1 : Int} {c2 : Array (Int × Int)} : stp G o ini mL rt d nm J K Rt pc (some (.lookupswitch c1 c2, nx, ax, v)) L (.int x :: st) n w = (∃ t, swT (.lookupswitch c1 c2) pc x = some t ∧ J t L st n w) := rfl
theorem s_getf {idx ci k : Nat} {bb : Bool} (h : rF o idx = some (ci, k, bb)) : stp G o ini mL rt d nm J K Rt pc (some (.getfield idx, nx, ax, v)) L (.ref r :: st) n w = (isF (w r) ci k ∧ K nx L (gF (w r) k :: st) n w) := by simp only [stp, h, s1A]
theorem s_putf {idx ci k : Nat} {bb : Bool} (h : rF o idx = some (ci, k, bb)) : stp G o ini mL rt d nm J K Rt pc (some (.putfield idx, nx, ax, v)) L (u :: .ref r :: st) n w = (isF (w r) ci k ∧ pok (ftC ci k) u ∧ (fnC ci k = true → ini = true ∧ ci = o) ∧ K nx L st n (va_up w r (sF (w r) k u))) := by simp only [stp, h, sVA]
theorem s_gets {idx j : Nat} {bb : Bool} (h : rS o idx = some (j, bb)) : stp G o ini mL rt d nm J K Rt pc (some (.getstatic idx, nx, ax, v)) L st n w = (K nx L (.ref (1000 + j) :: st) n w) := by simp only [stp, h]
theorem s_ldcw {idx : Nat} {c : Int32} (h : rI o idx = some c) : stp G o ini mL rt d nm J K Rt pc (some (.ldc_w idx, nx, ax, v)) L st n w = (K nx L (.int c :: st) n w) := by simp only [stp, h]
theorem s_ldc2 {idx : Nat} {c : Int64} (h : rJ o idx = some c) : stp G o ini mL rt d nm J K Rt pc (some (.ldc2_w idx, nx, ax, v)) L st n w = (K nx L (.long c :: st) n w) := by simp only [stp, h]
theorem s_iaload : stp G o ini mL rt d nm J K Rt pc (some (.iaload, nx, ax, v)) L (.int i :: .ref r :: st) n w = (isP0 (w r) i ∧ K nx L (.int (gE (w r) i.toNatClampNeg) :: st) n w) := rfl
theorem s_baload : stp G o ini mL rt d nm J K Rt pc (some (.baload, nx, ax, v)) L (.int i :: .ref r :: st) n w = (isP (w r) 1 i ∧ K nx L (.int (gE (w r) i.toNatClampNeg) :: st) n w) := rfl
theorem s_caload : stp G o ini mL rt d nm J K Rt pc (some (.caload, nx, ax, v)) L (.int i :: .ref r :: st) n w = (isP (w r) 2 i ∧ K nx L (.int (gE (w r) i.toNatClampNeg) :: st) n w) := rfl
theorem s_iastore : stp G o ini mL rt d nm J K Rt pc (some (.iastore, nx, ax, v)) L (.int x :: .int i :: .ref r :: st) n w = (isP (w r) 0 i ∧ K nx L st n (va_up w r (sE (w r) i.toNatClampNeg x))) := rfl
theorem s_bastore : stp G o ini mL rt d nm J K Rt pc (some (.bastore, nx, ax, v)) L (.int x :: .int i :: .ref r :: st) n w = (isP (w r) 1 i ∧ K nx L st n (va_up w r (sE (w r) i.toNatClampNeg (vp_nar .boolean x)))) := rfl
theorem s_castore : stp G o ini mL rt d nm J K Rt pc (some (.castore, nx, ax, v)) L (.int x :: .int i :: .ref r :: st) n w = (isP (w r) 2 i ∧ K nx L st n (va_up w r (sE (w r) i.toNatClampNeg (vp_nar .char x)))) := rfl
theorem s_aaload : stp G o ini mL rt d nm J K Rt pc (some (.aaload, nx, ax, v)) L (.int i :: .ref r :: st) n w = (isR (w r) i ∧ isS (gO (w r) i.toNatClampNeg) ∧ K nx L (.ref (vS (gO (w r) i.toNatClampNeg)) :: st) n w) := rfl
theorem s_aastore : stp G o ini mL rt d nm J K Rt pc (some (.aastore, nx, ax, v)) L (.ref r2 :: .int i :: .ref r :: st) n w = (isR (w r) i ∧ isO (w r2) 0 ∧ K nx L st n (va_up w r (sO (w r) i.toNatClampNeg r2))) := rfl
theorem s_alen : stp G o ini mL rt d nm J K Rt pc (some (.arraylength, nx, ax, v)) L (.ref r :: st) n w = (isSc (w r) ∧ K nx L (.int (nSc (w r)) :: st) n w) := rfl
theorem s_new {idx ci : Nat} (h : rC o idx = some ci) : stp G o ini mL rt d nm J K Rt pc (some (.new idx, nx, ax, v)) L st n w = (n + 1 ≤ nm ∧ K nx L (.ref n :: st) (n + 1) (va_up w n (some (.inr (.inr (ci, dfl ci)))))) := by simp only [stp, h]
theorem s_newa {ty : ArrayType} : stp G o ini mL rt d nm J K Rt pc (some (.newarray ty, nx, ax, v)) L (.int x :: st) n w = (akd ty < 3 ∧ ¬ x < 0 ∧ x.toNatClampNeg ≤ 2000 ∧ n + 1 ≤ nm ∧ K nx L (.ref n :: st) (n + 1) (va_up w n (some (.inl ((akd ty, x.toNatClampNeg), fun _ => 0))))) := rfl
theorem s_newq {idx : Nat} : stp G o ini mL rt d nm J K Rt pc (some (.anewarray idx, nx, ax, v)) L (.int x :: st) n w = (rC o idx = some 0 ∧ ¬ x < 0 ∧ x.toNatClampNeg ≤ 2000 ∧ n + 1 ≤ nm ∧ K nx L (.ref n :: st) (n + 1) (va_up w n (some (.inr (.inl (x.toNatClampNeg, fun _ => none)))))) := rfl
theorem s_invokespecial {idx : Nat} : stp G o ini mL rt d nm J K Rt pc (some (.invokespecial idx, nx, ax, v)) L st n w = (kkd 0 (rM o idx) ∧ ivk G d nm J K (rM o idx) nx L st n w) := rfl
theorem s_invokevirtual {idx : Nat} : stp G o ini mL rt d nm J K Rt pc (some (.invokevirtual idx, nx, ax, v)) L st n w = (kkd 1 (rM o idx) ∧ ivk G d nm J K (rM o idx) nx L st n w) := rfl
theorem s_invokestatic {idx : Nat} : stp G o ini mL rt d nm J K Rt pc (some (.invokestatic idx, nx, ax, v)) L st n w = (kkd 2 (rM o idx) ∧ ivk G d nm J K (rM o idx) nx L st n w) := rfl
theorem s_ireturn : stp G o ini mL rt d nm J K Rt pc (some (.ireturn, nx, ax, v)) L [.int x] n w = ((∃ ty, rt = some ty ∧ narrow ty (.int x) = .int x) ∧ Rt (some (.int x)) n w) := by simp [stp, s1I]
theorem s_return : stp G o ini mL rt d nm J K Rt pc (some (.return_, nx, ax, v)) L [] n w = (rt = none ∧ Rt none n w) := by simp [stp]
theorem iv0_1 {mi : Nat} {v0 : Value} : ivk G d nm J K (some (mi, 0, 1)) nx L (v0 :: st) n w = (st.length ≤ 4 ∧ ∃ k, n + k ≤ nm ∧ T G d k mi [v0] n w (fun r w' => J nx L (r.toList ++ st) (n + k) w')) := by simp [ivk]
theorem iv0_2 {mi : Nat} {v0 v1 : Value} : ivk G d nm J K (some (mi, 0, 2)) nx L (v1 :: v0 :: st) n w = (st.length ≤ 4 ∧ ∃ k, n + k ≤ nm ∧ T G d k mi [v0, v1] n w (fun r w' => J nx L (r.toList ++ st) (n + k) w')) := by simp [ivk]
theorem iv0_3 {mi : Nat} {v0 v1 v2 : Value} : ivk G d nm J K (some (mi, 0, 3)) nx L (v2 :: v1 :: v0 :: st) n w = (st.length ≤ 4 ∧ ∃ k, n + k ≤ nm ∧ T G d k mi [v0, v1, v2] n w (fun r w' => J nx L (r.toList ++ st) (n + k) w')) := by simp [ivk]
theorem iv0_4 {mi : Nat} {v0 v1 v2 v3 : Value} : ivk G d nm J K (some (mi, 0, 4)) nx L (v3 :: v2 :: v1 :: v0 :: st) n w = (st.length ≤ 4 ∧ ∃ k, n + k ≤ nm ∧ T G d k mi [v0, v1, v2, v3] n w (fun r w' => J nx L (r.toList ++ st) (n + k) w')) := by simp [ivk]
theorem iv0_5 {mi : Nat} {v0 v1 v2 v3 v4 : Value} : ivk G d nm J K (some (mi, 0, 5)) nx L (v4 :: v3 :: v2 :: v1 :: v0 :: st) n w = (st.length ≤ 4 ∧ ∃ k, n + k ≤ nm ∧ T G d k mi [v0, v1, v2, v3, v4] n w (fun r w' => J nx L (r.toList ++ st) (n + k) w')) := by simp [ivk]
theorem iv0_6 {mi : Nat} {v0 v1 v2 v3 v4 v5 : Value} : ivk G d nm J K (some (mi, 0, 6)) nx L (v5 :: v4 :: v3 :: v2 :: v1 :: v0 :: st) n w = (st.length ≤ 4 ∧ ∃ k, n + k ≤ nm ∧ T G d k mi [v0, v1, v2, v3, v4, v5] n w (fun r w' => J nx L (r.toList ++ st) (n + k) w')) := by simp [ivk]
theorem iv1_1 {mi : Nat} {v0 : Value} : ivk G d nm J K (some (mi, 1, 1)) nx L (v0 :: st) n w = (st.length ≤ 4 ∧ ∃ k, n + k ≤ nm ∧ T G d k mi [v0] n w (fun r w' => J nx L (r.toList ++ st) (n + k) w')) := by simp [ivk]
theorem iv1_2 {mi : Nat} {v0 v1 : Value} : ivk G d nm J K (some (mi, 1, 2)) nx L (v1 :: v0 :: st) n w = (st.length ≤ 4 ∧ ∃ k, n + k ≤ nm ∧ T G d k mi [v0, v1] n w (fun r w' => J nx L (r.toList ++ st) (n + k) w')) := by simp [ivk]
theorem iv1_3 {mi : Nat} {v0 v1 v2 : Value} : ivk G d nm J K (some (mi, 1, 3)) nx L (v2 :: v1 :: v0 :: st) n w = (st.length ≤ 4 ∧ ∃ k, n + k ≤ nm ∧ T G d k mi [v0, v1, v2] n w (fun r w' => J nx L (r.toList ++ st) (n + k) w')) := by simp [ivk]
theorem iv1_4 {mi : Nat} {v0 v1 v2 v3 : Value} : ivk G d nm J K (some (mi, 1, 4)) nx L (v3 :: v2 :: v1 :: v0 :: st) n w = (st.length ≤ 4 ∧ ∃ k, n + k ≤ nm ∧ T G d k mi [v0, v1, v2, v3] n w (fun r w' => J nx L (r.toList ++ st) (n + k) w')) := by simp [ivk]
theorem iv1_5 {mi : Nat} {v0 v1 v2 v3 v4 : Value} : ivk G d nm J K (some (mi, 1, 5)) nx L (v4 :: v3 :: v2 :: v1 :: v0 :: st) n w = (st.length ≤ 4 ∧ ∃ k, n + k ≤ nm ∧ T G d k mi [v0, v1, v2, v3, v4] n w (fun r w' => J nx L (r.toList ++ st) (n + k) w')) := by simp [ivk]
theorem iv1_6 {mi : Nat} {v0 v1 v2 v3 v4 v5 : Value} : ivk G d nm J K (some (mi, 1, 6)) nx L (v5 :: v4 :: v3 :: v2 :: v1 :: v0 :: st) n w = (st.length ≤ 4 ∧ ∃ k, n + k ≤ nm ∧ T G d k mi [v0, v1, v2, v3, v4, v5] n w (fun r w' => J nx L (r.toList ++ st) (n + k) w')) := by simp [ivk]
theorem iv2_1 {mi : Nat} : ivk G d nm J K (some (mi, 2, 1)) nx L (.ref r :: st) n w = (st.length ≤ 4 ∧ isO (w r) (mr mi).2.2.2.2 ∧ ∃ k, n + k ≤ nm ∧ T G d k mi [.ref r] n w (fun r w' => J nx L (r.toList ++ st) (n + k) w')) := by simp [ivk, isRc]
theorem iv2_2 {mi : Nat} {v0 : Value} : ivk G d nm J K (some (mi, 2, 2)) nx L (v0 :: .ref r :: st) n w = (st.length ≤ 4 ∧ isO (w r) (mr mi).2.2.2.2 ∧ ∃ k, n + k ≤ nm ∧ T G d k mi [.ref r, v0] n w (fun r w' => J nx L (r.toList ++ st) (n + k) w')) := by simp [ivk, isRc]
theorem iv2_3 {mi : Nat} {v0 v1 : Value} : ivk G d nm J K (some (mi, 2, 3)) nx L (v1 :: v0 :: .ref r :: st) n w = (st.length ≤ 4 ∧ isO (w r) (mr mi).2.2.2.2 ∧ ∃ k, n + k ≤ nm ∧ T G d k mi [.ref r, v0, v1] n w (fun r w' => J nx L (r.toList ++ st) (n + k) w')) := by simp [ivk, isRc]
theorem iv2_4 {mi : Nat} {v0 v1 v2 : Value} : ivk G d nm J K (some (mi, 2, 4)) nx L (v2 :: v1 :: v0 :: .ref r :: st) n w = (st.length ≤ 4 ∧ isO (w r) (mr mi).2.2.2.2 ∧ ∃ k, n + k ≤ nm ∧ T G d k mi [.ref r, v0, v1, v2] n w (fun r w' => J nx L (r.toList ++ st) (n + k) w')) := by simp [ivk, isRc]
theorem iv3_1 {mi : Nat} : ivk G d nm J K (some (mi, 3, 1)) nx L (.ref r :: st) n w = (st.length ≤ 4 ∧ isO (w r) (mr mi).2.2.2.2 ∧ ∃ k, n + k ≤ nm ∧ T G d k mi [.ref r] n w (fun r w' => J nx L (r.toList ++ st) (n + k) w')) := by simp [ivk, isRc]
theorem iv3_2 {mi : Nat} {v0 : Value} : ivk G d nm J K (some (mi, 3, 2)) nx L (v0 :: .ref r :: st) n w = (st.length ≤ 4 ∧ isO (w r) (mr mi).2.2.2.2 ∧ ∃ k, n + k ≤ nm ∧ T G d k mi [.ref r, v0] n w (fun r w' => J nx L (r.toList ++ st) (n + k) w')) := by simp [ivk, isRc]
theorem iv3_3 {mi : Nat} {v0 v1 : Value} : ivk G d nm J K (some (mi, 3, 3)) nx L (v1 :: v0 :: .ref r :: st) n w = (st.length ≤ 4 ∧ isO (w r) (mr mi).2.2.2.2 ∧ ∃ k, n + k ≤ nm ∧ T G d k mi [.ref r, v0, v1] n w (fun r w' => J nx L (r.toList ++ st) (n + k) w')) := by simp [ivk, isRc]
theorem iv3_4 {mi : Nat} {v0 v1 v2 : Value} : ivk G d nm J K (some (mi, 3, 4)) nx L (v2 :: v1 :: v0 :: .ref r :: st) n w = (st.length ≤ 4 ∧ isO (w r) (mr mi).2.2.2.2 ∧ ∃ k, n + k ≤ nm ∧ T G d k mi [.ref r, v0, v1, v2] n w (fun r w' => J nx L (r.toList ++ st) (n + k) w')) := by simp [ivk, isRc]
theorem iv4_1 {mi : Nat} : ivk G d nm J K (some (mi, 4, 1)) nx L (.ref r :: st) n w = (st.length ≤ 4 ∧ isO (w r) (mr mi).2.2.2.2 ∧ ∃ k, n + k ≤ nm ∧ T G d k mi [.ref r] n w (fun r w' => J nx L (r.toList ++ st) (n + k) w')) := by simp [ivk, isRc]
theorem iv4_2 {mi : Nat} {v0 : Value} : ivk G d nm J K (some (mi, 4, 2)) nx L (v0 :: .ref r :: st) n w = (st.length ≤ 4 ∧ isO (w r) (mr mi).2.2.2.2 ∧ ∃ k, n + k ≤ nm ∧ T G d k mi [.ref r, v0] n w (fun r w' => J nx L (r.toList ++ st) (n + k) w')) := by simp [ivk, isRc]
theorem iv4_3 {mi : Nat} {v0 v1 : Value} : ivk G d nm J K (some (mi, 4, 3)) nx L (v1 :: v0 :: .ref r :: st) n w = (st.length ≤ 4 ∧ isO (w r) (mr mi).2.2.2.2 ∧ ∃ k, n + k ≤ nm ∧ T G d k mi [.ref r, v0, v1] n w (fun r w' => J nx L (r.toList ++ st) (n + k) w')) := by simp [ivk, isRc]
theorem iv4_4 {mi : Nat} {v0 v1 v2 : Value} : ivk G d nm J K (some (mi, 4, 4)) nx L (v2 :: v1 :: v0 :: .ref r :: st) n w = (st.length ≤ 4 ∧ isO (w r) (mr mi).2.2.2.2 ∧ ∃ k, n + k ≤ nm ∧ T G d k mi [.ref r, v0, v1, v2] n w (fun r w' => J nx L (r.toList ++ st) (n + k) w')) := by simp [ivk, isRc]
theorem iv5_1 {mi : Nat} : ivk G d nm J K (some (mi, 5, 1)) nx L (.ref r :: st) n w = (st.length ≤ 4 ∧ isO (w r) (mr mi).2.2.2.2 ∧ ∃ k, n + k ≤ nm ∧ T G d k mi [.ref r] n w (fun r w' => J nx L (r.toList ++ st) (n + k) w')) := by simp [ivk, isRc]
theorem iv5_2 {mi : Nat} {v0 : Value} : ivk G d nm J K (some (mi, 5, 2)) nx L (v0 :: .ref r :: st) n w = (st.length ≤ 4 ∧ isO (w r) (mr mi).2.2.2.2 ∧ ∃ k, n + k ≤ nm ∧ T G d k mi [.ref r, v0] n w (fun r w' => J nx L (r.toList ++ st) (n + k) w')) := by simp [ivk, isRc]
theorem iv5_3 {mi : Nat} {v0 v1 : Value} : ivk G d nm J K (some (mi, 5, 3)) nx L (v1 :: v0 :: .ref r :: st) n w = (st.length ≤ 4 ∧ isO (w r) (mr mi).2.2.2.2 ∧ ∃ k, n + k ≤ nm ∧ T G d k mi [.ref r, v0, v1] n w (fun r w' => J nx L (r.toList ++ st) (n + k) w')) := by simp [ivk, isRc]
theorem iv5_4 {mi : Nat} {v0 v1 v2 : Value} : ivk G d nm J K (some (mi, 5, 4)) nx L (v2 :: v1 :: v0 :: .ref r :: st) n w = (st.length ≤ 4 ∧ isO (w r) (mr mi).2.2.2.2 ∧ ∃ k, n + k ≤ nm ∧ T G d k mi [.ref r, v0, v1, v2] n w (fun r w' => J nx L (r.toList ++ st) (n + k) w')) := by simp [ivk, isRc]
theorem iv9 {mi na : Nat} : ivk G d nm J K (some (mi, 9, na)) nx L (.ref r :: st) n w = (st.length ≤ 4 ∧ K nx L st n w) := rfl
theorem iv10 {mi na : Nat} {sp dp m : Int32} : ivk G d nm J K (some (mi, 10, na)) nx L (.int m :: .int dp :: .ref r2 :: .int sp :: .ref r :: st) n w = (st.length ≤ 4 ∧ isCp (w r) (w r2) sp dp m ∧ K nx L st n (va_up w r2 (cpE (w r) (w r2) sp dp m))) := rfl
theorem iv11 {mi na : Nat} : ivk G d nm J K (some (mi, 11, na)) nx L (.int b :: .int a :: st) n w = (st.length ≤ 4 ∧ K nx L (.int (if a < b then b else a) :: st) n w) := rfl
theorem iv12 {mi na : Nat} : ivk G d nm J K (some (mi, 12, na)) nx L (.int b :: .int a :: st) n w = (st.length ≤ 4 ∧ K nx L (.int (if b < a then b else a) :: st) n w) := rfl
theorem run_s (h : S pc = false) : run G o ini mL rt d nm J Rt cc S (f + 1) pc L st n w = stp G o ini mL rt d nm J (run G o ini mL rt d nm J Rt cc S f) Rt pc (dec cc pc) L st n w := by simp only [run, h]; rfl
theorem run_e (h : S pc = true) : run G o ini mL rt d nm J Rt cc S (f + 1) pc L st n w = J pc L st n w := by simp only [run, h]; rfl
theorem run_0 : run G o ini mL rt d nm J Rt cc S 0 pc L st n w = J pc L st n w := rfl
end EQS
end
