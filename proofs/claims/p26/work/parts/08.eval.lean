/-! the methods, their code decoded, the places that their instructions name -/
theorem hm_0 : mr 0 = (⟨"ClawCranes$Crane", "<init>", "()V"⟩, prog_2_method_1_code, 1, none, 0) := rfl
theorem hc_0 : (mr 0).2.2.2.2 = 0 := rfl
theorem hm_1 : mr 1 = (⟨"ClawCranes$Crane", "copyFrom", "(LClawCranes$Crane;)V"⟩, prog_2_method_2_code, 2, none, 0) := rfl
theorem hc_1 : (mr 1).2.2.2.2 = 0 := rfl
theorem hm_2 : mr 2 = (⟨"ClawCranes$Crane", "changeSetting", "(II)I"⟩, prog_2_method_3_code, 4, (some .int), 0) := rfl
theorem hc_2 : (mr 2).2.2.2.2 = 0 := rfl
theorem hm_3 : mr 3 = (⟨"ClawCranes$Crane", "takePrize", "(III)I"⟩, prog_2_method_4_code, 5, (some .int), 0) := rfl
theorem hc_3 : (mr 3).2.2.2.2 = 0 := rfl
theorem hm_4 : mr 4 = (⟨"ClawCranes$Crane", "addToColumn", "(I)I"⟩, prog_2_method_5_code, 3, (some .int), 0) := rfl
theorem hc_4 : (mr 4).2.2.2.2 = 0 := rfl
theorem hm_5 : mr 5 = (⟨"ClawCranes$Crane", "takeCoins", "(I)I"⟩, prog_2_method_6_code, 2, (some .int), 0) := rfl
theorem hc_5 : (mr 5).2.2.2.2 = 0 := rfl
theorem hm_6 : mr 6 = (⟨"ClawCranes$Crane", "playForCredit", "(II)I"⟩, prog_2_method_7_code, 4, (some .int), 0) := rfl
theorem hc_6 : (mr 6).2.2.2.2 = 0 := rfl
theorem hm_7 : mr 7 = (⟨"ClawCranes$Crane", "pull", "(II)I"⟩, prog_2_method_8_code, 6, (some .int), 0) := rfl
theorem hc_7 : (mr 7).2.2.2.2 = 0 := rfl
theorem hm_8 : mr 8 = (⟨"ClawCranes$Crane", "pay", "(Z)V"⟩, prog_2_method_9_code, 2, none, 0) := rfl
theorem hc_8 : (mr 8).2.2.2.2 = 0 := rfl
theorem hm_9 : mr 9 = (⟨"ClawCranes$Crane", "moveGripped", "(III)V"⟩, prog_2_method_10_code, 5, none, 0) := rfl
theorem hc_9 : (mr 9).2.2.2.2 = 0 := rfl
theorem hm_10 : mr 10 = (⟨"ClawCranes$Crane", "fillUp", "()V"⟩, prog_2_method_11_code, 4, none, 0) := rfl
theorem hc_10 : (mr 10).2.2.2.2 = 0 := rfl
theorem hm_11 : mr 11 = (⟨"ClawCranes$Crane", "outcome", "(II)I"⟩, prog_2_method_12_code, 5, (some .int), 0) := rfl
theorem hc_11 : (mr 11).2.2.2.2 = 0 := rfl
theorem hm_12 : mr 12 = (⟨"ClawCranes$Crane", "grip", "(I)I"⟩, prog_2_method_13_code, 3, (some .int), 0) := rfl
theorem hc_12 : (mr 12).2.2.2.2 = 0 := rfl
theorem hm_13 : mr 13 = (⟨"ClawCranes$Crane", "nextGripIsFull", "()Z"⟩, prog_2_method_14_code, 1, (some .boolean), 0) := rfl
theorem hc_13 : (mr 13).2.2.2.2 = 0 := rfl
theorem hm_14 : mr 14 = (⟨"ClawCranes$Crane", "loadOfTop", "(II)I"⟩, prog_2_method_15_code, 5, (some .int), 0) := rfl
theorem hc_14 : (mr 14).2.2.2.2 = 0 := rfl
theorem hm_15 : mr 15 = (⟨"ClawCranes$Crane", "playsUntilFull", "()I"⟩, prog_2_method_16_code, 4, (some .int), 0) := rfl
theorem hc_15 : (mr 15).2.2.2.2 = 0 := rfl
theorem hm_16 : mr 16 = (⟨"ClawCranes$Crane", "coinsToWin", "(I)I"⟩, prog_2_method_18_code, 3, (some .int), 0) := rfl
theorem hc_16 : (mr 16).2.2.2.2 = 0 := rfl
theorem hm_17 : mr 17 = (⟨"ClawCranes$Diary", "<init>", "()V"⟩, prog_3_method_1_code, 1, none, 1) := rfl
theorem hc_17 : (mr 17).2.2.2.2 = 1 := rfl
theorem hm_18 : mr 18 = (⟨"ClawCranes$Diary", "copyFrom", "(LClawCranes$Diary;)V"⟩, prog_3_method_2_code, 2, none, 1) := rfl
theorem hc_18 : (mr 18).2.2.2.2 = 1 := rfl
theorem hm_19 : mr 19 = (⟨"ClawCranes$Diary", "write", "(IIIZ)V"⟩, prog_3_method_3_code, 6, none, 1) := rfl
theorem hc_19 : (mr 19).2.2.2.2 = 1 := rfl
theorem hm_20 : mr 20 = (⟨"ClawCranes$Diary", "tell", "(II)I"⟩, prog_3_method_4_code, 4, (some .int), 1) := rfl
theorem hc_20 : (mr 20).2.2.2.2 = 1 := rfl
theorem hm_21 : mr 21 = (⟨"ClawCranes$History", "<init>", "()V"⟩, prog_4_method_1_code, 2, none, 2) := rfl
theorem hc_21 : (mr 21).2.2.2.2 = 2 := rfl
theorem hm_22 : mr 22 = (⟨"ClawCranes$History", "note", "(LClawCranes$Crane;)V"⟩, prog_4_method_2_code, 2, none, 2) := rfl
theorem hc_22 : (mr 22).2.2.2.2 = 2 := rfl
theorem hm_23 : mr 23 = (⟨"ClawCranes$History", "keepNoted", "()V"⟩, prog_4_method_3_code, 1, none, 2) := rfl
theorem hc_23 : (mr 23).2.2.2.2 = 2 := rfl
theorem hm_24 : mr 24 = (⟨"ClawCranes$History", "stepBack", "(LClawCranes$Crane;)V"⟩, prog_4_method_4_code, 2, none, 2) := rfl
theorem hc_24 : (mr 24).2.2.2.2 = 2 := rfl
theorem hm_25 : mr 25 = (⟨"ClawCranes$Pad", "<init>", "()V"⟩, prog_5_method_1_code, 1, none, 3) := rfl
theorem hc_25 : (mr 25).2.2.2.2 = 3 := rfl
theorem hm_26 : mr 26 = (⟨"ClawCranes$Pad", "begin", "()V"⟩, prog_5_method_4_code, 1, none, 3) := rfl
theorem hc_26 : (mr 26).2.2.2.2 = 3 := rfl
theorem hm_27 : mr 27 = (⟨"ClawCranes$Pad", "firstFault", "()I"⟩, prog_5_method_5_code, 2, (some .int), 3) := rfl
theorem hc_27 : (mr 27).2.2.2.2 = 3 := rfl
theorem hm_28 : mr 28 = (⟨"ClawCranes$Pad", "nextOrder", "()Z"⟩, prog_5_method_6_code, 1, (some .boolean), 3) := rfl
theorem hc_28 : (mr 28).2.2.2.2 = 3 := rfl
theorem hm_29 : mr 29 = (⟨"ClawCranes$Pad", "readCoins", "()V"⟩, prog_5_method_7_code, 1, none, 3) := rfl
theorem hc_29 : (mr 29).2.2.2.2 = 3 := rfl
theorem hm_30 : mr 30 = (⟨"ClawCranes$Pad", "readPlay", "()V"⟩, prog_5_method_8_code, 1, none, 3) := rfl
theorem hc_30 : (mr 30).2.2.2.2 = 3 := rfl
theorem hm_31 : mr 31 = (⟨"ClawCranes$Pad", "readPrize", "()V"⟩, prog_5_method_9_code, 1, none, 3) := rfl
theorem hc_31 : (mr 31).2.2.2.2 = 3 := rfl
theorem hm_32 : mr 32 = (⟨"ClawCranes$Pad", "readAdding", "()V"⟩, prog_5_method_10_code, 1, none, 3) := rfl
theorem hc_32 : (mr 32).2.2.2.2 = 3 := rfl
theorem hm_33 : mr 33 = (⟨"ClawCranes$Pad", "kind", "()I"⟩, prog_5_method_11_code, 1, (some .int), 3) := rfl
theorem hc_33 : (mr 33).2.2.2.2 = 3 := rfl
theorem hm_34 : mr 34 = (⟨"ClawCranes$Pad", "number", "()I"⟩, prog_5_method_12_code, 2, (some .int), 3) := rfl
theorem hc_34 : (mr 34).2.2.2.2 = 3 := rfl
theorem hm_35 : mr 35 = (⟨"ClawCranes$Pad", "digit", "()I"⟩, prog_5_method_13_code, 2, (some .int), 3) := rfl
theorem hc_35 : (mr 35).2.2.2.2 = 3 := rfl
theorem hm_36 : mr 36 = (⟨"ClawCranes$Pad", "isDigit", "(I)Z"⟩, prog_5_method_14_code, 1, (some .boolean), 3) := rfl
theorem hc_36 : (mr 36).2.2.2.2 = 3 := rfl
theorem hm_37 : mr 37 = (⟨"ClawCranes$Pad", "expect", "(I)V"⟩, prog_5_method_15_code, 2, none, 3) := rfl
theorem hc_37 : (mr 37).2.2.2.2 = 3 := rfl
theorem hm_38 : mr 38 = (⟨"ClawCranes$Pad", "here", "()I"⟩, prog_5_method_16_code, 1, (some .int), 3) := rfl
theorem hc_38 : (mr 38).2.2.2.2 = 3 := rfl
theorem hm_39 : mr 39 = (⟨"ClawCranes$Pit", "<init>", "()V"⟩, prog_6_method_1_code, 1, none, 4) := rfl
theorem hc_39 : (mr 39).2.2.2.2 = 4 := rfl
theorem hm_40 : mr 40 = (⟨"ClawCranes$Pit", "copyFrom", "(LClawCranes$Pit;)V"⟩, prog_6_method_2_code, 2, none, 4) := rfl
theorem hc_40 : (mr 40).2.2.2.2 = 4 := rfl
theorem hm_41 : mr 41 = (⟨"ClawCranes$Pit", "prizeAt", "(II)I"⟩, prog_6_method_3_code, 3, (some .int), 4) := rfl
theorem hc_41 : (mr 41).2.2.2.2 = 4 := rfl
theorem hm_42 : mr 42 = (⟨"ClawCranes$Pit", "top", "(I)I"⟩, prog_6_method_4_code, 3, (some .int), 4) := rfl
theorem hc_42 : (mr 42).2.2.2.2 = 4 := rfl
theorem hm_43 : mr 43 = (⟨"ClawCranes$Pit", "spotOf", "(I)I"⟩, prog_6_method_5_code, 4, (some .int), 4) := rfl
theorem hc_43 : (mr 43).2.2.2.2 = 4 := rfl
theorem hm_44 : mr 44 = (⟨"ClawCranes$Pit", "lay", "(II)V"⟩, prog_6_method_6_code, 3, none, 4) := rfl
theorem hc_44 : (mr 44).2.2.2.2 = 4 := rfl
theorem hm_45 : mr 45 = (⟨"ClawCranes$Pit", "lift", "(I)V"⟩, prog_6_method_7_code, 2, none, 4) := rfl
theorem hc_45 : (mr 45).2.2.2.2 = 4 := rfl
theorem hm_46 : mr 46 = (⟨"ClawCranes$Pit", "prizesInAll", "()I"⟩, prog_6_method_8_code, 3, (some .int), 4) := rfl
theorem hc_46 : (mr 46).2.2.2.2 = 4 := rfl
theorem hm_47 : mr 47 = (⟨"ClawCranes$Pit", "lowestColumn", "()I"⟩, prog_6_method_9_code, 3, (some .int), 4) := rfl
theorem hc_47 : (mr 47).2.2.2.2 = 4 := rfl
theorem hm_48 : mr 48 = (⟨"ClawCranes$Pit", "emptyColumns", "()I"⟩, prog_6_method_10_code, 3, (some .int), 4) := rfl
theorem hc_48 : (mr 48).2.2.2.2 = 4 := rfl
theorem hm_49 : mr 49 = (⟨"ClawCranes$Pit", "rollTarget", "(I)I"⟩, prog_6_method_11_code, 4, (some .int), 4) := rfl
theorem hc_49 : (mr 49).2.2.2.2 = 4 := rfl
theorem hm_50 : mr 50 = (⟨"ClawCranes$Pit", "heightOrWall", "(I)I"⟩, prog_6_method_12_code, 2, (some .int), 4) := rfl
theorem hc_50 : (mr 50).2.2.2.2 = 4 := rfl
theorem hm_51 : mr 51 = (⟨"ClawCranes$Prizes", "<init>", "()V"⟩, prog_7_method_1_code, 1, none, 5) := rfl
theorem hc_51 : (mr 51).2.2.2.2 = 5 := rfl
theorem hm_52 : mr 52 = (⟨"ClawCranes$Prizes", "copyFrom", "(LClawCranes$Prizes;)V"⟩, prog_7_method_2_code, 2, none, 5) := rfl
theorem hc_52 : (mr 52).2.2.2.2 = 5 := rfl
theorem hm_53 : mr 53 = (⟨"ClawCranes$Prizes", "come", "(III)I"⟩, prog_7_method_3_code, 5, (some .int), 5) := rfl
theorem hc_53 : (mr 53).2.2.2.2 = 5 := rfl
theorem hm_54 : mr 54 = (⟨"ClawCranes$Prizes", "storeIsEmpty", "()Z"⟩, prog_7_method_4_code, 1, (some .boolean), 5) := rfl
theorem hc_54 : (mr 54).2.2.2.2 = 5 := rfl
theorem hm_55 : mr 55 = (⟨"ClawCranes$Prizes", "leaveStore", "()I"⟩, prog_7_method_5_code, 2, (some .int), 5) := rfl
theorem hc_55 : (mr 55).2.2.2.2 = 5 := rfl
theorem hm_56 : mr 56 = (⟨"ClawCranes$Prizes", "setIn", "(I)I"⟩, prog_7_method_6_code, 4, (some .int), 5) := rfl
theorem hc_56 : (mr 56).2.2.2.2 = 5 := rfl
theorem hm_57 : mr 57 = (⟨"ClawCranes$Prizes", "valueWon", "()I"⟩, prog_7_method_7_code, 3, (some .int), 5) := rfl
theorem hc_57 : (mr 57).2.2.2.2 = 5 := rfl
theorem hm_58 : mr 58 = (⟨"ClawCranes$Prizes", "inPitUpTo", "(I)I"⟩, prog_7_method_8_code, 4, (some .int), 5) := rfl
theorem hc_58 : (mr 58).2.2.2.2 = 5 := rfl
theorem hm_59 : mr 59 = (⟨"ClawCranes$Prizes", "inPitByValue", "(I)I"⟩, prog_7_method_9_code, 3, (some .int), 5) := rfl
theorem hc_59 : (mr 59).2.2.2.2 = 5 := rfl
theorem hm_60 : mr 60 = (⟨"ClawCranes$Prizes", "rankInPit", "(I)I"⟩, prog_7_method_10_code, 4, (some .int), 5) := rfl
theorem hc_60 : (mr 60).2.2.2.2 = 5 := rfl
theorem hm_61 : mr 61 = (⟨"ClawCranes$Prizes", "isBefore", "(II)Z"⟩, prog_7_method_11_code, 3, (some .boolean), 5) := rfl
theorem hc_61 : (mr 61).2.2.2.2 = 5 := rfl
theorem hm_62 : mr 62 = (⟨"ClawCranes", "<init>", "()V"⟩, prog_1_method_1_code, 2, none, 6) := rfl
theorem hc_62 : (mr 62).2.2.2.2 = 6 := rfl
theorem hm_63 : mr 63 = (⟨"ClawCranes", "set", "(II)I"⟩, prog_1_method_2_code, 3, (some .int), 6) := rfl
theorem hc_63 : (mr 63).2.2.2.2 = 6 := rfl
theorem hm_64 : mr 64 = (⟨"ClawCranes", "prize", "(III)I"⟩, prog_1_method_3_code, 4, (some .int), 6) := rfl
theorem hc_64 : (mr 64).2.2.2.2 = 6 := rfl
theorem hm_65 : mr 65 = (⟨"ClawCranes", "add", "(I)I"⟩, prog_1_method_4_code, 2, (some .int), 6) := rfl
theorem hc_65 : (mr 65).2.2.2.2 = 6 := rfl
theorem hm_66 : mr 66 = (⟨"ClawCranes", "coins", "(I)I"⟩, prog_1_method_5_code, 2, (some .int), 6) := rfl
theorem hc_66 : (mr 66).2.2.2.2 = 6 := rfl
theorem hm_67 : mr 67 = (⟨"ClawCranes", "play", "(II)I"⟩, prog_1_method_6_code, 3, (some .int), 6) := rfl
theorem hc_67 : (mr 67).2.2.2.2 = 6 := rfl
theorem hm_68 : mr 68 = (⟨"ClawCranes", "recorded", "(I)I"⟩, prog_1_method_7_code, 2, (some .int), 6) := rfl
theorem hc_68 : (mr 68).2.2.2.2 = 6 := rfl
theorem hm_69 : mr 69 = (⟨"ClawCranes", "of", "(II)I"⟩, prog_1_method_8_code, 3, (some .int), 6) := rfl
theorem hc_69 : (mr 69).2.2.2.2 = 6 := rfl
theorem hm_70 : mr 70 = (⟨"ClawCranes", "at", "(II)I"⟩, prog_1_method_9_code, 3, (some .int), 6) := rfl
theorem hc_70 : (mr 70).2.2.2.2 = 6 := rfl
theorem hm_71 : mr 71 = (⟨"ClawCranes", "book", "(II)I"⟩, prog_1_method_10_code, 3, (some .int), 6) := rfl
theorem hc_71 : (mr 71).2.2.2.2 = 6 := rfl
theorem hm_72 : mr 72 = (⟨"ClawCranes", "byValue", "(I)I"⟩, prog_1_method_11_code, 2, (some .int), 6) := rfl
theorem hc_72 : (mr 72).2.2.2.2 = 6 := rfl
theorem hm_73 : mr 73 = (⟨"ClawCranes", "lighter", "(I)I"⟩, prog_1_method_12_code, 2, (some .int), 6) := rfl
theorem hc_73 : (mr 73).2.2.2.2 = 6 := rfl
theorem hm_74 : mr 74 = (⟨"ClawCranes", "count", "(I)I"⟩, prog_1_method_13_code, 2, (some .int), 6) := rfl
theorem hc_74 : (mr 74).2.2.2.2 = 6 := rfl
theorem hm_75 : mr 75 = (⟨"ClawCranes", "ifPlayed", "(II)I"⟩, prog_1_method_14_code, 4, (some .int), 6) := rfl
theorem hc_75 : (mr 75).2.2.2.2 = 6 := rfl
theorem hm_76 : mr 76 = (⟨"ClawCranes", "load", "(II)I"⟩, prog_1_method_15_code, 4, (some .int), 6) := rfl
theorem hc_76 : (mr 76).2.2.2.2 = 6 := rfl
theorem hm_77 : mr 77 = (⟨"ClawCranes", "untilFull", "()I"⟩, prog_1_method_16_code, 1, (some .int), 6) := rfl
theorem hc_77 : (mr 77).2.2.2.2 = 6 := rfl
theorem hm_78 : mr 78 = (⟨"ClawCranes", "costs", "(I)I"⟩, prog_1_method_18_code, 2, (some .int), 6) := rfl
theorem hc_78 : (mr 78).2.2.2.2 = 6 := rfl
theorem hm_79 : mr 79 = (⟨"ClawCranes", "wipe", "()I"⟩, prog_1_method_20_code, 2, (some .int), 6) := rfl
theorem hc_79 : (mr 79).2.2.2.2 = 6 := rfl
theorem hm_80 : mr 80 = (⟨"ClawCranes", "fault", "()I"⟩, prog_1_method_21_code, 1, (some .int), 6) := rfl
theorem hc_80 : (mr 80).2.2.2.2 = 6 := rfl
theorem hm_81 : mr 81 = (⟨"ClawCranes", "carryOut", "()I"⟩, prog_1_method_22_code, 2, (some .int), 6) := rfl
theorem hc_81 : (mr 81).2.2.2.2 = 6 := rfl
theorem hm_82 : mr 82 = (⟨"ClawCranes", "carriedOrder", "()I"⟩, prog_1_method_23_code, 1, (some .int), 6) := rfl
theorem hc_82 : (mr 82).2.2.2.2 = 6 := rfl
theorem hm_83 : mr 83 = (⟨"ClawCranes", "undo", "()I"⟩, prog_1_method_24_code, 1, (some .int), 6) := rfl
theorem hc_83 : (mr 83).2.2.2.2 = 6 := rfl
theorem hm_84 : mr 84 = (⟨"ClawCranes", "save", "(I)I"⟩, prog_1_method_25_code, 2, (some .int), 6) := rfl
theorem hc_84 : (mr 84).2.2.2.2 = 6 := rfl
theorem hm_85 : mr 85 = (⟨"ClawCranes", "restore", "(I)I"⟩, prog_1_method_26_code, 2, (some .int), 6) := rfl
theorem hc_85 : (mr 85).2.2.2.2 = 6 := rfl
theorem hm_86 : mr 86 = (⟨"ClawCranes", "isSlot", "(I)Z"⟩, prog_1_method_27_code, 1, (some .boolean), 6) := rfl
theorem hc_86 : (mr 86).2.2.2.2 = 6 := rfl
theorem hm_87 : mr 87 = (⟨"ClawCranes", "isColumn", "(I)Z"⟩, prog_1_method_28_code, 1, (some .boolean), 6) := rfl
theorem hc_87 : (mr 87).2.2.2.2 = 6 := rfl
theorem hm_88 : mr 88 = (⟨"ClawCranes", "errorOfAim", "(II)I"⟩, prog_1_method_29_code, 2, (some .int), 6) := rfl
theorem hc_88 : (mr 88).2.2.2.2 = 6 := rfl
theorem hm_89 : mr 89 = (⟨"java/lang/Integer", "bitCount", "(I)I"⟩, prog_10_method_49_code, 1, (some .int), 9) := rfl
theorem hc_89 : (mr 89).2.2.2.2 = 9 := rfl
theorem hm_90 : mr 90 = (⟨"ClawCranesLaw", "cell", "([II)I"⟩, method_2_code, 2, (some .int), 8) := rfl
theorem hc_90 : (mr 90).2.2.2.2 = 8 := rfl
theorem hm_91 : mr 91 = (⟨"ClawCranesLaw", "seen", "(LClawCranes;)J"⟩, method_3_code, 4, (some .long), 8) := rfl
theorem hc_91 : (mr 91).2.2.2.2 = 8 := rfl
theorem hm_92 : mr 92 = (⟨"ClawCranesLaw", "arePrizes", "(LClawCranes;)Z"⟩, method_4_code, 13, (some .boolean), 8) := rfl
theorem hc_92 : (mr 92).2.2.2.2 = 8 := rfl
theorem hm_93 : mr 93 = (⟨"ClawCranesLaw", "isFirst", "(LClawCranes;II)Z"⟩, method_5_code, 9, (some .boolean), 8) := rfl
theorem hc_93 : (mr 93).2.2.2.2 = 8 := rfl
theorem hm_94 : mr 94 = (⟨"ClawCranesLaw", "areCoins", "(LClawCranes;)Z"⟩, method_6_code, 3, (some .boolean), 8) := rfl
theorem hc_94 : (mr 94).2.2.2.2 = 8 := rfl
theorem hm_95 : mr 95 = (⟨"ClawCranesLaw", "refusesAny", "(LClawCranes;I)Z"⟩, method_7_code, 6, (some .boolean), 8) := rfl
theorem hc_95 : (mr 95).2.2.2.2 = 8 := rfl
theorem hm_96 : mr 96 = (⟨"ClawCranesLaw", "refuses", "(LClawCranes;I)Z"⟩, method_8_code, 5, (some .boolean), 8) := rfl
theorem hc_96 : (mr 96).2.2.2.2 = 8 := rfl
theorem hm_97 : mr 97 = (⟨"ClawCranesLaw", "play", "(LClawCranes;II)I"⟩, method_9_code, 15, (some .int), 8) := rfl
theorem hc_97 : (mr 97).2.2.2.2 = 8 := rfl
theorem hm_98 : mr 98 = (⟨"ClawCranesLaw", "act", "(LClawCranes;I)I"⟩, method_10_code, 9, (some .int), 8) := rfl
theorem hc_98 : (mr 98).2.2.2.2 = 8 := rfl
theorem rF_0_9 : rF 0 9 = some (0, 0, false) := by decide +kernel
theorem rF_0_18 : rF 0 18 = some (0, 1, false) := by decide +kernel
theorem rF_0_25 : rF 0 25 = some (0, 2, false) := by decide +kernel
theorem rF_0_32 : rF 0 32 = some (0, 3, false) := by decide +kernel
theorem rF_0_55 : rF 0 55 = some (0, 4, false) := by decide +kernel
theorem rF_0_59 : rF 0 59 = some (0, 5, false) := by decide +kernel
theorem rF_0_62 : rF 0 62 = some (0, 6, false) := by decide +kernel
theorem rF_0_65 : rF 0 65 = some (0, 7, false) := by decide +kernel
theorem rF_0_68 : rF 0 68 = some (0, 8, false) := by decide +kernel
theorem rF_0_71 : rF 0 71 = some (0, 9, false) := by decide +kernel
theorem rF_0_74 : rF 0 74 = some (0, 10, false) := by decide +kernel
theorem rF_0_83 : rF 0 83 = some (5, 5, true) := by decide +kernel
theorem rF_0_98 : rF 0 98 = some (4, 1, true) := by decide +kernel
theorem rF_0_134 : rF 0 134 = some (5, 4, true) := by decide +kernel
theorem rF_0_148 : rF 0 148 = some (5, 3, true) := by decide +kernel
theorem rF_0_166 : rF 0 166 = some (5, 0, true) := by decide +kernel
theorem rF_0_169 : rF 0 169 = some (5, 1, true) := by decide +kernel
theorem rF_1_9 : rF 1 9 = some (1, 0, false) := by decide +kernel
theorem rF_1_21 : rF 1 21 = some (1, 1, false) := by decide +kernel
theorem rF_1_25 : rF 1 25 = some (1, 2, false) := by decide +kernel
theorem rF_2_11 : rF 2 11 = some (2, 0, false) := by decide +kernel
theorem rF_2_18 : rF 2 18 = some (2, 2, false) := by decide +kernel
theorem rF_2_26 : rF 2 26 = some (2, 1, false) := by decide +kernel
theorem rF_3_9 : rF 3 9 = some (3, 0, false) := by decide +kernel
theorem rF_3_21 : rF 3 21 = some (3, 1, false) := by decide +kernel
theorem rF_3_25 : rF 3 25 = some (3, 2, false) := by decide +kernel
theorem rF_3_28 : rF 3 28 = some (3, 3, false) := by decide +kernel
theorem rF_3_47 : rF 3 47 = some (3, 4, false) := by decide +kernel
theorem rF_3_65 : rF 3 65 = some (3, 5, false) := by decide +kernel
theorem rF_3_71 : rF 3 71 = some (3, 6, false) := by decide +kernel
theorem rF_3_77 : rF 3 77 = some (3, 7, false) := by decide +kernel
theorem rF_4_9 : rF 4 9 = some (4, 0, false) := by decide +kernel
theorem rF_4_15 : rF 4 15 = some (4, 1, false) := by decide +kernel
theorem rF_5_9 : rF 5 9 = some (5, 0, false) := by decide +kernel
theorem rF_5_15 : rF 5 15 = some (5, 1, false) := by decide +kernel
theorem rF_5_18 : rF 5 18 = some (5, 2, false) := by decide +kernel
theorem rF_5_21 : rF 5 21 = some (5, 3, false) := by decide +kernel
theorem rF_5_24 : rF 5 24 = some (5, 4, false) := by decide +kernel
theorem rF_5_33 : rF 5 33 = some (5, 5, false) := by decide +kernel
theorem rF_5_37 : rF 5 37 = some (5, 6, false) := by decide +kernel
theorem rF_6_10 : rF 6 10 = some (6, 0, false) := by decide +kernel
theorem rF_6_16 : rF 6 16 = some (6, 1, false) := by decide +kernel
theorem rF_6_20 : rF 6 20 = some (6, 2, false) := by decide +kernel
theorem rF_6_27 : rF 6 27 = some (6, 3, false) := by decide +kernel
theorem rF_6_34 : rF 6 34 = some (6, 4, false) := by decide +kernel
theorem rF_6_66 : rF 6 66 = some (0, 1, true) := by decide +kernel
theorem rF_6_70 : rF 6 70 = some (5, 5, true) := by decide +kernel
theorem rF_6_76 : rF 6 76 = some (5, 0, true) := by decide +kernel
theorem rF_6_80 : rF 6 80 = some (5, 1, true) := by decide +kernel
theorem rF_6_83 : rF 6 83 = some (5, 2, true) := by decide +kernel
theorem rF_6_86 : rF 6 86 = some (5, 3, true) := by decide +kernel
theorem rF_6_89 : rF 6 89 = some (0, 2, true) := by decide +kernel
theorem rF_6_98 : rF 6 98 = some (5, 4, true) := by decide +kernel
theorem rF_6_108 : rF 6 108 = some (0, 3, true) := by decide +kernel
theorem rF_6_112 : rF 6 112 = some (1, 1, true) := by decide +kernel
theorem rF_6_126 : rF 6 126 = some (0, 0, true) := by decide +kernel
theorem rF_6_129 : rF 6 129 = some (0, 4, true) := by decide +kernel
theorem rF_6_132 : rF 6 132 = some (0, 5, true) := by decide +kernel
theorem rF_6_135 : rF 6 135 = some (0, 6, true) := by decide +kernel
theorem rF_6_138 : rF 6 138 = some (0, 7, true) := by decide +kernel
theorem rF_6_141 : rF 6 141 = some (0, 8, true) := by decide +kernel
theorem rF_6_152 : rF 6 152 = some (0, 9, true) := by decide +kernel
theorem rF_6_162 : rF 6 162 = some (0, 10, true) := by decide +kernel
theorem rF_6_165 : rF 6 165 = some (3, 1, true) := by decide +kernel
theorem rF_6_168 : rF 6 168 = some (2, 1, true) := by decide +kernel
theorem rF_6_211 : rF 6 211 = some (3, 4, true) := by decide +kernel
theorem rF_6_214 : rF 6 214 = some (3, 5, true) := by decide +kernel
theorem rF_6_217 : rF 6 217 = some (3, 6, true) := by decide +kernel
theorem rF_6_220 : rF 6 220 = some (3, 7, true) := by decide +kernel
theorem rM_0_3 : rM 0 3 = some (0, 9, 1) := by decide +kernel
theorem rM_0_17 : rM 0 17 = some (51, 3, 1) := by decide +kernel
theorem rM_0_24 : rM 0 24 = some (39, 3, 1) := by decide +kernel
theorem rM_0_31 : rM 0 31 = some (17, 3, 1) := by decide +kernel
theorem rM_0_39 : rM 0 39 = some (0, 10, 5) := by decide +kernel
theorem rM_0_45 : rM 0 45 = some (52, 5, 2) := by decide +kernel
theorem rM_0_49 : rM 0 49 = some (40, 5, 2) := by decide +kernel
theorem rM_0_52 : rM 0 52 = some (18, 5, 2) := by decide +kernel
theorem rM_0_86 : rM 0 86 = some (53, 5, 4) := by decide +kernel
theorem rM_0_90 : rM 0 90 = some (87, 1, 1) := by decide +kernel
theorem rM_0_94 : rM 0 94 = some (54, 5, 1) := by decide +kernel
theorem rM_0_101 : rM 0 101 = some (55, 5, 1) := by decide +kernel
theorem rM_0_105 : rM 0 105 = some (44, 5, 3) := by decide +kernel
theorem rM_0_109 : rM 0 109 = some (88, 1, 2) := by decide +kernel
theorem rM_0_113 : rM 0 113 = some (7, 4, 3) := by decide +kernel
theorem rM_0_116 : rM 0 116 = some (11, 4, 3) := by decide +kernel
theorem rM_0_119 : rM 0 119 = some (42, 5, 2) := by decide +kernel
theorem rM_0_123 : rM 0 123 = some (13, 4, 1) := by decide +kernel
theorem rM_0_126 : rM 0 126 = some (8, 4, 2) := by decide +kernel
theorem rM_0_130 : rM 0 130 = some (19, 5, 5) := by decide +kernel
theorem rM_0_137 : rM 0 137 = some (9, 4, 4) := by decide +kernel
theorem rM_0_141 : rM 0 141 = some (10, 4, 1) := by decide +kernel
theorem rM_0_144 : rM 0 144 = some (45, 5, 2) := by decide +kernel
theorem rM_0_151 : rM 0 151 = some (49, 5, 2) := by decide +kernel
theorem rM_0_154 : rM 0 154 = some (46, 5, 1) := by decide +kernel
theorem rM_0_157 : rM 0 157 = some (47, 5, 1) := by decide +kernel
theorem rM_0_160 : rM 0 160 = some (12, 4, 2) := by decide +kernel
theorem rM_0_163 : rM 0 163 = some (14, 4, 3) := by decide +kernel
theorem rM_0_172 : rM 0 172 = some (0, 11, 2) := by decide +kernel
theorem rM_0_180 : rM 0 180 = some (15, 4, 1) := by decide +kernel
theorem rM_1_3 : rM 1 3 = some (0, 9, 1) := by decide +kernel
theorem rM_1_15 : rM 1 15 = some (0, 10, 5) := by decide +kernel
theorem rM_1_28 : rM 1 28 = some (0, 12, 2) := by decide +kernel
theorem rM_2_3 : rM 2 3 = some (0, 9, 1) := by decide +kernel
theorem rM_2_17 : rM 2 17 = some (0, 3, 1) := by decide +kernel
theorem rM_2_22 : rM 2 22 = some (1, 5, 2) := by decide +kernel
theorem rM_2_29 : rM 2 29 = some (0, 12, 2) := by decide +kernel
theorem rM_3_3 : rM 3 3 = some (0, 9, 1) := by decide +kernel
theorem rM_3_32 : rM 3 32 = some (26, 4, 1) := by decide +kernel
theorem rM_3_35 : rM 3 35 = some (28, 4, 1) := by decide +kernel
theorem rM_3_39 : rM 3 39 = some (37, 4, 2) := by decide +kernel
theorem rM_3_43 : rM 3 43 = some (38, 4, 1) := by decide +kernel
theorem rM_3_50 : rM 3 50 = some (29, 4, 1) := by decide +kernel
theorem rM_3_53 : rM 3 53 = some (30, 4, 1) := by decide +kernel
theorem rM_3_56 : rM 3 56 = some (31, 4, 1) := by decide +kernel
theorem rM_3_59 : rM 3 59 = some (32, 4, 1) := by decide +kernel
theorem rM_3_62 : rM 3 62 = some (34, 4, 1) := by decide +kernel
theorem rM_3_68 : rM 3 68 = some (35, 4, 1) := by decide +kernel
theorem rM_3_74 : rM 3 74 = some (33, 4, 1) := by decide +kernel
theorem rM_3_80 : rM 3 80 = some (36, 0, 1) := by decide +kernel
theorem rM_4_3 : rM 4 3 = some (0, 9, 1) := by decide +kernel
theorem rM_4_18 : rM 4 18 = some (0, 10, 5) := by decide +kernel
theorem rM_4_24 : rM 4 24 = some (41, 4, 3) := by decide +kernel
theorem rM_4_28 : rM 4 28 = some (50, 4, 2) := by decide +kernel
theorem rM_4_32 : rM 4 32 = some (0, 12, 2) := by decide +kernel
theorem rM_5_3 : rM 5 3 = some (0, 9, 1) := by decide +kernel
theorem rM_5_27 : rM 5 27 = some (0, 10, 5) := by decide +kernel
theorem rM_5_40 : rM 5 40 = some (60, 4, 2) := by decide +kernel
theorem rM_5_44 : rM 5 44 = some (61, 4, 3) := by decide +kernel
theorem rM_6_1 : rM 6 1 = some (0, 9, 1) := by decide +kernel
theorem rM_6_9 : rM 6 9 = some (0, 3, 1) := by decide +kernel
theorem rM_6_26 : rM 6 26 = some (21, 3, 1) := by decide +kernel
theorem rM_6_33 : rM 6 33 = some (25, 3, 1) := by decide +kernel
theorem rM_6_38 : rM 6 38 = some (22, 5, 2) := by decide +kernel
theorem rM_6_42 : rM 6 42 = some (2, 5, 3) := by decide +kernel
theorem rM_6_46 : rM 6 46 = some (68, 4, 2) := by decide +kernel
theorem rM_6_50 : rM 6 50 = some (3, 5, 4) := by decide +kernel
theorem rM_6_54 : rM 6 54 = some (4, 5, 2) := by decide +kernel
theorem rM_6_57 : rM 6 57 = some (5, 5, 2) := by decide +kernel
theorem rM_6_60 : rM 6 60 = some (6, 5, 3) := by decide +kernel
theorem rM_6_63 : rM 6 63 = some (23, 5, 1) := by decide +kernel
theorem rM_6_93 : rM 6 93 = some (43, 5, 2) := by decide +kernel
theorem rM_6_101 : rM 6 101 = some (87, 0, 1) := by decide +kernel
theorem rM_6_105 : rM 6 105 = some (41, 5, 3) := by decide +kernel
theorem rM_6_117 : rM 6 117 = some (20, 5, 3) := by decide +kernel
theorem rM_6_120 : rM 6 120 = some (59, 5, 2) := by decide +kernel
theorem rM_6_123 : rM 6 123 = some (58, 5, 2) := by decide +kernel
theorem rM_6_144 : rM 6 144 = some (56, 5, 2) := by decide +kernel
theorem rM_6_147 : rM 6 147 = some (89, 0, 1) := by decide +kernel
theorem rM_6_155 : rM 6 155 = some (57, 5, 1) := by decide +kernel
theorem rM_6_159 : rM 6 159 = some (48, 5, 1) := by decide +kernel
theorem rM_6_169 : rM 6 169 = some (88, 0, 2) := by decide +kernel
theorem rM_6_172 : rM 6 172 = some (11, 5, 3) := by decide +kernel
theorem rM_6_175 : rM 6 175 = some (42, 5, 2) := by decide +kernel
theorem rM_6_178 : rM 6 178 = some (14, 5, 3) := by decide +kernel
theorem rM_6_181 : rM 6 181 = some (15, 5, 1) := by decide +kernel
theorem rM_6_187 : rM 6 187 = some (16, 5, 2) := by decide +kernel
theorem rM_6_198 : rM 6 198 = some (27, 5, 1) := by decide +kernel
theorem rM_6_201 : rM 6 201 = some (26, 5, 1) := by decide +kernel
theorem rM_6_204 : rM 6 204 = some (28, 5, 1) := by decide +kernel
theorem rM_6_208 : rM 6 208 = some (82, 4, 1) := by decide +kernel
theorem rM_6_223 : rM 6 223 = some (24, 5, 2) := by decide +kernel
theorem rM_6_226 : rM 6 226 = some (86, 0, 1) := by decide +kernel
theorem rM_6_229 : rM 6 229 = some (1, 5, 2) := by decide +kernel
theorem rM_8_14 : rM 8 14 = some (74, 4, 2) := by decide +kernel
theorem rM_8_20 : rM 8 20 = some (69, 4, 3) := by decide +kernel
theorem rM_8_24 : rM 8 24 = some (71, 4, 3) := by decide +kernel
theorem rM_8_29 : rM 8 29 = some (70, 4, 3) := by decide +kernel
theorem rM_8_32 : rM 8 32 = some (76, 4, 3) := by decide +kernel
theorem rM_8_35 : rM 8 35 = some (73, 4, 2) := by decide +kernel
theorem rM_8_38 : rM 8 38 = some (72, 4, 2) := by decide +kernel
theorem rM_8_41 : rM 8 41 = some (93, 0, 3) := by decide +kernel
theorem rM_8_45 : rM 8 45 = some (77, 4, 1) := by decide +kernel
theorem rM_8_49 : rM 8 49 = some (63, 4, 3) := by decide +kernel
theorem rM_8_52 : rM 8 52 = some (64, 4, 4) := by decide +kernel
theorem rM_8_56 : rM 8 56 = some (65, 4, 2) := by decide +kernel
theorem rM_8_59 : rM 8 59 = some (66, 4, 2) := by decide +kernel
theorem rM_8_62 : rM 8 62 = some (67, 4, 3) := by decide +kernel
theorem rM_8_65 : rM 8 65 = some (75, 4, 3) := by decide +kernel
theorem rM_8_68 : rM 8 68 = some (78, 4, 2) := by decide +kernel
theorem rM_8_71 : rM 8 71 = some (84, 4, 2) := by decide +kernel
theorem rM_8_74 : rM 8 74 = some (85, 4, 2) := by decide +kernel
theorem rM_8_77 : rM 8 77 = some (79, 4, 1) := by decide +kernel
theorem rM_8_80 : rM 8 80 = some (81, 4, 1) := by decide +kernel
theorem rM_8_83 : rM 8 83 = some (80, 4, 1) := by decide +kernel
theorem rM_8_86 : rM 8 86 = some (91, 0, 1) := by decide +kernel
theorem rM_8_90 : rM 8 90 = some (95, 0, 2) := by decide +kernel
theorem rM_8_94 : rM 8 94 = some (97, 0, 3) := by decide +kernel
theorem rM_8_97 : rM 8 97 = some (62, 2, 1) := by decide +kernel
theorem rM_8_98 : rM 8 98 = some (83, 4, 1) := by decide +kernel
theorem rM_8_101 : rM 8 101 = some (96, 0, 2) := by decide +kernel
theorem rM_8_104 : rM 8 104 = some (90, 0, 2) := by decide +kernel
theorem rM_8_108 : rM 8 108 = some (98, 0, 2) := by decide +kernel
theorem rM_8_112 : rM 8 112 = some (94, 0, 1) := by decide +kernel
theorem rM_8_116 : rM 8 116 = some (92, 0, 1) := by decide +kernel
theorem rS_0_36 : rS 0 36 = some (1, true) := by decide +kernel
theorem rS_0_77 : rS 0 77 = some (2, true) := by decide +kernel
theorem rS_0_80 : rS 0 80 = some (3, true) := by decide +kernel
theorem rC_0_15 : rC 0 15 = some 5 := by decide +kernel
theorem rC_0_22 : rC 0 22 = some 4 := by decide +kernel
theorem rC_0_29 : rC 0 29 = some 1 := by decide +kernel
theorem rC_2_9 : rC 2 9 = some 0 := by decide +kernel
theorem rC_6_7 : rC 6 7 = some 0 := by decide +kernel
theorem rC_6_24 : rC 6 24 = some 2 := by decide +kernel
theorem rC_6_31 : rC 6 31 = some 3 := by decide +kernel
theorem rC_8_15 : rC 8 15 = some 6 := by decide +kernel
theorem rI_8_7 : rI 8 7 = some 1322822219 := by decide +kernel
theorem rI_8_8 : rI 8 8 = some 65003 := by decide +kernel
theorem rI_8_9 : rI 8 9 = some 2147483647 := by decide +kernel
theorem rJ_8_10 : rJ 8 10 = some 173 := by decide +kernel
theorem rJ_8_12 : rJ 8 12 = some 31 := by decide +kernel
theorem rI_9_265 : rI 9 265 = some 1431655765 := by decide +kernel
theorem rI_9_266 : rI 9 266 = some 858993459 := by decide +kernel
theorem rI_9_267 : rI 9 267 = some 252645135 := by decide +kernel
theorem ft_0_0 : ftC 0 0 = .array .int := rfl
theorem fn_0_0 : fnC 0 0 = true := rfl
theorem ft_0_1 : ftC 0 1 = .object "ClawCranes$Prizes" := rfl
theorem fn_0_1 : fnC 0 1 = true := rfl
theorem ft_0_2 : ftC 0 2 = .object "ClawCranes$Pit" := rfl
theorem fn_0_2 : fnC 0 2 = true := rfl
theorem ft_0_3 : ftC 0 3 = .object "ClawCranes$Diary" := rfl
theorem fn_0_3 : fnC 0 3 = true := rfl
theorem ft_0_4 : ftC 0 4 = .int := rfl
theorem fn_0_4 : fnC 0 4 = false := rfl
theorem ft_0_5 : ftC 0 5 = .int := rfl
theorem fn_0_5 : fnC 0 5 = false := rfl
theorem ft_0_6 : ftC 0 6 = .int := rfl
theorem fn_0_6 : fnC 0 6 = false := rfl
theorem ft_0_7 : ftC 0 7 = .int := rfl
theorem fn_0_7 : fnC 0 7 = false := rfl
theorem ft_0_8 : ftC 0 8 = .int := rfl
theorem fn_0_8 : fnC 0 8 = false := rfl
theorem ft_0_9 : ftC 0 9 = .int := rfl
theorem fn_0_9 : fnC 0 9 = false := rfl
theorem ft_0_10 : ftC 0 10 = .int := rfl
theorem fn_0_10 : fnC 0 10 = false := rfl
theorem ft_1_0 : ftC 1 0 = .array .int := rfl
theorem fn_1_0 : fnC 1 0 = true := rfl
theorem ft_1_1 : ftC 1 1 = .int := rfl
theorem fn_1_1 : fnC 1 1 = false := rfl
theorem ft_1_2 : ftC 1 2 = .int := rfl
theorem fn_1_2 : fnC 1 2 = false := rfl
theorem ft_2_0 : ftC 2 0 = .array (.object "ClawCranes$Crane") := rfl
theorem fn_2_0 : fnC 2 0 = true := rfl
theorem ft_2_1 : ftC 2 1 = .int := rfl
theorem fn_2_1 : fnC 2 1 = false := rfl
theorem ft_2_2 : ftC 2 2 = .int := rfl
theorem fn_2_2 : fnC 2 2 = false := rfl
theorem ft_3_0 : ftC 3 0 = .array .char := rfl
theorem fn_3_0 : fnC 3 0 = true := rfl
theorem ft_3_1 : ftC 3 1 = .int := rfl
theorem fn_3_1 : fnC 3 1 = false := rfl
theorem ft_3_2 : ftC 3 2 = .int := rfl
theorem fn_3_2 : fnC 3 2 = false := rfl
theorem ft_3_3 : ftC 3 3 = .boolean := rfl
theorem fn_3_3 : fnC 3 3 = false := rfl
theorem ft_3_4 : ftC 3 4 = .int := rfl
theorem fn_3_4 : fnC 3 4 = false := rfl
theorem ft_3_5 : ftC 3 5 = .int := rfl
theorem fn_3_5 : fnC 3 5 = false := rfl
theorem ft_3_6 : ftC 3 6 = .int := rfl
theorem fn_3_6 : fnC 3 6 = false := rfl
theorem ft_3_7 : ftC 3 7 = .int := rfl
theorem fn_3_7 : fnC 3 7 = false := rfl
theorem ft_4_0 : ftC 4 0 = .array .int := rfl
theorem fn_4_0 : fnC 4 0 = true := rfl
theorem ft_4_1 : ftC 4 1 = .array .int := rfl
theorem fn_4_1 : fnC 4 1 = true := rfl
theorem ft_5_0 : ftC 5 0 = .array .int := rfl
theorem fn_5_0 : fnC 5 0 = true := rfl
theorem ft_5_1 : ftC 5 1 = .array .int := rfl
theorem fn_5_1 : fnC 5 1 = true := rfl
theorem ft_5_2 : ftC 5 2 = .array .int := rfl
theorem fn_5_2 : fnC 5 2 = true := rfl
theorem ft_5_3 : ftC 5 3 = .array .int := rfl
theorem fn_5_3 : fnC 5 3 = true := rfl
theorem ft_5_4 : ftC 5 4 = .array .int := rfl
theorem fn_5_4 : fnC 5 4 = true := rfl
theorem ft_5_5 : ftC 5 5 = .int := rfl
theorem fn_5_5 : fnC 5 5 = false := rfl
theorem ft_5_6 : ftC 5 6 = .int := rfl
theorem fn_5_6 : fnC 5 6 = false := rfl
theorem ft_6_0 : ftC 6 0 = .object "ClawCranes$Crane" := rfl
theorem fn_6_0 : fnC 6 0 = true := rfl
theorem ft_6_1 : ftC 6 1 = .array (.object "ClawCranes$Crane") := rfl
theorem fn_6_1 : fnC 6 1 = true := rfl
theorem ft_6_2 : ftC 6 2 = .array .boolean := rfl
theorem fn_6_2 : fnC 6 2 = true := rfl
theorem ft_6_3 : ftC 6 3 = .object "ClawCranes$History" := rfl
theorem fn_6_3 : fnC 6 3 = true := rfl
theorem ft_6_4 : ftC 6 4 = .object "ClawCranes$Pad" := rfl
theorem fn_6_4 : fnC 6 4 = true := rfl
theorem lg_0 {x0 : Value} {l : List Value} : (x0 :: l)[0]? = some x0 := rfl
theorem lg_1 {x0 x1 : Value} {l : List Value} : (x0 :: x1 :: l)[1]? = some x1 := rfl
theorem lg_2 {x0 x1 x2 : Value} {l : List Value} : (x0 :: x1 :: x2 :: l)[2]? = some x2 := rfl
theorem lg_3 {x0 x1 x2 x3 : Value} {l : List Value} : (x0 :: x1 :: x2 :: x3 :: l)[3]? = some x3 := rfl
theorem lg_4 {x0 x1 x2 x3 x4 : Value} {l : List Value} : (x0 :: x1 :: x2 :: x3 :: x4 :: l)[4]? = some x4 := rfl
theorem lg_5 {x0 x1 x2 x3 x4 x5 : Value} {l : List Value} : (x0 :: x1 :: x2 :: x3 :: x4 :: x5 :: l)[5]? = some x5 := rfl
theorem lg_6 {x0 x1 x2 x3 x4 x5 x6 : Value} {l : List Value} : (x0 :: x1 :: x2 :: x3 :: x4 :: x5 :: x6 :: l)[6]? = some x6 := rfl
theorem lg_7 {x0 x1 x2 x3 x4 x5 x6 x7 : Value} {l : List Value} : (x0 :: x1 :: x2 :: x3 :: x4 :: x5 :: x6 :: x7 :: l)[7]? = some x7 := rfl
theorem ls_0 {x0 v : Value} {l : List Value} : (x0 :: l).set 0 v = v :: l := rfl
theorem ls_1 {x0 x1 v : Value} {l : List Value} : (x0 :: x1 :: l).set 1 v = x0 :: v :: l := rfl
theorem ls_2 {x0 x1 x2 v : Value} {l : List Value} : (x0 :: x1 :: x2 :: l).set 2 v = x0 :: x1 :: v :: l := rfl
theorem ls_3 {x0 x1 x2 x3 v : Value} {l : List Value} : (x0 :: x1 :: x2 :: x3 :: l).set 3 v = x0 :: x1 :: x2 :: v :: l := rfl
theorem ls_4 {x0 x1 x2 x3 x4 v : Value} {l : List Value} : (x0 :: x1 :: x2 :: x3 :: x4 :: l).set 4 v = x0 :: x1 :: x2 :: x3 :: v :: l := rfl
theorem ls_5 {x0 x1 x2 x3 x4 x5 v : Value} {l : List Value} : (x0 :: x1 :: x2 :: x3 :: x4 :: x5 :: l).set 5 v = x0 :: x1 :: x2 :: x3 :: x4 :: v :: l := rfl
theorem ls_6 {x0 x1 x2 x3 x4 x5 x6 v : Value} {l : List Value} : (x0 :: x1 :: x2 :: x3 :: x4 :: x5 :: x6 :: l).set 6 v = x0 :: x1 :: x2 :: x3 :: x4 :: x5 :: v :: l := rfl
theorem ls_7 {x0 x1 x2 x3 x4 x5 x6 x7 v : Value} {l : List Value} : (x0 :: x1 :: x2 :: x3 :: x4 :: x5 :: x6 :: x7 :: l).set 7 v = x0 :: x1 :: x2 :: x3 :: x4 :: x5 :: x6 :: v :: l := rfl
theorem lg_8 {x0 x1 x2 x3 x4 x5 x6 x7 x8 : Value} {l : List Value} : (x0 :: x1 :: x2 :: x3 :: x4 :: x5 :: x6 :: x7 :: x8 :: l)[8]? = some x8 := rfl
theorem ls_8 {x0 x1 x2 x3 x4 x5 x6 x7 x8 v : Value} {l : List Value} : (x0 :: x1 :: x2 :: x3 :: x4 :: x5 :: x6 :: x7 :: x8 :: l).set 8 v = x0 :: x1 :: x2 :: x3 :: x4 :: x5 :: x6 :: x7 :: v :: l := rfl
theorem lg_9 {x0 x1 x2 x3 x4 x5 x6 x7 x8 x9 : Value} {l : List Value} : (x0 :: x1 :: x2 :: x3 :: x4 :: x5 :: x6 :: x7 :: x8 :: x9 :: l)[9]? = some x9 := rfl
theorem ls_9 {x0 x1 x2 x3 x4 x5 x6 x7 x8 x9 v : Value} {l : List Value} : (x0 :: x1 :: x2 :: x3 :: x4 :: x5 :: x6 :: x7 :: x8 :: x9 :: l).set 9 v = x0 :: x1 :: x2 :: x3 :: x4 :: x5 :: x6 :: x7 :: x8 :: v :: l := rfl
theorem lg_10 {x0 x1 x2 x3 x4 x5 x6 x7 x8 x9 x10 : Value} {l : List Value} : (x0 :: x1 :: x2 :: x3 :: x4 :: x5 :: x6 :: x7 :: x8 :: x9 :: x10 :: l)[10]? = some x10 := rfl
theorem ls_10 {x0 x1 x2 x3 x4 x5 x6 x7 x8 x9 x10 v : Value} {l : List Value} : (x0 :: x1 :: x2 :: x3 :: x4 :: x5 :: x6 :: x7 :: x8 :: x9 :: x10 :: l).set 10 v = x0 :: x1 :: x2 :: x3 :: x4 :: x5 :: x6 :: x7 :: x8 :: x9 :: v :: l := rfl
theorem lg_11 {x0 x1 x2 x3 x4 x5 x6 x7 x8 x9 x10 x11 : Value} {l : List Value} : (x0 :: x1 :: x2 :: x3 :: x4 :: x5 :: x6 :: x7 :: x8 :: x9 :: x10 :: x11 :: l)[11]? = some x11 := rfl
theorem ls_11 {x0 x1 x2 x3 x4 x5 x6 x7 x8 x9 x10 x11 v : Value} {l : List Value} : (x0 :: x1 :: x2 :: x3 :: x4 :: x5 :: x6 :: x7 :: x8 :: x9 :: x10 :: x11 :: l).set 11 v = x0 :: x1 :: x2 :: x3 :: x4 :: x5 :: x6 :: x7 :: x8 :: x9 :: x10 :: v :: l := rfl
theorem lg_12 {x0 x1 x2 x3 x4 x5 x6 x7 x8 x9 x10 x11 x12 : Value} {l : List Value} : (x0 :: x1 :: x2 :: x3 :: x4 :: x5 :: x6 :: x7 :: x8 :: x9 :: x10 :: x11 :: x12 :: l)[12]? = some x12 := rfl
theorem ls_12 {x0 x1 x2 x3 x4 x5 x6 x7 x8 x9 x10 x11 x12 v : Value} {l : List Value} : (x0 :: x1 :: x2 :: x3 :: x4 :: x5 :: x6 :: x7 :: x8 :: x9 :: x10 :: x11 :: x12 :: l).set 12 v = x0 :: x1 :: x2 :: x3 :: x4 :: x5 :: x6 :: x7 :: x8 :: x9 :: x10 :: x11 :: v :: l := rfl
theorem lg_13 {x0 x1 x2 x3 x4 x5 x6 x7 x8 x9 x10 x11 x12 x13 : Value} {l : List Value} : (x0 :: x1 :: x2 :: x3 :: x4 :: x5 :: x6 :: x7 :: x8 :: x9 :: x10 :: x11 :: x12 :: x13 :: l)[13]? = some x13 := rfl
theorem ls_13 {x0 x1 x2 x3 x4 x5 x6 x7 x8 x9 x10 x11 x12 x13 v : Value} {l : List Value} : (x0 :: x1 :: x2 :: x3 :: x4 :: x5 :: x6 :: x7 :: x8 :: x9 :: x10 :: x11 :: x12 :: x13 :: l).set 13 v = x0 :: x1 :: x2 :: x3 :: x4 :: x5 :: x6 :: x7 :: x8 :: x9 :: x10 :: x11 :: x12 :: v :: l := rfl
theorem lg_14 {x0 x1 x2 x3 x4 x5 x6 x7 x8 x9 x10 x11 x12 x13 x14 : Value} {l : List Value} : (x0 :: x1 :: x2 :: x3 :: x4 :: x5 :: x6 :: x7 :: x8 :: x9 :: x10 :: x11 :: x12 :: x13 :: x14 :: l)[14]? = some x14 := rfl
theorem ls_14 {x0 x1 x2 x3 x4 x5 x6 x7 x8 x9 x10 x11 x12 x13 x14 v : Value} {l : List Value} : (x0 :: x1 :: x2 :: x3 :: x4 :: x5 :: x6 :: x7 :: x8 :: x9 :: x10 :: x11 :: x12 :: x13 :: x14 :: l).set 14 v = x0 :: x1 :: x2 :: x3 :: x4 :: x5 :: x6 :: x7 :: x8 :: x9 :: x10 :: x11 :: x12 :: x13 :: v :: l := rfl
theorem lg_15 {x0 x1 x2 x3 x4 x5 x6 x7 x8 x9 x10 x11 x12 x13 x14 x15 : Value} {l : List Value} : (x0 :: x1 :: x2 :: x3 :: x4 :: x5 :: x6 :: x7 :: x8 :: x9 :: x10 :: x11 :: x12 :: x13 :: x14 :: x15 :: l)[15]? = some x15 := rfl
theorem ls_15 {x0 x1 x2 x3 x4 x5 x6 x7 x8 x9 x10 x11 x12 x13 x14 x15 v : Value} {l : List Value} : (x0 :: x1 :: x2 :: x3 :: x4 :: x5 :: x6 :: x7 :: x8 :: x9 :: x10 :: x11 :: x12 :: x13 :: x14 :: x15 :: l).set 15 v = x0 :: x1 :: x2 :: x3 :: x4 :: x5 :: x6 :: x7 :: x8 :: x9 :: x10 :: x11 :: x12 :: x13 :: x14 :: v :: l := rfl
theorem lg_16 {x0 x1 x2 x3 x4 x5 x6 x7 x8 x9 x10 x11 x12 x13 x14 x15 x16 : Value} {l : List Value} : (x0 :: x1 :: x2 :: x3 :: x4 :: x5 :: x6 :: x7 :: x8 :: x9 :: x10 :: x11 :: x12 :: x13 :: x14 :: x15 :: x16 :: l)[16]? = some x16 := rfl
theorem ls_16 {x0 x1 x2 x3 x4 x5 x6 x7 x8 x9 x10 x11 x12 x13 x14 x15 x16 v : Value} {l : List Value} : (x0 :: x1 :: x2 :: x3 :: x4 :: x5 :: x6 :: x7 :: x8 :: x9 :: x10 :: x11 :: x12 :: x13 :: x14 :: x15 :: x16 :: l).set 16 v = x0 :: x1 :: x2 :: x3 :: x4 :: x5 :: x6 :: x7 :: x8 :: x9 :: x10 :: x11 :: x12 :: x13 :: x14 :: x15 :: v :: l := rfl
theorem st_0 {x0 v : Value} {l : List Value} : sto 0 v (x0 :: l) = v :: l := rfl
theorem st_1 {x0 x1 v : Value} {l : List Value} : sto 1 v (x0 :: x1 :: l) = clr x0 :: v :: l := rfl
theorem st_2 {x0 x1 x2 v : Value} {l : List Value} : sto 2 v (x0 :: x1 :: x2 :: l) = x0 :: clr x1 :: v :: l := rfl
theorem st_3 {x0 x1 x2 x3 v : Value} {l : List Value} : sto 3 v (x0 :: x1 :: x2 :: x3 :: l) = x0 :: x1 :: clr x2 :: v :: l := rfl
theorem st_4 {x0 x1 x2 x3 x4 v : Value} {l : List Value} : sto 4 v (x0 :: x1 :: x2 :: x3 :: x4 :: l) = x0 :: x1 :: x2 :: clr x3 :: v :: l := rfl
theorem st_5 {x0 x1 x2 x3 x4 x5 v : Value} {l : List Value} : sto 5 v (x0 :: x1 :: x2 :: x3 :: x4 :: x5 :: l) = x0 :: x1 :: x2 :: x3 :: clr x4 :: v :: l := rfl
theorem st_6 {x0 x1 x2 x3 x4 x5 x6 v : Value} {l : List Value} : sto 6 v (x0 :: x1 :: x2 :: x3 :: x4 :: x5 :: x6 :: l) = x0 :: x1 :: x2 :: x3 :: x4 :: clr x5 :: v :: l := rfl
theorem st_7 {x0 x1 x2 x3 x4 x5 x6 x7 v : Value} {l : List Value} : sto 7 v (x0 :: x1 :: x2 :: x3 :: x4 :: x5 :: x6 :: x7 :: l) = x0 :: x1 :: x2 :: x3 :: x4 :: x5 :: clr x6 :: v :: l := rfl
theorem st_8 {x0 x1 x2 x3 x4 x5 x6 x7 x8 v : Value} {l : List Value} : sto 8 v (x0 :: x1 :: x2 :: x3 :: x4 :: x5 :: x6 :: x7 :: x8 :: l) = x0 :: x1 :: x2 :: x3 :: x4 :: x5 :: x6 :: clr x7 :: v :: l := rfl
theorem st_9 {x0 x1 x2 x3 x4 x5 x6 x7 x8 x9 v : Value} {l : List Value} : sto 9 v (x0 :: x1 :: x2 :: x3 :: x4 :: x5 :: x6 :: x7 :: x8 :: x9 :: l) = x0 :: x1 :: x2 :: x3 :: x4 :: x5 :: x6 :: x7 :: clr x8 :: v :: l := rfl
theorem st_10 {x0 x1 x2 x3 x4 x5 x6 x7 x8 x9 x10 v : Value} {l : List Value} : sto 10 v (x0 :: x1 :: x2 :: x3 :: x4 :: x5 :: x6 :: x7 :: x8 :: x9 :: x10 :: l) = x0 :: x1 :: x2 :: x3 :: x4 :: x5 :: x6 :: x7 :: x8 :: clr x9 :: v :: l := rfl
theorem st_11 {x0 x1 x2 x3 x4 x5 x6 x7 x8 x9 x10 x11 v : Value} {l : List Value} : sto 11 v (x0 :: x1 :: x2 :: x3 :: x4 :: x5 :: x6 :: x7 :: x8 :: x9 :: x10 :: x11 :: l) = x0 :: x1 :: x2 :: x3 :: x4 :: x5 :: x6 :: x7 :: x8 :: x9 :: clr x10 :: v :: l := rfl
theorem st_12 {x0 x1 x2 x3 x4 x5 x6 x7 x8 x9 x10 x11 x12 v : Value} {l : List Value} : sto 12 v (x0 :: x1 :: x2 :: x3 :: x4 :: x5 :: x6 :: x7 :: x8 :: x9 :: x10 :: x11 :: x12 :: l) = x0 :: x1 :: x2 :: x3 :: x4 :: x5 :: x6 :: x7 :: x8 :: x9 :: x10 :: clr x11 :: v :: l := rfl
theorem st_13 {x0 x1 x2 x3 x4 x5 x6 x7 x8 x9 x10 x11 x12 x13 v : Value} {l : List Value} : sto 13 v (x0 :: x1 :: x2 :: x3 :: x4 :: x5 :: x6 :: x7 :: x8 :: x9 :: x10 :: x11 :: x12 :: x13 :: l) = x0 :: x1 :: x2 :: x3 :: x4 :: x5 :: x6 :: x7 :: x8 :: x9 :: x10 :: x11 :: clr x12 :: v :: l := rfl
theorem st_14 {x0 x1 x2 x3 x4 x5 x6 x7 x8 x9 x10 x11 x12 x13 x14 v : Value} {l : List Value} : sto 14 v (x0 :: x1 :: x2 :: x3 :: x4 :: x5 :: x6 :: x7 :: x8 :: x9 :: x10 :: x11 :: x12 :: x13 :: x14 :: l) = x0 :: x1 :: x2 :: x3 :: x4 :: x5 :: x6 :: x7 :: x8 :: x9 :: x10 :: x11 :: x12 :: clr x13 :: v :: l := rfl
theorem st_15 {x0 x1 x2 x3 x4 x5 x6 x7 x8 x9 x10 x11 x12 x13 x14 x15 v : Value} {l : List Value} : sto 15 v (x0 :: x1 :: x2 :: x3 :: x4 :: x5 :: x6 :: x7 :: x8 :: x9 :: x10 :: x11 :: x12 :: x13 :: x14 :: x15 :: l) = x0 :: x1 :: x2 :: x3 :: x4 :: x5 :: x6 :: x7 :: x8 :: x9 :: x10 :: x11 :: x12 :: x13 :: clr x14 :: v :: l := rfl
theorem clr_i {x : Int32} : clr (.int x) = .int x := rfl
theorem clr_j {x : Int64} : clr (.long x) = .null := rfl
theorem clr_r {x : Nat} : clr (.ref x) = .ref x := rfl
theorem clr_n : clr .null = .null := rfl
theorem cat_i {x : Int32} : (Value.int x).category = 1 := rfl
theorem cat_r {x : Nat} : (Value.ref x).category = 1 := rfl
theorem isI_t {x : Int32} : isI (some (.int x)) = True := rfl
theorem isJ_t {x : Int64} : isJ (some (.long x)) = True := rfl
theorem isA_t {x : Nat} : isA (some (.ref x)) = True := rfl
theorem vI_t {x : Value} : vI (some x) = x := rfl
theorem nI32_t {x : Int32} : nI32 (some (.int x)) = x := rfl
theorem isF_t {c ci k : Nat} {fs : List Value} : isF (some (.inr (.inr (c, fs)))) ci k = (c = ci ∧ k < fs.length) := rfl
theorem gF_t {c k : Nat} {fs : List Value} : gF (some (.inr (.inr (c, fs)))) k = vI fs[k]? := rfl
theorem sF_t {c k : Nat} {fs : List Value} {v : Value} : sF (some (.inr (.inr (c, fs)))) k v = some (.inr (.inr (c, fs.set k v))) := rfl
theorem isO_t {c ci : Nat} {fs : List Value} : isO (some (.inr (.inr (c, fs)))) ci = (c = ci) := rfl
theorem isP_t {q len k : Nat} {f : Nat → Int32} {i : Int32} : isP (some (.inl ((q, len), f))) k i = (q = k ∧ vp_in i len) := rfl
theorem isP0_t {q len : Nat} {f : Nat → Int32} {i : Int32} : isP0 (some (.inl ((q, len), f))) i = ((q = 0 ∨ q = 4) ∧ vp_in i len) := rfl
theorem gE_t {h : Nat × Nat} {f : Nat → Int32} {j : Nat} : gE (some (.inl (h, f))) j = f j := rfl
theorem sE_t {h : Nat × Nat} {f : Nat → Int32} {j : Nat} {x : Int32} : sE (some (.inl (h, f))) j x = some (.inl (h, upd f j x)) := rfl
theorem isR_t {len : Nat} {g : Nat → Option Nat} {i : Int32} : isR (some (.inr (.inl (len, g)))) i = vp_in i len := rfl
theorem gO_t {len : Nat} {g : Nat → Option Nat} {j : Nat} : gO (some (.inr (.inl (len, g)))) j = g j := rfl
theorem sO_t {len : Nat} {g : Nat → Option Nat} {j v : Nat} : sO (some (.inr (.inl (len, g)))) j v = some (.inr (.inl (len, va_up g j (some v)))) := rfl
theorem isS_t {v : Nat} : isS (some v) = True := rfl
theorem vS_t {v : Nat} : vS (some v) = v := rfl
theorem isSc_t {len : Nat} {f : Nat → Int32} : isSc (some (.inl ((4, len), f))) = True := rfl
theorem nSc_t {h len : Nat} {f : Nat → Int32} : nSc (some (.inl ((h, len), f))) = Int32.ofNat len := rfl
theorem isCp_t {k0 n0 k1 n1 : Nat} {f g : Nat → Int32} {sp dp n : Int32} : isCp (some (.inl ((k0, n0), f))) (some (.inl ((k1, n1), g))) sp dp n = ((k0 = 0 ∨ k0 = 4) ∧ k1 = 0 ∧ ¬ sp < 0 ∧ ¬ dp < 0 ∧ ¬ n < 0 ∧ sp.toNatClampNeg + n.toNatClampNeg ≤ n0 ∧ dp.toNatClampNeg + n.toNatClampNeg ≤ n1) := rfl
theorem cpE_t {h0 h : Nat × Nat} {f g : Nat → Int32} {sp dp n : Int32} : cpE (some (.inl (h0, f))) (some (.inl (h, g))) sp dp n = some (.inl (h, va_cpy f g sp.toNatClampNeg dp.toNatClampNeg n.toNatClampNeg)) := rfl
theorem pok_i {x : Int32} : pok .int (.int x) = True := by simp [pok, narrow, fits]
theorem pok_o {x : Nat} {C : String} : pok (.object C) (.ref x) = True := by simp [pok, narrow, fits]
theorem pok_a {x : Nat} {ty : FieldType} : pok (.array ty) (.ref x) = True := by simp [pok, narrow, fits]
theorem pok_0 : pok .boolean (.int 0) = True := eq_true (by unfold pok; decide +kernel)
theorem pok_1 : pok .boolean (.int 1) = True := eq_true (by unfold pok; decide +kernel)
theorem ret_i {x : Int32} : (∃ ty, some FieldType.int = some ty ∧ narrow ty (.int x) = .int x) = True := eq_true ⟨_, rfl, rfl⟩
theorem ret_0 : (∃ ty, some FieldType.boolean = some ty ∧ narrow ty (.int 0) = .int 0) = True := eq_true ⟨_, rfl, by decide +kernel⟩
theorem ret_1 : (∃ ty, some FieldType.boolean = some ty ∧ narrow ty (.int 1) = .int 1) = True := eq_true ⟨_, rfl, by decide +kernel⟩
theorem ret_v : ((none : Option FieldType) = none) = True := eq_self _
theorem up_e {w : Wd} {i : Nat} {e : Option En} : va_up w i e i = e := if_pos rfl
theorem up_n {w : Wd} {i j : Nat} {e : Option En} (h : ¬ j = i) : va_up w i e j = w j := if_neg h
theorem kk0 {mi na kd : Nat} : kkd 0 (some (mi, kd, na)) = (kd = 2 ∨ kd = 3 ∨ kd = 9) := rfl
theorem kk1 {mi na kd : Nat} : kkd 1 (some (mi, kd, na)) = (kd = 4 ∨ kd = 5) := rfl
theorem kk2 {mi na kd : Nat} : kkd 2 (some (mi, kd, na)) = (kd = 0 ∨ kd = 1 ∨ kd = 10 ∨ kd = 11 ∨ kd = 12) := rfl
theorem vpl {k n : Nat} (h : k < n) (hn : n < 2147483648) : vp_in (nI k) n := vp_in_nI h (by omega)
theorem tn_0 : (0 : Int32).toNatClampNeg = 0 := rfl
theorem tn_1 : (1 : Int32).toNatClampNeg = 1 := rfl
theorem tn_2 : (2 : Int32).toNatClampNeg = 2 := rfl
theorem tn_3 : (3 : Int32).toNatClampNeg = 3 := rfl
theorem tn_4 : (4 : Int32).toNatClampNeg = 4 := rfl
theorem tn_5 : (5 : Int32).toNatClampNeg = 5 := rfl
theorem tn_6 : (6 : Int32).toNatClampNeg = 6 := rfl
theorem tn_7 : (7 : Int32).toNatClampNeg = 7 := rfl
theorem tn_8 : (8 : Int32).toNatClampNeg = 8 := rfl
theorem tn_9 : (9 : Int32).toNatClampNeg = 9 := rfl
theorem tn_10 : (10 : Int32).toNatClampNeg = 10 := rfl
theorem tn_11 : (11 : Int32).toNatClampNeg = 11 := rfl
theorem tn_12 : (12 : Int32).toNatClampNeg = 12 := rfl
theorem tn_13 : (13 : Int32).toNatClampNeg = 13 := rfl
theorem tn_14 : (14 : Int32).toNatClampNeg = 14 := rfl
theorem tn_15 : (15 : Int32).toNatClampNeg = 15 := rfl
theorem tn_16 : (16 : Int32).toNatClampNeg = 16 := rfl
theorem tn_17 : (17 : Int32).toNatClampNeg = 17 := rfl
theorem tn_18 : (18 : Int32).toNatClampNeg = 18 := rfl
theorem tn_19 : (19 : Int32).toNatClampNeg = 19 := rfl
theorem tn_20 : (20 : Int32).toNatClampNeg = 20 := rfl
theorem tn_21 : (21 : Int32).toNatClampNeg = 21 := rfl
theorem tn_22 : (22 : Int32).toNatClampNeg = 22 := rfl
theorem tn_23 : (23 : Int32).toNatClampNeg = 23 := rfl
