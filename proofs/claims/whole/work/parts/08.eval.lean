/-! the methods, their code decoded, the places that their instructions name -/
theorem hm_0 : mr 0 = (⟨"ClawCranes$Crane", "<init>", "()V"⟩, prog_2_method_1_code, 1, none, 0) := rfl
theorem hc_0 : (mr 0).2.2.2.2 = 0 := rfl
theorem hm_1 : mr 1 = (⟨"ClawCranes$Crane", "copyFrom", "(LClawCranes$Crane;)V"⟩, prog_2_method_2_code, 2, none, 0) := rfl
theorem hc_1 : (mr 1).2.2.2.2 = 0 := rfl
theorem hm_2 : mr 2 = (⟨"ClawCranes$Crane", "changeSetting", "(II)I"⟩, prog_2_method_3_code, 4, (some .int), 0) := rfl
theorem hc_2 : (mr 2).2.2.2.2 = 0 := rfl
theorem hm_3 : mr 3 = (⟨"ClawCranes$Crane", "takePrize", "(III)I"⟩, prog_2_method_4_code, 5, (some .int), 0) := rfl
theorem hc_3 : (mr 3).2.2.2.2 = 0 := rfl
theorem hm_4 : mr 4 = (⟨"ClawCranes$Crane", "addToColumn", "(I)I"⟩, prog_2_method_5_code, 3, (some .int), 0) := rfl
theorem hc_4 : (mr 4).2.2.2.2 = 0 := rfl
theorem hm_5 : mr 5 = (⟨"ClawCranes$Crane", "takeCoins", "(I)I"⟩, prog_2_method_6_code, 2, (some .int), 0) := rfl
theorem hc_5 : (mr 5).2.2.2.2 = 0 := rfl
theorem hm_6 : mr 6 = (⟨"ClawCranes$Crane", "playForCredit", "(II)I"⟩, prog_2_method_7_code, 4, (some .int), 0) := rfl
theorem hc_6 : (mr 6).2.2.2.2 = 0 := rfl
theorem hm_7 : mr 7 = (⟨"ClawCranes$Crane", "pull", "(II)I"⟩, prog_2_method_8_code, 6, (some .int), 0) := rfl
theorem hc_7 : (mr 7).2.2.2.2 = 0 := rfl
theorem hm_8 : mr 8 = (⟨"ClawCranes$Crane", "pay", "(Z)V"⟩, prog_2_method_9_code, 2, none, 0) := rfl
theorem hc_8 : (mr 8).2.2.2.2 = 0 := rfl
theorem hm_9 : mr 9 = (⟨"ClawCranes$Crane", "moveGripped", "(III)V"⟩, prog_2_method_10_code, 5, none, 0) := rfl
theorem hc_9 : (mr 9).2.2.2.2 = 0 := rfl
theorem hm_10 : mr 10 = (⟨"ClawCranes$Crane", "fillUp", "()V"⟩, prog_2_method_11_code, 4, none, 0) := rfl
theorem hc_10 : (mr 10).2.2.2.2 = 0 := rfl
theorem hm_11 : mr 11 = (⟨"ClawCranes$Crane", "outcome", "(II)I"⟩, prog_2_method_12_code, 5, (some .int), 0) := rfl
theorem hc_11 : (mr 11).2.2.2.2 = 0 := rfl
theorem hm_12 : mr 12 = (⟨"ClawCranes$Crane", "grip", "(I)I"⟩, prog_2_method_13_code, 3, (some .int), 0) := rfl
theorem hc_12 : (mr 12).2.2.2.2 = 0 := rfl
theorem hm_13 : mr 13 = (⟨"ClawCranes$Crane", "nextGripIsFull", "()Z"⟩, prog_2_method_14_code, 1, (some .boolean), 0) := rfl
theorem hc_13 : (mr 13).2.2.2.2 = 0 := rfl
theorem hm_14 : mr 14 = (⟨"ClawCranes$Crane", "loadOfTop", "(II)I"⟩, prog_2_method_15_code, 5, (some .int), 0) := rfl
theorem hc_14 : (mr 14).2.2.2.2 = 0 := rfl
theorem hm_15 : mr 15 = (⟨"ClawCranes$Crane", "playsUntilFull", "()I"⟩, prog_2_method_16_code, 4, (some .int), 0) := rfl
theorem hc_15 : (mr 15).2.2.2.2 = 0 := rfl
theorem hm_16 : mr 16 = (⟨"ClawCranes$Crane", "valueIfWon", "(I)I"⟩, prog_2_method_17_code, 3, (some .int), 0) := rfl
theorem hc_16 : (mr 16).2.2.2.2 = 0 := rfl
theorem hm_17 : mr 17 = (⟨"ClawCranes$Crane", "coinsToWin", "(I)I"⟩, prog_2_method_18_code, 3, (some .int), 0) := rfl
theorem hc_17 : (mr 17).2.2.2.2 = 0 := rfl
theorem hm_18 : mr 18 = (⟨"ClawCranes$Diary", "<init>", "()V"⟩, prog_3_method_1_code, 1, none, 1) := rfl
theorem hc_18 : (mr 18).2.2.2.2 = 1 := rfl
theorem hm_19 : mr 19 = (⟨"ClawCranes$Diary", "copyFrom", "(LClawCranes$Diary;)V"⟩, prog_3_method_2_code, 2, none, 1) := rfl
theorem hc_19 : (mr 19).2.2.2.2 = 1 := rfl
theorem hm_20 : mr 20 = (⟨"ClawCranes$Diary", "write", "(IIIZ)V"⟩, prog_3_method_3_code, 6, none, 1) := rfl
theorem hc_20 : (mr 20).2.2.2.2 = 1 := rfl
theorem hm_21 : mr 21 = (⟨"ClawCranes$Diary", "tell", "(II)I"⟩, prog_3_method_4_code, 4, (some .int), 1) := rfl
theorem hc_21 : (mr 21).2.2.2.2 = 1 := rfl
theorem hm_22 : mr 22 = (⟨"ClawCranes$History", "<init>", "()V"⟩, prog_4_method_1_code, 2, none, 2) := rfl
theorem hc_22 : (mr 22).2.2.2.2 = 2 := rfl
theorem hm_23 : mr 23 = (⟨"ClawCranes$History", "note", "(LClawCranes$Crane;)V"⟩, prog_4_method_2_code, 2, none, 2) := rfl
theorem hc_23 : (mr 23).2.2.2.2 = 2 := rfl
theorem hm_24 : mr 24 = (⟨"ClawCranes$History", "keepNoted", "()V"⟩, prog_4_method_3_code, 1, none, 2) := rfl
theorem hc_24 : (mr 24).2.2.2.2 = 2 := rfl
theorem hm_25 : mr 25 = (⟨"ClawCranes$History", "stepBack", "(LClawCranes$Crane;)V"⟩, prog_4_method_4_code, 2, none, 2) := rfl
theorem hc_25 : (mr 25).2.2.2.2 = 2 := rfl
theorem hm_26 : mr 26 = (⟨"ClawCranes$Pad", "<init>", "()V"⟩, prog_5_method_1_code, 1, none, 3) := rfl
theorem hc_26 : (mr 26).2.2.2.2 = 3 := rfl
theorem hm_27 : mr 27 = (⟨"ClawCranes$Pad", "signsIn", "(J)I"⟩, prog_5_method_2_code, 7, (some .int), 3) := rfl
theorem hc_27 : (mr 27).2.2.2.2 = 3 := rfl
theorem hm_28 : mr 28 = (⟨"ClawCranes$Pad", "append", "(JI)V"⟩, prog_5_method_3_code, 5, none, 3) := rfl
theorem hc_28 : (mr 28).2.2.2.2 = 3 := rfl
theorem hm_29 : mr 29 = (⟨"ClawCranes$Pad", "begin", "()V"⟩, prog_5_method_4_code, 1, none, 3) := rfl
theorem hc_29 : (mr 29).2.2.2.2 = 3 := rfl
theorem hm_30 : mr 30 = (⟨"ClawCranes$Pad", "firstFault", "()I"⟩, prog_5_method_5_code, 2, (some .int), 3) := rfl
theorem hc_30 : (mr 30).2.2.2.2 = 3 := rfl
theorem hm_31 : mr 31 = (⟨"ClawCranes$Pad", "nextOrder", "()Z"⟩, prog_5_method_6_code, 1, (some .boolean), 3) := rfl
theorem hc_31 : (mr 31).2.2.2.2 = 3 := rfl
theorem hm_32 : mr 32 = (⟨"ClawCranes$Pad", "readCoins", "()V"⟩, prog_5_method_7_code, 1, none, 3) := rfl
theorem hc_32 : (mr 32).2.2.2.2 = 3 := rfl
theorem hm_33 : mr 33 = (⟨"ClawCranes$Pad", "readPlay", "()V"⟩, prog_5_method_8_code, 1, none, 3) := rfl
theorem hc_33 : (mr 33).2.2.2.2 = 3 := rfl
theorem hm_34 : mr 34 = (⟨"ClawCranes$Pad", "readPrize", "()V"⟩, prog_5_method_9_code, 1, none, 3) := rfl
theorem hc_34 : (mr 34).2.2.2.2 = 3 := rfl
theorem hm_35 : mr 35 = (⟨"ClawCranes$Pad", "readAdding", "()V"⟩, prog_5_method_10_code, 1, none, 3) := rfl
theorem hc_35 : (mr 35).2.2.2.2 = 3 := rfl
theorem hm_36 : mr 36 = (⟨"ClawCranes$Pad", "kind", "()I"⟩, prog_5_method_11_code, 1, (some .int), 3) := rfl
theorem hc_36 : (mr 36).2.2.2.2 = 3 := rfl
theorem hm_37 : mr 37 = (⟨"ClawCranes$Pad", "number", "()I"⟩, prog_5_method_12_code, 2, (some .int), 3) := rfl
theorem hc_37 : (mr 37).2.2.2.2 = 3 := rfl
theorem hm_38 : mr 38 = (⟨"ClawCranes$Pad", "digit", "()I"⟩, prog_5_method_13_code, 2, (some .int), 3) := rfl
theorem hc_38 : (mr 38).2.2.2.2 = 3 := rfl
theorem hm_39 : mr 39 = (⟨"ClawCranes$Pad", "isDigit", "(I)Z"⟩, prog_5_method_14_code, 1, (some .boolean), 3) := rfl
theorem hc_39 : (mr 39).2.2.2.2 = 3 := rfl
theorem hm_40 : mr 40 = (⟨"ClawCranes$Pad", "expect", "(I)V"⟩, prog_5_method_15_code, 2, none, 3) := rfl
theorem hc_40 : (mr 40).2.2.2.2 = 3 := rfl
theorem hm_41 : mr 41 = (⟨"ClawCranes$Pad", "here", "()I"⟩, prog_5_method_16_code, 1, (some .int), 3) := rfl
theorem hc_41 : (mr 41).2.2.2.2 = 3 := rfl
theorem hm_42 : mr 42 = (⟨"ClawCranes$Pit", "<init>", "()V"⟩, prog_6_method_1_code, 1, none, 4) := rfl
theorem hc_42 : (mr 42).2.2.2.2 = 4 := rfl
theorem hm_43 : mr 43 = (⟨"ClawCranes$Pit", "copyFrom", "(LClawCranes$Pit;)V"⟩, prog_6_method_2_code, 2, none, 4) := rfl
theorem hc_43 : (mr 43).2.2.2.2 = 4 := rfl
theorem hm_44 : mr 44 = (⟨"ClawCranes$Pit", "prizeAt", "(II)I"⟩, prog_6_method_3_code, 3, (some .int), 4) := rfl
theorem hc_44 : (mr 44).2.2.2.2 = 4 := rfl
theorem hm_45 : mr 45 = (⟨"ClawCranes$Pit", "top", "(I)I"⟩, prog_6_method_4_code, 3, (some .int), 4) := rfl
theorem hc_45 : (mr 45).2.2.2.2 = 4 := rfl
theorem hm_46 : mr 46 = (⟨"ClawCranes$Pit", "spotOf", "(I)I"⟩, prog_6_method_5_code, 4, (some .int), 4) := rfl
theorem hc_46 : (mr 46).2.2.2.2 = 4 := rfl
theorem hm_47 : mr 47 = (⟨"ClawCranes$Pit", "lay", "(II)V"⟩, prog_6_method_6_code, 3, none, 4) := rfl
theorem hc_47 : (mr 47).2.2.2.2 = 4 := rfl
theorem hm_48 : mr 48 = (⟨"ClawCranes$Pit", "lift", "(I)V"⟩, prog_6_method_7_code, 2, none, 4) := rfl
theorem hc_48 : (mr 48).2.2.2.2 = 4 := rfl
theorem hm_49 : mr 49 = (⟨"ClawCranes$Pit", "prizesInAll", "()I"⟩, prog_6_method_8_code, 3, (some .int), 4) := rfl
theorem hc_49 : (mr 49).2.2.2.2 = 4 := rfl
theorem hm_50 : mr 50 = (⟨"ClawCranes$Pit", "lowestColumn", "()I"⟩, prog_6_method_9_code, 3, (some .int), 4) := rfl
theorem hc_50 : (mr 50).2.2.2.2 = 4 := rfl
theorem hm_51 : mr 51 = (⟨"ClawCranes$Pit", "emptyColumns", "()I"⟩, prog_6_method_10_code, 3, (some .int), 4) := rfl
theorem hc_51 : (mr 51).2.2.2.2 = 4 := rfl
theorem hm_52 : mr 52 = (⟨"ClawCranes$Pit", "rollTarget", "(I)I"⟩, prog_6_method_11_code, 4, (some .int), 4) := rfl
theorem hc_52 : (mr 52).2.2.2.2 = 4 := rfl
theorem hm_53 : mr 53 = (⟨"ClawCranes$Pit", "heightOrWall", "(I)I"⟩, prog_6_method_12_code, 2, (some .int), 4) := rfl
theorem hc_53 : (mr 53).2.2.2.2 = 4 := rfl
theorem hm_54 : mr 54 = (⟨"ClawCranes$Prizes", "<init>", "()V"⟩, prog_7_method_1_code, 1, none, 5) := rfl
theorem hc_54 : (mr 54).2.2.2.2 = 5 := rfl
theorem hm_55 : mr 55 = (⟨"ClawCranes$Prizes", "copyFrom", "(LClawCranes$Prizes;)V"⟩, prog_7_method_2_code, 2, none, 5) := rfl
theorem hc_55 : (mr 55).2.2.2.2 = 5 := rfl
theorem hm_56 : mr 56 = (⟨"ClawCranes$Prizes", "come", "(III)I"⟩, prog_7_method_3_code, 5, (some .int), 5) := rfl
theorem hc_56 : (mr 56).2.2.2.2 = 5 := rfl
theorem hm_57 : mr 57 = (⟨"ClawCranes$Prizes", "storeIsEmpty", "()Z"⟩, prog_7_method_4_code, 1, (some .boolean), 5) := rfl
theorem hc_57 : (mr 57).2.2.2.2 = 5 := rfl
theorem hm_58 : mr 58 = (⟨"ClawCranes$Prizes", "leaveStore", "()I"⟩, prog_7_method_5_code, 2, (some .int), 5) := rfl
theorem hc_58 : (mr 58).2.2.2.2 = 5 := rfl
theorem hm_59 : mr 59 = (⟨"ClawCranes$Prizes", "setIn", "(I)I"⟩, prog_7_method_6_code, 4, (some .int), 5) := rfl
theorem hc_59 : (mr 59).2.2.2.2 = 5 := rfl
theorem hm_60 : mr 60 = (⟨"ClawCranes$Prizes", "valueWon", "()I"⟩, prog_7_method_7_code, 3, (some .int), 5) := rfl
theorem hc_60 : (mr 60).2.2.2.2 = 5 := rfl
theorem hm_61 : mr 61 = (⟨"ClawCranes$Prizes", "inPitUpTo", "(I)I"⟩, prog_7_method_8_code, 4, (some .int), 5) := rfl
theorem hc_61 : (mr 61).2.2.2.2 = 5 := rfl
theorem hm_62 : mr 62 = (⟨"ClawCranes$Prizes", "inPitByValue", "(I)I"⟩, prog_7_method_9_code, 3, (some .int), 5) := rfl
theorem hc_62 : (mr 62).2.2.2.2 = 5 := rfl
theorem hm_63 : mr 63 = (⟨"ClawCranes$Prizes", "rankInPit", "(I)I"⟩, prog_7_method_10_code, 4, (some .int), 5) := rfl
theorem hc_63 : (mr 63).2.2.2.2 = 5 := rfl
theorem hm_64 : mr 64 = (⟨"ClawCranes$Prizes", "isBefore", "(II)Z"⟩, prog_7_method_11_code, 3, (some .boolean), 5) := rfl
theorem hc_64 : (mr 64).2.2.2.2 = 5 := rfl
theorem hm_65 : mr 65 = (⟨"ClawCranes", "<init>", "()V"⟩, prog_1_method_1_code, 2, none, 6) := rfl
theorem hc_65 : (mr 65).2.2.2.2 = 6 := rfl
theorem hm_66 : mr 66 = (⟨"ClawCranes", "set", "(II)I"⟩, prog_1_method_2_code, 3, (some .int), 6) := rfl
theorem hc_66 : (mr 66).2.2.2.2 = 6 := rfl
theorem hm_67 : mr 67 = (⟨"ClawCranes", "prize", "(III)I"⟩, prog_1_method_3_code, 4, (some .int), 6) := rfl
theorem hc_67 : (mr 67).2.2.2.2 = 6 := rfl
theorem hm_68 : mr 68 = (⟨"ClawCranes", "add", "(I)I"⟩, prog_1_method_4_code, 2, (some .int), 6) := rfl
theorem hc_68 : (mr 68).2.2.2.2 = 6 := rfl
theorem hm_69 : mr 69 = (⟨"ClawCranes", "coins", "(I)I"⟩, prog_1_method_5_code, 2, (some .int), 6) := rfl
theorem hc_69 : (mr 69).2.2.2.2 = 6 := rfl
theorem hm_70 : mr 70 = (⟨"ClawCranes", "play", "(II)I"⟩, prog_1_method_6_code, 3, (some .int), 6) := rfl
theorem hc_70 : (mr 70).2.2.2.2 = 6 := rfl
theorem hm_71 : mr 71 = (⟨"ClawCranes", "recorded", "(I)I"⟩, prog_1_method_7_code, 2, (some .int), 6) := rfl
theorem hc_71 : (mr 71).2.2.2.2 = 6 := rfl
theorem hm_72 : mr 72 = (⟨"ClawCranes", "of", "(II)I"⟩, prog_1_method_8_code, 3, (some .int), 6) := rfl
theorem hc_72 : (mr 72).2.2.2.2 = 6 := rfl
theorem hm_73 : mr 73 = (⟨"ClawCranes", "at", "(II)I"⟩, prog_1_method_9_code, 3, (some .int), 6) := rfl
theorem hc_73 : (mr 73).2.2.2.2 = 6 := rfl
theorem hm_74 : mr 74 = (⟨"ClawCranes", "book", "(II)I"⟩, prog_1_method_10_code, 3, (some .int), 6) := rfl
theorem hc_74 : (mr 74).2.2.2.2 = 6 := rfl
theorem hm_75 : mr 75 = (⟨"ClawCranes", "byValue", "(I)I"⟩, prog_1_method_11_code, 2, (some .int), 6) := rfl
theorem hc_75 : (mr 75).2.2.2.2 = 6 := rfl
theorem hm_76 : mr 76 = (⟨"ClawCranes", "lighter", "(I)I"⟩, prog_1_method_12_code, 2, (some .int), 6) := rfl
theorem hc_76 : (mr 76).2.2.2.2 = 6 := rfl
theorem hm_77 : mr 77 = (⟨"ClawCranes", "count", "(I)I"⟩, prog_1_method_13_code, 2, (some .int), 6) := rfl
theorem hc_77 : (mr 77).2.2.2.2 = 6 := rfl
theorem hm_78 : mr 78 = (⟨"ClawCranes", "ifPlayed", "(II)I"⟩, prog_1_method_14_code, 4, (some .int), 6) := rfl
theorem hc_78 : (mr 78).2.2.2.2 = 6 := rfl
theorem hm_79 : mr 79 = (⟨"ClawCranes", "load", "(II)I"⟩, prog_1_method_15_code, 4, (some .int), 6) := rfl
theorem hc_79 : (mr 79).2.2.2.2 = 6 := rfl
theorem hm_80 : mr 80 = (⟨"ClawCranes", "untilFull", "()I"⟩, prog_1_method_16_code, 1, (some .int), 6) := rfl
theorem hc_80 : (mr 80).2.2.2.2 = 6 := rfl
theorem hm_81 : mr 81 = (⟨"ClawCranes", "bestColumn", "()I"⟩, prog_1_method_17_code, 5, (some .int), 6) := rfl
theorem hc_81 : (mr 81).2.2.2.2 = 6 := rfl
theorem hm_82 : mr 82 = (⟨"ClawCranes", "costs", "(I)I"⟩, prog_1_method_18_code, 2, (some .int), 6) := rfl
theorem hc_82 : (mr 82).2.2.2.2 = 6 := rfl
theorem hm_83 : mr 83 = (⟨"ClawCranes", "put", "(J)I"⟩, prog_1_method_19_code, 4, (some .int), 6) := rfl
theorem hc_83 : (mr 83).2.2.2.2 = 6 := rfl
theorem hm_84 : mr 84 = (⟨"ClawCranes", "wipe", "()I"⟩, prog_1_method_20_code, 2, (some .int), 6) := rfl
theorem hc_84 : (mr 84).2.2.2.2 = 6 := rfl
theorem hm_85 : mr 85 = (⟨"ClawCranes", "fault", "()I"⟩, prog_1_method_21_code, 1, (some .int), 6) := rfl
theorem hc_85 : (mr 85).2.2.2.2 = 6 := rfl
theorem hm_86 : mr 86 = (⟨"ClawCranes", "carryOut", "()I"⟩, prog_1_method_22_code, 2, (some .int), 6) := rfl
theorem hc_86 : (mr 86).2.2.2.2 = 6 := rfl
theorem hm_87 : mr 87 = (⟨"ClawCranes", "carriedOrder", "()I"⟩, prog_1_method_23_code, 1, (some .int), 6) := rfl
theorem hc_87 : (mr 87).2.2.2.2 = 6 := rfl
theorem hm_88 : mr 88 = (⟨"ClawCranes", "undo", "()I"⟩, prog_1_method_24_code, 1, (some .int), 6) := rfl
theorem hc_88 : (mr 88).2.2.2.2 = 6 := rfl
theorem hm_89 : mr 89 = (⟨"ClawCranes", "save", "(I)I"⟩, prog_1_method_25_code, 2, (some .int), 6) := rfl
theorem hc_89 : (mr 89).2.2.2.2 = 6 := rfl
theorem hm_90 : mr 90 = (⟨"ClawCranes", "restore", "(I)I"⟩, prog_1_method_26_code, 2, (some .int), 6) := rfl
theorem hc_90 : (mr 90).2.2.2.2 = 6 := rfl
theorem hm_91 : mr 91 = (⟨"ClawCranes", "isSlot", "(I)Z"⟩, prog_1_method_27_code, 1, (some .boolean), 6) := rfl
theorem hc_91 : (mr 91).2.2.2.2 = 6 := rfl
theorem hm_92 : mr 92 = (⟨"ClawCranes", "isColumn", "(I)Z"⟩, prog_1_method_28_code, 1, (some .boolean), 6) := rfl
theorem hc_92 : (mr 92).2.2.2.2 = 6 := rfl
theorem hm_93 : mr 93 = (⟨"ClawCranes", "errorOfAim", "(II)I"⟩, prog_1_method_29_code, 2, (some .int), 6) := rfl
theorem hc_93 : (mr 93).2.2.2.2 = 6 := rfl
theorem hm_94 : mr 94 = (⟨"ClawCranesModel", "<init>", "()V"⟩, prog_9_method_1_code, 1, none, 7) := rfl
theorem hc_94 : (mr 94).2.2.2.2 = 7 := rfl
theorem hm_95 : mr 95 = (⟨"ClawCranesModel", "in", "(III)Z"⟩, prog_9_method_2_code, 3, (some .boolean), 7) := rfl
theorem hc_95 : (mr 95).2.2.2.2 = 7 := rfl
theorem hm_96 : mr 96 = (⟨"ClawCranesModel", "isColumn", "(I)Z"⟩, prog_9_method_3_code, 1, (some .boolean), 7) := rfl
theorem hc_96 : (mr 96).2.2.2.2 = 7 := rfl
theorem hm_97 : mr 97 = (⟨"ClawCranesModel", "of1", "(II)I"⟩, prog_9_method_4_code, 3, (some .int), 7) := rfl
theorem hc_97 : (mr 97).2.2.2.2 = 7 := rfl
theorem hm_98 : mr 98 = (⟨"ClawCranesModel", "lay", "(III)V"⟩, prog_9_method_5_code, 4, none, 7) := rfl
theorem hc_98 : (mr 98).2.2.2.2 = 7 := rfl
theorem hm_99 : mr 99 = (⟨"ClawCranesModel", "isPrize", "(I)Z"⟩, prog_9_method_6_code, 2, (some .boolean), 7) := rfl
theorem hc_99 : (mr 99).2.2.2.2 = 7 := rfl
theorem hm_100 : mr 100 = (⟨"ClawCranesModel", "copyState", "([II[II)V"⟩, prog_9_method_7_code, 5, none, 7) := rfl
theorem hc_100 : (mr 100).2.2.2.2 = 7 := rfl
theorem hm_101 : mr 101 = (⟨"ClawCranesModel", "record", "()V"⟩, prog_9_method_8_code, 2, none, 7) := rfl
theorem hc_101 : (mr 101).2.2.2.2 = 7 := rfl
theorem hm_102 : mr 102 = (⟨"ClawCranesModel", "undo", "()I"⟩, prog_9_method_9_code, 1, (some .int), 7) := rfl
theorem hc_102 : (mr 102).2.2.2.2 = 7 := rfl
theorem hm_103 : mr 103 = (⟨"ClawCranesModel", "save", "(I)I"⟩, prog_9_method_10_code, 2, (some .int), 7) := rfl
theorem hc_103 : (mr 103).2.2.2.2 = 7 := rfl
theorem hm_104 : mr 104 = (⟨"ClawCranesModel", "restore", "(I)I"⟩, prog_9_method_11_code, 2, (some .int), 7) := rfl
theorem hc_104 : (mr 104).2.2.2.2 = 7 := rfl
theorem hm_105 : mr 105 = (⟨"ClawCranesModel", "sizeOf", "(I)I"⟩, prog_9_method_12_code, 4, (some .int), 7) := rfl
theorem hc_105 : (mr 105).2.2.2.2 = 7 := rfl
theorem hm_106 : mr 106 = (⟨"ClawCranesModel", "prizeAt", "(I)I"⟩, prog_9_method_13_code, 4, (some .int), 7) := rfl
theorem hc_106 : (mr 106).2.2.2.2 = 7 := rfl
theorem hm_107 : mr 107 = (⟨"ClawCranesModel", "top", "(I)I"⟩, prog_9_method_14_code, 3, (some .int), 7) := rfl
theorem hc_107 : (mr 107).2.2.2.2 = 7 := rfl
theorem hm_108 : mr 108 = (⟨"ClawCranesModel", "prizesIn", "(I)I"⟩, prog_9_method_15_code, 4, (some .int), 7) := rfl
theorem hc_108 : (mr 108).2.2.2.2 = 7 := rfl
theorem hm_109 : mr 109 = (⟨"ClawCranesModel", "many", "(I)I"⟩, prog_9_method_16_code, 4, (some .int), 7) := rfl
theorem hc_109 : (mr 109).2.2.2.2 = 7 := rfl
theorem hm_110 : mr 110 = (⟨"ClawCranesModel", "nextOfStore", "()I"⟩, prog_9_method_17_code, 2, (some .int), 7) := rfl
theorem hc_110 : (mr 110).2.2.2.2 = 7 := rfl
theorem hm_111 : mr 111 = (⟨"ClawCranesModel", "put", "(II)V"⟩, prog_9_method_18_code, 4, none, 7) := rfl
theorem hc_111 : (mr 111).2.2.2.2 = 7 := rfl
theorem hm_112 : mr 112 = (⟨"ClawCranesModel", "take", "(II)V"⟩, prog_9_method_19_code, 3, none, 7) := rfl
theorem hc_112 : (mr 112).2.2.2.2 = 7 := rfl
theorem hm_113 : mr 113 = (⟨"ClawCranesModel", "lowestColumn", "()I"⟩, prog_9_method_20_code, 3, (some .int), 7) := rfl
theorem hc_113 : (mr 113).2.2.2.2 = 7 := rfl
theorem hm_114 : mr 114 = (⟨"ClawCranesModel", "isValue", "(II)Z"⟩, prog_9_method_21_code, 2, (some .boolean), 7) := rfl
theorem hc_114 : (mr 114).2.2.2.2 = 7 := rfl
theorem hm_115 : mr 115 = (⟨"ClawCranesModel", "set", "(II)I"⟩, prog_9_method_22_code, 4, (some .int), 7) := rfl
theorem hc_115 : (mr 115).2.2.2.2 = 7 := rfl
theorem hm_116 : mr 116 = (⟨"ClawCranesModel", "whyNotPrize", "(III)I"⟩, prog_9_method_23_code, 4, (some .int), 7) := rfl
theorem hc_116 : (mr 116).2.2.2.2 = 7 := rfl
theorem hm_117 : mr 117 = (⟨"ClawCranesModel", "prizeNow", "(III)V"⟩, prog_9_method_24_code, 5, none, 7) := rfl
theorem hc_117 : (mr 117).2.2.2.2 = 7 := rfl
theorem hm_118 : mr 118 = (⟨"ClawCranesModel", "prize", "(III)I"⟩, prog_9_method_25_code, 5, (some .int), 7) := rfl
theorem hc_118 : (mr 118).2.2.2.2 = 7 := rfl
theorem hm_119 : mr 119 = (⟨"ClawCranesModel", "whyNotAdd", "(I)I"⟩, prog_9_method_26_code, 2, (some .int), 7) := rfl
theorem hc_119 : (mr 119).2.2.2.2 = 7 := rfl
theorem hm_120 : mr 120 = (⟨"ClawCranesModel", "add", "(I)I"⟩, prog_9_method_27_code, 4, (some .int), 7) := rfl
theorem hc_120 : (mr 120).2.2.2.2 = 7 := rfl
theorem hm_121 : mr 121 = (⟨"ClawCranesModel", "whyNotCoins", "(I)I"⟩, prog_9_method_28_code, 2, (some .int), 7) := rfl
theorem hc_121 : (mr 121).2.2.2.2 = 7 := rfl
theorem hm_122 : mr 122 = (⟨"ClawCranesModel", "coins", "(I)I"⟩, prog_9_method_29_code, 3, (some .int), 7) := rfl
theorem hc_122 : (mr 122).2.2.2.2 = 7 := rfl
theorem hm_123 : mr 123 = (⟨"ClawCranesModel", "loadOf", "(III)I"⟩, prog_9_method_30_code, 5, (some .int), 7) := rfl
theorem hc_123 : (mr 123).2.2.2.2 = 7 := rfl
theorem hm_124 : mr 124 = (⟨"ClawCranesModel", "isFull", "(I)Z"⟩, prog_9_method_31_code, 2, (some .boolean), 7) := rfl
theorem hc_124 : (mr 124).2.2.2.2 = 7 := rfl
theorem hm_125 : mr 125 = (⟨"ClawCranesModel", "wins", "(IIII)Z"⟩, prog_9_method_32_code, 6, (some .boolean), 7) := rfl
theorem hc_125 : (mr 125).2.2.2.2 = 7 := rfl
theorem hm_126 : mr 126 = (⟨"ClawCranesModel", "rollsTo", "(I)I"⟩, prog_9_method_33_code, 5, (some .int), 7) := rfl
theorem hc_126 : (mr 126).2.2.2.2 = 7 := rfl
theorem hm_127 : mr 127 = (⟨"ClawCranesModel", "rolls", "(II)Z"⟩, prog_9_method_34_code, 3, (some .boolean), 7) := rfl
theorem hc_127 : (mr 127).2.2.2.2 = 7 := rfl
theorem hm_128 : mr 128 = (⟨"ClawCranesModel", "book", "(IIII)V"⟩, prog_9_method_35_code, 6, none, 7) := rfl
theorem hc_128 : (mr 128).2.2.2.2 = 7 := rfl
theorem hm_129 : mr 129 = (⟨"ClawCranesModel", "fillUp", "()V"⟩, prog_9_method_36_code, 2, none, 7) := rfl
theorem hc_129 : (mr 129).2.2.2.2 = 7 := rfl
theorem hm_130 : mr 130 = (⟨"ClawCranesModel", "playNow", "(II)I"⟩, prog_9_method_37_code, 7, (some .int), 7) := rfl
theorem hc_130 : (mr 130).2.2.2.2 = 7 := rfl
theorem hm_131 : mr 131 = (⟨"ClawCranesModel", "roll", "(II)V"⟩, prog_9_method_38_code, 3, none, 7) := rfl
theorem hc_131 : (mr 131).2.2.2.2 = 7 := rfl
theorem hm_132 : mr 132 = (⟨"ClawCranesModel", "whyNotPlay", "(II)I"⟩, prog_9_method_39_code, 3, (some .int), 7) := rfl
theorem hc_132 : (mr 132).2.2.2.2 = 7 := rfl
theorem hm_133 : mr 133 = (⟨"ClawCranesModel", "play", "(II)I"⟩, prog_9_method_40_code, 4, (some .int), 7) := rfl
theorem hc_133 : (mr 133).2.2.2.2 = 7 := rfl
theorem hm_134 : mr 134 = (⟨"ClawCranesModel", "of", "(II)I"⟩, prog_9_method_41_code, 3, (some .int), 7) := rfl
theorem hc_134 : (mr 134).2.2.2.2 = 7 := rfl
theorem hm_135 : mr 135 = (⟨"ClawCranesModel", "at", "(II)I"⟩, prog_9_method_42_code, 3, (some .int), 7) := rfl
theorem hc_135 : (mr 135).2.2.2.2 = 7 := rfl
theorem hm_136 : mr 136 = (⟨"ClawCranesModel", "book", "(II)I"⟩, prog_9_method_43_code, 3, (some .int), 7) := rfl
theorem hc_136 : (mr 136).2.2.2.2 = 7 := rfl
theorem hm_137 : mr 137 = (⟨"ClawCranesModel", "isAhead", "(II)Z"⟩, prog_9_method_44_code, 4, (some .boolean), 7) := rfl
theorem hc_137 : (mr 137).2.2.2.2 = 7 := rfl
theorem hm_138 : mr 138 = (⟨"ClawCranesModel", "rankOf", "(I)I"⟩, prog_9_method_45_code, 4, (some .int), 7) := rfl
theorem hc_138 : (mr 138).2.2.2.2 = 7 := rfl
theorem hm_139 : mr 139 = (⟨"ClawCranesModel", "byValue", "(I)I"⟩, prog_9_method_46_code, 4, (some .int), 7) := rfl
theorem hc_139 : (mr 139).2.2.2.2 = 7 := rfl
theorem hm_140 : mr 140 = (⟨"ClawCranesModel", "lighter", "(I)I"⟩, prog_9_method_47_code, 4, (some .int), 7) := rfl
theorem hc_140 : (mr 140).2.2.2.2 = 7 := rfl
theorem hm_141 : mr 141 = (⟨"ClawCranesModel", "emptyColumns", "()I"⟩, prog_9_method_48_code, 3, (some .int), 7) := rfl
theorem hc_141 : (mr 141).2.2.2.2 = 7 := rfl
theorem hm_142 : mr 142 = (⟨"ClawCranesModel", "count", "(I)I"⟩, prog_9_method_49_code, 2, (some .int), 7) := rfl
theorem hc_142 : (mr 142).2.2.2.2 = 7 := rfl
theorem hm_143 : mr 143 = (⟨"ClawCranesModel", "ifPlayed", "(II)I"⟩, prog_9_method_50_code, 4, (some .int), 7) := rfl
theorem hc_143 : (mr 143).2.2.2.2 = 7 := rfl
theorem hm_144 : mr 144 = (⟨"ClawCranesModel", "load", "(II)I"⟩, prog_9_method_51_code, 4, (some .int), 7) := rfl
theorem hc_144 : (mr 144).2.2.2.2 = 7 := rfl
theorem hm_145 : mr 145 = (⟨"ClawCranesModel", "untilFull", "()I"⟩, prog_9_method_52_code, 2, (some .int), 7) := rfl
theorem hc_145 : (mr 145).2.2.2.2 = 7 := rfl
theorem hm_146 : mr 146 = (⟨"ClawCranesModel", "bestColumn", "()I"⟩, prog_9_method_53_code, 6, (some .int), 7) := rfl
theorem hc_146 : (mr 146).2.2.2.2 = 7 := rfl
theorem hm_147 : mr 147 = (⟨"ClawCranesModel", "playsFor", "(II)I"⟩, prog_9_method_54_code, 4, (some .int), 7) := rfl
theorem hc_147 : (mr 147).2.2.2.2 = 7 := rfl
theorem hm_148 : mr 148 = (⟨"ClawCranesModel", "costs", "(I)I"⟩, prog_9_method_55_code, 4, (some .int), 7) := rfl
theorem hc_148 : (mr 148).2.2.2.2 = 7 := rfl
theorem hm_149 : mr 149 = (⟨"ClawCranesModel", "put", "(J)I"⟩, prog_9_method_56_code, 7, (some .int), 7) := rfl
theorem hc_149 : (mr 149).2.2.2.2 = 7 := rfl
theorem hm_150 : mr 150 = (⟨"ClawCranesModel", "wipe", "()I"⟩, prog_9_method_57_code, 2, (some .int), 7) := rfl
theorem hc_150 : (mr 150).2.2.2.2 = 7 := rfl
theorem hm_151 : mr 151 = (⟨"ClawCranesModel", "sees", "(II)Z"⟩, prog_9_method_58_code, 3, (some .boolean), 7) := rfl
theorem hc_151 : (mr 151).2.2.2.2 = 7 := rfl
theorem hm_152 : mr 152 = (⟨"ClawCranesModel", "takes", "(I)Z"⟩, prog_9_method_59_code, 3, (some .boolean), 7) := rfl
theorem hc_152 : (mr 152).2.2.2.2 = 7 := rfl
theorem hm_153 : mr 153 = (⟨"ClawCranesModel", "number", "(I)I"⟩, prog_9_method_60_code, 3, (some .int), 7) := rfl
theorem hc_153 : (mr 153).2.2.2.2 = 7 := rfl
theorem hm_154 : mr 154 = (⟨"ClawCranesModel", "kind", "()I"⟩, prog_9_method_61_code, 2, (some .int), 7) := rfl
theorem hc_154 : (mr 154).2.2.2.2 = 7 := rfl
theorem hm_155 : mr 155 = (⟨"ClawCranesModel", "readOrder", "()Z"⟩, prog_9_method_62_code, 5, (some .boolean), 7) := rfl
theorem hc_155 : (mr 155).2.2.2.2 = 7 := rfl
theorem hm_156 : mr 156 = (⟨"ClawCranesModel", "readPad", "()Z"⟩, prog_9_method_63_code, 2, (some .boolean), 7) := rfl
theorem hc_156 : (mr 156).2.2.2.2 = 7 := rfl
theorem hm_157 : mr 157 = (⟨"ClawCranesModel", "fault", "()I"⟩, prog_9_method_64_code, 1, (some .int), 7) := rfl
theorem hc_157 : (mr 157).2.2.2.2 = 7 := rfl
theorem hm_158 : mr 158 = (⟨"ClawCranesModel", "whyNot", "(I)I"⟩, prog_9_method_65_code, 3, (some .int), 7) := rfl
theorem hc_158 : (mr 158).2.2.2.2 = 7 := rfl
theorem hm_159 : mr 159 = (⟨"ClawCranesModel", "doOrder", "(I)V"⟩, prog_9_method_66_code, 3, none, 7) := rfl
theorem hc_159 : (mr 159).2.2.2.2 = 7 := rfl
theorem hm_160 : mr 160 = (⟨"ClawCranesModel", "carryOut", "()I"⟩, prog_9_method_67_code, 2, (some .int), 7) := rfl
theorem hc_160 : (mr 160).2.2.2.2 = 7 := rfl
theorem hm_161 : mr 161 = (⟨"java/lang/Integer", "bitCount", "(I)I"⟩, prog_10_method_49_code, 1, (some .int), 9) := rfl
theorem hc_161 : (mr 161).2.2.2.2 = 9 := rfl
theorem rF_0_9 : rF 0 9 = some (0, 0, false) := by decide +kernel
theorem rF_0_18 : rF 0 18 = some (0, 1, false) := by decide +kernel
theorem rF_0_25 : rF 0 25 = some (0, 2, false) := by decide +kernel
theorem rF_0_32 : rF 0 32 = some (0, 3, false) := by decide +kernel
theorem rF_0_55 : rF 0 55 = some (0, 4, false) := by decide +kernel
theorem rF_0_59 : rF 0 59 = some (0, 5, false) := by decide +kernel
theorem rF_0_62 : rF 0 62 = some (0, 6, false) := by decide +kernel
theorem rF_0_65 : rF 0 65 = some (0, 7, false) := by decide +kernel
theorem rF_0_68 : rF 0 68 = some (0, 8, false) := by decide +kernel
theorem rF_0_71 : rF 0 71 = some (0, 9, false) := by decide +kernel
theorem rF_0_74 : rF 0 74 = some (0, 10, false) := by decide +kernel
theorem rF_0_83 : rF 0 83 = some (5, 5, true) := by decide +kernel
theorem rF_0_98 : rF 0 98 = some (4, 1, true) := by decide +kernel
theorem rF_0_134 : rF 0 134 = some (5, 4, true) := by decide +kernel
theorem rF_0_148 : rF 0 148 = some (5, 3, true) := by decide +kernel
theorem rF_0_166 : rF 0 166 = some (5, 0, true) := by decide +kernel
theorem rF_0_169 : rF 0 169 = some (5, 1, true) := by decide +kernel
theorem rF_0_177 : rF 0 177 = some (5, 2, true) := by decide +kernel
theorem rF_1_9 : rF 1 9 = some (1, 0, false) := by decide +kernel
theorem rF_1_21 : rF 1 21 = some (1, 1, false) := by decide +kernel
theorem rF_1_25 : rF 1 25 = some (1, 2, false) := by decide +kernel
theorem rF_2_11 : rF 2 11 = some (2, 0, false) := by decide +kernel
theorem rF_2_18 : rF 2 18 = some (2, 2, false) := by decide +kernel
theorem rF_2_26 : rF 2 26 = some (2, 1, false) := by decide +kernel
theorem rF_3_9 : rF 3 9 = some (3, 0, false) := by decide +kernel
theorem rF_3_21 : rF 3 21 = some (3, 1, false) := by decide +kernel
theorem rF_3_25 : rF 3 25 = some (3, 2, false) := by decide +kernel
theorem rF_3_28 : rF 3 28 = some (3, 3, false) := by decide +kernel
theorem rF_3_47 : rF 3 47 = some (3, 4, false) := by decide +kernel
theorem rF_3_65 : rF 3 65 = some (3, 5, false) := by decide +kernel
theorem rF_3_71 : rF 3 71 = some (3, 6, false) := by decide +kernel
theorem rF_3_77 : rF 3 77 = some (3, 7, false) := by decide +kernel
theorem rF_4_9 : rF 4 9 = some (4, 0, false) := by decide +kernel
theorem rF_4_15 : rF 4 15 = some (4, 1, false) := by decide +kernel
theorem rF_5_9 : rF 5 9 = some (5, 0, false) := by decide +kernel
theorem rF_5_15 : rF 5 15 = some (5, 1, false) := by decide +kernel
theorem rF_5_18 : rF 5 18 = some (5, 2, false) := by decide +kernel
theorem rF_5_21 : rF 5 21 = some (5, 3, false) := by decide +kernel
theorem rF_5_24 : rF 5 24 = some (5, 4, false) := by decide +kernel
theorem rF_5_33 : rF 5 33 = some (5, 5, false) := by decide +kernel
theorem rF_5_37 : rF 5 37 = some (5, 6, false) := by decide +kernel
theorem rF_6_10 : rF 6 10 = some (6, 0, false) := by decide +kernel
theorem rF_6_16 : rF 6 16 = some (6, 1, false) := by decide +kernel
theorem rF_6_20 : rF 6 20 = some (6, 2, false) := by decide +kernel
theorem rF_6_27 : rF 6 27 = some (6, 3, false) := by decide +kernel
theorem rF_6_34 : rF 6 34 = some (6, 4, false) := by decide +kernel
theorem rF_6_66 : rF 6 66 = some (0, 1, true) := by decide +kernel
theorem rF_6_70 : rF 6 70 = some (5, 5, true) := by decide +kernel
theorem rF_6_76 : rF 6 76 = some (5, 0, true) := by decide +kernel
theorem rF_6_80 : rF 6 80 = some (5, 1, true) := by decide +kernel
theorem rF_6_83 : rF 6 83 = some (5, 2, true) := by decide +kernel
theorem rF_6_86 : rF 6 86 = some (5, 3, true) := by decide +kernel
theorem rF_6_89 : rF 6 89 = some (0, 2, true) := by decide +kernel
theorem rF_6_98 : rF 6 98 = some (5, 4, true) := by decide +kernel
theorem rF_6_108 : rF 6 108 = some (0, 3, true) := by decide +kernel
theorem rF_6_112 : rF 6 112 = some (1, 1, true) := by decide +kernel
theorem rF_6_126 : rF 6 126 = some (0, 0, true) := by decide +kernel
theorem rF_6_129 : rF 6 129 = some (0, 4, true) := by decide +kernel
theorem rF_6_132 : rF 6 132 = some (0, 5, true) := by decide +kernel
theorem rF_6_135 : rF 6 135 = some (0, 6, true) := by decide +kernel
theorem rF_6_138 : rF 6 138 = some (0, 7, true) := by decide +kernel
theorem rF_6_141 : rF 6 141 = some (0, 8, true) := by decide +kernel
theorem rF_6_152 : rF 6 152 = some (0, 9, true) := by decide +kernel
theorem rF_6_162 : rF 6 162 = some (0, 10, true) := by decide +kernel
theorem rF_6_165 : rF 6 165 = some (3, 1, true) := by decide +kernel
theorem rF_6_168 : rF 6 168 = some (2, 1, true) := by decide +kernel
theorem rF_6_211 : rF 6 211 = some (3, 4, true) := by decide +kernel
theorem rF_6_214 : rF 6 214 = some (3, 5, true) := by decide +kernel
theorem rF_6_217 : rF 6 217 = some (3, 6, true) := by decide +kernel
theorem rF_6_220 : rF 6 220 = some (3, 7, true) := by decide +kernel
theorem rF_7_7 : rF 7 7 = some (7, 0, false) := by decide +kernel
theorem rF_7_13 : rF 7 13 = some (7, 1, false) := by decide +kernel
theorem rF_7_16 : rF 7 16 = some (7, 2, false) := by decide +kernel
theorem rF_7_19 : rF 7 19 = some (7, 4, false) := by decide +kernel
theorem rF_7_22 : rF 7 22 = some (7, 5, false) := by decide +kernel
theorem rF_7_26 : rF 7 26 = some (7, 6, false) := by decide +kernel
theorem rF_7_29 : rF 7 29 = some (7, 9, false) := by decide +kernel
theorem rF_7_36 : rF 7 36 = some (7, 3, false) := by decide +kernel
theorem rF_7_150 : rF 7 150 = some (7, 7, false) := by decide +kernel
theorem rF_7_161 : rF 7 161 = some (7, 8, false) := by decide +kernel
theorem rF_7_176 : rF 7 176 = some (7, 10, false) := by decide +kernel
theorem rM_0_3 : rM 0 3 = some (0, 9, 1) := by decide +kernel
theorem rM_0_17 : rM 0 17 = some (54, 3, 1) := by decide +kernel
theorem rM_0_24 : rM 0 24 = some (42, 3, 1) := by decide +kernel
theorem rM_0_31 : rM 0 31 = some (18, 3, 1) := by decide +kernel
theorem rM_0_39 : rM 0 39 = some (0, 10, 5) := by decide +kernel
theorem rM_0_45 : rM 0 45 = some (55, 5, 2) := by decide +kernel
theorem rM_0_49 : rM 0 49 = some (43, 5, 2) := by decide +kernel
theorem rM_0_52 : rM 0 52 = some (19, 5, 2) := by decide +kernel
theorem rM_0_86 : rM 0 86 = some (56, 5, 4) := by decide +kernel
theorem rM_0_90 : rM 0 90 = some (92, 1, 1) := by decide +kernel
theorem rM_0_94 : rM 0 94 = some (57, 5, 1) := by decide +kernel
theorem rM_0_101 : rM 0 101 = some (58, 5, 1) := by decide +kernel
theorem rM_0_105 : rM 0 105 = some (47, 5, 3) := by decide +kernel
theorem rM_0_109 : rM 0 109 = some (93, 1, 2) := by decide +kernel
theorem rM_0_113 : rM 0 113 = some (7, 4, 3) := by decide +kernel
theorem rM_0_116 : rM 0 116 = some (11, 4, 3) := by decide +kernel
theorem rM_0_119 : rM 0 119 = some (45, 5, 2) := by decide +kernel
theorem rM_0_123 : rM 0 123 = some (13, 4, 1) := by decide +kernel
theorem rM_0_126 : rM 0 126 = some (8, 4, 2) := by decide +kernel
theorem rM_0_130 : rM 0 130 = some (20, 5, 5) := by decide +kernel
theorem rM_0_137 : rM 0 137 = some (9, 4, 4) := by decide +kernel
theorem rM_0_141 : rM 0 141 = some (10, 4, 1) := by decide +kernel
theorem rM_0_144 : rM 0 144 = some (48, 5, 2) := by decide +kernel
theorem rM_0_151 : rM 0 151 = some (52, 5, 2) := by decide +kernel
theorem rM_0_154 : rM 0 154 = some (49, 5, 1) := by decide +kernel
theorem rM_0_157 : rM 0 157 = some (50, 5, 1) := by decide +kernel
theorem rM_0_160 : rM 0 160 = some (12, 4, 2) := by decide +kernel
theorem rM_0_163 : rM 0 163 = some (14, 4, 3) := by decide +kernel
theorem rM_0_172 : rM 0 172 = some (0, 11, 2) := by decide +kernel
theorem rM_0_180 : rM 0 180 = some (15, 4, 1) := by decide +kernel
theorem rM_1_3 : rM 1 3 = some (0, 9, 1) := by decide +kernel
theorem rM_1_15 : rM 1 15 = some (0, 10, 5) := by decide +kernel
theorem rM_1_28 : rM 1 28 = some (0, 12, 2) := by decide +kernel
theorem rM_2_3 : rM 2 3 = some (0, 9, 1) := by decide +kernel
theorem rM_2_17 : rM 2 17 = some (0, 3, 1) := by decide +kernel
theorem rM_2_22 : rM 2 22 = some (1, 5, 2) := by decide +kernel
theorem rM_2_29 : rM 2 29 = some (0, 12, 2) := by decide +kernel
theorem rM_3_3 : rM 3 3 = some (0, 9, 1) := by decide +kernel
theorem rM_3_32 : rM 3 32 = some (29, 4, 1) := by decide +kernel
theorem rM_3_35 : rM 3 35 = some (31, 4, 1) := by decide +kernel
theorem rM_3_39 : rM 3 39 = some (40, 4, 2) := by decide +kernel
theorem rM_3_43 : rM 3 43 = some (41, 4, 1) := by decide +kernel
theorem rM_3_50 : rM 3 50 = some (32, 4, 1) := by decide +kernel
theorem rM_3_53 : rM 3 53 = some (33, 4, 1) := by decide +kernel
theorem rM_3_56 : rM 3 56 = some (34, 4, 1) := by decide +kernel
theorem rM_3_59 : rM 3 59 = some (35, 4, 1) := by decide +kernel
theorem rM_3_62 : rM 3 62 = some (37, 4, 1) := by decide +kernel
theorem rM_3_68 : rM 3 68 = some (38, 4, 1) := by decide +kernel
theorem rM_3_74 : rM 3 74 = some (36, 4, 1) := by decide +kernel
theorem rM_3_80 : rM 3 80 = some (39, 0, 1) := by decide +kernel
theorem rM_4_3 : rM 4 3 = some (0, 9, 1) := by decide +kernel
theorem rM_4_18 : rM 4 18 = some (0, 10, 5) := by decide +kernel
theorem rM_4_24 : rM 4 24 = some (44, 4, 3) := by decide +kernel
theorem rM_4_28 : rM 4 28 = some (53, 4, 2) := by decide +kernel
theorem rM_4_32 : rM 4 32 = some (0, 12, 2) := by decide +kernel
theorem rM_5_3 : rM 5 3 = some (0, 9, 1) := by decide +kernel
theorem rM_5_27 : rM 5 27 = some (0, 10, 5) := by decide +kernel
theorem rM_5_40 : rM 5 40 = some (63, 4, 2) := by decide +kernel
theorem rM_5_44 : rM 5 44 = some (64, 4, 3) := by decide +kernel
theorem rM_6_1 : rM 6 1 = some (0, 9, 1) := by decide +kernel
theorem rM_6_9 : rM 6 9 = some (0, 3, 1) := by decide +kernel
theorem rM_6_26 : rM 6 26 = some (22, 3, 1) := by decide +kernel
theorem rM_6_33 : rM 6 33 = some (26, 3, 1) := by decide +kernel
theorem rM_6_38 : rM 6 38 = some (23, 5, 2) := by decide +kernel
theorem rM_6_42 : rM 6 42 = some (2, 5, 3) := by decide +kernel
theorem rM_6_46 : rM 6 46 = some (71, 4, 2) := by decide +kernel
theorem rM_6_50 : rM 6 50 = some (3, 5, 4) := by decide +kernel
theorem rM_6_54 : rM 6 54 = some (4, 5, 2) := by decide +kernel
theorem rM_6_57 : rM 6 57 = some (5, 5, 2) := by decide +kernel
theorem rM_6_60 : rM 6 60 = some (6, 5, 3) := by decide +kernel
theorem rM_6_63 : rM 6 63 = some (24, 5, 1) := by decide +kernel
theorem rM_6_93 : rM 6 93 = some (46, 5, 2) := by decide +kernel
theorem rM_6_101 : rM 6 101 = some (92, 0, 1) := by decide +kernel
theorem rM_6_105 : rM 6 105 = some (44, 5, 3) := by decide +kernel
theorem rM_6_117 : rM 6 117 = some (21, 5, 3) := by decide +kernel
theorem rM_6_120 : rM 6 120 = some (62, 5, 2) := by decide +kernel
theorem rM_6_123 : rM 6 123 = some (61, 5, 2) := by decide +kernel
theorem rM_6_144 : rM 6 144 = some (59, 5, 2) := by decide +kernel
theorem rM_6_147 : rM 6 147 = some (161, 0, 1) := by decide +kernel
theorem rM_6_155 : rM 6 155 = some (60, 5, 1) := by decide +kernel
theorem rM_6_159 : rM 6 159 = some (51, 5, 1) := by decide +kernel
theorem rM_6_169 : rM 6 169 = some (93, 0, 2) := by decide +kernel
theorem rM_6_172 : rM 6 172 = some (11, 5, 3) := by decide +kernel
theorem rM_6_175 : rM 6 175 = some (45, 5, 2) := by decide +kernel
theorem rM_6_178 : rM 6 178 = some (14, 5, 3) := by decide +kernel
theorem rM_6_181 : rM 6 181 = some (15, 5, 1) := by decide +kernel
theorem rM_6_184 : rM 6 184 = some (16, 5, 2) := by decide +kernel
theorem rM_6_187 : rM 6 187 = some (17, 5, 2) := by decide +kernel
theorem rM_6_190 : rM 6 190 = some (27, 1, 1) := by decide +kernel
theorem rM_6_194 : rM 6 194 = some (28, 5, 3) := by decide +kernel
theorem rM_6_198 : rM 6 198 = some (30, 5, 1) := by decide +kernel
theorem rM_6_201 : rM 6 201 = some (29, 5, 1) := by decide +kernel
theorem rM_6_204 : rM 6 204 = some (31, 5, 1) := by decide +kernel
theorem rM_6_208 : rM 6 208 = some (87, 4, 1) := by decide +kernel
theorem rM_6_223 : rM 6 223 = some (25, 5, 2) := by decide +kernel
theorem rM_6_226 : rM 6 226 = some (91, 0, 1) := by decide +kernel
theorem rM_6_229 : rM 6 229 = some (1, 5, 2) := by decide +kernel
theorem rM_7_1 : rM 7 1 = some (0, 9, 1) := by decide +kernel
theorem rM_7_32 : rM 7 32 = some (95, 0, 3) := by decide +kernel
theorem rM_7_40 : rM 7 40 = some (100, 0, 4) := by decide +kernel
theorem rM_7_44 : rM 7 44 = some (101, 4, 1) := by decide +kernel
theorem rM_7_47 : rM 7 47 = some (97, 4, 3) := by decide +kernel
theorem rM_7_51 : rM 7 51 = some (105, 4, 2) := by decide +kernel
theorem rM_7_55 : rM 7 55 = some (106, 4, 2) := by decide +kernel
theorem rM_7_58 : rM 7 58 = some (98, 4, 4) := by decide +kernel
theorem rM_7_62 : rM 7 62 = some (114, 0, 2) := by decide +kernel
theorem rM_7_66 : rM 7 66 = some (112, 4, 3) := by decide +kernel
theorem rM_7_70 : rM 7 70 = some (116, 4, 4) := by decide +kernel
theorem rM_7_74 : rM 7 74 = some (117, 4, 4) := by decide +kernel
theorem rM_7_77 : rM 7 77 = some (96, 0, 1) := by decide +kernel
theorem rM_7_81 : rM 7 81 = some (110, 4, 1) := by decide +kernel
theorem rM_7_85 : rM 7 85 = some (119, 4, 2) := by decide +kernel
theorem rM_7_88 : rM 7 88 = some (111, 4, 3) := by decide +kernel
theorem rM_7_91 : rM 7 91 = some (121, 4, 2) := by decide +kernel
theorem rM_7_94 : rM 7 94 = some (124, 4, 2) := by decide +kernel
theorem rM_7_97 : rM 7 97 = some (123, 4, 4) := by decide +kernel
theorem rM_7_100 : rM 7 100 = some (126, 4, 2) := by decide +kernel
theorem rM_7_103 : rM 7 103 = some (109, 4, 2) := by decide +kernel
theorem rM_7_106 : rM 7 106 = some (113, 4, 1) := by decide +kernel
theorem rM_7_109 : rM 7 109 = some (128, 4, 5) := by decide +kernel
theorem rM_7_113 : rM 7 113 = some (107, 4, 2) := by decide +kernel
theorem rM_7_116 : rM 7 116 = some (125, 4, 5) := by decide +kernel
theorem rM_7_120 : rM 7 120 = some (131, 4, 3) := by decide +kernel
theorem rM_7_123 : rM 7 123 = some (129, 4, 1) := by decide +kernel
theorem rM_7_126 : rM 7 126 = some (127, 4, 3) := by decide +kernel
theorem rM_7_129 : rM 7 129 = some (132, 4, 3) := by decide +kernel
theorem rM_7_132 : rM 7 132 = some (130, 4, 3) := by decide +kernel
theorem rM_7_135 : rM 7 135 = some (99, 4, 2) := by decide +kernel
theorem rM_7_138 : rM 7 138 = some (137, 4, 3) := by decide +kernel
theorem rM_7_141 : rM 7 141 = some (138, 4, 2) := by decide +kernel
theorem rM_7_144 : rM 7 144 = some (108, 4, 2) := by decide +kernel
theorem rM_7_147 : rM 7 147 = some (141, 4, 1) := by decide +kernel
theorem rM_7_153 : rM 7 153 = some (143, 4, 3) := by decide +kernel
theorem rM_7_156 : rM 7 156 = some (147, 4, 3) := by decide +kernel
theorem rM_7_164 : rM 7 164 = some (151, 4, 3) := by decide +kernel
theorem rM_7_167 : rM 7 167 = some (154, 4, 1) := by decide +kernel
theorem rM_7_170 : rM 7 170 = some (153, 4, 2) := by decide +kernel
theorem rM_7_173 : rM 7 173 = some (152, 4, 2) := by decide +kernel
theorem rM_7_179 : rM 7 179 = some (155, 4, 1) := by decide +kernel
theorem rM_7_183 : rM 7 183 = some (156, 4, 1) := by decide +kernel
theorem rM_7_186 : rM 7 186 = some (158, 4, 2) := by decide +kernel
theorem rM_7_189 : rM 7 189 = some (159, 4, 2) := by decide +kernel
theorem rM_8_9 : rM 8 9 = some (65, 2, 1) := by decide +kernel
theorem rM_8_12 : rM 8 12 = some (94, 2, 1) := by decide +kernel
theorem rM_8_13 : rM 8 13 = some (66, 4, 3) := by decide +kernel
theorem rM_8_17 : rM 8 17 = some (115, 4, 3) := by decide +kernel
theorem rM_8_18 : rM 8 18 = some (67, 4, 4) := by decide +kernel
theorem rM_8_22 : rM 8 22 = some (118, 4, 4) := by decide +kernel
theorem rM_8_23 : rM 8 23 = some (68, 4, 2) := by decide +kernel
theorem rM_8_27 : rM 8 27 = some (120, 4, 2) := by decide +kernel
theorem rM_8_28 : rM 8 28 = some (69, 4, 2) := by decide +kernel
theorem rM_8_31 : rM 8 31 = some (122, 4, 2) := by decide +kernel
theorem rM_8_32 : rM 8 32 = some (70, 4, 3) := by decide +kernel
theorem rM_8_35 : rM 8 35 = some (133, 4, 3) := by decide +kernel
theorem rM_8_36 : rM 8 36 = some (72, 4, 3) := by decide +kernel
theorem rM_8_39 : rM 8 39 = some (134, 4, 3) := by decide +kernel
theorem rM_8_40 : rM 8 40 = some (73, 4, 3) := by decide +kernel
theorem rM_8_43 : rM 8 43 = some (135, 4, 3) := by decide +kernel
theorem rM_8_44 : rM 8 44 = some (74, 4, 3) := by decide +kernel
theorem rM_8_47 : rM 8 47 = some (136, 4, 3) := by decide +kernel
theorem rM_8_48 : rM 8 48 = some (75, 4, 2) := by decide +kernel
theorem rM_8_51 : rM 8 51 = some (139, 4, 2) := by decide +kernel
theorem rM_8_52 : rM 8 52 = some (76, 4, 2) := by decide +kernel
theorem rM_8_55 : rM 8 55 = some (140, 4, 2) := by decide +kernel
theorem rM_8_56 : rM 8 56 = some (77, 4, 2) := by decide +kernel
theorem rM_8_59 : rM 8 59 = some (142, 4, 2) := by decide +kernel
theorem rM_8_60 : rM 8 60 = some (78, 4, 3) := by decide +kernel
theorem rM_8_63 : rM 8 63 = some (143, 4, 3) := by decide +kernel
theorem rM_8_64 : rM 8 64 = some (79, 4, 3) := by decide +kernel
theorem rM_8_67 : rM 8 67 = some (144, 4, 3) := by decide +kernel
theorem rM_8_68 : rM 8 68 = some (80, 4, 1) := by decide +kernel
theorem rM_8_72 : rM 8 72 = some (145, 4, 1) := by decide +kernel
theorem rM_8_73 : rM 8 73 = some (81, 4, 1) := by decide +kernel
theorem rM_8_76 : rM 8 76 = some (146, 4, 1) := by decide +kernel
theorem rM_8_77 : rM 8 77 = some (82, 4, 2) := by decide +kernel
theorem rM_8_80 : rM 8 80 = some (148, 4, 2) := by decide +kernel
theorem rM_8_83 : rM 8 83 = some (83, 4, 2) := by decide +kernel
theorem rM_8_87 : rM 8 87 = some (149, 4, 2) := by decide +kernel
theorem rM_8_88 : rM 8 88 = some (84, 4, 1) := by decide +kernel
theorem rM_8_91 : rM 8 91 = some (150, 4, 1) := by decide +kernel
theorem rM_8_92 : rM 8 92 = some (85, 4, 1) := by decide +kernel
theorem rM_8_95 : rM 8 95 = some (157, 4, 1) := by decide +kernel
theorem rM_8_96 : rM 8 96 = some (86, 4, 1) := by decide +kernel
theorem rM_8_99 : rM 8 99 = some (160, 4, 1) := by decide +kernel
theorem rM_8_100 : rM 8 100 = some (88, 4, 1) := by decide +kernel
theorem rM_8_103 : rM 8 103 = some (102, 4, 1) := by decide +kernel
theorem rM_8_104 : rM 8 104 = some (89, 4, 2) := by decide +kernel
theorem rM_8_107 : rM 8 107 = some (103, 4, 2) := by decide +kernel
theorem rM_8_108 : rM 8 108 = some (90, 4, 2) := by decide +kernel
theorem rM_8_111 : rM 8 111 = some (104, 4, 2) := by decide +kernel
theorem rS_0_36 : rS 0 36 = some (1, true) := by decide +kernel
theorem rS_0_77 : rS 0 77 = some (2, true) := by decide +kernel
theorem rS_0_80 : rS 0 80 = some (3, true) := by decide +kernel
theorem rC_0_15 : rC 0 15 = some 5 := by decide +kernel
theorem rC_0_22 : rC 0 22 = some 4 := by decide +kernel
theorem rC_0_29 : rC 0 29 = some 1 := by decide +kernel
theorem rC_2_9 : rC 2 9 = some 0 := by decide +kernel
theorem rC_6_7 : rC 6 7 = some 0 := by decide +kernel
theorem rC_6_24 : rC 6 24 = some 2 := by decide +kernel
theorem rC_6_31 : rC 6 31 = some 3 := by decide +kernel
theorem rC_8_7 : rC 8 7 = some 6 := by decide +kernel
theorem rC_8_10 : rC 8 10 = some 7 := by decide +kernel
theorem rJ_3_15 : rJ 3 15 = some 255 := by decide +kernel
theorem rJ_3_17 : rJ 3 17 = some 33 := by decide +kernel
theorem rJ_3_19 : rJ 3 19 = some 126 := by decide +kernel
theorem rJ_8_81 : rJ 8 81 = some 4294967295 := by decide +kernel
theorem rJ_7_159 : rJ 7 159 = some 255 := by decide +kernel
theorem rI_9_265 : rI 9 265 = some 1431655765 := by decide +kernel
theorem rI_9_266 : rI 9 266 = some 858993459 := by decide +kernel
theorem rI_9_267 : rI 9 267 = some 252645135 := by decide +kernel
theorem ft_0_0 : ftC 0 0 = .array .int := rfl
theorem fn_0_0 : fnC 0 0 = true := rfl
theorem ft_0_1 : ftC 0 1 = .object "ClawCranes$Prizes" := rfl
theorem fn_0_1 : fnC 0 1 = true := rfl
theorem ft_0_2 : ftC 0 2 = .object "ClawCranes$Pit" := rfl
theorem fn_0_2 : fnC 0 2 = true := rfl
theorem ft_0_3 : ftC 0 3 = .object "ClawCranes$Diary" := rfl
theorem fn_0_3 : fnC 0 3 = true := rfl
theorem ft_0_4 : ftC 0 4 = .int := rfl
theorem fn_0_4 : fnC 0 4 = false := rfl
theorem ft_0_5 : ftC 0 5 = .int := rfl
theorem fn_0_5 : fnC 0 5 = false := rfl
theorem ft_0_6 : ftC 0 6 = .int := rfl
theorem fn_0_6 : fnC 0 6 = false := rfl
theorem ft_0_7 : ftC 0 7 = .int := rfl
theorem fn_0_7 : fnC 0 7 = false := rfl
theorem ft_0_8 : ftC 0 8 = .int := rfl
theorem fn_0_8 : fnC 0 8 = false := rfl
theorem ft_0_9 : ftC 0 9 = .int := rfl
theorem fn_0_9 : fnC 0 9 = false := rfl
theorem ft_0_10 : ftC 0 10 = .int := rfl
theorem fn_0_10 : fnC 0 10 = false := rfl
theorem ft_1_0 : ftC 1 0 = .array .int := rfl
theorem fn_1_0 : fnC 1 0 = true := rfl
theorem ft_1_1 : ftC 1 1 = .int := rfl
theorem fn_1_1 : fnC 1 1 = false := rfl
theorem ft_1_2 : ftC 1 2 = .int := rfl
theorem fn_1_2 : fnC 1 2 = false := rfl
theorem ft_2_0 : ftC 2 0 = .array (.object "ClawCranes$Crane") := rfl
theorem fn_2_0 : fnC 2 0 = true := rfl
theorem ft_2_1 : ftC 2 1 = .int := rfl
theorem fn_2_1 : fnC 2 1 = false := rfl
theorem ft_2_2 : ftC 2 2 = .int := rfl
theorem fn_2_2 : fnC 2 2 = false := rfl
theorem ft_3_0 : ftC 3 0 = .array .char := rfl
theorem fn_3_0 : fnC 3 0 = true := rfl
theorem ft_3_1 : ftC 3 1 = .int := rfl
theorem fn_3_1 : fnC 3 1 = false := rfl
theorem ft_3_2 : ftC 3 2 = .int := rfl
theorem fn_3_2 : fnC 3 2 = false := rfl
theorem ft_3_3 : ftC 3 3 = .boolean := rfl
theorem fn_3_3 : fnC 3 3 = false := rfl
theorem ft_3_4 : ftC 3 4 = .int := rfl
theorem fn_3_4 : fnC 3 4 = false := rfl
theorem ft_3_5 : ftC 3 5 = .int := rfl
theorem fn_3_5 : fnC 3 5 = false := rfl
theorem ft_3_6 : ftC 3 6 = .int := rfl
theorem fn_3_6 : fnC 3 6 = false := rfl
theorem ft_3_7 : ftC 3 7 = .int := rfl
theorem fn_3_7 : fnC 3 7 = false := rfl
theorem ft_4_0 : ftC 4 0 = .array .int := rfl
theorem fn_4_0 : fnC 4 0 = true := rfl
theorem ft_4_1 : ftC 4 1 = .array .int := rfl
theorem fn_4_1 : fnC 4 1 = true := rfl
theorem ft_5_0 : ftC 5 0 = .array .int := rfl
theorem fn_5_0 : fnC 5 0 = true := rfl
theorem ft_5_1 : ftC 5 1 = .array .int := rfl
theorem fn_5_1 : fnC 5 1 = true := rfl
theorem ft_5_2 : ftC 5 2 = .array .int := rfl
theorem fn_5_2 : fnC 5 2 = true := rfl
theorem ft_5_3 : ftC 5 3 = .array .int := rfl
theorem fn_5_3 : fnC 5 3 = true := rfl
theorem ft_5_4 : ftC 5 4 = .array .int := rfl
theorem fn_5_4 : fnC 5 4 = true := rfl
theorem ft_5_5 : ftC 5 5 = .int := rfl
theorem fn_5_5 : fnC 5 5 = false := rfl
theorem ft_5_6 : ftC 5 6 = .int := rfl
theorem fn_5_6 : fnC 5 6 = false := rfl
theorem ft_6_0 : ftC 6 0 = .object "ClawCranes$Crane" := rfl
theorem fn_6_0 : fnC 6 0 = true := rfl
theorem ft_6_1 : ftC 6 1 = .array (.object "ClawCranes$Crane") := rfl
theorem fn_6_1 : fnC 6 1 = true := rfl
theorem ft_6_2 : ftC 6 2 = .array .boolean := rfl
theorem fn_6_2 : fnC 6 2 = true := rfl
theorem ft_6_3 : ftC 6 3 = .object "ClawCranes$History" := rfl
theorem fn_6_3 : fnC 6 3 = true := rfl
theorem ft_6_4 : ftC 6 4 = .object "ClawCranes$Pad" := rfl
theorem fn_6_4 : fnC 6 4 = true := rfl
theorem ft_7_0 : ftC 7 0 = .array .int := rfl
theorem fn_7_0 : fnC 7 0 = true := rfl
theorem ft_7_1 : ftC 7 1 = .array .int := rfl
theorem fn_7_1 : fnC 7 1 = true := rfl
theorem ft_7_2 : ftC 7 2 = .array .int := rfl
theorem fn_7_2 : fnC 7 2 = true := rfl
theorem ft_7_3 : ftC 7 3 = .int := rfl
theorem fn_7_3 : fnC 7 3 = false := rfl
theorem ft_7_4 : ftC 7 4 = .array .int := rfl
theorem fn_7_4 : fnC 7 4 = true := rfl
theorem ft_7_5 : ftC 7 5 = .array .boolean := rfl
theorem fn_7_5 : fnC 7 5 = true := rfl
theorem ft_7_6 : ftC 7 6 = .array .int := rfl
theorem fn_7_6 : fnC 7 6 = true := rfl
theorem ft_7_7 : ftC 7 7 = .int := rfl
theorem fn_7_7 : fnC 7 7 = false := rfl
theorem ft_7_8 : ftC 7 8 = .int := rfl
theorem fn_7_8 : fnC 7 8 = false := rfl
theorem ft_7_9 : ftC 7 9 = .array .int := rfl
theorem fn_7_9 : fnC 7 9 = true := rfl
theorem ft_7_10 : ftC 7 10 = .int := rfl
theorem fn_7_10 : fnC 7 10 = false := rfl
theorem lg_0 {x0 : Value} {l : List Value} : (x0 :: l)[0]? = some x0 := rfl
theorem lg_1 {x0 x1 : Value} {l : List Value} : (x0 :: x1 :: l)[1]? = some x1 := rfl
theorem lg_2 {x0 x1 x2 : Value} {l : List Value} : (x0 :: x1 :: x2 :: l)[2]? = some x2 := rfl
theorem lg_3 {x0 x1 x2 x3 : Value} {l : List Value} : (x0 :: x1 :: x2 :: x3 :: l)[3]? = some x3 := rfl
theorem lg_4 {x0 x1 x2 x3 x4 : Value} {l : List Value} : (x0 :: x1 :: x2 :: x3 :: x4 :: l)[4]? = some x4 := rfl
theorem lg_5 {x0 x1 x2 x3 x4 x5 : Value} {l : List Value} : (x0 :: x1 :: x2 :: x3 :: x4 :: x5 :: l)[5]? = some x5 := rfl
theorem lg_6 {x0 x1 x2 x3 x4 x5 x6 : Value} {l : List Value} : (x0 :: x1 :: x2 :: x3 :: x4 :: x5 :: x6 :: l)[6]? = some x6 := rfl
theorem lg_7 {x0 x1 x2 x3 x4 x5 x6 x7 : Value} {l : List Value} : (x0 :: x1 :: x2 :: x3 :: x4 :: x5 :: x6 :: x7 :: l)[7]? = some x7 := rfl
theorem ls_0 {x0 v : Value} {l : List Value} : (x0 :: l).set 0 v = v :: l := rfl
theorem ls_1 {x0 x1 v : Value} {l : List Value} : (x0 :: x1 :: l).set 1 v = x0 :: v :: l := rfl
theorem ls_2 {x0 x1 x2 v : Value} {l : List Value} : (x0 :: x1 :: x2 :: l).set 2 v = x0 :: x1 :: v :: l := rfl
theorem ls_3 {x0 x1 x2 x3 v : Value} {l : List Value} : (x0 :: x1 :: x2 :: x3 :: l).set 3 v = x0 :: x1 :: x2 :: v :: l := rfl
theorem ls_4 {x0 x1 x2 x3 x4 v : Value} {l : List Value} : (x0 :: x1 :: x2 :: x3 :: x4 :: l).set 4 v = x0 :: x1 :: x2 :: x3 :: v :: l := rfl
theorem ls_5 {x0 x1 x2 x3 x4 x5 v : Value} {l : List Value} : (x0 :: x1 :: x2 :: x3 :: x4 :: x5 :: l).set 5 v = x0 :: x1 :: x2 :: x3 :: x4 :: v :: l := rfl
theorem ls_6 {x0 x1 x2 x3 x4 x5 x6 v : Value} {l : List Value} : (x0 :: x1 :: x2 :: x3 :: x4 :: x5 :: x6 :: l).set 6 v = x0 :: x1 :: x2 :: x3 :: x4 :: x5 :: v :: l := rfl
theorem ls_7 {x0 x1 x2 x3 x4 x5 x6 x7 v : Value} {l : List Value} : (x0 :: x1 :: x2 :: x3 :: x4 :: x5 :: x6 :: x7 :: l).set 7 v = x0 :: x1 :: x2 :: x3 :: x4 :: x5 :: x6 :: v :: l := rfl
theorem lg_8 {x0 x1 x2 x3 x4 x5 x6 x7 x8 : Value} {l : List Value} : (x0 :: x1 :: x2 :: x3 :: x4 :: x5 :: x6 :: x7 :: x8 :: l)[8]? = some x8 := rfl
theorem ls_8 {x0 x1 x2 x3 x4 x5 x6 x7 x8 v : Value} {l : List Value} : (x0 :: x1 :: x2 :: x3 :: x4 :: x5 :: x6 :: x7 :: x8 :: l).set 8 v = x0 :: x1 :: x2 :: x3 :: x4 :: x5 :: x6 :: x7 :: v :: l := rfl
theorem lg_9 {x0 x1 x2 x3 x4 x5 x6 x7 x8 x9 : Value} {l : List Value} : (x0 :: x1 :: x2 :: x3 :: x4 :: x5 :: x6 :: x7 :: x8 :: x9 :: l)[9]? = some x9 := rfl
theorem ls_9 {x0 x1 x2 x3 x4 x5 x6 x7 x8 x9 v : Value} {l : List Value} : (x0 :: x1 :: x2 :: x3 :: x4 :: x5 :: x6 :: x7 :: x8 :: x9 :: l).set 9 v = x0 :: x1 :: x2 :: x3 :: x4 :: x5 :: x6 :: x7 :: x8 :: v :: l := rfl
theorem lg_10 {x0 x1 x2 x3 x4 x5 x6 x7 x8 x9 x10 : Value} {l : List Value} : (x0 :: x1 :: x2 :: x3 :: x4 :: x5 :: x6 :: x7 :: x8 :: x9 :: x10 :: l)[10]? = some x10 := rfl
theorem ls_10 {x0 x1 x2 x3 x4 x5 x6 x7 x8 x9 x10 v : Value} {l : List Value} : (x0 :: x1 :: x2 :: x3 :: x4 :: x5 :: x6 :: x7 :: x8 :: x9 :: x10 :: l).set 10 v = x0 :: x1 :: x2 :: x3 :: x4 :: x5 :: x6 :: x7 :: x8 :: x9 :: v :: l := rfl
theorem st_0 {x0 v : Value} {l : List Value} : sto 0 v (x0 :: l) = v :: l := rfl
theorem st_1 {x0 x1 v : Value} {l : List Value} : sto 1 v (x0 :: x1 :: l) = clr x0 :: v :: l := rfl
theorem st_2 {x0 x1 x2 v : Value} {l : List Value} : sto 2 v (x0 :: x1 :: x2 :: l) = x0 :: clr x1 :: v :: l := rfl
theorem st_3 {x0 x1 x2 x3 v : Value} {l : List Value} : sto 3 v (x0 :: x1 :: x2 :: x3 :: l) = x0 :: x1 :: clr x2 :: v :: l := rfl
theorem st_4 {x0 x1 x2 x3 x4 v : Value} {l : List Value} : sto 4 v (x0 :: x1 :: x2 :: x3 :: x4 :: l) = x0 :: x1 :: x2 :: clr x3 :: v :: l := rfl
theorem st_5 {x0 x1 x2 x3 x4 x5 v : Value} {l : List Value} : sto 5 v (x0 :: x1 :: x2 :: x3 :: x4 :: x5 :: l) = x0 :: x1 :: x2 :: x3 :: clr x4 :: v :: l := rfl
theorem st_6 {x0 x1 x2 x3 x4 x5 x6 v : Value} {l : List Value} : sto 6 v (x0 :: x1 :: x2 :: x3 :: x4 :: x5 :: x6 :: l) = x0 :: x1 :: x2 :: x3 :: x4 :: clr x5 :: v :: l := rfl
theorem clr_i {x : Int32} : clr (.int x) = .int x := rfl
theorem clr_j {x : Int64} : clr (.long x) = .null := rfl
theorem clr_r {x : Nat} : clr (.ref x) = .ref x := rfl
theorem clr_n : clr .null = .null := rfl
theorem cat_i {x : Int32} : (Value.int x).category = 1 := rfl
theorem cat_r {x : Nat} : (Value.ref x).category = 1 := rfl
theorem isI_t {x : Int32} : isI (some (.int x)) = True := rfl
theorem isJ_t {x : Int64} : isJ (some (.long x)) = True := rfl
theorem isA_t {x : Nat} : isA (some (.ref x)) = True := rfl
theorem vI_t {x : Value} : vI (some x) = x := rfl
theorem nI32_t {x : Int32} : nI32 (some (.int x)) = x := rfl
theorem isF_t {c ci k : Nat} {fs : List Value} : isF (some (.inr (.inr (c, fs)))) ci k = (c = ci ∧ k < fs.length) := rfl
theorem gF_t {c k : Nat} {fs : List Value} : gF (some (.inr (.inr (c, fs)))) k = vI fs[k]? := rfl
theorem sF_t {c k : Nat} {fs : List Value} {v : Value} : sF (some (.inr (.inr (c, fs)))) k v = some (.inr (.inr (c, fs.set k v))) := rfl
theorem isO_t {c ci : Nat} {fs : List Value} : isO (some (.inr (.inr (c, fs)))) ci = (c = ci) := rfl
theorem isP_t {q len k : Nat} {f : Nat → Int32} {i : Int32} : isP (some (.inl ((q, len), f))) k i = (q = k ∧ vp_in i len) := rfl
theorem isP0_t {q len : Nat} {f : Nat → Int32} {i : Int32} : isP0 (some (.inl ((q, len), f))) i = ((q = 0 ∨ q = 4) ∧ vp_in i len) := rfl
theorem gE_t {h : Nat × Nat} {f : Nat → Int32} {j : Nat} : gE (some (.inl (h, f))) j = f j := rfl
theorem sE_t {h : Nat × Nat} {f : Nat → Int32} {j : Nat} {x : Int32} : sE (some (.inl (h, f))) j x = some (.inl (h, upd f j x)) := rfl
theorem isR_t {len : Nat} {g : Nat → Option Nat} {i : Int32} : isR (some (.inr (.inl (len, g)))) i = vp_in i len := rfl
theorem gO_t {len : Nat} {g : Nat → Option Nat} {j : Nat} : gO (some (.inr (.inl (len, g)))) j = g j := rfl
theorem sO_t {len : Nat} {g : Nat → Option Nat} {j v : Nat} : sO (some (.inr (.inl (len, g)))) j v = some (.inr (.inl (len, va_up g j (some v)))) := rfl
theorem isS_t {v : Nat} : isS (some v) = True := rfl
theorem vS_t {v : Nat} : vS (some v) = v := rfl
theorem isSc_t {len : Nat} {f : Nat → Int32} : isSc (some (.inl ((4, len), f))) = True := rfl
theorem nSc_t {h len : Nat} {f : Nat → Int32} : nSc (some (.inl ((h, len), f))) = Int32.ofNat len := rfl
theorem isCp_t {k0 n0 k1 n1 : Nat} {f g : Nat → Int32} {sp dp n : Int32} : isCp (some (.inl ((k0, n0), f))) (some (.inl ((k1, n1), g))) sp dp n = ((k0 = 0 ∨ k0 = 4) ∧ k1 = 0 ∧ ¬ sp < 0 ∧ ¬ dp < 0 ∧ ¬ n < 0 ∧ sp.toNatClampNeg + n.toNatClampNeg ≤ n0 ∧ dp.toNatClampNeg + n.toNatClampNeg ≤ n1) := rfl
theorem cpE_t {h0 h : Nat × Nat} {f g : Nat → Int32} {sp dp n : Int32} : cpE (some (.inl (h0, f))) (some (.inl (h, g))) sp dp n = some (.inl (h, va_cpy f g sp.toNatClampNeg dp.toNatClampNeg n.toNatClampNeg)) := rfl
theorem pok_i {x : Int32} : pok .int (.int x) = True := by simp [pok, narrow, fits]
theorem pok_o {x : Nat} {C : String} : pok (.object C) (.ref x) = True := by simp [pok, narrow, fits]
theorem pok_a {x : Nat} {ty : FieldType} : pok (.array ty) (.ref x) = True := by simp [pok, narrow, fits]
theorem pok_0 : pok .boolean (.int 0) = True := eq_true (by unfold pok; decide +kernel)
theorem pok_1 : pok .boolean (.int 1) = True := eq_true (by unfold pok; decide +kernel)
theorem ret_i {x : Int32} : (∃ ty, some FieldType.int = some ty ∧ narrow ty (.int x) = .int x) = True := eq_true ⟨_, rfl, rfl⟩
theorem ret_0 : (∃ ty, some FieldType.boolean = some ty ∧ narrow ty (.int 0) = .int 0) = True := eq_true ⟨_, rfl, by decide +kernel⟩
theorem ret_1 : (∃ ty, some FieldType.boolean = some ty ∧ narrow ty (.int 1) = .int 1) = True := eq_true ⟨_, rfl, by decide +kernel⟩
theorem ret_v : ((none : Option FieldType) = none) = True := eq_self _
theorem up_e {w : Wd} {i : Nat} {e : Option En} : va_up w i e i = e := if_pos rfl
theorem up_n {w : Wd} {i j : Nat} {e : Option En} (h : ¬ j = i) : va_up w i e j = w j := if_neg h
theorem kk0 {mi na kd : Nat} : kkd 0 (some (mi, kd, na)) = (kd = 2 ∨ kd = 3 ∨ kd = 9) := rfl
theorem kk1 {mi na kd : Nat} : kkd 1 (some (mi, kd, na)) = (kd = 4 ∨ kd = 5) := rfl
theorem kk2 {mi na kd : Nat} : kkd 2 (some (mi, kd, na)) = (kd = 0 ∨ kd = 1 ∨ kd = 10 ∨ kd = 11 ∨ kd = 12) := rfl
theorem vpl {k n : Nat} (h : k < n) (hn : n < 2147483648) : vp_in (nI k) n := vp_in_nI h (by omega)
theorem tn_0 : (0 : Int32).toNatClampNeg = 0 := rfl
theorem tn_1 : (1 : Int32).toNatClampNeg = 1 := rfl
theorem tn_2 : (2 : Int32).toNatClampNeg = 2 := rfl
theorem tn_3 : (3 : Int32).toNatClampNeg = 3 := rfl
theorem tn_4 : (4 : Int32).toNatClampNeg = 4 := rfl
theorem tn_5 : (5 : Int32).toNatClampNeg = 5 := rfl
theorem tn_6 : (6 : Int32).toNatClampNeg = 6 := rfl
theorem tn_7 : (7 : Int32).toNatClampNeg = 7 := rfl
theorem tn_8 : (8 : Int32).toNatClampNeg = 8 := rfl
theorem tn_9 : (9 : Int32).toNatClampNeg = 9 := rfl
theorem tn_10 : (10 : Int32).toNatClampNeg = 10 := rfl
theorem tn_11 : (11 : Int32).toNatClampNeg = 11 := rfl
theorem tn_12 : (12 : Int32).toNatClampNeg = 12 := rfl
theorem tn_13 : (13 : Int32).toNatClampNeg = 13 := rfl
theorem tn_14 : (14 : Int32).toNatClampNeg = 14 := rfl
theorem tn_15 : (15 : Int32).toNatClampNeg = 15 := rfl
theorem tn_16 : (16 : Int32).toNatClampNeg = 16 := rfl
theorem tn_17 : (17 : Int32).toNatClampNeg = 17 := rfl
theorem tn_18 : (18 : Int32).toNatClampNeg = 18 := rfl
theorem tn_19 : (19 : Int32).toNatClampNeg = 19 := rfl
theorem tn_20 : (20 : Int32).toNatClampNeg = 20 := rfl
theorem tn_21 : (21 : Int32).toNatClampNeg = 21 := rfl
theorem tn_22 : (22 : Int32).toNatClampNeg = 22 := rfl
theorem tn_23 : (23 : Int32).toNatClampNeg = 23 := rfl
