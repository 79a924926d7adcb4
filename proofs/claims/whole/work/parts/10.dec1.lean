/-! the methods decoded -/
theorem e_94_0 : dec prog_9_method_1_code 0 = some (.aload_n 0, 1, 0, 0) := by decide +kernel
theorem e_94_1 : dec prog_9_method_1_code 1 = some (.invokespecial 1, 4, 0, 0) := by decide +kernel
theorem e_94_4 : dec prog_9_method_1_code 4 = some (.aload_n 0, 5, 0, 0) := by decide +kernel
theorem e_94_5 : dec prog_9_method_1_code 5 = some (.sipush 201, 8, 0, 201) := by decide +kernel
theorem e_94_8 : dec prog_9_method_1_code 8 = some (.newarray .int, 10, 0, 0) := by decide +kernel
theorem e_94_10 : dec prog_9_method_1_code 10 = some (.putfield 7, 13, 0, 0) := by decide +kernel
theorem e_94_13 : dec prog_9_method_1_code 13 = some (.aload_n 0, 14, 0, 0) := by decide +kernel
theorem e_94_14 : dec prog_9_method_1_code 14 = some (.sipush 201, 17, 0, 201) := by decide +kernel
theorem e_94_17 : dec prog_9_method_1_code 17 = some (.newarray .int, 19, 0, 0) := by decide +kernel
theorem e_94_19 : dec prog_9_method_1_code 19 = some (.putfield 13, 22, 0, 0) := by decide +kernel
theorem e_94_22 : dec prog_9_method_1_code 22 = some (.aload_n 0, 23, 0, 0) := by decide +kernel
theorem e_94_23 : dec prog_9_method_1_code 23 = some (.sipush 1206, 26, 0, 1206) := by decide +kernel
theorem e_94_26 : dec prog_9_method_1_code 26 = some (.newarray .int, 28, 0, 0) := by decide +kernel
theorem e_94_28 : dec prog_9_method_1_code 28 = some (.putfield 16, 31, 0, 0) := by decide +kernel
theorem e_94_31 : dec prog_9_method_1_code 31 = some (.aload_n 0, 32, 0, 0) := by decide +kernel
theorem e_94_32 : dec prog_9_method_1_code 32 = some (.sipush 402, 35, 0, 402) := by decide +kernel
theorem e_94_35 : dec prog_9_method_1_code 35 = some (.newarray .int, 37, 0, 0) := by decide +kernel
theorem e_94_37 : dec prog_9_method_1_code 37 = some (.putfield 19, 40, 0, 0) := by decide +kernel
theorem e_94_40 : dec prog_9_method_1_code 40 = some (.aload_n 0, 41, 0, 0) := by decide +kernel
theorem e_94_41 : dec prog_9_method_1_code 41 = some (.iconst 2, 42, 0, 2) := by decide +kernel
theorem e_94_42 : dec prog_9_method_1_code 42 = some (.newarray .boolean, 44, 0, 0) := by decide +kernel
theorem e_94_44 : dec prog_9_method_1_code 44 = some (.putfield 22, 47, 0, 0) := by decide +kernel
theorem e_94_47 : dec prog_9_method_1_code 47 = some (.aload_n 0, 48, 0, 0) := by decide +kernel
theorem e_94_48 : dec prog_9_method_1_code 48 = some (.bipush 80, 50, 0, 80) := by decide +kernel
theorem e_94_50 : dec prog_9_method_1_code 50 = some (.newarray .int, 52, 0, 0) := by decide +kernel
theorem e_94_52 : dec prog_9_method_1_code 52 = some (.putfield 26, 55, 0, 0) := by decide +kernel
theorem e_94_55 : dec prog_9_method_1_code 55 = some (.aload_n 0, 56, 0, 0) := by decide +kernel
theorem e_94_56 : dec prog_9_method_1_code 56 = some (.sipush 164, 59, 0, 164) := by decide +kernel
theorem e_94_59 : dec prog_9_method_1_code 59 = some (.newarray .int, 61, 0, 0) := by decide +kernel
theorem e_94_61 : dec prog_9_method_1_code 61 = some (.putfield 29, 64, 0, 0) := by decide +kernel
theorem e_94_64 : dec prog_9_method_1_code 64 = some (.aload_n 0, 65, 0, 0) := by decide +kernel
theorem e_94_65 : dec prog_9_method_1_code 65 = some (.getfield 7, 68, 0, 0) := by decide +kernel
theorem e_94_68 : dec prog_9_method_1_code 68 = some (.iconst 0, 69, 0, 0) := by decide +kernel
theorem e_94_69 : dec prog_9_method_1_code 69 = some (.iconst 2, 70, 0, 2) := by decide +kernel
theorem e_94_70 : dec prog_9_method_1_code 70 = some (.iastore, 71, 0, 0) := by decide +kernel
theorem e_94_71 : dec prog_9_method_1_code 71 = some (.aload_n 0, 72, 0, 0) := by decide +kernel
theorem e_94_72 : dec prog_9_method_1_code 72 = some (.getfield 7, 75, 0, 0) := by decide +kernel
theorem e_94_75 : dec prog_9_method_1_code 75 = some (.iconst 1, 76, 0, 1) := by decide +kernel
theorem e_94_76 : dec prog_9_method_1_code 76 = some (.bipush 20, 78, 0, 20) := by decide +kernel
theorem e_94_78 : dec prog_9_method_1_code 78 = some (.iastore, 79, 0, 0) := by decide +kernel
theorem e_94_79 : dec prog_9_method_1_code 79 = some (.aload_n 0, 80, 0, 0) := by decide +kernel
theorem e_94_80 : dec prog_9_method_1_code 80 = some (.getfield 7, 83, 0, 0) := by decide +kernel
theorem e_94_83 : dec prog_9_method_1_code 83 = some (.iconst 2, 84, 0, 2) := by decide +kernel
theorem e_94_84 : dec prog_9_method_1_code 84 = some (.bipush 12, 86, 0, 12) := by decide +kernel
theorem e_94_86 : dec prog_9_method_1_code 86 = some (.iastore, 87, 0, 0) := by decide +kernel
theorem e_94_87 : dec prog_9_method_1_code 87 = some (.aload_n 0, 88, 0, 0) := by decide +kernel
theorem e_94_88 : dec prog_9_method_1_code 88 = some (.getfield 7, 91, 0, 0) := by decide +kernel
theorem e_94_91 : dec prog_9_method_1_code 91 = some (.iconst 3, 92, 0, 3) := by decide +kernel
theorem e_94_92 : dec prog_9_method_1_code 92 = some (.bipush 45, 94, 0, 45) := by decide +kernel
theorem e_94_94 : dec prog_9_method_1_code 94 = some (.iastore, 95, 0, 0) := by decide +kernel
theorem e_94_95 : dec prog_9_method_1_code 95 = some (.aload_n 0, 96, 0, 0) := by decide +kernel
theorem e_94_96 : dec prog_9_method_1_code 96 = some (.getfield 7, 99, 0, 0) := by decide +kernel
theorem e_94_99 : dec prog_9_method_1_code 99 = some (.iconst 4, 100, 0, 4) := by decide +kernel
theorem e_94_100 : dec prog_9_method_1_code 100 = some (.iconst 3, 101, 0, 3) := by decide +kernel
theorem e_94_101 : dec prog_9_method_1_code 101 = some (.iastore, 102, 0, 0) := by decide +kernel
theorem e_94_102 : dec prog_9_method_1_code 102 = some (.aload_n 0, 103, 0, 0) := by decide +kernel
theorem e_94_103 : dec prog_9_method_1_code 103 = some (.getfield 7, 106, 0, 0) := by decide +kernel
theorem e_94_106 : dec prog_9_method_1_code 106 = some (.iconst 5, 107, 0, 5) := by decide +kernel
theorem e_94_107 : dec prog_9_method_1_code 107 = some (.iconst 2, 108, 0, 2) := by decide +kernel
theorem e_94_108 : dec prog_9_method_1_code 108 = some (.iastore, 109, 0, 0) := by decide +kernel
theorem e_94_109 : dec prog_9_method_1_code 109 = some (.return_, 110, 0, 0) := by decide +kernel
theorem E_94 : dec prog_9_method_1_code 0 = some (.aload_n 0, 1, 0, 0) ∧ dec prog_9_method_1_code 1 = some (.invokespecial 1, 4, 0, 0) ∧ dec prog_9_method_1_code 4 = some (.aload_n 0, 5, 0, 0) ∧ dec prog_9_method_1_code 5 = some (.sipush 201, 8, 0, 201) ∧ dec prog_9_method_1_code 8 = some (.newarray .int, 10, 0, 0) ∧ dec prog_9_method_1_code 10 = some (.putfield 7, 13, 0, 0) ∧ dec prog_9_method_1_code 13 = some (.aload_n 0, 14, 0, 0) ∧ dec prog_9_method_1_code 14 = some (.sipush 201, 17, 0, 201) ∧ dec prog_9_method_1_code 17 = some (.newarray .int, 19, 0, 0) ∧ dec prog_9_method_1_code 19 = some (.putfield 13, 22, 0, 0) ∧ dec prog_9_method_1_code 22 = some (.aload_n 0, 23, 0, 0) ∧ dec prog_9_method_1_code 23 = some (.sipush 1206, 26, 0, 1206) ∧ dec prog_9_method_1_code 26 = some (.newarray .int, 28, 0, 0) ∧ dec prog_9_method_1_code 28 = some (.putfield 16, 31, 0, 0) ∧ dec prog_9_method_1_code 31 = some (.aload_n 0, 32, 0, 0) ∧ dec prog_9_method_1_code 32 = some (.sipush 402, 35, 0, 402) ∧ dec prog_9_method_1_code 35 = some (.newarray .int, 37, 0, 0) ∧ dec prog_9_method_1_code 37 = some (.putfield 19, 40, 0, 0) ∧ dec prog_9_method_1_code 40 = some (.aload_n 0, 41, 0, 0) ∧ dec prog_9_method_1_code 41 = some (.iconst 2, 42, 0, 2) ∧ dec prog_9_method_1_code 42 = some (.newarray .boolean, 44, 0, 0) ∧ dec prog_9_method_1_code 44 = some (.putfield 22, 47, 0, 0) ∧ dec prog_9_method_1_code 47 = some (.aload_n 0, 48, 0, 0) ∧ dec prog_9_method_1_code 48 = some (.bipush 80, 50, 0, 80) ∧ dec prog_9_method_1_code 50 = some (.newarray .int, 52, 0, 0) ∧ dec prog_9_method_1_code 52 = some (.putfield 26, 55, 0, 0) ∧ dec prog_9_method_1_code 55 = some (.aload_n 0, 56, 0, 0) ∧ dec prog_9_method_1_code 56 = some (.sipush 164, 59, 0, 164) ∧ dec prog_9_method_1_code 59 = some (.newarray .int, 61, 0, 0) ∧ dec prog_9_method_1_code 61 = some (.putfield 29, 64, 0, 0) ∧ dec prog_9_method_1_code 64 = some (.aload_n 0, 65, 0, 0) ∧ dec prog_9_method_1_code 65 = some (.getfield 7, 68, 0, 0) ∧ dec prog_9_method_1_code 68 = some (.iconst 0, 69, 0, 0) ∧ dec prog_9_method_1_code 69 = some (.iconst 2, 70, 0, 2) ∧ dec prog_9_method_1_code 70 = some (.iastore, 71, 0, 0) ∧ dec prog_9_method_1_code 71 = some (.aload_n 0, 72, 0, 0) ∧ dec prog_9_method_1_code 72 = some (.getfield 7, 75, 0, 0) ∧ dec prog_9_method_1_code 75 = some (.iconst 1, 76, 0, 1) ∧ dec prog_9_method_1_code 76 = some (.bipush 20, 78, 0, 20) ∧ dec prog_9_method_1_code 78 = some (.iastore, 79, 0, 0) ∧ dec prog_9_method_1_code 79 = some (.aload_n 0, 80, 0, 0) ∧ dec prog_9_method_1_code 80 = some (.getfield 7, 83, 0, 0) ∧ dec prog_9_method_1_code 83 = some (.iconst 2, 84, 0, 2) ∧ dec prog_9_method_1_code 84 = some (.bipush 12, 86, 0, 12) ∧ dec prog_9_method_1_code 86 = some (.iastore, 87, 0, 0) ∧ dec prog_9_method_1_code 87 = some (.aload_n 0, 88, 0, 0) ∧ dec prog_9_method_1_code 88 = some (.getfield 7, 91, 0, 0) ∧ dec prog_9_method_1_code 91 = some (.iconst 3, 92, 0, 3) ∧ dec prog_9_method_1_code 92 = some (.bipush 45, 94, 0, 45) ∧ dec prog_9_method_1_code 94 = some (.iastore, 95, 0, 0) ∧ dec prog_9_method_1_code 95 = some (.aload_n 0, 96, 0, 0) ∧ dec prog_9_method_1_code 96 = some (.getfield 7, 99, 0, 0) ∧ dec prog_9_method_1_code 99 = some (.iconst 4, 100, 0, 4) ∧ dec prog_9_method_1_code 100 = some (.iconst 3, 101, 0, 3) ∧ dec prog_9_method_1_code 101 = some (.iastore, 102, 0, 0) ∧ dec prog_9_method_1_code 102 = some (.aload_n 0, 103, 0, 0) ∧ dec prog_9_method_1_code 103 = some (.getfield 7, 106, 0, 0) ∧ dec prog_9_method_1_code 106 = some (.iconst 5, 107, 0, 5) ∧ dec prog_9_method_1_code 107 = some (.iconst 2, 108, 0, 2) ∧ dec prog_9_method_1_code 108 = some (.iastore, 109, 0, 0) ∧ dec prog_9_method_1_code 109 = some (.return_, 110, 0, 0) := ⟨e_94_0, e_94_1, e_94_4, e_94_5, e_94_8, e_94_10, e_94_13, e_94_14, e_94_17, e_94_19, e_94_22, e_94_23, e_94_26, e_94_28, e_94_31, e_94_32, e_94_35, e_94_37, e_94_40, e_94_41, e_94_42, e_94_44, e_94_47, e_94_48, e_94_50, e_94_52, e_94_55, e_94_56, e_94_59, e_94_61, e_94_64, e_94_65, e_94_68, e_94_69, e_94_70, e_94_71, e_94_72, e_94_75, e_94_76, e_94_78, e_94_79, e_94_80, e_94_83, e_94_84, e_94_86, e_94_87, e_94_88, e_94_91, e_94_92, e_94_94, e_94_95, e_94_96, e_94_99, e_94_100, e_94_101, e_94_102, e_94_103, e_94_106, e_94_107, e_94_108, e_94_109⟩
theorem e_95_0 : dec prog_9_method_2_code 0 = some (.iload_n 0, 1, 0, 0) := by decide +kernel
theorem e_95_1 : dec prog_9_method_2_code 1 = some (.iload_n 1, 2, 1, 0) := by decide +kernel
theorem e_95_2 : dec prog_9_method_2_code 2 = some (.if_icmp .lt 12, 5, 14, 0) := by decide +kernel
theorem e_95_5 : dec prog_9_method_2_code 5 = some (.iload_n 0, 6, 0, 0) := by decide +kernel
theorem e_95_6 : dec prog_9_method_2_code 6 = some (.iload_n 2, 7, 2, 0) := by decide +kernel
theorem e_95_7 : dec prog_9_method_2_code 7 = some (.if_icmp .gt 7, 10, 14, 0) := by decide +kernel
theorem e_95_10 : dec prog_9_method_2_code 10 = some (.iconst 1, 11, 0, 1) := by decide +kernel
theorem e_95_11 : dec prog_9_method_2_code 11 = some (.goto 4, 14, 15, 0) := by decide +kernel
theorem e_95_14 : dec prog_9_method_2_code 14 = some (.iconst 0, 15, 0, 0) := by decide +kernel
theorem e_95_15 : dec prog_9_method_2_code 15 = some (.ireturn, 16, 0, 0) := by decide +kernel
theorem E_95 : dec prog_9_method_2_code 0 = some (.iload_n 0, 1, 0, 0) ∧ dec prog_9_method_2_code 1 = some (.iload_n 1, 2, 1, 0) ∧ dec prog_9_method_2_code 2 = some (.if_icmp .lt 12, 5, 14, 0) ∧ dec prog_9_method_2_code 5 = some (.iload_n 0, 6, 0, 0) ∧ dec prog_9_method_2_code 6 = some (.iload_n 2, 7, 2, 0) ∧ dec prog_9_method_2_code 7 = some (.if_icmp .gt 7, 10, 14, 0) ∧ dec prog_9_method_2_code 10 = some (.iconst 1, 11, 0, 1) ∧ dec prog_9_method_2_code 11 = some (.goto 4, 14, 15, 0) ∧ dec prog_9_method_2_code 14 = some (.iconst 0, 15, 0, 0) ∧ dec prog_9_method_2_code 15 = some (.ireturn, 16, 0, 0) := ⟨e_95_0, e_95_1, e_95_2, e_95_5, e_95_6, e_95_7, e_95_10, e_95_11, e_95_14, e_95_15⟩
theorem e_96_0 : dec prog_9_method_3_code 0 = some (.iload_n 0, 1, 0, 0) := by decide +kernel
theorem e_96_1 : dec prog_9_method_3_code 1 = some (.iconst 0, 2, 0, 0) := by decide +kernel
theorem e_96_2 : dec prog_9_method_3_code 2 = some (.bipush 7, 4, 0, 7) := by decide +kernel
theorem e_96_4 : dec prog_9_method_3_code 4 = some (.invokestatic 32, 7, 0, 0) := by decide +kernel
theorem e_96_7 : dec prog_9_method_3_code 7 = some (.ireturn, 8, 0, 0) := by decide +kernel
theorem E_96 : dec prog_9_method_3_code 0 = some (.iload_n 0, 1, 0, 0) ∧ dec prog_9_method_3_code 1 = some (.iconst 0, 2, 0, 0) ∧ dec prog_9_method_3_code 2 = some (.bipush 7, 4, 0, 7) ∧ dec prog_9_method_3_code 4 = some (.invokestatic 32, 7, 0, 0) ∧ dec prog_9_method_3_code 7 = some (.ireturn, 8, 0, 0) := ⟨e_96_0, e_96_1, e_96_2, e_96_4, e_96_7⟩
theorem e_97_0 : dec prog_9_method_4_code 0 = some (.aload_n 0, 1, 0, 0) := by decide +kernel
theorem e_97_1 : dec prog_9_method_4_code 1 = some (.getfield 7, 4, 0, 0) := by decide +kernel
theorem e_97_4 : dec prog_9_method_4_code 4 = some (.bipush 16, 6, 0, 16) := by decide +kernel
theorem e_97_6 : dec prog_9_method_4_code 6 = some (.bipush 6, 8, 0, 6) := by decide +kernel
theorem e_97_8 : dec prog_9_method_4_code 8 = some (.iload_n 1, 9, 1, 0) := by decide +kernel
theorem e_97_9 : dec prog_9_method_4_code 9 = some (.imul, 10, 0, 0) := by decide +kernel
theorem e_97_10 : dec prog_9_method_4_code 10 = some (.iadd, 11, 0, 0) := by decide +kernel
theorem e_97_11 : dec prog_9_method_4_code 11 = some (.iload_n 2, 12, 2, 0) := by decide +kernel
theorem e_97_12 : dec prog_9_method_4_code 12 = some (.iadd, 13, 0, 0) := by decide +kernel
theorem e_97_13 : dec prog_9_method_4_code 13 = some (.iaload, 14, 0, 0) := by decide +kernel
theorem e_97_14 : dec prog_9_method_4_code 14 = some (.ireturn, 15, 0, 0) := by decide +kernel
theorem E_97 : dec prog_9_method_4_code 0 = some (.aload_n 0, 1, 0, 0) ∧ dec prog_9_method_4_code 1 = some (.getfield 7, 4, 0, 0) ∧ dec prog_9_method_4_code 4 = some (.bipush 16, 6, 0, 16) ∧ dec prog_9_method_4_code 6 = some (.bipush 6, 8, 0, 6) ∧ dec prog_9_method_4_code 8 = some (.iload_n 1, 9, 1, 0) ∧ dec prog_9_method_4_code 9 = some (.imul, 10, 0, 0) ∧ dec prog_9_method_4_code 10 = some (.iadd, 11, 0, 0) ∧ dec prog_9_method_4_code 11 = some (.iload_n 2, 12, 2, 0) ∧ dec prog_9_method_4_code 12 = some (.iadd, 13, 0, 0) ∧ dec prog_9_method_4_code 13 = some (.iaload, 14, 0, 0) ∧ dec prog_9_method_4_code 14 = some (.ireturn, 15, 0, 0) := ⟨e_97_0, e_97_1, e_97_4, e_97_6, e_97_8, e_97_9, e_97_10, e_97_11, e_97_12, e_97_13, e_97_14⟩
theorem e_98_0 : dec prog_9_method_5_code 0 = some (.aload_n 0, 1, 0, 0) := by decide +kernel
theorem e_98_1 : dec prog_9_method_5_code 1 = some (.getfield 7, 4, 0, 0) := by decide +kernel
theorem e_98_4 : dec prog_9_method_5_code 4 = some (.bipush 16, 6, 0, 16) := by decide +kernel
theorem e_98_6 : dec prog_9_method_5_code 6 = some (.bipush 6, 8, 0, 6) := by decide +kernel
theorem e_98_8 : dec prog_9_method_5_code 8 = some (.iload_n 1, 9, 1, 0) := by decide +kernel
theorem e_98_9 : dec prog_9_method_5_code 9 = some (.imul, 10, 0, 0) := by decide +kernel
theorem e_98_10 : dec prog_9_method_5_code 10 = some (.iadd, 11, 0, 0) := by decide +kernel
theorem e_98_11 : dec prog_9_method_5_code 11 = some (.iload_n 2, 12, 2, 0) := by decide +kernel
theorem e_98_12 : dec prog_9_method_5_code 12 = some (.iadd, 13, 0, 0) := by decide +kernel
theorem e_98_13 : dec prog_9_method_5_code 13 = some (.iload_n 3, 14, 3, 0) := by decide +kernel
theorem e_98_14 : dec prog_9_method_5_code 14 = some (.iastore, 15, 0, 0) := by decide +kernel
theorem e_98_15 : dec prog_9_method_5_code 15 = some (.return_, 16, 0, 0) := by decide +kernel
theorem E_98 : dec prog_9_method_5_code 0 = some (.aload_n 0, 1, 0, 0) ∧ dec prog_9_method_5_code 1 = some (.getfield 7, 4, 0, 0) ∧ dec prog_9_method_5_code 4 = some (.bipush 16, 6, 0, 16) ∧ dec prog_9_method_5_code 6 = some (.bipush 6, 8, 0, 6) ∧ dec prog_9_method_5_code 8 = some (.iload_n 1, 9, 1, 0) ∧ dec prog_9_method_5_code 9 = some (.imul, 10, 0, 0) ∧ dec prog_9_method_5_code 10 = some (.iadd, 11, 0, 0) ∧ dec prog_9_method_5_code 11 = some (.iload_n 2, 12, 2, 0) ∧ dec prog_9_method_5_code 12 = some (.iadd, 13, 0, 0) ∧ dec prog_9_method_5_code 13 = some (.iload_n 3, 14, 3, 0) ∧ dec prog_9_method_5_code 14 = some (.iastore, 15, 0, 0) ∧ dec prog_9_method_5_code 15 = some (.return_, 16, 0, 0) := ⟨e_98_0, e_98_1, e_98_4, e_98_6, e_98_8, e_98_9, e_98_10, e_98_11, e_98_12, e_98_13, e_98_14, e_98_15⟩
theorem e_99_0 : dec prog_9_method_6_code 0 = some (.iload_n 1, 1, 1, 0) := by decide +kernel
theorem e_99_1 : dec prog_9_method_6_code 1 = some (.iconst 0, 2, 0, 0) := by decide +kernel
theorem e_99_2 : dec prog_9_method_6_code 2 = some (.aload_n 0, 3, 0, 0) := by decide +kernel
theorem e_99_3 : dec prog_9_method_6_code 3 = some (.getfield 7, 6, 0, 0) := by decide +kernel
theorem e_99_6 : dec prog_9_method_6_code 6 = some (.bipush 15, 8, 0, 15) := by decide +kernel
theorem e_99_8 : dec prog_9_method_6_code 8 = some (.iaload, 9, 0, 0) := by decide +kernel
theorem e_99_9 : dec prog_9_method_6_code 9 = some (.iconst 1, 10, 0, 1) := by decide +kernel
theorem e_99_10 : dec prog_9_method_6_code 10 = some (.isub, 11, 0, 0) := by decide +kernel
theorem e_99_11 : dec prog_9_method_6_code 11 = some (.invokestatic 32, 14, 0, 0) := by decide +kernel
theorem e_99_14 : dec prog_9_method_6_code 14 = some (.ireturn, 15, 0, 0) := by decide +kernel
theorem E_99 : dec prog_9_method_6_code 0 = some (.iload_n 1, 1, 1, 0) ∧ dec prog_9_method_6_code 1 = some (.iconst 0, 2, 0, 0) ∧ dec prog_9_method_6_code 2 = some (.aload_n 0, 3, 0, 0) ∧ dec prog_9_method_6_code 3 = some (.getfield 7, 6, 0, 0) ∧ dec prog_9_method_6_code 6 = some (.bipush 15, 8, 0, 15) ∧ dec prog_9_method_6_code 8 = some (.iaload, 9, 0, 0) ∧ dec prog_9_method_6_code 9 = some (.iconst 1, 10, 0, 1) ∧ dec prog_9_method_6_code 10 = some (.isub, 11, 0, 0) ∧ dec prog_9_method_6_code 11 = some (.invokestatic 32, 14, 0, 0) ∧ dec prog_9_method_6_code 14 = some (.ireturn, 15, 0, 0) := ⟨e_99_0, e_99_1, e_99_2, e_99_3, e_99_6, e_99_8, e_99_9, e_99_10, e_99_11, e_99_14⟩
theorem e_100_0 : dec prog_9_method_7_code 0 = some (.iconst 0, 1, 0, 0) := by decide +kernel
theorem e_100_1 : dec prog_9_method_7_code 1 = some (.istore 4, 3, 4, 0) := by decide +kernel
theorem e_100_3 : dec prog_9_method_7_code 3 = some (.iload 4, 5, 4, 0) := by decide +kernel
theorem e_100_5 : dec prog_9_method_7_code 5 = some (.sipush 201, 8, 0, 201) := by decide +kernel
theorem e_100_8 : dec prog_9_method_7_code 8 = some (.if_icmp .ge 21, 11, 29, 0) := by decide +kernel
theorem e_100_11 : dec prog_9_method_7_code 11 = some (.aload_n 2, 12, 2, 0) := by decide +kernel
theorem e_100_12 : dec prog_9_method_7_code 12 = some (.iload_n 3, 13, 3, 0) := by decide +kernel
theorem e_100_13 : dec prog_9_method_7_code 13 = some (.iload 4, 15, 4, 0) := by decide +kernel
theorem e_100_15 : dec prog_9_method_7_code 15 = some (.iadd, 16, 0, 0) := by decide +kernel
theorem e_100_16 : dec prog_9_method_7_code 16 = some (.aload_n 0, 17, 0, 0) := by decide +kernel
theorem e_100_17 : dec prog_9_method_7_code 17 = some (.iload_n 1, 18, 1, 0) := by decide +kernel
theorem e_100_18 : dec prog_9_method_7_code 18 = some (.iload 4, 20, 4, 0) := by decide +kernel
theorem e_100_20 : dec prog_9_method_7_code 20 = some (.iadd, 21, 0, 0) := by decide +kernel
theorem e_100_21 : dec prog_9_method_7_code 21 = some (.iaload, 22, 0, 0) := by decide +kernel
theorem e_100_22 : dec prog_9_method_7_code 22 = some (.iastore, 23, 0, 0) := by decide +kernel
theorem e_100_23 : dec prog_9_method_7_code 23 = some (.iinc 4 1, 26, 4, 1) := by decide +kernel
theorem e_100_26 : dec prog_9_method_7_code 26 = some (.goto (-23), 29, 3, 0) := by decide +kernel
theorem e_100_29 : dec prog_9_method_7_code 29 = some (.return_, 30, 0, 0) := by decide +kernel
theorem E_100 : dec prog_9_method_7_code 0 = some (.iconst 0, 1, 0, 0) ∧ dec prog_9_method_7_code 1 = some (.istore 4, 3, 4, 0) ∧ dec prog_9_method_7_code 3 = some (.iload 4, 5, 4, 0) ∧ dec prog_9_method_7_code 5 = some (.sipush 201, 8, 0, 201) ∧ dec prog_9_method_7_code 8 = some (.if_icmp .ge 21, 11, 29, 0) ∧ dec prog_9_method_7_code 11 = some (.aload_n 2, 12, 2, 0) ∧ dec prog_9_method_7_code 12 = some (.iload_n 3, 13, 3, 0) ∧ dec prog_9_method_7_code 13 = some (.iload 4, 15, 4, 0) ∧ dec prog_9_method_7_code 15 = some (.iadd, 16, 0, 0) ∧ dec prog_9_method_7_code 16 = some (.aload_n 0, 17, 0, 0) ∧ dec prog_9_method_7_code 17 = some (.iload_n 1, 18, 1, 0) ∧ dec prog_9_method_7_code 18 = some (.iload 4, 20, 4, 0) ∧ dec prog_9_method_7_code 20 = some (.iadd, 21, 0, 0) ∧ dec prog_9_method_7_code 21 = some (.iaload, 22, 0, 0) ∧ dec prog_9_method_7_code 22 = some (.iastore, 23, 0, 0) ∧ dec prog_9_method_7_code 23 = some (.iinc 4 1, 26, 4, 1) ∧ dec prog_9_method_7_code 26 = some (.goto (-23), 29, 3, 0) ∧ dec prog_9_method_7_code 29 = some (.return_, 30, 0, 0) := ⟨e_100_0, e_100_1, e_100_3, e_100_5, e_100_8, e_100_11, e_100_12, e_100_13, e_100_15, e_100_16, e_100_17, e_100_18, e_100_20, e_100_21, e_100_22, e_100_23, e_100_26, e_100_29⟩
theorem e_101_0 : dec prog_9_method_8_code 0 = some (.aload_n 0, 1, 0, 0) := by decide +kernel
theorem e_101_1 : dec prog_9_method_8_code 1 = some (.getfield 36, 4, 0, 0) := by decide +kernel
theorem e_101_4 : dec prog_9_method_8_code 4 = some (.bipush 6, 6, 0, 6) := by decide +kernel
theorem e_101_6 : dec prog_9_method_8_code 6 = some (.if_icmp .ne 44, 9, 50, 0) := by decide +kernel
theorem e_101_9 : dec prog_9_method_8_code 9 = some (.iconst 0, 10, 0, 0) := by decide +kernel
theorem e_101_10 : dec prog_9_method_8_code 10 = some (.istore_n 1, 11, 1, 0) := by decide +kernel
theorem e_101_11 : dec prog_9_method_8_code 11 = some (.iload_n 1, 12, 1, 0) := by decide +kernel
theorem e_101_12 : dec prog_9_method_8_code 12 = some (.sipush 1005, 15, 0, 1005) := by decide +kernel
theorem e_101_15 : dec prog_9_method_8_code 15 = some (.if_icmp .ge 25, 18, 40, 0) := by decide +kernel
theorem e_101_18 : dec prog_9_method_8_code 18 = some (.aload_n 0, 19, 0, 0) := by decide +kernel
theorem e_101_19 : dec prog_9_method_8_code 19 = some (.getfield 16, 22, 0, 0) := by decide +kernel
theorem e_101_22 : dec prog_9_method_8_code 22 = some (.iload_n 1, 23, 1, 0) := by decide +kernel
theorem e_101_23 : dec prog_9_method_8_code 23 = some (.aload_n 0, 24, 0, 0) := by decide +kernel
theorem e_101_24 : dec prog_9_method_8_code 24 = some (.getfield 16, 27, 0, 0) := by decide +kernel
theorem e_101_27 : dec prog_9_method_8_code 27 = some (.iload_n 1, 28, 1, 0) := by decide +kernel
theorem e_101_28 : dec prog_9_method_8_code 28 = some (.sipush 201, 31, 0, 201) := by decide +kernel
theorem e_101_31 : dec prog_9_method_8_code 31 = some (.iadd, 32, 0, 0) := by decide +kernel
theorem e_101_32 : dec prog_9_method_8_code 32 = some (.iaload, 33, 0, 0) := by decide +kernel
theorem e_101_33 : dec prog_9_method_8_code 33 = some (.iastore, 34, 0, 0) := by decide +kernel
theorem e_101_34 : dec prog_9_method_8_code 34 = some (.iinc 1 1, 37, 1, 1) := by decide +kernel
theorem e_101_37 : dec prog_9_method_8_code 37 = some (.goto (-26), 40, 11, 0) := by decide +kernel
theorem e_101_40 : dec prog_9_method_8_code 40 = some (.aload_n 0, 41, 0, 0) := by decide +kernel
theorem e_101_41 : dec prog_9_method_8_code 41 = some (.dup, 42, 0, 0) := by decide +kernel
theorem e_101_42 : dec prog_9_method_8_code 42 = some (.getfield 36, 45, 0, 0) := by decide +kernel
theorem e_101_45 : dec prog_9_method_8_code 45 = some (.iconst 1, 46, 0, 1) := by decide +kernel
theorem e_101_46 : dec prog_9_method_8_code 46 = some (.isub, 47, 0, 0) := by decide +kernel
theorem e_101_47 : dec prog_9_method_8_code 47 = some (.putfield 36, 50, 0, 0) := by decide +kernel
theorem e_101_50 : dec prog_9_method_8_code 50 = some (.aload_n 0, 51, 0, 0) := by decide +kernel
theorem e_101_51 : dec prog_9_method_8_code 51 = some (.getfield 7, 54, 0, 0) := by decide +kernel
theorem e_101_54 : dec prog_9_method_8_code 54 = some (.iconst 0, 55, 0, 0) := by decide +kernel
theorem e_101_55 : dec prog_9_method_8_code 55 = some (.aload_n 0, 56, 0, 0) := by decide +kernel
theorem e_101_56 : dec prog_9_method_8_code 56 = some (.getfield 16, 59, 0, 0) := by decide +kernel
theorem e_101_59 : dec prog_9_method_8_code 59 = some (.sipush 201, 62, 0, 201) := by decide +kernel
theorem e_101_62 : dec prog_9_method_8_code 62 = some (.aload_n 0, 63, 0, 0) := by decide +kernel
theorem e_101_63 : dec prog_9_method_8_code 63 = some (.getfield 36, 66, 0, 0) := by decide +kernel
theorem e_101_66 : dec prog_9_method_8_code 66 = some (.imul, 67, 0, 0) := by decide +kernel
theorem e_101_67 : dec prog_9_method_8_code 67 = some (.invokestatic 40, 70, 0, 0) := by decide +kernel
theorem e_101_70 : dec prog_9_method_8_code 70 = some (.aload_n 0, 71, 0, 0) := by decide +kernel
theorem e_101_71 : dec prog_9_method_8_code 71 = some (.dup, 72, 0, 0) := by decide +kernel
theorem e_101_72 : dec prog_9_method_8_code 72 = some (.getfield 36, 75, 0, 0) := by decide +kernel
theorem e_101_75 : dec prog_9_method_8_code 75 = some (.iconst 1, 76, 0, 1) := by decide +kernel
theorem e_101_76 : dec prog_9_method_8_code 76 = some (.iadd, 77, 0, 0) := by decide +kernel
theorem e_101_77 : dec prog_9_method_8_code 77 = some (.putfield 36, 80, 0, 0) := by decide +kernel
theorem e_101_80 : dec prog_9_method_8_code 80 = some (.return_, 81, 0, 0) := by decide +kernel
theorem E_101 : dec prog_9_method_8_code 0 = some (.aload_n 0, 1, 0, 0) ∧ dec prog_9_method_8_code 1 = some (.getfield 36, 4, 0, 0) ∧ dec prog_9_method_8_code 4 = some (.bipush 6, 6, 0, 6) ∧ dec prog_9_method_8_code 6 = some (.if_icmp .ne 44, 9, 50, 0) ∧ dec prog_9_method_8_code 9 = some (.iconst 0, 10, 0, 0) ∧ dec prog_9_method_8_code 10 = some (.istore_n 1, 11, 1, 0) ∧ dec prog_9_method_8_code 11 = some (.iload_n 1, 12, 1, 0) ∧ dec prog_9_method_8_code 12 = some (.sipush 1005, 15, 0, 1005) ∧ dec prog_9_method_8_code 15 = some (.if_icmp .ge 25, 18, 40, 0) ∧ dec prog_9_method_8_code 18 = some (.aload_n 0, 19, 0, 0) ∧ dec prog_9_method_8_code 19 = some (.getfield 16, 22, 0, 0) ∧ dec prog_9_method_8_code 22 = some (.iload_n 1, 23, 1, 0) ∧ dec prog_9_method_8_code 23 = some (.aload_n 0, 24, 0, 0) ∧ dec prog_9_method_8_code 24 = some (.getfield 16, 27, 0, 0) ∧ dec prog_9_method_8_code 27 = some (.iload_n 1, 28, 1, 0) ∧ dec prog_9_method_8_code 28 = some (.sipush 201, 31, 0, 201) ∧ dec prog_9_method_8_code 31 = some (.iadd, 32, 0, 0) ∧ dec prog_9_method_8_code 32 = some (.iaload, 33, 0, 0) ∧ dec prog_9_method_8_code 33 = some (.iastore, 34, 0, 0) ∧ dec prog_9_method_8_code 34 = some (.iinc 1 1, 37, 1, 1) ∧ dec prog_9_method_8_code 37 = some (.goto (-26), 40, 11, 0) ∧ dec prog_9_method_8_code 40 = some (.aload_n 0, 41, 0, 0) ∧ dec prog_9_method_8_code 41 = some (.dup, 42, 0, 0) ∧ dec prog_9_method_8_code 42 = some (.getfield 36, 45, 0, 0) ∧ dec prog_9_method_8_code 45 = some (.iconst 1, 46, 0, 1) ∧ dec prog_9_method_8_code 46 = some (.isub, 47, 0, 0) ∧ dec prog_9_method_8_code 47 = some (.putfield 36, 50, 0, 0) ∧ dec prog_9_method_8_code 50 = some (.aload_n 0, 51, 0, 0) ∧ dec prog_9_method_8_code 51 = some (.getfield 7, 54, 0, 0) ∧ dec prog_9_method_8_code 54 = some (.iconst 0, 55, 0, 0) ∧ dec prog_9_method_8_code 55 = some (.aload_n 0, 56, 0, 0) ∧ dec prog_9_method_8_code 56 = some (.getfield 16, 59, 0, 0) ∧ dec prog_9_method_8_code 59 = some (.sipush 201, 62, 0, 201) ∧ dec prog_9_method_8_code 62 = some (.aload_n 0, 63, 0, 0) ∧ dec prog_9_method_8_code 63 = some (.getfield 36, 66, 0, 0) ∧ dec prog_9_method_8_code 66 = some (.imul, 67, 0, 0) ∧ dec prog_9_method_8_code 67 = some (.invokestatic 40, 70, 0, 0) ∧ dec prog_9_method_8_code 70 = some (.aload_n 0, 71, 0, 0) ∧ dec prog_9_method_8_code 71 = some (.dup, 72, 0, 0) ∧ dec prog_9_method_8_code 72 = some (.getfield 36, 75, 0, 0) ∧ dec prog_9_method_8_code 75 = some (.iconst 1, 76, 0, 1) ∧ dec prog_9_method_8_code 76 = some (.iadd, 77, 0, 0) ∧ dec prog_9_method_8_code 77 = some (.putfield 36, 80, 0, 0) ∧ dec prog_9_method_8_code 80 = some (.return_, 81, 0, 0) := ⟨e_101_0, e_101_1, e_101_4, e_101_6, e_101_9, e_101_10, e_101_11, e_101_12, e_101_15, e_101_18, e_101_19, e_101_22, e_101_23, e_101_24, e_101_27, e_101_28, e_101_31, e_101_32, e_101_33, e_101_34, e_101_37, e_101_40, e_101_41, e_101_42, e_101_45, e_101_46, e_101_47, e_101_50, e_101_51, e_101_54, e_101_55, e_101_56, e_101_59, e_101_62, e_101_63, e_101_66, e_101_67, e_101_70, e_101_71, e_101_72, e_101_75, e_101_76, e_101_77, e_101_80⟩
theorem e_102_0 : dec prog_9_method_9_code 0 = some (.aload_n 0, 1, 0, 0) := by decide +kernel
theorem e_102_1 : dec prog_9_method_9_code 1 = some (.getfield 36, 4, 0, 0) := by decide +kernel
theorem e_102_4 : dec prog_9_method_9_code 4 = some (.ifCond .ne 6, 7, 10, 0) := by decide +kernel
theorem e_102_7 : dec prog_9_method_9_code 7 = some (.bipush (-5), 9, 0, (-5)) := by decide +kernel
theorem e_102_9 : dec prog_9_method_9_code 9 = some (.ireturn, 10, 0, 0) := by decide +kernel
theorem e_102_10 : dec prog_9_method_9_code 10 = some (.aload_n 0, 11, 0, 0) := by decide +kernel
theorem e_102_11 : dec prog_9_method_9_code 11 = some (.dup, 12, 0, 0) := by decide +kernel
theorem e_102_12 : dec prog_9_method_9_code 12 = some (.getfield 36, 15, 0, 0) := by decide +kernel
theorem e_102_15 : dec prog_9_method_9_code 15 = some (.iconst 1, 16, 0, 1) := by decide +kernel
theorem e_102_16 : dec prog_9_method_9_code 16 = some (.isub, 17, 0, 0) := by decide +kernel
theorem e_102_17 : dec prog_9_method_9_code 17 = some (.putfield 36, 20, 0, 0) := by decide +kernel
theorem e_102_20 : dec prog_9_method_9_code 20 = some (.aload_n 0, 21, 0, 0) := by decide +kernel
theorem e_102_21 : dec prog_9_method_9_code 21 = some (.getfield 16, 24, 0, 0) := by decide +kernel
theorem e_102_24 : dec prog_9_method_9_code 24 = some (.sipush 201, 27, 0, 201) := by decide +kernel
theorem e_102_27 : dec prog_9_method_9_code 27 = some (.aload_n 0, 28, 0, 0) := by decide +kernel
theorem e_102_28 : dec prog_9_method_9_code 28 = some (.getfield 36, 31, 0, 0) := by decide +kernel
theorem e_102_31 : dec prog_9_method_9_code 31 = some (.imul, 32, 0, 0) := by decide +kernel
theorem e_102_32 : dec prog_9_method_9_code 32 = some (.aload_n 0, 33, 0, 0) := by decide +kernel
theorem e_102_33 : dec prog_9_method_9_code 33 = some (.getfield 7, 36, 0, 0) := by decide +kernel
theorem e_102_36 : dec prog_9_method_9_code 36 = some (.iconst 0, 37, 0, 0) := by decide +kernel
theorem e_102_37 : dec prog_9_method_9_code 37 = some (.invokestatic 40, 40, 0, 0) := by decide +kernel
theorem e_102_40 : dec prog_9_method_9_code 40 = some (.aload_n 0, 41, 0, 0) := by decide +kernel
theorem e_102_41 : dec prog_9_method_9_code 41 = some (.getfield 36, 44, 0, 0) := by decide +kernel
theorem e_102_44 : dec prog_9_method_9_code 44 = some (.ireturn, 45, 0, 0) := by decide +kernel
theorem E_102 : dec prog_9_method_9_code 0 = some (.aload_n 0, 1, 0, 0) ∧ dec prog_9_method_9_code 1 = some (.getfield 36, 4, 0, 0) ∧ dec prog_9_method_9_code 4 = some (.ifCond .ne 6, 7, 10, 0) ∧ dec prog_9_method_9_code 7 = some (.bipush (-5), 9, 0, (-5)) ∧ dec prog_9_method_9_code 9 = some (.ireturn, 10, 0, 0) ∧ dec prog_9_method_9_code 10 = some (.aload_n 0, 11, 0, 0) ∧ dec prog_9_method_9_code 11 = some (.dup, 12, 0, 0) ∧ dec prog_9_method_9_code 12 = some (.getfield 36, 15, 0, 0) ∧ dec prog_9_method_9_code 15 = some (.iconst 1, 16, 0, 1) ∧ dec prog_9_method_9_code 16 = some (.isub, 17, 0, 0) ∧ dec prog_9_method_9_code 17 = some (.putfield 36, 20, 0, 0) ∧ dec prog_9_method_9_code 20 = some (.aload_n 0, 21, 0, 0) ∧ dec prog_9_method_9_code 21 = some (.getfield 16, 24, 0, 0) ∧ dec prog_9_method_9_code 24 = some (.sipush 201, 27, 0, 201) ∧ dec prog_9_method_9_code 27 = some (.aload_n 0, 28, 0, 0) ∧ dec prog_9_method_9_code 28 = some (.getfield 36, 31, 0, 0) ∧ dec prog_9_method_9_code 31 = some (.imul, 32, 0, 0) ∧ dec prog_9_method_9_code 32 = some (.aload_n 0, 33, 0, 0) ∧ dec prog_9_method_9_code 33 = some (.getfield 7, 36, 0, 0) ∧ dec prog_9_method_9_code 36 = some (.iconst 0, 37, 0, 0) ∧ dec prog_9_method_9_code 37 = some (.invokestatic 40, 40, 0, 0) ∧ dec prog_9_method_9_code 40 = some (.aload_n 0, 41, 0, 0) ∧ dec prog_9_method_9_code 41 = some (.getfield 36, 44, 0, 0) ∧ dec prog_9_method_9_code 44 = some (.ireturn, 45, 0, 0) := ⟨e_102_0, e_102_1, e_102_4, e_102_7, e_102_9, e_102_10, e_102_11, e_102_12, e_102_15, e_102_16, e_102_17, e_102_20, e_102_21, e_102_24, e_102_27, e_102_28, e_102_31, e_102_32, e_102_33, e_102_36, e_102_37, e_102_40, e_102_41, e_102_44⟩
theorem e_103_0 : dec prog_9_method_10_code 0 = some (.iload_n 1, 1, 1, 0) := by decide +kernel
theorem e_103_1 : dec prog_9_method_10_code 1 = some (.iconst 0, 2, 0, 0) := by decide +kernel
theorem e_103_2 : dec prog_9_method_10_code 2 = some (.iconst 1, 3, 0, 1) := by decide +kernel
theorem e_103_3 : dec prog_9_method_10_code 3 = some (.invokestatic 32, 6, 0, 0) := by decide +kernel
theorem e_103_6 : dec prog_9_method_10_code 6 = some (.ifCond .ne 6, 9, 12, 0) := by decide +kernel
theorem e_103_9 : dec prog_9_method_10_code 9 = some (.bipush (-2), 11, 0, (-2)) := by decide +kernel
theorem e_103_11 : dec prog_9_method_10_code 11 = some (.ireturn, 12, 0, 0) := by decide +kernel
theorem e_103_12 : dec prog_9_method_10_code 12 = some (.aload_n 0, 13, 0, 0) := by decide +kernel
theorem e_103_13 : dec prog_9_method_10_code 13 = some (.getfield 7, 16, 0, 0) := by decide +kernel
theorem e_103_16 : dec prog_9_method_10_code 16 = some (.iconst 0, 17, 0, 0) := by decide +kernel
theorem e_103_17 : dec prog_9_method_10_code 17 = some (.aload_n 0, 18, 0, 0) := by decide +kernel
theorem e_103_18 : dec prog_9_method_10_code 18 = some (.getfield 19, 21, 0, 0) := by decide +kernel
theorem e_103_21 : dec prog_9_method_10_code 21 = some (.sipush 201, 24, 0, 201) := by decide +kernel
theorem e_103_24 : dec prog_9_method_10_code 24 = some (.iload_n 1, 25, 1, 0) := by decide +kernel
theorem e_103_25 : dec prog_9_method_10_code 25 = some (.imul, 26, 0, 0) := by decide +kernel
theorem e_103_26 : dec prog_9_method_10_code 26 = some (.invokestatic 40, 29, 0, 0) := by decide +kernel
theorem e_103_29 : dec prog_9_method_10_code 29 = some (.aload_n 0, 30, 0, 0) := by decide +kernel
theorem e_103_30 : dec prog_9_method_10_code 30 = some (.getfield 22, 33, 0, 0) := by decide +kernel
theorem e_103_33 : dec prog_9_method_10_code 33 = some (.iload_n 1, 34, 1, 0) := by decide +kernel
theorem e_103_34 : dec prog_9_method_10_code 34 = some (.iconst 1, 35, 0, 1) := by decide +kernel
theorem e_103_35 : dec prog_9_method_10_code 35 = some (.bastore, 36, 0, 0) := by decide +kernel
theorem e_103_36 : dec prog_9_method_10_code 36 = some (.aload_n 0, 37, 0, 0) := by decide +kernel
theorem e_103_37 : dec prog_9_method_10_code 37 = some (.getfield 7, 40, 0, 0) := by decide +kernel
theorem e_103_40 : dec prog_9_method_10_code 40 = some (.bipush 15, 42, 0, 15) := by decide +kernel
theorem e_103_42 : dec prog_9_method_10_code 42 = some (.iaload, 43, 0, 0) := by decide +kernel
theorem e_103_43 : dec prog_9_method_10_code 43 = some (.ireturn, 44, 0, 0) := by decide +kernel
theorem E_103 : dec prog_9_method_10_code 0 = some (.iload_n 1, 1, 1, 0) ∧ dec prog_9_method_10_code 1 = some (.iconst 0, 2, 0, 0) ∧ dec prog_9_method_10_code 2 = some (.iconst 1, 3, 0, 1) ∧ dec prog_9_method_10_code 3 = some (.invokestatic 32, 6, 0, 0) ∧ dec prog_9_method_10_code 6 = some (.ifCond .ne 6, 9, 12, 0) ∧ dec prog_9_method_10_code 9 = some (.bipush (-2), 11, 0, (-2)) ∧ dec prog_9_method_10_code 11 = some (.ireturn, 12, 0, 0) ∧ dec prog_9_method_10_code 12 = some (.aload_n 0, 13, 0, 0) ∧ dec prog_9_method_10_code 13 = some (.getfield 7, 16, 0, 0) ∧ dec prog_9_method_10_code 16 = some (.iconst 0, 17, 0, 0) ∧ dec prog_9_method_10_code 17 = some (.aload_n 0, 18, 0, 0) ∧ dec prog_9_method_10_code 18 = some (.getfield 19, 21, 0, 0) ∧ dec prog_9_method_10_code 21 = some (.sipush 201, 24, 0, 201) ∧ dec prog_9_method_10_code 24 = some (.iload_n 1, 25, 1, 0) ∧ dec prog_9_method_10_code 25 = some (.imul, 26, 0, 0) ∧ dec prog_9_method_10_code 26 = some (.invokestatic 40, 29, 0, 0) ∧ dec prog_9_method_10_code 29 = some (.aload_n 0, 30, 0, 0) ∧ dec prog_9_method_10_code 30 = some (.getfield 22, 33, 0, 0) ∧ dec prog_9_method_10_code 33 = some (.iload_n 1, 34, 1, 0) ∧ dec prog_9_method_10_code 34 = some (.iconst 1, 35, 0, 1) ∧ dec prog_9_method_10_code 35 = some (.bastore, 36, 0, 0) ∧ dec prog_9_method_10_code 36 = some (.aload_n 0, 37, 0, 0) ∧ dec prog_9_method_10_code 37 = some (.getfield 7, 40, 0, 0) ∧ dec prog_9_method_10_code 40 = some (.bipush 15, 42, 0, 15) ∧ dec prog_9_method_10_code 42 = some (.iaload, 43, 0, 0) ∧ dec prog_9_method_10_code 43 = some (.ireturn, 44, 0, 0) := ⟨e_103_0, e_103_1, e_103_2, e_103_3, e_103_6, e_103_9, e_103_11, e_103_12, e_103_13, e_103_16, e_103_17, e_103_18, e_103_21, e_103_24, e_103_25, e_103_26, e_103_29, e_103_30, e_103_33, e_103_34, e_103_35, e_103_36, e_103_37, e_103_40, e_103_42, e_103_43⟩
theorem e_104_0 : dec prog_9_method_11_code 0 = some (.iload_n 1, 1, 1, 0) := by decide +kernel
theorem e_104_1 : dec prog_9_method_11_code 1 = some (.iconst 0, 2, 0, 0) := by decide +kernel
theorem e_104_2 : dec prog_9_method_11_code 2 = some (.iconst 1, 3, 0, 1) := by decide +kernel
theorem e_104_3 : dec prog_9_method_11_code 3 = some (.invokestatic 32, 6, 0, 0) := by decide +kernel
theorem e_104_6 : dec prog_9_method_11_code 6 = some (.ifCond .ne 6, 9, 12, 0) := by decide +kernel
theorem e_104_9 : dec prog_9_method_11_code 9 = some (.bipush (-2), 11, 0, (-2)) := by decide +kernel
theorem e_104_11 : dec prog_9_method_11_code 11 = some (.ireturn, 12, 0, 0) := by decide +kernel
theorem e_104_12 : dec prog_9_method_11_code 12 = some (.aload_n 0, 13, 0, 0) := by decide +kernel
theorem e_104_13 : dec prog_9_method_11_code 13 = some (.getfield 22, 16, 0, 0) := by decide +kernel
theorem e_104_16 : dec prog_9_method_11_code 16 = some (.iload_n 1, 17, 1, 0) := by decide +kernel
theorem e_104_17 : dec prog_9_method_11_code 17 = some (.baload, 18, 0, 0) := by decide +kernel
theorem e_104_18 : dec prog_9_method_11_code 18 = some (.ifCond .ne 6, 21, 24, 0) := by decide +kernel
theorem e_104_21 : dec prog_9_method_11_code 21 = some (.bipush (-5), 23, 0, (-5)) := by decide +kernel
theorem e_104_23 : dec prog_9_method_11_code 23 = some (.ireturn, 24, 0, 0) := by decide +kernel
theorem e_104_24 : dec prog_9_method_11_code 24 = some (.aload_n 0, 25, 0, 0) := by decide +kernel
theorem e_104_25 : dec prog_9_method_11_code 25 = some (.invokevirtual 44, 28, 0, 0) := by decide +kernel
theorem e_104_28 : dec prog_9_method_11_code 28 = some (.aload_n 0, 29, 0, 0) := by decide +kernel
theorem e_104_29 : dec prog_9_method_11_code 29 = some (.getfield 19, 32, 0, 0) := by decide +kernel
theorem e_104_32 : dec prog_9_method_11_code 32 = some (.sipush 201, 35, 0, 201) := by decide +kernel
theorem e_104_35 : dec prog_9_method_11_code 35 = some (.iload_n 1, 36, 1, 0) := by decide +kernel
theorem e_104_36 : dec prog_9_method_11_code 36 = some (.imul, 37, 0, 0) := by decide +kernel
theorem e_104_37 : dec prog_9_method_11_code 37 = some (.aload_n 0, 38, 0, 0) := by decide +kernel
theorem e_104_38 : dec prog_9_method_11_code 38 = some (.getfield 7, 41, 0, 0) := by decide +kernel
theorem e_104_41 : dec prog_9_method_11_code 41 = some (.iconst 0, 42, 0, 0) := by decide +kernel
theorem e_104_42 : dec prog_9_method_11_code 42 = some (.invokestatic 40, 45, 0, 0) := by decide +kernel
theorem e_104_45 : dec prog_9_method_11_code 45 = some (.aload_n 0, 46, 0, 0) := by decide +kernel
theorem e_104_46 : dec prog_9_method_11_code 46 = some (.getfield 7, 49, 0, 0) := by decide +kernel
theorem e_104_49 : dec prog_9_method_11_code 49 = some (.bipush 15, 51, 0, 15) := by decide +kernel
theorem e_104_51 : dec prog_9_method_11_code 51 = some (.iaload, 52, 0, 0) := by decide +kernel
theorem e_104_52 : dec prog_9_method_11_code 52 = some (.ireturn, 53, 0, 0) := by decide +kernel
theorem E_104 : dec prog_9_method_11_code 0 = some (.iload_n 1, 1, 1, 0) ∧ dec prog_9_method_11_code 1 = some (.iconst 0, 2, 0, 0) ∧ dec prog_9_method_11_code 2 = some (.iconst 1, 3, 0, 1) ∧ dec prog_9_method_11_code 3 = some (.invokestatic 32, 6, 0, 0) ∧ dec prog_9_method_11_code 6 = some (.ifCond .ne 6, 9, 12, 0) ∧ dec prog_9_method_11_code 9 = some (.bipush (-2), 11, 0, (-2)) ∧ dec prog_9_method_11_code 11 = some (.ireturn, 12, 0, 0) ∧ dec prog_9_method_11_code 12 = some (.aload_n 0, 13, 0, 0) ∧ dec prog_9_method_11_code 13 = some (.getfield 22, 16, 0, 0) ∧ dec prog_9_method_11_code 16 = some (.iload_n 1, 17, 1, 0) ∧ dec prog_9_method_11_code 17 = some (.baload, 18, 0, 0) ∧ dec prog_9_method_11_code 18 = some (.ifCond .ne 6, 21, 24, 0) ∧ dec prog_9_method_11_code 21 = some (.bipush (-5), 23, 0, (-5)) ∧ dec prog_9_method_11_code 23 = some (.ireturn, 24, 0, 0) ∧ dec prog_9_method_11_code 24 = some (.aload_n 0, 25, 0, 0) ∧ dec prog_9_method_11_code 25 = some (.invokevirtual 44, 28, 0, 0) ∧ dec prog_9_method_11_code 28 = some (.aload_n 0, 29, 0, 0) ∧ dec prog_9_method_11_code 29 = some (.getfield 19, 32, 0, 0) ∧ dec prog_9_method_11_code 32 = some (.sipush 201, 35, 0, 201) ∧ dec prog_9_method_11_code 35 = some (.iload_n 1, 36, 1, 0) ∧ dec prog_9_method_11_code 36 = some (.imul, 37, 0, 0) ∧ dec prog_9_method_11_code 37 = some (.aload_n 0, 38, 0, 0) ∧ dec prog_9_method_11_code 38 = some (.getfield 7, 41, 0, 0) ∧ dec prog_9_method_11_code 41 = some (.iconst 0, 42, 0, 0) ∧ dec prog_9_method_11_code 42 = some (.invokestatic 40, 45, 0, 0) ∧ dec prog_9_method_11_code 45 = some (.aload_n 0, 46, 0, 0) ∧ dec prog_9_method_11_code 46 = some (.getfield 7, 49, 0, 0) ∧ dec prog_9_method_11_code 49 = some (.bipush 15, 51, 0, 15) ∧ dec prog_9_method_11_code 51 = some (.iaload, 52, 0, 0) ∧ dec prog_9_method_11_code 52 = some (.ireturn, 53, 0, 0) := ⟨e_104_0, e_104_1, e_104_2, e_104_3, e_104_6, e_104_9, e_104_11, e_104_12, e_104_13, e_104_16, e_104_17, e_104_18, e_104_21, e_104_23, e_104_24, e_104_25, e_104_28, e_104_29, e_104_32, e_104_35, e_104_36, e_104_37, e_104_38, e_104_41, e_104_42, e_104_45, e_104_46, e_104_49, e_104_51, e_104_52⟩
theorem e_105_0 : dec prog_9_method_12_code 0 = some (.iconst 0, 1, 0, 0) := by decide +kernel
theorem e_105_1 : dec prog_9_method_12_code 1 = some (.istore_n 2, 2, 2, 0) := by decide +kernel
theorem e_105_2 : dec prog_9_method_12_code 2 = some (.iconst 0, 3, 0, 0) := by decide +kernel
theorem e_105_3 : dec prog_9_method_12_code 3 = some (.istore_n 3, 4, 3, 0) := by decide +kernel
theorem e_105_4 : dec prog_9_method_12_code 4 = some (.iload_n 3, 5, 3, 0) := by decide +kernel
theorem e_105_5 : dec prog_9_method_12_code 5 = some (.aload_n 0, 6, 0, 0) := by decide +kernel
theorem e_105_6 : dec prog_9_method_12_code 6 = some (.getfield 7, 9, 0, 0) := by decide +kernel
theorem e_105_9 : dec prog_9_method_12_code 9 = some (.bipush 15, 11, 0, 15) := by decide +kernel
theorem e_105_11 : dec prog_9_method_12_code 11 = some (.iaload, 12, 0, 0) := by decide +kernel
theorem e_105_12 : dec prog_9_method_12_code 12 = some (.if_icmp .ge 40, 15, 52, 0) := by decide +kernel
theorem e_105_15 : dec prog_9_method_12_code 15 = some (.iload_n 2, 16, 2, 0) := by decide +kernel
theorem e_105_16 : dec prog_9_method_12_code 16 = some (.aload_n 0, 17, 0, 0) := by decide +kernel
theorem e_105_17 : dec prog_9_method_12_code 17 = some (.iload_n 3, 18, 3, 0) := by decide +kernel
theorem e_105_18 : dec prog_9_method_12_code 18 = some (.iconst 3, 19, 0, 3) := by decide +kernel
theorem e_105_19 : dec prog_9_method_12_code 19 = some (.invokevirtual 47, 22, 0, 0) := by decide +kernel
theorem e_105_22 : dec prog_9_method_12_code 22 = some (.iconst 1, 23, 0, 1) := by decide +kernel
theorem e_105_23 : dec prog_9_method_12_code 23 = some (.if_icmp .ne 20, 26, 43, 0) := by decide +kernel
theorem e_105_26 : dec prog_9_method_12_code 26 = some (.aload_n 0, 27, 0, 0) := by decide +kernel
theorem e_105_27 : dec prog_9_method_12_code 27 = some (.iload_n 3, 28, 3, 0) := by decide +kernel
theorem e_105_28 : dec prog_9_method_12_code 28 = some (.iconst 4, 29, 0, 4) := by decide +kernel
theorem e_105_29 : dec prog_9_method_12_code 29 = some (.invokevirtual 47, 32, 0, 0) := by decide +kernel
theorem e_105_32 : dec prog_9_method_12_code 32 = some (.bipush 10, 34, 0, 10) := by decide +kernel
theorem e_105_34 : dec prog_9_method_12_code 34 = some (.idiv, 35, 0, 0) := by decide +kernel
theorem e_105_35 : dec prog_9_method_12_code 35 = some (.iload_n 1, 36, 1, 0) := by decide +kernel
theorem e_105_36 : dec prog_9_method_12_code 36 = some (.if_icmp .ne 7, 39, 43, 0) := by decide +kernel
theorem e_105_39 : dec prog_9_method_12_code 39 = some (.iconst 1, 40, 0, 1) := by decide +kernel
theorem e_105_40 : dec prog_9_method_12_code 40 = some (.goto 4, 43, 44, 0) := by decide +kernel
theorem e_105_43 : dec prog_9_method_12_code 43 = some (.iconst 0, 44, 0, 0) := by decide +kernel
theorem e_105_44 : dec prog_9_method_12_code 44 = some (.iadd, 45, 0, 0) := by decide +kernel
theorem e_105_45 : dec prog_9_method_12_code 45 = some (.istore_n 2, 46, 2, 0) := by decide +kernel
theorem e_105_46 : dec prog_9_method_12_code 46 = some (.iinc 3 1, 49, 3, 1) := by decide +kernel
theorem e_105_49 : dec prog_9_method_12_code 49 = some (.goto (-45), 52, 4, 0) := by decide +kernel
theorem e_105_52 : dec prog_9_method_12_code 52 = some (.iload_n 2, 53, 2, 0) := by decide +kernel
theorem e_105_53 : dec prog_9_method_12_code 53 = some (.ireturn, 54, 0, 0) := by decide +kernel
theorem E_105 : dec prog_9_method_12_code 0 = some (.iconst 0, 1, 0, 0) ∧ dec prog_9_method_12_code 1 = some (.istore_n 2, 2, 2, 0) ∧ dec prog_9_method_12_code 2 = some (.iconst 0, 3, 0, 0) ∧ dec prog_9_method_12_code 3 = some (.istore_n 3, 4, 3, 0) ∧ dec prog_9_method_12_code 4 = some (.iload_n 3, 5, 3, 0) ∧ dec prog_9_method_12_code 5 = some (.aload_n 0, 6, 0, 0) ∧ dec prog_9_method_12_code 6 = some (.getfield 7, 9, 0, 0) ∧ dec prog_9_method_12_code 9 = some (.bipush 15, 11, 0, 15) ∧ dec prog_9_method_12_code 11 = some (.iaload, 12, 0, 0) ∧ dec prog_9_method_12_code 12 = some (.if_icmp .ge 40, 15, 52, 0) ∧ dec prog_9_method_12_code 15 = some (.iload_n 2, 16, 2, 0) ∧ dec prog_9_method_12_code 16 = some (.aload_n 0, 17, 0, 0) ∧ dec prog_9_method_12_code 17 = some (.iload_n 3, 18, 3, 0) ∧ dec prog_9_method_12_code 18 = some (.iconst 3, 19, 0, 3) ∧ dec prog_9_method_12_code 19 = some (.invokevirtual 47, 22, 0, 0) ∧ dec prog_9_method_12_code 22 = some (.iconst 1, 23, 0, 1) ∧ dec prog_9_method_12_code 23 = some (.if_icmp .ne 20, 26, 43, 0) ∧ dec prog_9_method_12_code 26 = some (.aload_n 0, 27, 0, 0) ∧ dec prog_9_method_12_code 27 = some (.iload_n 3, 28, 3, 0) ∧ dec prog_9_method_12_code 28 = some (.iconst 4, 29, 0, 4) ∧ dec prog_9_method_12_code 29 = some (.invokevirtual 47, 32, 0, 0) ∧ dec prog_9_method_12_code 32 = some (.bipush 10, 34, 0, 10) ∧ dec prog_9_method_12_code 34 = some (.idiv, 35, 0, 0) ∧ dec prog_9_method_12_code 35 = some (.iload_n 1, 36, 1, 0) ∧ dec prog_9_method_12_code 36 = some (.if_icmp .ne 7, 39, 43, 0) ∧ dec prog_9_method_12_code 39 = some (.iconst 1, 40, 0, 1) ∧ dec prog_9_method_12_code 40 = some (.goto 4, 43, 44, 0) ∧ dec prog_9_method_12_code 43 = some (.iconst 0, 44, 0, 0) ∧ dec prog_9_method_12_code 44 = some (.iadd, 45, 0, 0) ∧ dec prog_9_method_12_code 45 = some (.istore_n 2, 46, 2, 0) ∧ dec prog_9_method_12_code 46 = some (.iinc 3 1, 49, 3, 1) ∧ dec prog_9_method_12_code 49 = some (.goto (-45), 52, 4, 0) ∧ dec prog_9_method_12_code 52 = some (.iload_n 2, 53, 2, 0) ∧ dec prog_9_method_12_code 53 = some (.ireturn, 54, 0, 0) := ⟨e_105_0, e_105_1, e_105_2, e_105_3, e_105_4, e_105_5, e_105_6, e_105_9, e_105_11, e_105_12, e_105_15, e_105_16, e_105_17, e_105_18, e_105_19, e_105_22, e_105_23, e_105_26, e_105_27, e_105_28, e_105_29, e_105_32, e_105_34, e_105_35, e_105_36, e_105_39, e_105_40, e_105_43, e_105_44, e_105_45, e_105_46, e_105_49, e_105_52, e_105_53⟩
theorem e_106_0 : dec prog_9_method_13_code 0 = some (.bipush (-6), 2, 0, (-6)) := by decide +kernel
theorem e_106_2 : dec prog_9_method_13_code 2 = some (.istore_n 2, 3, 2, 0) := by decide +kernel
theorem e_106_3 : dec prog_9_method_13_code 3 = some (.iconst 0, 4, 0, 0) := by decide +kernel
theorem e_106_4 : dec prog_9_method_13_code 4 = some (.istore_n 3, 5, 3, 0) := by decide +kernel
theorem e_106_5 : dec prog_9_method_13_code 5 = some (.iload_n 3, 6, 3, 0) := by decide +kernel
theorem e_106_6 : dec prog_9_method_13_code 6 = some (.aload_n 0, 7, 0, 0) := by decide +kernel
theorem e_106_7 : dec prog_9_method_13_code 7 = some (.getfield 7, 10, 0, 0) := by decide +kernel
theorem e_106_10 : dec prog_9_method_13_code 10 = some (.bipush 15, 12, 0, 15) := by decide +kernel
theorem e_106_12 : dec prog_9_method_13_code 12 = some (.iaload, 13, 0, 0) := by decide +kernel
theorem e_106_13 : dec prog_9_method_13_code 13 = some (.if_icmp .ge 35, 16, 48, 0) := by decide +kernel
theorem e_106_16 : dec prog_9_method_13_code 16 = some (.aload_n 0, 17, 0, 0) := by decide +kernel
theorem e_106_17 : dec prog_9_method_13_code 17 = some (.iload_n 3, 18, 3, 0) := by decide +kernel
theorem e_106_18 : dec prog_9_method_13_code 18 = some (.iconst 3, 19, 0, 3) := by decide +kernel
theorem e_106_19 : dec prog_9_method_13_code 19 = some (.invokevirtual 47, 22, 0, 0) := by decide +kernel
theorem e_106_22 : dec prog_9_method_13_code 22 = some (.iconst 1, 23, 0, 1) := by decide +kernel
theorem e_106_23 : dec prog_9_method_13_code 23 = some (.if_icmp .ne 17, 26, 40, 0) := by decide +kernel
theorem e_106_26 : dec prog_9_method_13_code 26 = some (.aload_n 0, 27, 0, 0) := by decide +kernel
theorem e_106_27 : dec prog_9_method_13_code 27 = some (.iload_n 3, 28, 3, 0) := by decide +kernel
theorem e_106_28 : dec prog_9_method_13_code 28 = some (.iconst 4, 29, 0, 4) := by decide +kernel
theorem e_106_29 : dec prog_9_method_13_code 29 = some (.invokevirtual 47, 32, 0, 0) := by decide +kernel
theorem e_106_32 : dec prog_9_method_13_code 32 = some (.iload_n 1, 33, 1, 0) := by decide +kernel
theorem e_106_33 : dec prog_9_method_13_code 33 = some (.if_icmp .ne 7, 36, 40, 0) := by decide +kernel
theorem e_106_36 : dec prog_9_method_13_code 36 = some (.iload_n 3, 37, 3, 0) := by decide +kernel
theorem e_106_37 : dec prog_9_method_13_code 37 = some (.goto 4, 40, 41, 0) := by decide +kernel
theorem e_106_40 : dec prog_9_method_13_code 40 = some (.iload_n 2, 41, 2, 0) := by decide +kernel
theorem e_106_41 : dec prog_9_method_13_code 41 = some (.istore_n 2, 42, 2, 0) := by decide +kernel
theorem e_106_42 : dec prog_9_method_13_code 42 = some (.iinc 3 1, 45, 3, 1) := by decide +kernel
theorem e_106_45 : dec prog_9_method_13_code 45 = some (.goto (-40), 48, 5, 0) := by decide +kernel
theorem e_106_48 : dec prog_9_method_13_code 48 = some (.iload_n 2, 49, 2, 0) := by decide +kernel
theorem e_106_49 : dec prog_9_method_13_code 49 = some (.ireturn, 50, 0, 0) := by decide +kernel
theorem E_106 : dec prog_9_method_13_code 0 = some (.bipush (-6), 2, 0, (-6)) ∧ dec prog_9_method_13_code 2 = some (.istore_n 2, 3, 2, 0) ∧ dec prog_9_method_13_code 3 = some (.iconst 0, 4, 0, 0) ∧ dec prog_9_method_13_code 4 = some (.istore_n 3, 5, 3, 0) ∧ dec prog_9_method_13_code 5 = some (.iload_n 3, 6, 3, 0) ∧ dec prog_9_method_13_code 6 = some (.aload_n 0, 7, 0, 0) ∧ dec prog_9_method_13_code 7 = some (.getfield 7, 10, 0, 0) ∧ dec prog_9_method_13_code 10 = some (.bipush 15, 12, 0, 15) ∧ dec prog_9_method_13_code 12 = some (.iaload, 13, 0, 0) ∧ dec prog_9_method_13_code 13 = some (.if_icmp .ge 35, 16, 48, 0) ∧ dec prog_9_method_13_code 16 = some (.aload_n 0, 17, 0, 0) ∧ dec prog_9_method_13_code 17 = some (.iload_n 3, 18, 3, 0) ∧ dec prog_9_method_13_code 18 = some (.iconst 3, 19, 0, 3) ∧ dec prog_9_method_13_code 19 = some (.invokevirtual 47, 22, 0, 0) ∧ dec prog_9_method_13_code 22 = some (.iconst 1, 23, 0, 1) ∧ dec prog_9_method_13_code 23 = some (.if_icmp .ne 17, 26, 40, 0) ∧ dec prog_9_method_13_code 26 = some (.aload_n 0, 27, 0, 0) ∧ dec prog_9_method_13_code 27 = some (.iload_n 3, 28, 3, 0) ∧ dec prog_9_method_13_code 28 = some (.iconst 4, 29, 0, 4) ∧ dec prog_9_method_13_code 29 = some (.invokevirtual 47, 32, 0, 0) ∧ dec prog_9_method_13_code 32 = some (.iload_n 1, 33, 1, 0) ∧ dec prog_9_method_13_code 33 = some (.if_icmp .ne 7, 36, 40, 0) ∧ dec prog_9_method_13_code 36 = some (.iload_n 3, 37, 3, 0) ∧ dec prog_9_method_13_code 37 = some (.goto 4, 40, 41, 0) ∧ dec prog_9_method_13_code 40 = some (.iload_n 2, 41, 2, 0) ∧ dec prog_9_method_13_code 41 = some (.istore_n 2, 42, 2, 0) ∧ dec prog_9_method_13_code 42 = some (.iinc 3 1, 45, 3, 1) ∧ dec prog_9_method_13_code 45 = some (.goto (-40), 48, 5, 0) ∧ dec prog_9_method_13_code 48 = some (.iload_n 2, 49, 2, 0) ∧ dec prog_9_method_13_code 49 = some (.ireturn, 50, 0, 0) := ⟨e_106_0, e_106_2, e_106_3, e_106_4, e_106_5, e_106_6, e_106_7, e_106_10, e_106_12, e_106_13, e_106_16, e_106_17, e_106_18, e_106_19, e_106_22, e_106_23, e_106_26, e_106_27, e_106_28, e_106_29, e_106_32, e_106_33, e_106_36, e_106_37, e_106_40, e_106_41, e_106_42, e_106_45, e_106_48, e_106_49⟩
theorem e_107_0 : dec prog_9_method_14_code 0 = some (.aload_n 0, 1, 0, 0) := by decide +kernel
theorem e_107_1 : dec prog_9_method_14_code 1 = some (.iload_n 1, 2, 1, 0) := by decide +kernel
theorem e_107_2 : dec prog_9_method_14_code 2 = some (.invokevirtual 51, 5, 0, 0) := by decide +kernel
theorem e_107_5 : dec prog_9_method_14_code 5 = some (.istore_n 2, 6, 2, 0) := by decide +kernel
theorem e_107_6 : dec prog_9_method_14_code 6 = some (.iload_n 2, 7, 2, 0) := by decide +kernel
theorem e_107_7 : dec prog_9_method_14_code 7 = some (.ifCond .ne 8, 10, 15, 0) := by decide +kernel
theorem e_107_10 : dec prog_9_method_14_code 10 = some (.bipush (-6), 12, 0, (-6)) := by decide +kernel
theorem e_107_12 : dec prog_9_method_14_code 12 = some (.goto 15, 15, 27, 0) := by decide +kernel
theorem e_107_15 : dec prog_9_method_14_code 15 = some (.aload_n 0, 16, 0, 0) := by decide +kernel
theorem e_107_16 : dec prog_9_method_14_code 16 = some (.bipush 10, 18, 0, 10) := by decide +kernel
theorem e_107_18 : dec prog_9_method_14_code 18 = some (.iload_n 1, 19, 1, 0) := by decide +kernel
theorem e_107_19 : dec prog_9_method_14_code 19 = some (.imul, 20, 0, 0) := by decide +kernel
theorem e_107_20 : dec prog_9_method_14_code 20 = some (.iload_n 2, 21, 2, 0) := by decide +kernel
theorem e_107_21 : dec prog_9_method_14_code 21 = some (.iadd, 22, 0, 0) := by decide +kernel
theorem e_107_22 : dec prog_9_method_14_code 22 = some (.iconst 1, 23, 0, 1) := by decide +kernel
theorem e_107_23 : dec prog_9_method_14_code 23 = some (.isub, 24, 0, 0) := by decide +kernel
theorem e_107_24 : dec prog_9_method_14_code 24 = some (.invokevirtual 55, 27, 0, 0) := by decide +kernel
theorem e_107_27 : dec prog_9_method_14_code 27 = some (.ireturn, 28, 0, 0) := by decide +kernel
theorem E_107 : dec prog_9_method_14_code 0 = some (.aload_n 0, 1, 0, 0) ∧ dec prog_9_method_14_code 1 = some (.iload_n 1, 2, 1, 0) ∧ dec prog_9_method_14_code 2 = some (.invokevirtual 51, 5, 0, 0) ∧ dec prog_9_method_14_code 5 = some (.istore_n 2, 6, 2, 0) ∧ dec prog_9_method_14_code 6 = some (.iload_n 2, 7, 2, 0) ∧ dec prog_9_method_14_code 7 = some (.ifCond .ne 8, 10, 15, 0) ∧ dec prog_9_method_14_code 10 = some (.bipush (-6), 12, 0, (-6)) ∧ dec prog_9_method_14_code 12 = some (.goto 15, 15, 27, 0) ∧ dec prog_9_method_14_code 15 = some (.aload_n 0, 16, 0, 0) ∧ dec prog_9_method_14_code 16 = some (.bipush 10, 18, 0, 10) ∧ dec prog_9_method_14_code 18 = some (.iload_n 1, 19, 1, 0) ∧ dec prog_9_method_14_code 19 = some (.imul, 20, 0, 0) ∧ dec prog_9_method_14_code 20 = some (.iload_n 2, 21, 2, 0) ∧ dec prog_9_method_14_code 21 = some (.iadd, 22, 0, 0) ∧ dec prog_9_method_14_code 22 = some (.iconst 1, 23, 0, 1) ∧ dec prog_9_method_14_code 23 = some (.isub, 24, 0, 0) ∧ dec prog_9_method_14_code 24 = some (.invokevirtual 55, 27, 0, 0) ∧ dec prog_9_method_14_code 27 = some (.ireturn, 28, 0, 0) := ⟨e_107_0, e_107_1, e_107_2, e_107_5, e_107_6, e_107_7, e_107_10, e_107_12, e_107_15, e_107_16, e_107_18, e_107_19, e_107_20, e_107_21, e_107_22, e_107_23, e_107_24, e_107_27⟩
theorem e_108_0 : dec prog_9_method_15_code 0 = some (.iconst 0, 1, 0, 0) := by decide +kernel
theorem e_108_1 : dec prog_9_method_15_code 1 = some (.istore_n 2, 2, 2, 0) := by decide +kernel
theorem e_108_2 : dec prog_9_method_15_code 2 = some (.iconst 0, 3, 0, 0) := by decide +kernel
theorem e_108_3 : dec prog_9_method_15_code 3 = some (.istore_n 3, 4, 3, 0) := by decide +kernel
theorem e_108_4 : dec prog_9_method_15_code 4 = some (.iload_n 3, 5, 3, 0) := by decide +kernel
theorem e_108_5 : dec prog_9_method_15_code 5 = some (.aload_n 0, 6, 0, 0) := by decide +kernel
theorem e_108_6 : dec prog_9_method_15_code 6 = some (.getfield 7, 9, 0, 0) := by decide +kernel
theorem e_108_9 : dec prog_9_method_15_code 9 = some (.bipush 15, 11, 0, 15) := by decide +kernel
theorem e_108_11 : dec prog_9_method_15_code 11 = some (.iaload, 12, 0, 0) := by decide +kernel
theorem e_108_12 : dec prog_9_method_15_code 12 = some (.if_icmp .ge 29, 15, 41, 0) := by decide +kernel
theorem e_108_15 : dec prog_9_method_15_code 15 = some (.iload_n 2, 16, 2, 0) := by decide +kernel
theorem e_108_16 : dec prog_9_method_15_code 16 = some (.aload_n 0, 17, 0, 0) := by decide +kernel
theorem e_108_17 : dec prog_9_method_15_code 17 = some (.iload_n 3, 18, 3, 0) := by decide +kernel
theorem e_108_18 : dec prog_9_method_15_code 18 = some (.iconst 3, 19, 0, 3) := by decide +kernel
theorem e_108_19 : dec prog_9_method_15_code 19 = some (.invokevirtual 47, 22, 0, 0) := by decide +kernel
theorem e_108_22 : dec prog_9_method_15_code 22 = some (.iload_n 1, 23, 1, 0) := by decide +kernel
theorem e_108_23 : dec prog_9_method_15_code 23 = some (.if_icmp .ne 9, 26, 32, 0) := by decide +kernel
theorem e_108_26 : dec prog_9_method_15_code 26 = some (.iconst 1, 27, 0, 1) := by decide +kernel
theorem e_108_27 : dec prog_9_method_15_code 27 = some (.iload_n 3, 28, 3, 0) := by decide +kernel
theorem e_108_28 : dec prog_9_method_15_code 28 = some (.ishl, 29, 0, 0) := by decide +kernel
theorem e_108_29 : dec prog_9_method_15_code 29 = some (.goto 4, 32, 33, 0) := by decide +kernel
theorem e_108_32 : dec prog_9_method_15_code 32 = some (.iconst 0, 33, 0, 0) := by decide +kernel
theorem e_108_33 : dec prog_9_method_15_code 33 = some (.ior, 34, 0, 0) := by decide +kernel
theorem e_108_34 : dec prog_9_method_15_code 34 = some (.istore_n 2, 35, 2, 0) := by decide +kernel
theorem e_108_35 : dec prog_9_method_15_code 35 = some (.iinc 3 1, 38, 3, 1) := by decide +kernel
theorem e_108_38 : dec prog_9_method_15_code 38 = some (.goto (-34), 41, 4, 0) := by decide +kernel
theorem e_108_41 : dec prog_9_method_15_code 41 = some (.iload_n 2, 42, 2, 0) := by decide +kernel
theorem e_108_42 : dec prog_9_method_15_code 42 = some (.ireturn, 43, 0, 0) := by decide +kernel
theorem E_108 : dec prog_9_method_15_code 0 = some (.iconst 0, 1, 0, 0) ∧ dec prog_9_method_15_code 1 = some (.istore_n 2, 2, 2, 0) ∧ dec prog_9_method_15_code 2 = some (.iconst 0, 3, 0, 0) ∧ dec prog_9_method_15_code 3 = some (.istore_n 3, 4, 3, 0) ∧ dec prog_9_method_15_code 4 = some (.iload_n 3, 5, 3, 0) ∧ dec prog_9_method_15_code 5 = some (.aload_n 0, 6, 0, 0) ∧ dec prog_9_method_15_code 6 = some (.getfield 7, 9, 0, 0) ∧ dec prog_9_method_15_code 9 = some (.bipush 15, 11, 0, 15) ∧ dec prog_9_method_15_code 11 = some (.iaload, 12, 0, 0) ∧ dec prog_9_method_15_code 12 = some (.if_icmp .ge 29, 15, 41, 0) ∧ dec prog_9_method_15_code 15 = some (.iload_n 2, 16, 2, 0) ∧ dec prog_9_method_15_code 16 = some (.aload_n 0, 17, 0, 0) ∧ dec prog_9_method_15_code 17 = some (.iload_n 3, 18, 3, 0) ∧ dec prog_9_method_15_code 18 = some (.iconst 3, 19, 0, 3) ∧ dec prog_9_method_15_code 19 = some (.invokevirtual 47, 22, 0, 0) ∧ dec prog_9_method_15_code 22 = some (.iload_n 1, 23, 1, 0) ∧ dec prog_9_method_15_code 23 = some (.if_icmp .ne 9, 26, 32, 0) ∧ dec prog_9_method_15_code 26 = some (.iconst 1, 27, 0, 1) ∧ dec prog_9_method_15_code 27 = some (.iload_n 3, 28, 3, 0) ∧ dec prog_9_method_15_code 28 = some (.ishl, 29, 0, 0) ∧ dec prog_9_method_15_code 29 = some (.goto 4, 32, 33, 0) ∧ dec prog_9_method_15_code 32 = some (.iconst 0, 33, 0, 0) ∧ dec prog_9_method_15_code 33 = some (.ior, 34, 0, 0) ∧ dec prog_9_method_15_code 34 = some (.istore_n 2, 35, 2, 0) ∧ dec prog_9_method_15_code 35 = some (.iinc 3 1, 38, 3, 1) ∧ dec prog_9_method_15_code 38 = some (.goto (-34), 41, 4, 0) ∧ dec prog_9_method_15_code 41 = some (.iload_n 2, 42, 2, 0) ∧ dec prog_9_method_15_code 42 = some (.ireturn, 43, 0, 0) := ⟨e_108_0, e_108_1, e_108_2, e_108_3, e_108_4, e_108_5, e_108_6, e_108_9, e_108_11, e_108_12, e_108_15, e_108_16, e_108_17, e_108_18, e_108_19, e_108_22, e_108_23, e_108_26, e_108_27, e_108_28, e_108_29, e_108_32, e_108_33, e_108_34, e_108_35, e_108_38, e_108_41, e_108_42⟩
theorem e_109_0 : dec prog_9_method_16_code 0 = some (.iconst 0, 1, 0, 0) := by decide +kernel
theorem e_109_1 : dec prog_9_method_16_code 1 = some (.istore_n 2, 2, 2, 0) := by decide +kernel
theorem e_109_2 : dec prog_9_method_16_code 2 = some (.iconst 0, 3, 0, 0) := by decide +kernel
theorem e_109_3 : dec prog_9_method_16_code 3 = some (.istore_n 3, 4, 3, 0) := by decide +kernel
theorem e_109_4 : dec prog_9_method_16_code 4 = some (.iload_n 3, 5, 3, 0) := by decide +kernel
theorem e_109_5 : dec prog_9_method_16_code 5 = some (.aload_n 0, 6, 0, 0) := by decide +kernel
theorem e_109_6 : dec prog_9_method_16_code 6 = some (.getfield 7, 9, 0, 0) := by decide +kernel
theorem e_109_9 : dec prog_9_method_16_code 9 = some (.bipush 15, 11, 0, 15) := by decide +kernel
theorem e_109_11 : dec prog_9_method_16_code 11 = some (.iaload, 12, 0, 0) := by decide +kernel
theorem e_109_12 : dec prog_9_method_16_code 12 = some (.if_icmp .ge 27, 15, 39, 0) := by decide +kernel
theorem e_109_15 : dec prog_9_method_16_code 15 = some (.iload_n 2, 16, 2, 0) := by decide +kernel
theorem e_109_16 : dec prog_9_method_16_code 16 = some (.aload_n 0, 17, 0, 0) := by decide +kernel
theorem e_109_17 : dec prog_9_method_16_code 17 = some (.iload_n 3, 18, 3, 0) := by decide +kernel
theorem e_109_18 : dec prog_9_method_16_code 18 = some (.iconst 3, 19, 0, 3) := by decide +kernel
theorem e_109_19 : dec prog_9_method_16_code 19 = some (.invokevirtual 47, 22, 0, 0) := by decide +kernel
theorem e_109_22 : dec prog_9_method_16_code 22 = some (.iload_n 1, 23, 1, 0) := by decide +kernel
theorem e_109_23 : dec prog_9_method_16_code 23 = some (.if_icmp .ne 7, 26, 30, 0) := by decide +kernel
theorem e_109_26 : dec prog_9_method_16_code 26 = some (.iconst 1, 27, 0, 1) := by decide +kernel
theorem e_109_27 : dec prog_9_method_16_code 27 = some (.goto 4, 30, 31, 0) := by decide +kernel
theorem e_109_30 : dec prog_9_method_16_code 30 = some (.iconst 0, 31, 0, 0) := by decide +kernel
theorem e_109_31 : dec prog_9_method_16_code 31 = some (.iadd, 32, 0, 0) := by decide +kernel
theorem e_109_32 : dec prog_9_method_16_code 32 = some (.istore_n 2, 33, 2, 0) := by decide +kernel
theorem e_109_33 : dec prog_9_method_16_code 33 = some (.iinc 3 1, 36, 3, 1) := by decide +kernel
theorem e_109_36 : dec prog_9_method_16_code 36 = some (.goto (-32), 39, 4, 0) := by decide +kernel
theorem e_109_39 : dec prog_9_method_16_code 39 = some (.iload_n 2, 40, 2, 0) := by decide +kernel
theorem e_109_40 : dec prog_9_method_16_code 40 = some (.ireturn, 41, 0, 0) := by decide +kernel
theorem E_109 : dec prog_9_method_16_code 0 = some (.iconst 0, 1, 0, 0) ∧ dec prog_9_method_16_code 1 = some (.istore_n 2, 2, 2, 0) ∧ dec prog_9_method_16_code 2 = some (.iconst 0, 3, 0, 0) ∧ dec prog_9_method_16_code 3 = some (.istore_n 3, 4, 3, 0) ∧ dec prog_9_method_16_code 4 = some (.iload_n 3, 5, 3, 0) ∧ dec prog_9_method_16_code 5 = some (.aload_n 0, 6, 0, 0) ∧ dec prog_9_method_16_code 6 = some (.getfield 7, 9, 0, 0) ∧ dec prog_9_method_16_code 9 = some (.bipush 15, 11, 0, 15) ∧ dec prog_9_method_16_code 11 = some (.iaload, 12, 0, 0) ∧ dec prog_9_method_16_code 12 = some (.if_icmp .ge 27, 15, 39, 0) ∧ dec prog_9_method_16_code 15 = some (.iload_n 2, 16, 2, 0) ∧ dec prog_9_method_16_code 16 = some (.aload_n 0, 17, 0, 0) ∧ dec prog_9_method_16_code 17 = some (.iload_n 3, 18, 3, 0) ∧ dec prog_9_method_16_code 18 = some (.iconst 3, 19, 0, 3) ∧ dec prog_9_method_16_code 19 = some (.invokevirtual 47, 22, 0, 0) ∧ dec prog_9_method_16_code 22 = some (.iload_n 1, 23, 1, 0) ∧ dec prog_9_method_16_code 23 = some (.if_icmp .ne 7, 26, 30, 0) ∧ dec prog_9_method_16_code 26 = some (.iconst 1, 27, 0, 1) ∧ dec prog_9_method_16_code 27 = some (.goto 4, 30, 31, 0) ∧ dec prog_9_method_16_code 30 = some (.iconst 0, 31, 0, 0) ∧ dec prog_9_method_16_code 31 = some (.iadd, 32, 0, 0) ∧ dec prog_9_method_16_code 32 = some (.istore_n 2, 33, 2, 0) ∧ dec prog_9_method_16_code 33 = some (.iinc 3 1, 36, 3, 1) ∧ dec prog_9_method_16_code 36 = some (.goto (-32), 39, 4, 0) ∧ dec prog_9_method_16_code 39 = some (.iload_n 2, 40, 2, 0) ∧ dec prog_9_method_16_code 40 = some (.ireturn, 41, 0, 0) := ⟨e_109_0, e_109_1, e_109_2, e_109_3, e_109_4, e_109_5, e_109_6, e_109_9, e_109_11, e_109_12, e_109_15, e_109_16, e_109_17, e_109_18, e_109_19, e_109_22, e_109_23, e_109_26, e_109_27, e_109_30, e_109_31, e_109_32, e_109_33, e_109_36, e_109_39, e_109_40⟩
theorem e_110_0 : dec prog_9_method_17_code 0 = some (.iconst 0, 1, 0, 0) := by decide +kernel
theorem e_110_1 : dec prog_9_method_17_code 1 = some (.istore_n 1, 2, 1, 0) := by decide +kernel
theorem e_110_2 : dec prog_9_method_17_code 2 = some (.iload_n 1, 3, 1, 0) := by decide +kernel
theorem e_110_3 : dec prog_9_method_17_code 3 = some (.aload_n 0, 4, 0, 0) := by decide +kernel
theorem e_110_4 : dec prog_9_method_17_code 4 = some (.getfield 7, 7, 0, 0) := by decide +kernel
theorem e_110_7 : dec prog_9_method_17_code 7 = some (.bipush 15, 9, 0, 15) := by decide +kernel
theorem e_110_9 : dec prog_9_method_17_code 9 = some (.iaload, 10, 0, 0) := by decide +kernel
theorem e_110_10 : dec prog_9_method_17_code 10 = some (.if_icmp .ge 18, 13, 28, 0) := by decide +kernel
theorem e_110_13 : dec prog_9_method_17_code 13 = some (.aload_n 0, 14, 0, 0) := by decide +kernel
theorem e_110_14 : dec prog_9_method_17_code 14 = some (.iload_n 1, 15, 1, 0) := by decide +kernel
theorem e_110_15 : dec prog_9_method_17_code 15 = some (.iconst 3, 16, 0, 3) := by decide +kernel
theorem e_110_16 : dec prog_9_method_17_code 16 = some (.invokevirtual 47, 19, 0, 0) := by decide +kernel
theorem e_110_19 : dec prog_9_method_17_code 19 = some (.ifCond .eq 9, 22, 28, 0) := by decide +kernel
theorem e_110_22 : dec prog_9_method_17_code 22 = some (.iinc 1 1, 25, 1, 1) := by decide +kernel
theorem e_110_25 : dec prog_9_method_17_code 25 = some (.goto (-23), 28, 2, 0) := by decide +kernel
theorem e_110_28 : dec prog_9_method_17_code 28 = some (.iload_n 1, 29, 1, 0) := by decide +kernel
theorem e_110_29 : dec prog_9_method_17_code 29 = some (.aload_n 0, 30, 0, 0) := by decide +kernel
theorem e_110_30 : dec prog_9_method_17_code 30 = some (.getfield 7, 33, 0, 0) := by decide +kernel
theorem e_110_33 : dec prog_9_method_17_code 33 = some (.bipush 15, 35, 0, 15) := by decide +kernel
theorem e_110_35 : dec prog_9_method_17_code 35 = some (.iaload, 36, 0, 0) := by decide +kernel
theorem e_110_36 : dec prog_9_method_17_code 36 = some (.if_icmp .ge 7, 39, 43, 0) := by decide +kernel
theorem e_110_39 : dec prog_9_method_17_code 39 = some (.iload_n 1, 40, 1, 0) := by decide +kernel
theorem e_110_40 : dec prog_9_method_17_code 40 = some (.goto 5, 43, 45, 0) := by decide +kernel
theorem e_110_43 : dec prog_9_method_17_code 43 = some (.bipush (-6), 45, 0, (-6)) := by decide +kernel
theorem e_110_45 : dec prog_9_method_17_code 45 = some (.ireturn, 46, 0, 0) := by decide +kernel
theorem E_110 : dec prog_9_method_17_code 0 = some (.iconst 0, 1, 0, 0) ∧ dec prog_9_method_17_code 1 = some (.istore_n 1, 2, 1, 0) ∧ dec prog_9_method_17_code 2 = some (.iload_n 1, 3, 1, 0) ∧ dec prog_9_method_17_code 3 = some (.aload_n 0, 4, 0, 0) ∧ dec prog_9_method_17_code 4 = some (.getfield 7, 7, 0, 0) ∧ dec prog_9_method_17_code 7 = some (.bipush 15, 9, 0, 15) ∧ dec prog_9_method_17_code 9 = some (.iaload, 10, 0, 0) ∧ dec prog_9_method_17_code 10 = some (.if_icmp .ge 18, 13, 28, 0) ∧ dec prog_9_method_17_code 13 = some (.aload_n 0, 14, 0, 0) ∧ dec prog_9_method_17_code 14 = some (.iload_n 1, 15, 1, 0) ∧ dec prog_9_method_17_code 15 = some (.iconst 3, 16, 0, 3) ∧ dec prog_9_method_17_code 16 = some (.invokevirtual 47, 19, 0, 0) ∧ dec prog_9_method_17_code 19 = some (.ifCond .eq 9, 22, 28, 0) ∧ dec prog_9_method_17_code 22 = some (.iinc 1 1, 25, 1, 1) ∧ dec prog_9_method_17_code 25 = some (.goto (-23), 28, 2, 0) ∧ dec prog_9_method_17_code 28 = some (.iload_n 1, 29, 1, 0) ∧ dec prog_9_method_17_code 29 = some (.aload_n 0, 30, 0, 0) ∧ dec prog_9_method_17_code 30 = some (.getfield 7, 33, 0, 0) ∧ dec prog_9_method_17_code 33 = some (.bipush 15, 35, 0, 15) ∧ dec prog_9_method_17_code 35 = some (.iaload, 36, 0, 0) ∧ dec prog_9_method_17_code 36 = some (.if_icmp .ge 7, 39, 43, 0) ∧ dec prog_9_method_17_code 39 = some (.iload_n 1, 40, 1, 0) ∧ dec prog_9_method_17_code 40 = some (.goto 5, 43, 45, 0) ∧ dec prog_9_method_17_code 43 = some (.bipush (-6), 45, 0, (-6)) ∧ dec prog_9_method_17_code 45 = some (.ireturn, 46, 0, 0) := ⟨e_110_0, e_110_1, e_110_2, e_110_3, e_110_4, e_110_7, e_110_9, e_110_10, e_110_13, e_110_14, e_110_15, e_110_16, e_110_19, e_110_22, e_110_25, e_110_28, e_110_29, e_110_30, e_110_33, e_110_35, e_110_36, e_110_39, e_110_40, e_110_43, e_110_45⟩
theorem e_111_0 : dec prog_9_method_18_code 0 = some (.aload_n 0, 1, 0, 0) := by decide +kernel
theorem e_111_1 : dec prog_9_method_18_code 1 = some (.iload_n 2, 2, 2, 0) := by decide +kernel
theorem e_111_2 : dec prog_9_method_18_code 2 = some (.invokevirtual 51, 5, 0, 0) := by decide +kernel
theorem e_111_5 : dec prog_9_method_18_code 5 = some (.istore_n 3, 6, 3, 0) := by decide +kernel
theorem e_111_6 : dec prog_9_method_18_code 6 = some (.aload_n 0, 7, 0, 0) := by decide +kernel
theorem e_111_7 : dec prog_9_method_18_code 7 = some (.iload_n 1, 8, 1, 0) := by decide +kernel
theorem e_111_8 : dec prog_9_method_18_code 8 = some (.iconst 3, 9, 0, 3) := by decide +kernel
theorem e_111_9 : dec prog_9_method_18_code 9 = some (.iconst 1, 10, 0, 1) := by decide +kernel
theorem e_111_10 : dec prog_9_method_18_code 10 = some (.invokevirtual 58, 13, 0, 0) := by decide +kernel
theorem e_111_13 : dec prog_9_method_18_code 13 = some (.aload_n 0, 14, 0, 0) := by decide +kernel
theorem e_111_14 : dec prog_9_method_18_code 14 = some (.iload_n 1, 15, 1, 0) := by decide +kernel
theorem e_111_15 : dec prog_9_method_18_code 15 = some (.iconst 4, 16, 0, 4) := by decide +kernel
theorem e_111_16 : dec prog_9_method_18_code 16 = some (.bipush 10, 18, 0, 10) := by decide +kernel
theorem e_111_18 : dec prog_9_method_18_code 18 = some (.iload_n 2, 19, 2, 0) := by decide +kernel
theorem e_111_19 : dec prog_9_method_18_code 19 = some (.imul, 20, 0, 0) := by decide +kernel
theorem e_111_20 : dec prog_9_method_18_code 20 = some (.iload_n 3, 21, 3, 0) := by decide +kernel
theorem e_111_21 : dec prog_9_method_18_code 21 = some (.iadd, 22, 0, 0) := by decide +kernel
theorem e_111_22 : dec prog_9_method_18_code 22 = some (.invokevirtual 58, 25, 0, 0) := by decide +kernel
theorem e_111_25 : dec prog_9_method_18_code 25 = some (.return_, 26, 0, 0) := by decide +kernel
theorem E_111 : dec prog_9_method_18_code 0 = some (.aload_n 0, 1, 0, 0) ∧ dec prog_9_method_18_code 1 = some (.iload_n 2, 2, 2, 0) ∧ dec prog_9_method_18_code 2 = some (.invokevirtual 51, 5, 0, 0) ∧ dec prog_9_method_18_code 5 = some (.istore_n 3, 6, 3, 0) ∧ dec prog_9_method_18_code 6 = some (.aload_n 0, 7, 0, 0) ∧ dec prog_9_method_18_code 7 = some (.iload_n 1, 8, 1, 0) ∧ dec prog_9_method_18_code 8 = some (.iconst 3, 9, 0, 3) ∧ dec prog_9_method_18_code 9 = some (.iconst 1, 10, 0, 1) ∧ dec prog_9_method_18_code 10 = some (.invokevirtual 58, 13, 0, 0) ∧ dec prog_9_method_18_code 13 = some (.aload_n 0, 14, 0, 0) ∧ dec prog_9_method_18_code 14 = some (.iload_n 1, 15, 1, 0) ∧ dec prog_9_method_18_code 15 = some (.iconst 4, 16, 0, 4) ∧ dec prog_9_method_18_code 16 = some (.bipush 10, 18, 0, 10) ∧ dec prog_9_method_18_code 18 = some (.iload_n 2, 19, 2, 0) ∧ dec prog_9_method_18_code 19 = some (.imul, 20, 0, 0) ∧ dec prog_9_method_18_code 20 = some (.iload_n 3, 21, 3, 0) ∧ dec prog_9_method_18_code 21 = some (.iadd, 22, 0, 0) ∧ dec prog_9_method_18_code 22 = some (.invokevirtual 58, 25, 0, 0) ∧ dec prog_9_method_18_code 25 = some (.return_, 26, 0, 0) := ⟨e_111_0, e_111_1, e_111_2, e_111_5, e_111_6, e_111_7, e_111_8, e_111_9, e_111_10, e_111_13, e_111_14, e_111_15, e_111_16, e_111_18, e_111_19, e_111_20, e_111_21, e_111_22, e_111_25⟩
theorem e_112_0 : dec prog_9_method_19_code 0 = some (.aload_n 0, 1, 0, 0) := by decide +kernel
theorem e_112_1 : dec prog_9_method_19_code 1 = some (.iload_n 1, 2, 1, 0) := by decide +kernel
theorem e_112_2 : dec prog_9_method_19_code 2 = some (.iconst 3, 3, 0, 3) := by decide +kernel
theorem e_112_3 : dec prog_9_method_19_code 3 = some (.iload_n 2, 4, 2, 0) := by decide +kernel
theorem e_112_4 : dec prog_9_method_19_code 4 = some (.invokevirtual 58, 7, 0, 0) := by decide +kernel
theorem e_112_7 : dec prog_9_method_19_code 7 = some (.aload_n 0, 8, 0, 0) := by decide +kernel
theorem e_112_8 : dec prog_9_method_19_code 8 = some (.iload_n 1, 9, 1, 0) := by decide +kernel
theorem e_112_9 : dec prog_9_method_19_code 9 = some (.iconst 4, 10, 0, 4) := by decide +kernel
theorem e_112_10 : dec prog_9_method_19_code 10 = some (.bipush (-6), 12, 0, (-6)) := by decide +kernel
theorem e_112_12 : dec prog_9_method_19_code 12 = some (.invokevirtual 58, 15, 0, 0) := by decide +kernel
theorem e_112_15 : dec prog_9_method_19_code 15 = some (.return_, 16, 0, 0) := by decide +kernel
theorem E_112 : dec prog_9_method_19_code 0 = some (.aload_n 0, 1, 0, 0) ∧ dec prog_9_method_19_code 1 = some (.iload_n 1, 2, 1, 0) ∧ dec prog_9_method_19_code 2 = some (.iconst 3, 3, 0, 3) ∧ dec prog_9_method_19_code 3 = some (.iload_n 2, 4, 2, 0) ∧ dec prog_9_method_19_code 4 = some (.invokevirtual 58, 7, 0, 0) ∧ dec prog_9_method_19_code 7 = some (.aload_n 0, 8, 0, 0) ∧ dec prog_9_method_19_code 8 = some (.iload_n 1, 9, 1, 0) ∧ dec prog_9_method_19_code 9 = some (.iconst 4, 10, 0, 4) ∧ dec prog_9_method_19_code 10 = some (.bipush (-6), 12, 0, (-6)) ∧ dec prog_9_method_19_code 12 = some (.invokevirtual 58, 15, 0, 0) ∧ dec prog_9_method_19_code 15 = some (.return_, 16, 0, 0) := ⟨e_112_0, e_112_1, e_112_2, e_112_3, e_112_4, e_112_7, e_112_8, e_112_9, e_112_10, e_112_12, e_112_15⟩
theorem e_113_0 : dec prog_9_method_20_code 0 = some (.iconst 0, 1, 0, 0) := by decide +kernel
theorem e_113_1 : dec prog_9_method_20_code 1 = some (.istore_n 1, 2, 1, 0) := by decide +kernel
theorem e_113_2 : dec prog_9_method_20_code 2 = some (.iconst 1, 3, 0, 1) := by decide +kernel
theorem e_113_3 : dec prog_9_method_20_code 3 = some (.istore_n 2, 4, 2, 0) := by decide +kernel
theorem e_113_4 : dec prog_9_method_20_code 4 = some (.iload_n 2, 5, 2, 0) := by decide +kernel
theorem e_113_5 : dec prog_9_method_20_code 5 = some (.bipush 8, 7, 0, 8) := by decide +kernel
theorem e_113_7 : dec prog_9_method_20_code 7 = some (.if_icmp .ge 28, 10, 35, 0) := by decide +kernel
theorem e_113_10 : dec prog_9_method_20_code 10 = some (.aload_n 0, 11, 0, 0) := by decide +kernel
theorem e_113_11 : dec prog_9_method_20_code 11 = some (.iload_n 2, 12, 2, 0) := by decide +kernel
theorem e_113_12 : dec prog_9_method_20_code 12 = some (.invokevirtual 51, 15, 0, 0) := by decide +kernel
theorem e_113_15 : dec prog_9_method_20_code 15 = some (.aload_n 0, 16, 0, 0) := by decide +kernel
theorem e_113_16 : dec prog_9_method_20_code 16 = some (.iload_n 1, 17, 1, 0) := by decide +kernel
theorem e_113_17 : dec prog_9_method_20_code 17 = some (.invokevirtual 51, 20, 0, 0) := by decide +kernel
theorem e_113_20 : dec prog_9_method_20_code 20 = some (.if_icmp .ge 7, 23, 27, 0) := by decide +kernel
theorem e_113_23 : dec prog_9_method_20_code 23 = some (.iload_n 2, 24, 2, 0) := by decide +kernel
theorem e_113_24 : dec prog_9_method_20_code 24 = some (.goto 4, 27, 28, 0) := by decide +kernel
theorem e_113_27 : dec prog_9_method_20_code 27 = some (.iload_n 1, 28, 1, 0) := by decide +kernel
theorem e_113_28 : dec prog_9_method_20_code 28 = some (.istore_n 1, 29, 1, 0) := by decide +kernel
theorem e_113_29 : dec prog_9_method_20_code 29 = some (.iinc 2 1, 32, 2, 1) := by decide +kernel
theorem e_113_32 : dec prog_9_method_20_code 32 = some (.goto (-28), 35, 4, 0) := by decide +kernel
theorem e_113_35 : dec prog_9_method_20_code 35 = some (.iload_n 1, 36, 1, 0) := by decide +kernel
theorem e_113_36 : dec prog_9_method_20_code 36 = some (.ireturn, 37, 0, 0) := by decide +kernel
theorem E_113 : dec prog_9_method_20_code 0 = some (.iconst 0, 1, 0, 0) ∧ dec prog_9_method_20_code 1 = some (.istore_n 1, 2, 1, 0) ∧ dec prog_9_method_20_code 2 = some (.iconst 1, 3, 0, 1) ∧ dec prog_9_method_20_code 3 = some (.istore_n 2, 4, 2, 0) ∧ dec prog_9_method_20_code 4 = some (.iload_n 2, 5, 2, 0) ∧ dec prog_9_method_20_code 5 = some (.bipush 8, 7, 0, 8) ∧ dec prog_9_method_20_code 7 = some (.if_icmp .ge 28, 10, 35, 0) ∧ dec prog_9_method_20_code 10 = some (.aload_n 0, 11, 0, 0) ∧ dec prog_9_method_20_code 11 = some (.iload_n 2, 12, 2, 0) ∧ dec prog_9_method_20_code 12 = some (.invokevirtual 51, 15, 0, 0) ∧ dec prog_9_method_20_code 15 = some (.aload_n 0, 16, 0, 0) ∧ dec prog_9_method_20_code 16 = some (.iload_n 1, 17, 1, 0) ∧ dec prog_9_method_20_code 17 = some (.invokevirtual 51, 20, 0, 0) ∧ dec prog_9_method_20_code 20 = some (.if_icmp .ge 7, 23, 27, 0) ∧ dec prog_9_method_20_code 23 = some (.iload_n 2, 24, 2, 0) ∧ dec prog_9_method_20_code 24 = some (.goto 4, 27, 28, 0) ∧ dec prog_9_method_20_code 27 = some (.iload_n 1, 28, 1, 0) ∧ dec prog_9_method_20_code 28 = some (.istore_n 1, 29, 1, 0) ∧ dec prog_9_method_20_code 29 = some (.iinc 2 1, 32, 2, 1) ∧ dec prog_9_method_20_code 32 = some (.goto (-28), 35, 4, 0) ∧ dec prog_9_method_20_code 35 = some (.iload_n 1, 36, 1, 0) ∧ dec prog_9_method_20_code 36 = some (.ireturn, 37, 0, 0) := ⟨e_113_0, e_113_1, e_113_2, e_113_3, e_113_4, e_113_5, e_113_7, e_113_10, e_113_11, e_113_12, e_113_15, e_113_16, e_113_17, e_113_20, e_113_23, e_113_24, e_113_27, e_113_28, e_113_29, e_113_32, e_113_35, e_113_36⟩
theorem e_114_0 : dec prog_9_method_21_code 0 = some (.iload_n 0, 1, 0, 0) := by decide +kernel
theorem e_114_1 : dec prog_9_method_21_code 1 = some (.tableswitch 88 0 5 #[39, 47, 56, 64, 72, 80], 40, 0, 0) := by decide +kernel
theorem e_114_40 : dec prog_9_method_21_code 40 = some (.iload_n 1, 41, 1, 0) := by decide +kernel
theorem e_114_41 : dec prog_9_method_21_code 41 = some (.iconst 1, 42, 0, 1) := by decide +kernel
theorem e_114_42 : dec prog_9_method_21_code 42 = some (.bipush 9, 44, 0, 9) := by decide +kernel
theorem e_114_44 : dec prog_9_method_21_code 44 = some (.invokestatic 32, 47, 0, 0) := by decide +kernel
theorem e_114_47 : dec prog_9_method_21_code 47 = some (.ireturn, 48, 0, 0) := by decide +kernel
theorem e_114_48 : dec prog_9_method_21_code 48 = some (.iload_n 1, 49, 1, 0) := by decide +kernel
theorem e_114_49 : dec prog_9_method_21_code 49 = some (.iconst 1, 50, 0, 1) := by decide +kernel
theorem e_114_50 : dec prog_9_method_21_code 50 = some (.sipush 200, 53, 0, 200) := by decide +kernel
theorem e_114_53 : dec prog_9_method_21_code 53 = some (.invokestatic 32, 56, 0, 0) := by decide +kernel
theorem e_114_56 : dec prog_9_method_21_code 56 = some (.ireturn, 57, 0, 0) := by decide +kernel
theorem e_114_57 : dec prog_9_method_21_code 57 = some (.iload_n 1, 58, 1, 0) := by decide +kernel
theorem e_114_58 : dec prog_9_method_21_code 58 = some (.iconst 1, 59, 0, 1) := by decide +kernel
theorem e_114_59 : dec prog_9_method_21_code 59 = some (.bipush 60, 61, 0, 60) := by decide +kernel
theorem e_114_61 : dec prog_9_method_21_code 61 = some (.invokestatic 32, 64, 0, 0) := by decide +kernel
theorem e_114_64 : dec prog_9_method_21_code 64 = some (.ireturn, 65, 0, 0) := by decide +kernel
theorem e_114_65 : dec prog_9_method_21_code 65 = some (.iload_n 1, 66, 1, 0) := by decide +kernel
theorem e_114_66 : dec prog_9_method_21_code 66 = some (.iconst 1, 67, 0, 1) := by decide +kernel
theorem e_114_67 : dec prog_9_method_21_code 67 = some (.bipush 99, 69, 0, 99) := by decide +kernel
theorem e_114_69 : dec prog_9_method_21_code 69 = some (.invokestatic 32, 72, 0, 0) := by decide +kernel
theorem e_114_72 : dec prog_9_method_21_code 72 = some (.ireturn, 73, 0, 0) := by decide +kernel
theorem e_114_73 : dec prog_9_method_21_code 73 = some (.iload_n 1, 74, 1, 0) := by decide +kernel
theorem e_114_74 : dec prog_9_method_21_code 74 = some (.iconst 0, 75, 0, 0) := by decide +kernel
theorem e_114_75 : dec prog_9_method_21_code 75 = some (.bipush 9, 77, 0, 9) := by decide +kernel
theorem e_114_77 : dec prog_9_method_21_code 77 = some (.invokestatic 32, 80, 0, 0) := by decide +kernel
theorem e_114_80 : dec prog_9_method_21_code 80 = some (.ireturn, 81, 0, 0) := by decide +kernel
theorem e_114_81 : dec prog_9_method_21_code 81 = some (.iload_n 1, 82, 1, 0) := by decide +kernel
theorem e_114_82 : dec prog_9_method_21_code 82 = some (.iconst 0, 83, 0, 0) := by decide +kernel
theorem e_114_83 : dec prog_9_method_21_code 83 = some (.bipush 8, 85, 0, 8) := by decide +kernel
theorem e_114_85 : dec prog_9_method_21_code 85 = some (.invokestatic 32, 88, 0, 0) := by decide +kernel
theorem e_114_88 : dec prog_9_method_21_code 88 = some (.ireturn, 89, 0, 0) := by decide +kernel
theorem e_114_89 : dec prog_9_method_21_code 89 = some (.iconst 0, 90, 0, 0) := by decide +kernel
theorem e_114_90 : dec prog_9_method_21_code 90 = some (.ireturn, 91, 0, 0) := by decide +kernel
theorem E_114 : dec prog_9_method_21_code 0 = some (.iload_n 0, 1, 0, 0) ∧ dec prog_9_method_21_code 1 = some (.tableswitch 88 0 5 #[39, 47, 56, 64, 72, 80], 40, 0, 0) ∧ dec prog_9_method_21_code 40 = some (.iload_n 1, 41, 1, 0) ∧ dec prog_9_method_21_code 41 = some (.iconst 1, 42, 0, 1) ∧ dec prog_9_method_21_code 42 = some (.bipush 9, 44, 0, 9) ∧ dec prog_9_method_21_code 44 = some (.invokestatic 32, 47, 0, 0) ∧ dec prog_9_method_21_code 47 = some (.ireturn, 48, 0, 0) ∧ dec prog_9_method_21_code 48 = some (.iload_n 1, 49, 1, 0) ∧ dec prog_9_method_21_code 49 = some (.iconst 1, 50, 0, 1) ∧ dec prog_9_method_21_code 50 = some (.sipush 200, 53, 0, 200) ∧ dec prog_9_method_21_code 53 = some (.invokestatic 32, 56, 0, 0) ∧ dec prog_9_method_21_code 56 = some (.ireturn, 57, 0, 0) ∧ dec prog_9_method_21_code 57 = some (.iload_n 1, 58, 1, 0) ∧ dec prog_9_method_21_code 58 = some (.iconst 1, 59, 0, 1) ∧ dec prog_9_method_21_code 59 = some (.bipush 60, 61, 0, 60) ∧ dec prog_9_method_21_code 61 = some (.invokestatic 32, 64, 0, 0) ∧ dec prog_9_method_21_code 64 = some (.ireturn, 65, 0, 0) ∧ dec prog_9_method_21_code 65 = some (.iload_n 1, 66, 1, 0) ∧ dec prog_9_method_21_code 66 = some (.iconst 1, 67, 0, 1) ∧ dec prog_9_method_21_code 67 = some (.bipush 99, 69, 0, 99) ∧ dec prog_9_method_21_code 69 = some (.invokestatic 32, 72, 0, 0) ∧ dec prog_9_method_21_code 72 = some (.ireturn, 73, 0, 0) ∧ dec prog_9_method_21_code 73 = some (.iload_n 1, 74, 1, 0) ∧ dec prog_9_method_21_code 74 = some (.iconst 0, 75, 0, 0) ∧ dec prog_9_method_21_code 75 = some (.bipush 9, 77, 0, 9) ∧ dec prog_9_method_21_code 77 = some (.invokestatic 32, 80, 0, 0) ∧ dec prog_9_method_21_code 80 = some (.ireturn, 81, 0, 0) ∧ dec prog_9_method_21_code 81 = some (.iload_n 1, 82, 1, 0) ∧ dec prog_9_method_21_code 82 = some (.iconst 0, 83, 0, 0) ∧ dec prog_9_method_21_code 83 = some (.bipush 8, 85, 0, 8) ∧ dec prog_9_method_21_code 85 = some (.invokestatic 32, 88, 0, 0) ∧ dec prog_9_method_21_code 88 = some (.ireturn, 89, 0, 0) ∧ dec prog_9_method_21_code 89 = some (.iconst 0, 90, 0, 0) ∧ dec prog_9_method_21_code 90 = some (.ireturn, 91, 0, 0) := ⟨e_114_0, e_114_1, e_114_40, e_114_41, e_114_42, e_114_44, e_114_47, e_114_48, e_114_49, e_114_50, e_114_53, e_114_56, e_114_57, e_114_58, e_114_59, e_114_61, e_114_64, e_114_65, e_114_66, e_114_67, e_114_69, e_114_72, e_114_73, e_114_74, e_114_75, e_114_77, e_114_80, e_114_81, e_114_82, e_114_83, e_114_85, e_114_88, e_114_89, e_114_90⟩
theorem e_115_0 : dec prog_9_method_22_code 0 = some (.iload_n 1, 1, 1, 0) := by decide +kernel
theorem e_115_1 : dec prog_9_method_22_code 1 = some (.iload_n 2, 2, 2, 0) := by decide +kernel
theorem e_115_2 : dec prog_9_method_22_code 2 = some (.invokestatic 62, 5, 0, 0) := by decide +kernel
theorem e_115_5 : dec prog_9_method_22_code 5 = some (.ifCond .ne 6, 8, 11, 0) := by decide +kernel
theorem e_115_8 : dec prog_9_method_22_code 8 = some (.bipush (-2), 10, 0, (-2)) := by decide +kernel
theorem e_115_10 : dec prog_9_method_22_code 10 = some (.ireturn, 11, 0, 0) := by decide +kernel
theorem e_115_11 : dec prog_9_method_22_code 11 = some (.aload_n 0, 12, 0, 0) := by decide +kernel
theorem e_115_12 : dec prog_9_method_22_code 12 = some (.invokevirtual 44, 15, 0, 0) := by decide +kernel
theorem e_115_15 : dec prog_9_method_22_code 15 = some (.aload_n 0, 16, 0, 0) := by decide +kernel
theorem e_115_16 : dec prog_9_method_22_code 16 = some (.getfield 7, 19, 0, 0) := by decide +kernel
theorem e_115_19 : dec prog_9_method_22_code 19 = some (.iload_n 1, 20, 1, 0) := by decide +kernel
theorem e_115_20 : dec prog_9_method_22_code 20 = some (.iaload, 21, 0, 0) := by decide +kernel
theorem e_115_21 : dec prog_9_method_22_code 21 = some (.istore_n 3, 22, 3, 0) := by decide +kernel
theorem e_115_22 : dec prog_9_method_22_code 22 = some (.aload_n 0, 23, 0, 0) := by decide +kernel
theorem e_115_23 : dec prog_9_method_22_code 23 = some (.getfield 7, 26, 0, 0) := by decide +kernel
theorem e_115_26 : dec prog_9_method_22_code 26 = some (.iload_n 1, 27, 1, 0) := by decide +kernel
theorem e_115_27 : dec prog_9_method_22_code 27 = some (.iload_n 2, 28, 2, 0) := by decide +kernel
theorem e_115_28 : dec prog_9_method_22_code 28 = some (.iastore, 29, 0, 0) := by decide +kernel
theorem e_115_29 : dec prog_9_method_22_code 29 = some (.iload_n 3, 30, 3, 0) := by decide +kernel
theorem e_115_30 : dec prog_9_method_22_code 30 = some (.ireturn, 31, 0, 0) := by decide +kernel
theorem E_115 : dec prog_9_method_22_code 0 = some (.iload_n 1, 1, 1, 0) ∧ dec prog_9_method_22_code 1 = some (.iload_n 2, 2, 2, 0) ∧ dec prog_9_method_22_code 2 = some (.invokestatic 62, 5, 0, 0) ∧ dec prog_9_method_22_code 5 = some (.ifCond .ne 6, 8, 11, 0) ∧ dec prog_9_method_22_code 8 = some (.bipush (-2), 10, 0, (-2)) ∧ dec prog_9_method_22_code 10 = some (.ireturn, 11, 0, 0) ∧ dec prog_9_method_22_code 11 = some (.aload_n 0, 12, 0, 0) ∧ dec prog_9_method_22_code 12 = some (.invokevirtual 44, 15, 0, 0) ∧ dec prog_9_method_22_code 15 = some (.aload_n 0, 16, 0, 0) ∧ dec prog_9_method_22_code 16 = some (.getfield 7, 19, 0, 0) ∧ dec prog_9_method_22_code 19 = some (.iload_n 1, 20, 1, 0) ∧ dec prog_9_method_22_code 20 = some (.iaload, 21, 0, 0) ∧ dec prog_9_method_22_code 21 = some (.istore_n 3, 22, 3, 0) ∧ dec prog_9_method_22_code 22 = some (.aload_n 0, 23, 0, 0) ∧ dec prog_9_method_22_code 23 = some (.getfield 7, 26, 0, 0) ∧ dec prog_9_method_22_code 26 = some (.iload_n 1, 27, 1, 0) ∧ dec prog_9_method_22_code 27 = some (.iload_n 2, 28, 2, 0) ∧ dec prog_9_method_22_code 28 = some (.iastore, 29, 0, 0) ∧ dec prog_9_method_22_code 29 = some (.iload_n 3, 30, 3, 0) ∧ dec prog_9_method_22_code 30 = some (.ireturn, 31, 0, 0) := ⟨e_115_0, e_115_1, e_115_2, e_115_5, e_115_8, e_115_10, e_115_11, e_115_12, e_115_15, e_115_16, e_115_19, e_115_20, e_115_21, e_115_22, e_115_23, e_115_26, e_115_27, e_115_28, e_115_29, e_115_30⟩
theorem e_116_0 : dec prog_9_method_23_code 0 = some (.iload_n 1, 1, 1, 0) := by decide +kernel
theorem e_116_1 : dec prog_9_method_23_code 1 = some (.iconst 0, 2, 0, 0) := by decide +kernel
theorem e_116_2 : dec prog_9_method_23_code 2 = some (.iconst 2, 3, 0, 2) := by decide +kernel
theorem e_116_3 : dec prog_9_method_23_code 3 = some (.invokestatic 32, 6, 0, 0) := by decide +kernel
theorem e_116_6 : dec prog_9_method_23_code 6 = some (.ifCond .eq 23, 9, 29, 0) := by decide +kernel
theorem e_116_9 : dec prog_9_method_23_code 9 = some (.iload_n 2, 10, 2, 0) := by decide +kernel
theorem e_116_10 : dec prog_9_method_23_code 10 = some (.iconst 1, 11, 0, 1) := by decide +kernel
theorem e_116_11 : dec prog_9_method_23_code 11 = some (.bipush 60, 13, 0, 60) := by decide +kernel
theorem e_116_13 : dec prog_9_method_23_code 13 = some (.invokestatic 32, 16, 0, 0) := by decide +kernel
theorem e_116_16 : dec prog_9_method_23_code 16 = some (.ifCond .eq 13, 19, 29, 0) := by decide +kernel
theorem e_116_19 : dec prog_9_method_23_code 19 = some (.iload_n 3, 20, 3, 0) := by decide +kernel
theorem e_116_20 : dec prog_9_method_23_code 20 = some (.iconst 1, 21, 0, 1) := by decide +kernel
theorem e_116_21 : dec prog_9_method_23_code 21 = some (.bipush 99, 23, 0, 99) := by decide +kernel
theorem e_116_23 : dec prog_9_method_23_code 23 = some (.invokestatic 32, 26, 0, 0) := by decide +kernel
theorem e_116_26 : dec prog_9_method_23_code 26 = some (.ifCond .ne 8, 29, 34, 0) := by decide +kernel
theorem e_116_29 : dec prog_9_method_23_code 29 = some (.bipush (-2), 31, 0, (-2)) := by decide +kernel
theorem e_116_31 : dec prog_9_method_23_code 31 = some (.goto 21, 34, 52, 0) := by decide +kernel
theorem e_116_34 : dec prog_9_method_23_code 34 = some (.aload_n 0, 35, 0, 0) := by decide +kernel
theorem e_116_35 : dec prog_9_method_23_code 35 = some (.getfield 7, 38, 0, 0) := by decide +kernel
theorem e_116_38 : dec prog_9_method_23_code 38 = some (.bipush 15, 40, 0, 15) := by decide +kernel
theorem e_116_40 : dec prog_9_method_23_code 40 = some (.iaload, 41, 0, 0) := by decide +kernel
theorem e_116_41 : dec prog_9_method_23_code 41 = some (.bipush 24, 43, 0, 24) := by decide +kernel
theorem e_116_43 : dec prog_9_method_23_code 43 = some (.if_icmp .ne 8, 46, 51, 0) := by decide +kernel
theorem e_116_46 : dec prog_9_method_23_code 46 = some (.bipush (-4), 48, 0, (-4)) := by decide +kernel
theorem e_116_48 : dec prog_9_method_23_code 48 = some (.goto 4, 51, 52, 0) := by decide +kernel
theorem e_116_51 : dec prog_9_method_23_code 51 = some (.iconst 0, 52, 0, 0) := by decide +kernel
theorem e_116_52 : dec prog_9_method_23_code 52 = some (.ireturn, 53, 0, 0) := by decide +kernel
theorem E_116 : dec prog_9_method_23_code 0 = some (.iload_n 1, 1, 1, 0) ∧ dec prog_9_method_23_code 1 = some (.iconst 0, 2, 0, 0) ∧ dec prog_9_method_23_code 2 = some (.iconst 2, 3, 0, 2) ∧ dec prog_9_method_23_code 3 = some (.invokestatic 32, 6, 0, 0) ∧ dec prog_9_method_23_code 6 = some (.ifCond .eq 23, 9, 29, 0) ∧ dec prog_9_method_23_code 9 = some (.iload_n 2, 10, 2, 0) ∧ dec prog_9_method_23_code 10 = some (.iconst 1, 11, 0, 1) ∧ dec prog_9_method_23_code 11 = some (.bipush 60, 13, 0, 60) ∧ dec prog_9_method_23_code 13 = some (.invokestatic 32, 16, 0, 0) ∧ dec prog_9_method_23_code 16 = some (.ifCond .eq 13, 19, 29, 0) ∧ dec prog_9_method_23_code 19 = some (.iload_n 3, 20, 3, 0) ∧ dec prog_9_method_23_code 20 = some (.iconst 1, 21, 0, 1) ∧ dec prog_9_method_23_code 21 = some (.bipush 99, 23, 0, 99) ∧ dec prog_9_method_23_code 23 = some (.invokestatic 32, 26, 0, 0) ∧ dec prog_9_method_23_code 26 = some (.ifCond .ne 8, 29, 34, 0) ∧ dec prog_9_method_23_code 29 = some (.bipush (-2), 31, 0, (-2)) ∧ dec prog_9_method_23_code 31 = some (.goto 21, 34, 52, 0) ∧ dec prog_9_method_23_code 34 = some (.aload_n 0, 35, 0, 0) ∧ dec prog_9_method_23_code 35 = some (.getfield 7, 38, 0, 0) ∧ dec prog_9_method_23_code 38 = some (.bipush 15, 40, 0, 15) ∧ dec prog_9_method_23_code 40 = some (.iaload, 41, 0, 0) ∧ dec prog_9_method_23_code 41 = some (.bipush 24, 43, 0, 24) ∧ dec prog_9_method_23_code 43 = some (.if_icmp .ne 8, 46, 51, 0) ∧ dec prog_9_method_23_code 46 = some (.bipush (-4), 48, 0, (-4)) ∧ dec prog_9_method_23_code 48 = some (.goto 4, 51, 52, 0) ∧ dec prog_9_method_23_code 51 = some (.iconst 0, 52, 0, 0) ∧ dec prog_9_method_23_code 52 = some (.ireturn, 53, 0, 0) := ⟨e_116_0, e_116_1, e_116_2, e_116_3, e_116_6, e_116_9, e_116_10, e_116_11, e_116_13, e_116_16, e_116_19, e_116_20, e_116_21, e_116_23, e_116_26, e_116_29, e_116_31, e_116_34, e_116_35, e_116_38, e_116_40, e_116_41, e_116_43, e_116_46, e_116_48, e_116_51, e_116_52⟩
theorem e_117_0 : dec prog_9_method_24_code 0 = some (.aload_n 0, 1, 0, 0) := by decide +kernel
theorem e_117_1 : dec prog_9_method_24_code 1 = some (.getfield 7, 4, 0, 0) := by decide +kernel
theorem e_117_4 : dec prog_9_method_24_code 4 = some (.bipush 15, 6, 0, 15) := by decide +kernel
theorem e_117_6 : dec prog_9_method_24_code 6 = some (.iaload, 7, 0, 0) := by decide +kernel
theorem e_117_7 : dec prog_9_method_24_code 7 = some (.istore 4, 9, 4, 0) := by decide +kernel
theorem e_117_9 : dec prog_9_method_24_code 9 = some (.aload_n 0, 10, 0, 0) := by decide +kernel
theorem e_117_10 : dec prog_9_method_24_code 10 = some (.iload 4, 12, 4, 0) := by decide +kernel
theorem e_117_12 : dec prog_9_method_24_code 12 = some (.iconst 0, 13, 0, 0) := by decide +kernel
theorem e_117_13 : dec prog_9_method_24_code 13 = some (.iload_n 1, 14, 1, 0) := by decide +kernel
theorem e_117_14 : dec prog_9_method_24_code 14 = some (.invokevirtual 58, 17, 0, 0) := by decide +kernel
theorem e_117_17 : dec prog_9_method_24_code 17 = some (.aload_n 0, 18, 0, 0) := by decide +kernel
theorem e_117_18 : dec prog_9_method_24_code 18 = some (.iload 4, 20, 4, 0) := by decide +kernel
theorem e_117_20 : dec prog_9_method_24_code 20 = some (.iconst 1, 21, 0, 1) := by decide +kernel
theorem e_117_21 : dec prog_9_method_24_code 21 = some (.iload_n 2, 22, 2, 0) := by decide +kernel
theorem e_117_22 : dec prog_9_method_24_code 22 = some (.invokevirtual 58, 25, 0, 0) := by decide +kernel
theorem e_117_25 : dec prog_9_method_24_code 25 = some (.aload_n 0, 26, 0, 0) := by decide +kernel
theorem e_117_26 : dec prog_9_method_24_code 26 = some (.iload 4, 28, 4, 0) := by decide +kernel
theorem e_117_28 : dec prog_9_method_24_code 28 = some (.iconst 2, 29, 0, 2) := by decide +kernel
theorem e_117_29 : dec prog_9_method_24_code 29 = some (.iload_n 3, 30, 3, 0) := by decide +kernel
theorem e_117_30 : dec prog_9_method_24_code 30 = some (.invokevirtual 58, 33, 0, 0) := by decide +kernel
theorem e_117_33 : dec prog_9_method_24_code 33 = some (.aload_n 0, 34, 0, 0) := by decide +kernel
theorem e_117_34 : dec prog_9_method_24_code 34 = some (.iload 4, 36, 4, 0) := by decide +kernel
theorem e_117_36 : dec prog_9_method_24_code 36 = some (.iconst 0, 37, 0, 0) := by decide +kernel
theorem e_117_37 : dec prog_9_method_24_code 37 = some (.invokevirtual 66, 40, 0, 0) := by decide +kernel
theorem e_117_40 : dec prog_9_method_24_code 40 = some (.aload_n 0, 41, 0, 0) := by decide +kernel
theorem e_117_41 : dec prog_9_method_24_code 41 = some (.iload 4, 43, 4, 0) := by decide +kernel
theorem e_117_43 : dec prog_9_method_24_code 43 = some (.iconst 5, 44, 0, 5) := by decide +kernel
theorem e_117_44 : dec prog_9_method_24_code 44 = some (.iconst 0, 45, 0, 0) := by decide +kernel
theorem e_117_45 : dec prog_9_method_24_code 45 = some (.invokevirtual 58, 48, 0, 0) := by decide +kernel
theorem e_117_48 : dec prog_9_method_24_code 48 = some (.aload_n 0, 49, 0, 0) := by decide +kernel
theorem e_117_49 : dec prog_9_method_24_code 49 = some (.getfield 7, 52, 0, 0) := by decide +kernel
theorem e_117_52 : dec prog_9_method_24_code 52 = some (.bipush 15, 54, 0, 15) := by decide +kernel
theorem e_117_54 : dec prog_9_method_24_code 54 = some (.dup2, 55, 0, 0) := by decide +kernel
theorem e_117_55 : dec prog_9_method_24_code 55 = some (.iaload, 56, 0, 0) := by decide +kernel
theorem e_117_56 : dec prog_9_method_24_code 56 = some (.iconst 1, 57, 0, 1) := by decide +kernel
theorem e_117_57 : dec prog_9_method_24_code 57 = some (.iadd, 58, 0, 0) := by decide +kernel
theorem e_117_58 : dec prog_9_method_24_code 58 = some (.iastore, 59, 0, 0) := by decide +kernel
theorem e_117_59 : dec prog_9_method_24_code 59 = some (.return_, 60, 0, 0) := by decide +kernel
theorem E_117 : dec prog_9_method_24_code 0 = some (.aload_n 0, 1, 0, 0) ∧ dec prog_9_method_24_code 1 = some (.getfield 7, 4, 0, 0) ∧ dec prog_9_method_24_code 4 = some (.bipush 15, 6, 0, 15) ∧ dec prog_9_method_24_code 6 = some (.iaload, 7, 0, 0) ∧ dec prog_9_method_24_code 7 = some (.istore 4, 9, 4, 0) ∧ dec prog_9_method_24_code 9 = some (.aload_n 0, 10, 0, 0) ∧ dec prog_9_method_24_code 10 = some (.iload 4, 12, 4, 0) ∧ dec prog_9_method_24_code 12 = some (.iconst 0, 13, 0, 0) ∧ dec prog_9_method_24_code 13 = some (.iload_n 1, 14, 1, 0) ∧ dec prog_9_method_24_code 14 = some (.invokevirtual 58, 17, 0, 0) ∧ dec prog_9_method_24_code 17 = some (.aload_n 0, 18, 0, 0) ∧ dec prog_9_method_24_code 18 = some (.iload 4, 20, 4, 0) ∧ dec prog_9_method_24_code 20 = some (.iconst 1, 21, 0, 1) ∧ dec prog_9_method_24_code 21 = some (.iload_n 2, 22, 2, 0) ∧ dec prog_9_method_24_code 22 = some (.invokevirtual 58, 25, 0, 0) ∧ dec prog_9_method_24_code 25 = some (.aload_n 0, 26, 0, 0) ∧ dec prog_9_method_24_code 26 = some (.iload 4, 28, 4, 0) ∧ dec prog_9_method_24_code 28 = some (.iconst 2, 29, 0, 2) ∧ dec prog_9_method_24_code 29 = some (.iload_n 3, 30, 3, 0) ∧ dec prog_9_method_24_code 30 = some (.invokevirtual 58, 33, 0, 0) ∧ dec prog_9_method_24_code 33 = some (.aload_n 0, 34, 0, 0) ∧ dec prog_9_method_24_code 34 = some (.iload 4, 36, 4, 0) ∧ dec prog_9_method_24_code 36 = some (.iconst 0, 37, 0, 0) ∧ dec prog_9_method_24_code 37 = some (.invokevirtual 66, 40, 0, 0) ∧ dec prog_9_method_24_code 40 = some (.aload_n 0, 41, 0, 0) ∧ dec prog_9_method_24_code 41 = some (.iload 4, 43, 4, 0) ∧ dec prog_9_method_24_code 43 = some (.iconst 5, 44, 0, 5) ∧ dec prog_9_method_24_code 44 = some (.iconst 0, 45, 0, 0) ∧ dec prog_9_method_24_code 45 = some (.invokevirtual 58, 48, 0, 0) ∧ dec prog_9_method_24_code 48 = some (.aload_n 0, 49, 0, 0) ∧ dec prog_9_method_24_code 49 = some (.getfield 7, 52, 0, 0) ∧ dec prog_9_method_24_code 52 = some (.bipush 15, 54, 0, 15) ∧ dec prog_9_method_24_code 54 = some (.dup2, 55, 0, 0) ∧ dec prog_9_method_24_code 55 = some (.iaload, 56, 0, 0) ∧ dec prog_9_method_24_code 56 = some (.iconst 1, 57, 0, 1) ∧ dec prog_9_method_24_code 57 = some (.iadd, 58, 0, 0) ∧ dec prog_9_method_24_code 58 = some (.iastore, 59, 0, 0) ∧ dec prog_9_method_24_code 59 = some (.return_, 60, 0, 0) := ⟨e_117_0, e_117_1, e_117_4, e_117_6, e_117_7, e_117_9, e_117_10, e_117_12, e_117_13, e_117_14, e_117_17, e_117_18, e_117_20, e_117_21, e_117_22, e_117_25, e_117_26, e_117_28, e_117_29, e_117_30, e_117_33, e_117_34, e_117_36, e_117_37, e_117_40, e_117_41, e_117_43, e_117_44, e_117_45, e_117_48, e_117_49, e_117_52, e_117_54, e_117_55, e_117_56, e_117_57, e_117_58, e_117_59⟩
theorem e_118_0 : dec prog_9_method_25_code 0 = some (.aload_n 0, 1, 0, 0) := by decide +kernel
theorem e_118_1 : dec prog_9_method_25_code 1 = some (.iload_n 1, 2, 1, 0) := by decide +kernel
theorem e_118_2 : dec prog_9_method_25_code 2 = some (.iload_n 2, 3, 2, 0) := by decide +kernel
theorem e_118_3 : dec prog_9_method_25_code 3 = some (.iload_n 3, 4, 3, 0) := by decide +kernel
theorem e_118_4 : dec prog_9_method_25_code 4 = some (.invokevirtual 70, 7, 0, 0) := by decide +kernel
theorem e_118_7 : dec prog_9_method_25_code 7 = some (.istore 4, 9, 4, 0) := by decide +kernel
theorem e_118_9 : dec prog_9_method_25_code 9 = some (.iload 4, 11, 4, 0) := by decide +kernel
theorem e_118_11 : dec prog_9_method_25_code 11 = some (.ifCond .ge 6, 14, 17, 0) := by decide +kernel
theorem e_118_14 : dec prog_9_method_25_code 14 = some (.iload 4, 16, 4, 0) := by decide +kernel
theorem e_118_16 : dec prog_9_method_25_code 16 = some (.ireturn, 17, 0, 0) := by decide +kernel
theorem e_118_17 : dec prog_9_method_25_code 17 = some (.aload_n 0, 18, 0, 0) := by decide +kernel
theorem e_118_18 : dec prog_9_method_25_code 18 = some (.invokevirtual 44, 21, 0, 0) := by decide +kernel
theorem e_118_21 : dec prog_9_method_25_code 21 = some (.aload_n 0, 22, 0, 0) := by decide +kernel
theorem e_118_22 : dec prog_9_method_25_code 22 = some (.iload_n 1, 23, 1, 0) := by decide +kernel
theorem e_118_23 : dec prog_9_method_25_code 23 = some (.iload_n 2, 24, 2, 0) := by decide +kernel
theorem e_118_24 : dec prog_9_method_25_code 24 = some (.iload_n 3, 25, 3, 0) := by decide +kernel
theorem e_118_25 : dec prog_9_method_25_code 25 = some (.invokevirtual 74, 28, 0, 0) := by decide +kernel
theorem e_118_28 : dec prog_9_method_25_code 28 = some (.aload_n 0, 29, 0, 0) := by decide +kernel
theorem e_118_29 : dec prog_9_method_25_code 29 = some (.getfield 7, 32, 0, 0) := by decide +kernel
theorem e_118_32 : dec prog_9_method_25_code 32 = some (.bipush 15, 34, 0, 15) := by decide +kernel
theorem e_118_34 : dec prog_9_method_25_code 34 = some (.iaload, 35, 0, 0) := by decide +kernel
theorem e_118_35 : dec prog_9_method_25_code 35 = some (.iconst 1, 36, 0, 1) := by decide +kernel
theorem e_118_36 : dec prog_9_method_25_code 36 = some (.isub, 37, 0, 0) := by decide +kernel
theorem e_118_37 : dec prog_9_method_25_code 37 = some (.ireturn, 38, 0, 0) := by decide +kernel
theorem E_118 : dec prog_9_method_25_code 0 = some (.aload_n 0, 1, 0, 0) ∧ dec prog_9_method_25_code 1 = some (.iload_n 1, 2, 1, 0) ∧ dec prog_9_method_25_code 2 = some (.iload_n 2, 3, 2, 0) ∧ dec prog_9_method_25_code 3 = some (.iload_n 3, 4, 3, 0) ∧ dec prog_9_method_25_code 4 = some (.invokevirtual 70, 7, 0, 0) ∧ dec prog_9_method_25_code 7 = some (.istore 4, 9, 4, 0) ∧ dec prog_9_method_25_code 9 = some (.iload 4, 11, 4, 0) ∧ dec prog_9_method_25_code 11 = some (.ifCond .ge 6, 14, 17, 0) ∧ dec prog_9_method_25_code 14 = some (.iload 4, 16, 4, 0) ∧ dec prog_9_method_25_code 16 = some (.ireturn, 17, 0, 0) ∧ dec prog_9_method_25_code 17 = some (.aload_n 0, 18, 0, 0) ∧ dec prog_9_method_25_code 18 = some (.invokevirtual 44, 21, 0, 0) ∧ dec prog_9_method_25_code 21 = some (.aload_n 0, 22, 0, 0) ∧ dec prog_9_method_25_code 22 = some (.iload_n 1, 23, 1, 0) ∧ dec prog_9_method_25_code 23 = some (.iload_n 2, 24, 2, 0) ∧ dec prog_9_method_25_code 24 = some (.iload_n 3, 25, 3, 0) ∧ dec prog_9_method_25_code 25 = some (.invokevirtual 74, 28, 0, 0) ∧ dec prog_9_method_25_code 28 = some (.aload_n 0, 29, 0, 0) ∧ dec prog_9_method_25_code 29 = some (.getfield 7, 32, 0, 0) ∧ dec prog_9_method_25_code 32 = some (.bipush 15, 34, 0, 15) ∧ dec prog_9_method_25_code 34 = some (.iaload, 35, 0, 0) ∧ dec prog_9_method_25_code 35 = some (.iconst 1, 36, 0, 1) ∧ dec prog_9_method_25_code 36 = some (.isub, 37, 0, 0) ∧ dec prog_9_method_25_code 37 = some (.ireturn, 38, 0, 0) := ⟨e_118_0, e_118_1, e_118_2, e_118_3, e_118_4, e_118_7, e_118_9, e_118_11, e_118_14, e_118_16, e_118_17, e_118_18, e_118_21, e_118_22, e_118_23, e_118_24, e_118_25, e_118_28, e_118_29, e_118_32, e_118_34, e_118_35, e_118_36, e_118_37⟩
theorem e_119_0 : dec prog_9_method_26_code 0 = some (.iload_n 1, 1, 1, 0) := by decide +kernel
theorem e_119_1 : dec prog_9_method_26_code 1 = some (.invokestatic 77, 4, 0, 0) := by decide +kernel
theorem e_119_4 : dec prog_9_method_26_code 4 = some (.ifCond .ne 7, 7, 11, 0) := by decide +kernel
theorem e_119_7 : dec prog_9_method_26_code 7 = some (.iconst (-1), 8, 0, (-1)) := by decide +kernel
theorem e_119_8 : dec prog_9_method_26_code 8 = some (.goto 32, 11, 40, 0) := by decide +kernel
theorem e_119_11 : dec prog_9_method_26_code 11 = some (.aload_n 0, 12, 0, 0) := by decide +kernel
theorem e_119_12 : dec prog_9_method_26_code 12 = some (.invokevirtual 81, 15, 0, 0) := by decide +kernel
theorem e_119_15 : dec prog_9_method_26_code 15 = some (.bipush (-6), 17, 0, (-6)) := by decide +kernel
theorem e_119_17 : dec prog_9_method_26_code 17 = some (.if_icmp .ne 8, 20, 25, 0) := by decide +kernel
theorem e_119_20 : dec prog_9_method_26_code 20 = some (.bipush (-5), 22, 0, (-5)) := by decide +kernel
theorem e_119_22 : dec prog_9_method_26_code 22 = some (.goto 18, 25, 40, 0) := by decide +kernel
theorem e_119_25 : dec prog_9_method_26_code 25 = some (.aload_n 0, 26, 0, 0) := by decide +kernel
theorem e_119_26 : dec prog_9_method_26_code 26 = some (.iload_n 1, 27, 1, 0) := by decide +kernel
theorem e_119_27 : dec prog_9_method_26_code 27 = some (.invokevirtual 51, 30, 0, 0) := by decide +kernel
theorem e_119_30 : dec prog_9_method_26_code 30 = some (.iconst 4, 31, 0, 4) := by decide +kernel
theorem e_119_31 : dec prog_9_method_26_code 31 = some (.if_icmp .ne 8, 34, 39, 0) := by decide +kernel
theorem e_119_34 : dec prog_9_method_26_code 34 = some (.bipush (-4), 36, 0, (-4)) := by decide +kernel
theorem e_119_36 : dec prog_9_method_26_code 36 = some (.goto 4, 39, 40, 0) := by decide +kernel
theorem e_119_39 : dec prog_9_method_26_code 39 = some (.iconst 0, 40, 0, 0) := by decide +kernel
theorem e_119_40 : dec prog_9_method_26_code 40 = some (.ireturn, 41, 0, 0) := by decide +kernel
theorem E_119 : dec prog_9_method_26_code 0 = some (.iload_n 1, 1, 1, 0) ∧ dec prog_9_method_26_code 1 = some (.invokestatic 77, 4, 0, 0) ∧ dec prog_9_method_26_code 4 = some (.ifCond .ne 7, 7, 11, 0) ∧ dec prog_9_method_26_code 7 = some (.iconst (-1), 8, 0, (-1)) ∧ dec prog_9_method_26_code 8 = some (.goto 32, 11, 40, 0) ∧ dec prog_9_method_26_code 11 = some (.aload_n 0, 12, 0, 0) ∧ dec prog_9_method_26_code 12 = some (.invokevirtual 81, 15, 0, 0) ∧ dec prog_9_method_26_code 15 = some (.bipush (-6), 17, 0, (-6)) ∧ dec prog_9_method_26_code 17 = some (.if_icmp .ne 8, 20, 25, 0) ∧ dec prog_9_method_26_code 20 = some (.bipush (-5), 22, 0, (-5)) ∧ dec prog_9_method_26_code 22 = some (.goto 18, 25, 40, 0) ∧ dec prog_9_method_26_code 25 = some (.aload_n 0, 26, 0, 0) ∧ dec prog_9_method_26_code 26 = some (.iload_n 1, 27, 1, 0) ∧ dec prog_9_method_26_code 27 = some (.invokevirtual 51, 30, 0, 0) ∧ dec prog_9_method_26_code 30 = some (.iconst 4, 31, 0, 4) ∧ dec prog_9_method_26_code 31 = some (.if_icmp .ne 8, 34, 39, 0) ∧ dec prog_9_method_26_code 34 = some (.bipush (-4), 36, 0, (-4)) ∧ dec prog_9_method_26_code 36 = some (.goto 4, 39, 40, 0) ∧ dec prog_9_method_26_code 39 = some (.iconst 0, 40, 0, 0) ∧ dec prog_9_method_26_code 40 = some (.ireturn, 41, 0, 0) := ⟨e_119_0, e_119_1, e_119_4, e_119_7, e_119_8, e_119_11, e_119_12, e_119_15, e_119_17, e_119_20, e_119_22, e_119_25, e_119_26, e_119_27, e_119_30, e_119_31, e_119_34, e_119_36, e_119_39, e_119_40⟩
theorem e_120_0 : dec prog_9_method_27_code 0 = some (.aload_n 0, 1, 0, 0) := by decide +kernel
theorem e_120_1 : dec prog_9_method_27_code 1 = some (.iload_n 1, 2, 1, 0) := by decide +kernel
theorem e_120_2 : dec prog_9_method_27_code 2 = some (.invokevirtual 85, 5, 0, 0) := by decide +kernel
theorem e_120_5 : dec prog_9_method_27_code 5 = some (.istore_n 2, 6, 2, 0) := by decide +kernel
theorem e_120_6 : dec prog_9_method_27_code 6 = some (.iload_n 2, 7, 2, 0) := by decide +kernel
theorem e_120_7 : dec prog_9_method_27_code 7 = some (.ifCond .ge 5, 10, 12, 0) := by decide +kernel
theorem e_120_10 : dec prog_9_method_27_code 10 = some (.iload_n 2, 11, 2, 0) := by decide +kernel
theorem e_120_11 : dec prog_9_method_27_code 11 = some (.ireturn, 12, 0, 0) := by decide +kernel
theorem e_120_12 : dec prog_9_method_27_code 12 = some (.aload_n 0, 13, 0, 0) := by decide +kernel
theorem e_120_13 : dec prog_9_method_27_code 13 = some (.invokevirtual 44, 16, 0, 0) := by decide +kernel
theorem e_120_16 : dec prog_9_method_27_code 16 = some (.aload_n 0, 17, 0, 0) := by decide +kernel
theorem e_120_17 : dec prog_9_method_27_code 17 = some (.invokevirtual 81, 20, 0, 0) := by decide +kernel
theorem e_120_20 : dec prog_9_method_27_code 20 = some (.istore_n 3, 21, 3, 0) := by decide +kernel
theorem e_120_21 : dec prog_9_method_27_code 21 = some (.aload_n 0, 22, 0, 0) := by decide +kernel
theorem e_120_22 : dec prog_9_method_27_code 22 = some (.iload_n 3, 23, 3, 0) := by decide +kernel
theorem e_120_23 : dec prog_9_method_27_code 23 = some (.iload_n 1, 24, 1, 0) := by decide +kernel
theorem e_120_24 : dec prog_9_method_27_code 24 = some (.invokevirtual 88, 27, 0, 0) := by decide +kernel
theorem e_120_27 : dec prog_9_method_27_code 27 = some (.iload_n 3, 28, 3, 0) := by decide +kernel
theorem e_120_28 : dec prog_9_method_27_code 28 = some (.ireturn, 29, 0, 0) := by decide +kernel
theorem E_120 : dec prog_9_method_27_code 0 = some (.aload_n 0, 1, 0, 0) ∧ dec prog_9_method_27_code 1 = some (.iload_n 1, 2, 1, 0) ∧ dec prog_9_method_27_code 2 = some (.invokevirtual 85, 5, 0, 0) ∧ dec prog_9_method_27_code 5 = some (.istore_n 2, 6, 2, 0) ∧ dec prog_9_method_27_code 6 = some (.iload_n 2, 7, 2, 0) ∧ dec prog_9_method_27_code 7 = some (.ifCond .ge 5, 10, 12, 0) ∧ dec prog_9_method_27_code 10 = some (.iload_n 2, 11, 2, 0) ∧ dec prog_9_method_27_code 11 = some (.ireturn, 12, 0, 0) ∧ dec prog_9_method_27_code 12 = some (.aload_n 0, 13, 0, 0) ∧ dec prog_9_method_27_code 13 = some (.invokevirtual 44, 16, 0, 0) ∧ dec prog_9_method_27_code 16 = some (.aload_n 0, 17, 0, 0) ∧ dec prog_9_method_27_code 17 = some (.invokevirtual 81, 20, 0, 0) ∧ dec prog_9_method_27_code 20 = some (.istore_n 3, 21, 3, 0) ∧ dec prog_9_method_27_code 21 = some (.aload_n 0, 22, 0, 0) ∧ dec prog_9_method_27_code 22 = some (.iload_n 3, 23, 3, 0) ∧ dec prog_9_method_27_code 23 = some (.iload_n 1, 24, 1, 0) ∧ dec prog_9_method_27_code 24 = some (.invokevirtual 88, 27, 0, 0) ∧ dec prog_9_method_27_code 27 = some (.iload_n 3, 28, 3, 0) ∧ dec prog_9_method_27_code 28 = some (.ireturn, 29, 0, 0) := ⟨e_120_0, e_120_1, e_120_2, e_120_5, e_120_6, e_120_7, e_120_10, e_120_11, e_120_12, e_120_13, e_120_16, e_120_17, e_120_20, e_120_21, e_120_22, e_120_23, e_120_24, e_120_27, e_120_28⟩
theorem e_121_0 : dec prog_9_method_28_code 0 = some (.iload_n 1, 1, 1, 0) := by decide +kernel
theorem e_121_1 : dec prog_9_method_28_code 1 = some (.iconst 1, 2, 0, 1) := by decide +kernel
theorem e_121_2 : dec prog_9_method_28_code 2 = some (.bipush 99, 4, 0, 99) := by decide +kernel
theorem e_121_4 : dec prog_9_method_28_code 4 = some (.invokestatic 32, 7, 0, 0) := by decide +kernel
theorem e_121_7 : dec prog_9_method_28_code 7 = some (.ifCond .ne 8, 10, 15, 0) := by decide +kernel
theorem e_121_10 : dec prog_9_method_28_code 10 = some (.bipush (-2), 12, 0, (-2)) := by decide +kernel
theorem e_121_12 : dec prog_9_method_28_code 12 = some (.goto 24, 15, 36, 0) := by decide +kernel
theorem e_121_15 : dec prog_9_method_28_code 15 = some (.aload_n 0, 16, 0, 0) := by decide +kernel
theorem e_121_16 : dec prog_9_method_28_code 16 = some (.getfield 7, 19, 0, 0) := by decide +kernel
theorem e_121_19 : dec prog_9_method_28_code 19 = some (.bipush 6, 21, 0, 6) := by decide +kernel
theorem e_121_21 : dec prog_9_method_28_code 21 = some (.iaload, 22, 0, 0) := by decide +kernel
theorem e_121_22 : dec prog_9_method_28_code 22 = some (.iload_n 1, 23, 1, 0) := by decide +kernel
theorem e_121_23 : dec prog_9_method_28_code 23 = some (.iadd, 24, 0, 0) := by decide +kernel
theorem e_121_24 : dec prog_9_method_28_code 24 = some (.sipush 999, 27, 0, 999) := by decide +kernel
theorem e_121_27 : dec prog_9_method_28_code 27 = some (.if_icmp .le 8, 30, 35, 0) := by decide +kernel
theorem e_121_30 : dec prog_9_method_28_code 30 = some (.bipush (-4), 32, 0, (-4)) := by decide +kernel
theorem e_121_32 : dec prog_9_method_28_code 32 = some (.goto 4, 35, 36, 0) := by decide +kernel
theorem e_121_35 : dec prog_9_method_28_code 35 = some (.iconst 0, 36, 0, 0) := by decide +kernel
theorem e_121_36 : dec prog_9_method_28_code 36 = some (.ireturn, 37, 0, 0) := by decide +kernel
theorem E_121 : dec prog_9_method_28_code 0 = some (.iload_n 1, 1, 1, 0) ∧ dec prog_9_method_28_code 1 = some (.iconst 1, 2, 0, 1) ∧ dec prog_9_method_28_code 2 = some (.bipush 99, 4, 0, 99) ∧ dec prog_9_method_28_code 4 = some (.invokestatic 32, 7, 0, 0) ∧ dec prog_9_method_28_code 7 = some (.ifCond .ne 8, 10, 15, 0) ∧ dec prog_9_method_28_code 10 = some (.bipush (-2), 12, 0, (-2)) ∧ dec prog_9_method_28_code 12 = some (.goto 24, 15, 36, 0) ∧ dec prog_9_method_28_code 15 = some (.aload_n 0, 16, 0, 0) ∧ dec prog_9_method_28_code 16 = some (.getfield 7, 19, 0, 0) ∧ dec prog_9_method_28_code 19 = some (.bipush 6, 21, 0, 6) ∧ dec prog_9_method_28_code 21 = some (.iaload, 22, 0, 0) ∧ dec prog_9_method_28_code 22 = some (.iload_n 1, 23, 1, 0) ∧ dec prog_9_method_28_code 23 = some (.iadd, 24, 0, 0) ∧ dec prog_9_method_28_code 24 = some (.sipush 999, 27, 0, 999) ∧ dec prog_9_method_28_code 27 = some (.if_icmp .le 8, 30, 35, 0) ∧ dec prog_9_method_28_code 30 = some (.bipush (-4), 32, 0, (-4)) ∧ dec prog_9_method_28_code 32 = some (.goto 4, 35, 36, 0) ∧ dec prog_9_method_28_code 35 = some (.iconst 0, 36, 0, 0) ∧ dec prog_9_method_28_code 36 = some (.ireturn, 37, 0, 0) := ⟨e_121_0, e_121_1, e_121_2, e_121_4, e_121_7, e_121_10, e_121_12, e_121_15, e_121_16, e_121_19, e_121_21, e_121_22, e_121_23, e_121_24, e_121_27, e_121_30, e_121_32, e_121_35, e_121_36⟩
theorem e_122_0 : dec prog_9_method_29_code 0 = some (.aload_n 0, 1, 0, 0) := by decide +kernel
theorem e_122_1 : dec prog_9_method_29_code 1 = some (.iload_n 1, 2, 1, 0) := by decide +kernel
theorem e_122_2 : dec prog_9_method_29_code 2 = some (.invokevirtual 91, 5, 0, 0) := by decide +kernel
theorem e_122_5 : dec prog_9_method_29_code 5 = some (.istore_n 2, 6, 2, 0) := by decide +kernel
theorem e_122_6 : dec prog_9_method_29_code 6 = some (.iload_n 2, 7, 2, 0) := by decide +kernel
theorem e_122_7 : dec prog_9_method_29_code 7 = some (.ifCond .ge 5, 10, 12, 0) := by decide +kernel
theorem e_122_10 : dec prog_9_method_29_code 10 = some (.iload_n 2, 11, 2, 0) := by decide +kernel
theorem e_122_11 : dec prog_9_method_29_code 11 = some (.ireturn, 12, 0, 0) := by decide +kernel
theorem e_122_12 : dec prog_9_method_29_code 12 = some (.aload_n 0, 13, 0, 0) := by decide +kernel
theorem e_122_13 : dec prog_9_method_29_code 13 = some (.invokevirtual 44, 16, 0, 0) := by decide +kernel
theorem e_122_16 : dec prog_9_method_29_code 16 = some (.aload_n 0, 17, 0, 0) := by decide +kernel
theorem e_122_17 : dec prog_9_method_29_code 17 = some (.getfield 7, 20, 0, 0) := by decide +kernel
theorem e_122_20 : dec prog_9_method_29_code 20 = some (.bipush 6, 22, 0, 6) := by decide +kernel
theorem e_122_22 : dec prog_9_method_29_code 22 = some (.dup2, 23, 0, 0) := by decide +kernel
theorem e_122_23 : dec prog_9_method_29_code 23 = some (.iaload, 24, 0, 0) := by decide +kernel
theorem e_122_24 : dec prog_9_method_29_code 24 = some (.iload_n 1, 25, 1, 0) := by decide +kernel
theorem e_122_25 : dec prog_9_method_29_code 25 = some (.iadd, 26, 0, 0) := by decide +kernel
theorem e_122_26 : dec prog_9_method_29_code 26 = some (.iastore, 27, 0, 0) := by decide +kernel
theorem e_122_27 : dec prog_9_method_29_code 27 = some (.aload_n 0, 28, 0, 0) := by decide +kernel
theorem e_122_28 : dec prog_9_method_29_code 28 = some (.getfield 7, 31, 0, 0) := by decide +kernel
theorem e_122_31 : dec prog_9_method_29_code 31 = some (.bipush 6, 33, 0, 6) := by decide +kernel
theorem e_122_33 : dec prog_9_method_29_code 33 = some (.iaload, 34, 0, 0) := by decide +kernel
theorem e_122_34 : dec prog_9_method_29_code 34 = some (.ireturn, 35, 0, 0) := by decide +kernel
theorem E_122 : dec prog_9_method_29_code 0 = some (.aload_n 0, 1, 0, 0) ∧ dec prog_9_method_29_code 1 = some (.iload_n 1, 2, 1, 0) ∧ dec prog_9_method_29_code 2 = some (.invokevirtual 91, 5, 0, 0) ∧ dec prog_9_method_29_code 5 = some (.istore_n 2, 6, 2, 0) ∧ dec prog_9_method_29_code 6 = some (.iload_n 2, 7, 2, 0) ∧ dec prog_9_method_29_code 7 = some (.ifCond .ge 5, 10, 12, 0) ∧ dec prog_9_method_29_code 10 = some (.iload_n 2, 11, 2, 0) ∧ dec prog_9_method_29_code 11 = some (.ireturn, 12, 0, 0) ∧ dec prog_9_method_29_code 12 = some (.aload_n 0, 13, 0, 0) ∧ dec prog_9_method_29_code 13 = some (.invokevirtual 44, 16, 0, 0) ∧ dec prog_9_method_29_code 16 = some (.aload_n 0, 17, 0, 0) ∧ dec prog_9_method_29_code 17 = some (.getfield 7, 20, 0, 0) ∧ dec prog_9_method_29_code 20 = some (.bipush 6, 22, 0, 6) ∧ dec prog_9_method_29_code 22 = some (.dup2, 23, 0, 0) ∧ dec prog_9_method_29_code 23 = some (.iaload, 24, 0, 0) ∧ dec prog_9_method_29_code 24 = some (.iload_n 1, 25, 1, 0) ∧ dec prog_9_method_29_code 25 = some (.iadd, 26, 0, 0) ∧ dec prog_9_method_29_code 26 = some (.iastore, 27, 0, 0) ∧ dec prog_9_method_29_code 27 = some (.aload_n 0, 28, 0, 0) ∧ dec prog_9_method_29_code 28 = some (.getfield 7, 31, 0, 0) ∧ dec prog_9_method_29_code 31 = some (.bipush 6, 33, 0, 6) ∧ dec prog_9_method_29_code 33 = some (.iaload, 34, 0, 0) ∧ dec prog_9_method_29_code 34 = some (.ireturn, 35, 0, 0) := ⟨e_122_0, e_122_1, e_122_2, e_122_5, e_122_6, e_122_7, e_122_10, e_122_11, e_122_12, e_122_13, e_122_16, e_122_17, e_122_20, e_122_22, e_122_23, e_122_24, e_122_25, e_122_26, e_122_27, e_122_28, e_122_31, e_122_33, e_122_34⟩
theorem e_123_0 : dec prog_9_method_30_code 0 = some (.aload_n 0, 1, 0, 0) := by decide +kernel
theorem e_123_1 : dec prog_9_method_30_code 1 = some (.iload_n 1, 2, 1, 0) := by decide +kernel
theorem e_123_2 : dec prog_9_method_30_code 2 = some (.iconst 0, 3, 0, 0) := by decide +kernel
theorem e_123_3 : dec prog_9_method_30_code 3 = some (.invokevirtual 47, 6, 0, 0) := by decide +kernel
theorem e_123_6 : dec prog_9_method_30_code 6 = some (.iconst 1, 7, 0, 1) := by decide +kernel
theorem e_123_7 : dec prog_9_method_30_code 7 = some (.if_icmp .ne 11, 10, 18, 0) := by decide +kernel
theorem e_123_10 : dec prog_9_method_30_code 10 = some (.iload_n 3, 11, 3, 0) := by decide +kernel
theorem e_123_11 : dec prog_9_method_30_code 11 = some (.ifCond .le 7, 14, 18, 0) := by decide +kernel
theorem e_123_14 : dec prog_9_method_30_code 14 = some (.iconst 5, 15, 0, 5) := by decide +kernel
theorem e_123_15 : dec prog_9_method_30_code 15 = some (.goto 26, 18, 41, 0) := by decide +kernel
theorem e_123_18 : dec prog_9_method_30_code 18 = some (.aload_n 0, 19, 0, 0) := by decide +kernel
theorem e_123_19 : dec prog_9_method_30_code 19 = some (.iload_n 1, 20, 1, 0) := by decide +kernel
theorem e_123_20 : dec prog_9_method_30_code 20 = some (.iconst 0, 21, 0, 0) := by decide +kernel
theorem e_123_21 : dec prog_9_method_30_code 21 = some (.invokevirtual 47, 24, 0, 0) := by decide +kernel
theorem e_123_24 : dec prog_9_method_30_code 24 = some (.iconst 2, 25, 0, 2) := by decide +kernel
theorem e_123_25 : dec prog_9_method_30_code 25 = some (.if_icmp .ne 15, 28, 40, 0) := by decide +kernel
theorem e_123_28 : dec prog_9_method_30_code 28 = some (.iconst 2, 29, 0, 2) := by decide +kernel
theorem e_123_29 : dec prog_9_method_30_code 29 = some (.aload_n 0, 30, 0, 0) := by decide +kernel
theorem e_123_30 : dec prog_9_method_30_code 30 = some (.iload_n 2, 31, 2, 0) := by decide +kernel
theorem e_123_31 : dec prog_9_method_30_code 31 = some (.invokevirtual 51, 34, 0, 0) := by decide +kernel
theorem e_123_34 : dec prog_9_method_30_code 34 = some (.iconst 1, 35, 0, 1) := by decide +kernel
theorem e_123_35 : dec prog_9_method_30_code 35 = some (.isub, 36, 0, 0) := by decide +kernel
theorem e_123_36 : dec prog_9_method_30_code 36 = some (.imul, 37, 0, 0) := by decide +kernel
theorem e_123_37 : dec prog_9_method_30_code 37 = some (.goto 4, 40, 41, 0) := by decide +kernel
theorem e_123_40 : dec prog_9_method_30_code 40 = some (.iconst 0, 41, 0, 0) := by decide +kernel
theorem e_123_41 : dec prog_9_method_30_code 41 = some (.istore 4, 43, 4, 0) := by decide +kernel
theorem e_123_43 : dec prog_9_method_30_code 43 = some (.aload_n 0, 44, 0, 0) := by decide +kernel
theorem e_123_44 : dec prog_9_method_30_code 44 = some (.iload_n 1, 45, 1, 0) := by decide +kernel
theorem e_123_45 : dec prog_9_method_30_code 45 = some (.iconst 1, 46, 0, 1) := by decide +kernel
theorem e_123_46 : dec prog_9_method_30_code 46 = some (.invokevirtual 47, 49, 0, 0) := by decide +kernel
theorem e_123_49 : dec prog_9_method_30_code 49 = some (.iload 4, 51, 4, 0) := by decide +kernel
theorem e_123_51 : dec prog_9_method_30_code 51 = some (.iadd, 52, 0, 0) := by decide +kernel
theorem e_123_52 : dec prog_9_method_30_code 52 = some (.ireturn, 53, 0, 0) := by decide +kernel
theorem E_123 : dec prog_9_method_30_code 0 = some (.aload_n 0, 1, 0, 0) ∧ dec prog_9_method_30_code 1 = some (.iload_n 1, 2, 1, 0) ∧ dec prog_9_method_30_code 2 = some (.iconst 0, 3, 0, 0) ∧ dec prog_9_method_30_code 3 = some (.invokevirtual 47, 6, 0, 0) ∧ dec prog_9_method_30_code 6 = some (.iconst 1, 7, 0, 1) ∧ dec prog_9_method_30_code 7 = some (.if_icmp .ne 11, 10, 18, 0) ∧ dec prog_9_method_30_code 10 = some (.iload_n 3, 11, 3, 0) ∧ dec prog_9_method_30_code 11 = some (.ifCond .le 7, 14, 18, 0) ∧ dec prog_9_method_30_code 14 = some (.iconst 5, 15, 0, 5) ∧ dec prog_9_method_30_code 15 = some (.goto 26, 18, 41, 0) ∧ dec prog_9_method_30_code 18 = some (.aload_n 0, 19, 0, 0) ∧ dec prog_9_method_30_code 19 = some (.iload_n 1, 20, 1, 0) ∧ dec prog_9_method_30_code 20 = some (.iconst 0, 21, 0, 0) ∧ dec prog_9_method_30_code 21 = some (.invokevirtual 47, 24, 0, 0) ∧ dec prog_9_method_30_code 24 = some (.iconst 2, 25, 0, 2) ∧ dec prog_9_method_30_code 25 = some (.if_icmp .ne 15, 28, 40, 0) ∧ dec prog_9_method_30_code 28 = some (.iconst 2, 29, 0, 2) ∧ dec prog_9_method_30_code 29 = some (.aload_n 0, 30, 0, 0) ∧ dec prog_9_method_30_code 30 = some (.iload_n 2, 31, 2, 0) ∧ dec prog_9_method_30_code 31 = some (.invokevirtual 51, 34, 0, 0) ∧ dec prog_9_method_30_code 34 = some (.iconst 1, 35, 0, 1) ∧ dec prog_9_method_30_code 35 = some (.isub, 36, 0, 0) ∧ dec prog_9_method_30_code 36 = some (.imul, 37, 0, 0) ∧ dec prog_9_method_30_code 37 = some (.goto 4, 40, 41, 0) ∧ dec prog_9_method_30_code 40 = some (.iconst 0, 41, 0, 0) ∧ dec prog_9_method_30_code 41 = some (.istore 4, 43, 4, 0) ∧ dec prog_9_method_30_code 43 = some (.aload_n 0, 44, 0, 0) ∧ dec prog_9_method_30_code 44 = some (.iload_n 1, 45, 1, 0) ∧ dec prog_9_method_30_code 45 = some (.iconst 1, 46, 0, 1) ∧ dec prog_9_method_30_code 46 = some (.invokevirtual 47, 49, 0, 0) ∧ dec prog_9_method_30_code 49 = some (.iload 4, 51, 4, 0) ∧ dec prog_9_method_30_code 51 = some (.iadd, 52, 0, 0) ∧ dec prog_9_method_30_code 52 = some (.ireturn, 53, 0, 0) := ⟨e_123_0, e_123_1, e_123_2, e_123_3, e_123_6, e_123_7, e_123_10, e_123_11, e_123_14, e_123_15, e_123_18, e_123_19, e_123_20, e_123_21, e_123_24, e_123_25, e_123_28, e_123_29, e_123_30, e_123_31, e_123_34, e_123_35, e_123_36, e_123_37, e_123_40, e_123_41, e_123_43, e_123_44, e_123_45, e_123_46, e_123_49, e_123_51, e_123_52⟩
theorem e_124_0 : dec prog_9_method_31_code 0 = some (.iload_n 1, 1, 1, 0) := by decide +kernel
theorem e_124_1 : dec prog_9_method_31_code 1 = some (.aload_n 0, 2, 0, 0) := by decide +kernel
theorem e_124_2 : dec prog_9_method_31_code 2 = some (.getfield 7, 5, 0, 0) := by decide +kernel
theorem e_124_5 : dec prog_9_method_31_code 5 = some (.iconst 1, 6, 0, 1) := by decide +kernel
theorem e_124_6 : dec prog_9_method_31_code 6 = some (.iaload, 7, 0, 0) := by decide +kernel
theorem e_124_7 : dec prog_9_method_31_code 7 = some (.if_icmp .lt 7, 10, 14, 0) := by decide +kernel
theorem e_124_10 : dec prog_9_method_31_code 10 = some (.iconst 1, 11, 0, 1) := by decide +kernel
theorem e_124_11 : dec prog_9_method_31_code 11 = some (.goto 4, 14, 15, 0) := by decide +kernel
theorem e_124_14 : dec prog_9_method_31_code 14 = some (.iconst 0, 15, 0, 0) := by decide +kernel
theorem e_124_15 : dec prog_9_method_31_code 15 = some (.ireturn, 16, 0, 0) := by decide +kernel
theorem E_124 : dec prog_9_method_31_code 0 = some (.iload_n 1, 1, 1, 0) ∧ dec prog_9_method_31_code 1 = some (.aload_n 0, 2, 0, 0) ∧ dec prog_9_method_31_code 2 = some (.getfield 7, 5, 0, 0) ∧ dec prog_9_method_31_code 5 = some (.iconst 1, 6, 0, 1) ∧ dec prog_9_method_31_code 6 = some (.iaload, 7, 0, 0) ∧ dec prog_9_method_31_code 7 = some (.if_icmp .lt 7, 10, 14, 0) ∧ dec prog_9_method_31_code 10 = some (.iconst 1, 11, 0, 1) ∧ dec prog_9_method_31_code 11 = some (.goto 4, 14, 15, 0) ∧ dec prog_9_method_31_code 14 = some (.iconst 0, 15, 0, 0) ∧ dec prog_9_method_31_code 15 = some (.ireturn, 16, 0, 0) := ⟨e_124_0, e_124_1, e_124_2, e_124_5, e_124_6, e_124_7, e_124_10, e_124_11, e_124_14, e_124_15⟩
theorem e_125_0 : dec prog_9_method_32_code 0 = some (.aload_n 0, 1, 0, 0) := by decide +kernel
theorem e_125_1 : dec prog_9_method_32_code 1 = some (.iload 4, 3, 4, 0) := by decide +kernel
theorem e_125_3 : dec prog_9_method_32_code 3 = some (.invokevirtual 94, 6, 0, 0) := by decide +kernel
theorem e_125_6 : dec prog_9_method_32_code 6 = some (.ifCond .eq 12, 9, 18, 0) := by decide +kernel
theorem e_125_9 : dec prog_9_method_32_code 9 = some (.aload_n 0, 10, 0, 0) := by decide +kernel
theorem e_125_10 : dec prog_9_method_32_code 10 = some (.getfield 7, 13, 0, 0) := by decide +kernel
theorem e_125_13 : dec prog_9_method_32_code 13 = some (.iconst 3, 14, 0, 3) := by decide +kernel
theorem e_125_14 : dec prog_9_method_32_code 14 = some (.iaload, 15, 0, 0) := by decide +kernel
theorem e_125_15 : dec prog_9_method_32_code 15 = some (.goto 9, 18, 24, 0) := by decide +kernel
theorem e_125_18 : dec prog_9_method_32_code 18 = some (.aload_n 0, 19, 0, 0) := by decide +kernel
theorem e_125_19 : dec prog_9_method_32_code 19 = some (.getfield 7, 22, 0, 0) := by decide +kernel
theorem e_125_22 : dec prog_9_method_32_code 22 = some (.iconst 2, 23, 0, 2) := by decide +kernel
theorem e_125_23 : dec prog_9_method_32_code 23 = some (.iaload, 24, 0, 0) := by decide +kernel
theorem e_125_24 : dec prog_9_method_32_code 24 = some (.aload_n 0, 25, 0, 0) := by decide +kernel
theorem e_125_25 : dec prog_9_method_32_code 25 = some (.getfield 7, 28, 0, 0) := by decide +kernel
theorem e_125_28 : dec prog_9_method_32_code 28 = some (.iconst 4, 29, 0, 4) := by decide +kernel
theorem e_125_29 : dec prog_9_method_32_code 29 = some (.iaload, 30, 0, 0) := by decide +kernel
theorem e_125_30 : dec prog_9_method_32_code 30 = some (.iload_n 3, 31, 3, 0) := by decide +kernel
theorem e_125_31 : dec prog_9_method_32_code 31 = some (.imul, 32, 0, 0) := by decide +kernel
theorem e_125_32 : dec prog_9_method_32_code 32 = some (.isub, 33, 0, 0) := by decide +kernel
theorem e_125_33 : dec prog_9_method_32_code 33 = some (.istore 5, 35, 5, 0) := by decide +kernel
theorem e_125_35 : dec prog_9_method_32_code 35 = some (.iload 5, 37, 5, 0) := by decide +kernel
theorem e_125_37 : dec prog_9_method_32_code 37 = some (.aload_n 0, 38, 0, 0) := by decide +kernel
theorem e_125_38 : dec prog_9_method_32_code 38 = some (.iload_n 1, 39, 1, 0) := by decide +kernel
theorem e_125_39 : dec prog_9_method_32_code 39 = some (.iload_n 2, 40, 2, 0) := by decide +kernel
theorem e_125_40 : dec prog_9_method_32_code 40 = some (.iload_n 3, 41, 3, 0) := by decide +kernel
theorem e_125_41 : dec prog_9_method_32_code 41 = some (.invokevirtual 97, 44, 0, 0) := by decide +kernel
theorem e_125_44 : dec prog_9_method_32_code 44 = some (.if_icmp .lt 7, 47, 51, 0) := by decide +kernel
theorem e_125_47 : dec prog_9_method_32_code 47 = some (.iconst 1, 48, 0, 1) := by decide +kernel
theorem e_125_48 : dec prog_9_method_32_code 48 = some (.goto 4, 51, 52, 0) := by decide +kernel
theorem e_125_51 : dec prog_9_method_32_code 51 = some (.iconst 0, 52, 0, 0) := by decide +kernel
theorem e_125_52 : dec prog_9_method_32_code 52 = some (.ireturn, 53, 0, 0) := by decide +kernel
theorem E_125 : dec prog_9_method_32_code 0 = some (.aload_n 0, 1, 0, 0) ∧ dec prog_9_method_32_code 1 = some (.iload 4, 3, 4, 0) ∧ dec prog_9_method_32_code 3 = some (.invokevirtual 94, 6, 0, 0) ∧ dec prog_9_method_32_code 6 = some (.ifCond .eq 12, 9, 18, 0) ∧ dec prog_9_method_32_code 9 = some (.aload_n 0, 10, 0, 0) ∧ dec prog_9_method_32_code 10 = some (.getfield 7, 13, 0, 0) ∧ dec prog_9_method_32_code 13 = some (.iconst 3, 14, 0, 3) ∧ dec prog_9_method_32_code 14 = some (.iaload, 15, 0, 0) ∧ dec prog_9_method_32_code 15 = some (.goto 9, 18, 24, 0) ∧ dec prog_9_method_32_code 18 = some (.aload_n 0, 19, 0, 0) ∧ dec prog_9_method_32_code 19 = some (.getfield 7, 22, 0, 0) ∧ dec prog_9_method_32_code 22 = some (.iconst 2, 23, 0, 2) ∧ dec prog_9_method_32_code 23 = some (.iaload, 24, 0, 0) ∧ dec prog_9_method_32_code 24 = some (.aload_n 0, 25, 0, 0) ∧ dec prog_9_method_32_code 25 = some (.getfield 7, 28, 0, 0) ∧ dec prog_9_method_32_code 28 = some (.iconst 4, 29, 0, 4) ∧ dec prog_9_method_32_code 29 = some (.iaload, 30, 0, 0) ∧ dec prog_9_method_32_code 30 = some (.iload_n 3, 31, 3, 0) ∧ dec prog_9_method_32_code 31 = some (.imul, 32, 0, 0) ∧ dec prog_9_method_32_code 32 = some (.isub, 33, 0, 0) ∧ dec prog_9_method_32_code 33 = some (.istore 5, 35, 5, 0) ∧ dec prog_9_method_32_code 35 = some (.iload 5, 37, 5, 0) ∧ dec prog_9_method_32_code 37 = some (.aload_n 0, 38, 0, 0) ∧ dec prog_9_method_32_code 38 = some (.iload_n 1, 39, 1, 0) ∧ dec prog_9_method_32_code 39 = some (.iload_n 2, 40, 2, 0) ∧ dec prog_9_method_32_code 40 = some (.iload_n 3, 41, 3, 0) ∧ dec prog_9_method_32_code 41 = some (.invokevirtual 97, 44, 0, 0) ∧ dec prog_9_method_32_code 44 = some (.if_icmp .lt 7, 47, 51, 0) ∧ dec prog_9_method_32_code 47 = some (.iconst 1, 48, 0, 1) ∧ dec prog_9_method_32_code 48 = some (.goto 4, 51, 52, 0) ∧ dec prog_9_method_32_code 51 = some (.iconst 0, 52, 0, 0) ∧ dec prog_9_method_32_code 52 = some (.ireturn, 53, 0, 0) := ⟨e_125_0, e_125_1, e_125_3, e_125_6, e_125_9, e_125_10, e_125_13, e_125_14, e_125_15, e_125_18, e_125_19, e_125_22, e_125_23, e_125_24, e_125_25, e_125_28, e_125_29, e_125_30, e_125_31, e_125_32, e_125_33, e_125_35, e_125_37, e_125_38, e_125_39, e_125_40, e_125_41, e_125_44, e_125_47, e_125_48, e_125_51, e_125_52⟩
theorem e_126_0 : dec prog_9_method_33_code 0 = some (.aload_n 0, 1, 0, 0) := by decide +kernel
theorem e_126_1 : dec prog_9_method_33_code 1 = some (.iload_n 1, 2, 1, 0) := by decide +kernel
theorem e_126_2 : dec prog_9_method_33_code 2 = some (.invokevirtual 51, 5, 0, 0) := by decide +kernel
theorem e_126_5 : dec prog_9_method_33_code 5 = some (.iconst 2, 6, 0, 2) := by decide +kernel
theorem e_126_6 : dec prog_9_method_33_code 6 = some (.isub, 7, 0, 0) := by decide +kernel
theorem e_126_7 : dec prog_9_method_33_code 7 = some (.istore_n 2, 8, 2, 0) := by decide +kernel
theorem e_126_8 : dec prog_9_method_33_code 8 = some (.iload_n 1, 9, 1, 0) := by decide +kernel
theorem e_126_9 : dec prog_9_method_33_code 9 = some (.ifCond .le 20, 12, 29, 0) := by decide +kernel
theorem e_126_12 : dec prog_9_method_33_code 12 = some (.aload_n 0, 13, 0, 0) := by decide +kernel
theorem e_126_13 : dec prog_9_method_33_code 13 = some (.iload_n 1, 14, 1, 0) := by decide +kernel
theorem e_126_14 : dec prog_9_method_33_code 14 = some (.iconst 1, 15, 0, 1) := by decide +kernel
theorem e_126_15 : dec prog_9_method_33_code 15 = some (.isub, 16, 0, 0) := by decide +kernel
theorem e_126_16 : dec prog_9_method_33_code 16 = some (.invokevirtual 51, 19, 0, 0) := by decide +kernel
theorem e_126_19 : dec prog_9_method_33_code 19 = some (.iload_n 2, 20, 2, 0) := by decide +kernel
theorem e_126_20 : dec prog_9_method_33_code 20 = some (.if_icmp .gt 9, 23, 29, 0) := by decide +kernel
theorem e_126_23 : dec prog_9_method_33_code 23 = some (.iload_n 1, 24, 1, 0) := by decide +kernel
theorem e_126_24 : dec prog_9_method_33_code 24 = some (.iconst 1, 25, 0, 1) := by decide +kernel
theorem e_126_25 : dec prog_9_method_33_code 25 = some (.isub, 26, 0, 0) := by decide +kernel
theorem e_126_26 : dec prog_9_method_33_code 26 = some (.goto 5, 29, 31, 0) := by decide +kernel
theorem e_126_29 : dec prog_9_method_33_code 29 = some (.bipush (-6), 31, 0, (-6)) := by decide +kernel
theorem e_126_31 : dec prog_9_method_33_code 31 = some (.istore_n 3, 32, 3, 0) := by decide +kernel
theorem e_126_32 : dec prog_9_method_33_code 32 = some (.iload_n 1, 33, 1, 0) := by decide +kernel
theorem e_126_33 : dec prog_9_method_33_code 33 = some (.bipush 7, 35, 0, 7) := by decide +kernel
theorem e_126_35 : dec prog_9_method_33_code 35 = some (.if_icmp .ge 20, 38, 55, 0) := by decide +kernel
theorem e_126_38 : dec prog_9_method_33_code 38 = some (.aload_n 0, 39, 0, 0) := by decide +kernel
theorem e_126_39 : dec prog_9_method_33_code 39 = some (.iload_n 1, 40, 1, 0) := by decide +kernel
theorem e_126_40 : dec prog_9_method_33_code 40 = some (.iconst 1, 41, 0, 1) := by decide +kernel
theorem e_126_41 : dec prog_9_method_33_code 41 = some (.iadd, 42, 0, 0) := by decide +kernel
theorem e_126_42 : dec prog_9_method_33_code 42 = some (.invokevirtual 51, 45, 0, 0) := by decide +kernel
theorem e_126_45 : dec prog_9_method_33_code 45 = some (.iload_n 2, 46, 2, 0) := by decide +kernel
theorem e_126_46 : dec prog_9_method_33_code 46 = some (.if_icmp .gt 9, 49, 55, 0) := by decide +kernel
theorem e_126_49 : dec prog_9_method_33_code 49 = some (.iload_n 1, 50, 1, 0) := by decide +kernel
theorem e_126_50 : dec prog_9_method_33_code 50 = some (.iconst 1, 51, 0, 1) := by decide +kernel
theorem e_126_51 : dec prog_9_method_33_code 51 = some (.iadd, 52, 0, 0) := by decide +kernel
theorem e_126_52 : dec prog_9_method_33_code 52 = some (.goto 5, 55, 57, 0) := by decide +kernel
theorem e_126_55 : dec prog_9_method_33_code 55 = some (.bipush (-6), 57, 0, (-6)) := by decide +kernel
theorem e_126_57 : dec prog_9_method_33_code 57 = some (.istore 4, 59, 4, 0) := by decide +kernel
theorem e_126_59 : dec prog_9_method_33_code 59 = some (.iload_n 3, 60, 3, 0) := by decide +kernel
theorem e_126_60 : dec prog_9_method_33_code 60 = some (.bipush (-6), 62, 0, (-6)) := by decide +kernel
theorem e_126_62 : dec prog_9_method_33_code 62 = some (.if_icmp .eq 24, 65, 86, 0) := by decide +kernel
theorem e_126_65 : dec prog_9_method_33_code 65 = some (.iload 4, 67, 4, 0) := by decide +kernel
theorem e_126_67 : dec prog_9_method_33_code 67 = some (.bipush (-6), 69, 0, (-6)) := by decide +kernel
theorem e_126_69 : dec prog_9_method_33_code 69 = some (.if_icmp .eq 22, 72, 91, 0) := by decide +kernel
theorem e_126_72 : dec prog_9_method_33_code 72 = some (.aload_n 0, 73, 0, 0) := by decide +kernel
theorem e_126_73 : dec prog_9_method_33_code 73 = some (.iload 4, 75, 4, 0) := by decide +kernel
theorem e_126_75 : dec prog_9_method_33_code 75 = some (.invokevirtual 51, 78, 0, 0) := by decide +kernel
theorem e_126_78 : dec prog_9_method_33_code 78 = some (.aload_n 0, 79, 0, 0) := by decide +kernel
theorem e_126_79 : dec prog_9_method_33_code 79 = some (.iload_n 3, 80, 3, 0) := by decide +kernel
theorem e_126_80 : dec prog_9_method_33_code 80 = some (.invokevirtual 51, 83, 0, 0) := by decide +kernel
theorem e_126_83 : dec prog_9_method_33_code 83 = some (.if_icmp .ge 8, 86, 91, 0) := by decide +kernel
theorem e_126_86 : dec prog_9_method_33_code 86 = some (.iload 4, 88, 4, 0) := by decide +kernel
theorem e_126_88 : dec prog_9_method_33_code 88 = some (.goto 4, 91, 92, 0) := by decide +kernel
theorem e_126_91 : dec prog_9_method_33_code 91 = some (.iload_n 3, 92, 3, 0) := by decide +kernel
theorem e_126_92 : dec prog_9_method_33_code 92 = some (.ireturn, 93, 0, 0) := by decide +kernel
theorem E_126 : dec prog_9_method_33_code 0 = some (.aload_n 0, 1, 0, 0) ∧ dec prog_9_method_33_code 1 = some (.iload_n 1, 2, 1, 0) ∧ dec prog_9_method_33_code 2 = some (.invokevirtual 51, 5, 0, 0) ∧ dec prog_9_method_33_code 5 = some (.iconst 2, 6, 0, 2) ∧ dec prog_9_method_33_code 6 = some (.isub, 7, 0, 0) ∧ dec prog_9_method_33_code 7 = some (.istore_n 2, 8, 2, 0) ∧ dec prog_9_method_33_code 8 = some (.iload_n 1, 9, 1, 0) ∧ dec prog_9_method_33_code 9 = some (.ifCond .le 20, 12, 29, 0) ∧ dec prog_9_method_33_code 12 = some (.aload_n 0, 13, 0, 0) ∧ dec prog_9_method_33_code 13 = some (.iload_n 1, 14, 1, 0) ∧ dec prog_9_method_33_code 14 = some (.iconst 1, 15, 0, 1) ∧ dec prog_9_method_33_code 15 = some (.isub, 16, 0, 0) ∧ dec prog_9_method_33_code 16 = some (.invokevirtual 51, 19, 0, 0) ∧ dec prog_9_method_33_code 19 = some (.iload_n 2, 20, 2, 0) ∧ dec prog_9_method_33_code 20 = some (.if_icmp .gt 9, 23, 29, 0) ∧ dec prog_9_method_33_code 23 = some (.iload_n 1, 24, 1, 0) ∧ dec prog_9_method_33_code 24 = some (.iconst 1, 25, 0, 1) ∧ dec prog_9_method_33_code 25 = some (.isub, 26, 0, 0) ∧ dec prog_9_method_33_code 26 = some (.goto 5, 29, 31, 0) ∧ dec prog_9_method_33_code 29 = some (.bipush (-6), 31, 0, (-6)) ∧ dec prog_9_method_33_code 31 = some (.istore_n 3, 32, 3, 0) ∧ dec prog_9_method_33_code 32 = some (.iload_n 1, 33, 1, 0) ∧ dec prog_9_method_33_code 33 = some (.bipush 7, 35, 0, 7) ∧ dec prog_9_method_33_code 35 = some (.if_icmp .ge 20, 38, 55, 0) ∧ dec prog_9_method_33_code 38 = some (.aload_n 0, 39, 0, 0) ∧ dec prog_9_method_33_code 39 = some (.iload_n 1, 40, 1, 0) ∧ dec prog_9_method_33_code 40 = some (.iconst 1, 41, 0, 1) ∧ dec prog_9_method_33_code 41 = some (.iadd, 42, 0, 0) ∧ dec prog_9_method_33_code 42 = some (.invokevirtual 51, 45, 0, 0) ∧ dec prog_9_method_33_code 45 = some (.iload_n 2, 46, 2, 0) ∧ dec prog_9_method_33_code 46 = some (.if_icmp .gt 9, 49, 55, 0) ∧ dec prog_9_method_33_code 49 = some (.iload_n 1, 50, 1, 0) ∧ dec prog_9_method_33_code 50 = some (.iconst 1, 51, 0, 1) ∧ dec prog_9_method_33_code 51 = some (.iadd, 52, 0, 0) ∧ dec prog_9_method_33_code 52 = some (.goto 5, 55, 57, 0) ∧ dec prog_9_method_33_code 55 = some (.bipush (-6), 57, 0, (-6)) ∧ dec prog_9_method_33_code 57 = some (.istore 4, 59, 4, 0) ∧ dec prog_9_method_33_code 59 = some (.iload_n 3, 60, 3, 0) ∧ dec prog_9_method_33_code 60 = some (.bipush (-6), 62, 0, (-6)) ∧ dec prog_9_method_33_code 62 = some (.if_icmp .eq 24, 65, 86, 0) ∧ dec prog_9_method_33_code 65 = some (.iload 4, 67, 4, 0) ∧ dec prog_9_method_33_code 67 = some (.bipush (-6), 69, 0, (-6)) ∧ dec prog_9_method_33_code 69 = some (.if_icmp .eq 22, 72, 91, 0) ∧ dec prog_9_method_33_code 72 = some (.aload_n 0, 73, 0, 0) ∧ dec prog_9_method_33_code 73 = some (.iload 4, 75, 4, 0) ∧ dec prog_9_method_33_code 75 = some (.invokevirtual 51, 78, 0, 0) ∧ dec prog_9_method_33_code 78 = some (.aload_n 0, 79, 0, 0) ∧ dec prog_9_method_33_code 79 = some (.iload_n 3, 80, 3, 0) ∧ dec prog_9_method_33_code 80 = some (.invokevirtual 51, 83, 0, 0) ∧ dec prog_9_method_33_code 83 = some (.if_icmp .ge 8, 86, 91, 0) ∧ dec prog_9_method_33_code 86 = some (.iload 4, 88, 4, 0) ∧ dec prog_9_method_33_code 88 = some (.goto 4, 91, 92, 0) ∧ dec prog_9_method_33_code 91 = some (.iload_n 3, 92, 3, 0) ∧ dec prog_9_method_33_code 92 = some (.ireturn, 93, 0, 0) := ⟨e_126_0, e_126_1, e_126_2, e_126_5, e_126_6, e_126_7, e_126_8, e_126_9, e_126_12, e_126_13, e_126_14, e_126_15, e_126_16, e_126_19, e_126_20, e_126_23, e_126_24, e_126_25, e_126_26, e_126_29, e_126_31, e_126_32, e_126_33, e_126_35, e_126_38, e_126_39, e_126_40, e_126_41, e_126_42, e_126_45, e_126_46, e_126_49, e_126_50, e_126_51, e_126_52, e_126_55, e_126_57, e_126_59, e_126_60, e_126_62, e_126_65, e_126_67, e_126_69, e_126_72, e_126_73, e_126_75, e_126_78, e_126_79, e_126_80, e_126_83, e_126_86, e_126_88, e_126_91, e_126_92⟩
theorem e_127_0 : dec prog_9_method_34_code 0 = some (.aload_n 0, 1, 0, 0) := by decide +kernel
theorem e_127_1 : dec prog_9_method_34_code 1 = some (.iload_n 1, 2, 1, 0) := by decide +kernel
theorem e_127_2 : dec prog_9_method_34_code 2 = some (.iconst 0, 3, 0, 0) := by decide +kernel
theorem e_127_3 : dec prog_9_method_34_code 3 = some (.invokevirtual 47, 6, 0, 0) := by decide +kernel
theorem e_127_6 : dec prog_9_method_34_code 6 = some (.iconst 1, 7, 0, 1) := by decide +kernel
theorem e_127_7 : dec prog_9_method_34_code 7 = some (.if_icmp .ne 17, 10, 24, 0) := by decide +kernel
theorem e_127_10 : dec prog_9_method_34_code 10 = some (.aload_n 0, 11, 0, 0) := by decide +kernel
theorem e_127_11 : dec prog_9_method_34_code 11 = some (.iload_n 2, 12, 2, 0) := by decide +kernel
theorem e_127_12 : dec prog_9_method_34_code 12 = some (.invokevirtual 100, 15, 0, 0) := by decide +kernel
theorem e_127_15 : dec prog_9_method_34_code 15 = some (.bipush (-6), 17, 0, (-6)) := by decide +kernel
theorem e_127_17 : dec prog_9_method_34_code 17 = some (.if_icmp .eq 7, 20, 24, 0) := by decide +kernel
theorem e_127_20 : dec prog_9_method_34_code 20 = some (.iconst 1, 21, 0, 1) := by decide +kernel
theorem e_127_21 : dec prog_9_method_34_code 21 = some (.goto 4, 24, 25, 0) := by decide +kernel
theorem e_127_24 : dec prog_9_method_34_code 24 = some (.iconst 0, 25, 0, 0) := by decide +kernel
theorem e_127_25 : dec prog_9_method_34_code 25 = some (.ireturn, 26, 0, 0) := by decide +kernel
theorem E_127 : dec prog_9_method_34_code 0 = some (.aload_n 0, 1, 0, 0) ∧ dec prog_9_method_34_code 1 = some (.iload_n 1, 2, 1, 0) ∧ dec prog_9_method_34_code 2 = some (.iconst 0, 3, 0, 0) ∧ dec prog_9_method_34_code 3 = some (.invokevirtual 47, 6, 0, 0) ∧ dec prog_9_method_34_code 6 = some (.iconst 1, 7, 0, 1) ∧ dec prog_9_method_34_code 7 = some (.if_icmp .ne 17, 10, 24, 0) ∧ dec prog_9_method_34_code 10 = some (.aload_n 0, 11, 0, 0) ∧ dec prog_9_method_34_code 11 = some (.iload_n 2, 12, 2, 0) ∧ dec prog_9_method_34_code 12 = some (.invokevirtual 100, 15, 0, 0) ∧ dec prog_9_method_34_code 15 = some (.bipush (-6), 17, 0, (-6)) ∧ dec prog_9_method_34_code 17 = some (.if_icmp .eq 7, 20, 24, 0) ∧ dec prog_9_method_34_code 20 = some (.iconst 1, 21, 0, 1) ∧ dec prog_9_method_34_code 21 = some (.goto 4, 24, 25, 0) ∧ dec prog_9_method_34_code 24 = some (.iconst 0, 25, 0, 0) ∧ dec prog_9_method_34_code 25 = some (.ireturn, 26, 0, 0) := ⟨e_127_0, e_127_1, e_127_2, e_127_3, e_127_6, e_127_7, e_127_10, e_127_11, e_127_12, e_127_15, e_127_17, e_127_20, e_127_21, e_127_24, e_127_25⟩
theorem e_128_0 : dec prog_9_method_35_code 0 = some (.bipush 39, 2, 0, 39) := by decide +kernel
theorem e_128_2 : dec prog_9_method_35_code 2 = some (.istore 5, 4, 5, 0) := by decide +kernel
theorem e_128_4 : dec prog_9_method_35_code 4 = some (.iload 5, 6, 5, 0) := by decide +kernel
theorem e_128_6 : dec prog_9_method_35_code 6 = some (.iconst 3, 7, 0, 3) := by decide +kernel
theorem e_128_7 : dec prog_9_method_35_code 7 = some (.if_icmp .le 33, 10, 40, 0) := by decide +kernel
theorem e_128_10 : dec prog_9_method_35_code 10 = some (.aload_n 0, 11, 0, 0) := by decide +kernel
theorem e_128_11 : dec prog_9_method_35_code 11 = some (.getfield 7, 14, 0, 0) := by decide +kernel
theorem e_128_14 : dec prog_9_method_35_code 14 = some (.sipush 161, 17, 0, 161) := by decide +kernel
theorem e_128_17 : dec prog_9_method_35_code 17 = some (.iload 5, 19, 5, 0) := by decide +kernel
theorem e_128_19 : dec prog_9_method_35_code 19 = some (.iadd, 20, 0, 0) := by decide +kernel
theorem e_128_20 : dec prog_9_method_35_code 20 = some (.aload_n 0, 21, 0, 0) := by decide +kernel
theorem e_128_21 : dec prog_9_method_35_code 21 = some (.getfield 7, 24, 0, 0) := by decide +kernel
theorem e_128_24 : dec prog_9_method_35_code 24 = some (.sipush 161, 27, 0, 161) := by decide +kernel
theorem e_128_27 : dec prog_9_method_35_code 27 = some (.iload 5, 29, 5, 0) := by decide +kernel
theorem e_128_29 : dec prog_9_method_35_code 29 = some (.iadd, 30, 0, 0) := by decide +kernel
theorem e_128_30 : dec prog_9_method_35_code 30 = some (.iconst 4, 31, 0, 4) := by decide +kernel
theorem e_128_31 : dec prog_9_method_35_code 31 = some (.isub, 32, 0, 0) := by decide +kernel
theorem e_128_32 : dec prog_9_method_35_code 32 = some (.iaload, 33, 0, 0) := by decide +kernel
theorem e_128_33 : dec prog_9_method_35_code 33 = some (.iastore, 34, 0, 0) := by decide +kernel
theorem e_128_34 : dec prog_9_method_35_code 34 = some (.iinc 5 (-1), 37, 5, (-1)) := by decide +kernel
theorem e_128_37 : dec prog_9_method_35_code 37 = some (.goto (-33), 40, 4, 0) := by decide +kernel
theorem e_128_40 : dec prog_9_method_35_code 40 = some (.aload_n 0, 41, 0, 0) := by decide +kernel
theorem e_128_41 : dec prog_9_method_35_code 41 = some (.getfield 7, 44, 0, 0) := by decide +kernel
theorem e_128_44 : dec prog_9_method_35_code 44 = some (.sipush 161, 47, 0, 161) := by decide +kernel
theorem e_128_47 : dec prog_9_method_35_code 47 = some (.iload_n 1, 48, 1, 0) := by decide +kernel
theorem e_128_48 : dec prog_9_method_35_code 48 = some (.iastore, 49, 0, 0) := by decide +kernel
theorem e_128_49 : dec prog_9_method_35_code 49 = some (.aload_n 0, 50, 0, 0) := by decide +kernel
theorem e_128_50 : dec prog_9_method_35_code 50 = some (.getfield 7, 53, 0, 0) := by decide +kernel
theorem e_128_53 : dec prog_9_method_35_code 53 = some (.sipush 162, 56, 0, 162) := by decide +kernel
theorem e_128_56 : dec prog_9_method_35_code 56 = some (.iload_n 2, 57, 2, 0) := by decide +kernel
theorem e_128_57 : dec prog_9_method_35_code 57 = some (.iastore, 58, 0, 0) := by decide +kernel
theorem e_128_58 : dec prog_9_method_35_code 58 = some (.aload_n 0, 59, 0, 0) := by decide +kernel
theorem e_128_59 : dec prog_9_method_35_code 59 = some (.getfield 7, 62, 0, 0) := by decide +kernel
theorem e_128_62 : dec prog_9_method_35_code 62 = some (.sipush 163, 65, 0, 163) := by decide +kernel
theorem e_128_65 : dec prog_9_method_35_code 65 = some (.iload_n 3, 66, 3, 0) := by decide +kernel
theorem e_128_66 : dec prog_9_method_35_code 66 = some (.iastore, 67, 0, 0) := by decide +kernel
theorem e_128_67 : dec prog_9_method_35_code 67 = some (.aload_n 0, 68, 0, 0) := by decide +kernel
theorem e_128_68 : dec prog_9_method_35_code 68 = some (.getfield 7, 71, 0, 0) := by decide +kernel
theorem e_128_71 : dec prog_9_method_35_code 71 = some (.sipush 164, 74, 0, 164) := by decide +kernel
theorem e_128_74 : dec prog_9_method_35_code 74 = some (.iload 4, 76, 4, 0) := by decide +kernel
theorem e_128_76 : dec prog_9_method_35_code 76 = some (.iastore, 77, 0, 0) := by decide +kernel
theorem e_128_77 : dec prog_9_method_35_code 77 = some (.aload_n 0, 78, 0, 0) := by decide +kernel
theorem e_128_78 : dec prog_9_method_35_code 78 = some (.getfield 7, 81, 0, 0) := by decide +kernel
theorem e_128_81 : dec prog_9_method_35_code 81 = some (.sipush 160, 84, 0, 160) := by decide +kernel
theorem e_128_84 : dec prog_9_method_35_code 84 = some (.aload_n 0, 85, 0, 0) := by decide +kernel
theorem e_128_85 : dec prog_9_method_35_code 85 = some (.getfield 7, 88, 0, 0) := by decide +kernel
theorem e_128_88 : dec prog_9_method_35_code 88 = some (.sipush 160, 91, 0, 160) := by decide +kernel
theorem e_128_91 : dec prog_9_method_35_code 91 = some (.iaload, 92, 0, 0) := by decide +kernel
theorem e_128_92 : dec prog_9_method_35_code 92 = some (.bipush 10, 94, 0, 10) := by decide +kernel
theorem e_128_94 : dec prog_9_method_35_code 94 = some (.if_icmp .ge 16, 97, 110, 0) := by decide +kernel
theorem e_128_97 : dec prog_9_method_35_code 97 = some (.aload_n 0, 98, 0, 0) := by decide +kernel
theorem e_128_98 : dec prog_9_method_35_code 98 = some (.getfield 7, 101, 0, 0) := by decide +kernel
theorem e_128_101 : dec prog_9_method_35_code 101 = some (.sipush 160, 104, 0, 160) := by decide +kernel
theorem e_128_104 : dec prog_9_method_35_code 104 = some (.iaload, 105, 0, 0) := by decide +kernel
theorem e_128_105 : dec prog_9_method_35_code 105 = some (.iconst 1, 106, 0, 1) := by decide +kernel
theorem e_128_106 : dec prog_9_method_35_code 106 = some (.iadd, 107, 0, 0) := by decide +kernel
theorem e_128_107 : dec prog_9_method_35_code 107 = some (.goto 5, 110, 112, 0) := by decide +kernel
theorem e_128_110 : dec prog_9_method_35_code 110 = some (.bipush 10, 112, 0, 10) := by decide +kernel
theorem e_128_112 : dec prog_9_method_35_code 112 = some (.iastore, 113, 0, 0) := by decide +kernel
theorem e_128_113 : dec prog_9_method_35_code 113 = some (.return_, 114, 0, 0) := by decide +kernel
theorem E_128 : dec prog_9_method_35_code 0 = some (.bipush 39, 2, 0, 39) ∧ dec prog_9_method_35_code 2 = some (.istore 5, 4, 5, 0) ∧ dec prog_9_method_35_code 4 = some (.iload 5, 6, 5, 0) ∧ dec prog_9_method_35_code 6 = some (.iconst 3, 7, 0, 3) ∧ dec prog_9_method_35_code 7 = some (.if_icmp .le 33, 10, 40, 0) ∧ dec prog_9_method_35_code 10 = some (.aload_n 0, 11, 0, 0) ∧ dec prog_9_method_35_code 11 = some (.getfield 7, 14, 0, 0) ∧ dec prog_9_method_35_code 14 = some (.sipush 161, 17, 0, 161) ∧ dec prog_9_method_35_code 17 = some (.iload 5, 19, 5, 0) ∧ dec prog_9_method_35_code 19 = some (.iadd, 20, 0, 0) ∧ dec prog_9_method_35_code 20 = some (.aload_n 0, 21, 0, 0) ∧ dec prog_9_method_35_code 21 = some (.getfield 7, 24, 0, 0) ∧ dec prog_9_method_35_code 24 = some (.sipush 161, 27, 0, 161) ∧ dec prog_9_method_35_code 27 = some (.iload 5, 29, 5, 0) ∧ dec prog_9_method_35_code 29 = some (.iadd, 30, 0, 0) ∧ dec prog_9_method_35_code 30 = some (.iconst 4, 31, 0, 4) ∧ dec prog_9_method_35_code 31 = some (.isub, 32, 0, 0) ∧ dec prog_9_method_35_code 32 = some (.iaload, 33, 0, 0) ∧ dec prog_9_method_35_code 33 = some (.iastore, 34, 0, 0) ∧ dec prog_9_method_35_code 34 = some (.iinc 5 (-1), 37, 5, (-1)) ∧ dec prog_9_method_35_code 37 = some (.goto (-33), 40, 4, 0) ∧ dec prog_9_method_35_code 40 = some (.aload_n 0, 41, 0, 0) ∧ dec prog_9_method_35_code 41 = some (.getfield 7, 44, 0, 0) ∧ dec prog_9_method_35_code 44 = some (.sipush 161, 47, 0, 161) ∧ dec prog_9_method_35_code 47 = some (.iload_n 1, 48, 1, 0) ∧ dec prog_9_method_35_code 48 = some (.iastore, 49, 0, 0) ∧ dec prog_9_method_35_code 49 = some (.aload_n 0, 50, 0, 0) ∧ dec prog_9_method_35_code 50 = some (.getfield 7, 53, 0, 0) ∧ dec prog_9_method_35_code 53 = some (.sipush 162, 56, 0, 162) ∧ dec prog_9_method_35_code 56 = some (.iload_n 2, 57, 2, 0) ∧ dec prog_9_method_35_code 57 = some (.iastore, 58, 0, 0) ∧ dec prog_9_method_35_code 58 = some (.aload_n 0, 59, 0, 0) ∧ dec prog_9_method_35_code 59 = some (.getfield 7, 62, 0, 0) ∧ dec prog_9_method_35_code 62 = some (.sipush 163, 65, 0, 163) ∧ dec prog_9_method_35_code 65 = some (.iload_n 3, 66, 3, 0) ∧ dec prog_9_method_35_code 66 = some (.iastore, 67, 0, 0) ∧ dec prog_9_method_35_code 67 = some (.aload_n 0, 68, 0, 0) ∧ dec prog_9_method_35_code 68 = some (.getfield 7, 71, 0, 0) ∧ dec prog_9_method_35_code 71 = some (.sipush 164, 74, 0, 164) ∧ dec prog_9_method_35_code 74 = some (.iload 4, 76, 4, 0) ∧ dec prog_9_method_35_code 76 = some (.iastore, 77, 0, 0) ∧ dec prog_9_method_35_code 77 = some (.aload_n 0, 78, 0, 0) ∧ dec prog_9_method_35_code 78 = some (.getfield 7, 81, 0, 0) ∧ dec prog_9_method_35_code 81 = some (.sipush 160, 84, 0, 160) ∧ dec prog_9_method_35_code 84 = some (.aload_n 0, 85, 0, 0) ∧ dec prog_9_method_35_code 85 = some (.getfield 7, 88, 0, 0) ∧ dec prog_9_method_35_code 88 = some (.sipush 160, 91, 0, 160) ∧ dec prog_9_method_35_code 91 = some (.iaload, 92, 0, 0) ∧ dec prog_9_method_35_code 92 = some (.bipush 10, 94, 0, 10) ∧ dec prog_9_method_35_code 94 = some (.if_icmp .ge 16, 97, 110, 0) ∧ dec prog_9_method_35_code 97 = some (.aload_n 0, 98, 0, 0) ∧ dec prog_9_method_35_code 98 = some (.getfield 7, 101, 0, 0) ∧ dec prog_9_method_35_code 101 = some (.sipush 160, 104, 0, 160) ∧ dec prog_9_method_35_code 104 = some (.iaload, 105, 0, 0) ∧ dec prog_9_method_35_code 105 = some (.iconst 1, 106, 0, 1) ∧ dec prog_9_method_35_code 106 = some (.iadd, 107, 0, 0) ∧ dec prog_9_method_35_code 107 = some (.goto 5, 110, 112, 0) ∧ dec prog_9_method_35_code 110 = some (.bipush 10, 112, 0, 10) ∧ dec prog_9_method_35_code 112 = some (.iastore, 113, 0, 0) ∧ dec prog_9_method_35_code 113 = some (.return_, 114, 0, 0) := ⟨e_128_0, e_128_2, e_128_4, e_128_6, e_128_7, e_128_10, e_128_11, e_128_14, e_128_17, e_128_19, e_128_20, e_128_21, e_128_24, e_128_27, e_128_29, e_128_30, e_128_31, e_128_32, e_128_33, e_128_34, e_128_37, e_128_40, e_128_41, e_128_44, e_128_47, e_128_48, e_128_49, e_128_50, e_128_53, e_128_56, e_128_57, e_128_58, e_128_59, e_128_62, e_128_65, e_128_66, e_128_67, e_128_68, e_128_71, e_128_74, e_128_76, e_128_77, e_128_78, e_128_81, e_128_84, e_128_85, e_128_88, e_128_91, e_128_92, e_128_94, e_128_97, e_128_98, e_128_101, e_128_104, e_128_105, e_128_106, e_128_107, e_128_110, e_128_112, e_128_113⟩
theorem e_129_0 : dec prog_9_method_36_code 0 = some (.iconst 0, 1, 0, 0) := by decide +kernel
theorem e_129_1 : dec prog_9_method_36_code 1 = some (.istore_n 1, 2, 1, 0) := by decide +kernel
theorem e_129_2 : dec prog_9_method_36_code 2 = some (.aload_n 0, 3, 0, 0) := by decide +kernel
theorem e_129_3 : dec prog_9_method_36_code 3 = some (.iconst 1, 4, 0, 1) := by decide +kernel
theorem e_129_4 : dec prog_9_method_36_code 4 = some (.invokevirtual 103, 7, 0, 0) := by decide +kernel
theorem e_129_7 : dec prog_9_method_36_code 7 = some (.aload_n 0, 8, 0, 0) := by decide +kernel
theorem e_129_8 : dec prog_9_method_36_code 8 = some (.getfield 7, 11, 0, 0) := by decide +kernel
theorem e_129_11 : dec prog_9_method_36_code 11 = some (.iconst 5, 12, 0, 5) := by decide +kernel
theorem e_129_12 : dec prog_9_method_36_code 12 = some (.iaload, 13, 0, 0) := by decide +kernel
theorem e_129_13 : dec prog_9_method_36_code 13 = some (.if_icmp .ge 42, 16, 55, 0) := by decide +kernel
theorem e_129_16 : dec prog_9_method_36_code 16 = some (.aload_n 0, 17, 0, 0) := by decide +kernel
theorem e_129_17 : dec prog_9_method_36_code 17 = some (.invokevirtual 81, 20, 0, 0) := by decide +kernel
theorem e_129_20 : dec prog_9_method_36_code 20 = some (.bipush (-6), 22, 0, (-6)) := by decide +kernel
theorem e_129_22 : dec prog_9_method_36_code 22 = some (.if_icmp .eq 33, 25, 55, 0) := by decide +kernel
theorem e_129_25 : dec prog_9_method_36_code 25 = some (.aload_n 0, 26, 0, 0) := by decide +kernel
theorem e_129_26 : dec prog_9_method_36_code 26 = some (.aload_n 0, 27, 0, 0) := by decide +kernel
theorem e_129_27 : dec prog_9_method_36_code 27 = some (.invokevirtual 106, 30, 0, 0) := by decide +kernel
theorem e_129_30 : dec prog_9_method_36_code 30 = some (.invokevirtual 51, 33, 0, 0) := by decide +kernel
theorem e_129_33 : dec prog_9_method_36_code 33 = some (.iconst 4, 34, 0, 4) := by decide +kernel
theorem e_129_34 : dec prog_9_method_36_code 34 = some (.if_icmp .ge 21, 37, 55, 0) := by decide +kernel
theorem e_129_37 : dec prog_9_method_36_code 37 = some (.aload_n 0, 38, 0, 0) := by decide +kernel
theorem e_129_38 : dec prog_9_method_36_code 38 = some (.aload_n 0, 39, 0, 0) := by decide +kernel
theorem e_129_39 : dec prog_9_method_36_code 39 = some (.invokevirtual 81, 42, 0, 0) := by decide +kernel
theorem e_129_42 : dec prog_9_method_36_code 42 = some (.aload_n 0, 43, 0, 0) := by decide +kernel
theorem e_129_43 : dec prog_9_method_36_code 43 = some (.invokevirtual 106, 46, 0, 0) := by decide +kernel
theorem e_129_46 : dec prog_9_method_36_code 46 = some (.invokevirtual 88, 49, 0, 0) := by decide +kernel
theorem e_129_49 : dec prog_9_method_36_code 49 = some (.iinc 1 1, 52, 1, 1) := by decide +kernel
theorem e_129_52 : dec prog_9_method_36_code 52 = some (.goto (-50), 55, 2, 0) := by decide +kernel
theorem e_129_55 : dec prog_9_method_36_code 55 = some (.iload_n 1, 56, 1, 0) := by decide +kernel
theorem e_129_56 : dec prog_9_method_36_code 56 = some (.ifCond .le 23, 59, 79, 0) := by decide +kernel
theorem e_129_59 : dec prog_9_method_36_code 59 = some (.aload_n 0, 60, 0, 0) := by decide +kernel
theorem e_129_60 : dec prog_9_method_36_code 60 = some (.getfield 7, 63, 0, 0) := by decide +kernel
theorem e_129_63 : dec prog_9_method_36_code 63 = some (.bipush 14, 65, 0, 14) := by decide +kernel
theorem e_129_65 : dec prog_9_method_36_code 65 = some (.dup2, 66, 0, 0) := by decide +kernel
theorem e_129_66 : dec prog_9_method_36_code 66 = some (.iaload, 67, 0, 0) := by decide +kernel
theorem e_129_67 : dec prog_9_method_36_code 67 = some (.iconst 1, 68, 0, 1) := by decide +kernel
theorem e_129_68 : dec prog_9_method_36_code 68 = some (.iadd, 69, 0, 0) := by decide +kernel
theorem e_129_69 : dec prog_9_method_36_code 69 = some (.iastore, 70, 0, 0) := by decide +kernel
theorem e_129_70 : dec prog_9_method_36_code 70 = some (.aload_n 0, 71, 0, 0) := by decide +kernel
theorem e_129_71 : dec prog_9_method_36_code 71 = some (.iconst 3, 72, 0, 3) := by decide +kernel
theorem e_129_72 : dec prog_9_method_36_code 72 = some (.bipush (-6), 74, 0, (-6)) := by decide +kernel
theorem e_129_74 : dec prog_9_method_36_code 74 = some (.iload_n 1, 75, 1, 0) := by decide +kernel
theorem e_129_75 : dec prog_9_method_36_code 75 = some (.iconst 0, 76, 0, 0) := by decide +kernel
theorem e_129_76 : dec prog_9_method_36_code 76 = some (.invokevirtual 109, 79, 0, 0) := by decide +kernel
theorem e_129_79 : dec prog_9_method_36_code 79 = some (.return_, 80, 0, 0) := by decide +kernel
theorem E_129 : dec prog_9_method_36_code 0 = some (.iconst 0, 1, 0, 0) ∧ dec prog_9_method_36_code 1 = some (.istore_n 1, 2, 1, 0) ∧ dec prog_9_method_36_code 2 = some (.aload_n 0, 3, 0, 0) ∧ dec prog_9_method_36_code 3 = some (.iconst 1, 4, 0, 1) ∧ dec prog_9_method_36_code 4 = some (.invokevirtual 103, 7, 0, 0) ∧ dec prog_9_method_36_code 7 = some (.aload_n 0, 8, 0, 0) ∧ dec prog_9_method_36_code 8 = some (.getfield 7, 11, 0, 0) ∧ dec prog_9_method_36_code 11 = some (.iconst 5, 12, 0, 5) ∧ dec prog_9_method_36_code 12 = some (.iaload, 13, 0, 0) ∧ dec prog_9_method_36_code 13 = some (.if_icmp .ge 42, 16, 55, 0) ∧ dec prog_9_method_36_code 16 = some (.aload_n 0, 17, 0, 0) ∧ dec prog_9_method_36_code 17 = some (.invokevirtual 81, 20, 0, 0) ∧ dec prog_9_method_36_code 20 = some (.bipush (-6), 22, 0, (-6)) ∧ dec prog_9_method_36_code 22 = some (.if_icmp .eq 33, 25, 55, 0) ∧ dec prog_9_method_36_code 25 = some (.aload_n 0, 26, 0, 0) ∧ dec prog_9_method_36_code 26 = some (.aload_n 0, 27, 0, 0) ∧ dec prog_9_method_36_code 27 = some (.invokevirtual 106, 30, 0, 0) ∧ dec prog_9_method_36_code 30 = some (.invokevirtual 51, 33, 0, 0) ∧ dec prog_9_method_36_code 33 = some (.iconst 4, 34, 0, 4) ∧ dec prog_9_method_36_code 34 = some (.if_icmp .ge 21, 37, 55, 0) ∧ dec prog_9_method_36_code 37 = some (.aload_n 0, 38, 0, 0) ∧ dec prog_9_method_36_code 38 = some (.aload_n 0, 39, 0, 0) ∧ dec prog_9_method_36_code 39 = some (.invokevirtual 81, 42, 0, 0) ∧ dec prog_9_method_36_code 42 = some (.aload_n 0, 43, 0, 0) ∧ dec prog_9_method_36_code 43 = some (.invokevirtual 106, 46, 0, 0) ∧ dec prog_9_method_36_code 46 = some (.invokevirtual 88, 49, 0, 0) ∧ dec prog_9_method_36_code 49 = some (.iinc 1 1, 52, 1, 1) ∧ dec prog_9_method_36_code 52 = some (.goto (-50), 55, 2, 0) ∧ dec prog_9_method_36_code 55 = some (.iload_n 1, 56, 1, 0) ∧ dec prog_9_method_36_code 56 = some (.ifCond .le 23, 59, 79, 0) ∧ dec prog_9_method_36_code 59 = some (.aload_n 0, 60, 0, 0) ∧ dec prog_9_method_36_code 60 = some (.getfield 7, 63, 0, 0) ∧ dec prog_9_method_36_code 63 = some (.bipush 14, 65, 0, 14) ∧ dec prog_9_method_36_code 65 = some (.dup2, 66, 0, 0) ∧ dec prog_9_method_36_code 66 = some (.iaload, 67, 0, 0) ∧ dec prog_9_method_36_code 67 = some (.iconst 1, 68, 0, 1) ∧ dec prog_9_method_36_code 68 = some (.iadd, 69, 0, 0) ∧ dec prog_9_method_36_code 69 = some (.iastore, 70, 0, 0) ∧ dec prog_9_method_36_code 70 = some (.aload_n 0, 71, 0, 0) ∧ dec prog_9_method_36_code 71 = some (.iconst 3, 72, 0, 3) ∧ dec prog_9_method_36_code 72 = some (.bipush (-6), 74, 0, (-6)) ∧ dec prog_9_method_36_code 74 = some (.iload_n 1, 75, 1, 0) ∧ dec prog_9_method_36_code 75 = some (.iconst 0, 76, 0, 0) ∧ dec prog_9_method_36_code 76 = some (.invokevirtual 109, 79, 0, 0) ∧ dec prog_9_method_36_code 79 = some (.return_, 80, 0, 0) := ⟨e_129_0, e_129_1, e_129_2, e_129_3, e_129_4, e_129_7, e_129_8, e_129_11, e_129_12, e_129_13, e_129_16, e_129_17, e_129_20, e_129_22, e_129_25, e_129_26, e_129_27, e_129_30, e_129_33, e_129_34, e_129_37, e_129_38, e_129_39, e_129_42, e_129_43, e_129_46, e_129_49, e_129_52, e_129_55, e_129_56, e_129_59, e_129_60, e_129_63, e_129_65, e_129_66, e_129_67, e_129_68, e_129_69, e_129_70, e_129_71, e_129_72, e_129_74, e_129_75, e_129_76, e_129_79⟩
theorem e_130_0 : dec prog_9_method_37_code 0 = some (.aload_n 0, 1, 0, 0) := by decide +kernel
theorem e_130_1 : dec prog_9_method_37_code 1 = some (.getfield 7, 4, 0, 0) := by decide +kernel
theorem e_130_4 : dec prog_9_method_37_code 4 = some (.bipush 6, 6, 0, 6) := by decide +kernel
theorem e_130_6 : dec prog_9_method_37_code 6 = some (.dup2, 7, 0, 0) := by decide +kernel
theorem e_130_7 : dec prog_9_method_37_code 7 = some (.iaload, 8, 0, 0) := by decide +kernel
theorem e_130_8 : dec prog_9_method_37_code 8 = some (.aload_n 0, 9, 0, 0) := by decide +kernel
theorem e_130_9 : dec prog_9_method_37_code 9 = some (.getfield 7, 12, 0, 0) := by decide +kernel
theorem e_130_12 : dec prog_9_method_37_code 12 = some (.iconst 0, 13, 0, 0) := by decide +kernel
theorem e_130_13 : dec prog_9_method_37_code 13 = some (.iaload, 14, 0, 0) := by decide +kernel
theorem e_130_14 : dec prog_9_method_37_code 14 = some (.isub, 15, 0, 0) := by decide +kernel
theorem e_130_15 : dec prog_9_method_37_code 15 = some (.iastore, 16, 0, 0) := by decide +kernel
theorem e_130_16 : dec prog_9_method_37_code 16 = some (.aload_n 0, 17, 0, 0) := by decide +kernel
theorem e_130_17 : dec prog_9_method_37_code 17 = some (.getfield 7, 20, 0, 0) := by decide +kernel
theorem e_130_20 : dec prog_9_method_37_code 20 = some (.bipush 7, 22, 0, 7) := by decide +kernel
theorem e_130_22 : dec prog_9_method_37_code 22 = some (.dup2, 23, 0, 0) := by decide +kernel
theorem e_130_23 : dec prog_9_method_37_code 23 = some (.iaload, 24, 0, 0) := by decide +kernel
theorem e_130_24 : dec prog_9_method_37_code 24 = some (.aload_n 0, 25, 0, 0) := by decide +kernel
theorem e_130_25 : dec prog_9_method_37_code 25 = some (.getfield 7, 28, 0, 0) := by decide +kernel
theorem e_130_28 : dec prog_9_method_37_code 28 = some (.iconst 0, 29, 0, 0) := by decide +kernel
theorem e_130_29 : dec prog_9_method_37_code 29 = some (.iaload, 30, 0, 0) := by decide +kernel
theorem e_130_30 : dec prog_9_method_37_code 30 = some (.iadd, 31, 0, 0) := by decide +kernel
theorem e_130_31 : dec prog_9_method_37_code 31 = some (.iastore, 32, 0, 0) := by decide +kernel
theorem e_130_32 : dec prog_9_method_37_code 32 = some (.aload_n 0, 33, 0, 0) := by decide +kernel
theorem e_130_33 : dec prog_9_method_37_code 33 = some (.getfield 7, 36, 0, 0) := by decide +kernel
theorem e_130_36 : dec prog_9_method_37_code 36 = some (.bipush 8, 38, 0, 8) := by decide +kernel
theorem e_130_38 : dec prog_9_method_37_code 38 = some (.dup2, 39, 0, 0) := by decide +kernel
theorem e_130_39 : dec prog_9_method_37_code 39 = some (.iaload, 40, 0, 0) := by decide +kernel
theorem e_130_40 : dec prog_9_method_37_code 40 = some (.aload_n 0, 41, 0, 0) := by decide +kernel
theorem e_130_41 : dec prog_9_method_37_code 41 = some (.getfield 7, 44, 0, 0) := by decide +kernel
theorem e_130_44 : dec prog_9_method_37_code 44 = some (.iconst 0, 45, 0, 0) := by decide +kernel
theorem e_130_45 : dec prog_9_method_37_code 45 = some (.iaload, 46, 0, 0) := by decide +kernel
theorem e_130_46 : dec prog_9_method_37_code 46 = some (.iadd, 47, 0, 0) := by decide +kernel
theorem e_130_47 : dec prog_9_method_37_code 47 = some (.iastore, 48, 0, 0) := by decide +kernel
theorem e_130_48 : dec prog_9_method_37_code 48 = some (.aload_n 0, 49, 0, 0) := by decide +kernel
theorem e_130_49 : dec prog_9_method_37_code 49 = some (.getfield 7, 52, 0, 0) := by decide +kernel
theorem e_130_52 : dec prog_9_method_37_code 52 = some (.bipush 9, 54, 0, 9) := by decide +kernel
theorem e_130_54 : dec prog_9_method_37_code 54 = some (.dup2, 55, 0, 0) := by decide +kernel
theorem e_130_55 : dec prog_9_method_37_code 55 = some (.iaload, 56, 0, 0) := by decide +kernel
theorem e_130_56 : dec prog_9_method_37_code 56 = some (.iconst 1, 57, 0, 1) := by decide +kernel
theorem e_130_57 : dec prog_9_method_37_code 57 = some (.iadd, 58, 0, 0) := by decide +kernel
theorem e_130_58 : dec prog_9_method_37_code 58 = some (.iastore, 59, 0, 0) := by decide +kernel
theorem e_130_59 : dec prog_9_method_37_code 59 = some (.aload_n 0, 60, 0, 0) := by decide +kernel
theorem e_130_60 : dec prog_9_method_37_code 60 = some (.aload_n 0, 61, 0, 0) := by decide +kernel
theorem e_130_61 : dec prog_9_method_37_code 61 = some (.getfield 7, 64, 0, 0) := by decide +kernel
theorem e_130_64 : dec prog_9_method_37_code 64 = some (.bipush 7, 66, 0, 7) := by decide +kernel
theorem e_130_66 : dec prog_9_method_37_code 66 = some (.iaload, 67, 0, 0) := by decide +kernel
theorem e_130_67 : dec prog_9_method_37_code 67 = some (.invokevirtual 94, 70, 0, 0) := by decide +kernel
theorem e_130_70 : dec prog_9_method_37_code 70 = some (.ifCond .eq 7, 73, 77, 0) := by decide +kernel
theorem e_130_73 : dec prog_9_method_37_code 73 = some (.iconst 1, 74, 0, 1) := by decide +kernel
theorem e_130_74 : dec prog_9_method_37_code 74 = some (.goto 4, 77, 78, 0) := by decide +kernel
theorem e_130_77 : dec prog_9_method_37_code 77 = some (.iconst 0, 78, 0, 0) := by decide +kernel
theorem e_130_78 : dec prog_9_method_37_code 78 = some (.istore_n 3, 79, 3, 0) := by decide +kernel
theorem e_130_79 : dec prog_9_method_37_code 79 = some (.aload_n 0, 80, 0, 0) := by decide +kernel
theorem e_130_80 : dec prog_9_method_37_code 80 = some (.getfield 7, 83, 0, 0) := by decide +kernel
theorem e_130_83 : dec prog_9_method_37_code 83 = some (.bipush 10, 85, 0, 10) := by decide +kernel
theorem e_130_85 : dec prog_9_method_37_code 85 = some (.dup2, 86, 0, 0) := by decide +kernel
theorem e_130_86 : dec prog_9_method_37_code 86 = some (.iaload, 87, 0, 0) := by decide +kernel
theorem e_130_87 : dec prog_9_method_37_code 87 = some (.iload_n 3, 88, 3, 0) := by decide +kernel
theorem e_130_88 : dec prog_9_method_37_code 88 = some (.iadd, 89, 0, 0) := by decide +kernel
theorem e_130_89 : dec prog_9_method_37_code 89 = some (.iastore, 90, 0, 0) := by decide +kernel
theorem e_130_90 : dec prog_9_method_37_code 90 = some (.aload_n 0, 91, 0, 0) := by decide +kernel
theorem e_130_91 : dec prog_9_method_37_code 91 = some (.iload_n 1, 92, 1, 0) := by decide +kernel
theorem e_130_92 : dec prog_9_method_37_code 92 = some (.invokevirtual 113, 95, 0, 0) := by decide +kernel
theorem e_130_95 : dec prog_9_method_37_code 95 = some (.istore 4, 97, 4, 0) := by decide +kernel
theorem e_130_97 : dec prog_9_method_37_code 97 = some (.iconst 0, 98, 0, 0) := by decide +kernel
theorem e_130_98 : dec prog_9_method_37_code 98 = some (.istore 5, 100, 5, 0) := by decide +kernel
theorem e_130_100 : dec prog_9_method_37_code 100 = some (.iload 4, 102, 4, 0) := by decide +kernel
theorem e_130_102 : dec prog_9_method_37_code 102 = some (.bipush (-6), 104, 0, (-6)) := by decide +kernel
theorem e_130_104 : dec prog_9_method_37_code 104 = some (.if_icmp .ne 15, 107, 119, 0) := by decide +kernel
theorem e_130_107 : dec prog_9_method_37_code 107 = some (.aload_n 0, 108, 0, 0) := by decide +kernel
theorem e_130_108 : dec prog_9_method_37_code 108 = some (.iconst 0, 109, 0, 0) := by decide +kernel
theorem e_130_109 : dec prog_9_method_37_code 109 = some (.iload_n 1, 110, 1, 0) := by decide +kernel
theorem e_130_110 : dec prog_9_method_37_code 110 = some (.bipush (-6), 112, 0, (-6)) := by decide +kernel
theorem e_130_112 : dec prog_9_method_37_code 112 = some (.iload_n 3, 113, 3, 0) := by decide +kernel
theorem e_130_113 : dec prog_9_method_37_code 113 = some (.invokevirtual 109, 116, 0, 0) := by decide +kernel
theorem e_130_116 : dec prog_9_method_37_code 116 = some (.goto 139, 119, 255, 0) := by decide +kernel
theorem e_130_119 : dec prog_9_method_37_code 119 = some (.aload_n 0, 120, 0, 0) := by decide +kernel
theorem e_130_120 : dec prog_9_method_37_code 120 = some (.iload 4, 122, 4, 0) := by decide +kernel
theorem e_130_122 : dec prog_9_method_37_code 122 = some (.iconst 5, 123, 0, 5) := by decide +kernel
theorem e_130_123 : dec prog_9_method_37_code 123 = some (.aload_n 0, 124, 0, 0) := by decide +kernel
theorem e_130_124 : dec prog_9_method_37_code 124 = some (.iload 4, 126, 4, 0) := by decide +kernel
theorem e_130_126 : dec prog_9_method_37_code 126 = some (.iconst 5, 127, 0, 5) := by decide +kernel
theorem e_130_127 : dec prog_9_method_37_code 127 = some (.invokevirtual 47, 130, 0, 0) := by decide +kernel
theorem e_130_130 : dec prog_9_method_37_code 130 = some (.iconst 1, 131, 0, 1) := by decide +kernel
theorem e_130_131 : dec prog_9_method_37_code 131 = some (.iadd, 132, 0, 0) := by decide +kernel
theorem e_130_132 : dec prog_9_method_37_code 132 = some (.invokevirtual 58, 135, 0, 0) := by decide +kernel
theorem e_130_135 : dec prog_9_method_37_code 135 = some (.aload_n 0, 136, 0, 0) := by decide +kernel
theorem e_130_136 : dec prog_9_method_37_code 136 = some (.iload 4, 138, 4, 0) := by decide +kernel
theorem e_130_138 : dec prog_9_method_37_code 138 = some (.iload_n 1, 139, 1, 0) := by decide +kernel
theorem e_130_139 : dec prog_9_method_37_code 139 = some (.iload_n 2, 140, 2, 0) := by decide +kernel
theorem e_130_140 : dec prog_9_method_37_code 140 = some (.aload_n 0, 141, 0, 0) := by decide +kernel
theorem e_130_141 : dec prog_9_method_37_code 141 = some (.getfield 7, 144, 0, 0) := by decide +kernel
theorem e_130_144 : dec prog_9_method_37_code 144 = some (.bipush 7, 146, 0, 7) := by decide +kernel
theorem e_130_146 : dec prog_9_method_37_code 146 = some (.iaload, 147, 0, 0) := by decide +kernel
theorem e_130_147 : dec prog_9_method_37_code 147 = some (.invokevirtual 116, 150, 0, 0) := by decide +kernel
theorem e_130_150 : dec prog_9_method_37_code 150 = some (.istore 6, 152, 6, 0) := by decide +kernel
theorem e_130_152 : dec prog_9_method_37_code 152 = some (.iload 6, 154, 6, 0) := by decide +kernel
theorem e_130_154 : dec prog_9_method_37_code 154 = some (.ifCond .eq 11, 157, 165, 0) := by decide +kernel
theorem e_130_157 : dec prog_9_method_37_code 157 = some (.bipush 10, 159, 0, 10) := by decide +kernel
theorem e_130_159 : dec prog_9_method_37_code 159 = some (.iload 4, 161, 4, 0) := by decide +kernel
theorem e_130_161 : dec prog_9_method_37_code 161 = some (.iadd, 162, 0, 0) := by decide +kernel
theorem e_130_162 : dec prog_9_method_37_code 162 = some (.goto 4, 165, 166, 0) := by decide +kernel
theorem e_130_165 : dec prog_9_method_37_code 165 = some (.iconst 1, 166, 0, 1) := by decide +kernel
theorem e_130_166 : dec prog_9_method_37_code 166 = some (.istore 5, 168, 5, 0) := by decide +kernel
theorem e_130_168 : dec prog_9_method_37_code 168 = some (.aload_n 0, 169, 0, 0) := by decide +kernel
theorem e_130_169 : dec prog_9_method_37_code 169 = some (.iload 6, 171, 6, 0) := by decide +kernel
theorem e_130_171 : dec prog_9_method_37_code 171 = some (.ifCond .eq 7, 174, 178, 0) := by decide +kernel
theorem e_130_174 : dec prog_9_method_37_code 174 = some (.iconst 2, 175, 0, 2) := by decide +kernel
theorem e_130_175 : dec prog_9_method_37_code 175 = some (.goto 4, 178, 179, 0) := by decide +kernel
theorem e_130_178 : dec prog_9_method_37_code 178 = some (.iconst 1, 179, 0, 1) := by decide +kernel
theorem e_130_179 : dec prog_9_method_37_code 179 = some (.iload_n 1, 180, 1, 0) := by decide +kernel
theorem e_130_180 : dec prog_9_method_37_code 180 = some (.iload 4, 182, 4, 0) := by decide +kernel
theorem e_130_182 : dec prog_9_method_37_code 182 = some (.iload_n 3, 183, 3, 0) := by decide +kernel
theorem e_130_183 : dec prog_9_method_37_code 183 = some (.invokevirtual 109, 186, 0, 0) := by decide +kernel
theorem e_130_186 : dec prog_9_method_37_code 186 = some (.iload 6, 188, 6, 0) := by decide +kernel
theorem e_130_188 : dec prog_9_method_37_code 188 = some (.ifCond .eq 49, 191, 237, 0) := by decide +kernel
theorem e_130_191 : dec prog_9_method_37_code 191 = some (.aload_n 0, 192, 0, 0) := by decide +kernel
theorem e_130_192 : dec prog_9_method_37_code 192 = some (.iload 4, 194, 4, 0) := by decide +kernel
theorem e_130_194 : dec prog_9_method_37_code 194 = some (.iconst 2, 195, 0, 2) := by decide +kernel
theorem e_130_195 : dec prog_9_method_37_code 195 = some (.invokevirtual 66, 198, 0, 0) := by decide +kernel
theorem e_130_198 : dec prog_9_method_37_code 198 = some (.aload_n 0, 199, 0, 0) := by decide +kernel
theorem e_130_199 : dec prog_9_method_37_code 199 = some (.getfield 7, 202, 0, 0) := by decide +kernel
theorem e_130_202 : dec prog_9_method_37_code 202 = some (.bipush 7, 204, 0, 7) := by decide +kernel
theorem e_130_204 : dec prog_9_method_37_code 204 = some (.iconst 0, 205, 0, 0) := by decide +kernel
theorem e_130_205 : dec prog_9_method_37_code 205 = some (.iastore, 206, 0, 0) := by decide +kernel
theorem e_130_206 : dec prog_9_method_37_code 206 = some (.aload_n 0, 207, 0, 0) := by decide +kernel
theorem e_130_207 : dec prog_9_method_37_code 207 = some (.getfield 7, 210, 0, 0) := by decide +kernel
theorem e_130_210 : dec prog_9_method_37_code 210 = some (.bipush 11, 212, 0, 11) := by decide +kernel
theorem e_130_212 : dec prog_9_method_37_code 212 = some (.dup2, 213, 0, 0) := by decide +kernel
theorem e_130_213 : dec prog_9_method_37_code 213 = some (.iaload, 214, 0, 0) := by decide +kernel
theorem e_130_214 : dec prog_9_method_37_code 214 = some (.iconst 1, 215, 0, 1) := by decide +kernel
theorem e_130_215 : dec prog_9_method_37_code 215 = some (.iadd, 216, 0, 0) := by decide +kernel
theorem e_130_216 : dec prog_9_method_37_code 216 = some (.iastore, 217, 0, 0) := by decide +kernel
theorem e_130_217 : dec prog_9_method_37_code 217 = some (.aload_n 0, 218, 0, 0) := by decide +kernel
theorem e_130_218 : dec prog_9_method_37_code 218 = some (.getfield 7, 221, 0, 0) := by decide +kernel
theorem e_130_221 : dec prog_9_method_37_code 221 = some (.bipush 13, 223, 0, 13) := by decide +kernel
theorem e_130_223 : dec prog_9_method_37_code 223 = some (.dup2, 224, 0, 0) := by decide +kernel
theorem e_130_224 : dec prog_9_method_37_code 224 = some (.iaload, 225, 0, 0) := by decide +kernel
theorem e_130_225 : dec prog_9_method_37_code 225 = some (.aload_n 0, 226, 0, 0) := by decide +kernel
theorem e_130_226 : dec prog_9_method_37_code 226 = some (.iload 4, 228, 4, 0) := by decide +kernel
theorem e_130_228 : dec prog_9_method_37_code 228 = some (.iconst 2, 229, 0, 2) := by decide +kernel
theorem e_130_229 : dec prog_9_method_37_code 229 = some (.invokevirtual 47, 232, 0, 0) := by decide +kernel
theorem e_130_232 : dec prog_9_method_37_code 232 = some (.iadd, 233, 0, 0) := by decide +kernel
theorem e_130_233 : dec prog_9_method_37_code 233 = some (.iastore, 234, 0, 0) := by decide +kernel
theorem e_130_234 : dec prog_9_method_37_code 234 = some (.goto 21, 237, 255, 0) := by decide +kernel
theorem e_130_237 : dec prog_9_method_37_code 237 = some (.aload_n 0, 238, 0, 0) := by decide +kernel
theorem e_130_238 : dec prog_9_method_37_code 238 = some (.getfield 7, 241, 0, 0) := by decide +kernel
theorem e_130_241 : dec prog_9_method_37_code 241 = some (.bipush 12, 243, 0, 12) := by decide +kernel
theorem e_130_243 : dec prog_9_method_37_code 243 = some (.dup2, 244, 0, 0) := by decide +kernel
theorem e_130_244 : dec prog_9_method_37_code 244 = some (.iaload, 245, 0, 0) := by decide +kernel
theorem e_130_245 : dec prog_9_method_37_code 245 = some (.iconst 1, 246, 0, 1) := by decide +kernel
theorem e_130_246 : dec prog_9_method_37_code 246 = some (.iadd, 247, 0, 0) := by decide +kernel
theorem e_130_247 : dec prog_9_method_37_code 247 = some (.iastore, 248, 0, 0) := by decide +kernel
theorem e_130_248 : dec prog_9_method_37_code 248 = some (.aload_n 0, 249, 0, 0) := by decide +kernel
theorem e_130_249 : dec prog_9_method_37_code 249 = some (.iload 4, 251, 4, 0) := by decide +kernel
theorem e_130_251 : dec prog_9_method_37_code 251 = some (.iload_n 1, 252, 1, 0) := by decide +kernel
theorem e_130_252 : dec prog_9_method_37_code 252 = some (.invokevirtual 120, 255, 0, 0) := by decide +kernel
theorem e_130_255 : dec prog_9_method_37_code 255 = some (.aload_n 0, 256, 0, 0) := by decide +kernel
theorem e_130_256 : dec prog_9_method_37_code 256 = some (.invokevirtual 123, 259, 0, 0) := by decide +kernel
theorem e_130_259 : dec prog_9_method_37_code 259 = some (.iload 5, 261, 5, 0) := by decide +kernel
theorem e_130_261 : dec prog_9_method_37_code 261 = some (.ireturn, 262, 0, 0) := by decide +kernel
theorem E_130 : dec prog_9_method_37_code 0 = some (.aload_n 0, 1, 0, 0) ∧ dec prog_9_method_37_code 1 = some (.getfield 7, 4, 0, 0) ∧ dec prog_9_method_37_code 4 = some (.bipush 6, 6, 0, 6) ∧ dec prog_9_method_37_code 6 = some (.dup2, 7, 0, 0) ∧ dec prog_9_method_37_code 7 = some (.iaload, 8, 0, 0) ∧ dec prog_9_method_37_code 8 = some (.aload_n 0, 9, 0, 0) ∧ dec prog_9_method_37_code 9 = some (.getfield 7, 12, 0, 0) ∧ dec prog_9_method_37_code 12 = some (.iconst 0, 13, 0, 0) ∧ dec prog_9_method_37_code 13 = some (.iaload, 14, 0, 0) ∧ dec prog_9_method_37_code 14 = some (.isub, 15, 0, 0) ∧ dec prog_9_method_37_code 15 = some (.iastore, 16, 0, 0) ∧ dec prog_9_method_37_code 16 = some (.aload_n 0, 17, 0, 0) ∧ dec prog_9_method_37_code 17 = some (.getfield 7, 20, 0, 0) ∧ dec prog_9_method_37_code 20 = some (.bipush 7, 22, 0, 7) ∧ dec prog_9_method_37_code 22 = some (.dup2, 23, 0, 0) ∧ dec prog_9_method_37_code 23 = some (.iaload, 24, 0, 0) ∧ dec prog_9_method_37_code 24 = some (.aload_n 0, 25, 0, 0) ∧ dec prog_9_method_37_code 25 = some (.getfield 7, 28, 0, 0) ∧ dec prog_9_method_37_code 28 = some (.iconst 0, 29, 0, 0) ∧ dec prog_9_method_37_code 29 = some (.iaload, 30, 0, 0) ∧ dec prog_9_method_37_code 30 = some (.iadd, 31, 0, 0) ∧ dec prog_9_method_37_code 31 = some (.iastore, 32, 0, 0) ∧ dec prog_9_method_37_code 32 = some (.aload_n 0, 33, 0, 0) ∧ dec prog_9_method_37_code 33 = some (.getfield 7, 36, 0, 0) ∧ dec prog_9_method_37_code 36 = some (.bipush 8, 38, 0, 8) ∧ dec prog_9_method_37_code 38 = some (.dup2, 39, 0, 0) ∧ dec prog_9_method_37_code 39 = some (.iaload, 40, 0, 0) ∧ dec prog_9_method_37_code 40 = some (.aload_n 0, 41, 0, 0) ∧ dec prog_9_method_37_code 41 = some (.getfield 7, 44, 0, 0) ∧ dec prog_9_method_37_code 44 = some (.iconst 0, 45, 0, 0) ∧ dec prog_9_method_37_code 45 = some (.iaload, 46, 0, 0) ∧ dec prog_9_method_37_code 46 = some (.iadd, 47, 0, 0) ∧ dec prog_9_method_37_code 47 = some (.iastore, 48, 0, 0) ∧ dec prog_9_method_37_code 48 = some (.aload_n 0, 49, 0, 0) ∧ dec prog_9_method_37_code 49 = some (.getfield 7, 52, 0, 0) ∧ dec prog_9_method_37_code 52 = some (.bipush 9, 54, 0, 9) ∧ dec prog_9_method_37_code 54 = some (.dup2, 55, 0, 0) ∧ dec prog_9_method_37_code 55 = some (.iaload, 56, 0, 0) ∧ dec prog_9_method_37_code 56 = some (.iconst 1, 57, 0, 1) ∧ dec prog_9_method_37_code 57 = some (.iadd, 58, 0, 0) ∧ dec prog_9_method_37_code 58 = some (.iastore, 59, 0, 0) ∧ dec prog_9_method_37_code 59 = some (.aload_n 0, 60, 0, 0) ∧ dec prog_9_method_37_code 60 = some (.aload_n 0, 61, 0, 0) ∧ dec prog_9_method_37_code 61 = some (.getfield 7, 64, 0, 0) ∧ dec prog_9_method_37_code 64 = some (.bipush 7, 66, 0, 7) ∧ dec prog_9_method_37_code 66 = some (.iaload, 67, 0, 0) ∧ dec prog_9_method_37_code 67 = some (.invokevirtual 94, 70, 0, 0) ∧ dec prog_9_method_37_code 70 = some (.ifCond .eq 7, 73, 77, 0) ∧ dec prog_9_method_37_code 73 = some (.iconst 1, 74, 0, 1) ∧ dec prog_9_method_37_code 74 = some (.goto 4, 77, 78, 0) ∧ dec prog_9_method_37_code 77 = some (.iconst 0, 78, 0, 0) ∧ dec prog_9_method_37_code 78 = some (.istore_n 3, 79, 3, 0) ∧ dec prog_9_method_37_code 79 = some (.aload_n 0, 80, 0, 0) ∧ dec prog_9_method_37_code 80 = some (.getfield 7, 83, 0, 0) ∧ dec prog_9_method_37_code 83 = some (.bipush 10, 85, 0, 10) ∧ dec prog_9_method_37_code 85 = some (.dup2, 86, 0, 0) ∧ dec prog_9_method_37_code 86 = some (.iaload, 87, 0, 0) ∧ dec prog_9_method_37_code 87 = some (.iload_n 3, 88, 3, 0) ∧ dec prog_9_method_37_code 88 = some (.iadd, 89, 0, 0) ∧ dec prog_9_method_37_code 89 = some (.iastore, 90, 0, 0) ∧ dec prog_9_method_37_code 90 = some (.aload_n 0, 91, 0, 0) ∧ dec prog_9_method_37_code 91 = some (.iload_n 1, 92, 1, 0) ∧ dec prog_9_method_37_code 92 = some (.invokevirtual 113, 95, 0, 0) ∧ dec prog_9_method_37_code 95 = some (.istore 4, 97, 4, 0) ∧ dec prog_9_method_37_code 97 = some (.iconst 0, 98, 0, 0) ∧ dec prog_9_method_37_code 98 = some (.istore 5, 100, 5, 0) ∧ dec prog_9_method_37_code 100 = some (.iload 4, 102, 4, 0) ∧ dec prog_9_method_37_code 102 = some (.bipush (-6), 104, 0, (-6)) ∧ dec prog_9_method_37_code 104 = some (.if_icmp .ne 15, 107, 119, 0) ∧ dec prog_9_method_37_code 107 = some (.aload_n 0, 108, 0, 0) ∧ dec prog_9_method_37_code 108 = some (.iconst 0, 109, 0, 0) ∧ dec prog_9_method_37_code 109 = some (.iload_n 1, 110, 1, 0) ∧ dec prog_9_method_37_code 110 = some (.bipush (-6), 112, 0, (-6)) ∧ dec prog_9_method_37_code 112 = some (.iload_n 3, 113, 3, 0) ∧ dec prog_9_method_37_code 113 = some (.invokevirtual 109, 116, 0, 0) ∧ dec prog_9_method_37_code 116 = some (.goto 139, 119, 255, 0) ∧ dec prog_9_method_37_code 119 = some (.aload_n 0, 120, 0, 0) ∧ dec prog_9_method_37_code 120 = some (.iload 4, 122, 4, 0) ∧ dec prog_9_method_37_code 122 = some (.iconst 5, 123, 0, 5) ∧ dec prog_9_method_37_code 123 = some (.aload_n 0, 124, 0, 0) ∧ dec prog_9_method_37_code 124 = some (.iload 4, 126, 4, 0) ∧ dec prog_9_method_37_code 126 = some (.iconst 5, 127, 0, 5) ∧ dec prog_9_method_37_code 127 = some (.invokevirtual 47, 130, 0, 0) ∧ dec prog_9_method_37_code 130 = some (.iconst 1, 131, 0, 1) ∧ dec prog_9_method_37_code 131 = some (.iadd, 132, 0, 0) ∧ dec prog_9_method_37_code 132 = some (.invokevirtual 58, 135, 0, 0) ∧ dec prog_9_method_37_code 135 = some (.aload_n 0, 136, 0, 0) ∧ dec prog_9_method_37_code 136 = some (.iload 4, 138, 4, 0) ∧ dec prog_9_method_37_code 138 = some (.iload_n 1, 139, 1, 0) ∧ dec prog_9_method_37_code 139 = some (.iload_n 2, 140, 2, 0) ∧ dec prog_9_method_37_code 140 = some (.aload_n 0, 141, 0, 0) ∧ dec prog_9_method_37_code 141 = some (.getfield 7, 144, 0, 0) ∧ dec prog_9_method_37_code 144 = some (.bipush 7, 146, 0, 7) ∧ dec prog_9_method_37_code 146 = some (.iaload, 147, 0, 0) ∧ dec prog_9_method_37_code 147 = some (.invokevirtual 116, 150, 0, 0) ∧ dec prog_9_method_37_code 150 = some (.istore 6, 152, 6, 0) ∧ dec prog_9_method_37_code 152 = some (.iload 6, 154, 6, 0) ∧ dec prog_9_method_37_code 154 = some (.ifCond .eq 11, 157, 165, 0) ∧ dec prog_9_method_37_code 157 = some (.bipush 10, 159, 0, 10) ∧ dec prog_9_method_37_code 159 = some (.iload 4, 161, 4, 0) ∧ dec prog_9_method_37_code 161 = some (.iadd, 162, 0, 0) ∧ dec prog_9_method_37_code 162 = some (.goto 4, 165, 166, 0) ∧ dec prog_9_method_37_code 165 = some (.iconst 1, 166, 0, 1) ∧ dec prog_9_method_37_code 166 = some (.istore 5, 168, 5, 0) ∧ dec prog_9_method_37_code 168 = some (.aload_n 0, 169, 0, 0) ∧ dec prog_9_method_37_code 169 = some (.iload 6, 171, 6, 0) ∧ dec prog_9_method_37_code 171 = some (.ifCond .eq 7, 174, 178, 0) ∧ dec prog_9_method_37_code 174 = some (.iconst 2, 175, 0, 2) ∧ dec prog_9_method_37_code 175 = some (.goto 4, 178, 179, 0) ∧ dec prog_9_method_37_code 178 = some (.iconst 1, 179, 0, 1) ∧ dec prog_9_method_37_code 179 = some (.iload_n 1, 180, 1, 0) ∧ dec prog_9_method_37_code 180 = some (.iload 4, 182, 4, 0) ∧ dec prog_9_method_37_code 182 = some (.iload_n 3, 183, 3, 0) ∧ dec prog_9_method_37_code 183 = some (.invokevirtual 109, 186, 0, 0) ∧ dec prog_9_method_37_code 186 = some (.iload 6, 188, 6, 0) ∧ dec prog_9_method_37_code 188 = some (.ifCond .eq 49, 191, 237, 0) ∧ dec prog_9_method_37_code 191 = some (.aload_n 0, 192, 0, 0) ∧ dec prog_9_method_37_code 192 = some (.iload 4, 194, 4, 0) ∧ dec prog_9_method_37_code 194 = some (.iconst 2, 195, 0, 2) ∧ dec prog_9_method_37_code 195 = some (.invokevirtual 66, 198, 0, 0) ∧ dec prog_9_method_37_code 198 = some (.aload_n 0, 199, 0, 0) ∧ dec prog_9_method_37_code 199 = some (.getfield 7, 202, 0, 0) ∧ dec prog_9_method_37_code 202 = some (.bipush 7, 204, 0, 7) ∧ dec prog_9_method_37_code 204 = some (.iconst 0, 205, 0, 0) ∧ dec prog_9_method_37_code 205 = some (.iastore, 206, 0, 0) ∧ dec prog_9_method_37_code 206 = some (.aload_n 0, 207, 0, 0) ∧ dec prog_9_method_37_code 207 = some (.getfield 7, 210, 0, 0) ∧ dec prog_9_method_37_code 210 = some (.bipush 11, 212, 0, 11) ∧ dec prog_9_method_37_code 212 = some (.dup2, 213, 0, 0) ∧ dec prog_9_method_37_code 213 = some (.iaload, 214, 0, 0) ∧ dec prog_9_method_37_code 214 = some (.iconst 1, 215, 0, 1) ∧ dec prog_9_method_37_code 215 = some (.iadd, 216, 0, 0) ∧ dec prog_9_method_37_code 216 = some (.iastore, 217, 0, 0) ∧ dec prog_9_method_37_code 217 = some (.aload_n 0, 218, 0, 0) ∧ dec prog_9_method_37_code 218 = some (.getfield 7, 221, 0, 0) ∧ dec prog_9_method_37_code 221 = some (.bipush 13, 223, 0, 13) ∧ dec prog_9_method_37_code 223 = some (.dup2, 224, 0, 0) ∧ dec prog_9_method_37_code 224 = some (.iaload, 225, 0, 0) ∧ dec prog_9_method_37_code 225 = some (.aload_n 0, 226, 0, 0) ∧ dec prog_9_method_37_code 226 = some (.iload 4, 228, 4, 0) ∧ dec prog_9_method_37_code 228 = some (.iconst 2, 229, 0, 2) ∧ dec prog_9_method_37_code 229 = some (.invokevirtual 47, 232, 0, 0) ∧ dec prog_9_method_37_code 232 = some (.iadd, 233, 0, 0) ∧ dec prog_9_method_37_code 233 = some (.iastore, 234, 0, 0) ∧ dec prog_9_method_37_code 234 = some (.goto 21, 237, 255, 0) ∧ dec prog_9_method_37_code 237 = some (.aload_n 0, 238, 0, 0) ∧ dec prog_9_method_37_code 238 = some (.getfield 7, 241, 0, 0) ∧ dec prog_9_method_37_code 241 = some (.bipush 12, 243, 0, 12) ∧ dec prog_9_method_37_code 243 = some (.dup2, 244, 0, 0) ∧ dec prog_9_method_37_code 244 = some (.iaload, 245, 0, 0) ∧ dec prog_9_method_37_code 245 = some (.iconst 1, 246, 0, 1) ∧ dec prog_9_method_37_code 246 = some (.iadd, 247, 0, 0) ∧ dec prog_9_method_37_code 247 = some (.iastore, 248, 0, 0) ∧ dec prog_9_method_37_code 248 = some (.aload_n 0, 249, 0, 0) ∧ dec prog_9_method_37_code 249 = some (.iload 4, 251, 4, 0) ∧ dec prog_9_method_37_code 251 = some (.iload_n 1, 252, 1, 0) ∧ dec prog_9_method_37_code 252 = some (.invokevirtual 120, 255, 0, 0) ∧ dec prog_9_method_37_code 255 = some (.aload_n 0, 256, 0, 0) ∧ dec prog_9_method_37_code 256 = some (.invokevirtual 123, 259, 0, 0) ∧ dec prog_9_method_37_code 259 = some (.iload 5, 261, 5, 0) ∧ dec prog_9_method_37_code 261 = some (.ireturn, 262, 0, 0) := ⟨e_130_0, e_130_1, e_130_4, e_130_6, e_130_7, e_130_8, e_130_9, e_130_12, e_130_13, e_130_14, e_130_15, e_130_16, e_130_17, e_130_20, e_130_22, e_130_23, e_130_24, e_130_25, e_130_28, e_130_29, e_130_30, e_130_31, e_130_32, e_130_33, e_130_36, e_130_38, e_130_39, e_130_40, e_130_41, e_130_44, e_130_45, e_130_46, e_130_47, e_130_48, e_130_49, e_130_52, e_130_54, e_130_55, e_130_56, e_130_57, e_130_58, e_130_59, e_130_60, e_130_61, e_130_64, e_130_66, e_130_67, e_130_70, e_130_73, e_130_74, e_130_77, e_130_78, e_130_79, e_130_80, e_130_83, e_130_85, e_130_86, e_130_87, e_130_88, e_130_89, e_130_90, e_130_91, e_130_92, e_130_95, e_130_97, e_130_98, e_130_100, e_130_102, e_130_104, e_130_107, e_130_108, e_130_109, e_130_110, e_130_112, e_130_113, e_130_116, e_130_119, e_130_120, e_130_122, e_130_123, e_130_124, e_130_126, e_130_127, e_130_130, e_130_131, e_130_132, e_130_135, e_130_136, e_130_138, e_130_139, e_130_140, e_130_141, e_130_144, e_130_146, e_130_147, e_130_150, e_130_152, e_130_154, e_130_157, e_130_159, e_130_161, e_130_162, e_130_165, e_130_166, e_130_168, e_130_169, e_130_171, e_130_174, e_130_175, e_130_178, e_130_179, e_130_180, e_130_182, e_130_183, e_130_186, e_130_188, e_130_191, e_130_192, e_130_194, e_130_195, e_130_198, e_130_199, e_130_202, e_130_204, e_130_205, e_130_206, e_130_207, e_130_210, e_130_212, e_130_213, e_130_214, e_130_215, e_130_216, e_130_217, e_130_218, e_130_221, e_130_223, e_130_224, e_130_225, e_130_226, e_130_228, e_130_229, e_130_232, e_130_233, e_130_234, e_130_237, e_130_238, e_130_241, e_130_243, e_130_244, e_130_245, e_130_246, e_130_247, e_130_248, e_130_249, e_130_251, e_130_252, e_130_255, e_130_256, e_130_259, e_130_261⟩
theorem e_131_0 : dec prog_9_method_38_code 0 = some (.aload_n 0, 1, 0, 0) := by decide +kernel
theorem e_131_1 : dec prog_9_method_38_code 1 = some (.iload_n 1, 2, 1, 0) := by decide +kernel
theorem e_131_2 : dec prog_9_method_38_code 2 = some (.iload_n 2, 3, 2, 0) := by decide +kernel
theorem e_131_3 : dec prog_9_method_38_code 3 = some (.invokevirtual 126, 6, 0, 0) := by decide +kernel
theorem e_131_6 : dec prog_9_method_38_code 6 = some (.ifCond .eq 13, 9, 19, 0) := by decide +kernel
theorem e_131_9 : dec prog_9_method_38_code 9 = some (.aload_n 0, 10, 0, 0) := by decide +kernel
theorem e_131_10 : dec prog_9_method_38_code 10 = some (.iload_n 1, 11, 1, 0) := by decide +kernel
theorem e_131_11 : dec prog_9_method_38_code 11 = some (.aload_n 0, 12, 0, 0) := by decide +kernel
theorem e_131_12 : dec prog_9_method_38_code 12 = some (.iload_n 2, 13, 2, 0) := by decide +kernel
theorem e_131_13 : dec prog_9_method_38_code 13 = some (.invokevirtual 100, 16, 0, 0) := by decide +kernel
theorem e_131_16 : dec prog_9_method_38_code 16 = some (.invokevirtual 88, 19, 0, 0) := by decide +kernel
theorem e_131_19 : dec prog_9_method_38_code 19 = some (.return_, 20, 0, 0) := by decide +kernel
theorem E_131 : dec prog_9_method_38_code 0 = some (.aload_n 0, 1, 0, 0) ∧ dec prog_9_method_38_code 1 = some (.iload_n 1, 2, 1, 0) ∧ dec prog_9_method_38_code 2 = some (.iload_n 2, 3, 2, 0) ∧ dec prog_9_method_38_code 3 = some (.invokevirtual 126, 6, 0, 0) ∧ dec prog_9_method_38_code 6 = some (.ifCond .eq 13, 9, 19, 0) ∧ dec prog_9_method_38_code 9 = some (.aload_n 0, 10, 0, 0) ∧ dec prog_9_method_38_code 10 = some (.iload_n 1, 11, 1, 0) ∧ dec prog_9_method_38_code 11 = some (.aload_n 0, 12, 0, 0) ∧ dec prog_9_method_38_code 12 = some (.iload_n 2, 13, 2, 0) ∧ dec prog_9_method_38_code 13 = some (.invokevirtual 100, 16, 0, 0) ∧ dec prog_9_method_38_code 16 = some (.invokevirtual 88, 19, 0, 0) ∧ dec prog_9_method_38_code 19 = some (.return_, 20, 0, 0) := ⟨e_131_0, e_131_1, e_131_2, e_131_3, e_131_6, e_131_9, e_131_10, e_131_11, e_131_12, e_131_13, e_131_16, e_131_19⟩
theorem e_132_0 : dec prog_9_method_39_code 0 = some (.iload_n 1, 1, 1, 0) := by decide +kernel
theorem e_132_1 : dec prog_9_method_39_code 1 = some (.invokestatic 77, 4, 0, 0) := by decide +kernel
theorem e_132_4 : dec prog_9_method_39_code 4 = some (.ifCond .ne 7, 7, 11, 0) := by decide +kernel
theorem e_132_7 : dec prog_9_method_39_code 7 = some (.iconst (-1), 8, 0, (-1)) := by decide +kernel
theorem e_132_8 : dec prog_9_method_39_code 8 = some (.goto 39, 11, 47, 0) := by decide +kernel
theorem e_132_11 : dec prog_9_method_39_code 11 = some (.iload_n 2, 12, 2, 0) := by decide +kernel
theorem e_132_12 : dec prog_9_method_39_code 12 = some (.iconst 0, 13, 0, 0) := by decide +kernel
theorem e_132_13 : dec prog_9_method_39_code 13 = some (.iconst 4, 14, 0, 4) := by decide +kernel
theorem e_132_14 : dec prog_9_method_39_code 14 = some (.invokestatic 32, 17, 0, 0) := by decide +kernel
theorem e_132_17 : dec prog_9_method_39_code 17 = some (.ifCond .ne 8, 20, 25, 0) := by decide +kernel
theorem e_132_20 : dec prog_9_method_39_code 20 = some (.bipush (-2), 22, 0, (-2)) := by decide +kernel
theorem e_132_22 : dec prog_9_method_39_code 22 = some (.goto 25, 25, 47, 0) := by decide +kernel
theorem e_132_25 : dec prog_9_method_39_code 25 = some (.aload_n 0, 26, 0, 0) := by decide +kernel
theorem e_132_26 : dec prog_9_method_39_code 26 = some (.getfield 7, 29, 0, 0) := by decide +kernel
theorem e_132_29 : dec prog_9_method_39_code 29 = some (.bipush 6, 31, 0, 6) := by decide +kernel
theorem e_132_31 : dec prog_9_method_39_code 31 = some (.iaload, 32, 0, 0) := by decide +kernel
theorem e_132_32 : dec prog_9_method_39_code 32 = some (.aload_n 0, 33, 0, 0) := by decide +kernel
theorem e_132_33 : dec prog_9_method_39_code 33 = some (.getfield 7, 36, 0, 0) := by decide +kernel
theorem e_132_36 : dec prog_9_method_39_code 36 = some (.iconst 0, 37, 0, 0) := by decide +kernel
theorem e_132_37 : dec prog_9_method_39_code 37 = some (.iaload, 38, 0, 0) := by decide +kernel
theorem e_132_38 : dec prog_9_method_39_code 38 = some (.if_icmp .ge 8, 41, 46, 0) := by decide +kernel
theorem e_132_41 : dec prog_9_method_39_code 41 = some (.bipush (-5), 43, 0, (-5)) := by decide +kernel
theorem e_132_43 : dec prog_9_method_39_code 43 = some (.goto 4, 46, 47, 0) := by decide +kernel
theorem e_132_46 : dec prog_9_method_39_code 46 = some (.iconst 0, 47, 0, 0) := by decide +kernel
theorem e_132_47 : dec prog_9_method_39_code 47 = some (.ireturn, 48, 0, 0) := by decide +kernel
theorem E_132 : dec prog_9_method_39_code 0 = some (.iload_n 1, 1, 1, 0) ∧ dec prog_9_method_39_code 1 = some (.invokestatic 77, 4, 0, 0) ∧ dec prog_9_method_39_code 4 = some (.ifCond .ne 7, 7, 11, 0) ∧ dec prog_9_method_39_code 7 = some (.iconst (-1), 8, 0, (-1)) ∧ dec prog_9_method_39_code 8 = some (.goto 39, 11, 47, 0) ∧ dec prog_9_method_39_code 11 = some (.iload_n 2, 12, 2, 0) ∧ dec prog_9_method_39_code 12 = some (.iconst 0, 13, 0, 0) ∧ dec prog_9_method_39_code 13 = some (.iconst 4, 14, 0, 4) ∧ dec prog_9_method_39_code 14 = some (.invokestatic 32, 17, 0, 0) ∧ dec prog_9_method_39_code 17 = some (.ifCond .ne 8, 20, 25, 0) ∧ dec prog_9_method_39_code 20 = some (.bipush (-2), 22, 0, (-2)) ∧ dec prog_9_method_39_code 22 = some (.goto 25, 25, 47, 0) ∧ dec prog_9_method_39_code 25 = some (.aload_n 0, 26, 0, 0) ∧ dec prog_9_method_39_code 26 = some (.getfield 7, 29, 0, 0) ∧ dec prog_9_method_39_code 29 = some (.bipush 6, 31, 0, 6) ∧ dec prog_9_method_39_code 31 = some (.iaload, 32, 0, 0) ∧ dec prog_9_method_39_code 32 = some (.aload_n 0, 33, 0, 0) ∧ dec prog_9_method_39_code 33 = some (.getfield 7, 36, 0, 0) ∧ dec prog_9_method_39_code 36 = some (.iconst 0, 37, 0, 0) ∧ dec prog_9_method_39_code 37 = some (.iaload, 38, 0, 0) ∧ dec prog_9_method_39_code 38 = some (.if_icmp .ge 8, 41, 46, 0) ∧ dec prog_9_method_39_code 41 = some (.bipush (-5), 43, 0, (-5)) ∧ dec prog_9_method_39_code 43 = some (.goto 4, 46, 47, 0) ∧ dec prog_9_method_39_code 46 = some (.iconst 0, 47, 0, 0) ∧ dec prog_9_method_39_code 47 = some (.ireturn, 48, 0, 0) := ⟨e_132_0, e_132_1, e_132_4, e_132_7, e_132_8, e_132_11, e_132_12, e_132_13, e_132_14, e_132_17, e_132_20, e_132_22, e_132_25, e_132_26, e_132_29, e_132_31, e_132_32, e_132_33, e_132_36, e_132_37, e_132_38, e_132_41, e_132_43, e_132_46, e_132_47⟩
theorem e_133_0 : dec prog_9_method_40_code 0 = some (.aload_n 0, 1, 0, 0) := by decide +kernel
theorem e_133_1 : dec prog_9_method_40_code 1 = some (.iload_n 1, 2, 1, 0) := by decide +kernel
theorem e_133_2 : dec prog_9_method_40_code 2 = some (.iload_n 2, 3, 2, 0) := by decide +kernel
theorem e_133_3 : dec prog_9_method_40_code 3 = some (.invokevirtual 129, 6, 0, 0) := by decide +kernel
theorem e_133_6 : dec prog_9_method_40_code 6 = some (.istore_n 3, 7, 3, 0) := by decide +kernel
theorem e_133_7 : dec prog_9_method_40_code 7 = some (.iload_n 3, 8, 3, 0) := by decide +kernel
theorem e_133_8 : dec prog_9_method_40_code 8 = some (.ifCond .ge 5, 11, 13, 0) := by decide +kernel
theorem e_133_11 : dec prog_9_method_40_code 11 = some (.iload_n 3, 12, 3, 0) := by decide +kernel
theorem e_133_12 : dec prog_9_method_40_code 12 = some (.ireturn, 13, 0, 0) := by decide +kernel
theorem e_133_13 : dec prog_9_method_40_code 13 = some (.aload_n 0, 14, 0, 0) := by decide +kernel
theorem e_133_14 : dec prog_9_method_40_code 14 = some (.invokevirtual 44, 17, 0, 0) := by decide +kernel
theorem e_133_17 : dec prog_9_method_40_code 17 = some (.aload_n 0, 18, 0, 0) := by decide +kernel
theorem e_133_18 : dec prog_9_method_40_code 18 = some (.iload_n 1, 19, 1, 0) := by decide +kernel
theorem e_133_19 : dec prog_9_method_40_code 19 = some (.iload_n 2, 20, 2, 0) := by decide +kernel
theorem e_133_20 : dec prog_9_method_40_code 20 = some (.invokevirtual 132, 23, 0, 0) := by decide +kernel
theorem e_133_23 : dec prog_9_method_40_code 23 = some (.ireturn, 24, 0, 0) := by decide +kernel
theorem E_133 : dec prog_9_method_40_code 0 = some (.aload_n 0, 1, 0, 0) ∧ dec prog_9_method_40_code 1 = some (.iload_n 1, 2, 1, 0) ∧ dec prog_9_method_40_code 2 = some (.iload_n 2, 3, 2, 0) ∧ dec prog_9_method_40_code 3 = some (.invokevirtual 129, 6, 0, 0) ∧ dec prog_9_method_40_code 6 = some (.istore_n 3, 7, 3, 0) ∧ dec prog_9_method_40_code 7 = some (.iload_n 3, 8, 3, 0) ∧ dec prog_9_method_40_code 8 = some (.ifCond .ge 5, 11, 13, 0) ∧ dec prog_9_method_40_code 11 = some (.iload_n 3, 12, 3, 0) ∧ dec prog_9_method_40_code 12 = some (.ireturn, 13, 0, 0) ∧ dec prog_9_method_40_code 13 = some (.aload_n 0, 14, 0, 0) ∧ dec prog_9_method_40_code 14 = some (.invokevirtual 44, 17, 0, 0) ∧ dec prog_9_method_40_code 17 = some (.aload_n 0, 18, 0, 0) ∧ dec prog_9_method_40_code 18 = some (.iload_n 1, 19, 1, 0) ∧ dec prog_9_method_40_code 19 = some (.iload_n 2, 20, 2, 0) ∧ dec prog_9_method_40_code 20 = some (.invokevirtual 132, 23, 0, 0) ∧ dec prog_9_method_40_code 23 = some (.ireturn, 24, 0, 0) := ⟨e_133_0, e_133_1, e_133_2, e_133_3, e_133_6, e_133_7, e_133_8, e_133_11, e_133_12, e_133_13, e_133_14, e_133_17, e_133_18, e_133_19, e_133_20, e_133_23⟩
theorem e_134_0 : dec prog_9_method_41_code 0 = some (.aload_n 0, 1, 0, 0) := by decide +kernel
theorem e_134_1 : dec prog_9_method_41_code 1 = some (.iload_n 1, 2, 1, 0) := by decide +kernel
theorem e_134_2 : dec prog_9_method_41_code 2 = some (.invokevirtual 135, 5, 0, 0) := by decide +kernel
theorem e_134_5 : dec prog_9_method_41_code 5 = some (.ifCond .ne 5, 8, 10, 0) := by decide +kernel
theorem e_134_8 : dec prog_9_method_41_code 8 = some (.iconst (-1), 9, 0, (-1)) := by decide +kernel
theorem e_134_9 : dec prog_9_method_41_code 9 = some (.ireturn, 10, 0, 0) := by decide +kernel
theorem e_134_10 : dec prog_9_method_41_code 10 = some (.iload_n 2, 11, 2, 0) := by decide +kernel
theorem e_134_11 : dec prog_9_method_41_code 11 = some (.iconst 0, 12, 0, 0) := by decide +kernel
theorem e_134_12 : dec prog_9_method_41_code 12 = some (.iconst 5, 13, 0, 5) := by decide +kernel
theorem e_134_13 : dec prog_9_method_41_code 13 = some (.invokestatic 32, 16, 0, 0) := by decide +kernel
theorem e_134_16 : dec prog_9_method_41_code 16 = some (.ifCond .eq 12, 19, 28, 0) := by decide +kernel
theorem e_134_19 : dec prog_9_method_41_code 19 = some (.aload_n 0, 20, 0, 0) := by decide +kernel
theorem e_134_20 : dec prog_9_method_41_code 20 = some (.iload_n 1, 21, 1, 0) := by decide +kernel
theorem e_134_21 : dec prog_9_method_41_code 21 = some (.iload_n 2, 22, 2, 0) := by decide +kernel
theorem e_134_22 : dec prog_9_method_41_code 22 = some (.invokevirtual 47, 25, 0, 0) := by decide +kernel
theorem e_134_25 : dec prog_9_method_41_code 25 = some (.goto 5, 28, 30, 0) := by decide +kernel
theorem e_134_28 : dec prog_9_method_41_code 28 = some (.bipush (-2), 30, 0, (-2)) := by decide +kernel
theorem e_134_30 : dec prog_9_method_41_code 30 = some (.ireturn, 31, 0, 0) := by decide +kernel
theorem E_134 : dec prog_9_method_41_code 0 = some (.aload_n 0, 1, 0, 0) ∧ dec prog_9_method_41_code 1 = some (.iload_n 1, 2, 1, 0) ∧ dec prog_9_method_41_code 2 = some (.invokevirtual 135, 5, 0, 0) ∧ dec prog_9_method_41_code 5 = some (.ifCond .ne 5, 8, 10, 0) ∧ dec prog_9_method_41_code 8 = some (.iconst (-1), 9, 0, (-1)) ∧ dec prog_9_method_41_code 9 = some (.ireturn, 10, 0, 0) ∧ dec prog_9_method_41_code 10 = some (.iload_n 2, 11, 2, 0) ∧ dec prog_9_method_41_code 11 = some (.iconst 0, 12, 0, 0) ∧ dec prog_9_method_41_code 12 = some (.iconst 5, 13, 0, 5) ∧ dec prog_9_method_41_code 13 = some (.invokestatic 32, 16, 0, 0) ∧ dec prog_9_method_41_code 16 = some (.ifCond .eq 12, 19, 28, 0) ∧ dec prog_9_method_41_code 19 = some (.aload_n 0, 20, 0, 0) ∧ dec prog_9_method_41_code 20 = some (.iload_n 1, 21, 1, 0) ∧ dec prog_9_method_41_code 21 = some (.iload_n 2, 22, 2, 0) ∧ dec prog_9_method_41_code 22 = some (.invokevirtual 47, 25, 0, 0) ∧ dec prog_9_method_41_code 25 = some (.goto 5, 28, 30, 0) ∧ dec prog_9_method_41_code 28 = some (.bipush (-2), 30, 0, (-2)) ∧ dec prog_9_method_41_code 30 = some (.ireturn, 31, 0, 0) := ⟨e_134_0, e_134_1, e_134_2, e_134_5, e_134_8, e_134_9, e_134_10, e_134_11, e_134_12, e_134_13, e_134_16, e_134_19, e_134_20, e_134_21, e_134_22, e_134_25, e_134_28, e_134_30⟩
theorem e_135_0 : dec prog_9_method_42_code 0 = some (.iload_n 1, 1, 1, 0) := by decide +kernel
theorem e_135_1 : dec prog_9_method_42_code 1 = some (.invokestatic 77, 4, 0, 0) := by decide +kernel
theorem e_135_4 : dec prog_9_method_42_code 4 = some (.ifCond .ne 7, 7, 11, 0) := by decide +kernel
theorem e_135_7 : dec prog_9_method_42_code 7 = some (.iconst (-1), 8, 0, (-1)) := by decide +kernel
theorem e_135_8 : dec prog_9_method_42_code 8 = some (.goto 27, 11, 35, 0) := by decide +kernel
theorem e_135_11 : dec prog_9_method_42_code 11 = some (.iload_n 2, 12, 2, 0) := by decide +kernel
theorem e_135_12 : dec prog_9_method_42_code 12 = some (.iconst 0, 13, 0, 0) := by decide +kernel
theorem e_135_13 : dec prog_9_method_42_code 13 = some (.iconst 3, 14, 0, 3) := by decide +kernel
theorem e_135_14 : dec prog_9_method_42_code 14 = some (.invokestatic 32, 17, 0, 0) := by decide +kernel
theorem e_135_17 : dec prog_9_method_42_code 17 = some (.ifCond .eq 16, 20, 33, 0) := by decide +kernel
theorem e_135_20 : dec prog_9_method_42_code 20 = some (.aload_n 0, 21, 0, 0) := by decide +kernel
theorem e_135_21 : dec prog_9_method_42_code 21 = some (.bipush 10, 23, 0, 10) := by decide +kernel
theorem e_135_23 : dec prog_9_method_42_code 23 = some (.iload_n 1, 24, 1, 0) := by decide +kernel
theorem e_135_24 : dec prog_9_method_42_code 24 = some (.imul, 25, 0, 0) := by decide +kernel
theorem e_135_25 : dec prog_9_method_42_code 25 = some (.iload_n 2, 26, 2, 0) := by decide +kernel
theorem e_135_26 : dec prog_9_method_42_code 26 = some (.iadd, 27, 0, 0) := by decide +kernel
theorem e_135_27 : dec prog_9_method_42_code 27 = some (.invokevirtual 55, 30, 0, 0) := by decide +kernel
theorem e_135_30 : dec prog_9_method_42_code 30 = some (.goto 5, 33, 35, 0) := by decide +kernel
theorem e_135_33 : dec prog_9_method_42_code 33 = some (.bipush (-6), 35, 0, (-6)) := by decide +kernel
theorem e_135_35 : dec prog_9_method_42_code 35 = some (.ireturn, 36, 0, 0) := by decide +kernel
theorem E_135 : dec prog_9_method_42_code 0 = some (.iload_n 1, 1, 1, 0) ∧ dec prog_9_method_42_code 1 = some (.invokestatic 77, 4, 0, 0) ∧ dec prog_9_method_42_code 4 = some (.ifCond .ne 7, 7, 11, 0) ∧ dec prog_9_method_42_code 7 = some (.iconst (-1), 8, 0, (-1)) ∧ dec prog_9_method_42_code 8 = some (.goto 27, 11, 35, 0) ∧ dec prog_9_method_42_code 11 = some (.iload_n 2, 12, 2, 0) ∧ dec prog_9_method_42_code 12 = some (.iconst 0, 13, 0, 0) ∧ dec prog_9_method_42_code 13 = some (.iconst 3, 14, 0, 3) ∧ dec prog_9_method_42_code 14 = some (.invokestatic 32, 17, 0, 0) ∧ dec prog_9_method_42_code 17 = some (.ifCond .eq 16, 20, 33, 0) ∧ dec prog_9_method_42_code 20 = some (.aload_n 0, 21, 0, 0) ∧ dec prog_9_method_42_code 21 = some (.bipush 10, 23, 0, 10) ∧ dec prog_9_method_42_code 23 = some (.iload_n 1, 24, 1, 0) ∧ dec prog_9_method_42_code 24 = some (.imul, 25, 0, 0) ∧ dec prog_9_method_42_code 25 = some (.iload_n 2, 26, 2, 0) ∧ dec prog_9_method_42_code 26 = some (.iadd, 27, 0, 0) ∧ dec prog_9_method_42_code 27 = some (.invokevirtual 55, 30, 0, 0) ∧ dec prog_9_method_42_code 30 = some (.goto 5, 33, 35, 0) ∧ dec prog_9_method_42_code 33 = some (.bipush (-6), 35, 0, (-6)) ∧ dec prog_9_method_42_code 35 = some (.ireturn, 36, 0, 0) := ⟨e_135_0, e_135_1, e_135_4, e_135_7, e_135_8, e_135_11, e_135_12, e_135_13, e_135_14, e_135_17, e_135_20, e_135_21, e_135_23, e_135_24, e_135_25, e_135_26, e_135_27, e_135_30, e_135_33, e_135_35⟩
theorem e_136_0 : dec prog_9_method_43_code 0 = some (.iload_n 1, 1, 1, 0) := by decide +kernel
theorem e_136_1 : dec prog_9_method_43_code 1 = some (.iconst 0, 2, 0, 0) := by decide +kernel
theorem e_136_2 : dec prog_9_method_43_code 2 = some (.aload_n 0, 3, 0, 0) := by decide +kernel
theorem e_136_3 : dec prog_9_method_43_code 3 = some (.getfield 7, 6, 0, 0) := by decide +kernel
theorem e_136_6 : dec prog_9_method_43_code 6 = some (.sipush 160, 9, 0, 160) := by decide +kernel
theorem e_136_9 : dec prog_9_method_43_code 9 = some (.iaload, 10, 0, 0) := by decide +kernel
theorem e_136_10 : dec prog_9_method_43_code 10 = some (.iconst 1, 11, 0, 1) := by decide +kernel
theorem e_136_11 : dec prog_9_method_43_code 11 = some (.isub, 12, 0, 0) := by decide +kernel
theorem e_136_12 : dec prog_9_method_43_code 12 = some (.invokestatic 32, 15, 0, 0) := by decide +kernel
theorem e_136_15 : dec prog_9_method_43_code 15 = some (.ifCond .ne 5, 18, 20, 0) := by decide +kernel
theorem e_136_18 : dec prog_9_method_43_code 18 = some (.iconst (-1), 19, 0, (-1)) := by decide +kernel
theorem e_136_19 : dec prog_9_method_43_code 19 = some (.ireturn, 20, 0, 0) := by decide +kernel
theorem e_136_20 : dec prog_9_method_43_code 20 = some (.iload_n 2, 21, 2, 0) := by decide +kernel
theorem e_136_21 : dec prog_9_method_43_code 21 = some (.iconst 0, 22, 0, 0) := by decide +kernel
theorem e_136_22 : dec prog_9_method_43_code 22 = some (.iconst 3, 23, 0, 3) := by decide +kernel
theorem e_136_23 : dec prog_9_method_43_code 23 = some (.invokestatic 32, 26, 0, 0) := by decide +kernel
theorem e_136_26 : dec prog_9_method_43_code 26 = some (.ifCond .eq 20, 29, 46, 0) := by decide +kernel
theorem e_136_29 : dec prog_9_method_43_code 29 = some (.aload_n 0, 30, 0, 0) := by decide +kernel
theorem e_136_30 : dec prog_9_method_43_code 30 = some (.getfield 7, 33, 0, 0) := by decide +kernel
theorem e_136_33 : dec prog_9_method_43_code 33 = some (.sipush 161, 36, 0, 161) := by decide +kernel
theorem e_136_36 : dec prog_9_method_43_code 36 = some (.iconst 4, 37, 0, 4) := by decide +kernel
theorem e_136_37 : dec prog_9_method_43_code 37 = some (.iload_n 1, 38, 1, 0) := by decide +kernel
theorem e_136_38 : dec prog_9_method_43_code 38 = some (.imul, 39, 0, 0) := by decide +kernel
theorem e_136_39 : dec prog_9_method_43_code 39 = some (.iadd, 40, 0, 0) := by decide +kernel
theorem e_136_40 : dec prog_9_method_43_code 40 = some (.iload_n 2, 41, 2, 0) := by decide +kernel
theorem e_136_41 : dec prog_9_method_43_code 41 = some (.iadd, 42, 0, 0) := by decide +kernel
theorem e_136_42 : dec prog_9_method_43_code 42 = some (.iaload, 43, 0, 0) := by decide +kernel
theorem e_136_43 : dec prog_9_method_43_code 43 = some (.goto 5, 46, 48, 0) := by decide +kernel
theorem e_136_46 : dec prog_9_method_43_code 46 = some (.bipush (-2), 48, 0, (-2)) := by decide +kernel
theorem e_136_48 : dec prog_9_method_43_code 48 = some (.ireturn, 49, 0, 0) := by decide +kernel
theorem E_136 : dec prog_9_method_43_code 0 = some (.iload_n 1, 1, 1, 0) ∧ dec prog_9_method_43_code 1 = some (.iconst 0, 2, 0, 0) ∧ dec prog_9_method_43_code 2 = some (.aload_n 0, 3, 0, 0) ∧ dec prog_9_method_43_code 3 = some (.getfield 7, 6, 0, 0) ∧ dec prog_9_method_43_code 6 = some (.sipush 160, 9, 0, 160) ∧ dec prog_9_method_43_code 9 = some (.iaload, 10, 0, 0) ∧ dec prog_9_method_43_code 10 = some (.iconst 1, 11, 0, 1) ∧ dec prog_9_method_43_code 11 = some (.isub, 12, 0, 0) ∧ dec prog_9_method_43_code 12 = some (.invokestatic 32, 15, 0, 0) ∧ dec prog_9_method_43_code 15 = some (.ifCond .ne 5, 18, 20, 0) ∧ dec prog_9_method_43_code 18 = some (.iconst (-1), 19, 0, (-1)) ∧ dec prog_9_method_43_code 19 = some (.ireturn, 20, 0, 0) ∧ dec prog_9_method_43_code 20 = some (.iload_n 2, 21, 2, 0) ∧ dec prog_9_method_43_code 21 = some (.iconst 0, 22, 0, 0) ∧ dec prog_9_method_43_code 22 = some (.iconst 3, 23, 0, 3) ∧ dec prog_9_method_43_code 23 = some (.invokestatic 32, 26, 0, 0) ∧ dec prog_9_method_43_code 26 = some (.ifCond .eq 20, 29, 46, 0) ∧ dec prog_9_method_43_code 29 = some (.aload_n 0, 30, 0, 0) ∧ dec prog_9_method_43_code 30 = some (.getfield 7, 33, 0, 0) ∧ dec prog_9_method_43_code 33 = some (.sipush 161, 36, 0, 161) ∧ dec prog_9_method_43_code 36 = some (.iconst 4, 37, 0, 4) ∧ dec prog_9_method_43_code 37 = some (.iload_n 1, 38, 1, 0) ∧ dec prog_9_method_43_code 38 = some (.imul, 39, 0, 0) ∧ dec prog_9_method_43_code 39 = some (.iadd, 40, 0, 0) ∧ dec prog_9_method_43_code 40 = some (.iload_n 2, 41, 2, 0) ∧ dec prog_9_method_43_code 41 = some (.iadd, 42, 0, 0) ∧ dec prog_9_method_43_code 42 = some (.iaload, 43, 0, 0) ∧ dec prog_9_method_43_code 43 = some (.goto 5, 46, 48, 0) ∧ dec prog_9_method_43_code 46 = some (.bipush (-2), 48, 0, (-2)) ∧ dec prog_9_method_43_code 48 = some (.ireturn, 49, 0, 0) := ⟨e_136_0, e_136_1, e_136_2, e_136_3, e_136_6, e_136_9, e_136_10, e_136_11, e_136_12, e_136_15, e_136_18, e_136_19, e_136_20, e_136_21, e_136_22, e_136_23, e_136_26, e_136_29, e_136_30, e_136_33, e_136_36, e_136_37, e_136_38, e_136_39, e_136_40, e_136_41, e_136_42, e_136_43, e_136_46, e_136_48⟩
theorem e_137_0 : dec prog_9_method_44_code 0 = some (.aload_n 0, 1, 0, 0) := by decide +kernel
theorem e_137_1 : dec prog_9_method_44_code 1 = some (.iload_n 1, 2, 1, 0) := by decide +kernel
theorem e_137_2 : dec prog_9_method_44_code 2 = some (.iconst 2, 3, 0, 2) := by decide +kernel
theorem e_137_3 : dec prog_9_method_44_code 3 = some (.invokevirtual 47, 6, 0, 0) := by decide +kernel
theorem e_137_6 : dec prog_9_method_44_code 6 = some (.aload_n 0, 7, 0, 0) := by decide +kernel
theorem e_137_7 : dec prog_9_method_44_code 7 = some (.iload_n 2, 8, 2, 0) := by decide +kernel
theorem e_137_8 : dec prog_9_method_44_code 8 = some (.iconst 2, 9, 0, 2) := by decide +kernel
theorem e_137_9 : dec prog_9_method_44_code 9 = some (.invokevirtual 47, 12, 0, 0) := by decide +kernel
theorem e_137_12 : dec prog_9_method_44_code 12 = some (.isub, 13, 0, 0) := by decide +kernel
theorem e_137_13 : dec prog_9_method_44_code 13 = some (.istore_n 3, 14, 3, 0) := by decide +kernel
theorem e_137_14 : dec prog_9_method_44_code 14 = some (.iload_n 3, 15, 3, 0) := by decide +kernel
theorem e_137_15 : dec prog_9_method_44_code 15 = some (.ifCond .ne 19, 18, 34, 0) := by decide +kernel
theorem e_137_18 : dec prog_9_method_44_code 18 = some (.aload_n 0, 19, 0, 0) := by decide +kernel
theorem e_137_19 : dec prog_9_method_44_code 19 = some (.iload_n 2, 20, 2, 0) := by decide +kernel
theorem e_137_20 : dec prog_9_method_44_code 20 = some (.iconst 1, 21, 0, 1) := by decide +kernel
theorem e_137_21 : dec prog_9_method_44_code 21 = some (.invokevirtual 47, 24, 0, 0) := by decide +kernel
theorem e_137_24 : dec prog_9_method_44_code 24 = some (.aload_n 0, 25, 0, 0) := by decide +kernel
theorem e_137_25 : dec prog_9_method_44_code 25 = some (.iload_n 1, 26, 1, 0) := by decide +kernel
theorem e_137_26 : dec prog_9_method_44_code 26 = some (.iconst 1, 27, 0, 1) := by decide +kernel
theorem e_137_27 : dec prog_9_method_44_code 27 = some (.invokevirtual 47, 30, 0, 0) := by decide +kernel
theorem e_137_30 : dec prog_9_method_44_code 30 = some (.isub, 31, 0, 0) := by decide +kernel
theorem e_137_31 : dec prog_9_method_44_code 31 = some (.goto 4, 34, 35, 0) := by decide +kernel
theorem e_137_34 : dec prog_9_method_44_code 34 = some (.iload_n 3, 35, 3, 0) := by decide +kernel
theorem e_137_35 : dec prog_9_method_44_code 35 = some (.istore_n 3, 36, 3, 0) := by decide +kernel
theorem e_137_36 : dec prog_9_method_44_code 36 = some (.iload_n 3, 37, 3, 0) := by decide +kernel
theorem e_137_37 : dec prog_9_method_44_code 37 = some (.ifCond .gt 12, 40, 49, 0) := by decide +kernel
theorem e_137_40 : dec prog_9_method_44_code 40 = some (.iload_n 3, 41, 3, 0) := by decide +kernel
theorem e_137_41 : dec prog_9_method_44_code 41 = some (.ifCond .ne 12, 44, 53, 0) := by decide +kernel
theorem e_137_44 : dec prog_9_method_44_code 44 = some (.iload_n 1, 45, 1, 0) := by decide +kernel
theorem e_137_45 : dec prog_9_method_44_code 45 = some (.iload_n 2, 46, 2, 0) := by decide +kernel
theorem e_137_46 : dec prog_9_method_44_code 46 = some (.if_icmp .ge 7, 49, 53, 0) := by decide +kernel
theorem e_137_49 : dec prog_9_method_44_code 49 = some (.iconst 1, 50, 0, 1) := by decide +kernel
theorem e_137_50 : dec prog_9_method_44_code 50 = some (.goto 4, 53, 54, 0) := by decide +kernel
theorem e_137_53 : dec prog_9_method_44_code 53 = some (.iconst 0, 54, 0, 0) := by decide +kernel
theorem e_137_54 : dec prog_9_method_44_code 54 = some (.ireturn, 55, 0, 0) := by decide +kernel
theorem E_137 : dec prog_9_method_44_code 0 = some (.aload_n 0, 1, 0, 0) ∧ dec prog_9_method_44_code 1 = some (.iload_n 1, 2, 1, 0) ∧ dec prog_9_method_44_code 2 = some (.iconst 2, 3, 0, 2) ∧ dec prog_9_method_44_code 3 = some (.invokevirtual 47, 6, 0, 0) ∧ dec prog_9_method_44_code 6 = some (.aload_n 0, 7, 0, 0) ∧ dec prog_9_method_44_code 7 = some (.iload_n 2, 8, 2, 0) ∧ dec prog_9_method_44_code 8 = some (.iconst 2, 9, 0, 2) ∧ dec prog_9_method_44_code 9 = some (.invokevirtual 47, 12, 0, 0) ∧ dec prog_9_method_44_code 12 = some (.isub, 13, 0, 0) ∧ dec prog_9_method_44_code 13 = some (.istore_n 3, 14, 3, 0) ∧ dec prog_9_method_44_code 14 = some (.iload_n 3, 15, 3, 0) ∧ dec prog_9_method_44_code 15 = some (.ifCond .ne 19, 18, 34, 0) ∧ dec prog_9_method_44_code 18 = some (.aload_n 0, 19, 0, 0) ∧ dec prog_9_method_44_code 19 = some (.iload_n 2, 20, 2, 0) ∧ dec prog_9_method_44_code 20 = some (.iconst 1, 21, 0, 1) ∧ dec prog_9_method_44_code 21 = some (.invokevirtual 47, 24, 0, 0) ∧ dec prog_9_method_44_code 24 = some (.aload_n 0, 25, 0, 0) ∧ dec prog_9_method_44_code 25 = some (.iload_n 1, 26, 1, 0) ∧ dec prog_9_method_44_code 26 = some (.iconst 1, 27, 0, 1) ∧ dec prog_9_method_44_code 27 = some (.invokevirtual 47, 30, 0, 0) ∧ dec prog_9_method_44_code 30 = some (.isub, 31, 0, 0) ∧ dec prog_9_method_44_code 31 = some (.goto 4, 34, 35, 0) ∧ dec prog_9_method_44_code 34 = some (.iload_n 3, 35, 3, 0) ∧ dec prog_9_method_44_code 35 = some (.istore_n 3, 36, 3, 0) ∧ dec prog_9_method_44_code 36 = some (.iload_n 3, 37, 3, 0) ∧ dec prog_9_method_44_code 37 = some (.ifCond .gt 12, 40, 49, 0) ∧ dec prog_9_method_44_code 40 = some (.iload_n 3, 41, 3, 0) ∧ dec prog_9_method_44_code 41 = some (.ifCond .ne 12, 44, 53, 0) ∧ dec prog_9_method_44_code 44 = some (.iload_n 1, 45, 1, 0) ∧ dec prog_9_method_44_code 45 = some (.iload_n 2, 46, 2, 0) ∧ dec prog_9_method_44_code 46 = some (.if_icmp .ge 7, 49, 53, 0) ∧ dec prog_9_method_44_code 49 = some (.iconst 1, 50, 0, 1) ∧ dec prog_9_method_44_code 50 = some (.goto 4, 53, 54, 0) ∧ dec prog_9_method_44_code 53 = some (.iconst 0, 54, 0, 0) ∧ dec prog_9_method_44_code 54 = some (.ireturn, 55, 0, 0) := ⟨e_137_0, e_137_1, e_137_2, e_137_3, e_137_6, e_137_7, e_137_8, e_137_9, e_137_12, e_137_13, e_137_14, e_137_15, e_137_18, e_137_19, e_137_20, e_137_21, e_137_24, e_137_25, e_137_26, e_137_27, e_137_30, e_137_31, e_137_34, e_137_35, e_137_36, e_137_37, e_137_40, e_137_41, e_137_44, e_137_45, e_137_46, e_137_49, e_137_50, e_137_53, e_137_54⟩
theorem e_138_0 : dec prog_9_method_45_code 0 = some (.iconst 0, 1, 0, 0) := by decide +kernel
theorem e_138_1 : dec prog_9_method_45_code 1 = some (.istore_n 2, 2, 2, 0) := by decide +kernel
theorem e_138_2 : dec prog_9_method_45_code 2 = some (.iconst 0, 3, 0, 0) := by decide +kernel
theorem e_138_3 : dec prog_9_method_45_code 3 = some (.istore_n 3, 4, 3, 0) := by decide +kernel
theorem e_138_4 : dec prog_9_method_45_code 4 = some (.iload_n 3, 5, 3, 0) := by decide +kernel
theorem e_138_5 : dec prog_9_method_45_code 5 = some (.aload_n 0, 6, 0, 0) := by decide +kernel
theorem e_138_6 : dec prog_9_method_45_code 6 = some (.getfield 7, 9, 0, 0) := by decide +kernel
theorem e_138_9 : dec prog_9_method_45_code 9 = some (.bipush 15, 11, 0, 15) := by decide +kernel
theorem e_138_11 : dec prog_9_method_45_code 11 = some (.iaload, 12, 0, 0) := by decide +kernel
theorem e_138_12 : dec prog_9_method_45_code 12 = some (.if_icmp .ge 41, 15, 53, 0) := by decide +kernel
theorem e_138_15 : dec prog_9_method_45_code 15 = some (.iload_n 2, 16, 2, 0) := by decide +kernel
theorem e_138_16 : dec prog_9_method_45_code 16 = some (.aload_n 0, 17, 0, 0) := by decide +kernel
theorem e_138_17 : dec prog_9_method_45_code 17 = some (.iload_n 3, 18, 3, 0) := by decide +kernel
theorem e_138_18 : dec prog_9_method_45_code 18 = some (.iconst 3, 19, 0, 3) := by decide +kernel
theorem e_138_19 : dec prog_9_method_45_code 19 = some (.invokevirtual 47, 22, 0, 0) := by decide +kernel
theorem e_138_22 : dec prog_9_method_45_code 22 = some (.iconst 1, 23, 0, 1) := by decide +kernel
theorem e_138_23 : dec prog_9_method_45_code 23 = some (.if_icmp .ne 21, 26, 44, 0) := by decide +kernel
theorem e_138_26 : dec prog_9_method_45_code 26 = some (.iload_n 3, 27, 3, 0) := by decide +kernel
theorem e_138_27 : dec prog_9_method_45_code 27 = some (.iload_n 1, 28, 1, 0) := by decide +kernel
theorem e_138_28 : dec prog_9_method_45_code 28 = some (.if_icmp .eq 16, 31, 44, 0) := by decide +kernel
theorem e_138_31 : dec prog_9_method_45_code 31 = some (.aload_n 0, 32, 0, 0) := by decide +kernel
theorem e_138_32 : dec prog_9_method_45_code 32 = some (.iload_n 3, 33, 3, 0) := by decide +kernel
theorem e_138_33 : dec prog_9_method_45_code 33 = some (.iload_n 1, 34, 1, 0) := by decide +kernel
theorem e_138_34 : dec prog_9_method_45_code 34 = some (.invokevirtual 138, 37, 0, 0) := by decide +kernel
theorem e_138_37 : dec prog_9_method_45_code 37 = some (.ifCond .eq 7, 40, 44, 0) := by decide +kernel
theorem e_138_40 : dec prog_9_method_45_code 40 = some (.iconst 1, 41, 0, 1) := by decide +kernel
theorem e_138_41 : dec prog_9_method_45_code 41 = some (.goto 4, 44, 45, 0) := by decide +kernel
theorem e_138_44 : dec prog_9_method_45_code 44 = some (.iconst 0, 45, 0, 0) := by decide +kernel
theorem e_138_45 : dec prog_9_method_45_code 45 = some (.iadd, 46, 0, 0) := by decide +kernel
theorem e_138_46 : dec prog_9_method_45_code 46 = some (.istore_n 2, 47, 2, 0) := by decide +kernel
theorem e_138_47 : dec prog_9_method_45_code 47 = some (.iinc 3 1, 50, 3, 1) := by decide +kernel
theorem e_138_50 : dec prog_9_method_45_code 50 = some (.goto (-46), 53, 4, 0) := by decide +kernel
theorem e_138_53 : dec prog_9_method_45_code 53 = some (.iload_n 2, 54, 2, 0) := by decide +kernel
theorem e_138_54 : dec prog_9_method_45_code 54 = some (.ireturn, 55, 0, 0) := by decide +kernel
theorem E_138 : dec prog_9_method_45_code 0 = some (.iconst 0, 1, 0, 0) ∧ dec prog_9_method_45_code 1 = some (.istore_n 2, 2, 2, 0) ∧ dec prog_9_method_45_code 2 = some (.iconst 0, 3, 0, 0) ∧ dec prog_9_method_45_code 3 = some (.istore_n 3, 4, 3, 0) ∧ dec prog_9_method_45_code 4 = some (.iload_n 3, 5, 3, 0) ∧ dec prog_9_method_45_code 5 = some (.aload_n 0, 6, 0, 0) ∧ dec prog_9_method_45_code 6 = some (.getfield 7, 9, 0, 0) ∧ dec prog_9_method_45_code 9 = some (.bipush 15, 11, 0, 15) ∧ dec prog_9_method_45_code 11 = some (.iaload, 12, 0, 0) ∧ dec prog_9_method_45_code 12 = some (.if_icmp .ge 41, 15, 53, 0) ∧ dec prog_9_method_45_code 15 = some (.iload_n 2, 16, 2, 0) ∧ dec prog_9_method_45_code 16 = some (.aload_n 0, 17, 0, 0) ∧ dec prog_9_method_45_code 17 = some (.iload_n 3, 18, 3, 0) ∧ dec prog_9_method_45_code 18 = some (.iconst 3, 19, 0, 3) ∧ dec prog_9_method_45_code 19 = some (.invokevirtual 47, 22, 0, 0) ∧ dec prog_9_method_45_code 22 = some (.iconst 1, 23, 0, 1) ∧ dec prog_9_method_45_code 23 = some (.if_icmp .ne 21, 26, 44, 0) ∧ dec prog_9_method_45_code 26 = some (.iload_n 3, 27, 3, 0) ∧ dec prog_9_method_45_code 27 = some (.iload_n 1, 28, 1, 0) ∧ dec prog_9_method_45_code 28 = some (.if_icmp .eq 16, 31, 44, 0) ∧ dec prog_9_method_45_code 31 = some (.aload_n 0, 32, 0, 0) ∧ dec prog_9_method_45_code 32 = some (.iload_n 3, 33, 3, 0) ∧ dec prog_9_method_45_code 33 = some (.iload_n 1, 34, 1, 0) ∧ dec prog_9_method_45_code 34 = some (.invokevirtual 138, 37, 0, 0) ∧ dec prog_9_method_45_code 37 = some (.ifCond .eq 7, 40, 44, 0) ∧ dec prog_9_method_45_code 40 = some (.iconst 1, 41, 0, 1) ∧ dec prog_9_method_45_code 41 = some (.goto 4, 44, 45, 0) ∧ dec prog_9_method_45_code 44 = some (.iconst 0, 45, 0, 0) ∧ dec prog_9_method_45_code 45 = some (.iadd, 46, 0, 0) ∧ dec prog_9_method_45_code 46 = some (.istore_n 2, 47, 2, 0) ∧ dec prog_9_method_45_code 47 = some (.iinc 3 1, 50, 3, 1) ∧ dec prog_9_method_45_code 50 = some (.goto (-46), 53, 4, 0) ∧ dec prog_9_method_45_code 53 = some (.iload_n 2, 54, 2, 0) ∧ dec prog_9_method_45_code 54 = some (.ireturn, 55, 0, 0) := ⟨e_138_0, e_138_1, e_138_2, e_138_3, e_138_4, e_138_5, e_138_6, e_138_9, e_138_11, e_138_12, e_138_15, e_138_16, e_138_17, e_138_18, e_138_19, e_138_22, e_138_23, e_138_26, e_138_27, e_138_28, e_138_31, e_138_32, e_138_33, e_138_34, e_138_37, e_138_40, e_138_41, e_138_44, e_138_45, e_138_46, e_138_47, e_138_50, e_138_53, e_138_54⟩
theorem e_139_0 : dec prog_9_method_46_code 0 = some (.iconst (-1), 1, 0, (-1)) := by decide +kernel
theorem e_139_1 : dec prog_9_method_46_code 1 = some (.istore_n 2, 2, 2, 0) := by decide +kernel
theorem e_139_2 : dec prog_9_method_46_code 2 = some (.iconst 0, 3, 0, 0) := by decide +kernel
theorem e_139_3 : dec prog_9_method_46_code 3 = some (.istore_n 3, 4, 3, 0) := by decide +kernel
theorem e_139_4 : dec prog_9_method_46_code 4 = some (.iload_n 3, 5, 3, 0) := by decide +kernel
theorem e_139_5 : dec prog_9_method_46_code 5 = some (.aload_n 0, 6, 0, 0) := by decide +kernel
theorem e_139_6 : dec prog_9_method_46_code 6 = some (.getfield 7, 9, 0, 0) := by decide +kernel
theorem e_139_9 : dec prog_9_method_46_code 9 = some (.bipush 15, 11, 0, 15) := by decide +kernel
theorem e_139_11 : dec prog_9_method_46_code 11 = some (.iaload, 12, 0, 0) := by decide +kernel
theorem e_139_12 : dec prog_9_method_46_code 12 = some (.if_icmp .ge 34, 15, 46, 0) := by decide +kernel
theorem e_139_15 : dec prog_9_method_46_code 15 = some (.aload_n 0, 16, 0, 0) := by decide +kernel
theorem e_139_16 : dec prog_9_method_46_code 16 = some (.iload_n 3, 17, 3, 0) := by decide +kernel
theorem e_139_17 : dec prog_9_method_46_code 17 = some (.iconst 3, 18, 0, 3) := by decide +kernel
theorem e_139_18 : dec prog_9_method_46_code 18 = some (.invokevirtual 47, 21, 0, 0) := by decide +kernel
theorem e_139_21 : dec prog_9_method_46_code 21 = some (.iconst 1, 22, 0, 1) := by decide +kernel
theorem e_139_22 : dec prog_9_method_46_code 22 = some (.if_icmp .ne 16, 25, 38, 0) := by decide +kernel
theorem e_139_25 : dec prog_9_method_46_code 25 = some (.aload_n 0, 26, 0, 0) := by decide +kernel
theorem e_139_26 : dec prog_9_method_46_code 26 = some (.iload_n 3, 27, 3, 0) := by decide +kernel
theorem e_139_27 : dec prog_9_method_46_code 27 = some (.invokevirtual 141, 30, 0, 0) := by decide +kernel
theorem e_139_30 : dec prog_9_method_46_code 30 = some (.iload_n 1, 31, 1, 0) := by decide +kernel
theorem e_139_31 : dec prog_9_method_46_code 31 = some (.if_icmp .ne 7, 34, 38, 0) := by decide +kernel
theorem e_139_34 : dec prog_9_method_46_code 34 = some (.iload_n 3, 35, 3, 0) := by decide +kernel
theorem e_139_35 : dec prog_9_method_46_code 35 = some (.goto 4, 38, 39, 0) := by decide +kernel
theorem e_139_38 : dec prog_9_method_46_code 38 = some (.iload_n 2, 39, 2, 0) := by decide +kernel
theorem e_139_39 : dec prog_9_method_46_code 39 = some (.istore_n 2, 40, 2, 0) := by decide +kernel
theorem e_139_40 : dec prog_9_method_46_code 40 = some (.iinc 3 1, 43, 3, 1) := by decide +kernel
theorem e_139_43 : dec prog_9_method_46_code 43 = some (.goto (-39), 46, 4, 0) := by decide +kernel
theorem e_139_46 : dec prog_9_method_46_code 46 = some (.iload_n 2, 47, 2, 0) := by decide +kernel
theorem e_139_47 : dec prog_9_method_46_code 47 = some (.ireturn, 48, 0, 0) := by decide +kernel
theorem E_139 : dec prog_9_method_46_code 0 = some (.iconst (-1), 1, 0, (-1)) ∧ dec prog_9_method_46_code 1 = some (.istore_n 2, 2, 2, 0) ∧ dec prog_9_method_46_code 2 = some (.iconst 0, 3, 0, 0) ∧ dec prog_9_method_46_code 3 = some (.istore_n 3, 4, 3, 0) ∧ dec prog_9_method_46_code 4 = some (.iload_n 3, 5, 3, 0) ∧ dec prog_9_method_46_code 5 = some (.aload_n 0, 6, 0, 0) ∧ dec prog_9_method_46_code 6 = some (.getfield 7, 9, 0, 0) ∧ dec prog_9_method_46_code 9 = some (.bipush 15, 11, 0, 15) ∧ dec prog_9_method_46_code 11 = some (.iaload, 12, 0, 0) ∧ dec prog_9_method_46_code 12 = some (.if_icmp .ge 34, 15, 46, 0) ∧ dec prog_9_method_46_code 15 = some (.aload_n 0, 16, 0, 0) ∧ dec prog_9_method_46_code 16 = some (.iload_n 3, 17, 3, 0) ∧ dec prog_9_method_46_code 17 = some (.iconst 3, 18, 0, 3) ∧ dec prog_9_method_46_code 18 = some (.invokevirtual 47, 21, 0, 0) ∧ dec prog_9_method_46_code 21 = some (.iconst 1, 22, 0, 1) ∧ dec prog_9_method_46_code 22 = some (.if_icmp .ne 16, 25, 38, 0) ∧ dec prog_9_method_46_code 25 = some (.aload_n 0, 26, 0, 0) ∧ dec prog_9_method_46_code 26 = some (.iload_n 3, 27, 3, 0) ∧ dec prog_9_method_46_code 27 = some (.invokevirtual 141, 30, 0, 0) ∧ dec prog_9_method_46_code 30 = some (.iload_n 1, 31, 1, 0) ∧ dec prog_9_method_46_code 31 = some (.if_icmp .ne 7, 34, 38, 0) ∧ dec prog_9_method_46_code 34 = some (.iload_n 3, 35, 3, 0) ∧ dec prog_9_method_46_code 35 = some (.goto 4, 38, 39, 0) ∧ dec prog_9_method_46_code 38 = some (.iload_n 2, 39, 2, 0) ∧ dec prog_9_method_46_code 39 = some (.istore_n 2, 40, 2, 0) ∧ dec prog_9_method_46_code 40 = some (.iinc 3 1, 43, 3, 1) ∧ dec prog_9_method_46_code 43 = some (.goto (-39), 46, 4, 0) ∧ dec prog_9_method_46_code 46 = some (.iload_n 2, 47, 2, 0) ∧ dec prog_9_method_46_code 47 = some (.ireturn, 48, 0, 0) := ⟨e_139_0, e_139_1, e_139_2, e_139_3, e_139_4, e_139_5, e_139_6, e_139_9, e_139_11, e_139_12, e_139_15, e_139_16, e_139_17, e_139_18, e_139_21, e_139_22, e_139_25, e_139_26, e_139_27, e_139_30, e_139_31, e_139_34, e_139_35, e_139_38, e_139_39, e_139_40, e_139_43, e_139_46, e_139_47⟩
theorem e_140_0 : dec prog_9_method_47_code 0 = some (.iload_n 1, 1, 1, 0) := by decide +kernel
theorem e_140_1 : dec prog_9_method_47_code 1 = some (.ifCond .ge 6, 4, 7, 0) := by decide +kernel
theorem e_140_4 : dec prog_9_method_47_code 4 = some (.bipush (-2), 6, 0, (-2)) := by decide +kernel
theorem e_140_6 : dec prog_9_method_47_code 6 = some (.ireturn, 7, 0, 0) := by decide +kernel
theorem e_140_7 : dec prog_9_method_47_code 7 = some (.iconst 0, 8, 0, 0) := by decide +kernel
theorem e_140_8 : dec prog_9_method_47_code 8 = some (.istore_n 2, 9, 2, 0) := by decide +kernel
theorem e_140_9 : dec prog_9_method_47_code 9 = some (.iconst 0, 10, 0, 0) := by decide +kernel
theorem e_140_10 : dec prog_9_method_47_code 10 = some (.istore_n 3, 11, 3, 0) := by decide +kernel
theorem e_140_11 : dec prog_9_method_47_code 11 = some (.iload_n 3, 12, 3, 0) := by decide +kernel
theorem e_140_12 : dec prog_9_method_47_code 12 = some (.aload_n 0, 13, 0, 0) := by decide +kernel
theorem e_140_13 : dec prog_9_method_47_code 13 = some (.getfield 7, 16, 0, 0) := by decide +kernel
theorem e_140_16 : dec prog_9_method_47_code 16 = some (.bipush 15, 18, 0, 15) := by decide +kernel
theorem e_140_18 : dec prog_9_method_47_code 18 = some (.iaload, 19, 0, 0) := by decide +kernel
theorem e_140_19 : dec prog_9_method_47_code 19 = some (.if_icmp .ge 37, 22, 56, 0) := by decide +kernel
theorem e_140_22 : dec prog_9_method_47_code 22 = some (.iload_n 2, 23, 2, 0) := by decide +kernel
theorem e_140_23 : dec prog_9_method_47_code 23 = some (.aload_n 0, 24, 0, 0) := by decide +kernel
theorem e_140_24 : dec prog_9_method_47_code 24 = some (.iload_n 3, 25, 3, 0) := by decide +kernel
theorem e_140_25 : dec prog_9_method_47_code 25 = some (.iconst 3, 26, 0, 3) := by decide +kernel
theorem e_140_26 : dec prog_9_method_47_code 26 = some (.invokevirtual 47, 29, 0, 0) := by decide +kernel
theorem e_140_29 : dec prog_9_method_47_code 29 = some (.iconst 1, 30, 0, 1) := by decide +kernel
theorem e_140_30 : dec prog_9_method_47_code 30 = some (.if_icmp .ne 17, 33, 47, 0) := by decide +kernel
theorem e_140_33 : dec prog_9_method_47_code 33 = some (.aload_n 0, 34, 0, 0) := by decide +kernel
theorem e_140_34 : dec prog_9_method_47_code 34 = some (.iload_n 3, 35, 3, 0) := by decide +kernel
theorem e_140_35 : dec prog_9_method_47_code 35 = some (.iconst 1, 36, 0, 1) := by decide +kernel
theorem e_140_36 : dec prog_9_method_47_code 36 = some (.invokevirtual 47, 39, 0, 0) := by decide +kernel
theorem e_140_39 : dec prog_9_method_47_code 39 = some (.iload_n 1, 40, 1, 0) := by decide +kernel
theorem e_140_40 : dec prog_9_method_47_code 40 = some (.if_icmp .gt 7, 43, 47, 0) := by decide +kernel
theorem e_140_43 : dec prog_9_method_47_code 43 = some (.iconst 1, 44, 0, 1) := by decide +kernel
theorem e_140_44 : dec prog_9_method_47_code 44 = some (.goto 4, 47, 48, 0) := by decide +kernel
theorem e_140_47 : dec prog_9_method_47_code 47 = some (.iconst 0, 48, 0, 0) := by decide +kernel
theorem e_140_48 : dec prog_9_method_47_code 48 = some (.iadd, 49, 0, 0) := by decide +kernel
theorem e_140_49 : dec prog_9_method_47_code 49 = some (.istore_n 2, 50, 2, 0) := by decide +kernel
theorem e_140_50 : dec prog_9_method_47_code 50 = some (.iinc 3 1, 53, 3, 1) := by decide +kernel
theorem e_140_53 : dec prog_9_method_47_code 53 = some (.goto (-42), 56, 11, 0) := by decide +kernel
theorem e_140_56 : dec prog_9_method_47_code 56 = some (.iload_n 2, 57, 2, 0) := by decide +kernel
theorem e_140_57 : dec prog_9_method_47_code 57 = some (.ireturn, 58, 0, 0) := by decide +kernel
theorem E_140 : dec prog_9_method_47_code 0 = some (.iload_n 1, 1, 1, 0) ∧ dec prog_9_method_47_code 1 = some (.ifCond .ge 6, 4, 7, 0) ∧ dec prog_9_method_47_code 4 = some (.bipush (-2), 6, 0, (-2)) ∧ dec prog_9_method_47_code 6 = some (.ireturn, 7, 0, 0) ∧ dec prog_9_method_47_code 7 = some (.iconst 0, 8, 0, 0) ∧ dec prog_9_method_47_code 8 = some (.istore_n 2, 9, 2, 0) ∧ dec prog_9_method_47_code 9 = some (.iconst 0, 10, 0, 0) ∧ dec prog_9_method_47_code 10 = some (.istore_n 3, 11, 3, 0) ∧ dec prog_9_method_47_code 11 = some (.iload_n 3, 12, 3, 0) ∧ dec prog_9_method_47_code 12 = some (.aload_n 0, 13, 0, 0) ∧ dec prog_9_method_47_code 13 = some (.getfield 7, 16, 0, 0) ∧ dec prog_9_method_47_code 16 = some (.bipush 15, 18, 0, 15) ∧ dec prog_9_method_47_code 18 = some (.iaload, 19, 0, 0) ∧ dec prog_9_method_47_code 19 = some (.if_icmp .ge 37, 22, 56, 0) ∧ dec prog_9_method_47_code 22 = some (.iload_n 2, 23, 2, 0) ∧ dec prog_9_method_47_code 23 = some (.aload_n 0, 24, 0, 0) ∧ dec prog_9_method_47_code 24 = some (.iload_n 3, 25, 3, 0) ∧ dec prog_9_method_47_code 25 = some (.iconst 3, 26, 0, 3) ∧ dec prog_9_method_47_code 26 = some (.invokevirtual 47, 29, 0, 0) ∧ dec prog_9_method_47_code 29 = some (.iconst 1, 30, 0, 1) ∧ dec prog_9_method_47_code 30 = some (.if_icmp .ne 17, 33, 47, 0) ∧ dec prog_9_method_47_code 33 = some (.aload_n 0, 34, 0, 0) ∧ dec prog_9_method_47_code 34 = some (.iload_n 3, 35, 3, 0) ∧ dec prog_9_method_47_code 35 = some (.iconst 1, 36, 0, 1) ∧ dec prog_9_method_47_code 36 = some (.invokevirtual 47, 39, 0, 0) ∧ dec prog_9_method_47_code 39 = some (.iload_n 1, 40, 1, 0) ∧ dec prog_9_method_47_code 40 = some (.if_icmp .gt 7, 43, 47, 0) ∧ dec prog_9_method_47_code 43 = some (.iconst 1, 44, 0, 1) ∧ dec prog_9_method_47_code 44 = some (.goto 4, 47, 48, 0) ∧ dec prog_9_method_47_code 47 = some (.iconst 0, 48, 0, 0) ∧ dec prog_9_method_47_code 48 = some (.iadd, 49, 0, 0) ∧ dec prog_9_method_47_code 49 = some (.istore_n 2, 50, 2, 0) ∧ dec prog_9_method_47_code 50 = some (.iinc 3 1, 53, 3, 1) ∧ dec prog_9_method_47_code 53 = some (.goto (-42), 56, 11, 0) ∧ dec prog_9_method_47_code 56 = some (.iload_n 2, 57, 2, 0) ∧ dec prog_9_method_47_code 57 = some (.ireturn, 58, 0, 0) := ⟨e_140_0, e_140_1, e_140_4, e_140_6, e_140_7, e_140_8, e_140_9, e_140_10, e_140_11, e_140_12, e_140_13, e_140_16, e_140_18, e_140_19, e_140_22, e_140_23, e_140_24, e_140_25, e_140_26, e_140_29, e_140_30, e_140_33, e_140_34, e_140_35, e_140_36, e_140_39, e_140_40, e_140_43, e_140_44, e_140_47, e_140_48, e_140_49, e_140_50, e_140_53, e_140_56, e_140_57⟩
theorem e_141_0 : dec prog_9_method_48_code 0 = some (.iconst 0, 1, 0, 0) := by decide +kernel
theorem e_141_1 : dec prog_9_method_48_code 1 = some (.istore_n 1, 2, 1, 0) := by decide +kernel
theorem e_141_2 : dec prog_9_method_48_code 2 = some (.iconst 0, 3, 0, 0) := by decide +kernel
theorem e_141_3 : dec prog_9_method_48_code 3 = some (.istore_n 2, 4, 2, 0) := by decide +kernel
theorem e_141_4 : dec prog_9_method_48_code 4 = some (.iload_n 2, 5, 2, 0) := by decide +kernel
theorem e_141_5 : dec prog_9_method_48_code 5 = some (.bipush 8, 7, 0, 8) := by decide +kernel
theorem e_141_7 : dec prog_9_method_48_code 7 = some (.if_icmp .ge 27, 10, 34, 0) := by decide +kernel
theorem e_141_10 : dec prog_9_method_48_code 10 = some (.iload_n 1, 11, 1, 0) := by decide +kernel
theorem e_141_11 : dec prog_9_method_48_code 11 = some (.aload_n 0, 12, 0, 0) := by decide +kernel
theorem e_141_12 : dec prog_9_method_48_code 12 = some (.iload_n 2, 13, 2, 0) := by decide +kernel
theorem e_141_13 : dec prog_9_method_48_code 13 = some (.invokevirtual 51, 16, 0, 0) := by decide +kernel
theorem e_141_16 : dec prog_9_method_48_code 16 = some (.ifCond .ne 9, 19, 25, 0) := by decide +kernel
theorem e_141_19 : dec prog_9_method_48_code 19 = some (.iconst 1, 20, 0, 1) := by decide +kernel
theorem e_141_20 : dec prog_9_method_48_code 20 = some (.iload_n 2, 21, 2, 0) := by decide +kernel
theorem e_141_21 : dec prog_9_method_48_code 21 = some (.ishl, 22, 0, 0) := by decide +kernel
theorem e_141_22 : dec prog_9_method_48_code 22 = some (.goto 4, 25, 26, 0) := by decide +kernel
theorem e_141_25 : dec prog_9_method_48_code 25 = some (.iconst 0, 26, 0, 0) := by decide +kernel
theorem e_141_26 : dec prog_9_method_48_code 26 = some (.ior, 27, 0, 0) := by decide +kernel
theorem e_141_27 : dec prog_9_method_48_code 27 = some (.istore_n 1, 28, 1, 0) := by decide +kernel
theorem e_141_28 : dec prog_9_method_48_code 28 = some (.iinc 2 1, 31, 2, 1) := by decide +kernel
theorem e_141_31 : dec prog_9_method_48_code 31 = some (.goto (-27), 34, 4, 0) := by decide +kernel
theorem e_141_34 : dec prog_9_method_48_code 34 = some (.iload_n 1, 35, 1, 0) := by decide +kernel
theorem e_141_35 : dec prog_9_method_48_code 35 = some (.ireturn, 36, 0, 0) := by decide +kernel
theorem E_141 : dec prog_9_method_48_code 0 = some (.iconst 0, 1, 0, 0) ∧ dec prog_9_method_48_code 1 = some (.istore_n 1, 2, 1, 0) ∧ dec prog_9_method_48_code 2 = some (.iconst 0, 3, 0, 0) ∧ dec prog_9_method_48_code 3 = some (.istore_n 2, 4, 2, 0) ∧ dec prog_9_method_48_code 4 = some (.iload_n 2, 5, 2, 0) ∧ dec prog_9_method_48_code 5 = some (.bipush 8, 7, 0, 8) ∧ dec prog_9_method_48_code 7 = some (.if_icmp .ge 27, 10, 34, 0) ∧ dec prog_9_method_48_code 10 = some (.iload_n 1, 11, 1, 0) ∧ dec prog_9_method_48_code 11 = some (.aload_n 0, 12, 0, 0) ∧ dec prog_9_method_48_code 12 = some (.iload_n 2, 13, 2, 0) ∧ dec prog_9_method_48_code 13 = some (.invokevirtual 51, 16, 0, 0) ∧ dec prog_9_method_48_code 16 = some (.ifCond .ne 9, 19, 25, 0) ∧ dec prog_9_method_48_code 19 = some (.iconst 1, 20, 0, 1) ∧ dec prog_9_method_48_code 20 = some (.iload_n 2, 21, 2, 0) ∧ dec prog_9_method_48_code 21 = some (.ishl, 22, 0, 0) ∧ dec prog_9_method_48_code 22 = some (.goto 4, 25, 26, 0) ∧ dec prog_9_method_48_code 25 = some (.iconst 0, 26, 0, 0) ∧ dec prog_9_method_48_code 26 = some (.ior, 27, 0, 0) ∧ dec prog_9_method_48_code 27 = some (.istore_n 1, 28, 1, 0) ∧ dec prog_9_method_48_code 28 = some (.iinc 2 1, 31, 2, 1) ∧ dec prog_9_method_48_code 31 = some (.goto (-27), 34, 4, 0) ∧ dec prog_9_method_48_code 34 = some (.iload_n 1, 35, 1, 0) ∧ dec prog_9_method_48_code 35 = some (.ireturn, 36, 0, 0) := ⟨e_141_0, e_141_1, e_141_2, e_141_3, e_141_4, e_141_5, e_141_7, e_141_10, e_141_11, e_141_12, e_141_13, e_141_16, e_141_19, e_141_20, e_141_21, e_141_22, e_141_25, e_141_26, e_141_27, e_141_28, e_141_31, e_141_34, e_141_35⟩
theorem e_142_0 : dec prog_9_method_49_code 0 = some (.iload_n 1, 1, 1, 0) := by decide +kernel
theorem e_142_1 : dec prog_9_method_49_code 1 = some (.tableswitch 147 0 19 #[95, 95, 95, 95, 95, 95, 95, 95, 105, 105, 114, 119, 127, 127, 127, 127, 127, 127, 137, 142], 96, 0, 0) := by decide +kernel
theorem e_142_96 : dec prog_9_method_49_code 96 = some (.aload_n 0, 97, 0, 0) := by decide +kernel
theorem e_142_97 : dec prog_9_method_49_code 97 = some (.getfield 7, 100, 0, 0) := by decide +kernel
theorem e_142_100 : dec prog_9_method_49_code 100 = some (.bipush 6, 102, 0, 6) := by decide +kernel
theorem e_142_102 : dec prog_9_method_49_code 102 = some (.iload_n 1, 103, 1, 0) := by decide +kernel
theorem e_142_103 : dec prog_9_method_49_code 103 = some (.iadd, 104, 0, 0) := by decide +kernel
theorem e_142_104 : dec prog_9_method_49_code 104 = some (.iaload, 105, 0, 0) := by decide +kernel
theorem e_142_105 : dec prog_9_method_49_code 105 = some (.ireturn, 106, 0, 0) := by decide +kernel
theorem e_142_106 : dec prog_9_method_49_code 106 = some (.aload_n 0, 107, 0, 0) := by decide +kernel
theorem e_142_107 : dec prog_9_method_49_code 107 = some (.iload_n 1, 108, 1, 0) := by decide +kernel
theorem e_142_108 : dec prog_9_method_49_code 108 = some (.bipush 8, 110, 0, 8) := by decide +kernel
theorem e_142_110 : dec prog_9_method_49_code 110 = some (.isub, 111, 0, 0) := by decide +kernel
theorem e_142_111 : dec prog_9_method_49_code 111 = some (.invokevirtual 144, 114, 0, 0) := by decide +kernel
theorem e_142_114 : dec prog_9_method_49_code 114 = some (.ireturn, 115, 0, 0) := by decide +kernel
theorem e_142_115 : dec prog_9_method_49_code 115 = some (.aload_n 0, 116, 0, 0) := by decide +kernel
theorem e_142_116 : dec prog_9_method_49_code 116 = some (.invokevirtual 147, 119, 0, 0) := by decide +kernel
theorem e_142_119 : dec prog_9_method_49_code 119 = some (.ireturn, 120, 0, 0) := by decide +kernel
theorem e_142_120 : dec prog_9_method_49_code 120 = some (.aload_n 0, 121, 0, 0) := by decide +kernel
theorem e_142_121 : dec prog_9_method_49_code 121 = some (.getfield 7, 124, 0, 0) := by decide +kernel
theorem e_142_124 : dec prog_9_method_49_code 124 = some (.bipush 14, 126, 0, 14) := by decide +kernel
theorem e_142_126 : dec prog_9_method_49_code 126 = some (.iaload, 127, 0, 0) := by decide +kernel
theorem e_142_127 : dec prog_9_method_49_code 127 = some (.ireturn, 128, 0, 0) := by decide +kernel
theorem e_142_128 : dec prog_9_method_49_code 128 = some (.aload_n 0, 129, 0, 0) := by decide +kernel
theorem e_142_129 : dec prog_9_method_49_code 129 = some (.getfield 7, 132, 0, 0) := by decide +kernel
theorem e_142_132 : dec prog_9_method_49_code 132 = some (.iload_n 1, 133, 1, 0) := by decide +kernel
theorem e_142_133 : dec prog_9_method_49_code 133 = some (.bipush 12, 135, 0, 12) := by decide +kernel
theorem e_142_135 : dec prog_9_method_49_code 135 = some (.isub, 136, 0, 0) := by decide +kernel
theorem e_142_136 : dec prog_9_method_49_code 136 = some (.iaload, 137, 0, 0) := by decide +kernel
theorem e_142_137 : dec prog_9_method_49_code 137 = some (.ireturn, 138, 0, 0) := by decide +kernel
theorem e_142_138 : dec prog_9_method_49_code 138 = some (.aload_n 0, 139, 0, 0) := by decide +kernel
theorem e_142_139 : dec prog_9_method_49_code 139 = some (.getfield 150, 142, 0, 0) := by decide +kernel
theorem e_142_142 : dec prog_9_method_49_code 142 = some (.ireturn, 143, 0, 0) := by decide +kernel
theorem e_142_143 : dec prog_9_method_49_code 143 = some (.aload_n 0, 144, 0, 0) := by decide +kernel
theorem e_142_144 : dec prog_9_method_49_code 144 = some (.getfield 36, 147, 0, 0) := by decide +kernel
theorem e_142_147 : dec prog_9_method_49_code 147 = some (.ireturn, 148, 0, 0) := by decide +kernel
theorem e_142_148 : dec prog_9_method_49_code 148 = some (.bipush (-2), 150, 0, (-2)) := by decide +kernel
theorem e_142_150 : dec prog_9_method_49_code 150 = some (.ireturn, 151, 0, 0) := by decide +kernel
theorem E_142 : dec prog_9_method_49_code 0 = some (.iload_n 1, 1, 1, 0) ∧ dec prog_9_method_49_code 1 = some (.tableswitch 147 0 19 #[95, 95, 95, 95, 95, 95, 95, 95, 105, 105, 114, 119, 127, 127, 127, 127, 127, 127, 137, 142], 96, 0, 0) ∧ dec prog_9_method_49_code 96 = some (.aload_n 0, 97, 0, 0) ∧ dec prog_9_method_49_code 97 = some (.getfield 7, 100, 0, 0) ∧ dec prog_9_method_49_code 100 = some (.bipush 6, 102, 0, 6) ∧ dec prog_9_method_49_code 102 = some (.iload_n 1, 103, 1, 0) ∧ dec prog_9_method_49_code 103 = some (.iadd, 104, 0, 0) ∧ dec prog_9_method_49_code 104 = some (.iaload, 105, 0, 0) ∧ dec prog_9_method_49_code 105 = some (.ireturn, 106, 0, 0) ∧ dec prog_9_method_49_code 106 = some (.aload_n 0, 107, 0, 0) ∧ dec prog_9_method_49_code 107 = some (.iload_n 1, 108, 1, 0) ∧ dec prog_9_method_49_code 108 = some (.bipush 8, 110, 0, 8) ∧ dec prog_9_method_49_code 110 = some (.isub, 111, 0, 0) ∧ dec prog_9_method_49_code 111 = some (.invokevirtual 144, 114, 0, 0) ∧ dec prog_9_method_49_code 114 = some (.ireturn, 115, 0, 0) ∧ dec prog_9_method_49_code 115 = some (.aload_n 0, 116, 0, 0) ∧ dec prog_9_method_49_code 116 = some (.invokevirtual 147, 119, 0, 0) ∧ dec prog_9_method_49_code 119 = some (.ireturn, 120, 0, 0) ∧ dec prog_9_method_49_code 120 = some (.aload_n 0, 121, 0, 0) ∧ dec prog_9_method_49_code 121 = some (.getfield 7, 124, 0, 0) ∧ dec prog_9_method_49_code 124 = some (.bipush 14, 126, 0, 14) ∧ dec prog_9_method_49_code 126 = some (.iaload, 127, 0, 0) ∧ dec prog_9_method_49_code 127 = some (.ireturn, 128, 0, 0) ∧ dec prog_9_method_49_code 128 = some (.aload_n 0, 129, 0, 0) ∧ dec prog_9_method_49_code 129 = some (.getfield 7, 132, 0, 0) ∧ dec prog_9_method_49_code 132 = some (.iload_n 1, 133, 1, 0) ∧ dec prog_9_method_49_code 133 = some (.bipush 12, 135, 0, 12) ∧ dec prog_9_method_49_code 135 = some (.isub, 136, 0, 0) ∧ dec prog_9_method_49_code 136 = some (.iaload, 137, 0, 0) ∧ dec prog_9_method_49_code 137 = some (.ireturn, 138, 0, 0) ∧ dec prog_9_method_49_code 138 = some (.aload_n 0, 139, 0, 0) ∧ dec prog_9_method_49_code 139 = some (.getfield 150, 142, 0, 0) ∧ dec prog_9_method_49_code 142 = some (.ireturn, 143, 0, 0) ∧ dec prog_9_method_49_code 143 = some (.aload_n 0, 144, 0, 0) ∧ dec prog_9_method_49_code 144 = some (.getfield 36, 147, 0, 0) ∧ dec prog_9_method_49_code 147 = some (.ireturn, 148, 0, 0) ∧ dec prog_9_method_49_code 148 = some (.bipush (-2), 150, 0, (-2)) ∧ dec prog_9_method_49_code 150 = some (.ireturn, 151, 0, 0) := ⟨e_142_0, e_142_1, e_142_96, e_142_97, e_142_100, e_142_102, e_142_103, e_142_104, e_142_105, e_142_106, e_142_107, e_142_108, e_142_110, e_142_111, e_142_114, e_142_115, e_142_116, e_142_119, e_142_120, e_142_121, e_142_124, e_142_126, e_142_127, e_142_128, e_142_129, e_142_132, e_142_133, e_142_135, e_142_136, e_142_137, e_142_138, e_142_139, e_142_142, e_142_143, e_142_144, e_142_147, e_142_148, e_142_150⟩
theorem e_143_0 : dec prog_9_method_50_code 0 = some (.iload_n 1, 1, 1, 0) := by decide +kernel
theorem e_143_1 : dec prog_9_method_50_code 1 = some (.invokestatic 77, 4, 0, 0) := by decide +kernel
theorem e_143_4 : dec prog_9_method_50_code 4 = some (.ifCond .ne 5, 7, 9, 0) := by decide +kernel
theorem e_143_7 : dec prog_9_method_50_code 7 = some (.iconst (-1), 8, 0, (-1)) := by decide +kernel
theorem e_143_8 : dec prog_9_method_50_code 8 = some (.ireturn, 9, 0, 0) := by decide +kernel
theorem e_143_9 : dec prog_9_method_50_code 9 = some (.iload_n 2, 10, 2, 0) := by decide +kernel
theorem e_143_10 : dec prog_9_method_50_code 10 = some (.iconst 0, 11, 0, 0) := by decide +kernel
theorem e_143_11 : dec prog_9_method_50_code 11 = some (.iconst 4, 12, 0, 4) := by decide +kernel
theorem e_143_12 : dec prog_9_method_50_code 12 = some (.invokestatic 32, 15, 0, 0) := by decide +kernel
theorem e_143_15 : dec prog_9_method_50_code 15 = some (.ifCond .ne 6, 18, 21, 0) := by decide +kernel
theorem e_143_18 : dec prog_9_method_50_code 18 = some (.bipush (-2), 20, 0, (-2)) := by decide +kernel
theorem e_143_20 : dec prog_9_method_50_code 20 = some (.ireturn, 21, 0, 0) := by decide +kernel
theorem e_143_21 : dec prog_9_method_50_code 21 = some (.aload_n 0, 22, 0, 0) := by decide +kernel
theorem e_143_22 : dec prog_9_method_50_code 22 = some (.iload_n 1, 23, 1, 0) := by decide +kernel
theorem e_143_23 : dec prog_9_method_50_code 23 = some (.invokevirtual 113, 26, 0, 0) := by decide +kernel
theorem e_143_26 : dec prog_9_method_50_code 26 = some (.istore_n 3, 27, 3, 0) := by decide +kernel
theorem e_143_27 : dec prog_9_method_50_code 27 = some (.iload_n 3, 28, 3, 0) := by decide +kernel
theorem e_143_28 : dec prog_9_method_50_code 28 = some (.bipush (-6), 30, 0, (-6)) := by decide +kernel
theorem e_143_30 : dec prog_9_method_50_code 30 = some (.if_icmp .ne 7, 33, 37, 0) := by decide +kernel
theorem e_143_33 : dec prog_9_method_50_code 33 = some (.iconst 0, 34, 0, 0) := by decide +kernel
theorem e_143_34 : dec prog_9_method_50_code 34 = some (.goto 48, 37, 82, 0) := by decide +kernel
theorem e_143_37 : dec prog_9_method_50_code 37 = some (.aload_n 0, 38, 0, 0) := by decide +kernel
theorem e_143_38 : dec prog_9_method_50_code 38 = some (.iload_n 3, 39, 3, 0) := by decide +kernel
theorem e_143_39 : dec prog_9_method_50_code 39 = some (.iload_n 1, 40, 1, 0) := by decide +kernel
theorem e_143_40 : dec prog_9_method_50_code 40 = some (.iload_n 2, 41, 2, 0) := by decide +kernel
theorem e_143_41 : dec prog_9_method_50_code 41 = some (.aload_n 0, 42, 0, 0) := by decide +kernel
theorem e_143_42 : dec prog_9_method_50_code 42 = some (.getfield 7, 45, 0, 0) := by decide +kernel
theorem e_143_45 : dec prog_9_method_50_code 45 = some (.bipush 7, 47, 0, 7) := by decide +kernel
theorem e_143_47 : dec prog_9_method_50_code 47 = some (.iaload, 48, 0, 0) := by decide +kernel
theorem e_143_48 : dec prog_9_method_50_code 48 = some (.aload_n 0, 49, 0, 0) := by decide +kernel
theorem e_143_49 : dec prog_9_method_50_code 49 = some (.getfield 7, 52, 0, 0) := by decide +kernel
theorem e_143_52 : dec prog_9_method_50_code 52 = some (.iconst 0, 53, 0, 0) := by decide +kernel
theorem e_143_53 : dec prog_9_method_50_code 53 = some (.iaload, 54, 0, 0) := by decide +kernel
theorem e_143_54 : dec prog_9_method_50_code 54 = some (.iadd, 55, 0, 0) := by decide +kernel
theorem e_143_55 : dec prog_9_method_50_code 55 = some (.invokevirtual 116, 58, 0, 0) := by decide +kernel
theorem e_143_58 : dec prog_9_method_50_code 58 = some (.ifCond .eq 10, 61, 68, 0) := by decide +kernel
theorem e_143_61 : dec prog_9_method_50_code 61 = some (.bipush 10, 63, 0, 10) := by decide +kernel
theorem e_143_63 : dec prog_9_method_50_code 63 = some (.iload_n 3, 64, 3, 0) := by decide +kernel
theorem e_143_64 : dec prog_9_method_50_code 64 = some (.iadd, 65, 0, 0) := by decide +kernel
theorem e_143_65 : dec prog_9_method_50_code 65 = some (.goto 17, 68, 82, 0) := by decide +kernel
theorem e_143_68 : dec prog_9_method_50_code 68 = some (.aload_n 0, 69, 0, 0) := by decide +kernel
theorem e_143_69 : dec prog_9_method_50_code 69 = some (.iload_n 3, 70, 3, 0) := by decide +kernel
theorem e_143_70 : dec prog_9_method_50_code 70 = some (.iload_n 1, 71, 1, 0) := by decide +kernel
theorem e_143_71 : dec prog_9_method_50_code 71 = some (.invokevirtual 126, 74, 0, 0) := by decide +kernel
theorem e_143_74 : dec prog_9_method_50_code 74 = some (.ifCond .eq 7, 77, 81, 0) := by decide +kernel
theorem e_143_77 : dec prog_9_method_50_code 77 = some (.iconst 2, 78, 0, 2) := by decide +kernel
theorem e_143_78 : dec prog_9_method_50_code 78 = some (.goto 4, 81, 82, 0) := by decide +kernel
theorem e_143_81 : dec prog_9_method_50_code 81 = some (.iconst 1, 82, 0, 1) := by decide +kernel
theorem e_143_82 : dec prog_9_method_50_code 82 = some (.ireturn, 83, 0, 0) := by decide +kernel
theorem E_143 : dec prog_9_method_50_code 0 = some (.iload_n 1, 1, 1, 0) ∧ dec prog_9_method_50_code 1 = some (.invokestatic 77, 4, 0, 0) ∧ dec prog_9_method_50_code 4 = some (.ifCond .ne 5, 7, 9, 0) ∧ dec prog_9_method_50_code 7 = some (.iconst (-1), 8, 0, (-1)) ∧ dec prog_9_method_50_code 8 = some (.ireturn, 9, 0, 0) ∧ dec prog_9_method_50_code 9 = some (.iload_n 2, 10, 2, 0) ∧ dec prog_9_method_50_code 10 = some (.iconst 0, 11, 0, 0) ∧ dec prog_9_method_50_code 11 = some (.iconst 4, 12, 0, 4) ∧ dec prog_9_method_50_code 12 = some (.invokestatic 32, 15, 0, 0) ∧ dec prog_9_method_50_code 15 = some (.ifCond .ne 6, 18, 21, 0) ∧ dec prog_9_method_50_code 18 = some (.bipush (-2), 20, 0, (-2)) ∧ dec prog_9_method_50_code 20 = some (.ireturn, 21, 0, 0) ∧ dec prog_9_method_50_code 21 = some (.aload_n 0, 22, 0, 0) ∧ dec prog_9_method_50_code 22 = some (.iload_n 1, 23, 1, 0) ∧ dec prog_9_method_50_code 23 = some (.invokevirtual 113, 26, 0, 0) ∧ dec prog_9_method_50_code 26 = some (.istore_n 3, 27, 3, 0) ∧ dec prog_9_method_50_code 27 = some (.iload_n 3, 28, 3, 0) ∧ dec prog_9_method_50_code 28 = some (.bipush (-6), 30, 0, (-6)) ∧ dec prog_9_method_50_code 30 = some (.if_icmp .ne 7, 33, 37, 0) ∧ dec prog_9_method_50_code 33 = some (.iconst 0, 34, 0, 0) ∧ dec prog_9_method_50_code 34 = some (.goto 48, 37, 82, 0) ∧ dec prog_9_method_50_code 37 = some (.aload_n 0, 38, 0, 0) ∧ dec prog_9_method_50_code 38 = some (.iload_n 3, 39, 3, 0) ∧ dec prog_9_method_50_code 39 = some (.iload_n 1, 40, 1, 0) ∧ dec prog_9_method_50_code 40 = some (.iload_n 2, 41, 2, 0) ∧ dec prog_9_method_50_code 41 = some (.aload_n 0, 42, 0, 0) ∧ dec prog_9_method_50_code 42 = some (.getfield 7, 45, 0, 0) ∧ dec prog_9_method_50_code 45 = some (.bipush 7, 47, 0, 7) ∧ dec prog_9_method_50_code 47 = some (.iaload, 48, 0, 0) ∧ dec prog_9_method_50_code 48 = some (.aload_n 0, 49, 0, 0) ∧ dec prog_9_method_50_code 49 = some (.getfield 7, 52, 0, 0) ∧ dec prog_9_method_50_code 52 = some (.iconst 0, 53, 0, 0) ∧ dec prog_9_method_50_code 53 = some (.iaload, 54, 0, 0) ∧ dec prog_9_method_50_code 54 = some (.iadd, 55, 0, 0) ∧ dec prog_9_method_50_code 55 = some (.invokevirtual 116, 58, 0, 0) ∧ dec prog_9_method_50_code 58 = some (.ifCond .eq 10, 61, 68, 0) ∧ dec prog_9_method_50_code 61 = some (.bipush 10, 63, 0, 10) ∧ dec prog_9_method_50_code 63 = some (.iload_n 3, 64, 3, 0) ∧ dec prog_9_method_50_code 64 = some (.iadd, 65, 0, 0) ∧ dec prog_9_method_50_code 65 = some (.goto 17, 68, 82, 0) ∧ dec prog_9_method_50_code 68 = some (.aload_n 0, 69, 0, 0) ∧ dec prog_9_method_50_code 69 = some (.iload_n 3, 70, 3, 0) ∧ dec prog_9_method_50_code 70 = some (.iload_n 1, 71, 1, 0) ∧ dec prog_9_method_50_code 71 = some (.invokevirtual 126, 74, 0, 0) ∧ dec prog_9_method_50_code 74 = some (.ifCond .eq 7, 77, 81, 0) ∧ dec prog_9_method_50_code 77 = some (.iconst 2, 78, 0, 2) ∧ dec prog_9_method_50_code 78 = some (.goto 4, 81, 82, 0) ∧ dec prog_9_method_50_code 81 = some (.iconst 1, 82, 0, 1) ∧ dec prog_9_method_50_code 82 = some (.ireturn, 83, 0, 0) := ⟨e_143_0, e_143_1, e_143_4, e_143_7, e_143_8, e_143_9, e_143_10, e_143_11, e_143_12, e_143_15, e_143_18, e_143_20, e_143_21, e_143_22, e_143_23, e_143_26, e_143_27, e_143_28, e_143_30, e_143_33, e_143_34, e_143_37, e_143_38, e_143_39, e_143_40, e_143_41, e_143_42, e_143_45, e_143_47, e_143_48, e_143_49, e_143_52, e_143_53, e_143_54, e_143_55, e_143_58, e_143_61, e_143_63, e_143_64, e_143_65, e_143_68, e_143_69, e_143_70, e_143_71, e_143_74, e_143_77, e_143_78, e_143_81, e_143_82⟩
theorem e_144_0 : dec prog_9_method_51_code 0 = some (.iload_n 1, 1, 1, 0) := by decide +kernel
theorem e_144_1 : dec prog_9_method_51_code 1 = some (.invokestatic 77, 4, 0, 0) := by decide +kernel
theorem e_144_4 : dec prog_9_method_51_code 4 = some (.ifCond .ne 5, 7, 9, 0) := by decide +kernel
theorem e_144_7 : dec prog_9_method_51_code 7 = some (.iconst (-1), 8, 0, (-1)) := by decide +kernel
theorem e_144_8 : dec prog_9_method_51_code 8 = some (.ireturn, 9, 0, 0) := by decide +kernel
theorem e_144_9 : dec prog_9_method_51_code 9 = some (.iload_n 2, 10, 2, 0) := by decide +kernel
theorem e_144_10 : dec prog_9_method_51_code 10 = some (.iconst 0, 11, 0, 0) := by decide +kernel
theorem e_144_11 : dec prog_9_method_51_code 11 = some (.iconst 4, 12, 0, 4) := by decide +kernel
theorem e_144_12 : dec prog_9_method_51_code 12 = some (.invokestatic 32, 15, 0, 0) := by decide +kernel
theorem e_144_15 : dec prog_9_method_51_code 15 = some (.ifCond .ne 6, 18, 21, 0) := by decide +kernel
theorem e_144_18 : dec prog_9_method_51_code 18 = some (.bipush (-2), 20, 0, (-2)) := by decide +kernel
theorem e_144_20 : dec prog_9_method_51_code 20 = some (.ireturn, 21, 0, 0) := by decide +kernel
theorem e_144_21 : dec prog_9_method_51_code 21 = some (.aload_n 0, 22, 0, 0) := by decide +kernel
theorem e_144_22 : dec prog_9_method_51_code 22 = some (.iload_n 1, 23, 1, 0) := by decide +kernel
theorem e_144_23 : dec prog_9_method_51_code 23 = some (.invokevirtual 113, 26, 0, 0) := by decide +kernel
theorem e_144_26 : dec prog_9_method_51_code 26 = some (.istore_n 3, 27, 3, 0) := by decide +kernel
theorem e_144_27 : dec prog_9_method_51_code 27 = some (.iload_n 3, 28, 3, 0) := by decide +kernel
theorem e_144_28 : dec prog_9_method_51_code 28 = some (.bipush (-6), 30, 0, (-6)) := by decide +kernel
theorem e_144_30 : dec prog_9_method_51_code 30 = some (.if_icmp .ne 8, 33, 38, 0) := by decide +kernel
theorem e_144_33 : dec prog_9_method_51_code 33 = some (.bipush (-6), 35, 0, (-6)) := by decide +kernel
theorem e_144_35 : dec prog_9_method_51_code 35 = some (.goto 10, 38, 45, 0) := by decide +kernel
theorem e_144_38 : dec prog_9_method_51_code 38 = some (.aload_n 0, 39, 0, 0) := by decide +kernel
theorem e_144_39 : dec prog_9_method_51_code 39 = some (.iload_n 3, 40, 3, 0) := by decide +kernel
theorem e_144_40 : dec prog_9_method_51_code 40 = some (.iload_n 1, 41, 1, 0) := by decide +kernel
theorem e_144_41 : dec prog_9_method_51_code 41 = some (.iload_n 2, 42, 2, 0) := by decide +kernel
theorem e_144_42 : dec prog_9_method_51_code 42 = some (.invokevirtual 97, 45, 0, 0) := by decide +kernel
theorem e_144_45 : dec prog_9_method_51_code 45 = some (.ireturn, 46, 0, 0) := by decide +kernel
theorem E_144 : dec prog_9_method_51_code 0 = some (.iload_n 1, 1, 1, 0) ∧ dec prog_9_method_51_code 1 = some (.invokestatic 77, 4, 0, 0) ∧ dec prog_9_method_51_code 4 = some (.ifCond .ne 5, 7, 9, 0) ∧ dec prog_9_method_51_code 7 = some (.iconst (-1), 8, 0, (-1)) ∧ dec prog_9_method_51_code 8 = some (.ireturn, 9, 0, 0) ∧ dec prog_9_method_51_code 9 = some (.iload_n 2, 10, 2, 0) ∧ dec prog_9_method_51_code 10 = some (.iconst 0, 11, 0, 0) ∧ dec prog_9_method_51_code 11 = some (.iconst 4, 12, 0, 4) ∧ dec prog_9_method_51_code 12 = some (.invokestatic 32, 15, 0, 0) ∧ dec prog_9_method_51_code 15 = some (.ifCond .ne 6, 18, 21, 0) ∧ dec prog_9_method_51_code 18 = some (.bipush (-2), 20, 0, (-2)) ∧ dec prog_9_method_51_code 20 = some (.ireturn, 21, 0, 0) ∧ dec prog_9_method_51_code 21 = some (.aload_n 0, 22, 0, 0) ∧ dec prog_9_method_51_code 22 = some (.iload_n 1, 23, 1, 0) ∧ dec prog_9_method_51_code 23 = some (.invokevirtual 113, 26, 0, 0) ∧ dec prog_9_method_51_code 26 = some (.istore_n 3, 27, 3, 0) ∧ dec prog_9_method_51_code 27 = some (.iload_n 3, 28, 3, 0) ∧ dec prog_9_method_51_code 28 = some (.bipush (-6), 30, 0, (-6)) ∧ dec prog_9_method_51_code 30 = some (.if_icmp .ne 8, 33, 38, 0) ∧ dec prog_9_method_51_code 33 = some (.bipush (-6), 35, 0, (-6)) ∧ dec prog_9_method_51_code 35 = some (.goto 10, 38, 45, 0) ∧ dec prog_9_method_51_code 38 = some (.aload_n 0, 39, 0, 0) ∧ dec prog_9_method_51_code 39 = some (.iload_n 3, 40, 3, 0) ∧ dec prog_9_method_51_code 40 = some (.iload_n 1, 41, 1, 0) ∧ dec prog_9_method_51_code 41 = some (.iload_n 2, 42, 2, 0) ∧ dec prog_9_method_51_code 42 = some (.invokevirtual 97, 45, 0, 0) ∧ dec prog_9_method_51_code 45 = some (.ireturn, 46, 0, 0) := ⟨e_144_0, e_144_1, e_144_4, e_144_7, e_144_8, e_144_9, e_144_10, e_144_11, e_144_12, e_144_15, e_144_18, e_144_20, e_144_21, e_144_22, e_144_23, e_144_26, e_144_27, e_144_28, e_144_30, e_144_33, e_144_35, e_144_38, e_144_39, e_144_40, e_144_41, e_144_42, e_144_45⟩
theorem e_145_0 : dec prog_9_method_52_code 0 = some (.iconst 0, 1, 0, 0) := by decide +kernel
theorem e_145_1 : dec prog_9_method_52_code 1 = some (.istore_n 1, 2, 1, 0) := by decide +kernel
theorem e_145_2 : dec prog_9_method_52_code 2 = some (.aload_n 0, 3, 0, 0) := by decide +kernel
theorem e_145_3 : dec prog_9_method_52_code 3 = some (.aload_n 0, 4, 0, 0) := by decide +kernel
theorem e_145_4 : dec prog_9_method_52_code 4 = some (.getfield 7, 7, 0, 0) := by decide +kernel
theorem e_145_7 : dec prog_9_method_52_code 7 = some (.bipush 7, 9, 0, 7) := by decide +kernel
theorem e_145_9 : dec prog_9_method_52_code 9 = some (.iaload, 10, 0, 0) := by decide +kernel
theorem e_145_10 : dec prog_9_method_52_code 10 = some (.iload_n 1, 11, 1, 0) := by decide +kernel
theorem e_145_11 : dec prog_9_method_52_code 11 = some (.iconst 1, 12, 0, 1) := by decide +kernel
theorem e_145_12 : dec prog_9_method_52_code 12 = some (.iadd, 13, 0, 0) := by decide +kernel
theorem e_145_13 : dec prog_9_method_52_code 13 = some (.aload_n 0, 14, 0, 0) := by decide +kernel
theorem e_145_14 : dec prog_9_method_52_code 14 = some (.getfield 7, 17, 0, 0) := by decide +kernel
theorem e_145_17 : dec prog_9_method_52_code 17 = some (.iconst 0, 18, 0, 0) := by decide +kernel
theorem e_145_18 : dec prog_9_method_52_code 18 = some (.iaload, 19, 0, 0) := by decide +kernel
theorem e_145_19 : dec prog_9_method_52_code 19 = some (.imul, 20, 0, 0) := by decide +kernel
theorem e_145_20 : dec prog_9_method_52_code 20 = some (.iadd, 21, 0, 0) := by decide +kernel
theorem e_145_21 : dec prog_9_method_52_code 21 = some (.invokevirtual 94, 24, 0, 0) := by decide +kernel
theorem e_145_24 : dec prog_9_method_52_code 24 = some (.ifCond .ne 9, 27, 33, 0) := by decide +kernel
theorem e_145_27 : dec prog_9_method_52_code 27 = some (.iinc 1 1, 30, 1, 1) := by decide +kernel
theorem e_145_30 : dec prog_9_method_52_code 30 = some (.goto (-28), 33, 2, 0) := by decide +kernel
theorem e_145_33 : dec prog_9_method_52_code 33 = some (.iload_n 1, 34, 1, 0) := by decide +kernel
theorem e_145_34 : dec prog_9_method_52_code 34 = some (.ireturn, 35, 0, 0) := by decide +kernel
theorem E_145 : dec prog_9_method_52_code 0 = some (.iconst 0, 1, 0, 0) ∧ dec prog_9_method_52_code 1 = some (.istore_n 1, 2, 1, 0) ∧ dec prog_9_method_52_code 2 = some (.aload_n 0, 3, 0, 0) ∧ dec prog_9_method_52_code 3 = some (.aload_n 0, 4, 0, 0) ∧ dec prog_9_method_52_code 4 = some (.getfield 7, 7, 0, 0) ∧ dec prog_9_method_52_code 7 = some (.bipush 7, 9, 0, 7) ∧ dec prog_9_method_52_code 9 = some (.iaload, 10, 0, 0) ∧ dec prog_9_method_52_code 10 = some (.iload_n 1, 11, 1, 0) ∧ dec prog_9_method_52_code 11 = some (.iconst 1, 12, 0, 1) ∧ dec prog_9_method_52_code 12 = some (.iadd, 13, 0, 0) ∧ dec prog_9_method_52_code 13 = some (.aload_n 0, 14, 0, 0) ∧ dec prog_9_method_52_code 14 = some (.getfield 7, 17, 0, 0) ∧ dec prog_9_method_52_code 17 = some (.iconst 0, 18, 0, 0) ∧ dec prog_9_method_52_code 18 = some (.iaload, 19, 0, 0) ∧ dec prog_9_method_52_code 19 = some (.imul, 20, 0, 0) ∧ dec prog_9_method_52_code 20 = some (.iadd, 21, 0, 0) ∧ dec prog_9_method_52_code 21 = some (.invokevirtual 94, 24, 0, 0) ∧ dec prog_9_method_52_code 24 = some (.ifCond .ne 9, 27, 33, 0) ∧ dec prog_9_method_52_code 27 = some (.iinc 1 1, 30, 1, 1) ∧ dec prog_9_method_52_code 30 = some (.goto (-28), 33, 2, 0) ∧ dec prog_9_method_52_code 33 = some (.iload_n 1, 34, 1, 0) ∧ dec prog_9_method_52_code 34 = some (.ireturn, 35, 0, 0) := ⟨e_145_0, e_145_1, e_145_2, e_145_3, e_145_4, e_145_7, e_145_9, e_145_10, e_145_11, e_145_12, e_145_13, e_145_14, e_145_17, e_145_18, e_145_19, e_145_20, e_145_21, e_145_24, e_145_27, e_145_30, e_145_33, e_145_34⟩
theorem e_146_0 : dec prog_9_method_53_code 0 = some (.bipush (-6), 2, 0, (-6)) := by decide +kernel
theorem e_146_2 : dec prog_9_method_53_code 2 = some (.istore_n 1, 3, 1, 0) := by decide +kernel
theorem e_146_3 : dec prog_9_method_53_code 3 = some (.iconst 0, 4, 0, 0) := by decide +kernel
theorem e_146_4 : dec prog_9_method_53_code 4 = some (.istore_n 2, 5, 2, 0) := by decide +kernel
theorem e_146_5 : dec prog_9_method_53_code 5 = some (.iconst 0, 6, 0, 0) := by decide +kernel
theorem e_146_6 : dec prog_9_method_53_code 6 = some (.istore_n 3, 7, 3, 0) := by decide +kernel
theorem e_146_7 : dec prog_9_method_53_code 7 = some (.iload_n 3, 8, 3, 0) := by decide +kernel
theorem e_146_8 : dec prog_9_method_53_code 8 = some (.bipush 8, 10, 0, 8) := by decide +kernel
theorem e_146_10 : dec prog_9_method_53_code 10 = some (.if_icmp .ge 65, 13, 75, 0) := by decide +kernel
theorem e_146_13 : dec prog_9_method_53_code 13 = some (.aload_n 0, 14, 0, 0) := by decide +kernel
theorem e_146_14 : dec prog_9_method_53_code 14 = some (.iload_n 3, 15, 3, 0) := by decide +kernel
theorem e_146_15 : dec prog_9_method_53_code 15 = some (.iconst 0, 16, 0, 0) := by decide +kernel
theorem e_146_16 : dec prog_9_method_53_code 16 = some (.invokevirtual 153, 19, 0, 0) := by decide +kernel
theorem e_146_19 : dec prog_9_method_53_code 19 = some (.istore 4, 21, 4, 0) := by decide +kernel
theorem e_146_21 : dec prog_9_method_53_code 21 = some (.iload 4, 23, 4, 0) := by decide +kernel
theorem e_146_23 : dec prog_9_method_53_code 23 = some (.bipush 10, 25, 0, 10) := by decide +kernel
theorem e_146_25 : dec prog_9_method_53_code 25 = some (.if_icmp .lt 16, 28, 41, 0) := by decide +kernel
theorem e_146_28 : dec prog_9_method_53_code 28 = some (.aload_n 0, 29, 0, 0) := by decide +kernel
theorem e_146_29 : dec prog_9_method_53_code 29 = some (.iload 4, 31, 4, 0) := by decide +kernel
theorem e_146_31 : dec prog_9_method_53_code 31 = some (.bipush 10, 33, 0, 10) := by decide +kernel
theorem e_146_33 : dec prog_9_method_53_code 33 = some (.isub, 34, 0, 0) := by decide +kernel
theorem e_146_34 : dec prog_9_method_53_code 34 = some (.iconst 2, 35, 0, 2) := by decide +kernel
theorem e_146_35 : dec prog_9_method_53_code 35 = some (.invokevirtual 47, 38, 0, 0) := by decide +kernel
theorem e_146_38 : dec prog_9_method_53_code 38 = some (.goto 4, 41, 42, 0) := by decide +kernel
theorem e_146_41 : dec prog_9_method_53_code 41 = some (.iconst 0, 42, 0, 0) := by decide +kernel
theorem e_146_42 : dec prog_9_method_53_code 42 = some (.istore 5, 44, 5, 0) := by decide +kernel
theorem e_146_44 : dec prog_9_method_53_code 44 = some (.iload 5, 46, 5, 0) := by decide +kernel
theorem e_146_46 : dec prog_9_method_53_code 46 = some (.iload_n 2, 47, 2, 0) := by decide +kernel
theorem e_146_47 : dec prog_9_method_53_code 47 = some (.if_icmp .le 7, 50, 54, 0) := by decide +kernel
theorem e_146_50 : dec prog_9_method_53_code 50 = some (.iload_n 3, 51, 3, 0) := by decide +kernel
theorem e_146_51 : dec prog_9_method_53_code 51 = some (.goto 4, 54, 55, 0) := by decide +kernel
theorem e_146_54 : dec prog_9_method_53_code 54 = some (.iload_n 1, 55, 1, 0) := by decide +kernel
theorem e_146_55 : dec prog_9_method_53_code 55 = some (.istore_n 1, 56, 1, 0) := by decide +kernel
theorem e_146_56 : dec prog_9_method_53_code 56 = some (.iload 5, 58, 5, 0) := by decide +kernel
theorem e_146_58 : dec prog_9_method_53_code 58 = some (.iload_n 2, 59, 2, 0) := by decide +kernel
theorem e_146_59 : dec prog_9_method_53_code 59 = some (.if_icmp .le 8, 62, 67, 0) := by decide +kernel
theorem e_146_62 : dec prog_9_method_53_code 62 = some (.iload 5, 64, 5, 0) := by decide +kernel
theorem e_146_64 : dec prog_9_method_53_code 64 = some (.goto 4, 67, 68, 0) := by decide +kernel
theorem e_146_67 : dec prog_9_method_53_code 67 = some (.iload_n 2, 68, 2, 0) := by decide +kernel
theorem e_146_68 : dec prog_9_method_53_code 68 = some (.istore_n 2, 69, 2, 0) := by decide +kernel
theorem e_146_69 : dec prog_9_method_53_code 69 = some (.iinc 3 1, 72, 3, 1) := by decide +kernel
theorem e_146_72 : dec prog_9_method_53_code 72 = some (.goto (-65), 75, 7, 0) := by decide +kernel
theorem e_146_75 : dec prog_9_method_53_code 75 = some (.iload_n 1, 76, 1, 0) := by decide +kernel
theorem e_146_76 : dec prog_9_method_53_code 76 = some (.ireturn, 77, 0, 0) := by decide +kernel
theorem E_146 : dec prog_9_method_53_code 0 = some (.bipush (-6), 2, 0, (-6)) ∧ dec prog_9_method_53_code 2 = some (.istore_n 1, 3, 1, 0) ∧ dec prog_9_method_53_code 3 = some (.iconst 0, 4, 0, 0) ∧ dec prog_9_method_53_code 4 = some (.istore_n 2, 5, 2, 0) ∧ dec prog_9_method_53_code 5 = some (.iconst 0, 6, 0, 0) ∧ dec prog_9_method_53_code 6 = some (.istore_n 3, 7, 3, 0) ∧ dec prog_9_method_53_code 7 = some (.iload_n 3, 8, 3, 0) ∧ dec prog_9_method_53_code 8 = some (.bipush 8, 10, 0, 8) ∧ dec prog_9_method_53_code 10 = some (.if_icmp .ge 65, 13, 75, 0) ∧ dec prog_9_method_53_code 13 = some (.aload_n 0, 14, 0, 0) ∧ dec prog_9_method_53_code 14 = some (.iload_n 3, 15, 3, 0) ∧ dec prog_9_method_53_code 15 = some (.iconst 0, 16, 0, 0) ∧ dec prog_9_method_53_code 16 = some (.invokevirtual 153, 19, 0, 0) ∧ dec prog_9_method_53_code 19 = some (.istore 4, 21, 4, 0) ∧ dec prog_9_method_53_code 21 = some (.iload 4, 23, 4, 0) ∧ dec prog_9_method_53_code 23 = some (.bipush 10, 25, 0, 10) ∧ dec prog_9_method_53_code 25 = some (.if_icmp .lt 16, 28, 41, 0) ∧ dec prog_9_method_53_code 28 = some (.aload_n 0, 29, 0, 0) ∧ dec prog_9_method_53_code 29 = some (.iload 4, 31, 4, 0) ∧ dec prog_9_method_53_code 31 = some (.bipush 10, 33, 0, 10) ∧ dec prog_9_method_53_code 33 = some (.isub, 34, 0, 0) ∧ dec prog_9_method_53_code 34 = some (.iconst 2, 35, 0, 2) ∧ dec prog_9_method_53_code 35 = some (.invokevirtual 47, 38, 0, 0) ∧ dec prog_9_method_53_code 38 = some (.goto 4, 41, 42, 0) ∧ dec prog_9_method_53_code 41 = some (.iconst 0, 42, 0, 0) ∧ dec prog_9_method_53_code 42 = some (.istore 5, 44, 5, 0) ∧ dec prog_9_method_53_code 44 = some (.iload 5, 46, 5, 0) ∧ dec prog_9_method_53_code 46 = some (.iload_n 2, 47, 2, 0) ∧ dec prog_9_method_53_code 47 = some (.if_icmp .le 7, 50, 54, 0) ∧ dec prog_9_method_53_code 50 = some (.iload_n 3, 51, 3, 0) ∧ dec prog_9_method_53_code 51 = some (.goto 4, 54, 55, 0) ∧ dec prog_9_method_53_code 54 = some (.iload_n 1, 55, 1, 0) ∧ dec prog_9_method_53_code 55 = some (.istore_n 1, 56, 1, 0) ∧ dec prog_9_method_53_code 56 = some (.iload 5, 58, 5, 0) ∧ dec prog_9_method_53_code 58 = some (.iload_n 2, 59, 2, 0) ∧ dec prog_9_method_53_code 59 = some (.if_icmp .le 8, 62, 67, 0) ∧ dec prog_9_method_53_code 62 = some (.iload 5, 64, 5, 0) ∧ dec prog_9_method_53_code 64 = some (.goto 4, 67, 68, 0) ∧ dec prog_9_method_53_code 67 = some (.iload_n 2, 68, 2, 0) ∧ dec prog_9_method_53_code 68 = some (.istore_n 2, 69, 2, 0) ∧ dec prog_9_method_53_code 69 = some (.iinc 3 1, 72, 3, 1) ∧ dec prog_9_method_53_code 72 = some (.goto (-65), 75, 7, 0) ∧ dec prog_9_method_53_code 75 = some (.iload_n 1, 76, 1, 0) ∧ dec prog_9_method_53_code 76 = some (.ireturn, 77, 0, 0) := ⟨e_146_0, e_146_2, e_146_3, e_146_4, e_146_5, e_146_6, e_146_7, e_146_8, e_146_10, e_146_13, e_146_14, e_146_15, e_146_16, e_146_19, e_146_21, e_146_23, e_146_25, e_146_28, e_146_29, e_146_31, e_146_33, e_146_34, e_146_35, e_146_38, e_146_41, e_146_42, e_146_44, e_146_46, e_146_47, e_146_50, e_146_51, e_146_54, e_146_55, e_146_56, e_146_58, e_146_59, e_146_62, e_146_64, e_146_67, e_146_68, e_146_69, e_146_72, e_146_75, e_146_76⟩
theorem e_147_0 : dec prog_9_method_54_code 0 = some (.iconst 0, 1, 0, 0) := by decide +kernel
theorem e_147_1 : dec prog_9_method_54_code 1 = some (.istore_n 3, 2, 3, 0) := by decide +kernel
theorem e_147_2 : dec prog_9_method_54_code 2 = some (.iload_n 3, 3, 3, 0) := by decide +kernel
theorem e_147_3 : dec prog_9_method_54_code 3 = some (.sipush 300, 6, 0, 300) := by decide +kernel
theorem e_147_6 : dec prog_9_method_54_code 6 = some (.if_icmp .ge 39, 9, 45, 0) := by decide +kernel
theorem e_147_9 : dec prog_9_method_54_code 9 = some (.aload_n 0, 10, 0, 0) := by decide +kernel
theorem e_147_10 : dec prog_9_method_54_code 10 = some (.iload_n 1, 11, 1, 0) := by decide +kernel
theorem e_147_11 : dec prog_9_method_54_code 11 = some (.iconst 3, 12, 0, 3) := by decide +kernel
theorem e_147_12 : dec prog_9_method_54_code 12 = some (.invokevirtual 47, 15, 0, 0) := by decide +kernel
theorem e_147_15 : dec prog_9_method_54_code 15 = some (.iconst 1, 16, 0, 1) := by decide +kernel
theorem e_147_16 : dec prog_9_method_54_code 16 = some (.if_icmp .ne 29, 19, 45, 0) := by decide +kernel
theorem e_147_19 : dec prog_9_method_54_code 19 = some (.aload_n 0, 20, 0, 0) := by decide +kernel
theorem e_147_20 : dec prog_9_method_54_code 20 = some (.iload_n 1, 21, 1, 0) := by decide +kernel
theorem e_147_21 : dec prog_9_method_54_code 21 = some (.iconst 4, 22, 0, 4) := by decide +kernel
theorem e_147_22 : dec prog_9_method_54_code 22 = some (.invokevirtual 47, 25, 0, 0) := by decide +kernel
theorem e_147_25 : dec prog_9_method_54_code 25 = some (.bipush 10, 27, 0, 10) := by decide +kernel
theorem e_147_27 : dec prog_9_method_54_code 27 = some (.idiv, 28, 0, 0) := by decide +kernel
theorem e_147_28 : dec prog_9_method_54_code 28 = some (.iload_n 2, 29, 2, 0) := by decide +kernel
theorem e_147_29 : dec prog_9_method_54_code 29 = some (.if_icmp .ne 16, 32, 45, 0) := by decide +kernel
theorem e_147_32 : dec prog_9_method_54_code 32 = some (.aload_n 0, 33, 0, 0) := by decide +kernel
theorem e_147_33 : dec prog_9_method_54_code 33 = some (.iload_n 2, 34, 2, 0) := by decide +kernel
theorem e_147_34 : dec prog_9_method_54_code 34 = some (.iconst 0, 35, 0, 0) := by decide +kernel
theorem e_147_35 : dec prog_9_method_54_code 35 = some (.invokevirtual 132, 38, 0, 0) := by decide +kernel
theorem e_147_38 : dec prog_9_method_54_code 38 = some (.pop, 39, 0, 0) := by decide +kernel
theorem e_147_39 : dec prog_9_method_54_code 39 = some (.iinc 3 1, 42, 3, 1) := by decide +kernel
theorem e_147_42 : dec prog_9_method_54_code 42 = some (.goto (-40), 45, 2, 0) := by decide +kernel
theorem e_147_45 : dec prog_9_method_54_code 45 = some (.aload_n 0, 46, 0, 0) := by decide +kernel
theorem e_147_46 : dec prog_9_method_54_code 46 = some (.iload_n 1, 47, 1, 0) := by decide +kernel
theorem e_147_47 : dec prog_9_method_54_code 47 = some (.iconst 3, 48, 0, 3) := by decide +kernel
theorem e_147_48 : dec prog_9_method_54_code 48 = some (.invokevirtual 47, 51, 0, 0) := by decide +kernel
theorem e_147_51 : dec prog_9_method_54_code 51 = some (.iconst 2, 52, 0, 2) := by decide +kernel
theorem e_147_52 : dec prog_9_method_54_code 52 = some (.if_icmp .ne 7, 55, 59, 0) := by decide +kernel
theorem e_147_55 : dec prog_9_method_54_code 55 = some (.iload_n 3, 56, 3, 0) := by decide +kernel
theorem e_147_56 : dec prog_9_method_54_code 56 = some (.goto 5, 59, 61, 0) := by decide +kernel
theorem e_147_59 : dec prog_9_method_54_code 59 = some (.bipush (-6), 61, 0, (-6)) := by decide +kernel
theorem e_147_61 : dec prog_9_method_54_code 61 = some (.ireturn, 62, 0, 0) := by decide +kernel
theorem E_147 : dec prog_9_method_54_code 0 = some (.iconst 0, 1, 0, 0) ∧ dec prog_9_method_54_code 1 = some (.istore_n 3, 2, 3, 0) ∧ dec prog_9_method_54_code 2 = some (.iload_n 3, 3, 3, 0) ∧ dec prog_9_method_54_code 3 = some (.sipush 300, 6, 0, 300) ∧ dec prog_9_method_54_code 6 = some (.if_icmp .ge 39, 9, 45, 0) ∧ dec prog_9_method_54_code 9 = some (.aload_n 0, 10, 0, 0) ∧ dec prog_9_method_54_code 10 = some (.iload_n 1, 11, 1, 0) ∧ dec prog_9_method_54_code 11 = some (.iconst 3, 12, 0, 3) ∧ dec prog_9_method_54_code 12 = some (.invokevirtual 47, 15, 0, 0) ∧ dec prog_9_method_54_code 15 = some (.iconst 1, 16, 0, 1) ∧ dec prog_9_method_54_code 16 = some (.if_icmp .ne 29, 19, 45, 0) ∧ dec prog_9_method_54_code 19 = some (.aload_n 0, 20, 0, 0) ∧ dec prog_9_method_54_code 20 = some (.iload_n 1, 21, 1, 0) ∧ dec prog_9_method_54_code 21 = some (.iconst 4, 22, 0, 4) ∧ dec prog_9_method_54_code 22 = some (.invokevirtual 47, 25, 0, 0) ∧ dec prog_9_method_54_code 25 = some (.bipush 10, 27, 0, 10) ∧ dec prog_9_method_54_code 27 = some (.idiv, 28, 0, 0) ∧ dec prog_9_method_54_code 28 = some (.iload_n 2, 29, 2, 0) ∧ dec prog_9_method_54_code 29 = some (.if_icmp .ne 16, 32, 45, 0) ∧ dec prog_9_method_54_code 32 = some (.aload_n 0, 33, 0, 0) ∧ dec prog_9_method_54_code 33 = some (.iload_n 2, 34, 2, 0) ∧ dec prog_9_method_54_code 34 = some (.iconst 0, 35, 0, 0) ∧ dec prog_9_method_54_code 35 = some (.invokevirtual 132, 38, 0, 0) ∧ dec prog_9_method_54_code 38 = some (.pop, 39, 0, 0) ∧ dec prog_9_method_54_code 39 = some (.iinc 3 1, 42, 3, 1) ∧ dec prog_9_method_54_code 42 = some (.goto (-40), 45, 2, 0) ∧ dec prog_9_method_54_code 45 = some (.aload_n 0, 46, 0, 0) ∧ dec prog_9_method_54_code 46 = some (.iload_n 1, 47, 1, 0) ∧ dec prog_9_method_54_code 47 = some (.iconst 3, 48, 0, 3) ∧ dec prog_9_method_54_code 48 = some (.invokevirtual 47, 51, 0, 0) ∧ dec prog_9_method_54_code 51 = some (.iconst 2, 52, 0, 2) ∧ dec prog_9_method_54_code 52 = some (.if_icmp .ne 7, 55, 59, 0) ∧ dec prog_9_method_54_code 55 = some (.iload_n 3, 56, 3, 0) ∧ dec prog_9_method_54_code 56 = some (.goto 5, 59, 61, 0) ∧ dec prog_9_method_54_code 59 = some (.bipush (-6), 61, 0, (-6)) ∧ dec prog_9_method_54_code 61 = some (.ireturn, 62, 0, 0) := ⟨e_147_0, e_147_1, e_147_2, e_147_3, e_147_6, e_147_9, e_147_10, e_147_11, e_147_12, e_147_15, e_147_16, e_147_19, e_147_20, e_147_21, e_147_22, e_147_25, e_147_27, e_147_28, e_147_29, e_147_32, e_147_33, e_147_34, e_147_35, e_147_38, e_147_39, e_147_42, e_147_45, e_147_46, e_147_47, e_147_48, e_147_51, e_147_52, e_147_55, e_147_56, e_147_59, e_147_61⟩
theorem e_148_0 : dec prog_9_method_55_code 0 = some (.iload_n 1, 1, 1, 0) := by decide +kernel
theorem e_148_1 : dec prog_9_method_55_code 1 = some (.invokestatic 77, 4, 0, 0) := by decide +kernel
theorem e_148_4 : dec prog_9_method_55_code 4 = some (.ifCond .ne 5, 7, 9, 0) := by decide +kernel
theorem e_148_7 : dec prog_9_method_55_code 7 = some (.iconst (-1), 8, 0, (-1)) := by decide +kernel
theorem e_148_8 : dec prog_9_method_55_code 8 = some (.ireturn, 9, 0, 0) := by decide +kernel
theorem e_148_9 : dec prog_9_method_55_code 9 = some (.aload_n 0, 10, 0, 0) := by decide +kernel
theorem e_148_10 : dec prog_9_method_55_code 10 = some (.iload_n 1, 11, 1, 0) := by decide +kernel
theorem e_148_11 : dec prog_9_method_55_code 11 = some (.invokevirtual 113, 14, 0, 0) := by decide +kernel
theorem e_148_14 : dec prog_9_method_55_code 14 = some (.istore_n 2, 15, 2, 0) := by decide +kernel
theorem e_148_15 : dec prog_9_method_55_code 15 = some (.iload_n 2, 16, 2, 0) := by decide +kernel
theorem e_148_16 : dec prog_9_method_55_code 16 = some (.bipush (-6), 18, 0, (-6)) := by decide +kernel
theorem e_148_18 : dec prog_9_method_55_code 18 = some (.if_icmp .ne 6, 21, 24, 0) := by decide +kernel
theorem e_148_21 : dec prog_9_method_55_code 21 = some (.bipush (-5), 23, 0, (-5)) := by decide +kernel
theorem e_148_23 : dec prog_9_method_55_code 23 = some (.ireturn, 24, 0, 0) := by decide +kernel
theorem e_148_24 : dec prog_9_method_55_code 24 = some (.aload_n 0, 25, 0, 0) := by decide +kernel
theorem e_148_25 : dec prog_9_method_55_code 25 = some (.getfield 7, 28, 0, 0) := by decide +kernel
theorem e_148_28 : dec prog_9_method_55_code 28 = some (.iconst 0, 29, 0, 0) := by decide +kernel
theorem e_148_29 : dec prog_9_method_55_code 29 = some (.aload_n 0, 30, 0, 0) := by decide +kernel
theorem e_148_30 : dec prog_9_method_55_code 30 = some (.getfield 13, 33, 0, 0) := by decide +kernel
theorem e_148_33 : dec prog_9_method_55_code 33 = some (.iconst 0, 34, 0, 0) := by decide +kernel
theorem e_148_34 : dec prog_9_method_55_code 34 = some (.invokestatic 40, 37, 0, 0) := by decide +kernel
theorem e_148_37 : dec prog_9_method_55_code 37 = some (.aload_n 0, 38, 0, 0) := by decide +kernel
theorem e_148_38 : dec prog_9_method_55_code 38 = some (.iload_n 2, 39, 2, 0) := by decide +kernel
theorem e_148_39 : dec prog_9_method_55_code 39 = some (.iload_n 1, 40, 1, 0) := by decide +kernel
theorem e_148_40 : dec prog_9_method_55_code 40 = some (.invokevirtual 156, 43, 0, 0) := by decide +kernel
theorem e_148_43 : dec prog_9_method_55_code 43 = some (.istore_n 3, 44, 3, 0) := by decide +kernel
theorem e_148_44 : dec prog_9_method_55_code 44 = some (.aload_n 0, 45, 0, 0) := by decide +kernel
theorem e_148_45 : dec prog_9_method_55_code 45 = some (.getfield 13, 48, 0, 0) := by decide +kernel
theorem e_148_48 : dec prog_9_method_55_code 48 = some (.iconst 0, 49, 0, 0) := by decide +kernel
theorem e_148_49 : dec prog_9_method_55_code 49 = some (.aload_n 0, 50, 0, 0) := by decide +kernel
theorem e_148_50 : dec prog_9_method_55_code 50 = some (.getfield 7, 53, 0, 0) := by decide +kernel
theorem e_148_53 : dec prog_9_method_55_code 53 = some (.iconst 0, 54, 0, 0) := by decide +kernel
theorem e_148_54 : dec prog_9_method_55_code 54 = some (.invokestatic 40, 57, 0, 0) := by decide +kernel
theorem e_148_57 : dec prog_9_method_55_code 57 = some (.iload_n 3, 58, 3, 0) := by decide +kernel
theorem e_148_58 : dec prog_9_method_55_code 58 = some (.bipush (-6), 60, 0, (-6)) := by decide +kernel
theorem e_148_60 : dec prog_9_method_55_code 60 = some (.if_icmp .ne 8, 63, 68, 0) := by decide +kernel
theorem e_148_63 : dec prog_9_method_55_code 63 = some (.bipush (-6), 65, 0, (-6)) := by decide +kernel
theorem e_148_65 : dec prog_9_method_55_code 65 = some (.goto 11, 68, 76, 0) := by decide +kernel
theorem e_148_68 : dec prog_9_method_55_code 68 = some (.iload_n 3, 69, 3, 0) := by decide +kernel
theorem e_148_69 : dec prog_9_method_55_code 69 = some (.aload_n 0, 70, 0, 0) := by decide +kernel
theorem e_148_70 : dec prog_9_method_55_code 70 = some (.getfield 7, 73, 0, 0) := by decide +kernel
theorem e_148_73 : dec prog_9_method_55_code 73 = some (.iconst 0, 74, 0, 0) := by decide +kernel
theorem e_148_74 : dec prog_9_method_55_code 74 = some (.iaload, 75, 0, 0) := by decide +kernel
theorem e_148_75 : dec prog_9_method_55_code 75 = some (.imul, 76, 0, 0) := by decide +kernel
theorem e_148_76 : dec prog_9_method_55_code 76 = some (.ireturn, 77, 0, 0) := by decide +kernel
theorem E_148 : dec prog_9_method_55_code 0 = some (.iload_n 1, 1, 1, 0) ∧ dec prog_9_method_55_code 1 = some (.invokestatic 77, 4, 0, 0) ∧ dec prog_9_method_55_code 4 = some (.ifCond .ne 5, 7, 9, 0) ∧ dec prog_9_method_55_code 7 = some (.iconst (-1), 8, 0, (-1)) ∧ dec prog_9_method_55_code 8 = some (.ireturn, 9, 0, 0) ∧ dec prog_9_method_55_code 9 = some (.aload_n 0, 10, 0, 0) ∧ dec prog_9_method_55_code 10 = some (.iload_n 1, 11, 1, 0) ∧ dec prog_9_method_55_code 11 = some (.invokevirtual 113, 14, 0, 0) ∧ dec prog_9_method_55_code 14 = some (.istore_n 2, 15, 2, 0) ∧ dec prog_9_method_55_code 15 = some (.iload_n 2, 16, 2, 0) ∧ dec prog_9_method_55_code 16 = some (.bipush (-6), 18, 0, (-6)) ∧ dec prog_9_method_55_code 18 = some (.if_icmp .ne 6, 21, 24, 0) ∧ dec prog_9_method_55_code 21 = some (.bipush (-5), 23, 0, (-5)) ∧ dec prog_9_method_55_code 23 = some (.ireturn, 24, 0, 0) ∧ dec prog_9_method_55_code 24 = some (.aload_n 0, 25, 0, 0) ∧ dec prog_9_method_55_code 25 = some (.getfield 7, 28, 0, 0) ∧ dec prog_9_method_55_code 28 = some (.iconst 0, 29, 0, 0) ∧ dec prog_9_method_55_code 29 = some (.aload_n 0, 30, 0, 0) ∧ dec prog_9_method_55_code 30 = some (.getfield 13, 33, 0, 0) ∧ dec prog_9_method_55_code 33 = some (.iconst 0, 34, 0, 0) ∧ dec prog_9_method_55_code 34 = some (.invokestatic 40, 37, 0, 0) ∧ dec prog_9_method_55_code 37 = some (.aload_n 0, 38, 0, 0) ∧ dec prog_9_method_55_code 38 = some (.iload_n 2, 39, 2, 0) ∧ dec prog_9_method_55_code 39 = some (.iload_n 1, 40, 1, 0) ∧ dec prog_9_method_55_code 40 = some (.invokevirtual 156, 43, 0, 0) ∧ dec prog_9_method_55_code 43 = some (.istore_n 3, 44, 3, 0) ∧ dec prog_9_method_55_code 44 = some (.aload_n 0, 45, 0, 0) ∧ dec prog_9_method_55_code 45 = some (.getfield 13, 48, 0, 0) ∧ dec prog_9_method_55_code 48 = some (.iconst 0, 49, 0, 0) ∧ dec prog_9_method_55_code 49 = some (.aload_n 0, 50, 0, 0) ∧ dec prog_9_method_55_code 50 = some (.getfield 7, 53, 0, 0) ∧ dec prog_9_method_55_code 53 = some (.iconst 0, 54, 0, 0) ∧ dec prog_9_method_55_code 54 = some (.invokestatic 40, 57, 0, 0) ∧ dec prog_9_method_55_code 57 = some (.iload_n 3, 58, 3, 0) ∧ dec prog_9_method_55_code 58 = some (.bipush (-6), 60, 0, (-6)) ∧ dec prog_9_method_55_code 60 = some (.if_icmp .ne 8, 63, 68, 0) ∧ dec prog_9_method_55_code 63 = some (.bipush (-6), 65, 0, (-6)) ∧ dec prog_9_method_55_code 65 = some (.goto 11, 68, 76, 0) ∧ dec prog_9_method_55_code 68 = some (.iload_n 3, 69, 3, 0) ∧ dec prog_9_method_55_code 69 = some (.aload_n 0, 70, 0, 0) ∧ dec prog_9_method_55_code 70 = some (.getfield 7, 73, 0, 0) ∧ dec prog_9_method_55_code 73 = some (.iconst 0, 74, 0, 0) ∧ dec prog_9_method_55_code 74 = some (.iaload, 75, 0, 0) ∧ dec prog_9_method_55_code 75 = some (.imul, 76, 0, 0) ∧ dec prog_9_method_55_code 76 = some (.ireturn, 77, 0, 0) := ⟨e_148_0, e_148_1, e_148_4, e_148_7, e_148_8, e_148_9, e_148_10, e_148_11, e_148_14, e_148_15, e_148_16, e_148_18, e_148_21, e_148_23, e_148_24, e_148_25, e_148_28, e_148_29, e_148_30, e_148_33, e_148_34, e_148_37, e_148_38, e_148_39, e_148_40, e_148_43, e_148_44, e_148_45, e_148_48, e_148_49, e_148_50, e_148_53, e_148_54, e_148_57, e_148_58, e_148_60, e_148_63, e_148_65, e_148_68, e_148_69, e_148_70, e_148_73, e_148_74, e_148_75, e_148_76⟩
theorem e_149_0 : dec prog_9_method_56_code 0 = some (.lload_n 1, 1, 1, 0) := by decide +kernel
theorem e_149_1 : dec prog_9_method_56_code 1 = some (.lstore_n 3, 2, 3, 0) := by decide +kernel
theorem e_149_2 : dec prog_9_method_56_code 2 = some (.iconst 0, 3, 0, 0) := by decide +kernel
theorem e_149_3 : dec prog_9_method_56_code 3 = some (.istore 5, 5, 5, 0) := by decide +kernel
theorem e_149_5 : dec prog_9_method_56_code 5 = some (.lload_n 3, 6, 3, 0) := by decide +kernel
theorem e_149_6 : dec prog_9_method_56_code 6 = some (.lconst 0, 7, 0, 0) := by decide +kernel
theorem e_149_7 : dec prog_9_method_56_code 7 = some (.lcmp, 8, 0, 0) := by decide +kernel
theorem e_149_8 : dec prog_9_method_56_code 8 = some (.ifCond .eq 40, 11, 48, 0) := by decide +kernel
theorem e_149_11 : dec prog_9_method_56_code 11 = some (.iload 5, 13, 5, 0) := by decide +kernel
theorem e_149_13 : dec prog_9_method_56_code 13 = some (.bipush 8, 15, 0, 8) := by decide +kernel
theorem e_149_15 : dec prog_9_method_56_code 15 = some (.if_icmp .ge 33, 18, 48, 0) := by decide +kernel
theorem e_149_18 : dec prog_9_method_56_code 18 = some (.lload_n 3, 19, 3, 0) := by decide +kernel
theorem e_149_19 : dec prog_9_method_56_code 19 = some (.ldc2_w 159, 22, 0, 0) := by decide +kernel
theorem e_149_22 : dec prog_9_method_56_code 22 = some (.land, 23, 0, 0) := by decide +kernel
theorem e_149_23 : dec prog_9_method_56_code 23 = some (.l2i, 24, 0, 0) := by decide +kernel
theorem e_149_24 : dec prog_9_method_56_code 24 = some (.bipush 33, 26, 0, 33) := by decide +kernel
theorem e_149_26 : dec prog_9_method_56_code 26 = some (.bipush 126, 28, 0, 126) := by decide +kernel
theorem e_149_28 : dec prog_9_method_56_code 28 = some (.invokestatic 32, 31, 0, 0) := by decide +kernel
theorem e_149_31 : dec prog_9_method_56_code 31 = some (.ifCond .ne 6, 34, 37, 0) := by decide +kernel
theorem e_149_34 : dec prog_9_method_56_code 34 = some (.bipush (-2), 36, 0, (-2)) := by decide +kernel
theorem e_149_36 : dec prog_9_method_56_code 36 = some (.ireturn, 37, 0, 0) := by decide +kernel
theorem e_149_37 : dec prog_9_method_56_code 37 = some (.lload_n 3, 38, 3, 0) := by decide +kernel
theorem e_149_38 : dec prog_9_method_56_code 38 = some (.bipush 8, 40, 0, 8) := by decide +kernel
theorem e_149_40 : dec prog_9_method_56_code 40 = some (.lushr, 41, 0, 0) := by decide +kernel
theorem e_149_41 : dec prog_9_method_56_code 41 = some (.lstore_n 3, 42, 3, 0) := by decide +kernel
theorem e_149_42 : dec prog_9_method_56_code 42 = some (.iinc 5 1, 45, 5, 1) := by decide +kernel
theorem e_149_45 : dec prog_9_method_56_code 45 = some (.goto (-40), 48, 5, 0) := by decide +kernel
theorem e_149_48 : dec prog_9_method_56_code 48 = some (.iload 5, 50, 5, 0) := by decide +kernel
theorem e_149_50 : dec prog_9_method_56_code 50 = some (.ifCond .ne 6, 53, 56, 0) := by decide +kernel
theorem e_149_53 : dec prog_9_method_56_code 53 = some (.bipush (-2), 55, 0, (-2)) := by decide +kernel
theorem e_149_55 : dec prog_9_method_56_code 55 = some (.ireturn, 56, 0, 0) := by decide +kernel
theorem e_149_56 : dec prog_9_method_56_code 56 = some (.aload_n 0, 57, 0, 0) := by decide +kernel
theorem e_149_57 : dec prog_9_method_56_code 57 = some (.getfield 150, 60, 0, 0) := by decide +kernel
theorem e_149_60 : dec prog_9_method_56_code 60 = some (.iload 5, 62, 5, 0) := by decide +kernel
theorem e_149_62 : dec prog_9_method_56_code 62 = some (.iadd, 63, 0, 0) := by decide +kernel
theorem e_149_63 : dec prog_9_method_56_code 63 = some (.bipush 80, 65, 0, 80) := by decide +kernel
theorem e_149_65 : dec prog_9_method_56_code 65 = some (.if_icmp .le 6, 68, 71, 0) := by decide +kernel
theorem e_149_68 : dec prog_9_method_56_code 68 = some (.bipush (-4), 70, 0, (-4)) := by decide +kernel
theorem e_149_70 : dec prog_9_method_56_code 70 = some (.ireturn, 71, 0, 0) := by decide +kernel
theorem e_149_71 : dec prog_9_method_56_code 71 = some (.iload 5, 73, 5, 0) := by decide +kernel
theorem e_149_73 : dec prog_9_method_56_code 73 = some (.iconst 1, 74, 0, 1) := by decide +kernel
theorem e_149_74 : dec prog_9_method_56_code 74 = some (.isub, 75, 0, 0) := by decide +kernel
theorem e_149_75 : dec prog_9_method_56_code 75 = some (.istore 6, 77, 6, 0) := by decide +kernel
theorem e_149_77 : dec prog_9_method_56_code 77 = some (.iload 6, 79, 6, 0) := by decide +kernel
theorem e_149_79 : dec prog_9_method_56_code 79 = some (.ifCond .lt 40, 82, 119, 0) := by decide +kernel
theorem e_149_82 : dec prog_9_method_56_code 82 = some (.aload_n 0, 83, 0, 0) := by decide +kernel
theorem e_149_83 : dec prog_9_method_56_code 83 = some (.getfield 26, 86, 0, 0) := by decide +kernel
theorem e_149_86 : dec prog_9_method_56_code 86 = some (.aload_n 0, 87, 0, 0) := by decide +kernel
theorem e_149_87 : dec prog_9_method_56_code 87 = some (.getfield 150, 90, 0, 0) := by decide +kernel
theorem e_149_90 : dec prog_9_method_56_code 90 = some (.lload_n 1, 91, 1, 0) := by decide +kernel
theorem e_149_91 : dec prog_9_method_56_code 91 = some (.bipush 8, 93, 0, 8) := by decide +kernel
theorem e_149_93 : dec prog_9_method_56_code 93 = some (.iload 6, 95, 6, 0) := by decide +kernel
theorem e_149_95 : dec prog_9_method_56_code 95 = some (.imul, 96, 0, 0) := by decide +kernel
theorem e_149_96 : dec prog_9_method_56_code 96 = some (.lushr, 97, 0, 0) := by decide +kernel
theorem e_149_97 : dec prog_9_method_56_code 97 = some (.ldc2_w 159, 100, 0, 0) := by decide +kernel
theorem e_149_100 : dec prog_9_method_56_code 100 = some (.land, 101, 0, 0) := by decide +kernel
theorem e_149_101 : dec prog_9_method_56_code 101 = some (.l2i, 102, 0, 0) := by decide +kernel
theorem e_149_102 : dec prog_9_method_56_code 102 = some (.iastore, 103, 0, 0) := by decide +kernel
theorem e_149_103 : dec prog_9_method_56_code 103 = some (.aload_n 0, 104, 0, 0) := by decide +kernel
theorem e_149_104 : dec prog_9_method_56_code 104 = some (.dup, 105, 0, 0) := by decide +kernel
theorem e_149_105 : dec prog_9_method_56_code 105 = some (.getfield 150, 108, 0, 0) := by decide +kernel
theorem e_149_108 : dec prog_9_method_56_code 108 = some (.iconst 1, 109, 0, 1) := by decide +kernel
theorem e_149_109 : dec prog_9_method_56_code 109 = some (.iadd, 110, 0, 0) := by decide +kernel
theorem e_149_110 : dec prog_9_method_56_code 110 = some (.putfield 150, 113, 0, 0) := by decide +kernel
theorem e_149_113 : dec prog_9_method_56_code 113 = some (.iinc 6 (-1), 116, 6, (-1)) := by decide +kernel
theorem e_149_116 : dec prog_9_method_56_code 116 = some (.goto (-39), 119, 77, 0) := by decide +kernel
theorem e_149_119 : dec prog_9_method_56_code 119 = some (.aload_n 0, 120, 0, 0) := by decide +kernel
theorem e_149_120 : dec prog_9_method_56_code 120 = some (.getfield 150, 123, 0, 0) := by decide +kernel
theorem e_149_123 : dec prog_9_method_56_code 123 = some (.ireturn, 124, 0, 0) := by decide +kernel
theorem E_149 : dec prog_9_method_56_code 0 = some (.lload_n 1, 1, 1, 0) ∧ dec prog_9_method_56_code 1 = some (.lstore_n 3, 2, 3, 0) ∧ dec prog_9_method_56_code 2 = some (.iconst 0, 3, 0, 0) ∧ dec prog_9_method_56_code 3 = some (.istore 5, 5, 5, 0) ∧ dec prog_9_method_56_code 5 = some (.lload_n 3, 6, 3, 0) ∧ dec prog_9_method_56_code 6 = some (.lconst 0, 7, 0, 0) ∧ dec prog_9_method_56_code 7 = some (.lcmp, 8, 0, 0) ∧ dec prog_9_method_56_code 8 = some (.ifCond .eq 40, 11, 48, 0) ∧ dec prog_9_method_56_code 11 = some (.iload 5, 13, 5, 0) ∧ dec prog_9_method_56_code 13 = some (.bipush 8, 15, 0, 8) ∧ dec prog_9_method_56_code 15 = some (.if_icmp .ge 33, 18, 48, 0) ∧ dec prog_9_method_56_code 18 = some (.lload_n 3, 19, 3, 0) ∧ dec prog_9_method_56_code 19 = some (.ldc2_w 159, 22, 0, 0) ∧ dec prog_9_method_56_code 22 = some (.land, 23, 0, 0) ∧ dec prog_9_method_56_code 23 = some (.l2i, 24, 0, 0) ∧ dec prog_9_method_56_code 24 = some (.bipush 33, 26, 0, 33) ∧ dec prog_9_method_56_code 26 = some (.bipush 126, 28, 0, 126) ∧ dec prog_9_method_56_code 28 = some (.invokestatic 32, 31, 0, 0) ∧ dec prog_9_method_56_code 31 = some (.ifCond .ne 6, 34, 37, 0) ∧ dec prog_9_method_56_code 34 = some (.bipush (-2), 36, 0, (-2)) ∧ dec prog_9_method_56_code 36 = some (.ireturn, 37, 0, 0) ∧ dec prog_9_method_56_code 37 = some (.lload_n 3, 38, 3, 0) ∧ dec prog_9_method_56_code 38 = some (.bipush 8, 40, 0, 8) ∧ dec prog_9_method_56_code 40 = some (.lushr, 41, 0, 0) ∧ dec prog_9_method_56_code 41 = some (.lstore_n 3, 42, 3, 0) ∧ dec prog_9_method_56_code 42 = some (.iinc 5 1, 45, 5, 1) ∧ dec prog_9_method_56_code 45 = some (.goto (-40), 48, 5, 0) ∧ dec prog_9_method_56_code 48 = some (.iload 5, 50, 5, 0) ∧ dec prog_9_method_56_code 50 = some (.ifCond .ne 6, 53, 56, 0) ∧ dec prog_9_method_56_code 53 = some (.bipush (-2), 55, 0, (-2)) ∧ dec prog_9_method_56_code 55 = some (.ireturn, 56, 0, 0) ∧ dec prog_9_method_56_code 56 = some (.aload_n 0, 57, 0, 0) ∧ dec prog_9_method_56_code 57 = some (.getfield 150, 60, 0, 0) ∧ dec prog_9_method_56_code 60 = some (.iload 5, 62, 5, 0) ∧ dec prog_9_method_56_code 62 = some (.iadd, 63, 0, 0) ∧ dec prog_9_method_56_code 63 = some (.bipush 80, 65, 0, 80) ∧ dec prog_9_method_56_code 65 = some (.if_icmp .le 6, 68, 71, 0) ∧ dec prog_9_method_56_code 68 = some (.bipush (-4), 70, 0, (-4)) ∧ dec prog_9_method_56_code 70 = some (.ireturn, 71, 0, 0) ∧ dec prog_9_method_56_code 71 = some (.iload 5, 73, 5, 0) ∧ dec prog_9_method_56_code 73 = some (.iconst 1, 74, 0, 1) ∧ dec prog_9_method_56_code 74 = some (.isub, 75, 0, 0) ∧ dec prog_9_method_56_code 75 = some (.istore 6, 77, 6, 0) ∧ dec prog_9_method_56_code 77 = some (.iload 6, 79, 6, 0) ∧ dec prog_9_method_56_code 79 = some (.ifCond .lt 40, 82, 119, 0) ∧ dec prog_9_method_56_code 82 = some (.aload_n 0, 83, 0, 0) ∧ dec prog_9_method_56_code 83 = some (.getfield 26, 86, 0, 0) ∧ dec prog_9_method_56_code 86 = some (.aload_n 0, 87, 0, 0) ∧ dec prog_9_method_56_code 87 = some (.getfield 150, 90, 0, 0) ∧ dec prog_9_method_56_code 90 = some (.lload_n 1, 91, 1, 0) ∧ dec prog_9_method_56_code 91 = some (.bipush 8, 93, 0, 8) ∧ dec prog_9_method_56_code 93 = some (.iload 6, 95, 6, 0) ∧ dec prog_9_method_56_code 95 = some (.imul, 96, 0, 0) ∧ dec prog_9_method_56_code 96 = some (.lushr, 97, 0, 0) ∧ dec prog_9_method_56_code 97 = some (.ldc2_w 159, 100, 0, 0) ∧ dec prog_9_method_56_code 100 = some (.land, 101, 0, 0) ∧ dec prog_9_method_56_code 101 = some (.l2i, 102, 0, 0) ∧ dec prog_9_method_56_code 102 = some (.iastore, 103, 0, 0) ∧ dec prog_9_method_56_code 103 = some (.aload_n 0, 104, 0, 0) ∧ dec prog_9_method_56_code 104 = some (.dup, 105, 0, 0) ∧ dec prog_9_method_56_code 105 = some (.getfield 150, 108, 0, 0) ∧ dec prog_9_method_56_code 108 = some (.iconst 1, 109, 0, 1) ∧ dec prog_9_method_56_code 109 = some (.iadd, 110, 0, 0) ∧ dec prog_9_method_56_code 110 = some (.putfield 150, 113, 0, 0) ∧ dec prog_9_method_56_code 113 = some (.iinc 6 (-1), 116, 6, (-1)) ∧ dec prog_9_method_56_code 116 = some (.goto (-39), 119, 77, 0) ∧ dec prog_9_method_56_code 119 = some (.aload_n 0, 120, 0, 0) ∧ dec prog_9_method_56_code 120 = some (.getfield 150, 123, 0, 0) ∧ dec prog_9_method_56_code 123 = some (.ireturn, 124, 0, 0) := ⟨e_149_0, e_149_1, e_149_2, e_149_3, e_149_5, e_149_6, e_149_7, e_149_8, e_149_11, e_149_13, e_149_15, e_149_18, e_149_19, e_149_22, e_149_23, e_149_24, e_149_26, e_149_28, e_149_31, e_149_34, e_149_36, e_149_37, e_149_38, e_149_40, e_149_41, e_149_42, e_149_45, e_149_48, e_149_50, e_149_53, e_149_55, e_149_56, e_149_57, e_149_60, e_149_62, e_149_63, e_149_65, e_149_68, e_149_70, e_149_71, e_149_73, e_149_74, e_149_75, e_149_77, e_149_79, e_149_82, e_149_83, e_149_86, e_149_87, e_149_90, e_149_91, e_149_93, e_149_95, e_149_96, e_149_97, e_149_100, e_149_101, e_149_102, e_149_103, e_149_104, e_149_105, e_149_108, e_149_109, e_149_110, e_149_113, e_149_116, e_149_119, e_149_120, e_149_123⟩
theorem e_150_0 : dec prog_9_method_57_code 0 = some (.aload_n 0, 1, 0, 0) := by decide +kernel
theorem e_150_1 : dec prog_9_method_57_code 1 = some (.getfield 150, 4, 0, 0) := by decide +kernel
theorem e_150_4 : dec prog_9_method_57_code 4 = some (.istore_n 1, 5, 1, 0) := by decide +kernel
theorem e_150_5 : dec prog_9_method_57_code 5 = some (.aload_n 0, 6, 0, 0) := by decide +kernel
theorem e_150_6 : dec prog_9_method_57_code 6 = some (.iconst 0, 7, 0, 0) := by decide +kernel
theorem e_150_7 : dec prog_9_method_57_code 7 = some (.putfield 150, 10, 0, 0) := by decide +kernel
theorem e_150_10 : dec prog_9_method_57_code 10 = some (.iload_n 1, 11, 1, 0) := by decide +kernel
theorem e_150_11 : dec prog_9_method_57_code 11 = some (.ireturn, 12, 0, 0) := by decide +kernel
theorem E_150 : dec prog_9_method_57_code 0 = some (.aload_n 0, 1, 0, 0) ∧ dec prog_9_method_57_code 1 = some (.getfield 150, 4, 0, 0) ∧ dec prog_9_method_57_code 4 = some (.istore_n 1, 5, 1, 0) ∧ dec prog_9_method_57_code 5 = some (.aload_n 0, 6, 0, 0) ∧ dec prog_9_method_57_code 6 = some (.iconst 0, 7, 0, 0) ∧ dec prog_9_method_57_code 7 = some (.putfield 150, 10, 0, 0) ∧ dec prog_9_method_57_code 10 = some (.iload_n 1, 11, 1, 0) ∧ dec prog_9_method_57_code 11 = some (.ireturn, 12, 0, 0) := ⟨e_150_0, e_150_1, e_150_4, e_150_5, e_150_6, e_150_7, e_150_10, e_150_11⟩
theorem e_151_0 : dec prog_9_method_58_code 0 = some (.aload_n 0, 1, 0, 0) := by decide +kernel
theorem e_151_1 : dec prog_9_method_58_code 1 = some (.getfield 161, 4, 0, 0) := by decide +kernel
theorem e_151_4 : dec prog_9_method_58_code 4 = some (.aload_n 0, 5, 0, 0) := by decide +kernel
theorem e_151_5 : dec prog_9_method_58_code 5 = some (.getfield 150, 8, 0, 0) := by decide +kernel
theorem e_151_8 : dec prog_9_method_58_code 8 = some (.if_icmp .ge 24, 11, 32, 0) := by decide +kernel
theorem e_151_11 : dec prog_9_method_58_code 11 = some (.aload_n 0, 12, 0, 0) := by decide +kernel
theorem e_151_12 : dec prog_9_method_58_code 12 = some (.getfield 26, 15, 0, 0) := by decide +kernel
theorem e_151_15 : dec prog_9_method_58_code 15 = some (.aload_n 0, 16, 0, 0) := by decide +kernel
theorem e_151_16 : dec prog_9_method_58_code 16 = some (.getfield 161, 19, 0, 0) := by decide +kernel
theorem e_151_19 : dec prog_9_method_58_code 19 = some (.iaload, 20, 0, 0) := by decide +kernel
theorem e_151_20 : dec prog_9_method_58_code 20 = some (.iload_n 1, 21, 1, 0) := by decide +kernel
theorem e_151_21 : dec prog_9_method_58_code 21 = some (.iload_n 2, 22, 2, 0) := by decide +kernel
theorem e_151_22 : dec prog_9_method_58_code 22 = some (.invokestatic 32, 25, 0, 0) := by decide +kernel
theorem e_151_25 : dec prog_9_method_58_code 25 = some (.ifCond .eq 7, 28, 32, 0) := by decide +kernel
theorem e_151_28 : dec prog_9_method_58_code 28 = some (.iconst 1, 29, 0, 1) := by decide +kernel
theorem e_151_29 : dec prog_9_method_58_code 29 = some (.goto 4, 32, 33, 0) := by decide +kernel
theorem e_151_32 : dec prog_9_method_58_code 32 = some (.iconst 0, 33, 0, 0) := by decide +kernel
theorem e_151_33 : dec prog_9_method_58_code 33 = some (.ireturn, 34, 0, 0) := by decide +kernel
theorem E_151 : dec prog_9_method_58_code 0 = some (.aload_n 0, 1, 0, 0) ∧ dec prog_9_method_58_code 1 = some (.getfield 161, 4, 0, 0) ∧ dec prog_9_method_58_code 4 = some (.aload_n 0, 5, 0, 0) ∧ dec prog_9_method_58_code 5 = some (.getfield 150, 8, 0, 0) ∧ dec prog_9_method_58_code 8 = some (.if_icmp .ge 24, 11, 32, 0) ∧ dec prog_9_method_58_code 11 = some (.aload_n 0, 12, 0, 0) ∧ dec prog_9_method_58_code 12 = some (.getfield 26, 15, 0, 0) ∧ dec prog_9_method_58_code 15 = some (.aload_n 0, 16, 0, 0) ∧ dec prog_9_method_58_code 16 = some (.getfield 161, 19, 0, 0) ∧ dec prog_9_method_58_code 19 = some (.iaload, 20, 0, 0) ∧ dec prog_9_method_58_code 20 = some (.iload_n 1, 21, 1, 0) ∧ dec prog_9_method_58_code 21 = some (.iload_n 2, 22, 2, 0) ∧ dec prog_9_method_58_code 22 = some (.invokestatic 32, 25, 0, 0) ∧ dec prog_9_method_58_code 25 = some (.ifCond .eq 7, 28, 32, 0) ∧ dec prog_9_method_58_code 28 = some (.iconst 1, 29, 0, 1) ∧ dec prog_9_method_58_code 29 = some (.goto 4, 32, 33, 0) ∧ dec prog_9_method_58_code 32 = some (.iconst 0, 33, 0, 0) ∧ dec prog_9_method_58_code 33 = some (.ireturn, 34, 0, 0) := ⟨e_151_0, e_151_1, e_151_4, e_151_5, e_151_8, e_151_11, e_151_12, e_151_15, e_151_16, e_151_19, e_151_20, e_151_21, e_151_22, e_151_25, e_151_28, e_151_29, e_151_32, e_151_33⟩
theorem e_152_0 : dec prog_9_method_59_code 0 = some (.aload_n 0, 1, 0, 0) := by decide +kernel
theorem e_152_1 : dec prog_9_method_59_code 1 = some (.iload_n 1, 2, 1, 0) := by decide +kernel
theorem e_152_2 : dec prog_9_method_59_code 2 = some (.iload_n 1, 3, 1, 0) := by decide +kernel
theorem e_152_3 : dec prog_9_method_59_code 3 = some (.invokevirtual 164, 6, 0, 0) := by decide +kernel
theorem e_152_6 : dec prog_9_method_59_code 6 = some (.istore_n 2, 7, 2, 0) := by decide +kernel
theorem e_152_7 : dec prog_9_method_59_code 7 = some (.aload_n 0, 8, 0, 0) := by decide +kernel
theorem e_152_8 : dec prog_9_method_59_code 8 = some (.dup, 9, 0, 0) := by decide +kernel
theorem e_152_9 : dec prog_9_method_59_code 9 = some (.getfield 161, 12, 0, 0) := by decide +kernel
theorem e_152_12 : dec prog_9_method_59_code 12 = some (.iload_n 2, 13, 2, 0) := by decide +kernel
theorem e_152_13 : dec prog_9_method_59_code 13 = some (.ifCond .eq 7, 16, 20, 0) := by decide +kernel
theorem e_152_16 : dec prog_9_method_59_code 16 = some (.iconst 1, 17, 0, 1) := by decide +kernel
theorem e_152_17 : dec prog_9_method_59_code 17 = some (.goto 4, 20, 21, 0) := by decide +kernel
theorem e_152_20 : dec prog_9_method_59_code 20 = some (.iconst 0, 21, 0, 0) := by decide +kernel
theorem e_152_21 : dec prog_9_method_59_code 21 = some (.iadd, 22, 0, 0) := by decide +kernel
theorem e_152_22 : dec prog_9_method_59_code 22 = some (.putfield 161, 25, 0, 0) := by decide +kernel
theorem e_152_25 : dec prog_9_method_59_code 25 = some (.iload_n 2, 26, 2, 0) := by decide +kernel
theorem e_152_26 : dec prog_9_method_59_code 26 = some (.ireturn, 27, 0, 0) := by decide +kernel
theorem E_152 : dec prog_9_method_59_code 0 = some (.aload_n 0, 1, 0, 0) ∧ dec prog_9_method_59_code 1 = some (.iload_n 1, 2, 1, 0) ∧ dec prog_9_method_59_code 2 = some (.iload_n 1, 3, 1, 0) ∧ dec prog_9_method_59_code 3 = some (.invokevirtual 164, 6, 0, 0) ∧ dec prog_9_method_59_code 6 = some (.istore_n 2, 7, 2, 0) ∧ dec prog_9_method_59_code 7 = some (.aload_n 0, 8, 0, 0) ∧ dec prog_9_method_59_code 8 = some (.dup, 9, 0, 0) ∧ dec prog_9_method_59_code 9 = some (.getfield 161, 12, 0, 0) ∧ dec prog_9_method_59_code 12 = some (.iload_n 2, 13, 2, 0) ∧ dec prog_9_method_59_code 13 = some (.ifCond .eq 7, 16, 20, 0) ∧ dec prog_9_method_59_code 16 = some (.iconst 1, 17, 0, 1) ∧ dec prog_9_method_59_code 17 = some (.goto 4, 20, 21, 0) ∧ dec prog_9_method_59_code 20 = some (.iconst 0, 21, 0, 0) ∧ dec prog_9_method_59_code 21 = some (.iadd, 22, 0, 0) ∧ dec prog_9_method_59_code 22 = some (.putfield 161, 25, 0, 0) ∧ dec prog_9_method_59_code 25 = some (.iload_n 2, 26, 2, 0) ∧ dec prog_9_method_59_code 26 = some (.ireturn, 27, 0, 0) := ⟨e_152_0, e_152_1, e_152_2, e_152_3, e_152_6, e_152_7, e_152_8, e_152_9, e_152_12, e_152_13, e_152_16, e_152_17, e_152_20, e_152_21, e_152_22, e_152_25, e_152_26⟩
theorem e_153_0 : dec prog_9_method_60_code 0 = some (.aload_n 0, 1, 0, 0) := by decide +kernel
theorem e_153_1 : dec prog_9_method_60_code 1 = some (.bipush 48, 3, 0, 48) := by decide +kernel
theorem e_153_3 : dec prog_9_method_60_code 3 = some (.bipush 57, 5, 0, 57) := by decide +kernel
theorem e_153_5 : dec prog_9_method_60_code 5 = some (.invokevirtual 164, 8, 0, 0) := by decide +kernel
theorem e_153_8 : dec prog_9_method_60_code 8 = some (.ifCond .ne 6, 11, 14, 0) := by decide +kernel
theorem e_153_11 : dec prog_9_method_60_code 11 = some (.bipush (-6), 13, 0, (-6)) := by decide +kernel
theorem e_153_13 : dec prog_9_method_60_code 13 = some (.ireturn, 14, 0, 0) := by decide +kernel
theorem e_153_14 : dec prog_9_method_60_code 14 = some (.aload_n 0, 15, 0, 0) := by decide +kernel
theorem e_153_15 : dec prog_9_method_60_code 15 = some (.getfield 26, 18, 0, 0) := by decide +kernel
theorem e_153_18 : dec prog_9_method_60_code 18 = some (.aload_n 0, 19, 0, 0) := by decide +kernel
theorem e_153_19 : dec prog_9_method_60_code 19 = some (.getfield 161, 22, 0, 0) := by decide +kernel
theorem e_153_22 : dec prog_9_method_60_code 22 = some (.iaload, 23, 0, 0) := by decide +kernel
theorem e_153_23 : dec prog_9_method_60_code 23 = some (.bipush 48, 25, 0, 48) := by decide +kernel
theorem e_153_25 : dec prog_9_method_60_code 25 = some (.isub, 26, 0, 0) := by decide +kernel
theorem e_153_26 : dec prog_9_method_60_code 26 = some (.istore_n 2, 27, 2, 0) := by decide +kernel
theorem e_153_27 : dec prog_9_method_60_code 27 = some (.aload_n 0, 28, 0, 0) := by decide +kernel
theorem e_153_28 : dec prog_9_method_60_code 28 = some (.dup, 29, 0, 0) := by decide +kernel
theorem e_153_29 : dec prog_9_method_60_code 29 = some (.getfield 161, 32, 0, 0) := by decide +kernel
theorem e_153_32 : dec prog_9_method_60_code 32 = some (.iconst 1, 33, 0, 1) := by decide +kernel
theorem e_153_33 : dec prog_9_method_60_code 33 = some (.iadd, 34, 0, 0) := by decide +kernel
theorem e_153_34 : dec prog_9_method_60_code 34 = some (.putfield 161, 37, 0, 0) := by decide +kernel
theorem e_153_37 : dec prog_9_method_60_code 37 = some (.iload_n 2, 38, 2, 0) := by decide +kernel
theorem e_153_38 : dec prog_9_method_60_code 38 = some (.ifCond .le 47, 41, 85, 0) := by decide +kernel
theorem e_153_41 : dec prog_9_method_60_code 41 = some (.iload_n 1, 42, 1, 0) := by decide +kernel
theorem e_153_42 : dec prog_9_method_60_code 42 = some (.iconst 1, 43, 0, 1) := by decide +kernel
theorem e_153_43 : dec prog_9_method_60_code 43 = some (.if_icmp .le 42, 46, 85, 0) := by decide +kernel
theorem e_153_46 : dec prog_9_method_60_code 46 = some (.aload_n 0, 47, 0, 0) := by decide +kernel
theorem e_153_47 : dec prog_9_method_60_code 47 = some (.bipush 48, 49, 0, 48) := by decide +kernel
theorem e_153_49 : dec prog_9_method_60_code 49 = some (.bipush 57, 51, 0, 57) := by decide +kernel
theorem e_153_51 : dec prog_9_method_60_code 51 = some (.invokevirtual 164, 54, 0, 0) := by decide +kernel
theorem e_153_54 : dec prog_9_method_60_code 54 = some (.ifCond .eq 31, 57, 85, 0) := by decide +kernel
theorem e_153_57 : dec prog_9_method_60_code 57 = some (.bipush 10, 59, 0, 10) := by decide +kernel
theorem e_153_59 : dec prog_9_method_60_code 59 = some (.iload_n 2, 60, 2, 0) := by decide +kernel
theorem e_153_60 : dec prog_9_method_60_code 60 = some (.imul, 61, 0, 0) := by decide +kernel
theorem e_153_61 : dec prog_9_method_60_code 61 = some (.aload_n 0, 62, 0, 0) := by decide +kernel
theorem e_153_62 : dec prog_9_method_60_code 62 = some (.getfield 26, 65, 0, 0) := by decide +kernel
theorem e_153_65 : dec prog_9_method_60_code 65 = some (.aload_n 0, 66, 0, 0) := by decide +kernel
theorem e_153_66 : dec prog_9_method_60_code 66 = some (.getfield 161, 69, 0, 0) := by decide +kernel
theorem e_153_69 : dec prog_9_method_60_code 69 = some (.iaload, 70, 0, 0) := by decide +kernel
theorem e_153_70 : dec prog_9_method_60_code 70 = some (.iadd, 71, 0, 0) := by decide +kernel
theorem e_153_71 : dec prog_9_method_60_code 71 = some (.bipush 48, 73, 0, 48) := by decide +kernel
theorem e_153_73 : dec prog_9_method_60_code 73 = some (.isub, 74, 0, 0) := by decide +kernel
theorem e_153_74 : dec prog_9_method_60_code 74 = some (.istore_n 2, 75, 2, 0) := by decide +kernel
theorem e_153_75 : dec prog_9_method_60_code 75 = some (.aload_n 0, 76, 0, 0) := by decide +kernel
theorem e_153_76 : dec prog_9_method_60_code 76 = some (.dup, 77, 0, 0) := by decide +kernel
theorem e_153_77 : dec prog_9_method_60_code 77 = some (.getfield 161, 80, 0, 0) := by decide +kernel
theorem e_153_80 : dec prog_9_method_60_code 80 = some (.iconst 1, 81, 0, 1) := by decide +kernel
theorem e_153_81 : dec prog_9_method_60_code 81 = some (.iadd, 82, 0, 0) := by decide +kernel
theorem e_153_82 : dec prog_9_method_60_code 82 = some (.putfield 161, 85, 0, 0) := by decide +kernel
theorem e_153_85 : dec prog_9_method_60_code 85 = some (.iload_n 2, 86, 2, 0) := by decide +kernel
theorem e_153_86 : dec prog_9_method_60_code 86 = some (.ireturn, 87, 0, 0) := by decide +kernel
theorem E_153 : dec prog_9_method_60_code 0 = some (.aload_n 0, 1, 0, 0) ∧ dec prog_9_method_60_code 1 = some (.bipush 48, 3, 0, 48) ∧ dec prog_9_method_60_code 3 = some (.bipush 57, 5, 0, 57) ∧ dec prog_9_method_60_code 5 = some (.invokevirtual 164, 8, 0, 0) ∧ dec prog_9_method_60_code 8 = some (.ifCond .ne 6, 11, 14, 0) ∧ dec prog_9_method_60_code 11 = some (.bipush (-6), 13, 0, (-6)) ∧ dec prog_9_method_60_code 13 = some (.ireturn, 14, 0, 0) ∧ dec prog_9_method_60_code 14 = some (.aload_n 0, 15, 0, 0) ∧ dec prog_9_method_60_code 15 = some (.getfield 26, 18, 0, 0) ∧ dec prog_9_method_60_code 18 = some (.aload_n 0, 19, 0, 0) ∧ dec prog_9_method_60_code 19 = some (.getfield 161, 22, 0, 0) ∧ dec prog_9_method_60_code 22 = some (.iaload, 23, 0, 0) ∧ dec prog_9_method_60_code 23 = some (.bipush 48, 25, 0, 48) ∧ dec prog_9_method_60_code 25 = some (.isub, 26, 0, 0) ∧ dec prog_9_method_60_code 26 = some (.istore_n 2, 27, 2, 0) ∧ dec prog_9_method_60_code 27 = some (.aload_n 0, 28, 0, 0) ∧ dec prog_9_method_60_code 28 = some (.dup, 29, 0, 0) ∧ dec prog_9_method_60_code 29 = some (.getfield 161, 32, 0, 0) ∧ dec prog_9_method_60_code 32 = some (.iconst 1, 33, 0, 1) ∧ dec prog_9_method_60_code 33 = some (.iadd, 34, 0, 0) ∧ dec prog_9_method_60_code 34 = some (.putfield 161, 37, 0, 0) ∧ dec prog_9_method_60_code 37 = some (.iload_n 2, 38, 2, 0) ∧ dec prog_9_method_60_code 38 = some (.ifCond .le 47, 41, 85, 0) ∧ dec prog_9_method_60_code 41 = some (.iload_n 1, 42, 1, 0) ∧ dec prog_9_method_60_code 42 = some (.iconst 1, 43, 0, 1) ∧ dec prog_9_method_60_code 43 = some (.if_icmp .le 42, 46, 85, 0) ∧ dec prog_9_method_60_code 46 = some (.aload_n 0, 47, 0, 0) ∧ dec prog_9_method_60_code 47 = some (.bipush 48, 49, 0, 48) ∧ dec prog_9_method_60_code 49 = some (.bipush 57, 51, 0, 57) ∧ dec prog_9_method_60_code 51 = some (.invokevirtual 164, 54, 0, 0) ∧ dec prog_9_method_60_code 54 = some (.ifCond .eq 31, 57, 85, 0) ∧ dec prog_9_method_60_code 57 = some (.bipush 10, 59, 0, 10) ∧ dec prog_9_method_60_code 59 = some (.iload_n 2, 60, 2, 0) ∧ dec prog_9_method_60_code 60 = some (.imul, 61, 0, 0) ∧ dec prog_9_method_60_code 61 = some (.aload_n 0, 62, 0, 0) ∧ dec prog_9_method_60_code 62 = some (.getfield 26, 65, 0, 0) ∧ dec prog_9_method_60_code 65 = some (.aload_n 0, 66, 0, 0) ∧ dec prog_9_method_60_code 66 = some (.getfield 161, 69, 0, 0) ∧ dec prog_9_method_60_code 69 = some (.iaload, 70, 0, 0) ∧ dec prog_9_method_60_code 70 = some (.iadd, 71, 0, 0) ∧ dec prog_9_method_60_code 71 = some (.bipush 48, 73, 0, 48) ∧ dec prog_9_method_60_code 73 = some (.isub, 74, 0, 0) ∧ dec prog_9_method_60_code 74 = some (.istore_n 2, 75, 2, 0) ∧ dec prog_9_method_60_code 75 = some (.aload_n 0, 76, 0, 0) ∧ dec prog_9_method_60_code 76 = some (.dup, 77, 0, 0) ∧ dec prog_9_method_60_code 77 = some (.getfield 161, 80, 0, 0) ∧ dec prog_9_method_60_code 80 = some (.iconst 1, 81, 0, 1) ∧ dec prog_9_method_60_code 81 = some (.iadd, 82, 0, 0) ∧ dec prog_9_method_60_code 82 = some (.putfield 161, 85, 0, 0) ∧ dec prog_9_method_60_code 85 = some (.iload_n 2, 86, 2, 0) ∧ dec prog_9_method_60_code 86 = some (.ireturn, 87, 0, 0) := ⟨e_153_0, e_153_1, e_153_3, e_153_5, e_153_8, e_153_11, e_153_13, e_153_14, e_153_15, e_153_18, e_153_19, e_153_22, e_153_23, e_153_25, e_153_26, e_153_27, e_153_28, e_153_29, e_153_32, e_153_33, e_153_34, e_153_37, e_153_38, e_153_41, e_153_42, e_153_43, e_153_46, e_153_47, e_153_49, e_153_51, e_153_54, e_153_57, e_153_59, e_153_60, e_153_61, e_153_62, e_153_65, e_153_66, e_153_69, e_153_70, e_153_71, e_153_73, e_153_74, e_153_75, e_153_76, e_153_77, e_153_80, e_153_81, e_153_82, e_153_85, e_153_86⟩
theorem e_154_0 : dec prog_9_method_61_code 0 = some (.aload_n 0, 1, 0, 0) := by decide +kernel
theorem e_154_1 : dec prog_9_method_61_code 1 = some (.bipush 112, 3, 0, 112) := by decide +kernel
theorem e_154_3 : dec prog_9_method_61_code 3 = some (.bipush 112, 5, 0, 112) := by decide +kernel
theorem e_154_5 : dec prog_9_method_61_code 5 = some (.invokevirtual 164, 8, 0, 0) := by decide +kernel
theorem e_154_8 : dec prog_9_method_61_code 8 = some (.ifCond .eq 7, 11, 15, 0) := by decide +kernel
theorem e_154_11 : dec prog_9_method_61_code 11 = some (.iconst 0, 12, 0, 0) := by decide +kernel
theorem e_154_12 : dec prog_9_method_61_code 12 = some (.goto 35, 15, 47, 0) := by decide +kernel
theorem e_154_15 : dec prog_9_method_61_code 15 = some (.aload_n 0, 16, 0, 0) := by decide +kernel
theorem e_154_16 : dec prog_9_method_61_code 16 = some (.bipush 98, 18, 0, 98) := by decide +kernel
theorem e_154_18 : dec prog_9_method_61_code 18 = some (.bipush 98, 20, 0, 98) := by decide +kernel
theorem e_154_20 : dec prog_9_method_61_code 20 = some (.invokevirtual 164, 23, 0, 0) := by decide +kernel
theorem e_154_23 : dec prog_9_method_61_code 23 = some (.ifCond .eq 7, 26, 30, 0) := by decide +kernel
theorem e_154_26 : dec prog_9_method_61_code 26 = some (.iconst 1, 27, 0, 1) := by decide +kernel
theorem e_154_27 : dec prog_9_method_61_code 27 = some (.goto 20, 30, 47, 0) := by decide +kernel
theorem e_154_30 : dec prog_9_method_61_code 30 = some (.aload_n 0, 31, 0, 0) := by decide +kernel
theorem e_154_31 : dec prog_9_method_61_code 31 = some (.bipush 120, 33, 0, 120) := by decide +kernel
theorem e_154_33 : dec prog_9_method_61_code 33 = some (.bipush 120, 35, 0, 120) := by decide +kernel
theorem e_154_35 : dec prog_9_method_61_code 35 = some (.invokevirtual 164, 38, 0, 0) := by decide +kernel
theorem e_154_38 : dec prog_9_method_61_code 38 = some (.ifCond .eq 7, 41, 45, 0) := by decide +kernel
theorem e_154_41 : dec prog_9_method_61_code 41 = some (.iconst 2, 42, 0, 2) := by decide +kernel
theorem e_154_42 : dec prog_9_method_61_code 42 = some (.goto 5, 45, 47, 0) := by decide +kernel
theorem e_154_45 : dec prog_9_method_61_code 45 = some (.bipush (-6), 47, 0, (-6)) := by decide +kernel
theorem e_154_47 : dec prog_9_method_61_code 47 = some (.istore_n 1, 48, 1, 0) := by decide +kernel
theorem e_154_48 : dec prog_9_method_61_code 48 = some (.aload_n 0, 49, 0, 0) := by decide +kernel
theorem e_154_49 : dec prog_9_method_61_code 49 = some (.dup, 50, 0, 0) := by decide +kernel
theorem e_154_50 : dec prog_9_method_61_code 50 = some (.getfield 161, 53, 0, 0) := by decide +kernel
theorem e_154_53 : dec prog_9_method_61_code 53 = some (.iload_n 1, 54, 1, 0) := by decide +kernel
theorem e_154_54 : dec prog_9_method_61_code 54 = some (.bipush (-6), 56, 0, (-6)) := by decide +kernel
theorem e_154_56 : dec prog_9_method_61_code 56 = some (.if_icmp .ne 7, 59, 63, 0) := by decide +kernel
theorem e_154_59 : dec prog_9_method_61_code 59 = some (.iconst 0, 60, 0, 0) := by decide +kernel
theorem e_154_60 : dec prog_9_method_61_code 60 = some (.goto 4, 63, 64, 0) := by decide +kernel
theorem e_154_63 : dec prog_9_method_61_code 63 = some (.iconst 1, 64, 0, 1) := by decide +kernel
theorem e_154_64 : dec prog_9_method_61_code 64 = some (.iadd, 65, 0, 0) := by decide +kernel
theorem e_154_65 : dec prog_9_method_61_code 65 = some (.putfield 161, 68, 0, 0) := by decide +kernel
theorem e_154_68 : dec prog_9_method_61_code 68 = some (.iload_n 1, 69, 1, 0) := by decide +kernel
theorem e_154_69 : dec prog_9_method_61_code 69 = some (.ireturn, 70, 0, 0) := by decide +kernel
theorem E_154 : dec prog_9_method_61_code 0 = some (.aload_n 0, 1, 0, 0) ∧ dec prog_9_method_61_code 1 = some (.bipush 112, 3, 0, 112) ∧ dec prog_9_method_61_code 3 = some (.bipush 112, 5, 0, 112) ∧ dec prog_9_method_61_code 5 = some (.invokevirtual 164, 8, 0, 0) ∧ dec prog_9_method_61_code 8 = some (.ifCond .eq 7, 11, 15, 0) ∧ dec prog_9_method_61_code 11 = some (.iconst 0, 12, 0, 0) ∧ dec prog_9_method_61_code 12 = some (.goto 35, 15, 47, 0) ∧ dec prog_9_method_61_code 15 = some (.aload_n 0, 16, 0, 0) ∧ dec prog_9_method_61_code 16 = some (.bipush 98, 18, 0, 98) ∧ dec prog_9_method_61_code 18 = some (.bipush 98, 20, 0, 98) ∧ dec prog_9_method_61_code 20 = some (.invokevirtual 164, 23, 0, 0) ∧ dec prog_9_method_61_code 23 = some (.ifCond .eq 7, 26, 30, 0) ∧ dec prog_9_method_61_code 26 = some (.iconst 1, 27, 0, 1) ∧ dec prog_9_method_61_code 27 = some (.goto 20, 30, 47, 0) ∧ dec prog_9_method_61_code 30 = some (.aload_n 0, 31, 0, 0) ∧ dec prog_9_method_61_code 31 = some (.bipush 120, 33, 0, 120) ∧ dec prog_9_method_61_code 33 = some (.bipush 120, 35, 0, 120) ∧ dec prog_9_method_61_code 35 = some (.invokevirtual 164, 38, 0, 0) ∧ dec prog_9_method_61_code 38 = some (.ifCond .eq 7, 41, 45, 0) ∧ dec prog_9_method_61_code 41 = some (.iconst 2, 42, 0, 2) ∧ dec prog_9_method_61_code 42 = some (.goto 5, 45, 47, 0) ∧ dec prog_9_method_61_code 45 = some (.bipush (-6), 47, 0, (-6)) ∧ dec prog_9_method_61_code 47 = some (.istore_n 1, 48, 1, 0) ∧ dec prog_9_method_61_code 48 = some (.aload_n 0, 49, 0, 0) ∧ dec prog_9_method_61_code 49 = some (.dup, 50, 0, 0) ∧ dec prog_9_method_61_code 50 = some (.getfield 161, 53, 0, 0) ∧ dec prog_9_method_61_code 53 = some (.iload_n 1, 54, 1, 0) ∧ dec prog_9_method_61_code 54 = some (.bipush (-6), 56, 0, (-6)) ∧ dec prog_9_method_61_code 56 = some (.if_icmp .ne 7, 59, 63, 0) ∧ dec prog_9_method_61_code 59 = some (.iconst 0, 60, 0, 0) ∧ dec prog_9_method_61_code 60 = some (.goto 4, 63, 64, 0) ∧ dec prog_9_method_61_code 63 = some (.iconst 1, 64, 0, 1) ∧ dec prog_9_method_61_code 64 = some (.iadd, 65, 0, 0) ∧ dec prog_9_method_61_code 65 = some (.putfield 161, 68, 0, 0) ∧ dec prog_9_method_61_code 68 = some (.iload_n 1, 69, 1, 0) ∧ dec prog_9_method_61_code 69 = some (.ireturn, 70, 0, 0) := ⟨e_154_0, e_154_1, e_154_3, e_154_5, e_154_8, e_154_11, e_154_12, e_154_15, e_154_16, e_154_18, e_154_20, e_154_23, e_154_26, e_154_27, e_154_30, e_154_31, e_154_33, e_154_35, e_154_38, e_154_41, e_154_42, e_154_45, e_154_47, e_154_48, e_154_49, e_154_50, e_154_53, e_154_54, e_154_56, e_154_59, e_154_60, e_154_63, e_154_64, e_154_65, e_154_68, e_154_69⟩
theorem e_155_0 : dec prog_9_method_62_code 0 = some (.aload_n 0, 1, 0, 0) := by decide +kernel
theorem e_155_1 : dec prog_9_method_62_code 1 = some (.getfield 161, 4, 0, 0) := by decide +kernel
theorem e_155_4 : dec prog_9_method_62_code 4 = some (.aload_n 0, 5, 0, 0) := by decide +kernel
theorem e_155_5 : dec prog_9_method_62_code 5 = some (.getfield 150, 8, 0, 0) := by decide +kernel
theorem e_155_8 : dec prog_9_method_62_code 8 = some (.if_icmp .ge 15, 11, 23, 0) := by decide +kernel
theorem e_155_11 : dec prog_9_method_62_code 11 = some (.aload_n 0, 12, 0, 0) := by decide +kernel
theorem e_155_12 : dec prog_9_method_62_code 12 = some (.getfield 26, 15, 0, 0) := by decide +kernel
theorem e_155_15 : dec prog_9_method_62_code 15 = some (.aload_n 0, 16, 0, 0) := by decide +kernel
theorem e_155_16 : dec prog_9_method_62_code 16 = some (.getfield 161, 19, 0, 0) := by decide +kernel
theorem e_155_19 : dec prog_9_method_62_code 19 = some (.iaload, 20, 0, 0) := by decide +kernel
theorem e_155_20 : dec prog_9_method_62_code 20 = some (.goto 4, 23, 24, 0) := by decide +kernel
theorem e_155_23 : dec prog_9_method_62_code 23 = some (.iconst 0, 24, 0, 0) := by decide +kernel
theorem e_155_24 : dec prog_9_method_62_code 24 = some (.istore_n 1, 25, 1, 0) := by decide +kernel
theorem e_155_25 : dec prog_9_method_62_code 25 = some (.iload_n 1, 26, 1, 0) := by decide +kernel
theorem e_155_26 : dec prog_9_method_62_code 26 = some (.bipush 99, 28, 0, 99) := by decide +kernel
theorem e_155_28 : dec prog_9_method_62_code 28 = some (.if_icmp .eq 23, 31, 51, 0) := by decide +kernel
theorem e_155_31 : dec prog_9_method_62_code 31 = some (.iload_n 1, 32, 1, 0) := by decide +kernel
theorem e_155_32 : dec prog_9_method_62_code 32 = some (.bipush 112, 34, 0, 112) := by decide +kernel
theorem e_155_34 : dec prog_9_method_62_code 34 = some (.if_icmp .eq 17, 37, 51, 0) := by decide +kernel
theorem e_155_37 : dec prog_9_method_62_code 37 = some (.iload_n 1, 38, 1, 0) := by decide +kernel
theorem e_155_38 : dec prog_9_method_62_code 38 = some (.bipush 110, 40, 0, 110) := by decide +kernel
theorem e_155_40 : dec prog_9_method_62_code 40 = some (.if_icmp .eq 11, 43, 51, 0) := by decide +kernel
theorem e_155_43 : dec prog_9_method_62_code 43 = some (.iload_n 1, 44, 1, 0) := by decide +kernel
theorem e_155_44 : dec prog_9_method_62_code 44 = some (.bipush 97, 46, 0, 97) := by decide +kernel
theorem e_155_46 : dec prog_9_method_62_code 46 = some (.if_icmp .eq 5, 49, 51, 0) := by decide +kernel
theorem e_155_49 : dec prog_9_method_62_code 49 = some (.iconst 0, 50, 0, 0) := by decide +kernel
theorem e_155_50 : dec prog_9_method_62_code 50 = some (.ireturn, 51, 0, 0) := by decide +kernel
theorem e_155_51 : dec prog_9_method_62_code 51 = some (.aload_n 0, 52, 0, 0) := by decide +kernel
theorem e_155_52 : dec prog_9_method_62_code 52 = some (.dup, 53, 0, 0) := by decide +kernel
theorem e_155_53 : dec prog_9_method_62_code 53 = some (.getfield 161, 56, 0, 0) := by decide +kernel
theorem e_155_56 : dec prog_9_method_62_code 56 = some (.iconst 1, 57, 0, 1) := by decide +kernel
theorem e_155_57 : dec prog_9_method_62_code 57 = some (.iadd, 58, 0, 0) := by decide +kernel
theorem e_155_58 : dec prog_9_method_62_code 58 = some (.putfield 161, 61, 0, 0) := by decide +kernel
theorem e_155_61 : dec prog_9_method_62_code 61 = some (.iload_n 1, 62, 1, 0) := by decide +kernel
theorem e_155_62 : dec prog_9_method_62_code 62 = some (.bipush 110, 64, 0, 110) := by decide +kernel
theorem e_155_64 : dec prog_9_method_62_code 64 = some (.if_icmp .ne 10, 67, 74, 0) := by decide +kernel
theorem e_155_67 : dec prog_9_method_62_code 67 = some (.aload_n 0, 68, 0, 0) := by decide +kernel
theorem e_155_68 : dec prog_9_method_62_code 68 = some (.invokevirtual 167, 71, 0, 0) := by decide +kernel
theorem e_155_71 : dec prog_9_method_62_code 71 = some (.goto 18, 74, 89, 0) := by decide +kernel
theorem e_155_74 : dec prog_9_method_62_code 74 = some (.aload_n 0, 75, 0, 0) := by decide +kernel
theorem e_155_75 : dec prog_9_method_62_code 75 = some (.iload_n 1, 76, 1, 0) := by decide +kernel
theorem e_155_76 : dec prog_9_method_62_code 76 = some (.bipush 99, 78, 0, 99) := by decide +kernel
theorem e_155_78 : dec prog_9_method_62_code 78 = some (.if_icmp .ne 7, 81, 85, 0) := by decide +kernel
theorem e_155_81 : dec prog_9_method_62_code 81 = some (.iconst 2, 82, 0, 2) := by decide +kernel
theorem e_155_82 : dec prog_9_method_62_code 82 = some (.goto 4, 85, 86, 0) := by decide +kernel
theorem e_155_85 : dec prog_9_method_62_code 85 = some (.iconst 1, 86, 0, 1) := by decide +kernel
theorem e_155_86 : dec prog_9_method_62_code 86 = some (.invokevirtual 170, 89, 0, 0) := by decide +kernel
theorem e_155_89 : dec prog_9_method_62_code 89 = some (.istore_n 2, 90, 2, 0) := by decide +kernel
theorem e_155_90 : dec prog_9_method_62_code 90 = some (.iconst 0, 91, 0, 0) := by decide +kernel
theorem e_155_91 : dec prog_9_method_62_code 91 = some (.istore_n 3, 92, 3, 0) := by decide +kernel
theorem e_155_92 : dec prog_9_method_62_code 92 = some (.iconst 0, 93, 0, 0) := by decide +kernel
theorem e_155_93 : dec prog_9_method_62_code 93 = some (.istore 4, 95, 4, 0) := by decide +kernel
theorem e_155_95 : dec prog_9_method_62_code 95 = some (.iload_n 2, 96, 2, 0) := by decide +kernel
theorem e_155_96 : dec prog_9_method_62_code 96 = some (.bipush (-6), 98, 0, (-6)) := by decide +kernel
theorem e_155_98 : dec prog_9_method_62_code 98 = some (.if_icmp .eq 24, 101, 122, 0) := by decide +kernel
theorem e_155_101 : dec prog_9_method_62_code 101 = some (.iload_n 1, 102, 1, 0) := by decide +kernel
theorem e_155_102 : dec prog_9_method_62_code 102 = some (.bipush 112, 104, 0, 112) := by decide +kernel
theorem e_155_104 : dec prog_9_method_62_code 104 = some (.if_icmp .ne 18, 107, 122, 0) := by decide +kernel
theorem e_155_107 : dec prog_9_method_62_code 107 = some (.aload_n 0, 108, 0, 0) := by decide +kernel
theorem e_155_108 : dec prog_9_method_62_code 108 = some (.bipush 47, 110, 0, 47) := by decide +kernel
theorem e_155_110 : dec prog_9_method_62_code 110 = some (.invokevirtual 173, 113, 0, 0) := by decide +kernel
theorem e_155_113 : dec prog_9_method_62_code 113 = some (.ifCond .eq 9, 116, 122, 0) := by decide +kernel
theorem e_155_116 : dec prog_9_method_62_code 116 = some (.aload_n 0, 117, 0, 0) := by decide +kernel
theorem e_155_117 : dec prog_9_method_62_code 117 = some (.iconst 1, 118, 0, 1) := by decide +kernel
theorem e_155_118 : dec prog_9_method_62_code 118 = some (.invokevirtual 170, 121, 0, 0) := by decide +kernel
theorem e_155_121 : dec prog_9_method_62_code 121 = some (.istore_n 3, 122, 3, 0) := by decide +kernel
theorem e_155_122 : dec prog_9_method_62_code 122 = some (.iload_n 2, 123, 2, 0) := by decide +kernel
theorem e_155_123 : dec prog_9_method_62_code 123 = some (.bipush (-6), 125, 0, (-6)) := by decide +kernel
theorem e_155_125 : dec prog_9_method_62_code 125 = some (.if_icmp .eq 42, 128, 167, 0) := by decide +kernel
theorem e_155_128 : dec prog_9_method_62_code 128 = some (.iload_n 1, 129, 1, 0) := by decide +kernel
theorem e_155_129 : dec prog_9_method_62_code 129 = some (.bipush 110, 131, 0, 110) := by decide +kernel
theorem e_155_131 : dec prog_9_method_62_code 131 = some (.if_icmp .ne 36, 134, 167, 0) := by decide +kernel
theorem e_155_134 : dec prog_9_method_62_code 134 = some (.aload_n 0, 135, 0, 0) := by decide +kernel
theorem e_155_135 : dec prog_9_method_62_code 135 = some (.iconst 2, 136, 0, 2) := by decide +kernel
theorem e_155_136 : dec prog_9_method_62_code 136 = some (.invokevirtual 170, 139, 0, 0) := by decide +kernel
theorem e_155_139 : dec prog_9_method_62_code 139 = some (.istore_n 3, 140, 3, 0) := by decide +kernel
theorem e_155_140 : dec prog_9_method_62_code 140 = some (.iload_n 3, 141, 3, 0) := by decide +kernel
theorem e_155_141 : dec prog_9_method_62_code 141 = some (.bipush (-6), 143, 0, (-6)) := by decide +kernel
theorem e_155_143 : dec prog_9_method_62_code 143 = some (.if_icmp .eq 20, 146, 163, 0) := by decide +kernel
theorem e_155_146 : dec prog_9_method_62_code 146 = some (.aload_n 0, 147, 0, 0) := by decide +kernel
theorem e_155_147 : dec prog_9_method_62_code 147 = some (.bipush 61, 149, 0, 61) := by decide +kernel
theorem e_155_149 : dec prog_9_method_62_code 149 = some (.invokevirtual 173, 152, 0, 0) := by decide +kernel
theorem e_155_152 : dec prog_9_method_62_code 152 = some (.ifCond .eq 11, 155, 163, 0) := by decide +kernel
theorem e_155_155 : dec prog_9_method_62_code 155 = some (.aload_n 0, 156, 0, 0) := by decide +kernel
theorem e_155_156 : dec prog_9_method_62_code 156 = some (.iconst 2, 157, 0, 2) := by decide +kernel
theorem e_155_157 : dec prog_9_method_62_code 157 = some (.invokevirtual 170, 160, 0, 0) := by decide +kernel
theorem e_155_160 : dec prog_9_method_62_code 160 = some (.goto 5, 163, 165, 0) := by decide +kernel
theorem e_155_163 : dec prog_9_method_62_code 163 = some (.bipush (-6), 165, 0, (-6)) := by decide +kernel
theorem e_155_165 : dec prog_9_method_62_code 165 = some (.istore 4, 167, 4, 0) := by decide +kernel
theorem e_155_167 : dec prog_9_method_62_code 167 = some (.aload_n 0, 168, 0, 0) := by decide +kernel
theorem e_155_168 : dec prog_9_method_62_code 168 = some (.getfield 29, 171, 0, 0) := by decide +kernel
theorem e_155_171 : dec prog_9_method_62_code 171 = some (.iconst 4, 172, 0, 4) := by decide +kernel
theorem e_155_172 : dec prog_9_method_62_code 172 = some (.aload_n 0, 173, 0, 0) := by decide +kernel
theorem e_155_173 : dec prog_9_method_62_code 173 = some (.getfield 176, 176, 0, 0) := by decide +kernel
theorem e_155_176 : dec prog_9_method_62_code 176 = some (.imul, 177, 0, 0) := by decide +kernel
theorem e_155_177 : dec prog_9_method_62_code 177 = some (.iload_n 1, 178, 1, 0) := by decide +kernel
theorem e_155_178 : dec prog_9_method_62_code 178 = some (.iastore, 179, 0, 0) := by decide +kernel
theorem e_155_179 : dec prog_9_method_62_code 179 = some (.aload_n 0, 180, 0, 0) := by decide +kernel
theorem e_155_180 : dec prog_9_method_62_code 180 = some (.getfield 29, 183, 0, 0) := by decide +kernel
theorem e_155_183 : dec prog_9_method_62_code 183 = some (.iconst 4, 184, 0, 4) := by decide +kernel
theorem e_155_184 : dec prog_9_method_62_code 184 = some (.aload_n 0, 185, 0, 0) := by decide +kernel
theorem e_155_185 : dec prog_9_method_62_code 185 = some (.getfield 176, 188, 0, 0) := by decide +kernel
theorem e_155_188 : dec prog_9_method_62_code 188 = some (.imul, 189, 0, 0) := by decide +kernel
theorem e_155_189 : dec prog_9_method_62_code 189 = some (.iconst 1, 190, 0, 1) := by decide +kernel
theorem e_155_190 : dec prog_9_method_62_code 190 = some (.iadd, 191, 0, 0) := by decide +kernel
theorem e_155_191 : dec prog_9_method_62_code 191 = some (.iload_n 2, 192, 2, 0) := by decide +kernel
theorem e_155_192 : dec prog_9_method_62_code 192 = some (.iastore, 193, 0, 0) := by decide +kernel
theorem e_155_193 : dec prog_9_method_62_code 193 = some (.aload_n 0, 194, 0, 0) := by decide +kernel
theorem e_155_194 : dec prog_9_method_62_code 194 = some (.getfield 29, 197, 0, 0) := by decide +kernel
theorem e_155_197 : dec prog_9_method_62_code 197 = some (.iconst 4, 198, 0, 4) := by decide +kernel
theorem e_155_198 : dec prog_9_method_62_code 198 = some (.aload_n 0, 199, 0, 0) := by decide +kernel
theorem e_155_199 : dec prog_9_method_62_code 199 = some (.getfield 176, 202, 0, 0) := by decide +kernel
theorem e_155_202 : dec prog_9_method_62_code 202 = some (.imul, 203, 0, 0) := by decide +kernel
theorem e_155_203 : dec prog_9_method_62_code 203 = some (.iconst 2, 204, 0, 2) := by decide +kernel
theorem e_155_204 : dec prog_9_method_62_code 204 = some (.iadd, 205, 0, 0) := by decide +kernel
theorem e_155_205 : dec prog_9_method_62_code 205 = some (.iload_n 3, 206, 3, 0) := by decide +kernel
theorem e_155_206 : dec prog_9_method_62_code 206 = some (.iastore, 207, 0, 0) := by decide +kernel
theorem e_155_207 : dec prog_9_method_62_code 207 = some (.aload_n 0, 208, 0, 0) := by decide +kernel
theorem e_155_208 : dec prog_9_method_62_code 208 = some (.getfield 29, 211, 0, 0) := by decide +kernel
theorem e_155_211 : dec prog_9_method_62_code 211 = some (.iconst 4, 212, 0, 4) := by decide +kernel
theorem e_155_212 : dec prog_9_method_62_code 212 = some (.aload_n 0, 213, 0, 0) := by decide +kernel
theorem e_155_213 : dec prog_9_method_62_code 213 = some (.getfield 176, 216, 0, 0) := by decide +kernel
theorem e_155_216 : dec prog_9_method_62_code 216 = some (.imul, 217, 0, 0) := by decide +kernel
theorem e_155_217 : dec prog_9_method_62_code 217 = some (.iconst 3, 218, 0, 3) := by decide +kernel
theorem e_155_218 : dec prog_9_method_62_code 218 = some (.iadd, 219, 0, 0) := by decide +kernel
theorem e_155_219 : dec prog_9_method_62_code 219 = some (.iload 4, 221, 4, 0) := by decide +kernel
theorem e_155_221 : dec prog_9_method_62_code 221 = some (.iastore, 222, 0, 0) := by decide +kernel
theorem e_155_222 : dec prog_9_method_62_code 222 = some (.aload_n 0, 223, 0, 0) := by decide +kernel
theorem e_155_223 : dec prog_9_method_62_code 223 = some (.dup, 224, 0, 0) := by decide +kernel
theorem e_155_224 : dec prog_9_method_62_code 224 = some (.getfield 176, 227, 0, 0) := by decide +kernel
theorem e_155_227 : dec prog_9_method_62_code 227 = some (.iconst 1, 228, 0, 1) := by decide +kernel
theorem e_155_228 : dec prog_9_method_62_code 228 = some (.iadd, 229, 0, 0) := by decide +kernel
theorem e_155_229 : dec prog_9_method_62_code 229 = some (.putfield 176, 232, 0, 0) := by decide +kernel
theorem e_155_232 : dec prog_9_method_62_code 232 = some (.iload_n 2, 233, 2, 0) := by decide +kernel
theorem e_155_233 : dec prog_9_method_62_code 233 = some (.bipush (-6), 235, 0, (-6)) := by decide +kernel
theorem e_155_235 : dec prog_9_method_62_code 235 = some (.if_icmp .eq 20, 238, 255, 0) := by decide +kernel
theorem e_155_238 : dec prog_9_method_62_code 238 = some (.iload_n 3, 239, 3, 0) := by decide +kernel
theorem e_155_239 : dec prog_9_method_62_code 239 = some (.bipush (-6), 241, 0, (-6)) := by decide +kernel
theorem e_155_241 : dec prog_9_method_62_code 241 = some (.if_icmp .eq 14, 244, 255, 0) := by decide +kernel
theorem e_155_244 : dec prog_9_method_62_code 244 = some (.iload 4, 246, 4, 0) := by decide +kernel
theorem e_155_246 : dec prog_9_method_62_code 246 = some (.bipush (-6), 248, 0, (-6)) := by decide +kernel
theorem e_155_248 : dec prog_9_method_62_code 248 = some (.if_icmp .eq 7, 251, 255, 0) := by decide +kernel
theorem e_155_251 : dec prog_9_method_62_code 251 = some (.iconst 1, 252, 0, 1) := by decide +kernel
theorem e_155_252 : dec prog_9_method_62_code 252 = some (.goto 4, 255, 256, 0) := by decide +kernel
theorem e_155_255 : dec prog_9_method_62_code 255 = some (.iconst 0, 256, 0, 0) := by decide +kernel
theorem e_155_256 : dec prog_9_method_62_code 256 = some (.ireturn, 257, 0, 0) := by decide +kernel
theorem E_155 : dec prog_9_method_62_code 0 = some (.aload_n 0, 1, 0, 0) ∧ dec prog_9_method_62_code 1 = some (.getfield 161, 4, 0, 0) ∧ dec prog_9_method_62_code 4 = some (.aload_n 0, 5, 0, 0) ∧ dec prog_9_method_62_code 5 = some (.getfield 150, 8, 0, 0) ∧ dec prog_9_method_62_code 8 = some (.if_icmp .ge 15, 11, 23, 0) ∧ dec prog_9_method_62_code 11 = some (.aload_n 0, 12, 0, 0) ∧ dec prog_9_method_62_code 12 = some (.getfield 26, 15, 0, 0) ∧ dec prog_9_method_62_code 15 = some (.aload_n 0, 16, 0, 0) ∧ dec prog_9_method_62_code 16 = some (.getfield 161, 19, 0, 0) ∧ dec prog_9_method_62_code 19 = some (.iaload, 20, 0, 0) ∧ dec prog_9_method_62_code 20 = some (.goto 4, 23, 24, 0) ∧ dec prog_9_method_62_code 23 = some (.iconst 0, 24, 0, 0) ∧ dec prog_9_method_62_code 24 = some (.istore_n 1, 25, 1, 0) ∧ dec prog_9_method_62_code 25 = some (.iload_n 1, 26, 1, 0) ∧ dec prog_9_method_62_code 26 = some (.bipush 99, 28, 0, 99) ∧ dec prog_9_method_62_code 28 = some (.if_icmp .eq 23, 31, 51, 0) ∧ dec prog_9_method_62_code 31 = some (.iload_n 1, 32, 1, 0) ∧ dec prog_9_method_62_code 32 = some (.bipush 112, 34, 0, 112) ∧ dec prog_9_method_62_code 34 = some (.if_icmp .eq 17, 37, 51, 0) ∧ dec prog_9_method_62_code 37 = some (.iload_n 1, 38, 1, 0) ∧ dec prog_9_method_62_code 38 = some (.bipush 110, 40, 0, 110) ∧ dec prog_9_method_62_code 40 = some (.if_icmp .eq 11, 43, 51, 0) ∧ dec prog_9_method_62_code 43 = some (.iload_n 1, 44, 1, 0) ∧ dec prog_9_method_62_code 44 = some (.bipush 97, 46, 0, 97) ∧ dec prog_9_method_62_code 46 = some (.if_icmp .eq 5, 49, 51, 0) ∧ dec prog_9_method_62_code 49 = some (.iconst 0, 50, 0, 0) ∧ dec prog_9_method_62_code 50 = some (.ireturn, 51, 0, 0) ∧ dec prog_9_method_62_code 51 = some (.aload_n 0, 52, 0, 0) ∧ dec prog_9_method_62_code 52 = some (.dup, 53, 0, 0) ∧ dec prog_9_method_62_code 53 = some (.getfield 161, 56, 0, 0) ∧ dec prog_9_method_62_code 56 = some (.iconst 1, 57, 0, 1) ∧ dec prog_9_method_62_code 57 = some (.iadd, 58, 0, 0) ∧ dec prog_9_method_62_code 58 = some (.putfield 161, 61, 0, 0) ∧ dec prog_9_method_62_code 61 = some (.iload_n 1, 62, 1, 0) ∧ dec prog_9_method_62_code 62 = some (.bipush 110, 64, 0, 110) ∧ dec prog_9_method_62_code 64 = some (.if_icmp .ne 10, 67, 74, 0) ∧ dec prog_9_method_62_code 67 = some (.aload_n 0, 68, 0, 0) ∧ dec prog_9_method_62_code 68 = some (.invokevirtual 167, 71, 0, 0) ∧ dec prog_9_method_62_code 71 = some (.goto 18, 74, 89, 0) ∧ dec prog_9_method_62_code 74 = some (.aload_n 0, 75, 0, 0) ∧ dec prog_9_method_62_code 75 = some (.iload_n 1, 76, 1, 0) ∧ dec prog_9_method_62_code 76 = some (.bipush 99, 78, 0, 99) ∧ dec prog_9_method_62_code 78 = some (.if_icmp .ne 7, 81, 85, 0) ∧ dec prog_9_method_62_code 81 = some (.iconst 2, 82, 0, 2) ∧ dec prog_9_method_62_code 82 = some (.goto 4, 85, 86, 0) ∧ dec prog_9_method_62_code 85 = some (.iconst 1, 86, 0, 1) ∧ dec prog_9_method_62_code 86 = some (.invokevirtual 170, 89, 0, 0) ∧ dec prog_9_method_62_code 89 = some (.istore_n 2, 90, 2, 0) ∧ dec prog_9_method_62_code 90 = some (.iconst 0, 91, 0, 0) ∧ dec prog_9_method_62_code 91 = some (.istore_n 3, 92, 3, 0) ∧ dec prog_9_method_62_code 92 = some (.iconst 0, 93, 0, 0) ∧ dec prog_9_method_62_code 93 = some (.istore 4, 95, 4, 0) ∧ dec prog_9_method_62_code 95 = some (.iload_n 2, 96, 2, 0) ∧ dec prog_9_method_62_code 96 = some (.bipush (-6), 98, 0, (-6)) ∧ dec prog_9_method_62_code 98 = some (.if_icmp .eq 24, 101, 122, 0) ∧ dec prog_9_method_62_code 101 = some (.iload_n 1, 102, 1, 0) ∧ dec prog_9_method_62_code 102 = some (.bipush 112, 104, 0, 112) ∧ dec prog_9_method_62_code 104 = some (.if_icmp .ne 18, 107, 122, 0) ∧ dec prog_9_method_62_code 107 = some (.aload_n 0, 108, 0, 0) ∧ dec prog_9_method_62_code 108 = some (.bipush 47, 110, 0, 47) ∧ dec prog_9_method_62_code 110 = some (.invokevirtual 173, 113, 0, 0) ∧ dec prog_9_method_62_code 113 = some (.ifCond .eq 9, 116, 122, 0) ∧ dec prog_9_method_62_code 116 = some (.aload_n 0, 117, 0, 0) ∧ dec prog_9_method_62_code 117 = some (.iconst 1, 118, 0, 1) ∧ dec prog_9_method_62_code 118 = some (.invokevirtual 170, 121, 0, 0) ∧ dec prog_9_method_62_code 121 = some (.istore_n 3, 122, 3, 0) ∧ dec prog_9_method_62_code 122 = some (.iload_n 2, 123, 2, 0) ∧ dec prog_9_method_62_code 123 = some (.bipush (-6), 125, 0, (-6)) ∧ dec prog_9_method_62_code 125 = some (.if_icmp .eq 42, 128, 167, 0) ∧ dec prog_9_method_62_code 128 = some (.iload_n 1, 129, 1, 0) ∧ dec prog_9_method_62_code 129 = some (.bipush 110, 131, 0, 110) ∧ dec prog_9_method_62_code 131 = some (.if_icmp .ne 36, 134, 167, 0) ∧ dec prog_9_method_62_code 134 = some (.aload_n 0, 135, 0, 0) ∧ dec prog_9_method_62_code 135 = some (.iconst 2, 136, 0, 2) ∧ dec prog_9_method_62_code 136 = some (.invokevirtual 170, 139, 0, 0) ∧ dec prog_9_method_62_code 139 = some (.istore_n 3, 140, 3, 0) ∧ dec prog_9_method_62_code 140 = some (.iload_n 3, 141, 3, 0) ∧ dec prog_9_method_62_code 141 = some (.bipush (-6), 143, 0, (-6)) ∧ dec prog_9_method_62_code 143 = some (.if_icmp .eq 20, 146, 163, 0) ∧ dec prog_9_method_62_code 146 = some (.aload_n 0, 147, 0, 0) ∧ dec prog_9_method_62_code 147 = some (.bipush 61, 149, 0, 61) ∧ dec prog_9_method_62_code 149 = some (.invokevirtual 173, 152, 0, 0) ∧ dec prog_9_method_62_code 152 = some (.ifCond .eq 11, 155, 163, 0) ∧ dec prog_9_method_62_code 155 = some (.aload_n 0, 156, 0, 0) ∧ dec prog_9_method_62_code 156 = some (.iconst 2, 157, 0, 2) ∧ dec prog_9_method_62_code 157 = some (.invokevirtual 170, 160, 0, 0) ∧ dec prog_9_method_62_code 160 = some (.goto 5, 163, 165, 0) ∧ dec prog_9_method_62_code 163 = some (.bipush (-6), 165, 0, (-6)) ∧ dec prog_9_method_62_code 165 = some (.istore 4, 167, 4, 0) ∧ dec prog_9_method_62_code 167 = some (.aload_n 0, 168, 0, 0) ∧ dec prog_9_method_62_code 168 = some (.getfield 29, 171, 0, 0) ∧ dec prog_9_method_62_code 171 = some (.iconst 4, 172, 0, 4) ∧ dec prog_9_method_62_code 172 = some (.aload_n 0, 173, 0, 0) ∧ dec prog_9_method_62_code 173 = some (.getfield 176, 176, 0, 0) ∧ dec prog_9_method_62_code 176 = some (.imul, 177, 0, 0) ∧ dec prog_9_method_62_code 177 = some (.iload_n 1, 178, 1, 0) ∧ dec prog_9_method_62_code 178 = some (.iastore, 179, 0, 0) ∧ dec prog_9_method_62_code 179 = some (.aload_n 0, 180, 0, 0) ∧ dec prog_9_method_62_code 180 = some (.getfield 29, 183, 0, 0) ∧ dec prog_9_method_62_code 183 = some (.iconst 4, 184, 0, 4) ∧ dec prog_9_method_62_code 184 = some (.aload_n 0, 185, 0, 0) ∧ dec prog_9_method_62_code 185 = some (.getfield 176, 188, 0, 0) ∧ dec prog_9_method_62_code 188 = some (.imul, 189, 0, 0) ∧ dec prog_9_method_62_code 189 = some (.iconst 1, 190, 0, 1) ∧ dec prog_9_method_62_code 190 = some (.iadd, 191, 0, 0) ∧ dec prog_9_method_62_code 191 = some (.iload_n 2, 192, 2, 0) ∧ dec prog_9_method_62_code 192 = some (.iastore, 193, 0, 0) ∧ dec prog_9_method_62_code 193 = some (.aload_n 0, 194, 0, 0) ∧ dec prog_9_method_62_code 194 = some (.getfield 29, 197, 0, 0) ∧ dec prog_9_method_62_code 197 = some (.iconst 4, 198, 0, 4) ∧ dec prog_9_method_62_code 198 = some (.aload_n 0, 199, 0, 0) ∧ dec prog_9_method_62_code 199 = some (.getfield 176, 202, 0, 0) ∧ dec prog_9_method_62_code 202 = some (.imul, 203, 0, 0) ∧ dec prog_9_method_62_code 203 = some (.iconst 2, 204, 0, 2) ∧ dec prog_9_method_62_code 204 = some (.iadd, 205, 0, 0) ∧ dec prog_9_method_62_code 205 = some (.iload_n 3, 206, 3, 0) ∧ dec prog_9_method_62_code 206 = some (.iastore, 207, 0, 0) ∧ dec prog_9_method_62_code 207 = some (.aload_n 0, 208, 0, 0) ∧ dec prog_9_method_62_code 208 = some (.getfield 29, 211, 0, 0) ∧ dec prog_9_method_62_code 211 = some (.iconst 4, 212, 0, 4) ∧ dec prog_9_method_62_code 212 = some (.aload_n 0, 213, 0, 0) ∧ dec prog_9_method_62_code 213 = some (.getfield 176, 216, 0, 0) ∧ dec prog_9_method_62_code 216 = some (.imul, 217, 0, 0) ∧ dec prog_9_method_62_code 217 = some (.iconst 3, 218, 0, 3) ∧ dec prog_9_method_62_code 218 = some (.iadd, 219, 0, 0) ∧ dec prog_9_method_62_code 219 = some (.iload 4, 221, 4, 0) ∧ dec prog_9_method_62_code 221 = some (.iastore, 222, 0, 0) ∧ dec prog_9_method_62_code 222 = some (.aload_n 0, 223, 0, 0) ∧ dec prog_9_method_62_code 223 = some (.dup, 224, 0, 0) ∧ dec prog_9_method_62_code 224 = some (.getfield 176, 227, 0, 0) ∧ dec prog_9_method_62_code 227 = some (.iconst 1, 228, 0, 1) ∧ dec prog_9_method_62_code 228 = some (.iadd, 229, 0, 0) ∧ dec prog_9_method_62_code 229 = some (.putfield 176, 232, 0, 0) ∧ dec prog_9_method_62_code 232 = some (.iload_n 2, 233, 2, 0) ∧ dec prog_9_method_62_code 233 = some (.bipush (-6), 235, 0, (-6)) ∧ dec prog_9_method_62_code 235 = some (.if_icmp .eq 20, 238, 255, 0) ∧ dec prog_9_method_62_code 238 = some (.iload_n 3, 239, 3, 0) ∧ dec prog_9_method_62_code 239 = some (.bipush (-6), 241, 0, (-6)) ∧ dec prog_9_method_62_code 241 = some (.if_icmp .eq 14, 244, 255, 0) ∧ dec prog_9_method_62_code 244 = some (.iload 4, 246, 4, 0) ∧ dec prog_9_method_62_code 246 = some (.bipush (-6), 248, 0, (-6)) ∧ dec prog_9_method_62_code 248 = some (.if_icmp .eq 7, 251, 255, 0) ∧ dec prog_9_method_62_code 251 = some (.iconst 1, 252, 0, 1) ∧ dec prog_9_method_62_code 252 = some (.goto 4, 255, 256, 0) ∧ dec prog_9_method_62_code 255 = some (.iconst 0, 256, 0, 0) ∧ dec prog_9_method_62_code 256 = some (.ireturn, 257, 0, 0) := ⟨e_155_0, e_155_1, e_155_4, e_155_5, e_155_8, e_155_11, e_155_12, e_155_15, e_155_16, e_155_19, e_155_20, e_155_23, e_155_24, e_155_25, e_155_26, e_155_28, e_155_31, e_155_32, e_155_34, e_155_37, e_155_38, e_155_40, e_155_43, e_155_44, e_155_46, e_155_49, e_155_50, e_155_51, e_155_52, e_155_53, e_155_56, e_155_57, e_155_58, e_155_61, e_155_62, e_155_64, e_155_67, e_155_68, e_155_71, e_155_74, e_155_75, e_155_76, e_155_78, e_155_81, e_155_82, e_155_85, e_155_86, e_155_89, e_155_90, e_155_91, e_155_92, e_155_93, e_155_95, e_155_96, e_155_98, e_155_101, e_155_102, e_155_104, e_155_107, e_155_108, e_155_110, e_155_113, e_155_116, e_155_117, e_155_118, e_155_121, e_155_122, e_155_123, e_155_125, e_155_128, e_155_129, e_155_131, e_155_134, e_155_135, e_155_136, e_155_139, e_155_140, e_155_141, e_155_143, e_155_146, e_155_147, e_155_149, e_155_152, e_155_155, e_155_156, e_155_157, e_155_160, e_155_163, e_155_165, e_155_167, e_155_168, e_155_171, e_155_172, e_155_173, e_155_176, e_155_177, e_155_178, e_155_179, e_155_180, e_155_183, e_155_184, e_155_185, e_155_188, e_155_189, e_155_190, e_155_191, e_155_192, e_155_193, e_155_194, e_155_197, e_155_198, e_155_199, e_155_202, e_155_203, e_155_204, e_155_205, e_155_206, e_155_207, e_155_208, e_155_211, e_155_212, e_155_213, e_155_216, e_155_217, e_155_218, e_155_219, e_155_221, e_155_222, e_155_223, e_155_224, e_155_227, e_155_228, e_155_229, e_155_232, e_155_233, e_155_235, e_155_238, e_155_239, e_155_241, e_155_244, e_155_246, e_155_248, e_155_251, e_155_252, e_155_255, e_155_256⟩
theorem e_156_0 : dec prog_9_method_63_code 0 = some (.aload_n 0, 1, 0, 0) := by decide +kernel
theorem e_156_1 : dec prog_9_method_63_code 1 = some (.iconst 0, 2, 0, 0) := by decide +kernel
theorem e_156_2 : dec prog_9_method_63_code 2 = some (.putfield 161, 5, 0, 0) := by decide +kernel
theorem e_156_5 : dec prog_9_method_63_code 5 = some (.aload_n 0, 6, 0, 0) := by decide +kernel
theorem e_156_6 : dec prog_9_method_63_code 6 = some (.iconst 0, 7, 0, 0) := by decide +kernel
theorem e_156_7 : dec prog_9_method_63_code 7 = some (.putfield 176, 10, 0, 0) := by decide +kernel
theorem e_156_10 : dec prog_9_method_63_code 10 = some (.aload_n 0, 11, 0, 0) := by decide +kernel
theorem e_156_11 : dec prog_9_method_63_code 11 = some (.invokevirtual 179, 14, 0, 0) := by decide +kernel
theorem e_156_14 : dec prog_9_method_63_code 14 = some (.istore_n 1, 15, 1, 0) := by decide +kernel
theorem e_156_15 : dec prog_9_method_63_code 15 = some (.iload_n 1, 16, 1, 0) := by decide +kernel
theorem e_156_16 : dec prog_9_method_63_code 16 = some (.ifCond .eq 39, 19, 55, 0) := by decide +kernel
theorem e_156_19 : dec prog_9_method_63_code 19 = some (.aload_n 0, 20, 0, 0) := by decide +kernel
theorem e_156_20 : dec prog_9_method_63_code 20 = some (.getfield 161, 23, 0, 0) := by decide +kernel
theorem e_156_23 : dec prog_9_method_63_code 23 = some (.aload_n 0, 24, 0, 0) := by decide +kernel
theorem e_156_24 : dec prog_9_method_63_code 24 = some (.getfield 150, 27, 0, 0) := by decide +kernel
theorem e_156_27 : dec prog_9_method_63_code 27 = some (.if_icmp .ge 28, 30, 55, 0) := by decide +kernel
theorem e_156_30 : dec prog_9_method_63_code 30 = some (.aload_n 0, 31, 0, 0) := by decide +kernel
theorem e_156_31 : dec prog_9_method_63_code 31 = some (.bipush 59, 33, 0, 59) := by decide +kernel
theorem e_156_33 : dec prog_9_method_63_code 33 = some (.invokevirtual 173, 36, 0, 0) := by decide +kernel
theorem e_156_36 : dec prog_9_method_63_code 36 = some (.ifCond .eq 14, 39, 50, 0) := by decide +kernel
theorem e_156_39 : dec prog_9_method_63_code 39 = some (.aload_n 0, 40, 0, 0) := by decide +kernel
theorem e_156_40 : dec prog_9_method_63_code 40 = some (.invokevirtual 179, 43, 0, 0) := by decide +kernel
theorem e_156_43 : dec prog_9_method_63_code 43 = some (.ifCond .eq 7, 46, 50, 0) := by decide +kernel
theorem e_156_46 : dec prog_9_method_63_code 46 = some (.iconst 1, 47, 0, 1) := by decide +kernel
theorem e_156_47 : dec prog_9_method_63_code 47 = some (.goto 4, 50, 51, 0) := by decide +kernel
theorem e_156_50 : dec prog_9_method_63_code 50 = some (.iconst 0, 51, 0, 0) := by decide +kernel
theorem e_156_51 : dec prog_9_method_63_code 51 = some (.istore_n 1, 52, 1, 0) := by decide +kernel
theorem e_156_52 : dec prog_9_method_63_code 52 = some (.goto (-37), 55, 15, 0) := by decide +kernel
theorem e_156_55 : dec prog_9_method_63_code 55 = some (.iload_n 1, 56, 1, 0) := by decide +kernel
theorem e_156_56 : dec prog_9_method_63_code 56 = some (.ireturn, 57, 0, 0) := by decide +kernel
theorem E_156 : dec prog_9_method_63_code 0 = some (.aload_n 0, 1, 0, 0) ∧ dec prog_9_method_63_code 1 = some (.iconst 0, 2, 0, 0) ∧ dec prog_9_method_63_code 2 = some (.putfield 161, 5, 0, 0) ∧ dec prog_9_method_63_code 5 = some (.aload_n 0, 6, 0, 0) ∧ dec prog_9_method_63_code 6 = some (.iconst 0, 7, 0, 0) ∧ dec prog_9_method_63_code 7 = some (.putfield 176, 10, 0, 0) ∧ dec prog_9_method_63_code 10 = some (.aload_n 0, 11, 0, 0) ∧ dec prog_9_method_63_code 11 = some (.invokevirtual 179, 14, 0, 0) ∧ dec prog_9_method_63_code 14 = some (.istore_n 1, 15, 1, 0) ∧ dec prog_9_method_63_code 15 = some (.iload_n 1, 16, 1, 0) ∧ dec prog_9_method_63_code 16 = some (.ifCond .eq 39, 19, 55, 0) ∧ dec prog_9_method_63_code 19 = some (.aload_n 0, 20, 0, 0) ∧ dec prog_9_method_63_code 20 = some (.getfield 161, 23, 0, 0) ∧ dec prog_9_method_63_code 23 = some (.aload_n 0, 24, 0, 0) ∧ dec prog_9_method_63_code 24 = some (.getfield 150, 27, 0, 0) ∧ dec prog_9_method_63_code 27 = some (.if_icmp .ge 28, 30, 55, 0) ∧ dec prog_9_method_63_code 30 = some (.aload_n 0, 31, 0, 0) ∧ dec prog_9_method_63_code 31 = some (.bipush 59, 33, 0, 59) ∧ dec prog_9_method_63_code 33 = some (.invokevirtual 173, 36, 0, 0) ∧ dec prog_9_method_63_code 36 = some (.ifCond .eq 14, 39, 50, 0) ∧ dec prog_9_method_63_code 39 = some (.aload_n 0, 40, 0, 0) ∧ dec prog_9_method_63_code 40 = some (.invokevirtual 179, 43, 0, 0) ∧ dec prog_9_method_63_code 43 = some (.ifCond .eq 7, 46, 50, 0) ∧ dec prog_9_method_63_code 46 = some (.iconst 1, 47, 0, 1) ∧ dec prog_9_method_63_code 47 = some (.goto 4, 50, 51, 0) ∧ dec prog_9_method_63_code 50 = some (.iconst 0, 51, 0, 0) ∧ dec prog_9_method_63_code 51 = some (.istore_n 1, 52, 1, 0) ∧ dec prog_9_method_63_code 52 = some (.goto (-37), 55, 15, 0) ∧ dec prog_9_method_63_code 55 = some (.iload_n 1, 56, 1, 0) ∧ dec prog_9_method_63_code 56 = some (.ireturn, 57, 0, 0) := ⟨e_156_0, e_156_1, e_156_2, e_156_5, e_156_6, e_156_7, e_156_10, e_156_11, e_156_14, e_156_15, e_156_16, e_156_19, e_156_20, e_156_23, e_156_24, e_156_27, e_156_30, e_156_31, e_156_33, e_156_36, e_156_39, e_156_40, e_156_43, e_156_46, e_156_47, e_156_50, e_156_51, e_156_52, e_156_55, e_156_56⟩
theorem e_157_0 : dec prog_9_method_64_code 0 = some (.aload_n 0, 1, 0, 0) := by decide +kernel
theorem e_157_1 : dec prog_9_method_64_code 1 = some (.invokevirtual 183, 4, 0, 0) := by decide +kernel
theorem e_157_4 : dec prog_9_method_64_code 4 = some (.ifCond .eq 8, 7, 12, 0) := by decide +kernel
theorem e_157_7 : dec prog_9_method_64_code 7 = some (.bipush (-6), 9, 0, (-6)) := by decide +kernel
theorem e_157_9 : dec prog_9_method_64_code 9 = some (.goto 7, 12, 16, 0) := by decide +kernel
theorem e_157_12 : dec prog_9_method_64_code 12 = some (.aload_n 0, 13, 0, 0) := by decide +kernel
theorem e_157_13 : dec prog_9_method_64_code 13 = some (.getfield 161, 16, 0, 0) := by decide +kernel
theorem e_157_16 : dec prog_9_method_64_code 16 = some (.ireturn, 17, 0, 0) := by decide +kernel
theorem E_157 : dec prog_9_method_64_code 0 = some (.aload_n 0, 1, 0, 0) ∧ dec prog_9_method_64_code 1 = some (.invokevirtual 183, 4, 0, 0) ∧ dec prog_9_method_64_code 4 = some (.ifCond .eq 8, 7, 12, 0) ∧ dec prog_9_method_64_code 7 = some (.bipush (-6), 9, 0, (-6)) ∧ dec prog_9_method_64_code 9 = some (.goto 7, 12, 16, 0) ∧ dec prog_9_method_64_code 12 = some (.aload_n 0, 13, 0, 0) ∧ dec prog_9_method_64_code 13 = some (.getfield 161, 16, 0, 0) ∧ dec prog_9_method_64_code 16 = some (.ireturn, 17, 0, 0) := ⟨e_157_0, e_157_1, e_157_4, e_157_7, e_157_9, e_157_12, e_157_13, e_157_16⟩
theorem e_158_0 : dec prog_9_method_65_code 0 = some (.aload_n 0, 1, 0, 0) := by decide +kernel
theorem e_158_1 : dec prog_9_method_65_code 1 = some (.getfield 29, 4, 0, 0) := by decide +kernel
theorem e_158_4 : dec prog_9_method_65_code 4 = some (.iconst 4, 5, 0, 4) := by decide +kernel
theorem e_158_5 : dec prog_9_method_65_code 5 = some (.iload_n 1, 6, 1, 0) := by decide +kernel
theorem e_158_6 : dec prog_9_method_65_code 6 = some (.imul, 7, 0, 0) := by decide +kernel
theorem e_158_7 : dec prog_9_method_65_code 7 = some (.iconst 1, 8, 0, 1) := by decide +kernel
theorem e_158_8 : dec prog_9_method_65_code 8 = some (.iadd, 9, 0, 0) := by decide +kernel
theorem e_158_9 : dec prog_9_method_65_code 9 = some (.iaload, 10, 0, 0) := by decide +kernel
theorem e_158_10 : dec prog_9_method_65_code 10 = some (.istore_n 2, 11, 2, 0) := by decide +kernel
theorem e_158_11 : dec prog_9_method_65_code 11 = some (.aload_n 0, 12, 0, 0) := by decide +kernel
theorem e_158_12 : dec prog_9_method_65_code 12 = some (.getfield 29, 15, 0, 0) := by decide +kernel
theorem e_158_15 : dec prog_9_method_65_code 15 = some (.iconst 4, 16, 0, 4) := by decide +kernel
theorem e_158_16 : dec prog_9_method_65_code 16 = some (.iload_n 1, 17, 1, 0) := by decide +kernel
theorem e_158_17 : dec prog_9_method_65_code 17 = some (.imul, 18, 0, 0) := by decide +kernel
theorem e_158_18 : dec prog_9_method_65_code 18 = some (.iaload, 19, 0, 0) := by decide +kernel
theorem e_158_19 : dec prog_9_method_65_code 19 = some (.lookupswitch 81 #[(99, 33), (110, 55), (112, 39)], 52, 0, 0) := by decide +kernel
theorem e_158_52 : dec prog_9_method_65_code 52 = some (.aload_n 0, 53, 0, 0) := by decide +kernel
theorem e_158_53 : dec prog_9_method_65_code 53 = some (.iload_n 2, 54, 2, 0) := by decide +kernel
theorem e_158_54 : dec prog_9_method_65_code 54 = some (.invokevirtual 91, 57, 0, 0) := by decide +kernel
theorem e_158_57 : dec prog_9_method_65_code 57 = some (.ireturn, 58, 0, 0) := by decide +kernel
theorem e_158_58 : dec prog_9_method_65_code 58 = some (.aload_n 0, 59, 0, 0) := by decide +kernel
theorem e_158_59 : dec prog_9_method_65_code 59 = some (.iload_n 2, 60, 2, 0) := by decide +kernel
theorem e_158_60 : dec prog_9_method_65_code 60 = some (.aload_n 0, 61, 0, 0) := by decide +kernel
theorem e_158_61 : dec prog_9_method_65_code 61 = some (.getfield 29, 64, 0, 0) := by decide +kernel
theorem e_158_64 : dec prog_9_method_65_code 64 = some (.iconst 4, 65, 0, 4) := by decide +kernel
theorem e_158_65 : dec prog_9_method_65_code 65 = some (.iload_n 1, 66, 1, 0) := by decide +kernel
theorem e_158_66 : dec prog_9_method_65_code 66 = some (.imul, 67, 0, 0) := by decide +kernel
theorem e_158_67 : dec prog_9_method_65_code 67 = some (.iconst 2, 68, 0, 2) := by decide +kernel
theorem e_158_68 : dec prog_9_method_65_code 68 = some (.iadd, 69, 0, 0) := by decide +kernel
theorem e_158_69 : dec prog_9_method_65_code 69 = some (.iaload, 70, 0, 0) := by decide +kernel
theorem e_158_70 : dec prog_9_method_65_code 70 = some (.invokevirtual 129, 73, 0, 0) := by decide +kernel
theorem e_158_73 : dec prog_9_method_65_code 73 = some (.ireturn, 74, 0, 0) := by decide +kernel
theorem e_158_74 : dec prog_9_method_65_code 74 = some (.aload_n 0, 75, 0, 0) := by decide +kernel
theorem e_158_75 : dec prog_9_method_65_code 75 = some (.iload_n 2, 76, 2, 0) := by decide +kernel
theorem e_158_76 : dec prog_9_method_65_code 76 = some (.aload_n 0, 77, 0, 0) := by decide +kernel
theorem e_158_77 : dec prog_9_method_65_code 77 = some (.getfield 29, 80, 0, 0) := by decide +kernel
theorem e_158_80 : dec prog_9_method_65_code 80 = some (.iconst 4, 81, 0, 4) := by decide +kernel
theorem e_158_81 : dec prog_9_method_65_code 81 = some (.iload_n 1, 82, 1, 0) := by decide +kernel
theorem e_158_82 : dec prog_9_method_65_code 82 = some (.imul, 83, 0, 0) := by decide +kernel
theorem e_158_83 : dec prog_9_method_65_code 83 = some (.iconst 2, 84, 0, 2) := by decide +kernel
theorem e_158_84 : dec prog_9_method_65_code 84 = some (.iadd, 85, 0, 0) := by decide +kernel
theorem e_158_85 : dec prog_9_method_65_code 85 = some (.iaload, 86, 0, 0) := by decide +kernel
theorem e_158_86 : dec prog_9_method_65_code 86 = some (.aload_n 0, 87, 0, 0) := by decide +kernel
theorem e_158_87 : dec prog_9_method_65_code 87 = some (.getfield 29, 90, 0, 0) := by decide +kernel
theorem e_158_90 : dec prog_9_method_65_code 90 = some (.iconst 4, 91, 0, 4) := by decide +kernel
theorem e_158_91 : dec prog_9_method_65_code 91 = some (.iload_n 1, 92, 1, 0) := by decide +kernel
theorem e_158_92 : dec prog_9_method_65_code 92 = some (.imul, 93, 0, 0) := by decide +kernel
theorem e_158_93 : dec prog_9_method_65_code 93 = some (.iconst 3, 94, 0, 3) := by decide +kernel
theorem e_158_94 : dec prog_9_method_65_code 94 = some (.iadd, 95, 0, 0) := by decide +kernel
theorem e_158_95 : dec prog_9_method_65_code 95 = some (.iaload, 96, 0, 0) := by decide +kernel
theorem e_158_96 : dec prog_9_method_65_code 96 = some (.invokevirtual 70, 99, 0, 0) := by decide +kernel
theorem e_158_99 : dec prog_9_method_65_code 99 = some (.ireturn, 100, 0, 0) := by decide +kernel
theorem e_158_100 : dec prog_9_method_65_code 100 = some (.aload_n 0, 101, 0, 0) := by decide +kernel
theorem e_158_101 : dec prog_9_method_65_code 101 = some (.iload_n 2, 102, 2, 0) := by decide +kernel
theorem e_158_102 : dec prog_9_method_65_code 102 = some (.invokevirtual 85, 105, 0, 0) := by decide +kernel
theorem e_158_105 : dec prog_9_method_65_code 105 = some (.ireturn, 106, 0, 0) := by decide +kernel
theorem E_158 : dec prog_9_method_65_code 0 = some (.aload_n 0, 1, 0, 0) ∧ dec prog_9_method_65_code 1 = some (.getfield 29, 4, 0, 0) ∧ dec prog_9_method_65_code 4 = some (.iconst 4, 5, 0, 4) ∧ dec prog_9_method_65_code 5 = some (.iload_n 1, 6, 1, 0) ∧ dec prog_9_method_65_code 6 = some (.imul, 7, 0, 0) ∧ dec prog_9_method_65_code 7 = some (.iconst 1, 8, 0, 1) ∧ dec prog_9_method_65_code 8 = some (.iadd, 9, 0, 0) ∧ dec prog_9_method_65_code 9 = some (.iaload, 10, 0, 0) ∧ dec prog_9_method_65_code 10 = some (.istore_n 2, 11, 2, 0) ∧ dec prog_9_method_65_code 11 = some (.aload_n 0, 12, 0, 0) ∧ dec prog_9_method_65_code 12 = some (.getfield 29, 15, 0, 0) ∧ dec prog_9_method_65_code 15 = some (.iconst 4, 16, 0, 4) ∧ dec prog_9_method_65_code 16 = some (.iload_n 1, 17, 1, 0) ∧ dec prog_9_method_65_code 17 = some (.imul, 18, 0, 0) ∧ dec prog_9_method_65_code 18 = some (.iaload, 19, 0, 0) ∧ dec prog_9_method_65_code 19 = some (.lookupswitch 81 #[(99, 33), (110, 55), (112, 39)], 52, 0, 0) ∧ dec prog_9_method_65_code 52 = some (.aload_n 0, 53, 0, 0) ∧ dec prog_9_method_65_code 53 = some (.iload_n 2, 54, 2, 0) ∧ dec prog_9_method_65_code 54 = some (.invokevirtual 91, 57, 0, 0) ∧ dec prog_9_method_65_code 57 = some (.ireturn, 58, 0, 0) ∧ dec prog_9_method_65_code 58 = some (.aload_n 0, 59, 0, 0) ∧ dec prog_9_method_65_code 59 = some (.iload_n 2, 60, 2, 0) ∧ dec prog_9_method_65_code 60 = some (.aload_n 0, 61, 0, 0) ∧ dec prog_9_method_65_code 61 = some (.getfield 29, 64, 0, 0) ∧ dec prog_9_method_65_code 64 = some (.iconst 4, 65, 0, 4) ∧ dec prog_9_method_65_code 65 = some (.iload_n 1, 66, 1, 0) ∧ dec prog_9_method_65_code 66 = some (.imul, 67, 0, 0) ∧ dec prog_9_method_65_code 67 = some (.iconst 2, 68, 0, 2) ∧ dec prog_9_method_65_code 68 = some (.iadd, 69, 0, 0) ∧ dec prog_9_method_65_code 69 = some (.iaload, 70, 0, 0) ∧ dec prog_9_method_65_code 70 = some (.invokevirtual 129, 73, 0, 0) ∧ dec prog_9_method_65_code 73 = some (.ireturn, 74, 0, 0) ∧ dec prog_9_method_65_code 74 = some (.aload_n 0, 75, 0, 0) ∧ dec prog_9_method_65_code 75 = some (.iload_n 2, 76, 2, 0) ∧ dec prog_9_method_65_code 76 = some (.aload_n 0, 77, 0, 0) ∧ dec prog_9_method_65_code 77 = some (.getfield 29, 80, 0, 0) ∧ dec prog_9_method_65_code 80 = some (.iconst 4, 81, 0, 4) ∧ dec prog_9_method_65_code 81 = some (.iload_n 1, 82, 1, 0) ∧ dec prog_9_method_65_code 82 = some (.imul, 83, 0, 0) ∧ dec prog_9_method_65_code 83 = some (.iconst 2, 84, 0, 2) ∧ dec prog_9_method_65_code 84 = some (.iadd, 85, 0, 0) ∧ dec prog_9_method_65_code 85 = some (.iaload, 86, 0, 0) ∧ dec prog_9_method_65_code 86 = some (.aload_n 0, 87, 0, 0) ∧ dec prog_9_method_65_code 87 = some (.getfield 29, 90, 0, 0) ∧ dec prog_9_method_65_code 90 = some (.iconst 4, 91, 0, 4) ∧ dec prog_9_method_65_code 91 = some (.iload_n 1, 92, 1, 0) ∧ dec prog_9_method_65_code 92 = some (.imul, 93, 0, 0) ∧ dec prog_9_method_65_code 93 = some (.iconst 3, 94, 0, 3) ∧ dec prog_9_method_65_code 94 = some (.iadd, 95, 0, 0) ∧ dec prog_9_method_65_code 95 = some (.iaload, 96, 0, 0) ∧ dec prog_9_method_65_code 96 = some (.invokevirtual 70, 99, 0, 0) ∧ dec prog_9_method_65_code 99 = some (.ireturn, 100, 0, 0) ∧ dec prog_9_method_65_code 100 = some (.aload_n 0, 101, 0, 0) ∧ dec prog_9_method_65_code 101 = some (.iload_n 2, 102, 2, 0) ∧ dec prog_9_method_65_code 102 = some (.invokevirtual 85, 105, 0, 0) ∧ dec prog_9_method_65_code 105 = some (.ireturn, 106, 0, 0) := ⟨e_158_0, e_158_1, e_158_4, e_158_5, e_158_6, e_158_7, e_158_8, e_158_9, e_158_10, e_158_11, e_158_12, e_158_15, e_158_16, e_158_17, e_158_18, e_158_19, e_158_52, e_158_53, e_158_54, e_158_57, e_158_58, e_158_59, e_158_60, e_158_61, e_158_64, e_158_65, e_158_66, e_158_67, e_158_68, e_158_69, e_158_70, e_158_73, e_158_74, e_158_75, e_158_76, e_158_77, e_158_80, e_158_81, e_158_82, e_158_83, e_158_84, e_158_85, e_158_86, e_158_87, e_158_90, e_158_91, e_158_92, e_158_93, e_158_94, e_158_95, e_158_96, e_158_99, e_158_100, e_158_101, e_158_102, e_158_105⟩
theorem e_159_0 : dec prog_9_method_66_code 0 = some (.aload_n 0, 1, 0, 0) := by decide +kernel
theorem e_159_1 : dec prog_9_method_66_code 1 = some (.getfield 29, 4, 0, 0) := by decide +kernel
theorem e_159_4 : dec prog_9_method_66_code 4 = some (.iconst 4, 5, 0, 4) := by decide +kernel
theorem e_159_5 : dec prog_9_method_66_code 5 = some (.iload_n 1, 6, 1, 0) := by decide +kernel
theorem e_159_6 : dec prog_9_method_66_code 6 = some (.imul, 7, 0, 0) := by decide +kernel
theorem e_159_7 : dec prog_9_method_66_code 7 = some (.iconst 1, 8, 0, 1) := by decide +kernel
theorem e_159_8 : dec prog_9_method_66_code 8 = some (.iadd, 9, 0, 0) := by decide +kernel
theorem e_159_9 : dec prog_9_method_66_code 9 = some (.iaload, 10, 0, 0) := by decide +kernel
theorem e_159_10 : dec prog_9_method_66_code 10 = some (.istore_n 2, 11, 2, 0) := by decide +kernel
theorem e_159_11 : dec prog_9_method_66_code 11 = some (.aload_n 0, 12, 0, 0) := by decide +kernel
theorem e_159_12 : dec prog_9_method_66_code 12 = some (.getfield 29, 15, 0, 0) := by decide +kernel
theorem e_159_15 : dec prog_9_method_66_code 15 = some (.iconst 4, 16, 0, 4) := by decide +kernel
theorem e_159_16 : dec prog_9_method_66_code 16 = some (.iload_n 1, 17, 1, 0) := by decide +kernel
theorem e_159_17 : dec prog_9_method_66_code 17 = some (.imul, 18, 0, 0) := by decide +kernel
theorem e_159_18 : dec prog_9_method_66_code 18 = some (.iaload, 19, 0, 0) := by decide +kernel
theorem e_159_19 : dec prog_9_method_66_code 19 = some (.lookupswitch 94 #[(99, 33), (110, 66), (112, 47)], 52, 0, 0) := by decide +kernel
theorem e_159_52 : dec prog_9_method_66_code 52 = some (.aload_n 0, 53, 0, 0) := by decide +kernel
theorem e_159_53 : dec prog_9_method_66_code 53 = some (.getfield 7, 56, 0, 0) := by decide +kernel
theorem e_159_56 : dec prog_9_method_66_code 56 = some (.bipush 6, 58, 0, 6) := by decide +kernel
theorem e_159_58 : dec prog_9_method_66_code 58 = some (.dup2, 59, 0, 0) := by decide +kernel
theorem e_159_59 : dec prog_9_method_66_code 59 = some (.iaload, 60, 0, 0) := by decide +kernel
theorem e_159_60 : dec prog_9_method_66_code 60 = some (.iload_n 2, 61, 2, 0) := by decide +kernel
theorem e_159_61 : dec prog_9_method_66_code 61 = some (.iadd, 62, 0, 0) := by decide +kernel
theorem e_159_62 : dec prog_9_method_66_code 62 = some (.iastore, 63, 0, 0) := by decide +kernel
theorem e_159_63 : dec prog_9_method_66_code 63 = some (.goto 59, 66, 122, 0) := by decide +kernel
theorem e_159_66 : dec prog_9_method_66_code 66 = some (.aload_n 0, 67, 0, 0) := by decide +kernel
theorem e_159_67 : dec prog_9_method_66_code 67 = some (.iload_n 2, 68, 2, 0) := by decide +kernel
theorem e_159_68 : dec prog_9_method_66_code 68 = some (.aload_n 0, 69, 0, 0) := by decide +kernel
theorem e_159_69 : dec prog_9_method_66_code 69 = some (.getfield 29, 72, 0, 0) := by decide +kernel
theorem e_159_72 : dec prog_9_method_66_code 72 = some (.iconst 4, 73, 0, 4) := by decide +kernel
theorem e_159_73 : dec prog_9_method_66_code 73 = some (.iload_n 1, 74, 1, 0) := by decide +kernel
theorem e_159_74 : dec prog_9_method_66_code 74 = some (.imul, 75, 0, 0) := by decide +kernel
theorem e_159_75 : dec prog_9_method_66_code 75 = some (.iconst 2, 76, 0, 2) := by decide +kernel
theorem e_159_76 : dec prog_9_method_66_code 76 = some (.iadd, 77, 0, 0) := by decide +kernel
theorem e_159_77 : dec prog_9_method_66_code 77 = some (.iaload, 78, 0, 0) := by decide +kernel
theorem e_159_78 : dec prog_9_method_66_code 78 = some (.invokevirtual 132, 81, 0, 0) := by decide +kernel
theorem e_159_81 : dec prog_9_method_66_code 81 = some (.pop, 82, 0, 0) := by decide +kernel
theorem e_159_82 : dec prog_9_method_66_code 82 = some (.goto 40, 85, 122, 0) := by decide +kernel
theorem e_159_85 : dec prog_9_method_66_code 85 = some (.aload_n 0, 86, 0, 0) := by decide +kernel
theorem e_159_86 : dec prog_9_method_66_code 86 = some (.iload_n 2, 87, 2, 0) := by decide +kernel
theorem e_159_87 : dec prog_9_method_66_code 87 = some (.aload_n 0, 88, 0, 0) := by decide +kernel
theorem e_159_88 : dec prog_9_method_66_code 88 = some (.getfield 29, 91, 0, 0) := by decide +kernel
theorem e_159_91 : dec prog_9_method_66_code 91 = some (.iconst 4, 92, 0, 4) := by decide +kernel
theorem e_159_92 : dec prog_9_method_66_code 92 = some (.iload_n 1, 93, 1, 0) := by decide +kernel
theorem e_159_93 : dec prog_9_method_66_code 93 = some (.imul, 94, 0, 0) := by decide +kernel
theorem e_159_94 : dec prog_9_method_66_code 94 = some (.iconst 2, 95, 0, 2) := by decide +kernel
theorem e_159_95 : dec prog_9_method_66_code 95 = some (.iadd, 96, 0, 0) := by decide +kernel
theorem e_159_96 : dec prog_9_method_66_code 96 = some (.iaload, 97, 0, 0) := by decide +kernel
theorem e_159_97 : dec prog_9_method_66_code 97 = some (.aload_n 0, 98, 0, 0) := by decide +kernel
theorem e_159_98 : dec prog_9_method_66_code 98 = some (.getfield 29, 101, 0, 0) := by decide +kernel
theorem e_159_101 : dec prog_9_method_66_code 101 = some (.iconst 4, 102, 0, 4) := by decide +kernel
theorem e_159_102 : dec prog_9_method_66_code 102 = some (.iload_n 1, 103, 1, 0) := by decide +kernel
theorem e_159_103 : dec prog_9_method_66_code 103 = some (.imul, 104, 0, 0) := by decide +kernel
theorem e_159_104 : dec prog_9_method_66_code 104 = some (.iconst 3, 105, 0, 3) := by decide +kernel
theorem e_159_105 : dec prog_9_method_66_code 105 = some (.iadd, 106, 0, 0) := by decide +kernel
theorem e_159_106 : dec prog_9_method_66_code 106 = some (.iaload, 107, 0, 0) := by decide +kernel
theorem e_159_107 : dec prog_9_method_66_code 107 = some (.invokevirtual 74, 110, 0, 0) := by decide +kernel
theorem e_159_110 : dec prog_9_method_66_code 110 = some (.goto 12, 113, 122, 0) := by decide +kernel
theorem e_159_113 : dec prog_9_method_66_code 113 = some (.aload_n 0, 114, 0, 0) := by decide +kernel
theorem e_159_114 : dec prog_9_method_66_code 114 = some (.aload_n 0, 115, 0, 0) := by decide +kernel
theorem e_159_115 : dec prog_9_method_66_code 115 = some (.invokevirtual 81, 118, 0, 0) := by decide +kernel
theorem e_159_118 : dec prog_9_method_66_code 118 = some (.iload_n 2, 119, 2, 0) := by decide +kernel
theorem e_159_119 : dec prog_9_method_66_code 119 = some (.invokevirtual 88, 122, 0, 0) := by decide +kernel
theorem e_159_122 : dec prog_9_method_66_code 122 = some (.return_, 123, 0, 0) := by decide +kernel
theorem E_159 : dec prog_9_method_66_code 0 = some (.aload_n 0, 1, 0, 0) ∧ dec prog_9_method_66_code 1 = some (.getfield 29, 4, 0, 0) ∧ dec prog_9_method_66_code 4 = some (.iconst 4, 5, 0, 4) ∧ dec prog_9_method_66_code 5 = some (.iload_n 1, 6, 1, 0) ∧ dec prog_9_method_66_code 6 = some (.imul, 7, 0, 0) ∧ dec prog_9_method_66_code 7 = some (.iconst 1, 8, 0, 1) ∧ dec prog_9_method_66_code 8 = some (.iadd, 9, 0, 0) ∧ dec prog_9_method_66_code 9 = some (.iaload, 10, 0, 0) ∧ dec prog_9_method_66_code 10 = some (.istore_n 2, 11, 2, 0) ∧ dec prog_9_method_66_code 11 = some (.aload_n 0, 12, 0, 0) ∧ dec prog_9_method_66_code 12 = some (.getfield 29, 15, 0, 0) ∧ dec prog_9_method_66_code 15 = some (.iconst 4, 16, 0, 4) ∧ dec prog_9_method_66_code 16 = some (.iload_n 1, 17, 1, 0) ∧ dec prog_9_method_66_code 17 = some (.imul, 18, 0, 0) ∧ dec prog_9_method_66_code 18 = some (.iaload, 19, 0, 0) ∧ dec prog_9_method_66_code 19 = some (.lookupswitch 94 #[(99, 33), (110, 66), (112, 47)], 52, 0, 0) ∧ dec prog_9_method_66_code 52 = some (.aload_n 0, 53, 0, 0) ∧ dec prog_9_method_66_code 53 = some (.getfield 7, 56, 0, 0) ∧ dec prog_9_method_66_code 56 = some (.bipush 6, 58, 0, 6) ∧ dec prog_9_method_66_code 58 = some (.dup2, 59, 0, 0) ∧ dec prog_9_method_66_code 59 = some (.iaload, 60, 0, 0) ∧ dec prog_9_method_66_code 60 = some (.iload_n 2, 61, 2, 0) ∧ dec prog_9_method_66_code 61 = some (.iadd, 62, 0, 0) ∧ dec prog_9_method_66_code 62 = some (.iastore, 63, 0, 0) ∧ dec prog_9_method_66_code 63 = some (.goto 59, 66, 122, 0) ∧ dec prog_9_method_66_code 66 = some (.aload_n 0, 67, 0, 0) ∧ dec prog_9_method_66_code 67 = some (.iload_n 2, 68, 2, 0) ∧ dec prog_9_method_66_code 68 = some (.aload_n 0, 69, 0, 0) ∧ dec prog_9_method_66_code 69 = some (.getfield 29, 72, 0, 0) ∧ dec prog_9_method_66_code 72 = some (.iconst 4, 73, 0, 4) ∧ dec prog_9_method_66_code 73 = some (.iload_n 1, 74, 1, 0) ∧ dec prog_9_method_66_code 74 = some (.imul, 75, 0, 0) ∧ dec prog_9_method_66_code 75 = some (.iconst 2, 76, 0, 2) ∧ dec prog_9_method_66_code 76 = some (.iadd, 77, 0, 0) ∧ dec prog_9_method_66_code 77 = some (.iaload, 78, 0, 0) ∧ dec prog_9_method_66_code 78 = some (.invokevirtual 132, 81, 0, 0) ∧ dec prog_9_method_66_code 81 = some (.pop, 82, 0, 0) ∧ dec prog_9_method_66_code 82 = some (.goto 40, 85, 122, 0) ∧ dec prog_9_method_66_code 85 = some (.aload_n 0, 86, 0, 0) ∧ dec prog_9_method_66_code 86 = some (.iload_n 2, 87, 2, 0) ∧ dec prog_9_method_66_code 87 = some (.aload_n 0, 88, 0, 0) ∧ dec prog_9_method_66_code 88 = some (.getfield 29, 91, 0, 0) ∧ dec prog_9_method_66_code 91 = some (.iconst 4, 92, 0, 4) ∧ dec prog_9_method_66_code 92 = some (.iload_n 1, 93, 1, 0) ∧ dec prog_9_method_66_code 93 = some (.imul, 94, 0, 0) ∧ dec prog_9_method_66_code 94 = some (.iconst 2, 95, 0, 2) ∧ dec prog_9_method_66_code 95 = some (.iadd, 96, 0, 0) ∧ dec prog_9_method_66_code 96 = some (.iaload, 97, 0, 0) ∧ dec prog_9_method_66_code 97 = some (.aload_n 0, 98, 0, 0) ∧ dec prog_9_method_66_code 98 = some (.getfield 29, 101, 0, 0) ∧ dec prog_9_method_66_code 101 = some (.iconst 4, 102, 0, 4) ∧ dec prog_9_method_66_code 102 = some (.iload_n 1, 103, 1, 0) ∧ dec prog_9_method_66_code 103 = some (.imul, 104, 0, 0) ∧ dec prog_9_method_66_code 104 = some (.iconst 3, 105, 0, 3) ∧ dec prog_9_method_66_code 105 = some (.iadd, 106, 0, 0) ∧ dec prog_9_method_66_code 106 = some (.iaload, 107, 0, 0) ∧ dec prog_9_method_66_code 107 = some (.invokevirtual 74, 110, 0, 0) ∧ dec prog_9_method_66_code 110 = some (.goto 12, 113, 122, 0) ∧ dec prog_9_method_66_code 113 = some (.aload_n 0, 114, 0, 0) ∧ dec prog_9_method_66_code 114 = some (.aload_n 0, 115, 0, 0) ∧ dec prog_9_method_66_code 115 = some (.invokevirtual 81, 118, 0, 0) ∧ dec prog_9_method_66_code 118 = some (.iload_n 2, 119, 2, 0) ∧ dec prog_9_method_66_code 119 = some (.invokevirtual 88, 122, 0, 0) ∧ dec prog_9_method_66_code 122 = some (.return_, 123, 0, 0) := ⟨e_159_0, e_159_1, e_159_4, e_159_5, e_159_6, e_159_7, e_159_8, e_159_9, e_159_10, e_159_11, e_159_12, e_159_15, e_159_16, e_159_17, e_159_18, e_159_19, e_159_52, e_159_53, e_159_56, e_159_58, e_159_59, e_159_60, e_159_61, e_159_62, e_159_63, e_159_66, e_159_67, e_159_68, e_159_69, e_159_72, e_159_73, e_159_74, e_159_75, e_159_76, e_159_77, e_159_78, e_159_81, e_159_82, e_159_85, e_159_86, e_159_87, e_159_88, e_159_91, e_159_92, e_159_93, e_159_94, e_159_95, e_159_96, e_159_97, e_159_98, e_159_101, e_159_102, e_159_103, e_159_104, e_159_105, e_159_106, e_159_107, e_159_110, e_159_113, e_159_114, e_159_115, e_159_118, e_159_119, e_159_122⟩
theorem e_160_0 : dec prog_9_method_67_code 0 = some (.aload_n 0, 1, 0, 0) := by decide +kernel
theorem e_160_1 : dec prog_9_method_67_code 1 = some (.invokevirtual 183, 4, 0, 0) := by decide +kernel
theorem e_160_4 : dec prog_9_method_67_code 4 = some (.ifCond .ne 6, 7, 10, 0) := by decide +kernel
theorem e_160_7 : dec prog_9_method_67_code 7 = some (.bipush (-3), 9, 0, (-3)) := by decide +kernel
theorem e_160_9 : dec prog_9_method_67_code 9 = some (.ireturn, 10, 0, 0) := by decide +kernel
theorem e_160_10 : dec prog_9_method_67_code 10 = some (.aload_n 0, 11, 0, 0) := by decide +kernel
theorem e_160_11 : dec prog_9_method_67_code 11 = some (.invokevirtual 44, 14, 0, 0) := by decide +kernel
theorem e_160_14 : dec prog_9_method_67_code 14 = some (.iconst 0, 15, 0, 0) := by decide +kernel
theorem e_160_15 : dec prog_9_method_67_code 15 = some (.istore_n 1, 16, 1, 0) := by decide +kernel
theorem e_160_16 : dec prog_9_method_67_code 16 = some (.iload_n 1, 17, 1, 0) := by decide +kernel
theorem e_160_17 : dec prog_9_method_67_code 17 = some (.aload_n 0, 18, 0, 0) := by decide +kernel
theorem e_160_18 : dec prog_9_method_67_code 18 = some (.getfield 176, 21, 0, 0) := by decide +kernel
theorem e_160_21 : dec prog_9_method_67_code 21 = some (.if_icmp .ge 22, 24, 43, 0) := by decide +kernel
theorem e_160_24 : dec prog_9_method_67_code 24 = some (.aload_n 0, 25, 0, 0) := by decide +kernel
theorem e_160_25 : dec prog_9_method_67_code 25 = some (.iload_n 1, 26, 1, 0) := by decide +kernel
theorem e_160_26 : dec prog_9_method_67_code 26 = some (.invokevirtual 186, 29, 0, 0) := by decide +kernel
theorem e_160_29 : dec prog_9_method_67_code 29 = some (.ifCond .ne 14, 32, 43, 0) := by decide +kernel
theorem e_160_32 : dec prog_9_method_67_code 32 = some (.aload_n 0, 33, 0, 0) := by decide +kernel
theorem e_160_33 : dec prog_9_method_67_code 33 = some (.iload_n 1, 34, 1, 0) := by decide +kernel
theorem e_160_34 : dec prog_9_method_67_code 34 = some (.invokevirtual 189, 37, 0, 0) := by decide +kernel
theorem e_160_37 : dec prog_9_method_67_code 37 = some (.iinc 1 1, 40, 1, 1) := by decide +kernel
theorem e_160_40 : dec prog_9_method_67_code 40 = some (.goto (-24), 43, 16, 0) := by decide +kernel
theorem e_160_43 : dec prog_9_method_67_code 43 = some (.aload_n 0, 44, 0, 0) := by decide +kernel
theorem e_160_44 : dec prog_9_method_67_code 44 = some (.iconst 0, 45, 0, 0) := by decide +kernel
theorem e_160_45 : dec prog_9_method_67_code 45 = some (.putfield 150, 48, 0, 0) := by decide +kernel
theorem e_160_48 : dec prog_9_method_67_code 48 = some (.iload_n 1, 49, 1, 0) := by decide +kernel
theorem e_160_49 : dec prog_9_method_67_code 49 = some (.ireturn, 50, 0, 0) := by decide +kernel
theorem E_160 : dec prog_9_method_67_code 0 = some (.aload_n 0, 1, 0, 0) ∧ dec prog_9_method_67_code 1 = some (.invokevirtual 183, 4, 0, 0) ∧ dec prog_9_method_67_code 4 = some (.ifCond .ne 6, 7, 10, 0) ∧ dec prog_9_method_67_code 7 = some (.bipush (-3), 9, 0, (-3)) ∧ dec prog_9_method_67_code 9 = some (.ireturn, 10, 0, 0) ∧ dec prog_9_method_67_code 10 = some (.aload_n 0, 11, 0, 0) ∧ dec prog_9_method_67_code 11 = some (.invokevirtual 44, 14, 0, 0) ∧ dec prog_9_method_67_code 14 = some (.iconst 0, 15, 0, 0) ∧ dec prog_9_method_67_code 15 = some (.istore_n 1, 16, 1, 0) ∧ dec prog_9_method_67_code 16 = some (.iload_n 1, 17, 1, 0) ∧ dec prog_9_method_67_code 17 = some (.aload_n 0, 18, 0, 0) ∧ dec prog_9_method_67_code 18 = some (.getfield 176, 21, 0, 0) ∧ dec prog_9_method_67_code 21 = some (.if_icmp .ge 22, 24, 43, 0) ∧ dec prog_9_method_67_code 24 = some (.aload_n 0, 25, 0, 0) ∧ dec prog_9_method_67_code 25 = some (.iload_n 1, 26, 1, 0) ∧ dec prog_9_method_67_code 26 = some (.invokevirtual 186, 29, 0, 0) ∧ dec prog_9_method_67_code 29 = some (.ifCond .ne 14, 32, 43, 0) ∧ dec prog_9_method_67_code 32 = some (.aload_n 0, 33, 0, 0) ∧ dec prog_9_method_67_code 33 = some (.iload_n 1, 34, 1, 0) ∧ dec prog_9_method_67_code 34 = some (.invokevirtual 189, 37, 0, 0) ∧ dec prog_9_method_67_code 37 = some (.iinc 1 1, 40, 1, 1) ∧ dec prog_9_method_67_code 40 = some (.goto (-24), 43, 16, 0) ∧ dec prog_9_method_67_code 43 = some (.aload_n 0, 44, 0, 0) ∧ dec prog_9_method_67_code 44 = some (.iconst 0, 45, 0, 0) ∧ dec prog_9_method_67_code 45 = some (.putfield 150, 48, 0, 0) ∧ dec prog_9_method_67_code 48 = some (.iload_n 1, 49, 1, 0) ∧ dec prog_9_method_67_code 49 = some (.ireturn, 50, 0, 0) := ⟨e_160_0, e_160_1, e_160_4, e_160_7, e_160_9, e_160_10, e_160_11, e_160_14, e_160_15, e_160_16, e_160_17, e_160_18, e_160_21, e_160_24, e_160_25, e_160_26, e_160_29, e_160_32, e_160_33, e_160_34, e_160_37, e_160_40, e_160_43, e_160_44, e_160_45, e_160_48, e_160_49⟩
