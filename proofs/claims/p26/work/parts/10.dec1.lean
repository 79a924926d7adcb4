/-! the methods decoded -/
theorem e_90_0 : dec method_2_code 0 = some (.iload_n 1, 1, 1, 0) := by decide +kernel
theorem e_90_1 : dec method_2_code 1 = some (.aload_n 0, 2, 0, 0) := by decide +kernel
theorem e_90_2 : dec method_2_code 2 = some (.arraylength, 3, 0, 0) := by decide +kernel
theorem e_90_3 : dec method_2_code 3 = some (.if_icmp .ge 9, 6, 12, 0) := by decide +kernel
theorem e_90_6 : dec method_2_code 6 = some (.aload_n 0, 7, 0, 0) := by decide +kernel
theorem e_90_7 : dec method_2_code 7 = some (.iload_n 1, 8, 1, 0) := by decide +kernel
theorem e_90_8 : dec method_2_code 8 = some (.iaload, 9, 0, 0) := by decide +kernel
theorem e_90_9 : dec method_2_code 9 = some (.goto 14, 12, 23, 0) := by decide +kernel
theorem e_90_12 : dec method_2_code 12 = some (.ldc 7, 14, 0, 0) := by decide +kernel
theorem e_90_14 : dec method_2_code 14 = some (.iload_n 1, 15, 1, 0) := by decide +kernel
theorem e_90_15 : dec method_2_code 15 = some (.sipush 349, 18, 0, 349) := by decide +kernel
theorem e_90_18 : dec method_2_code 18 = some (.iadd, 19, 0, 0) := by decide +kernel
theorem e_90_19 : dec method_2_code 19 = some (.imul, 20, 0, 0) := by decide +kernel
theorem e_90_20 : dec method_2_code 20 = some (.ldc 8, 22, 0, 0) := by decide +kernel
theorem e_90_22 : dec method_2_code 22 = some (.iadd, 23, 0, 0) := by decide +kernel
theorem e_90_23 : dec method_2_code 23 = some (.ldc 9, 25, 0, 0) := by decide +kernel
theorem e_90_25 : dec method_2_code 25 = some (.iand, 26, 0, 0) := by decide +kernel
theorem e_90_26 : dec method_2_code 26 = some (.ireturn, 27, 0, 0) := by decide +kernel
theorem E_90 : dec method_2_code 0 = some (.iload_n 1, 1, 1, 0) ∧ dec method_2_code 1 = some (.aload_n 0, 2, 0, 0) ∧ dec method_2_code 2 = some (.arraylength, 3, 0, 0) ∧ dec method_2_code 3 = some (.if_icmp .ge 9, 6, 12, 0) ∧ dec method_2_code 6 = some (.aload_n 0, 7, 0, 0) ∧ dec method_2_code 7 = some (.iload_n 1, 8, 1, 0) ∧ dec method_2_code 8 = some (.iaload, 9, 0, 0) ∧ dec method_2_code 9 = some (.goto 14, 12, 23, 0) ∧ dec method_2_code 12 = some (.ldc 7, 14, 0, 0) ∧ dec method_2_code 14 = some (.iload_n 1, 15, 1, 0) ∧ dec method_2_code 15 = some (.sipush 349, 18, 0, 349) ∧ dec method_2_code 18 = some (.iadd, 19, 0, 0) ∧ dec method_2_code 19 = some (.imul, 20, 0, 0) ∧ dec method_2_code 20 = some (.ldc 8, 22, 0, 0) ∧ dec method_2_code 22 = some (.iadd, 23, 0, 0) ∧ dec method_2_code 23 = some (.ldc 9, 25, 0, 0) ∧ dec method_2_code 25 = some (.iand, 26, 0, 0) ∧ dec method_2_code 26 = some (.ireturn, 27, 0, 0) := ⟨e_90_0, e_90_1, e_90_2, e_90_3, e_90_6, e_90_7, e_90_8, e_90_9, e_90_12, e_90_14, e_90_15, e_90_18, e_90_19, e_90_20, e_90_22, e_90_23, e_90_25, e_90_26⟩
theorem e_91_0 : dec method_3_code 0 = some (.ldc2_w 10, 3, 0, 0) := by decide +kernel
theorem e_91_3 : dec method_3_code 3 = some (.lstore_n 1, 4, 1, 0) := by decide +kernel
theorem e_91_4 : dec method_3_code 4 = some (.iconst 0, 5, 0, 0) := by decide +kernel
theorem e_91_5 : dec method_3_code 5 = some (.istore_n 3, 6, 3, 0) := by decide +kernel
theorem e_91_6 : dec method_3_code 6 = some (.iload_n 3, 7, 3, 0) := by decide +kernel
theorem e_91_7 : dec method_3_code 7 = some (.bipush 18, 9, 0, 18) := by decide +kernel
theorem e_91_9 : dec method_3_code 9 = some (.if_icmp .ge 22, 12, 31, 0) := by decide +kernel
theorem e_91_12 : dec method_3_code 12 = some (.ldc2_w 12, 15, 0, 0) := by decide +kernel
theorem e_91_15 : dec method_3_code 15 = some (.lload_n 1, 16, 1, 0) := by decide +kernel
theorem e_91_16 : dec method_3_code 16 = some (.lmul, 17, 0, 0) := by decide +kernel
theorem e_91_17 : dec method_3_code 17 = some (.aload_n 0, 18, 0, 0) := by decide +kernel
theorem e_91_18 : dec method_3_code 18 = some (.iload_n 3, 19, 3, 0) := by decide +kernel
theorem e_91_19 : dec method_3_code 19 = some (.invokevirtual 14, 22, 0, 0) := by decide +kernel
theorem e_91_22 : dec method_3_code 22 = some (.i2l, 23, 0, 0) := by decide +kernel
theorem e_91_23 : dec method_3_code 23 = some (.ladd, 24, 0, 0) := by decide +kernel
theorem e_91_24 : dec method_3_code 24 = some (.lstore_n 1, 25, 1, 0) := by decide +kernel
theorem e_91_25 : dec method_3_code 25 = some (.iinc 3 1, 28, 3, 1) := by decide +kernel
theorem e_91_28 : dec method_3_code 28 = some (.goto (-22), 31, 6, 0) := by decide +kernel
theorem e_91_31 : dec method_3_code 31 = some (.iconst 0, 32, 0, 0) := by decide +kernel
theorem e_91_32 : dec method_3_code 32 = some (.istore_n 3, 33, 3, 0) := by decide +kernel
theorem e_91_33 : dec method_3_code 33 = some (.iload_n 3, 34, 3, 0) := by decide +kernel
theorem e_91_34 : dec method_3_code 34 = some (.bipush 24, 36, 0, 24) := by decide +kernel
theorem e_91_36 : dec method_3_code 36 = some (.if_icmp .ge 73, 39, 109, 0) := by decide +kernel
theorem e_91_39 : dec method_3_code 39 = some (.ldc2_w 12, 42, 0, 0) := by decide +kernel
theorem e_91_42 : dec method_3_code 42 = some (.ldc2_w 12, 45, 0, 0) := by decide +kernel
theorem e_91_45 : dec method_3_code 45 = some (.ldc2_w 12, 48, 0, 0) := by decide +kernel
theorem e_91_48 : dec method_3_code 48 = some (.lload_n 1, 49, 1, 0) := by decide +kernel
theorem e_91_49 : dec method_3_code 49 = some (.lmul, 50, 0, 0) := by decide +kernel
theorem e_91_50 : dec method_3_code 50 = some (.aload_n 0, 51, 0, 0) := by decide +kernel
theorem e_91_51 : dec method_3_code 51 = some (.iload_n 3, 52, 3, 0) := by decide +kernel
theorem e_91_52 : dec method_3_code 52 = some (.iconst 0, 53, 0, 0) := by decide +kernel
theorem e_91_53 : dec method_3_code 53 = some (.invokevirtual 20, 56, 0, 0) := by decide +kernel
theorem e_91_56 : dec method_3_code 56 = some (.i2l, 57, 0, 0) := by decide +kernel
theorem e_91_57 : dec method_3_code 57 = some (.ladd, 58, 0, 0) := by decide +kernel
theorem e_91_58 : dec method_3_code 58 = some (.lmul, 59, 0, 0) := by decide +kernel
theorem e_91_59 : dec method_3_code 59 = some (.aload_n 0, 60, 0, 0) := by decide +kernel
theorem e_91_60 : dec method_3_code 60 = some (.iload_n 3, 61, 3, 0) := by decide +kernel
theorem e_91_61 : dec method_3_code 61 = some (.iconst 1, 62, 0, 1) := by decide +kernel
theorem e_91_62 : dec method_3_code 62 = some (.invokevirtual 20, 65, 0, 0) := by decide +kernel
theorem e_91_65 : dec method_3_code 65 = some (.i2l, 66, 0, 0) := by decide +kernel
theorem e_91_66 : dec method_3_code 66 = some (.ladd, 67, 0, 0) := by decide +kernel
theorem e_91_67 : dec method_3_code 67 = some (.lmul, 68, 0, 0) := by decide +kernel
theorem e_91_68 : dec method_3_code 68 = some (.aload_n 0, 69, 0, 0) := by decide +kernel
theorem e_91_69 : dec method_3_code 69 = some (.iload_n 3, 70, 3, 0) := by decide +kernel
theorem e_91_70 : dec method_3_code 70 = some (.iconst 2, 71, 0, 2) := by decide +kernel
theorem e_91_71 : dec method_3_code 71 = some (.invokevirtual 20, 74, 0, 0) := by decide +kernel
theorem e_91_74 : dec method_3_code 74 = some (.i2l, 75, 0, 0) := by decide +kernel
theorem e_91_75 : dec method_3_code 75 = some (.ladd, 76, 0, 0) := by decide +kernel
theorem e_91_76 : dec method_3_code 76 = some (.lstore_n 1, 77, 1, 0) := by decide +kernel
theorem e_91_77 : dec method_3_code 77 = some (.ldc2_w 12, 80, 0, 0) := by decide +kernel
theorem e_91_80 : dec method_3_code 80 = some (.ldc2_w 12, 83, 0, 0) := by decide +kernel
theorem e_91_83 : dec method_3_code 83 = some (.lload_n 1, 84, 1, 0) := by decide +kernel
theorem e_91_84 : dec method_3_code 84 = some (.lmul, 85, 0, 0) := by decide +kernel
theorem e_91_85 : dec method_3_code 85 = some (.aload_n 0, 86, 0, 0) := by decide +kernel
theorem e_91_86 : dec method_3_code 86 = some (.iload_n 3, 87, 3, 0) := by decide +kernel
theorem e_91_87 : dec method_3_code 87 = some (.iconst 4, 88, 0, 4) := by decide +kernel
theorem e_91_88 : dec method_3_code 88 = some (.invokevirtual 20, 91, 0, 0) := by decide +kernel
theorem e_91_91 : dec method_3_code 91 = some (.i2l, 92, 0, 0) := by decide +kernel
theorem e_91_92 : dec method_3_code 92 = some (.ladd, 93, 0, 0) := by decide +kernel
theorem e_91_93 : dec method_3_code 93 = some (.lmul, 94, 0, 0) := by decide +kernel
theorem e_91_94 : dec method_3_code 94 = some (.aload_n 0, 95, 0, 0) := by decide +kernel
theorem e_91_95 : dec method_3_code 95 = some (.iload_n 3, 96, 3, 0) := by decide +kernel
theorem e_91_96 : dec method_3_code 96 = some (.iconst 5, 97, 0, 5) := by decide +kernel
theorem e_91_97 : dec method_3_code 97 = some (.invokevirtual 20, 100, 0, 0) := by decide +kernel
theorem e_91_100 : dec method_3_code 100 = some (.i2l, 101, 0, 0) := by decide +kernel
theorem e_91_101 : dec method_3_code 101 = some (.ladd, 102, 0, 0) := by decide +kernel
theorem e_91_102 : dec method_3_code 102 = some (.lstore_n 1, 103, 1, 0) := by decide +kernel
theorem e_91_103 : dec method_3_code 103 = some (.iinc 3 1, 106, 3, 1) := by decide +kernel
theorem e_91_106 : dec method_3_code 106 = some (.goto (-73), 109, 33, 0) := by decide +kernel
theorem e_91_109 : dec method_3_code 109 = some (.iconst 0, 110, 0, 0) := by decide +kernel
theorem e_91_110 : dec method_3_code 110 = some (.istore_n 3, 111, 3, 0) := by decide +kernel
theorem e_91_111 : dec method_3_code 111 = some (.iload_n 3, 112, 3, 0) := by decide +kernel
theorem e_91_112 : dec method_3_code 112 = some (.bipush 40, 114, 0, 40) := by decide +kernel
theorem e_91_114 : dec method_3_code 114 = some (.if_icmp .ge 27, 117, 141, 0) := by decide +kernel
theorem e_91_117 : dec method_3_code 117 = some (.ldc2_w 12, 120, 0, 0) := by decide +kernel
theorem e_91_120 : dec method_3_code 120 = some (.lload_n 1, 121, 1, 0) := by decide +kernel
theorem e_91_121 : dec method_3_code 121 = some (.lmul, 122, 0, 0) := by decide +kernel
theorem e_91_122 : dec method_3_code 122 = some (.aload_n 0, 123, 0, 0) := by decide +kernel
theorem e_91_123 : dec method_3_code 123 = some (.iload_n 3, 124, 3, 0) := by decide +kernel
theorem e_91_124 : dec method_3_code 124 = some (.iconst 4, 125, 0, 4) := by decide +kernel
theorem e_91_125 : dec method_3_code 125 = some (.idiv, 126, 0, 0) := by decide +kernel
theorem e_91_126 : dec method_3_code 126 = some (.iload_n 3, 127, 3, 0) := by decide +kernel
theorem e_91_127 : dec method_3_code 127 = some (.iconst 4, 128, 0, 4) := by decide +kernel
theorem e_91_128 : dec method_3_code 128 = some (.irem, 129, 0, 0) := by decide +kernel
theorem e_91_129 : dec method_3_code 129 = some (.invokevirtual 24, 132, 0, 0) := by decide +kernel
theorem e_91_132 : dec method_3_code 132 = some (.i2l, 133, 0, 0) := by decide +kernel
theorem e_91_133 : dec method_3_code 133 = some (.ladd, 134, 0, 0) := by decide +kernel
theorem e_91_134 : dec method_3_code 134 = some (.lstore_n 1, 135, 1, 0) := by decide +kernel
theorem e_91_135 : dec method_3_code 135 = some (.iinc 3 1, 138, 3, 1) := by decide +kernel
theorem e_91_138 : dec method_3_code 138 = some (.goto (-27), 141, 111, 0) := by decide +kernel
theorem e_91_141 : dec method_3_code 141 = some (.lload_n 1, 142, 1, 0) := by decide +kernel
theorem e_91_142 : dec method_3_code 142 = some (.lreturn, 143, 0, 0) := by decide +kernel
theorem E_91 : dec method_3_code 0 = some (.ldc2_w 10, 3, 0, 0) ∧ dec method_3_code 3 = some (.lstore_n 1, 4, 1, 0) ∧ dec method_3_code 4 = some (.iconst 0, 5, 0, 0) ∧ dec method_3_code 5 = some (.istore_n 3, 6, 3, 0) ∧ dec method_3_code 6 = some (.iload_n 3, 7, 3, 0) ∧ dec method_3_code 7 = some (.bipush 18, 9, 0, 18) ∧ dec method_3_code 9 = some (.if_icmp .ge 22, 12, 31, 0) ∧ dec method_3_code 12 = some (.ldc2_w 12, 15, 0, 0) ∧ dec method_3_code 15 = some (.lload_n 1, 16, 1, 0) ∧ dec method_3_code 16 = some (.lmul, 17, 0, 0) ∧ dec method_3_code 17 = some (.aload_n 0, 18, 0, 0) ∧ dec method_3_code 18 = some (.iload_n 3, 19, 3, 0) ∧ dec method_3_code 19 = some (.invokevirtual 14, 22, 0, 0) ∧ dec method_3_code 22 = some (.i2l, 23, 0, 0) ∧ dec method_3_code 23 = some (.ladd, 24, 0, 0) ∧ dec method_3_code 24 = some (.lstore_n 1, 25, 1, 0) ∧ dec method_3_code 25 = some (.iinc 3 1, 28, 3, 1) ∧ dec method_3_code 28 = some (.goto (-22), 31, 6, 0) ∧ dec method_3_code 31 = some (.iconst 0, 32, 0, 0) ∧ dec method_3_code 32 = some (.istore_n 3, 33, 3, 0) ∧ dec method_3_code 33 = some (.iload_n 3, 34, 3, 0) ∧ dec method_3_code 34 = some (.bipush 24, 36, 0, 24) ∧ dec method_3_code 36 = some (.if_icmp .ge 73, 39, 109, 0) ∧ dec method_3_code 39 = some (.ldc2_w 12, 42, 0, 0) ∧ dec method_3_code 42 = some (.ldc2_w 12, 45, 0, 0) ∧ dec method_3_code 45 = some (.ldc2_w 12, 48, 0, 0) ∧ dec method_3_code 48 = some (.lload_n 1, 49, 1, 0) ∧ dec method_3_code 49 = some (.lmul, 50, 0, 0) ∧ dec method_3_code 50 = some (.aload_n 0, 51, 0, 0) ∧ dec method_3_code 51 = some (.iload_n 3, 52, 3, 0) ∧ dec method_3_code 52 = some (.iconst 0, 53, 0, 0) ∧ dec method_3_code 53 = some (.invokevirtual 20, 56, 0, 0) ∧ dec method_3_code 56 = some (.i2l, 57, 0, 0) ∧ dec method_3_code 57 = some (.ladd, 58, 0, 0) ∧ dec method_3_code 58 = some (.lmul, 59, 0, 0) ∧ dec method_3_code 59 = some (.aload_n 0, 60, 0, 0) ∧ dec method_3_code 60 = some (.iload_n 3, 61, 3, 0) ∧ dec method_3_code 61 = some (.iconst 1, 62, 0, 1) ∧ dec method_3_code 62 = some (.invokevirtual 20, 65, 0, 0) ∧ dec method_3_code 65 = some (.i2l, 66, 0, 0) ∧ dec method_3_code 66 = some (.ladd, 67, 0, 0) ∧ dec method_3_code 67 = some (.lmul, 68, 0, 0) ∧ dec method_3_code 68 = some (.aload_n 0, 69, 0, 0) ∧ dec method_3_code 69 = some (.iload_n 3, 70, 3, 0) ∧ dec method_3_code 70 = some (.iconst 2, 71, 0, 2) ∧ dec method_3_code 71 = some (.invokevirtual 20, 74, 0, 0) ∧ dec method_3_code 74 = some (.i2l, 75, 0, 0) ∧ dec method_3_code 75 = some (.ladd, 76, 0, 0) ∧ dec method_3_code 76 = some (.lstore_n 1, 77, 1, 0) ∧ dec method_3_code 77 = some (.ldc2_w 12, 80, 0, 0) ∧ dec method_3_code 80 = some (.ldc2_w 12, 83, 0, 0) ∧ dec method_3_code 83 = some (.lload_n 1, 84, 1, 0) ∧ dec method_3_code 84 = some (.lmul, 85, 0, 0) ∧ dec method_3_code 85 = some (.aload_n 0, 86, 0, 0) ∧ dec method_3_code 86 = some (.iload_n 3, 87, 3, 0) ∧ dec method_3_code 87 = some (.iconst 4, 88, 0, 4) ∧ dec method_3_code 88 = some (.invokevirtual 20, 91, 0, 0) ∧ dec method_3_code 91 = some (.i2l, 92, 0, 0) ∧ dec method_3_code 92 = some (.ladd, 93, 0, 0) ∧ dec method_3_code 93 = some (.lmul, 94, 0, 0) ∧ dec method_3_code 94 = some (.aload_n 0, 95, 0, 0) ∧ dec method_3_code 95 = some (.iload_n 3, 96, 3, 0) ∧ dec method_3_code 96 = some (.iconst 5, 97, 0, 5) ∧ dec method_3_code 97 = some (.invokevirtual 20, 100, 0, 0) ∧ dec method_3_code 100 = some (.i2l, 101, 0, 0) ∧ dec method_3_code 101 = some (.ladd, 102, 0, 0) ∧ dec method_3_code 102 = some (.lstore_n 1, 103, 1, 0) ∧ dec method_3_code 103 = some (.iinc 3 1, 106, 3, 1) ∧ dec method_3_code 106 = some (.goto (-73), 109, 33, 0) ∧ dec method_3_code 109 = some (.iconst 0, 110, 0, 0) ∧ dec method_3_code 110 = some (.istore_n 3, 111, 3, 0) ∧ dec method_3_code 111 = some (.iload_n 3, 112, 3, 0) ∧ dec method_3_code 112 = some (.bipush 40, 114, 0, 40) ∧ dec method_3_code 114 = some (.if_icmp .ge 27, 117, 141, 0) ∧ dec method_3_code 117 = some (.ldc2_w 12, 120, 0, 0) ∧ dec method_3_code 120 = some (.lload_n 1, 121, 1, 0) ∧ dec method_3_code 121 = some (.lmul, 122, 0, 0) ∧ dec method_3_code 122 = some (.aload_n 0, 123, 0, 0) ∧ dec method_3_code 123 = some (.iload_n 3, 124, 3, 0) ∧ dec method_3_code 124 = some (.iconst 4, 125, 0, 4) ∧ dec method_3_code 125 = some (.idiv, 126, 0, 0) ∧ dec method_3_code 126 = some (.iload_n 3, 127, 3, 0) ∧ dec method_3_code 127 = some (.iconst 4, 128, 0, 4) ∧ dec method_3_code 128 = some (.irem, 129, 0, 0) ∧ dec method_3_code 129 = some (.invokevirtual 24, 132, 0, 0) ∧ dec method_3_code 132 = some (.i2l, 133, 0, 0) ∧ dec method_3_code 133 = some (.ladd, 134, 0, 0) ∧ dec method_3_code 134 = some (.lstore_n 1, 135, 1, 0) ∧ dec method_3_code 135 = some (.iinc 3 1, 138, 3, 1) ∧ dec method_3_code 138 = some (.goto (-27), 141, 111, 0) ∧ dec method_3_code 141 = some (.lload_n 1, 142, 1, 0) ∧ dec method_3_code 142 = some (.lreturn, 143, 0, 0) := ⟨e_91_0, e_91_3, e_91_4, e_91_5, e_91_6, e_91_7, e_91_9, e_91_12, e_91_15, e_91_16, e_91_17, e_91_18, e_91_19, e_91_22, e_91_23, e_91_24, e_91_25, e_91_28, e_91_31, e_91_32, e_91_33, e_91_34, e_91_36, e_91_39, e_91_42, e_91_45, e_91_48, e_91_49, e_91_50, e_91_51, e_91_52, e_91_53, e_91_56, e_91_57, e_91_58, e_91_59, e_91_60, e_91_61, e_91_62, e_91_65, e_91_66, e_91_67, e_91_68, e_91_69, e_91_70, e_91_71, e_91_74, e_91_75, e_91_76, e_91_77, e_91_80, e_91_83, e_91_84, e_91_85, e_91_86, e_91_87, e_91_88, e_91_91, e_91_92, e_91_93, e_91_94, e_91_95, e_91_96, e_91_97, e_91_100, e_91_101, e_91_102, e_91_103, e_91_106, e_91_109, e_91_110, e_91_111, e_91_112, e_91_114, e_91_117, e_91_120, e_91_121, e_91_122, e_91_123, e_91_124, e_91_125, e_91_126, e_91_127, e_91_128, e_91_129, e_91_132, e_91_133, e_91_134, e_91_135, e_91_138, e_91_141, e_91_142⟩
theorem e_92_0 : dec method_4_code 0 = some (.iconst 0, 1, 0, 0) := by decide +kernel
theorem e_92_1 : dec method_4_code 1 = some (.istore_n 1, 2, 1, 0) := by decide +kernel
theorem e_92_2 : dec method_4_code 2 = some (.iconst 0, 3, 0, 0) := by decide +kernel
theorem e_92_3 : dec method_4_code 3 = some (.istore_n 2, 4, 2, 0) := by decide +kernel
theorem e_92_4 : dec method_4_code 4 = some (.iconst 0, 5, 0, 0) := by decide +kernel
theorem e_92_5 : dec method_4_code 5 = some (.istore_n 3, 6, 3, 0) := by decide +kernel
theorem e_92_6 : dec method_4_code 6 = some (.iconst 0, 7, 0, 0) := by decide +kernel
theorem e_92_7 : dec method_4_code 7 = some (.istore 4, 9, 4, 0) := by decide +kernel
theorem e_92_9 : dec method_4_code 9 = some (.iconst 0, 10, 0, 0) := by decide +kernel
theorem e_92_10 : dec method_4_code 10 = some (.istore 5, 12, 5, 0) := by decide +kernel
theorem e_92_12 : dec method_4_code 12 = some (.iconst 0, 13, 0, 0) := by decide +kernel
theorem e_92_13 : dec method_4_code 13 = some (.istore 6, 15, 6, 0) := by decide +kernel
theorem e_92_15 : dec method_4_code 15 = some (.iload 6, 17, 6, 0) := by decide +kernel
theorem e_92_17 : dec method_4_code 17 = some (.bipush 24, 19, 0, 24) := by decide +kernel
theorem e_92_19 : dec method_4_code 19 = some (.if_icmp .ge 19, 22, 38, 0) := by decide +kernel
theorem e_92_22 : dec method_4_code 22 = some (.aload_n 0, 23, 0, 0) := by decide +kernel
theorem e_92_23 : dec method_4_code 23 = some (.iload 6, 25, 6, 0) := by decide +kernel
theorem e_92_25 : dec method_4_code 25 = some (.iconst 0, 26, 0, 0) := by decide +kernel
theorem e_92_26 : dec method_4_code 26 = some (.invokevirtual 20, 29, 0, 0) := by decide +kernel
theorem e_92_29 : dec method_4_code 29 = some (.ifCond .lt 9, 32, 38, 0) := by decide +kernel
theorem e_92_32 : dec method_4_code 32 = some (.iinc 6 1, 35, 6, 1) := by decide +kernel
theorem e_92_35 : dec method_4_code 35 = some (.goto (-20), 38, 15, 0) := by decide +kernel
theorem e_92_38 : dec method_4_code 38 = some (.iconst 1, 39, 0, 1) := by decide +kernel
theorem e_92_39 : dec method_4_code 39 = some (.istore 7, 41, 7, 0) := by decide +kernel
theorem e_92_41 : dec method_4_code 41 = some (.iconst 0, 42, 0, 0) := by decide +kernel
theorem e_92_42 : dec method_4_code 42 = some (.istore 8, 44, 8, 0) := by decide +kernel
theorem e_92_44 : dec method_4_code 44 = some (.iload 8, 46, 8, 0) := by decide +kernel
theorem e_92_46 : dec method_4_code 46 = some (.iload 6, 48, 6, 0) := by decide +kernel
theorem e_92_48 : dec method_4_code 48 = some (.if_icmp .ge 275, 51, 323, 0) := by decide +kernel
theorem e_92_51 : dec method_4_code 51 = some (.iload 7, 53, 7, 0) := by decide +kernel
theorem e_92_53 : dec method_4_code 53 = some (.ifCond .eq 270, 56, 323, 0) := by decide +kernel
theorem e_92_56 : dec method_4_code 56 = some (.aload_n 0, 57, 0, 0) := by decide +kernel
theorem e_92_57 : dec method_4_code 57 = some (.iload 8, 59, 8, 0) := by decide +kernel
theorem e_92_59 : dec method_4_code 59 = some (.iconst 3, 60, 0, 3) := by decide +kernel
theorem e_92_60 : dec method_4_code 60 = some (.invokevirtual 20, 63, 0, 0) := by decide +kernel
theorem e_92_63 : dec method_4_code 63 = some (.istore 9, 65, 9, 0) := by decide +kernel
theorem e_92_65 : dec method_4_code 65 = some (.aload_n 0, 66, 0, 0) := by decide +kernel
theorem e_92_66 : dec method_4_code 66 = some (.iload 8, 68, 8, 0) := by decide +kernel
theorem e_92_68 : dec method_4_code 68 = some (.iconst 4, 69, 0, 4) := by decide +kernel
theorem e_92_69 : dec method_4_code 69 = some (.invokevirtual 20, 72, 0, 0) := by decide +kernel
theorem e_92_72 : dec method_4_code 72 = some (.istore 10, 74, 10, 0) := by decide +kernel
theorem e_92_74 : dec method_4_code 74 = some (.iload_n 1, 75, 1, 0) := by decide +kernel
theorem e_92_75 : dec method_4_code 75 = some (.iload 9, 77, 9, 0) := by decide +kernel
theorem e_92_77 : dec method_4_code 77 = some (.ifCond .ne 10, 80, 87, 0) := by decide +kernel
theorem e_92_80 : dec method_4_code 80 = some (.iconst 1, 81, 0, 1) := by decide +kernel
theorem e_92_81 : dec method_4_code 81 = some (.iload 8, 83, 8, 0) := by decide +kernel
theorem e_92_83 : dec method_4_code 83 = some (.ishl, 84, 0, 0) := by decide +kernel
theorem e_92_84 : dec method_4_code 84 = some (.goto 4, 87, 88, 0) := by decide +kernel
theorem e_92_87 : dec method_4_code 87 = some (.iconst 0, 88, 0, 0) := by decide +kernel
theorem e_92_88 : dec method_4_code 88 = some (.ior, 89, 0, 0) := by decide +kernel
theorem e_92_89 : dec method_4_code 89 = some (.istore_n 1, 90, 1, 0) := by decide +kernel
theorem e_92_90 : dec method_4_code 90 = some (.iload_n 2, 91, 2, 0) := by decide +kernel
theorem e_92_91 : dec method_4_code 91 = some (.iload 9, 93, 9, 0) := by decide +kernel
theorem e_92_93 : dec method_4_code 93 = some (.iconst 1, 94, 0, 1) := by decide +kernel
theorem e_92_94 : dec method_4_code 94 = some (.if_icmp .ne 10, 97, 104, 0) := by decide +kernel
theorem e_92_97 : dec method_4_code 97 = some (.iconst 1, 98, 0, 1) := by decide +kernel
theorem e_92_98 : dec method_4_code 98 = some (.iload 8, 100, 8, 0) := by decide +kernel
theorem e_92_100 : dec method_4_code 100 = some (.ishl, 101, 0, 0) := by decide +kernel
theorem e_92_101 : dec method_4_code 101 = some (.goto 4, 104, 105, 0) := by decide +kernel
theorem e_92_104 : dec method_4_code 104 = some (.iconst 0, 105, 0, 0) := by decide +kernel
theorem e_92_105 : dec method_4_code 105 = some (.ior, 106, 0, 0) := by decide +kernel
theorem e_92_106 : dec method_4_code 106 = some (.istore_n 2, 107, 2, 0) := by decide +kernel
theorem e_92_107 : dec method_4_code 107 = some (.iload_n 3, 108, 3, 0) := by decide +kernel
theorem e_92_108 : dec method_4_code 108 = some (.iload 9, 110, 9, 0) := by decide +kernel
theorem e_92_110 : dec method_4_code 110 = some (.iconst 2, 111, 0, 2) := by decide +kernel
theorem e_92_111 : dec method_4_code 111 = some (.if_icmp .ne 7, 114, 118, 0) := by decide +kernel
theorem e_92_114 : dec method_4_code 114 = some (.iconst 1, 115, 0, 1) := by decide +kernel
theorem e_92_115 : dec method_4_code 115 = some (.goto 4, 118, 119, 0) := by decide +kernel
theorem e_92_118 : dec method_4_code 118 = some (.iconst 0, 119, 0, 0) := by decide +kernel
theorem e_92_119 : dec method_4_code 119 = some (.iadd, 120, 0, 0) := by decide +kernel
theorem e_92_120 : dec method_4_code 120 = some (.istore_n 3, 121, 3, 0) := by decide +kernel
theorem e_92_121 : dec method_4_code 121 = some (.iload 4, 123, 4, 0) := by decide +kernel
theorem e_92_123 : dec method_4_code 123 = some (.iload 9, 125, 9, 0) := by decide +kernel
theorem e_92_125 : dec method_4_code 125 = some (.iconst 2, 126, 0, 2) := by decide +kernel
theorem e_92_126 : dec method_4_code 126 = some (.if_icmp .ne 13, 129, 139, 0) := by decide +kernel
theorem e_92_129 : dec method_4_code 129 = some (.aload_n 0, 130, 0, 0) := by decide +kernel
theorem e_92_130 : dec method_4_code 130 = some (.iload 8, 132, 8, 0) := by decide +kernel
theorem e_92_132 : dec method_4_code 132 = some (.iconst 2, 133, 0, 2) := by decide +kernel
theorem e_92_133 : dec method_4_code 133 = some (.invokevirtual 20, 136, 0, 0) := by decide +kernel
theorem e_92_136 : dec method_4_code 136 = some (.goto 4, 139, 140, 0) := by decide +kernel
theorem e_92_139 : dec method_4_code 139 = some (.iconst 0, 140, 0, 0) := by decide +kernel
theorem e_92_140 : dec method_4_code 140 = some (.iadd, 141, 0, 0) := by decide +kernel
theorem e_92_141 : dec method_4_code 141 = some (.istore 4, 143, 4, 0) := by decide +kernel
theorem e_92_143 : dec method_4_code 143 = some (.iload 5, 145, 5, 0) := by decide +kernel
theorem e_92_145 : dec method_4_code 145 = some (.aload_n 0, 146, 0, 0) := by decide +kernel
theorem e_92_146 : dec method_4_code 146 = some (.iload 8, 148, 8, 0) := by decide +kernel
theorem e_92_148 : dec method_4_code 148 = some (.iconst 5, 149, 0, 5) := by decide +kernel
theorem e_92_149 : dec method_4_code 149 = some (.invokevirtual 20, 152, 0, 0) := by decide +kernel
theorem e_92_152 : dec method_4_code 152 = some (.iadd, 153, 0, 0) := by decide +kernel
theorem e_92_153 : dec method_4_code 153 = some (.istore 5, 155, 5, 0) := by decide +kernel
theorem e_92_155 : dec method_4_code 155 = some (.aload_n 0, 156, 0, 0) := by decide +kernel
theorem e_92_156 : dec method_4_code 156 = some (.iload 8, 158, 8, 0) := by decide +kernel
theorem e_92_158 : dec method_4_code 158 = some (.iconst 0, 159, 0, 0) := by decide +kernel
theorem e_92_159 : dec method_4_code 159 = some (.invokevirtual 20, 162, 0, 0) := by decide +kernel
theorem e_92_162 : dec method_4_code 162 = some (.iconst 3, 163, 0, 3) := by decide +kernel
theorem e_92_163 : dec method_4_code 163 = some (.if_icmp .ge 151, 166, 314, 0) := by decide +kernel
theorem e_92_166 : dec method_4_code 166 = some (.aload_n 0, 167, 0, 0) := by decide +kernel
theorem e_92_167 : dec method_4_code 167 = some (.iload 8, 169, 8, 0) := by decide +kernel
theorem e_92_169 : dec method_4_code 169 = some (.iconst 1, 170, 0, 1) := by decide +kernel
theorem e_92_170 : dec method_4_code 170 = some (.invokevirtual 20, 173, 0, 0) := by decide +kernel
theorem e_92_173 : dec method_4_code 173 = some (.ifCond .le 141, 176, 314, 0) := by decide +kernel
theorem e_92_176 : dec method_4_code 176 = some (.aload_n 0, 177, 0, 0) := by decide +kernel
theorem e_92_177 : dec method_4_code 177 = some (.iload 8, 179, 8, 0) := by decide +kernel
theorem e_92_179 : dec method_4_code 179 = some (.iconst 1, 180, 0, 1) := by decide +kernel
theorem e_92_180 : dec method_4_code 180 = some (.invokevirtual 20, 183, 0, 0) := by decide +kernel
theorem e_92_183 : dec method_4_code 183 = some (.bipush 60, 185, 0, 60) := by decide +kernel
theorem e_92_185 : dec method_4_code 185 = some (.if_icmp .gt 129, 188, 314, 0) := by decide +kernel
theorem e_92_188 : dec method_4_code 188 = some (.aload_n 0, 189, 0, 0) := by decide +kernel
theorem e_92_189 : dec method_4_code 189 = some (.iload 8, 191, 8, 0) := by decide +kernel
theorem e_92_191 : dec method_4_code 191 = some (.iconst 2, 192, 0, 2) := by decide +kernel
theorem e_92_192 : dec method_4_code 192 = some (.invokevirtual 20, 195, 0, 0) := by decide +kernel
theorem e_92_195 : dec method_4_code 195 = some (.ifCond .le 119, 198, 314, 0) := by decide +kernel
theorem e_92_198 : dec method_4_code 198 = some (.aload_n 0, 199, 0, 0) := by decide +kernel
theorem e_92_199 : dec method_4_code 199 = some (.iload 8, 201, 8, 0) := by decide +kernel
theorem e_92_201 : dec method_4_code 201 = some (.iconst 2, 202, 0, 2) := by decide +kernel
theorem e_92_202 : dec method_4_code 202 = some (.invokevirtual 20, 205, 0, 0) := by decide +kernel
theorem e_92_205 : dec method_4_code 205 = some (.bipush 100, 207, 0, 100) := by decide +kernel
theorem e_92_207 : dec method_4_code 207 = some (.if_icmp .ge 107, 210, 314, 0) := by decide +kernel
theorem e_92_210 : dec method_4_code 210 = some (.iload 9, 212, 9, 0) := by decide +kernel
theorem e_92_212 : dec method_4_code 212 = some (.ifCond .lt 102, 215, 314, 0) := by decide +kernel
theorem e_92_215 : dec method_4_code 215 = some (.iload 9, 217, 9, 0) := by decide +kernel
theorem e_92_217 : dec method_4_code 217 = some (.iconst 3, 218, 0, 3) := by decide +kernel
theorem e_92_218 : dec method_4_code 218 = some (.if_icmp .ge 96, 221, 314, 0) := by decide +kernel
theorem e_92_221 : dec method_4_code 221 = some (.iload 9, 223, 9, 0) := by decide +kernel
theorem e_92_223 : dec method_4_code 223 = some (.iconst 1, 224, 0, 1) := by decide +kernel
theorem e_92_224 : dec method_4_code 224 = some (.if_icmp .ne 7, 227, 231, 0) := by decide +kernel
theorem e_92_227 : dec method_4_code 227 = some (.iconst 1, 228, 0, 1) := by decide +kernel
theorem e_92_228 : dec method_4_code 228 = some (.goto 4, 231, 232, 0) := by decide +kernel
theorem e_92_231 : dec method_4_code 231 = some (.iconst 0, 232, 0, 0) := by decide +kernel
theorem e_92_232 : dec method_4_code 232 = some (.iload 10, 234, 10, 0) := by decide +kernel
theorem e_92_234 : dec method_4_code 234 = some (.ifCond .lt 7, 237, 241, 0) := by decide +kernel
theorem e_92_237 : dec method_4_code 237 = some (.iconst 1, 238, 0, 1) := by decide +kernel
theorem e_92_238 : dec method_4_code 238 = some (.goto 4, 241, 242, 0) := by decide +kernel
theorem e_92_241 : dec method_4_code 241 = some (.iconst 0, 242, 0, 0) := by decide +kernel
theorem e_92_242 : dec method_4_code 242 = some (.if_icmp .ne 72, 245, 314, 0) := by decide +kernel
theorem e_92_245 : dec method_4_code 245 = some (.iload 10, 247, 10, 0) := by decide +kernel
theorem e_92_247 : dec method_4_code 247 = some (.ifCond .ge 13, 250, 260, 0) := by decide +kernel
theorem e_92_250 : dec method_4_code 250 = some (.iload 10, 252, 10, 0) := by decide +kernel
theorem e_92_252 : dec method_4_code 252 = some (.bipush (-6), 254, 0, (-6)) := by decide +kernel
theorem e_92_254 : dec method_4_code 254 = some (.if_icmp .ne 60, 257, 314, 0) := by decide +kernel
theorem e_92_257 : dec method_4_code 257 = some (.goto 22, 260, 279, 0) := by decide +kernel
theorem e_92_260 : dec method_4_code 260 = some (.aload_n 0, 261, 0, 0) := by decide +kernel
theorem e_92_261 : dec method_4_code 261 = some (.iload 10, 263, 10, 0) := by decide +kernel
theorem e_92_263 : dec method_4_code 263 = some (.bipush 10, 265, 0, 10) := by decide +kernel
theorem e_92_265 : dec method_4_code 265 = some (.idiv, 266, 0, 0) := by decide +kernel
theorem e_92_266 : dec method_4_code 266 = some (.iload 10, 268, 10, 0) := by decide +kernel
theorem e_92_268 : dec method_4_code 268 = some (.bipush 10, 270, 0, 10) := by decide +kernel
theorem e_92_270 : dec method_4_code 270 = some (.irem, 271, 0, 0) := by decide +kernel
theorem e_92_271 : dec method_4_code 271 = some (.invokevirtual 29, 274, 0, 0) := by decide +kernel
theorem e_92_274 : dec method_4_code 274 = some (.iload 8, 276, 8, 0) := by decide +kernel
theorem e_92_276 : dec method_4_code 276 = some (.if_icmp .ne 38, 279, 314, 0) := by decide +kernel
theorem e_92_279 : dec method_4_code 279 = some (.iload 9, 281, 9, 0) := by decide +kernel
theorem e_92_281 : dec method_4_code 281 = some (.ifCond .ne 13, 284, 294, 0) := by decide +kernel
theorem e_92_284 : dec method_4_code 284 = some (.aload_n 0, 285, 0, 0) := by decide +kernel
theorem e_92_285 : dec method_4_code 285 = some (.iload 8, 287, 8, 0) := by decide +kernel
theorem e_92_287 : dec method_4_code 287 = some (.iconst 5, 288, 0, 5) := by decide +kernel
theorem e_92_288 : dec method_4_code 288 = some (.invokevirtual 20, 291, 0, 0) := by decide +kernel
theorem e_92_291 : dec method_4_code 291 = some (.ifCond .ne 23, 294, 314, 0) := by decide +kernel
theorem e_92_294 : dec method_4_code 294 = some (.iload 9, 296, 9, 0) := by decide +kernel
theorem e_92_296 : dec method_4_code 296 = some (.iconst 2, 297, 0, 2) := by decide +kernel
theorem e_92_297 : dec method_4_code 297 = some (.if_icmp .ne 13, 300, 310, 0) := by decide +kernel
theorem e_92_300 : dec method_4_code 300 = some (.aload_n 0, 301, 0, 0) := by decide +kernel
theorem e_92_301 : dec method_4_code 301 = some (.iload 8, 303, 8, 0) := by decide +kernel
theorem e_92_303 : dec method_4_code 303 = some (.iconst 5, 304, 0, 5) := by decide +kernel
theorem e_92_304 : dec method_4_code 304 = some (.invokevirtual 20, 307, 0, 0) := by decide +kernel
theorem e_92_307 : dec method_4_code 307 = some (.ifCond .le 7, 310, 314, 0) := by decide +kernel
theorem e_92_310 : dec method_4_code 310 = some (.iconst 1, 311, 0, 1) := by decide +kernel
theorem e_92_311 : dec method_4_code 311 = some (.goto 4, 314, 315, 0) := by decide +kernel
theorem e_92_314 : dec method_4_code 314 = some (.iconst 0, 315, 0, 0) := by decide +kernel
theorem e_92_315 : dec method_4_code 315 = some (.istore 7, 317, 7, 0) := by decide +kernel
theorem e_92_317 : dec method_4_code 317 = some (.iinc 8 1, 320, 8, 1) := by decide +kernel
theorem e_92_320 : dec method_4_code 320 = some (.goto (-276), 323, 44, 0) := by decide +kernel
theorem e_92_323 : dec method_4_code 323 = some (.iconst 0, 324, 0, 0) := by decide +kernel
theorem e_92_324 : dec method_4_code 324 = some (.istore 8, 326, 8, 0) := by decide +kernel
theorem e_92_326 : dec method_4_code 326 = some (.iconst 0, 327, 0, 0) := by decide +kernel
theorem e_92_327 : dec method_4_code 327 = some (.istore 9, 329, 9, 0) := by decide +kernel
theorem e_92_329 : dec method_4_code 329 = some (.iconst 0, 330, 0, 0) := by decide +kernel
theorem e_92_330 : dec method_4_code 330 = some (.istore 10, 332, 10, 0) := by decide +kernel
theorem e_92_332 : dec method_4_code 332 = some (.iload 10, 334, 10, 0) := by decide +kernel
theorem e_92_334 : dec method_4_code 334 = some (.bipush 8, 336, 0, 8) := by decide +kernel
theorem e_92_336 : dec method_4_code 336 = some (.if_icmp .ge 206, 339, 542, 0) := by decide +kernel
theorem e_92_339 : dec method_4_code 339 = some (.iload 7, 341, 7, 0) := by decide +kernel
theorem e_92_341 : dec method_4_code 341 = some (.ifCond .eq 201, 344, 542, 0) := by decide +kernel
theorem e_92_344 : dec method_4_code 344 = some (.iconst 0, 345, 0, 0) := by decide +kernel
theorem e_92_345 : dec method_4_code 345 = some (.istore 11, 347, 11, 0) := by decide +kernel
theorem e_92_347 : dec method_4_code 347 = some (.iload 11, 349, 11, 0) := by decide +kernel
theorem e_92_349 : dec method_4_code 349 = some (.iconst 4, 350, 0, 4) := by decide +kernel
theorem e_92_350 : dec method_4_code 350 = some (.if_icmp .ge 20, 353, 370, 0) := by decide +kernel
theorem e_92_353 : dec method_4_code 353 = some (.aload_n 0, 354, 0, 0) := by decide +kernel
theorem e_92_354 : dec method_4_code 354 = some (.iload 10, 356, 10, 0) := by decide +kernel
theorem e_92_356 : dec method_4_code 356 = some (.iload 11, 358, 11, 0) := by decide +kernel
theorem e_92_358 : dec method_4_code 358 = some (.invokevirtual 29, 361, 0, 0) := by decide +kernel
theorem e_92_361 : dec method_4_code 361 = some (.ifCond .lt 9, 364, 370, 0) := by decide +kernel
theorem e_92_364 : dec method_4_code 364 = some (.iinc 11 1, 367, 11, 1) := by decide +kernel
theorem e_92_367 : dec method_4_code 367 = some (.goto (-20), 370, 347, 0) := by decide +kernel
theorem e_92_370 : dec method_4_code 370 = some (.iload 9, 372, 9, 0) := by decide +kernel
theorem e_92_372 : dec method_4_code 372 = some (.iload 11, 374, 11, 0) := by decide +kernel
theorem e_92_374 : dec method_4_code 374 = some (.iadd, 375, 0, 0) := by decide +kernel
theorem e_92_375 : dec method_4_code 375 = some (.istore 9, 377, 9, 0) := by decide +kernel
theorem e_92_377 : dec method_4_code 377 = some (.iload 8, 379, 8, 0) := by decide +kernel
theorem e_92_379 : dec method_4_code 379 = some (.iload 11, 381, 11, 0) := by decide +kernel
theorem e_92_381 : dec method_4_code 381 = some (.ifCond .ne 10, 384, 391, 0) := by decide +kernel
theorem e_92_384 : dec method_4_code 384 = some (.iconst 1, 385, 0, 1) := by decide +kernel
theorem e_92_385 : dec method_4_code 385 = some (.iload 10, 387, 10, 0) := by decide +kernel
theorem e_92_387 : dec method_4_code 387 = some (.ishl, 388, 0, 0) := by decide +kernel
theorem e_92_388 : dec method_4_code 388 = some (.goto 4, 391, 392, 0) := by decide +kernel
theorem e_92_391 : dec method_4_code 391 = some (.iconst 0, 392, 0, 0) := by decide +kernel
theorem e_92_392 : dec method_4_code 392 = some (.ior, 393, 0, 0) := by decide +kernel
theorem e_92_393 : dec method_4_code 393 = some (.istore 8, 395, 8, 0) := by decide +kernel
theorem e_92_395 : dec method_4_code 395 = some (.iload 11, 397, 11, 0) := by decide +kernel
theorem e_92_397 : dec method_4_code 397 = some (.istore 12, 399, 12, 0) := by decide +kernel
theorem e_92_399 : dec method_4_code 399 = some (.iload 12, 401, 12, 0) := by decide +kernel
theorem e_92_401 : dec method_4_code 401 = some (.iconst 4, 402, 0, 4) := by decide +kernel
theorem e_92_402 : dec method_4_code 402 = some (.if_icmp .ge 34, 405, 436, 0) := by decide +kernel
theorem e_92_405 : dec method_4_code 405 = some (.iload 7, 407, 7, 0) := by decide +kernel
theorem e_92_407 : dec method_4_code 407 = some (.ifCond .eq 29, 410, 436, 0) := by decide +kernel
theorem e_92_410 : dec method_4_code 410 = some (.aload_n 0, 411, 0, 0) := by decide +kernel
theorem e_92_411 : dec method_4_code 411 = some (.iload 10, 413, 10, 0) := by decide +kernel
theorem e_92_413 : dec method_4_code 413 = some (.iload 12, 415, 12, 0) := by decide +kernel
theorem e_92_415 : dec method_4_code 415 = some (.invokevirtual 29, 418, 0, 0) := by decide +kernel
theorem e_92_418 : dec method_4_code 418 = some (.bipush (-6), 420, 0, (-6)) := by decide +kernel
theorem e_92_420 : dec method_4_code 420 = some (.if_icmp .ne 7, 423, 427, 0) := by decide +kernel
theorem e_92_423 : dec method_4_code 423 = some (.iconst 1, 424, 0, 1) := by decide +kernel
theorem e_92_424 : dec method_4_code 424 = some (.goto 4, 427, 428, 0) := by decide +kernel
theorem e_92_427 : dec method_4_code 427 = some (.iconst 0, 428, 0, 0) := by decide +kernel
theorem e_92_428 : dec method_4_code 428 = some (.istore 7, 430, 7, 0) := by decide +kernel
theorem e_92_430 : dec method_4_code 430 = some (.iinc 12 1, 433, 12, 1) := by decide +kernel
theorem e_92_433 : dec method_4_code 433 = some (.goto (-34), 436, 399, 0) := by decide +kernel
theorem e_92_436 : dec method_4_code 436 = some (.iload 7, 438, 7, 0) := by decide +kernel
theorem e_92_438 : dec method_4_code 438 = some (.ifCond .eq 95, 441, 533, 0) := by decide +kernel
theorem e_92_441 : dec method_4_code 441 = some (.aload_n 0, 442, 0, 0) := by decide +kernel
theorem e_92_442 : dec method_4_code 442 = some (.iload 10, 444, 10, 0) := by decide +kernel
theorem e_92_444 : dec method_4_code 444 = some (.iconst 0, 445, 0, 0) := by decide +kernel
theorem e_92_445 : dec method_4_code 445 = some (.invokevirtual 32, 448, 0, 0) := by decide +kernel
theorem e_92_448 : dec method_4_code 448 = some (.bipush (-6), 450, 0, (-6)) := by decide +kernel
theorem e_92_450 : dec method_4_code 450 = some (.if_icmp .ne 7, 453, 457, 0) := by decide +kernel
theorem e_92_453 : dec method_4_code 453 = some (.iconst 1, 454, 0, 1) := by decide +kernel
theorem e_92_454 : dec method_4_code 454 = some (.goto 4, 457, 458, 0) := by decide +kernel
theorem e_92_457 : dec method_4_code 457 = some (.iconst 0, 458, 0, 0) := by decide +kernel
theorem e_92_458 : dec method_4_code 458 = some (.iload 11, 460, 11, 0) := by decide +kernel
theorem e_92_460 : dec method_4_code 460 = some (.ifCond .ne 7, 463, 467, 0) := by decide +kernel
theorem e_92_463 : dec method_4_code 463 = some (.iconst 1, 464, 0, 1) := by decide +kernel
theorem e_92_464 : dec method_4_code 464 = some (.goto 4, 467, 468, 0) := by decide +kernel
theorem e_92_467 : dec method_4_code 467 = some (.iconst 0, 468, 0, 0) := by decide +kernel
theorem e_92_468 : dec method_4_code 468 = some (.if_icmp .ne 65, 471, 533, 0) := by decide +kernel
theorem e_92_471 : dec method_4_code 471 = some (.iload 11, 473, 11, 0) := by decide +kernel
theorem e_92_473 : dec method_4_code 473 = some (.ifCond .eq 56, 476, 529, 0) := by decide +kernel
theorem e_92_476 : dec method_4_code 476 = some (.aload_n 0, 477, 0, 0) := by decide +kernel
theorem e_92_477 : dec method_4_code 477 = some (.iload 10, 479, 10, 0) := by decide +kernel
theorem e_92_479 : dec method_4_code 479 = some (.iconst 0, 480, 0, 0) := by decide +kernel
theorem e_92_480 : dec method_4_code 480 = some (.invokevirtual 32, 483, 0, 0) := by decide +kernel
theorem e_92_483 : dec method_4_code 483 = some (.aload_n 0, 484, 0, 0) := by decide +kernel
theorem e_92_484 : dec method_4_code 484 = some (.aload_n 0, 485, 0, 0) := by decide +kernel
theorem e_92_485 : dec method_4_code 485 = some (.iload 10, 487, 10, 0) := by decide +kernel
theorem e_92_487 : dec method_4_code 487 = some (.iload 11, 489, 11, 0) := by decide +kernel
theorem e_92_489 : dec method_4_code 489 = some (.iconst 1, 490, 0, 1) := by decide +kernel
theorem e_92_490 : dec method_4_code 490 = some (.isub, 491, 0, 0) := by decide +kernel
theorem e_92_491 : dec method_4_code 491 = some (.invokevirtual 29, 494, 0, 0) := by decide +kernel
theorem e_92_494 : dec method_4_code 494 = some (.iconst 1, 495, 0, 1) := by decide +kernel
theorem e_92_495 : dec method_4_code 495 = some (.invokevirtual 20, 498, 0, 0) := by decide +kernel
theorem e_92_498 : dec method_4_code 498 = some (.if_icmp .lt 35, 501, 533, 0) := by decide +kernel
theorem e_92_501 : dec method_4_code 501 = some (.aload_n 0, 502, 0, 0) := by decide +kernel
theorem e_92_502 : dec method_4_code 502 = some (.iload 10, 504, 10, 0) := by decide +kernel
theorem e_92_504 : dec method_4_code 504 = some (.iconst 0, 505, 0, 0) := by decide +kernel
theorem e_92_505 : dec method_4_code 505 = some (.invokevirtual 32, 508, 0, 0) := by decide +kernel
theorem e_92_508 : dec method_4_code 508 = some (.aload_n 0, 509, 0, 0) := by decide +kernel
theorem e_92_509 : dec method_4_code 509 = some (.aload_n 0, 510, 0, 0) := by decide +kernel
theorem e_92_510 : dec method_4_code 510 = some (.iload 10, 512, 10, 0) := by decide +kernel
theorem e_92_512 : dec method_4_code 512 = some (.iload 11, 514, 11, 0) := by decide +kernel
theorem e_92_514 : dec method_4_code 514 = some (.iconst 1, 515, 0, 1) := by decide +kernel
theorem e_92_515 : dec method_4_code 515 = some (.isub, 516, 0, 0) := by decide +kernel
theorem e_92_516 : dec method_4_code 516 = some (.invokevirtual 29, 519, 0, 0) := by decide +kernel
theorem e_92_519 : dec method_4_code 519 = some (.iconst 1, 520, 0, 1) := by decide +kernel
theorem e_92_520 : dec method_4_code 520 = some (.invokevirtual 20, 523, 0, 0) := by decide +kernel
theorem e_92_523 : dec method_4_code 523 = some (.bipush 6, 525, 0, 6) := by decide +kernel
theorem e_92_525 : dec method_4_code 525 = some (.iadd, 526, 0, 0) := by decide +kernel
theorem e_92_526 : dec method_4_code 526 = some (.if_icmp .gt 7, 529, 533, 0) := by decide +kernel
theorem e_92_529 : dec method_4_code 529 = some (.iconst 1, 530, 0, 1) := by decide +kernel
theorem e_92_530 : dec method_4_code 530 = some (.goto 4, 533, 534, 0) := by decide +kernel
theorem e_92_533 : dec method_4_code 533 = some (.iconst 0, 534, 0, 0) := by decide +kernel
theorem e_92_534 : dec method_4_code 534 = some (.istore 7, 536, 7, 0) := by decide +kernel
theorem e_92_536 : dec method_4_code 536 = some (.iinc 10 1, 539, 10, 1) := by decide +kernel
theorem e_92_539 : dec method_4_code 539 = some (.goto (-207), 542, 332, 0) := by decide +kernel
theorem e_92_542 : dec method_4_code 542 = some (.iconst 0, 543, 0, 0) := by decide +kernel
theorem e_92_543 : dec method_4_code 543 = some (.istore 10, 545, 10, 0) := by decide +kernel
theorem e_92_545 : dec method_4_code 545 = some (.iload_n 2, 546, 2, 0) := by decide +kernel
theorem e_92_546 : dec method_4_code 546 = some (.istore 11, 548, 11, 0) := by decide +kernel
theorem e_92_548 : dec method_4_code 548 = some (.iload 11, 550, 11, 0) := by decide +kernel
theorem e_92_550 : dec method_4_code 550 = some (.ifCond .eq 18, 553, 568, 0) := by decide +kernel
theorem e_92_553 : dec method_4_code 553 = some (.iinc 10 1, 556, 10, 1) := by decide +kernel
theorem e_92_556 : dec method_4_code 556 = some (.iload 11, 558, 11, 0) := by decide +kernel
theorem e_92_558 : dec method_4_code 558 = some (.iload 11, 560, 11, 0) := by decide +kernel
theorem e_92_560 : dec method_4_code 560 = some (.iconst 1, 561, 0, 1) := by decide +kernel
theorem e_92_561 : dec method_4_code 561 = some (.isub, 562, 0, 0) := by decide +kernel
theorem e_92_562 : dec method_4_code 562 = some (.iand, 563, 0, 0) := by decide +kernel
theorem e_92_563 : dec method_4_code 563 = some (.istore 11, 565, 11, 0) := by decide +kernel
theorem e_92_565 : dec method_4_code 565 = some (.goto (-17), 568, 548, 0) := by decide +kernel
theorem e_92_568 : dec method_4_code 568 = some (.iload 7, 570, 7, 0) := by decide +kernel
theorem e_92_570 : dec method_4_code 570 = some (.ifCond .eq 12, 573, 582, 0) := by decide +kernel
theorem e_92_573 : dec method_4_code 573 = some (.aload_n 0, 574, 0, 0) := by decide +kernel
theorem e_92_574 : dec method_4_code 574 = some (.bipush 30, 576, 0, 30) := by decide +kernel
theorem e_92_576 : dec method_4_code 576 = some (.invokevirtual 35, 579, 0, 0) := by decide +kernel
theorem e_92_579 : dec method_4_code 579 = some (.goto 4, 582, 583, 0) := by decide +kernel
theorem e_92_582 : dec method_4_code 582 = some (.iconst 0, 583, 0, 0) := by decide +kernel
theorem e_92_583 : dec method_4_code 583 = some (.istore 11, 585, 11, 0) := by decide +kernel
theorem e_92_585 : dec method_4_code 585 = some (.iload 7, 587, 7, 0) := by decide +kernel
theorem e_92_587 : dec method_4_code 587 = some (.ifCond .eq 139, 590, 726, 0) := by decide +kernel
theorem e_92_590 : dec method_4_code 590 = some (.iload 9, 592, 9, 0) := by decide +kernel
theorem e_92_592 : dec method_4_code 592 = some (.iload 10, 594, 10, 0) := by decide +kernel
theorem e_92_594 : dec method_4_code 594 = some (.if_icmp .ne 132, 597, 726, 0) := by decide +kernel
theorem e_92_597 : dec method_4_code 597 = some (.iload_n 1, 598, 1, 0) := by decide +kernel
theorem e_92_598 : dec method_4_code 598 = some (.aload_n 0, 599, 0, 0) := by decide +kernel
theorem e_92_599 : dec method_4_code 599 = some (.bipush 8, 601, 0, 8) := by decide +kernel
theorem e_92_601 : dec method_4_code 601 = some (.invokevirtual 14, 604, 0, 0) := by decide +kernel
theorem e_92_604 : dec method_4_code 604 = some (.if_icmp .ne 122, 607, 726, 0) := by decide +kernel
theorem e_92_607 : dec method_4_code 607 = some (.iload_n 2, 608, 2, 0) := by decide +kernel
theorem e_92_608 : dec method_4_code 608 = some (.aload_n 0, 609, 0, 0) := by decide +kernel
theorem e_92_609 : dec method_4_code 609 = some (.bipush 9, 611, 0, 9) := by decide +kernel
theorem e_92_611 : dec method_4_code 611 = some (.invokevirtual 14, 614, 0, 0) := by decide +kernel
theorem e_92_614 : dec method_4_code 614 = some (.if_icmp .ne 112, 617, 726, 0) := by decide +kernel
theorem e_92_617 : dec method_4_code 617 = some (.iload 8, 619, 8, 0) := by decide +kernel
theorem e_92_619 : dec method_4_code 619 = some (.aload_n 0, 620, 0, 0) := by decide +kernel
theorem e_92_620 : dec method_4_code 620 = some (.bipush 10, 622, 0, 10) := by decide +kernel
theorem e_92_622 : dec method_4_code 622 = some (.invokevirtual 14, 625, 0, 0) := by decide +kernel
theorem e_92_625 : dec method_4_code 625 = some (.if_icmp .ne 101, 628, 726, 0) := by decide +kernel
theorem e_92_628 : dec method_4_code 628 = some (.iload_n 3, 629, 3, 0) := by decide +kernel
theorem e_92_629 : dec method_4_code 629 = some (.aload_n 0, 630, 0, 0) := by decide +kernel
theorem e_92_630 : dec method_4_code 630 = some (.iconst 5, 631, 0, 5) := by decide +kernel
theorem e_92_631 : dec method_4_code 631 = some (.invokevirtual 14, 634, 0, 0) := by decide +kernel
theorem e_92_634 : dec method_4_code 634 = some (.if_icmp .ne 92, 637, 726, 0) := by decide +kernel
theorem e_92_637 : dec method_4_code 637 = some (.iload 4, 639, 4, 0) := by decide +kernel
theorem e_92_639 : dec method_4_code 639 = some (.aload_n 0, 640, 0, 0) := by decide +kernel
theorem e_92_640 : dec method_4_code 640 = some (.bipush 7, 642, 0, 7) := by decide +kernel
theorem e_92_642 : dec method_4_code 642 = some (.invokevirtual 14, 645, 0, 0) := by decide +kernel
theorem e_92_645 : dec method_4_code 645 = some (.if_icmp .ne 81, 648, 726, 0) := by decide +kernel
theorem e_92_648 : dec method_4_code 648 = some (.iload 5, 650, 5, 0) := by decide +kernel
theorem e_92_650 : dec method_4_code 650 = some (.aload_n 0, 651, 0, 0) := by decide +kernel
theorem e_92_651 : dec method_4_code 651 = some (.iconst 5, 652, 0, 5) := by decide +kernel
theorem e_92_652 : dec method_4_code 652 = some (.invokevirtual 14, 655, 0, 0) := by decide +kernel
theorem e_92_655 : dec method_4_code 655 = some (.aload_n 0, 656, 0, 0) := by decide +kernel
theorem e_92_656 : dec method_4_code 656 = some (.bipush 6, 658, 0, 6) := by decide +kernel
theorem e_92_658 : dec method_4_code 658 = some (.invokevirtual 14, 661, 0, 0) := by decide +kernel
theorem e_92_661 : dec method_4_code 661 = some (.iadd, 662, 0, 0) := by decide +kernel
theorem e_92_662 : dec method_4_code 662 = some (.if_icmp .ne 64, 665, 726, 0) := by decide +kernel
theorem e_92_665 : dec method_4_code 665 = some (.iload 5, 667, 5, 0) := by decide +kernel
theorem e_92_667 : dec method_4_code 667 = some (.aload_n 0, 668, 0, 0) := by decide +kernel
theorem e_92_668 : dec method_4_code 668 = some (.iconst 3, 669, 0, 3) := by decide +kernel
theorem e_92_669 : dec method_4_code 669 = some (.invokevirtual 14, 672, 0, 0) := by decide +kernel
theorem e_92_672 : dec method_4_code 672 = some (.if_icmp .gt 54, 675, 726, 0) := by decide +kernel
theorem e_92_675 : dec method_4_code 675 = some (.iload 11, 677, 11, 0) := by decide +kernel
theorem e_92_677 : dec method_4_code 677 = some (.iload 9, 679, 9, 0) := by decide +kernel
theorem e_92_679 : dec method_4_code 679 = some (.if_icmp .gt 47, 682, 726, 0) := by decide +kernel
theorem e_92_682 : dec method_4_code 682 = some (.aload_n 0, 683, 0, 0) := by decide +kernel
theorem e_92_683 : dec method_4_code 683 = some (.bipush 60, 685, 0, 60) := by decide +kernel
theorem e_92_685 : dec method_4_code 685 = some (.invokevirtual 35, 688, 0, 0) := by decide +kernel
theorem e_92_688 : dec method_4_code 688 = some (.iload 9, 690, 9, 0) := by decide +kernel
theorem e_92_690 : dec method_4_code 690 = some (.if_icmp .ne 36, 693, 726, 0) := by decide +kernel
theorem e_92_693 : dec method_4_code 693 = some (.aload_n 0, 694, 0, 0) := by decide +kernel
theorem e_92_694 : dec method_4_code 694 = some (.iload 9, 696, 9, 0) := by decide +kernel
theorem e_92_696 : dec method_4_code 696 = some (.invokevirtual 38, 699, 0, 0) := by decide +kernel
theorem e_92_699 : dec method_4_code 699 = some (.iconst (-1), 700, 0, (-1)) := by decide +kernel
theorem e_92_700 : dec method_4_code 700 = some (.if_icmp .ne 26, 703, 726, 0) := by decide +kernel
theorem e_92_703 : dec method_4_code 703 = some (.iload 9, 705, 9, 0) := by decide +kernel
theorem e_92_705 : dec method_4_code 705 = some (.ifCond .eq 17, 708, 722, 0) := by decide +kernel
theorem e_92_708 : dec method_4_code 708 = some (.aload_n 0, 709, 0, 0) := by decide +kernel
theorem e_92_709 : dec method_4_code 709 = some (.aload_n 0, 710, 0, 0) := by decide +kernel
theorem e_92_710 : dec method_4_code 710 = some (.iconst 0, 711, 0, 0) := by decide +kernel
theorem e_92_711 : dec method_4_code 711 = some (.invokevirtual 38, 714, 0, 0) := by decide +kernel
theorem e_92_714 : dec method_4_code 714 = some (.iload 9, 716, 9, 0) := by decide +kernel
theorem e_92_716 : dec method_4_code 716 = some (.invokestatic 41, 719, 0, 0) := by decide +kernel
theorem e_92_719 : dec method_4_code 719 = some (.ifCond .eq 7, 722, 726, 0) := by decide +kernel
theorem e_92_722 : dec method_4_code 722 = some (.iconst 1, 723, 0, 1) := by decide +kernel
theorem e_92_723 : dec method_4_code 723 = some (.goto 4, 726, 727, 0) := by decide +kernel
theorem e_92_726 : dec method_4_code 726 = some (.iconst 0, 727, 0, 0) := by decide +kernel
theorem e_92_727 : dec method_4_code 727 = some (.ireturn, 728, 0, 0) := by decide +kernel
theorem e_93_0 : dec method_5_code 0 = some (.iload_n 1, 1, 1, 0) := by decide +kernel
theorem e_93_1 : dec method_5_code 1 = some (.istore_n 3, 2, 3, 0) := by decide +kernel
theorem e_93_2 : dec method_5_code 2 = some (.iconst 1, 3, 0, 1) := by decide +kernel
theorem e_93_3 : dec method_5_code 3 = some (.iload_n 1, 4, 1, 0) := by decide +kernel
theorem e_93_4 : dec method_5_code 4 = some (.ishl, 5, 0, 0) := by decide +kernel
theorem e_93_5 : dec method_5_code 5 = some (.istore 4, 7, 4, 0) := by decide +kernel
theorem e_93_7 : dec method_5_code 7 = some (.iconst 1, 8, 0, 1) := by decide +kernel
theorem e_93_8 : dec method_5_code 8 = some (.istore 5, 10, 5, 0) := by decide +kernel
theorem e_93_10 : dec method_5_code 10 = some (.iconst 1, 11, 0, 1) := by decide +kernel
theorem e_93_11 : dec method_5_code 11 = some (.istore 6, 13, 6, 0) := by decide +kernel
theorem e_93_13 : dec method_5_code 13 = some (.iload 6, 15, 6, 0) := by decide +kernel
theorem e_93_15 : dec method_5_code 15 = some (.iload_n 2, 16, 2, 0) := by decide +kernel
theorem e_93_16 : dec method_5_code 16 = some (.if_icmp .ge 123, 19, 139, 0) := by decide +kernel
theorem e_93_19 : dec method_5_code 19 = some (.iload 5, 21, 5, 0) := by decide +kernel
theorem e_93_21 : dec method_5_code 21 = some (.ifCond .eq 118, 24, 139, 0) := by decide +kernel
theorem e_93_24 : dec method_5_code 24 = some (.aload_n 0, 25, 0, 0) := by decide +kernel
theorem e_93_25 : dec method_5_code 25 = some (.iload 6, 27, 6, 0) := by decide +kernel
theorem e_93_27 : dec method_5_code 27 = some (.invokevirtual 38, 30, 0, 0) := by decide +kernel
theorem e_93_30 : dec method_5_code 30 = some (.istore 7, 32, 7, 0) := by decide +kernel
theorem e_93_32 : dec method_5_code 32 = some (.aload_n 0, 33, 0, 0) := by decide +kernel
theorem e_93_33 : dec method_5_code 33 = some (.iload_n 3, 34, 3, 0) := by decide +kernel
theorem e_93_34 : dec method_5_code 34 = some (.iconst 2, 35, 0, 2) := by decide +kernel
theorem e_93_35 : dec method_5_code 35 = some (.invokevirtual 20, 38, 0, 0) := by decide +kernel
theorem e_93_38 : dec method_5_code 38 = some (.aload_n 0, 39, 0, 0) := by decide +kernel
theorem e_93_39 : dec method_5_code 39 = some (.iload 7, 41, 7, 0) := by decide +kernel
theorem e_93_41 : dec method_5_code 41 = some (.iconst 2, 42, 0, 2) := by decide +kernel
theorem e_93_42 : dec method_5_code 42 = some (.invokevirtual 20, 45, 0, 0) := by decide +kernel
theorem e_93_45 : dec method_5_code 45 = some (.isub, 46, 0, 0) := by decide +kernel
theorem e_93_46 : dec method_5_code 46 = some (.istore 8, 48, 8, 0) := by decide +kernel
theorem e_93_48 : dec method_5_code 48 = some (.iload 8, 50, 8, 0) := by decide +kernel
theorem e_93_50 : dec method_5_code 50 = some (.ifCond .ne 20, 53, 70, 0) := by decide +kernel
theorem e_93_53 : dec method_5_code 53 = some (.aload_n 0, 54, 0, 0) := by decide +kernel
theorem e_93_54 : dec method_5_code 54 = some (.iload 7, 56, 7, 0) := by decide +kernel
theorem e_93_56 : dec method_5_code 56 = some (.iconst 1, 57, 0, 1) := by decide +kernel
theorem e_93_57 : dec method_5_code 57 = some (.invokevirtual 20, 60, 0, 0) := by decide +kernel
theorem e_93_60 : dec method_5_code 60 = some (.aload_n 0, 61, 0, 0) := by decide +kernel
theorem e_93_61 : dec method_5_code 61 = some (.iload_n 3, 62, 3, 0) := by decide +kernel
theorem e_93_62 : dec method_5_code 62 = some (.iconst 1, 63, 0, 1) := by decide +kernel
theorem e_93_63 : dec method_5_code 63 = some (.invokevirtual 20, 66, 0, 0) := by decide +kernel
theorem e_93_66 : dec method_5_code 66 = some (.isub, 67, 0, 0) := by decide +kernel
theorem e_93_67 : dec method_5_code 67 = some (.goto 5, 70, 72, 0) := by decide +kernel
theorem e_93_70 : dec method_5_code 70 = some (.iload 8, 72, 8, 0) := by decide +kernel
theorem e_93_72 : dec method_5_code 72 = some (.istore 8, 74, 8, 0) := by decide +kernel
theorem e_93_74 : dec method_5_code 74 = some (.iload 7, 76, 7, 0) := by decide +kernel
theorem e_93_76 : dec method_5_code 76 = some (.ifCond .lt 33, 79, 109, 0) := by decide +kernel
theorem e_93_79 : dec method_5_code 79 = some (.iload 4, 81, 4, 0) := by decide +kernel
theorem e_93_81 : dec method_5_code 81 = some (.iload 7, 83, 7, 0) := by decide +kernel
theorem e_93_83 : dec method_5_code 83 = some (.ishr, 84, 0, 0) := by decide +kernel
theorem e_93_84 : dec method_5_code 84 = some (.iconst 1, 85, 0, 1) := by decide +kernel
theorem e_93_85 : dec method_5_code 85 = some (.iand, 86, 0, 0) := by decide +kernel
theorem e_93_86 : dec method_5_code 86 = some (.ifCond .ne 23, 89, 109, 0) := by decide +kernel
theorem e_93_89 : dec method_5_code 89 = some (.iload 8, 91, 8, 0) := by decide +kernel
theorem e_93_91 : dec method_5_code 91 = some (.ifCond .gt 14, 94, 105, 0) := by decide +kernel
theorem e_93_94 : dec method_5_code 94 = some (.iload 8, 96, 8, 0) := by decide +kernel
theorem e_93_96 : dec method_5_code 96 = some (.ifCond .ne 13, 99, 109, 0) := by decide +kernel
theorem e_93_99 : dec method_5_code 99 = some (.iload_n 3, 100, 3, 0) := by decide +kernel
theorem e_93_100 : dec method_5_code 100 = some (.iload 7, 102, 7, 0) := by decide +kernel
theorem e_93_102 : dec method_5_code 102 = some (.if_icmp .ge 7, 105, 109, 0) := by decide +kernel
theorem e_93_105 : dec method_5_code 105 = some (.iconst 1, 106, 0, 1) := by decide +kernel
theorem e_93_106 : dec method_5_code 106 = some (.goto 4, 109, 110, 0) := by decide +kernel
theorem e_93_109 : dec method_5_code 109 = some (.iconst 0, 110, 0, 0) := by decide +kernel
theorem e_93_110 : dec method_5_code 110 = some (.istore 5, 112, 5, 0) := by decide +kernel
theorem e_93_112 : dec method_5_code 112 = some (.iload 4, 114, 4, 0) := by decide +kernel
theorem e_93_114 : dec method_5_code 114 = some (.iload 5, 116, 5, 0) := by decide +kernel
theorem e_93_116 : dec method_5_code 116 = some (.ifCond .eq 10, 119, 126, 0) := by decide +kernel
theorem e_93_119 : dec method_5_code 119 = some (.iconst 1, 120, 0, 1) := by decide +kernel
theorem e_93_120 : dec method_5_code 120 = some (.iload 7, 122, 7, 0) := by decide +kernel
theorem e_93_122 : dec method_5_code 122 = some (.ishl, 123, 0, 0) := by decide +kernel
theorem e_93_123 : dec method_5_code 123 = some (.goto 4, 126, 127, 0) := by decide +kernel
theorem e_93_126 : dec method_5_code 126 = some (.iconst 0, 127, 0, 0) := by decide +kernel
theorem e_93_127 : dec method_5_code 127 = some (.ior, 128, 0, 0) := by decide +kernel
theorem e_93_128 : dec method_5_code 128 = some (.istore 4, 130, 4, 0) := by decide +kernel
theorem e_93_130 : dec method_5_code 130 = some (.iload 7, 132, 7, 0) := by decide +kernel
theorem e_93_132 : dec method_5_code 132 = some (.istore_n 3, 133, 3, 0) := by decide +kernel
theorem e_93_133 : dec method_5_code 133 = some (.iinc 6 1, 136, 6, 1) := by decide +kernel
theorem e_93_136 : dec method_5_code 136 = some (.goto (-123), 139, 13, 0) := by decide +kernel
theorem e_93_139 : dec method_5_code 139 = some (.iload 5, 141, 5, 0) := by decide +kernel
theorem e_93_141 : dec method_5_code 141 = some (.ifCond .eq 18, 144, 159, 0) := by decide +kernel
theorem e_93_144 : dec method_5_code 144 = some (.iload 4, 146, 4, 0) := by decide +kernel
theorem e_93_146 : dec method_5_code 146 = some (.aload_n 0, 147, 0, 0) := by decide +kernel
theorem e_93_147 : dec method_5_code 147 = some (.bipush 9, 149, 0, 9) := by decide +kernel
theorem e_93_149 : dec method_5_code 149 = some (.invokevirtual 14, 152, 0, 0) := by decide +kernel
theorem e_93_152 : dec method_5_code 152 = some (.if_icmp .ne 7, 155, 159, 0) := by decide +kernel
theorem e_93_155 : dec method_5_code 155 = some (.iconst 1, 156, 0, 1) := by decide +kernel
theorem e_93_156 : dec method_5_code 156 = some (.goto 4, 159, 160, 0) := by decide +kernel
theorem e_93_159 : dec method_5_code 159 = some (.iconst 0, 160, 0, 0) := by decide +kernel
theorem e_93_160 : dec method_5_code 160 = some (.ireturn, 161, 0, 0) := by decide +kernel
theorem E_93 : dec method_5_code 0 = some (.iload_n 1, 1, 1, 0) ∧ dec method_5_code 1 = some (.istore_n 3, 2, 3, 0) ∧ dec method_5_code 2 = some (.iconst 1, 3, 0, 1) ∧ dec method_5_code 3 = some (.iload_n 1, 4, 1, 0) ∧ dec method_5_code 4 = some (.ishl, 5, 0, 0) ∧ dec method_5_code 5 = some (.istore 4, 7, 4, 0) ∧ dec method_5_code 7 = some (.iconst 1, 8, 0, 1) ∧ dec method_5_code 8 = some (.istore 5, 10, 5, 0) ∧ dec method_5_code 10 = some (.iconst 1, 11, 0, 1) ∧ dec method_5_code 11 = some (.istore 6, 13, 6, 0) ∧ dec method_5_code 13 = some (.iload 6, 15, 6, 0) ∧ dec method_5_code 15 = some (.iload_n 2, 16, 2, 0) ∧ dec method_5_code 16 = some (.if_icmp .ge 123, 19, 139, 0) ∧ dec method_5_code 19 = some (.iload 5, 21, 5, 0) ∧ dec method_5_code 21 = some (.ifCond .eq 118, 24, 139, 0) ∧ dec method_5_code 24 = some (.aload_n 0, 25, 0, 0) ∧ dec method_5_code 25 = some (.iload 6, 27, 6, 0) ∧ dec method_5_code 27 = some (.invokevirtual 38, 30, 0, 0) ∧ dec method_5_code 30 = some (.istore 7, 32, 7, 0) ∧ dec method_5_code 32 = some (.aload_n 0, 33, 0, 0) ∧ dec method_5_code 33 = some (.iload_n 3, 34, 3, 0) ∧ dec method_5_code 34 = some (.iconst 2, 35, 0, 2) ∧ dec method_5_code 35 = some (.invokevirtual 20, 38, 0, 0) ∧ dec method_5_code 38 = some (.aload_n 0, 39, 0, 0) ∧ dec method_5_code 39 = some (.iload 7, 41, 7, 0) ∧ dec method_5_code 41 = some (.iconst 2, 42, 0, 2) ∧ dec method_5_code 42 = some (.invokevirtual 20, 45, 0, 0) ∧ dec method_5_code 45 = some (.isub, 46, 0, 0) ∧ dec method_5_code 46 = some (.istore 8, 48, 8, 0) ∧ dec method_5_code 48 = some (.iload 8, 50, 8, 0) ∧ dec method_5_code 50 = some (.ifCond .ne 20, 53, 70, 0) ∧ dec method_5_code 53 = some (.aload_n 0, 54, 0, 0) ∧ dec method_5_code 54 = some (.iload 7, 56, 7, 0) ∧ dec method_5_code 56 = some (.iconst 1, 57, 0, 1) ∧ dec method_5_code 57 = some (.invokevirtual 20, 60, 0, 0) ∧ dec method_5_code 60 = some (.aload_n 0, 61, 0, 0) ∧ dec method_5_code 61 = some (.iload_n 3, 62, 3, 0) ∧ dec method_5_code 62 = some (.iconst 1, 63, 0, 1) ∧ dec method_5_code 63 = some (.invokevirtual 20, 66, 0, 0) ∧ dec method_5_code 66 = some (.isub, 67, 0, 0) ∧ dec method_5_code 67 = some (.goto 5, 70, 72, 0) ∧ dec method_5_code 70 = some (.iload 8, 72, 8, 0) ∧ dec method_5_code 72 = some (.istore 8, 74, 8, 0) ∧ dec method_5_code 74 = some (.iload 7, 76, 7, 0) ∧ dec method_5_code 76 = some (.ifCond .lt 33, 79, 109, 0) ∧ dec method_5_code 79 = some (.iload 4, 81, 4, 0) ∧ dec method_5_code 81 = some (.iload 7, 83, 7, 0) ∧ dec method_5_code 83 = some (.ishr, 84, 0, 0) ∧ dec method_5_code 84 = some (.iconst 1, 85, 0, 1) ∧ dec method_5_code 85 = some (.iand, 86, 0, 0) ∧ dec method_5_code 86 = some (.ifCond .ne 23, 89, 109, 0) ∧ dec method_5_code 89 = some (.iload 8, 91, 8, 0) ∧ dec method_5_code 91 = some (.ifCond .gt 14, 94, 105, 0) ∧ dec method_5_code 94 = some (.iload 8, 96, 8, 0) ∧ dec method_5_code 96 = some (.ifCond .ne 13, 99, 109, 0) ∧ dec method_5_code 99 = some (.iload_n 3, 100, 3, 0) ∧ dec method_5_code 100 = some (.iload 7, 102, 7, 0) ∧ dec method_5_code 102 = some (.if_icmp .ge 7, 105, 109, 0) ∧ dec method_5_code 105 = some (.iconst 1, 106, 0, 1) ∧ dec method_5_code 106 = some (.goto 4, 109, 110, 0) ∧ dec method_5_code 109 = some (.iconst 0, 110, 0, 0) ∧ dec method_5_code 110 = some (.istore 5, 112, 5, 0) ∧ dec method_5_code 112 = some (.iload 4, 114, 4, 0) ∧ dec method_5_code 114 = some (.iload 5, 116, 5, 0) ∧ dec method_5_code 116 = some (.ifCond .eq 10, 119, 126, 0) ∧ dec method_5_code 119 = some (.iconst 1, 120, 0, 1) ∧ dec method_5_code 120 = some (.iload 7, 122, 7, 0) ∧ dec method_5_code 122 = some (.ishl, 123, 0, 0) ∧ dec method_5_code 123 = some (.goto 4, 126, 127, 0) ∧ dec method_5_code 126 = some (.iconst 0, 127, 0, 0) ∧ dec method_5_code 127 = some (.ior, 128, 0, 0) ∧ dec method_5_code 128 = some (.istore 4, 130, 4, 0) ∧ dec method_5_code 130 = some (.iload 7, 132, 7, 0) ∧ dec method_5_code 132 = some (.istore_n 3, 133, 3, 0) ∧ dec method_5_code 133 = some (.iinc 6 1, 136, 6, 1) ∧ dec method_5_code 136 = some (.goto (-123), 139, 13, 0) ∧ dec method_5_code 139 = some (.iload 5, 141, 5, 0) ∧ dec method_5_code 141 = some (.ifCond .eq 18, 144, 159, 0) ∧ dec method_5_code 144 = some (.iload 4, 146, 4, 0) ∧ dec method_5_code 146 = some (.aload_n 0, 147, 0, 0) ∧ dec method_5_code 147 = some (.bipush 9, 149, 0, 9) ∧ dec method_5_code 149 = some (.invokevirtual 14, 152, 0, 0) ∧ dec method_5_code 152 = some (.if_icmp .ne 7, 155, 159, 0) ∧ dec method_5_code 155 = some (.iconst 1, 156, 0, 1) ∧ dec method_5_code 156 = some (.goto 4, 159, 160, 0) ∧ dec method_5_code 159 = some (.iconst 0, 160, 0, 0) ∧ dec method_5_code 160 = some (.ireturn, 161, 0, 0) := ⟨e_93_0, e_93_1, e_93_2, e_93_3, e_93_4, e_93_5, e_93_7, e_93_8, e_93_10, e_93_11, e_93_13, e_93_15, e_93_16, e_93_19, e_93_21, e_93_24, e_93_25, e_93_27, e_93_30, e_93_32, e_93_33, e_93_34, e_93_35, e_93_38, e_93_39, e_93_41, e_93_42, e_93_45, e_93_46, e_93_48, e_93_50, e_93_53, e_93_54, e_93_56, e_93_57, e_93_60, e_93_61, e_93_62, e_93_63, e_93_66, e_93_67, e_93_70, e_93_72, e_93_74, e_93_76, e_93_79, e_93_81, e_93_83, e_93_84, e_93_85, e_93_86, e_93_89, e_93_91, e_93_94, e_93_96, e_93_99, e_93_100, e_93_102, e_93_105, e_93_106, e_93_109, e_93_110, e_93_112, e_93_114, e_93_116, e_93_119, e_93_120, e_93_122, e_93_123, e_93_126, e_93_127, e_93_128, e_93_130, e_93_132, e_93_133, e_93_136, e_93_139, e_93_141, e_93_144, e_93_146, e_93_147, e_93_149, e_93_152, e_93_155, e_93_156, e_93_159, e_93_160⟩
theorem e_94_0 : dec method_6_code 0 = some (.aload_n 0, 1, 0, 0) := by decide +kernel
theorem e_94_1 : dec method_6_code 1 = some (.invokevirtual 45, 4, 0, 0) := by decide +kernel
theorem e_94_4 : dec method_6_code 4 = some (.istore_n 1, 5, 1, 0) := by decide +kernel
theorem e_94_5 : dec method_6_code 5 = some (.aload_n 0, 6, 0, 0) := by decide +kernel
theorem e_94_6 : dec method_6_code 6 = some (.bipush 13, 8, 0, 13) := by decide +kernel
theorem e_94_8 : dec method_6_code 8 = some (.invokevirtual 14, 11, 0, 0) := by decide +kernel
theorem e_94_11 : dec method_6_code 11 = some (.aload_n 0, 12, 0, 0) := by decide +kernel
theorem e_94_12 : dec method_6_code 12 = some (.iconst 1, 13, 0, 1) := by decide +kernel
theorem e_94_13 : dec method_6_code 13 = some (.invokevirtual 14, 16, 0, 0) := by decide +kernel
theorem e_94_16 : dec method_6_code 16 = some (.isub, 17, 0, 0) := by decide +kernel
theorem e_94_17 : dec method_6_code 17 = some (.aload_n 0, 18, 0, 0) := by decide +kernel
theorem e_94_18 : dec method_6_code 18 = some (.bipush 12, 20, 0, 12) := by decide +kernel
theorem e_94_20 : dec method_6_code 20 = some (.invokevirtual 14, 23, 0, 0) := by decide +kernel
theorem e_94_23 : dec method_6_code 23 = some (.isub, 24, 0, 0) := by decide +kernel
theorem e_94_24 : dec method_6_code 24 = some (.istore_n 2, 25, 2, 0) := by decide +kernel
theorem e_94_25 : dec method_6_code 25 = some (.aload_n 0, 26, 0, 0) := by decide +kernel
theorem e_94_26 : dec method_6_code 26 = some (.iconst 0, 27, 0, 0) := by decide +kernel
theorem e_94_27 : dec method_6_code 27 = some (.invokevirtual 14, 30, 0, 0) := by decide +kernel
theorem e_94_30 : dec method_6_code 30 = some (.ifCond .lt 130, 33, 160, 0) := by decide +kernel
theorem e_94_33 : dec method_6_code 33 = some (.aload_n 0, 34, 0, 0) := by decide +kernel
theorem e_94_34 : dec method_6_code 34 = some (.iconst 0, 35, 0, 0) := by decide +kernel
theorem e_94_35 : dec method_6_code 35 = some (.invokevirtual 14, 38, 0, 0) := by decide +kernel
theorem e_94_38 : dec method_6_code 38 = some (.sipush 1000, 41, 0, 1000) := by decide +kernel
theorem e_94_41 : dec method_6_code 41 = some (.if_icmp .ge 119, 44, 160, 0) := by decide +kernel
theorem e_94_44 : dec method_6_code 44 = some (.aload_n 0, 45, 0, 0) := by decide +kernel
theorem e_94_45 : dec method_6_code 45 = some (.iconst 1, 46, 0, 1) := by decide +kernel
theorem e_94_46 : dec method_6_code 46 = some (.invokevirtual 14, 49, 0, 0) := by decide +kernel
theorem e_94_49 : dec method_6_code 49 = some (.ifCond .lt 111, 52, 160, 0) := by decide +kernel
theorem e_94_52 : dec method_6_code 52 = some (.aload_n 0, 53, 0, 0) := by decide +kernel
theorem e_94_53 : dec method_6_code 53 = some (.iconst 1, 54, 0, 1) := by decide +kernel
theorem e_94_54 : dec method_6_code 54 = some (.invokevirtual 14, 57, 0, 0) := by decide +kernel
theorem e_94_57 : dec method_6_code 57 = some (.aload_n 0, 58, 0, 0) := by decide +kernel
theorem e_94_58 : dec method_6_code 58 = some (.iconst 2, 59, 0, 2) := by decide +kernel
theorem e_94_59 : dec method_6_code 59 = some (.invokevirtual 14, 62, 0, 0) := by decide +kernel
theorem e_94_62 : dec method_6_code 62 = some (.if_icmp .gt 98, 65, 160, 0) := by decide +kernel
theorem e_94_65 : dec method_6_code 65 = some (.aload_n 0, 66, 0, 0) := by decide +kernel
theorem e_94_66 : dec method_6_code 66 = some (.iconst 2, 67, 0, 2) := by decide +kernel
theorem e_94_67 : dec method_6_code 67 = some (.invokevirtual 14, 70, 0, 0) := by decide +kernel
theorem e_94_70 : dec method_6_code 70 = some (.aload_n 0, 71, 0, 0) := by decide +kernel
theorem e_94_71 : dec method_6_code 71 = some (.iconst 3, 72, 0, 3) := by decide +kernel
theorem e_94_72 : dec method_6_code 72 = some (.invokevirtual 14, 75, 0, 0) := by decide +kernel
theorem e_94_75 : dec method_6_code 75 = some (.if_icmp .lt 85, 78, 160, 0) := by decide +kernel
theorem e_94_78 : dec method_6_code 78 = some (.aload_n 0, 79, 0, 0) := by decide +kernel
theorem e_94_79 : dec method_6_code 79 = some (.iconst 2, 80, 0, 2) := by decide +kernel
theorem e_94_80 : dec method_6_code 80 = some (.invokevirtual 14, 83, 0, 0) := by decide +kernel
theorem e_94_83 : dec method_6_code 83 = some (.bipush 9, 85, 0, 9) := by decide +kernel
theorem e_94_85 : dec method_6_code 85 = some (.aload_n 0, 86, 0, 0) := by decide +kernel
theorem e_94_86 : dec method_6_code 86 = some (.iconst 3, 87, 0, 3) := by decide +kernel
theorem e_94_87 : dec method_6_code 87 = some (.invokevirtual 14, 90, 0, 0) := by decide +kernel
theorem e_94_90 : dec method_6_code 90 = some (.imul, 91, 0, 0) := by decide +kernel
theorem e_94_91 : dec method_6_code 91 = some (.if_icmp .gt 69, 94, 160, 0) := by decide +kernel
theorem e_94_94 : dec method_6_code 94 = some (.aload_n 0, 95, 0, 0) := by decide +kernel
theorem e_94_95 : dec method_6_code 95 = some (.iconst 4, 96, 0, 4) := by decide +kernel
theorem e_94_96 : dec method_6_code 96 = some (.invokevirtual 14, 99, 0, 0) := by decide +kernel
theorem e_94_99 : dec method_6_code 99 = some (.aload_n 0, 100, 0, 0) := by decide +kernel
theorem e_94_100 : dec method_6_code 100 = some (.iconst 3, 101, 0, 3) := by decide +kernel
theorem e_94_101 : dec method_6_code 101 = some (.invokevirtual 14, 104, 0, 0) := by decide +kernel
theorem e_94_104 : dec method_6_code 104 = some (.if_icmp .gt 56, 107, 160, 0) := by decide +kernel
theorem e_94_107 : dec method_6_code 107 = some (.aload_n 0, 108, 0, 0) := by decide +kernel
theorem e_94_108 : dec method_6_code 108 = some (.iconst 5, 109, 0, 5) := by decide +kernel
theorem e_94_109 : dec method_6_code 109 = some (.invokevirtual 14, 112, 0, 0) := by decide +kernel
theorem e_94_112 : dec method_6_code 112 = some (.aload_n 0, 113, 0, 0) := by decide +kernel
theorem e_94_113 : dec method_6_code 113 = some (.bipush 6, 115, 0, 6) := by decide +kernel
theorem e_94_115 : dec method_6_code 115 = some (.invokevirtual 14, 118, 0, 0) := by decide +kernel
theorem e_94_118 : dec method_6_code 118 = some (.iadd, 119, 0, 0) := by decide +kernel
theorem e_94_119 : dec method_6_code 119 = some (.aload_n 0, 120, 0, 0) := by decide +kernel
theorem e_94_120 : dec method_6_code 120 = some (.iconst 3, 121, 0, 3) := by decide +kernel
theorem e_94_121 : dec method_6_code 121 = some (.invokevirtual 14, 124, 0, 0) := by decide +kernel
theorem e_94_124 : dec method_6_code 124 = some (.if_icmp .gt 36, 127, 160, 0) := by decide +kernel
theorem e_94_127 : dec method_6_code 127 = some (.iload_n 1, 128, 1, 0) := by decide +kernel
theorem e_94_128 : dec method_6_code 128 = some (.iload_n 2, 129, 2, 0) := by decide +kernel
theorem e_94_129 : dec method_6_code 129 = some (.ifCond .gt 7, 132, 136, 0) := by decide +kernel
theorem e_94_132 : dec method_6_code 132 = some (.iconst 0, 133, 0, 0) := by decide +kernel
theorem e_94_133 : dec method_6_code 133 = some (.goto 20, 136, 153, 0) := by decide +kernel
theorem e_94_136 : dec method_6_code 136 = some (.iload_n 2, 137, 2, 0) := by decide +kernel
theorem e_94_137 : dec method_6_code 137 = some (.aload_n 0, 138, 0, 0) := by decide +kernel
theorem e_94_138 : dec method_6_code 138 = some (.bipush 12, 140, 0, 12) := by decide +kernel
theorem e_94_140 : dec method_6_code 140 = some (.invokevirtual 14, 143, 0, 0) := by decide +kernel
theorem e_94_143 : dec method_6_code 143 = some (.iadd, 144, 0, 0) := by decide +kernel
theorem e_94_144 : dec method_6_code 144 = some (.iconst 1, 145, 0, 1) := by decide +kernel
theorem e_94_145 : dec method_6_code 145 = some (.isub, 146, 0, 0) := by decide +kernel
theorem e_94_146 : dec method_6_code 146 = some (.aload_n 0, 147, 0, 0) := by decide +kernel
theorem e_94_147 : dec method_6_code 147 = some (.bipush 12, 149, 0, 12) := by decide +kernel
theorem e_94_149 : dec method_6_code 149 = some (.invokevirtual 14, 152, 0, 0) := by decide +kernel
theorem e_94_152 : dec method_6_code 152 = some (.idiv, 153, 0, 0) := by decide +kernel
theorem e_94_153 : dec method_6_code 153 = some (.if_icmp .ne 7, 156, 160, 0) := by decide +kernel
theorem e_94_156 : dec method_6_code 156 = some (.iconst 1, 157, 0, 1) := by decide +kernel
theorem e_94_157 : dec method_6_code 157 = some (.goto 4, 160, 161, 0) := by decide +kernel
theorem e_94_160 : dec method_6_code 160 = some (.iconst 0, 161, 0, 0) := by decide +kernel
theorem e_94_161 : dec method_6_code 161 = some (.ireturn, 162, 0, 0) := by decide +kernel
theorem E_94 : dec method_6_code 0 = some (.aload_n 0, 1, 0, 0) ∧ dec method_6_code 1 = some (.invokevirtual 45, 4, 0, 0) ∧ dec method_6_code 4 = some (.istore_n 1, 5, 1, 0) ∧ dec method_6_code 5 = some (.aload_n 0, 6, 0, 0) ∧ dec method_6_code 6 = some (.bipush 13, 8, 0, 13) ∧ dec method_6_code 8 = some (.invokevirtual 14, 11, 0, 0) ∧ dec method_6_code 11 = some (.aload_n 0, 12, 0, 0) ∧ dec method_6_code 12 = some (.iconst 1, 13, 0, 1) ∧ dec method_6_code 13 = some (.invokevirtual 14, 16, 0, 0) ∧ dec method_6_code 16 = some (.isub, 17, 0, 0) ∧ dec method_6_code 17 = some (.aload_n 0, 18, 0, 0) ∧ dec method_6_code 18 = some (.bipush 12, 20, 0, 12) ∧ dec method_6_code 20 = some (.invokevirtual 14, 23, 0, 0) ∧ dec method_6_code 23 = some (.isub, 24, 0, 0) ∧ dec method_6_code 24 = some (.istore_n 2, 25, 2, 0) ∧ dec method_6_code 25 = some (.aload_n 0, 26, 0, 0) ∧ dec method_6_code 26 = some (.iconst 0, 27, 0, 0) ∧ dec method_6_code 27 = some (.invokevirtual 14, 30, 0, 0) ∧ dec method_6_code 30 = some (.ifCond .lt 130, 33, 160, 0) ∧ dec method_6_code 33 = some (.aload_n 0, 34, 0, 0) ∧ dec method_6_code 34 = some (.iconst 0, 35, 0, 0) ∧ dec method_6_code 35 = some (.invokevirtual 14, 38, 0, 0) ∧ dec method_6_code 38 = some (.sipush 1000, 41, 0, 1000) ∧ dec method_6_code 41 = some (.if_icmp .ge 119, 44, 160, 0) ∧ dec method_6_code 44 = some (.aload_n 0, 45, 0, 0) ∧ dec method_6_code 45 = some (.iconst 1, 46, 0, 1) ∧ dec method_6_code 46 = some (.invokevirtual 14, 49, 0, 0) ∧ dec method_6_code 49 = some (.ifCond .lt 111, 52, 160, 0) ∧ dec method_6_code 52 = some (.aload_n 0, 53, 0, 0) ∧ dec method_6_code 53 = some (.iconst 1, 54, 0, 1) ∧ dec method_6_code 54 = some (.invokevirtual 14, 57, 0, 0) ∧ dec method_6_code 57 = some (.aload_n 0, 58, 0, 0) ∧ dec method_6_code 58 = some (.iconst 2, 59, 0, 2) ∧ dec method_6_code 59 = some (.invokevirtual 14, 62, 0, 0) ∧ dec method_6_code 62 = some (.if_icmp .gt 98, 65, 160, 0) ∧ dec method_6_code 65 = some (.aload_n 0, 66, 0, 0) ∧ dec method_6_code 66 = some (.iconst 2, 67, 0, 2) ∧ dec method_6_code 67 = some (.invokevirtual 14, 70, 0, 0) ∧ dec method_6_code 70 = some (.aload_n 0, 71, 0, 0) ∧ dec method_6_code 71 = some (.iconst 3, 72, 0, 3) ∧ dec method_6_code 72 = some (.invokevirtual 14, 75, 0, 0) ∧ dec method_6_code 75 = some (.if_icmp .lt 85, 78, 160, 0) ∧ dec method_6_code 78 = some (.aload_n 0, 79, 0, 0) ∧ dec method_6_code 79 = some (.iconst 2, 80, 0, 2) ∧ dec method_6_code 80 = some (.invokevirtual 14, 83, 0, 0) ∧ dec method_6_code 83 = some (.bipush 9, 85, 0, 9) ∧ dec method_6_code 85 = some (.aload_n 0, 86, 0, 0) ∧ dec method_6_code 86 = some (.iconst 3, 87, 0, 3) ∧ dec method_6_code 87 = some (.invokevirtual 14, 90, 0, 0) ∧ dec method_6_code 90 = some (.imul, 91, 0, 0) ∧ dec method_6_code 91 = some (.if_icmp .gt 69, 94, 160, 0) ∧ dec method_6_code 94 = some (.aload_n 0, 95, 0, 0) ∧ dec method_6_code 95 = some (.iconst 4, 96, 0, 4) ∧ dec method_6_code 96 = some (.invokevirtual 14, 99, 0, 0) ∧ dec method_6_code 99 = some (.aload_n 0, 100, 0, 0) ∧ dec method_6_code 100 = some (.iconst 3, 101, 0, 3) ∧ dec method_6_code 101 = some (.invokevirtual 14, 104, 0, 0) ∧ dec method_6_code 104 = some (.if_icmp .gt 56, 107, 160, 0) ∧ dec method_6_code 107 = some (.aload_n 0, 108, 0, 0) ∧ dec method_6_code 108 = some (.iconst 5, 109, 0, 5) ∧ dec method_6_code 109 = some (.invokevirtual 14, 112, 0, 0) ∧ dec method_6_code 112 = some (.aload_n 0, 113, 0, 0) ∧ dec method_6_code 113 = some (.bipush 6, 115, 0, 6) ∧ dec method_6_code 115 = some (.invokevirtual 14, 118, 0, 0) ∧ dec method_6_code 118 = some (.iadd, 119, 0, 0) ∧ dec method_6_code 119 = some (.aload_n 0, 120, 0, 0) ∧ dec method_6_code 120 = some (.iconst 3, 121, 0, 3) ∧ dec method_6_code 121 = some (.invokevirtual 14, 124, 0, 0) ∧ dec method_6_code 124 = some (.if_icmp .gt 36, 127, 160, 0) ∧ dec method_6_code 127 = some (.iload_n 1, 128, 1, 0) ∧ dec method_6_code 128 = some (.iload_n 2, 129, 2, 0) ∧ dec method_6_code 129 = some (.ifCond .gt 7, 132, 136, 0) ∧ dec method_6_code 132 = some (.iconst 0, 133, 0, 0) ∧ dec method_6_code 133 = some (.goto 20, 136, 153, 0) ∧ dec method_6_code 136 = some (.iload_n 2, 137, 2, 0) ∧ dec method_6_code 137 = some (.aload_n 0, 138, 0, 0) ∧ dec method_6_code 138 = some (.bipush 12, 140, 0, 12) ∧ dec method_6_code 140 = some (.invokevirtual 14, 143, 0, 0) ∧ dec method_6_code 143 = some (.iadd, 144, 0, 0) ∧ dec method_6_code 144 = some (.iconst 1, 145, 0, 1) ∧ dec method_6_code 145 = some (.isub, 146, 0, 0) ∧ dec method_6_code 146 = some (.aload_n 0, 147, 0, 0) ∧ dec method_6_code 147 = some (.bipush 12, 149, 0, 12) ∧ dec method_6_code 149 = some (.invokevirtual 14, 152, 0, 0) ∧ dec method_6_code 152 = some (.idiv, 153, 0, 0) ∧ dec method_6_code 153 = some (.if_icmp .ne 7, 156, 160, 0) ∧ dec method_6_code 156 = some (.iconst 1, 157, 0, 1) ∧ dec method_6_code 157 = some (.goto 4, 160, 161, 0) ∧ dec method_6_code 160 = some (.iconst 0, 161, 0, 0) ∧ dec method_6_code 161 = some (.ireturn, 162, 0, 0) := ⟨e_94_0, e_94_1, e_94_4, e_94_5, e_94_6, e_94_8, e_94_11, e_94_12, e_94_13, e_94_16, e_94_17, e_94_18, e_94_20, e_94_23, e_94_24, e_94_25, e_94_26, e_94_27, e_94_30, e_94_33, e_94_34, e_94_35, e_94_38, e_94_41, e_94_44, e_94_45, e_94_46, e_94_49, e_94_52, e_94_53, e_94_54, e_94_57, e_94_58, e_94_59, e_94_62, e_94_65, e_94_66, e_94_67, e_94_70, e_94_71, e_94_72, e_94_75, e_94_78, e_94_79, e_94_80, e_94_83, e_94_85, e_94_86, e_94_87, e_94_90, e_94_91, e_94_94, e_94_95, e_94_96, e_94_99, e_94_100, e_94_101, e_94_104, e_94_107, e_94_108, e_94_109, e_94_112, e_94_113, e_94_115, e_94_118, e_94_119, e_94_120, e_94_121, e_94_124, e_94_127, e_94_128, e_94_129, e_94_132, e_94_133, e_94_136, e_94_137, e_94_138, e_94_140, e_94_143, e_94_144, e_94_145, e_94_146, e_94_147, e_94_149, e_94_152, e_94_153, e_94_156, e_94_157, e_94_160, e_94_161⟩
theorem e_95_0 : dec method_7_code 0 = some (.iload_n 1, 1, 1, 0) := by decide +kernel
theorem e_95_1 : dec method_7_code 1 = some (.iconst 2, 2, 0, 2) := by decide +kernel
theorem e_95_2 : dec method_7_code 2 = some (.irem, 3, 0, 0) := by decide +kernel
theorem e_95_3 : dec method_7_code 3 = some (.ifCond .ne 12, 6, 15, 0) := by decide +kernel
theorem e_95_6 : dec method_7_code 6 = some (.iconst (-1), 7, 0, (-1)) := by decide +kernel
theorem e_95_7 : dec method_7_code 7 = some (.iload_n 1, 8, 1, 0) := by decide +kernel
theorem e_95_8 : dec method_7_code 8 = some (.bipush 99, 10, 0, 99) := by decide +kernel
theorem e_95_10 : dec method_7_code 10 = some (.irem, 11, 0, 0) := by decide +kernel
theorem e_95_11 : dec method_7_code 11 = some (.isub, 12, 0, 0) := by decide +kernel
theorem e_95_12 : dec method_7_code 12 = some (.goto 10, 15, 22, 0) := by decide +kernel
theorem e_95_15 : dec method_7_code 15 = some (.bipush 24, 17, 0, 24) := by decide +kernel
theorem e_95_17 : dec method_7_code 17 = some (.iload_n 1, 18, 1, 0) := by decide +kernel
theorem e_95_18 : dec method_7_code 18 = some (.bipush 99, 20, 0, 99) := by decide +kernel
theorem e_95_20 : dec method_7_code 20 = some (.irem, 21, 0, 0) := by decide +kernel
theorem e_95_21 : dec method_7_code 21 = some (.iadd, 22, 0, 0) := by decide +kernel
theorem e_95_22 : dec method_7_code 22 = some (.istore_n 2, 23, 2, 0) := by decide +kernel
theorem e_95_23 : dec method_7_code 23 = some (.iload_n 1, 24, 1, 0) := by decide +kernel
theorem e_95_24 : dec method_7_code 24 = some (.iconst 2, 25, 0, 2) := by decide +kernel
theorem e_95_25 : dec method_7_code 25 = some (.irem, 26, 0, 0) := by decide +kernel
theorem e_95_26 : dec method_7_code 26 = some (.ifCond .ne 12, 29, 38, 0) := by decide +kernel
theorem e_95_29 : dec method_7_code 29 = some (.iconst (-1), 30, 0, (-1)) := by decide +kernel
theorem e_95_30 : dec method_7_code 30 = some (.iload_n 1, 31, 1, 0) := by decide +kernel
theorem e_95_31 : dec method_7_code 31 = some (.bipush 99, 33, 0, 99) := by decide +kernel
theorem e_95_33 : dec method_7_code 33 = some (.irem, 34, 0, 0) := by decide +kernel
theorem e_95_34 : dec method_7_code 34 = some (.isub, 35, 0, 0) := by decide +kernel
theorem e_95_35 : dec method_7_code 35 = some (.goto 10, 38, 45, 0) := by decide +kernel
theorem e_95_38 : dec method_7_code 38 = some (.bipush 8, 40, 0, 8) := by decide +kernel
theorem e_95_40 : dec method_7_code 40 = some (.iload_n 1, 41, 1, 0) := by decide +kernel
theorem e_95_41 : dec method_7_code 41 = some (.bipush 99, 43, 0, 99) := by decide +kernel
theorem e_95_43 : dec method_7_code 43 = some (.irem, 44, 0, 0) := by decide +kernel
theorem e_95_44 : dec method_7_code 44 = some (.iadd, 45, 0, 0) := by decide +kernel
theorem e_95_45 : dec method_7_code 45 = some (.istore_n 3, 46, 3, 0) := by decide +kernel
theorem e_95_46 : dec method_7_code 46 = some (.iload_n 1, 47, 1, 0) := by decide +kernel
theorem e_95_47 : dec method_7_code 47 = some (.iconst 2, 48, 0, 2) := by decide +kernel
theorem e_95_48 : dec method_7_code 48 = some (.irem, 49, 0, 0) := by decide +kernel
theorem e_95_49 : dec method_7_code 49 = some (.ifCond .ne 12, 52, 61, 0) := by decide +kernel
theorem e_95_52 : dec method_7_code 52 = some (.iconst (-1), 53, 0, (-1)) := by decide +kernel
theorem e_95_53 : dec method_7_code 53 = some (.iload_n 1, 54, 1, 0) := by decide +kernel
theorem e_95_54 : dec method_7_code 54 = some (.bipush 99, 56, 0, 99) := by decide +kernel
theorem e_95_56 : dec method_7_code 56 = some (.irem, 57, 0, 0) := by decide +kernel
theorem e_95_57 : dec method_7_code 57 = some (.isub, 58, 0, 0) := by decide +kernel
theorem e_95_58 : dec method_7_code 58 = some (.goto 9, 61, 67, 0) := by decide +kernel
theorem e_95_61 : dec method_7_code 61 = some (.iconst 5, 62, 0, 5) := by decide +kernel
theorem e_95_62 : dec method_7_code 62 = some (.iload_n 1, 63, 1, 0) := by decide +kernel
theorem e_95_63 : dec method_7_code 63 = some (.bipush 99, 65, 0, 99) := by decide +kernel
theorem e_95_65 : dec method_7_code 65 = some (.irem, 66, 0, 0) := by decide +kernel
theorem e_95_66 : dec method_7_code 66 = some (.iadd, 67, 0, 0) := by decide +kernel
theorem e_95_67 : dec method_7_code 67 = some (.istore 4, 69, 4, 0) := by decide +kernel
theorem e_95_69 : dec method_7_code 69 = some (.aload_n 0, 70, 0, 0) := by decide +kernel
theorem e_95_70 : dec method_7_code 70 = some (.iload_n 1, 71, 1, 0) := by decide +kernel
theorem e_95_71 : dec method_7_code 71 = some (.iconst 2, 72, 0, 2) := by decide +kernel
theorem e_95_72 : dec method_7_code 72 = some (.irem, 73, 0, 0) := by decide +kernel
theorem e_95_73 : dec method_7_code 73 = some (.ifCond .ne 7, 76, 80, 0) := by decide +kernel
theorem e_95_76 : dec method_7_code 76 = some (.iconst (-1), 77, 0, (-1)) := by decide +kernel
theorem e_95_77 : dec method_7_code 77 = some (.goto 5, 80, 82, 0) := by decide +kernel
theorem e_95_80 : dec method_7_code 80 = some (.bipush 6, 82, 0, 6) := by decide +kernel
theorem e_95_82 : dec method_7_code 82 = some (.iconst 5, 83, 0, 5) := by decide +kernel
theorem e_95_83 : dec method_7_code 83 = some (.invokevirtual 49, 86, 0, 0) := by decide +kernel
theorem e_95_86 : dec method_7_code 86 = some (.bipush (-2), 88, 0, (-2)) := by decide +kernel
theorem e_95_88 : dec method_7_code 88 = some (.if_icmp .ne 349, 91, 437, 0) := by decide +kernel
theorem e_95_91 : dec method_7_code 91 = some (.aload_n 0, 92, 0, 0) := by decide +kernel
theorem e_95_92 : dec method_7_code 92 = some (.iconst 0, 93, 0, 0) := by decide +kernel
theorem e_95_93 : dec method_7_code 93 = some (.iload_n 1, 94, 1, 0) := by decide +kernel
theorem e_95_94 : dec method_7_code 94 = some (.iconst 2, 95, 0, 2) := by decide +kernel
theorem e_95_95 : dec method_7_code 95 = some (.irem, 96, 0, 0) := by decide +kernel
theorem e_95_96 : dec method_7_code 96 = some (.ifCond .ne 7, 99, 103, 0) := by decide +kernel
theorem e_95_99 : dec method_7_code 99 = some (.iconst 0, 100, 0, 0) := by decide +kernel
theorem e_95_100 : dec method_7_code 100 = some (.goto 5, 103, 105, 0) := by decide +kernel
theorem e_95_103 : dec method_7_code 103 = some (.bipush 10, 105, 0, 10) := by decide +kernel
theorem e_95_105 : dec method_7_code 105 = some (.invokevirtual 49, 108, 0, 0) := by decide +kernel
theorem e_95_108 : dec method_7_code 108 = some (.bipush (-2), 110, 0, (-2)) := by decide +kernel
theorem e_95_110 : dec method_7_code 110 = some (.if_icmp .ne 327, 113, 437, 0) := by decide +kernel
theorem e_95_113 : dec method_7_code 113 = some (.aload_n 0, 114, 0, 0) := by decide +kernel
theorem e_95_114 : dec method_7_code 114 = some (.iconst 1, 115, 0, 1) := by decide +kernel
theorem e_95_115 : dec method_7_code 115 = some (.iload_n 1, 116, 1, 0) := by decide +kernel
theorem e_95_116 : dec method_7_code 116 = some (.iconst 2, 117, 0, 2) := by decide +kernel
theorem e_95_117 : dec method_7_code 117 = some (.irem, 118, 0, 0) := by decide +kernel
theorem e_95_118 : dec method_7_code 118 = some (.ifCond .ne 7, 121, 125, 0) := by decide +kernel
theorem e_95_121 : dec method_7_code 121 = some (.iconst 0, 122, 0, 0) := by decide +kernel
theorem e_95_122 : dec method_7_code 122 = some (.goto 6, 125, 128, 0) := by decide +kernel
theorem e_95_125 : dec method_7_code 125 = some (.sipush 201, 128, 0, 201) := by decide +kernel
theorem e_95_128 : dec method_7_code 128 = some (.invokevirtual 49, 131, 0, 0) := by decide +kernel
theorem e_95_131 : dec method_7_code 131 = some (.bipush (-2), 133, 0, (-2)) := by decide +kernel
theorem e_95_133 : dec method_7_code 133 = some (.if_icmp .ne 304, 136, 437, 0) := by decide +kernel
theorem e_95_136 : dec method_7_code 136 = some (.aload_n 0, 137, 0, 0) := by decide +kernel
theorem e_95_137 : dec method_7_code 137 = some (.iconst 2, 138, 0, 2) := by decide +kernel
theorem e_95_138 : dec method_7_code 138 = some (.iload_n 1, 139, 1, 0) := by decide +kernel
theorem e_95_139 : dec method_7_code 139 = some (.iconst 2, 140, 0, 2) := by decide +kernel
theorem e_95_140 : dec method_7_code 140 = some (.irem, 141, 0, 0) := by decide +kernel
theorem e_95_141 : dec method_7_code 141 = some (.ifCond .ne 7, 144, 148, 0) := by decide +kernel
theorem e_95_144 : dec method_7_code 144 = some (.iconst 0, 145, 0, 0) := by decide +kernel
theorem e_95_145 : dec method_7_code 145 = some (.goto 5, 148, 150, 0) := by decide +kernel
theorem e_95_148 : dec method_7_code 148 = some (.bipush 61, 150, 0, 61) := by decide +kernel
theorem e_95_150 : dec method_7_code 150 = some (.invokevirtual 49, 153, 0, 0) := by decide +kernel
theorem e_95_153 : dec method_7_code 153 = some (.bipush (-2), 155, 0, (-2)) := by decide +kernel
theorem e_95_155 : dec method_7_code 155 = some (.if_icmp .ne 282, 158, 437, 0) := by decide +kernel
theorem e_95_158 : dec method_7_code 158 = some (.aload_n 0, 159, 0, 0) := by decide +kernel
theorem e_95_159 : dec method_7_code 159 = some (.iconst 3, 160, 0, 3) := by decide +kernel
theorem e_95_160 : dec method_7_code 160 = some (.iload_n 1, 161, 1, 0) := by decide +kernel
theorem e_95_161 : dec method_7_code 161 = some (.iconst 2, 162, 0, 2) := by decide +kernel
theorem e_95_162 : dec method_7_code 162 = some (.irem, 163, 0, 0) := by decide +kernel
theorem e_95_163 : dec method_7_code 163 = some (.ifCond .ne 7, 166, 170, 0) := by decide +kernel
theorem e_95_166 : dec method_7_code 166 = some (.iconst 0, 167, 0, 0) := by decide +kernel
theorem e_95_167 : dec method_7_code 167 = some (.goto 5, 170, 172, 0) := by decide +kernel
theorem e_95_170 : dec method_7_code 170 = some (.bipush 100, 172, 0, 100) := by decide +kernel
theorem e_95_172 : dec method_7_code 172 = some (.invokevirtual 49, 175, 0, 0) := by decide +kernel
theorem e_95_175 : dec method_7_code 175 = some (.bipush (-2), 177, 0, (-2)) := by decide +kernel
theorem e_95_177 : dec method_7_code 177 = some (.if_icmp .ne 260, 180, 437, 0) := by decide +kernel
theorem e_95_180 : dec method_7_code 180 = some (.aload_n 0, 181, 0, 0) := by decide +kernel
theorem e_95_181 : dec method_7_code 181 = some (.iconst 4, 182, 0, 4) := by decide +kernel
theorem e_95_182 : dec method_7_code 182 = some (.iload_n 1, 183, 1, 0) := by decide +kernel
theorem e_95_183 : dec method_7_code 183 = some (.iconst 2, 184, 0, 2) := by decide +kernel
theorem e_95_184 : dec method_7_code 184 = some (.irem, 185, 0, 0) := by decide +kernel
theorem e_95_185 : dec method_7_code 185 = some (.ifCond .ne 7, 188, 192, 0) := by decide +kernel
theorem e_95_188 : dec method_7_code 188 = some (.iconst (-1), 189, 0, (-1)) := by decide +kernel
theorem e_95_189 : dec method_7_code 189 = some (.goto 5, 192, 194, 0) := by decide +kernel
theorem e_95_192 : dec method_7_code 192 = some (.bipush 10, 194, 0, 10) := by decide +kernel
theorem e_95_194 : dec method_7_code 194 = some (.invokevirtual 49, 197, 0, 0) := by decide +kernel
theorem e_95_197 : dec method_7_code 197 = some (.bipush (-2), 199, 0, (-2)) := by decide +kernel
theorem e_95_199 : dec method_7_code 199 = some (.if_icmp .ne 238, 202, 437, 0) := by decide +kernel
theorem e_95_202 : dec method_7_code 202 = some (.aload_n 0, 203, 0, 0) := by decide +kernel
theorem e_95_203 : dec method_7_code 203 = some (.iconst 5, 204, 0, 5) := by decide +kernel
theorem e_95_204 : dec method_7_code 204 = some (.iload_n 1, 205, 1, 0) := by decide +kernel
theorem e_95_205 : dec method_7_code 205 = some (.iconst 2, 206, 0, 2) := by decide +kernel
theorem e_95_206 : dec method_7_code 206 = some (.irem, 207, 0, 0) := by decide +kernel
theorem e_95_207 : dec method_7_code 207 = some (.ifCond .ne 7, 210, 214, 0) := by decide +kernel
theorem e_95_210 : dec method_7_code 210 = some (.iconst (-1), 211, 0, (-1)) := by decide +kernel
theorem e_95_211 : dec method_7_code 211 = some (.goto 5, 214, 216, 0) := by decide +kernel
theorem e_95_214 : dec method_7_code 214 = some (.bipush 9, 216, 0, 9) := by decide +kernel
theorem e_95_216 : dec method_7_code 216 = some (.invokevirtual 49, 219, 0, 0) := by decide +kernel
theorem e_95_219 : dec method_7_code 219 = some (.bipush (-2), 221, 0, (-2)) := by decide +kernel
theorem e_95_221 : dec method_7_code 221 = some (.if_icmp .ne 216, 224, 437, 0) := by decide +kernel
theorem e_95_224 : dec method_7_code 224 = some (.aload_n 0, 225, 0, 0) := by decide +kernel
theorem e_95_225 : dec method_7_code 225 = some (.iload_n 1, 226, 1, 0) := by decide +kernel
theorem e_95_226 : dec method_7_code 226 = some (.iconst 2, 227, 0, 2) := by decide +kernel
theorem e_95_227 : dec method_7_code 227 = some (.irem, 228, 0, 0) := by decide +kernel
theorem e_95_228 : dec method_7_code 228 = some (.ifCond .ne 7, 231, 235, 0) := by decide +kernel
theorem e_95_231 : dec method_7_code 231 = some (.iconst (-1), 232, 0, (-1)) := by decide +kernel
theorem e_95_232 : dec method_7_code 232 = some (.goto 4, 235, 236, 0) := by decide +kernel
theorem e_95_235 : dec method_7_code 235 = some (.iconst 3, 236, 0, 3) := by decide +kernel
theorem e_95_236 : dec method_7_code 236 = some (.iconst 5, 237, 0, 5) := by decide +kernel
theorem e_95_237 : dec method_7_code 237 = some (.iconst 5, 238, 0, 5) := by decide +kernel
theorem e_95_238 : dec method_7_code 238 = some (.invokevirtual 52, 241, 0, 0) := by decide +kernel
theorem e_95_241 : dec method_7_code 241 = some (.bipush (-2), 243, 0, (-2)) := by decide +kernel
theorem e_95_243 : dec method_7_code 243 = some (.if_icmp .ne 194, 246, 437, 0) := by decide +kernel
theorem e_95_246 : dec method_7_code 246 = some (.aload_n 0, 247, 0, 0) := by decide +kernel
theorem e_95_247 : dec method_7_code 247 = some (.iconst 0, 248, 0, 0) := by decide +kernel
theorem e_95_248 : dec method_7_code 248 = some (.iload_n 1, 249, 1, 0) := by decide +kernel
theorem e_95_249 : dec method_7_code 249 = some (.iconst 2, 250, 0, 2) := by decide +kernel
theorem e_95_250 : dec method_7_code 250 = some (.irem, 251, 0, 0) := by decide +kernel
theorem e_95_251 : dec method_7_code 251 = some (.ifCond .ne 7, 254, 258, 0) := by decide +kernel
theorem e_95_254 : dec method_7_code 254 = some (.iconst 0, 255, 0, 0) := by decide +kernel
theorem e_95_255 : dec method_7_code 255 = some (.goto 5, 258, 260, 0) := by decide +kernel
theorem e_95_258 : dec method_7_code 258 = some (.bipush 61, 260, 0, 61) := by decide +kernel
theorem e_95_260 : dec method_7_code 260 = some (.iconst 5, 261, 0, 5) := by decide +kernel
theorem e_95_261 : dec method_7_code 261 = some (.invokevirtual 52, 264, 0, 0) := by decide +kernel
theorem e_95_264 : dec method_7_code 264 = some (.bipush (-2), 266, 0, (-2)) := by decide +kernel
theorem e_95_266 : dec method_7_code 266 = some (.if_icmp .ne 171, 269, 437, 0) := by decide +kernel
theorem e_95_269 : dec method_7_code 269 = some (.aload_n 0, 270, 0, 0) := by decide +kernel
theorem e_95_270 : dec method_7_code 270 = some (.iconst 0, 271, 0, 0) := by decide +kernel
theorem e_95_271 : dec method_7_code 271 = some (.iconst 5, 272, 0, 5) := by decide +kernel
theorem e_95_272 : dec method_7_code 272 = some (.iload_n 1, 273, 1, 0) := by decide +kernel
theorem e_95_273 : dec method_7_code 273 = some (.iconst 2, 274, 0, 2) := by decide +kernel
theorem e_95_274 : dec method_7_code 274 = some (.irem, 275, 0, 0) := by decide +kernel
theorem e_95_275 : dec method_7_code 275 = some (.ifCond .ne 7, 278, 282, 0) := by decide +kernel
theorem e_95_278 : dec method_7_code 278 = some (.iconst 0, 279, 0, 0) := by decide +kernel
theorem e_95_279 : dec method_7_code 279 = some (.goto 5, 282, 284, 0) := by decide +kernel
theorem e_95_282 : dec method_7_code 282 = some (.bipush 100, 284, 0, 100) := by decide +kernel
theorem e_95_284 : dec method_7_code 284 = some (.invokevirtual 52, 287, 0, 0) := by decide +kernel
theorem e_95_287 : dec method_7_code 287 = some (.bipush (-2), 289, 0, (-2)) := by decide +kernel
theorem e_95_289 : dec method_7_code 289 = some (.if_icmp .ne 148, 292, 437, 0) := by decide +kernel
theorem e_95_292 : dec method_7_code 292 = some (.aload_n 0, 293, 0, 0) := by decide +kernel
theorem e_95_293 : dec method_7_code 293 = some (.bipush 23, 295, 0, 23) := by decide +kernel
theorem e_95_295 : dec method_7_code 295 = some (.iconst 0, 296, 0, 0) := by decide +kernel
theorem e_95_296 : dec method_7_code 296 = some (.invokevirtual 20, 299, 0, 0) := by decide +kernel
theorem e_95_299 : dec method_7_code 299 = some (.ifCond .lt 15, 302, 314, 0) := by decide +kernel
theorem e_95_302 : dec method_7_code 302 = some (.aload_n 0, 303, 0, 0) := by decide +kernel
theorem e_95_303 : dec method_7_code 303 = some (.iconst 0, 304, 0, 0) := by decide +kernel
theorem e_95_304 : dec method_7_code 304 = some (.iconst 5, 305, 0, 5) := by decide +kernel
theorem e_95_305 : dec method_7_code 305 = some (.iconst 5, 306, 0, 5) := by decide +kernel
theorem e_95_306 : dec method_7_code 306 = some (.invokevirtual 52, 309, 0, 0) := by decide +kernel
theorem e_95_309 : dec method_7_code 309 = some (.bipush (-4), 311, 0, (-4)) := by decide +kernel
theorem e_95_311 : dec method_7_code 311 = some (.if_icmp .ne 126, 314, 437, 0) := by decide +kernel
theorem e_95_314 : dec method_7_code 314 = some (.aload_n 0, 315, 0, 0) := by decide +kernel
theorem e_95_315 : dec method_7_code 315 = some (.iload_n 3, 316, 3, 0) := by decide +kernel
theorem e_95_316 : dec method_7_code 316 = some (.invokevirtual 56, 319, 0, 0) := by decide +kernel
theorem e_95_319 : dec method_7_code 319 = some (.iconst (-1), 320, 0, (-1)) := by decide +kernel
theorem e_95_320 : dec method_7_code 320 = some (.if_icmp .ne 117, 323, 437, 0) := by decide +kernel
theorem e_95_323 : dec method_7_code 323 = some (.aload_n 0, 324, 0, 0) := by decide +kernel
theorem e_95_324 : dec method_7_code 324 = some (.bipush 8, 326, 0, 8) := by decide +kernel
theorem e_95_326 : dec method_7_code 326 = some (.invokevirtual 14, 329, 0, 0) := by decide +kernel
theorem e_95_329 : dec method_7_code 329 = some (.ifCond .ne 13, 332, 342, 0) := by decide +kernel
theorem e_95_332 : dec method_7_code 332 = some (.aload_n 0, 333, 0, 0) := by decide +kernel
theorem e_95_333 : dec method_7_code 333 = some (.iconst 0, 334, 0, 0) := by decide +kernel
theorem e_95_334 : dec method_7_code 334 = some (.invokevirtual 56, 337, 0, 0) := by decide +kernel
theorem e_95_337 : dec method_7_code 337 = some (.bipush (-5), 339, 0, (-5)) := by decide +kernel
theorem e_95_339 : dec method_7_code 339 = some (.if_icmp .ne 98, 342, 437, 0) := by decide +kernel
theorem e_95_342 : dec method_7_code 342 = some (.aload_n 0, 343, 0, 0) := by decide +kernel
theorem e_95_343 : dec method_7_code 343 = some (.iload_n 1, 344, 1, 0) := by decide +kernel
theorem e_95_344 : dec method_7_code 344 = some (.iconst 2, 345, 0, 2) := by decide +kernel
theorem e_95_345 : dec method_7_code 345 = some (.irem, 346, 0, 0) := by decide +kernel
theorem e_95_346 : dec method_7_code 346 = some (.ifCond .ne 7, 349, 353, 0) := by decide +kernel
theorem e_95_349 : dec method_7_code 349 = some (.iconst 0, 350, 0, 0) := by decide +kernel
theorem e_95_350 : dec method_7_code 350 = some (.goto 5, 353, 355, 0) := by decide +kernel
theorem e_95_353 : dec method_7_code 353 = some (.bipush 100, 355, 0, 100) := by decide +kernel
theorem e_95_355 : dec method_7_code 355 = some (.invokevirtual 59, 358, 0, 0) := by decide +kernel
theorem e_95_358 : dec method_7_code 358 = some (.bipush (-2), 360, 0, (-2)) := by decide +kernel
theorem e_95_360 : dec method_7_code 360 = some (.if_icmp .ne 77, 363, 437, 0) := by decide +kernel
theorem e_95_363 : dec method_7_code 363 = some (.aload_n 0, 364, 0, 0) := by decide +kernel
theorem e_95_364 : dec method_7_code 364 = some (.iconst 0, 365, 0, 0) := by decide +kernel
theorem e_95_365 : dec method_7_code 365 = some (.invokevirtual 14, 368, 0, 0) := by decide +kernel
theorem e_95_368 : dec method_7_code 368 = some (.sipush 901, 371, 0, 901) := by decide +kernel
theorem e_95_371 : dec method_7_code 371 = some (.if_icmp .lt 14, 374, 385, 0) := by decide +kernel
theorem e_95_374 : dec method_7_code 374 = some (.aload_n 0, 375, 0, 0) := by decide +kernel
theorem e_95_375 : dec method_7_code 375 = some (.bipush 99, 377, 0, 99) := by decide +kernel
theorem e_95_377 : dec method_7_code 377 = some (.invokevirtual 59, 380, 0, 0) := by decide +kernel
theorem e_95_380 : dec method_7_code 380 = some (.bipush (-4), 382, 0, (-4)) := by decide +kernel
theorem e_95_382 : dec method_7_code 382 = some (.if_icmp .ne 55, 385, 437, 0) := by decide +kernel
theorem e_95_385 : dec method_7_code 385 = some (.aload_n 0, 386, 0, 0) := by decide +kernel
theorem e_95_386 : dec method_7_code 386 = some (.iload_n 3, 387, 3, 0) := by decide +kernel
theorem e_95_387 : dec method_7_code 387 = some (.bipush 9, 389, 0, 9) := by decide +kernel
theorem e_95_389 : dec method_7_code 389 = some (.invokevirtual 62, 392, 0, 0) := by decide +kernel
theorem e_95_392 : dec method_7_code 392 = some (.iconst (-1), 393, 0, (-1)) := by decide +kernel
theorem e_95_393 : dec method_7_code 393 = some (.if_icmp .ne 44, 396, 437, 0) := by decide +kernel
theorem e_95_396 : dec method_7_code 396 = some (.aload_n 0, 397, 0, 0) := by decide +kernel
theorem e_95_397 : dec method_7_code 397 = some (.iconst 0, 398, 0, 0) := by decide +kernel
theorem e_95_398 : dec method_7_code 398 = some (.iload 4, 400, 4, 0) := by decide +kernel
theorem e_95_400 : dec method_7_code 400 = some (.invokevirtual 62, 403, 0, 0) := by decide +kernel
theorem e_95_403 : dec method_7_code 403 = some (.bipush (-2), 405, 0, (-2)) := by decide +kernel
theorem e_95_405 : dec method_7_code 405 = some (.if_icmp .ne 32, 408, 437, 0) := by decide +kernel
theorem e_95_408 : dec method_7_code 408 = some (.aload_n 0, 409, 0, 0) := by decide +kernel
theorem e_95_409 : dec method_7_code 409 = some (.iconst 0, 410, 0, 0) := by decide +kernel
theorem e_95_410 : dec method_7_code 410 = some (.invokevirtual 14, 413, 0, 0) := by decide +kernel
theorem e_95_413 : dec method_7_code 413 = some (.aload_n 0, 414, 0, 0) := by decide +kernel
theorem e_95_414 : dec method_7_code 414 = some (.bipush 12, 416, 0, 12) := by decide +kernel
theorem e_95_416 : dec method_7_code 416 = some (.invokevirtual 14, 419, 0, 0) := by decide +kernel
theorem e_95_419 : dec method_7_code 419 = some (.if_icmp .ge 14, 422, 433, 0) := by decide +kernel
theorem e_95_422 : dec method_7_code 422 = some (.aload_n 0, 423, 0, 0) := by decide +kernel
theorem e_95_423 : dec method_7_code 423 = some (.iconst 0, 424, 0, 0) := by decide +kernel
theorem e_95_424 : dec method_7_code 424 = some (.iconst 0, 425, 0, 0) := by decide +kernel
theorem e_95_425 : dec method_7_code 425 = some (.invokevirtual 62, 428, 0, 0) := by decide +kernel
theorem e_95_428 : dec method_7_code 428 = some (.bipush (-5), 430, 0, (-5)) := by decide +kernel
theorem e_95_430 : dec method_7_code 430 = some (.if_icmp .ne 7, 433, 437, 0) := by decide +kernel
theorem e_95_433 : dec method_7_code 433 = some (.iconst 1, 434, 0, 1) := by decide +kernel
theorem e_95_434 : dec method_7_code 434 = some (.goto 4, 437, 438, 0) := by decide +kernel
theorem e_95_437 : dec method_7_code 437 = some (.iconst 0, 438, 0, 0) := by decide +kernel
theorem e_95_438 : dec method_7_code 438 = some (.istore 5, 440, 5, 0) := by decide +kernel
theorem e_95_440 : dec method_7_code 440 = some (.iload 5, 442, 5, 0) := by decide +kernel
theorem e_95_442 : dec method_7_code 442 = some (.ifCond .eq 276, 445, 718, 0) := by decide +kernel
theorem e_95_445 : dec method_7_code 445 = some (.aload_n 0, 446, 0, 0) := by decide +kernel
theorem e_95_446 : dec method_7_code 446 = some (.iload_n 2, 447, 2, 0) := by decide +kernel
theorem e_95_447 : dec method_7_code 447 = some (.bipush 99, 449, 0, 99) := by decide +kernel
theorem e_95_449 : dec method_7_code 449 = some (.invokevirtual 20, 452, 0, 0) := by decide +kernel
theorem e_95_452 : dec method_7_code 452 = some (.iconst (-1), 453, 0, (-1)) := by decide +kernel
theorem e_95_453 : dec method_7_code 453 = some (.if_icmp .ne 265, 456, 718, 0) := by decide +kernel
theorem e_95_456 : dec method_7_code 456 = some (.aload_n 0, 457, 0, 0) := by decide +kernel
theorem e_95_457 : dec method_7_code 457 = some (.iconst 0, 458, 0, 0) := by decide +kernel
theorem e_95_458 : dec method_7_code 458 = some (.iconst 0, 459, 0, 0) := by decide +kernel
theorem e_95_459 : dec method_7_code 459 = some (.invokevirtual 20, 462, 0, 0) := by decide +kernel
theorem e_95_462 : dec method_7_code 462 = some (.ifCond .lt 25, 465, 487, 0) := by decide +kernel
theorem e_95_465 : dec method_7_code 465 = some (.aload_n 0, 466, 0, 0) := by decide +kernel
theorem e_95_466 : dec method_7_code 466 = some (.iconst 0, 467, 0, 0) := by decide +kernel
theorem e_95_467 : dec method_7_code 467 = some (.iload_n 1, 468, 1, 0) := by decide +kernel
theorem e_95_468 : dec method_7_code 468 = some (.iconst 2, 469, 0, 2) := by decide +kernel
theorem e_95_469 : dec method_7_code 469 = some (.irem, 470, 0, 0) := by decide +kernel
theorem e_95_470 : dec method_7_code 470 = some (.ifCond .ne 7, 473, 477, 0) := by decide +kernel
theorem e_95_473 : dec method_7_code 473 = some (.iconst (-1), 474, 0, (-1)) := by decide +kernel
theorem e_95_474 : dec method_7_code 474 = some (.goto 5, 477, 479, 0) := by decide +kernel
theorem e_95_477 : dec method_7_code 477 = some (.bipush 6, 479, 0, 6) := by decide +kernel
theorem e_95_479 : dec method_7_code 479 = some (.invokevirtual 20, 482, 0, 0) := by decide +kernel
theorem e_95_482 : dec method_7_code 482 = some (.bipush (-2), 484, 0, (-2)) := by decide +kernel
theorem e_95_484 : dec method_7_code 484 = some (.if_icmp .ne 234, 487, 718, 0) := by decide +kernel
theorem e_95_487 : dec method_7_code 487 = some (.aload_n 0, 488, 0, 0) := by decide +kernel
theorem e_95_488 : dec method_7_code 488 = some (.iload_n 3, 489, 3, 0) := by decide +kernel
theorem e_95_489 : dec method_7_code 489 = some (.iconst 0, 490, 0, 0) := by decide +kernel
theorem e_95_490 : dec method_7_code 490 = some (.invokevirtual 29, 493, 0, 0) := by decide +kernel
theorem e_95_493 : dec method_7_code 493 = some (.iconst (-1), 494, 0, (-1)) := by decide +kernel
theorem e_95_494 : dec method_7_code 494 = some (.if_icmp .ne 224, 497, 718, 0) := by decide +kernel
theorem e_95_497 : dec method_7_code 497 = some (.aload_n 0, 498, 0, 0) := by decide +kernel
theorem e_95_498 : dec method_7_code 498 = some (.iconst 0, 499, 0, 0) := by decide +kernel
theorem e_95_499 : dec method_7_code 499 = some (.iload_n 1, 500, 1, 0) := by decide +kernel
theorem e_95_500 : dec method_7_code 500 = some (.iconst 2, 501, 0, 2) := by decide +kernel
theorem e_95_501 : dec method_7_code 501 = some (.irem, 502, 0, 0) := by decide +kernel
theorem e_95_502 : dec method_7_code 502 = some (.ifCond .ne 7, 505, 509, 0) := by decide +kernel
theorem e_95_505 : dec method_7_code 505 = some (.iconst (-1), 506, 0, (-1)) := by decide +kernel
theorem e_95_506 : dec method_7_code 506 = some (.goto 4, 509, 510, 0) := by decide +kernel
theorem e_95_509 : dec method_7_code 509 = some (.iconst 4, 510, 0, 4) := by decide +kernel
theorem e_95_510 : dec method_7_code 510 = some (.invokevirtual 29, 513, 0, 0) := by decide +kernel
theorem e_95_513 : dec method_7_code 513 = some (.bipush (-6), 515, 0, (-6)) := by decide +kernel
theorem e_95_515 : dec method_7_code 515 = some (.if_icmp .ne 203, 518, 718, 0) := by decide +kernel
theorem e_95_518 : dec method_7_code 518 = some (.aload_n 0, 519, 0, 0) := by decide +kernel
theorem e_95_519 : dec method_7_code 519 = some (.bipush 10, 521, 0, 10) := by decide +kernel
theorem e_95_521 : dec method_7_code 521 = some (.bipush 9, 523, 0, 9) := by decide +kernel
theorem e_95_523 : dec method_7_code 523 = some (.invokevirtual 24, 526, 0, 0) := by decide +kernel
theorem e_95_526 : dec method_7_code 526 = some (.iconst (-1), 527, 0, (-1)) := by decide +kernel
theorem e_95_527 : dec method_7_code 527 = some (.if_icmp .ne 191, 530, 718, 0) := by decide +kernel
theorem e_95_530 : dec method_7_code 530 = some (.aload_n 0, 531, 0, 0) := by decide +kernel
theorem e_95_531 : dec method_7_code 531 = some (.iconst (-1), 532, 0, (-1)) := by decide +kernel
theorem e_95_532 : dec method_7_code 532 = some (.iconst 0, 533, 0, 0) := by decide +kernel
theorem e_95_533 : dec method_7_code 533 = some (.invokevirtual 24, 536, 0, 0) := by decide +kernel
theorem e_95_536 : dec method_7_code 536 = some (.iconst (-1), 537, 0, (-1)) := by decide +kernel
theorem e_95_537 : dec method_7_code 537 = some (.if_icmp .ne 181, 540, 718, 0) := by decide +kernel
theorem e_95_540 : dec method_7_code 540 = some (.aload_n 0, 541, 0, 0) := by decide +kernel
theorem e_95_541 : dec method_7_code 541 = some (.iconst 3, 542, 0, 3) := by decide +kernel
theorem e_95_542 : dec method_7_code 542 = some (.invokevirtual 14, 545, 0, 0) := by decide +kernel
theorem e_95_545 : dec method_7_code 545 = some (.ifCond .eq 24, 548, 569, 0) := by decide +kernel
theorem e_95_548 : dec method_7_code 548 = some (.aload_n 0, 549, 0, 0) := by decide +kernel
theorem e_95_549 : dec method_7_code 549 = some (.iconst 0, 550, 0, 0) := by decide +kernel
theorem e_95_550 : dec method_7_code 550 = some (.iload_n 1, 551, 1, 0) := by decide +kernel
theorem e_95_551 : dec method_7_code 551 = some (.iconst 2, 552, 0, 2) := by decide +kernel
theorem e_95_552 : dec method_7_code 552 = some (.irem, 553, 0, 0) := by decide +kernel
theorem e_95_553 : dec method_7_code 553 = some (.ifCond .ne 7, 556, 560, 0) := by decide +kernel
theorem e_95_556 : dec method_7_code 556 = some (.iconst (-1), 557, 0, (-1)) := by decide +kernel
theorem e_95_557 : dec method_7_code 557 = some (.goto 4, 560, 561, 0) := by decide +kernel
theorem e_95_560 : dec method_7_code 560 = some (.iconst 4, 561, 0, 4) := by decide +kernel
theorem e_95_561 : dec method_7_code 561 = some (.invokevirtual 24, 564, 0, 0) := by decide +kernel
theorem e_95_564 : dec method_7_code 564 = some (.bipush (-2), 566, 0, (-2)) := by decide +kernel
theorem e_95_566 : dec method_7_code 566 = some (.if_icmp .ne 152, 569, 718, 0) := by decide +kernel
theorem e_95_569 : dec method_7_code 569 = some (.aload_n 0, 570, 0, 0) := by decide +kernel
theorem e_95_570 : dec method_7_code 570 = some (.iconst (-1), 571, 0, (-1)) := by decide +kernel
theorem e_95_571 : dec method_7_code 571 = some (.iload_n 1, 572, 1, 0) := by decide +kernel
theorem e_95_572 : dec method_7_code 572 = some (.bipush 99, 574, 0, 99) := by decide +kernel
theorem e_95_574 : dec method_7_code 574 = some (.irem, 575, 0, 0) := by decide +kernel
theorem e_95_575 : dec method_7_code 575 = some (.isub, 576, 0, 0) := by decide +kernel
theorem e_95_576 : dec method_7_code 576 = some (.invokevirtual 38, 579, 0, 0) := by decide +kernel
theorem e_95_579 : dec method_7_code 579 = some (.iconst (-1), 580, 0, (-1)) := by decide +kernel
theorem e_95_580 : dec method_7_code 580 = some (.if_icmp .ne 138, 583, 718, 0) := by decide +kernel
theorem e_95_583 : dec method_7_code 583 = some (.aload_n 0, 584, 0, 0) := by decide +kernel
theorem e_95_584 : dec method_7_code 584 = some (.iconst (-1), 585, 0, (-1)) := by decide +kernel
theorem e_95_585 : dec method_7_code 585 = some (.iload_n 1, 586, 1, 0) := by decide +kernel
theorem e_95_586 : dec method_7_code 586 = some (.bipush 99, 588, 0, 99) := by decide +kernel
theorem e_95_588 : dec method_7_code 588 = some (.irem, 589, 0, 0) := by decide +kernel
theorem e_95_589 : dec method_7_code 589 = some (.isub, 590, 0, 0) := by decide +kernel
theorem e_95_590 : dec method_7_code 590 = some (.invokevirtual 35, 593, 0, 0) := by decide +kernel
theorem e_95_593 : dec method_7_code 593 = some (.bipush (-2), 595, 0, (-2)) := by decide +kernel
theorem e_95_595 : dec method_7_code 595 = some (.if_icmp .ne 123, 598, 718, 0) := by decide +kernel
theorem e_95_598 : dec method_7_code 598 = some (.aload_n 0, 599, 0, 0) := by decide +kernel
theorem e_95_599 : dec method_7_code 599 = some (.iload_n 1, 600, 1, 0) := by decide +kernel
theorem e_95_600 : dec method_7_code 600 = some (.iconst 2, 601, 0, 2) := by decide +kernel
theorem e_95_601 : dec method_7_code 601 = some (.irem, 602, 0, 0) := by decide +kernel
theorem e_95_602 : dec method_7_code 602 = some (.ifCond .ne 7, 605, 609, 0) := by decide +kernel
theorem e_95_605 : dec method_7_code 605 = some (.iconst (-1), 606, 0, (-1)) := by decide +kernel
theorem e_95_606 : dec method_7_code 606 = some (.goto 5, 609, 611, 0) := by decide +kernel
theorem e_95_609 : dec method_7_code 609 = some (.bipush 20, 611, 0, 20) := by decide +kernel
theorem e_95_611 : dec method_7_code 611 = some (.invokevirtual 14, 614, 0, 0) := by decide +kernel
theorem e_95_614 : dec method_7_code 614 = some (.bipush (-2), 616, 0, (-2)) := by decide +kernel
theorem e_95_616 : dec method_7_code 616 = some (.if_icmp .ne 102, 619, 718, 0) := by decide +kernel
theorem e_95_619 : dec method_7_code 619 = some (.aload_n 0, 620, 0, 0) := by decide +kernel
theorem e_95_620 : dec method_7_code 620 = some (.iload_n 3, 621, 3, 0) := by decide +kernel
theorem e_95_621 : dec method_7_code 621 = some (.bipush 9, 623, 0, 9) := by decide +kernel
theorem e_95_623 : dec method_7_code 623 = some (.invokevirtual 65, 626, 0, 0) := by decide +kernel
theorem e_95_626 : dec method_7_code 626 = some (.iconst (-1), 627, 0, (-1)) := by decide +kernel
theorem e_95_627 : dec method_7_code 627 = some (.if_icmp .ne 91, 630, 718, 0) := by decide +kernel
theorem e_95_630 : dec method_7_code 630 = some (.aload_n 0, 631, 0, 0) := by decide +kernel
theorem e_95_631 : dec method_7_code 631 = some (.iconst 0, 632, 0, 0) := by decide +kernel
theorem e_95_632 : dec method_7_code 632 = some (.iload 4, 634, 4, 0) := by decide +kernel
theorem e_95_634 : dec method_7_code 634 = some (.invokevirtual 65, 637, 0, 0) := by decide +kernel
theorem e_95_637 : dec method_7_code 637 = some (.bipush (-2), 639, 0, (-2)) := by decide +kernel
theorem e_95_639 : dec method_7_code 639 = some (.if_icmp .ne 79, 642, 718, 0) := by decide +kernel
theorem e_95_642 : dec method_7_code 642 = some (.aload_n 0, 643, 0, 0) := by decide +kernel
theorem e_95_643 : dec method_7_code 643 = some (.iload_n 3, 644, 3, 0) := by decide +kernel
theorem e_95_644 : dec method_7_code 644 = some (.bipush 9, 646, 0, 9) := by decide +kernel
theorem e_95_646 : dec method_7_code 646 = some (.invokevirtual 32, 649, 0, 0) := by decide +kernel
theorem e_95_649 : dec method_7_code 649 = some (.iconst (-1), 650, 0, (-1)) := by decide +kernel
theorem e_95_650 : dec method_7_code 650 = some (.if_icmp .ne 68, 653, 718, 0) := by decide +kernel
theorem e_95_653 : dec method_7_code 653 = some (.aload_n 0, 654, 0, 0) := by decide +kernel
theorem e_95_654 : dec method_7_code 654 = some (.iconst 0, 655, 0, 0) := by decide +kernel
theorem e_95_655 : dec method_7_code 655 = some (.iload 4, 657, 4, 0) := by decide +kernel
theorem e_95_657 : dec method_7_code 657 = some (.invokevirtual 32, 660, 0, 0) := by decide +kernel
theorem e_95_660 : dec method_7_code 660 = some (.bipush (-2), 662, 0, (-2)) := by decide +kernel
theorem e_95_662 : dec method_7_code 662 = some (.if_icmp .ne 56, 665, 718, 0) := by decide +kernel
theorem e_95_665 : dec method_7_code 665 = some (.aload_n 0, 666, 0, 0) := by decide +kernel
theorem e_95_666 : dec method_7_code 666 = some (.iload_n 3, 667, 3, 0) := by decide +kernel
theorem e_95_667 : dec method_7_code 667 = some (.invokevirtual 68, 670, 0, 0) := by decide +kernel
theorem e_95_670 : dec method_7_code 670 = some (.iconst (-1), 671, 0, (-1)) := by decide +kernel
theorem e_95_671 : dec method_7_code 671 = some (.if_icmp .ne 47, 674, 718, 0) := by decide +kernel
theorem e_95_674 : dec method_7_code 674 = some (.aload_n 0, 675, 0, 0) := by decide +kernel
theorem e_95_675 : dec method_7_code 675 = some (.iload_n 1, 676, 1, 0) := by decide +kernel
theorem e_95_676 : dec method_7_code 676 = some (.iconst 2, 677, 0, 2) := by decide +kernel
theorem e_95_677 : dec method_7_code 677 = some (.irem, 678, 0, 0) := by decide +kernel
theorem e_95_678 : dec method_7_code 678 = some (.ifCond .ne 7, 681, 685, 0) := by decide +kernel
theorem e_95_681 : dec method_7_code 681 = some (.iconst (-1), 682, 0, (-1)) := by decide +kernel
theorem e_95_682 : dec method_7_code 682 = some (.goto 4, 685, 686, 0) := by decide +kernel
theorem e_95_685 : dec method_7_code 685 = some (.iconst 2, 686, 0, 2) := by decide +kernel
theorem e_95_686 : dec method_7_code 686 = some (.invokevirtual 71, 689, 0, 0) := by decide +kernel
theorem e_95_689 : dec method_7_code 689 = some (.bipush (-2), 691, 0, (-2)) := by decide +kernel
theorem e_95_691 : dec method_7_code 691 = some (.if_icmp .ne 27, 694, 718, 0) := by decide +kernel
theorem e_95_694 : dec method_7_code 694 = some (.aload_n 0, 695, 0, 0) := by decide +kernel
theorem e_95_695 : dec method_7_code 695 = some (.iload_n 1, 696, 1, 0) := by decide +kernel
theorem e_95_696 : dec method_7_code 696 = some (.iconst 2, 697, 0, 2) := by decide +kernel
theorem e_95_697 : dec method_7_code 697 = some (.irem, 698, 0, 0) := by decide +kernel
theorem e_95_698 : dec method_7_code 698 = some (.ifCond .ne 7, 701, 705, 0) := by decide +kernel
theorem e_95_701 : dec method_7_code 701 = some (.iconst (-1), 702, 0, (-1)) := by decide +kernel
theorem e_95_702 : dec method_7_code 702 = some (.goto 4, 705, 706, 0) := by decide +kernel
theorem e_95_705 : dec method_7_code 705 = some (.iconst 2, 706, 0, 2) := by decide +kernel
theorem e_95_706 : dec method_7_code 706 = some (.invokevirtual 74, 709, 0, 0) := by decide +kernel
theorem e_95_709 : dec method_7_code 709 = some (.bipush (-2), 711, 0, (-2)) := by decide +kernel
theorem e_95_711 : dec method_7_code 711 = some (.if_icmp .ne 7, 714, 718, 0) := by decide +kernel
theorem e_95_714 : dec method_7_code 714 = some (.iconst 1, 715, 0, 1) := by decide +kernel
theorem e_95_715 : dec method_7_code 715 = some (.goto 4, 718, 719, 0) := by decide +kernel
theorem e_95_718 : dec method_7_code 718 = some (.iconst 0, 719, 0, 0) := by decide +kernel
theorem e_95_719 : dec method_7_code 719 = some (.istore 5, 721, 5, 0) := by decide +kernel
theorem e_95_721 : dec method_7_code 721 = some (.iload 5, 723, 5, 0) := by decide +kernel
theorem e_95_723 : dec method_7_code 723 = some (.ifCond .eq 30, 726, 753, 0) := by decide +kernel
theorem e_95_726 : dec method_7_code 726 = some (.aload_n 0, 727, 0, 0) := by decide +kernel
theorem e_95_727 : dec method_7_code 727 = some (.invokevirtual 77, 730, 0, 0) := by decide +kernel
theorem e_95_730 : dec method_7_code 730 = some (.ifCond .ne 23, 733, 753, 0) := by decide +kernel
theorem e_95_733 : dec method_7_code 733 = some (.aload_n 0, 734, 0, 0) := by decide +kernel
theorem e_95_734 : dec method_7_code 734 = some (.invokevirtual 80, 737, 0, 0) := by decide +kernel
theorem e_95_737 : dec method_7_code 737 = some (.bipush (-3), 739, 0, (-3)) := by decide +kernel
theorem e_95_739 : dec method_7_code 739 = some (.if_icmp .ne 14, 742, 753, 0) := by decide +kernel
theorem e_95_742 : dec method_7_code 742 = some (.aload_n 0, 743, 0, 0) := by decide +kernel
theorem e_95_743 : dec method_7_code 743 = some (.invokevirtual 83, 746, 0, 0) := by decide +kernel
theorem e_95_746 : dec method_7_code 746 = some (.ifCond .ne 7, 749, 753, 0) := by decide +kernel
theorem e_95_749 : dec method_7_code 749 = some (.iconst 1, 750, 0, 1) := by decide +kernel
theorem e_95_750 : dec method_7_code 750 = some (.goto 4, 753, 754, 0) := by decide +kernel
theorem e_95_753 : dec method_7_code 753 = some (.iconst 0, 754, 0, 0) := by decide +kernel
theorem e_95_754 : dec method_7_code 754 = some (.ireturn, 755, 0, 0) := by decide +kernel
theorem e_96_0 : dec method_8_code 0 = some (.aload_n 0, 1, 0, 0) := by decide +kernel
theorem e_96_1 : dec method_8_code 1 = some (.invokestatic 86, 4, 0, 0) := by decide +kernel
theorem e_96_4 : dec method_8_code 4 = some (.lstore_n 2, 5, 2, 0) := by decide +kernel
theorem e_96_5 : dec method_8_code 5 = some (.aload_n 0, 6, 0, 0) := by decide +kernel
theorem e_96_6 : dec method_8_code 6 = some (.bipush 19, 8, 0, 19) := by decide +kernel
theorem e_96_8 : dec method_8_code 8 = some (.invokevirtual 14, 11, 0, 0) := by decide +kernel
theorem e_96_11 : dec method_8_code 11 = some (.istore 4, 13, 4, 0) := by decide +kernel
theorem e_96_13 : dec method_8_code 13 = some (.aload_n 0, 14, 0, 0) := by decide +kernel
theorem e_96_14 : dec method_8_code 14 = some (.iload_n 1, 15, 1, 0) := by decide +kernel
theorem e_96_15 : dec method_8_code 15 = some (.invokestatic 90, 18, 0, 0) := by decide +kernel
theorem e_96_18 : dec method_8_code 18 = some (.ifCond .eq 27, 21, 45, 0) := by decide +kernel
theorem e_96_21 : dec method_8_code 21 = some (.aload_n 0, 22, 0, 0) := by decide +kernel
theorem e_96_22 : dec method_8_code 22 = some (.invokestatic 86, 25, 0, 0) := by decide +kernel
theorem e_96_25 : dec method_8_code 25 = some (.lload_n 2, 26, 2, 0) := by decide +kernel
theorem e_96_26 : dec method_8_code 26 = some (.lcmp, 27, 0, 0) := by decide +kernel
theorem e_96_27 : dec method_8_code 27 = some (.ifCond .ne 18, 30, 45, 0) := by decide +kernel
theorem e_96_30 : dec method_8_code 30 = some (.aload_n 0, 31, 0, 0) := by decide +kernel
theorem e_96_31 : dec method_8_code 31 = some (.bipush 19, 33, 0, 19) := by decide +kernel
theorem e_96_33 : dec method_8_code 33 = some (.invokevirtual 14, 36, 0, 0) := by decide +kernel
theorem e_96_36 : dec method_8_code 36 = some (.iload 4, 38, 4, 0) := by decide +kernel
theorem e_96_38 : dec method_8_code 38 = some (.if_icmp .ne 7, 41, 45, 0) := by decide +kernel
theorem e_96_41 : dec method_8_code 41 = some (.iconst 1, 42, 0, 1) := by decide +kernel
theorem e_96_42 : dec method_8_code 42 = some (.goto 4, 45, 46, 0) := by decide +kernel
theorem e_96_45 : dec method_8_code 45 = some (.iconst 0, 46, 0, 0) := by decide +kernel
theorem e_96_46 : dec method_8_code 46 = some (.ireturn, 47, 0, 0) := by decide +kernel
theorem E_96 : dec method_8_code 0 = some (.aload_n 0, 1, 0, 0) ∧ dec method_8_code 1 = some (.invokestatic 86, 4, 0, 0) ∧ dec method_8_code 4 = some (.lstore_n 2, 5, 2, 0) ∧ dec method_8_code 5 = some (.aload_n 0, 6, 0, 0) ∧ dec method_8_code 6 = some (.bipush 19, 8, 0, 19) ∧ dec method_8_code 8 = some (.invokevirtual 14, 11, 0, 0) ∧ dec method_8_code 11 = some (.istore 4, 13, 4, 0) ∧ dec method_8_code 13 = some (.aload_n 0, 14, 0, 0) ∧ dec method_8_code 14 = some (.iload_n 1, 15, 1, 0) ∧ dec method_8_code 15 = some (.invokestatic 90, 18, 0, 0) ∧ dec method_8_code 18 = some (.ifCond .eq 27, 21, 45, 0) ∧ dec method_8_code 21 = some (.aload_n 0, 22, 0, 0) ∧ dec method_8_code 22 = some (.invokestatic 86, 25, 0, 0) ∧ dec method_8_code 25 = some (.lload_n 2, 26, 2, 0) ∧ dec method_8_code 26 = some (.lcmp, 27, 0, 0) ∧ dec method_8_code 27 = some (.ifCond .ne 18, 30, 45, 0) ∧ dec method_8_code 30 = some (.aload_n 0, 31, 0, 0) ∧ dec method_8_code 31 = some (.bipush 19, 33, 0, 19) ∧ dec method_8_code 33 = some (.invokevirtual 14, 36, 0, 0) ∧ dec method_8_code 36 = some (.iload 4, 38, 4, 0) ∧ dec method_8_code 38 = some (.if_icmp .ne 7, 41, 45, 0) ∧ dec method_8_code 41 = some (.iconst 1, 42, 0, 1) ∧ dec method_8_code 42 = some (.goto 4, 45, 46, 0) ∧ dec method_8_code 45 = some (.iconst 0, 46, 0, 0) ∧ dec method_8_code 46 = some (.ireturn, 47, 0, 0) := ⟨e_96_0, e_96_1, e_96_4, e_96_5, e_96_6, e_96_8, e_96_11, e_96_13, e_96_14, e_96_15, e_96_18, e_96_21, e_96_22, e_96_25, e_96_26, e_96_27, e_96_30, e_96_31, e_96_33, e_96_36, e_96_38, e_96_41, e_96_42, e_96_45, e_96_46⟩
theorem e_97_0 : dec method_9_code 0 = some (.aload_n 0, 1, 0, 0) := by decide +kernel
theorem e_97_1 : dec method_9_code 1 = some (.iconst 0, 2, 0, 0) := by decide +kernel
theorem e_97_2 : dec method_9_code 2 = some (.invokevirtual 14, 5, 0, 0) := by decide +kernel
theorem e_97_5 : dec method_9_code 5 = some (.istore_n 3, 6, 3, 0) := by decide +kernel
theorem e_97_6 : dec method_9_code 6 = some (.aload_n 0, 7, 0, 0) := by decide +kernel
theorem e_97_7 : dec method_9_code 7 = some (.iconst 1, 8, 0, 1) := by decide +kernel
theorem e_97_8 : dec method_9_code 8 = some (.invokevirtual 14, 11, 0, 0) := by decide +kernel
theorem e_97_11 : dec method_9_code 11 = some (.istore 4, 13, 4, 0) := by decide +kernel
theorem e_97_13 : dec method_9_code 13 = some (.aload_n 0, 14, 0, 0) := by decide +kernel
theorem e_97_14 : dec method_9_code 14 = some (.iconst 2, 15, 0, 2) := by decide +kernel
theorem e_97_15 : dec method_9_code 15 = some (.invokevirtual 14, 18, 0, 0) := by decide +kernel
theorem e_97_18 : dec method_9_code 18 = some (.istore 5, 20, 5, 0) := by decide +kernel
theorem e_97_20 : dec method_9_code 20 = some (.aload_n 0, 21, 0, 0) := by decide +kernel
theorem e_97_21 : dec method_9_code 21 = some (.iconst 3, 22, 0, 3) := by decide +kernel
theorem e_97_22 : dec method_9_code 22 = some (.invokevirtual 14, 25, 0, 0) := by decide +kernel
theorem e_97_25 : dec method_9_code 25 = some (.istore 6, 27, 6, 0) := by decide +kernel
theorem e_97_27 : dec method_9_code 27 = some (.aload_n 0, 28, 0, 0) := by decide +kernel
theorem e_97_28 : dec method_9_code 28 = some (.bipush 12, 30, 0, 12) := by decide +kernel
theorem e_97_30 : dec method_9_code 30 = some (.invokevirtual 14, 33, 0, 0) := by decide +kernel
theorem e_97_33 : dec method_9_code 33 = some (.istore 7, 35, 7, 0) := by decide +kernel
theorem e_97_35 : dec method_9_code 35 = some (.aload_n 0, 36, 0, 0) := by decide +kernel
theorem e_97_36 : dec method_9_code 36 = some (.bipush 11, 38, 0, 11) := by decide +kernel
theorem e_97_38 : dec method_9_code 38 = some (.invokevirtual 14, 41, 0, 0) := by decide +kernel
theorem e_97_41 : dec method_9_code 41 = some (.istore 8, 43, 8, 0) := by decide +kernel
theorem e_97_43 : dec method_9_code 43 = some (.aload_n 0, 44, 0, 0) := by decide +kernel
theorem e_97_44 : dec method_9_code 44 = some (.iload_n 1, 45, 1, 0) := by decide +kernel
theorem e_97_45 : dec method_9_code 45 = some (.iload_n 2, 46, 2, 0) := by decide +kernel
theorem e_97_46 : dec method_9_code 46 = some (.invokevirtual 32, 49, 0, 0) := by decide +kernel
theorem e_97_49 : dec method_9_code 49 = some (.istore 9, 51, 9, 0) := by decide +kernel
theorem e_97_51 : dec method_9_code 51 = some (.iload 4, 53, 4, 0) := by decide +kernel
theorem e_97_53 : dec method_9_code 53 = some (.iload 7, 55, 7, 0) := by decide +kernel
theorem e_97_55 : dec method_9_code 55 = some (.iadd, 56, 0, 0) := by decide +kernel
theorem e_97_56 : dec method_9_code 56 = some (.aload_n 0, 57, 0, 0) := by decide +kernel
theorem e_97_57 : dec method_9_code 57 = some (.bipush 13, 59, 0, 13) := by decide +kernel
theorem e_97_59 : dec method_9_code 59 = some (.invokevirtual 14, 62, 0, 0) := by decide +kernel
theorem e_97_62 : dec method_9_code 62 = some (.if_icmp .lt 7, 65, 69, 0) := by decide +kernel
theorem e_97_65 : dec method_9_code 65 = some (.iconst 1, 66, 0, 1) := by decide +kernel
theorem e_97_66 : dec method_9_code 66 = some (.goto 4, 69, 70, 0) := by decide +kernel
theorem e_97_69 : dec method_9_code 69 = some (.iconst 0, 70, 0, 0) := by decide +kernel
theorem e_97_70 : dec method_9_code 70 = some (.istore 10, 72, 10, 0) := by decide +kernel
theorem e_97_72 : dec method_9_code 72 = some (.iload 10, 74, 10, 0) := by decide +kernel
theorem e_97_74 : dec method_9_code 74 = some (.ifCond .eq 12, 77, 86, 0) := by decide +kernel
theorem e_97_77 : dec method_9_code 77 = some (.aload_n 0, 78, 0, 0) := by decide +kernel
theorem e_97_78 : dec method_9_code 78 = some (.bipush 15, 80, 0, 15) := by decide +kernel
theorem e_97_80 : dec method_9_code 80 = some (.invokevirtual 14, 83, 0, 0) := by decide +kernel
theorem e_97_83 : dec method_9_code 83 = some (.goto 9, 86, 92, 0) := by decide +kernel
theorem e_97_86 : dec method_9_code 86 = some (.aload_n 0, 87, 0, 0) := by decide +kernel
theorem e_97_87 : dec method_9_code 87 = some (.bipush 14, 89, 0, 14) := by decide +kernel
theorem e_97_89 : dec method_9_code 89 = some (.invokevirtual 14, 92, 0, 0) := by decide +kernel
theorem e_97_92 : dec method_9_code 92 = some (.iload_n 2, 93, 2, 0) := by decide +kernel
theorem e_97_93 : dec method_9_code 93 = some (.aload_n 0, 94, 0, 0) := by decide +kernel
theorem e_97_94 : dec method_9_code 94 = some (.bipush 16, 96, 0, 16) := by decide +kernel
theorem e_97_96 : dec method_9_code 96 = some (.invokevirtual 14, 99, 0, 0) := by decide +kernel
theorem e_97_99 : dec method_9_code 99 = some (.imul, 100, 0, 0) := by decide +kernel
theorem e_97_100 : dec method_9_code 100 = some (.isub, 101, 0, 0) := by decide +kernel
theorem e_97_101 : dec method_9_code 101 = some (.istore 11, 103, 11, 0) := by decide +kernel
theorem e_97_103 : dec method_9_code 103 = some (.aload_n 0, 104, 0, 0) := by decide +kernel
theorem e_97_104 : dec method_9_code 104 = some (.iload_n 1, 105, 1, 0) := by decide +kernel
theorem e_97_105 : dec method_9_code 105 = some (.iload_n 2, 106, 2, 0) := by decide +kernel
theorem e_97_106 : dec method_9_code 106 = some (.invokevirtual 62, 109, 0, 0) := by decide +kernel
theorem e_97_109 : dec method_9_code 109 = some (.istore 12, 111, 12, 0) := by decide +kernel
theorem e_97_111 : dec method_9_code 111 = some (.iload_n 3, 112, 3, 0) := by decide +kernel
theorem e_97_112 : dec method_9_code 112 = some (.iload 7, 114, 7, 0) := by decide +kernel
theorem e_97_114 : dec method_9_code 114 = some (.if_icmp .ge 17, 117, 131, 0) := by decide +kernel
theorem e_97_117 : dec method_9_code 117 = some (.iload 12, 119, 12, 0) := by decide +kernel
theorem e_97_119 : dec method_9_code 119 = some (.bipush (-5), 121, 0, (-5)) := by decide +kernel
theorem e_97_121 : dec method_9_code 121 = some (.if_icmp .ne 7, 124, 128, 0) := by decide +kernel
theorem e_97_124 : dec method_9_code 124 = some (.iconst 0, 125, 0, 0) := by decide +kernel
theorem e_97_125 : dec method_9_code 125 = some (.goto 5, 128, 130, 0) := by decide +kernel
theorem e_97_128 : dec method_9_code 128 = some (.bipush (-9), 130, 0, (-9)) := by decide +kernel
theorem e_97_130 : dec method_9_code 130 = some (.ireturn, 131, 0, 0) := by decide +kernel
theorem e_97_131 : dec method_9_code 131 = some (.iload 9, 133, 9, 0) := by decide +kernel
theorem e_97_133 : dec method_9_code 133 = some (.bipush (-6), 135, 0, (-6)) := by decide +kernel
theorem e_97_135 : dec method_9_code 135 = some (.if_icmp .eq 14, 138, 149, 0) := by decide +kernel
theorem e_97_138 : dec method_9_code 138 = some (.iload 11, 140, 11, 0) := by decide +kernel
theorem e_97_140 : dec method_9_code 140 = some (.iload 9, 142, 9, 0) := by decide +kernel
theorem e_97_142 : dec method_9_code 142 = some (.if_icmp .lt 7, 145, 149, 0) := by decide +kernel
theorem e_97_145 : dec method_9_code 145 = some (.iconst 1, 146, 0, 1) := by decide +kernel
theorem e_97_146 : dec method_9_code 146 = some (.goto 4, 149, 150, 0) := by decide +kernel
theorem e_97_149 : dec method_9_code 149 = some (.iconst 0, 150, 0, 0) := by decide +kernel
theorem e_97_150 : dec method_9_code 150 = some (.istore 13, 152, 13, 0) := by decide +kernel
theorem e_97_152 : dec method_9_code 152 = some (.aload_n 0, 153, 0, 0) := by decide +kernel
theorem e_97_153 : dec method_9_code 153 = some (.bipush 11, 155, 0, 11) := by decide +kernel
theorem e_97_155 : dec method_9_code 155 = some (.invokevirtual 14, 158, 0, 0) := by decide +kernel
theorem e_97_158 : dec method_9_code 158 = some (.iload 8, 160, 8, 0) := by decide +kernel
theorem e_97_160 : dec method_9_code 160 = some (.isub, 161, 0, 0) := by decide +kernel
theorem e_97_161 : dec method_9_code 161 = some (.istore 14, 163, 14, 0) := by decide +kernel
theorem e_97_163 : dec method_9_code 163 = some (.iload 13, 165, 13, 0) := by decide +kernel
theorem e_97_165 : dec method_9_code 165 = some (.ifCond .eq 13, 168, 178, 0) := by decide +kernel
theorem e_97_168 : dec method_9_code 168 = some (.iload 12, 170, 12, 0) := by decide +kernel
theorem e_97_170 : dec method_9_code 170 = some (.bipush 9, 172, 0, 9) := by decide +kernel
theorem e_97_172 : dec method_9_code 172 = some (.if_icmp .le 222, 175, 394, 0) := by decide +kernel
theorem e_97_175 : dec method_9_code 175 = some (.goto 20, 178, 195, 0) := by decide +kernel
theorem e_97_178 : dec method_9_code 178 = some (.iload 12, 180, 12, 0) := by decide +kernel
theorem e_97_180 : dec method_9_code 180 = some (.iload 9, 182, 9, 0) := by decide +kernel
theorem e_97_182 : dec method_9_code 182 = some (.bipush (-6), 184, 0, (-6)) := by decide +kernel
theorem e_97_184 : dec method_9_code 184 = some (.if_icmp .ne 7, 187, 191, 0) := by decide +kernel
theorem e_97_187 : dec method_9_code 187 = some (.iconst 0, 188, 0, 0) := by decide +kernel
theorem e_97_188 : dec method_9_code 188 = some (.goto 4, 191, 192, 0) := by decide +kernel
theorem e_97_191 : dec method_9_code 191 = some (.iconst 1, 192, 0, 1) := by decide +kernel
theorem e_97_192 : dec method_9_code 192 = some (.if_icmp .ne 202, 195, 394, 0) := by decide +kernel
theorem e_97_195 : dec method_9_code 195 = some (.aload_n 0, 196, 0, 0) := by decide +kernel
theorem e_97_196 : dec method_9_code 196 = some (.iconst 0, 197, 0, 0) := by decide +kernel
theorem e_97_197 : dec method_9_code 197 = some (.invokevirtual 14, 200, 0, 0) := by decide +kernel
theorem e_97_200 : dec method_9_code 200 = some (.iload_n 3, 201, 3, 0) := by decide +kernel
theorem e_97_201 : dec method_9_code 201 = some (.iload 7, 203, 7, 0) := by decide +kernel
theorem e_97_203 : dec method_9_code 203 = some (.isub, 204, 0, 0) := by decide +kernel
theorem e_97_204 : dec method_9_code 204 = some (.if_icmp .ne 190, 207, 394, 0) := by decide +kernel
theorem e_97_207 : dec method_9_code 207 = some (.aload_n 0, 208, 0, 0) := by decide +kernel
theorem e_97_208 : dec method_9_code 208 = some (.iconst 1, 209, 0, 1) := by decide +kernel
theorem e_97_209 : dec method_9_code 209 = some (.invokevirtual 14, 212, 0, 0) := by decide +kernel
theorem e_97_212 : dec method_9_code 212 = some (.iload 13, 214, 13, 0) := by decide +kernel
theorem e_97_214 : dec method_9_code 214 = some (.ifCond .eq 7, 217, 221, 0) := by decide +kernel
theorem e_97_217 : dec method_9_code 217 = some (.iconst 0, 218, 0, 0) := by decide +kernel
theorem e_97_218 : dec method_9_code 218 = some (.goto 8, 221, 226, 0) := by decide +kernel
theorem e_97_221 : dec method_9_code 221 = some (.iload 4, 223, 4, 0) := by decide +kernel
theorem e_97_223 : dec method_9_code 223 = some (.iload 7, 225, 7, 0) := by decide +kernel
theorem e_97_225 : dec method_9_code 225 = some (.iadd, 226, 0, 0) := by decide +kernel
theorem e_97_226 : dec method_9_code 226 = some (.if_icmp .ne 168, 229, 394, 0) := by decide +kernel
theorem e_97_229 : dec method_9_code 229 = some (.aload_n 0, 230, 0, 0) := by decide +kernel
theorem e_97_230 : dec method_9_code 230 = some (.iconst 2, 231, 0, 2) := by decide +kernel
theorem e_97_231 : dec method_9_code 231 = some (.invokevirtual 14, 234, 0, 0) := by decide +kernel
theorem e_97_234 : dec method_9_code 234 = some (.iload 5, 236, 5, 0) := by decide +kernel
theorem e_97_236 : dec method_9_code 236 = some (.iload 7, 238, 7, 0) := by decide +kernel
theorem e_97_238 : dec method_9_code 238 = some (.iadd, 239, 0, 0) := by decide +kernel
theorem e_97_239 : dec method_9_code 239 = some (.if_icmp .ne 155, 242, 394, 0) := by decide +kernel
theorem e_97_242 : dec method_9_code 242 = some (.aload_n 0, 243, 0, 0) := by decide +kernel
theorem e_97_243 : dec method_9_code 243 = some (.iconst 3, 244, 0, 3) := by decide +kernel
theorem e_97_244 : dec method_9_code 244 = some (.invokevirtual 14, 247, 0, 0) := by decide +kernel
theorem e_97_247 : dec method_9_code 247 = some (.iload 6, 249, 6, 0) := by decide +kernel
theorem e_97_249 : dec method_9_code 249 = some (.iconst 1, 250, 0, 1) := by decide +kernel
theorem e_97_250 : dec method_9_code 250 = some (.iadd, 251, 0, 0) := by decide +kernel
theorem e_97_251 : dec method_9_code 251 = some (.if_icmp .ne 143, 254, 394, 0) := by decide +kernel
theorem e_97_254 : dec method_9_code 254 = some (.iload 14, 256, 14, 0) := by decide +kernel
theorem e_97_256 : dec method_9_code 256 = some (.ifCond .lt 138, 259, 394, 0) := by decide +kernel
theorem e_97_259 : dec method_9_code 259 = some (.iload 14, 261, 14, 0) := by decide +kernel
theorem e_97_261 : dec method_9_code 261 = some (.iconst 2, 262, 0, 2) := by decide +kernel
theorem e_97_262 : dec method_9_code 262 = some (.if_icmp .ge 132, 265, 394, 0) := by decide +kernel
theorem e_97_265 : dec method_9_code 265 = some (.iload 14, 267, 14, 0) := by decide +kernel
theorem e_97_267 : dec method_9_code 267 = some (.iconst 1, 268, 0, 1) := by decide +kernel
theorem e_97_268 : dec method_9_code 268 = some (.if_icmp .ne 7, 271, 275, 0) := by decide +kernel
theorem e_97_271 : dec method_9_code 271 = some (.iconst 1, 272, 0, 1) := by decide +kernel
theorem e_97_272 : dec method_9_code 272 = some (.goto 4, 275, 276, 0) := by decide +kernel
theorem e_97_275 : dec method_9_code 275 = some (.iconst 0, 276, 0, 0) := by decide +kernel
theorem e_97_276 : dec method_9_code 276 = some (.aload_n 0, 277, 0, 0) := by decide +kernel
theorem e_97_277 : dec method_9_code 277 = some (.iconst 0, 278, 0, 0) := by decide +kernel
theorem e_97_278 : dec method_9_code 278 = some (.iconst 0, 279, 0, 0) := by decide +kernel
theorem e_97_279 : dec method_9_code 279 = some (.invokevirtual 24, 282, 0, 0) := by decide +kernel
theorem e_97_282 : dec method_9_code 282 = some (.iconst 3, 283, 0, 3) := by decide +kernel
theorem e_97_283 : dec method_9_code 283 = some (.if_icmp .ne 7, 286, 290, 0) := by decide +kernel
theorem e_97_286 : dec method_9_code 286 = some (.iconst 1, 287, 0, 1) := by decide +kernel
theorem e_97_287 : dec method_9_code 287 = some (.goto 4, 290, 291, 0) := by decide +kernel
theorem e_97_290 : dec method_9_code 290 = some (.iconst 0, 291, 0, 0) := by decide +kernel
theorem e_97_291 : dec method_9_code 291 = some (.if_icmp .ne 103, 294, 394, 0) := by decide +kernel
theorem e_97_294 : dec method_9_code 294 = some (.aload_n 0, 295, 0, 0) := by decide +kernel
theorem e_97_295 : dec method_9_code 295 = some (.iload 14, 297, 14, 0) := by decide +kernel
theorem e_97_297 : dec method_9_code 297 = some (.iconst 0, 298, 0, 0) := by decide +kernel
theorem e_97_298 : dec method_9_code 298 = some (.invokevirtual 24, 301, 0, 0) := by decide +kernel
theorem e_97_301 : dec method_9_code 301 = some (.iload 13, 303, 13, 0) := by decide +kernel
theorem e_97_303 : dec method_9_code 303 = some (.ifCond .eq 7, 306, 310, 0) := by decide +kernel
theorem e_97_306 : dec method_9_code 306 = some (.iconst 2, 307, 0, 2) := by decide +kernel
theorem e_97_307 : dec method_9_code 307 = some (.goto 15, 310, 322, 0) := by decide +kernel
theorem e_97_310 : dec method_9_code 310 = some (.iload 9, 312, 9, 0) := by decide +kernel
theorem e_97_312 : dec method_9_code 312 = some (.bipush (-6), 314, 0, (-6)) := by decide +kernel
theorem e_97_314 : dec method_9_code 314 = some (.if_icmp .ne 7, 317, 321, 0) := by decide +kernel
theorem e_97_317 : dec method_9_code 317 = some (.iconst 0, 318, 0, 0) := by decide +kernel
theorem e_97_318 : dec method_9_code 318 = some (.goto 4, 321, 322, 0) := by decide +kernel
theorem e_97_321 : dec method_9_code 321 = some (.iconst 1, 322, 0, 1) := by decide +kernel
theorem e_97_322 : dec method_9_code 322 = some (.if_icmp .ne 72, 325, 394, 0) := by decide +kernel
theorem e_97_325 : dec method_9_code 325 = some (.aload_n 0, 326, 0, 0) := by decide +kernel
theorem e_97_326 : dec method_9_code 326 = some (.iload 14, 328, 14, 0) := by decide +kernel
theorem e_97_328 : dec method_9_code 328 = some (.iconst 1, 329, 0, 1) := by decide +kernel
theorem e_97_329 : dec method_9_code 329 = some (.invokevirtual 24, 332, 0, 0) := by decide +kernel
theorem e_97_332 : dec method_9_code 332 = some (.iload_n 1, 333, 1, 0) := by decide +kernel
theorem e_97_333 : dec method_9_code 333 = some (.if_icmp .ne 61, 336, 394, 0) := by decide +kernel
theorem e_97_336 : dec method_9_code 336 = some (.aload_n 0, 337, 0, 0) := by decide +kernel
theorem e_97_337 : dec method_9_code 337 = some (.iload 14, 339, 14, 0) := by decide +kernel
theorem e_97_339 : dec method_9_code 339 = some (.iconst 3, 340, 0, 3) := by decide +kernel
theorem e_97_340 : dec method_9_code 340 = some (.invokevirtual 24, 343, 0, 0) := by decide +kernel
theorem e_97_343 : dec method_9_code 343 = some (.iload 10, 345, 10, 0) := by decide +kernel
theorem e_97_345 : dec method_9_code 345 = some (.ifCond .eq 7, 348, 352, 0) := by decide +kernel
theorem e_97_348 : dec method_9_code 348 = some (.iconst 1, 349, 0, 1) := by decide +kernel
theorem e_97_349 : dec method_9_code 349 = some (.goto 4, 352, 353, 0) := by decide +kernel
theorem e_97_352 : dec method_9_code 352 = some (.iconst 0, 353, 0, 0) := by decide +kernel
theorem e_97_353 : dec method_9_code 353 = some (.if_icmp .ne 41, 356, 394, 0) := by decide +kernel
theorem e_97_356 : dec method_9_code 356 = some (.iload 14, 358, 14, 0) := by decide +kernel
theorem e_97_358 : dec method_9_code 358 = some (.ifCond .eq 32, 361, 390, 0) := by decide +kernel
theorem e_97_361 : dec method_9_code 361 = some (.aload_n 0, 362, 0, 0) := by decide +kernel
theorem e_97_362 : dec method_9_code 362 = some (.iconst 0, 363, 0, 0) := by decide +kernel
theorem e_97_363 : dec method_9_code 363 = some (.iconst 1, 364, 0, 1) := by decide +kernel
theorem e_97_364 : dec method_9_code 364 = some (.invokevirtual 24, 367, 0, 0) := by decide +kernel
theorem e_97_367 : dec method_9_code 367 = some (.bipush (-6), 369, 0, (-6)) := by decide +kernel
theorem e_97_369 : dec method_9_code 369 = some (.if_icmp .ne 25, 372, 394, 0) := by decide +kernel
theorem e_97_372 : dec method_9_code 372 = some (.aload_n 0, 373, 0, 0) := by decide +kernel
theorem e_97_373 : dec method_9_code 373 = some (.iconst 0, 374, 0, 0) := by decide +kernel
theorem e_97_374 : dec method_9_code 374 = some (.iconst 2, 375, 0, 2) := by decide +kernel
theorem e_97_375 : dec method_9_code 375 = some (.invokevirtual 24, 378, 0, 0) := by decide +kernel
theorem e_97_378 : dec method_9_code 378 = some (.ifCond .le 16, 381, 394, 0) := by decide +kernel
theorem e_97_381 : dec method_9_code 381 = some (.aload_n 0, 382, 0, 0) := by decide +kernel
theorem e_97_382 : dec method_9_code 382 = some (.iconst 0, 383, 0, 0) := by decide +kernel
theorem e_97_383 : dec method_9_code 383 = some (.iconst 3, 384, 0, 3) := by decide +kernel
theorem e_97_384 : dec method_9_code 384 = some (.invokevirtual 24, 387, 0, 0) := by decide +kernel
theorem e_97_387 : dec method_9_code 387 = some (.ifCond .ne 7, 390, 394, 0) := by decide +kernel
theorem e_97_390 : dec method_9_code 390 = some (.iconst 1, 391, 0, 1) := by decide +kernel
theorem e_97_391 : dec method_9_code 391 = some (.goto 5, 394, 396, 0) := by decide +kernel
theorem e_97_394 : dec method_9_code 394 = some (.bipush (-9), 396, 0, (-9)) := by decide +kernel
theorem e_97_396 : dec method_9_code 396 = some (.ireturn, 397, 0, 0) := by decide +kernel
theorem E_97 : dec method_9_code 0 = some (.aload_n 0, 1, 0, 0) ∧ dec method_9_code 1 = some (.iconst 0, 2, 0, 0) ∧ dec method_9_code 2 = some (.invokevirtual 14, 5, 0, 0) ∧ dec method_9_code 5 = some (.istore_n 3, 6, 3, 0) ∧ dec method_9_code 6 = some (.aload_n 0, 7, 0, 0) ∧ dec method_9_code 7 = some (.iconst 1, 8, 0, 1) ∧ dec method_9_code 8 = some (.invokevirtual 14, 11, 0, 0) ∧ dec method_9_code 11 = some (.istore 4, 13, 4, 0) ∧ dec method_9_code 13 = some (.aload_n 0, 14, 0, 0) ∧ dec method_9_code 14 = some (.iconst 2, 15, 0, 2) ∧ dec method_9_code 15 = some (.invokevirtual 14, 18, 0, 0) ∧ dec method_9_code 18 = some (.istore 5, 20, 5, 0) ∧ dec method_9_code 20 = some (.aload_n 0, 21, 0, 0) ∧ dec method_9_code 21 = some (.iconst 3, 22, 0, 3) ∧ dec method_9_code 22 = some (.invokevirtual 14, 25, 0, 0) ∧ dec method_9_code 25 = some (.istore 6, 27, 6, 0) ∧ dec method_9_code 27 = some (.aload_n 0, 28, 0, 0) ∧ dec method_9_code 28 = some (.bipush 12, 30, 0, 12) ∧ dec method_9_code 30 = some (.invokevirtual 14, 33, 0, 0) ∧ dec method_9_code 33 = some (.istore 7, 35, 7, 0) ∧ dec method_9_code 35 = some (.aload_n 0, 36, 0, 0) ∧ dec method_9_code 36 = some (.bipush 11, 38, 0, 11) ∧ dec method_9_code 38 = some (.invokevirtual 14, 41, 0, 0) ∧ dec method_9_code 41 = some (.istore 8, 43, 8, 0) ∧ dec method_9_code 43 = some (.aload_n 0, 44, 0, 0) ∧ dec method_9_code 44 = some (.iload_n 1, 45, 1, 0) ∧ dec method_9_code 45 = some (.iload_n 2, 46, 2, 0) ∧ dec method_9_code 46 = some (.invokevirtual 32, 49, 0, 0) ∧ dec method_9_code 49 = some (.istore 9, 51, 9, 0) ∧ dec method_9_code 51 = some (.iload 4, 53, 4, 0) ∧ dec method_9_code 53 = some (.iload 7, 55, 7, 0) ∧ dec method_9_code 55 = some (.iadd, 56, 0, 0) ∧ dec method_9_code 56 = some (.aload_n 0, 57, 0, 0) ∧ dec method_9_code 57 = some (.bipush 13, 59, 0, 13) ∧ dec method_9_code 59 = some (.invokevirtual 14, 62, 0, 0) ∧ dec method_9_code 62 = some (.if_icmp .lt 7, 65, 69, 0) ∧ dec method_9_code 65 = some (.iconst 1, 66, 0, 1) ∧ dec method_9_code 66 = some (.goto 4, 69, 70, 0) ∧ dec method_9_code 69 = some (.iconst 0, 70, 0, 0) ∧ dec method_9_code 70 = some (.istore 10, 72, 10, 0) ∧ dec method_9_code 72 = some (.iload 10, 74, 10, 0) ∧ dec method_9_code 74 = some (.ifCond .eq 12, 77, 86, 0) ∧ dec method_9_code 77 = some (.aload_n 0, 78, 0, 0) ∧ dec method_9_code 78 = some (.bipush 15, 80, 0, 15) ∧ dec method_9_code 80 = some (.invokevirtual 14, 83, 0, 0) ∧ dec method_9_code 83 = some (.goto 9, 86, 92, 0) ∧ dec method_9_code 86 = some (.aload_n 0, 87, 0, 0) ∧ dec method_9_code 87 = some (.bipush 14, 89, 0, 14) ∧ dec method_9_code 89 = some (.invokevirtual 14, 92, 0, 0) ∧ dec method_9_code 92 = some (.iload_n 2, 93, 2, 0) ∧ dec method_9_code 93 = some (.aload_n 0, 94, 0, 0) ∧ dec method_9_code 94 = some (.bipush 16, 96, 0, 16) ∧ dec method_9_code 96 = some (.invokevirtual 14, 99, 0, 0) ∧ dec method_9_code 99 = some (.imul, 100, 0, 0) ∧ dec method_9_code 100 = some (.isub, 101, 0, 0) ∧ dec method_9_code 101 = some (.istore 11, 103, 11, 0) ∧ dec method_9_code 103 = some (.aload_n 0, 104, 0, 0) ∧ dec method_9_code 104 = some (.iload_n 1, 105, 1, 0) ∧ dec method_9_code 105 = some (.iload_n 2, 106, 2, 0) ∧ dec method_9_code 106 = some (.invokevirtual 62, 109, 0, 0) ∧ dec method_9_code 109 = some (.istore 12, 111, 12, 0) ∧ dec method_9_code 111 = some (.iload_n 3, 112, 3, 0) ∧ dec method_9_code 112 = some (.iload 7, 114, 7, 0) ∧ dec method_9_code 114 = some (.if_icmp .ge 17, 117, 131, 0) ∧ dec method_9_code 117 = some (.iload 12, 119, 12, 0) ∧ dec method_9_code 119 = some (.bipush (-5), 121, 0, (-5)) ∧ dec method_9_code 121 = some (.if_icmp .ne 7, 124, 128, 0) ∧ dec method_9_code 124 = some (.iconst 0, 125, 0, 0) ∧ dec method_9_code 125 = some (.goto 5, 128, 130, 0) ∧ dec method_9_code 128 = some (.bipush (-9), 130, 0, (-9)) ∧ dec method_9_code 130 = some (.ireturn, 131, 0, 0) ∧ dec method_9_code 131 = some (.iload 9, 133, 9, 0) ∧ dec method_9_code 133 = some (.bipush (-6), 135, 0, (-6)) ∧ dec method_9_code 135 = some (.if_icmp .eq 14, 138, 149, 0) ∧ dec method_9_code 138 = some (.iload 11, 140, 11, 0) ∧ dec method_9_code 140 = some (.iload 9, 142, 9, 0) ∧ dec method_9_code 142 = some (.if_icmp .lt 7, 145, 149, 0) ∧ dec method_9_code 145 = some (.iconst 1, 146, 0, 1) ∧ dec method_9_code 146 = some (.goto 4, 149, 150, 0) ∧ dec method_9_code 149 = some (.iconst 0, 150, 0, 0) ∧ dec method_9_code 150 = some (.istore 13, 152, 13, 0) ∧ dec method_9_code 152 = some (.aload_n 0, 153, 0, 0) ∧ dec method_9_code 153 = some (.bipush 11, 155, 0, 11) ∧ dec method_9_code 155 = some (.invokevirtual 14, 158, 0, 0) ∧ dec method_9_code 158 = some (.iload 8, 160, 8, 0) ∧ dec method_9_code 160 = some (.isub, 161, 0, 0) ∧ dec method_9_code 161 = some (.istore 14, 163, 14, 0) ∧ dec method_9_code 163 = some (.iload 13, 165, 13, 0) ∧ dec method_9_code 165 = some (.ifCond .eq 13, 168, 178, 0) ∧ dec method_9_code 168 = some (.iload 12, 170, 12, 0) ∧ dec method_9_code 170 = some (.bipush 9, 172, 0, 9) ∧ dec method_9_code 172 = some (.if_icmp .le 222, 175, 394, 0) ∧ dec method_9_code 175 = some (.goto 20, 178, 195, 0) ∧ dec method_9_code 178 = some (.iload 12, 180, 12, 0) ∧ dec method_9_code 180 = some (.iload 9, 182, 9, 0) ∧ dec method_9_code 182 = some (.bipush (-6), 184, 0, (-6)) ∧ dec method_9_code 184 = some (.if_icmp .ne 7, 187, 191, 0) ∧ dec method_9_code 187 = some (.iconst 0, 188, 0, 0) ∧ dec method_9_code 188 = some (.goto 4, 191, 192, 0) ∧ dec method_9_code 191 = some (.iconst 1, 192, 0, 1) ∧ dec method_9_code 192 = some (.if_icmp .ne 202, 195, 394, 0) ∧ dec method_9_code 195 = some (.aload_n 0, 196, 0, 0) ∧ dec method_9_code 196 = some (.iconst 0, 197, 0, 0) ∧ dec method_9_code 197 = some (.invokevirtual 14, 200, 0, 0) ∧ dec method_9_code 200 = some (.iload_n 3, 201, 3, 0) ∧ dec method_9_code 201 = some (.iload 7, 203, 7, 0) ∧ dec method_9_code 203 = some (.isub, 204, 0, 0) ∧ dec method_9_code 204 = some (.if_icmp .ne 190, 207, 394, 0) ∧ dec method_9_code 207 = some (.aload_n 0, 208, 0, 0) ∧ dec method_9_code 208 = some (.iconst 1, 209, 0, 1) ∧ dec method_9_code 209 = some (.invokevirtual 14, 212, 0, 0) ∧ dec method_9_code 212 = some (.iload 13, 214, 13, 0) ∧ dec method_9_code 214 = some (.ifCond .eq 7, 217, 221, 0) ∧ dec method_9_code 217 = some (.iconst 0, 218, 0, 0) ∧ dec method_9_code 218 = some (.goto 8, 221, 226, 0) ∧ dec method_9_code 221 = some (.iload 4, 223, 4, 0) ∧ dec method_9_code 223 = some (.iload 7, 225, 7, 0) ∧ dec method_9_code 225 = some (.iadd, 226, 0, 0) ∧ dec method_9_code 226 = some (.if_icmp .ne 168, 229, 394, 0) ∧ dec method_9_code 229 = some (.aload_n 0, 230, 0, 0) ∧ dec method_9_code 230 = some (.iconst 2, 231, 0, 2) ∧ dec method_9_code 231 = some (.invokevirtual 14, 234, 0, 0) ∧ dec method_9_code 234 = some (.iload 5, 236, 5, 0) ∧ dec method_9_code 236 = some (.iload 7, 238, 7, 0) ∧ dec method_9_code 238 = some (.iadd, 239, 0, 0) ∧ dec method_9_code 239 = some (.if_icmp .ne 155, 242, 394, 0) ∧ dec method_9_code 242 = some (.aload_n 0, 243, 0, 0) ∧ dec method_9_code 243 = some (.iconst 3, 244, 0, 3) ∧ dec method_9_code 244 = some (.invokevirtual 14, 247, 0, 0) ∧ dec method_9_code 247 = some (.iload 6, 249, 6, 0) ∧ dec method_9_code 249 = some (.iconst 1, 250, 0, 1) ∧ dec method_9_code 250 = some (.iadd, 251, 0, 0) ∧ dec method_9_code 251 = some (.if_icmp .ne 143, 254, 394, 0) ∧ dec method_9_code 254 = some (.iload 14, 256, 14, 0) ∧ dec method_9_code 256 = some (.ifCond .lt 138, 259, 394, 0) ∧ dec method_9_code 259 = some (.iload 14, 261, 14, 0) ∧ dec method_9_code 261 = some (.iconst 2, 262, 0, 2) ∧ dec method_9_code 262 = some (.if_icmp .ge 132, 265, 394, 0) ∧ dec method_9_code 265 = some (.iload 14, 267, 14, 0) ∧ dec method_9_code 267 = some (.iconst 1, 268, 0, 1) ∧ dec method_9_code 268 = some (.if_icmp .ne 7, 271, 275, 0) ∧ dec method_9_code 271 = some (.iconst 1, 272, 0, 1) ∧ dec method_9_code 272 = some (.goto 4, 275, 276, 0) ∧ dec method_9_code 275 = some (.iconst 0, 276, 0, 0) ∧ dec method_9_code 276 = some (.aload_n 0, 277, 0, 0) ∧ dec method_9_code 277 = some (.iconst 0, 278, 0, 0) ∧ dec method_9_code 278 = some (.iconst 0, 279, 0, 0) ∧ dec method_9_code 279 = some (.invokevirtual 24, 282, 0, 0) ∧ dec method_9_code 282 = some (.iconst 3, 283, 0, 3) ∧ dec method_9_code 283 = some (.if_icmp .ne 7, 286, 290, 0) ∧ dec method_9_code 286 = some (.iconst 1, 287, 0, 1) ∧ dec method_9_code 287 = some (.goto 4, 290, 291, 0) ∧ dec method_9_code 290 = some (.iconst 0, 291, 0, 0) ∧ dec method_9_code 291 = some (.if_icmp .ne 103, 294, 394, 0) ∧ dec method_9_code 294 = some (.aload_n 0, 295, 0, 0) ∧ dec method_9_code 295 = some (.iload 14, 297, 14, 0) ∧ dec method_9_code 297 = some (.iconst 0, 298, 0, 0) ∧ dec method_9_code 298 = some (.invokevirtual 24, 301, 0, 0) ∧ dec method_9_code 301 = some (.iload 13, 303, 13, 0) ∧ dec method_9_code 303 = some (.ifCond .eq 7, 306, 310, 0) ∧ dec method_9_code 306 = some (.iconst 2, 307, 0, 2) ∧ dec method_9_code 307 = some (.goto 15, 310, 322, 0) ∧ dec method_9_code 310 = some (.iload 9, 312, 9, 0) ∧ dec method_9_code 312 = some (.bipush (-6), 314, 0, (-6)) ∧ dec method_9_code 314 = some (.if_icmp .ne 7, 317, 321, 0) ∧ dec method_9_code 317 = some (.iconst 0, 318, 0, 0) ∧ dec method_9_code 318 = some (.goto 4, 321, 322, 0) ∧ dec method_9_code 321 = some (.iconst 1, 322, 0, 1) ∧ dec method_9_code 322 = some (.if_icmp .ne 72, 325, 394, 0) ∧ dec method_9_code 325 = some (.aload_n 0, 326, 0, 0) ∧ dec method_9_code 326 = some (.iload 14, 328, 14, 0) ∧ dec method_9_code 328 = some (.iconst 1, 329, 0, 1) ∧ dec method_9_code 329 = some (.invokevirtual 24, 332, 0, 0) ∧ dec method_9_code 332 = some (.iload_n 1, 333, 1, 0) ∧ dec method_9_code 333 = some (.if_icmp .ne 61, 336, 394, 0) ∧ dec method_9_code 336 = some (.aload_n 0, 337, 0, 0) ∧ dec method_9_code 337 = some (.iload 14, 339, 14, 0) ∧ dec method_9_code 339 = some (.iconst 3, 340, 0, 3) ∧ dec method_9_code 340 = some (.invokevirtual 24, 343, 0, 0) ∧ dec method_9_code 343 = some (.iload 10, 345, 10, 0) ∧ dec method_9_code 345 = some (.ifCond .eq 7, 348, 352, 0) ∧ dec method_9_code 348 = some (.iconst 1, 349, 0, 1) ∧ dec method_9_code 349 = some (.goto 4, 352, 353, 0) ∧ dec method_9_code 352 = some (.iconst 0, 353, 0, 0) ∧ dec method_9_code 353 = some (.if_icmp .ne 41, 356, 394, 0) ∧ dec method_9_code 356 = some (.iload 14, 358, 14, 0) ∧ dec method_9_code 358 = some (.ifCond .eq 32, 361, 390, 0) ∧ dec method_9_code 361 = some (.aload_n 0, 362, 0, 0) ∧ dec method_9_code 362 = some (.iconst 0, 363, 0, 0) ∧ dec method_9_code 363 = some (.iconst 1, 364, 0, 1) ∧ dec method_9_code 364 = some (.invokevirtual 24, 367, 0, 0) ∧ dec method_9_code 367 = some (.bipush (-6), 369, 0, (-6)) ∧ dec method_9_code 369 = some (.if_icmp .ne 25, 372, 394, 0) ∧ dec method_9_code 372 = some (.aload_n 0, 373, 0, 0) ∧ dec method_9_code 373 = some (.iconst 0, 374, 0, 0) ∧ dec method_9_code 374 = some (.iconst 2, 375, 0, 2) ∧ dec method_9_code 375 = some (.invokevirtual 24, 378, 0, 0) ∧ dec method_9_code 378 = some (.ifCond .le 16, 381, 394, 0) ∧ dec method_9_code 381 = some (.aload_n 0, 382, 0, 0) ∧ dec method_9_code 382 = some (.iconst 0, 383, 0, 0) ∧ dec method_9_code 383 = some (.iconst 3, 384, 0, 3) ∧ dec method_9_code 384 = some (.invokevirtual 24, 387, 0, 0) ∧ dec method_9_code 387 = some (.ifCond .ne 7, 390, 394, 0) ∧ dec method_9_code 390 = some (.iconst 1, 391, 0, 1) ∧ dec method_9_code 391 = some (.goto 5, 394, 396, 0) ∧ dec method_9_code 394 = some (.bipush (-9), 396, 0, (-9)) ∧ dec method_9_code 396 = some (.ireturn, 397, 0, 0) := ⟨e_97_0, e_97_1, e_97_2, e_97_5, e_97_6, e_97_7, e_97_8, e_97_11, e_97_13, e_97_14, e_97_15, e_97_18, e_97_20, e_97_21, e_97_22, e_97_25, e_97_27, e_97_28, e_97_30, e_97_33, e_97_35, e_97_36, e_97_38, e_97_41, e_97_43, e_97_44, e_97_45, e_97_46, e_97_49, e_97_51, e_97_53, e_97_55, e_97_56, e_97_57, e_97_59, e_97_62, e_97_65, e_97_66, e_97_69, e_97_70, e_97_72, e_97_74, e_97_77, e_97_78, e_97_80, e_97_83, e_97_86, e_97_87, e_97_89, e_97_92, e_97_93, e_97_94, e_97_96, e_97_99, e_97_100, e_97_101, e_97_103, e_97_104, e_97_105, e_97_106, e_97_109, e_97_111, e_97_112, e_97_114, e_97_117, e_97_119, e_97_121, e_97_124, e_97_125, e_97_128, e_97_130, e_97_131, e_97_133, e_97_135, e_97_138, e_97_140, e_97_142, e_97_145, e_97_146, e_97_149, e_97_150, e_97_152, e_97_153, e_97_155, e_97_158, e_97_160, e_97_161, e_97_163, e_97_165, e_97_168, e_97_170, e_97_172, e_97_175, e_97_178, e_97_180, e_97_182, e_97_184, e_97_187, e_97_188, e_97_191, e_97_192, e_97_195, e_97_196, e_97_197, e_97_200, e_97_201, e_97_203, e_97_204, e_97_207, e_97_208, e_97_209, e_97_212, e_97_214, e_97_217, e_97_218, e_97_221, e_97_223, e_97_225, e_97_226, e_97_229, e_97_230, e_97_231, e_97_234, e_97_236, e_97_238, e_97_239, e_97_242, e_97_243, e_97_244, e_97_247, e_97_249, e_97_250, e_97_251, e_97_254, e_97_256, e_97_259, e_97_261, e_97_262, e_97_265, e_97_267, e_97_268, e_97_271, e_97_272, e_97_275, e_97_276, e_97_277, e_97_278, e_97_279, e_97_282, e_97_283, e_97_286, e_97_287, e_97_290, e_97_291, e_97_294, e_97_295, e_97_297, e_97_298, e_97_301, e_97_303, e_97_306, e_97_307, e_97_310, e_97_312, e_97_314, e_97_317, e_97_318, e_97_321, e_97_322, e_97_325, e_97_326, e_97_328, e_97_329, e_97_332, e_97_333, e_97_336, e_97_337, e_97_339, e_97_340, e_97_343, e_97_345, e_97_348, e_97_349, e_97_352, e_97_353, e_97_356, e_97_358, e_97_361, e_97_362, e_97_363, e_97_364, e_97_367, e_97_369, e_97_372, e_97_373, e_97_374, e_97_375, e_97_378, e_97_381, e_97_382, e_97_383, e_97_384, e_97_387, e_97_390, e_97_391, e_97_394, e_97_396⟩
theorem e_98_0 : dec method_10_code 0 = some (.iload_n 1, 1, 1, 0) := by decide +kernel
theorem e_98_1 : dec method_10_code 1 = some (.bipush 16, 3, 0, 16) := by decide +kernel
theorem e_98_3 : dec method_10_code 3 = some (.irem, 4, 0, 0) := by decide +kernel
theorem e_98_4 : dec method_10_code 4 = some (.istore_n 2, 5, 2, 0) := by decide +kernel
theorem e_98_5 : dec method_10_code 5 = some (.iload_n 1, 6, 1, 0) := by decide +kernel
theorem e_98_6 : dec method_10_code 6 = some (.bipush 16, 8, 0, 16) := by decide +kernel
theorem e_98_8 : dec method_10_code 8 = some (.idiv, 9, 0, 0) := by decide +kernel
theorem e_98_9 : dec method_10_code 9 = some (.istore_n 3, 10, 3, 0) := by decide +kernel
theorem e_98_10 : dec method_10_code 10 = some (.iload_n 2, 11, 2, 0) := by decide +kernel
theorem e_98_11 : dec method_10_code 11 = some (.iconst 4, 12, 0, 4) := by decide +kernel
theorem e_98_12 : dec method_10_code 12 = some (.if_icmp .ge 158, 15, 170, 0) := by decide +kernel
theorem e_98_15 : dec method_10_code 15 = some (.iconst 1, 16, 0, 1) := by decide +kernel
theorem e_98_16 : dec method_10_code 16 = some (.iload_n 3, 17, 3, 0) := by decide +kernel
theorem e_98_17 : dec method_10_code 17 = some (.iconst 3, 18, 0, 3) := by decide +kernel
theorem e_98_18 : dec method_10_code 18 = some (.idiv, 19, 0, 0) := by decide +kernel
theorem e_98_19 : dec method_10_code 19 = some (.iload_n 3, 20, 3, 0) := by decide +kernel
theorem e_98_20 : dec method_10_code 20 = some (.iconst 2, 21, 0, 2) := by decide +kernel
theorem e_98_21 : dec method_10_code 21 = some (.irem, 22, 0, 0) := by decide +kernel
theorem e_98_22 : dec method_10_code 22 = some (.ifCond .ne 8, 25, 30, 0) := by decide +kernel
theorem e_98_25 : dec method_10_code 25 = some (.bipush 60, 27, 0, 60) := by decide +kernel
theorem e_98_27 : dec method_10_code 27 = some (.goto 5, 30, 32, 0) := by decide +kernel
theorem e_98_30 : dec method_10_code 30 = some (.bipush 25, 32, 0, 25) := by decide +kernel
theorem e_98_32 : dec method_10_code 32 = some (.irem, 33, 0, 0) := by decide +kernel
theorem e_98_33 : dec method_10_code 33 = some (.iadd, 34, 0, 0) := by decide +kernel
theorem e_98_34 : dec method_10_code 34 = some (.istore 4, 36, 4, 0) := by decide +kernel
theorem e_98_36 : dec method_10_code 36 = some (.iconst 1, 37, 0, 1) := by decide +kernel
theorem e_98_37 : dec method_10_code 37 = some (.iload_n 3, 38, 3, 0) := by decide +kernel
theorem e_98_38 : dec method_10_code 38 = some (.sipush 180, 41, 0, 180) := by decide +kernel
theorem e_98_41 : dec method_10_code 41 = some (.idiv, 42, 0, 0) := by decide +kernel
theorem e_98_42 : dec method_10_code 42 = some (.bipush 99, 44, 0, 99) := by decide +kernel
theorem e_98_44 : dec method_10_code 44 = some (.irem, 45, 0, 0) := by decide +kernel
theorem e_98_45 : dec method_10_code 45 = some (.iadd, 46, 0, 0) := by decide +kernel
theorem e_98_46 : dec method_10_code 46 = some (.istore 5, 48, 5, 0) := by decide +kernel
theorem e_98_48 : dec method_10_code 48 = some (.aload_n 0, 49, 0, 0) := by decide +kernel
theorem e_98_49 : dec method_10_code 49 = some (.bipush 23, 51, 0, 23) := by decide +kernel
theorem e_98_51 : dec method_10_code 51 = some (.iconst 0, 52, 0, 0) := by decide +kernel
theorem e_98_52 : dec method_10_code 52 = some (.invokevirtual 20, 55, 0, 0) := by decide +kernel
theorem e_98_55 : dec method_10_code 55 = some (.ifCond .lt 7, 58, 62, 0) := by decide +kernel
theorem e_98_58 : dec method_10_code 58 = some (.iconst 1, 59, 0, 1) := by decide +kernel
theorem e_98_59 : dec method_10_code 59 = some (.goto 4, 62, 63, 0) := by decide +kernel
theorem e_98_62 : dec method_10_code 62 = some (.iconst 0, 63, 0, 0) := by decide +kernel
theorem e_98_63 : dec method_10_code 63 = some (.istore 6, 65, 6, 0) := by decide +kernel
theorem e_98_65 : dec method_10_code 65 = some (.aload_n 0, 66, 0, 0) := by decide +kernel
theorem e_98_66 : dec method_10_code 66 = some (.iload_n 3, 67, 3, 0) := by decide +kernel
theorem e_98_67 : dec method_10_code 67 = some (.iconst 3, 68, 0, 3) := by decide +kernel
theorem e_98_68 : dec method_10_code 68 = some (.irem, 69, 0, 0) := by decide +kernel
theorem e_98_69 : dec method_10_code 69 = some (.iload 4, 71, 4, 0) := by decide +kernel
theorem e_98_71 : dec method_10_code 71 = some (.iload 5, 73, 5, 0) := by decide +kernel
theorem e_98_73 : dec method_10_code 73 = some (.invokevirtual 52, 76, 0, 0) := by decide +kernel
theorem e_98_76 : dec method_10_code 76 = some (.istore 7, 78, 7, 0) := by decide +kernel
theorem e_98_78 : dec method_10_code 78 = some (.iload 6, 80, 6, 0) := by decide +kernel
theorem e_98_80 : dec method_10_code 80 = some (.ifCond .eq 19, 83, 99, 0) := by decide +kernel
theorem e_98_83 : dec method_10_code 83 = some (.iload 7, 85, 7, 0) := by decide +kernel
theorem e_98_85 : dec method_10_code 85 = some (.bipush (-4), 87, 0, (-4)) := by decide +kernel
theorem e_98_87 : dec method_10_code 87 = some (.if_icmp .ne 7, 90, 94, 0) := by decide +kernel
theorem e_98_90 : dec method_10_code 90 = some (.iconst 0, 91, 0, 0) := by decide +kernel
theorem e_98_91 : dec method_10_code 91 = some (.goto 78, 94, 169, 0) := by decide +kernel
theorem e_98_94 : dec method_10_code 94 = some (.bipush (-9), 96, 0, (-9)) := by decide +kernel
theorem e_98_96 : dec method_10_code 96 = some (.goto 73, 99, 169, 0) := by decide +kernel
theorem e_98_99 : dec method_10_code 99 = some (.aload_n 0, 100, 0, 0) := by decide +kernel
theorem e_98_100 : dec method_10_code 100 = some (.iload 7, 102, 7, 0) := by decide +kernel
theorem e_98_102 : dec method_10_code 102 = some (.iconst 0, 103, 0, 0) := by decide +kernel
theorem e_98_103 : dec method_10_code 103 = some (.invokevirtual 20, 106, 0, 0) := by decide +kernel
theorem e_98_106 : dec method_10_code 106 = some (.iload_n 3, 107, 3, 0) := by decide +kernel
theorem e_98_107 : dec method_10_code 107 = some (.iconst 3, 108, 0, 3) := by decide +kernel
theorem e_98_108 : dec method_10_code 108 = some (.irem, 109, 0, 0) := by decide +kernel
theorem e_98_109 : dec method_10_code 109 = some (.if_icmp .ne 58, 112, 167, 0) := by decide +kernel
theorem e_98_112 : dec method_10_code 112 = some (.aload_n 0, 113, 0, 0) := by decide +kernel
theorem e_98_113 : dec method_10_code 113 = some (.iload 7, 115, 7, 0) := by decide +kernel
theorem e_98_115 : dec method_10_code 115 = some (.iconst 1, 116, 0, 1) := by decide +kernel
theorem e_98_116 : dec method_10_code 116 = some (.invokevirtual 20, 119, 0, 0) := by decide +kernel
theorem e_98_119 : dec method_10_code 119 = some (.iload 4, 121, 4, 0) := by decide +kernel
theorem e_98_121 : dec method_10_code 121 = some (.if_icmp .ne 46, 124, 167, 0) := by decide +kernel
theorem e_98_124 : dec method_10_code 124 = some (.aload_n 0, 125, 0, 0) := by decide +kernel
theorem e_98_125 : dec method_10_code 125 = some (.iload 7, 127, 7, 0) := by decide +kernel
theorem e_98_127 : dec method_10_code 127 = some (.iconst 2, 128, 0, 2) := by decide +kernel
theorem e_98_128 : dec method_10_code 128 = some (.invokevirtual 20, 131, 0, 0) := by decide +kernel
theorem e_98_131 : dec method_10_code 131 = some (.iload 5, 133, 5, 0) := by decide +kernel
theorem e_98_133 : dec method_10_code 133 = some (.if_icmp .ne 34, 136, 167, 0) := by decide +kernel
theorem e_98_136 : dec method_10_code 136 = some (.aload_n 0, 137, 0, 0) := by decide +kernel
theorem e_98_137 : dec method_10_code 137 = some (.iload 7, 139, 7, 0) := by decide +kernel
theorem e_98_139 : dec method_10_code 139 = some (.iconst 3, 140, 0, 3) := by decide +kernel
theorem e_98_140 : dec method_10_code 140 = some (.invokevirtual 20, 143, 0, 0) := by decide +kernel
theorem e_98_143 : dec method_10_code 143 = some (.ifCond .ne 24, 146, 167, 0) := by decide +kernel
theorem e_98_146 : dec method_10_code 146 = some (.iload 7, 148, 7, 0) := by decide +kernel
theorem e_98_148 : dec method_10_code 148 = some (.ifCond .eq 15, 151, 163, 0) := by decide +kernel
theorem e_98_151 : dec method_10_code 151 = some (.aload_n 0, 152, 0, 0) := by decide +kernel
theorem e_98_152 : dec method_10_code 152 = some (.iload 7, 154, 7, 0) := by decide +kernel
theorem e_98_154 : dec method_10_code 154 = some (.iconst 1, 155, 0, 1) := by decide +kernel
theorem e_98_155 : dec method_10_code 155 = some (.isub, 156, 0, 0) := by decide +kernel
theorem e_98_156 : dec method_10_code 156 = some (.iconst 0, 157, 0, 0) := by decide +kernel
theorem e_98_157 : dec method_10_code 157 = some (.invokevirtual 20, 160, 0, 0) := by decide +kernel
theorem e_98_160 : dec method_10_code 160 = some (.ifCond .lt 7, 163, 167, 0) := by decide +kernel
theorem e_98_163 : dec method_10_code 163 = some (.iconst 1, 164, 0, 1) := by decide +kernel
theorem e_98_164 : dec method_10_code 164 = some (.goto 5, 167, 169, 0) := by decide +kernel
theorem e_98_167 : dec method_10_code 167 = some (.bipush (-9), 169, 0, (-9)) := by decide +kernel
theorem e_98_169 : dec method_10_code 169 = some (.ireturn, 170, 0, 0) := by decide +kernel
theorem e_98_170 : dec method_10_code 170 = some (.iload_n 2, 171, 2, 0) := by decide +kernel
theorem e_98_171 : dec method_10_code 171 = some (.bipush 7, 173, 0, 7) := by decide +kernel
theorem e_98_173 : dec method_10_code 173 = some (.if_icmp .ge 171, 176, 344, 0) := by decide +kernel
theorem e_98_176 : dec method_10_code 176 = some (.iload_n 3, 177, 3, 0) := by decide +kernel
theorem e_98_177 : dec method_10_code 177 = some (.iconst 2, 178, 0, 2) := by decide +kernel
theorem e_98_178 : dec method_10_code 178 = some (.irem, 179, 0, 0) := by decide +kernel
theorem e_98_179 : dec method_10_code 179 = some (.ifCond .ne 12, 182, 191, 0) := by decide +kernel
theorem e_98_182 : dec method_10_code 182 = some (.iload_n 3, 183, 3, 0) := by decide +kernel
theorem e_98_183 : dec method_10_code 183 = some (.iconst 2, 184, 0, 2) := by decide +kernel
theorem e_98_184 : dec method_10_code 184 = some (.idiv, 185, 0, 0) := by decide +kernel
theorem e_98_185 : dec method_10_code 185 = some (.bipush 8, 187, 0, 8) := by decide +kernel
theorem e_98_187 : dec method_10_code 187 = some (.irem, 188, 0, 0) := by decide +kernel
theorem e_98_188 : dec method_10_code 188 = some (.goto 4, 191, 192, 0) := by decide +kernel
theorem e_98_191 : dec method_10_code 191 = some (.iconst 3, 192, 0, 3) := by decide +kernel
theorem e_98_192 : dec method_10_code 192 = some (.istore 4, 194, 4, 0) := by decide +kernel
theorem e_98_194 : dec method_10_code 194 = some (.aload_n 0, 195, 0, 0) := by decide +kernel
theorem e_98_195 : dec method_10_code 195 = some (.bipush 8, 197, 0, 8) := by decide +kernel
theorem e_98_197 : dec method_10_code 197 = some (.invokevirtual 14, 200, 0, 0) := by decide +kernel
theorem e_98_200 : dec method_10_code 200 = some (.istore 5, 202, 5, 0) := by decide +kernel
theorem e_98_202 : dec method_10_code 202 = some (.iload 5, 204, 5, 0) := by decide +kernel
theorem e_98_204 : dec method_10_code 204 = some (.iload 5, 206, 5, 0) := by decide +kernel
theorem e_98_206 : dec method_10_code 206 = some (.ineg, 207, 0, 0) := by decide +kernel
theorem e_98_207 : dec method_10_code 207 = some (.iand, 208, 0, 0) := by decide +kernel
theorem e_98_208 : dec method_10_code 208 = some (.istore 6, 210, 6, 0) := by decide +kernel
theorem e_98_210 : dec method_10_code 210 = some (.aload_n 0, 211, 0, 0) := by decide +kernel
theorem e_98_211 : dec method_10_code 211 = some (.iload 4, 213, 4, 0) := by decide +kernel
theorem e_98_213 : dec method_10_code 213 = some (.iconst 3, 214, 0, 3) := by decide +kernel
theorem e_98_214 : dec method_10_code 214 = some (.invokevirtual 29, 217, 0, 0) := by decide +kernel
theorem e_98_217 : dec method_10_code 217 = some (.ifCond .lt 7, 220, 224, 0) := by decide +kernel
theorem e_98_220 : dec method_10_code 220 = some (.iconst 1, 221, 0, 1) := by decide +kernel
theorem e_98_221 : dec method_10_code 221 = some (.goto 4, 224, 225, 0) := by decide +kernel
theorem e_98_224 : dec method_10_code 224 = some (.iconst 0, 225, 0, 0) := by decide +kernel
theorem e_98_225 : dec method_10_code 225 = some (.istore 7, 227, 7, 0) := by decide +kernel
theorem e_98_227 : dec method_10_code 227 = some (.aload_n 0, 228, 0, 0) := by decide +kernel
theorem e_98_228 : dec method_10_code 228 = some (.iload 4, 230, 4, 0) := by decide +kernel
theorem e_98_230 : dec method_10_code 230 = some (.invokevirtual 56, 233, 0, 0) := by decide +kernel
theorem e_98_233 : dec method_10_code 233 = some (.istore 8, 235, 8, 0) := by decide +kernel
theorem e_98_235 : dec method_10_code 235 = some (.iload 5, 237, 5, 0) := by decide +kernel
theorem e_98_237 : dec method_10_code 237 = some (.ifCond .ne 19, 240, 256, 0) := by decide +kernel
theorem e_98_240 : dec method_10_code 240 = some (.iload 8, 242, 8, 0) := by decide +kernel
theorem e_98_242 : dec method_10_code 242 = some (.bipush (-5), 244, 0, (-5)) := by decide +kernel
theorem e_98_244 : dec method_10_code 244 = some (.if_icmp .ne 7, 247, 251, 0) := by decide +kernel
theorem e_98_247 : dec method_10_code 247 = some (.iconst 0, 248, 0, 0) := by decide +kernel
theorem e_98_248 : dec method_10_code 248 = some (.goto 95, 251, 343, 0) := by decide +kernel
theorem e_98_251 : dec method_10_code 251 = some (.bipush (-9), 253, 0, (-9)) := by decide +kernel
theorem e_98_253 : dec method_10_code 253 = some (.goto 90, 256, 343, 0) := by decide +kernel
theorem e_98_256 : dec method_10_code 256 = some (.iload 7, 258, 7, 0) := by decide +kernel
theorem e_98_258 : dec method_10_code 258 = some (.ifCond .eq 19, 261, 277, 0) := by decide +kernel
theorem e_98_261 : dec method_10_code 261 = some (.iload 8, 263, 8, 0) := by decide +kernel
theorem e_98_263 : dec method_10_code 263 = some (.bipush (-4), 265, 0, (-4)) := by decide +kernel
theorem e_98_265 : dec method_10_code 265 = some (.if_icmp .ne 7, 268, 272, 0) := by decide +kernel
theorem e_98_268 : dec method_10_code 268 = some (.iconst 0, 269, 0, 0) := by decide +kernel
theorem e_98_269 : dec method_10_code 269 = some (.goto 74, 272, 343, 0) := by decide +kernel
theorem e_98_272 : dec method_10_code 272 = some (.bipush (-9), 274, 0, (-9)) := by decide +kernel
theorem e_98_274 : dec method_10_code 274 = some (.goto 69, 277, 343, 0) := by decide +kernel
theorem e_98_277 : dec method_10_code 277 = some (.iload 8, 279, 8, 0) := by decide +kernel
theorem e_98_279 : dec method_10_code 279 = some (.ifCond .lt 62, 282, 341, 0) := by decide +kernel
theorem e_98_282 : dec method_10_code 282 = some (.iconst 1, 283, 0, 1) := by decide +kernel
theorem e_98_283 : dec method_10_code 283 = some (.iload 8, 285, 8, 0) := by decide +kernel
theorem e_98_285 : dec method_10_code 285 = some (.ishl, 286, 0, 0) := by decide +kernel
theorem e_98_286 : dec method_10_code 286 = some (.iload 6, 288, 6, 0) := by decide +kernel
theorem e_98_288 : dec method_10_code 288 = some (.if_icmp .ne 53, 291, 341, 0) := by decide +kernel
theorem e_98_291 : dec method_10_code 291 = some (.aload_n 0, 292, 0, 0) := by decide +kernel
theorem e_98_292 : dec method_10_code 292 = some (.iload 8, 294, 8, 0) := by decide +kernel
theorem e_98_294 : dec method_10_code 294 = some (.iconst 4, 295, 0, 4) := by decide +kernel
theorem e_98_295 : dec method_10_code 295 = some (.invokevirtual 20, 298, 0, 0) := by decide +kernel
theorem e_98_298 : dec method_10_code 298 = some (.bipush 10, 300, 0, 10) := by decide +kernel
theorem e_98_300 : dec method_10_code 300 = some (.idiv, 301, 0, 0) := by decide +kernel
theorem e_98_301 : dec method_10_code 301 = some (.iload 4, 303, 4, 0) := by decide +kernel
theorem e_98_303 : dec method_10_code 303 = some (.if_icmp .ne 38, 306, 341, 0) := by decide +kernel
theorem e_98_306 : dec method_10_code 306 = some (.aload_n 0, 307, 0, 0) := by decide +kernel
theorem e_98_307 : dec method_10_code 307 = some (.bipush 8, 309, 0, 8) := by decide +kernel
theorem e_98_309 : dec method_10_code 309 = some (.invokevirtual 14, 312, 0, 0) := by decide +kernel
theorem e_98_312 : dec method_10_code 312 = some (.iload 5, 314, 5, 0) := by decide +kernel
theorem e_98_314 : dec method_10_code 314 = some (.iload 6, 316, 6, 0) := by decide +kernel
theorem e_98_316 : dec method_10_code 316 = some (.isub, 317, 0, 0) := by decide +kernel
theorem e_98_317 : dec method_10_code 317 = some (.if_icmp .ne 24, 320, 341, 0) := by decide +kernel
theorem e_98_320 : dec method_10_code 320 = some (.aload_n 0, 321, 0, 0) := by decide +kernel
theorem e_98_321 : dec method_10_code 321 = some (.iload 4, 323, 4, 0) := by decide +kernel
theorem e_98_323 : dec method_10_code 323 = some (.iconst 0, 324, 0, 0) := by decide +kernel
theorem e_98_324 : dec method_10_code 324 = some (.invokevirtual 32, 327, 0, 0) := by decide +kernel
theorem e_98_327 : dec method_10_code 327 = some (.aload_n 0, 328, 0, 0) := by decide +kernel
theorem e_98_328 : dec method_10_code 328 = some (.iload 8, 330, 8, 0) := by decide +kernel
theorem e_98_330 : dec method_10_code 330 = some (.iconst 1, 331, 0, 1) := by decide +kernel
theorem e_98_331 : dec method_10_code 331 = some (.invokevirtual 20, 334, 0, 0) := by decide +kernel
theorem e_98_334 : dec method_10_code 334 = some (.if_icmp .lt 7, 337, 341, 0) := by decide +kernel
theorem e_98_337 : dec method_10_code 337 = some (.iconst 1, 338, 0, 1) := by decide +kernel
theorem e_98_338 : dec method_10_code 338 = some (.goto 5, 341, 343, 0) := by decide +kernel
theorem e_98_341 : dec method_10_code 341 = some (.bipush (-9), 343, 0, (-9)) := by decide +kernel
theorem e_98_343 : dec method_10_code 343 = some (.ireturn, 344, 0, 0) := by decide +kernel
theorem e_98_344 : dec method_10_code 344 = some (.iload_n 2, 345, 2, 0) := by decide +kernel
theorem e_98_345 : dec method_10_code 345 = some (.bipush 9, 347, 0, 9) := by decide +kernel
theorem e_98_347 : dec method_10_code 347 = some (.if_icmp .ge 80, 350, 427, 0) := by decide +kernel
theorem e_98_350 : dec method_10_code 350 = some (.iconst 1, 351, 0, 1) := by decide +kernel
theorem e_98_351 : dec method_10_code 351 = some (.iload_n 3, 352, 3, 0) := by decide +kernel
theorem e_98_352 : dec method_10_code 352 = some (.bipush 99, 354, 0, 99) := by decide +kernel
theorem e_98_354 : dec method_10_code 354 = some (.irem, 355, 0, 0) := by decide +kernel
theorem e_98_355 : dec method_10_code 355 = some (.iadd, 356, 0, 0) := by decide +kernel
theorem e_98_356 : dec method_10_code 356 = some (.istore 4, 358, 4, 0) := by decide +kernel
theorem e_98_358 : dec method_10_code 358 = some (.aload_n 0, 359, 0, 0) := by decide +kernel
theorem e_98_359 : dec method_10_code 359 = some (.iconst 0, 360, 0, 0) := by decide +kernel
theorem e_98_360 : dec method_10_code 360 = some (.invokevirtual 14, 363, 0, 0) := by decide +kernel
theorem e_98_363 : dec method_10_code 363 = some (.istore 5, 365, 5, 0) := by decide +kernel
theorem e_98_365 : dec method_10_code 365 = some (.aload_n 0, 366, 0, 0) := by decide +kernel
theorem e_98_366 : dec method_10_code 366 = some (.iload 4, 368, 4, 0) := by decide +kernel
theorem e_98_368 : dec method_10_code 368 = some (.invokevirtual 59, 371, 0, 0) := by decide +kernel
theorem e_98_371 : dec method_10_code 371 = some (.istore 6, 373, 6, 0) := by decide +kernel
theorem e_98_373 : dec method_10_code 373 = some (.iload 5, 375, 5, 0) := by decide +kernel
theorem e_98_375 : dec method_10_code 375 = some (.iload 4, 377, 4, 0) := by decide +kernel
theorem e_98_377 : dec method_10_code 377 = some (.iadd, 378, 0, 0) := by decide +kernel
theorem e_98_378 : dec method_10_code 378 = some (.sipush 999, 381, 0, 999) := by decide +kernel
theorem e_98_381 : dec method_10_code 381 = some (.if_icmp .le 19, 384, 400, 0) := by decide +kernel
theorem e_98_384 : dec method_10_code 384 = some (.iload 6, 386, 6, 0) := by decide +kernel
theorem e_98_386 : dec method_10_code 386 = some (.bipush (-4), 388, 0, (-4)) := by decide +kernel
theorem e_98_388 : dec method_10_code 388 = some (.if_icmp .ne 7, 391, 395, 0) := by decide +kernel
theorem e_98_391 : dec method_10_code 391 = some (.iconst 0, 392, 0, 0) := by decide +kernel
theorem e_98_392 : dec method_10_code 392 = some (.goto 34, 395, 426, 0) := by decide +kernel
theorem e_98_395 : dec method_10_code 395 = some (.bipush (-9), 397, 0, (-9)) := by decide +kernel
theorem e_98_397 : dec method_10_code 397 = some (.goto 29, 400, 426, 0) := by decide +kernel
theorem e_98_400 : dec method_10_code 400 = some (.iload 6, 402, 6, 0) := by decide +kernel
theorem e_98_402 : dec method_10_code 402 = some (.iload 5, 404, 5, 0) := by decide +kernel
theorem e_98_404 : dec method_10_code 404 = some (.iload 4, 406, 4, 0) := by decide +kernel
theorem e_98_406 : dec method_10_code 406 = some (.iadd, 407, 0, 0) := by decide +kernel
theorem e_98_407 : dec method_10_code 407 = some (.if_icmp .ne 17, 410, 424, 0) := by decide +kernel
theorem e_98_410 : dec method_10_code 410 = some (.aload_n 0, 411, 0, 0) := by decide +kernel
theorem e_98_411 : dec method_10_code 411 = some (.iconst 0, 412, 0, 0) := by decide +kernel
theorem e_98_412 : dec method_10_code 412 = some (.invokevirtual 14, 415, 0, 0) := by decide +kernel
theorem e_98_415 : dec method_10_code 415 = some (.iload 6, 417, 6, 0) := by decide +kernel
theorem e_98_417 : dec method_10_code 417 = some (.if_icmp .ne 7, 420, 424, 0) := by decide +kernel
theorem e_98_420 : dec method_10_code 420 = some (.iconst 1, 421, 0, 1) := by decide +kernel
theorem e_98_421 : dec method_10_code 421 = some (.goto 5, 424, 426, 0) := by decide +kernel
theorem e_98_424 : dec method_10_code 424 = some (.bipush (-9), 426, 0, (-9)) := by decide +kernel
theorem e_98_426 : dec method_10_code 426 = some (.ireturn, 427, 0, 0) := by decide +kernel
theorem e_98_427 : dec method_10_code 427 = some (.iload_n 2, 428, 2, 0) := by decide +kernel
theorem e_98_428 : dec method_10_code 428 = some (.bipush 15, 430, 0, 15) := by decide +kernel
theorem e_98_430 : dec method_10_code 430 = some (.if_icmp .ge 49, 433, 479, 0) := by decide +kernel
theorem e_98_433 : dec method_10_code 433 = some (.aload_n 0, 434, 0, 0) := by decide +kernel
theorem e_98_434 : dec method_10_code 434 = some (.iload_n 3, 435, 3, 0) := by decide +kernel
theorem e_98_435 : dec method_10_code 435 = some (.iconst 2, 436, 0, 2) := by decide +kernel
theorem e_98_436 : dec method_10_code 436 = some (.irem, 437, 0, 0) := by decide +kernel
theorem e_98_437 : dec method_10_code 437 = some (.ifCond .ne 12, 440, 449, 0) := by decide +kernel
theorem e_98_440 : dec method_10_code 440 = some (.iload_n 3, 441, 3, 0) := by decide +kernel
theorem e_98_441 : dec method_10_code 441 = some (.iconst 2, 442, 0, 2) := by decide +kernel
theorem e_98_442 : dec method_10_code 442 = some (.idiv, 443, 0, 0) := by decide +kernel
theorem e_98_443 : dec method_10_code 443 = some (.bipush 8, 445, 0, 8) := by decide +kernel
theorem e_98_445 : dec method_10_code 445 = some (.irem, 446, 0, 0) := by decide +kernel
theorem e_98_446 : dec method_10_code 446 = some (.goto 10, 449, 456, 0) := by decide +kernel
theorem e_98_449 : dec method_10_code 449 = some (.iconst 2, 450, 0, 2) := by decide +kernel
theorem e_98_450 : dec method_10_code 450 = some (.iload_n 3, 451, 3, 0) := by decide +kernel
theorem e_98_451 : dec method_10_code 451 = some (.iconst 2, 452, 0, 2) := by decide +kernel
theorem e_98_452 : dec method_10_code 452 = some (.idiv, 453, 0, 0) := by decide +kernel
theorem e_98_453 : dec method_10_code 453 = some (.iconst 3, 454, 0, 3) := by decide +kernel
theorem e_98_454 : dec method_10_code 454 = some (.irem, 455, 0, 0) := by decide +kernel
theorem e_98_455 : dec method_10_code 455 = some (.iadd, 456, 0, 0) := by decide +kernel
theorem e_98_456 : dec method_10_code 456 = some (.iload_n 3, 457, 3, 0) := by decide +kernel
theorem e_98_457 : dec method_10_code 457 = some (.bipush 16, 459, 0, 16) := by decide +kernel
theorem e_98_459 : dec method_10_code 459 = some (.idiv, 460, 0, 0) := by decide +kernel
theorem e_98_460 : dec method_10_code 460 = some (.iconst 3, 461, 0, 3) := by decide +kernel
theorem e_98_461 : dec method_10_code 461 = some (.irem, 462, 0, 0) := by decide +kernel
theorem e_98_462 : dec method_10_code 462 = some (.ifCond .ne 12, 465, 474, 0) := by decide +kernel
theorem e_98_465 : dec method_10_code 465 = some (.iload_n 3, 466, 3, 0) := by decide +kernel
theorem e_98_466 : dec method_10_code 466 = some (.bipush 48, 468, 0, 48) := by decide +kernel
theorem e_98_468 : dec method_10_code 468 = some (.idiv, 469, 0, 0) := by decide +kernel
theorem e_98_469 : dec method_10_code 469 = some (.iconst 5, 470, 0, 5) := by decide +kernel
theorem e_98_470 : dec method_10_code 470 = some (.irem, 471, 0, 0) := by decide +kernel
theorem e_98_471 : dec method_10_code 471 = some (.goto 4, 474, 475, 0) := by decide +kernel
theorem e_98_474 : dec method_10_code 474 = some (.iconst 0, 475, 0, 0) := by decide +kernel
theorem e_98_475 : dec method_10_code 475 = some (.invokestatic 94, 478, 0, 0) := by decide +kernel
theorem e_98_478 : dec method_10_code 478 = some (.ireturn, 479, 0, 0) := by decide +kernel
theorem e_98_479 : dec method_10_code 479 = some (.iload_n 3, 480, 3, 0) := by decide +kernel
theorem e_98_480 : dec method_10_code 480 = some (.bipush 6, 482, 0, 6) := by decide +kernel
theorem e_98_482 : dec method_10_code 482 = some (.irem, 483, 0, 0) := by decide +kernel
theorem e_98_483 : dec method_10_code 483 = some (.istore 4, 485, 4, 0) := by decide +kernel
theorem e_98_485 : dec method_10_code 485 = some (.iload_n 3, 486, 3, 0) := by decide +kernel
theorem e_98_486 : dec method_10_code 486 = some (.bipush 6, 488, 0, 6) := by decide +kernel
theorem e_98_488 : dec method_10_code 488 = some (.idiv, 489, 0, 0) := by decide +kernel
theorem e_98_489 : dec method_10_code 489 = some (.istore 5, 491, 5, 0) := by decide +kernel
theorem e_98_491 : dec method_10_code 491 = some (.iload 4, 493, 4, 0) := by decide +kernel
theorem e_98_493 : dec method_10_code 493 = some (.ifCond .ne 13, 496, 506, 0) := by decide +kernel
theorem e_98_496 : dec method_10_code 496 = some (.iconst 1, 497, 0, 1) := by decide +kernel
theorem e_98_497 : dec method_10_code 497 = some (.iload 5, 499, 5, 0) := by decide +kernel
theorem e_98_499 : dec method_10_code 499 = some (.bipush 9, 501, 0, 9) := by decide +kernel
theorem e_98_501 : dec method_10_code 501 = some (.irem, 502, 0, 0) := by decide +kernel
theorem e_98_502 : dec method_10_code 502 = some (.iadd, 503, 0, 0) := by decide +kernel
theorem e_98_503 : dec method_10_code 503 = some (.goto 70, 506, 573, 0) := by decide +kernel
theorem e_98_506 : dec method_10_code 506 = some (.iload 4, 508, 4, 0) := by decide +kernel
theorem e_98_508 : dec method_10_code 508 = some (.iconst 1, 509, 0, 1) := by decide +kernel
theorem e_98_509 : dec method_10_code 509 = some (.if_icmp .ne 13, 512, 522, 0) := by decide +kernel
theorem e_98_512 : dec method_10_code 512 = some (.iconst 1, 513, 0, 1) := by decide +kernel
theorem e_98_513 : dec method_10_code 513 = some (.iload 5, 515, 5, 0) := by decide +kernel
theorem e_98_515 : dec method_10_code 515 = some (.bipush 60, 517, 0, 60) := by decide +kernel
theorem e_98_517 : dec method_10_code 517 = some (.irem, 518, 0, 0) := by decide +kernel
theorem e_98_518 : dec method_10_code 518 = some (.iadd, 519, 0, 0) := by decide +kernel
theorem e_98_519 : dec method_10_code 519 = some (.goto 54, 522, 573, 0) := by decide +kernel
theorem e_98_522 : dec method_10_code 522 = some (.iload 4, 524, 4, 0) := by decide +kernel
theorem e_98_524 : dec method_10_code 524 = some (.iconst 2, 525, 0, 2) := by decide +kernel
theorem e_98_525 : dec method_10_code 525 = some (.if_icmp .ne 13, 528, 538, 0) := by decide +kernel
theorem e_98_528 : dec method_10_code 528 = some (.iconst 1, 529, 0, 1) := by decide +kernel
theorem e_98_529 : dec method_10_code 529 = some (.iload 5, 531, 5, 0) := by decide +kernel
theorem e_98_531 : dec method_10_code 531 = some (.bipush 60, 533, 0, 60) := by decide +kernel
theorem e_98_533 : dec method_10_code 533 = some (.irem, 534, 0, 0) := by decide +kernel
theorem e_98_534 : dec method_10_code 534 = some (.iadd, 535, 0, 0) := by decide +kernel
theorem e_98_535 : dec method_10_code 535 = some (.goto 38, 538, 573, 0) := by decide +kernel
theorem e_98_538 : dec method_10_code 538 = some (.iload 4, 540, 4, 0) := by decide +kernel
theorem e_98_540 : dec method_10_code 540 = some (.iconst 3, 541, 0, 3) := by decide +kernel
theorem e_98_541 : dec method_10_code 541 = some (.if_icmp .ne 13, 544, 554, 0) := by decide +kernel
theorem e_98_544 : dec method_10_code 544 = some (.iconst 1, 545, 0, 1) := by decide +kernel
theorem e_98_545 : dec method_10_code 545 = some (.iload 5, 547, 5, 0) := by decide +kernel
theorem e_98_547 : dec method_10_code 547 = some (.bipush 99, 549, 0, 99) := by decide +kernel
theorem e_98_549 : dec method_10_code 549 = some (.irem, 550, 0, 0) := by decide +kernel
theorem e_98_550 : dec method_10_code 550 = some (.iadd, 551, 0, 0) := by decide +kernel
theorem e_98_551 : dec method_10_code 551 = some (.goto 22, 554, 573, 0) := by decide +kernel
theorem e_98_554 : dec method_10_code 554 = some (.iload 4, 556, 4, 0) := by decide +kernel
theorem e_98_556 : dec method_10_code 556 = some (.iconst 4, 557, 0, 4) := by decide +kernel
theorem e_98_557 : dec method_10_code 557 = some (.if_icmp .ne 11, 560, 568, 0) := by decide +kernel
theorem e_98_560 : dec method_10_code 560 = some (.iload 5, 562, 5, 0) := by decide +kernel
theorem e_98_562 : dec method_10_code 562 = some (.bipush 10, 564, 0, 10) := by decide +kernel
theorem e_98_564 : dec method_10_code 564 = some (.irem, 565, 0, 0) := by decide +kernel
theorem e_98_565 : dec method_10_code 565 = some (.goto 8, 568, 573, 0) := by decide +kernel
theorem e_98_568 : dec method_10_code 568 = some (.iload 5, 570, 5, 0) := by decide +kernel
theorem e_98_570 : dec method_10_code 570 = some (.bipush 9, 572, 0, 9) := by decide +kernel
theorem e_98_572 : dec method_10_code 572 = some (.irem, 573, 0, 0) := by decide +kernel
theorem e_98_573 : dec method_10_code 573 = some (.istore 6, 575, 6, 0) := by decide +kernel
theorem e_98_575 : dec method_10_code 575 = some (.aload_n 0, 576, 0, 0) := by decide +kernel
theorem e_98_576 : dec method_10_code 576 = some (.bipush 12, 578, 0, 12) := by decide +kernel
theorem e_98_578 : dec method_10_code 578 = some (.iload 4, 580, 4, 0) := by decide +kernel
theorem e_98_580 : dec method_10_code 580 = some (.iadd, 581, 0, 0) := by decide +kernel
theorem e_98_581 : dec method_10_code 581 = some (.invokevirtual 14, 584, 0, 0) := by decide +kernel
theorem e_98_584 : dec method_10_code 584 = some (.istore 7, 586, 7, 0) := by decide +kernel
theorem e_98_586 : dec method_10_code 586 = some (.aload_n 0, 587, 0, 0) := by decide +kernel
theorem e_98_587 : dec method_10_code 587 = some (.bipush 9, 589, 0, 9) := by decide +kernel
theorem e_98_589 : dec method_10_code 589 = some (.invokevirtual 14, 592, 0, 0) := by decide +kernel
theorem e_98_592 : dec method_10_code 592 = some (.istore 8, 594, 8, 0) := by decide +kernel
theorem e_98_594 : dec method_10_code 594 = some (.aload_n 0, 595, 0, 0) := by decide +kernel
theorem e_98_595 : dec method_10_code 595 = some (.iload 4, 597, 4, 0) := by decide +kernel
theorem e_98_597 : dec method_10_code 597 = some (.iload 6, 599, 6, 0) := by decide +kernel
theorem e_98_599 : dec method_10_code 599 = some (.invokevirtual 49, 602, 0, 0) := by decide +kernel
theorem e_98_602 : dec method_10_code 602 = some (.iload 7, 604, 7, 0) := by decide +kernel
theorem e_98_604 : dec method_10_code 604 = some (.if_icmp .ne 32, 607, 636, 0) := by decide +kernel
theorem e_98_607 : dec method_10_code 607 = some (.aload_n 0, 608, 0, 0) := by decide +kernel
theorem e_98_608 : dec method_10_code 608 = some (.bipush 12, 610, 0, 12) := by decide +kernel
theorem e_98_610 : dec method_10_code 610 = some (.iload 4, 612, 4, 0) := by decide +kernel
theorem e_98_612 : dec method_10_code 612 = some (.iadd, 613, 0, 0) := by decide +kernel
theorem e_98_613 : dec method_10_code 613 = some (.invokevirtual 14, 616, 0, 0) := by decide +kernel
theorem e_98_616 : dec method_10_code 616 = some (.iload 6, 618, 6, 0) := by decide +kernel
theorem e_98_618 : dec method_10_code 618 = some (.if_icmp .ne 18, 621, 636, 0) := by decide +kernel
theorem e_98_621 : dec method_10_code 621 = some (.aload_n 0, 622, 0, 0) := by decide +kernel
theorem e_98_622 : dec method_10_code 622 = some (.bipush 9, 624, 0, 9) := by decide +kernel
theorem e_98_624 : dec method_10_code 624 = some (.invokevirtual 14, 627, 0, 0) := by decide +kernel
theorem e_98_627 : dec method_10_code 627 = some (.iload 8, 629, 8, 0) := by decide +kernel
theorem e_98_629 : dec method_10_code 629 = some (.if_icmp .ne 7, 632, 636, 0) := by decide +kernel
theorem e_98_632 : dec method_10_code 632 = some (.iconst 1, 633, 0, 1) := by decide +kernel
theorem e_98_633 : dec method_10_code 633 = some (.goto 5, 636, 638, 0) := by decide +kernel
theorem e_98_636 : dec method_10_code 636 = some (.bipush (-9), 638, 0, (-9)) := by decide +kernel
theorem e_98_638 : dec method_10_code 638 = some (.ireturn, 639, 0, 0) := by decide +kernel
