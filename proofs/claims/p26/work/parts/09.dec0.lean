/-! the methods decoded -/
theorem e_0_0 : dec prog_2_method_1_code 0 = some (.aload_n 0, 1, 0, 0) := by decide +kernel
theorem e_0_1 : dec prog_2_method_1_code 1 = some (.invokespecial 3, 4, 0, 0) := by decide +kernel
theorem e_0_4 : dec prog_2_method_1_code 4 = some (.aload_n 0, 5, 0, 0) := by decide +kernel
theorem e_0_5 : dec prog_2_method_1_code 5 = some (.bipush 6, 7, 0, 6) := by decide +kernel
theorem e_0_7 : dec prog_2_method_1_code 7 = some (.newarray .int, 9, 0, 0) := by decide +kernel
theorem e_0_9 : dec prog_2_method_1_code 9 = some (.putfield 9, 12, 0, 0) := by decide +kernel
theorem e_0_12 : dec prog_2_method_1_code 12 = some (.aload_n 0, 13, 0, 0) := by decide +kernel
theorem e_0_13 : dec prog_2_method_1_code 13 = some (.new 15, 16, 0, 0) := by decide +kernel
theorem e_0_16 : dec prog_2_method_1_code 16 = some (.dup, 17, 0, 0) := by decide +kernel
theorem e_0_17 : dec prog_2_method_1_code 17 = some (.invokespecial 17, 20, 0, 0) := by decide +kernel
theorem e_0_20 : dec prog_2_method_1_code 20 = some (.putfield 18, 23, 0, 0) := by decide +kernel
theorem e_0_23 : dec prog_2_method_1_code 23 = some (.aload_n 0, 24, 0, 0) := by decide +kernel
theorem e_0_24 : dec prog_2_method_1_code 24 = some (.new 22, 27, 0, 0) := by decide +kernel
theorem e_0_27 : dec prog_2_method_1_code 27 = some (.dup, 28, 0, 0) := by decide +kernel
theorem e_0_28 : dec prog_2_method_1_code 28 = some (.invokespecial 24, 31, 0, 0) := by decide +kernel
theorem e_0_31 : dec prog_2_method_1_code 31 = some (.putfield 25, 34, 0, 0) := by decide +kernel
theorem e_0_34 : dec prog_2_method_1_code 34 = some (.aload_n 0, 35, 0, 0) := by decide +kernel
theorem e_0_35 : dec prog_2_method_1_code 35 = some (.new 29, 38, 0, 0) := by decide +kernel
theorem e_0_38 : dec prog_2_method_1_code 38 = some (.dup, 39, 0, 0) := by decide +kernel
theorem e_0_39 : dec prog_2_method_1_code 39 = some (.invokespecial 31, 42, 0, 0) := by decide +kernel
theorem e_0_42 : dec prog_2_method_1_code 42 = some (.putfield 32, 45, 0, 0) := by decide +kernel
theorem e_0_45 : dec prog_2_method_1_code 45 = some (.getstatic 36, 48, 0, 0) := by decide +kernel
theorem e_0_48 : dec prog_2_method_1_code 48 = some (.iconst 0, 49, 0, 0) := by decide +kernel
theorem e_0_49 : dec prog_2_method_1_code 49 = some (.aload_n 0, 50, 0, 0) := by decide +kernel
theorem e_0_50 : dec prog_2_method_1_code 50 = some (.getfield 9, 53, 0, 0) := by decide +kernel
theorem e_0_53 : dec prog_2_method_1_code 53 = some (.iconst 0, 54, 0, 0) := by decide +kernel
theorem e_0_54 : dec prog_2_method_1_code 54 = some (.bipush 6, 56, 0, 6) := by decide +kernel
theorem e_0_56 : dec prog_2_method_1_code 56 = some (.invokestatic 39, 59, 0, 0) := by decide +kernel
theorem e_0_59 : dec prog_2_method_1_code 59 = some (.return_, 60, 0, 0) := by decide +kernel
theorem E_0 : dec prog_2_method_1_code 0 = some (.aload_n 0, 1, 0, 0) ∧ dec prog_2_method_1_code 1 = some (.invokespecial 3, 4, 0, 0) ∧ dec prog_2_method_1_code 4 = some (.aload_n 0, 5, 0, 0) ∧ dec prog_2_method_1_code 5 = some (.bipush 6, 7, 0, 6) ∧ dec prog_2_method_1_code 7 = some (.newarray .int, 9, 0, 0) ∧ dec prog_2_method_1_code 9 = some (.putfield 9, 12, 0, 0) ∧ dec prog_2_method_1_code 12 = some (.aload_n 0, 13, 0, 0) ∧ dec prog_2_method_1_code 13 = some (.new 15, 16, 0, 0) ∧ dec prog_2_method_1_code 16 = some (.dup, 17, 0, 0) ∧ dec prog_2_method_1_code 17 = some (.invokespecial 17, 20, 0, 0) ∧ dec prog_2_method_1_code 20 = some (.putfield 18, 23, 0, 0) ∧ dec prog_2_method_1_code 23 = some (.aload_n 0, 24, 0, 0) ∧ dec prog_2_method_1_code 24 = some (.new 22, 27, 0, 0) ∧ dec prog_2_method_1_code 27 = some (.dup, 28, 0, 0) ∧ dec prog_2_method_1_code 28 = some (.invokespecial 24, 31, 0, 0) ∧ dec prog_2_method_1_code 31 = some (.putfield 25, 34, 0, 0) ∧ dec prog_2_method_1_code 34 = some (.aload_n 0, 35, 0, 0) ∧ dec prog_2_method_1_code 35 = some (.new 29, 38, 0, 0) ∧ dec prog_2_method_1_code 38 = some (.dup, 39, 0, 0) ∧ dec prog_2_method_1_code 39 = some (.invokespecial 31, 42, 0, 0) ∧ dec prog_2_method_1_code 42 = some (.putfield 32, 45, 0, 0) ∧ dec prog_2_method_1_code 45 = some (.getstatic 36, 48, 0, 0) ∧ dec prog_2_method_1_code 48 = some (.iconst 0, 49, 0, 0) ∧ dec prog_2_method_1_code 49 = some (.aload_n 0, 50, 0, 0) ∧ dec prog_2_method_1_code 50 = some (.getfield 9, 53, 0, 0) ∧ dec prog_2_method_1_code 53 = some (.iconst 0, 54, 0, 0) ∧ dec prog_2_method_1_code 54 = some (.bipush 6, 56, 0, 6) ∧ dec prog_2_method_1_code 56 = some (.invokestatic 39, 59, 0, 0) ∧ dec prog_2_method_1_code 59 = some (.return_, 60, 0, 0) := ⟨e_0_0, e_0_1, e_0_4, e_0_5, e_0_7, e_0_9, e_0_12, e_0_13, e_0_16, e_0_17, e_0_20, e_0_23, e_0_24, e_0_27, e_0_28, e_0_31, e_0_34, e_0_35, e_0_38, e_0_39, e_0_42, e_0_45, e_0_48, e_0_49, e_0_50, e_0_53, e_0_54, e_0_56, e_0_59⟩
theorem e_1_0 : dec prog_2_method_2_code 0 = some (.aload_n 1, 1, 1, 0) := by decide +kernel
theorem e_1_1 : dec prog_2_method_2_code 1 = some (.getfield 9, 4, 0, 0) := by decide +kernel
theorem e_1_4 : dec prog_2_method_2_code 4 = some (.iconst 0, 5, 0, 0) := by decide +kernel
theorem e_1_5 : dec prog_2_method_2_code 5 = some (.aload_n 0, 6, 0, 0) := by decide +kernel
theorem e_1_6 : dec prog_2_method_2_code 6 = some (.getfield 9, 9, 0, 0) := by decide +kernel
theorem e_1_9 : dec prog_2_method_2_code 9 = some (.iconst 0, 10, 0, 0) := by decide +kernel
theorem e_1_10 : dec prog_2_method_2_code 10 = some (.bipush 6, 12, 0, 6) := by decide +kernel
theorem e_1_12 : dec prog_2_method_2_code 12 = some (.invokestatic 39, 15, 0, 0) := by decide +kernel
theorem e_1_15 : dec prog_2_method_2_code 15 = some (.aload_n 0, 16, 0, 0) := by decide +kernel
theorem e_1_16 : dec prog_2_method_2_code 16 = some (.getfield 18, 19, 0, 0) := by decide +kernel
theorem e_1_19 : dec prog_2_method_2_code 19 = some (.aload_n 1, 20, 1, 0) := by decide +kernel
theorem e_1_20 : dec prog_2_method_2_code 20 = some (.getfield 18, 23, 0, 0) := by decide +kernel
theorem e_1_23 : dec prog_2_method_2_code 23 = some (.invokevirtual 45, 26, 0, 0) := by decide +kernel
theorem e_1_26 : dec prog_2_method_2_code 26 = some (.aload_n 0, 27, 0, 0) := by decide +kernel
theorem e_1_27 : dec prog_2_method_2_code 27 = some (.getfield 25, 30, 0, 0) := by decide +kernel
theorem e_1_30 : dec prog_2_method_2_code 30 = some (.aload_n 1, 31, 1, 0) := by decide +kernel
theorem e_1_31 : dec prog_2_method_2_code 31 = some (.getfield 25, 34, 0, 0) := by decide +kernel
theorem e_1_34 : dec prog_2_method_2_code 34 = some (.invokevirtual 49, 37, 0, 0) := by decide +kernel
theorem e_1_37 : dec prog_2_method_2_code 37 = some (.aload_n 0, 38, 0, 0) := by decide +kernel
theorem e_1_38 : dec prog_2_method_2_code 38 = some (.getfield 32, 41, 0, 0) := by decide +kernel
theorem e_1_41 : dec prog_2_method_2_code 41 = some (.aload_n 1, 42, 1, 0) := by decide +kernel
theorem e_1_42 : dec prog_2_method_2_code 42 = some (.getfield 32, 45, 0, 0) := by decide +kernel
theorem e_1_45 : dec prog_2_method_2_code 45 = some (.invokevirtual 52, 48, 0, 0) := by decide +kernel
theorem e_1_48 : dec prog_2_method_2_code 48 = some (.aload_n 0, 49, 0, 0) := by decide +kernel
theorem e_1_49 : dec prog_2_method_2_code 49 = some (.aload_n 1, 50, 1, 0) := by decide +kernel
theorem e_1_50 : dec prog_2_method_2_code 50 = some (.getfield 55, 53, 0, 0) := by decide +kernel
theorem e_1_53 : dec prog_2_method_2_code 53 = some (.putfield 55, 56, 0, 0) := by decide +kernel
theorem e_1_56 : dec prog_2_method_2_code 56 = some (.aload_n 0, 57, 0, 0) := by decide +kernel
theorem e_1_57 : dec prog_2_method_2_code 57 = some (.aload_n 1, 58, 1, 0) := by decide +kernel
theorem e_1_58 : dec prog_2_method_2_code 58 = some (.getfield 59, 61, 0, 0) := by decide +kernel
theorem e_1_61 : dec prog_2_method_2_code 61 = some (.putfield 59, 64, 0, 0) := by decide +kernel
theorem e_1_64 : dec prog_2_method_2_code 64 = some (.aload_n 0, 65, 0, 0) := by decide +kernel
theorem e_1_65 : dec prog_2_method_2_code 65 = some (.aload_n 1, 66, 1, 0) := by decide +kernel
theorem e_1_66 : dec prog_2_method_2_code 66 = some (.getfield 62, 69, 0, 0) := by decide +kernel
theorem e_1_69 : dec prog_2_method_2_code 69 = some (.putfield 62, 72, 0, 0) := by decide +kernel
theorem e_1_72 : dec prog_2_method_2_code 72 = some (.aload_n 0, 73, 0, 0) := by decide +kernel
theorem e_1_73 : dec prog_2_method_2_code 73 = some (.aload_n 1, 74, 1, 0) := by decide +kernel
theorem e_1_74 : dec prog_2_method_2_code 74 = some (.getfield 65, 77, 0, 0) := by decide +kernel
theorem e_1_77 : dec prog_2_method_2_code 77 = some (.putfield 65, 80, 0, 0) := by decide +kernel
theorem e_1_80 : dec prog_2_method_2_code 80 = some (.aload_n 0, 81, 0, 0) := by decide +kernel
theorem e_1_81 : dec prog_2_method_2_code 81 = some (.aload_n 1, 82, 1, 0) := by decide +kernel
theorem e_1_82 : dec prog_2_method_2_code 82 = some (.getfield 68, 85, 0, 0) := by decide +kernel
theorem e_1_85 : dec prog_2_method_2_code 85 = some (.putfield 68, 88, 0, 0) := by decide +kernel
theorem e_1_88 : dec prog_2_method_2_code 88 = some (.aload_n 0, 89, 0, 0) := by decide +kernel
theorem e_1_89 : dec prog_2_method_2_code 89 = some (.aload_n 1, 90, 1, 0) := by decide +kernel
theorem e_1_90 : dec prog_2_method_2_code 90 = some (.getfield 71, 93, 0, 0) := by decide +kernel
theorem e_1_93 : dec prog_2_method_2_code 93 = some (.putfield 71, 96, 0, 0) := by decide +kernel
theorem e_1_96 : dec prog_2_method_2_code 96 = some (.aload_n 0, 97, 0, 0) := by decide +kernel
theorem e_1_97 : dec prog_2_method_2_code 97 = some (.aload_n 1, 98, 1, 0) := by decide +kernel
theorem e_1_98 : dec prog_2_method_2_code 98 = some (.getfield 74, 101, 0, 0) := by decide +kernel
theorem e_1_101 : dec prog_2_method_2_code 101 = some (.putfield 74, 104, 0, 0) := by decide +kernel
theorem e_1_104 : dec prog_2_method_2_code 104 = some (.return_, 105, 0, 0) := by decide +kernel
theorem E_1 : dec prog_2_method_2_code 0 = some (.aload_n 1, 1, 1, 0) ∧ dec prog_2_method_2_code 1 = some (.getfield 9, 4, 0, 0) ∧ dec prog_2_method_2_code 4 = some (.iconst 0, 5, 0, 0) ∧ dec prog_2_method_2_code 5 = some (.aload_n 0, 6, 0, 0) ∧ dec prog_2_method_2_code 6 = some (.getfield 9, 9, 0, 0) ∧ dec prog_2_method_2_code 9 = some (.iconst 0, 10, 0, 0) ∧ dec prog_2_method_2_code 10 = some (.bipush 6, 12, 0, 6) ∧ dec prog_2_method_2_code 12 = some (.invokestatic 39, 15, 0, 0) ∧ dec prog_2_method_2_code 15 = some (.aload_n 0, 16, 0, 0) ∧ dec prog_2_method_2_code 16 = some (.getfield 18, 19, 0, 0) ∧ dec prog_2_method_2_code 19 = some (.aload_n 1, 20, 1, 0) ∧ dec prog_2_method_2_code 20 = some (.getfield 18, 23, 0, 0) ∧ dec prog_2_method_2_code 23 = some (.invokevirtual 45, 26, 0, 0) ∧ dec prog_2_method_2_code 26 = some (.aload_n 0, 27, 0, 0) ∧ dec prog_2_method_2_code 27 = some (.getfield 25, 30, 0, 0) ∧ dec prog_2_method_2_code 30 = some (.aload_n 1, 31, 1, 0) ∧ dec prog_2_method_2_code 31 = some (.getfield 25, 34, 0, 0) ∧ dec prog_2_method_2_code 34 = some (.invokevirtual 49, 37, 0, 0) ∧ dec prog_2_method_2_code 37 = some (.aload_n 0, 38, 0, 0) ∧ dec prog_2_method_2_code 38 = some (.getfield 32, 41, 0, 0) ∧ dec prog_2_method_2_code 41 = some (.aload_n 1, 42, 1, 0) ∧ dec prog_2_method_2_code 42 = some (.getfield 32, 45, 0, 0) ∧ dec prog_2_method_2_code 45 = some (.invokevirtual 52, 48, 0, 0) ∧ dec prog_2_method_2_code 48 = some (.aload_n 0, 49, 0, 0) ∧ dec prog_2_method_2_code 49 = some (.aload_n 1, 50, 1, 0) ∧ dec prog_2_method_2_code 50 = some (.getfield 55, 53, 0, 0) ∧ dec prog_2_method_2_code 53 = some (.putfield 55, 56, 0, 0) ∧ dec prog_2_method_2_code 56 = some (.aload_n 0, 57, 0, 0) ∧ dec prog_2_method_2_code 57 = some (.aload_n 1, 58, 1, 0) ∧ dec prog_2_method_2_code 58 = some (.getfield 59, 61, 0, 0) ∧ dec prog_2_method_2_code 61 = some (.putfield 59, 64, 0, 0) ∧ dec prog_2_method_2_code 64 = some (.aload_n 0, 65, 0, 0) ∧ dec prog_2_method_2_code 65 = some (.aload_n 1, 66, 1, 0) ∧ dec prog_2_method_2_code 66 = some (.getfield 62, 69, 0, 0) ∧ dec prog_2_method_2_code 69 = some (.putfield 62, 72, 0, 0) ∧ dec prog_2_method_2_code 72 = some (.aload_n 0, 73, 0, 0) ∧ dec prog_2_method_2_code 73 = some (.aload_n 1, 74, 1, 0) ∧ dec prog_2_method_2_code 74 = some (.getfield 65, 77, 0, 0) ∧ dec prog_2_method_2_code 77 = some (.putfield 65, 80, 0, 0) ∧ dec prog_2_method_2_code 80 = some (.aload_n 0, 81, 0, 0) ∧ dec prog_2_method_2_code 81 = some (.aload_n 1, 82, 1, 0) ∧ dec prog_2_method_2_code 82 = some (.getfield 68, 85, 0, 0) ∧ dec prog_2_method_2_code 85 = some (.putfield 68, 88, 0, 0) ∧ dec prog_2_method_2_code 88 = some (.aload_n 0, 89, 0, 0) ∧ dec prog_2_method_2_code 89 = some (.aload_n 1, 90, 1, 0) ∧ dec prog_2_method_2_code 90 = some (.getfield 71, 93, 0, 0) ∧ dec prog_2_method_2_code 93 = some (.putfield 71, 96, 0, 0) ∧ dec prog_2_method_2_code 96 = some (.aload_n 0, 97, 0, 0) ∧ dec prog_2_method_2_code 97 = some (.aload_n 1, 98, 1, 0) ∧ dec prog_2_method_2_code 98 = some (.getfield 74, 101, 0, 0) ∧ dec prog_2_method_2_code 101 = some (.putfield 74, 104, 0, 0) ∧ dec prog_2_method_2_code 104 = some (.return_, 105, 0, 0) := ⟨e_1_0, e_1_1, e_1_4, e_1_5, e_1_6, e_1_9, e_1_10, e_1_12, e_1_15, e_1_16, e_1_19, e_1_20, e_1_23, e_1_26, e_1_27, e_1_30, e_1_31, e_1_34, e_1_37, e_1_38, e_1_41, e_1_42, e_1_45, e_1_48, e_1_49, e_1_50, e_1_53, e_1_56, e_1_57, e_1_58, e_1_61, e_1_64, e_1_65, e_1_66, e_1_69, e_1_72, e_1_73, e_1_74, e_1_77, e_1_80, e_1_81, e_1_82, e_1_85, e_1_88, e_1_89, e_1_90, e_1_93, e_1_96, e_1_97, e_1_98, e_1_101, e_1_104⟩
theorem e_2_0 : dec prog_2_method_3_code 0 = some (.iload_n 1, 1, 1, 0) := by decide +kernel
theorem e_2_1 : dec prog_2_method_3_code 1 = some (.ifCond .lt 9, 4, 10, 0) := by decide +kernel
theorem e_2_4 : dec prog_2_method_3_code 4 = some (.iload_n 1, 5, 1, 0) := by decide +kernel
theorem e_2_5 : dec prog_2_method_3_code 5 = some (.bipush 6, 7, 0, 6) := by decide +kernel
theorem e_2_7 : dec prog_2_method_3_code 7 = some (.if_icmp .lt 6, 10, 13, 0) := by decide +kernel
theorem e_2_10 : dec prog_2_method_3_code 10 = some (.bipush (-2), 12, 0, (-2)) := by decide +kernel
theorem e_2_12 : dec prog_2_method_3_code 12 = some (.ireturn, 13, 0, 0) := by decide +kernel
theorem e_2_13 : dec prog_2_method_3_code 13 = some (.iload_n 2, 14, 2, 0) := by decide +kernel
theorem e_2_14 : dec prog_2_method_3_code 14 = some (.getstatic 77, 17, 0, 0) := by decide +kernel
theorem e_2_17 : dec prog_2_method_3_code 17 = some (.iload_n 1, 18, 1, 0) := by decide +kernel
theorem e_2_18 : dec prog_2_method_3_code 18 = some (.iaload, 19, 0, 0) := by decide +kernel
theorem e_2_19 : dec prog_2_method_3_code 19 = some (.if_icmp .lt 12, 22, 31, 0) := by decide +kernel
theorem e_2_22 : dec prog_2_method_3_code 22 = some (.iload_n 2, 23, 2, 0) := by decide +kernel
theorem e_2_23 : dec prog_2_method_3_code 23 = some (.getstatic 80, 26, 0, 0) := by decide +kernel
theorem e_2_26 : dec prog_2_method_3_code 26 = some (.iload_n 1, 27, 1, 0) := by decide +kernel
theorem e_2_27 : dec prog_2_method_3_code 27 = some (.iaload, 28, 0, 0) := by decide +kernel
theorem e_2_28 : dec prog_2_method_3_code 28 = some (.if_icmp .le 6, 31, 34, 0) := by decide +kernel
theorem e_2_31 : dec prog_2_method_3_code 31 = some (.bipush (-2), 33, 0, (-2)) := by decide +kernel
theorem e_2_33 : dec prog_2_method_3_code 33 = some (.ireturn, 34, 0, 0) := by decide +kernel
theorem e_2_34 : dec prog_2_method_3_code 34 = some (.aload_n 0, 35, 0, 0) := by decide +kernel
theorem e_2_35 : dec prog_2_method_3_code 35 = some (.getfield 9, 38, 0, 0) := by decide +kernel
theorem e_2_38 : dec prog_2_method_3_code 38 = some (.iload_n 1, 39, 1, 0) := by decide +kernel
theorem e_2_39 : dec prog_2_method_3_code 39 = some (.iaload, 40, 0, 0) := by decide +kernel
theorem e_2_40 : dec prog_2_method_3_code 40 = some (.istore_n 3, 41, 3, 0) := by decide +kernel
theorem e_2_41 : dec prog_2_method_3_code 41 = some (.aload_n 0, 42, 0, 0) := by decide +kernel
theorem e_2_42 : dec prog_2_method_3_code 42 = some (.getfield 9, 45, 0, 0) := by decide +kernel
theorem e_2_45 : dec prog_2_method_3_code 45 = some (.iload_n 1, 46, 1, 0) := by decide +kernel
theorem e_2_46 : dec prog_2_method_3_code 46 = some (.iload_n 2, 47, 2, 0) := by decide +kernel
theorem e_2_47 : dec prog_2_method_3_code 47 = some (.iastore, 48, 0, 0) := by decide +kernel
theorem e_2_48 : dec prog_2_method_3_code 48 = some (.iload_n 3, 49, 3, 0) := by decide +kernel
theorem e_2_49 : dec prog_2_method_3_code 49 = some (.ireturn, 50, 0, 0) := by decide +kernel
theorem E_2 : dec prog_2_method_3_code 0 = some (.iload_n 1, 1, 1, 0) ∧ dec prog_2_method_3_code 1 = some (.ifCond .lt 9, 4, 10, 0) ∧ dec prog_2_method_3_code 4 = some (.iload_n 1, 5, 1, 0) ∧ dec prog_2_method_3_code 5 = some (.bipush 6, 7, 0, 6) ∧ dec prog_2_method_3_code 7 = some (.if_icmp .lt 6, 10, 13, 0) ∧ dec prog_2_method_3_code 10 = some (.bipush (-2), 12, 0, (-2)) ∧ dec prog_2_method_3_code 12 = some (.ireturn, 13, 0, 0) ∧ dec prog_2_method_3_code 13 = some (.iload_n 2, 14, 2, 0) ∧ dec prog_2_method_3_code 14 = some (.getstatic 77, 17, 0, 0) ∧ dec prog_2_method_3_code 17 = some (.iload_n 1, 18, 1, 0) ∧ dec prog_2_method_3_code 18 = some (.iaload, 19, 0, 0) ∧ dec prog_2_method_3_code 19 = some (.if_icmp .lt 12, 22, 31, 0) ∧ dec prog_2_method_3_code 22 = some (.iload_n 2, 23, 2, 0) ∧ dec prog_2_method_3_code 23 = some (.getstatic 80, 26, 0, 0) ∧ dec prog_2_method_3_code 26 = some (.iload_n 1, 27, 1, 0) ∧ dec prog_2_method_3_code 27 = some (.iaload, 28, 0, 0) ∧ dec prog_2_method_3_code 28 = some (.if_icmp .le 6, 31, 34, 0) ∧ dec prog_2_method_3_code 31 = some (.bipush (-2), 33, 0, (-2)) ∧ dec prog_2_method_3_code 33 = some (.ireturn, 34, 0, 0) ∧ dec prog_2_method_3_code 34 = some (.aload_n 0, 35, 0, 0) ∧ dec prog_2_method_3_code 35 = some (.getfield 9, 38, 0, 0) ∧ dec prog_2_method_3_code 38 = some (.iload_n 1, 39, 1, 0) ∧ dec prog_2_method_3_code 39 = some (.iaload, 40, 0, 0) ∧ dec prog_2_method_3_code 40 = some (.istore_n 3, 41, 3, 0) ∧ dec prog_2_method_3_code 41 = some (.aload_n 0, 42, 0, 0) ∧ dec prog_2_method_3_code 42 = some (.getfield 9, 45, 0, 0) ∧ dec prog_2_method_3_code 45 = some (.iload_n 1, 46, 1, 0) ∧ dec prog_2_method_3_code 46 = some (.iload_n 2, 47, 2, 0) ∧ dec prog_2_method_3_code 47 = some (.iastore, 48, 0, 0) ∧ dec prog_2_method_3_code 48 = some (.iload_n 3, 49, 3, 0) ∧ dec prog_2_method_3_code 49 = some (.ireturn, 50, 0, 0) := ⟨e_2_0, e_2_1, e_2_4, e_2_5, e_2_7, e_2_10, e_2_12, e_2_13, e_2_14, e_2_17, e_2_18, e_2_19, e_2_22, e_2_23, e_2_26, e_2_27, e_2_28, e_2_31, e_2_33, e_2_34, e_2_35, e_2_38, e_2_39, e_2_40, e_2_41, e_2_42, e_2_45, e_2_46, e_2_47, e_2_48, e_2_49⟩
theorem e_3_0 : dec prog_2_method_4_code 0 = some (.iload_n 1, 1, 1, 0) := by decide +kernel
theorem e_3_1 : dec prog_2_method_4_code 1 = some (.ifCond .lt 34, 4, 35, 0) := by decide +kernel
theorem e_3_4 : dec prog_2_method_4_code 4 = some (.iload_n 1, 5, 1, 0) := by decide +kernel
theorem e_3_5 : dec prog_2_method_4_code 5 = some (.iconst 2, 6, 0, 2) := by decide +kernel
theorem e_3_6 : dec prog_2_method_4_code 6 = some (.if_icmp .gt 29, 9, 35, 0) := by decide +kernel
theorem e_3_9 : dec prog_2_method_4_code 9 = some (.iload_n 2, 10, 2, 0) := by decide +kernel
theorem e_3_10 : dec prog_2_method_4_code 10 = some (.iconst 1, 11, 0, 1) := by decide +kernel
theorem e_3_11 : dec prog_2_method_4_code 11 = some (.if_icmp .lt 24, 14, 35, 0) := by decide +kernel
theorem e_3_14 : dec prog_2_method_4_code 14 = some (.iload_n 2, 15, 2, 0) := by decide +kernel
theorem e_3_15 : dec prog_2_method_4_code 15 = some (.bipush 60, 17, 0, 60) := by decide +kernel
theorem e_3_17 : dec prog_2_method_4_code 17 = some (.if_icmp .gt 18, 20, 35, 0) := by decide +kernel
theorem e_3_20 : dec prog_2_method_4_code 20 = some (.iload_n 3, 21, 3, 0) := by decide +kernel
theorem e_3_21 : dec prog_2_method_4_code 21 = some (.iconst 1, 22, 0, 1) := by decide +kernel
theorem e_3_22 : dec prog_2_method_4_code 22 = some (.if_icmp .lt 13, 25, 35, 0) := by decide +kernel
theorem e_3_25 : dec prog_2_method_4_code 25 = some (.iload_n 3, 26, 3, 0) := by decide +kernel
theorem e_3_26 : dec prog_2_method_4_code 26 = some (.bipush 99, 28, 0, 99) := by decide +kernel
theorem e_3_28 : dec prog_2_method_4_code 28 = some (.if_icmp .gt 7, 31, 35, 0) := by decide +kernel
theorem e_3_31 : dec prog_2_method_4_code 31 = some (.iconst 1, 32, 0, 1) := by decide +kernel
theorem e_3_32 : dec prog_2_method_4_code 32 = some (.goto 4, 35, 36, 0) := by decide +kernel
theorem e_3_35 : dec prog_2_method_4_code 35 = some (.iconst 0, 36, 0, 0) := by decide +kernel
theorem e_3_36 : dec prog_2_method_4_code 36 = some (.istore 4, 38, 4, 0) := by decide +kernel
theorem e_3_38 : dec prog_2_method_4_code 38 = some (.iload 4, 40, 4, 0) := by decide +kernel
theorem e_3_40 : dec prog_2_method_4_code 40 = some (.ifCond .ne 6, 43, 46, 0) := by decide +kernel
theorem e_3_43 : dec prog_2_method_4_code 43 = some (.bipush (-2), 45, 0, (-2)) := by decide +kernel
theorem e_3_45 : dec prog_2_method_4_code 45 = some (.ireturn, 46, 0, 0) := by decide +kernel
theorem e_3_46 : dec prog_2_method_4_code 46 = some (.aload_n 0, 47, 0, 0) := by decide +kernel
theorem e_3_47 : dec prog_2_method_4_code 47 = some (.getfield 18, 50, 0, 0) := by decide +kernel
theorem e_3_50 : dec prog_2_method_4_code 50 = some (.getfield 83, 53, 0, 0) := by decide +kernel
theorem e_3_53 : dec prog_2_method_4_code 53 = some (.bipush 24, 55, 0, 24) := by decide +kernel
theorem e_3_55 : dec prog_2_method_4_code 55 = some (.if_icmp .lt 8, 58, 63, 0) := by decide +kernel
theorem e_3_58 : dec prog_2_method_4_code 58 = some (.bipush (-4), 60, 0, (-4)) := by decide +kernel
theorem e_3_60 : dec prog_2_method_4_code 60 = some (.goto 13, 63, 73, 0) := by decide +kernel
theorem e_3_63 : dec prog_2_method_4_code 63 = some (.aload_n 0, 64, 0, 0) := by decide +kernel
theorem e_3_64 : dec prog_2_method_4_code 64 = some (.getfield 18, 67, 0, 0) := by decide +kernel
theorem e_3_67 : dec prog_2_method_4_code 67 = some (.iload_n 1, 68, 1, 0) := by decide +kernel
theorem e_3_68 : dec prog_2_method_4_code 68 = some (.iload_n 2, 69, 2, 0) := by decide +kernel
theorem e_3_69 : dec prog_2_method_4_code 69 = some (.iload_n 3, 70, 3, 0) := by decide +kernel
theorem e_3_70 : dec prog_2_method_4_code 70 = some (.invokevirtual 86, 73, 0, 0) := by decide +kernel
theorem e_3_73 : dec prog_2_method_4_code 73 = some (.ireturn, 74, 0, 0) := by decide +kernel
theorem E_3 : dec prog_2_method_4_code 0 = some (.iload_n 1, 1, 1, 0) ∧ dec prog_2_method_4_code 1 = some (.ifCond .lt 34, 4, 35, 0) ∧ dec prog_2_method_4_code 4 = some (.iload_n 1, 5, 1, 0) ∧ dec prog_2_method_4_code 5 = some (.iconst 2, 6, 0, 2) ∧ dec prog_2_method_4_code 6 = some (.if_icmp .gt 29, 9, 35, 0) ∧ dec prog_2_method_4_code 9 = some (.iload_n 2, 10, 2, 0) ∧ dec prog_2_method_4_code 10 = some (.iconst 1, 11, 0, 1) ∧ dec prog_2_method_4_code 11 = some (.if_icmp .lt 24, 14, 35, 0) ∧ dec prog_2_method_4_code 14 = some (.iload_n 2, 15, 2, 0) ∧ dec prog_2_method_4_code 15 = some (.bipush 60, 17, 0, 60) ∧ dec prog_2_method_4_code 17 = some (.if_icmp .gt 18, 20, 35, 0) ∧ dec prog_2_method_4_code 20 = some (.iload_n 3, 21, 3, 0) ∧ dec prog_2_method_4_code 21 = some (.iconst 1, 22, 0, 1) ∧ dec prog_2_method_4_code 22 = some (.if_icmp .lt 13, 25, 35, 0) ∧ dec prog_2_method_4_code 25 = some (.iload_n 3, 26, 3, 0) ∧ dec prog_2_method_4_code 26 = some (.bipush 99, 28, 0, 99) ∧ dec prog_2_method_4_code 28 = some (.if_icmp .gt 7, 31, 35, 0) ∧ dec prog_2_method_4_code 31 = some (.iconst 1, 32, 0, 1) ∧ dec prog_2_method_4_code 32 = some (.goto 4, 35, 36, 0) ∧ dec prog_2_method_4_code 35 = some (.iconst 0, 36, 0, 0) ∧ dec prog_2_method_4_code 36 = some (.istore 4, 38, 4, 0) ∧ dec prog_2_method_4_code 38 = some (.iload 4, 40, 4, 0) ∧ dec prog_2_method_4_code 40 = some (.ifCond .ne 6, 43, 46, 0) ∧ dec prog_2_method_4_code 43 = some (.bipush (-2), 45, 0, (-2)) ∧ dec prog_2_method_4_code 45 = some (.ireturn, 46, 0, 0) ∧ dec prog_2_method_4_code 46 = some (.aload_n 0, 47, 0, 0) ∧ dec prog_2_method_4_code 47 = some (.getfield 18, 50, 0, 0) ∧ dec prog_2_method_4_code 50 = some (.getfield 83, 53, 0, 0) ∧ dec prog_2_method_4_code 53 = some (.bipush 24, 55, 0, 24) ∧ dec prog_2_method_4_code 55 = some (.if_icmp .lt 8, 58, 63, 0) ∧ dec prog_2_method_4_code 58 = some (.bipush (-4), 60, 0, (-4)) ∧ dec prog_2_method_4_code 60 = some (.goto 13, 63, 73, 0) ∧ dec prog_2_method_4_code 63 = some (.aload_n 0, 64, 0, 0) ∧ dec prog_2_method_4_code 64 = some (.getfield 18, 67, 0, 0) ∧ dec prog_2_method_4_code 67 = some (.iload_n 1, 68, 1, 0) ∧ dec prog_2_method_4_code 68 = some (.iload_n 2, 69, 2, 0) ∧ dec prog_2_method_4_code 69 = some (.iload_n 3, 70, 3, 0) ∧ dec prog_2_method_4_code 70 = some (.invokevirtual 86, 73, 0, 0) ∧ dec prog_2_method_4_code 73 = some (.ireturn, 74, 0, 0) := ⟨e_3_0, e_3_1, e_3_4, e_3_5, e_3_6, e_3_9, e_3_10, e_3_11, e_3_14, e_3_15, e_3_17, e_3_20, e_3_21, e_3_22, e_3_25, e_3_26, e_3_28, e_3_31, e_3_32, e_3_35, e_3_36, e_3_38, e_3_40, e_3_43, e_3_45, e_3_46, e_3_47, e_3_50, e_3_53, e_3_55, e_3_58, e_3_60, e_3_63, e_3_64, e_3_67, e_3_68, e_3_69, e_3_70, e_3_73⟩
theorem e_4_0 : dec prog_2_method_5_code 0 = some (.iload_n 1, 1, 1, 0) := by decide +kernel
theorem e_4_1 : dec prog_2_method_5_code 1 = some (.invokestatic 90, 4, 0, 0) := by decide +kernel
theorem e_4_4 : dec prog_2_method_5_code 4 = some (.ifCond .ne 5, 7, 9, 0) := by decide +kernel
theorem e_4_7 : dec prog_2_method_5_code 7 = some (.iconst (-1), 8, 0, (-1)) := by decide +kernel
theorem e_4_8 : dec prog_2_method_5_code 8 = some (.ireturn, 9, 0, 0) := by decide +kernel
theorem e_4_9 : dec prog_2_method_5_code 9 = some (.aload_n 0, 10, 0, 0) := by decide +kernel
theorem e_4_10 : dec prog_2_method_5_code 10 = some (.getfield 18, 13, 0, 0) := by decide +kernel
theorem e_4_13 : dec prog_2_method_5_code 13 = some (.invokevirtual 94, 16, 0, 0) := by decide +kernel
theorem e_4_16 : dec prog_2_method_5_code 16 = some (.ifCond .eq 6, 19, 22, 0) := by decide +kernel
theorem e_4_19 : dec prog_2_method_5_code 19 = some (.bipush (-5), 21, 0, (-5)) := by decide +kernel
theorem e_4_21 : dec prog_2_method_5_code 21 = some (.ireturn, 22, 0, 0) := by decide +kernel
theorem e_4_22 : dec prog_2_method_5_code 22 = some (.aload_n 0, 23, 0, 0) := by decide +kernel
theorem e_4_23 : dec prog_2_method_5_code 23 = some (.getfield 25, 26, 0, 0) := by decide +kernel
theorem e_4_26 : dec prog_2_method_5_code 26 = some (.getfield 98, 29, 0, 0) := by decide +kernel
theorem e_4_29 : dec prog_2_method_5_code 29 = some (.iload_n 1, 30, 1, 0) := by decide +kernel
theorem e_4_30 : dec prog_2_method_5_code 30 = some (.iaload, 31, 0, 0) := by decide +kernel
theorem e_4_31 : dec prog_2_method_5_code 31 = some (.iconst 4, 32, 0, 4) := by decide +kernel
theorem e_4_32 : dec prog_2_method_5_code 32 = some (.if_icmp .lt 6, 35, 38, 0) := by decide +kernel
theorem e_4_35 : dec prog_2_method_5_code 35 = some (.bipush (-4), 37, 0, (-4)) := by decide +kernel
theorem e_4_37 : dec prog_2_method_5_code 37 = some (.ireturn, 38, 0, 0) := by decide +kernel
theorem e_4_38 : dec prog_2_method_5_code 38 = some (.aload_n 0, 39, 0, 0) := by decide +kernel
theorem e_4_39 : dec prog_2_method_5_code 39 = some (.getfield 18, 42, 0, 0) := by decide +kernel
theorem e_4_42 : dec prog_2_method_5_code 42 = some (.invokevirtual 101, 45, 0, 0) := by decide +kernel
theorem e_4_45 : dec prog_2_method_5_code 45 = some (.istore_n 2, 46, 2, 0) := by decide +kernel
theorem e_4_46 : dec prog_2_method_5_code 46 = some (.aload_n 0, 47, 0, 0) := by decide +kernel
theorem e_4_47 : dec prog_2_method_5_code 47 = some (.getfield 25, 50, 0, 0) := by decide +kernel
theorem e_4_50 : dec prog_2_method_5_code 50 = some (.iload_n 1, 51, 1, 0) := by decide +kernel
theorem e_4_51 : dec prog_2_method_5_code 51 = some (.iload_n 2, 52, 2, 0) := by decide +kernel
theorem e_4_52 : dec prog_2_method_5_code 52 = some (.invokevirtual 105, 55, 0, 0) := by decide +kernel
theorem e_4_55 : dec prog_2_method_5_code 55 = some (.iload_n 2, 56, 2, 0) := by decide +kernel
theorem e_4_56 : dec prog_2_method_5_code 56 = some (.ireturn, 57, 0, 0) := by decide +kernel
theorem E_4 : dec prog_2_method_5_code 0 = some (.iload_n 1, 1, 1, 0) ∧ dec prog_2_method_5_code 1 = some (.invokestatic 90, 4, 0, 0) ∧ dec prog_2_method_5_code 4 = some (.ifCond .ne 5, 7, 9, 0) ∧ dec prog_2_method_5_code 7 = some (.iconst (-1), 8, 0, (-1)) ∧ dec prog_2_method_5_code 8 = some (.ireturn, 9, 0, 0) ∧ dec prog_2_method_5_code 9 = some (.aload_n 0, 10, 0, 0) ∧ dec prog_2_method_5_code 10 = some (.getfield 18, 13, 0, 0) ∧ dec prog_2_method_5_code 13 = some (.invokevirtual 94, 16, 0, 0) ∧ dec prog_2_method_5_code 16 = some (.ifCond .eq 6, 19, 22, 0) ∧ dec prog_2_method_5_code 19 = some (.bipush (-5), 21, 0, (-5)) ∧ dec prog_2_method_5_code 21 = some (.ireturn, 22, 0, 0) ∧ dec prog_2_method_5_code 22 = some (.aload_n 0, 23, 0, 0) ∧ dec prog_2_method_5_code 23 = some (.getfield 25, 26, 0, 0) ∧ dec prog_2_method_5_code 26 = some (.getfield 98, 29, 0, 0) ∧ dec prog_2_method_5_code 29 = some (.iload_n 1, 30, 1, 0) ∧ dec prog_2_method_5_code 30 = some (.iaload, 31, 0, 0) ∧ dec prog_2_method_5_code 31 = some (.iconst 4, 32, 0, 4) ∧ dec prog_2_method_5_code 32 = some (.if_icmp .lt 6, 35, 38, 0) ∧ dec prog_2_method_5_code 35 = some (.bipush (-4), 37, 0, (-4)) ∧ dec prog_2_method_5_code 37 = some (.ireturn, 38, 0, 0) ∧ dec prog_2_method_5_code 38 = some (.aload_n 0, 39, 0, 0) ∧ dec prog_2_method_5_code 39 = some (.getfield 18, 42, 0, 0) ∧ dec prog_2_method_5_code 42 = some (.invokevirtual 101, 45, 0, 0) ∧ dec prog_2_method_5_code 45 = some (.istore_n 2, 46, 2, 0) ∧ dec prog_2_method_5_code 46 = some (.aload_n 0, 47, 0, 0) ∧ dec prog_2_method_5_code 47 = some (.getfield 25, 50, 0, 0) ∧ dec prog_2_method_5_code 50 = some (.iload_n 1, 51, 1, 0) ∧ dec prog_2_method_5_code 51 = some (.iload_n 2, 52, 2, 0) ∧ dec prog_2_method_5_code 52 = some (.invokevirtual 105, 55, 0, 0) ∧ dec prog_2_method_5_code 55 = some (.iload_n 2, 56, 2, 0) ∧ dec prog_2_method_5_code 56 = some (.ireturn, 57, 0, 0) := ⟨e_4_0, e_4_1, e_4_4, e_4_7, e_4_8, e_4_9, e_4_10, e_4_13, e_4_16, e_4_19, e_4_21, e_4_22, e_4_23, e_4_26, e_4_29, e_4_30, e_4_31, e_4_32, e_4_35, e_4_37, e_4_38, e_4_39, e_4_42, e_4_45, e_4_46, e_4_47, e_4_50, e_4_51, e_4_52, e_4_55, e_4_56⟩
theorem e_5_0 : dec prog_2_method_6_code 0 = some (.iload_n 1, 1, 1, 0) := by decide +kernel
theorem e_5_1 : dec prog_2_method_6_code 1 = some (.iconst 1, 2, 0, 1) := by decide +kernel
theorem e_5_2 : dec prog_2_method_6_code 2 = some (.if_icmp .lt 9, 5, 11, 0) := by decide +kernel
theorem e_5_5 : dec prog_2_method_6_code 5 = some (.iload_n 1, 6, 1, 0) := by decide +kernel
theorem e_5_6 : dec prog_2_method_6_code 6 = some (.bipush 99, 8, 0, 99) := by decide +kernel
theorem e_5_8 : dec prog_2_method_6_code 8 = some (.if_icmp .le 6, 11, 14, 0) := by decide +kernel
theorem e_5_11 : dec prog_2_method_6_code 11 = some (.bipush (-2), 13, 0, (-2)) := by decide +kernel
theorem e_5_13 : dec prog_2_method_6_code 13 = some (.ireturn, 14, 0, 0) := by decide +kernel
theorem e_5_14 : dec prog_2_method_6_code 14 = some (.aload_n 0, 15, 0, 0) := by decide +kernel
theorem e_5_15 : dec prog_2_method_6_code 15 = some (.getfield 55, 18, 0, 0) := by decide +kernel
theorem e_5_18 : dec prog_2_method_6_code 18 = some (.iload_n 1, 19, 1, 0) := by decide +kernel
theorem e_5_19 : dec prog_2_method_6_code 19 = some (.iadd, 20, 0, 0) := by decide +kernel
theorem e_5_20 : dec prog_2_method_6_code 20 = some (.sipush 999, 23, 0, 999) := by decide +kernel
theorem e_5_23 : dec prog_2_method_6_code 23 = some (.if_icmp .le 6, 26, 29, 0) := by decide +kernel
theorem e_5_26 : dec prog_2_method_6_code 26 = some (.bipush (-4), 28, 0, (-4)) := by decide +kernel
theorem e_5_28 : dec prog_2_method_6_code 28 = some (.ireturn, 29, 0, 0) := by decide +kernel
theorem e_5_29 : dec prog_2_method_6_code 29 = some (.aload_n 0, 30, 0, 0) := by decide +kernel
theorem e_5_30 : dec prog_2_method_6_code 30 = some (.dup, 31, 0, 0) := by decide +kernel
theorem e_5_31 : dec prog_2_method_6_code 31 = some (.getfield 55, 34, 0, 0) := by decide +kernel
theorem e_5_34 : dec prog_2_method_6_code 34 = some (.iload_n 1, 35, 1, 0) := by decide +kernel
theorem e_5_35 : dec prog_2_method_6_code 35 = some (.iadd, 36, 0, 0) := by decide +kernel
theorem e_5_36 : dec prog_2_method_6_code 36 = some (.putfield 55, 39, 0, 0) := by decide +kernel
theorem e_5_39 : dec prog_2_method_6_code 39 = some (.aload_n 0, 40, 0, 0) := by decide +kernel
theorem e_5_40 : dec prog_2_method_6_code 40 = some (.getfield 55, 43, 0, 0) := by decide +kernel
theorem e_5_43 : dec prog_2_method_6_code 43 = some (.ireturn, 44, 0, 0) := by decide +kernel
theorem E_5 : dec prog_2_method_6_code 0 = some (.iload_n 1, 1, 1, 0) ∧ dec prog_2_method_6_code 1 = some (.iconst 1, 2, 0, 1) ∧ dec prog_2_method_6_code 2 = some (.if_icmp .lt 9, 5, 11, 0) ∧ dec prog_2_method_6_code 5 = some (.iload_n 1, 6, 1, 0) ∧ dec prog_2_method_6_code 6 = some (.bipush 99, 8, 0, 99) ∧ dec prog_2_method_6_code 8 = some (.if_icmp .le 6, 11, 14, 0) ∧ dec prog_2_method_6_code 11 = some (.bipush (-2), 13, 0, (-2)) ∧ dec prog_2_method_6_code 13 = some (.ireturn, 14, 0, 0) ∧ dec prog_2_method_6_code 14 = some (.aload_n 0, 15, 0, 0) ∧ dec prog_2_method_6_code 15 = some (.getfield 55, 18, 0, 0) ∧ dec prog_2_method_6_code 18 = some (.iload_n 1, 19, 1, 0) ∧ dec prog_2_method_6_code 19 = some (.iadd, 20, 0, 0) ∧ dec prog_2_method_6_code 20 = some (.sipush 999, 23, 0, 999) ∧ dec prog_2_method_6_code 23 = some (.if_icmp .le 6, 26, 29, 0) ∧ dec prog_2_method_6_code 26 = some (.bipush (-4), 28, 0, (-4)) ∧ dec prog_2_method_6_code 28 = some (.ireturn, 29, 0, 0) ∧ dec prog_2_method_6_code 29 = some (.aload_n 0, 30, 0, 0) ∧ dec prog_2_method_6_code 30 = some (.dup, 31, 0, 0) ∧ dec prog_2_method_6_code 31 = some (.getfield 55, 34, 0, 0) ∧ dec prog_2_method_6_code 34 = some (.iload_n 1, 35, 1, 0) ∧ dec prog_2_method_6_code 35 = some (.iadd, 36, 0, 0) ∧ dec prog_2_method_6_code 36 = some (.putfield 55, 39, 0, 0) ∧ dec prog_2_method_6_code 39 = some (.aload_n 0, 40, 0, 0) ∧ dec prog_2_method_6_code 40 = some (.getfield 55, 43, 0, 0) ∧ dec prog_2_method_6_code 43 = some (.ireturn, 44, 0, 0) := ⟨e_5_0, e_5_1, e_5_2, e_5_5, e_5_6, e_5_8, e_5_11, e_5_13, e_5_14, e_5_15, e_5_18, e_5_19, e_5_20, e_5_23, e_5_26, e_5_28, e_5_29, e_5_30, e_5_31, e_5_34, e_5_35, e_5_36, e_5_39, e_5_40, e_5_43⟩
theorem e_6_0 : dec prog_2_method_7_code 0 = some (.iload_n 1, 1, 1, 0) := by decide +kernel
theorem e_6_1 : dec prog_2_method_7_code 1 = some (.iload_n 2, 2, 2, 0) := by decide +kernel
theorem e_6_2 : dec prog_2_method_7_code 2 = some (.invokestatic 109, 5, 0, 0) := by decide +kernel
theorem e_6_5 : dec prog_2_method_7_code 5 = some (.istore_n 3, 6, 3, 0) := by decide +kernel
theorem e_6_6 : dec prog_2_method_7_code 6 = some (.iload_n 3, 7, 3, 0) := by decide +kernel
theorem e_6_7 : dec prog_2_method_7_code 7 = some (.ifCond .ge 5, 10, 12, 0) := by decide +kernel
theorem e_6_10 : dec prog_2_method_7_code 10 = some (.iload_n 3, 11, 3, 0) := by decide +kernel
theorem e_6_11 : dec prog_2_method_7_code 11 = some (.ireturn, 12, 0, 0) := by decide +kernel
theorem e_6_12 : dec prog_2_method_7_code 12 = some (.aload_n 0, 13, 0, 0) := by decide +kernel
theorem e_6_13 : dec prog_2_method_7_code 13 = some (.getfield 55, 16, 0, 0) := by decide +kernel
theorem e_6_16 : dec prog_2_method_7_code 16 = some (.aload_n 0, 17, 0, 0) := by decide +kernel
theorem e_6_17 : dec prog_2_method_7_code 17 = some (.getfield 9, 20, 0, 0) := by decide +kernel
theorem e_6_20 : dec prog_2_method_7_code 20 = some (.iconst 0, 21, 0, 0) := by decide +kernel
theorem e_6_21 : dec prog_2_method_7_code 21 = some (.iaload, 22, 0, 0) := by decide +kernel
theorem e_6_22 : dec prog_2_method_7_code 22 = some (.if_icmp .ge 8, 25, 30, 0) := by decide +kernel
theorem e_6_25 : dec prog_2_method_7_code 25 = some (.bipush (-5), 27, 0, (-5)) := by decide +kernel
theorem e_6_27 : dec prog_2_method_7_code 27 = some (.goto 9, 30, 36, 0) := by decide +kernel
theorem e_6_30 : dec prog_2_method_7_code 30 = some (.aload_n 0, 31, 0, 0) := by decide +kernel
theorem e_6_31 : dec prog_2_method_7_code 31 = some (.iload_n 1, 32, 1, 0) := by decide +kernel
theorem e_6_32 : dec prog_2_method_7_code 32 = some (.iload_n 2, 33, 2, 0) := by decide +kernel
theorem e_6_33 : dec prog_2_method_7_code 33 = some (.invokevirtual 113, 36, 0, 0) := by decide +kernel
theorem e_6_36 : dec prog_2_method_7_code 36 = some (.ireturn, 37, 0, 0) := by decide +kernel
theorem E_6 : dec prog_2_method_7_code 0 = some (.iload_n 1, 1, 1, 0) ∧ dec prog_2_method_7_code 1 = some (.iload_n 2, 2, 2, 0) ∧ dec prog_2_method_7_code 2 = some (.invokestatic 109, 5, 0, 0) ∧ dec prog_2_method_7_code 5 = some (.istore_n 3, 6, 3, 0) ∧ dec prog_2_method_7_code 6 = some (.iload_n 3, 7, 3, 0) ∧ dec prog_2_method_7_code 7 = some (.ifCond .ge 5, 10, 12, 0) ∧ dec prog_2_method_7_code 10 = some (.iload_n 3, 11, 3, 0) ∧ dec prog_2_method_7_code 11 = some (.ireturn, 12, 0, 0) ∧ dec prog_2_method_7_code 12 = some (.aload_n 0, 13, 0, 0) ∧ dec prog_2_method_7_code 13 = some (.getfield 55, 16, 0, 0) ∧ dec prog_2_method_7_code 16 = some (.aload_n 0, 17, 0, 0) ∧ dec prog_2_method_7_code 17 = some (.getfield 9, 20, 0, 0) ∧ dec prog_2_method_7_code 20 = some (.iconst 0, 21, 0, 0) ∧ dec prog_2_method_7_code 21 = some (.iaload, 22, 0, 0) ∧ dec prog_2_method_7_code 22 = some (.if_icmp .ge 8, 25, 30, 0) ∧ dec prog_2_method_7_code 25 = some (.bipush (-5), 27, 0, (-5)) ∧ dec prog_2_method_7_code 27 = some (.goto 9, 30, 36, 0) ∧ dec prog_2_method_7_code 30 = some (.aload_n 0, 31, 0, 0) ∧ dec prog_2_method_7_code 31 = some (.iload_n 1, 32, 1, 0) ∧ dec prog_2_method_7_code 32 = some (.iload_n 2, 33, 2, 0) ∧ dec prog_2_method_7_code 33 = some (.invokevirtual 113, 36, 0, 0) ∧ dec prog_2_method_7_code 36 = some (.ireturn, 37, 0, 0) := ⟨e_6_0, e_6_1, e_6_2, e_6_5, e_6_6, e_6_7, e_6_10, e_6_11, e_6_12, e_6_13, e_6_16, e_6_17, e_6_20, e_6_21, e_6_22, e_6_25, e_6_27, e_6_30, e_6_31, e_6_32, e_6_33, e_6_36⟩
theorem e_7_0 : dec prog_2_method_8_code 0 = some (.aload_n 0, 1, 0, 0) := by decide +kernel
theorem e_7_1 : dec prog_2_method_8_code 1 = some (.iload_n 1, 2, 1, 0) := by decide +kernel
theorem e_7_2 : dec prog_2_method_8_code 2 = some (.iload_n 2, 3, 2, 0) := by decide +kernel
theorem e_7_3 : dec prog_2_method_8_code 3 = some (.invokevirtual 116, 6, 0, 0) := by decide +kernel
theorem e_7_6 : dec prog_2_method_8_code 6 = some (.istore_n 3, 7, 3, 0) := by decide +kernel
theorem e_7_7 : dec prog_2_method_8_code 7 = some (.aload_n 0, 8, 0, 0) := by decide +kernel
theorem e_7_8 : dec prog_2_method_8_code 8 = some (.getfield 25, 11, 0, 0) := by decide +kernel
theorem e_7_11 : dec prog_2_method_8_code 11 = some (.iload_n 1, 12, 1, 0) := by decide +kernel
theorem e_7_12 : dec prog_2_method_8_code 12 = some (.invokevirtual 119, 15, 0, 0) := by decide +kernel
theorem e_7_15 : dec prog_2_method_8_code 15 = some (.istore 4, 17, 4, 0) := by decide +kernel
theorem e_7_17 : dec prog_2_method_8_code 17 = some (.aload_n 0, 18, 0, 0) := by decide +kernel
theorem e_7_18 : dec prog_2_method_8_code 18 = some (.invokevirtual 123, 21, 0, 0) := by decide +kernel
theorem e_7_21 : dec prog_2_method_8_code 21 = some (.istore 5, 23, 5, 0) := by decide +kernel
theorem e_7_23 : dec prog_2_method_8_code 23 = some (.aload_n 0, 24, 0, 0) := by decide +kernel
theorem e_7_24 : dec prog_2_method_8_code 24 = some (.iload 5, 26, 5, 0) := by decide +kernel
theorem e_7_26 : dec prog_2_method_8_code 26 = some (.invokevirtual 126, 29, 0, 0) := by decide +kernel
theorem e_7_29 : dec prog_2_method_8_code 29 = some (.iload 4, 31, 4, 0) := by decide +kernel
theorem e_7_31 : dec prog_2_method_8_code 31 = some (.ifCond .ge 19, 34, 50, 0) := by decide +kernel
theorem e_7_34 : dec prog_2_method_8_code 34 = some (.aload_n 0, 35, 0, 0) := by decide +kernel
theorem e_7_35 : dec prog_2_method_8_code 35 = some (.getfield 32, 38, 0, 0) := by decide +kernel
theorem e_7_38 : dec prog_2_method_8_code 38 = some (.iconst 0, 39, 0, 0) := by decide +kernel
theorem e_7_39 : dec prog_2_method_8_code 39 = some (.iload_n 1, 40, 1, 0) := by decide +kernel
theorem e_7_40 : dec prog_2_method_8_code 40 = some (.bipush (-6), 42, 0, (-6)) := by decide +kernel
theorem e_7_42 : dec prog_2_method_8_code 42 = some (.iload 5, 44, 5, 0) := by decide +kernel
theorem e_7_44 : dec prog_2_method_8_code 44 = some (.invokevirtual 130, 47, 0, 0) := by decide +kernel
theorem e_7_47 : dec prog_2_method_8_code 47 = some (.goto 48, 50, 95, 0) := by decide +kernel
theorem e_7_50 : dec prog_2_method_8_code 50 = some (.aload_n 0, 51, 0, 0) := by decide +kernel
theorem e_7_51 : dec prog_2_method_8_code 51 = some (.getfield 18, 54, 0, 0) := by decide +kernel
theorem e_7_54 : dec prog_2_method_8_code 54 = some (.getfield 134, 57, 0, 0) := by decide +kernel
theorem e_7_57 : dec prog_2_method_8_code 57 = some (.iload 4, 59, 4, 0) := by decide +kernel
theorem e_7_59 : dec prog_2_method_8_code 59 = some (.dup2, 60, 0, 0) := by decide +kernel
theorem e_7_60 : dec prog_2_method_8_code 60 = some (.iaload, 61, 0, 0) := by decide +kernel
theorem e_7_61 : dec prog_2_method_8_code 61 = some (.iconst 1, 62, 0, 1) := by decide +kernel
theorem e_7_62 : dec prog_2_method_8_code 62 = some (.iadd, 63, 0, 0) := by decide +kernel
theorem e_7_63 : dec prog_2_method_8_code 63 = some (.iastore, 64, 0, 0) := by decide +kernel
theorem e_7_64 : dec prog_2_method_8_code 64 = some (.aload_n 0, 65, 0, 0) := by decide +kernel
theorem e_7_65 : dec prog_2_method_8_code 65 = some (.iload_n 1, 66, 1, 0) := by decide +kernel
theorem e_7_66 : dec prog_2_method_8_code 66 = some (.iload 4, 68, 4, 0) := by decide +kernel
theorem e_7_68 : dec prog_2_method_8_code 68 = some (.iload_n 3, 69, 3, 0) := by decide +kernel
theorem e_7_69 : dec prog_2_method_8_code 69 = some (.invokevirtual 137, 72, 0, 0) := by decide +kernel
theorem e_7_72 : dec prog_2_method_8_code 72 = some (.aload_n 0, 73, 0, 0) := by decide +kernel
theorem e_7_73 : dec prog_2_method_8_code 73 = some (.getfield 32, 76, 0, 0) := by decide +kernel
theorem e_7_76 : dec prog_2_method_8_code 76 = some (.iload_n 3, 77, 3, 0) := by decide +kernel
theorem e_7_77 : dec prog_2_method_8_code 77 = some (.bipush 10, 79, 0, 10) := by decide +kernel
theorem e_7_79 : dec prog_2_method_8_code 79 = some (.if_icmp .lt 7, 82, 86, 0) := by decide +kernel
theorem e_7_82 : dec prog_2_method_8_code 82 = some (.iconst 2, 83, 0, 2) := by decide +kernel
theorem e_7_83 : dec prog_2_method_8_code 83 = some (.goto 4, 86, 87, 0) := by decide +kernel
theorem e_7_86 : dec prog_2_method_8_code 86 = some (.iconst 1, 87, 0, 1) := by decide +kernel
theorem e_7_87 : dec prog_2_method_8_code 87 = some (.iload_n 1, 88, 1, 0) := by decide +kernel
theorem e_7_88 : dec prog_2_method_8_code 88 = some (.iload 4, 90, 4, 0) := by decide +kernel
theorem e_7_90 : dec prog_2_method_8_code 90 = some (.iload 5, 92, 5, 0) := by decide +kernel
theorem e_7_92 : dec prog_2_method_8_code 92 = some (.invokevirtual 130, 95, 0, 0) := by decide +kernel
theorem e_7_95 : dec prog_2_method_8_code 95 = some (.aload_n 0, 96, 0, 0) := by decide +kernel
theorem e_7_96 : dec prog_2_method_8_code 96 = some (.invokevirtual 141, 99, 0, 0) := by decide +kernel
theorem e_7_99 : dec prog_2_method_8_code 99 = some (.iload_n 3, 100, 3, 0) := by decide +kernel
theorem e_7_100 : dec prog_2_method_8_code 100 = some (.iconst 2, 101, 0, 2) := by decide +kernel
theorem e_7_101 : dec prog_2_method_8_code 101 = some (.if_icmp .ne 7, 104, 108, 0) := by decide +kernel
theorem e_7_104 : dec prog_2_method_8_code 104 = some (.iconst 1, 105, 0, 1) := by decide +kernel
theorem e_7_105 : dec prog_2_method_8_code 105 = some (.goto 4, 108, 109, 0) := by decide +kernel
theorem e_7_108 : dec prog_2_method_8_code 108 = some (.iload_n 3, 109, 3, 0) := by decide +kernel
theorem e_7_109 : dec prog_2_method_8_code 109 = some (.ireturn, 110, 0, 0) := by decide +kernel
theorem E_7 : dec prog_2_method_8_code 0 = some (.aload_n 0, 1, 0, 0) ∧ dec prog_2_method_8_code 1 = some (.iload_n 1, 2, 1, 0) ∧ dec prog_2_method_8_code 2 = some (.iload_n 2, 3, 2, 0) ∧ dec prog_2_method_8_code 3 = some (.invokevirtual 116, 6, 0, 0) ∧ dec prog_2_method_8_code 6 = some (.istore_n 3, 7, 3, 0) ∧ dec prog_2_method_8_code 7 = some (.aload_n 0, 8, 0, 0) ∧ dec prog_2_method_8_code 8 = some (.getfield 25, 11, 0, 0) ∧ dec prog_2_method_8_code 11 = some (.iload_n 1, 12, 1, 0) ∧ dec prog_2_method_8_code 12 = some (.invokevirtual 119, 15, 0, 0) ∧ dec prog_2_method_8_code 15 = some (.istore 4, 17, 4, 0) ∧ dec prog_2_method_8_code 17 = some (.aload_n 0, 18, 0, 0) ∧ dec prog_2_method_8_code 18 = some (.invokevirtual 123, 21, 0, 0) ∧ dec prog_2_method_8_code 21 = some (.istore 5, 23, 5, 0) ∧ dec prog_2_method_8_code 23 = some (.aload_n 0, 24, 0, 0) ∧ dec prog_2_method_8_code 24 = some (.iload 5, 26, 5, 0) ∧ dec prog_2_method_8_code 26 = some (.invokevirtual 126, 29, 0, 0) ∧ dec prog_2_method_8_code 29 = some (.iload 4, 31, 4, 0) ∧ dec prog_2_method_8_code 31 = some (.ifCond .ge 19, 34, 50, 0) ∧ dec prog_2_method_8_code 34 = some (.aload_n 0, 35, 0, 0) ∧ dec prog_2_method_8_code 35 = some (.getfield 32, 38, 0, 0) ∧ dec prog_2_method_8_code 38 = some (.iconst 0, 39, 0, 0) ∧ dec prog_2_method_8_code 39 = some (.iload_n 1, 40, 1, 0) ∧ dec prog_2_method_8_code 40 = some (.bipush (-6), 42, 0, (-6)) ∧ dec prog_2_method_8_code 42 = some (.iload 5, 44, 5, 0) ∧ dec prog_2_method_8_code 44 = some (.invokevirtual 130, 47, 0, 0) ∧ dec prog_2_method_8_code 47 = some (.goto 48, 50, 95, 0) ∧ dec prog_2_method_8_code 50 = some (.aload_n 0, 51, 0, 0) ∧ dec prog_2_method_8_code 51 = some (.getfield 18, 54, 0, 0) ∧ dec prog_2_method_8_code 54 = some (.getfield 134, 57, 0, 0) ∧ dec prog_2_method_8_code 57 = some (.iload 4, 59, 4, 0) ∧ dec prog_2_method_8_code 59 = some (.dup2, 60, 0, 0) ∧ dec prog_2_method_8_code 60 = some (.iaload, 61, 0, 0) ∧ dec prog_2_method_8_code 61 = some (.iconst 1, 62, 0, 1) ∧ dec prog_2_method_8_code 62 = some (.iadd, 63, 0, 0) ∧ dec prog_2_method_8_code 63 = some (.iastore, 64, 0, 0) ∧ dec prog_2_method_8_code 64 = some (.aload_n 0, 65, 0, 0) ∧ dec prog_2_method_8_code 65 = some (.iload_n 1, 66, 1, 0) ∧ dec prog_2_method_8_code 66 = some (.iload 4, 68, 4, 0) ∧ dec prog_2_method_8_code 68 = some (.iload_n 3, 69, 3, 0) ∧ dec prog_2_method_8_code 69 = some (.invokevirtual 137, 72, 0, 0) ∧ dec prog_2_method_8_code 72 = some (.aload_n 0, 73, 0, 0) ∧ dec prog_2_method_8_code 73 = some (.getfield 32, 76, 0, 0) ∧ dec prog_2_method_8_code 76 = some (.iload_n 3, 77, 3, 0) ∧ dec prog_2_method_8_code 77 = some (.bipush 10, 79, 0, 10) ∧ dec prog_2_method_8_code 79 = some (.if_icmp .lt 7, 82, 86, 0) ∧ dec prog_2_method_8_code 82 = some (.iconst 2, 83, 0, 2) ∧ dec prog_2_method_8_code 83 = some (.goto 4, 86, 87, 0) ∧ dec prog_2_method_8_code 86 = some (.iconst 1, 87, 0, 1) ∧ dec prog_2_method_8_code 87 = some (.iload_n 1, 88, 1, 0) ∧ dec prog_2_method_8_code 88 = some (.iload 4, 90, 4, 0) ∧ dec prog_2_method_8_code 90 = some (.iload 5, 92, 5, 0) ∧ dec prog_2_method_8_code 92 = some (.invokevirtual 130, 95, 0, 0) ∧ dec prog_2_method_8_code 95 = some (.aload_n 0, 96, 0, 0) ∧ dec prog_2_method_8_code 96 = some (.invokevirtual 141, 99, 0, 0) ∧ dec prog_2_method_8_code 99 = some (.iload_n 3, 100, 3, 0) ∧ dec prog_2_method_8_code 100 = some (.iconst 2, 101, 0, 2) ∧ dec prog_2_method_8_code 101 = some (.if_icmp .ne 7, 104, 108, 0) ∧ dec prog_2_method_8_code 104 = some (.iconst 1, 105, 0, 1) ∧ dec prog_2_method_8_code 105 = some (.goto 4, 108, 109, 0) ∧ dec prog_2_method_8_code 108 = some (.iload_n 3, 109, 3, 0) ∧ dec prog_2_method_8_code 109 = some (.ireturn, 110, 0, 0) := ⟨e_7_0, e_7_1, e_7_2, e_7_3, e_7_6, e_7_7, e_7_8, e_7_11, e_7_12, e_7_15, e_7_17, e_7_18, e_7_21, e_7_23, e_7_24, e_7_26, e_7_29, e_7_31, e_7_34, e_7_35, e_7_38, e_7_39, e_7_40, e_7_42, e_7_44, e_7_47, e_7_50, e_7_51, e_7_54, e_7_57, e_7_59, e_7_60, e_7_61, e_7_62, e_7_63, e_7_64, e_7_65, e_7_66, e_7_68, e_7_69, e_7_72, e_7_73, e_7_76, e_7_77, e_7_79, e_7_82, e_7_83, e_7_86, e_7_87, e_7_88, e_7_90, e_7_92, e_7_95, e_7_96, e_7_99, e_7_100, e_7_101, e_7_104, e_7_105, e_7_108, e_7_109⟩
theorem e_8_0 : dec prog_2_method_9_code 0 = some (.aload_n 0, 1, 0, 0) := by decide +kernel
theorem e_8_1 : dec prog_2_method_9_code 1 = some (.dup, 2, 0, 0) := by decide +kernel
theorem e_8_2 : dec prog_2_method_9_code 2 = some (.getfield 55, 5, 0, 0) := by decide +kernel
theorem e_8_5 : dec prog_2_method_9_code 5 = some (.aload_n 0, 6, 0, 0) := by decide +kernel
theorem e_8_6 : dec prog_2_method_9_code 6 = some (.getfield 9, 9, 0, 0) := by decide +kernel
theorem e_8_9 : dec prog_2_method_9_code 9 = some (.iconst 0, 10, 0, 0) := by decide +kernel
theorem e_8_10 : dec prog_2_method_9_code 10 = some (.iaload, 11, 0, 0) := by decide +kernel
theorem e_8_11 : dec prog_2_method_9_code 11 = some (.isub, 12, 0, 0) := by decide +kernel
theorem e_8_12 : dec prog_2_method_9_code 12 = some (.putfield 55, 15, 0, 0) := by decide +kernel
theorem e_8_15 : dec prog_2_method_9_code 15 = some (.aload_n 0, 16, 0, 0) := by decide +kernel
theorem e_8_16 : dec prog_2_method_9_code 16 = some (.dup, 17, 0, 0) := by decide +kernel
theorem e_8_17 : dec prog_2_method_9_code 17 = some (.getfield 62, 20, 0, 0) := by decide +kernel
theorem e_8_20 : dec prog_2_method_9_code 20 = some (.aload_n 0, 21, 0, 0) := by decide +kernel
theorem e_8_21 : dec prog_2_method_9_code 21 = some (.getfield 9, 24, 0, 0) := by decide +kernel
theorem e_8_24 : dec prog_2_method_9_code 24 = some (.iconst 0, 25, 0, 0) := by decide +kernel
theorem e_8_25 : dec prog_2_method_9_code 25 = some (.iaload, 26, 0, 0) := by decide +kernel
theorem e_8_26 : dec prog_2_method_9_code 26 = some (.iadd, 27, 0, 0) := by decide +kernel
theorem e_8_27 : dec prog_2_method_9_code 27 = some (.putfield 62, 30, 0, 0) := by decide +kernel
theorem e_8_30 : dec prog_2_method_9_code 30 = some (.aload_n 0, 31, 0, 0) := by decide +kernel
theorem e_8_31 : dec prog_2_method_9_code 31 = some (.dup, 32, 0, 0) := by decide +kernel
theorem e_8_32 : dec prog_2_method_9_code 32 = some (.getfield 59, 35, 0, 0) := by decide +kernel
theorem e_8_35 : dec prog_2_method_9_code 35 = some (.aload_n 0, 36, 0, 0) := by decide +kernel
theorem e_8_36 : dec prog_2_method_9_code 36 = some (.getfield 9, 39, 0, 0) := by decide +kernel
theorem e_8_39 : dec prog_2_method_9_code 39 = some (.iconst 0, 40, 0, 0) := by decide +kernel
theorem e_8_40 : dec prog_2_method_9_code 40 = some (.iaload, 41, 0, 0) := by decide +kernel
theorem e_8_41 : dec prog_2_method_9_code 41 = some (.iadd, 42, 0, 0) := by decide +kernel
theorem e_8_42 : dec prog_2_method_9_code 42 = some (.putfield 59, 45, 0, 0) := by decide +kernel
theorem e_8_45 : dec prog_2_method_9_code 45 = some (.aload_n 0, 46, 0, 0) := by decide +kernel
theorem e_8_46 : dec prog_2_method_9_code 46 = some (.dup, 47, 0, 0) := by decide +kernel
theorem e_8_47 : dec prog_2_method_9_code 47 = some (.getfield 65, 50, 0, 0) := by decide +kernel
theorem e_8_50 : dec prog_2_method_9_code 50 = some (.iconst 1, 51, 0, 1) := by decide +kernel
theorem e_8_51 : dec prog_2_method_9_code 51 = some (.iadd, 52, 0, 0) := by decide +kernel
theorem e_8_52 : dec prog_2_method_9_code 52 = some (.putfield 65, 55, 0, 0) := by decide +kernel
theorem e_8_55 : dec prog_2_method_9_code 55 = some (.iload_n 1, 56, 1, 0) := by decide +kernel
theorem e_8_56 : dec prog_2_method_9_code 56 = some (.ifCond .eq 13, 59, 69, 0) := by decide +kernel
theorem e_8_59 : dec prog_2_method_9_code 59 = some (.aload_n 0, 60, 0, 0) := by decide +kernel
theorem e_8_60 : dec prog_2_method_9_code 60 = some (.dup, 61, 0, 0) := by decide +kernel
theorem e_8_61 : dec prog_2_method_9_code 61 = some (.getfield 68, 64, 0, 0) := by decide +kernel
theorem e_8_64 : dec prog_2_method_9_code 64 = some (.iconst 1, 65, 0, 1) := by decide +kernel
theorem e_8_65 : dec prog_2_method_9_code 65 = some (.iadd, 66, 0, 0) := by decide +kernel
theorem e_8_66 : dec prog_2_method_9_code 66 = some (.putfield 68, 69, 0, 0) := by decide +kernel
theorem e_8_69 : dec prog_2_method_9_code 69 = some (.return_, 70, 0, 0) := by decide +kernel
theorem E_8 : dec prog_2_method_9_code 0 = some (.aload_n 0, 1, 0, 0) ∧ dec prog_2_method_9_code 1 = some (.dup, 2, 0, 0) ∧ dec prog_2_method_9_code 2 = some (.getfield 55, 5, 0, 0) ∧ dec prog_2_method_9_code 5 = some (.aload_n 0, 6, 0, 0) ∧ dec prog_2_method_9_code 6 = some (.getfield 9, 9, 0, 0) ∧ dec prog_2_method_9_code 9 = some (.iconst 0, 10, 0, 0) ∧ dec prog_2_method_9_code 10 = some (.iaload, 11, 0, 0) ∧ dec prog_2_method_9_code 11 = some (.isub, 12, 0, 0) ∧ dec prog_2_method_9_code 12 = some (.putfield 55, 15, 0, 0) ∧ dec prog_2_method_9_code 15 = some (.aload_n 0, 16, 0, 0) ∧ dec prog_2_method_9_code 16 = some (.dup, 17, 0, 0) ∧ dec prog_2_method_9_code 17 = some (.getfield 62, 20, 0, 0) ∧ dec prog_2_method_9_code 20 = some (.aload_n 0, 21, 0, 0) ∧ dec prog_2_method_9_code 21 = some (.getfield 9, 24, 0, 0) ∧ dec prog_2_method_9_code 24 = some (.iconst 0, 25, 0, 0) ∧ dec prog_2_method_9_code 25 = some (.iaload, 26, 0, 0) ∧ dec prog_2_method_9_code 26 = some (.iadd, 27, 0, 0) ∧ dec prog_2_method_9_code 27 = some (.putfield 62, 30, 0, 0) ∧ dec prog_2_method_9_code 30 = some (.aload_n 0, 31, 0, 0) ∧ dec prog_2_method_9_code 31 = some (.dup, 32, 0, 0) ∧ dec prog_2_method_9_code 32 = some (.getfield 59, 35, 0, 0) ∧ dec prog_2_method_9_code 35 = some (.aload_n 0, 36, 0, 0) ∧ dec prog_2_method_9_code 36 = some (.getfield 9, 39, 0, 0) ∧ dec prog_2_method_9_code 39 = some (.iconst 0, 40, 0, 0) ∧ dec prog_2_method_9_code 40 = some (.iaload, 41, 0, 0) ∧ dec prog_2_method_9_code 41 = some (.iadd, 42, 0, 0) ∧ dec prog_2_method_9_code 42 = some (.putfield 59, 45, 0, 0) ∧ dec prog_2_method_9_code 45 = some (.aload_n 0, 46, 0, 0) ∧ dec prog_2_method_9_code 46 = some (.dup, 47, 0, 0) ∧ dec prog_2_method_9_code 47 = some (.getfield 65, 50, 0, 0) ∧ dec prog_2_method_9_code 50 = some (.iconst 1, 51, 0, 1) ∧ dec prog_2_method_9_code 51 = some (.iadd, 52, 0, 0) ∧ dec prog_2_method_9_code 52 = some (.putfield 65, 55, 0, 0) ∧ dec prog_2_method_9_code 55 = some (.iload_n 1, 56, 1, 0) ∧ dec prog_2_method_9_code 56 = some (.ifCond .eq 13, 59, 69, 0) ∧ dec prog_2_method_9_code 59 = some (.aload_n 0, 60, 0, 0) ∧ dec prog_2_method_9_code 60 = some (.dup, 61, 0, 0) ∧ dec prog_2_method_9_code 61 = some (.getfield 68, 64, 0, 0) ∧ dec prog_2_method_9_code 64 = some (.iconst 1, 65, 0, 1) ∧ dec prog_2_method_9_code 65 = some (.iadd, 66, 0, 0) ∧ dec prog_2_method_9_code 66 = some (.putfield 68, 69, 0, 0) ∧ dec prog_2_method_9_code 69 = some (.return_, 70, 0, 0) := ⟨e_8_0, e_8_1, e_8_2, e_8_5, e_8_6, e_8_9, e_8_10, e_8_11, e_8_12, e_8_15, e_8_16, e_8_17, e_8_20, e_8_21, e_8_24, e_8_25, e_8_26, e_8_27, e_8_30, e_8_31, e_8_32, e_8_35, e_8_36, e_8_39, e_8_40, e_8_41, e_8_42, e_8_45, e_8_46, e_8_47, e_8_50, e_8_51, e_8_52, e_8_55, e_8_56, e_8_59, e_8_60, e_8_61, e_8_64, e_8_65, e_8_66, e_8_69⟩
theorem e_9_0 : dec prog_2_method_10_code 0 = some (.iload_n 3, 1, 3, 0) := by decide +kernel
theorem e_9_1 : dec prog_2_method_10_code 1 = some (.bipush 10, 3, 0, 10) := by decide +kernel
theorem e_9_3 : dec prog_2_method_10_code 3 = some (.if_icmp .lt 27, 6, 30, 0) := by decide +kernel
theorem e_9_6 : dec prog_2_method_10_code 6 = some (.aload_n 0, 7, 0, 0) := by decide +kernel
theorem e_9_7 : dec prog_2_method_10_code 7 = some (.getfield 25, 10, 0, 0) := by decide +kernel
theorem e_9_10 : dec prog_2_method_10_code 10 = some (.iload_n 1, 11, 1, 0) := by decide +kernel
theorem e_9_11 : dec prog_2_method_10_code 11 = some (.invokevirtual 144, 14, 0, 0) := by decide +kernel
theorem e_9_14 : dec prog_2_method_10_code 14 = some (.aload_n 0, 15, 0, 0) := by decide +kernel
theorem e_9_15 : dec prog_2_method_10_code 15 = some (.getfield 18, 18, 0, 0) := by decide +kernel
theorem e_9_18 : dec prog_2_method_10_code 18 = some (.getfield 148, 21, 0, 0) := by decide +kernel
theorem e_9_21 : dec prog_2_method_10_code 21 = some (.iload_n 2, 22, 2, 0) := by decide +kernel
theorem e_9_22 : dec prog_2_method_10_code 22 = some (.iconst 2, 23, 0, 2) := by decide +kernel
theorem e_9_23 : dec prog_2_method_10_code 23 = some (.iastore, 24, 0, 0) := by decide +kernel
theorem e_9_24 : dec prog_2_method_10_code 24 = some (.aload_n 0, 25, 0, 0) := by decide +kernel
theorem e_9_25 : dec prog_2_method_10_code 25 = some (.iconst 0, 26, 0, 0) := by decide +kernel
theorem e_9_26 : dec prog_2_method_10_code 26 = some (.putfield 59, 29, 0, 0) := by decide +kernel
theorem e_9_29 : dec prog_2_method_10_code 29 = some (.return_, 30, 0, 0) := by decide +kernel
theorem e_9_30 : dec prog_2_method_10_code 30 = some (.aload_n 0, 31, 0, 0) := by decide +kernel
theorem e_9_31 : dec prog_2_method_10_code 31 = some (.dup, 32, 0, 0) := by decide +kernel
theorem e_9_32 : dec prog_2_method_10_code 32 = some (.getfield 71, 35, 0, 0) := by decide +kernel
theorem e_9_35 : dec prog_2_method_10_code 35 = some (.iconst 1, 36, 0, 1) := by decide +kernel
theorem e_9_36 : dec prog_2_method_10_code 36 = some (.iadd, 37, 0, 0) := by decide +kernel
theorem e_9_37 : dec prog_2_method_10_code 37 = some (.putfield 71, 40, 0, 0) := by decide +kernel
theorem e_9_40 : dec prog_2_method_10_code 40 = some (.iload_n 3, 41, 3, 0) := by decide +kernel
theorem e_9_41 : dec prog_2_method_10_code 41 = some (.iconst 2, 42, 0, 2) := by decide +kernel
theorem e_9_42 : dec prog_2_method_10_code 42 = some (.if_icmp .ne 14, 45, 56, 0) := by decide +kernel
theorem e_9_45 : dec prog_2_method_10_code 45 = some (.aload_n 0, 46, 0, 0) := by decide +kernel
theorem e_9_46 : dec prog_2_method_10_code 46 = some (.getfield 25, 49, 0, 0) := by decide +kernel
theorem e_9_49 : dec prog_2_method_10_code 49 = some (.iload_n 1, 50, 1, 0) := by decide +kernel
theorem e_9_50 : dec prog_2_method_10_code 50 = some (.invokevirtual 151, 53, 0, 0) := by decide +kernel
theorem e_9_53 : dec prog_2_method_10_code 53 = some (.goto 5, 56, 58, 0) := by decide +kernel
theorem e_9_56 : dec prog_2_method_10_code 56 = some (.bipush (-6), 58, 0, (-6)) := by decide +kernel
theorem e_9_58 : dec prog_2_method_10_code 58 = some (.istore 4, 60, 4, 0) := by decide +kernel
theorem e_9_60 : dec prog_2_method_10_code 60 = some (.iload 4, 62, 4, 0) := by decide +kernel
theorem e_9_62 : dec prog_2_method_10_code 62 = some (.invokestatic 90, 65, 0, 0) := by decide +kernel
theorem e_9_65 : dec prog_2_method_10_code 65 = some (.ifCond .eq 21, 68, 86, 0) := by decide +kernel
theorem e_9_68 : dec prog_2_method_10_code 68 = some (.aload_n 0, 69, 0, 0) := by decide +kernel
theorem e_9_69 : dec prog_2_method_10_code 69 = some (.getfield 25, 72, 0, 0) := by decide +kernel
theorem e_9_72 : dec prog_2_method_10_code 72 = some (.iload_n 1, 73, 1, 0) := by decide +kernel
theorem e_9_73 : dec prog_2_method_10_code 73 = some (.invokevirtual 144, 76, 0, 0) := by decide +kernel
theorem e_9_76 : dec prog_2_method_10_code 76 = some (.aload_n 0, 77, 0, 0) := by decide +kernel
theorem e_9_77 : dec prog_2_method_10_code 77 = some (.getfield 25, 80, 0, 0) := by decide +kernel
theorem e_9_80 : dec prog_2_method_10_code 80 = some (.iload 4, 82, 4, 0) := by decide +kernel
theorem e_9_82 : dec prog_2_method_10_code 82 = some (.iload_n 2, 83, 2, 0) := by decide +kernel
theorem e_9_83 : dec prog_2_method_10_code 83 = some (.invokevirtual 105, 86, 0, 0) := by decide +kernel
theorem e_9_86 : dec prog_2_method_10_code 86 = some (.return_, 87, 0, 0) := by decide +kernel
theorem E_9 : dec prog_2_method_10_code 0 = some (.iload_n 3, 1, 3, 0) ∧ dec prog_2_method_10_code 1 = some (.bipush 10, 3, 0, 10) ∧ dec prog_2_method_10_code 3 = some (.if_icmp .lt 27, 6, 30, 0) ∧ dec prog_2_method_10_code 6 = some (.aload_n 0, 7, 0, 0) ∧ dec prog_2_method_10_code 7 = some (.getfield 25, 10, 0, 0) ∧ dec prog_2_method_10_code 10 = some (.iload_n 1, 11, 1, 0) ∧ dec prog_2_method_10_code 11 = some (.invokevirtual 144, 14, 0, 0) ∧ dec prog_2_method_10_code 14 = some (.aload_n 0, 15, 0, 0) ∧ dec prog_2_method_10_code 15 = some (.getfield 18, 18, 0, 0) ∧ dec prog_2_method_10_code 18 = some (.getfield 148, 21, 0, 0) ∧ dec prog_2_method_10_code 21 = some (.iload_n 2, 22, 2, 0) ∧ dec prog_2_method_10_code 22 = some (.iconst 2, 23, 0, 2) ∧ dec prog_2_method_10_code 23 = some (.iastore, 24, 0, 0) ∧ dec prog_2_method_10_code 24 = some (.aload_n 0, 25, 0, 0) ∧ dec prog_2_method_10_code 25 = some (.iconst 0, 26, 0, 0) ∧ dec prog_2_method_10_code 26 = some (.putfield 59, 29, 0, 0) ∧ dec prog_2_method_10_code 29 = some (.return_, 30, 0, 0) ∧ dec prog_2_method_10_code 30 = some (.aload_n 0, 31, 0, 0) ∧ dec prog_2_method_10_code 31 = some (.dup, 32, 0, 0) ∧ dec prog_2_method_10_code 32 = some (.getfield 71, 35, 0, 0) ∧ dec prog_2_method_10_code 35 = some (.iconst 1, 36, 0, 1) ∧ dec prog_2_method_10_code 36 = some (.iadd, 37, 0, 0) ∧ dec prog_2_method_10_code 37 = some (.putfield 71, 40, 0, 0) ∧ dec prog_2_method_10_code 40 = some (.iload_n 3, 41, 3, 0) ∧ dec prog_2_method_10_code 41 = some (.iconst 2, 42, 0, 2) ∧ dec prog_2_method_10_code 42 = some (.if_icmp .ne 14, 45, 56, 0) ∧ dec prog_2_method_10_code 45 = some (.aload_n 0, 46, 0, 0) ∧ dec prog_2_method_10_code 46 = some (.getfield 25, 49, 0, 0) ∧ dec prog_2_method_10_code 49 = some (.iload_n 1, 50, 1, 0) ∧ dec prog_2_method_10_code 50 = some (.invokevirtual 151, 53, 0, 0) ∧ dec prog_2_method_10_code 53 = some (.goto 5, 56, 58, 0) ∧ dec prog_2_method_10_code 56 = some (.bipush (-6), 58, 0, (-6)) ∧ dec prog_2_method_10_code 58 = some (.istore 4, 60, 4, 0) ∧ dec prog_2_method_10_code 60 = some (.iload 4, 62, 4, 0) ∧ dec prog_2_method_10_code 62 = some (.invokestatic 90, 65, 0, 0) ∧ dec prog_2_method_10_code 65 = some (.ifCond .eq 21, 68, 86, 0) ∧ dec prog_2_method_10_code 68 = some (.aload_n 0, 69, 0, 0) ∧ dec prog_2_method_10_code 69 = some (.getfield 25, 72, 0, 0) ∧ dec prog_2_method_10_code 72 = some (.iload_n 1, 73, 1, 0) ∧ dec prog_2_method_10_code 73 = some (.invokevirtual 144, 76, 0, 0) ∧ dec prog_2_method_10_code 76 = some (.aload_n 0, 77, 0, 0) ∧ dec prog_2_method_10_code 77 = some (.getfield 25, 80, 0, 0) ∧ dec prog_2_method_10_code 80 = some (.iload 4, 82, 4, 0) ∧ dec prog_2_method_10_code 82 = some (.iload_n 2, 83, 2, 0) ∧ dec prog_2_method_10_code 83 = some (.invokevirtual 105, 86, 0, 0) ∧ dec prog_2_method_10_code 86 = some (.return_, 87, 0, 0) := ⟨e_9_0, e_9_1, e_9_3, e_9_6, e_9_7, e_9_10, e_9_11, e_9_14, e_9_15, e_9_18, e_9_21, e_9_22, e_9_23, e_9_24, e_9_25, e_9_26, e_9_29, e_9_30, e_9_31, e_9_32, e_9_35, e_9_36, e_9_37, e_9_40, e_9_41, e_9_42, e_9_45, e_9_46, e_9_49, e_9_50, e_9_53, e_9_56, e_9_58, e_9_60, e_9_62, e_9_65, e_9_68, e_9_69, e_9_72, e_9_73, e_9_76, e_9_77, e_9_80, e_9_82, e_9_83, e_9_86⟩
theorem e_10_0 : dec prog_2_method_11_code 0 = some (.aload_n 0, 1, 0, 0) := by decide +kernel
theorem e_10_1 : dec prog_2_method_11_code 1 = some (.getfield 9, 4, 0, 0) := by decide +kernel
theorem e_10_4 : dec prog_2_method_11_code 4 = some (.iconst 5, 5, 0, 5) := by decide +kernel
theorem e_10_5 : dec prog_2_method_11_code 5 = some (.iaload, 6, 0, 0) := by decide +kernel
theorem e_10_6 : dec prog_2_method_11_code 6 = some (.aload_n 0, 7, 0, 0) := by decide +kernel
theorem e_10_7 : dec prog_2_method_11_code 7 = some (.getfield 25, 10, 0, 0) := by decide +kernel
theorem e_10_10 : dec prog_2_method_11_code 10 = some (.invokevirtual 154, 13, 0, 0) := by decide +kernel
theorem e_10_13 : dec prog_2_method_11_code 13 = some (.isub, 14, 0, 0) := by decide +kernel
theorem e_10_14 : dec prog_2_method_11_code 14 = some (.istore_n 1, 15, 1, 0) := by decide +kernel
theorem e_10_15 : dec prog_2_method_11_code 15 = some (.iconst 0, 16, 0, 0) := by decide +kernel
theorem e_10_16 : dec prog_2_method_11_code 16 = some (.istore_n 2, 17, 2, 0) := by decide +kernel
theorem e_10_17 : dec prog_2_method_11_code 17 = some (.iload_n 2, 18, 2, 0) := by decide +kernel
theorem e_10_18 : dec prog_2_method_11_code 18 = some (.iload_n 1, 19, 1, 0) := by decide +kernel
theorem e_10_19 : dec prog_2_method_11_code 19 = some (.if_icmp .ge 58, 22, 77, 0) := by decide +kernel
theorem e_10_22 : dec prog_2_method_11_code 22 = some (.aload_n 0, 23, 0, 0) := by decide +kernel
theorem e_10_23 : dec prog_2_method_11_code 23 = some (.getfield 18, 26, 0, 0) := by decide +kernel
theorem e_10_26 : dec prog_2_method_11_code 26 = some (.invokevirtual 94, 29, 0, 0) := by decide +kernel
theorem e_10_29 : dec prog_2_method_11_code 29 = some (.ifCond .ne 48, 32, 77, 0) := by decide +kernel
theorem e_10_32 : dec prog_2_method_11_code 32 = some (.aload_n 0, 33, 0, 0) := by decide +kernel
theorem e_10_33 : dec prog_2_method_11_code 33 = some (.getfield 25, 36, 0, 0) := by decide +kernel
theorem e_10_36 : dec prog_2_method_11_code 36 = some (.invokevirtual 157, 39, 0, 0) := by decide +kernel
theorem e_10_39 : dec prog_2_method_11_code 39 = some (.istore_n 3, 40, 3, 0) := by decide +kernel
theorem e_10_40 : dec prog_2_method_11_code 40 = some (.aload_n 0, 41, 0, 0) := by decide +kernel
theorem e_10_41 : dec prog_2_method_11_code 41 = some (.getfield 25, 44, 0, 0) := by decide +kernel
theorem e_10_44 : dec prog_2_method_11_code 44 = some (.getfield 98, 47, 0, 0) := by decide +kernel
theorem e_10_47 : dec prog_2_method_11_code 47 = some (.iload_n 3, 48, 3, 0) := by decide +kernel
theorem e_10_48 : dec prog_2_method_11_code 48 = some (.iaload, 49, 0, 0) := by decide +kernel
theorem e_10_49 : dec prog_2_method_11_code 49 = some (.iconst 4, 50, 0, 4) := by decide +kernel
theorem e_10_50 : dec prog_2_method_11_code 50 = some (.if_icmp .lt 6, 53, 56, 0) := by decide +kernel
theorem e_10_53 : dec prog_2_method_11_code 53 = some (.goto 24, 56, 77, 0) := by decide +kernel
theorem e_10_56 : dec prog_2_method_11_code 56 = some (.aload_n 0, 57, 0, 0) := by decide +kernel
theorem e_10_57 : dec prog_2_method_11_code 57 = some (.getfield 25, 60, 0, 0) := by decide +kernel
theorem e_10_60 : dec prog_2_method_11_code 60 = some (.iload_n 3, 61, 3, 0) := by decide +kernel
theorem e_10_61 : dec prog_2_method_11_code 61 = some (.aload_n 0, 62, 0, 0) := by decide +kernel
theorem e_10_62 : dec prog_2_method_11_code 62 = some (.getfield 18, 65, 0, 0) := by decide +kernel
theorem e_10_65 : dec prog_2_method_11_code 65 = some (.invokevirtual 101, 68, 0, 0) := by decide +kernel
theorem e_10_68 : dec prog_2_method_11_code 68 = some (.invokevirtual 105, 71, 0, 0) := by decide +kernel
theorem e_10_71 : dec prog_2_method_11_code 71 = some (.iinc 2 1, 74, 2, 1) := by decide +kernel
theorem e_10_74 : dec prog_2_method_11_code 74 = some (.goto (-57), 77, 17, 0) := by decide +kernel
theorem e_10_77 : dec prog_2_method_11_code 77 = some (.iload_n 2, 78, 2, 0) := by decide +kernel
theorem e_10_78 : dec prog_2_method_11_code 78 = some (.ifCond .le 25, 81, 103, 0) := by decide +kernel
theorem e_10_81 : dec prog_2_method_11_code 81 = some (.aload_n 0, 82, 0, 0) := by decide +kernel
theorem e_10_82 : dec prog_2_method_11_code 82 = some (.dup, 83, 0, 0) := by decide +kernel
theorem e_10_83 : dec prog_2_method_11_code 83 = some (.getfield 74, 86, 0, 0) := by decide +kernel
theorem e_10_86 : dec prog_2_method_11_code 86 = some (.iconst 1, 87, 0, 1) := by decide +kernel
theorem e_10_87 : dec prog_2_method_11_code 87 = some (.iadd, 88, 0, 0) := by decide +kernel
theorem e_10_88 : dec prog_2_method_11_code 88 = some (.putfield 74, 91, 0, 0) := by decide +kernel
theorem e_10_91 : dec prog_2_method_11_code 91 = some (.aload_n 0, 92, 0, 0) := by decide +kernel
theorem e_10_92 : dec prog_2_method_11_code 92 = some (.getfield 32, 95, 0, 0) := by decide +kernel
theorem e_10_95 : dec prog_2_method_11_code 95 = some (.iconst 3, 96, 0, 3) := by decide +kernel
theorem e_10_96 : dec prog_2_method_11_code 96 = some (.bipush (-6), 98, 0, (-6)) := by decide +kernel
theorem e_10_98 : dec prog_2_method_11_code 98 = some (.iload_n 2, 99, 2, 0) := by decide +kernel
theorem e_10_99 : dec prog_2_method_11_code 99 = some (.iconst 0, 100, 0, 0) := by decide +kernel
theorem e_10_100 : dec prog_2_method_11_code 100 = some (.invokevirtual 130, 103, 0, 0) := by decide +kernel
theorem e_10_103 : dec prog_2_method_11_code 103 = some (.return_, 104, 0, 0) := by decide +kernel
theorem E_10 : dec prog_2_method_11_code 0 = some (.aload_n 0, 1, 0, 0) ∧ dec prog_2_method_11_code 1 = some (.getfield 9, 4, 0, 0) ∧ dec prog_2_method_11_code 4 = some (.iconst 5, 5, 0, 5) ∧ dec prog_2_method_11_code 5 = some (.iaload, 6, 0, 0) ∧ dec prog_2_method_11_code 6 = some (.aload_n 0, 7, 0, 0) ∧ dec prog_2_method_11_code 7 = some (.getfield 25, 10, 0, 0) ∧ dec prog_2_method_11_code 10 = some (.invokevirtual 154, 13, 0, 0) ∧ dec prog_2_method_11_code 13 = some (.isub, 14, 0, 0) ∧ dec prog_2_method_11_code 14 = some (.istore_n 1, 15, 1, 0) ∧ dec prog_2_method_11_code 15 = some (.iconst 0, 16, 0, 0) ∧ dec prog_2_method_11_code 16 = some (.istore_n 2, 17, 2, 0) ∧ dec prog_2_method_11_code 17 = some (.iload_n 2, 18, 2, 0) ∧ dec prog_2_method_11_code 18 = some (.iload_n 1, 19, 1, 0) ∧ dec prog_2_method_11_code 19 = some (.if_icmp .ge 58, 22, 77, 0) ∧ dec prog_2_method_11_code 22 = some (.aload_n 0, 23, 0, 0) ∧ dec prog_2_method_11_code 23 = some (.getfield 18, 26, 0, 0) ∧ dec prog_2_method_11_code 26 = some (.invokevirtual 94, 29, 0, 0) ∧ dec prog_2_method_11_code 29 = some (.ifCond .ne 48, 32, 77, 0) ∧ dec prog_2_method_11_code 32 = some (.aload_n 0, 33, 0, 0) ∧ dec prog_2_method_11_code 33 = some (.getfield 25, 36, 0, 0) ∧ dec prog_2_method_11_code 36 = some (.invokevirtual 157, 39, 0, 0) ∧ dec prog_2_method_11_code 39 = some (.istore_n 3, 40, 3, 0) ∧ dec prog_2_method_11_code 40 = some (.aload_n 0, 41, 0, 0) ∧ dec prog_2_method_11_code 41 = some (.getfield 25, 44, 0, 0) ∧ dec prog_2_method_11_code 44 = some (.getfield 98, 47, 0, 0) ∧ dec prog_2_method_11_code 47 = some (.iload_n 3, 48, 3, 0) ∧ dec prog_2_method_11_code 48 = some (.iaload, 49, 0, 0) ∧ dec prog_2_method_11_code 49 = some (.iconst 4, 50, 0, 4) ∧ dec prog_2_method_11_code 50 = some (.if_icmp .lt 6, 53, 56, 0) ∧ dec prog_2_method_11_code 53 = some (.goto 24, 56, 77, 0) ∧ dec prog_2_method_11_code 56 = some (.aload_n 0, 57, 0, 0) ∧ dec prog_2_method_11_code 57 = some (.getfield 25, 60, 0, 0) ∧ dec prog_2_method_11_code 60 = some (.iload_n 3, 61, 3, 0) ∧ dec prog_2_method_11_code 61 = some (.aload_n 0, 62, 0, 0) ∧ dec prog_2_method_11_code 62 = some (.getfield 18, 65, 0, 0) ∧ dec prog_2_method_11_code 65 = some (.invokevirtual 101, 68, 0, 0) ∧ dec prog_2_method_11_code 68 = some (.invokevirtual 105, 71, 0, 0) ∧ dec prog_2_method_11_code 71 = some (.iinc 2 1, 74, 2, 1) ∧ dec prog_2_method_11_code 74 = some (.goto (-57), 77, 17, 0) ∧ dec prog_2_method_11_code 77 = some (.iload_n 2, 78, 2, 0) ∧ dec prog_2_method_11_code 78 = some (.ifCond .le 25, 81, 103, 0) ∧ dec prog_2_method_11_code 81 = some (.aload_n 0, 82, 0, 0) ∧ dec prog_2_method_11_code 82 = some (.dup, 83, 0, 0) ∧ dec prog_2_method_11_code 83 = some (.getfield 74, 86, 0, 0) ∧ dec prog_2_method_11_code 86 = some (.iconst 1, 87, 0, 1) ∧ dec prog_2_method_11_code 87 = some (.iadd, 88, 0, 0) ∧ dec prog_2_method_11_code 88 = some (.putfield 74, 91, 0, 0) ∧ dec prog_2_method_11_code 91 = some (.aload_n 0, 92, 0, 0) ∧ dec prog_2_method_11_code 92 = some (.getfield 32, 95, 0, 0) ∧ dec prog_2_method_11_code 95 = some (.iconst 3, 96, 0, 3) ∧ dec prog_2_method_11_code 96 = some (.bipush (-6), 98, 0, (-6)) ∧ dec prog_2_method_11_code 98 = some (.iload_n 2, 99, 2, 0) ∧ dec prog_2_method_11_code 99 = some (.iconst 0, 100, 0, 0) ∧ dec prog_2_method_11_code 100 = some (.invokevirtual 130, 103, 0, 0) ∧ dec prog_2_method_11_code 103 = some (.return_, 104, 0, 0) := ⟨e_10_0, e_10_1, e_10_4, e_10_5, e_10_6, e_10_7, e_10_10, e_10_13, e_10_14, e_10_15, e_10_16, e_10_17, e_10_18, e_10_19, e_10_22, e_10_23, e_10_26, e_10_29, e_10_32, e_10_33, e_10_36, e_10_39, e_10_40, e_10_41, e_10_44, e_10_47, e_10_48, e_10_49, e_10_50, e_10_53, e_10_56, e_10_57, e_10_60, e_10_61, e_10_62, e_10_65, e_10_68, e_10_71, e_10_74, e_10_77, e_10_78, e_10_81, e_10_82, e_10_83, e_10_86, e_10_87, e_10_88, e_10_91, e_10_92, e_10_95, e_10_96, e_10_98, e_10_99, e_10_100, e_10_103⟩
theorem e_11_0 : dec prog_2_method_12_code 0 = some (.aload_n 0, 1, 0, 0) := by decide +kernel
theorem e_11_1 : dec prog_2_method_12_code 1 = some (.getfield 25, 4, 0, 0) := by decide +kernel
theorem e_11_4 : dec prog_2_method_12_code 4 = some (.iload_n 1, 5, 1, 0) := by decide +kernel
theorem e_11_5 : dec prog_2_method_12_code 5 = some (.invokevirtual 119, 8, 0, 0) := by decide +kernel
theorem e_11_8 : dec prog_2_method_12_code 8 = some (.istore_n 3, 9, 3, 0) := by decide +kernel
theorem e_11_9 : dec prog_2_method_12_code 9 = some (.iload_n 3, 10, 3, 0) := by decide +kernel
theorem e_11_10 : dec prog_2_method_12_code 10 = some (.ifCond .ge 5, 13, 15, 0) := by decide +kernel
theorem e_11_13 : dec prog_2_method_12_code 13 = some (.iconst 0, 14, 0, 0) := by decide +kernel
theorem e_11_14 : dec prog_2_method_12_code 14 = some (.ireturn, 15, 0, 0) := by decide +kernel
theorem e_11_15 : dec prog_2_method_12_code 15 = some (.aload_n 0, 16, 0, 0) := by decide +kernel
theorem e_11_16 : dec prog_2_method_12_code 16 = some (.iload_n 2, 17, 2, 0) := by decide +kernel
theorem e_11_17 : dec prog_2_method_12_code 17 = some (.invokevirtual 160, 20, 0, 0) := by decide +kernel
theorem e_11_20 : dec prog_2_method_12_code 20 = some (.aload_n 0, 21, 0, 0) := by decide +kernel
theorem e_11_21 : dec prog_2_method_12_code 21 = some (.iload_n 1, 22, 1, 0) := by decide +kernel
theorem e_11_22 : dec prog_2_method_12_code 22 = some (.iload_n 2, 23, 2, 0) := by decide +kernel
theorem e_11_23 : dec prog_2_method_12_code 23 = some (.invokevirtual 163, 26, 0, 0) := by decide +kernel
theorem e_11_26 : dec prog_2_method_12_code 26 = some (.if_icmp .lt 8, 29, 34, 0) := by decide +kernel
theorem e_11_29 : dec prog_2_method_12_code 29 = some (.bipush 10, 31, 0, 10) := by decide +kernel
theorem e_11_31 : dec prog_2_method_12_code 31 = some (.iload_n 3, 32, 3, 0) := by decide +kernel
theorem e_11_32 : dec prog_2_method_12_code 32 = some (.iadd, 33, 0, 0) := by decide +kernel
theorem e_11_33 : dec prog_2_method_12_code 33 = some (.ireturn, 34, 0, 0) := by decide +kernel
theorem e_11_34 : dec prog_2_method_12_code 34 = some (.aload_n 0, 35, 0, 0) := by decide +kernel
theorem e_11_35 : dec prog_2_method_12_code 35 = some (.getfield 18, 38, 0, 0) := by decide +kernel
theorem e_11_38 : dec prog_2_method_12_code 38 = some (.getfield 166, 41, 0, 0) := by decide +kernel
theorem e_11_41 : dec prog_2_method_12_code 41 = some (.iload_n 3, 42, 3, 0) := by decide +kernel
theorem e_11_42 : dec prog_2_method_12_code 42 = some (.iaload, 43, 0, 0) := by decide +kernel
theorem e_11_43 : dec prog_2_method_12_code 43 = some (.iconst 1, 44, 0, 1) := by decide +kernel
theorem e_11_44 : dec prog_2_method_12_code 44 = some (.if_icmp .ne 21, 47, 65, 0) := by decide +kernel
theorem e_11_47 : dec prog_2_method_12_code 47 = some (.aload_n 0, 48, 0, 0) := by decide +kernel
theorem e_11_48 : dec prog_2_method_12_code 48 = some (.getfield 25, 51, 0, 0) := by decide +kernel
theorem e_11_51 : dec prog_2_method_12_code 51 = some (.iload_n 1, 52, 1, 0) := by decide +kernel
theorem e_11_52 : dec prog_2_method_12_code 52 = some (.invokevirtual 151, 55, 0, 0) := by decide +kernel
theorem e_11_55 : dec prog_2_method_12_code 55 = some (.invokestatic 90, 58, 0, 0) := by decide +kernel
theorem e_11_58 : dec prog_2_method_12_code 58 = some (.ifCond .eq 7, 61, 65, 0) := by decide +kernel
theorem e_11_61 : dec prog_2_method_12_code 61 = some (.iconst 1, 62, 0, 1) := by decide +kernel
theorem e_11_62 : dec prog_2_method_12_code 62 = some (.goto 4, 65, 66, 0) := by decide +kernel
theorem e_11_65 : dec prog_2_method_12_code 65 = some (.iconst 0, 66, 0, 0) := by decide +kernel
theorem e_11_66 : dec prog_2_method_12_code 66 = some (.istore 4, 68, 4, 0) := by decide +kernel
theorem e_11_68 : dec prog_2_method_12_code 68 = some (.iload 4, 70, 4, 0) := by decide +kernel
theorem e_11_70 : dec prog_2_method_12_code 70 = some (.ifCond .eq 7, 73, 77, 0) := by decide +kernel
theorem e_11_73 : dec prog_2_method_12_code 73 = some (.iconst 2, 74, 0, 2) := by decide +kernel
theorem e_11_74 : dec prog_2_method_12_code 74 = some (.goto 4, 77, 78, 0) := by decide +kernel
theorem e_11_77 : dec prog_2_method_12_code 77 = some (.iconst 1, 78, 0, 1) := by decide +kernel
theorem e_11_78 : dec prog_2_method_12_code 78 = some (.ireturn, 79, 0, 0) := by decide +kernel
theorem E_11 : dec prog_2_method_12_code 0 = some (.aload_n 0, 1, 0, 0) ∧ dec prog_2_method_12_code 1 = some (.getfield 25, 4, 0, 0) ∧ dec prog_2_method_12_code 4 = some (.iload_n 1, 5, 1, 0) ∧ dec prog_2_method_12_code 5 = some (.invokevirtual 119, 8, 0, 0) ∧ dec prog_2_method_12_code 8 = some (.istore_n 3, 9, 3, 0) ∧ dec prog_2_method_12_code 9 = some (.iload_n 3, 10, 3, 0) ∧ dec prog_2_method_12_code 10 = some (.ifCond .ge 5, 13, 15, 0) ∧ dec prog_2_method_12_code 13 = some (.iconst 0, 14, 0, 0) ∧ dec prog_2_method_12_code 14 = some (.ireturn, 15, 0, 0) ∧ dec prog_2_method_12_code 15 = some (.aload_n 0, 16, 0, 0) ∧ dec prog_2_method_12_code 16 = some (.iload_n 2, 17, 2, 0) ∧ dec prog_2_method_12_code 17 = some (.invokevirtual 160, 20, 0, 0) ∧ dec prog_2_method_12_code 20 = some (.aload_n 0, 21, 0, 0) ∧ dec prog_2_method_12_code 21 = some (.iload_n 1, 22, 1, 0) ∧ dec prog_2_method_12_code 22 = some (.iload_n 2, 23, 2, 0) ∧ dec prog_2_method_12_code 23 = some (.invokevirtual 163, 26, 0, 0) ∧ dec prog_2_method_12_code 26 = some (.if_icmp .lt 8, 29, 34, 0) ∧ dec prog_2_method_12_code 29 = some (.bipush 10, 31, 0, 10) ∧ dec prog_2_method_12_code 31 = some (.iload_n 3, 32, 3, 0) ∧ dec prog_2_method_12_code 32 = some (.iadd, 33, 0, 0) ∧ dec prog_2_method_12_code 33 = some (.ireturn, 34, 0, 0) ∧ dec prog_2_method_12_code 34 = some (.aload_n 0, 35, 0, 0) ∧ dec prog_2_method_12_code 35 = some (.getfield 18, 38, 0, 0) ∧ dec prog_2_method_12_code 38 = some (.getfield 166, 41, 0, 0) ∧ dec prog_2_method_12_code 41 = some (.iload_n 3, 42, 3, 0) ∧ dec prog_2_method_12_code 42 = some (.iaload, 43, 0, 0) ∧ dec prog_2_method_12_code 43 = some (.iconst 1, 44, 0, 1) ∧ dec prog_2_method_12_code 44 = some (.if_icmp .ne 21, 47, 65, 0) ∧ dec prog_2_method_12_code 47 = some (.aload_n 0, 48, 0, 0) ∧ dec prog_2_method_12_code 48 = some (.getfield 25, 51, 0, 0) ∧ dec prog_2_method_12_code 51 = some (.iload_n 1, 52, 1, 0) ∧ dec prog_2_method_12_code 52 = some (.invokevirtual 151, 55, 0, 0) ∧ dec prog_2_method_12_code 55 = some (.invokestatic 90, 58, 0, 0) ∧ dec prog_2_method_12_code 58 = some (.ifCond .eq 7, 61, 65, 0) ∧ dec prog_2_method_12_code 61 = some (.iconst 1, 62, 0, 1) ∧ dec prog_2_method_12_code 62 = some (.goto 4, 65, 66, 0) ∧ dec prog_2_method_12_code 65 = some (.iconst 0, 66, 0, 0) ∧ dec prog_2_method_12_code 66 = some (.istore 4, 68, 4, 0) ∧ dec prog_2_method_12_code 68 = some (.iload 4, 70, 4, 0) ∧ dec prog_2_method_12_code 70 = some (.ifCond .eq 7, 73, 77, 0) ∧ dec prog_2_method_12_code 73 = some (.iconst 2, 74, 0, 2) ∧ dec prog_2_method_12_code 74 = some (.goto 4, 77, 78, 0) ∧ dec prog_2_method_12_code 77 = some (.iconst 1, 78, 0, 1) ∧ dec prog_2_method_12_code 78 = some (.ireturn, 79, 0, 0) := ⟨e_11_0, e_11_1, e_11_4, e_11_5, e_11_8, e_11_9, e_11_10, e_11_13, e_11_14, e_11_15, e_11_16, e_11_17, e_11_20, e_11_21, e_11_22, e_11_23, e_11_26, e_11_29, e_11_31, e_11_32, e_11_33, e_11_34, e_11_35, e_11_38, e_11_41, e_11_42, e_11_43, e_11_44, e_11_47, e_11_48, e_11_51, e_11_52, e_11_55, e_11_58, e_11_61, e_11_62, e_11_65, e_11_66, e_11_68, e_11_70, e_11_73, e_11_74, e_11_77, e_11_78⟩
theorem e_12_0 : dec prog_2_method_13_code 0 = some (.aload_n 0, 1, 0, 0) := by decide +kernel
theorem e_12_1 : dec prog_2_method_13_code 1 = some (.invokevirtual 123, 4, 0, 0) := by decide +kernel
theorem e_12_4 : dec prog_2_method_13_code 4 = some (.ifCond .eq 12, 7, 16, 0) := by decide +kernel
theorem e_12_7 : dec prog_2_method_13_code 7 = some (.aload_n 0, 8, 0, 0) := by decide +kernel
theorem e_12_8 : dec prog_2_method_13_code 8 = some (.getfield 9, 11, 0, 0) := by decide +kernel
theorem e_12_11 : dec prog_2_method_13_code 11 = some (.iconst 3, 12, 0, 3) := by decide +kernel
theorem e_12_12 : dec prog_2_method_13_code 12 = some (.iaload, 13, 0, 0) := by decide +kernel
theorem e_12_13 : dec prog_2_method_13_code 13 = some (.goto 9, 16, 22, 0) := by decide +kernel
theorem e_12_16 : dec prog_2_method_13_code 16 = some (.aload_n 0, 17, 0, 0) := by decide +kernel
theorem e_12_17 : dec prog_2_method_13_code 17 = some (.getfield 9, 20, 0, 0) := by decide +kernel
theorem e_12_20 : dec prog_2_method_13_code 20 = some (.iconst 2, 21, 0, 2) := by decide +kernel
theorem e_12_21 : dec prog_2_method_13_code 21 = some (.iaload, 22, 0, 0) := by decide +kernel
theorem e_12_22 : dec prog_2_method_13_code 22 = some (.istore_n 2, 23, 2, 0) := by decide +kernel
theorem e_12_23 : dec prog_2_method_13_code 23 = some (.iload_n 2, 24, 2, 0) := by decide +kernel
theorem e_12_24 : dec prog_2_method_13_code 24 = some (.aload_n 0, 25, 0, 0) := by decide +kernel
theorem e_12_25 : dec prog_2_method_13_code 25 = some (.getfield 9, 28, 0, 0) := by decide +kernel
theorem e_12_28 : dec prog_2_method_13_code 28 = some (.iconst 4, 29, 0, 4) := by decide +kernel
theorem e_12_29 : dec prog_2_method_13_code 29 = some (.iaload, 30, 0, 0) := by decide +kernel
theorem e_12_30 : dec prog_2_method_13_code 30 = some (.iload_n 1, 31, 1, 0) := by decide +kernel
theorem e_12_31 : dec prog_2_method_13_code 31 = some (.imul, 32, 0, 0) := by decide +kernel
theorem e_12_32 : dec prog_2_method_13_code 32 = some (.isub, 33, 0, 0) := by decide +kernel
theorem e_12_33 : dec prog_2_method_13_code 33 = some (.ireturn, 34, 0, 0) := by decide +kernel
theorem E_12 : dec prog_2_method_13_code 0 = some (.aload_n 0, 1, 0, 0) ∧ dec prog_2_method_13_code 1 = some (.invokevirtual 123, 4, 0, 0) ∧ dec prog_2_method_13_code 4 = some (.ifCond .eq 12, 7, 16, 0) ∧ dec prog_2_method_13_code 7 = some (.aload_n 0, 8, 0, 0) ∧ dec prog_2_method_13_code 8 = some (.getfield 9, 11, 0, 0) ∧ dec prog_2_method_13_code 11 = some (.iconst 3, 12, 0, 3) ∧ dec prog_2_method_13_code 12 = some (.iaload, 13, 0, 0) ∧ dec prog_2_method_13_code 13 = some (.goto 9, 16, 22, 0) ∧ dec prog_2_method_13_code 16 = some (.aload_n 0, 17, 0, 0) ∧ dec prog_2_method_13_code 17 = some (.getfield 9, 20, 0, 0) ∧ dec prog_2_method_13_code 20 = some (.iconst 2, 21, 0, 2) ∧ dec prog_2_method_13_code 21 = some (.iaload, 22, 0, 0) ∧ dec prog_2_method_13_code 22 = some (.istore_n 2, 23, 2, 0) ∧ dec prog_2_method_13_code 23 = some (.iload_n 2, 24, 2, 0) ∧ dec prog_2_method_13_code 24 = some (.aload_n 0, 25, 0, 0) ∧ dec prog_2_method_13_code 25 = some (.getfield 9, 28, 0, 0) ∧ dec prog_2_method_13_code 28 = some (.iconst 4, 29, 0, 4) ∧ dec prog_2_method_13_code 29 = some (.iaload, 30, 0, 0) ∧ dec prog_2_method_13_code 30 = some (.iload_n 1, 31, 1, 0) ∧ dec prog_2_method_13_code 31 = some (.imul, 32, 0, 0) ∧ dec prog_2_method_13_code 32 = some (.isub, 33, 0, 0) ∧ dec prog_2_method_13_code 33 = some (.ireturn, 34, 0, 0) := ⟨e_12_0, e_12_1, e_12_4, e_12_7, e_12_8, e_12_11, e_12_12, e_12_13, e_12_16, e_12_17, e_12_20, e_12_21, e_12_22, e_12_23, e_12_24, e_12_25, e_12_28, e_12_29, e_12_30, e_12_31, e_12_32, e_12_33⟩
theorem e_13_0 : dec prog_2_method_14_code 0 = some (.aload_n 0, 1, 0, 0) := by decide +kernel
theorem e_13_1 : dec prog_2_method_14_code 1 = some (.getfield 59, 4, 0, 0) := by decide +kernel
theorem e_13_4 : dec prog_2_method_14_code 4 = some (.aload_n 0, 5, 0, 0) := by decide +kernel
theorem e_13_5 : dec prog_2_method_14_code 5 = some (.getfield 9, 8, 0, 0) := by decide +kernel
theorem e_13_8 : dec prog_2_method_14_code 8 = some (.iconst 0, 9, 0, 0) := by decide +kernel
theorem e_13_9 : dec prog_2_method_14_code 9 = some (.iaload, 10, 0, 0) := by decide +kernel
theorem e_13_10 : dec prog_2_method_14_code 10 = some (.iadd, 11, 0, 0) := by decide +kernel
theorem e_13_11 : dec prog_2_method_14_code 11 = some (.aload_n 0, 12, 0, 0) := by decide +kernel
theorem e_13_12 : dec prog_2_method_14_code 12 = some (.getfield 9, 15, 0, 0) := by decide +kernel
theorem e_13_15 : dec prog_2_method_14_code 15 = some (.iconst 1, 16, 0, 1) := by decide +kernel
theorem e_13_16 : dec prog_2_method_14_code 16 = some (.iaload, 17, 0, 0) := by decide +kernel
theorem e_13_17 : dec prog_2_method_14_code 17 = some (.if_icmp .lt 7, 20, 24, 0) := by decide +kernel
theorem e_13_20 : dec prog_2_method_14_code 20 = some (.iconst 1, 21, 0, 1) := by decide +kernel
theorem e_13_21 : dec prog_2_method_14_code 21 = some (.goto 4, 24, 25, 0) := by decide +kernel
theorem e_13_24 : dec prog_2_method_14_code 24 = some (.iconst 0, 25, 0, 0) := by decide +kernel
theorem e_13_25 : dec prog_2_method_14_code 25 = some (.ireturn, 26, 0, 0) := by decide +kernel
theorem E_13 : dec prog_2_method_14_code 0 = some (.aload_n 0, 1, 0, 0) ∧ dec prog_2_method_14_code 1 = some (.getfield 59, 4, 0, 0) ∧ dec prog_2_method_14_code 4 = some (.aload_n 0, 5, 0, 0) ∧ dec prog_2_method_14_code 5 = some (.getfield 9, 8, 0, 0) ∧ dec prog_2_method_14_code 8 = some (.iconst 0, 9, 0, 0) ∧ dec prog_2_method_14_code 9 = some (.iaload, 10, 0, 0) ∧ dec prog_2_method_14_code 10 = some (.iadd, 11, 0, 0) ∧ dec prog_2_method_14_code 11 = some (.aload_n 0, 12, 0, 0) ∧ dec prog_2_method_14_code 12 = some (.getfield 9, 15, 0, 0) ∧ dec prog_2_method_14_code 15 = some (.iconst 1, 16, 0, 1) ∧ dec prog_2_method_14_code 16 = some (.iaload, 17, 0, 0) ∧ dec prog_2_method_14_code 17 = some (.if_icmp .lt 7, 20, 24, 0) ∧ dec prog_2_method_14_code 20 = some (.iconst 1, 21, 0, 1) ∧ dec prog_2_method_14_code 21 = some (.goto 4, 24, 25, 0) ∧ dec prog_2_method_14_code 24 = some (.iconst 0, 25, 0, 0) ∧ dec prog_2_method_14_code 25 = some (.ireturn, 26, 0, 0) := ⟨e_13_0, e_13_1, e_13_4, e_13_5, e_13_8, e_13_9, e_13_10, e_13_11, e_13_12, e_13_15, e_13_16, e_13_17, e_13_20, e_13_21, e_13_24, e_13_25⟩
theorem e_14_0 : dec prog_2_method_15_code 0 = some (.aload_n 0, 1, 0, 0) := by decide +kernel
theorem e_14_1 : dec prog_2_method_15_code 1 = some (.getfield 25, 4, 0, 0) := by decide +kernel
theorem e_14_4 : dec prog_2_method_15_code 4 = some (.iload_n 1, 5, 1, 0) := by decide +kernel
theorem e_14_5 : dec prog_2_method_15_code 5 = some (.invokevirtual 119, 8, 0, 0) := by decide +kernel
theorem e_14_8 : dec prog_2_method_15_code 8 = some (.istore_n 3, 9, 3, 0) := by decide +kernel
theorem e_14_9 : dec prog_2_method_15_code 9 = some (.iload_n 3, 10, 3, 0) := by decide +kernel
theorem e_14_10 : dec prog_2_method_15_code 10 = some (.ifCond .ge 5, 13, 15, 0) := by decide +kernel
theorem e_14_13 : dec prog_2_method_15_code 13 = some (.iconst 0, 14, 0, 0) := by decide +kernel
theorem e_14_14 : dec prog_2_method_15_code 14 = some (.ireturn, 15, 0, 0) := by decide +kernel
theorem e_14_15 : dec prog_2_method_15_code 15 = some (.aload_n 0, 16, 0, 0) := by decide +kernel
theorem e_14_16 : dec prog_2_method_15_code 16 = some (.getfield 18, 19, 0, 0) := by decide +kernel
theorem e_14_19 : dec prog_2_method_15_code 19 = some (.getfield 169, 22, 0, 0) := by decide +kernel
theorem e_14_22 : dec prog_2_method_15_code 22 = some (.iload_n 3, 23, 3, 0) := by decide +kernel
theorem e_14_23 : dec prog_2_method_15_code 23 = some (.iaload, 24, 0, 0) := by decide +kernel
theorem e_14_24 : dec prog_2_method_15_code 24 = some (.istore 4, 26, 4, 0) := by decide +kernel
theorem e_14_26 : dec prog_2_method_15_code 26 = some (.aload_n 0, 27, 0, 0) := by decide +kernel
theorem e_14_27 : dec prog_2_method_15_code 27 = some (.getfield 18, 30, 0, 0) := by decide +kernel
theorem e_14_30 : dec prog_2_method_15_code 30 = some (.getfield 166, 33, 0, 0) := by decide +kernel
theorem e_14_33 : dec prog_2_method_15_code 33 = some (.iload_n 3, 34, 3, 0) := by decide +kernel
theorem e_14_34 : dec prog_2_method_15_code 34 = some (.iaload, 35, 0, 0) := by decide +kernel
theorem e_14_35 : dec prog_2_method_15_code 35 = some (.lookupswitch 57 #[(1, 25), (2, 40)], 60, 0, 0) := by decide +kernel
theorem e_14_60 : dec prog_2_method_15_code 60 = some (.iload_n 2, 61, 2, 0) := by decide +kernel
theorem e_14_61 : dec prog_2_method_15_code 61 = some (.iconst 1, 62, 0, 1) := by decide +kernel
theorem e_14_62 : dec prog_2_method_15_code 62 = some (.if_icmp .lt 10, 65, 72, 0) := by decide +kernel
theorem e_14_65 : dec prog_2_method_15_code 65 = some (.iload 4, 67, 4, 0) := by decide +kernel
theorem e_14_67 : dec prog_2_method_15_code 67 = some (.iconst 5, 68, 0, 5) := by decide +kernel
theorem e_14_68 : dec prog_2_method_15_code 68 = some (.iadd, 69, 0, 0) := by decide +kernel
theorem e_14_69 : dec prog_2_method_15_code 69 = some (.goto 5, 72, 74, 0) := by decide +kernel
theorem e_14_72 : dec prog_2_method_15_code 72 = some (.iload 4, 74, 4, 0) := by decide +kernel
theorem e_14_74 : dec prog_2_method_15_code 74 = some (.ireturn, 75, 0, 0) := by decide +kernel
theorem e_14_75 : dec prog_2_method_15_code 75 = some (.iload 4, 77, 4, 0) := by decide +kernel
theorem e_14_77 : dec prog_2_method_15_code 77 = some (.iconst 2, 78, 0, 2) := by decide +kernel
theorem e_14_78 : dec prog_2_method_15_code 78 = some (.aload_n 0, 79, 0, 0) := by decide +kernel
theorem e_14_79 : dec prog_2_method_15_code 79 = some (.getfield 25, 82, 0, 0) := by decide +kernel
theorem e_14_82 : dec prog_2_method_15_code 82 = some (.getfield 98, 85, 0, 0) := by decide +kernel
theorem e_14_85 : dec prog_2_method_15_code 85 = some (.iload_n 1, 86, 1, 0) := by decide +kernel
theorem e_14_86 : dec prog_2_method_15_code 86 = some (.iaload, 87, 0, 0) := by decide +kernel
theorem e_14_87 : dec prog_2_method_15_code 87 = some (.iconst 1, 88, 0, 1) := by decide +kernel
theorem e_14_88 : dec prog_2_method_15_code 88 = some (.isub, 89, 0, 0) := by decide +kernel
theorem e_14_89 : dec prog_2_method_15_code 89 = some (.imul, 90, 0, 0) := by decide +kernel
theorem e_14_90 : dec prog_2_method_15_code 90 = some (.iadd, 91, 0, 0) := by decide +kernel
theorem e_14_91 : dec prog_2_method_15_code 91 = some (.ireturn, 92, 0, 0) := by decide +kernel
theorem e_14_92 : dec prog_2_method_15_code 92 = some (.iload 4, 94, 4, 0) := by decide +kernel
theorem e_14_94 : dec prog_2_method_15_code 94 = some (.ireturn, 95, 0, 0) := by decide +kernel
theorem E_14 : dec prog_2_method_15_code 0 = some (.aload_n 0, 1, 0, 0) ∧ dec prog_2_method_15_code 1 = some (.getfield 25, 4, 0, 0) ∧ dec prog_2_method_15_code 4 = some (.iload_n 1, 5, 1, 0) ∧ dec prog_2_method_15_code 5 = some (.invokevirtual 119, 8, 0, 0) ∧ dec prog_2_method_15_code 8 = some (.istore_n 3, 9, 3, 0) ∧ dec prog_2_method_15_code 9 = some (.iload_n 3, 10, 3, 0) ∧ dec prog_2_method_15_code 10 = some (.ifCond .ge 5, 13, 15, 0) ∧ dec prog_2_method_15_code 13 = some (.iconst 0, 14, 0, 0) ∧ dec prog_2_method_15_code 14 = some (.ireturn, 15, 0, 0) ∧ dec prog_2_method_15_code 15 = some (.aload_n 0, 16, 0, 0) ∧ dec prog_2_method_15_code 16 = some (.getfield 18, 19, 0, 0) ∧ dec prog_2_method_15_code 19 = some (.getfield 169, 22, 0, 0) ∧ dec prog_2_method_15_code 22 = some (.iload_n 3, 23, 3, 0) ∧ dec prog_2_method_15_code 23 = some (.iaload, 24, 0, 0) ∧ dec prog_2_method_15_code 24 = some (.istore 4, 26, 4, 0) ∧ dec prog_2_method_15_code 26 = some (.aload_n 0, 27, 0, 0) ∧ dec prog_2_method_15_code 27 = some (.getfield 18, 30, 0, 0) ∧ dec prog_2_method_15_code 30 = some (.getfield 166, 33, 0, 0) ∧ dec prog_2_method_15_code 33 = some (.iload_n 3, 34, 3, 0) ∧ dec prog_2_method_15_code 34 = some (.iaload, 35, 0, 0) ∧ dec prog_2_method_15_code 35 = some (.lookupswitch 57 #[(1, 25), (2, 40)], 60, 0, 0) ∧ dec prog_2_method_15_code 60 = some (.iload_n 2, 61, 2, 0) ∧ dec prog_2_method_15_code 61 = some (.iconst 1, 62, 0, 1) ∧ dec prog_2_method_15_code 62 = some (.if_icmp .lt 10, 65, 72, 0) ∧ dec prog_2_method_15_code 65 = some (.iload 4, 67, 4, 0) ∧ dec prog_2_method_15_code 67 = some (.iconst 5, 68, 0, 5) ∧ dec prog_2_method_15_code 68 = some (.iadd, 69, 0, 0) ∧ dec prog_2_method_15_code 69 = some (.goto 5, 72, 74, 0) ∧ dec prog_2_method_15_code 72 = some (.iload 4, 74, 4, 0) ∧ dec prog_2_method_15_code 74 = some (.ireturn, 75, 0, 0) ∧ dec prog_2_method_15_code 75 = some (.iload 4, 77, 4, 0) ∧ dec prog_2_method_15_code 77 = some (.iconst 2, 78, 0, 2) ∧ dec prog_2_method_15_code 78 = some (.aload_n 0, 79, 0, 0) ∧ dec prog_2_method_15_code 79 = some (.getfield 25, 82, 0, 0) ∧ dec prog_2_method_15_code 82 = some (.getfield 98, 85, 0, 0) ∧ dec prog_2_method_15_code 85 = some (.iload_n 1, 86, 1, 0) ∧ dec prog_2_method_15_code 86 = some (.iaload, 87, 0, 0) ∧ dec prog_2_method_15_code 87 = some (.iconst 1, 88, 0, 1) ∧ dec prog_2_method_15_code 88 = some (.isub, 89, 0, 0) ∧ dec prog_2_method_15_code 89 = some (.imul, 90, 0, 0) ∧ dec prog_2_method_15_code 90 = some (.iadd, 91, 0, 0) ∧ dec prog_2_method_15_code 91 = some (.ireturn, 92, 0, 0) ∧ dec prog_2_method_15_code 92 = some (.iload 4, 94, 4, 0) ∧ dec prog_2_method_15_code 94 = some (.ireturn, 95, 0, 0) := ⟨e_14_0, e_14_1, e_14_4, e_14_5, e_14_8, e_14_9, e_14_10, e_14_13, e_14_14, e_14_15, e_14_16, e_14_19, e_14_22, e_14_23, e_14_24, e_14_26, e_14_27, e_14_30, e_14_33, e_14_34, e_14_35, e_14_60, e_14_61, e_14_62, e_14_65, e_14_67, e_14_68, e_14_69, e_14_72, e_14_74, e_14_75, e_14_77, e_14_78, e_14_79, e_14_82, e_14_85, e_14_86, e_14_87, e_14_88, e_14_89, e_14_90, e_14_91, e_14_92, e_14_94⟩
theorem e_15_0 : dec prog_2_method_16_code 0 = some (.iconst 1, 1, 0, 1) := by decide +kernel
theorem e_15_1 : dec prog_2_method_16_code 1 = some (.aload_n 0, 2, 0, 0) := by decide +kernel
theorem e_15_2 : dec prog_2_method_16_code 2 = some (.getfield 9, 5, 0, 0) := by decide +kernel
theorem e_15_5 : dec prog_2_method_16_code 5 = some (.iconst 0, 6, 0, 0) := by decide +kernel
theorem e_15_6 : dec prog_2_method_16_code 6 = some (.iaload, 7, 0, 0) := by decide +kernel
theorem e_15_7 : dec prog_2_method_16_code 7 = some (.invokestatic 172, 10, 0, 0) := by decide +kernel
theorem e_15_10 : dec prog_2_method_16_code 10 = some (.istore_n 1, 11, 1, 0) := by decide +kernel
theorem e_15_11 : dec prog_2_method_16_code 11 = some (.iconst 0, 12, 0, 0) := by decide +kernel
theorem e_15_12 : dec prog_2_method_16_code 12 = some (.istore_n 2, 13, 2, 0) := by decide +kernel
theorem e_15_13 : dec prog_2_method_16_code 13 = some (.aload_n 0, 14, 0, 0) := by decide +kernel
theorem e_15_14 : dec prog_2_method_16_code 14 = some (.getfield 59, 17, 0, 0) := by decide +kernel
theorem e_15_17 : dec prog_2_method_16_code 17 = some (.iload_n 1, 18, 1, 0) := by decide +kernel
theorem e_15_18 : dec prog_2_method_16_code 18 = some (.iadd, 19, 0, 0) := by decide +kernel
theorem e_15_19 : dec prog_2_method_16_code 19 = some (.istore_n 3, 20, 3, 0) := by decide +kernel
theorem e_15_20 : dec prog_2_method_16_code 20 = some (.iload_n 3, 21, 3, 0) := by decide +kernel
theorem e_15_21 : dec prog_2_method_16_code 21 = some (.aload_n 0, 22, 0, 0) := by decide +kernel
theorem e_15_22 : dec prog_2_method_16_code 22 = some (.getfield 9, 25, 0, 0) := by decide +kernel
theorem e_15_25 : dec prog_2_method_16_code 25 = some (.iconst 1, 26, 0, 1) := by decide +kernel
theorem e_15_26 : dec prog_2_method_16_code 26 = some (.iaload, 27, 0, 0) := by decide +kernel
theorem e_15_27 : dec prog_2_method_16_code 27 = some (.if_icmp .ge 13, 30, 40, 0) := by decide +kernel
theorem e_15_30 : dec prog_2_method_16_code 30 = some (.iinc 2 1, 33, 2, 1) := by decide +kernel
theorem e_15_33 : dec prog_2_method_16_code 33 = some (.iload_n 3, 34, 3, 0) := by decide +kernel
theorem e_15_34 : dec prog_2_method_16_code 34 = some (.iload_n 1, 35, 1, 0) := by decide +kernel
theorem e_15_35 : dec prog_2_method_16_code 35 = some (.iadd, 36, 0, 0) := by decide +kernel
theorem e_15_36 : dec prog_2_method_16_code 36 = some (.istore_n 3, 37, 3, 0) := by decide +kernel
theorem e_15_37 : dec prog_2_method_16_code 37 = some (.goto (-17), 40, 20, 0) := by decide +kernel
theorem e_15_40 : dec prog_2_method_16_code 40 = some (.iload_n 2, 41, 2, 0) := by decide +kernel
theorem e_15_41 : dec prog_2_method_16_code 41 = some (.ireturn, 42, 0, 0) := by decide +kernel
theorem E_15 : dec prog_2_method_16_code 0 = some (.iconst 1, 1, 0, 1) ∧ dec prog_2_method_16_code 1 = some (.aload_n 0, 2, 0, 0) ∧ dec prog_2_method_16_code 2 = some (.getfield 9, 5, 0, 0) ∧ dec prog_2_method_16_code 5 = some (.iconst 0, 6, 0, 0) ∧ dec prog_2_method_16_code 6 = some (.iaload, 7, 0, 0) ∧ dec prog_2_method_16_code 7 = some (.invokestatic 172, 10, 0, 0) ∧ dec prog_2_method_16_code 10 = some (.istore_n 1, 11, 1, 0) ∧ dec prog_2_method_16_code 11 = some (.iconst 0, 12, 0, 0) ∧ dec prog_2_method_16_code 12 = some (.istore_n 2, 13, 2, 0) ∧ dec prog_2_method_16_code 13 = some (.aload_n 0, 14, 0, 0) ∧ dec prog_2_method_16_code 14 = some (.getfield 59, 17, 0, 0) ∧ dec prog_2_method_16_code 17 = some (.iload_n 1, 18, 1, 0) ∧ dec prog_2_method_16_code 18 = some (.iadd, 19, 0, 0) ∧ dec prog_2_method_16_code 19 = some (.istore_n 3, 20, 3, 0) ∧ dec prog_2_method_16_code 20 = some (.iload_n 3, 21, 3, 0) ∧ dec prog_2_method_16_code 21 = some (.aload_n 0, 22, 0, 0) ∧ dec prog_2_method_16_code 22 = some (.getfield 9, 25, 0, 0) ∧ dec prog_2_method_16_code 25 = some (.iconst 1, 26, 0, 1) ∧ dec prog_2_method_16_code 26 = some (.iaload, 27, 0, 0) ∧ dec prog_2_method_16_code 27 = some (.if_icmp .ge 13, 30, 40, 0) ∧ dec prog_2_method_16_code 30 = some (.iinc 2 1, 33, 2, 1) ∧ dec prog_2_method_16_code 33 = some (.iload_n 3, 34, 3, 0) ∧ dec prog_2_method_16_code 34 = some (.iload_n 1, 35, 1, 0) ∧ dec prog_2_method_16_code 35 = some (.iadd, 36, 0, 0) ∧ dec prog_2_method_16_code 36 = some (.istore_n 3, 37, 3, 0) ∧ dec prog_2_method_16_code 37 = some (.goto (-17), 40, 20, 0) ∧ dec prog_2_method_16_code 40 = some (.iload_n 2, 41, 2, 0) ∧ dec prog_2_method_16_code 41 = some (.ireturn, 42, 0, 0) := ⟨e_15_0, e_15_1, e_15_2, e_15_5, e_15_6, e_15_7, e_15_10, e_15_11, e_15_12, e_15_13, e_15_14, e_15_17, e_15_18, e_15_19, e_15_20, e_15_21, e_15_22, e_15_25, e_15_26, e_15_27, e_15_30, e_15_33, e_15_34, e_15_35, e_15_36, e_15_37, e_15_40, e_15_41⟩
theorem e_16_0 : dec prog_2_method_18_code 0 = some (.aload_n 0, 1, 0, 0) := by decide +kernel
theorem e_16_1 : dec prog_2_method_18_code 1 = some (.iload_n 1, 2, 1, 0) := by decide +kernel
theorem e_16_2 : dec prog_2_method_18_code 2 = some (.iconst 0, 3, 0, 0) := by decide +kernel
theorem e_16_3 : dec prog_2_method_18_code 3 = some (.invokevirtual 116, 6, 0, 0) := by decide +kernel
theorem e_16_6 : dec prog_2_method_18_code 6 = some (.istore_n 2, 7, 2, 0) := by decide +kernel
theorem e_16_7 : dec prog_2_method_18_code 7 = some (.iload_n 2, 8, 2, 0) := by decide +kernel
theorem e_16_8 : dec prog_2_method_18_code 8 = some (.bipush 10, 10, 0, 10) := by decide +kernel
theorem e_16_10 : dec prog_2_method_18_code 10 = some (.if_icmp .lt 10, 13, 20, 0) := by decide +kernel
theorem e_16_13 : dec prog_2_method_18_code 13 = some (.aload_n 0, 14, 0, 0) := by decide +kernel
theorem e_16_14 : dec prog_2_method_18_code 14 = some (.getfield 9, 17, 0, 0) := by decide +kernel
theorem e_16_17 : dec prog_2_method_18_code 17 = some (.iconst 0, 18, 0, 0) := by decide +kernel
theorem e_16_18 : dec prog_2_method_18_code 18 = some (.iaload, 19, 0, 0) := by decide +kernel
theorem e_16_19 : dec prog_2_method_18_code 19 = some (.ireturn, 20, 0, 0) := by decide +kernel
theorem e_16_20 : dec prog_2_method_18_code 20 = some (.iload_n 2, 21, 2, 0) := by decide +kernel
theorem e_16_21 : dec prog_2_method_18_code 21 = some (.iconst 2, 22, 0, 2) := by decide +kernel
theorem e_16_22 : dec prog_2_method_18_code 22 = some (.if_icmp .eq 18, 25, 40, 0) := by decide +kernel
theorem e_16_25 : dec prog_2_method_18_code 25 = some (.aload_n 0, 26, 0, 0) := by decide +kernel
theorem e_16_26 : dec prog_2_method_18_code 26 = some (.getfield 9, 29, 0, 0) := by decide +kernel
theorem e_16_29 : dec prog_2_method_18_code 29 = some (.iconst 3, 30, 0, 3) := by decide +kernel
theorem e_16_30 : dec prog_2_method_18_code 30 = some (.iaload, 31, 0, 0) := by decide +kernel
theorem e_16_31 : dec prog_2_method_18_code 31 = some (.aload_n 0, 32, 0, 0) := by decide +kernel
theorem e_16_32 : dec prog_2_method_18_code 32 = some (.iload_n 1, 33, 1, 0) := by decide +kernel
theorem e_16_33 : dec prog_2_method_18_code 33 = some (.iconst 0, 34, 0, 0) := by decide +kernel
theorem e_16_34 : dec prog_2_method_18_code 34 = some (.invokevirtual 163, 37, 0, 0) := by decide +kernel
theorem e_16_37 : dec prog_2_method_18_code 37 = some (.if_icmp .ge 6, 40, 43, 0) := by decide +kernel
theorem e_16_40 : dec prog_2_method_18_code 40 = some (.bipush (-6), 42, 0, (-6)) := by decide +kernel
theorem e_16_42 : dec prog_2_method_18_code 42 = some (.ireturn, 43, 0, 0) := by decide +kernel
theorem e_16_43 : dec prog_2_method_18_code 43 = some (.aload_n 0, 44, 0, 0) := by decide +kernel
theorem e_16_44 : dec prog_2_method_18_code 44 = some (.invokevirtual 180, 47, 0, 0) := by decide +kernel
theorem e_16_47 : dec prog_2_method_18_code 47 = some (.iconst 1, 48, 0, 1) := by decide +kernel
theorem e_16_48 : dec prog_2_method_18_code 48 = some (.iadd, 49, 0, 0) := by decide +kernel
theorem e_16_49 : dec prog_2_method_18_code 49 = some (.aload_n 0, 50, 0, 0) := by decide +kernel
theorem e_16_50 : dec prog_2_method_18_code 50 = some (.getfield 9, 53, 0, 0) := by decide +kernel
theorem e_16_53 : dec prog_2_method_18_code 53 = some (.iconst 0, 54, 0, 0) := by decide +kernel
theorem e_16_54 : dec prog_2_method_18_code 54 = some (.iaload, 55, 0, 0) := by decide +kernel
theorem e_16_55 : dec prog_2_method_18_code 55 = some (.imul, 56, 0, 0) := by decide +kernel
theorem e_16_56 : dec prog_2_method_18_code 56 = some (.ireturn, 57, 0, 0) := by decide +kernel
theorem E_16 : dec prog_2_method_18_code 0 = some (.aload_n 0, 1, 0, 0) ∧ dec prog_2_method_18_code 1 = some (.iload_n 1, 2, 1, 0) ∧ dec prog_2_method_18_code 2 = some (.iconst 0, 3, 0, 0) ∧ dec prog_2_method_18_code 3 = some (.invokevirtual 116, 6, 0, 0) ∧ dec prog_2_method_18_code 6 = some (.istore_n 2, 7, 2, 0) ∧ dec prog_2_method_18_code 7 = some (.iload_n 2, 8, 2, 0) ∧ dec prog_2_method_18_code 8 = some (.bipush 10, 10, 0, 10) ∧ dec prog_2_method_18_code 10 = some (.if_icmp .lt 10, 13, 20, 0) ∧ dec prog_2_method_18_code 13 = some (.aload_n 0, 14, 0, 0) ∧ dec prog_2_method_18_code 14 = some (.getfield 9, 17, 0, 0) ∧ dec prog_2_method_18_code 17 = some (.iconst 0, 18, 0, 0) ∧ dec prog_2_method_18_code 18 = some (.iaload, 19, 0, 0) ∧ dec prog_2_method_18_code 19 = some (.ireturn, 20, 0, 0) ∧ dec prog_2_method_18_code 20 = some (.iload_n 2, 21, 2, 0) ∧ dec prog_2_method_18_code 21 = some (.iconst 2, 22, 0, 2) ∧ dec prog_2_method_18_code 22 = some (.if_icmp .eq 18, 25, 40, 0) ∧ dec prog_2_method_18_code 25 = some (.aload_n 0, 26, 0, 0) ∧ dec prog_2_method_18_code 26 = some (.getfield 9, 29, 0, 0) ∧ dec prog_2_method_18_code 29 = some (.iconst 3, 30, 0, 3) ∧ dec prog_2_method_18_code 30 = some (.iaload, 31, 0, 0) ∧ dec prog_2_method_18_code 31 = some (.aload_n 0, 32, 0, 0) ∧ dec prog_2_method_18_code 32 = some (.iload_n 1, 33, 1, 0) ∧ dec prog_2_method_18_code 33 = some (.iconst 0, 34, 0, 0) ∧ dec prog_2_method_18_code 34 = some (.invokevirtual 163, 37, 0, 0) ∧ dec prog_2_method_18_code 37 = some (.if_icmp .ge 6, 40, 43, 0) ∧ dec prog_2_method_18_code 40 = some (.bipush (-6), 42, 0, (-6)) ∧ dec prog_2_method_18_code 42 = some (.ireturn, 43, 0, 0) ∧ dec prog_2_method_18_code 43 = some (.aload_n 0, 44, 0, 0) ∧ dec prog_2_method_18_code 44 = some (.invokevirtual 180, 47, 0, 0) ∧ dec prog_2_method_18_code 47 = some (.iconst 1, 48, 0, 1) ∧ dec prog_2_method_18_code 48 = some (.iadd, 49, 0, 0) ∧ dec prog_2_method_18_code 49 = some (.aload_n 0, 50, 0, 0) ∧ dec prog_2_method_18_code 50 = some (.getfield 9, 53, 0, 0) ∧ dec prog_2_method_18_code 53 = some (.iconst 0, 54, 0, 0) ∧ dec prog_2_method_18_code 54 = some (.iaload, 55, 0, 0) ∧ dec prog_2_method_18_code 55 = some (.imul, 56, 0, 0) ∧ dec prog_2_method_18_code 56 = some (.ireturn, 57, 0, 0) := ⟨e_16_0, e_16_1, e_16_2, e_16_3, e_16_6, e_16_7, e_16_8, e_16_10, e_16_13, e_16_14, e_16_17, e_16_18, e_16_19, e_16_20, e_16_21, e_16_22, e_16_25, e_16_26, e_16_29, e_16_30, e_16_31, e_16_32, e_16_33, e_16_34, e_16_37, e_16_40, e_16_42, e_16_43, e_16_44, e_16_47, e_16_48, e_16_49, e_16_50, e_16_53, e_16_54, e_16_55, e_16_56⟩
theorem e_17_0 : dec prog_3_method_1_code 0 = some (.aload_n 0, 1, 0, 0) := by decide +kernel
theorem e_17_1 : dec prog_3_method_1_code 1 = some (.invokespecial 3, 4, 0, 0) := by decide +kernel
theorem e_17_4 : dec prog_3_method_1_code 4 = some (.aload_n 0, 5, 0, 0) := by decide +kernel
theorem e_17_5 : dec prog_3_method_1_code 5 = some (.bipush 40, 7, 0, 40) := by decide +kernel
theorem e_17_7 : dec prog_3_method_1_code 7 = some (.newarray .int, 9, 0, 0) := by decide +kernel
theorem e_17_9 : dec prog_3_method_1_code 9 = some (.putfield 9, 12, 0, 0) := by decide +kernel
theorem e_17_12 : dec prog_3_method_1_code 12 = some (.return_, 13, 0, 0) := by decide +kernel
theorem E_17 : dec prog_3_method_1_code 0 = some (.aload_n 0, 1, 0, 0) ∧ dec prog_3_method_1_code 1 = some (.invokespecial 3, 4, 0, 0) ∧ dec prog_3_method_1_code 4 = some (.aload_n 0, 5, 0, 0) ∧ dec prog_3_method_1_code 5 = some (.bipush 40, 7, 0, 40) ∧ dec prog_3_method_1_code 7 = some (.newarray .int, 9, 0, 0) ∧ dec prog_3_method_1_code 9 = some (.putfield 9, 12, 0, 0) ∧ dec prog_3_method_1_code 12 = some (.return_, 13, 0, 0) := ⟨e_17_0, e_17_1, e_17_4, e_17_5, e_17_7, e_17_9, e_17_12⟩
theorem e_18_0 : dec prog_3_method_2_code 0 = some (.aload_n 1, 1, 1, 0) := by decide +kernel
theorem e_18_1 : dec prog_3_method_2_code 1 = some (.getfield 9, 4, 0, 0) := by decide +kernel
theorem e_18_4 : dec prog_3_method_2_code 4 = some (.iconst 0, 5, 0, 0) := by decide +kernel
theorem e_18_5 : dec prog_3_method_2_code 5 = some (.aload_n 0, 6, 0, 0) := by decide +kernel
theorem e_18_6 : dec prog_3_method_2_code 6 = some (.getfield 9, 9, 0, 0) := by decide +kernel
theorem e_18_9 : dec prog_3_method_2_code 9 = some (.iconst 0, 10, 0, 0) := by decide +kernel
theorem e_18_10 : dec prog_3_method_2_code 10 = some (.bipush 40, 12, 0, 40) := by decide +kernel
theorem e_18_12 : dec prog_3_method_2_code 12 = some (.invokestatic 15, 15, 0, 0) := by decide +kernel
theorem e_18_15 : dec prog_3_method_2_code 15 = some (.aload_n 0, 16, 0, 0) := by decide +kernel
theorem e_18_16 : dec prog_3_method_2_code 16 = some (.aload_n 1, 17, 1, 0) := by decide +kernel
theorem e_18_17 : dec prog_3_method_2_code 17 = some (.getfield 21, 20, 0, 0) := by decide +kernel
theorem e_18_20 : dec prog_3_method_2_code 20 = some (.putfield 21, 23, 0, 0) := by decide +kernel
theorem e_18_23 : dec prog_3_method_2_code 23 = some (.aload_n 0, 24, 0, 0) := by decide +kernel
theorem e_18_24 : dec prog_3_method_2_code 24 = some (.aload_n 1, 25, 1, 0) := by decide +kernel
theorem e_18_25 : dec prog_3_method_2_code 25 = some (.getfield 25, 28, 0, 0) := by decide +kernel
theorem e_18_28 : dec prog_3_method_2_code 28 = some (.putfield 25, 31, 0, 0) := by decide +kernel
theorem e_18_31 : dec prog_3_method_2_code 31 = some (.return_, 32, 0, 0) := by decide +kernel
theorem E_18 : dec prog_3_method_2_code 0 = some (.aload_n 1, 1, 1, 0) ∧ dec prog_3_method_2_code 1 = some (.getfield 9, 4, 0, 0) ∧ dec prog_3_method_2_code 4 = some (.iconst 0, 5, 0, 0) ∧ dec prog_3_method_2_code 5 = some (.aload_n 0, 6, 0, 0) ∧ dec prog_3_method_2_code 6 = some (.getfield 9, 9, 0, 0) ∧ dec prog_3_method_2_code 9 = some (.iconst 0, 10, 0, 0) ∧ dec prog_3_method_2_code 10 = some (.bipush 40, 12, 0, 40) ∧ dec prog_3_method_2_code 12 = some (.invokestatic 15, 15, 0, 0) ∧ dec prog_3_method_2_code 15 = some (.aload_n 0, 16, 0, 0) ∧ dec prog_3_method_2_code 16 = some (.aload_n 1, 17, 1, 0) ∧ dec prog_3_method_2_code 17 = some (.getfield 21, 20, 0, 0) ∧ dec prog_3_method_2_code 20 = some (.putfield 21, 23, 0, 0) ∧ dec prog_3_method_2_code 23 = some (.aload_n 0, 24, 0, 0) ∧ dec prog_3_method_2_code 24 = some (.aload_n 1, 25, 1, 0) ∧ dec prog_3_method_2_code 25 = some (.getfield 25, 28, 0, 0) ∧ dec prog_3_method_2_code 28 = some (.putfield 25, 31, 0, 0) ∧ dec prog_3_method_2_code 31 = some (.return_, 32, 0, 0) := ⟨e_18_0, e_18_1, e_18_4, e_18_5, e_18_6, e_18_9, e_18_10, e_18_12, e_18_15, e_18_16, e_18_17, e_18_20, e_18_23, e_18_24, e_18_25, e_18_28, e_18_31⟩
theorem e_19_0 : dec prog_3_method_3_code 0 = some (.aload_n 0, 1, 0, 0) := by decide +kernel
theorem e_19_1 : dec prog_3_method_3_code 1 = some (.aload_n 0, 2, 0, 0) := by decide +kernel
theorem e_19_2 : dec prog_3_method_3_code 2 = some (.getfield 25, 5, 0, 0) := by decide +kernel
theorem e_19_5 : dec prog_3_method_3_code 5 = some (.iconst 1, 6, 0, 1) := by decide +kernel
theorem e_19_6 : dec prog_3_method_3_code 6 = some (.iadd, 7, 0, 0) := by decide +kernel
theorem e_19_7 : dec prog_3_method_3_code 7 = some (.bipush 10, 9, 0, 10) := by decide +kernel
theorem e_19_9 : dec prog_3_method_3_code 9 = some (.irem, 10, 0, 0) := by decide +kernel
theorem e_19_10 : dec prog_3_method_3_code 10 = some (.putfield 25, 13, 0, 0) := by decide +kernel
theorem e_19_13 : dec prog_3_method_3_code 13 = some (.aload_n 0, 14, 0, 0) := by decide +kernel
theorem e_19_14 : dec prog_3_method_3_code 14 = some (.aload_n 0, 15, 0, 0) := by decide +kernel
theorem e_19_15 : dec prog_3_method_3_code 15 = some (.getfield 21, 18, 0, 0) := by decide +kernel
theorem e_19_18 : dec prog_3_method_3_code 18 = some (.iconst 1, 19, 0, 1) := by decide +kernel
theorem e_19_19 : dec prog_3_method_3_code 19 = some (.iadd, 20, 0, 0) := by decide +kernel
theorem e_19_20 : dec prog_3_method_3_code 20 = some (.bipush 10, 22, 0, 10) := by decide +kernel
theorem e_19_22 : dec prog_3_method_3_code 22 = some (.invokestatic 28, 25, 0, 0) := by decide +kernel
theorem e_19_25 : dec prog_3_method_3_code 25 = some (.putfield 21, 28, 0, 0) := by decide +kernel
theorem e_19_28 : dec prog_3_method_3_code 28 = some (.aload_n 0, 29, 0, 0) := by decide +kernel
theorem e_19_29 : dec prog_3_method_3_code 29 = some (.getfield 25, 32, 0, 0) := by decide +kernel
theorem e_19_32 : dec prog_3_method_3_code 32 = some (.iconst 4, 33, 0, 4) := by decide +kernel
theorem e_19_33 : dec prog_3_method_3_code 33 = some (.imul, 34, 0, 0) := by decide +kernel
theorem e_19_34 : dec prog_3_method_3_code 34 = some (.istore 5, 36, 5, 0) := by decide +kernel
theorem e_19_36 : dec prog_3_method_3_code 36 = some (.aload_n 0, 37, 0, 0) := by decide +kernel
theorem e_19_37 : dec prog_3_method_3_code 37 = some (.getfield 9, 40, 0, 0) := by decide +kernel
theorem e_19_40 : dec prog_3_method_3_code 40 = some (.iload 5, 42, 5, 0) := by decide +kernel
theorem e_19_42 : dec prog_3_method_3_code 42 = some (.iload_n 1, 43, 1, 0) := by decide +kernel
theorem e_19_43 : dec prog_3_method_3_code 43 = some (.iastore, 44, 0, 0) := by decide +kernel
theorem e_19_44 : dec prog_3_method_3_code 44 = some (.aload_n 0, 45, 0, 0) := by decide +kernel
theorem e_19_45 : dec prog_3_method_3_code 45 = some (.getfield 9, 48, 0, 0) := by decide +kernel
theorem e_19_48 : dec prog_3_method_3_code 48 = some (.iload 5, 50, 5, 0) := by decide +kernel
theorem e_19_50 : dec prog_3_method_3_code 50 = some (.iconst 1, 51, 0, 1) := by decide +kernel
theorem e_19_51 : dec prog_3_method_3_code 51 = some (.iadd, 52, 0, 0) := by decide +kernel
theorem e_19_52 : dec prog_3_method_3_code 52 = some (.iload_n 2, 53, 2, 0) := by decide +kernel
theorem e_19_53 : dec prog_3_method_3_code 53 = some (.iastore, 54, 0, 0) := by decide +kernel
theorem e_19_54 : dec prog_3_method_3_code 54 = some (.aload_n 0, 55, 0, 0) := by decide +kernel
theorem e_19_55 : dec prog_3_method_3_code 55 = some (.getfield 9, 58, 0, 0) := by decide +kernel
theorem e_19_58 : dec prog_3_method_3_code 58 = some (.iload 5, 60, 5, 0) := by decide +kernel
theorem e_19_60 : dec prog_3_method_3_code 60 = some (.iconst 2, 61, 0, 2) := by decide +kernel
theorem e_19_61 : dec prog_3_method_3_code 61 = some (.iadd, 62, 0, 0) := by decide +kernel
theorem e_19_62 : dec prog_3_method_3_code 62 = some (.iload_n 3, 63, 3, 0) := by decide +kernel
theorem e_19_63 : dec prog_3_method_3_code 63 = some (.iastore, 64, 0, 0) := by decide +kernel
theorem e_19_64 : dec prog_3_method_3_code 64 = some (.aload_n 0, 65, 0, 0) := by decide +kernel
theorem e_19_65 : dec prog_3_method_3_code 65 = some (.getfield 9, 68, 0, 0) := by decide +kernel
theorem e_19_68 : dec prog_3_method_3_code 68 = some (.iload 5, 70, 5, 0) := by decide +kernel
theorem e_19_70 : dec prog_3_method_3_code 70 = some (.iconst 3, 71, 0, 3) := by decide +kernel
theorem e_19_71 : dec prog_3_method_3_code 71 = some (.iadd, 72, 0, 0) := by decide +kernel
theorem e_19_72 : dec prog_3_method_3_code 72 = some (.iload 4, 74, 4, 0) := by decide +kernel
theorem e_19_74 : dec prog_3_method_3_code 74 = some (.ifCond .eq 7, 77, 81, 0) := by decide +kernel
theorem e_19_77 : dec prog_3_method_3_code 77 = some (.iconst 1, 78, 0, 1) := by decide +kernel
theorem e_19_78 : dec prog_3_method_3_code 78 = some (.goto 4, 81, 82, 0) := by decide +kernel
theorem e_19_81 : dec prog_3_method_3_code 81 = some (.iconst 0, 82, 0, 0) := by decide +kernel
theorem e_19_82 : dec prog_3_method_3_code 82 = some (.iastore, 83, 0, 0) := by decide +kernel
theorem e_19_83 : dec prog_3_method_3_code 83 = some (.return_, 84, 0, 0) := by decide +kernel
theorem E_19 : dec prog_3_method_3_code 0 = some (.aload_n 0, 1, 0, 0) ∧ dec prog_3_method_3_code 1 = some (.aload_n 0, 2, 0, 0) ∧ dec prog_3_method_3_code 2 = some (.getfield 25, 5, 0, 0) ∧ dec prog_3_method_3_code 5 = some (.iconst 1, 6, 0, 1) ∧ dec prog_3_method_3_code 6 = some (.iadd, 7, 0, 0) ∧ dec prog_3_method_3_code 7 = some (.bipush 10, 9, 0, 10) ∧ dec prog_3_method_3_code 9 = some (.irem, 10, 0, 0) ∧ dec prog_3_method_3_code 10 = some (.putfield 25, 13, 0, 0) ∧ dec prog_3_method_3_code 13 = some (.aload_n 0, 14, 0, 0) ∧ dec prog_3_method_3_code 14 = some (.aload_n 0, 15, 0, 0) ∧ dec prog_3_method_3_code 15 = some (.getfield 21, 18, 0, 0) ∧ dec prog_3_method_3_code 18 = some (.iconst 1, 19, 0, 1) ∧ dec prog_3_method_3_code 19 = some (.iadd, 20, 0, 0) ∧ dec prog_3_method_3_code 20 = some (.bipush 10, 22, 0, 10) ∧ dec prog_3_method_3_code 22 = some (.invokestatic 28, 25, 0, 0) ∧ dec prog_3_method_3_code 25 = some (.putfield 21, 28, 0, 0) ∧ dec prog_3_method_3_code 28 = some (.aload_n 0, 29, 0, 0) ∧ dec prog_3_method_3_code 29 = some (.getfield 25, 32, 0, 0) ∧ dec prog_3_method_3_code 32 = some (.iconst 4, 33, 0, 4) ∧ dec prog_3_method_3_code 33 = some (.imul, 34, 0, 0) ∧ dec prog_3_method_3_code 34 = some (.istore 5, 36, 5, 0) ∧ dec prog_3_method_3_code 36 = some (.aload_n 0, 37, 0, 0) ∧ dec prog_3_method_3_code 37 = some (.getfield 9, 40, 0, 0) ∧ dec prog_3_method_3_code 40 = some (.iload 5, 42, 5, 0) ∧ dec prog_3_method_3_code 42 = some (.iload_n 1, 43, 1, 0) ∧ dec prog_3_method_3_code 43 = some (.iastore, 44, 0, 0) ∧ dec prog_3_method_3_code 44 = some (.aload_n 0, 45, 0, 0) ∧ dec prog_3_method_3_code 45 = some (.getfield 9, 48, 0, 0) ∧ dec prog_3_method_3_code 48 = some (.iload 5, 50, 5, 0) ∧ dec prog_3_method_3_code 50 = some (.iconst 1, 51, 0, 1) ∧ dec prog_3_method_3_code 51 = some (.iadd, 52, 0, 0) ∧ dec prog_3_method_3_code 52 = some (.iload_n 2, 53, 2, 0) ∧ dec prog_3_method_3_code 53 = some (.iastore, 54, 0, 0) ∧ dec prog_3_method_3_code 54 = some (.aload_n 0, 55, 0, 0) ∧ dec prog_3_method_3_code 55 = some (.getfield 9, 58, 0, 0) ∧ dec prog_3_method_3_code 58 = some (.iload 5, 60, 5, 0) ∧ dec prog_3_method_3_code 60 = some (.iconst 2, 61, 0, 2) ∧ dec prog_3_method_3_code 61 = some (.iadd, 62, 0, 0) ∧ dec prog_3_method_3_code 62 = some (.iload_n 3, 63, 3, 0) ∧ dec prog_3_method_3_code 63 = some (.iastore, 64, 0, 0) ∧ dec prog_3_method_3_code 64 = some (.aload_n 0, 65, 0, 0) ∧ dec prog_3_method_3_code 65 = some (.getfield 9, 68, 0, 0) ∧ dec prog_3_method_3_code 68 = some (.iload 5, 70, 5, 0) ∧ dec prog_3_method_3_code 70 = some (.iconst 3, 71, 0, 3) ∧ dec prog_3_method_3_code 71 = some (.iadd, 72, 0, 0) ∧ dec prog_3_method_3_code 72 = some (.iload 4, 74, 4, 0) ∧ dec prog_3_method_3_code 74 = some (.ifCond .eq 7, 77, 81, 0) ∧ dec prog_3_method_3_code 77 = some (.iconst 1, 78, 0, 1) ∧ dec prog_3_method_3_code 78 = some (.goto 4, 81, 82, 0) ∧ dec prog_3_method_3_code 81 = some (.iconst 0, 82, 0, 0) ∧ dec prog_3_method_3_code 82 = some (.iastore, 83, 0, 0) ∧ dec prog_3_method_3_code 83 = some (.return_, 84, 0, 0) := ⟨e_19_0, e_19_1, e_19_2, e_19_5, e_19_6, e_19_7, e_19_9, e_19_10, e_19_13, e_19_14, e_19_15, e_19_18, e_19_19, e_19_20, e_19_22, e_19_25, e_19_28, e_19_29, e_19_32, e_19_33, e_19_34, e_19_36, e_19_37, e_19_40, e_19_42, e_19_43, e_19_44, e_19_45, e_19_48, e_19_50, e_19_51, e_19_52, e_19_53, e_19_54, e_19_55, e_19_58, e_19_60, e_19_61, e_19_62, e_19_63, e_19_64, e_19_65, e_19_68, e_19_70, e_19_71, e_19_72, e_19_74, e_19_77, e_19_78, e_19_81, e_19_82, e_19_83⟩
theorem e_20_0 : dec prog_3_method_4_code 0 = some (.aload_n 0, 1, 0, 0) := by decide +kernel
theorem e_20_1 : dec prog_3_method_4_code 1 = some (.getfield 25, 4, 0, 0) := by decide +kernel
theorem e_20_4 : dec prog_3_method_4_code 4 = some (.iload_n 1, 5, 1, 0) := by decide +kernel
theorem e_20_5 : dec prog_3_method_4_code 5 = some (.isub, 6, 0, 0) := by decide +kernel
theorem e_20_6 : dec prog_3_method_4_code 6 = some (.bipush 10, 8, 0, 10) := by decide +kernel
theorem e_20_8 : dec prog_3_method_4_code 8 = some (.iadd, 9, 0, 0) := by decide +kernel
theorem e_20_9 : dec prog_3_method_4_code 9 = some (.bipush 10, 11, 0, 10) := by decide +kernel
theorem e_20_11 : dec prog_3_method_4_code 11 = some (.irem, 12, 0, 0) := by decide +kernel
theorem e_20_12 : dec prog_3_method_4_code 12 = some (.istore_n 3, 13, 3, 0) := by decide +kernel
theorem e_20_13 : dec prog_3_method_4_code 13 = some (.aload_n 0, 14, 0, 0) := by decide +kernel
theorem e_20_14 : dec prog_3_method_4_code 14 = some (.getfield 9, 17, 0, 0) := by decide +kernel
theorem e_20_17 : dec prog_3_method_4_code 17 = some (.iload_n 3, 18, 3, 0) := by decide +kernel
theorem e_20_18 : dec prog_3_method_4_code 18 = some (.iconst 4, 19, 0, 4) := by decide +kernel
theorem e_20_19 : dec prog_3_method_4_code 19 = some (.imul, 20, 0, 0) := by decide +kernel
theorem e_20_20 : dec prog_3_method_4_code 20 = some (.iload_n 2, 21, 2, 0) := by decide +kernel
theorem e_20_21 : dec prog_3_method_4_code 21 = some (.iadd, 22, 0, 0) := by decide +kernel
theorem e_20_22 : dec prog_3_method_4_code 22 = some (.iaload, 23, 0, 0) := by decide +kernel
theorem e_20_23 : dec prog_3_method_4_code 23 = some (.ireturn, 24, 0, 0) := by decide +kernel
theorem E_20 : dec prog_3_method_4_code 0 = some (.aload_n 0, 1, 0, 0) ∧ dec prog_3_method_4_code 1 = some (.getfield 25, 4, 0, 0) ∧ dec prog_3_method_4_code 4 = some (.iload_n 1, 5, 1, 0) ∧ dec prog_3_method_4_code 5 = some (.isub, 6, 0, 0) ∧ dec prog_3_method_4_code 6 = some (.bipush 10, 8, 0, 10) ∧ dec prog_3_method_4_code 8 = some (.iadd, 9, 0, 0) ∧ dec prog_3_method_4_code 9 = some (.bipush 10, 11, 0, 10) ∧ dec prog_3_method_4_code 11 = some (.irem, 12, 0, 0) ∧ dec prog_3_method_4_code 12 = some (.istore_n 3, 13, 3, 0) ∧ dec prog_3_method_4_code 13 = some (.aload_n 0, 14, 0, 0) ∧ dec prog_3_method_4_code 14 = some (.getfield 9, 17, 0, 0) ∧ dec prog_3_method_4_code 17 = some (.iload_n 3, 18, 3, 0) ∧ dec prog_3_method_4_code 18 = some (.iconst 4, 19, 0, 4) ∧ dec prog_3_method_4_code 19 = some (.imul, 20, 0, 0) ∧ dec prog_3_method_4_code 20 = some (.iload_n 2, 21, 2, 0) ∧ dec prog_3_method_4_code 21 = some (.iadd, 22, 0, 0) ∧ dec prog_3_method_4_code 22 = some (.iaload, 23, 0, 0) ∧ dec prog_3_method_4_code 23 = some (.ireturn, 24, 0, 0) := ⟨e_20_0, e_20_1, e_20_4, e_20_5, e_20_6, e_20_8, e_20_9, e_20_11, e_20_12, e_20_13, e_20_14, e_20_17, e_20_18, e_20_19, e_20_20, e_20_21, e_20_22, e_20_23⟩
theorem e_21_0 : dec prog_4_method_1_code 0 = some (.aload_n 0, 1, 0, 0) := by decide +kernel
theorem e_21_1 : dec prog_4_method_1_code 1 = some (.invokespecial 3, 4, 0, 0) := by decide +kernel
theorem e_21_4 : dec prog_4_method_1_code 4 = some (.aload_n 0, 5, 0, 0) := by decide +kernel
theorem e_21_5 : dec prog_4_method_1_code 5 = some (.bipush 7, 7, 0, 7) := by decide +kernel
theorem e_21_7 : dec prog_4_method_1_code 7 = some (.anewarray 9, 10, 0, 0) := by decide +kernel
theorem e_21_10 : dec prog_4_method_1_code 10 = some (.putfield 11, 13, 0, 0) := by decide +kernel
theorem e_21_13 : dec prog_4_method_1_code 13 = some (.iconst 0, 14, 0, 0) := by decide +kernel
theorem e_21_14 : dec prog_4_method_1_code 14 = some (.istore_n 1, 15, 1, 0) := by decide +kernel
theorem e_21_15 : dec prog_4_method_1_code 15 = some (.iload_n 1, 16, 1, 0) := by decide +kernel
theorem e_21_16 : dec prog_4_method_1_code 16 = some (.bipush 6, 18, 0, 6) := by decide +kernel
theorem e_21_18 : dec prog_4_method_1_code 18 = some (.if_icmp .gt 22, 21, 40, 0) := by decide +kernel
theorem e_21_21 : dec prog_4_method_1_code 21 = some (.aload_n 0, 22, 0, 0) := by decide +kernel
theorem e_21_22 : dec prog_4_method_1_code 22 = some (.getfield 11, 25, 0, 0) := by decide +kernel
theorem e_21_25 : dec prog_4_method_1_code 25 = some (.iload_n 1, 26, 1, 0) := by decide +kernel
theorem e_21_26 : dec prog_4_method_1_code 26 = some (.new 9, 29, 0, 0) := by decide +kernel
theorem e_21_29 : dec prog_4_method_1_code 29 = some (.dup, 30, 0, 0) := by decide +kernel
theorem e_21_30 : dec prog_4_method_1_code 30 = some (.invokespecial 17, 33, 0, 0) := by decide +kernel
theorem e_21_33 : dec prog_4_method_1_code 33 = some (.aastore, 34, 0, 0) := by decide +kernel
theorem e_21_34 : dec prog_4_method_1_code 34 = some (.iinc 1 1, 37, 1, 1) := by decide +kernel
theorem e_21_37 : dec prog_4_method_1_code 37 = some (.goto (-22), 40, 15, 0) := by decide +kernel
theorem e_21_40 : dec prog_4_method_1_code 40 = some (.return_, 41, 0, 0) := by decide +kernel
theorem E_21 : dec prog_4_method_1_code 0 = some (.aload_n 0, 1, 0, 0) ∧ dec prog_4_method_1_code 1 = some (.invokespecial 3, 4, 0, 0) ∧ dec prog_4_method_1_code 4 = some (.aload_n 0, 5, 0, 0) ∧ dec prog_4_method_1_code 5 = some (.bipush 7, 7, 0, 7) ∧ dec prog_4_method_1_code 7 = some (.anewarray 9, 10, 0, 0) ∧ dec prog_4_method_1_code 10 = some (.putfield 11, 13, 0, 0) ∧ dec prog_4_method_1_code 13 = some (.iconst 0, 14, 0, 0) ∧ dec prog_4_method_1_code 14 = some (.istore_n 1, 15, 1, 0) ∧ dec prog_4_method_1_code 15 = some (.iload_n 1, 16, 1, 0) ∧ dec prog_4_method_1_code 16 = some (.bipush 6, 18, 0, 6) ∧ dec prog_4_method_1_code 18 = some (.if_icmp .gt 22, 21, 40, 0) ∧ dec prog_4_method_1_code 21 = some (.aload_n 0, 22, 0, 0) ∧ dec prog_4_method_1_code 22 = some (.getfield 11, 25, 0, 0) ∧ dec prog_4_method_1_code 25 = some (.iload_n 1, 26, 1, 0) ∧ dec prog_4_method_1_code 26 = some (.new 9, 29, 0, 0) ∧ dec prog_4_method_1_code 29 = some (.dup, 30, 0, 0) ∧ dec prog_4_method_1_code 30 = some (.invokespecial 17, 33, 0, 0) ∧ dec prog_4_method_1_code 33 = some (.aastore, 34, 0, 0) ∧ dec prog_4_method_1_code 34 = some (.iinc 1 1, 37, 1, 1) ∧ dec prog_4_method_1_code 37 = some (.goto (-22), 40, 15, 0) ∧ dec prog_4_method_1_code 40 = some (.return_, 41, 0, 0) := ⟨e_21_0, e_21_1, e_21_4, e_21_5, e_21_7, e_21_10, e_21_13, e_21_14, e_21_15, e_21_16, e_21_18, e_21_21, e_21_22, e_21_25, e_21_26, e_21_29, e_21_30, e_21_33, e_21_34, e_21_37, e_21_40⟩
theorem e_22_0 : dec prog_4_method_2_code 0 = some (.aload_n 0, 1, 0, 0) := by decide +kernel
theorem e_22_1 : dec prog_4_method_2_code 1 = some (.getfield 11, 4, 0, 0) := by decide +kernel
theorem e_22_4 : dec prog_4_method_2_code 4 = some (.aload_n 0, 5, 0, 0) := by decide +kernel
theorem e_22_5 : dec prog_4_method_2_code 5 = some (.getfield 18, 8, 0, 0) := by decide +kernel
theorem e_22_8 : dec prog_4_method_2_code 8 = some (.aaload, 9, 0, 0) := by decide +kernel
theorem e_22_9 : dec prog_4_method_2_code 9 = some (.aload_n 1, 10, 1, 0) := by decide +kernel
theorem e_22_10 : dec prog_4_method_2_code 10 = some (.invokevirtual 22, 13, 0, 0) := by decide +kernel
theorem e_22_13 : dec prog_4_method_2_code 13 = some (.return_, 14, 0, 0) := by decide +kernel
theorem E_22 : dec prog_4_method_2_code 0 = some (.aload_n 0, 1, 0, 0) ∧ dec prog_4_method_2_code 1 = some (.getfield 11, 4, 0, 0) ∧ dec prog_4_method_2_code 4 = some (.aload_n 0, 5, 0, 0) ∧ dec prog_4_method_2_code 5 = some (.getfield 18, 8, 0, 0) ∧ dec prog_4_method_2_code 8 = some (.aaload, 9, 0, 0) ∧ dec prog_4_method_2_code 9 = some (.aload_n 1, 10, 1, 0) ∧ dec prog_4_method_2_code 10 = some (.invokevirtual 22, 13, 0, 0) ∧ dec prog_4_method_2_code 13 = some (.return_, 14, 0, 0) := ⟨e_22_0, e_22_1, e_22_4, e_22_5, e_22_8, e_22_9, e_22_10, e_22_13⟩
theorem e_23_0 : dec prog_4_method_3_code 0 = some (.aload_n 0, 1, 0, 0) := by decide +kernel
theorem e_23_1 : dec prog_4_method_3_code 1 = some (.aload_n 0, 2, 0, 0) := by decide +kernel
theorem e_23_2 : dec prog_4_method_3_code 2 = some (.getfield 18, 5, 0, 0) := by decide +kernel
theorem e_23_5 : dec prog_4_method_3_code 5 = some (.iconst 1, 6, 0, 1) := by decide +kernel
theorem e_23_6 : dec prog_4_method_3_code 6 = some (.iadd, 7, 0, 0) := by decide +kernel
theorem e_23_7 : dec prog_4_method_3_code 7 = some (.bipush 7, 9, 0, 7) := by decide +kernel
theorem e_23_9 : dec prog_4_method_3_code 9 = some (.irem, 10, 0, 0) := by decide +kernel
theorem e_23_10 : dec prog_4_method_3_code 10 = some (.putfield 18, 13, 0, 0) := by decide +kernel
theorem e_23_13 : dec prog_4_method_3_code 13 = some (.aload_n 0, 14, 0, 0) := by decide +kernel
theorem e_23_14 : dec prog_4_method_3_code 14 = some (.aload_n 0, 15, 0, 0) := by decide +kernel
theorem e_23_15 : dec prog_4_method_3_code 15 = some (.getfield 26, 18, 0, 0) := by decide +kernel
theorem e_23_18 : dec prog_4_method_3_code 18 = some (.iconst 1, 19, 0, 1) := by decide +kernel
theorem e_23_19 : dec prog_4_method_3_code 19 = some (.iadd, 20, 0, 0) := by decide +kernel
theorem e_23_20 : dec prog_4_method_3_code 20 = some (.bipush 6, 22, 0, 6) := by decide +kernel
theorem e_23_22 : dec prog_4_method_3_code 22 = some (.invokestatic 29, 25, 0, 0) := by decide +kernel
theorem e_23_25 : dec prog_4_method_3_code 25 = some (.putfield 26, 28, 0, 0) := by decide +kernel
theorem e_23_28 : dec prog_4_method_3_code 28 = some (.return_, 29, 0, 0) := by decide +kernel
theorem E_23 : dec prog_4_method_3_code 0 = some (.aload_n 0, 1, 0, 0) ∧ dec prog_4_method_3_code 1 = some (.aload_n 0, 2, 0, 0) ∧ dec prog_4_method_3_code 2 = some (.getfield 18, 5, 0, 0) ∧ dec prog_4_method_3_code 5 = some (.iconst 1, 6, 0, 1) ∧ dec prog_4_method_3_code 6 = some (.iadd, 7, 0, 0) ∧ dec prog_4_method_3_code 7 = some (.bipush 7, 9, 0, 7) ∧ dec prog_4_method_3_code 9 = some (.irem, 10, 0, 0) ∧ dec prog_4_method_3_code 10 = some (.putfield 18, 13, 0, 0) ∧ dec prog_4_method_3_code 13 = some (.aload_n 0, 14, 0, 0) ∧ dec prog_4_method_3_code 14 = some (.aload_n 0, 15, 0, 0) ∧ dec prog_4_method_3_code 15 = some (.getfield 26, 18, 0, 0) ∧ dec prog_4_method_3_code 18 = some (.iconst 1, 19, 0, 1) ∧ dec prog_4_method_3_code 19 = some (.iadd, 20, 0, 0) ∧ dec prog_4_method_3_code 20 = some (.bipush 6, 22, 0, 6) ∧ dec prog_4_method_3_code 22 = some (.invokestatic 29, 25, 0, 0) ∧ dec prog_4_method_3_code 25 = some (.putfield 26, 28, 0, 0) ∧ dec prog_4_method_3_code 28 = some (.return_, 29, 0, 0) := ⟨e_23_0, e_23_1, e_23_2, e_23_5, e_23_6, e_23_7, e_23_9, e_23_10, e_23_13, e_23_14, e_23_15, e_23_18, e_23_19, e_23_20, e_23_22, e_23_25, e_23_28⟩
theorem e_24_0 : dec prog_4_method_4_code 0 = some (.aload_n 0, 1, 0, 0) := by decide +kernel
theorem e_24_1 : dec prog_4_method_4_code 1 = some (.aload_n 0, 2, 0, 0) := by decide +kernel
theorem e_24_2 : dec prog_4_method_4_code 2 = some (.getfield 18, 5, 0, 0) := by decide +kernel
theorem e_24_5 : dec prog_4_method_4_code 5 = some (.bipush 6, 7, 0, 6) := by decide +kernel
theorem e_24_7 : dec prog_4_method_4_code 7 = some (.iadd, 8, 0, 0) := by decide +kernel
theorem e_24_8 : dec prog_4_method_4_code 8 = some (.bipush 7, 10, 0, 7) := by decide +kernel
theorem e_24_10 : dec prog_4_method_4_code 10 = some (.irem, 11, 0, 0) := by decide +kernel
theorem e_24_11 : dec prog_4_method_4_code 11 = some (.putfield 18, 14, 0, 0) := by decide +kernel
theorem e_24_14 : dec prog_4_method_4_code 14 = some (.aload_n 0, 15, 0, 0) := by decide +kernel
theorem e_24_15 : dec prog_4_method_4_code 15 = some (.dup, 16, 0, 0) := by decide +kernel
theorem e_24_16 : dec prog_4_method_4_code 16 = some (.getfield 26, 19, 0, 0) := by decide +kernel
theorem e_24_19 : dec prog_4_method_4_code 19 = some (.iconst 1, 20, 0, 1) := by decide +kernel
theorem e_24_20 : dec prog_4_method_4_code 20 = some (.isub, 21, 0, 0) := by decide +kernel
theorem e_24_21 : dec prog_4_method_4_code 21 = some (.putfield 26, 24, 0, 0) := by decide +kernel
theorem e_24_24 : dec prog_4_method_4_code 24 = some (.aload_n 1, 25, 1, 0) := by decide +kernel
theorem e_24_25 : dec prog_4_method_4_code 25 = some (.aload_n 0, 26, 0, 0) := by decide +kernel
theorem e_24_26 : dec prog_4_method_4_code 26 = some (.getfield 11, 29, 0, 0) := by decide +kernel
theorem e_24_29 : dec prog_4_method_4_code 29 = some (.aload_n 0, 30, 0, 0) := by decide +kernel
theorem e_24_30 : dec prog_4_method_4_code 30 = some (.getfield 18, 33, 0, 0) := by decide +kernel
theorem e_24_33 : dec prog_4_method_4_code 33 = some (.aaload, 34, 0, 0) := by decide +kernel
theorem e_24_34 : dec prog_4_method_4_code 34 = some (.invokevirtual 22, 37, 0, 0) := by decide +kernel
theorem e_24_37 : dec prog_4_method_4_code 37 = some (.return_, 38, 0, 0) := by decide +kernel
theorem E_24 : dec prog_4_method_4_code 0 = some (.aload_n 0, 1, 0, 0) ∧ dec prog_4_method_4_code 1 = some (.aload_n 0, 2, 0, 0) ∧ dec prog_4_method_4_code 2 = some (.getfield 18, 5, 0, 0) ∧ dec prog_4_method_4_code 5 = some (.bipush 6, 7, 0, 6) ∧ dec prog_4_method_4_code 7 = some (.iadd, 8, 0, 0) ∧ dec prog_4_method_4_code 8 = some (.bipush 7, 10, 0, 7) ∧ dec prog_4_method_4_code 10 = some (.irem, 11, 0, 0) ∧ dec prog_4_method_4_code 11 = some (.putfield 18, 14, 0, 0) ∧ dec prog_4_method_4_code 14 = some (.aload_n 0, 15, 0, 0) ∧ dec prog_4_method_4_code 15 = some (.dup, 16, 0, 0) ∧ dec prog_4_method_4_code 16 = some (.getfield 26, 19, 0, 0) ∧ dec prog_4_method_4_code 19 = some (.iconst 1, 20, 0, 1) ∧ dec prog_4_method_4_code 20 = some (.isub, 21, 0, 0) ∧ dec prog_4_method_4_code 21 = some (.putfield 26, 24, 0, 0) ∧ dec prog_4_method_4_code 24 = some (.aload_n 1, 25, 1, 0) ∧ dec prog_4_method_4_code 25 = some (.aload_n 0, 26, 0, 0) ∧ dec prog_4_method_4_code 26 = some (.getfield 11, 29, 0, 0) ∧ dec prog_4_method_4_code 29 = some (.aload_n 0, 30, 0, 0) ∧ dec prog_4_method_4_code 30 = some (.getfield 18, 33, 0, 0) ∧ dec prog_4_method_4_code 33 = some (.aaload, 34, 0, 0) ∧ dec prog_4_method_4_code 34 = some (.invokevirtual 22, 37, 0, 0) ∧ dec prog_4_method_4_code 37 = some (.return_, 38, 0, 0) := ⟨e_24_0, e_24_1, e_24_2, e_24_5, e_24_7, e_24_8, e_24_10, e_24_11, e_24_14, e_24_15, e_24_16, e_24_19, e_24_20, e_24_21, e_24_24, e_24_25, e_24_26, e_24_29, e_24_30, e_24_33, e_24_34, e_24_37⟩
theorem e_25_0 : dec prog_5_method_1_code 0 = some (.aload_n 0, 1, 0, 0) := by decide +kernel
theorem e_25_1 : dec prog_5_method_1_code 1 = some (.invokespecial 3, 4, 0, 0) := by decide +kernel
theorem e_25_4 : dec prog_5_method_1_code 4 = some (.aload_n 0, 5, 0, 0) := by decide +kernel
theorem e_25_5 : dec prog_5_method_1_code 5 = some (.bipush 80, 7, 0, 80) := by decide +kernel
theorem e_25_7 : dec prog_5_method_1_code 7 = some (.newarray .char, 9, 0, 0) := by decide +kernel
theorem e_25_9 : dec prog_5_method_1_code 9 = some (.putfield 9, 12, 0, 0) := by decide +kernel
theorem e_25_12 : dec prog_5_method_1_code 12 = some (.return_, 13, 0, 0) := by decide +kernel
theorem E_25 : dec prog_5_method_1_code 0 = some (.aload_n 0, 1, 0, 0) ∧ dec prog_5_method_1_code 1 = some (.invokespecial 3, 4, 0, 0) ∧ dec prog_5_method_1_code 4 = some (.aload_n 0, 5, 0, 0) ∧ dec prog_5_method_1_code 5 = some (.bipush 80, 7, 0, 80) ∧ dec prog_5_method_1_code 7 = some (.newarray .char, 9, 0, 0) ∧ dec prog_5_method_1_code 9 = some (.putfield 9, 12, 0, 0) ∧ dec prog_5_method_1_code 12 = some (.return_, 13, 0, 0) := ⟨e_25_0, e_25_1, e_25_4, e_25_5, e_25_7, e_25_9, e_25_12⟩
theorem e_26_0 : dec prog_5_method_4_code 0 = some (.aload_n 0, 1, 0, 0) := by decide +kernel
theorem e_26_1 : dec prog_5_method_4_code 1 = some (.iconst 0, 2, 0, 0) := by decide +kernel
theorem e_26_2 : dec prog_5_method_4_code 2 = some (.putfield 25, 5, 0, 0) := by decide +kernel
theorem e_26_5 : dec prog_5_method_4_code 5 = some (.aload_n 0, 6, 0, 0) := by decide +kernel
theorem e_26_6 : dec prog_5_method_4_code 6 = some (.iconst 0, 7, 0, 0) := by decide +kernel
theorem e_26_7 : dec prog_5_method_4_code 7 = some (.putfield 28, 10, 0, 0) := by decide +kernel
theorem e_26_10 : dec prog_5_method_4_code 10 = some (.return_, 11, 0, 0) := by decide +kernel
theorem E_26 : dec prog_5_method_4_code 0 = some (.aload_n 0, 1, 0, 0) ∧ dec prog_5_method_4_code 1 = some (.iconst 0, 2, 0, 0) ∧ dec prog_5_method_4_code 2 = some (.putfield 25, 5, 0, 0) ∧ dec prog_5_method_4_code 5 = some (.aload_n 0, 6, 0, 0) ∧ dec prog_5_method_4_code 6 = some (.iconst 0, 7, 0, 0) ∧ dec prog_5_method_4_code 7 = some (.putfield 28, 10, 0, 0) ∧ dec prog_5_method_4_code 10 = some (.return_, 11, 0, 0) := ⟨e_26_0, e_26_1, e_26_2, e_26_5, e_26_6, e_26_7, e_26_10⟩
theorem e_27_0 : dec prog_5_method_5_code 0 = some (.aload_n 0, 1, 0, 0) := by decide +kernel
theorem e_27_1 : dec prog_5_method_5_code 1 = some (.invokevirtual 32, 4, 0, 0) := by decide +kernel
theorem e_27_4 : dec prog_5_method_5_code 4 = some (.iconst 0, 5, 0, 0) := by decide +kernel
theorem e_27_5 : dec prog_5_method_5_code 5 = some (.istore_n 1, 6, 1, 0) := by decide +kernel
theorem e_27_6 : dec prog_5_method_5_code 6 = some (.iload_n 1, 7, 1, 0) := by decide +kernel
theorem e_27_7 : dec prog_5_method_5_code 7 = some (.bipush 80, 9, 0, 80) := by decide +kernel
theorem e_27_9 : dec prog_5_method_5_code 9 = some (.if_icmp .gt 30, 12, 39, 0) := by decide +kernel
theorem e_27_12 : dec prog_5_method_5_code 12 = some (.aload_n 0, 13, 0, 0) := by decide +kernel
theorem e_27_13 : dec prog_5_method_5_code 13 = some (.invokevirtual 35, 16, 0, 0) := by decide +kernel
theorem e_27_16 : dec prog_5_method_5_code 16 = some (.ifCond .eq 23, 19, 39, 0) := by decide +kernel
theorem e_27_19 : dec prog_5_method_5_code 19 = some (.aload_n 0, 20, 0, 0) := by decide +kernel
theorem e_27_20 : dec prog_5_method_5_code 20 = some (.getfield 25, 23, 0, 0) := by decide +kernel
theorem e_27_23 : dec prog_5_method_5_code 23 = some (.aload_n 0, 24, 0, 0) := by decide +kernel
theorem e_27_24 : dec prog_5_method_5_code 24 = some (.getfield 21, 27, 0, 0) := by decide +kernel
theorem e_27_27 : dec prog_5_method_5_code 27 = some (.if_icmp .lt 6, 30, 33, 0) := by decide +kernel
theorem e_27_30 : dec prog_5_method_5_code 30 = some (.bipush (-6), 32, 0, (-6)) := by decide +kernel
theorem e_27_32 : dec prog_5_method_5_code 32 = some (.ireturn, 33, 0, 0) := by decide +kernel
theorem e_27_33 : dec prog_5_method_5_code 33 = some (.iinc 1 1, 36, 1, 1) := by decide +kernel
theorem e_27_36 : dec prog_5_method_5_code 36 = some (.goto (-30), 39, 6, 0) := by decide +kernel
theorem e_27_39 : dec prog_5_method_5_code 39 = some (.aload_n 0, 40, 0, 0) := by decide +kernel
theorem e_27_40 : dec prog_5_method_5_code 40 = some (.getfield 25, 43, 0, 0) := by decide +kernel
theorem e_27_43 : dec prog_5_method_5_code 43 = some (.ireturn, 44, 0, 0) := by decide +kernel
theorem E_27 : dec prog_5_method_5_code 0 = some (.aload_n 0, 1, 0, 0) ∧ dec prog_5_method_5_code 1 = some (.invokevirtual 32, 4, 0, 0) ∧ dec prog_5_method_5_code 4 = some (.iconst 0, 5, 0, 0) ∧ dec prog_5_method_5_code 5 = some (.istore_n 1, 6, 1, 0) ∧ dec prog_5_method_5_code 6 = some (.iload_n 1, 7, 1, 0) ∧ dec prog_5_method_5_code 7 = some (.bipush 80, 9, 0, 80) ∧ dec prog_5_method_5_code 9 = some (.if_icmp .gt 30, 12, 39, 0) ∧ dec prog_5_method_5_code 12 = some (.aload_n 0, 13, 0, 0) ∧ dec prog_5_method_5_code 13 = some (.invokevirtual 35, 16, 0, 0) ∧ dec prog_5_method_5_code 16 = some (.ifCond .eq 23, 19, 39, 0) ∧ dec prog_5_method_5_code 19 = some (.aload_n 0, 20, 0, 0) ∧ dec prog_5_method_5_code 20 = some (.getfield 25, 23, 0, 0) ∧ dec prog_5_method_5_code 23 = some (.aload_n 0, 24, 0, 0) ∧ dec prog_5_method_5_code 24 = some (.getfield 21, 27, 0, 0) ∧ dec prog_5_method_5_code 27 = some (.if_icmp .lt 6, 30, 33, 0) ∧ dec prog_5_method_5_code 30 = some (.bipush (-6), 32, 0, (-6)) ∧ dec prog_5_method_5_code 32 = some (.ireturn, 33, 0, 0) ∧ dec prog_5_method_5_code 33 = some (.iinc 1 1, 36, 1, 1) ∧ dec prog_5_method_5_code 36 = some (.goto (-30), 39, 6, 0) ∧ dec prog_5_method_5_code 39 = some (.aload_n 0, 40, 0, 0) ∧ dec prog_5_method_5_code 40 = some (.getfield 25, 43, 0, 0) ∧ dec prog_5_method_5_code 43 = some (.ireturn, 44, 0, 0) := ⟨e_27_0, e_27_1, e_27_4, e_27_5, e_27_6, e_27_7, e_27_9, e_27_12, e_27_13, e_27_16, e_27_19, e_27_20, e_27_23, e_27_24, e_27_27, e_27_30, e_27_32, e_27_33, e_27_36, e_27_39, e_27_40, e_27_43⟩
theorem e_28_0 : dec prog_5_method_6_code 0 = some (.aload_n 0, 1, 0, 0) := by decide +kernel
theorem e_28_1 : dec prog_5_method_6_code 1 = some (.getfield 25, 4, 0, 0) := by decide +kernel
theorem e_28_4 : dec prog_5_method_6_code 4 = some (.ifCond .le 9, 7, 13, 0) := by decide +kernel
theorem e_28_7 : dec prog_5_method_6_code 7 = some (.aload_n 0, 8, 0, 0) := by decide +kernel
theorem e_28_8 : dec prog_5_method_6_code 8 = some (.bipush 59, 10, 0, 59) := by decide +kernel
theorem e_28_10 : dec prog_5_method_6_code 10 = some (.invokevirtual 39, 13, 0, 0) := by decide +kernel
theorem e_28_13 : dec prog_5_method_6_code 13 = some (.aload_n 0, 14, 0, 0) := by decide +kernel
theorem e_28_14 : dec prog_5_method_6_code 14 = some (.aload_n 0, 15, 0, 0) := by decide +kernel
theorem e_28_15 : dec prog_5_method_6_code 15 = some (.invokevirtual 43, 18, 0, 0) := by decide +kernel
theorem e_28_18 : dec prog_5_method_6_code 18 = some (.putfield 47, 21, 0, 0) := by decide +kernel
theorem e_28_21 : dec prog_5_method_6_code 21 = some (.aload_n 0, 22, 0, 0) := by decide +kernel
theorem e_28_22 : dec prog_5_method_6_code 22 = some (.getfield 47, 25, 0, 0) := by decide +kernel
theorem e_28_25 : dec prog_5_method_6_code 25 = some (.lookupswitch 71 #[(97, 64), (99, 43), (110, 57), (112, 50)], 68, 0, 0) := by decide +kernel
theorem e_28_68 : dec prog_5_method_6_code 68 = some (.aload_n 0, 69, 0, 0) := by decide +kernel
theorem e_28_69 : dec prog_5_method_6_code 69 = some (.invokevirtual 50, 72, 0, 0) := by decide +kernel
theorem e_28_72 : dec prog_5_method_6_code 72 = some (.goto 29, 75, 101, 0) := by decide +kernel
theorem e_28_75 : dec prog_5_method_6_code 75 = some (.aload_n 0, 76, 0, 0) := by decide +kernel
theorem e_28_76 : dec prog_5_method_6_code 76 = some (.invokevirtual 53, 79, 0, 0) := by decide +kernel
theorem e_28_79 : dec prog_5_method_6_code 79 = some (.goto 22, 82, 101, 0) := by decide +kernel
theorem e_28_82 : dec prog_5_method_6_code 82 = some (.aload_n 0, 83, 0, 0) := by decide +kernel
theorem e_28_83 : dec prog_5_method_6_code 83 = some (.invokevirtual 56, 86, 0, 0) := by decide +kernel
theorem e_28_86 : dec prog_5_method_6_code 86 = some (.goto 15, 89, 101, 0) := by decide +kernel
theorem e_28_89 : dec prog_5_method_6_code 89 = some (.aload_n 0, 90, 0, 0) := by decide +kernel
theorem e_28_90 : dec prog_5_method_6_code 90 = some (.invokevirtual 59, 93, 0, 0) := by decide +kernel
theorem e_28_93 : dec prog_5_method_6_code 93 = some (.goto 8, 96, 101, 0) := by decide +kernel
theorem e_28_96 : dec prog_5_method_6_code 96 = some (.aload_n 0, 97, 0, 0) := by decide +kernel
theorem e_28_97 : dec prog_5_method_6_code 97 = some (.iconst 1, 98, 0, 1) := by decide +kernel
theorem e_28_98 : dec prog_5_method_6_code 98 = some (.putfield 28, 101, 0, 0) := by decide +kernel
theorem e_28_101 : dec prog_5_method_6_code 101 = some (.aload_n 0, 102, 0, 0) := by decide +kernel
theorem e_28_102 : dec prog_5_method_6_code 102 = some (.getfield 28, 105, 0, 0) := by decide +kernel
theorem e_28_105 : dec prog_5_method_6_code 105 = some (.ifCond .ne 7, 108, 112, 0) := by decide +kernel
theorem e_28_108 : dec prog_5_method_6_code 108 = some (.iconst 1, 109, 0, 1) := by decide +kernel
theorem e_28_109 : dec prog_5_method_6_code 109 = some (.goto 4, 112, 113, 0) := by decide +kernel
theorem e_28_112 : dec prog_5_method_6_code 112 = some (.iconst 0, 113, 0, 0) := by decide +kernel
theorem e_28_113 : dec prog_5_method_6_code 113 = some (.ireturn, 114, 0, 0) := by decide +kernel
theorem E_28 : dec prog_5_method_6_code 0 = some (.aload_n 0, 1, 0, 0) ∧ dec prog_5_method_6_code 1 = some (.getfield 25, 4, 0, 0) ∧ dec prog_5_method_6_code 4 = some (.ifCond .le 9, 7, 13, 0) ∧ dec prog_5_method_6_code 7 = some (.aload_n 0, 8, 0, 0) ∧ dec prog_5_method_6_code 8 = some (.bipush 59, 10, 0, 59) ∧ dec prog_5_method_6_code 10 = some (.invokevirtual 39, 13, 0, 0) ∧ dec prog_5_method_6_code 13 = some (.aload_n 0, 14, 0, 0) ∧ dec prog_5_method_6_code 14 = some (.aload_n 0, 15, 0, 0) ∧ dec prog_5_method_6_code 15 = some (.invokevirtual 43, 18, 0, 0) ∧ dec prog_5_method_6_code 18 = some (.putfield 47, 21, 0, 0) ∧ dec prog_5_method_6_code 21 = some (.aload_n 0, 22, 0, 0) ∧ dec prog_5_method_6_code 22 = some (.getfield 47, 25, 0, 0) ∧ dec prog_5_method_6_code 25 = some (.lookupswitch 71 #[(97, 64), (99, 43), (110, 57), (112, 50)], 68, 0, 0) ∧ dec prog_5_method_6_code 68 = some (.aload_n 0, 69, 0, 0) ∧ dec prog_5_method_6_code 69 = some (.invokevirtual 50, 72, 0, 0) ∧ dec prog_5_method_6_code 72 = some (.goto 29, 75, 101, 0) ∧ dec prog_5_method_6_code 75 = some (.aload_n 0, 76, 0, 0) ∧ dec prog_5_method_6_code 76 = some (.invokevirtual 53, 79, 0, 0) ∧ dec prog_5_method_6_code 79 = some (.goto 22, 82, 101, 0) ∧ dec prog_5_method_6_code 82 = some (.aload_n 0, 83, 0, 0) ∧ dec prog_5_method_6_code 83 = some (.invokevirtual 56, 86, 0, 0) ∧ dec prog_5_method_6_code 86 = some (.goto 15, 89, 101, 0) ∧ dec prog_5_method_6_code 89 = some (.aload_n 0, 90, 0, 0) ∧ dec prog_5_method_6_code 90 = some (.invokevirtual 59, 93, 0, 0) ∧ dec prog_5_method_6_code 93 = some (.goto 8, 96, 101, 0) ∧ dec prog_5_method_6_code 96 = some (.aload_n 0, 97, 0, 0) ∧ dec prog_5_method_6_code 97 = some (.iconst 1, 98, 0, 1) ∧ dec prog_5_method_6_code 98 = some (.putfield 28, 101, 0, 0) ∧ dec prog_5_method_6_code 101 = some (.aload_n 0, 102, 0, 0) ∧ dec prog_5_method_6_code 102 = some (.getfield 28, 105, 0, 0) ∧ dec prog_5_method_6_code 105 = some (.ifCond .ne 7, 108, 112, 0) ∧ dec prog_5_method_6_code 108 = some (.iconst 1, 109, 0, 1) ∧ dec prog_5_method_6_code 109 = some (.goto 4, 112, 113, 0) ∧ dec prog_5_method_6_code 112 = some (.iconst 0, 113, 0, 0) ∧ dec prog_5_method_6_code 113 = some (.ireturn, 114, 0, 0) := ⟨e_28_0, e_28_1, e_28_4, e_28_7, e_28_8, e_28_10, e_28_13, e_28_14, e_28_15, e_28_18, e_28_21, e_28_22, e_28_25, e_28_68, e_28_69, e_28_72, e_28_75, e_28_76, e_28_79, e_28_82, e_28_83, e_28_86, e_28_89, e_28_90, e_28_93, e_28_96, e_28_97, e_28_98, e_28_101, e_28_102, e_28_105, e_28_108, e_28_109, e_28_112, e_28_113⟩
theorem e_29_0 : dec prog_5_method_7_code 0 = some (.aload_n 0, 1, 0, 0) := by decide +kernel
theorem e_29_1 : dec prog_5_method_7_code 1 = some (.bipush 99, 3, 0, 99) := by decide +kernel
theorem e_29_3 : dec prog_5_method_7_code 3 = some (.invokevirtual 39, 6, 0, 0) := by decide +kernel
theorem e_29_6 : dec prog_5_method_7_code 6 = some (.aload_n 0, 7, 0, 0) := by decide +kernel
theorem e_29_7 : dec prog_5_method_7_code 7 = some (.aload_n 0, 8, 0, 0) := by decide +kernel
theorem e_29_8 : dec prog_5_method_7_code 8 = some (.invokevirtual 62, 11, 0, 0) := by decide +kernel
theorem e_29_11 : dec prog_5_method_7_code 11 = some (.putfield 65, 14, 0, 0) := by decide +kernel
theorem e_29_14 : dec prog_5_method_7_code 14 = some (.return_, 15, 0, 0) := by decide +kernel
theorem E_29 : dec prog_5_method_7_code 0 = some (.aload_n 0, 1, 0, 0) ∧ dec prog_5_method_7_code 1 = some (.bipush 99, 3, 0, 99) ∧ dec prog_5_method_7_code 3 = some (.invokevirtual 39, 6, 0, 0) ∧ dec prog_5_method_7_code 6 = some (.aload_n 0, 7, 0, 0) ∧ dec prog_5_method_7_code 7 = some (.aload_n 0, 8, 0, 0) ∧ dec prog_5_method_7_code 8 = some (.invokevirtual 62, 11, 0, 0) ∧ dec prog_5_method_7_code 11 = some (.putfield 65, 14, 0, 0) ∧ dec prog_5_method_7_code 14 = some (.return_, 15, 0, 0) := ⟨e_29_0, e_29_1, e_29_3, e_29_6, e_29_7, e_29_8, e_29_11, e_29_14⟩
theorem e_30_0 : dec prog_5_method_8_code 0 = some (.aload_n 0, 1, 0, 0) := by decide +kernel
theorem e_30_1 : dec prog_5_method_8_code 1 = some (.bipush 112, 3, 0, 112) := by decide +kernel
theorem e_30_3 : dec prog_5_method_8_code 3 = some (.invokevirtual 39, 6, 0, 0) := by decide +kernel
theorem e_30_6 : dec prog_5_method_8_code 6 = some (.aload_n 0, 7, 0, 0) := by decide +kernel
theorem e_30_7 : dec prog_5_method_8_code 7 = some (.aload_n 0, 8, 0, 0) := by decide +kernel
theorem e_30_8 : dec prog_5_method_8_code 8 = some (.invokevirtual 68, 11, 0, 0) := by decide +kernel
theorem e_30_11 : dec prog_5_method_8_code 11 = some (.putfield 65, 14, 0, 0) := by decide +kernel
theorem e_30_14 : dec prog_5_method_8_code 14 = some (.aload_n 0, 15, 0, 0) := by decide +kernel
theorem e_30_15 : dec prog_5_method_8_code 15 = some (.iconst 0, 16, 0, 0) := by decide +kernel
theorem e_30_16 : dec prog_5_method_8_code 16 = some (.putfield 71, 19, 0, 0) := by decide +kernel
theorem e_30_19 : dec prog_5_method_8_code 19 = some (.aload_n 0, 20, 0, 0) := by decide +kernel
theorem e_30_20 : dec prog_5_method_8_code 20 = some (.invokevirtual 43, 23, 0, 0) := by decide +kernel
theorem e_30_23 : dec prog_5_method_8_code 23 = some (.bipush 47, 25, 0, 47) := by decide +kernel
theorem e_30_25 : dec prog_5_method_8_code 25 = some (.if_icmp .ne 17, 28, 42, 0) := by decide +kernel
theorem e_30_28 : dec prog_5_method_8_code 28 = some (.aload_n 0, 29, 0, 0) := by decide +kernel
theorem e_30_29 : dec prog_5_method_8_code 29 = some (.bipush 47, 31, 0, 47) := by decide +kernel
theorem e_30_31 : dec prog_5_method_8_code 31 = some (.invokevirtual 39, 34, 0, 0) := by decide +kernel
theorem e_30_34 : dec prog_5_method_8_code 34 = some (.aload_n 0, 35, 0, 0) := by decide +kernel
theorem e_30_35 : dec prog_5_method_8_code 35 = some (.aload_n 0, 36, 0, 0) := by decide +kernel
theorem e_30_36 : dec prog_5_method_8_code 36 = some (.invokevirtual 68, 39, 0, 0) := by decide +kernel
theorem e_30_39 : dec prog_5_method_8_code 39 = some (.putfield 71, 42, 0, 0) := by decide +kernel
theorem e_30_42 : dec prog_5_method_8_code 42 = some (.return_, 43, 0, 0) := by decide +kernel
theorem E_30 : dec prog_5_method_8_code 0 = some (.aload_n 0, 1, 0, 0) ∧ dec prog_5_method_8_code 1 = some (.bipush 112, 3, 0, 112) ∧ dec prog_5_method_8_code 3 = some (.invokevirtual 39, 6, 0, 0) ∧ dec prog_5_method_8_code 6 = some (.aload_n 0, 7, 0, 0) ∧ dec prog_5_method_8_code 7 = some (.aload_n 0, 8, 0, 0) ∧ dec prog_5_method_8_code 8 = some (.invokevirtual 68, 11, 0, 0) ∧ dec prog_5_method_8_code 11 = some (.putfield 65, 14, 0, 0) ∧ dec prog_5_method_8_code 14 = some (.aload_n 0, 15, 0, 0) ∧ dec prog_5_method_8_code 15 = some (.iconst 0, 16, 0, 0) ∧ dec prog_5_method_8_code 16 = some (.putfield 71, 19, 0, 0) ∧ dec prog_5_method_8_code 19 = some (.aload_n 0, 20, 0, 0) ∧ dec prog_5_method_8_code 20 = some (.invokevirtual 43, 23, 0, 0) ∧ dec prog_5_method_8_code 23 = some (.bipush 47, 25, 0, 47) ∧ dec prog_5_method_8_code 25 = some (.if_icmp .ne 17, 28, 42, 0) ∧ dec prog_5_method_8_code 28 = some (.aload_n 0, 29, 0, 0) ∧ dec prog_5_method_8_code 29 = some (.bipush 47, 31, 0, 47) ∧ dec prog_5_method_8_code 31 = some (.invokevirtual 39, 34, 0, 0) ∧ dec prog_5_method_8_code 34 = some (.aload_n 0, 35, 0, 0) ∧ dec prog_5_method_8_code 35 = some (.aload_n 0, 36, 0, 0) ∧ dec prog_5_method_8_code 36 = some (.invokevirtual 68, 39, 0, 0) ∧ dec prog_5_method_8_code 39 = some (.putfield 71, 42, 0, 0) ∧ dec prog_5_method_8_code 42 = some (.return_, 43, 0, 0) := ⟨e_30_0, e_30_1, e_30_3, e_30_6, e_30_7, e_30_8, e_30_11, e_30_14, e_30_15, e_30_16, e_30_19, e_30_20, e_30_23, e_30_25, e_30_28, e_30_29, e_30_31, e_30_34, e_30_35, e_30_36, e_30_39, e_30_42⟩
theorem e_31_0 : dec prog_5_method_9_code 0 = some (.aload_n 0, 1, 0, 0) := by decide +kernel
theorem e_31_1 : dec prog_5_method_9_code 1 = some (.bipush 110, 3, 0, 110) := by decide +kernel
theorem e_31_3 : dec prog_5_method_9_code 3 = some (.invokevirtual 39, 6, 0, 0) := by decide +kernel
theorem e_31_6 : dec prog_5_method_9_code 6 = some (.aload_n 0, 7, 0, 0) := by decide +kernel
theorem e_31_7 : dec prog_5_method_9_code 7 = some (.aload_n 0, 8, 0, 0) := by decide +kernel
theorem e_31_8 : dec prog_5_method_9_code 8 = some (.invokevirtual 74, 11, 0, 0) := by decide +kernel
theorem e_31_11 : dec prog_5_method_9_code 11 = some (.putfield 65, 14, 0, 0) := by decide +kernel
theorem e_31_14 : dec prog_5_method_9_code 14 = some (.aload_n 0, 15, 0, 0) := by decide +kernel
theorem e_31_15 : dec prog_5_method_9_code 15 = some (.aload_n 0, 16, 0, 0) := by decide +kernel
theorem e_31_16 : dec prog_5_method_9_code 16 = some (.invokevirtual 62, 19, 0, 0) := by decide +kernel
theorem e_31_19 : dec prog_5_method_9_code 19 = some (.putfield 71, 22, 0, 0) := by decide +kernel
theorem e_31_22 : dec prog_5_method_9_code 22 = some (.aload_n 0, 23, 0, 0) := by decide +kernel
theorem e_31_23 : dec prog_5_method_9_code 23 = some (.bipush 61, 25, 0, 61) := by decide +kernel
theorem e_31_25 : dec prog_5_method_9_code 25 = some (.invokevirtual 39, 28, 0, 0) := by decide +kernel
theorem e_31_28 : dec prog_5_method_9_code 28 = some (.aload_n 0, 29, 0, 0) := by decide +kernel
theorem e_31_29 : dec prog_5_method_9_code 29 = some (.aload_n 0, 30, 0, 0) := by decide +kernel
theorem e_31_30 : dec prog_5_method_9_code 30 = some (.invokevirtual 62, 33, 0, 0) := by decide +kernel
theorem e_31_33 : dec prog_5_method_9_code 33 = some (.putfield 77, 36, 0, 0) := by decide +kernel
theorem e_31_36 : dec prog_5_method_9_code 36 = some (.return_, 37, 0, 0) := by decide +kernel
theorem E_31 : dec prog_5_method_9_code 0 = some (.aload_n 0, 1, 0, 0) ∧ dec prog_5_method_9_code 1 = some (.bipush 110, 3, 0, 110) ∧ dec prog_5_method_9_code 3 = some (.invokevirtual 39, 6, 0, 0) ∧ dec prog_5_method_9_code 6 = some (.aload_n 0, 7, 0, 0) ∧ dec prog_5_method_9_code 7 = some (.aload_n 0, 8, 0, 0) ∧ dec prog_5_method_9_code 8 = some (.invokevirtual 74, 11, 0, 0) ∧ dec prog_5_method_9_code 11 = some (.putfield 65, 14, 0, 0) ∧ dec prog_5_method_9_code 14 = some (.aload_n 0, 15, 0, 0) ∧ dec prog_5_method_9_code 15 = some (.aload_n 0, 16, 0, 0) ∧ dec prog_5_method_9_code 16 = some (.invokevirtual 62, 19, 0, 0) ∧ dec prog_5_method_9_code 19 = some (.putfield 71, 22, 0, 0) ∧ dec prog_5_method_9_code 22 = some (.aload_n 0, 23, 0, 0) ∧ dec prog_5_method_9_code 23 = some (.bipush 61, 25, 0, 61) ∧ dec prog_5_method_9_code 25 = some (.invokevirtual 39, 28, 0, 0) ∧ dec prog_5_method_9_code 28 = some (.aload_n 0, 29, 0, 0) ∧ dec prog_5_method_9_code 29 = some (.aload_n 0, 30, 0, 0) ∧ dec prog_5_method_9_code 30 = some (.invokevirtual 62, 33, 0, 0) ∧ dec prog_5_method_9_code 33 = some (.putfield 77, 36, 0, 0) ∧ dec prog_5_method_9_code 36 = some (.return_, 37, 0, 0) := ⟨e_31_0, e_31_1, e_31_3, e_31_6, e_31_7, e_31_8, e_31_11, e_31_14, e_31_15, e_31_16, e_31_19, e_31_22, e_31_23, e_31_25, e_31_28, e_31_29, e_31_30, e_31_33, e_31_36⟩
theorem e_32_0 : dec prog_5_method_10_code 0 = some (.aload_n 0, 1, 0, 0) := by decide +kernel
theorem e_32_1 : dec prog_5_method_10_code 1 = some (.bipush 97, 3, 0, 97) := by decide +kernel
theorem e_32_3 : dec prog_5_method_10_code 3 = some (.invokevirtual 39, 6, 0, 0) := by decide +kernel
theorem e_32_6 : dec prog_5_method_10_code 6 = some (.aload_n 0, 7, 0, 0) := by decide +kernel
theorem e_32_7 : dec prog_5_method_10_code 7 = some (.aload_n 0, 8, 0, 0) := by decide +kernel
theorem e_32_8 : dec prog_5_method_10_code 8 = some (.invokevirtual 68, 11, 0, 0) := by decide +kernel
theorem e_32_11 : dec prog_5_method_10_code 11 = some (.putfield 65, 14, 0, 0) := by decide +kernel
theorem e_32_14 : dec prog_5_method_10_code 14 = some (.return_, 15, 0, 0) := by decide +kernel
theorem E_32 : dec prog_5_method_10_code 0 = some (.aload_n 0, 1, 0, 0) ∧ dec prog_5_method_10_code 1 = some (.bipush 97, 3, 0, 97) ∧ dec prog_5_method_10_code 3 = some (.invokevirtual 39, 6, 0, 0) ∧ dec prog_5_method_10_code 6 = some (.aload_n 0, 7, 0, 0) ∧ dec prog_5_method_10_code 7 = some (.aload_n 0, 8, 0, 0) ∧ dec prog_5_method_10_code 8 = some (.invokevirtual 68, 11, 0, 0) ∧ dec prog_5_method_10_code 11 = some (.putfield 65, 14, 0, 0) ∧ dec prog_5_method_10_code 14 = some (.return_, 15, 0, 0) := ⟨e_32_0, e_32_1, e_32_3, e_32_6, e_32_7, e_32_8, e_32_11, e_32_14⟩
theorem e_33_0 : dec prog_5_method_11_code 0 = some (.aload_n 0, 1, 0, 0) := by decide +kernel
theorem e_33_1 : dec prog_5_method_11_code 1 = some (.invokevirtual 43, 4, 0, 0) := by decide +kernel
theorem e_33_4 : dec prog_5_method_11_code 4 = some (.lookupswitch 60 #[(98, 44), (112, 36), (120, 52)], 40, 0, 0) := by decide +kernel
theorem e_33_40 : dec prog_5_method_11_code 40 = some (.aload_n 0, 41, 0, 0) := by decide +kernel
theorem e_33_41 : dec prog_5_method_11_code 41 = some (.bipush 112, 43, 0, 112) := by decide +kernel
theorem e_33_43 : dec prog_5_method_11_code 43 = some (.invokevirtual 39, 46, 0, 0) := by decide +kernel
theorem e_33_46 : dec prog_5_method_11_code 46 = some (.iconst 0, 47, 0, 0) := by decide +kernel
theorem e_33_47 : dec prog_5_method_11_code 47 = some (.ireturn, 48, 0, 0) := by decide +kernel
theorem e_33_48 : dec prog_5_method_11_code 48 = some (.aload_n 0, 49, 0, 0) := by decide +kernel
theorem e_33_49 : dec prog_5_method_11_code 49 = some (.bipush 98, 51, 0, 98) := by decide +kernel
theorem e_33_51 : dec prog_5_method_11_code 51 = some (.invokevirtual 39, 54, 0, 0) := by decide +kernel
theorem e_33_54 : dec prog_5_method_11_code 54 = some (.iconst 1, 55, 0, 1) := by decide +kernel
theorem e_33_55 : dec prog_5_method_11_code 55 = some (.ireturn, 56, 0, 0) := by decide +kernel
theorem e_33_56 : dec prog_5_method_11_code 56 = some (.aload_n 0, 57, 0, 0) := by decide +kernel
theorem e_33_57 : dec prog_5_method_11_code 57 = some (.bipush 120, 59, 0, 120) := by decide +kernel
theorem e_33_59 : dec prog_5_method_11_code 59 = some (.invokevirtual 39, 62, 0, 0) := by decide +kernel
theorem e_33_62 : dec prog_5_method_11_code 62 = some (.iconst 2, 63, 0, 2) := by decide +kernel
theorem e_33_63 : dec prog_5_method_11_code 63 = some (.ireturn, 64, 0, 0) := by decide +kernel
theorem e_33_64 : dec prog_5_method_11_code 64 = some (.aload_n 0, 65, 0, 0) := by decide +kernel
theorem e_33_65 : dec prog_5_method_11_code 65 = some (.iconst 1, 66, 0, 1) := by decide +kernel
theorem e_33_66 : dec prog_5_method_11_code 66 = some (.putfield 28, 69, 0, 0) := by decide +kernel
theorem e_33_69 : dec prog_5_method_11_code 69 = some (.iconst 0, 70, 0, 0) := by decide +kernel
theorem e_33_70 : dec prog_5_method_11_code 70 = some (.ireturn, 71, 0, 0) := by decide +kernel
theorem E_33 : dec prog_5_method_11_code 0 = some (.aload_n 0, 1, 0, 0) ∧ dec prog_5_method_11_code 1 = some (.invokevirtual 43, 4, 0, 0) ∧ dec prog_5_method_11_code 4 = some (.lookupswitch 60 #[(98, 44), (112, 36), (120, 52)], 40, 0, 0) ∧ dec prog_5_method_11_code 40 = some (.aload_n 0, 41, 0, 0) ∧ dec prog_5_method_11_code 41 = some (.bipush 112, 43, 0, 112) ∧ dec prog_5_method_11_code 43 = some (.invokevirtual 39, 46, 0, 0) ∧ dec prog_5_method_11_code 46 = some (.iconst 0, 47, 0, 0) ∧ dec prog_5_method_11_code 47 = some (.ireturn, 48, 0, 0) ∧ dec prog_5_method_11_code 48 = some (.aload_n 0, 49, 0, 0) ∧ dec prog_5_method_11_code 49 = some (.bipush 98, 51, 0, 98) ∧ dec prog_5_method_11_code 51 = some (.invokevirtual 39, 54, 0, 0) ∧ dec prog_5_method_11_code 54 = some (.iconst 1, 55, 0, 1) ∧ dec prog_5_method_11_code 55 = some (.ireturn, 56, 0, 0) ∧ dec prog_5_method_11_code 56 = some (.aload_n 0, 57, 0, 0) ∧ dec prog_5_method_11_code 57 = some (.bipush 120, 59, 0, 120) ∧ dec prog_5_method_11_code 59 = some (.invokevirtual 39, 62, 0, 0) ∧ dec prog_5_method_11_code 62 = some (.iconst 2, 63, 0, 2) ∧ dec prog_5_method_11_code 63 = some (.ireturn, 64, 0, 0) ∧ dec prog_5_method_11_code 64 = some (.aload_n 0, 65, 0, 0) ∧ dec prog_5_method_11_code 65 = some (.iconst 1, 66, 0, 1) ∧ dec prog_5_method_11_code 66 = some (.putfield 28, 69, 0, 0) ∧ dec prog_5_method_11_code 69 = some (.iconst 0, 70, 0, 0) ∧ dec prog_5_method_11_code 70 = some (.ireturn, 71, 0, 0) := ⟨e_33_0, e_33_1, e_33_4, e_33_40, e_33_41, e_33_43, e_33_46, e_33_47, e_33_48, e_33_49, e_33_51, e_33_54, e_33_55, e_33_56, e_33_57, e_33_59, e_33_62, e_33_63, e_33_64, e_33_65, e_33_66, e_33_69, e_33_70⟩
theorem e_34_0 : dec prog_5_method_12_code 0 = some (.aload_n 0, 1, 0, 0) := by decide +kernel
theorem e_34_1 : dec prog_5_method_12_code 1 = some (.invokevirtual 68, 4, 0, 0) := by decide +kernel
theorem e_34_4 : dec prog_5_method_12_code 4 = some (.istore_n 1, 5, 1, 0) := by decide +kernel
theorem e_34_5 : dec prog_5_method_12_code 5 = some (.iload_n 1, 6, 1, 0) := by decide +kernel
theorem e_34_6 : dec prog_5_method_12_code 6 = some (.ifCond .le 23, 9, 29, 0) := by decide +kernel
theorem e_34_9 : dec prog_5_method_12_code 9 = some (.aload_n 0, 10, 0, 0) := by decide +kernel
theorem e_34_10 : dec prog_5_method_12_code 10 = some (.invokevirtual 43, 13, 0, 0) := by decide +kernel
theorem e_34_13 : dec prog_5_method_12_code 13 = some (.invokestatic 80, 16, 0, 0) := by decide +kernel
theorem e_34_16 : dec prog_5_method_12_code 16 = some (.ifCond .eq 13, 19, 29, 0) := by decide +kernel
theorem e_34_19 : dec prog_5_method_12_code 19 = some (.bipush 10, 21, 0, 10) := by decide +kernel
theorem e_34_21 : dec prog_5_method_12_code 21 = some (.iload_n 1, 22, 1, 0) := by decide +kernel
theorem e_34_22 : dec prog_5_method_12_code 22 = some (.imul, 23, 0, 0) := by decide +kernel
theorem e_34_23 : dec prog_5_method_12_code 23 = some (.aload_n 0, 24, 0, 0) := by decide +kernel
theorem e_34_24 : dec prog_5_method_12_code 24 = some (.invokevirtual 68, 27, 0, 0) := by decide +kernel
theorem e_34_27 : dec prog_5_method_12_code 27 = some (.iadd, 28, 0, 0) := by decide +kernel
theorem e_34_28 : dec prog_5_method_12_code 28 = some (.istore_n 1, 29, 1, 0) := by decide +kernel
theorem e_34_29 : dec prog_5_method_12_code 29 = some (.iload_n 1, 30, 1, 0) := by decide +kernel
theorem e_34_30 : dec prog_5_method_12_code 30 = some (.ireturn, 31, 0, 0) := by decide +kernel
theorem E_34 : dec prog_5_method_12_code 0 = some (.aload_n 0, 1, 0, 0) ∧ dec prog_5_method_12_code 1 = some (.invokevirtual 68, 4, 0, 0) ∧ dec prog_5_method_12_code 4 = some (.istore_n 1, 5, 1, 0) ∧ dec prog_5_method_12_code 5 = some (.iload_n 1, 6, 1, 0) ∧ dec prog_5_method_12_code 6 = some (.ifCond .le 23, 9, 29, 0) ∧ dec prog_5_method_12_code 9 = some (.aload_n 0, 10, 0, 0) ∧ dec prog_5_method_12_code 10 = some (.invokevirtual 43, 13, 0, 0) ∧ dec prog_5_method_12_code 13 = some (.invokestatic 80, 16, 0, 0) ∧ dec prog_5_method_12_code 16 = some (.ifCond .eq 13, 19, 29, 0) ∧ dec prog_5_method_12_code 19 = some (.bipush 10, 21, 0, 10) ∧ dec prog_5_method_12_code 21 = some (.iload_n 1, 22, 1, 0) ∧ dec prog_5_method_12_code 22 = some (.imul, 23, 0, 0) ∧ dec prog_5_method_12_code 23 = some (.aload_n 0, 24, 0, 0) ∧ dec prog_5_method_12_code 24 = some (.invokevirtual 68, 27, 0, 0) ∧ dec prog_5_method_12_code 27 = some (.iadd, 28, 0, 0) ∧ dec prog_5_method_12_code 28 = some (.istore_n 1, 29, 1, 0) ∧ dec prog_5_method_12_code 29 = some (.iload_n 1, 30, 1, 0) ∧ dec prog_5_method_12_code 30 = some (.ireturn, 31, 0, 0) := ⟨e_34_0, e_34_1, e_34_4, e_34_5, e_34_6, e_34_9, e_34_10, e_34_13, e_34_16, e_34_19, e_34_21, e_34_22, e_34_23, e_34_24, e_34_27, e_34_28, e_34_29, e_34_30⟩
theorem e_35_0 : dec prog_5_method_13_code 0 = some (.aload_n 0, 1, 0, 0) := by decide +kernel
theorem e_35_1 : dec prog_5_method_13_code 1 = some (.invokevirtual 43, 4, 0, 0) := by decide +kernel
theorem e_35_4 : dec prog_5_method_13_code 4 = some (.istore_n 1, 5, 1, 0) := by decide +kernel
theorem e_35_5 : dec prog_5_method_13_code 5 = some (.aload_n 0, 6, 0, 0) := by decide +kernel
theorem e_35_6 : dec prog_5_method_13_code 6 = some (.getfield 28, 9, 0, 0) := by decide +kernel
theorem e_35_9 : dec prog_5_method_13_code 9 = some (.ifCond .ne 10, 12, 19, 0) := by decide +kernel
theorem e_35_12 : dec prog_5_method_13_code 12 = some (.iload_n 1, 13, 1, 0) := by decide +kernel
theorem e_35_13 : dec prog_5_method_13_code 13 = some (.invokestatic 80, 16, 0, 0) := by decide +kernel
theorem e_35_16 : dec prog_5_method_13_code 16 = some (.ifCond .ne 10, 19, 26, 0) := by decide +kernel
theorem e_35_19 : dec prog_5_method_13_code 19 = some (.aload_n 0, 20, 0, 0) := by decide +kernel
theorem e_35_20 : dec prog_5_method_13_code 20 = some (.iconst 1, 21, 0, 1) := by decide +kernel
theorem e_35_21 : dec prog_5_method_13_code 21 = some (.putfield 28, 24, 0, 0) := by decide +kernel
theorem e_35_24 : dec prog_5_method_13_code 24 = some (.iconst 0, 25, 0, 0) := by decide +kernel
theorem e_35_25 : dec prog_5_method_13_code 25 = some (.ireturn, 26, 0, 0) := by decide +kernel
theorem e_35_26 : dec prog_5_method_13_code 26 = some (.aload_n 0, 27, 0, 0) := by decide +kernel
theorem e_35_27 : dec prog_5_method_13_code 27 = some (.dup, 28, 0, 0) := by decide +kernel
theorem e_35_28 : dec prog_5_method_13_code 28 = some (.getfield 25, 31, 0, 0) := by decide +kernel
theorem e_35_31 : dec prog_5_method_13_code 31 = some (.iconst 1, 32, 0, 1) := by decide +kernel
theorem e_35_32 : dec prog_5_method_13_code 32 = some (.iadd, 33, 0, 0) := by decide +kernel
theorem e_35_33 : dec prog_5_method_13_code 33 = some (.putfield 25, 36, 0, 0) := by decide +kernel
theorem e_35_36 : dec prog_5_method_13_code 36 = some (.iload_n 1, 37, 1, 0) := by decide +kernel
theorem e_35_37 : dec prog_5_method_13_code 37 = some (.bipush 48, 39, 0, 48) := by decide +kernel
theorem e_35_39 : dec prog_5_method_13_code 39 = some (.isub, 40, 0, 0) := by decide +kernel
theorem e_35_40 : dec prog_5_method_13_code 40 = some (.ireturn, 41, 0, 0) := by decide +kernel
theorem E_35 : dec prog_5_method_13_code 0 = some (.aload_n 0, 1, 0, 0) ∧ dec prog_5_method_13_code 1 = some (.invokevirtual 43, 4, 0, 0) ∧ dec prog_5_method_13_code 4 = some (.istore_n 1, 5, 1, 0) ∧ dec prog_5_method_13_code 5 = some (.aload_n 0, 6, 0, 0) ∧ dec prog_5_method_13_code 6 = some (.getfield 28, 9, 0, 0) ∧ dec prog_5_method_13_code 9 = some (.ifCond .ne 10, 12, 19, 0) ∧ dec prog_5_method_13_code 12 = some (.iload_n 1, 13, 1, 0) ∧ dec prog_5_method_13_code 13 = some (.invokestatic 80, 16, 0, 0) ∧ dec prog_5_method_13_code 16 = some (.ifCond .ne 10, 19, 26, 0) ∧ dec prog_5_method_13_code 19 = some (.aload_n 0, 20, 0, 0) ∧ dec prog_5_method_13_code 20 = some (.iconst 1, 21, 0, 1) ∧ dec prog_5_method_13_code 21 = some (.putfield 28, 24, 0, 0) ∧ dec prog_5_method_13_code 24 = some (.iconst 0, 25, 0, 0) ∧ dec prog_5_method_13_code 25 = some (.ireturn, 26, 0, 0) ∧ dec prog_5_method_13_code 26 = some (.aload_n 0, 27, 0, 0) ∧ dec prog_5_method_13_code 27 = some (.dup, 28, 0, 0) ∧ dec prog_5_method_13_code 28 = some (.getfield 25, 31, 0, 0) ∧ dec prog_5_method_13_code 31 = some (.iconst 1, 32, 0, 1) ∧ dec prog_5_method_13_code 32 = some (.iadd, 33, 0, 0) ∧ dec prog_5_method_13_code 33 = some (.putfield 25, 36, 0, 0) ∧ dec prog_5_method_13_code 36 = some (.iload_n 1, 37, 1, 0) ∧ dec prog_5_method_13_code 37 = some (.bipush 48, 39, 0, 48) ∧ dec prog_5_method_13_code 39 = some (.isub, 40, 0, 0) ∧ dec prog_5_method_13_code 40 = some (.ireturn, 41, 0, 0) := ⟨e_35_0, e_35_1, e_35_4, e_35_5, e_35_6, e_35_9, e_35_12, e_35_13, e_35_16, e_35_19, e_35_20, e_35_21, e_35_24, e_35_25, e_35_26, e_35_27, e_35_28, e_35_31, e_35_32, e_35_33, e_35_36, e_35_37, e_35_39, e_35_40⟩
theorem e_36_0 : dec prog_5_method_14_code 0 = some (.iload_n 0, 1, 0, 0) := by decide +kernel
theorem e_36_1 : dec prog_5_method_14_code 1 = some (.bipush 48, 3, 0, 48) := by decide +kernel
theorem e_36_3 : dec prog_5_method_14_code 3 = some (.if_icmp .lt 13, 6, 16, 0) := by decide +kernel
theorem e_36_6 : dec prog_5_method_14_code 6 = some (.iload_n 0, 7, 0, 0) := by decide +kernel
theorem e_36_7 : dec prog_5_method_14_code 7 = some (.bipush 57, 9, 0, 57) := by decide +kernel
theorem e_36_9 : dec prog_5_method_14_code 9 = some (.if_icmp .gt 7, 12, 16, 0) := by decide +kernel
theorem e_36_12 : dec prog_5_method_14_code 12 = some (.iconst 1, 13, 0, 1) := by decide +kernel
theorem e_36_13 : dec prog_5_method_14_code 13 = some (.goto 4, 16, 17, 0) := by decide +kernel
theorem e_36_16 : dec prog_5_method_14_code 16 = some (.iconst 0, 17, 0, 0) := by decide +kernel
theorem e_36_17 : dec prog_5_method_14_code 17 = some (.ireturn, 18, 0, 0) := by decide +kernel
theorem E_36 : dec prog_5_method_14_code 0 = some (.iload_n 0, 1, 0, 0) ∧ dec prog_5_method_14_code 1 = some (.bipush 48, 3, 0, 48) ∧ dec prog_5_method_14_code 3 = some (.if_icmp .lt 13, 6, 16, 0) ∧ dec prog_5_method_14_code 6 = some (.iload_n 0, 7, 0, 0) ∧ dec prog_5_method_14_code 7 = some (.bipush 57, 9, 0, 57) ∧ dec prog_5_method_14_code 9 = some (.if_icmp .gt 7, 12, 16, 0) ∧ dec prog_5_method_14_code 12 = some (.iconst 1, 13, 0, 1) ∧ dec prog_5_method_14_code 13 = some (.goto 4, 16, 17, 0) ∧ dec prog_5_method_14_code 16 = some (.iconst 0, 17, 0, 0) ∧ dec prog_5_method_14_code 17 = some (.ireturn, 18, 0, 0) := ⟨e_36_0, e_36_1, e_36_3, e_36_6, e_36_7, e_36_9, e_36_12, e_36_13, e_36_16, e_36_17⟩
theorem e_37_0 : dec prog_5_method_15_code 0 = some (.aload_n 0, 1, 0, 0) := by decide +kernel
theorem e_37_1 : dec prog_5_method_15_code 1 = some (.getfield 28, 4, 0, 0) := by decide +kernel
theorem e_37_4 : dec prog_5_method_15_code 4 = some (.ifCond .ne 11, 7, 15, 0) := by decide +kernel
theorem e_37_7 : dec prog_5_method_15_code 7 = some (.aload_n 0, 8, 0, 0) := by decide +kernel
theorem e_37_8 : dec prog_5_method_15_code 8 = some (.invokevirtual 43, 11, 0, 0) := by decide +kernel
theorem e_37_11 : dec prog_5_method_15_code 11 = some (.iload_n 1, 12, 1, 0) := by decide +kernel
theorem e_37_12 : dec prog_5_method_15_code 12 = some (.if_icmp .eq 11, 15, 23, 0) := by decide +kernel
theorem e_37_15 : dec prog_5_method_15_code 15 = some (.aload_n 0, 16, 0, 0) := by decide +kernel
theorem e_37_16 : dec prog_5_method_15_code 16 = some (.iconst 1, 17, 0, 1) := by decide +kernel
theorem e_37_17 : dec prog_5_method_15_code 17 = some (.putfield 28, 20, 0, 0) := by decide +kernel
theorem e_37_20 : dec prog_5_method_15_code 20 = some (.goto 13, 23, 33, 0) := by decide +kernel
theorem e_37_23 : dec prog_5_method_15_code 23 = some (.aload_n 0, 24, 0, 0) := by decide +kernel
theorem e_37_24 : dec prog_5_method_15_code 24 = some (.dup, 25, 0, 0) := by decide +kernel
theorem e_37_25 : dec prog_5_method_15_code 25 = some (.getfield 25, 28, 0, 0) := by decide +kernel
theorem e_37_28 : dec prog_5_method_15_code 28 = some (.iconst 1, 29, 0, 1) := by decide +kernel
theorem e_37_29 : dec prog_5_method_15_code 29 = some (.iadd, 30, 0, 0) := by decide +kernel
theorem e_37_30 : dec prog_5_method_15_code 30 = some (.putfield 25, 33, 0, 0) := by decide +kernel
theorem e_37_33 : dec prog_5_method_15_code 33 = some (.return_, 34, 0, 0) := by decide +kernel
theorem E_37 : dec prog_5_method_15_code 0 = some (.aload_n 0, 1, 0, 0) ∧ dec prog_5_method_15_code 1 = some (.getfield 28, 4, 0, 0) ∧ dec prog_5_method_15_code 4 = some (.ifCond .ne 11, 7, 15, 0) ∧ dec prog_5_method_15_code 7 = some (.aload_n 0, 8, 0, 0) ∧ dec prog_5_method_15_code 8 = some (.invokevirtual 43, 11, 0, 0) ∧ dec prog_5_method_15_code 11 = some (.iload_n 1, 12, 1, 0) ∧ dec prog_5_method_15_code 12 = some (.if_icmp .eq 11, 15, 23, 0) ∧ dec prog_5_method_15_code 15 = some (.aload_n 0, 16, 0, 0) ∧ dec prog_5_method_15_code 16 = some (.iconst 1, 17, 0, 1) ∧ dec prog_5_method_15_code 17 = some (.putfield 28, 20, 0, 0) ∧ dec prog_5_method_15_code 20 = some (.goto 13, 23, 33, 0) ∧ dec prog_5_method_15_code 23 = some (.aload_n 0, 24, 0, 0) ∧ dec prog_5_method_15_code 24 = some (.dup, 25, 0, 0) ∧ dec prog_5_method_15_code 25 = some (.getfield 25, 28, 0, 0) ∧ dec prog_5_method_15_code 28 = some (.iconst 1, 29, 0, 1) ∧ dec prog_5_method_15_code 29 = some (.iadd, 30, 0, 0) ∧ dec prog_5_method_15_code 30 = some (.putfield 25, 33, 0, 0) ∧ dec prog_5_method_15_code 33 = some (.return_, 34, 0, 0) := ⟨e_37_0, e_37_1, e_37_4, e_37_7, e_37_8, e_37_11, e_37_12, e_37_15, e_37_16, e_37_17, e_37_20, e_37_23, e_37_24, e_37_25, e_37_28, e_37_29, e_37_30, e_37_33⟩
theorem e_38_0 : dec prog_5_method_16_code 0 = some (.aload_n 0, 1, 0, 0) := by decide +kernel
theorem e_38_1 : dec prog_5_method_16_code 1 = some (.getfield 25, 4, 0, 0) := by decide +kernel
theorem e_38_4 : dec prog_5_method_16_code 4 = some (.ifCond .lt 26, 7, 30, 0) := by decide +kernel
theorem e_38_7 : dec prog_5_method_16_code 7 = some (.aload_n 0, 8, 0, 0) := by decide +kernel
theorem e_38_8 : dec prog_5_method_16_code 8 = some (.getfield 25, 11, 0, 0) := by decide +kernel
theorem e_38_11 : dec prog_5_method_16_code 11 = some (.aload_n 0, 12, 0, 0) := by decide +kernel
theorem e_38_12 : dec prog_5_method_16_code 12 = some (.getfield 21, 15, 0, 0) := by decide +kernel
theorem e_38_15 : dec prog_5_method_16_code 15 = some (.if_icmp .ge 15, 18, 30, 0) := by decide +kernel
theorem e_38_18 : dec prog_5_method_16_code 18 = some (.aload_n 0, 19, 0, 0) := by decide +kernel
theorem e_38_19 : dec prog_5_method_16_code 19 = some (.getfield 9, 22, 0, 0) := by decide +kernel
theorem e_38_22 : dec prog_5_method_16_code 22 = some (.aload_n 0, 23, 0, 0) := by decide +kernel
theorem e_38_23 : dec prog_5_method_16_code 23 = some (.getfield 25, 26, 0, 0) := by decide +kernel
theorem e_38_26 : dec prog_5_method_16_code 26 = some (.caload, 27, 0, 0) := by decide +kernel
theorem e_38_27 : dec prog_5_method_16_code 27 = some (.goto 4, 30, 31, 0) := by decide +kernel
theorem e_38_30 : dec prog_5_method_16_code 30 = some (.iconst 0, 31, 0, 0) := by decide +kernel
theorem e_38_31 : dec prog_5_method_16_code 31 = some (.ireturn, 32, 0, 0) := by decide +kernel
theorem E_38 : dec prog_5_method_16_code 0 = some (.aload_n 0, 1, 0, 0) ∧ dec prog_5_method_16_code 1 = some (.getfield 25, 4, 0, 0) ∧ dec prog_5_method_16_code 4 = some (.ifCond .lt 26, 7, 30, 0) ∧ dec prog_5_method_16_code 7 = some (.aload_n 0, 8, 0, 0) ∧ dec prog_5_method_16_code 8 = some (.getfield 25, 11, 0, 0) ∧ dec prog_5_method_16_code 11 = some (.aload_n 0, 12, 0, 0) ∧ dec prog_5_method_16_code 12 = some (.getfield 21, 15, 0, 0) ∧ dec prog_5_method_16_code 15 = some (.if_icmp .ge 15, 18, 30, 0) ∧ dec prog_5_method_16_code 18 = some (.aload_n 0, 19, 0, 0) ∧ dec prog_5_method_16_code 19 = some (.getfield 9, 22, 0, 0) ∧ dec prog_5_method_16_code 22 = some (.aload_n 0, 23, 0, 0) ∧ dec prog_5_method_16_code 23 = some (.getfield 25, 26, 0, 0) ∧ dec prog_5_method_16_code 26 = some (.caload, 27, 0, 0) ∧ dec prog_5_method_16_code 27 = some (.goto 4, 30, 31, 0) ∧ dec prog_5_method_16_code 30 = some (.iconst 0, 31, 0, 0) ∧ dec prog_5_method_16_code 31 = some (.ireturn, 32, 0, 0) := ⟨e_38_0, e_38_1, e_38_4, e_38_7, e_38_8, e_38_11, e_38_12, e_38_15, e_38_18, e_38_19, e_38_22, e_38_23, e_38_26, e_38_27, e_38_30, e_38_31⟩
theorem e_39_0 : dec prog_6_method_1_code 0 = some (.aload_n 0, 1, 0, 0) := by decide +kernel
theorem e_39_1 : dec prog_6_method_1_code 1 = some (.invokespecial 3, 4, 0, 0) := by decide +kernel
theorem e_39_4 : dec prog_6_method_1_code 4 = some (.aload_n 0, 5, 0, 0) := by decide +kernel
theorem e_39_5 : dec prog_6_method_1_code 5 = some (.bipush 32, 7, 0, 32) := by decide +kernel
theorem e_39_7 : dec prog_6_method_1_code 7 = some (.newarray .int, 9, 0, 0) := by decide +kernel
theorem e_39_9 : dec prog_6_method_1_code 9 = some (.putfield 9, 12, 0, 0) := by decide +kernel
theorem e_39_12 : dec prog_6_method_1_code 12 = some (.aload_n 0, 13, 0, 0) := by decide +kernel
theorem e_39_13 : dec prog_6_method_1_code 13 = some (.bipush 8, 15, 0, 8) := by decide +kernel
theorem e_39_15 : dec prog_6_method_1_code 15 = some (.newarray .int, 17, 0, 0) := by decide +kernel
theorem e_39_17 : dec prog_6_method_1_code 17 = some (.putfield 15, 20, 0, 0) := by decide +kernel
theorem e_39_20 : dec prog_6_method_1_code 20 = some (.return_, 21, 0, 0) := by decide +kernel
theorem E_39 : dec prog_6_method_1_code 0 = some (.aload_n 0, 1, 0, 0) ∧ dec prog_6_method_1_code 1 = some (.invokespecial 3, 4, 0, 0) ∧ dec prog_6_method_1_code 4 = some (.aload_n 0, 5, 0, 0) ∧ dec prog_6_method_1_code 5 = some (.bipush 32, 7, 0, 32) ∧ dec prog_6_method_1_code 7 = some (.newarray .int, 9, 0, 0) ∧ dec prog_6_method_1_code 9 = some (.putfield 9, 12, 0, 0) ∧ dec prog_6_method_1_code 12 = some (.aload_n 0, 13, 0, 0) ∧ dec prog_6_method_1_code 13 = some (.bipush 8, 15, 0, 8) ∧ dec prog_6_method_1_code 15 = some (.newarray .int, 17, 0, 0) ∧ dec prog_6_method_1_code 17 = some (.putfield 15, 20, 0, 0) ∧ dec prog_6_method_1_code 20 = some (.return_, 21, 0, 0) := ⟨e_39_0, e_39_1, e_39_4, e_39_5, e_39_7, e_39_9, e_39_12, e_39_13, e_39_15, e_39_17, e_39_20⟩
theorem e_40_0 : dec prog_6_method_2_code 0 = some (.aload_n 1, 1, 1, 0) := by decide +kernel
theorem e_40_1 : dec prog_6_method_2_code 1 = some (.getfield 9, 4, 0, 0) := by decide +kernel
theorem e_40_4 : dec prog_6_method_2_code 4 = some (.iconst 0, 5, 0, 0) := by decide +kernel
theorem e_40_5 : dec prog_6_method_2_code 5 = some (.aload_n 0, 6, 0, 0) := by decide +kernel
theorem e_40_6 : dec prog_6_method_2_code 6 = some (.getfield 9, 9, 0, 0) := by decide +kernel
theorem e_40_9 : dec prog_6_method_2_code 9 = some (.iconst 0, 10, 0, 0) := by decide +kernel
theorem e_40_10 : dec prog_6_method_2_code 10 = some (.bipush 32, 12, 0, 32) := by decide +kernel
theorem e_40_12 : dec prog_6_method_2_code 12 = some (.invokestatic 18, 15, 0, 0) := by decide +kernel
theorem e_40_15 : dec prog_6_method_2_code 15 = some (.aload_n 1, 16, 1, 0) := by decide +kernel
theorem e_40_16 : dec prog_6_method_2_code 16 = some (.getfield 15, 19, 0, 0) := by decide +kernel
theorem e_40_19 : dec prog_6_method_2_code 19 = some (.iconst 0, 20, 0, 0) := by decide +kernel
theorem e_40_20 : dec prog_6_method_2_code 20 = some (.aload_n 0, 21, 0, 0) := by decide +kernel
theorem e_40_21 : dec prog_6_method_2_code 21 = some (.getfield 15, 24, 0, 0) := by decide +kernel
theorem e_40_24 : dec prog_6_method_2_code 24 = some (.iconst 0, 25, 0, 0) := by decide +kernel
theorem e_40_25 : dec prog_6_method_2_code 25 = some (.bipush 8, 27, 0, 8) := by decide +kernel
theorem e_40_27 : dec prog_6_method_2_code 27 = some (.invokestatic 18, 30, 0, 0) := by decide +kernel
theorem e_40_30 : dec prog_6_method_2_code 30 = some (.return_, 31, 0, 0) := by decide +kernel
theorem E_40 : dec prog_6_method_2_code 0 = some (.aload_n 1, 1, 1, 0) ∧ dec prog_6_method_2_code 1 = some (.getfield 9, 4, 0, 0) ∧ dec prog_6_method_2_code 4 = some (.iconst 0, 5, 0, 0) ∧ dec prog_6_method_2_code 5 = some (.aload_n 0, 6, 0, 0) ∧ dec prog_6_method_2_code 6 = some (.getfield 9, 9, 0, 0) ∧ dec prog_6_method_2_code 9 = some (.iconst 0, 10, 0, 0) ∧ dec prog_6_method_2_code 10 = some (.bipush 32, 12, 0, 32) ∧ dec prog_6_method_2_code 12 = some (.invokestatic 18, 15, 0, 0) ∧ dec prog_6_method_2_code 15 = some (.aload_n 1, 16, 1, 0) ∧ dec prog_6_method_2_code 16 = some (.getfield 15, 19, 0, 0) ∧ dec prog_6_method_2_code 19 = some (.iconst 0, 20, 0, 0) ∧ dec prog_6_method_2_code 20 = some (.aload_n 0, 21, 0, 0) ∧ dec prog_6_method_2_code 21 = some (.getfield 15, 24, 0, 0) ∧ dec prog_6_method_2_code 24 = some (.iconst 0, 25, 0, 0) ∧ dec prog_6_method_2_code 25 = some (.bipush 8, 27, 0, 8) ∧ dec prog_6_method_2_code 27 = some (.invokestatic 18, 30, 0, 0) ∧ dec prog_6_method_2_code 30 = some (.return_, 31, 0, 0) := ⟨e_40_0, e_40_1, e_40_4, e_40_5, e_40_6, e_40_9, e_40_10, e_40_12, e_40_15, e_40_16, e_40_19, e_40_20, e_40_21, e_40_24, e_40_25, e_40_27, e_40_30⟩
theorem e_41_0 : dec prog_6_method_3_code 0 = some (.iload_n 2, 1, 2, 0) := by decide +kernel
theorem e_41_1 : dec prog_6_method_3_code 1 = some (.ifCond .lt 13, 4, 14, 0) := by decide +kernel
theorem e_41_4 : dec prog_6_method_3_code 4 = some (.iload_n 2, 5, 2, 0) := by decide +kernel
theorem e_41_5 : dec prog_6_method_3_code 5 = some (.aload_n 0, 6, 0, 0) := by decide +kernel
theorem e_41_6 : dec prog_6_method_3_code 6 = some (.getfield 15, 9, 0, 0) := by decide +kernel
theorem e_41_9 : dec prog_6_method_3_code 9 = some (.iload_n 1, 10, 1, 0) := by decide +kernel
theorem e_41_10 : dec prog_6_method_3_code 10 = some (.iaload, 11, 0, 0) := by decide +kernel
theorem e_41_11 : dec prog_6_method_3_code 11 = some (.if_icmp .lt 6, 14, 17, 0) := by decide +kernel
theorem e_41_14 : dec prog_6_method_3_code 14 = some (.bipush (-6), 16, 0, (-6)) := by decide +kernel
theorem e_41_16 : dec prog_6_method_3_code 16 = some (.ireturn, 17, 0, 0) := by decide +kernel
theorem e_41_17 : dec prog_6_method_3_code 17 = some (.aload_n 0, 18, 0, 0) := by decide +kernel
theorem e_41_18 : dec prog_6_method_3_code 18 = some (.getfield 9, 21, 0, 0) := by decide +kernel
theorem e_41_21 : dec prog_6_method_3_code 21 = some (.iload_n 1, 22, 1, 0) := by decide +kernel
theorem e_41_22 : dec prog_6_method_3_code 22 = some (.iconst 4, 23, 0, 4) := by decide +kernel
theorem e_41_23 : dec prog_6_method_3_code 23 = some (.imul, 24, 0, 0) := by decide +kernel
theorem e_41_24 : dec prog_6_method_3_code 24 = some (.iload_n 2, 25, 2, 0) := by decide +kernel
theorem e_41_25 : dec prog_6_method_3_code 25 = some (.iadd, 26, 0, 0) := by decide +kernel
theorem e_41_26 : dec prog_6_method_3_code 26 = some (.iaload, 27, 0, 0) := by decide +kernel
theorem e_41_27 : dec prog_6_method_3_code 27 = some (.ireturn, 28, 0, 0) := by decide +kernel
theorem E_41 : dec prog_6_method_3_code 0 = some (.iload_n 2, 1, 2, 0) ∧ dec prog_6_method_3_code 1 = some (.ifCond .lt 13, 4, 14, 0) ∧ dec prog_6_method_3_code 4 = some (.iload_n 2, 5, 2, 0) ∧ dec prog_6_method_3_code 5 = some (.aload_n 0, 6, 0, 0) ∧ dec prog_6_method_3_code 6 = some (.getfield 15, 9, 0, 0) ∧ dec prog_6_method_3_code 9 = some (.iload_n 1, 10, 1, 0) ∧ dec prog_6_method_3_code 10 = some (.iaload, 11, 0, 0) ∧ dec prog_6_method_3_code 11 = some (.if_icmp .lt 6, 14, 17, 0) ∧ dec prog_6_method_3_code 14 = some (.bipush (-6), 16, 0, (-6)) ∧ dec prog_6_method_3_code 16 = some (.ireturn, 17, 0, 0) ∧ dec prog_6_method_3_code 17 = some (.aload_n 0, 18, 0, 0) ∧ dec prog_6_method_3_code 18 = some (.getfield 9, 21, 0, 0) ∧ dec prog_6_method_3_code 21 = some (.iload_n 1, 22, 1, 0) ∧ dec prog_6_method_3_code 22 = some (.iconst 4, 23, 0, 4) ∧ dec prog_6_method_3_code 23 = some (.imul, 24, 0, 0) ∧ dec prog_6_method_3_code 24 = some (.iload_n 2, 25, 2, 0) ∧ dec prog_6_method_3_code 25 = some (.iadd, 26, 0, 0) ∧ dec prog_6_method_3_code 26 = some (.iaload, 27, 0, 0) ∧ dec prog_6_method_3_code 27 = some (.ireturn, 28, 0, 0) := ⟨e_41_0, e_41_1, e_41_4, e_41_5, e_41_6, e_41_9, e_41_10, e_41_11, e_41_14, e_41_16, e_41_17, e_41_18, e_41_21, e_41_22, e_41_23, e_41_24, e_41_25, e_41_26, e_41_27⟩
theorem e_42_0 : dec prog_6_method_4_code 0 = some (.aload_n 0, 1, 0, 0) := by decide +kernel
theorem e_42_1 : dec prog_6_method_4_code 1 = some (.getfield 15, 4, 0, 0) := by decide +kernel
theorem e_42_4 : dec prog_6_method_4_code 4 = some (.iload_n 1, 5, 1, 0) := by decide +kernel
theorem e_42_5 : dec prog_6_method_4_code 5 = some (.iaload, 6, 0, 0) := by decide +kernel
theorem e_42_6 : dec prog_6_method_4_code 6 = some (.istore_n 2, 7, 2, 0) := by decide +kernel
theorem e_42_7 : dec prog_6_method_4_code 7 = some (.iload_n 2, 8, 2, 0) := by decide +kernel
theorem e_42_8 : dec prog_6_method_4_code 8 = some (.ifCond .le 18, 11, 26, 0) := by decide +kernel
theorem e_42_11 : dec prog_6_method_4_code 11 = some (.aload_n 0, 12, 0, 0) := by decide +kernel
theorem e_42_12 : dec prog_6_method_4_code 12 = some (.getfield 9, 15, 0, 0) := by decide +kernel
theorem e_42_15 : dec prog_6_method_4_code 15 = some (.iload_n 1, 16, 1, 0) := by decide +kernel
theorem e_42_16 : dec prog_6_method_4_code 16 = some (.iconst 4, 17, 0, 4) := by decide +kernel
theorem e_42_17 : dec prog_6_method_4_code 17 = some (.imul, 18, 0, 0) := by decide +kernel
theorem e_42_18 : dec prog_6_method_4_code 18 = some (.iload_n 2, 19, 2, 0) := by decide +kernel
theorem e_42_19 : dec prog_6_method_4_code 19 = some (.iadd, 20, 0, 0) := by decide +kernel
theorem e_42_20 : dec prog_6_method_4_code 20 = some (.iconst 1, 21, 0, 1) := by decide +kernel
theorem e_42_21 : dec prog_6_method_4_code 21 = some (.isub, 22, 0, 0) := by decide +kernel
theorem e_42_22 : dec prog_6_method_4_code 22 = some (.iaload, 23, 0, 0) := by decide +kernel
theorem e_42_23 : dec prog_6_method_4_code 23 = some (.goto 5, 26, 28, 0) := by decide +kernel
theorem e_42_26 : dec prog_6_method_4_code 26 = some (.bipush (-6), 28, 0, (-6)) := by decide +kernel
theorem e_42_28 : dec prog_6_method_4_code 28 = some (.ireturn, 29, 0, 0) := by decide +kernel
theorem E_42 : dec prog_6_method_4_code 0 = some (.aload_n 0, 1, 0, 0) ∧ dec prog_6_method_4_code 1 = some (.getfield 15, 4, 0, 0) ∧ dec prog_6_method_4_code 4 = some (.iload_n 1, 5, 1, 0) ∧ dec prog_6_method_4_code 5 = some (.iaload, 6, 0, 0) ∧ dec prog_6_method_4_code 6 = some (.istore_n 2, 7, 2, 0) ∧ dec prog_6_method_4_code 7 = some (.iload_n 2, 8, 2, 0) ∧ dec prog_6_method_4_code 8 = some (.ifCond .le 18, 11, 26, 0) ∧ dec prog_6_method_4_code 11 = some (.aload_n 0, 12, 0, 0) ∧ dec prog_6_method_4_code 12 = some (.getfield 9, 15, 0, 0) ∧ dec prog_6_method_4_code 15 = some (.iload_n 1, 16, 1, 0) ∧ dec prog_6_method_4_code 16 = some (.iconst 4, 17, 0, 4) ∧ dec prog_6_method_4_code 17 = some (.imul, 18, 0, 0) ∧ dec prog_6_method_4_code 18 = some (.iload_n 2, 19, 2, 0) ∧ dec prog_6_method_4_code 19 = some (.iadd, 20, 0, 0) ∧ dec prog_6_method_4_code 20 = some (.iconst 1, 21, 0, 1) ∧ dec prog_6_method_4_code 21 = some (.isub, 22, 0, 0) ∧ dec prog_6_method_4_code 22 = some (.iaload, 23, 0, 0) ∧ dec prog_6_method_4_code 23 = some (.goto 5, 26, 28, 0) ∧ dec prog_6_method_4_code 26 = some (.bipush (-6), 28, 0, (-6)) ∧ dec prog_6_method_4_code 28 = some (.ireturn, 29, 0, 0) := ⟨e_42_0, e_42_1, e_42_4, e_42_5, e_42_6, e_42_7, e_42_8, e_42_11, e_42_12, e_42_15, e_42_16, e_42_17, e_42_18, e_42_19, e_42_20, e_42_21, e_42_22, e_42_23, e_42_26, e_42_28⟩
theorem e_43_0 : dec prog_6_method_5_code 0 = some (.iconst 0, 1, 0, 0) := by decide +kernel
theorem e_43_1 : dec prog_6_method_5_code 1 = some (.istore_n 2, 2, 2, 0) := by decide +kernel
theorem e_43_2 : dec prog_6_method_5_code 2 = some (.iload_n 2, 3, 2, 0) := by decide +kernel
theorem e_43_3 : dec prog_6_method_5_code 3 = some (.bipush 8, 5, 0, 8) := by decide +kernel
theorem e_43_5 : dec prog_6_method_5_code 5 = some (.if_icmp .ge 44, 8, 49, 0) := by decide +kernel
theorem e_43_8 : dec prog_6_method_5_code 8 = some (.iconst 0, 9, 0, 0) := by decide +kernel
theorem e_43_9 : dec prog_6_method_5_code 9 = some (.istore_n 3, 10, 3, 0) := by decide +kernel
theorem e_43_10 : dec prog_6_method_5_code 10 = some (.iload_n 3, 11, 3, 0) := by decide +kernel
theorem e_43_11 : dec prog_6_method_5_code 11 = some (.aload_n 0, 12, 0, 0) := by decide +kernel
theorem e_43_12 : dec prog_6_method_5_code 12 = some (.getfield 15, 15, 0, 0) := by decide +kernel
theorem e_43_15 : dec prog_6_method_5_code 15 = some (.iload_n 2, 16, 2, 0) := by decide +kernel
theorem e_43_16 : dec prog_6_method_5_code 16 = some (.iaload, 17, 0, 0) := by decide +kernel
theorem e_43_17 : dec prog_6_method_5_code 17 = some (.if_icmp .ge 26, 20, 43, 0) := by decide +kernel
theorem e_43_20 : dec prog_6_method_5_code 20 = some (.aload_n 0, 21, 0, 0) := by decide +kernel
theorem e_43_21 : dec prog_6_method_5_code 21 = some (.iload_n 2, 22, 2, 0) := by decide +kernel
theorem e_43_22 : dec prog_6_method_5_code 22 = some (.iload_n 3, 23, 3, 0) := by decide +kernel
theorem e_43_23 : dec prog_6_method_5_code 23 = some (.invokevirtual 24, 26, 0, 0) := by decide +kernel
theorem e_43_26 : dec prog_6_method_5_code 26 = some (.iload_n 1, 27, 1, 0) := by decide +kernel
theorem e_43_27 : dec prog_6_method_5_code 27 = some (.if_icmp .ne 10, 30, 37, 0) := by decide +kernel
theorem e_43_30 : dec prog_6_method_5_code 30 = some (.bipush 10, 32, 0, 10) := by decide +kernel
theorem e_43_32 : dec prog_6_method_5_code 32 = some (.iload_n 2, 33, 2, 0) := by decide +kernel
theorem e_43_33 : dec prog_6_method_5_code 33 = some (.imul, 34, 0, 0) := by decide +kernel
theorem e_43_34 : dec prog_6_method_5_code 34 = some (.iload_n 3, 35, 3, 0) := by decide +kernel
theorem e_43_35 : dec prog_6_method_5_code 35 = some (.iadd, 36, 0, 0) := by decide +kernel
theorem e_43_36 : dec prog_6_method_5_code 36 = some (.ireturn, 37, 0, 0) := by decide +kernel
theorem e_43_37 : dec prog_6_method_5_code 37 = some (.iinc 3 1, 40, 3, 1) := by decide +kernel
theorem e_43_40 : dec prog_6_method_5_code 40 = some (.goto (-30), 43, 10, 0) := by decide +kernel
theorem e_43_43 : dec prog_6_method_5_code 43 = some (.iinc 2 1, 46, 2, 1) := by decide +kernel
theorem e_43_46 : dec prog_6_method_5_code 46 = some (.goto (-44), 49, 2, 0) := by decide +kernel
theorem e_43_49 : dec prog_6_method_5_code 49 = some (.bipush (-6), 51, 0, (-6)) := by decide +kernel
theorem e_43_51 : dec prog_6_method_5_code 51 = some (.ireturn, 52, 0, 0) := by decide +kernel
theorem E_43 : dec prog_6_method_5_code 0 = some (.iconst 0, 1, 0, 0) ∧ dec prog_6_method_5_code 1 = some (.istore_n 2, 2, 2, 0) ∧ dec prog_6_method_5_code 2 = some (.iload_n 2, 3, 2, 0) ∧ dec prog_6_method_5_code 3 = some (.bipush 8, 5, 0, 8) ∧ dec prog_6_method_5_code 5 = some (.if_icmp .ge 44, 8, 49, 0) ∧ dec prog_6_method_5_code 8 = some (.iconst 0, 9, 0, 0) ∧ dec prog_6_method_5_code 9 = some (.istore_n 3, 10, 3, 0) ∧ dec prog_6_method_5_code 10 = some (.iload_n 3, 11, 3, 0) ∧ dec prog_6_method_5_code 11 = some (.aload_n 0, 12, 0, 0) ∧ dec prog_6_method_5_code 12 = some (.getfield 15, 15, 0, 0) ∧ dec prog_6_method_5_code 15 = some (.iload_n 2, 16, 2, 0) ∧ dec prog_6_method_5_code 16 = some (.iaload, 17, 0, 0) ∧ dec prog_6_method_5_code 17 = some (.if_icmp .ge 26, 20, 43, 0) ∧ dec prog_6_method_5_code 20 = some (.aload_n 0, 21, 0, 0) ∧ dec prog_6_method_5_code 21 = some (.iload_n 2, 22, 2, 0) ∧ dec prog_6_method_5_code 22 = some (.iload_n 3, 23, 3, 0) ∧ dec prog_6_method_5_code 23 = some (.invokevirtual 24, 26, 0, 0) ∧ dec prog_6_method_5_code 26 = some (.iload_n 1, 27, 1, 0) ∧ dec prog_6_method_5_code 27 = some (.if_icmp .ne 10, 30, 37, 0) ∧ dec prog_6_method_5_code 30 = some (.bipush 10, 32, 0, 10) ∧ dec prog_6_method_5_code 32 = some (.iload_n 2, 33, 2, 0) ∧ dec prog_6_method_5_code 33 = some (.imul, 34, 0, 0) ∧ dec prog_6_method_5_code 34 = some (.iload_n 3, 35, 3, 0) ∧ dec prog_6_method_5_code 35 = some (.iadd, 36, 0, 0) ∧ dec prog_6_method_5_code 36 = some (.ireturn, 37, 0, 0) ∧ dec prog_6_method_5_code 37 = some (.iinc 3 1, 40, 3, 1) ∧ dec prog_6_method_5_code 40 = some (.goto (-30), 43, 10, 0) ∧ dec prog_6_method_5_code 43 = some (.iinc 2 1, 46, 2, 1) ∧ dec prog_6_method_5_code 46 = some (.goto (-44), 49, 2, 0) ∧ dec prog_6_method_5_code 49 = some (.bipush (-6), 51, 0, (-6)) ∧ dec prog_6_method_5_code 51 = some (.ireturn, 52, 0, 0) := ⟨e_43_0, e_43_1, e_43_2, e_43_3, e_43_5, e_43_8, e_43_9, e_43_10, e_43_11, e_43_12, e_43_15, e_43_16, e_43_17, e_43_20, e_43_21, e_43_22, e_43_23, e_43_26, e_43_27, e_43_30, e_43_32, e_43_33, e_43_34, e_43_35, e_43_36, e_43_37, e_43_40, e_43_43, e_43_46, e_43_49, e_43_51⟩
theorem e_44_0 : dec prog_6_method_6_code 0 = some (.aload_n 0, 1, 0, 0) := by decide +kernel
theorem e_44_1 : dec prog_6_method_6_code 1 = some (.getfield 15, 4, 0, 0) := by decide +kernel
theorem e_44_4 : dec prog_6_method_6_code 4 = some (.iload_n 1, 5, 1, 0) := by decide +kernel
theorem e_44_5 : dec prog_6_method_6_code 5 = some (.iaload, 6, 0, 0) := by decide +kernel
theorem e_44_6 : dec prog_6_method_6_code 6 = some (.iconst 4, 7, 0, 4) := by decide +kernel
theorem e_44_7 : dec prog_6_method_6_code 7 = some (.if_icmp .ge 29, 10, 36, 0) := by decide +kernel
theorem e_44_10 : dec prog_6_method_6_code 10 = some (.aload_n 0, 11, 0, 0) := by decide +kernel
theorem e_44_11 : dec prog_6_method_6_code 11 = some (.getfield 9, 14, 0, 0) := by decide +kernel
theorem e_44_14 : dec prog_6_method_6_code 14 = some (.iload_n 1, 15, 1, 0) := by decide +kernel
theorem e_44_15 : dec prog_6_method_6_code 15 = some (.iconst 4, 16, 0, 4) := by decide +kernel
theorem e_44_16 : dec prog_6_method_6_code 16 = some (.imul, 17, 0, 0) := by decide +kernel
theorem e_44_17 : dec prog_6_method_6_code 17 = some (.aload_n 0, 18, 0, 0) := by decide +kernel
theorem e_44_18 : dec prog_6_method_6_code 18 = some (.getfield 15, 21, 0, 0) := by decide +kernel
theorem e_44_21 : dec prog_6_method_6_code 21 = some (.iload_n 1, 22, 1, 0) := by decide +kernel
theorem e_44_22 : dec prog_6_method_6_code 22 = some (.iaload, 23, 0, 0) := by decide +kernel
theorem e_44_23 : dec prog_6_method_6_code 23 = some (.iadd, 24, 0, 0) := by decide +kernel
theorem e_44_24 : dec prog_6_method_6_code 24 = some (.iload_n 2, 25, 2, 0) := by decide +kernel
theorem e_44_25 : dec prog_6_method_6_code 25 = some (.iastore, 26, 0, 0) := by decide +kernel
theorem e_44_26 : dec prog_6_method_6_code 26 = some (.aload_n 0, 27, 0, 0) := by decide +kernel
theorem e_44_27 : dec prog_6_method_6_code 27 = some (.getfield 15, 30, 0, 0) := by decide +kernel
theorem e_44_30 : dec prog_6_method_6_code 30 = some (.iload_n 1, 31, 1, 0) := by decide +kernel
theorem e_44_31 : dec prog_6_method_6_code 31 = some (.dup2, 32, 0, 0) := by decide +kernel
theorem e_44_32 : dec prog_6_method_6_code 32 = some (.iaload, 33, 0, 0) := by decide +kernel
theorem e_44_33 : dec prog_6_method_6_code 33 = some (.iconst 1, 34, 0, 1) := by decide +kernel
theorem e_44_34 : dec prog_6_method_6_code 34 = some (.iadd, 35, 0, 0) := by decide +kernel
theorem e_44_35 : dec prog_6_method_6_code 35 = some (.iastore, 36, 0, 0) := by decide +kernel
theorem e_44_36 : dec prog_6_method_6_code 36 = some (.return_, 37, 0, 0) := by decide +kernel
theorem E_44 : dec prog_6_method_6_code 0 = some (.aload_n 0, 1, 0, 0) ∧ dec prog_6_method_6_code 1 = some (.getfield 15, 4, 0, 0) ∧ dec prog_6_method_6_code 4 = some (.iload_n 1, 5, 1, 0) ∧ dec prog_6_method_6_code 5 = some (.iaload, 6, 0, 0) ∧ dec prog_6_method_6_code 6 = some (.iconst 4, 7, 0, 4) ∧ dec prog_6_method_6_code 7 = some (.if_icmp .ge 29, 10, 36, 0) ∧ dec prog_6_method_6_code 10 = some (.aload_n 0, 11, 0, 0) ∧ dec prog_6_method_6_code 11 = some (.getfield 9, 14, 0, 0) ∧ dec prog_6_method_6_code 14 = some (.iload_n 1, 15, 1, 0) ∧ dec prog_6_method_6_code 15 = some (.iconst 4, 16, 0, 4) ∧ dec prog_6_method_6_code 16 = some (.imul, 17, 0, 0) ∧ dec prog_6_method_6_code 17 = some (.aload_n 0, 18, 0, 0) ∧ dec prog_6_method_6_code 18 = some (.getfield 15, 21, 0, 0) ∧ dec prog_6_method_6_code 21 = some (.iload_n 1, 22, 1, 0) ∧ dec prog_6_method_6_code 22 = some (.iaload, 23, 0, 0) ∧ dec prog_6_method_6_code 23 = some (.iadd, 24, 0, 0) ∧ dec prog_6_method_6_code 24 = some (.iload_n 2, 25, 2, 0) ∧ dec prog_6_method_6_code 25 = some (.iastore, 26, 0, 0) ∧ dec prog_6_method_6_code 26 = some (.aload_n 0, 27, 0, 0) ∧ dec prog_6_method_6_code 27 = some (.getfield 15, 30, 0, 0) ∧ dec prog_6_method_6_code 30 = some (.iload_n 1, 31, 1, 0) ∧ dec prog_6_method_6_code 31 = some (.dup2, 32, 0, 0) ∧ dec prog_6_method_6_code 32 = some (.iaload, 33, 0, 0) ∧ dec prog_6_method_6_code 33 = some (.iconst 1, 34, 0, 1) ∧ dec prog_6_method_6_code 34 = some (.iadd, 35, 0, 0) ∧ dec prog_6_method_6_code 35 = some (.iastore, 36, 0, 0) ∧ dec prog_6_method_6_code 36 = some (.return_, 37, 0, 0) := ⟨e_44_0, e_44_1, e_44_4, e_44_5, e_44_6, e_44_7, e_44_10, e_44_11, e_44_14, e_44_15, e_44_16, e_44_17, e_44_18, e_44_21, e_44_22, e_44_23, e_44_24, e_44_25, e_44_26, e_44_27, e_44_30, e_44_31, e_44_32, e_44_33, e_44_34, e_44_35, e_44_36⟩
theorem e_45_0 : dec prog_6_method_7_code 0 = some (.aload_n 0, 1, 0, 0) := by decide +kernel
theorem e_45_1 : dec prog_6_method_7_code 1 = some (.getfield 15, 4, 0, 0) := by decide +kernel
theorem e_45_4 : dec prog_6_method_7_code 4 = some (.iload_n 1, 5, 1, 0) := by decide +kernel
theorem e_45_5 : dec prog_6_method_7_code 5 = some (.iaload, 6, 0, 0) := by decide +kernel
theorem e_45_6 : dec prog_6_method_7_code 6 = some (.ifCond .le 13, 9, 19, 0) := by decide +kernel
theorem e_45_9 : dec prog_6_method_7_code 9 = some (.aload_n 0, 10, 0, 0) := by decide +kernel
theorem e_45_10 : dec prog_6_method_7_code 10 = some (.getfield 15, 13, 0, 0) := by decide +kernel
theorem e_45_13 : dec prog_6_method_7_code 13 = some (.iload_n 1, 14, 1, 0) := by decide +kernel
theorem e_45_14 : dec prog_6_method_7_code 14 = some (.dup2, 15, 0, 0) := by decide +kernel
theorem e_45_15 : dec prog_6_method_7_code 15 = some (.iaload, 16, 0, 0) := by decide +kernel
theorem e_45_16 : dec prog_6_method_7_code 16 = some (.iconst 1, 17, 0, 1) := by decide +kernel
theorem e_45_17 : dec prog_6_method_7_code 17 = some (.isub, 18, 0, 0) := by decide +kernel
theorem e_45_18 : dec prog_6_method_7_code 18 = some (.iastore, 19, 0, 0) := by decide +kernel
theorem e_45_19 : dec prog_6_method_7_code 19 = some (.return_, 20, 0, 0) := by decide +kernel
theorem E_45 : dec prog_6_method_7_code 0 = some (.aload_n 0, 1, 0, 0) ∧ dec prog_6_method_7_code 1 = some (.getfield 15, 4, 0, 0) ∧ dec prog_6_method_7_code 4 = some (.iload_n 1, 5, 1, 0) ∧ dec prog_6_method_7_code 5 = some (.iaload, 6, 0, 0) ∧ dec prog_6_method_7_code 6 = some (.ifCond .le 13, 9, 19, 0) ∧ dec prog_6_method_7_code 9 = some (.aload_n 0, 10, 0, 0) ∧ dec prog_6_method_7_code 10 = some (.getfield 15, 13, 0, 0) ∧ dec prog_6_method_7_code 13 = some (.iload_n 1, 14, 1, 0) ∧ dec prog_6_method_7_code 14 = some (.dup2, 15, 0, 0) ∧ dec prog_6_method_7_code 15 = some (.iaload, 16, 0, 0) ∧ dec prog_6_method_7_code 16 = some (.iconst 1, 17, 0, 1) ∧ dec prog_6_method_7_code 17 = some (.isub, 18, 0, 0) ∧ dec prog_6_method_7_code 18 = some (.iastore, 19, 0, 0) ∧ dec prog_6_method_7_code 19 = some (.return_, 20, 0, 0) := ⟨e_45_0, e_45_1, e_45_4, e_45_5, e_45_6, e_45_9, e_45_10, e_45_13, e_45_14, e_45_15, e_45_16, e_45_17, e_45_18, e_45_19⟩
theorem e_46_0 : dec prog_6_method_8_code 0 = some (.iconst 0, 1, 0, 0) := by decide +kernel
theorem e_46_1 : dec prog_6_method_8_code 1 = some (.istore_n 1, 2, 1, 0) := by decide +kernel
theorem e_46_2 : dec prog_6_method_8_code 2 = some (.iconst 0, 3, 0, 0) := by decide +kernel
theorem e_46_3 : dec prog_6_method_8_code 3 = some (.istore_n 2, 4, 2, 0) := by decide +kernel
theorem e_46_4 : dec prog_6_method_8_code 4 = some (.iload_n 2, 5, 2, 0) := by decide +kernel
theorem e_46_5 : dec prog_6_method_8_code 5 = some (.bipush 8, 7, 0, 8) := by decide +kernel
theorem e_46_7 : dec prog_6_method_8_code 7 = some (.if_icmp .ge 18, 10, 25, 0) := by decide +kernel
theorem e_46_10 : dec prog_6_method_8_code 10 = some (.iload_n 1, 11, 1, 0) := by decide +kernel
theorem e_46_11 : dec prog_6_method_8_code 11 = some (.aload_n 0, 12, 0, 0) := by decide +kernel
theorem e_46_12 : dec prog_6_method_8_code 12 = some (.getfield 15, 15, 0, 0) := by decide +kernel
theorem e_46_15 : dec prog_6_method_8_code 15 = some (.iload_n 2, 16, 2, 0) := by decide +kernel
theorem e_46_16 : dec prog_6_method_8_code 16 = some (.iaload, 17, 0, 0) := by decide +kernel
theorem e_46_17 : dec prog_6_method_8_code 17 = some (.iadd, 18, 0, 0) := by decide +kernel
theorem e_46_18 : dec prog_6_method_8_code 18 = some (.istore_n 1, 19, 1, 0) := by decide +kernel
theorem e_46_19 : dec prog_6_method_8_code 19 = some (.iinc 2 1, 22, 2, 1) := by decide +kernel
theorem e_46_22 : dec prog_6_method_8_code 22 = some (.goto (-18), 25, 4, 0) := by decide +kernel
theorem e_46_25 : dec prog_6_method_8_code 25 = some (.iload_n 1, 26, 1, 0) := by decide +kernel
theorem e_46_26 : dec prog_6_method_8_code 26 = some (.ireturn, 27, 0, 0) := by decide +kernel
theorem E_46 : dec prog_6_method_8_code 0 = some (.iconst 0, 1, 0, 0) ∧ dec prog_6_method_8_code 1 = some (.istore_n 1, 2, 1, 0) ∧ dec prog_6_method_8_code 2 = some (.iconst 0, 3, 0, 0) ∧ dec prog_6_method_8_code 3 = some (.istore_n 2, 4, 2, 0) ∧ dec prog_6_method_8_code 4 = some (.iload_n 2, 5, 2, 0) ∧ dec prog_6_method_8_code 5 = some (.bipush 8, 7, 0, 8) ∧ dec prog_6_method_8_code 7 = some (.if_icmp .ge 18, 10, 25, 0) ∧ dec prog_6_method_8_code 10 = some (.iload_n 1, 11, 1, 0) ∧ dec prog_6_method_8_code 11 = some (.aload_n 0, 12, 0, 0) ∧ dec prog_6_method_8_code 12 = some (.getfield 15, 15, 0, 0) ∧ dec prog_6_method_8_code 15 = some (.iload_n 2, 16, 2, 0) ∧ dec prog_6_method_8_code 16 = some (.iaload, 17, 0, 0) ∧ dec prog_6_method_8_code 17 = some (.iadd, 18, 0, 0) ∧ dec prog_6_method_8_code 18 = some (.istore_n 1, 19, 1, 0) ∧ dec prog_6_method_8_code 19 = some (.iinc 2 1, 22, 2, 1) ∧ dec prog_6_method_8_code 22 = some (.goto (-18), 25, 4, 0) ∧ dec prog_6_method_8_code 25 = some (.iload_n 1, 26, 1, 0) ∧ dec prog_6_method_8_code 26 = some (.ireturn, 27, 0, 0) := ⟨e_46_0, e_46_1, e_46_2, e_46_3, e_46_4, e_46_5, e_46_7, e_46_10, e_46_11, e_46_12, e_46_15, e_46_16, e_46_17, e_46_18, e_46_19, e_46_22, e_46_25, e_46_26⟩
theorem e_47_0 : dec prog_6_method_9_code 0 = some (.iconst 0, 1, 0, 0) := by decide +kernel
theorem e_47_1 : dec prog_6_method_9_code 1 = some (.istore_n 1, 2, 1, 0) := by decide +kernel
theorem e_47_2 : dec prog_6_method_9_code 2 = some (.iconst 1, 3, 0, 1) := by decide +kernel
theorem e_47_3 : dec prog_6_method_9_code 3 = some (.istore_n 2, 4, 2, 0) := by decide +kernel
theorem e_47_4 : dec prog_6_method_9_code 4 = some (.iload_n 2, 5, 2, 0) := by decide +kernel
theorem e_47_5 : dec prog_6_method_9_code 5 = some (.bipush 8, 7, 0, 8) := by decide +kernel
theorem e_47_7 : dec prog_6_method_9_code 7 = some (.if_icmp .ge 26, 10, 33, 0) := by decide +kernel
theorem e_47_10 : dec prog_6_method_9_code 10 = some (.aload_n 0, 11, 0, 0) := by decide +kernel
theorem e_47_11 : dec prog_6_method_9_code 11 = some (.getfield 15, 14, 0, 0) := by decide +kernel
theorem e_47_14 : dec prog_6_method_9_code 14 = some (.iload_n 2, 15, 2, 0) := by decide +kernel
theorem e_47_15 : dec prog_6_method_9_code 15 = some (.iaload, 16, 0, 0) := by decide +kernel
theorem e_47_16 : dec prog_6_method_9_code 16 = some (.aload_n 0, 17, 0, 0) := by decide +kernel
theorem e_47_17 : dec prog_6_method_9_code 17 = some (.getfield 15, 20, 0, 0) := by decide +kernel
theorem e_47_20 : dec prog_6_method_9_code 20 = some (.iload_n 1, 21, 1, 0) := by decide +kernel
theorem e_47_21 : dec prog_6_method_9_code 21 = some (.iaload, 22, 0, 0) := by decide +kernel
theorem e_47_22 : dec prog_6_method_9_code 22 = some (.if_icmp .ge 5, 25, 27, 0) := by decide +kernel
theorem e_47_25 : dec prog_6_method_9_code 25 = some (.iload_n 2, 26, 2, 0) := by decide +kernel
theorem e_47_26 : dec prog_6_method_9_code 26 = some (.istore_n 1, 27, 1, 0) := by decide +kernel
theorem e_47_27 : dec prog_6_method_9_code 27 = some (.iinc 2 1, 30, 2, 1) := by decide +kernel
theorem e_47_30 : dec prog_6_method_9_code 30 = some (.goto (-26), 33, 4, 0) := by decide +kernel
theorem e_47_33 : dec prog_6_method_9_code 33 = some (.iload_n 1, 34, 1, 0) := by decide +kernel
theorem e_47_34 : dec prog_6_method_9_code 34 = some (.ireturn, 35, 0, 0) := by decide +kernel
theorem E_47 : dec prog_6_method_9_code 0 = some (.iconst 0, 1, 0, 0) ∧ dec prog_6_method_9_code 1 = some (.istore_n 1, 2, 1, 0) ∧ dec prog_6_method_9_code 2 = some (.iconst 1, 3, 0, 1) ∧ dec prog_6_method_9_code 3 = some (.istore_n 2, 4, 2, 0) ∧ dec prog_6_method_9_code 4 = some (.iload_n 2, 5, 2, 0) ∧ dec prog_6_method_9_code 5 = some (.bipush 8, 7, 0, 8) ∧ dec prog_6_method_9_code 7 = some (.if_icmp .ge 26, 10, 33, 0) ∧ dec prog_6_method_9_code 10 = some (.aload_n 0, 11, 0, 0) ∧ dec prog_6_method_9_code 11 = some (.getfield 15, 14, 0, 0) ∧ dec prog_6_method_9_code 14 = some (.iload_n 2, 15, 2, 0) ∧ dec prog_6_method_9_code 15 = some (.iaload, 16, 0, 0) ∧ dec prog_6_method_9_code 16 = some (.aload_n 0, 17, 0, 0) ∧ dec prog_6_method_9_code 17 = some (.getfield 15, 20, 0, 0) ∧ dec prog_6_method_9_code 20 = some (.iload_n 1, 21, 1, 0) ∧ dec prog_6_method_9_code 21 = some (.iaload, 22, 0, 0) ∧ dec prog_6_method_9_code 22 = some (.if_icmp .ge 5, 25, 27, 0) ∧ dec prog_6_method_9_code 25 = some (.iload_n 2, 26, 2, 0) ∧ dec prog_6_method_9_code 26 = some (.istore_n 1, 27, 1, 0) ∧ dec prog_6_method_9_code 27 = some (.iinc 2 1, 30, 2, 1) ∧ dec prog_6_method_9_code 30 = some (.goto (-26), 33, 4, 0) ∧ dec prog_6_method_9_code 33 = some (.iload_n 1, 34, 1, 0) ∧ dec prog_6_method_9_code 34 = some (.ireturn, 35, 0, 0) := ⟨e_47_0, e_47_1, e_47_2, e_47_3, e_47_4, e_47_5, e_47_7, e_47_10, e_47_11, e_47_14, e_47_15, e_47_16, e_47_17, e_47_20, e_47_21, e_47_22, e_47_25, e_47_26, e_47_27, e_47_30, e_47_33, e_47_34⟩
theorem e_48_0 : dec prog_6_method_10_code 0 = some (.iconst 0, 1, 0, 0) := by decide +kernel
theorem e_48_1 : dec prog_6_method_10_code 1 = some (.istore_n 1, 2, 1, 0) := by decide +kernel
theorem e_48_2 : dec prog_6_method_10_code 2 = some (.iconst 0, 3, 0, 0) := by decide +kernel
theorem e_48_3 : dec prog_6_method_10_code 3 = some (.istore_n 2, 4, 2, 0) := by decide +kernel
theorem e_48_4 : dec prog_6_method_10_code 4 = some (.iload_n 2, 5, 2, 0) := by decide +kernel
theorem e_48_5 : dec prog_6_method_10_code 5 = some (.bipush 8, 7, 0, 8) := by decide +kernel
theorem e_48_7 : dec prog_6_method_10_code 7 = some (.if_icmp .ge 24, 10, 31, 0) := by decide +kernel
theorem e_48_10 : dec prog_6_method_10_code 10 = some (.aload_n 0, 11, 0, 0) := by decide +kernel
theorem e_48_11 : dec prog_6_method_10_code 11 = some (.getfield 15, 14, 0, 0) := by decide +kernel
theorem e_48_14 : dec prog_6_method_10_code 14 = some (.iload_n 2, 15, 2, 0) := by decide +kernel
theorem e_48_15 : dec prog_6_method_10_code 15 = some (.iaload, 16, 0, 0) := by decide +kernel
theorem e_48_16 : dec prog_6_method_10_code 16 = some (.ifCond .ne 9, 19, 25, 0) := by decide +kernel
theorem e_48_19 : dec prog_6_method_10_code 19 = some (.iload_n 1, 20, 1, 0) := by decide +kernel
theorem e_48_20 : dec prog_6_method_10_code 20 = some (.iconst 1, 21, 0, 1) := by decide +kernel
theorem e_48_21 : dec prog_6_method_10_code 21 = some (.iload_n 2, 22, 2, 0) := by decide +kernel
theorem e_48_22 : dec prog_6_method_10_code 22 = some (.ishl, 23, 0, 0) := by decide +kernel
theorem e_48_23 : dec prog_6_method_10_code 23 = some (.ior, 24, 0, 0) := by decide +kernel
theorem e_48_24 : dec prog_6_method_10_code 24 = some (.istore_n 1, 25, 1, 0) := by decide +kernel
theorem e_48_25 : dec prog_6_method_10_code 25 = some (.iinc 2 1, 28, 2, 1) := by decide +kernel
theorem e_48_28 : dec prog_6_method_10_code 28 = some (.goto (-24), 31, 4, 0) := by decide +kernel
theorem e_48_31 : dec prog_6_method_10_code 31 = some (.iload_n 1, 32, 1, 0) := by decide +kernel
theorem e_48_32 : dec prog_6_method_10_code 32 = some (.ireturn, 33, 0, 0) := by decide +kernel
theorem E_48 : dec prog_6_method_10_code 0 = some (.iconst 0, 1, 0, 0) ∧ dec prog_6_method_10_code 1 = some (.istore_n 1, 2, 1, 0) ∧ dec prog_6_method_10_code 2 = some (.iconst 0, 3, 0, 0) ∧ dec prog_6_method_10_code 3 = some (.istore_n 2, 4, 2, 0) ∧ dec prog_6_method_10_code 4 = some (.iload_n 2, 5, 2, 0) ∧ dec prog_6_method_10_code 5 = some (.bipush 8, 7, 0, 8) ∧ dec prog_6_method_10_code 7 = some (.if_icmp .ge 24, 10, 31, 0) ∧ dec prog_6_method_10_code 10 = some (.aload_n 0, 11, 0, 0) ∧ dec prog_6_method_10_code 11 = some (.getfield 15, 14, 0, 0) ∧ dec prog_6_method_10_code 14 = some (.iload_n 2, 15, 2, 0) ∧ dec prog_6_method_10_code 15 = some (.iaload, 16, 0, 0) ∧ dec prog_6_method_10_code 16 = some (.ifCond .ne 9, 19, 25, 0) ∧ dec prog_6_method_10_code 19 = some (.iload_n 1, 20, 1, 0) ∧ dec prog_6_method_10_code 20 = some (.iconst 1, 21, 0, 1) ∧ dec prog_6_method_10_code 21 = some (.iload_n 2, 22, 2, 0) ∧ dec prog_6_method_10_code 22 = some (.ishl, 23, 0, 0) ∧ dec prog_6_method_10_code 23 = some (.ior, 24, 0, 0) ∧ dec prog_6_method_10_code 24 = some (.istore_n 1, 25, 1, 0) ∧ dec prog_6_method_10_code 25 = some (.iinc 2 1, 28, 2, 1) ∧ dec prog_6_method_10_code 28 = some (.goto (-24), 31, 4, 0) ∧ dec prog_6_method_10_code 31 = some (.iload_n 1, 32, 1, 0) ∧ dec prog_6_method_10_code 32 = some (.ireturn, 33, 0, 0) := ⟨e_48_0, e_48_1, e_48_2, e_48_3, e_48_4, e_48_5, e_48_7, e_48_10, e_48_11, e_48_14, e_48_15, e_48_16, e_48_19, e_48_20, e_48_21, e_48_22, e_48_23, e_48_24, e_48_25, e_48_28, e_48_31, e_48_32⟩
theorem e_49_0 : dec prog_6_method_11_code 0 = some (.aload_n 0, 1, 0, 0) := by decide +kernel
theorem e_49_1 : dec prog_6_method_11_code 1 = some (.iload_n 1, 2, 1, 0) := by decide +kernel
theorem e_49_2 : dec prog_6_method_11_code 2 = some (.iconst 1, 3, 0, 1) := by decide +kernel
theorem e_49_3 : dec prog_6_method_11_code 3 = some (.isub, 4, 0, 0) := by decide +kernel
theorem e_49_4 : dec prog_6_method_11_code 4 = some (.invokevirtual 28, 7, 0, 0) := by decide +kernel
theorem e_49_7 : dec prog_6_method_11_code 7 = some (.istore_n 2, 8, 2, 0) := by decide +kernel
theorem e_49_8 : dec prog_6_method_11_code 8 = some (.aload_n 0, 9, 0, 0) := by decide +kernel
theorem e_49_9 : dec prog_6_method_11_code 9 = some (.iload_n 1, 10, 1, 0) := by decide +kernel
theorem e_49_10 : dec prog_6_method_11_code 10 = some (.iconst 1, 11, 0, 1) := by decide +kernel
theorem e_49_11 : dec prog_6_method_11_code 11 = some (.iadd, 12, 0, 0) := by decide +kernel
theorem e_49_12 : dec prog_6_method_11_code 12 = some (.invokevirtual 28, 15, 0, 0) := by decide +kernel
theorem e_49_15 : dec prog_6_method_11_code 15 = some (.istore_n 3, 16, 3, 0) := by decide +kernel
theorem e_49_16 : dec prog_6_method_11_code 16 = some (.aload_n 0, 17, 0, 0) := by decide +kernel
theorem e_49_17 : dec prog_6_method_11_code 17 = some (.getfield 15, 20, 0, 0) := by decide +kernel
theorem e_49_20 : dec prog_6_method_11_code 20 = some (.iload_n 1, 21, 1, 0) := by decide +kernel
theorem e_49_21 : dec prog_6_method_11_code 21 = some (.iaload, 22, 0, 0) := by decide +kernel
theorem e_49_22 : dec prog_6_method_11_code 22 = some (.iload_n 2, 23, 2, 0) := by decide +kernel
theorem e_49_23 : dec prog_6_method_11_code 23 = some (.iload_n 3, 24, 3, 0) := by decide +kernel
theorem e_49_24 : dec prog_6_method_11_code 24 = some (.invokestatic 32, 27, 0, 0) := by decide +kernel
theorem e_49_27 : dec prog_6_method_11_code 27 = some (.isub, 28, 0, 0) := by decide +kernel
theorem e_49_28 : dec prog_6_method_11_code 28 = some (.iconst 2, 29, 0, 2) := by decide +kernel
theorem e_49_29 : dec prog_6_method_11_code 29 = some (.if_icmp .ge 6, 32, 35, 0) := by decide +kernel
theorem e_49_32 : dec prog_6_method_11_code 32 = some (.bipush (-6), 34, 0, (-6)) := by decide +kernel
theorem e_49_34 : dec prog_6_method_11_code 34 = some (.ireturn, 35, 0, 0) := by decide +kernel
theorem e_49_35 : dec prog_6_method_11_code 35 = some (.iload_n 3, 36, 3, 0) := by decide +kernel
theorem e_49_36 : dec prog_6_method_11_code 36 = some (.iload_n 2, 37, 2, 0) := by decide +kernel
theorem e_49_37 : dec prog_6_method_11_code 37 = some (.if_icmp .ge 9, 40, 46, 0) := by decide +kernel
theorem e_49_40 : dec prog_6_method_11_code 40 = some (.iload_n 1, 41, 1, 0) := by decide +kernel
theorem e_49_41 : dec prog_6_method_11_code 41 = some (.iconst 1, 42, 0, 1) := by decide +kernel
theorem e_49_42 : dec prog_6_method_11_code 42 = some (.iadd, 43, 0, 0) := by decide +kernel
theorem e_49_43 : dec prog_6_method_11_code 43 = some (.goto 6, 46, 49, 0) := by decide +kernel
theorem e_49_46 : dec prog_6_method_11_code 46 = some (.iload_n 1, 47, 1, 0) := by decide +kernel
theorem e_49_47 : dec prog_6_method_11_code 47 = some (.iconst 1, 48, 0, 1) := by decide +kernel
theorem e_49_48 : dec prog_6_method_11_code 48 = some (.isub, 49, 0, 0) := by decide +kernel
theorem e_49_49 : dec prog_6_method_11_code 49 = some (.ireturn, 50, 0, 0) := by decide +kernel
theorem E_49 : dec prog_6_method_11_code 0 = some (.aload_n 0, 1, 0, 0) ∧ dec prog_6_method_11_code 1 = some (.iload_n 1, 2, 1, 0) ∧ dec prog_6_method_11_code 2 = some (.iconst 1, 3, 0, 1) ∧ dec prog_6_method_11_code 3 = some (.isub, 4, 0, 0) ∧ dec prog_6_method_11_code 4 = some (.invokevirtual 28, 7, 0, 0) ∧ dec prog_6_method_11_code 7 = some (.istore_n 2, 8, 2, 0) ∧ dec prog_6_method_11_code 8 = some (.aload_n 0, 9, 0, 0) ∧ dec prog_6_method_11_code 9 = some (.iload_n 1, 10, 1, 0) ∧ dec prog_6_method_11_code 10 = some (.iconst 1, 11, 0, 1) ∧ dec prog_6_method_11_code 11 = some (.iadd, 12, 0, 0) ∧ dec prog_6_method_11_code 12 = some (.invokevirtual 28, 15, 0, 0) ∧ dec prog_6_method_11_code 15 = some (.istore_n 3, 16, 3, 0) ∧ dec prog_6_method_11_code 16 = some (.aload_n 0, 17, 0, 0) ∧ dec prog_6_method_11_code 17 = some (.getfield 15, 20, 0, 0) ∧ dec prog_6_method_11_code 20 = some (.iload_n 1, 21, 1, 0) ∧ dec prog_6_method_11_code 21 = some (.iaload, 22, 0, 0) ∧ dec prog_6_method_11_code 22 = some (.iload_n 2, 23, 2, 0) ∧ dec prog_6_method_11_code 23 = some (.iload_n 3, 24, 3, 0) ∧ dec prog_6_method_11_code 24 = some (.invokestatic 32, 27, 0, 0) ∧ dec prog_6_method_11_code 27 = some (.isub, 28, 0, 0) ∧ dec prog_6_method_11_code 28 = some (.iconst 2, 29, 0, 2) ∧ dec prog_6_method_11_code 29 = some (.if_icmp .ge 6, 32, 35, 0) ∧ dec prog_6_method_11_code 32 = some (.bipush (-6), 34, 0, (-6)) ∧ dec prog_6_method_11_code 34 = some (.ireturn, 35, 0, 0) ∧ dec prog_6_method_11_code 35 = some (.iload_n 3, 36, 3, 0) ∧ dec prog_6_method_11_code 36 = some (.iload_n 2, 37, 2, 0) ∧ dec prog_6_method_11_code 37 = some (.if_icmp .ge 9, 40, 46, 0) ∧ dec prog_6_method_11_code 40 = some (.iload_n 1, 41, 1, 0) ∧ dec prog_6_method_11_code 41 = some (.iconst 1, 42, 0, 1) ∧ dec prog_6_method_11_code 42 = some (.iadd, 43, 0, 0) ∧ dec prog_6_method_11_code 43 = some (.goto 6, 46, 49, 0) ∧ dec prog_6_method_11_code 46 = some (.iload_n 1, 47, 1, 0) ∧ dec prog_6_method_11_code 47 = some (.iconst 1, 48, 0, 1) ∧ dec prog_6_method_11_code 48 = some (.isub, 49, 0, 0) ∧ dec prog_6_method_11_code 49 = some (.ireturn, 50, 0, 0) := ⟨e_49_0, e_49_1, e_49_2, e_49_3, e_49_4, e_49_7, e_49_8, e_49_9, e_49_10, e_49_11, e_49_12, e_49_15, e_49_16, e_49_17, e_49_20, e_49_21, e_49_22, e_49_23, e_49_24, e_49_27, e_49_28, e_49_29, e_49_32, e_49_34, e_49_35, e_49_36, e_49_37, e_49_40, e_49_41, e_49_42, e_49_43, e_49_46, e_49_47, e_49_48, e_49_49⟩
theorem e_50_0 : dec prog_6_method_12_code 0 = some (.iload_n 1, 1, 1, 0) := by decide +kernel
theorem e_50_1 : dec prog_6_method_12_code 1 = some (.ifCond .lt 18, 4, 19, 0) := by decide +kernel
theorem e_50_4 : dec prog_6_method_12_code 4 = some (.iload_n 1, 5, 1, 0) := by decide +kernel
theorem e_50_5 : dec prog_6_method_12_code 5 = some (.bipush 8, 7, 0, 8) := by decide +kernel
theorem e_50_7 : dec prog_6_method_12_code 7 = some (.if_icmp .ge 12, 10, 19, 0) := by decide +kernel
theorem e_50_10 : dec prog_6_method_12_code 10 = some (.aload_n 0, 11, 0, 0) := by decide +kernel
theorem e_50_11 : dec prog_6_method_12_code 11 = some (.getfield 15, 14, 0, 0) := by decide +kernel
theorem e_50_14 : dec prog_6_method_12_code 14 = some (.iload_n 1, 15, 1, 0) := by decide +kernel
theorem e_50_15 : dec prog_6_method_12_code 15 = some (.iaload, 16, 0, 0) := by decide +kernel
theorem e_50_16 : dec prog_6_method_12_code 16 = some (.goto 4, 19, 20, 0) := by decide +kernel
theorem e_50_19 : dec prog_6_method_12_code 19 = some (.iconst 4, 20, 0, 4) := by decide +kernel
theorem e_50_20 : dec prog_6_method_12_code 20 = some (.ireturn, 21, 0, 0) := by decide +kernel
theorem E_50 : dec prog_6_method_12_code 0 = some (.iload_n 1, 1, 1, 0) ∧ dec prog_6_method_12_code 1 = some (.ifCond .lt 18, 4, 19, 0) ∧ dec prog_6_method_12_code 4 = some (.iload_n 1, 5, 1, 0) ∧ dec prog_6_method_12_code 5 = some (.bipush 8, 7, 0, 8) ∧ dec prog_6_method_12_code 7 = some (.if_icmp .ge 12, 10, 19, 0) ∧ dec prog_6_method_12_code 10 = some (.aload_n 0, 11, 0, 0) ∧ dec prog_6_method_12_code 11 = some (.getfield 15, 14, 0, 0) ∧ dec prog_6_method_12_code 14 = some (.iload_n 1, 15, 1, 0) ∧ dec prog_6_method_12_code 15 = some (.iaload, 16, 0, 0) ∧ dec prog_6_method_12_code 16 = some (.goto 4, 19, 20, 0) ∧ dec prog_6_method_12_code 19 = some (.iconst 4, 20, 0, 4) ∧ dec prog_6_method_12_code 20 = some (.ireturn, 21, 0, 0) := ⟨e_50_0, e_50_1, e_50_4, e_50_5, e_50_7, e_50_10, e_50_11, e_50_14, e_50_15, e_50_16, e_50_19, e_50_20⟩
theorem e_51_0 : dec prog_7_method_1_code 0 = some (.aload_n 0, 1, 0, 0) := by decide +kernel
theorem e_51_1 : dec prog_7_method_1_code 1 = some (.invokespecial 3, 4, 0, 0) := by decide +kernel
theorem e_51_4 : dec prog_7_method_1_code 4 = some (.aload_n 0, 5, 0, 0) := by decide +kernel
theorem e_51_5 : dec prog_7_method_1_code 5 = some (.bipush 24, 7, 0, 24) := by decide +kernel
theorem e_51_7 : dec prog_7_method_1_code 7 = some (.newarray .int, 9, 0, 0) := by decide +kernel
theorem e_51_9 : dec prog_7_method_1_code 9 = some (.putfield 9, 12, 0, 0) := by decide +kernel
theorem e_51_12 : dec prog_7_method_1_code 12 = some (.aload_n 0, 13, 0, 0) := by decide +kernel
theorem e_51_13 : dec prog_7_method_1_code 13 = some (.bipush 24, 15, 0, 24) := by decide +kernel
theorem e_51_15 : dec prog_7_method_1_code 15 = some (.newarray .int, 17, 0, 0) := by decide +kernel
theorem e_51_17 : dec prog_7_method_1_code 17 = some (.putfield 15, 20, 0, 0) := by decide +kernel
theorem e_51_20 : dec prog_7_method_1_code 20 = some (.aload_n 0, 21, 0, 0) := by decide +kernel
theorem e_51_21 : dec prog_7_method_1_code 21 = some (.bipush 24, 23, 0, 24) := by decide +kernel
theorem e_51_23 : dec prog_7_method_1_code 23 = some (.newarray .int, 25, 0, 0) := by decide +kernel
theorem e_51_25 : dec prog_7_method_1_code 25 = some (.putfield 18, 28, 0, 0) := by decide +kernel
theorem e_51_28 : dec prog_7_method_1_code 28 = some (.aload_n 0, 29, 0, 0) := by decide +kernel
theorem e_51_29 : dec prog_7_method_1_code 29 = some (.bipush 24, 31, 0, 24) := by decide +kernel
theorem e_51_31 : dec prog_7_method_1_code 31 = some (.newarray .int, 33, 0, 0) := by decide +kernel
theorem e_51_33 : dec prog_7_method_1_code 33 = some (.putfield 21, 36, 0, 0) := by decide +kernel
theorem e_51_36 : dec prog_7_method_1_code 36 = some (.aload_n 0, 37, 0, 0) := by decide +kernel
theorem e_51_37 : dec prog_7_method_1_code 37 = some (.bipush 24, 39, 0, 24) := by decide +kernel
theorem e_51_39 : dec prog_7_method_1_code 39 = some (.newarray .int, 41, 0, 0) := by decide +kernel
theorem e_51_41 : dec prog_7_method_1_code 41 = some (.putfield 24, 44, 0, 0) := by decide +kernel
theorem e_51_44 : dec prog_7_method_1_code 44 = some (.return_, 45, 0, 0) := by decide +kernel
theorem E_51 : dec prog_7_method_1_code 0 = some (.aload_n 0, 1, 0, 0) ∧ dec prog_7_method_1_code 1 = some (.invokespecial 3, 4, 0, 0) ∧ dec prog_7_method_1_code 4 = some (.aload_n 0, 5, 0, 0) ∧ dec prog_7_method_1_code 5 = some (.bipush 24, 7, 0, 24) ∧ dec prog_7_method_1_code 7 = some (.newarray .int, 9, 0, 0) ∧ dec prog_7_method_1_code 9 = some (.putfield 9, 12, 0, 0) ∧ dec prog_7_method_1_code 12 = some (.aload_n 0, 13, 0, 0) ∧ dec prog_7_method_1_code 13 = some (.bipush 24, 15, 0, 24) ∧ dec prog_7_method_1_code 15 = some (.newarray .int, 17, 0, 0) ∧ dec prog_7_method_1_code 17 = some (.putfield 15, 20, 0, 0) ∧ dec prog_7_method_1_code 20 = some (.aload_n 0, 21, 0, 0) ∧ dec prog_7_method_1_code 21 = some (.bipush 24, 23, 0, 24) ∧ dec prog_7_method_1_code 23 = some (.newarray .int, 25, 0, 0) ∧ dec prog_7_method_1_code 25 = some (.putfield 18, 28, 0, 0) ∧ dec prog_7_method_1_code 28 = some (.aload_n 0, 29, 0, 0) ∧ dec prog_7_method_1_code 29 = some (.bipush 24, 31, 0, 24) ∧ dec prog_7_method_1_code 31 = some (.newarray .int, 33, 0, 0) ∧ dec prog_7_method_1_code 33 = some (.putfield 21, 36, 0, 0) ∧ dec prog_7_method_1_code 36 = some (.aload_n 0, 37, 0, 0) ∧ dec prog_7_method_1_code 37 = some (.bipush 24, 39, 0, 24) ∧ dec prog_7_method_1_code 39 = some (.newarray .int, 41, 0, 0) ∧ dec prog_7_method_1_code 41 = some (.putfield 24, 44, 0, 0) ∧ dec prog_7_method_1_code 44 = some (.return_, 45, 0, 0) := ⟨e_51_0, e_51_1, e_51_4, e_51_5, e_51_7, e_51_9, e_51_12, e_51_13, e_51_15, e_51_17, e_51_20, e_51_21, e_51_23, e_51_25, e_51_28, e_51_29, e_51_31, e_51_33, e_51_36, e_51_37, e_51_39, e_51_41, e_51_44⟩
theorem e_52_0 : dec prog_7_method_2_code 0 = some (.aload_n 1, 1, 1, 0) := by decide +kernel
theorem e_52_1 : dec prog_7_method_2_code 1 = some (.getfield 9, 4, 0, 0) := by decide +kernel
theorem e_52_4 : dec prog_7_method_2_code 4 = some (.iconst 0, 5, 0, 0) := by decide +kernel
theorem e_52_5 : dec prog_7_method_2_code 5 = some (.aload_n 0, 6, 0, 0) := by decide +kernel
theorem e_52_6 : dec prog_7_method_2_code 6 = some (.getfield 9, 9, 0, 0) := by decide +kernel
theorem e_52_9 : dec prog_7_method_2_code 9 = some (.iconst 0, 10, 0, 0) := by decide +kernel
theorem e_52_10 : dec prog_7_method_2_code 10 = some (.bipush 24, 12, 0, 24) := by decide +kernel
theorem e_52_12 : dec prog_7_method_2_code 12 = some (.invokestatic 27, 15, 0, 0) := by decide +kernel
theorem e_52_15 : dec prog_7_method_2_code 15 = some (.aload_n 1, 16, 1, 0) := by decide +kernel
theorem e_52_16 : dec prog_7_method_2_code 16 = some (.getfield 15, 19, 0, 0) := by decide +kernel
theorem e_52_19 : dec prog_7_method_2_code 19 = some (.iconst 0, 20, 0, 0) := by decide +kernel
theorem e_52_20 : dec prog_7_method_2_code 20 = some (.aload_n 0, 21, 0, 0) := by decide +kernel
theorem e_52_21 : dec prog_7_method_2_code 21 = some (.getfield 15, 24, 0, 0) := by decide +kernel
theorem e_52_24 : dec prog_7_method_2_code 24 = some (.iconst 0, 25, 0, 0) := by decide +kernel
theorem e_52_25 : dec prog_7_method_2_code 25 = some (.bipush 24, 27, 0, 24) := by decide +kernel
theorem e_52_27 : dec prog_7_method_2_code 27 = some (.invokestatic 27, 30, 0, 0) := by decide +kernel
theorem e_52_30 : dec prog_7_method_2_code 30 = some (.aload_n 1, 31, 1, 0) := by decide +kernel
theorem e_52_31 : dec prog_7_method_2_code 31 = some (.getfield 18, 34, 0, 0) := by decide +kernel
theorem e_52_34 : dec prog_7_method_2_code 34 = some (.iconst 0, 35, 0, 0) := by decide +kernel
theorem e_52_35 : dec prog_7_method_2_code 35 = some (.aload_n 0, 36, 0, 0) := by decide +kernel
theorem e_52_36 : dec prog_7_method_2_code 36 = some (.getfield 18, 39, 0, 0) := by decide +kernel
theorem e_52_39 : dec prog_7_method_2_code 39 = some (.iconst 0, 40, 0, 0) := by decide +kernel
theorem e_52_40 : dec prog_7_method_2_code 40 = some (.bipush 24, 42, 0, 24) := by decide +kernel
theorem e_52_42 : dec prog_7_method_2_code 42 = some (.invokestatic 27, 45, 0, 0) := by decide +kernel
theorem e_52_45 : dec prog_7_method_2_code 45 = some (.aload_n 1, 46, 1, 0) := by decide +kernel
theorem e_52_46 : dec prog_7_method_2_code 46 = some (.getfield 21, 49, 0, 0) := by decide +kernel
theorem e_52_49 : dec prog_7_method_2_code 49 = some (.iconst 0, 50, 0, 0) := by decide +kernel
theorem e_52_50 : dec prog_7_method_2_code 50 = some (.aload_n 0, 51, 0, 0) := by decide +kernel
theorem e_52_51 : dec prog_7_method_2_code 51 = some (.getfield 21, 54, 0, 0) := by decide +kernel
theorem e_52_54 : dec prog_7_method_2_code 54 = some (.iconst 0, 55, 0, 0) := by decide +kernel
theorem e_52_55 : dec prog_7_method_2_code 55 = some (.bipush 24, 57, 0, 24) := by decide +kernel
theorem e_52_57 : dec prog_7_method_2_code 57 = some (.invokestatic 27, 60, 0, 0) := by decide +kernel
theorem e_52_60 : dec prog_7_method_2_code 60 = some (.aload_n 1, 61, 1, 0) := by decide +kernel
theorem e_52_61 : dec prog_7_method_2_code 61 = some (.getfield 24, 64, 0, 0) := by decide +kernel
theorem e_52_64 : dec prog_7_method_2_code 64 = some (.iconst 0, 65, 0, 0) := by decide +kernel
theorem e_52_65 : dec prog_7_method_2_code 65 = some (.aload_n 0, 66, 0, 0) := by decide +kernel
theorem e_52_66 : dec prog_7_method_2_code 66 = some (.getfield 24, 69, 0, 0) := by decide +kernel
theorem e_52_69 : dec prog_7_method_2_code 69 = some (.iconst 0, 70, 0, 0) := by decide +kernel
theorem e_52_70 : dec prog_7_method_2_code 70 = some (.bipush 24, 72, 0, 24) := by decide +kernel
theorem e_52_72 : dec prog_7_method_2_code 72 = some (.invokestatic 27, 75, 0, 0) := by decide +kernel
theorem e_52_75 : dec prog_7_method_2_code 75 = some (.aload_n 0, 76, 0, 0) := by decide +kernel
theorem e_52_76 : dec prog_7_method_2_code 76 = some (.aload_n 1, 77, 1, 0) := by decide +kernel
theorem e_52_77 : dec prog_7_method_2_code 77 = some (.getfield 33, 80, 0, 0) := by decide +kernel
theorem e_52_80 : dec prog_7_method_2_code 80 = some (.putfield 33, 83, 0, 0) := by decide +kernel
theorem e_52_83 : dec prog_7_method_2_code 83 = some (.aload_n 0, 84, 0, 0) := by decide +kernel
theorem e_52_84 : dec prog_7_method_2_code 84 = some (.aload_n 1, 85, 1, 0) := by decide +kernel
theorem e_52_85 : dec prog_7_method_2_code 85 = some (.getfield 37, 88, 0, 0) := by decide +kernel
theorem e_52_88 : dec prog_7_method_2_code 88 = some (.putfield 37, 91, 0, 0) := by decide +kernel
theorem e_52_91 : dec prog_7_method_2_code 91 = some (.return_, 92, 0, 0) := by decide +kernel
theorem E_52 : dec prog_7_method_2_code 0 = some (.aload_n 1, 1, 1, 0) ∧ dec prog_7_method_2_code 1 = some (.getfield 9, 4, 0, 0) ∧ dec prog_7_method_2_code 4 = some (.iconst 0, 5, 0, 0) ∧ dec prog_7_method_2_code 5 = some (.aload_n 0, 6, 0, 0) ∧ dec prog_7_method_2_code 6 = some (.getfield 9, 9, 0, 0) ∧ dec prog_7_method_2_code 9 = some (.iconst 0, 10, 0, 0) ∧ dec prog_7_method_2_code 10 = some (.bipush 24, 12, 0, 24) ∧ dec prog_7_method_2_code 12 = some (.invokestatic 27, 15, 0, 0) ∧ dec prog_7_method_2_code 15 = some (.aload_n 1, 16, 1, 0) ∧ dec prog_7_method_2_code 16 = some (.getfield 15, 19, 0, 0) ∧ dec prog_7_method_2_code 19 = some (.iconst 0, 20, 0, 0) ∧ dec prog_7_method_2_code 20 = some (.aload_n 0, 21, 0, 0) ∧ dec prog_7_method_2_code 21 = some (.getfield 15, 24, 0, 0) ∧ dec prog_7_method_2_code 24 = some (.iconst 0, 25, 0, 0) ∧ dec prog_7_method_2_code 25 = some (.bipush 24, 27, 0, 24) ∧ dec prog_7_method_2_code 27 = some (.invokestatic 27, 30, 0, 0) ∧ dec prog_7_method_2_code 30 = some (.aload_n 1, 31, 1, 0) ∧ dec prog_7_method_2_code 31 = some (.getfield 18, 34, 0, 0) ∧ dec prog_7_method_2_code 34 = some (.iconst 0, 35, 0, 0) ∧ dec prog_7_method_2_code 35 = some (.aload_n 0, 36, 0, 0) ∧ dec prog_7_method_2_code 36 = some (.getfield 18, 39, 0, 0) ∧ dec prog_7_method_2_code 39 = some (.iconst 0, 40, 0, 0) ∧ dec prog_7_method_2_code 40 = some (.bipush 24, 42, 0, 24) ∧ dec prog_7_method_2_code 42 = some (.invokestatic 27, 45, 0, 0) ∧ dec prog_7_method_2_code 45 = some (.aload_n 1, 46, 1, 0) ∧ dec prog_7_method_2_code 46 = some (.getfield 21, 49, 0, 0) ∧ dec prog_7_method_2_code 49 = some (.iconst 0, 50, 0, 0) ∧ dec prog_7_method_2_code 50 = some (.aload_n 0, 51, 0, 0) ∧ dec prog_7_method_2_code 51 = some (.getfield 21, 54, 0, 0) ∧ dec prog_7_method_2_code 54 = some (.iconst 0, 55, 0, 0) ∧ dec prog_7_method_2_code 55 = some (.bipush 24, 57, 0, 24) ∧ dec prog_7_method_2_code 57 = some (.invokestatic 27, 60, 0, 0) ∧ dec prog_7_method_2_code 60 = some (.aload_n 1, 61, 1, 0) ∧ dec prog_7_method_2_code 61 = some (.getfield 24, 64, 0, 0) ∧ dec prog_7_method_2_code 64 = some (.iconst 0, 65, 0, 0) ∧ dec prog_7_method_2_code 65 = some (.aload_n 0, 66, 0, 0) ∧ dec prog_7_method_2_code 66 = some (.getfield 24, 69, 0, 0) ∧ dec prog_7_method_2_code 69 = some (.iconst 0, 70, 0, 0) ∧ dec prog_7_method_2_code 70 = some (.bipush 24, 72, 0, 24) ∧ dec prog_7_method_2_code 72 = some (.invokestatic 27, 75, 0, 0) ∧ dec prog_7_method_2_code 75 = some (.aload_n 0, 76, 0, 0) ∧ dec prog_7_method_2_code 76 = some (.aload_n 1, 77, 1, 0) ∧ dec prog_7_method_2_code 77 = some (.getfield 33, 80, 0, 0) ∧ dec prog_7_method_2_code 80 = some (.putfield 33, 83, 0, 0) ∧ dec prog_7_method_2_code 83 = some (.aload_n 0, 84, 0, 0) ∧ dec prog_7_method_2_code 84 = some (.aload_n 1, 85, 1, 0) ∧ dec prog_7_method_2_code 85 = some (.getfield 37, 88, 0, 0) ∧ dec prog_7_method_2_code 88 = some (.putfield 37, 91, 0, 0) ∧ dec prog_7_method_2_code 91 = some (.return_, 92, 0, 0) := ⟨e_52_0, e_52_1, e_52_4, e_52_5, e_52_6, e_52_9, e_52_10, e_52_12, e_52_15, e_52_16, e_52_19, e_52_20, e_52_21, e_52_24, e_52_25, e_52_27, e_52_30, e_52_31, e_52_34, e_52_35, e_52_36, e_52_39, e_52_40, e_52_42, e_52_45, e_52_46, e_52_49, e_52_50, e_52_51, e_52_54, e_52_55, e_52_57, e_52_60, e_52_61, e_52_64, e_52_65, e_52_66, e_52_69, e_52_70, e_52_72, e_52_75, e_52_76, e_52_77, e_52_80, e_52_83, e_52_84, e_52_85, e_52_88, e_52_91⟩
theorem e_53_0 : dec prog_7_method_3_code 0 = some (.aload_n 0, 1, 0, 0) := by decide +kernel
theorem e_53_1 : dec prog_7_method_3_code 1 = some (.getfield 33, 4, 0, 0) := by decide +kernel
theorem e_53_4 : dec prog_7_method_3_code 4 = some (.istore 4, 6, 4, 0) := by decide +kernel
theorem e_53_6 : dec prog_7_method_3_code 6 = some (.aload_n 0, 7, 0, 0) := by decide +kernel
theorem e_53_7 : dec prog_7_method_3_code 7 = some (.getfield 9, 10, 0, 0) := by decide +kernel
theorem e_53_10 : dec prog_7_method_3_code 10 = some (.iload 4, 12, 4, 0) := by decide +kernel
theorem e_53_12 : dec prog_7_method_3_code 12 = some (.iload_n 1, 13, 1, 0) := by decide +kernel
theorem e_53_13 : dec prog_7_method_3_code 13 = some (.iastore, 14, 0, 0) := by decide +kernel
theorem e_53_14 : dec prog_7_method_3_code 14 = some (.aload_n 0, 15, 0, 0) := by decide +kernel
theorem e_53_15 : dec prog_7_method_3_code 15 = some (.getfield 15, 18, 0, 0) := by decide +kernel
theorem e_53_18 : dec prog_7_method_3_code 18 = some (.iload 4, 20, 4, 0) := by decide +kernel
theorem e_53_20 : dec prog_7_method_3_code 20 = some (.iload_n 2, 21, 2, 0) := by decide +kernel
theorem e_53_21 : dec prog_7_method_3_code 21 = some (.iastore, 22, 0, 0) := by decide +kernel
theorem e_53_22 : dec prog_7_method_3_code 22 = some (.aload_n 0, 23, 0, 0) := by decide +kernel
theorem e_53_23 : dec prog_7_method_3_code 23 = some (.getfield 18, 26, 0, 0) := by decide +kernel
theorem e_53_26 : dec prog_7_method_3_code 26 = some (.iload 4, 28, 4, 0) := by decide +kernel
theorem e_53_28 : dec prog_7_method_3_code 28 = some (.iload_n 3, 29, 3, 0) := by decide +kernel
theorem e_53_29 : dec prog_7_method_3_code 29 = some (.iastore, 30, 0, 0) := by decide +kernel
theorem e_53_30 : dec prog_7_method_3_code 30 = some (.aload_n 0, 31, 0, 0) := by decide +kernel
theorem e_53_31 : dec prog_7_method_3_code 31 = some (.dup, 32, 0, 0) := by decide +kernel
theorem e_53_32 : dec prog_7_method_3_code 32 = some (.getfield 33, 35, 0, 0) := by decide +kernel
theorem e_53_35 : dec prog_7_method_3_code 35 = some (.iconst 1, 36, 0, 1) := by decide +kernel
theorem e_53_36 : dec prog_7_method_3_code 36 = some (.iadd, 37, 0, 0) := by decide +kernel
theorem e_53_37 : dec prog_7_method_3_code 37 = some (.putfield 33, 40, 0, 0) := by decide +kernel
theorem e_53_40 : dec prog_7_method_3_code 40 = some (.iload 4, 42, 4, 0) := by decide +kernel
theorem e_53_42 : dec prog_7_method_3_code 42 = some (.ireturn, 43, 0, 0) := by decide +kernel
theorem E_53 : dec prog_7_method_3_code 0 = some (.aload_n 0, 1, 0, 0) ∧ dec prog_7_method_3_code 1 = some (.getfield 33, 4, 0, 0) ∧ dec prog_7_method_3_code 4 = some (.istore 4, 6, 4, 0) ∧ dec prog_7_method_3_code 6 = some (.aload_n 0, 7, 0, 0) ∧ dec prog_7_method_3_code 7 = some (.getfield 9, 10, 0, 0) ∧ dec prog_7_method_3_code 10 = some (.iload 4, 12, 4, 0) ∧ dec prog_7_method_3_code 12 = some (.iload_n 1, 13, 1, 0) ∧ dec prog_7_method_3_code 13 = some (.iastore, 14, 0, 0) ∧ dec prog_7_method_3_code 14 = some (.aload_n 0, 15, 0, 0) ∧ dec prog_7_method_3_code 15 = some (.getfield 15, 18, 0, 0) ∧ dec prog_7_method_3_code 18 = some (.iload 4, 20, 4, 0) ∧ dec prog_7_method_3_code 20 = some (.iload_n 2, 21, 2, 0) ∧ dec prog_7_method_3_code 21 = some (.iastore, 22, 0, 0) ∧ dec prog_7_method_3_code 22 = some (.aload_n 0, 23, 0, 0) ∧ dec prog_7_method_3_code 23 = some (.getfield 18, 26, 0, 0) ∧ dec prog_7_method_3_code 26 = some (.iload 4, 28, 4, 0) ∧ dec prog_7_method_3_code 28 = some (.iload_n 3, 29, 3, 0) ∧ dec prog_7_method_3_code 29 = some (.iastore, 30, 0, 0) ∧ dec prog_7_method_3_code 30 = some (.aload_n 0, 31, 0, 0) ∧ dec prog_7_method_3_code 31 = some (.dup, 32, 0, 0) ∧ dec prog_7_method_3_code 32 = some (.getfield 33, 35, 0, 0) ∧ dec prog_7_method_3_code 35 = some (.iconst 1, 36, 0, 1) ∧ dec prog_7_method_3_code 36 = some (.iadd, 37, 0, 0) ∧ dec prog_7_method_3_code 37 = some (.putfield 33, 40, 0, 0) ∧ dec prog_7_method_3_code 40 = some (.iload 4, 42, 4, 0) ∧ dec prog_7_method_3_code 42 = some (.ireturn, 43, 0, 0) := ⟨e_53_0, e_53_1, e_53_4, e_53_6, e_53_7, e_53_10, e_53_12, e_53_13, e_53_14, e_53_15, e_53_18, e_53_20, e_53_21, e_53_22, e_53_23, e_53_26, e_53_28, e_53_29, e_53_30, e_53_31, e_53_32, e_53_35, e_53_36, e_53_37, e_53_40, e_53_42⟩
theorem e_54_0 : dec prog_7_method_4_code 0 = some (.aload_n 0, 1, 0, 0) := by decide +kernel
theorem e_54_1 : dec prog_7_method_4_code 1 = some (.getfield 37, 4, 0, 0) := by decide +kernel
theorem e_54_4 : dec prog_7_method_4_code 4 = some (.aload_n 0, 5, 0, 0) := by decide +kernel
theorem e_54_5 : dec prog_7_method_4_code 5 = some (.getfield 33, 8, 0, 0) := by decide +kernel
theorem e_54_8 : dec prog_7_method_4_code 8 = some (.if_icmp .lt 7, 11, 15, 0) := by decide +kernel
theorem e_54_11 : dec prog_7_method_4_code 11 = some (.iconst 1, 12, 0, 1) := by decide +kernel
theorem e_54_12 : dec prog_7_method_4_code 12 = some (.goto 4, 15, 16, 0) := by decide +kernel
theorem e_54_15 : dec prog_7_method_4_code 15 = some (.iconst 0, 16, 0, 0) := by decide +kernel
theorem e_54_16 : dec prog_7_method_4_code 16 = some (.ireturn, 17, 0, 0) := by decide +kernel
theorem E_54 : dec prog_7_method_4_code 0 = some (.aload_n 0, 1, 0, 0) ∧ dec prog_7_method_4_code 1 = some (.getfield 37, 4, 0, 0) ∧ dec prog_7_method_4_code 4 = some (.aload_n 0, 5, 0, 0) ∧ dec prog_7_method_4_code 5 = some (.getfield 33, 8, 0, 0) ∧ dec prog_7_method_4_code 8 = some (.if_icmp .lt 7, 11, 15, 0) ∧ dec prog_7_method_4_code 11 = some (.iconst 1, 12, 0, 1) ∧ dec prog_7_method_4_code 12 = some (.goto 4, 15, 16, 0) ∧ dec prog_7_method_4_code 15 = some (.iconst 0, 16, 0, 0) ∧ dec prog_7_method_4_code 16 = some (.ireturn, 17, 0, 0) := ⟨e_54_0, e_54_1, e_54_4, e_54_5, e_54_8, e_54_11, e_54_12, e_54_15, e_54_16⟩
theorem e_55_0 : dec prog_7_method_5_code 0 = some (.aload_n 0, 1, 0, 0) := by decide +kernel
theorem e_55_1 : dec prog_7_method_5_code 1 = some (.getfield 37, 4, 0, 0) := by decide +kernel
theorem e_55_4 : dec prog_7_method_5_code 4 = some (.istore_n 1, 5, 1, 0) := by decide +kernel
theorem e_55_5 : dec prog_7_method_5_code 5 = some (.aload_n 0, 6, 0, 0) := by decide +kernel
theorem e_55_6 : dec prog_7_method_5_code 6 = some (.getfield 21, 9, 0, 0) := by decide +kernel
theorem e_55_9 : dec prog_7_method_5_code 9 = some (.iload_n 1, 10, 1, 0) := by decide +kernel
theorem e_55_10 : dec prog_7_method_5_code 10 = some (.iconst 1, 11, 0, 1) := by decide +kernel
theorem e_55_11 : dec prog_7_method_5_code 11 = some (.iastore, 12, 0, 0) := by decide +kernel
theorem e_55_12 : dec prog_7_method_5_code 12 = some (.aload_n 0, 13, 0, 0) := by decide +kernel
theorem e_55_13 : dec prog_7_method_5_code 13 = some (.dup, 14, 0, 0) := by decide +kernel
theorem e_55_14 : dec prog_7_method_5_code 14 = some (.getfield 37, 17, 0, 0) := by decide +kernel
theorem e_55_17 : dec prog_7_method_5_code 17 = some (.iconst 1, 18, 0, 1) := by decide +kernel
theorem e_55_18 : dec prog_7_method_5_code 18 = some (.iadd, 19, 0, 0) := by decide +kernel
theorem e_55_19 : dec prog_7_method_5_code 19 = some (.putfield 37, 22, 0, 0) := by decide +kernel
theorem e_55_22 : dec prog_7_method_5_code 22 = some (.iload_n 1, 23, 1, 0) := by decide +kernel
theorem e_55_23 : dec prog_7_method_5_code 23 = some (.ireturn, 24, 0, 0) := by decide +kernel
theorem E_55 : dec prog_7_method_5_code 0 = some (.aload_n 0, 1, 0, 0) ∧ dec prog_7_method_5_code 1 = some (.getfield 37, 4, 0, 0) ∧ dec prog_7_method_5_code 4 = some (.istore_n 1, 5, 1, 0) ∧ dec prog_7_method_5_code 5 = some (.aload_n 0, 6, 0, 0) ∧ dec prog_7_method_5_code 6 = some (.getfield 21, 9, 0, 0) ∧ dec prog_7_method_5_code 9 = some (.iload_n 1, 10, 1, 0) ∧ dec prog_7_method_5_code 10 = some (.iconst 1, 11, 0, 1) ∧ dec prog_7_method_5_code 11 = some (.iastore, 12, 0, 0) ∧ dec prog_7_method_5_code 12 = some (.aload_n 0, 13, 0, 0) ∧ dec prog_7_method_5_code 13 = some (.dup, 14, 0, 0) ∧ dec prog_7_method_5_code 14 = some (.getfield 37, 17, 0, 0) ∧ dec prog_7_method_5_code 17 = some (.iconst 1, 18, 0, 1) ∧ dec prog_7_method_5_code 18 = some (.iadd, 19, 0, 0) ∧ dec prog_7_method_5_code 19 = some (.putfield 37, 22, 0, 0) ∧ dec prog_7_method_5_code 22 = some (.iload_n 1, 23, 1, 0) ∧ dec prog_7_method_5_code 23 = some (.ireturn, 24, 0, 0) := ⟨e_55_0, e_55_1, e_55_4, e_55_5, e_55_6, e_55_9, e_55_10, e_55_11, e_55_12, e_55_13, e_55_14, e_55_17, e_55_18, e_55_19, e_55_22, e_55_23⟩
theorem e_56_0 : dec prog_7_method_6_code 0 = some (.iconst 0, 1, 0, 0) := by decide +kernel
theorem e_56_1 : dec prog_7_method_6_code 1 = some (.istore_n 2, 2, 2, 0) := by decide +kernel
theorem e_56_2 : dec prog_7_method_6_code 2 = some (.iconst 0, 3, 0, 0) := by decide +kernel
theorem e_56_3 : dec prog_7_method_6_code 3 = some (.istore_n 3, 4, 3, 0) := by decide +kernel
theorem e_56_4 : dec prog_7_method_6_code 4 = some (.iload_n 3, 5, 3, 0) := by decide +kernel
theorem e_56_5 : dec prog_7_method_6_code 5 = some (.aload_n 0, 6, 0, 0) := by decide +kernel
theorem e_56_6 : dec prog_7_method_6_code 6 = some (.getfield 33, 9, 0, 0) := by decide +kernel
theorem e_56_9 : dec prog_7_method_6_code 9 = some (.if_icmp .ge 25, 12, 34, 0) := by decide +kernel
theorem e_56_12 : dec prog_7_method_6_code 12 = some (.aload_n 0, 13, 0, 0) := by decide +kernel
theorem e_56_13 : dec prog_7_method_6_code 13 = some (.getfield 21, 16, 0, 0) := by decide +kernel
theorem e_56_16 : dec prog_7_method_6_code 16 = some (.iload_n 3, 17, 3, 0) := by decide +kernel
theorem e_56_17 : dec prog_7_method_6_code 17 = some (.iaload, 18, 0, 0) := by decide +kernel
theorem e_56_18 : dec prog_7_method_6_code 18 = some (.iload_n 1, 19, 1, 0) := by decide +kernel
theorem e_56_19 : dec prog_7_method_6_code 19 = some (.if_icmp .ne 9, 22, 28, 0) := by decide +kernel
theorem e_56_22 : dec prog_7_method_6_code 22 = some (.iload_n 2, 23, 2, 0) := by decide +kernel
theorem e_56_23 : dec prog_7_method_6_code 23 = some (.iconst 1, 24, 0, 1) := by decide +kernel
theorem e_56_24 : dec prog_7_method_6_code 24 = some (.iload_n 3, 25, 3, 0) := by decide +kernel
theorem e_56_25 : dec prog_7_method_6_code 25 = some (.ishl, 26, 0, 0) := by decide +kernel
theorem e_56_26 : dec prog_7_method_6_code 26 = some (.ior, 27, 0, 0) := by decide +kernel
theorem e_56_27 : dec prog_7_method_6_code 27 = some (.istore_n 2, 28, 2, 0) := by decide +kernel
theorem e_56_28 : dec prog_7_method_6_code 28 = some (.iinc 3 1, 31, 3, 1) := by decide +kernel
theorem e_56_31 : dec prog_7_method_6_code 31 = some (.goto (-27), 34, 4, 0) := by decide +kernel
theorem e_56_34 : dec prog_7_method_6_code 34 = some (.iload_n 2, 35, 2, 0) := by decide +kernel
theorem e_56_35 : dec prog_7_method_6_code 35 = some (.ireturn, 36, 0, 0) := by decide +kernel
theorem E_56 : dec prog_7_method_6_code 0 = some (.iconst 0, 1, 0, 0) ∧ dec prog_7_method_6_code 1 = some (.istore_n 2, 2, 2, 0) ∧ dec prog_7_method_6_code 2 = some (.iconst 0, 3, 0, 0) ∧ dec prog_7_method_6_code 3 = some (.istore_n 3, 4, 3, 0) ∧ dec prog_7_method_6_code 4 = some (.iload_n 3, 5, 3, 0) ∧ dec prog_7_method_6_code 5 = some (.aload_n 0, 6, 0, 0) ∧ dec prog_7_method_6_code 6 = some (.getfield 33, 9, 0, 0) ∧ dec prog_7_method_6_code 9 = some (.if_icmp .ge 25, 12, 34, 0) ∧ dec prog_7_method_6_code 12 = some (.aload_n 0, 13, 0, 0) ∧ dec prog_7_method_6_code 13 = some (.getfield 21, 16, 0, 0) ∧ dec prog_7_method_6_code 16 = some (.iload_n 3, 17, 3, 0) ∧ dec prog_7_method_6_code 17 = some (.iaload, 18, 0, 0) ∧ dec prog_7_method_6_code 18 = some (.iload_n 1, 19, 1, 0) ∧ dec prog_7_method_6_code 19 = some (.if_icmp .ne 9, 22, 28, 0) ∧ dec prog_7_method_6_code 22 = some (.iload_n 2, 23, 2, 0) ∧ dec prog_7_method_6_code 23 = some (.iconst 1, 24, 0, 1) ∧ dec prog_7_method_6_code 24 = some (.iload_n 3, 25, 3, 0) ∧ dec prog_7_method_6_code 25 = some (.ishl, 26, 0, 0) ∧ dec prog_7_method_6_code 26 = some (.ior, 27, 0, 0) ∧ dec prog_7_method_6_code 27 = some (.istore_n 2, 28, 2, 0) ∧ dec prog_7_method_6_code 28 = some (.iinc 3 1, 31, 3, 1) ∧ dec prog_7_method_6_code 31 = some (.goto (-27), 34, 4, 0) ∧ dec prog_7_method_6_code 34 = some (.iload_n 2, 35, 2, 0) ∧ dec prog_7_method_6_code 35 = some (.ireturn, 36, 0, 0) := ⟨e_56_0, e_56_1, e_56_2, e_56_3, e_56_4, e_56_5, e_56_6, e_56_9, e_56_12, e_56_13, e_56_16, e_56_17, e_56_18, e_56_19, e_56_22, e_56_23, e_56_24, e_56_25, e_56_26, e_56_27, e_56_28, e_56_31, e_56_34, e_56_35⟩
theorem e_57_0 : dec prog_7_method_7_code 0 = some (.iconst 0, 1, 0, 0) := by decide +kernel
theorem e_57_1 : dec prog_7_method_7_code 1 = some (.istore_n 1, 2, 1, 0) := by decide +kernel
theorem e_57_2 : dec prog_7_method_7_code 2 = some (.iconst 0, 3, 0, 0) := by decide +kernel
theorem e_57_3 : dec prog_7_method_7_code 3 = some (.istore_n 2, 4, 2, 0) := by decide +kernel
theorem e_57_4 : dec prog_7_method_7_code 4 = some (.iload_n 2, 5, 2, 0) := by decide +kernel
theorem e_57_5 : dec prog_7_method_7_code 5 = some (.aload_n 0, 6, 0, 0) := by decide +kernel
theorem e_57_6 : dec prog_7_method_7_code 6 = some (.getfield 33, 9, 0, 0) := by decide +kernel
theorem e_57_9 : dec prog_7_method_7_code 9 = some (.if_icmp .ge 28, 12, 37, 0) := by decide +kernel
theorem e_57_12 : dec prog_7_method_7_code 12 = some (.aload_n 0, 13, 0, 0) := by decide +kernel
theorem e_57_13 : dec prog_7_method_7_code 13 = some (.getfield 21, 16, 0, 0) := by decide +kernel
theorem e_57_16 : dec prog_7_method_7_code 16 = some (.iload_n 2, 17, 2, 0) := by decide +kernel
theorem e_57_17 : dec prog_7_method_7_code 17 = some (.iaload, 18, 0, 0) := by decide +kernel
theorem e_57_18 : dec prog_7_method_7_code 18 = some (.iconst 2, 19, 0, 2) := by decide +kernel
theorem e_57_19 : dec prog_7_method_7_code 19 = some (.if_icmp .ne 12, 22, 31, 0) := by decide +kernel
theorem e_57_22 : dec prog_7_method_7_code 22 = some (.iload_n 1, 23, 1, 0) := by decide +kernel
theorem e_57_23 : dec prog_7_method_7_code 23 = some (.aload_n 0, 24, 0, 0) := by decide +kernel
theorem e_57_24 : dec prog_7_method_7_code 24 = some (.getfield 18, 27, 0, 0) := by decide +kernel
theorem e_57_27 : dec prog_7_method_7_code 27 = some (.iload_n 2, 28, 2, 0) := by decide +kernel
theorem e_57_28 : dec prog_7_method_7_code 28 = some (.iaload, 29, 0, 0) := by decide +kernel
theorem e_57_29 : dec prog_7_method_7_code 29 = some (.iadd, 30, 0, 0) := by decide +kernel
theorem e_57_30 : dec prog_7_method_7_code 30 = some (.istore_n 1, 31, 1, 0) := by decide +kernel
theorem e_57_31 : dec prog_7_method_7_code 31 = some (.iinc 2 1, 34, 2, 1) := by decide +kernel
theorem e_57_34 : dec prog_7_method_7_code 34 = some (.goto (-30), 37, 4, 0) := by decide +kernel
theorem e_57_37 : dec prog_7_method_7_code 37 = some (.iload_n 1, 38, 1, 0) := by decide +kernel
theorem e_57_38 : dec prog_7_method_7_code 38 = some (.ireturn, 39, 0, 0) := by decide +kernel
theorem E_57 : dec prog_7_method_7_code 0 = some (.iconst 0, 1, 0, 0) ∧ dec prog_7_method_7_code 1 = some (.istore_n 1, 2, 1, 0) ∧ dec prog_7_method_7_code 2 = some (.iconst 0, 3, 0, 0) ∧ dec prog_7_method_7_code 3 = some (.istore_n 2, 4, 2, 0) ∧ dec prog_7_method_7_code 4 = some (.iload_n 2, 5, 2, 0) ∧ dec prog_7_method_7_code 5 = some (.aload_n 0, 6, 0, 0) ∧ dec prog_7_method_7_code 6 = some (.getfield 33, 9, 0, 0) ∧ dec prog_7_method_7_code 9 = some (.if_icmp .ge 28, 12, 37, 0) ∧ dec prog_7_method_7_code 12 = some (.aload_n 0, 13, 0, 0) ∧ dec prog_7_method_7_code 13 = some (.getfield 21, 16, 0, 0) ∧ dec prog_7_method_7_code 16 = some (.iload_n 2, 17, 2, 0) ∧ dec prog_7_method_7_code 17 = some (.iaload, 18, 0, 0) ∧ dec prog_7_method_7_code 18 = some (.iconst 2, 19, 0, 2) ∧ dec prog_7_method_7_code 19 = some (.if_icmp .ne 12, 22, 31, 0) ∧ dec prog_7_method_7_code 22 = some (.iload_n 1, 23, 1, 0) ∧ dec prog_7_method_7_code 23 = some (.aload_n 0, 24, 0, 0) ∧ dec prog_7_method_7_code 24 = some (.getfield 18, 27, 0, 0) ∧ dec prog_7_method_7_code 27 = some (.iload_n 2, 28, 2, 0) ∧ dec prog_7_method_7_code 28 = some (.iaload, 29, 0, 0) ∧ dec prog_7_method_7_code 29 = some (.iadd, 30, 0, 0) ∧ dec prog_7_method_7_code 30 = some (.istore_n 1, 31, 1, 0) ∧ dec prog_7_method_7_code 31 = some (.iinc 2 1, 34, 2, 1) ∧ dec prog_7_method_7_code 34 = some (.goto (-30), 37, 4, 0) ∧ dec prog_7_method_7_code 37 = some (.iload_n 1, 38, 1, 0) ∧ dec prog_7_method_7_code 38 = some (.ireturn, 39, 0, 0) := ⟨e_57_0, e_57_1, e_57_2, e_57_3, e_57_4, e_57_5, e_57_6, e_57_9, e_57_12, e_57_13, e_57_16, e_57_17, e_57_18, e_57_19, e_57_22, e_57_23, e_57_24, e_57_27, e_57_28, e_57_29, e_57_30, e_57_31, e_57_34, e_57_37, e_57_38⟩
theorem e_58_0 : dec prog_7_method_8_code 0 = some (.iconst 0, 1, 0, 0) := by decide +kernel
theorem e_58_1 : dec prog_7_method_8_code 1 = some (.istore_n 2, 2, 2, 0) := by decide +kernel
theorem e_58_2 : dec prog_7_method_8_code 2 = some (.iconst 0, 3, 0, 0) := by decide +kernel
theorem e_58_3 : dec prog_7_method_8_code 3 = some (.istore_n 3, 4, 3, 0) := by decide +kernel
theorem e_58_4 : dec prog_7_method_8_code 4 = some (.iload_n 3, 5, 3, 0) := by decide +kernel
theorem e_58_5 : dec prog_7_method_8_code 5 = some (.aload_n 0, 6, 0, 0) := by decide +kernel
theorem e_58_6 : dec prog_7_method_8_code 6 = some (.getfield 33, 9, 0, 0) := by decide +kernel
theorem e_58_9 : dec prog_7_method_8_code 9 = some (.if_icmp .ge 32, 12, 41, 0) := by decide +kernel
theorem e_58_12 : dec prog_7_method_8_code 12 = some (.aload_n 0, 13, 0, 0) := by decide +kernel
theorem e_58_13 : dec prog_7_method_8_code 13 = some (.getfield 21, 16, 0, 0) := by decide +kernel
theorem e_58_16 : dec prog_7_method_8_code 16 = some (.iload_n 3, 17, 3, 0) := by decide +kernel
theorem e_58_17 : dec prog_7_method_8_code 17 = some (.iaload, 18, 0, 0) := by decide +kernel
theorem e_58_18 : dec prog_7_method_8_code 18 = some (.iconst 1, 19, 0, 1) := by decide +kernel
theorem e_58_19 : dec prog_7_method_8_code 19 = some (.if_icmp .ne 16, 22, 35, 0) := by decide +kernel
theorem e_58_22 : dec prog_7_method_8_code 22 = some (.aload_n 0, 23, 0, 0) := by decide +kernel
theorem e_58_23 : dec prog_7_method_8_code 23 = some (.getfield 15, 26, 0, 0) := by decide +kernel
theorem e_58_26 : dec prog_7_method_8_code 26 = some (.iload_n 3, 27, 3, 0) := by decide +kernel
theorem e_58_27 : dec prog_7_method_8_code 27 = some (.iaload, 28, 0, 0) := by decide +kernel
theorem e_58_28 : dec prog_7_method_8_code 28 = some (.iload_n 1, 29, 1, 0) := by decide +kernel
theorem e_58_29 : dec prog_7_method_8_code 29 = some (.if_icmp .gt 6, 32, 35, 0) := by decide +kernel
theorem e_58_32 : dec prog_7_method_8_code 32 = some (.iinc 2 1, 35, 2, 1) := by decide +kernel
theorem e_58_35 : dec prog_7_method_8_code 35 = some (.iinc 3 1, 38, 3, 1) := by decide +kernel
theorem e_58_38 : dec prog_7_method_8_code 38 = some (.goto (-34), 41, 4, 0) := by decide +kernel
theorem e_58_41 : dec prog_7_method_8_code 41 = some (.iload_n 2, 42, 2, 0) := by decide +kernel
theorem e_58_42 : dec prog_7_method_8_code 42 = some (.ireturn, 43, 0, 0) := by decide +kernel
theorem E_58 : dec prog_7_method_8_code 0 = some (.iconst 0, 1, 0, 0) ∧ dec prog_7_method_8_code 1 = some (.istore_n 2, 2, 2, 0) ∧ dec prog_7_method_8_code 2 = some (.iconst 0, 3, 0, 0) ∧ dec prog_7_method_8_code 3 = some (.istore_n 3, 4, 3, 0) ∧ dec prog_7_method_8_code 4 = some (.iload_n 3, 5, 3, 0) ∧ dec prog_7_method_8_code 5 = some (.aload_n 0, 6, 0, 0) ∧ dec prog_7_method_8_code 6 = some (.getfield 33, 9, 0, 0) ∧ dec prog_7_method_8_code 9 = some (.if_icmp .ge 32, 12, 41, 0) ∧ dec prog_7_method_8_code 12 = some (.aload_n 0, 13, 0, 0) ∧ dec prog_7_method_8_code 13 = some (.getfield 21, 16, 0, 0) ∧ dec prog_7_method_8_code 16 = some (.iload_n 3, 17, 3, 0) ∧ dec prog_7_method_8_code 17 = some (.iaload, 18, 0, 0) ∧ dec prog_7_method_8_code 18 = some (.iconst 1, 19, 0, 1) ∧ dec prog_7_method_8_code 19 = some (.if_icmp .ne 16, 22, 35, 0) ∧ dec prog_7_method_8_code 22 = some (.aload_n 0, 23, 0, 0) ∧ dec prog_7_method_8_code 23 = some (.getfield 15, 26, 0, 0) ∧ dec prog_7_method_8_code 26 = some (.iload_n 3, 27, 3, 0) ∧ dec prog_7_method_8_code 27 = some (.iaload, 28, 0, 0) ∧ dec prog_7_method_8_code 28 = some (.iload_n 1, 29, 1, 0) ∧ dec prog_7_method_8_code 29 = some (.if_icmp .gt 6, 32, 35, 0) ∧ dec prog_7_method_8_code 32 = some (.iinc 2 1, 35, 2, 1) ∧ dec prog_7_method_8_code 35 = some (.iinc 3 1, 38, 3, 1) ∧ dec prog_7_method_8_code 38 = some (.goto (-34), 41, 4, 0) ∧ dec prog_7_method_8_code 41 = some (.iload_n 2, 42, 2, 0) ∧ dec prog_7_method_8_code 42 = some (.ireturn, 43, 0, 0) := ⟨e_58_0, e_58_1, e_58_2, e_58_3, e_58_4, e_58_5, e_58_6, e_58_9, e_58_12, e_58_13, e_58_16, e_58_17, e_58_18, e_58_19, e_58_22, e_58_23, e_58_26, e_58_27, e_58_28, e_58_29, e_58_32, e_58_35, e_58_38, e_58_41, e_58_42⟩
theorem e_59_0 : dec prog_7_method_9_code 0 = some (.iconst 0, 1, 0, 0) := by decide +kernel
theorem e_59_1 : dec prog_7_method_9_code 1 = some (.istore_n 2, 2, 2, 0) := by decide +kernel
theorem e_59_2 : dec prog_7_method_9_code 2 = some (.iload_n 2, 3, 2, 0) := by decide +kernel
theorem e_59_3 : dec prog_7_method_9_code 3 = some (.aload_n 0, 4, 0, 0) := by decide +kernel
theorem e_59_4 : dec prog_7_method_9_code 4 = some (.getfield 33, 7, 0, 0) := by decide +kernel
theorem e_59_7 : dec prog_7_method_9_code 7 = some (.if_icmp .ge 30, 10, 37, 0) := by decide +kernel
theorem e_59_10 : dec prog_7_method_9_code 10 = some (.aload_n 0, 11, 0, 0) := by decide +kernel
theorem e_59_11 : dec prog_7_method_9_code 11 = some (.getfield 21, 14, 0, 0) := by decide +kernel
theorem e_59_14 : dec prog_7_method_9_code 14 = some (.iload_n 2, 15, 2, 0) := by decide +kernel
theorem e_59_15 : dec prog_7_method_9_code 15 = some (.iaload, 16, 0, 0) := by decide +kernel
theorem e_59_16 : dec prog_7_method_9_code 16 = some (.iconst 1, 17, 0, 1) := by decide +kernel
theorem e_59_17 : dec prog_7_method_9_code 17 = some (.if_icmp .ne 14, 20, 31, 0) := by decide +kernel
theorem e_59_20 : dec prog_7_method_9_code 20 = some (.aload_n 0, 21, 0, 0) := by decide +kernel
theorem e_59_21 : dec prog_7_method_9_code 21 = some (.iload_n 2, 22, 2, 0) := by decide +kernel
theorem e_59_22 : dec prog_7_method_9_code 22 = some (.invokevirtual 40, 25, 0, 0) := by decide +kernel
theorem e_59_25 : dec prog_7_method_9_code 25 = some (.iload_n 1, 26, 1, 0) := by decide +kernel
theorem e_59_26 : dec prog_7_method_9_code 26 = some (.if_icmp .ne 5, 29, 31, 0) := by decide +kernel
theorem e_59_29 : dec prog_7_method_9_code 29 = some (.iload_n 2, 30, 2, 0) := by decide +kernel
theorem e_59_30 : dec prog_7_method_9_code 30 = some (.ireturn, 31, 0, 0) := by decide +kernel
theorem e_59_31 : dec prog_7_method_9_code 31 = some (.iinc 2 1, 34, 2, 1) := by decide +kernel
theorem e_59_34 : dec prog_7_method_9_code 34 = some (.goto (-32), 37, 2, 0) := by decide +kernel
theorem e_59_37 : dec prog_7_method_9_code 37 = some (.iconst (-1), 38, 0, (-1)) := by decide +kernel
theorem e_59_38 : dec prog_7_method_9_code 38 = some (.ireturn, 39, 0, 0) := by decide +kernel
theorem E_59 : dec prog_7_method_9_code 0 = some (.iconst 0, 1, 0, 0) ∧ dec prog_7_method_9_code 1 = some (.istore_n 2, 2, 2, 0) ∧ dec prog_7_method_9_code 2 = some (.iload_n 2, 3, 2, 0) ∧ dec prog_7_method_9_code 3 = some (.aload_n 0, 4, 0, 0) ∧ dec prog_7_method_9_code 4 = some (.getfield 33, 7, 0, 0) ∧ dec prog_7_method_9_code 7 = some (.if_icmp .ge 30, 10, 37, 0) ∧ dec prog_7_method_9_code 10 = some (.aload_n 0, 11, 0, 0) ∧ dec prog_7_method_9_code 11 = some (.getfield 21, 14, 0, 0) ∧ dec prog_7_method_9_code 14 = some (.iload_n 2, 15, 2, 0) ∧ dec prog_7_method_9_code 15 = some (.iaload, 16, 0, 0) ∧ dec prog_7_method_9_code 16 = some (.iconst 1, 17, 0, 1) ∧ dec prog_7_method_9_code 17 = some (.if_icmp .ne 14, 20, 31, 0) ∧ dec prog_7_method_9_code 20 = some (.aload_n 0, 21, 0, 0) ∧ dec prog_7_method_9_code 21 = some (.iload_n 2, 22, 2, 0) ∧ dec prog_7_method_9_code 22 = some (.invokevirtual 40, 25, 0, 0) ∧ dec prog_7_method_9_code 25 = some (.iload_n 1, 26, 1, 0) ∧ dec prog_7_method_9_code 26 = some (.if_icmp .ne 5, 29, 31, 0) ∧ dec prog_7_method_9_code 29 = some (.iload_n 2, 30, 2, 0) ∧ dec prog_7_method_9_code 30 = some (.ireturn, 31, 0, 0) ∧ dec prog_7_method_9_code 31 = some (.iinc 2 1, 34, 2, 1) ∧ dec prog_7_method_9_code 34 = some (.goto (-32), 37, 2, 0) ∧ dec prog_7_method_9_code 37 = some (.iconst (-1), 38, 0, (-1)) ∧ dec prog_7_method_9_code 38 = some (.ireturn, 39, 0, 0) := ⟨e_59_0, e_59_1, e_59_2, e_59_3, e_59_4, e_59_7, e_59_10, e_59_11, e_59_14, e_59_15, e_59_16, e_59_17, e_59_20, e_59_21, e_59_22, e_59_25, e_59_26, e_59_29, e_59_30, e_59_31, e_59_34, e_59_37, e_59_38⟩
theorem e_60_0 : dec prog_7_method_10_code 0 = some (.iconst 0, 1, 0, 0) := by decide +kernel
theorem e_60_1 : dec prog_7_method_10_code 1 = some (.istore_n 2, 2, 2, 0) := by decide +kernel
theorem e_60_2 : dec prog_7_method_10_code 2 = some (.iconst 0, 3, 0, 0) := by decide +kernel
theorem e_60_3 : dec prog_7_method_10_code 3 = some (.istore_n 3, 4, 3, 0) := by decide +kernel
theorem e_60_4 : dec prog_7_method_10_code 4 = some (.iload_n 3, 5, 3, 0) := by decide +kernel
theorem e_60_5 : dec prog_7_method_10_code 5 = some (.aload_n 0, 6, 0, 0) := by decide +kernel
theorem e_60_6 : dec prog_7_method_10_code 6 = some (.getfield 33, 9, 0, 0) := by decide +kernel
theorem e_60_9 : dec prog_7_method_10_code 9 = some (.if_icmp .ge 31, 12, 40, 0) := by decide +kernel
theorem e_60_12 : dec prog_7_method_10_code 12 = some (.aload_n 0, 13, 0, 0) := by decide +kernel
theorem e_60_13 : dec prog_7_method_10_code 13 = some (.getfield 21, 16, 0, 0) := by decide +kernel
theorem e_60_16 : dec prog_7_method_10_code 16 = some (.iload_n 3, 17, 3, 0) := by decide +kernel
theorem e_60_17 : dec prog_7_method_10_code 17 = some (.iaload, 18, 0, 0) := by decide +kernel
theorem e_60_18 : dec prog_7_method_10_code 18 = some (.iconst 1, 19, 0, 1) := by decide +kernel
theorem e_60_19 : dec prog_7_method_10_code 19 = some (.if_icmp .ne 15, 22, 34, 0) := by decide +kernel
theorem e_60_22 : dec prog_7_method_10_code 22 = some (.aload_n 0, 23, 0, 0) := by decide +kernel
theorem e_60_23 : dec prog_7_method_10_code 23 = some (.iload_n 3, 24, 3, 0) := by decide +kernel
theorem e_60_24 : dec prog_7_method_10_code 24 = some (.iload_n 1, 25, 1, 0) := by decide +kernel
theorem e_60_25 : dec prog_7_method_10_code 25 = some (.invokevirtual 44, 28, 0, 0) := by decide +kernel
theorem e_60_28 : dec prog_7_method_10_code 28 = some (.ifCond .eq 6, 31, 34, 0) := by decide +kernel
theorem e_60_31 : dec prog_7_method_10_code 31 = some (.iinc 2 1, 34, 2, 1) := by decide +kernel
theorem e_60_34 : dec prog_7_method_10_code 34 = some (.iinc 3 1, 37, 3, 1) := by decide +kernel
theorem e_60_37 : dec prog_7_method_10_code 37 = some (.goto (-33), 40, 4, 0) := by decide +kernel
theorem e_60_40 : dec prog_7_method_10_code 40 = some (.iload_n 2, 41, 2, 0) := by decide +kernel
theorem e_60_41 : dec prog_7_method_10_code 41 = some (.ireturn, 42, 0, 0) := by decide +kernel
theorem E_60 : dec prog_7_method_10_code 0 = some (.iconst 0, 1, 0, 0) ∧ dec prog_7_method_10_code 1 = some (.istore_n 2, 2, 2, 0) ∧ dec prog_7_method_10_code 2 = some (.iconst 0, 3, 0, 0) ∧ dec prog_7_method_10_code 3 = some (.istore_n 3, 4, 3, 0) ∧ dec prog_7_method_10_code 4 = some (.iload_n 3, 5, 3, 0) ∧ dec prog_7_method_10_code 5 = some (.aload_n 0, 6, 0, 0) ∧ dec prog_7_method_10_code 6 = some (.getfield 33, 9, 0, 0) ∧ dec prog_7_method_10_code 9 = some (.if_icmp .ge 31, 12, 40, 0) ∧ dec prog_7_method_10_code 12 = some (.aload_n 0, 13, 0, 0) ∧ dec prog_7_method_10_code 13 = some (.getfield 21, 16, 0, 0) ∧ dec prog_7_method_10_code 16 = some (.iload_n 3, 17, 3, 0) ∧ dec prog_7_method_10_code 17 = some (.iaload, 18, 0, 0) ∧ dec prog_7_method_10_code 18 = some (.iconst 1, 19, 0, 1) ∧ dec prog_7_method_10_code 19 = some (.if_icmp .ne 15, 22, 34, 0) ∧ dec prog_7_method_10_code 22 = some (.aload_n 0, 23, 0, 0) ∧ dec prog_7_method_10_code 23 = some (.iload_n 3, 24, 3, 0) ∧ dec prog_7_method_10_code 24 = some (.iload_n 1, 25, 1, 0) ∧ dec prog_7_method_10_code 25 = some (.invokevirtual 44, 28, 0, 0) ∧ dec prog_7_method_10_code 28 = some (.ifCond .eq 6, 31, 34, 0) ∧ dec prog_7_method_10_code 31 = some (.iinc 2 1, 34, 2, 1) ∧ dec prog_7_method_10_code 34 = some (.iinc 3 1, 37, 3, 1) ∧ dec prog_7_method_10_code 37 = some (.goto (-33), 40, 4, 0) ∧ dec prog_7_method_10_code 40 = some (.iload_n 2, 41, 2, 0) ∧ dec prog_7_method_10_code 41 = some (.ireturn, 42, 0, 0) := ⟨e_60_0, e_60_1, e_60_2, e_60_3, e_60_4, e_60_5, e_60_6, e_60_9, e_60_12, e_60_13, e_60_16, e_60_17, e_60_18, e_60_19, e_60_22, e_60_23, e_60_24, e_60_25, e_60_28, e_60_31, e_60_34, e_60_37, e_60_40, e_60_41⟩
theorem e_61_0 : dec prog_7_method_11_code 0 = some (.aload_n 0, 1, 0, 0) := by decide +kernel
theorem e_61_1 : dec prog_7_method_11_code 1 = some (.getfield 18, 4, 0, 0) := by decide +kernel
theorem e_61_4 : dec prog_7_method_11_code 4 = some (.iload_n 1, 5, 1, 0) := by decide +kernel
theorem e_61_5 : dec prog_7_method_11_code 5 = some (.iaload, 6, 0, 0) := by decide +kernel
theorem e_61_6 : dec prog_7_method_11_code 6 = some (.aload_n 0, 7, 0, 0) := by decide +kernel
theorem e_61_7 : dec prog_7_method_11_code 7 = some (.getfield 18, 10, 0, 0) := by decide +kernel
theorem e_61_10 : dec prog_7_method_11_code 10 = some (.iload_n 2, 11, 2, 0) := by decide +kernel
theorem e_61_11 : dec prog_7_method_11_code 11 = some (.iaload, 12, 0, 0) := by decide +kernel
theorem e_61_12 : dec prog_7_method_11_code 12 = some (.if_icmp .eq 24, 15, 36, 0) := by decide +kernel
theorem e_61_15 : dec prog_7_method_11_code 15 = some (.aload_n 0, 16, 0, 0) := by decide +kernel
theorem e_61_16 : dec prog_7_method_11_code 16 = some (.getfield 18, 19, 0, 0) := by decide +kernel
theorem e_61_19 : dec prog_7_method_11_code 19 = some (.iload_n 1, 20, 1, 0) := by decide +kernel
theorem e_61_20 : dec prog_7_method_11_code 20 = some (.iaload, 21, 0, 0) := by decide +kernel
theorem e_61_21 : dec prog_7_method_11_code 21 = some (.aload_n 0, 22, 0, 0) := by decide +kernel
theorem e_61_22 : dec prog_7_method_11_code 22 = some (.getfield 18, 25, 0, 0) := by decide +kernel
theorem e_61_25 : dec prog_7_method_11_code 25 = some (.iload_n 2, 26, 2, 0) := by decide +kernel
theorem e_61_26 : dec prog_7_method_11_code 26 = some (.iaload, 27, 0, 0) := by decide +kernel
theorem e_61_27 : dec prog_7_method_11_code 27 = some (.if_icmp .le 7, 30, 34, 0) := by decide +kernel
theorem e_61_30 : dec prog_7_method_11_code 30 = some (.iconst 1, 31, 0, 1) := by decide +kernel
theorem e_61_31 : dec prog_7_method_11_code 31 = some (.goto 4, 34, 35, 0) := by decide +kernel
theorem e_61_34 : dec prog_7_method_11_code 34 = some (.iconst 0, 35, 0, 0) := by decide +kernel
theorem e_61_35 : dec prog_7_method_11_code 35 = some (.ireturn, 36, 0, 0) := by decide +kernel
theorem e_61_36 : dec prog_7_method_11_code 36 = some (.aload_n 0, 37, 0, 0) := by decide +kernel
theorem e_61_37 : dec prog_7_method_11_code 37 = some (.getfield 15, 40, 0, 0) := by decide +kernel
theorem e_61_40 : dec prog_7_method_11_code 40 = some (.iload_n 1, 41, 1, 0) := by decide +kernel
theorem e_61_41 : dec prog_7_method_11_code 41 = some (.iaload, 42, 0, 0) := by decide +kernel
theorem e_61_42 : dec prog_7_method_11_code 42 = some (.aload_n 0, 43, 0, 0) := by decide +kernel
theorem e_61_43 : dec prog_7_method_11_code 43 = some (.getfield 15, 46, 0, 0) := by decide +kernel
theorem e_61_46 : dec prog_7_method_11_code 46 = some (.iload_n 2, 47, 2, 0) := by decide +kernel
theorem e_61_47 : dec prog_7_method_11_code 47 = some (.iaload, 48, 0, 0) := by decide +kernel
theorem e_61_48 : dec prog_7_method_11_code 48 = some (.if_icmp .eq 24, 51, 72, 0) := by decide +kernel
theorem e_61_51 : dec prog_7_method_11_code 51 = some (.aload_n 0, 52, 0, 0) := by decide +kernel
theorem e_61_52 : dec prog_7_method_11_code 52 = some (.getfield 15, 55, 0, 0) := by decide +kernel
theorem e_61_55 : dec prog_7_method_11_code 55 = some (.iload_n 1, 56, 1, 0) := by decide +kernel
theorem e_61_56 : dec prog_7_method_11_code 56 = some (.iaload, 57, 0, 0) := by decide +kernel
theorem e_61_57 : dec prog_7_method_11_code 57 = some (.aload_n 0, 58, 0, 0) := by decide +kernel
theorem e_61_58 : dec prog_7_method_11_code 58 = some (.getfield 15, 61, 0, 0) := by decide +kernel
theorem e_61_61 : dec prog_7_method_11_code 61 = some (.iload_n 2, 62, 2, 0) := by decide +kernel
theorem e_61_62 : dec prog_7_method_11_code 62 = some (.iaload, 63, 0, 0) := by decide +kernel
theorem e_61_63 : dec prog_7_method_11_code 63 = some (.if_icmp .ge 7, 66, 70, 0) := by decide +kernel
theorem e_61_66 : dec prog_7_method_11_code 66 = some (.iconst 1, 67, 0, 1) := by decide +kernel
theorem e_61_67 : dec prog_7_method_11_code 67 = some (.goto 4, 70, 71, 0) := by decide +kernel
theorem e_61_70 : dec prog_7_method_11_code 70 = some (.iconst 0, 71, 0, 0) := by decide +kernel
theorem e_61_71 : dec prog_7_method_11_code 71 = some (.ireturn, 72, 0, 0) := by decide +kernel
theorem e_61_72 : dec prog_7_method_11_code 72 = some (.iload_n 1, 73, 1, 0) := by decide +kernel
theorem e_61_73 : dec prog_7_method_11_code 73 = some (.iload_n 2, 74, 2, 0) := by decide +kernel
theorem e_61_74 : dec prog_7_method_11_code 74 = some (.if_icmp .ge 7, 77, 81, 0) := by decide +kernel
theorem e_61_77 : dec prog_7_method_11_code 77 = some (.iconst 1, 78, 0, 1) := by decide +kernel
theorem e_61_78 : dec prog_7_method_11_code 78 = some (.goto 4, 81, 82, 0) := by decide +kernel
theorem e_61_81 : dec prog_7_method_11_code 81 = some (.iconst 0, 82, 0, 0) := by decide +kernel
theorem e_61_82 : dec prog_7_method_11_code 82 = some (.ireturn, 83, 0, 0) := by decide +kernel
theorem E_61 : dec prog_7_method_11_code 0 = some (.aload_n 0, 1, 0, 0) ∧ dec prog_7_method_11_code 1 = some (.getfield 18, 4, 0, 0) ∧ dec prog_7_method_11_code 4 = some (.iload_n 1, 5, 1, 0) ∧ dec prog_7_method_11_code 5 = some (.iaload, 6, 0, 0) ∧ dec prog_7_method_11_code 6 = some (.aload_n 0, 7, 0, 0) ∧ dec prog_7_method_11_code 7 = some (.getfield 18, 10, 0, 0) ∧ dec prog_7_method_11_code 10 = some (.iload_n 2, 11, 2, 0) ∧ dec prog_7_method_11_code 11 = some (.iaload, 12, 0, 0) ∧ dec prog_7_method_11_code 12 = some (.if_icmp .eq 24, 15, 36, 0) ∧ dec prog_7_method_11_code 15 = some (.aload_n 0, 16, 0, 0) ∧ dec prog_7_method_11_code 16 = some (.getfield 18, 19, 0, 0) ∧ dec prog_7_method_11_code 19 = some (.iload_n 1, 20, 1, 0) ∧ dec prog_7_method_11_code 20 = some (.iaload, 21, 0, 0) ∧ dec prog_7_method_11_code 21 = some (.aload_n 0, 22, 0, 0) ∧ dec prog_7_method_11_code 22 = some (.getfield 18, 25, 0, 0) ∧ dec prog_7_method_11_code 25 = some (.iload_n 2, 26, 2, 0) ∧ dec prog_7_method_11_code 26 = some (.iaload, 27, 0, 0) ∧ dec prog_7_method_11_code 27 = some (.if_icmp .le 7, 30, 34, 0) ∧ dec prog_7_method_11_code 30 = some (.iconst 1, 31, 0, 1) ∧ dec prog_7_method_11_code 31 = some (.goto 4, 34, 35, 0) ∧ dec prog_7_method_11_code 34 = some (.iconst 0, 35, 0, 0) ∧ dec prog_7_method_11_code 35 = some (.ireturn, 36, 0, 0) ∧ dec prog_7_method_11_code 36 = some (.aload_n 0, 37, 0, 0) ∧ dec prog_7_method_11_code 37 = some (.getfield 15, 40, 0, 0) ∧ dec prog_7_method_11_code 40 = some (.iload_n 1, 41, 1, 0) ∧ dec prog_7_method_11_code 41 = some (.iaload, 42, 0, 0) ∧ dec prog_7_method_11_code 42 = some (.aload_n 0, 43, 0, 0) ∧ dec prog_7_method_11_code 43 = some (.getfield 15, 46, 0, 0) ∧ dec prog_7_method_11_code 46 = some (.iload_n 2, 47, 2, 0) ∧ dec prog_7_method_11_code 47 = some (.iaload, 48, 0, 0) ∧ dec prog_7_method_11_code 48 = some (.if_icmp .eq 24, 51, 72, 0) ∧ dec prog_7_method_11_code 51 = some (.aload_n 0, 52, 0, 0) ∧ dec prog_7_method_11_code 52 = some (.getfield 15, 55, 0, 0) ∧ dec prog_7_method_11_code 55 = some (.iload_n 1, 56, 1, 0) ∧ dec prog_7_method_11_code 56 = some (.iaload, 57, 0, 0) ∧ dec prog_7_method_11_code 57 = some (.aload_n 0, 58, 0, 0) ∧ dec prog_7_method_11_code 58 = some (.getfield 15, 61, 0, 0) ∧ dec prog_7_method_11_code 61 = some (.iload_n 2, 62, 2, 0) ∧ dec prog_7_method_11_code 62 = some (.iaload, 63, 0, 0) ∧ dec prog_7_method_11_code 63 = some (.if_icmp .ge 7, 66, 70, 0) ∧ dec prog_7_method_11_code 66 = some (.iconst 1, 67, 0, 1) ∧ dec prog_7_method_11_code 67 = some (.goto 4, 70, 71, 0) ∧ dec prog_7_method_11_code 70 = some (.iconst 0, 71, 0, 0) ∧ dec prog_7_method_11_code 71 = some (.ireturn, 72, 0, 0) ∧ dec prog_7_method_11_code 72 = some (.iload_n 1, 73, 1, 0) ∧ dec prog_7_method_11_code 73 = some (.iload_n 2, 74, 2, 0) ∧ dec prog_7_method_11_code 74 = some (.if_icmp .ge 7, 77, 81, 0) ∧ dec prog_7_method_11_code 77 = some (.iconst 1, 78, 0, 1) ∧ dec prog_7_method_11_code 78 = some (.goto 4, 81, 82, 0) ∧ dec prog_7_method_11_code 81 = some (.iconst 0, 82, 0, 0) ∧ dec prog_7_method_11_code 82 = some (.ireturn, 83, 0, 0) := ⟨e_61_0, e_61_1, e_61_4, e_61_5, e_61_6, e_61_7, e_61_10, e_61_11, e_61_12, e_61_15, e_61_16, e_61_19, e_61_20, e_61_21, e_61_22, e_61_25, e_61_26, e_61_27, e_61_30, e_61_31, e_61_34, e_61_35, e_61_36, e_61_37, e_61_40, e_61_41, e_61_42, e_61_43, e_61_46, e_61_47, e_61_48, e_61_51, e_61_52, e_61_55, e_61_56, e_61_57, e_61_58, e_61_61, e_61_62, e_61_63, e_61_66, e_61_67, e_61_70, e_61_71, e_61_72, e_61_73, e_61_74, e_61_77, e_61_78, e_61_81, e_61_82⟩
theorem e_62_0 : dec prog_1_method_1_code 0 = some (.aload_n 0, 1, 0, 0) := by decide +kernel
theorem e_62_1 : dec prog_1_method_1_code 1 = some (.invokespecial 1, 4, 0, 0) := by decide +kernel
theorem e_62_4 : dec prog_1_method_1_code 4 = some (.aload_n 0, 5, 0, 0) := by decide +kernel
theorem e_62_5 : dec prog_1_method_1_code 5 = some (.new 7, 8, 0, 0) := by decide +kernel
theorem e_62_8 : dec prog_1_method_1_code 8 = some (.dup, 9, 0, 0) := by decide +kernel
theorem e_62_9 : dec prog_1_method_1_code 9 = some (.invokespecial 9, 12, 0, 0) := by decide +kernel
theorem e_62_12 : dec prog_1_method_1_code 12 = some (.putfield 10, 15, 0, 0) := by decide +kernel
theorem e_62_15 : dec prog_1_method_1_code 15 = some (.aload_n 0, 16, 0, 0) := by decide +kernel
theorem e_62_16 : dec prog_1_method_1_code 16 = some (.iconst 2, 17, 0, 2) := by decide +kernel
theorem e_62_17 : dec prog_1_method_1_code 17 = some (.anewarray 7, 20, 0, 0) := by decide +kernel
theorem e_62_20 : dec prog_1_method_1_code 20 = some (.putfield 16, 23, 0, 0) := by decide +kernel
theorem e_62_23 : dec prog_1_method_1_code 23 = some (.aload_n 0, 24, 0, 0) := by decide +kernel
theorem e_62_24 : dec prog_1_method_1_code 24 = some (.iconst 2, 25, 0, 2) := by decide +kernel
theorem e_62_25 : dec prog_1_method_1_code 25 = some (.newarray .boolean, 27, 0, 0) := by decide +kernel
theorem e_62_27 : dec prog_1_method_1_code 27 = some (.putfield 20, 30, 0, 0) := by decide +kernel
theorem e_62_30 : dec prog_1_method_1_code 30 = some (.aload_n 0, 31, 0, 0) := by decide +kernel
theorem e_62_31 : dec prog_1_method_1_code 31 = some (.new 24, 34, 0, 0) := by decide +kernel
theorem e_62_34 : dec prog_1_method_1_code 34 = some (.dup, 35, 0, 0) := by decide +kernel
theorem e_62_35 : dec prog_1_method_1_code 35 = some (.invokespecial 26, 38, 0, 0) := by decide +kernel
theorem e_62_38 : dec prog_1_method_1_code 38 = some (.putfield 27, 41, 0, 0) := by decide +kernel
theorem e_62_41 : dec prog_1_method_1_code 41 = some (.aload_n 0, 42, 0, 0) := by decide +kernel
theorem e_62_42 : dec prog_1_method_1_code 42 = some (.new 31, 45, 0, 0) := by decide +kernel
theorem e_62_45 : dec prog_1_method_1_code 45 = some (.dup, 46, 0, 0) := by decide +kernel
theorem e_62_46 : dec prog_1_method_1_code 46 = some (.invokespecial 33, 49, 0, 0) := by decide +kernel
theorem e_62_49 : dec prog_1_method_1_code 49 = some (.putfield 34, 52, 0, 0) := by decide +kernel
theorem e_62_52 : dec prog_1_method_1_code 52 = some (.iconst 0, 53, 0, 0) := by decide +kernel
theorem e_62_53 : dec prog_1_method_1_code 53 = some (.istore_n 1, 54, 1, 0) := by decide +kernel
theorem e_62_54 : dec prog_1_method_1_code 54 = some (.iload_n 1, 55, 1, 0) := by decide +kernel
theorem e_62_55 : dec prog_1_method_1_code 55 = some (.iconst 2, 56, 0, 2) := by decide +kernel
theorem e_62_56 : dec prog_1_method_1_code 56 = some (.if_icmp .ge 22, 59, 78, 0) := by decide +kernel
theorem e_62_59 : dec prog_1_method_1_code 59 = some (.aload_n 0, 60, 0, 0) := by decide +kernel
theorem e_62_60 : dec prog_1_method_1_code 60 = some (.getfield 16, 63, 0, 0) := by decide +kernel
theorem e_62_63 : dec prog_1_method_1_code 63 = some (.iload_n 1, 64, 1, 0) := by decide +kernel
theorem e_62_64 : dec prog_1_method_1_code 64 = some (.new 7, 67, 0, 0) := by decide +kernel
theorem e_62_67 : dec prog_1_method_1_code 67 = some (.dup, 68, 0, 0) := by decide +kernel
theorem e_62_68 : dec prog_1_method_1_code 68 = some (.invokespecial 9, 71, 0, 0) := by decide +kernel
theorem e_62_71 : dec prog_1_method_1_code 71 = some (.aastore, 72, 0, 0) := by decide +kernel
theorem e_62_72 : dec prog_1_method_1_code 72 = some (.iinc 1 1, 75, 1, 1) := by decide +kernel
theorem e_62_75 : dec prog_1_method_1_code 75 = some (.goto (-21), 78, 54, 0) := by decide +kernel
theorem e_62_78 : dec prog_1_method_1_code 78 = some (.return_, 79, 0, 0) := by decide +kernel
theorem E_62 : dec prog_1_method_1_code 0 = some (.aload_n 0, 1, 0, 0) ∧ dec prog_1_method_1_code 1 = some (.invokespecial 1, 4, 0, 0) ∧ dec prog_1_method_1_code 4 = some (.aload_n 0, 5, 0, 0) ∧ dec prog_1_method_1_code 5 = some (.new 7, 8, 0, 0) ∧ dec prog_1_method_1_code 8 = some (.dup, 9, 0, 0) ∧ dec prog_1_method_1_code 9 = some (.invokespecial 9, 12, 0, 0) ∧ dec prog_1_method_1_code 12 = some (.putfield 10, 15, 0, 0) ∧ dec prog_1_method_1_code 15 = some (.aload_n 0, 16, 0, 0) ∧ dec prog_1_method_1_code 16 = some (.iconst 2, 17, 0, 2) ∧ dec prog_1_method_1_code 17 = some (.anewarray 7, 20, 0, 0) ∧ dec prog_1_method_1_code 20 = some (.putfield 16, 23, 0, 0) ∧ dec prog_1_method_1_code 23 = some (.aload_n 0, 24, 0, 0) ∧ dec prog_1_method_1_code 24 = some (.iconst 2, 25, 0, 2) ∧ dec prog_1_method_1_code 25 = some (.newarray .boolean, 27, 0, 0) ∧ dec prog_1_method_1_code 27 = some (.putfield 20, 30, 0, 0) ∧ dec prog_1_method_1_code 30 = some (.aload_n 0, 31, 0, 0) ∧ dec prog_1_method_1_code 31 = some (.new 24, 34, 0, 0) ∧ dec prog_1_method_1_code 34 = some (.dup, 35, 0, 0) ∧ dec prog_1_method_1_code 35 = some (.invokespecial 26, 38, 0, 0) ∧ dec prog_1_method_1_code 38 = some (.putfield 27, 41, 0, 0) ∧ dec prog_1_method_1_code 41 = some (.aload_n 0, 42, 0, 0) ∧ dec prog_1_method_1_code 42 = some (.new 31, 45, 0, 0) ∧ dec prog_1_method_1_code 45 = some (.dup, 46, 0, 0) ∧ dec prog_1_method_1_code 46 = some (.invokespecial 33, 49, 0, 0) ∧ dec prog_1_method_1_code 49 = some (.putfield 34, 52, 0, 0) ∧ dec prog_1_method_1_code 52 = some (.iconst 0, 53, 0, 0) ∧ dec prog_1_method_1_code 53 = some (.istore_n 1, 54, 1, 0) ∧ dec prog_1_method_1_code 54 = some (.iload_n 1, 55, 1, 0) ∧ dec prog_1_method_1_code 55 = some (.iconst 2, 56, 0, 2) ∧ dec prog_1_method_1_code 56 = some (.if_icmp .ge 22, 59, 78, 0) ∧ dec prog_1_method_1_code 59 = some (.aload_n 0, 60, 0, 0) ∧ dec prog_1_method_1_code 60 = some (.getfield 16, 63, 0, 0) ∧ dec prog_1_method_1_code 63 = some (.iload_n 1, 64, 1, 0) ∧ dec prog_1_method_1_code 64 = some (.new 7, 67, 0, 0) ∧ dec prog_1_method_1_code 67 = some (.dup, 68, 0, 0) ∧ dec prog_1_method_1_code 68 = some (.invokespecial 9, 71, 0, 0) ∧ dec prog_1_method_1_code 71 = some (.aastore, 72, 0, 0) ∧ dec prog_1_method_1_code 72 = some (.iinc 1 1, 75, 1, 1) ∧ dec prog_1_method_1_code 75 = some (.goto (-21), 78, 54, 0) ∧ dec prog_1_method_1_code 78 = some (.return_, 79, 0, 0) := ⟨e_62_0, e_62_1, e_62_4, e_62_5, e_62_8, e_62_9, e_62_12, e_62_15, e_62_16, e_62_17, e_62_20, e_62_23, e_62_24, e_62_25, e_62_27, e_62_30, e_62_31, e_62_34, e_62_35, e_62_38, e_62_41, e_62_42, e_62_45, e_62_46, e_62_49, e_62_52, e_62_53, e_62_54, e_62_55, e_62_56, e_62_59, e_62_60, e_62_63, e_62_64, e_62_67, e_62_68, e_62_71, e_62_72, e_62_75, e_62_78⟩
theorem e_63_0 : dec prog_1_method_2_code 0 = some (.aload_n 0, 1, 0, 0) := by decide +kernel
theorem e_63_1 : dec prog_1_method_2_code 1 = some (.getfield 27, 4, 0, 0) := by decide +kernel
theorem e_63_4 : dec prog_1_method_2_code 4 = some (.aload_n 0, 5, 0, 0) := by decide +kernel
theorem e_63_5 : dec prog_1_method_2_code 5 = some (.getfield 10, 8, 0, 0) := by decide +kernel
theorem e_63_8 : dec prog_1_method_2_code 8 = some (.invokevirtual 38, 11, 0, 0) := by decide +kernel
theorem e_63_11 : dec prog_1_method_2_code 11 = some (.aload_n 0, 12, 0, 0) := by decide +kernel
theorem e_63_12 : dec prog_1_method_2_code 12 = some (.aload_n 0, 13, 0, 0) := by decide +kernel
theorem e_63_13 : dec prog_1_method_2_code 13 = some (.getfield 10, 16, 0, 0) := by decide +kernel
theorem e_63_16 : dec prog_1_method_2_code 16 = some (.iload_n 1, 17, 1, 0) := by decide +kernel
theorem e_63_17 : dec prog_1_method_2_code 17 = some (.iload_n 2, 18, 2, 0) := by decide +kernel
theorem e_63_18 : dec prog_1_method_2_code 18 = some (.invokevirtual 42, 21, 0, 0) := by decide +kernel
theorem e_63_21 : dec prog_1_method_2_code 21 = some (.invokevirtual 46, 24, 0, 0) := by decide +kernel
theorem e_63_24 : dec prog_1_method_2_code 24 = some (.ireturn, 25, 0, 0) := by decide +kernel
theorem E_63 : dec prog_1_method_2_code 0 = some (.aload_n 0, 1, 0, 0) ∧ dec prog_1_method_2_code 1 = some (.getfield 27, 4, 0, 0) ∧ dec prog_1_method_2_code 4 = some (.aload_n 0, 5, 0, 0) ∧ dec prog_1_method_2_code 5 = some (.getfield 10, 8, 0, 0) ∧ dec prog_1_method_2_code 8 = some (.invokevirtual 38, 11, 0, 0) ∧ dec prog_1_method_2_code 11 = some (.aload_n 0, 12, 0, 0) ∧ dec prog_1_method_2_code 12 = some (.aload_n 0, 13, 0, 0) ∧ dec prog_1_method_2_code 13 = some (.getfield 10, 16, 0, 0) ∧ dec prog_1_method_2_code 16 = some (.iload_n 1, 17, 1, 0) ∧ dec prog_1_method_2_code 17 = some (.iload_n 2, 18, 2, 0) ∧ dec prog_1_method_2_code 18 = some (.invokevirtual 42, 21, 0, 0) ∧ dec prog_1_method_2_code 21 = some (.invokevirtual 46, 24, 0, 0) ∧ dec prog_1_method_2_code 24 = some (.ireturn, 25, 0, 0) := ⟨e_63_0, e_63_1, e_63_4, e_63_5, e_63_8, e_63_11, e_63_12, e_63_13, e_63_16, e_63_17, e_63_18, e_63_21, e_63_24⟩
theorem e_64_0 : dec prog_1_method_3_code 0 = some (.aload_n 0, 1, 0, 0) := by decide +kernel
theorem e_64_1 : dec prog_1_method_3_code 1 = some (.getfield 27, 4, 0, 0) := by decide +kernel
theorem e_64_4 : dec prog_1_method_3_code 4 = some (.aload_n 0, 5, 0, 0) := by decide +kernel
theorem e_64_5 : dec prog_1_method_3_code 5 = some (.getfield 10, 8, 0, 0) := by decide +kernel
theorem e_64_8 : dec prog_1_method_3_code 8 = some (.invokevirtual 38, 11, 0, 0) := by decide +kernel
theorem e_64_11 : dec prog_1_method_3_code 11 = some (.aload_n 0, 12, 0, 0) := by decide +kernel
theorem e_64_12 : dec prog_1_method_3_code 12 = some (.aload_n 0, 13, 0, 0) := by decide +kernel
theorem e_64_13 : dec prog_1_method_3_code 13 = some (.getfield 10, 16, 0, 0) := by decide +kernel
theorem e_64_16 : dec prog_1_method_3_code 16 = some (.iload_n 1, 17, 1, 0) := by decide +kernel
theorem e_64_17 : dec prog_1_method_3_code 17 = some (.iload_n 2, 18, 2, 0) := by decide +kernel
theorem e_64_18 : dec prog_1_method_3_code 18 = some (.iload_n 3, 19, 3, 0) := by decide +kernel
theorem e_64_19 : dec prog_1_method_3_code 19 = some (.invokevirtual 50, 22, 0, 0) := by decide +kernel
theorem e_64_22 : dec prog_1_method_3_code 22 = some (.invokevirtual 46, 25, 0, 0) := by decide +kernel
theorem e_64_25 : dec prog_1_method_3_code 25 = some (.ireturn, 26, 0, 0) := by decide +kernel
theorem E_64 : dec prog_1_method_3_code 0 = some (.aload_n 0, 1, 0, 0) ∧ dec prog_1_method_3_code 1 = some (.getfield 27, 4, 0, 0) ∧ dec prog_1_method_3_code 4 = some (.aload_n 0, 5, 0, 0) ∧ dec prog_1_method_3_code 5 = some (.getfield 10, 8, 0, 0) ∧ dec prog_1_method_3_code 8 = some (.invokevirtual 38, 11, 0, 0) ∧ dec prog_1_method_3_code 11 = some (.aload_n 0, 12, 0, 0) ∧ dec prog_1_method_3_code 12 = some (.aload_n 0, 13, 0, 0) ∧ dec prog_1_method_3_code 13 = some (.getfield 10, 16, 0, 0) ∧ dec prog_1_method_3_code 16 = some (.iload_n 1, 17, 1, 0) ∧ dec prog_1_method_3_code 17 = some (.iload_n 2, 18, 2, 0) ∧ dec prog_1_method_3_code 18 = some (.iload_n 3, 19, 3, 0) ∧ dec prog_1_method_3_code 19 = some (.invokevirtual 50, 22, 0, 0) ∧ dec prog_1_method_3_code 22 = some (.invokevirtual 46, 25, 0, 0) ∧ dec prog_1_method_3_code 25 = some (.ireturn, 26, 0, 0) := ⟨e_64_0, e_64_1, e_64_4, e_64_5, e_64_8, e_64_11, e_64_12, e_64_13, e_64_16, e_64_17, e_64_18, e_64_19, e_64_22, e_64_25⟩
theorem e_65_0 : dec prog_1_method_4_code 0 = some (.aload_n 0, 1, 0, 0) := by decide +kernel
theorem e_65_1 : dec prog_1_method_4_code 1 = some (.getfield 27, 4, 0, 0) := by decide +kernel
theorem e_65_4 : dec prog_1_method_4_code 4 = some (.aload_n 0, 5, 0, 0) := by decide +kernel
theorem e_65_5 : dec prog_1_method_4_code 5 = some (.getfield 10, 8, 0, 0) := by decide +kernel
theorem e_65_8 : dec prog_1_method_4_code 8 = some (.invokevirtual 38, 11, 0, 0) := by decide +kernel
theorem e_65_11 : dec prog_1_method_4_code 11 = some (.aload_n 0, 12, 0, 0) := by decide +kernel
theorem e_65_12 : dec prog_1_method_4_code 12 = some (.aload_n 0, 13, 0, 0) := by decide +kernel
theorem e_65_13 : dec prog_1_method_4_code 13 = some (.getfield 10, 16, 0, 0) := by decide +kernel
theorem e_65_16 : dec prog_1_method_4_code 16 = some (.iload_n 1, 17, 1, 0) := by decide +kernel
theorem e_65_17 : dec prog_1_method_4_code 17 = some (.invokevirtual 54, 20, 0, 0) := by decide +kernel
theorem e_65_20 : dec prog_1_method_4_code 20 = some (.invokevirtual 46, 23, 0, 0) := by decide +kernel
theorem e_65_23 : dec prog_1_method_4_code 23 = some (.ireturn, 24, 0, 0) := by decide +kernel
theorem E_65 : dec prog_1_method_4_code 0 = some (.aload_n 0, 1, 0, 0) ∧ dec prog_1_method_4_code 1 = some (.getfield 27, 4, 0, 0) ∧ dec prog_1_method_4_code 4 = some (.aload_n 0, 5, 0, 0) ∧ dec prog_1_method_4_code 5 = some (.getfield 10, 8, 0, 0) ∧ dec prog_1_method_4_code 8 = some (.invokevirtual 38, 11, 0, 0) ∧ dec prog_1_method_4_code 11 = some (.aload_n 0, 12, 0, 0) ∧ dec prog_1_method_4_code 12 = some (.aload_n 0, 13, 0, 0) ∧ dec prog_1_method_4_code 13 = some (.getfield 10, 16, 0, 0) ∧ dec prog_1_method_4_code 16 = some (.iload_n 1, 17, 1, 0) ∧ dec prog_1_method_4_code 17 = some (.invokevirtual 54, 20, 0, 0) ∧ dec prog_1_method_4_code 20 = some (.invokevirtual 46, 23, 0, 0) ∧ dec prog_1_method_4_code 23 = some (.ireturn, 24, 0, 0) := ⟨e_65_0, e_65_1, e_65_4, e_65_5, e_65_8, e_65_11, e_65_12, e_65_13, e_65_16, e_65_17, e_65_20, e_65_23⟩
theorem e_66_0 : dec prog_1_method_5_code 0 = some (.aload_n 0, 1, 0, 0) := by decide +kernel
theorem e_66_1 : dec prog_1_method_5_code 1 = some (.getfield 27, 4, 0, 0) := by decide +kernel
theorem e_66_4 : dec prog_1_method_5_code 4 = some (.aload_n 0, 5, 0, 0) := by decide +kernel
theorem e_66_5 : dec prog_1_method_5_code 5 = some (.getfield 10, 8, 0, 0) := by decide +kernel
theorem e_66_8 : dec prog_1_method_5_code 8 = some (.invokevirtual 38, 11, 0, 0) := by decide +kernel
theorem e_66_11 : dec prog_1_method_5_code 11 = some (.aload_n 0, 12, 0, 0) := by decide +kernel
theorem e_66_12 : dec prog_1_method_5_code 12 = some (.aload_n 0, 13, 0, 0) := by decide +kernel
theorem e_66_13 : dec prog_1_method_5_code 13 = some (.getfield 10, 16, 0, 0) := by decide +kernel
theorem e_66_16 : dec prog_1_method_5_code 16 = some (.iload_n 1, 17, 1, 0) := by decide +kernel
theorem e_66_17 : dec prog_1_method_5_code 17 = some (.invokevirtual 57, 20, 0, 0) := by decide +kernel
theorem e_66_20 : dec prog_1_method_5_code 20 = some (.invokevirtual 46, 23, 0, 0) := by decide +kernel
theorem e_66_23 : dec prog_1_method_5_code 23 = some (.ireturn, 24, 0, 0) := by decide +kernel
theorem E_66 : dec prog_1_method_5_code 0 = some (.aload_n 0, 1, 0, 0) ∧ dec prog_1_method_5_code 1 = some (.getfield 27, 4, 0, 0) ∧ dec prog_1_method_5_code 4 = some (.aload_n 0, 5, 0, 0) ∧ dec prog_1_method_5_code 5 = some (.getfield 10, 8, 0, 0) ∧ dec prog_1_method_5_code 8 = some (.invokevirtual 38, 11, 0, 0) ∧ dec prog_1_method_5_code 11 = some (.aload_n 0, 12, 0, 0) ∧ dec prog_1_method_5_code 12 = some (.aload_n 0, 13, 0, 0) ∧ dec prog_1_method_5_code 13 = some (.getfield 10, 16, 0, 0) ∧ dec prog_1_method_5_code 16 = some (.iload_n 1, 17, 1, 0) ∧ dec prog_1_method_5_code 17 = some (.invokevirtual 57, 20, 0, 0) ∧ dec prog_1_method_5_code 20 = some (.invokevirtual 46, 23, 0, 0) ∧ dec prog_1_method_5_code 23 = some (.ireturn, 24, 0, 0) := ⟨e_66_0, e_66_1, e_66_4, e_66_5, e_66_8, e_66_11, e_66_12, e_66_13, e_66_16, e_66_17, e_66_20, e_66_23⟩
theorem e_67_0 : dec prog_1_method_6_code 0 = some (.aload_n 0, 1, 0, 0) := by decide +kernel
theorem e_67_1 : dec prog_1_method_6_code 1 = some (.getfield 27, 4, 0, 0) := by decide +kernel
theorem e_67_4 : dec prog_1_method_6_code 4 = some (.aload_n 0, 5, 0, 0) := by decide +kernel
theorem e_67_5 : dec prog_1_method_6_code 5 = some (.getfield 10, 8, 0, 0) := by decide +kernel
theorem e_67_8 : dec prog_1_method_6_code 8 = some (.invokevirtual 38, 11, 0, 0) := by decide +kernel
theorem e_67_11 : dec prog_1_method_6_code 11 = some (.aload_n 0, 12, 0, 0) := by decide +kernel
theorem e_67_12 : dec prog_1_method_6_code 12 = some (.aload_n 0, 13, 0, 0) := by decide +kernel
theorem e_67_13 : dec prog_1_method_6_code 13 = some (.getfield 10, 16, 0, 0) := by decide +kernel
theorem e_67_16 : dec prog_1_method_6_code 16 = some (.iload_n 1, 17, 1, 0) := by decide +kernel
theorem e_67_17 : dec prog_1_method_6_code 17 = some (.iload_n 2, 18, 2, 0) := by decide +kernel
theorem e_67_18 : dec prog_1_method_6_code 18 = some (.invokevirtual 60, 21, 0, 0) := by decide +kernel
theorem e_67_21 : dec prog_1_method_6_code 21 = some (.invokevirtual 46, 24, 0, 0) := by decide +kernel
theorem e_67_24 : dec prog_1_method_6_code 24 = some (.ireturn, 25, 0, 0) := by decide +kernel
theorem E_67 : dec prog_1_method_6_code 0 = some (.aload_n 0, 1, 0, 0) ∧ dec prog_1_method_6_code 1 = some (.getfield 27, 4, 0, 0) ∧ dec prog_1_method_6_code 4 = some (.aload_n 0, 5, 0, 0) ∧ dec prog_1_method_6_code 5 = some (.getfield 10, 8, 0, 0) ∧ dec prog_1_method_6_code 8 = some (.invokevirtual 38, 11, 0, 0) ∧ dec prog_1_method_6_code 11 = some (.aload_n 0, 12, 0, 0) ∧ dec prog_1_method_6_code 12 = some (.aload_n 0, 13, 0, 0) ∧ dec prog_1_method_6_code 13 = some (.getfield 10, 16, 0, 0) ∧ dec prog_1_method_6_code 16 = some (.iload_n 1, 17, 1, 0) ∧ dec prog_1_method_6_code 17 = some (.iload_n 2, 18, 2, 0) ∧ dec prog_1_method_6_code 18 = some (.invokevirtual 60, 21, 0, 0) ∧ dec prog_1_method_6_code 21 = some (.invokevirtual 46, 24, 0, 0) ∧ dec prog_1_method_6_code 24 = some (.ireturn, 25, 0, 0) := ⟨e_67_0, e_67_1, e_67_4, e_67_5, e_67_8, e_67_11, e_67_12, e_67_13, e_67_16, e_67_17, e_67_18, e_67_21, e_67_24⟩
theorem e_68_0 : dec prog_1_method_7_code 0 = some (.iload_n 1, 1, 1, 0) := by decide +kernel
theorem e_68_1 : dec prog_1_method_7_code 1 = some (.ifCond .lt 10, 4, 11, 0) := by decide +kernel
theorem e_68_4 : dec prog_1_method_7_code 4 = some (.aload_n 0, 5, 0, 0) := by decide +kernel
theorem e_68_5 : dec prog_1_method_7_code 5 = some (.getfield 27, 8, 0, 0) := by decide +kernel
theorem e_68_8 : dec prog_1_method_7_code 8 = some (.invokevirtual 63, 11, 0, 0) := by decide +kernel
theorem e_68_11 : dec prog_1_method_7_code 11 = some (.iload_n 1, 12, 1, 0) := by decide +kernel
theorem e_68_12 : dec prog_1_method_7_code 12 = some (.ireturn, 13, 0, 0) := by decide +kernel
theorem E_68 : dec prog_1_method_7_code 0 = some (.iload_n 1, 1, 1, 0) ∧ dec prog_1_method_7_code 1 = some (.ifCond .lt 10, 4, 11, 0) ∧ dec prog_1_method_7_code 4 = some (.aload_n 0, 5, 0, 0) ∧ dec prog_1_method_7_code 5 = some (.getfield 27, 8, 0, 0) ∧ dec prog_1_method_7_code 8 = some (.invokevirtual 63, 11, 0, 0) ∧ dec prog_1_method_7_code 11 = some (.iload_n 1, 12, 1, 0) ∧ dec prog_1_method_7_code 12 = some (.ireturn, 13, 0, 0) := ⟨e_68_0, e_68_1, e_68_4, e_68_5, e_68_8, e_68_11, e_68_12⟩
theorem e_69_0 : dec prog_1_method_8_code 0 = some (.iload_n 1, 1, 1, 0) := by decide +kernel
theorem e_69_1 : dec prog_1_method_8_code 1 = some (.ifCond .lt 17, 4, 18, 0) := by decide +kernel
theorem e_69_4 : dec prog_1_method_8_code 4 = some (.iload_n 1, 5, 1, 0) := by decide +kernel
theorem e_69_5 : dec prog_1_method_8_code 5 = some (.aload_n 0, 6, 0, 0) := by decide +kernel
theorem e_69_6 : dec prog_1_method_8_code 6 = some (.getfield 10, 9, 0, 0) := by decide +kernel
theorem e_69_9 : dec prog_1_method_8_code 9 = some (.getfield 66, 12, 0, 0) := by decide +kernel
theorem e_69_12 : dec prog_1_method_8_code 12 = some (.getfield 70, 15, 0, 0) := by decide +kernel
theorem e_69_15 : dec prog_1_method_8_code 15 = some (.if_icmp .lt 5, 18, 20, 0) := by decide +kernel
theorem e_69_18 : dec prog_1_method_8_code 18 = some (.iconst (-1), 19, 0, (-1)) := by decide +kernel
theorem e_69_19 : dec prog_1_method_8_code 19 = some (.ireturn, 20, 0, 0) := by decide +kernel
theorem e_69_20 : dec prog_1_method_8_code 20 = some (.iload_n 2, 21, 2, 0) := by decide +kernel
theorem e_69_21 : dec prog_1_method_8_code 21 = some (.tableswitch 116 0 5 #[39, 52, 65, 78, 91, 103], 60, 0, 0) := by decide +kernel
theorem e_69_60 : dec prog_1_method_8_code 60 = some (.aload_n 0, 61, 0, 0) := by decide +kernel
theorem e_69_61 : dec prog_1_method_8_code 61 = some (.getfield 10, 64, 0, 0) := by decide +kernel
theorem e_69_64 : dec prog_1_method_8_code 64 = some (.getfield 66, 67, 0, 0) := by decide +kernel
theorem e_69_67 : dec prog_1_method_8_code 67 = some (.getfield 76, 70, 0, 0) := by decide +kernel
theorem e_69_70 : dec prog_1_method_8_code 70 = some (.iload_n 1, 71, 1, 0) := by decide +kernel
theorem e_69_71 : dec prog_1_method_8_code 71 = some (.iaload, 72, 0, 0) := by decide +kernel
theorem e_69_72 : dec prog_1_method_8_code 72 = some (.ireturn, 73, 0, 0) := by decide +kernel
theorem e_69_73 : dec prog_1_method_8_code 73 = some (.aload_n 0, 74, 0, 0) := by decide +kernel
theorem e_69_74 : dec prog_1_method_8_code 74 = some (.getfield 10, 77, 0, 0) := by decide +kernel
theorem e_69_77 : dec prog_1_method_8_code 77 = some (.getfield 66, 80, 0, 0) := by decide +kernel
theorem e_69_80 : dec prog_1_method_8_code 80 = some (.getfield 80, 83, 0, 0) := by decide +kernel
theorem e_69_83 : dec prog_1_method_8_code 83 = some (.iload_n 1, 84, 1, 0) := by decide +kernel
theorem e_69_84 : dec prog_1_method_8_code 84 = some (.iaload, 85, 0, 0) := by decide +kernel
theorem e_69_85 : dec prog_1_method_8_code 85 = some (.ireturn, 86, 0, 0) := by decide +kernel
theorem e_69_86 : dec prog_1_method_8_code 86 = some (.aload_n 0, 87, 0, 0) := by decide +kernel
theorem e_69_87 : dec prog_1_method_8_code 87 = some (.getfield 10, 90, 0, 0) := by decide +kernel
theorem e_69_90 : dec prog_1_method_8_code 90 = some (.getfield 66, 93, 0, 0) := by decide +kernel
theorem e_69_93 : dec prog_1_method_8_code 93 = some (.getfield 83, 96, 0, 0) := by decide +kernel
theorem e_69_96 : dec prog_1_method_8_code 96 = some (.iload_n 1, 97, 1, 0) := by decide +kernel
theorem e_69_97 : dec prog_1_method_8_code 97 = some (.iaload, 98, 0, 0) := by decide +kernel
theorem e_69_98 : dec prog_1_method_8_code 98 = some (.ireturn, 99, 0, 0) := by decide +kernel
theorem e_69_99 : dec prog_1_method_8_code 99 = some (.aload_n 0, 100, 0, 0) := by decide +kernel
theorem e_69_100 : dec prog_1_method_8_code 100 = some (.getfield 10, 103, 0, 0) := by decide +kernel
theorem e_69_103 : dec prog_1_method_8_code 103 = some (.getfield 66, 106, 0, 0) := by decide +kernel
theorem e_69_106 : dec prog_1_method_8_code 106 = some (.getfield 86, 109, 0, 0) := by decide +kernel
theorem e_69_109 : dec prog_1_method_8_code 109 = some (.iload_n 1, 110, 1, 0) := by decide +kernel
theorem e_69_110 : dec prog_1_method_8_code 110 = some (.iaload, 111, 0, 0) := by decide +kernel
theorem e_69_111 : dec prog_1_method_8_code 111 = some (.ireturn, 112, 0, 0) := by decide +kernel
theorem e_69_112 : dec prog_1_method_8_code 112 = some (.aload_n 0, 113, 0, 0) := by decide +kernel
theorem e_69_113 : dec prog_1_method_8_code 113 = some (.getfield 10, 116, 0, 0) := by decide +kernel
theorem e_69_116 : dec prog_1_method_8_code 116 = some (.getfield 89, 119, 0, 0) := by decide +kernel
theorem e_69_119 : dec prog_1_method_8_code 119 = some (.iload_n 1, 120, 1, 0) := by decide +kernel
theorem e_69_120 : dec prog_1_method_8_code 120 = some (.invokevirtual 93, 123, 0, 0) := by decide +kernel
theorem e_69_123 : dec prog_1_method_8_code 123 = some (.ireturn, 124, 0, 0) := by decide +kernel
theorem e_69_124 : dec prog_1_method_8_code 124 = some (.aload_n 0, 125, 0, 0) := by decide +kernel
theorem e_69_125 : dec prog_1_method_8_code 125 = some (.getfield 10, 128, 0, 0) := by decide +kernel
theorem e_69_128 : dec prog_1_method_8_code 128 = some (.getfield 66, 131, 0, 0) := by decide +kernel
theorem e_69_131 : dec prog_1_method_8_code 131 = some (.getfield 98, 134, 0, 0) := by decide +kernel
theorem e_69_134 : dec prog_1_method_8_code 134 = some (.iload_n 1, 135, 1, 0) := by decide +kernel
theorem e_69_135 : dec prog_1_method_8_code 135 = some (.iaload, 136, 0, 0) := by decide +kernel
theorem e_69_136 : dec prog_1_method_8_code 136 = some (.ireturn, 137, 0, 0) := by decide +kernel
theorem e_69_137 : dec prog_1_method_8_code 137 = some (.bipush (-2), 139, 0, (-2)) := by decide +kernel
theorem e_69_139 : dec prog_1_method_8_code 139 = some (.ireturn, 140, 0, 0) := by decide +kernel
theorem E_69 : dec prog_1_method_8_code 0 = some (.iload_n 1, 1, 1, 0) ∧ dec prog_1_method_8_code 1 = some (.ifCond .lt 17, 4, 18, 0) ∧ dec prog_1_method_8_code 4 = some (.iload_n 1, 5, 1, 0) ∧ dec prog_1_method_8_code 5 = some (.aload_n 0, 6, 0, 0) ∧ dec prog_1_method_8_code 6 = some (.getfield 10, 9, 0, 0) ∧ dec prog_1_method_8_code 9 = some (.getfield 66, 12, 0, 0) ∧ dec prog_1_method_8_code 12 = some (.getfield 70, 15, 0, 0) ∧ dec prog_1_method_8_code 15 = some (.if_icmp .lt 5, 18, 20, 0) ∧ dec prog_1_method_8_code 18 = some (.iconst (-1), 19, 0, (-1)) ∧ dec prog_1_method_8_code 19 = some (.ireturn, 20, 0, 0) ∧ dec prog_1_method_8_code 20 = some (.iload_n 2, 21, 2, 0) ∧ dec prog_1_method_8_code 21 = some (.tableswitch 116 0 5 #[39, 52, 65, 78, 91, 103], 60, 0, 0) ∧ dec prog_1_method_8_code 60 = some (.aload_n 0, 61, 0, 0) ∧ dec prog_1_method_8_code 61 = some (.getfield 10, 64, 0, 0) ∧ dec prog_1_method_8_code 64 = some (.getfield 66, 67, 0, 0) ∧ dec prog_1_method_8_code 67 = some (.getfield 76, 70, 0, 0) ∧ dec prog_1_method_8_code 70 = some (.iload_n 1, 71, 1, 0) ∧ dec prog_1_method_8_code 71 = some (.iaload, 72, 0, 0) ∧ dec prog_1_method_8_code 72 = some (.ireturn, 73, 0, 0) ∧ dec prog_1_method_8_code 73 = some (.aload_n 0, 74, 0, 0) ∧ dec prog_1_method_8_code 74 = some (.getfield 10, 77, 0, 0) ∧ dec prog_1_method_8_code 77 = some (.getfield 66, 80, 0, 0) ∧ dec prog_1_method_8_code 80 = some (.getfield 80, 83, 0, 0) ∧ dec prog_1_method_8_code 83 = some (.iload_n 1, 84, 1, 0) ∧ dec prog_1_method_8_code 84 = some (.iaload, 85, 0, 0) ∧ dec prog_1_method_8_code 85 = some (.ireturn, 86, 0, 0) ∧ dec prog_1_method_8_code 86 = some (.aload_n 0, 87, 0, 0) ∧ dec prog_1_method_8_code 87 = some (.getfield 10, 90, 0, 0) ∧ dec prog_1_method_8_code 90 = some (.getfield 66, 93, 0, 0) ∧ dec prog_1_method_8_code 93 = some (.getfield 83, 96, 0, 0) ∧ dec prog_1_method_8_code 96 = some (.iload_n 1, 97, 1, 0) ∧ dec prog_1_method_8_code 97 = some (.iaload, 98, 0, 0) ∧ dec prog_1_method_8_code 98 = some (.ireturn, 99, 0, 0) ∧ dec prog_1_method_8_code 99 = some (.aload_n 0, 100, 0, 0) ∧ dec prog_1_method_8_code 100 = some (.getfield 10, 103, 0, 0) ∧ dec prog_1_method_8_code 103 = some (.getfield 66, 106, 0, 0) ∧ dec prog_1_method_8_code 106 = some (.getfield 86, 109, 0, 0) ∧ dec prog_1_method_8_code 109 = some (.iload_n 1, 110, 1, 0) ∧ dec prog_1_method_8_code 110 = some (.iaload, 111, 0, 0) ∧ dec prog_1_method_8_code 111 = some (.ireturn, 112, 0, 0) ∧ dec prog_1_method_8_code 112 = some (.aload_n 0, 113, 0, 0) ∧ dec prog_1_method_8_code 113 = some (.getfield 10, 116, 0, 0) ∧ dec prog_1_method_8_code 116 = some (.getfield 89, 119, 0, 0) ∧ dec prog_1_method_8_code 119 = some (.iload_n 1, 120, 1, 0) ∧ dec prog_1_method_8_code 120 = some (.invokevirtual 93, 123, 0, 0) ∧ dec prog_1_method_8_code 123 = some (.ireturn, 124, 0, 0) ∧ dec prog_1_method_8_code 124 = some (.aload_n 0, 125, 0, 0) ∧ dec prog_1_method_8_code 125 = some (.getfield 10, 128, 0, 0) ∧ dec prog_1_method_8_code 128 = some (.getfield 66, 131, 0, 0) ∧ dec prog_1_method_8_code 131 = some (.getfield 98, 134, 0, 0) ∧ dec prog_1_method_8_code 134 = some (.iload_n 1, 135, 1, 0) ∧ dec prog_1_method_8_code 135 = some (.iaload, 136, 0, 0) ∧ dec prog_1_method_8_code 136 = some (.ireturn, 137, 0, 0) ∧ dec prog_1_method_8_code 137 = some (.bipush (-2), 139, 0, (-2)) ∧ dec prog_1_method_8_code 139 = some (.ireturn, 140, 0, 0) := ⟨e_69_0, e_69_1, e_69_4, e_69_5, e_69_6, e_69_9, e_69_12, e_69_15, e_69_18, e_69_19, e_69_20, e_69_21, e_69_60, e_69_61, e_69_64, e_69_67, e_69_70, e_69_71, e_69_72, e_69_73, e_69_74, e_69_77, e_69_80, e_69_83, e_69_84, e_69_85, e_69_86, e_69_87, e_69_90, e_69_93, e_69_96, e_69_97, e_69_98, e_69_99, e_69_100, e_69_103, e_69_106, e_69_109, e_69_110, e_69_111, e_69_112, e_69_113, e_69_116, e_69_119, e_69_120, e_69_123, e_69_124, e_69_125, e_69_128, e_69_131, e_69_134, e_69_135, e_69_136, e_69_137, e_69_139⟩
theorem e_70_0 : dec prog_1_method_9_code 0 = some (.iload_n 1, 1, 1, 0) := by decide +kernel
theorem e_70_1 : dec prog_1_method_9_code 1 = some (.invokestatic 101, 4, 0, 0) := by decide +kernel
theorem e_70_4 : dec prog_1_method_9_code 4 = some (.ifCond .eq 18, 7, 22, 0) := by decide +kernel
theorem e_70_7 : dec prog_1_method_9_code 7 = some (.aload_n 0, 8, 0, 0) := by decide +kernel
theorem e_70_8 : dec prog_1_method_9_code 8 = some (.getfield 10, 11, 0, 0) := by decide +kernel
theorem e_70_11 : dec prog_1_method_9_code 11 = some (.getfield 89, 14, 0, 0) := by decide +kernel
theorem e_70_14 : dec prog_1_method_9_code 14 = some (.iload_n 1, 15, 1, 0) := by decide +kernel
theorem e_70_15 : dec prog_1_method_9_code 15 = some (.iload_n 2, 16, 2, 0) := by decide +kernel
theorem e_70_16 : dec prog_1_method_9_code 16 = some (.invokevirtual 105, 19, 0, 0) := by decide +kernel
theorem e_70_19 : dec prog_1_method_9_code 19 = some (.goto 4, 22, 23, 0) := by decide +kernel
theorem e_70_22 : dec prog_1_method_9_code 22 = some (.iconst (-1), 23, 0, (-1)) := by decide +kernel
theorem e_70_23 : dec prog_1_method_9_code 23 = some (.ireturn, 24, 0, 0) := by decide +kernel
theorem E_70 : dec prog_1_method_9_code 0 = some (.iload_n 1, 1, 1, 0) ∧ dec prog_1_method_9_code 1 = some (.invokestatic 101, 4, 0, 0) ∧ dec prog_1_method_9_code 4 = some (.ifCond .eq 18, 7, 22, 0) ∧ dec prog_1_method_9_code 7 = some (.aload_n 0, 8, 0, 0) ∧ dec prog_1_method_9_code 8 = some (.getfield 10, 11, 0, 0) ∧ dec prog_1_method_9_code 11 = some (.getfield 89, 14, 0, 0) ∧ dec prog_1_method_9_code 14 = some (.iload_n 1, 15, 1, 0) ∧ dec prog_1_method_9_code 15 = some (.iload_n 2, 16, 2, 0) ∧ dec prog_1_method_9_code 16 = some (.invokevirtual 105, 19, 0, 0) ∧ dec prog_1_method_9_code 19 = some (.goto 4, 22, 23, 0) ∧ dec prog_1_method_9_code 22 = some (.iconst (-1), 23, 0, (-1)) ∧ dec prog_1_method_9_code 23 = some (.ireturn, 24, 0, 0) := ⟨e_70_0, e_70_1, e_70_4, e_70_7, e_70_8, e_70_11, e_70_14, e_70_15, e_70_16, e_70_19, e_70_22, e_70_23⟩
theorem e_71_0 : dec prog_1_method_10_code 0 = some (.iload_n 1, 1, 1, 0) := by decide +kernel
theorem e_71_1 : dec prog_1_method_10_code 1 = some (.ifCond .lt 17, 4, 18, 0) := by decide +kernel
theorem e_71_4 : dec prog_1_method_10_code 4 = some (.iload_n 1, 5, 1, 0) := by decide +kernel
theorem e_71_5 : dec prog_1_method_10_code 5 = some (.aload_n 0, 6, 0, 0) := by decide +kernel
theorem e_71_6 : dec prog_1_method_10_code 6 = some (.getfield 10, 9, 0, 0) := by decide +kernel
theorem e_71_9 : dec prog_1_method_10_code 9 = some (.getfield 108, 12, 0, 0) := by decide +kernel
theorem e_71_12 : dec prog_1_method_10_code 12 = some (.getfield 112, 15, 0, 0) := by decide +kernel
theorem e_71_15 : dec prog_1_method_10_code 15 = some (.if_icmp .lt 5, 18, 20, 0) := by decide +kernel
theorem e_71_18 : dec prog_1_method_10_code 18 = some (.iconst (-1), 19, 0, (-1)) := by decide +kernel
theorem e_71_19 : dec prog_1_method_10_code 19 = some (.ireturn, 20, 0, 0) := by decide +kernel
theorem e_71_20 : dec prog_1_method_10_code 20 = some (.iload_n 2, 21, 2, 0) := by decide +kernel
theorem e_71_21 : dec prog_1_method_10_code 21 = some (.ifCond .lt 8, 24, 29, 0) := by decide +kernel
theorem e_71_24 : dec prog_1_method_10_code 24 = some (.iload_n 2, 25, 2, 0) := by decide +kernel
theorem e_71_25 : dec prog_1_method_10_code 25 = some (.iconst 4, 26, 0, 4) := by decide +kernel
theorem e_71_26 : dec prog_1_method_10_code 26 = some (.if_icmp .lt 6, 29, 32, 0) := by decide +kernel
theorem e_71_29 : dec prog_1_method_10_code 29 = some (.bipush (-2), 31, 0, (-2)) := by decide +kernel
theorem e_71_31 : dec prog_1_method_10_code 31 = some (.ireturn, 32, 0, 0) := by decide +kernel
theorem e_71_32 : dec prog_1_method_10_code 32 = some (.aload_n 0, 33, 0, 0) := by decide +kernel
theorem e_71_33 : dec prog_1_method_10_code 33 = some (.getfield 10, 36, 0, 0) := by decide +kernel
theorem e_71_36 : dec prog_1_method_10_code 36 = some (.getfield 108, 39, 0, 0) := by decide +kernel
theorem e_71_39 : dec prog_1_method_10_code 39 = some (.iload_n 1, 40, 1, 0) := by decide +kernel
theorem e_71_40 : dec prog_1_method_10_code 40 = some (.iload_n 2, 41, 2, 0) := by decide +kernel
theorem e_71_41 : dec prog_1_method_10_code 41 = some (.invokevirtual 117, 44, 0, 0) := by decide +kernel
theorem e_71_44 : dec prog_1_method_10_code 44 = some (.ireturn, 45, 0, 0) := by decide +kernel
theorem E_71 : dec prog_1_method_10_code 0 = some (.iload_n 1, 1, 1, 0) ∧ dec prog_1_method_10_code 1 = some (.ifCond .lt 17, 4, 18, 0) ∧ dec prog_1_method_10_code 4 = some (.iload_n 1, 5, 1, 0) ∧ dec prog_1_method_10_code 5 = some (.aload_n 0, 6, 0, 0) ∧ dec prog_1_method_10_code 6 = some (.getfield 10, 9, 0, 0) ∧ dec prog_1_method_10_code 9 = some (.getfield 108, 12, 0, 0) ∧ dec prog_1_method_10_code 12 = some (.getfield 112, 15, 0, 0) ∧ dec prog_1_method_10_code 15 = some (.if_icmp .lt 5, 18, 20, 0) ∧ dec prog_1_method_10_code 18 = some (.iconst (-1), 19, 0, (-1)) ∧ dec prog_1_method_10_code 19 = some (.ireturn, 20, 0, 0) ∧ dec prog_1_method_10_code 20 = some (.iload_n 2, 21, 2, 0) ∧ dec prog_1_method_10_code 21 = some (.ifCond .lt 8, 24, 29, 0) ∧ dec prog_1_method_10_code 24 = some (.iload_n 2, 25, 2, 0) ∧ dec prog_1_method_10_code 25 = some (.iconst 4, 26, 0, 4) ∧ dec prog_1_method_10_code 26 = some (.if_icmp .lt 6, 29, 32, 0) ∧ dec prog_1_method_10_code 29 = some (.bipush (-2), 31, 0, (-2)) ∧ dec prog_1_method_10_code 31 = some (.ireturn, 32, 0, 0) ∧ dec prog_1_method_10_code 32 = some (.aload_n 0, 33, 0, 0) ∧ dec prog_1_method_10_code 33 = some (.getfield 10, 36, 0, 0) ∧ dec prog_1_method_10_code 36 = some (.getfield 108, 39, 0, 0) ∧ dec prog_1_method_10_code 39 = some (.iload_n 1, 40, 1, 0) ∧ dec prog_1_method_10_code 40 = some (.iload_n 2, 41, 2, 0) ∧ dec prog_1_method_10_code 41 = some (.invokevirtual 117, 44, 0, 0) ∧ dec prog_1_method_10_code 44 = some (.ireturn, 45, 0, 0) := ⟨e_71_0, e_71_1, e_71_4, e_71_5, e_71_6, e_71_9, e_71_12, e_71_15, e_71_18, e_71_19, e_71_20, e_71_21, e_71_24, e_71_25, e_71_26, e_71_29, e_71_31, e_71_32, e_71_33, e_71_36, e_71_39, e_71_40, e_71_41, e_71_44⟩
theorem e_72_0 : dec prog_1_method_11_code 0 = some (.aload_n 0, 1, 0, 0) := by decide +kernel
theorem e_72_1 : dec prog_1_method_11_code 1 = some (.getfield 10, 4, 0, 0) := by decide +kernel
theorem e_72_4 : dec prog_1_method_11_code 4 = some (.getfield 66, 7, 0, 0) := by decide +kernel
theorem e_72_7 : dec prog_1_method_11_code 7 = some (.iload_n 1, 8, 1, 0) := by decide +kernel
theorem e_72_8 : dec prog_1_method_11_code 8 = some (.invokevirtual 120, 11, 0, 0) := by decide +kernel
theorem e_72_11 : dec prog_1_method_11_code 11 = some (.ireturn, 12, 0, 0) := by decide +kernel
theorem E_72 : dec prog_1_method_11_code 0 = some (.aload_n 0, 1, 0, 0) ∧ dec prog_1_method_11_code 1 = some (.getfield 10, 4, 0, 0) ∧ dec prog_1_method_11_code 4 = some (.getfield 66, 7, 0, 0) ∧ dec prog_1_method_11_code 7 = some (.iload_n 1, 8, 1, 0) ∧ dec prog_1_method_11_code 8 = some (.invokevirtual 120, 11, 0, 0) ∧ dec prog_1_method_11_code 11 = some (.ireturn, 12, 0, 0) := ⟨e_72_0, e_72_1, e_72_4, e_72_7, e_72_8, e_72_11⟩
theorem e_73_0 : dec prog_1_method_12_code 0 = some (.iload_n 1, 1, 1, 0) := by decide +kernel
theorem e_73_1 : dec prog_1_method_12_code 1 = some (.ifCond .ge 8, 4, 9, 0) := by decide +kernel
theorem e_73_4 : dec prog_1_method_12_code 4 = some (.bipush (-2), 6, 0, (-2)) := by decide +kernel
theorem e_73_6 : dec prog_1_method_12_code 6 = some (.goto 14, 9, 20, 0) := by decide +kernel
theorem e_73_9 : dec prog_1_method_12_code 9 = some (.aload_n 0, 10, 0, 0) := by decide +kernel
theorem e_73_10 : dec prog_1_method_12_code 10 = some (.getfield 10, 13, 0, 0) := by decide +kernel
theorem e_73_13 : dec prog_1_method_12_code 13 = some (.getfield 66, 16, 0, 0) := by decide +kernel
theorem e_73_16 : dec prog_1_method_12_code 16 = some (.iload_n 1, 17, 1, 0) := by decide +kernel
theorem e_73_17 : dec prog_1_method_12_code 17 = some (.invokevirtual 123, 20, 0, 0) := by decide +kernel
theorem e_73_20 : dec prog_1_method_12_code 20 = some (.ireturn, 21, 0, 0) := by decide +kernel
theorem E_73 : dec prog_1_method_12_code 0 = some (.iload_n 1, 1, 1, 0) ∧ dec prog_1_method_12_code 1 = some (.ifCond .ge 8, 4, 9, 0) ∧ dec prog_1_method_12_code 4 = some (.bipush (-2), 6, 0, (-2)) ∧ dec prog_1_method_12_code 6 = some (.goto 14, 9, 20, 0) ∧ dec prog_1_method_12_code 9 = some (.aload_n 0, 10, 0, 0) ∧ dec prog_1_method_12_code 10 = some (.getfield 10, 13, 0, 0) ∧ dec prog_1_method_12_code 13 = some (.getfield 66, 16, 0, 0) ∧ dec prog_1_method_12_code 16 = some (.iload_n 1, 17, 1, 0) ∧ dec prog_1_method_12_code 17 = some (.invokevirtual 123, 20, 0, 0) ∧ dec prog_1_method_12_code 20 = some (.ireturn, 21, 0, 0) := ⟨e_73_0, e_73_1, e_73_4, e_73_6, e_73_9, e_73_10, e_73_13, e_73_16, e_73_17, e_73_20⟩
theorem e_74_0 : dec prog_1_method_13_code 0 = some (.iload_n 1, 1, 1, 0) := by decide +kernel
theorem e_74_1 : dec prog_1_method_13_code 1 = some (.bipush 12, 3, 0, 12) := by decide +kernel
theorem e_74_3 : dec prog_1_method_13_code 3 = some (.if_icmp .lt 22, 6, 25, 0) := by decide +kernel
theorem e_74_6 : dec prog_1_method_13_code 6 = some (.iload_n 1, 7, 1, 0) := by decide +kernel
theorem e_74_7 : dec prog_1_method_13_code 7 = some (.bipush 18, 9, 0, 18) := by decide +kernel
theorem e_74_9 : dec prog_1_method_13_code 9 = some (.if_icmp .ge 16, 12, 25, 0) := by decide +kernel
theorem e_74_12 : dec prog_1_method_13_code 12 = some (.aload_n 0, 13, 0, 0) := by decide +kernel
theorem e_74_13 : dec prog_1_method_13_code 13 = some (.getfield 10, 16, 0, 0) := by decide +kernel
theorem e_74_16 : dec prog_1_method_13_code 16 = some (.getfield 126, 19, 0, 0) := by decide +kernel
theorem e_74_19 : dec prog_1_method_13_code 19 = some (.iload_n 1, 20, 1, 0) := by decide +kernel
theorem e_74_20 : dec prog_1_method_13_code 20 = some (.bipush 12, 22, 0, 12) := by decide +kernel
theorem e_74_22 : dec prog_1_method_13_code 22 = some (.isub, 23, 0, 0) := by decide +kernel
theorem e_74_23 : dec prog_1_method_13_code 23 = some (.iaload, 24, 0, 0) := by decide +kernel
theorem e_74_24 : dec prog_1_method_13_code 24 = some (.ireturn, 25, 0, 0) := by decide +kernel
theorem e_74_25 : dec prog_1_method_13_code 25 = some (.iload_n 1, 26, 1, 0) := by decide +kernel
theorem e_74_26 : dec prog_1_method_13_code 26 = some (.tableswitch 227 0 19 #[94, 102, 110, 118, 126, 134, 149, 157, 168, 180, 192, 203, 227, 227, 227, 227, 227, 227, 211, 219], 120, 0, 0) := by decide +kernel
theorem e_74_120 : dec prog_1_method_13_code 120 = some (.aload_n 0, 121, 0, 0) := by decide +kernel
theorem e_74_121 : dec prog_1_method_13_code 121 = some (.getfield 10, 124, 0, 0) := by decide +kernel
theorem e_74_124 : dec prog_1_method_13_code 124 = some (.getfield 129, 127, 0, 0) := by decide +kernel
theorem e_74_127 : dec prog_1_method_13_code 127 = some (.ireturn, 128, 0, 0) := by decide +kernel
theorem e_74_128 : dec prog_1_method_13_code 128 = some (.aload_n 0, 129, 0, 0) := by decide +kernel
theorem e_74_129 : dec prog_1_method_13_code 129 = some (.getfield 10, 132, 0, 0) := by decide +kernel
theorem e_74_132 : dec prog_1_method_13_code 132 = some (.getfield 132, 135, 0, 0) := by decide +kernel
theorem e_74_135 : dec prog_1_method_13_code 135 = some (.ireturn, 136, 0, 0) := by decide +kernel
theorem e_74_136 : dec prog_1_method_13_code 136 = some (.aload_n 0, 137, 0, 0) := by decide +kernel
theorem e_74_137 : dec prog_1_method_13_code 137 = some (.getfield 10, 140, 0, 0) := by decide +kernel
theorem e_74_140 : dec prog_1_method_13_code 140 = some (.getfield 135, 143, 0, 0) := by decide +kernel
theorem e_74_143 : dec prog_1_method_13_code 143 = some (.ireturn, 144, 0, 0) := by decide +kernel
theorem e_74_144 : dec prog_1_method_13_code 144 = some (.aload_n 0, 145, 0, 0) := by decide +kernel
theorem e_74_145 : dec prog_1_method_13_code 145 = some (.getfield 10, 148, 0, 0) := by decide +kernel
theorem e_74_148 : dec prog_1_method_13_code 148 = some (.getfield 138, 151, 0, 0) := by decide +kernel
theorem e_74_151 : dec prog_1_method_13_code 151 = some (.ireturn, 152, 0, 0) := by decide +kernel
theorem e_74_152 : dec prog_1_method_13_code 152 = some (.aload_n 0, 153, 0, 0) := by decide +kernel
theorem e_74_153 : dec prog_1_method_13_code 153 = some (.getfield 10, 156, 0, 0) := by decide +kernel
theorem e_74_156 : dec prog_1_method_13_code 156 = some (.getfield 141, 159, 0, 0) := by decide +kernel
theorem e_74_159 : dec prog_1_method_13_code 159 = some (.ireturn, 160, 0, 0) := by decide +kernel
theorem e_74_160 : dec prog_1_method_13_code 160 = some (.aload_n 0, 161, 0, 0) := by decide +kernel
theorem e_74_161 : dec prog_1_method_13_code 161 = some (.getfield 10, 164, 0, 0) := by decide +kernel
theorem e_74_164 : dec prog_1_method_13_code 164 = some (.getfield 66, 167, 0, 0) := by decide +kernel
theorem e_74_167 : dec prog_1_method_13_code 167 = some (.iconst 2, 168, 0, 2) := by decide +kernel
theorem e_74_168 : dec prog_1_method_13_code 168 = some (.invokevirtual 144, 171, 0, 0) := by decide +kernel
theorem e_74_171 : dec prog_1_method_13_code 171 = some (.invokestatic 147, 174, 0, 0) := by decide +kernel
theorem e_74_174 : dec prog_1_method_13_code 174 = some (.ireturn, 175, 0, 0) := by decide +kernel
theorem e_74_175 : dec prog_1_method_13_code 175 = some (.aload_n 0, 176, 0, 0) := by decide +kernel
theorem e_74_176 : dec prog_1_method_13_code 176 = some (.getfield 10, 179, 0, 0) := by decide +kernel
theorem e_74_179 : dec prog_1_method_13_code 179 = some (.getfield 152, 182, 0, 0) := by decide +kernel
theorem e_74_182 : dec prog_1_method_13_code 182 = some (.ireturn, 183, 0, 0) := by decide +kernel
theorem e_74_183 : dec prog_1_method_13_code 183 = some (.aload_n 0, 184, 0, 0) := by decide +kernel
theorem e_74_184 : dec prog_1_method_13_code 184 = some (.getfield 10, 187, 0, 0) := by decide +kernel
theorem e_74_187 : dec prog_1_method_13_code 187 = some (.getfield 66, 190, 0, 0) := by decide +kernel
theorem e_74_190 : dec prog_1_method_13_code 190 = some (.invokevirtual 155, 193, 0, 0) := by decide +kernel
theorem e_74_193 : dec prog_1_method_13_code 193 = some (.ireturn, 194, 0, 0) := by decide +kernel
theorem e_74_194 : dec prog_1_method_13_code 194 = some (.aload_n 0, 195, 0, 0) := by decide +kernel
theorem e_74_195 : dec prog_1_method_13_code 195 = some (.getfield 10, 198, 0, 0) := by decide +kernel
theorem e_74_198 : dec prog_1_method_13_code 198 = some (.getfield 66, 201, 0, 0) := by decide +kernel
theorem e_74_201 : dec prog_1_method_13_code 201 = some (.iconst 0, 202, 0, 0) := by decide +kernel
theorem e_74_202 : dec prog_1_method_13_code 202 = some (.invokevirtual 144, 205, 0, 0) := by decide +kernel
theorem e_74_205 : dec prog_1_method_13_code 205 = some (.ireturn, 206, 0, 0) := by decide +kernel
theorem e_74_206 : dec prog_1_method_13_code 206 = some (.aload_n 0, 207, 0, 0) := by decide +kernel
theorem e_74_207 : dec prog_1_method_13_code 207 = some (.getfield 10, 210, 0, 0) := by decide +kernel
theorem e_74_210 : dec prog_1_method_13_code 210 = some (.getfield 66, 213, 0, 0) := by decide +kernel
theorem e_74_213 : dec prog_1_method_13_code 213 = some (.iconst 1, 214, 0, 1) := by decide +kernel
theorem e_74_214 : dec prog_1_method_13_code 214 = some (.invokevirtual 144, 217, 0, 0) := by decide +kernel
theorem e_74_217 : dec prog_1_method_13_code 217 = some (.ireturn, 218, 0, 0) := by decide +kernel
theorem e_74_218 : dec prog_1_method_13_code 218 = some (.aload_n 0, 219, 0, 0) := by decide +kernel
theorem e_74_219 : dec prog_1_method_13_code 219 = some (.getfield 10, 222, 0, 0) := by decide +kernel
theorem e_74_222 : dec prog_1_method_13_code 222 = some (.getfield 89, 225, 0, 0) := by decide +kernel
theorem e_74_225 : dec prog_1_method_13_code 225 = some (.invokevirtual 159, 228, 0, 0) := by decide +kernel
theorem e_74_228 : dec prog_1_method_13_code 228 = some (.ireturn, 229, 0, 0) := by decide +kernel
theorem e_74_229 : dec prog_1_method_13_code 229 = some (.aload_n 0, 230, 0, 0) := by decide +kernel
theorem e_74_230 : dec prog_1_method_13_code 230 = some (.getfield 10, 233, 0, 0) := by decide +kernel
theorem e_74_233 : dec prog_1_method_13_code 233 = some (.getfield 162, 236, 0, 0) := by decide +kernel
theorem e_74_236 : dec prog_1_method_13_code 236 = some (.ireturn, 237, 0, 0) := by decide +kernel
theorem e_74_237 : dec prog_1_method_13_code 237 = some (.aload_n 0, 238, 0, 0) := by decide +kernel
theorem e_74_238 : dec prog_1_method_13_code 238 = some (.getfield 34, 241, 0, 0) := by decide +kernel
theorem e_74_241 : dec prog_1_method_13_code 241 = some (.getfield 165, 244, 0, 0) := by decide +kernel
theorem e_74_244 : dec prog_1_method_13_code 244 = some (.ireturn, 245, 0, 0) := by decide +kernel
theorem e_74_245 : dec prog_1_method_13_code 245 = some (.aload_n 0, 246, 0, 0) := by decide +kernel
theorem e_74_246 : dec prog_1_method_13_code 246 = some (.getfield 27, 249, 0, 0) := by decide +kernel
theorem e_74_249 : dec prog_1_method_13_code 249 = some (.getfield 168, 252, 0, 0) := by decide +kernel
theorem e_74_252 : dec prog_1_method_13_code 252 = some (.ireturn, 253, 0, 0) := by decide +kernel
theorem e_74_253 : dec prog_1_method_13_code 253 = some (.bipush (-2), 255, 0, (-2)) := by decide +kernel
theorem e_74_255 : dec prog_1_method_13_code 255 = some (.ireturn, 256, 0, 0) := by decide +kernel
theorem E_74 : dec prog_1_method_13_code 0 = some (.iload_n 1, 1, 1, 0) ∧ dec prog_1_method_13_code 1 = some (.bipush 12, 3, 0, 12) ∧ dec prog_1_method_13_code 3 = some (.if_icmp .lt 22, 6, 25, 0) ∧ dec prog_1_method_13_code 6 = some (.iload_n 1, 7, 1, 0) ∧ dec prog_1_method_13_code 7 = some (.bipush 18, 9, 0, 18) ∧ dec prog_1_method_13_code 9 = some (.if_icmp .ge 16, 12, 25, 0) ∧ dec prog_1_method_13_code 12 = some (.aload_n 0, 13, 0, 0) ∧ dec prog_1_method_13_code 13 = some (.getfield 10, 16, 0, 0) ∧ dec prog_1_method_13_code 16 = some (.getfield 126, 19, 0, 0) ∧ dec prog_1_method_13_code 19 = some (.iload_n 1, 20, 1, 0) ∧ dec prog_1_method_13_code 20 = some (.bipush 12, 22, 0, 12) ∧ dec prog_1_method_13_code 22 = some (.isub, 23, 0, 0) ∧ dec prog_1_method_13_code 23 = some (.iaload, 24, 0, 0) ∧ dec prog_1_method_13_code 24 = some (.ireturn, 25, 0, 0) ∧ dec prog_1_method_13_code 25 = some (.iload_n 1, 26, 1, 0) ∧ dec prog_1_method_13_code 26 = some (.tableswitch 227 0 19 #[94, 102, 110, 118, 126, 134, 149, 157, 168, 180, 192, 203, 227, 227, 227, 227, 227, 227, 211, 219], 120, 0, 0) ∧ dec prog_1_method_13_code 120 = some (.aload_n 0, 121, 0, 0) ∧ dec prog_1_method_13_code 121 = some (.getfield 10, 124, 0, 0) ∧ dec prog_1_method_13_code 124 = some (.getfield 129, 127, 0, 0) ∧ dec prog_1_method_13_code 127 = some (.ireturn, 128, 0, 0) ∧ dec prog_1_method_13_code 128 = some (.aload_n 0, 129, 0, 0) ∧ dec prog_1_method_13_code 129 = some (.getfield 10, 132, 0, 0) ∧ dec prog_1_method_13_code 132 = some (.getfield 132, 135, 0, 0) ∧ dec prog_1_method_13_code 135 = some (.ireturn, 136, 0, 0) ∧ dec prog_1_method_13_code 136 = some (.aload_n 0, 137, 0, 0) ∧ dec prog_1_method_13_code 137 = some (.getfield 10, 140, 0, 0) ∧ dec prog_1_method_13_code 140 = some (.getfield 135, 143, 0, 0) ∧ dec prog_1_method_13_code 143 = some (.ireturn, 144, 0, 0) ∧ dec prog_1_method_13_code 144 = some (.aload_n 0, 145, 0, 0) ∧ dec prog_1_method_13_code 145 = some (.getfield 10, 148, 0, 0) ∧ dec prog_1_method_13_code 148 = some (.getfield 138, 151, 0, 0) ∧ dec prog_1_method_13_code 151 = some (.ireturn, 152, 0, 0) ∧ dec prog_1_method_13_code 152 = some (.aload_n 0, 153, 0, 0) ∧ dec prog_1_method_13_code 153 = some (.getfield 10, 156, 0, 0) ∧ dec prog_1_method_13_code 156 = some (.getfield 141, 159, 0, 0) ∧ dec prog_1_method_13_code 159 = some (.ireturn, 160, 0, 0) ∧ dec prog_1_method_13_code 160 = some (.aload_n 0, 161, 0, 0) ∧ dec prog_1_method_13_code 161 = some (.getfield 10, 164, 0, 0) ∧ dec prog_1_method_13_code 164 = some (.getfield 66, 167, 0, 0) ∧ dec prog_1_method_13_code 167 = some (.iconst 2, 168, 0, 2) ∧ dec prog_1_method_13_code 168 = some (.invokevirtual 144, 171, 0, 0) ∧ dec prog_1_method_13_code 171 = some (.invokestatic 147, 174, 0, 0) ∧ dec prog_1_method_13_code 174 = some (.ireturn, 175, 0, 0) ∧ dec prog_1_method_13_code 175 = some (.aload_n 0, 176, 0, 0) ∧ dec prog_1_method_13_code 176 = some (.getfield 10, 179, 0, 0) ∧ dec prog_1_method_13_code 179 = some (.getfield 152, 182, 0, 0) ∧ dec prog_1_method_13_code 182 = some (.ireturn, 183, 0, 0) ∧ dec prog_1_method_13_code 183 = some (.aload_n 0, 184, 0, 0) ∧ dec prog_1_method_13_code 184 = some (.getfield 10, 187, 0, 0) ∧ dec prog_1_method_13_code 187 = some (.getfield 66, 190, 0, 0) ∧ dec prog_1_method_13_code 190 = some (.invokevirtual 155, 193, 0, 0) ∧ dec prog_1_method_13_code 193 = some (.ireturn, 194, 0, 0) ∧ dec prog_1_method_13_code 194 = some (.aload_n 0, 195, 0, 0) ∧ dec prog_1_method_13_code 195 = some (.getfield 10, 198, 0, 0) ∧ dec prog_1_method_13_code 198 = some (.getfield 66, 201, 0, 0) ∧ dec prog_1_method_13_code 201 = some (.iconst 0, 202, 0, 0) ∧ dec prog_1_method_13_code 202 = some (.invokevirtual 144, 205, 0, 0) ∧ dec prog_1_method_13_code 205 = some (.ireturn, 206, 0, 0) ∧ dec prog_1_method_13_code 206 = some (.aload_n 0, 207, 0, 0) ∧ dec prog_1_method_13_code 207 = some (.getfield 10, 210, 0, 0) ∧ dec prog_1_method_13_code 210 = some (.getfield 66, 213, 0, 0) ∧ dec prog_1_method_13_code 213 = some (.iconst 1, 214, 0, 1) ∧ dec prog_1_method_13_code 214 = some (.invokevirtual 144, 217, 0, 0) ∧ dec prog_1_method_13_code 217 = some (.ireturn, 218, 0, 0) ∧ dec prog_1_method_13_code 218 = some (.aload_n 0, 219, 0, 0) ∧ dec prog_1_method_13_code 219 = some (.getfield 10, 222, 0, 0) ∧ dec prog_1_method_13_code 222 = some (.getfield 89, 225, 0, 0) ∧ dec prog_1_method_13_code 225 = some (.invokevirtual 159, 228, 0, 0) ∧ dec prog_1_method_13_code 228 = some (.ireturn, 229, 0, 0) ∧ dec prog_1_method_13_code 229 = some (.aload_n 0, 230, 0, 0) ∧ dec prog_1_method_13_code 230 = some (.getfield 10, 233, 0, 0) ∧ dec prog_1_method_13_code 233 = some (.getfield 162, 236, 0, 0) ∧ dec prog_1_method_13_code 236 = some (.ireturn, 237, 0, 0) ∧ dec prog_1_method_13_code 237 = some (.aload_n 0, 238, 0, 0) ∧ dec prog_1_method_13_code 238 = some (.getfield 34, 241, 0, 0) ∧ dec prog_1_method_13_code 241 = some (.getfield 165, 244, 0, 0) ∧ dec prog_1_method_13_code 244 = some (.ireturn, 245, 0, 0) ∧ dec prog_1_method_13_code 245 = some (.aload_n 0, 246, 0, 0) ∧ dec prog_1_method_13_code 246 = some (.getfield 27, 249, 0, 0) ∧ dec prog_1_method_13_code 249 = some (.getfield 168, 252, 0, 0) ∧ dec prog_1_method_13_code 252 = some (.ireturn, 253, 0, 0) ∧ dec prog_1_method_13_code 253 = some (.bipush (-2), 255, 0, (-2)) ∧ dec prog_1_method_13_code 255 = some (.ireturn, 256, 0, 0) := ⟨e_74_0, e_74_1, e_74_3, e_74_6, e_74_7, e_74_9, e_74_12, e_74_13, e_74_16, e_74_19, e_74_20, e_74_22, e_74_23, e_74_24, e_74_25, e_74_26, e_74_120, e_74_121, e_74_124, e_74_127, e_74_128, e_74_129, e_74_132, e_74_135, e_74_136, e_74_137, e_74_140, e_74_143, e_74_144, e_74_145, e_74_148, e_74_151, e_74_152, e_74_153, e_74_156, e_74_159, e_74_160, e_74_161, e_74_164, e_74_167, e_74_168, e_74_171, e_74_174, e_74_175, e_74_176, e_74_179, e_74_182, e_74_183, e_74_184, e_74_187, e_74_190, e_74_193, e_74_194, e_74_195, e_74_198, e_74_201, e_74_202, e_74_205, e_74_206, e_74_207, e_74_210, e_74_213, e_74_214, e_74_217, e_74_218, e_74_219, e_74_222, e_74_225, e_74_228, e_74_229, e_74_230, e_74_233, e_74_236, e_74_237, e_74_238, e_74_241, e_74_244, e_74_245, e_74_246, e_74_249, e_74_252, e_74_253, e_74_255⟩
theorem e_75_0 : dec prog_1_method_14_code 0 = some (.iload_n 1, 1, 1, 0) := by decide +kernel
theorem e_75_1 : dec prog_1_method_14_code 1 = some (.iload_n 2, 2, 2, 0) := by decide +kernel
theorem e_75_2 : dec prog_1_method_14_code 2 = some (.invokestatic 169, 5, 0, 0) := by decide +kernel
theorem e_75_5 : dec prog_1_method_14_code 5 = some (.istore_n 3, 6, 3, 0) := by decide +kernel
theorem e_75_6 : dec prog_1_method_14_code 6 = some (.iload_n 3, 7, 3, 0) := by decide +kernel
theorem e_75_7 : dec prog_1_method_14_code 7 = some (.ifCond .ge 7, 10, 14, 0) := by decide +kernel
theorem e_75_10 : dec prog_1_method_14_code 10 = some (.iload_n 3, 11, 3, 0) := by decide +kernel
theorem e_75_11 : dec prog_1_method_14_code 11 = some (.goto 12, 14, 23, 0) := by decide +kernel
theorem e_75_14 : dec prog_1_method_14_code 14 = some (.aload_n 0, 15, 0, 0) := by decide +kernel
theorem e_75_15 : dec prog_1_method_14_code 15 = some (.getfield 10, 18, 0, 0) := by decide +kernel
theorem e_75_18 : dec prog_1_method_14_code 18 = some (.iload_n 1, 19, 1, 0) := by decide +kernel
theorem e_75_19 : dec prog_1_method_14_code 19 = some (.iload_n 2, 20, 2, 0) := by decide +kernel
theorem e_75_20 : dec prog_1_method_14_code 20 = some (.invokevirtual 172, 23, 0, 0) := by decide +kernel
theorem e_75_23 : dec prog_1_method_14_code 23 = some (.ireturn, 24, 0, 0) := by decide +kernel
theorem E_75 : dec prog_1_method_14_code 0 = some (.iload_n 1, 1, 1, 0) ∧ dec prog_1_method_14_code 1 = some (.iload_n 2, 2, 2, 0) ∧ dec prog_1_method_14_code 2 = some (.invokestatic 169, 5, 0, 0) ∧ dec prog_1_method_14_code 5 = some (.istore_n 3, 6, 3, 0) ∧ dec prog_1_method_14_code 6 = some (.iload_n 3, 7, 3, 0) ∧ dec prog_1_method_14_code 7 = some (.ifCond .ge 7, 10, 14, 0) ∧ dec prog_1_method_14_code 10 = some (.iload_n 3, 11, 3, 0) ∧ dec prog_1_method_14_code 11 = some (.goto 12, 14, 23, 0) ∧ dec prog_1_method_14_code 14 = some (.aload_n 0, 15, 0, 0) ∧ dec prog_1_method_14_code 15 = some (.getfield 10, 18, 0, 0) ∧ dec prog_1_method_14_code 18 = some (.iload_n 1, 19, 1, 0) ∧ dec prog_1_method_14_code 19 = some (.iload_n 2, 20, 2, 0) ∧ dec prog_1_method_14_code 20 = some (.invokevirtual 172, 23, 0, 0) ∧ dec prog_1_method_14_code 23 = some (.ireturn, 24, 0, 0) := ⟨e_75_0, e_75_1, e_75_2, e_75_5, e_75_6, e_75_7, e_75_10, e_75_11, e_75_14, e_75_15, e_75_18, e_75_19, e_75_20, e_75_23⟩
theorem e_76_0 : dec prog_1_method_15_code 0 = some (.iload_n 1, 1, 1, 0) := by decide +kernel
theorem e_76_1 : dec prog_1_method_15_code 1 = some (.iload_n 2, 2, 2, 0) := by decide +kernel
theorem e_76_2 : dec prog_1_method_15_code 2 = some (.invokestatic 169, 5, 0, 0) := by decide +kernel
theorem e_76_5 : dec prog_1_method_15_code 5 = some (.istore_n 3, 6, 3, 0) := by decide +kernel
theorem e_76_6 : dec prog_1_method_15_code 6 = some (.iload_n 3, 7, 3, 0) := by decide +kernel
theorem e_76_7 : dec prog_1_method_15_code 7 = some (.ifCond .ge 5, 10, 12, 0) := by decide +kernel
theorem e_76_10 : dec prog_1_method_15_code 10 = some (.iload_n 3, 11, 3, 0) := by decide +kernel
theorem e_76_11 : dec prog_1_method_15_code 11 = some (.ireturn, 12, 0, 0) := by decide +kernel
theorem e_76_12 : dec prog_1_method_15_code 12 = some (.aload_n 0, 13, 0, 0) := by decide +kernel
theorem e_76_13 : dec prog_1_method_15_code 13 = some (.getfield 10, 16, 0, 0) := by decide +kernel
theorem e_76_16 : dec prog_1_method_15_code 16 = some (.getfield 89, 19, 0, 0) := by decide +kernel
theorem e_76_19 : dec prog_1_method_15_code 19 = some (.iload_n 1, 20, 1, 0) := by decide +kernel
theorem e_76_20 : dec prog_1_method_15_code 20 = some (.invokevirtual 175, 23, 0, 0) := by decide +kernel
theorem e_76_23 : dec prog_1_method_15_code 23 = some (.ifCond .ge 8, 26, 31, 0) := by decide +kernel
theorem e_76_26 : dec prog_1_method_15_code 26 = some (.bipush (-6), 28, 0, (-6)) := by decide +kernel
theorem e_76_28 : dec prog_1_method_15_code 28 = some (.goto 12, 31, 40, 0) := by decide +kernel
theorem e_76_31 : dec prog_1_method_15_code 31 = some (.aload_n 0, 32, 0, 0) := by decide +kernel
theorem e_76_32 : dec prog_1_method_15_code 32 = some (.getfield 10, 35, 0, 0) := by decide +kernel
theorem e_76_35 : dec prog_1_method_15_code 35 = some (.iload_n 1, 36, 1, 0) := by decide +kernel
theorem e_76_36 : dec prog_1_method_15_code 36 = some (.iload_n 2, 37, 2, 0) := by decide +kernel
theorem e_76_37 : dec prog_1_method_15_code 37 = some (.invokevirtual 178, 40, 0, 0) := by decide +kernel
theorem e_76_40 : dec prog_1_method_15_code 40 = some (.ireturn, 41, 0, 0) := by decide +kernel
theorem E_76 : dec prog_1_method_15_code 0 = some (.iload_n 1, 1, 1, 0) ∧ dec prog_1_method_15_code 1 = some (.iload_n 2, 2, 2, 0) ∧ dec prog_1_method_15_code 2 = some (.invokestatic 169, 5, 0, 0) ∧ dec prog_1_method_15_code 5 = some (.istore_n 3, 6, 3, 0) ∧ dec prog_1_method_15_code 6 = some (.iload_n 3, 7, 3, 0) ∧ dec prog_1_method_15_code 7 = some (.ifCond .ge 5, 10, 12, 0) ∧ dec prog_1_method_15_code 10 = some (.iload_n 3, 11, 3, 0) ∧ dec prog_1_method_15_code 11 = some (.ireturn, 12, 0, 0) ∧ dec prog_1_method_15_code 12 = some (.aload_n 0, 13, 0, 0) ∧ dec prog_1_method_15_code 13 = some (.getfield 10, 16, 0, 0) ∧ dec prog_1_method_15_code 16 = some (.getfield 89, 19, 0, 0) ∧ dec prog_1_method_15_code 19 = some (.iload_n 1, 20, 1, 0) ∧ dec prog_1_method_15_code 20 = some (.invokevirtual 175, 23, 0, 0) ∧ dec prog_1_method_15_code 23 = some (.ifCond .ge 8, 26, 31, 0) ∧ dec prog_1_method_15_code 26 = some (.bipush (-6), 28, 0, (-6)) ∧ dec prog_1_method_15_code 28 = some (.goto 12, 31, 40, 0) ∧ dec prog_1_method_15_code 31 = some (.aload_n 0, 32, 0, 0) ∧ dec prog_1_method_15_code 32 = some (.getfield 10, 35, 0, 0) ∧ dec prog_1_method_15_code 35 = some (.iload_n 1, 36, 1, 0) ∧ dec prog_1_method_15_code 36 = some (.iload_n 2, 37, 2, 0) ∧ dec prog_1_method_15_code 37 = some (.invokevirtual 178, 40, 0, 0) ∧ dec prog_1_method_15_code 40 = some (.ireturn, 41, 0, 0) := ⟨e_76_0, e_76_1, e_76_2, e_76_5, e_76_6, e_76_7, e_76_10, e_76_11, e_76_12, e_76_13, e_76_16, e_76_19, e_76_20, e_76_23, e_76_26, e_76_28, e_76_31, e_76_32, e_76_35, e_76_36, e_76_37, e_76_40⟩
theorem e_77_0 : dec prog_1_method_16_code 0 = some (.aload_n 0, 1, 0, 0) := by decide +kernel
theorem e_77_1 : dec prog_1_method_16_code 1 = some (.getfield 10, 4, 0, 0) := by decide +kernel
theorem e_77_4 : dec prog_1_method_16_code 4 = some (.invokevirtual 181, 7, 0, 0) := by decide +kernel
theorem e_77_7 : dec prog_1_method_16_code 7 = some (.ireturn, 8, 0, 0) := by decide +kernel
theorem E_77 : dec prog_1_method_16_code 0 = some (.aload_n 0, 1, 0, 0) ∧ dec prog_1_method_16_code 1 = some (.getfield 10, 4, 0, 0) ∧ dec prog_1_method_16_code 4 = some (.invokevirtual 181, 7, 0, 0) ∧ dec prog_1_method_16_code 7 = some (.ireturn, 8, 0, 0) := ⟨e_77_0, e_77_1, e_77_4, e_77_7⟩
theorem e_78_0 : dec prog_1_method_18_code 0 = some (.iload_n 1, 1, 1, 0) := by decide +kernel
theorem e_78_1 : dec prog_1_method_18_code 1 = some (.invokestatic 101, 4, 0, 0) := by decide +kernel
theorem e_78_4 : dec prog_1_method_18_code 4 = some (.ifCond .ne 5, 7, 9, 0) := by decide +kernel
theorem e_78_7 : dec prog_1_method_18_code 7 = some (.iconst (-1), 8, 0, (-1)) := by decide +kernel
theorem e_78_8 : dec prog_1_method_18_code 8 = some (.ireturn, 9, 0, 0) := by decide +kernel
theorem e_78_9 : dec prog_1_method_18_code 9 = some (.aload_n 0, 10, 0, 0) := by decide +kernel
theorem e_78_10 : dec prog_1_method_18_code 10 = some (.getfield 10, 13, 0, 0) := by decide +kernel
theorem e_78_13 : dec prog_1_method_18_code 13 = some (.getfield 89, 16, 0, 0) := by decide +kernel
theorem e_78_16 : dec prog_1_method_18_code 16 = some (.iload_n 1, 17, 1, 0) := by decide +kernel
theorem e_78_17 : dec prog_1_method_18_code 17 = some (.invokevirtual 175, 20, 0, 0) := by decide +kernel
theorem e_78_20 : dec prog_1_method_18_code 20 = some (.ifCond .ge 8, 23, 28, 0) := by decide +kernel
theorem e_78_23 : dec prog_1_method_18_code 23 = some (.bipush (-5), 25, 0, (-5)) := by decide +kernel
theorem e_78_25 : dec prog_1_method_18_code 25 = some (.goto 11, 28, 36, 0) := by decide +kernel
theorem e_78_28 : dec prog_1_method_18_code 28 = some (.aload_n 0, 29, 0, 0) := by decide +kernel
theorem e_78_29 : dec prog_1_method_18_code 29 = some (.getfield 10, 32, 0, 0) := by decide +kernel
theorem e_78_32 : dec prog_1_method_18_code 32 = some (.iload_n 1, 33, 1, 0) := by decide +kernel
theorem e_78_33 : dec prog_1_method_18_code 33 = some (.invokevirtual 187, 36, 0, 0) := by decide +kernel
theorem e_78_36 : dec prog_1_method_18_code 36 = some (.ireturn, 37, 0, 0) := by decide +kernel
theorem E_78 : dec prog_1_method_18_code 0 = some (.iload_n 1, 1, 1, 0) ∧ dec prog_1_method_18_code 1 = some (.invokestatic 101, 4, 0, 0) ∧ dec prog_1_method_18_code 4 = some (.ifCond .ne 5, 7, 9, 0) ∧ dec prog_1_method_18_code 7 = some (.iconst (-1), 8, 0, (-1)) ∧ dec prog_1_method_18_code 8 = some (.ireturn, 9, 0, 0) ∧ dec prog_1_method_18_code 9 = some (.aload_n 0, 10, 0, 0) ∧ dec prog_1_method_18_code 10 = some (.getfield 10, 13, 0, 0) ∧ dec prog_1_method_18_code 13 = some (.getfield 89, 16, 0, 0) ∧ dec prog_1_method_18_code 16 = some (.iload_n 1, 17, 1, 0) ∧ dec prog_1_method_18_code 17 = some (.invokevirtual 175, 20, 0, 0) ∧ dec prog_1_method_18_code 20 = some (.ifCond .ge 8, 23, 28, 0) ∧ dec prog_1_method_18_code 23 = some (.bipush (-5), 25, 0, (-5)) ∧ dec prog_1_method_18_code 25 = some (.goto 11, 28, 36, 0) ∧ dec prog_1_method_18_code 28 = some (.aload_n 0, 29, 0, 0) ∧ dec prog_1_method_18_code 29 = some (.getfield 10, 32, 0, 0) ∧ dec prog_1_method_18_code 32 = some (.iload_n 1, 33, 1, 0) ∧ dec prog_1_method_18_code 33 = some (.invokevirtual 187, 36, 0, 0) ∧ dec prog_1_method_18_code 36 = some (.ireturn, 37, 0, 0) := ⟨e_78_0, e_78_1, e_78_4, e_78_7, e_78_8, e_78_9, e_78_10, e_78_13, e_78_16, e_78_17, e_78_20, e_78_23, e_78_25, e_78_28, e_78_29, e_78_32, e_78_33, e_78_36⟩
theorem e_79_0 : dec prog_1_method_20_code 0 = some (.aload_n 0, 1, 0, 0) := by decide +kernel
theorem e_79_1 : dec prog_1_method_20_code 1 = some (.getfield 34, 4, 0, 0) := by decide +kernel
theorem e_79_4 : dec prog_1_method_20_code 4 = some (.getfield 165, 7, 0, 0) := by decide +kernel
theorem e_79_7 : dec prog_1_method_20_code 7 = some (.istore_n 1, 8, 1, 0) := by decide +kernel
theorem e_79_8 : dec prog_1_method_20_code 8 = some (.aload_n 0, 9, 0, 0) := by decide +kernel
theorem e_79_9 : dec prog_1_method_20_code 9 = some (.getfield 34, 12, 0, 0) := by decide +kernel
theorem e_79_12 : dec prog_1_method_20_code 12 = some (.iconst 0, 13, 0, 0) := by decide +kernel
theorem e_79_13 : dec prog_1_method_20_code 13 = some (.putfield 165, 16, 0, 0) := by decide +kernel
theorem e_79_16 : dec prog_1_method_20_code 16 = some (.iload_n 1, 17, 1, 0) := by decide +kernel
theorem e_79_17 : dec prog_1_method_20_code 17 = some (.ireturn, 18, 0, 0) := by decide +kernel
theorem E_79 : dec prog_1_method_20_code 0 = some (.aload_n 0, 1, 0, 0) ∧ dec prog_1_method_20_code 1 = some (.getfield 34, 4, 0, 0) ∧ dec prog_1_method_20_code 4 = some (.getfield 165, 7, 0, 0) ∧ dec prog_1_method_20_code 7 = some (.istore_n 1, 8, 1, 0) ∧ dec prog_1_method_20_code 8 = some (.aload_n 0, 9, 0, 0) ∧ dec prog_1_method_20_code 9 = some (.getfield 34, 12, 0, 0) ∧ dec prog_1_method_20_code 12 = some (.iconst 0, 13, 0, 0) ∧ dec prog_1_method_20_code 13 = some (.putfield 165, 16, 0, 0) ∧ dec prog_1_method_20_code 16 = some (.iload_n 1, 17, 1, 0) ∧ dec prog_1_method_20_code 17 = some (.ireturn, 18, 0, 0) := ⟨e_79_0, e_79_1, e_79_4, e_79_7, e_79_8, e_79_9, e_79_12, e_79_13, e_79_16, e_79_17⟩
theorem e_80_0 : dec prog_1_method_21_code 0 = some (.aload_n 0, 1, 0, 0) := by decide +kernel
theorem e_80_1 : dec prog_1_method_21_code 1 = some (.getfield 34, 4, 0, 0) := by decide +kernel
theorem e_80_4 : dec prog_1_method_21_code 4 = some (.invokevirtual 198, 7, 0, 0) := by decide +kernel
theorem e_80_7 : dec prog_1_method_21_code 7 = some (.ireturn, 8, 0, 0) := by decide +kernel
theorem E_80 : dec prog_1_method_21_code 0 = some (.aload_n 0, 1, 0, 0) ∧ dec prog_1_method_21_code 1 = some (.getfield 34, 4, 0, 0) ∧ dec prog_1_method_21_code 4 = some (.invokevirtual 198, 7, 0, 0) ∧ dec prog_1_method_21_code 7 = some (.ireturn, 8, 0, 0) := ⟨e_80_0, e_80_1, e_80_4, e_80_7⟩
theorem e_81_0 : dec prog_1_method_22_code 0 = some (.aload_n 0, 1, 0, 0) := by decide +kernel
theorem e_81_1 : dec prog_1_method_22_code 1 = some (.getfield 34, 4, 0, 0) := by decide +kernel
theorem e_81_4 : dec prog_1_method_22_code 4 = some (.invokevirtual 198, 7, 0, 0) := by decide +kernel
theorem e_81_7 : dec prog_1_method_22_code 7 = some (.bipush (-6), 9, 0, (-6)) := by decide +kernel
theorem e_81_9 : dec prog_1_method_22_code 9 = some (.if_icmp .eq 6, 12, 15, 0) := by decide +kernel
theorem e_81_12 : dec prog_1_method_22_code 12 = some (.bipush (-3), 14, 0, (-3)) := by decide +kernel
theorem e_81_14 : dec prog_1_method_22_code 14 = some (.ireturn, 15, 0, 0) := by decide +kernel
theorem e_81_15 : dec prog_1_method_22_code 15 = some (.aload_n 0, 16, 0, 0) := by decide +kernel
theorem e_81_16 : dec prog_1_method_22_code 16 = some (.getfield 27, 19, 0, 0) := by decide +kernel
theorem e_81_19 : dec prog_1_method_22_code 19 = some (.aload_n 0, 20, 0, 0) := by decide +kernel
theorem e_81_20 : dec prog_1_method_22_code 20 = some (.getfield 10, 23, 0, 0) := by decide +kernel
theorem e_81_23 : dec prog_1_method_22_code 23 = some (.invokevirtual 38, 26, 0, 0) := by decide +kernel
theorem e_81_26 : dec prog_1_method_22_code 26 = some (.aload_n 0, 27, 0, 0) := by decide +kernel
theorem e_81_27 : dec prog_1_method_22_code 27 = some (.getfield 34, 30, 0, 0) := by decide +kernel
theorem e_81_30 : dec prog_1_method_22_code 30 = some (.invokevirtual 201, 33, 0, 0) := by decide +kernel
theorem e_81_33 : dec prog_1_method_22_code 33 = some (.iconst 0, 34, 0, 0) := by decide +kernel
theorem e_81_34 : dec prog_1_method_22_code 34 = some (.istore_n 1, 35, 1, 0) := by decide +kernel
theorem e_81_35 : dec prog_1_method_22_code 35 = some (.iload_n 1, 36, 1, 0) := by decide +kernel
theorem e_81_36 : dec prog_1_method_22_code 36 = some (.bipush 80, 38, 0, 80) := by decide +kernel
theorem e_81_38 : dec prog_1_method_22_code 38 = some (.if_icmp .ge 26, 41, 64, 0) := by decide +kernel
theorem e_81_41 : dec prog_1_method_22_code 41 = some (.aload_n 0, 42, 0, 0) := by decide +kernel
theorem e_81_42 : dec prog_1_method_22_code 42 = some (.getfield 34, 45, 0, 0) := by decide +kernel
theorem e_81_45 : dec prog_1_method_22_code 45 = some (.invokevirtual 204, 48, 0, 0) := by decide +kernel
theorem e_81_48 : dec prog_1_method_22_code 48 = some (.ifCond .eq 16, 51, 64, 0) := by decide +kernel
theorem e_81_51 : dec prog_1_method_22_code 51 = some (.aload_n 0, 52, 0, 0) := by decide +kernel
theorem e_81_52 : dec prog_1_method_22_code 52 = some (.invokevirtual 208, 55, 0, 0) := by decide +kernel
theorem e_81_55 : dec prog_1_method_22_code 55 = some (.ifCond .lt 9, 58, 64, 0) := by decide +kernel
theorem e_81_58 : dec prog_1_method_22_code 58 = some (.iinc 1 1, 61, 1, 1) := by decide +kernel
theorem e_81_61 : dec prog_1_method_22_code 61 = some (.goto (-26), 64, 35, 0) := by decide +kernel
theorem e_81_64 : dec prog_1_method_22_code 64 = some (.aload_n 0, 65, 0, 0) := by decide +kernel
theorem e_81_65 : dec prog_1_method_22_code 65 = some (.getfield 34, 68, 0, 0) := by decide +kernel
theorem e_81_68 : dec prog_1_method_22_code 68 = some (.iconst 0, 69, 0, 0) := by decide +kernel
theorem e_81_69 : dec prog_1_method_22_code 69 = some (.putfield 165, 72, 0, 0) := by decide +kernel
theorem e_81_72 : dec prog_1_method_22_code 72 = some (.aload_n 0, 73, 0, 0) := by decide +kernel
theorem e_81_73 : dec prog_1_method_22_code 73 = some (.iload_n 1, 74, 1, 0) := by decide +kernel
theorem e_81_74 : dec prog_1_method_22_code 74 = some (.invokevirtual 46, 77, 0, 0) := by decide +kernel
theorem e_81_77 : dec prog_1_method_22_code 77 = some (.ireturn, 78, 0, 0) := by decide +kernel
theorem E_81 : dec prog_1_method_22_code 0 = some (.aload_n 0, 1, 0, 0) ∧ dec prog_1_method_22_code 1 = some (.getfield 34, 4, 0, 0) ∧ dec prog_1_method_22_code 4 = some (.invokevirtual 198, 7, 0, 0) ∧ dec prog_1_method_22_code 7 = some (.bipush (-6), 9, 0, (-6)) ∧ dec prog_1_method_22_code 9 = some (.if_icmp .eq 6, 12, 15, 0) ∧ dec prog_1_method_22_code 12 = some (.bipush (-3), 14, 0, (-3)) ∧ dec prog_1_method_22_code 14 = some (.ireturn, 15, 0, 0) ∧ dec prog_1_method_22_code 15 = some (.aload_n 0, 16, 0, 0) ∧ dec prog_1_method_22_code 16 = some (.getfield 27, 19, 0, 0) ∧ dec prog_1_method_22_code 19 = some (.aload_n 0, 20, 0, 0) ∧ dec prog_1_method_22_code 20 = some (.getfield 10, 23, 0, 0) ∧ dec prog_1_method_22_code 23 = some (.invokevirtual 38, 26, 0, 0) ∧ dec prog_1_method_22_code 26 = some (.aload_n 0, 27, 0, 0) ∧ dec prog_1_method_22_code 27 = some (.getfield 34, 30, 0, 0) ∧ dec prog_1_method_22_code 30 = some (.invokevirtual 201, 33, 0, 0) ∧ dec prog_1_method_22_code 33 = some (.iconst 0, 34, 0, 0) ∧ dec prog_1_method_22_code 34 = some (.istore_n 1, 35, 1, 0) ∧ dec prog_1_method_22_code 35 = some (.iload_n 1, 36, 1, 0) ∧ dec prog_1_method_22_code 36 = some (.bipush 80, 38, 0, 80) ∧ dec prog_1_method_22_code 38 = some (.if_icmp .ge 26, 41, 64, 0) ∧ dec prog_1_method_22_code 41 = some (.aload_n 0, 42, 0, 0) ∧ dec prog_1_method_22_code 42 = some (.getfield 34, 45, 0, 0) ∧ dec prog_1_method_22_code 45 = some (.invokevirtual 204, 48, 0, 0) ∧ dec prog_1_method_22_code 48 = some (.ifCond .eq 16, 51, 64, 0) ∧ dec prog_1_method_22_code 51 = some (.aload_n 0, 52, 0, 0) ∧ dec prog_1_method_22_code 52 = some (.invokevirtual 208, 55, 0, 0) ∧ dec prog_1_method_22_code 55 = some (.ifCond .lt 9, 58, 64, 0) ∧ dec prog_1_method_22_code 58 = some (.iinc 1 1, 61, 1, 1) ∧ dec prog_1_method_22_code 61 = some (.goto (-26), 64, 35, 0) ∧ dec prog_1_method_22_code 64 = some (.aload_n 0, 65, 0, 0) ∧ dec prog_1_method_22_code 65 = some (.getfield 34, 68, 0, 0) ∧ dec prog_1_method_22_code 68 = some (.iconst 0, 69, 0, 0) ∧ dec prog_1_method_22_code 69 = some (.putfield 165, 72, 0, 0) ∧ dec prog_1_method_22_code 72 = some (.aload_n 0, 73, 0, 0) ∧ dec prog_1_method_22_code 73 = some (.iload_n 1, 74, 1, 0) ∧ dec prog_1_method_22_code 74 = some (.invokevirtual 46, 77, 0, 0) ∧ dec prog_1_method_22_code 77 = some (.ireturn, 78, 0, 0) := ⟨e_81_0, e_81_1, e_81_4, e_81_7, e_81_9, e_81_12, e_81_14, e_81_15, e_81_16, e_81_19, e_81_20, e_81_23, e_81_26, e_81_27, e_81_30, e_81_33, e_81_34, e_81_35, e_81_36, e_81_38, e_81_41, e_81_42, e_81_45, e_81_48, e_81_51, e_81_52, e_81_55, e_81_58, e_81_61, e_81_64, e_81_65, e_81_68, e_81_69, e_81_72, e_81_73, e_81_74, e_81_77⟩
theorem e_82_0 : dec prog_1_method_23_code 0 = some (.aload_n 0, 1, 0, 0) := by decide +kernel
theorem e_82_1 : dec prog_1_method_23_code 1 = some (.getfield 34, 4, 0, 0) := by decide +kernel
theorem e_82_4 : dec prog_1_method_23_code 4 = some (.getfield 211, 7, 0, 0) := by decide +kernel
theorem e_82_7 : dec prog_1_method_23_code 7 = some (.lookupswitch 122 #[(97, 107), (99, 41), (110, 78), (112, 56)], 48, 0, 0) := by decide +kernel
theorem e_82_48 : dec prog_1_method_23_code 48 = some (.aload_n 0, 49, 0, 0) := by decide +kernel
theorem e_82_49 : dec prog_1_method_23_code 49 = some (.getfield 10, 52, 0, 0) := by decide +kernel
theorem e_82_52 : dec prog_1_method_23_code 52 = some (.aload_n 0, 53, 0, 0) := by decide +kernel
theorem e_82_53 : dec prog_1_method_23_code 53 = some (.getfield 34, 56, 0, 0) := by decide +kernel
theorem e_82_56 : dec prog_1_method_23_code 56 = some (.getfield 214, 59, 0, 0) := by decide +kernel
theorem e_82_59 : dec prog_1_method_23_code 59 = some (.invokevirtual 57, 62, 0, 0) := by decide +kernel
theorem e_82_62 : dec prog_1_method_23_code 62 = some (.ireturn, 63, 0, 0) := by decide +kernel
theorem e_82_63 : dec prog_1_method_23_code 63 = some (.aload_n 0, 64, 0, 0) := by decide +kernel
theorem e_82_64 : dec prog_1_method_23_code 64 = some (.getfield 10, 67, 0, 0) := by decide +kernel
theorem e_82_67 : dec prog_1_method_23_code 67 = some (.aload_n 0, 68, 0, 0) := by decide +kernel
theorem e_82_68 : dec prog_1_method_23_code 68 = some (.getfield 34, 71, 0, 0) := by decide +kernel
theorem e_82_71 : dec prog_1_method_23_code 71 = some (.getfield 214, 74, 0, 0) := by decide +kernel
theorem e_82_74 : dec prog_1_method_23_code 74 = some (.aload_n 0, 75, 0, 0) := by decide +kernel
theorem e_82_75 : dec prog_1_method_23_code 75 = some (.getfield 34, 78, 0, 0) := by decide +kernel
theorem e_82_78 : dec prog_1_method_23_code 78 = some (.getfield 217, 81, 0, 0) := by decide +kernel
theorem e_82_81 : dec prog_1_method_23_code 81 = some (.invokevirtual 60, 84, 0, 0) := by decide +kernel
theorem e_82_84 : dec prog_1_method_23_code 84 = some (.ireturn, 85, 0, 0) := by decide +kernel
theorem e_82_85 : dec prog_1_method_23_code 85 = some (.aload_n 0, 86, 0, 0) := by decide +kernel
theorem e_82_86 : dec prog_1_method_23_code 86 = some (.getfield 10, 89, 0, 0) := by decide +kernel
theorem e_82_89 : dec prog_1_method_23_code 89 = some (.aload_n 0, 90, 0, 0) := by decide +kernel
theorem e_82_90 : dec prog_1_method_23_code 90 = some (.getfield 34, 93, 0, 0) := by decide +kernel
theorem e_82_93 : dec prog_1_method_23_code 93 = some (.getfield 214, 96, 0, 0) := by decide +kernel
theorem e_82_96 : dec prog_1_method_23_code 96 = some (.aload_n 0, 97, 0, 0) := by decide +kernel
theorem e_82_97 : dec prog_1_method_23_code 97 = some (.getfield 34, 100, 0, 0) := by decide +kernel
theorem e_82_100 : dec prog_1_method_23_code 100 = some (.getfield 217, 103, 0, 0) := by decide +kernel
theorem e_82_103 : dec prog_1_method_23_code 103 = some (.aload_n 0, 104, 0, 0) := by decide +kernel
theorem e_82_104 : dec prog_1_method_23_code 104 = some (.getfield 34, 107, 0, 0) := by decide +kernel
theorem e_82_107 : dec prog_1_method_23_code 107 = some (.getfield 220, 110, 0, 0) := by decide +kernel
theorem e_82_110 : dec prog_1_method_23_code 110 = some (.invokevirtual 50, 113, 0, 0) := by decide +kernel
theorem e_82_113 : dec prog_1_method_23_code 113 = some (.ireturn, 114, 0, 0) := by decide +kernel
theorem e_82_114 : dec prog_1_method_23_code 114 = some (.aload_n 0, 115, 0, 0) := by decide +kernel
theorem e_82_115 : dec prog_1_method_23_code 115 = some (.getfield 10, 118, 0, 0) := by decide +kernel
theorem e_82_118 : dec prog_1_method_23_code 118 = some (.aload_n 0, 119, 0, 0) := by decide +kernel
theorem e_82_119 : dec prog_1_method_23_code 119 = some (.getfield 34, 122, 0, 0) := by decide +kernel
theorem e_82_122 : dec prog_1_method_23_code 122 = some (.getfield 214, 125, 0, 0) := by decide +kernel
theorem e_82_125 : dec prog_1_method_23_code 125 = some (.invokevirtual 54, 128, 0, 0) := by decide +kernel
theorem e_82_128 : dec prog_1_method_23_code 128 = some (.ireturn, 129, 0, 0) := by decide +kernel
theorem e_82_129 : dec prog_1_method_23_code 129 = some (.bipush (-3), 131, 0, (-3)) := by decide +kernel
theorem e_82_131 : dec prog_1_method_23_code 131 = some (.ireturn, 132, 0, 0) := by decide +kernel
theorem E_82 : dec prog_1_method_23_code 0 = some (.aload_n 0, 1, 0, 0) ∧ dec prog_1_method_23_code 1 = some (.getfield 34, 4, 0, 0) ∧ dec prog_1_method_23_code 4 = some (.getfield 211, 7, 0, 0) ∧ dec prog_1_method_23_code 7 = some (.lookupswitch 122 #[(97, 107), (99, 41), (110, 78), (112, 56)], 48, 0, 0) ∧ dec prog_1_method_23_code 48 = some (.aload_n 0, 49, 0, 0) ∧ dec prog_1_method_23_code 49 = some (.getfield 10, 52, 0, 0) ∧ dec prog_1_method_23_code 52 = some (.aload_n 0, 53, 0, 0) ∧ dec prog_1_method_23_code 53 = some (.getfield 34, 56, 0, 0) ∧ dec prog_1_method_23_code 56 = some (.getfield 214, 59, 0, 0) ∧ dec prog_1_method_23_code 59 = some (.invokevirtual 57, 62, 0, 0) ∧ dec prog_1_method_23_code 62 = some (.ireturn, 63, 0, 0) ∧ dec prog_1_method_23_code 63 = some (.aload_n 0, 64, 0, 0) ∧ dec prog_1_method_23_code 64 = some (.getfield 10, 67, 0, 0) ∧ dec prog_1_method_23_code 67 = some (.aload_n 0, 68, 0, 0) ∧ dec prog_1_method_23_code 68 = some (.getfield 34, 71, 0, 0) ∧ dec prog_1_method_23_code 71 = some (.getfield 214, 74, 0, 0) ∧ dec prog_1_method_23_code 74 = some (.aload_n 0, 75, 0, 0) ∧ dec prog_1_method_23_code 75 = some (.getfield 34, 78, 0, 0) ∧ dec prog_1_method_23_code 78 = some (.getfield 217, 81, 0, 0) ∧ dec prog_1_method_23_code 81 = some (.invokevirtual 60, 84, 0, 0) ∧ dec prog_1_method_23_code 84 = some (.ireturn, 85, 0, 0) ∧ dec prog_1_method_23_code 85 = some (.aload_n 0, 86, 0, 0) ∧ dec prog_1_method_23_code 86 = some (.getfield 10, 89, 0, 0) ∧ dec prog_1_method_23_code 89 = some (.aload_n 0, 90, 0, 0) ∧ dec prog_1_method_23_code 90 = some (.getfield 34, 93, 0, 0) ∧ dec prog_1_method_23_code 93 = some (.getfield 214, 96, 0, 0) ∧ dec prog_1_method_23_code 96 = some (.aload_n 0, 97, 0, 0) ∧ dec prog_1_method_23_code 97 = some (.getfield 34, 100, 0, 0) ∧ dec prog_1_method_23_code 100 = some (.getfield 217, 103, 0, 0) ∧ dec prog_1_method_23_code 103 = some (.aload_n 0, 104, 0, 0) ∧ dec prog_1_method_23_code 104 = some (.getfield 34, 107, 0, 0) ∧ dec prog_1_method_23_code 107 = some (.getfield 220, 110, 0, 0) ∧ dec prog_1_method_23_code 110 = some (.invokevirtual 50, 113, 0, 0) ∧ dec prog_1_method_23_code 113 = some (.ireturn, 114, 0, 0) ∧ dec prog_1_method_23_code 114 = some (.aload_n 0, 115, 0, 0) ∧ dec prog_1_method_23_code 115 = some (.getfield 10, 118, 0, 0) ∧ dec prog_1_method_23_code 118 = some (.aload_n 0, 119, 0, 0) ∧ dec prog_1_method_23_code 119 = some (.getfield 34, 122, 0, 0) ∧ dec prog_1_method_23_code 122 = some (.getfield 214, 125, 0, 0) ∧ dec prog_1_method_23_code 125 = some (.invokevirtual 54, 128, 0, 0) ∧ dec prog_1_method_23_code 128 = some (.ireturn, 129, 0, 0) ∧ dec prog_1_method_23_code 129 = some (.bipush (-3), 131, 0, (-3)) ∧ dec prog_1_method_23_code 131 = some (.ireturn, 132, 0, 0) := ⟨e_82_0, e_82_1, e_82_4, e_82_7, e_82_48, e_82_49, e_82_52, e_82_53, e_82_56, e_82_59, e_82_62, e_82_63, e_82_64, e_82_67, e_82_68, e_82_71, e_82_74, e_82_75, e_82_78, e_82_81, e_82_84, e_82_85, e_82_86, e_82_89, e_82_90, e_82_93, e_82_96, e_82_97, e_82_100, e_82_103, e_82_104, e_82_107, e_82_110, e_82_113, e_82_114, e_82_115, e_82_118, e_82_119, e_82_122, e_82_125, e_82_128, e_82_129, e_82_131⟩
theorem e_83_0 : dec prog_1_method_24_code 0 = some (.aload_n 0, 1, 0, 0) := by decide +kernel
theorem e_83_1 : dec prog_1_method_24_code 1 = some (.getfield 27, 4, 0, 0) := by decide +kernel
theorem e_83_4 : dec prog_1_method_24_code 4 = some (.getfield 168, 7, 0, 0) := by decide +kernel
theorem e_83_7 : dec prog_1_method_24_code 7 = some (.ifCond .ne 6, 10, 13, 0) := by decide +kernel
theorem e_83_10 : dec prog_1_method_24_code 10 = some (.bipush (-5), 12, 0, (-5)) := by decide +kernel
theorem e_83_12 : dec prog_1_method_24_code 12 = some (.ireturn, 13, 0, 0) := by decide +kernel
theorem e_83_13 : dec prog_1_method_24_code 13 = some (.aload_n 0, 14, 0, 0) := by decide +kernel
theorem e_83_14 : dec prog_1_method_24_code 14 = some (.getfield 27, 17, 0, 0) := by decide +kernel
theorem e_83_17 : dec prog_1_method_24_code 17 = some (.aload_n 0, 18, 0, 0) := by decide +kernel
theorem e_83_18 : dec prog_1_method_24_code 18 = some (.getfield 10, 21, 0, 0) := by decide +kernel
theorem e_83_21 : dec prog_1_method_24_code 21 = some (.invokevirtual 223, 24, 0, 0) := by decide +kernel
theorem e_83_24 : dec prog_1_method_24_code 24 = some (.aload_n 0, 25, 0, 0) := by decide +kernel
theorem e_83_25 : dec prog_1_method_24_code 25 = some (.getfield 27, 28, 0, 0) := by decide +kernel
theorem e_83_28 : dec prog_1_method_24_code 28 = some (.getfield 168, 31, 0, 0) := by decide +kernel
theorem e_83_31 : dec prog_1_method_24_code 31 = some (.ireturn, 32, 0, 0) := by decide +kernel
theorem E_83 : dec prog_1_method_24_code 0 = some (.aload_n 0, 1, 0, 0) ∧ dec prog_1_method_24_code 1 = some (.getfield 27, 4, 0, 0) ∧ dec prog_1_method_24_code 4 = some (.getfield 168, 7, 0, 0) ∧ dec prog_1_method_24_code 7 = some (.ifCond .ne 6, 10, 13, 0) ∧ dec prog_1_method_24_code 10 = some (.bipush (-5), 12, 0, (-5)) ∧ dec prog_1_method_24_code 12 = some (.ireturn, 13, 0, 0) ∧ dec prog_1_method_24_code 13 = some (.aload_n 0, 14, 0, 0) ∧ dec prog_1_method_24_code 14 = some (.getfield 27, 17, 0, 0) ∧ dec prog_1_method_24_code 17 = some (.aload_n 0, 18, 0, 0) ∧ dec prog_1_method_24_code 18 = some (.getfield 10, 21, 0, 0) ∧ dec prog_1_method_24_code 21 = some (.invokevirtual 223, 24, 0, 0) ∧ dec prog_1_method_24_code 24 = some (.aload_n 0, 25, 0, 0) ∧ dec prog_1_method_24_code 25 = some (.getfield 27, 28, 0, 0) ∧ dec prog_1_method_24_code 28 = some (.getfield 168, 31, 0, 0) ∧ dec prog_1_method_24_code 31 = some (.ireturn, 32, 0, 0) := ⟨e_83_0, e_83_1, e_83_4, e_83_7, e_83_10, e_83_12, e_83_13, e_83_14, e_83_17, e_83_18, e_83_21, e_83_24, e_83_25, e_83_28, e_83_31⟩
theorem e_84_0 : dec prog_1_method_25_code 0 = some (.iload_n 1, 1, 1, 0) := by decide +kernel
theorem e_84_1 : dec prog_1_method_25_code 1 = some (.invokestatic 226, 4, 0, 0) := by decide +kernel
theorem e_84_4 : dec prog_1_method_25_code 4 = some (.ifCond .ne 6, 7, 10, 0) := by decide +kernel
theorem e_84_7 : dec prog_1_method_25_code 7 = some (.bipush (-2), 9, 0, (-2)) := by decide +kernel
theorem e_84_9 : dec prog_1_method_25_code 9 = some (.ireturn, 10, 0, 0) := by decide +kernel
theorem e_84_10 : dec prog_1_method_25_code 10 = some (.aload_n 0, 11, 0, 0) := by decide +kernel
theorem e_84_11 : dec prog_1_method_25_code 11 = some (.getfield 16, 14, 0, 0) := by decide +kernel
theorem e_84_14 : dec prog_1_method_25_code 14 = some (.iload_n 1, 15, 1, 0) := by decide +kernel
theorem e_84_15 : dec prog_1_method_25_code 15 = some (.aaload, 16, 0, 0) := by decide +kernel
theorem e_84_16 : dec prog_1_method_25_code 16 = some (.aload_n 0, 17, 0, 0) := by decide +kernel
theorem e_84_17 : dec prog_1_method_25_code 17 = some (.getfield 10, 20, 0, 0) := by decide +kernel
theorem e_84_20 : dec prog_1_method_25_code 20 = some (.invokevirtual 229, 23, 0, 0) := by decide +kernel
theorem e_84_23 : dec prog_1_method_25_code 23 = some (.aload_n 0, 24, 0, 0) := by decide +kernel
theorem e_84_24 : dec prog_1_method_25_code 24 = some (.getfield 20, 27, 0, 0) := by decide +kernel
theorem e_84_27 : dec prog_1_method_25_code 27 = some (.iload_n 1, 28, 1, 0) := by decide +kernel
theorem e_84_28 : dec prog_1_method_25_code 28 = some (.iconst 1, 29, 0, 1) := by decide +kernel
theorem e_84_29 : dec prog_1_method_25_code 29 = some (.bastore, 30, 0, 0) := by decide +kernel
theorem e_84_30 : dec prog_1_method_25_code 30 = some (.aload_n 0, 31, 0, 0) := by decide +kernel
theorem e_84_31 : dec prog_1_method_25_code 31 = some (.getfield 10, 34, 0, 0) := by decide +kernel
theorem e_84_34 : dec prog_1_method_25_code 34 = some (.getfield 66, 37, 0, 0) := by decide +kernel
theorem e_84_37 : dec prog_1_method_25_code 37 = some (.getfield 70, 40, 0, 0) := by decide +kernel
theorem e_84_40 : dec prog_1_method_25_code 40 = some (.ireturn, 41, 0, 0) := by decide +kernel
theorem E_84 : dec prog_1_method_25_code 0 = some (.iload_n 1, 1, 1, 0) ∧ dec prog_1_method_25_code 1 = some (.invokestatic 226, 4, 0, 0) ∧ dec prog_1_method_25_code 4 = some (.ifCond .ne 6, 7, 10, 0) ∧ dec prog_1_method_25_code 7 = some (.bipush (-2), 9, 0, (-2)) ∧ dec prog_1_method_25_code 9 = some (.ireturn, 10, 0, 0) ∧ dec prog_1_method_25_code 10 = some (.aload_n 0, 11, 0, 0) ∧ dec prog_1_method_25_code 11 = some (.getfield 16, 14, 0, 0) ∧ dec prog_1_method_25_code 14 = some (.iload_n 1, 15, 1, 0) ∧ dec prog_1_method_25_code 15 = some (.aaload, 16, 0, 0) ∧ dec prog_1_method_25_code 16 = some (.aload_n 0, 17, 0, 0) ∧ dec prog_1_method_25_code 17 = some (.getfield 10, 20, 0, 0) ∧ dec prog_1_method_25_code 20 = some (.invokevirtual 229, 23, 0, 0) ∧ dec prog_1_method_25_code 23 = some (.aload_n 0, 24, 0, 0) ∧ dec prog_1_method_25_code 24 = some (.getfield 20, 27, 0, 0) ∧ dec prog_1_method_25_code 27 = some (.iload_n 1, 28, 1, 0) ∧ dec prog_1_method_25_code 28 = some (.iconst 1, 29, 0, 1) ∧ dec prog_1_method_25_code 29 = some (.bastore, 30, 0, 0) ∧ dec prog_1_method_25_code 30 = some (.aload_n 0, 31, 0, 0) ∧ dec prog_1_method_25_code 31 = some (.getfield 10, 34, 0, 0) ∧ dec prog_1_method_25_code 34 = some (.getfield 66, 37, 0, 0) ∧ dec prog_1_method_25_code 37 = some (.getfield 70, 40, 0, 0) ∧ dec prog_1_method_25_code 40 = some (.ireturn, 41, 0, 0) := ⟨e_84_0, e_84_1, e_84_4, e_84_7, e_84_9, e_84_10, e_84_11, e_84_14, e_84_15, e_84_16, e_84_17, e_84_20, e_84_23, e_84_24, e_84_27, e_84_28, e_84_29, e_84_30, e_84_31, e_84_34, e_84_37, e_84_40⟩
theorem e_85_0 : dec prog_1_method_26_code 0 = some (.iload_n 1, 1, 1, 0) := by decide +kernel
theorem e_85_1 : dec prog_1_method_26_code 1 = some (.invokestatic 226, 4, 0, 0) := by decide +kernel
theorem e_85_4 : dec prog_1_method_26_code 4 = some (.ifCond .ne 6, 7, 10, 0) := by decide +kernel
theorem e_85_7 : dec prog_1_method_26_code 7 = some (.bipush (-2), 9, 0, (-2)) := by decide +kernel
theorem e_85_9 : dec prog_1_method_26_code 9 = some (.ireturn, 10, 0, 0) := by decide +kernel
theorem e_85_10 : dec prog_1_method_26_code 10 = some (.aload_n 0, 11, 0, 0) := by decide +kernel
theorem e_85_11 : dec prog_1_method_26_code 11 = some (.getfield 20, 14, 0, 0) := by decide +kernel
theorem e_85_14 : dec prog_1_method_26_code 14 = some (.iload_n 1, 15, 1, 0) := by decide +kernel
theorem e_85_15 : dec prog_1_method_26_code 15 = some (.baload, 16, 0, 0) := by decide +kernel
theorem e_85_16 : dec prog_1_method_26_code 16 = some (.ifCond .ne 6, 19, 22, 0) := by decide +kernel
theorem e_85_19 : dec prog_1_method_26_code 19 = some (.bipush (-5), 21, 0, (-5)) := by decide +kernel
theorem e_85_21 : dec prog_1_method_26_code 21 = some (.ireturn, 22, 0, 0) := by decide +kernel
theorem e_85_22 : dec prog_1_method_26_code 22 = some (.aload_n 0, 23, 0, 0) := by decide +kernel
theorem e_85_23 : dec prog_1_method_26_code 23 = some (.getfield 27, 26, 0, 0) := by decide +kernel
theorem e_85_26 : dec prog_1_method_26_code 26 = some (.aload_n 0, 27, 0, 0) := by decide +kernel
theorem e_85_27 : dec prog_1_method_26_code 27 = some (.getfield 10, 30, 0, 0) := by decide +kernel
theorem e_85_30 : dec prog_1_method_26_code 30 = some (.invokevirtual 38, 33, 0, 0) := by decide +kernel
theorem e_85_33 : dec prog_1_method_26_code 33 = some (.aload_n 0, 34, 0, 0) := by decide +kernel
theorem e_85_34 : dec prog_1_method_26_code 34 = some (.getfield 10, 37, 0, 0) := by decide +kernel
theorem e_85_37 : dec prog_1_method_26_code 37 = some (.aload_n 0, 38, 0, 0) := by decide +kernel
theorem e_85_38 : dec prog_1_method_26_code 38 = some (.getfield 16, 41, 0, 0) := by decide +kernel
theorem e_85_41 : dec prog_1_method_26_code 41 = some (.iload_n 1, 42, 1, 0) := by decide +kernel
theorem e_85_42 : dec prog_1_method_26_code 42 = some (.aaload, 43, 0, 0) := by decide +kernel
theorem e_85_43 : dec prog_1_method_26_code 43 = some (.invokevirtual 229, 46, 0, 0) := by decide +kernel
theorem e_85_46 : dec prog_1_method_26_code 46 = some (.aload_n 0, 47, 0, 0) := by decide +kernel
theorem e_85_47 : dec prog_1_method_26_code 47 = some (.aload_n 0, 48, 0, 0) := by decide +kernel
theorem e_85_48 : dec prog_1_method_26_code 48 = some (.getfield 10, 51, 0, 0) := by decide +kernel
theorem e_85_51 : dec prog_1_method_26_code 51 = some (.getfield 66, 54, 0, 0) := by decide +kernel
theorem e_85_54 : dec prog_1_method_26_code 54 = some (.getfield 70, 57, 0, 0) := by decide +kernel
theorem e_85_57 : dec prog_1_method_26_code 57 = some (.invokevirtual 46, 60, 0, 0) := by decide +kernel
theorem e_85_60 : dec prog_1_method_26_code 60 = some (.ireturn, 61, 0, 0) := by decide +kernel
theorem E_85 : dec prog_1_method_26_code 0 = some (.iload_n 1, 1, 1, 0) ∧ dec prog_1_method_26_code 1 = some (.invokestatic 226, 4, 0, 0) ∧ dec prog_1_method_26_code 4 = some (.ifCond .ne 6, 7, 10, 0) ∧ dec prog_1_method_26_code 7 = some (.bipush (-2), 9, 0, (-2)) ∧ dec prog_1_method_26_code 9 = some (.ireturn, 10, 0, 0) ∧ dec prog_1_method_26_code 10 = some (.aload_n 0, 11, 0, 0) ∧ dec prog_1_method_26_code 11 = some (.getfield 20, 14, 0, 0) ∧ dec prog_1_method_26_code 14 = some (.iload_n 1, 15, 1, 0) ∧ dec prog_1_method_26_code 15 = some (.baload, 16, 0, 0) ∧ dec prog_1_method_26_code 16 = some (.ifCond .ne 6, 19, 22, 0) ∧ dec prog_1_method_26_code 19 = some (.bipush (-5), 21, 0, (-5)) ∧ dec prog_1_method_26_code 21 = some (.ireturn, 22, 0, 0) ∧ dec prog_1_method_26_code 22 = some (.aload_n 0, 23, 0, 0) ∧ dec prog_1_method_26_code 23 = some (.getfield 27, 26, 0, 0) ∧ dec prog_1_method_26_code 26 = some (.aload_n 0, 27, 0, 0) ∧ dec prog_1_method_26_code 27 = some (.getfield 10, 30, 0, 0) ∧ dec prog_1_method_26_code 30 = some (.invokevirtual 38, 33, 0, 0) ∧ dec prog_1_method_26_code 33 = some (.aload_n 0, 34, 0, 0) ∧ dec prog_1_method_26_code 34 = some (.getfield 10, 37, 0, 0) ∧ dec prog_1_method_26_code 37 = some (.aload_n 0, 38, 0, 0) ∧ dec prog_1_method_26_code 38 = some (.getfield 16, 41, 0, 0) ∧ dec prog_1_method_26_code 41 = some (.iload_n 1, 42, 1, 0) ∧ dec prog_1_method_26_code 42 = some (.aaload, 43, 0, 0) ∧ dec prog_1_method_26_code 43 = some (.invokevirtual 229, 46, 0, 0) ∧ dec prog_1_method_26_code 46 = some (.aload_n 0, 47, 0, 0) ∧ dec prog_1_method_26_code 47 = some (.aload_n 0, 48, 0, 0) ∧ dec prog_1_method_26_code 48 = some (.getfield 10, 51, 0, 0) ∧ dec prog_1_method_26_code 51 = some (.getfield 66, 54, 0, 0) ∧ dec prog_1_method_26_code 54 = some (.getfield 70, 57, 0, 0) ∧ dec prog_1_method_26_code 57 = some (.invokevirtual 46, 60, 0, 0) ∧ dec prog_1_method_26_code 60 = some (.ireturn, 61, 0, 0) := ⟨e_85_0, e_85_1, e_85_4, e_85_7, e_85_9, e_85_10, e_85_11, e_85_14, e_85_15, e_85_16, e_85_19, e_85_21, e_85_22, e_85_23, e_85_26, e_85_27, e_85_30, e_85_33, e_85_34, e_85_37, e_85_38, e_85_41, e_85_42, e_85_43, e_85_46, e_85_47, e_85_48, e_85_51, e_85_54, e_85_57, e_85_60⟩
theorem e_86_0 : dec prog_1_method_27_code 0 = some (.iload_n 0, 1, 0, 0) := by decide +kernel
theorem e_86_1 : dec prog_1_method_27_code 1 = some (.ifCond .lt 12, 4, 13, 0) := by decide +kernel
theorem e_86_4 : dec prog_1_method_27_code 4 = some (.iload_n 0, 5, 0, 0) := by decide +kernel
theorem e_86_5 : dec prog_1_method_27_code 5 = some (.iconst 2, 6, 0, 2) := by decide +kernel
theorem e_86_6 : dec prog_1_method_27_code 6 = some (.if_icmp .ge 7, 9, 13, 0) := by decide +kernel
theorem e_86_9 : dec prog_1_method_27_code 9 = some (.iconst 1, 10, 0, 1) := by decide +kernel
theorem e_86_10 : dec prog_1_method_27_code 10 = some (.goto 4, 13, 14, 0) := by decide +kernel
theorem e_86_13 : dec prog_1_method_27_code 13 = some (.iconst 0, 14, 0, 0) := by decide +kernel
theorem e_86_14 : dec prog_1_method_27_code 14 = some (.ireturn, 15, 0, 0) := by decide +kernel
theorem E_86 : dec prog_1_method_27_code 0 = some (.iload_n 0, 1, 0, 0) ∧ dec prog_1_method_27_code 1 = some (.ifCond .lt 12, 4, 13, 0) ∧ dec prog_1_method_27_code 4 = some (.iload_n 0, 5, 0, 0) ∧ dec prog_1_method_27_code 5 = some (.iconst 2, 6, 0, 2) ∧ dec prog_1_method_27_code 6 = some (.if_icmp .ge 7, 9, 13, 0) ∧ dec prog_1_method_27_code 9 = some (.iconst 1, 10, 0, 1) ∧ dec prog_1_method_27_code 10 = some (.goto 4, 13, 14, 0) ∧ dec prog_1_method_27_code 13 = some (.iconst 0, 14, 0, 0) ∧ dec prog_1_method_27_code 14 = some (.ireturn, 15, 0, 0) := ⟨e_86_0, e_86_1, e_86_4, e_86_5, e_86_6, e_86_9, e_86_10, e_86_13, e_86_14⟩
theorem e_87_0 : dec prog_1_method_28_code 0 = some (.iload_n 0, 1, 0, 0) := by decide +kernel
theorem e_87_1 : dec prog_1_method_28_code 1 = some (.ifCond .lt 13, 4, 14, 0) := by decide +kernel
theorem e_87_4 : dec prog_1_method_28_code 4 = some (.iload_n 0, 5, 0, 0) := by decide +kernel
theorem e_87_5 : dec prog_1_method_28_code 5 = some (.bipush 8, 7, 0, 8) := by decide +kernel
theorem e_87_7 : dec prog_1_method_28_code 7 = some (.if_icmp .ge 7, 10, 14, 0) := by decide +kernel
theorem e_87_10 : dec prog_1_method_28_code 10 = some (.iconst 1, 11, 0, 1) := by decide +kernel
theorem e_87_11 : dec prog_1_method_28_code 11 = some (.goto 4, 14, 15, 0) := by decide +kernel
theorem e_87_14 : dec prog_1_method_28_code 14 = some (.iconst 0, 15, 0, 0) := by decide +kernel
theorem e_87_15 : dec prog_1_method_28_code 15 = some (.ireturn, 16, 0, 0) := by decide +kernel
theorem E_87 : dec prog_1_method_28_code 0 = some (.iload_n 0, 1, 0, 0) ∧ dec prog_1_method_28_code 1 = some (.ifCond .lt 13, 4, 14, 0) ∧ dec prog_1_method_28_code 4 = some (.iload_n 0, 5, 0, 0) ∧ dec prog_1_method_28_code 5 = some (.bipush 8, 7, 0, 8) ∧ dec prog_1_method_28_code 7 = some (.if_icmp .ge 7, 10, 14, 0) ∧ dec prog_1_method_28_code 10 = some (.iconst 1, 11, 0, 1) ∧ dec prog_1_method_28_code 11 = some (.goto 4, 14, 15, 0) ∧ dec prog_1_method_28_code 14 = some (.iconst 0, 15, 0, 0) ∧ dec prog_1_method_28_code 15 = some (.ireturn, 16, 0, 0) := ⟨e_87_0, e_87_1, e_87_4, e_87_5, e_87_7, e_87_10, e_87_11, e_87_14, e_87_15⟩
theorem e_88_0 : dec prog_1_method_29_code 0 = some (.iload_n 0, 1, 0, 0) := by decide +kernel
theorem e_88_1 : dec prog_1_method_29_code 1 = some (.invokestatic 101, 4, 0, 0) := by decide +kernel
theorem e_88_4 : dec prog_1_method_29_code 4 = some (.ifCond .ne 5, 7, 9, 0) := by decide +kernel
theorem e_88_7 : dec prog_1_method_29_code 7 = some (.iconst (-1), 8, 0, (-1)) := by decide +kernel
theorem e_88_8 : dec prog_1_method_29_code 8 = some (.ireturn, 9, 0, 0) := by decide +kernel
theorem e_88_9 : dec prog_1_method_29_code 9 = some (.iload_n 1, 10, 1, 0) := by decide +kernel
theorem e_88_10 : dec prog_1_method_29_code 10 = some (.ifCond .lt 8, 13, 18, 0) := by decide +kernel
theorem e_88_13 : dec prog_1_method_29_code 13 = some (.iload_n 1, 14, 1, 0) := by decide +kernel
theorem e_88_14 : dec prog_1_method_29_code 14 = some (.iconst 4, 15, 0, 4) := by decide +kernel
theorem e_88_15 : dec prog_1_method_29_code 15 = some (.if_icmp .le 8, 18, 23, 0) := by decide +kernel
theorem e_88_18 : dec prog_1_method_29_code 18 = some (.bipush (-2), 20, 0, (-2)) := by decide +kernel
theorem e_88_20 : dec prog_1_method_29_code 20 = some (.goto 4, 23, 24, 0) := by decide +kernel
theorem e_88_23 : dec prog_1_method_29_code 23 = some (.iconst 0, 24, 0, 0) := by decide +kernel
theorem e_88_24 : dec prog_1_method_29_code 24 = some (.ireturn, 25, 0, 0) := by decide +kernel
theorem E_88 : dec prog_1_method_29_code 0 = some (.iload_n 0, 1, 0, 0) ∧ dec prog_1_method_29_code 1 = some (.invokestatic 101, 4, 0, 0) ∧ dec prog_1_method_29_code 4 = some (.ifCond .ne 5, 7, 9, 0) ∧ dec prog_1_method_29_code 7 = some (.iconst (-1), 8, 0, (-1)) ∧ dec prog_1_method_29_code 8 = some (.ireturn, 9, 0, 0) ∧ dec prog_1_method_29_code 9 = some (.iload_n 1, 10, 1, 0) ∧ dec prog_1_method_29_code 10 = some (.ifCond .lt 8, 13, 18, 0) ∧ dec prog_1_method_29_code 13 = some (.iload_n 1, 14, 1, 0) ∧ dec prog_1_method_29_code 14 = some (.iconst 4, 15, 0, 4) ∧ dec prog_1_method_29_code 15 = some (.if_icmp .le 8, 18, 23, 0) ∧ dec prog_1_method_29_code 18 = some (.bipush (-2), 20, 0, (-2)) ∧ dec prog_1_method_29_code 20 = some (.goto 4, 23, 24, 0) ∧ dec prog_1_method_29_code 23 = some (.iconst 0, 24, 0, 0) ∧ dec prog_1_method_29_code 24 = some (.ireturn, 25, 0, 0) := ⟨e_88_0, e_88_1, e_88_4, e_88_7, e_88_8, e_88_9, e_88_10, e_88_13, e_88_14, e_88_15, e_88_18, e_88_20, e_88_23, e_88_24⟩
theorem e_89_0 : dec prog_10_method_49_code 0 = some (.iload_n 0, 1, 0, 0) := by decide +kernel
theorem e_89_1 : dec prog_10_method_49_code 1 = some (.iload_n 0, 2, 0, 0) := by decide +kernel
theorem e_89_2 : dec prog_10_method_49_code 2 = some (.iconst 1, 3, 0, 1) := by decide +kernel
theorem e_89_3 : dec prog_10_method_49_code 3 = some (.iushr, 4, 0, 0) := by decide +kernel
theorem e_89_4 : dec prog_10_method_49_code 4 = some (.ldc_w 265, 7, 0, 0) := by decide +kernel
theorem e_89_7 : dec prog_10_method_49_code 7 = some (.iand, 8, 0, 0) := by decide +kernel
theorem e_89_8 : dec prog_10_method_49_code 8 = some (.isub, 9, 0, 0) := by decide +kernel
theorem e_89_9 : dec prog_10_method_49_code 9 = some (.istore_n 0, 10, 0, 0) := by decide +kernel
theorem e_89_10 : dec prog_10_method_49_code 10 = some (.iload_n 0, 11, 0, 0) := by decide +kernel
theorem e_89_11 : dec prog_10_method_49_code 11 = some (.ldc_w 266, 14, 0, 0) := by decide +kernel
theorem e_89_14 : dec prog_10_method_49_code 14 = some (.iand, 15, 0, 0) := by decide +kernel
theorem e_89_15 : dec prog_10_method_49_code 15 = some (.iload_n 0, 16, 0, 0) := by decide +kernel
theorem e_89_16 : dec prog_10_method_49_code 16 = some (.iconst 2, 17, 0, 2) := by decide +kernel
theorem e_89_17 : dec prog_10_method_49_code 17 = some (.iushr, 18, 0, 0) := by decide +kernel
theorem e_89_18 : dec prog_10_method_49_code 18 = some (.ldc_w 266, 21, 0, 0) := by decide +kernel
theorem e_89_21 : dec prog_10_method_49_code 21 = some (.iand, 22, 0, 0) := by decide +kernel
theorem e_89_22 : dec prog_10_method_49_code 22 = some (.iadd, 23, 0, 0) := by decide +kernel
theorem e_89_23 : dec prog_10_method_49_code 23 = some (.istore_n 0, 24, 0, 0) := by decide +kernel
theorem e_89_24 : dec prog_10_method_49_code 24 = some (.iload_n 0, 25, 0, 0) := by decide +kernel
theorem e_89_25 : dec prog_10_method_49_code 25 = some (.iload_n 0, 26, 0, 0) := by decide +kernel
theorem e_89_26 : dec prog_10_method_49_code 26 = some (.iconst 4, 27, 0, 4) := by decide +kernel
theorem e_89_27 : dec prog_10_method_49_code 27 = some (.iushr, 28, 0, 0) := by decide +kernel
theorem e_89_28 : dec prog_10_method_49_code 28 = some (.iadd, 29, 0, 0) := by decide +kernel
theorem e_89_29 : dec prog_10_method_49_code 29 = some (.ldc_w 267, 32, 0, 0) := by decide +kernel
theorem e_89_32 : dec prog_10_method_49_code 32 = some (.iand, 33, 0, 0) := by decide +kernel
theorem e_89_33 : dec prog_10_method_49_code 33 = some (.istore_n 0, 34, 0, 0) := by decide +kernel
theorem e_89_34 : dec prog_10_method_49_code 34 = some (.iload_n 0, 35, 0, 0) := by decide +kernel
theorem e_89_35 : dec prog_10_method_49_code 35 = some (.iload_n 0, 36, 0, 0) := by decide +kernel
theorem e_89_36 : dec prog_10_method_49_code 36 = some (.bipush 8, 38, 0, 8) := by decide +kernel
theorem e_89_38 : dec prog_10_method_49_code 38 = some (.iushr, 39, 0, 0) := by decide +kernel
theorem e_89_39 : dec prog_10_method_49_code 39 = some (.iadd, 40, 0, 0) := by decide +kernel
theorem e_89_40 : dec prog_10_method_49_code 40 = some (.istore_n 0, 41, 0, 0) := by decide +kernel
theorem e_89_41 : dec prog_10_method_49_code 41 = some (.iload_n 0, 42, 0, 0) := by decide +kernel
theorem e_89_42 : dec prog_10_method_49_code 42 = some (.iload_n 0, 43, 0, 0) := by decide +kernel
theorem e_89_43 : dec prog_10_method_49_code 43 = some (.bipush 16, 45, 0, 16) := by decide +kernel
theorem e_89_45 : dec prog_10_method_49_code 45 = some (.iushr, 46, 0, 0) := by decide +kernel
theorem e_89_46 : dec prog_10_method_49_code 46 = some (.iadd, 47, 0, 0) := by decide +kernel
theorem e_89_47 : dec prog_10_method_49_code 47 = some (.istore_n 0, 48, 0, 0) := by decide +kernel
theorem e_89_48 : dec prog_10_method_49_code 48 = some (.iload_n 0, 49, 0, 0) := by decide +kernel
theorem e_89_49 : dec prog_10_method_49_code 49 = some (.bipush 63, 51, 0, 63) := by decide +kernel
theorem e_89_51 : dec prog_10_method_49_code 51 = some (.iand, 52, 0, 0) := by decide +kernel
theorem e_89_52 : dec prog_10_method_49_code 52 = some (.ireturn, 53, 0, 0) := by decide +kernel
theorem E_89 : dec prog_10_method_49_code 0 = some (.iload_n 0, 1, 0, 0) ∧ dec prog_10_method_49_code 1 = some (.iload_n 0, 2, 0, 0) ∧ dec prog_10_method_49_code 2 = some (.iconst 1, 3, 0, 1) ∧ dec prog_10_method_49_code 3 = some (.iushr, 4, 0, 0) ∧ dec prog_10_method_49_code 4 = some (.ldc_w 265, 7, 0, 0) ∧ dec prog_10_method_49_code 7 = some (.iand, 8, 0, 0) ∧ dec prog_10_method_49_code 8 = some (.isub, 9, 0, 0) ∧ dec prog_10_method_49_code 9 = some (.istore_n 0, 10, 0, 0) ∧ dec prog_10_method_49_code 10 = some (.iload_n 0, 11, 0, 0) ∧ dec prog_10_method_49_code 11 = some (.ldc_w 266, 14, 0, 0) ∧ dec prog_10_method_49_code 14 = some (.iand, 15, 0, 0) ∧ dec prog_10_method_49_code 15 = some (.iload_n 0, 16, 0, 0) ∧ dec prog_10_method_49_code 16 = some (.iconst 2, 17, 0, 2) ∧ dec prog_10_method_49_code 17 = some (.iushr, 18, 0, 0) ∧ dec prog_10_method_49_code 18 = some (.ldc_w 266, 21, 0, 0) ∧ dec prog_10_method_49_code 21 = some (.iand, 22, 0, 0) ∧ dec prog_10_method_49_code 22 = some (.iadd, 23, 0, 0) ∧ dec prog_10_method_49_code 23 = some (.istore_n 0, 24, 0, 0) ∧ dec prog_10_method_49_code 24 = some (.iload_n 0, 25, 0, 0) ∧ dec prog_10_method_49_code 25 = some (.iload_n 0, 26, 0, 0) ∧ dec prog_10_method_49_code 26 = some (.iconst 4, 27, 0, 4) ∧ dec prog_10_method_49_code 27 = some (.iushr, 28, 0, 0) ∧ dec prog_10_method_49_code 28 = some (.iadd, 29, 0, 0) ∧ dec prog_10_method_49_code 29 = some (.ldc_w 267, 32, 0, 0) ∧ dec prog_10_method_49_code 32 = some (.iand, 33, 0, 0) ∧ dec prog_10_method_49_code 33 = some (.istore_n 0, 34, 0, 0) ∧ dec prog_10_method_49_code 34 = some (.iload_n 0, 35, 0, 0) ∧ dec prog_10_method_49_code 35 = some (.iload_n 0, 36, 0, 0) ∧ dec prog_10_method_49_code 36 = some (.bipush 8, 38, 0, 8) ∧ dec prog_10_method_49_code 38 = some (.iushr, 39, 0, 0) ∧ dec prog_10_method_49_code 39 = some (.iadd, 40, 0, 0) ∧ dec prog_10_method_49_code 40 = some (.istore_n 0, 41, 0, 0) ∧ dec prog_10_method_49_code 41 = some (.iload_n 0, 42, 0, 0) ∧ dec prog_10_method_49_code 42 = some (.iload_n 0, 43, 0, 0) ∧ dec prog_10_method_49_code 43 = some (.bipush 16, 45, 0, 16) ∧ dec prog_10_method_49_code 45 = some (.iushr, 46, 0, 0) ∧ dec prog_10_method_49_code 46 = some (.iadd, 47, 0, 0) ∧ dec prog_10_method_49_code 47 = some (.istore_n 0, 48, 0, 0) ∧ dec prog_10_method_49_code 48 = some (.iload_n 0, 49, 0, 0) ∧ dec prog_10_method_49_code 49 = some (.bipush 63, 51, 0, 63) ∧ dec prog_10_method_49_code 51 = some (.iand, 52, 0, 0) ∧ dec prog_10_method_49_code 52 = some (.ireturn, 53, 0, 0) := ⟨e_89_0, e_89_1, e_89_2, e_89_3, e_89_4, e_89_7, e_89_8, e_89_9, e_89_10, e_89_11, e_89_14, e_89_15, e_89_16, e_89_17, e_89_18, e_89_21, e_89_22, e_89_23, e_89_24, e_89_25, e_89_26, e_89_27, e_89_28, e_89_29, e_89_32, e_89_33, e_89_34, e_89_35, e_89_36, e_89_38, e_89_39, e_89_40, e_89_41, e_89_42, e_89_43, e_89_45, e_89_46, e_89_47, e_89_48, e_89_49, e_89_51, e_89_52⟩
