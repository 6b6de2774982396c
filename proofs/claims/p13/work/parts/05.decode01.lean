theorem d_JArrays_fill_0 : decode M_JArrays_fill.2.1 0 = .ok (.iconst 0, 1) := by decide +kernel
theorem d_JArrays_fill_1 : decode M_JArrays_fill.2.1 1 = .ok (.istore_n 2, 1) := by decide +kernel
theorem d_JArrays_fill_2 : decode M_JArrays_fill.2.1 2 = .ok (.aload_n 0, 1) := by decide +kernel
theorem d_JArrays_fill_3 : decode M_JArrays_fill.2.1 3 = .ok (.arraylength, 1) := by decide +kernel
theorem d_JArrays_fill_4 : decode M_JArrays_fill.2.1 4 = .ok (.istore_n 3, 1) := by decide +kernel
theorem d_JArrays_fill_5 : decode M_JArrays_fill.2.1 5 = .ok (.iload_n 2, 1) := by decide +kernel
theorem d_JArrays_fill_6 : decode M_JArrays_fill.2.1 6 = .ok (.iload_n 3, 1) := by decide +kernel
theorem d_JArrays_fill_7 : decode M_JArrays_fill.2.1 7 = .ok (.if_icmp .ge 13, 3) := by decide +kernel
theorem d_JArrays_fill_10 : decode M_JArrays_fill.2.1 10 = .ok (.aload_n 0, 1) := by decide +kernel
theorem d_JArrays_fill_11 : decode M_JArrays_fill.2.1 11 = .ok (.iload_n 2, 1) := by decide +kernel
theorem d_JArrays_fill_12 : decode M_JArrays_fill.2.1 12 = .ok (.iload_n 1, 1) := by decide +kernel
theorem d_JArrays_fill_13 : decode M_JArrays_fill.2.1 13 = .ok (.iastore, 1) := by decide +kernel
theorem d_JArrays_fill_14 : decode M_JArrays_fill.2.1 14 = .ok (.iinc 2 1, 3) := by decide +kernel
theorem d_JArrays_fill_17 : decode M_JArrays_fill.2.1 17 = .ok (.goto (-12), 3) := by decide +kernel
theorem d_JArrays_fill_20 : decode M_JArrays_fill.2.1 20 = .ok (.return_, 1) := by decide +kernel
theorem d_JInteger_bitCount_0 : decode M_JInteger_bitCount.2.1 0 = .ok (.iload_n 0, 1) := by decide +kernel
theorem d_JInteger_bitCount_1 : decode M_JInteger_bitCount.2.1 1 = .ok (.iload_n 0, 1) := by decide +kernel
theorem d_JInteger_bitCount_2 : decode M_JInteger_bitCount.2.1 2 = .ok (.iconst 1, 1) := by decide +kernel
theorem d_JInteger_bitCount_3 : decode M_JInteger_bitCount.2.1 3 = .ok (.iushr, 1) := by decide +kernel
theorem d_JInteger_bitCount_4 : decode M_JInteger_bitCount.2.1 4 = .ok (.ldc_w 265, 3) := by decide +kernel
theorem d_JInteger_bitCount_7 : decode M_JInteger_bitCount.2.1 7 = .ok (.iand, 1) := by decide +kernel
theorem d_JInteger_bitCount_8 : decode M_JInteger_bitCount.2.1 8 = .ok (.isub, 1) := by decide +kernel
theorem d_JInteger_bitCount_9 : decode M_JInteger_bitCount.2.1 9 = .ok (.istore_n 0, 1) := by decide +kernel
theorem d_JInteger_bitCount_10 : decode M_JInteger_bitCount.2.1 10 = .ok (.iload_n 0, 1) := by decide +kernel
theorem d_JInteger_bitCount_11 : decode M_JInteger_bitCount.2.1 11 = .ok (.ldc_w 266, 3) := by decide +kernel
theorem d_JInteger_bitCount_14 : decode M_JInteger_bitCount.2.1 14 = .ok (.iand, 1) := by decide +kernel
theorem d_JInteger_bitCount_15 : decode M_JInteger_bitCount.2.1 15 = .ok (.iload_n 0, 1) := by decide +kernel
theorem d_JInteger_bitCount_16 : decode M_JInteger_bitCount.2.1 16 = .ok (.iconst 2, 1) := by decide +kernel
theorem d_JInteger_bitCount_17 : decode M_JInteger_bitCount.2.1 17 = .ok (.iushr, 1) := by decide +kernel
theorem d_JInteger_bitCount_18 : decode M_JInteger_bitCount.2.1 18 = .ok (.ldc_w 266, 3) := by decide +kernel
theorem d_JInteger_bitCount_21 : decode M_JInteger_bitCount.2.1 21 = .ok (.iand, 1) := by decide +kernel
theorem d_JInteger_bitCount_22 : decode M_JInteger_bitCount.2.1 22 = .ok (.iadd, 1) := by decide +kernel
theorem d_JInteger_bitCount_23 : decode M_JInteger_bitCount.2.1 23 = .ok (.istore_n 0, 1) := by decide +kernel
theorem d_JInteger_bitCount_24 : decode M_JInteger_bitCount.2.1 24 = .ok (.iload_n 0, 1) := by decide +kernel
theorem d_JInteger_bitCount_25 : decode M_JInteger_bitCount.2.1 25 = .ok (.iload_n 0, 1) := by decide +kernel
theorem d_JInteger_bitCount_26 : decode M_JInteger_bitCount.2.1 26 = .ok (.iconst 4, 1) := by decide +kernel
theorem d_JInteger_bitCount_27 : decode M_JInteger_bitCount.2.1 27 = .ok (.iushr, 1) := by decide +kernel
theorem d_JInteger_bitCount_28 : decode M_JInteger_bitCount.2.1 28 = .ok (.iadd, 1) := by decide +kernel
theorem d_JInteger_bitCount_29 : decode M_JInteger_bitCount.2.1 29 = .ok (.ldc_w 267, 3) := by decide +kernel
theorem d_JInteger_bitCount_32 : decode M_JInteger_bitCount.2.1 32 = .ok (.iand, 1) := by decide +kernel
theorem d_JInteger_bitCount_33 : decode M_JInteger_bitCount.2.1 33 = .ok (.istore_n 0, 1) := by decide +kernel
theorem d_JInteger_bitCount_34 : decode M_JInteger_bitCount.2.1 34 = .ok (.iload_n 0, 1) := by decide +kernel
theorem d_JInteger_bitCount_35 : decode M_JInteger_bitCount.2.1 35 = .ok (.iload_n 0, 1) := by decide +kernel
theorem d_JInteger_bitCount_36 : decode M_JInteger_bitCount.2.1 36 = .ok (.bipush 8, 2) := by decide +kernel
theorem d_JInteger_bitCount_38 : decode M_JInteger_bitCount.2.1 38 = .ok (.iushr, 1) := by decide +kernel
theorem d_JInteger_bitCount_39 : decode M_JInteger_bitCount.2.1 39 = .ok (.iadd, 1) := by decide +kernel
theorem d_JInteger_bitCount_40 : decode M_JInteger_bitCount.2.1 40 = .ok (.istore_n 0, 1) := by decide +kernel
theorem d_JInteger_bitCount_41 : decode M_JInteger_bitCount.2.1 41 = .ok (.iload_n 0, 1) := by decide +kernel
theorem d_JInteger_bitCount_42 : decode M_JInteger_bitCount.2.1 42 = .ok (.iload_n 0, 1) := by decide +kernel
theorem d_JInteger_bitCount_43 : decode M_JInteger_bitCount.2.1 43 = .ok (.bipush 16, 2) := by decide +kernel
theorem d_JInteger_bitCount_45 : decode M_JInteger_bitCount.2.1 45 = .ok (.iushr, 1) := by decide +kernel
theorem d_JInteger_bitCount_46 : decode M_JInteger_bitCount.2.1 46 = .ok (.iadd, 1) := by decide +kernel
theorem d_JInteger_bitCount_47 : decode M_JInteger_bitCount.2.1 47 = .ok (.istore_n 0, 1) := by decide +kernel
theorem d_JInteger_bitCount_48 : decode M_JInteger_bitCount.2.1 48 = .ok (.iload_n 0, 1) := by decide +kernel
theorem d_JInteger_bitCount_49 : decode M_JInteger_bitCount.2.1 49 = .ok (.bipush 63, 2) := by decide +kernel
theorem d_JInteger_bitCount_51 : decode M_JInteger_bitCount.2.1 51 = .ok (.iand, 1) := by decide +kernel
theorem d_JInteger_bitCount_52 : decode M_JInteger_bitCount.2.1 52 = .ok (.ireturn, 1) := by decide +kernel
theorem d_Course_open_0 : decode M_Course_open.2.1 0 = .ok (.aload_n 0, 1) := by decide +kernel
theorem d_Course_open_1 : decode M_Course_open.2.1 1 = .ok (.iload_n 2, 1) := by decide +kernel
theorem d_Course_open_2 : decode M_Course_open.2.1 2 = .ok (.putfield 64, 3) := by decide +kernel
theorem d_Course_open_5 : decode M_Course_open.2.1 5 = .ok (.aload_n 0, 1) := by decide +kernel
theorem d_Course_open_6 : decode M_Course_open.2.1 6 = .ok (.iload 4, 2) := by decide +kernel
theorem d_Course_open_8 : decode M_Course_open.2.1 8 = .ok (.putfield 68, 3) := by decide +kernel
theorem d_Course_open_11 : decode M_Course_open.2.1 11 = .ok (.aload_n 0, 1) := by decide +kernel
theorem d_Course_open_12 : decode M_Course_open.2.1 12 = .ok (.getfield 28, 3) := by decide +kernel
theorem d_Course_open_15 : decode M_Course_open.2.1 15 = .ok (.aload_n 0, 1) := by decide +kernel
theorem d_Course_open_16 : decode M_Course_open.2.1 16 = .ok (.getfield 12, 3) := by decide +kernel
theorem d_Course_open_19 : decode M_Course_open.2.1 19 = .ok (.iload_n 1, 1) := by decide +kernel
theorem d_Course_open_20 : decode M_Course_open.2.1 20 = .ok (.iload_n 3, 1) := by decide +kernel
theorem d_Course_open_21 : decode M_Course_open.2.1 21 = .ok (.invokevirtual 71, 3) := by decide +kernel
theorem d_Course_open_24 : decode M_Course_open.2.1 24 = .ok (.aload_n 0, 1) := by decide +kernel
theorem d_Course_open_25 : decode M_Course_open.2.1 25 = .ok (.invokevirtual 75, 3) := by decide +kernel
theorem d_Course_open_28 : decode M_Course_open.2.1 28 = .ok (.aload_n 0, 1) := by decide +kernel
theorem d_Course_open_29 : decode M_Course_open.2.1 29 = .ok (.getfield 28, 3) := by decide +kernel
theorem d_Course_open_32 : decode M_Course_open.2.1 32 = .ok (.aload_n 0, 1) := by decide +kernel
theorem d_Course_open_33 : decode M_Course_open.2.1 33 = .ok (.getfield 12, 3) := by decide +kernel
theorem d_Course_open_36 : decode M_Course_open.2.1 36 = .ok (.iload_n 1, 1) := by decide +kernel
theorem d_Course_open_37 : decode M_Course_open.2.1 37 = .ok (.iload_n 3, 1) := by decide +kernel
theorem d_Course_open_38 : decode M_Course_open.2.1 38 = .ok (.invokevirtual 71, 3) := by decide +kernel
theorem d_Course_open_41 : decode M_Course_open.2.1 41 = .ok (.aload_n 0, 1) := by decide +kernel
theorem d_Course_open_42 : decode M_Course_open.2.1 42 = .ok (.invokevirtual 78, 3) := by decide +kernel
theorem d_Course_open_45 : decode M_Course_open.2.1 45 = .ok (.iconst 0, 1) := by decide +kernel
theorem d_Course_open_46 : decode M_Course_open.2.1 46 = .ok (.istore 5, 2) := by decide +kernel
theorem d_Course_open_48 : decode M_Course_open.2.1 48 = .ok (.iload 5, 2) := by decide +kernel
theorem d_Course_open_50 : decode M_Course_open.2.1 50 = .ok (.aload_n 0, 1) := by decide +kernel
theorem d_Course_open_51 : decode M_Course_open.2.1 51 = .ok (.getfield 12, 3) := by decide +kernel
theorem d_Course_open_54 : decode M_Course_open.2.1 54 = .ok (.getfield 81, 3) := by decide +kernel
theorem d_Course_open_57 : decode M_Course_open.2.1 57 = .ok (.if_icmp .ge 30, 3) := by decide +kernel
theorem d_Course_open_60 : decode M_Course_open.2.1 60 = .ok (.aload_n 0, 1) := by decide +kernel
theorem d_Course_open_61 : decode M_Course_open.2.1 61 = .ok (.getfield 58, 3) := by decide +kernel
theorem d_Course_open_64 : decode M_Course_open.2.1 64 = .ok (.iconst 0, 1) := by decide +kernel
theorem d_Course_open_65 : decode M_Course_open.2.1 65 = .ok (.iload 5, 2) := by decide +kernel
theorem d_Course_open_67 : decode M_Course_open.2.1 67 = .ok (.invokestatic 84, 3) := by decide +kernel
theorem d_Course_open_70 : decode M_Course_open.2.1 70 = .ok (.aload_n 0, 1) := by decide +kernel
theorem d_Course_open_71 : decode M_Course_open.2.1 71 = .ok (.getfield 28, 3) := by decide +kernel
theorem d_Course_open_74 : decode M_Course_open.2.1 74 = .ok (.getfield 88, 3) := by decide +kernel
theorem d_Course_open_77 : decode M_Course_open.2.1 77 = .ok (.iload 5, 2) := by decide +kernel
theorem d_Course_open_79 : decode M_Course_open.2.1 79 = .ok (.iaload, 1) := by decide +kernel
theorem d_Course_open_80 : decode M_Course_open.2.1 80 = .ok (.iastore, 1) := by decide +kernel
theorem d_Course_open_81 : decode M_Course_open.2.1 81 = .ok (.iinc 5 1, 3) := by decide +kernel
theorem d_Course_open_84 : decode M_Course_open.2.1 84 = .ok (.goto (-36), 3) := by decide +kernel
theorem d_Course_open_87 : decode M_Course_open.2.1 87 = .ok (.iconst 0, 1) := by decide +kernel
theorem d_Course_open_88 : decode M_Course_open.2.1 88 = .ok (.istore 5, 2) := by decide +kernel
theorem d_Course_open_90 : decode M_Course_open.2.1 90 = .ok (.iload 5, 2) := by decide +kernel
theorem d_Course_open_92 : decode M_Course_open.2.1 92 = .ok (.aload_n 0, 1) := by decide +kernel
theorem d_Course_open_93 : decode M_Course_open.2.1 93 = .ok (.getfield 12, 3) := by decide +kernel
theorem d_Course_open_96 : decode M_Course_open.2.1 96 = .ok (.getfield 81, 3) := by decide +kernel
theorem d_Course_open_99 : decode M_Course_open.2.1 99 = .ok (.if_icmp .ge 21, 3) := by decide +kernel
theorem d_Course_open_102 : decode M_Course_open.2.1 102 = .ok (.aload_n 0, 1) := by decide +kernel
theorem d_Course_open_103 : decode M_Course_open.2.1 103 = .ok (.iload 5, 2) := by decide +kernel
theorem d_Course_open_105 : decode M_Course_open.2.1 105 = .ok (.invokevirtual 91, 3) := by decide +kernel
theorem d_Course_open_108 : decode M_Course_open.2.1 108 = .ok (.aload_n 0, 1) := by decide +kernel
theorem d_Course_open_109 : decode M_Course_open.2.1 109 = .ok (.iload 5, 2) := by decide +kernel
theorem d_Course_open_111 : decode M_Course_open.2.1 111 = .ok (.invokevirtual 95, 3) := by decide +kernel
theorem d_Course_open_114 : decode M_Course_open.2.1 114 = .ok (.iinc 5 1, 3) := by decide +kernel
theorem d_Course_open_117 : decode M_Course_open.2.1 117 = .ok (.goto (-27), 3) := by decide +kernel
theorem d_Course_open_120 : decode M_Course_open.2.1 120 = .ok (.return_, 1) := by decide +kernel
theorem d_Course_clear_0 : decode M_Course_clear.2.1 0 = .ok (.aload_n 0, 1) := by decide +kernel
theorem d_Course_clear_1 : decode M_Course_clear.2.1 1 = .ok (.getfield 35, 3) := by decide +kernel
theorem d_Course_clear_4 : decode M_Course_clear.2.1 4 = .ok (.iconst 0, 1) := by decide +kernel
theorem d_Course_clear_5 : decode M_Course_clear.2.1 5 = .ok (.putfield 98, 3) := by decide +kernel
theorem d_Course_clear_8 : decode M_Course_clear.2.1 8 = .ok (.aload_n 0, 1) := by decide +kernel
theorem d_Course_clear_9 : decode M_Course_clear.2.1 9 = .ok (.iconst 0, 1) := by decide +kernel
theorem d_Course_clear_10 : decode M_Course_clear.2.1 10 = .ok (.putfield 101, 3) := by decide +kernel
theorem d_Course_clear_13 : decode M_Course_clear.2.1 13 = .ok (.aload_n 0, 1) := by decide +kernel
theorem d_Course_clear_14 : decode M_Course_clear.2.1 14 = .ok (.iconst 0, 1) := by decide +kernel
theorem d_Course_clear_15 : decode M_Course_clear.2.1 15 = .ok (.putfield 104, 3) := by decide +kernel
theorem d_Course_clear_18 : decode M_Course_clear.2.1 18 = .ok (.aload_n 0, 1) := by decide +kernel
theorem d_Course_clear_19 : decode M_Course_clear.2.1 19 = .ok (.getfield 39, 3) := by decide +kernel
theorem d_Course_clear_22 : decode M_Course_clear.2.1 22 = .ok (.iconst 0, 1) := by decide +kernel
theorem d_Course_clear_23 : decode M_Course_clear.2.1 23 = .ok (.invokestatic 107, 3) := by decide +kernel
theorem d_Course_clear_26 : decode M_Course_clear.2.1 26 = .ok (.aload_n 0, 1) := by decide +kernel
theorem d_Course_clear_27 : decode M_Course_clear.2.1 27 = .ok (.getfield 43, 3) := by decide +kernel
theorem d_Course_clear_30 : decode M_Course_clear.2.1 30 = .ok (.iconst 0, 1) := by decide +kernel
theorem d_Course_clear_31 : decode M_Course_clear.2.1 31 = .ok (.invokestatic 107, 3) := by decide +kernel
theorem d_Course_clear_34 : decode M_Course_clear.2.1 34 = .ok (.aload_n 0, 1) := by decide +kernel
theorem d_Course_clear_35 : decode M_Course_clear.2.1 35 = .ok (.getfield 46, 3) := by decide +kernel
theorem d_Course_clear_38 : decode M_Course_clear.2.1 38 = .ok (.iconst 0, 1) := by decide +kernel
theorem d_Course_clear_39 : decode M_Course_clear.2.1 39 = .ok (.invokestatic 107, 3) := by decide +kernel
theorem d_Course_clear_42 : decode M_Course_clear.2.1 42 = .ok (.aload_n 0, 1) := by decide +kernel
theorem d_Course_clear_43 : decode M_Course_clear.2.1 43 = .ok (.getfield 49, 3) := by decide +kernel
theorem d_Course_clear_46 : decode M_Course_clear.2.1 46 = .ok (.iconst 0, 1) := by decide +kernel
theorem d_Course_clear_47 : decode M_Course_clear.2.1 47 = .ok (.invokestatic 107, 3) := by decide +kernel
theorem d_Course_clear_50 : decode M_Course_clear.2.1 50 = .ok (.aload_n 0, 1) := by decide +kernel
theorem d_Course_clear_51 : decode M_Course_clear.2.1 51 = .ok (.getfield 52, 3) := by decide +kernel
theorem d_Course_clear_54 : decode M_Course_clear.2.1 54 = .ok (.iconst 0, 1) := by decide +kernel
theorem d_Course_clear_55 : decode M_Course_clear.2.1 55 = .ok (.invokestatic 107, 3) := by decide +kernel
theorem d_Course_clear_58 : decode M_Course_clear.2.1 58 = .ok (.aload_n 0, 1) := by decide +kernel
theorem d_Course_clear_59 : decode M_Course_clear.2.1 59 = .ok (.getfield 55, 3) := by decide +kernel
theorem d_Course_clear_62 : decode M_Course_clear.2.1 62 = .ok (.iconst 0, 1) := by decide +kernel
theorem d_Course_clear_63 : decode M_Course_clear.2.1 63 = .ok (.invokestatic 107, 3) := by decide +kernel
theorem d_Course_clear_66 : decode M_Course_clear.2.1 66 = .ok (.return_, 1) := by decide +kernel
theorem d_Course_goInStep_0 : decode M_Course_goInStep.2.1 0 = .ok (.iconst 0, 1) := by decide +kernel
theorem d_Course_goInStep_1 : decode M_Course_goInStep.2.1 1 = .ok (.istore_n 1, 1) := by decide +kernel
theorem d_Course_goInStep_2 : decode M_Course_goInStep.2.1 2 = .ok (.iload_n 1, 1) := by decide +kernel
theorem d_Course_goInStep_3 : decode M_Course_goInStep.2.1 3 = .ok (.aload_n 0, 1) := by decide +kernel
theorem d_Course_goInStep_4 : decode M_Course_goInStep.2.1 4 = .ok (.getfield 12, 3) := by decide +kernel
theorem d_Course_goInStep_7 : decode M_Course_goInStep.2.1 7 = .ok (.getfield 81, 3) := by decide +kernel
theorem d_Course_goInStep_10 : decode M_Course_goInStep.2.1 10 = .ok (.if_icmp .ge 28, 3) := by decide +kernel
theorem d_Course_goInStep_13 : decode M_Course_goInStep.2.1 13 = .ok (.aload_n 0, 1) := by decide +kernel
theorem d_Course_goInStep_14 : decode M_Course_goInStep.2.1 14 = .ok (.getfield 61, 3) := by decide +kernel
theorem d_Course_goInStep_17 : decode M_Course_goInStep.2.1 17 = .ok (.iconst 0, 1) := by decide +kernel
theorem d_Course_goInStep_18 : decode M_Course_goInStep.2.1 18 = .ok (.iload_n 1, 1) := by decide +kernel
theorem d_Course_goInStep_19 : decode M_Course_goInStep.2.1 19 = .ok (.invokestatic 84, 3) := by decide +kernel
theorem d_Course_goInStep_22 : decode M_Course_goInStep.2.1 22 = .ok (.aload_n 0, 1) := by decide +kernel
theorem d_Course_goInStep_23 : decode M_Course_goInStep.2.1 23 = .ok (.getfield 28, 3) := by decide +kernel
theorem d_Course_goInStep_26 : decode M_Course_goInStep.2.1 26 = .ok (.getfield 88, 3) := by decide +kernel
theorem d_Course_goInStep_29 : decode M_Course_goInStep.2.1 29 = .ok (.iload_n 1, 1) := by decide +kernel
theorem d_Course_goInStep_30 : decode M_Course_goInStep.2.1 30 = .ok (.iaload, 1) := by decide +kernel
theorem d_Course_goInStep_31 : decode M_Course_goInStep.2.1 31 = .ok (.iastore, 1) := by decide +kernel
theorem d_Course_goInStep_32 : decode M_Course_goInStep.2.1 32 = .ok (.iinc 1 1, 3) := by decide +kernel
theorem d_Course_goInStep_35 : decode M_Course_goInStep.2.1 35 = .ok (.goto (-33), 3) := by decide +kernel
theorem d_Course_goInStep_38 : decode M_Course_goInStep.2.1 38 = .ok (.iconst 1, 1) := by decide +kernel
theorem d_Course_goInStep_39 : decode M_Course_goInStep.2.1 39 = .ok (.istore_n 1, 1) := by decide +kernel
theorem d_Course_goInStep_40 : decode M_Course_goInStep.2.1 40 = .ok (.iload_n 1, 1) := by decide +kernel
theorem d_Course_goInStep_41 : decode M_Course_goInStep.2.1 41 = .ok (.aload_n 0, 1) := by decide +kernel
theorem d_Course_goInStep_42 : decode M_Course_goInStep.2.1 42 = .ok (.getfield 68, 3) := by decide +kernel
theorem d_Course_goInStep_45 : decode M_Course_goInStep.2.1 45 = .ok (.if_icmp .gt 66, 3) := by decide +kernel
theorem d_Course_goInStep_48 : decode M_Course_goInStep.2.1 48 = .ok (.iconst 0, 1) := by decide +kernel
theorem d_Course_goInStep_49 : decode M_Course_goInStep.2.1 49 = .ok (.istore_n 2, 1) := by decide +kernel
theorem d_Course_goInStep_50 : decode M_Course_goInStep.2.1 50 = .ok (.iload_n 2, 1) := by decide +kernel
theorem d_Course_goInStep_51 : decode M_Course_goInStep.2.1 51 = .ok (.aload_n 0, 1) := by decide +kernel
theorem d_Course_goInStep_52 : decode M_Course_goInStep.2.1 52 = .ok (.getfield 12, 3) := by decide +kernel
theorem d_Course_goInStep_55 : decode M_Course_goInStep.2.1 55 = .ok (.getfield 81, 3) := by decide +kernel
theorem d_Course_goInStep_58 : decode M_Course_goInStep.2.1 58 = .ok (.if_icmp .ge 47, 3) := by decide +kernel
theorem d_Course_goInStep_61 : decode M_Course_goInStep.2.1 61 = .ok (.aload_n 0, 1) := by decide +kernel
theorem d_Course_goInStep_62 : decode M_Course_goInStep.2.1 62 = .ok (.iload_n 2, 1) := by decide +kernel
theorem d_Course_goInStep_63 : decode M_Course_goInStep.2.1 63 = .ok (.iload_n 1, 1) := by decide +kernel
theorem d_Course_goInStep_64 : decode M_Course_goInStep.2.1 64 = .ok (.aload_n 0, 1) := by decide +kernel
theorem d_Course_goInStep_65 : decode M_Course_goInStep.2.1 65 = .ok (.getfield 28, 3) := by decide +kernel
theorem d_Course_goInStep_68 : decode M_Course_goInStep.2.1 68 = .ok (.aload_n 0, 1) := by decide +kernel
theorem d_Course_goInStep_69 : decode M_Course_goInStep.2.1 69 = .ok (.getfield 12, 3) := by decide +kernel
theorem d_Course_goInStep_72 : decode M_Course_goInStep.2.1 72 = .ok (.iload_n 2, 1) := by decide +kernel
theorem d_Course_goInStep_73 : decode M_Course_goInStep.2.1 73 = .ok (.iload_n 1, 1) := by decide +kernel
theorem d_Course_goInStep_74 : decode M_Course_goInStep.2.1 74 = .ok (.invokevirtual 113, 3) := by decide +kernel
theorem d_Course_goInStep_77 : decode M_Course_goInStep.2.1 77 = .ok (.invokevirtual 117, 3) := by decide +kernel
theorem d_Course_goInStep_80 : decode M_Course_goInStep.2.1 80 = .ok (.aload_n 0, 1) := by decide +kernel
theorem d_Course_goInStep_81 : decode M_Course_goInStep.2.1 81 = .ok (.getfield 61, 3) := by decide +kernel
theorem d_Course_goInStep_84 : decode M_Course_goInStep.2.1 84 = .ok (.iload_n 1, 1) := by decide +kernel
theorem d_Course_goInStep_85 : decode M_Course_goInStep.2.1 85 = .ok (.iload_n 2, 1) := by decide +kernel
theorem d_Course_goInStep_86 : decode M_Course_goInStep.2.1 86 = .ok (.invokestatic 84, 3) := by decide +kernel
theorem d_Course_goInStep_89 : decode M_Course_goInStep.2.1 89 = .ok (.aload_n 0, 1) := by decide +kernel
theorem d_Course_goInStep_90 : decode M_Course_goInStep.2.1 90 = .ok (.getfield 28, 3) := by decide +kernel
theorem d_Course_goInStep_93 : decode M_Course_goInStep.2.1 93 = .ok (.getfield 88, 3) := by decide +kernel
theorem d_Course_goInStep_96 : decode M_Course_goInStep.2.1 96 = .ok (.iload_n 2, 1) := by decide +kernel
theorem d_Course_goInStep_97 : decode M_Course_goInStep.2.1 97 = .ok (.iaload, 1) := by decide +kernel
theorem d_Course_goInStep_98 : decode M_Course_goInStep.2.1 98 = .ok (.iastore, 1) := by decide +kernel
theorem d_Course_goInStep_99 : decode M_Course_goInStep.2.1 99 = .ok (.iinc 2 1, 3) := by decide +kernel
theorem d_Course_goInStep_102 : decode M_Course_goInStep.2.1 102 = .ok (.goto (-52), 3) := by decide +kernel
theorem d_Course_goInStep_105 : decode M_Course_goInStep.2.1 105 = .ok (.iinc 1 1, 3) := by decide +kernel
theorem d_Course_goInStep_108 : decode M_Course_goInStep.2.1 108 = .ok (.goto (-68), 3) := by decide +kernel
theorem d_Course_goInStep_111 : decode M_Course_goInStep.2.1 111 = .ok (.return_, 1) := by decide +kernel
theorem d_Course_handOut_0 : decode M_Course_handOut.2.1 0 = .ok (.iconst 0, 1) := by decide +kernel
theorem d_Course_handOut_1 : decode M_Course_handOut.2.1 1 = .ok (.istore 4, 2) := by decide +kernel
theorem d_Course_handOut_3 : decode M_Course_handOut.2.1 3 = .ok (.iload 4, 2) := by decide +kernel
theorem d_Course_handOut_5 : decode M_Course_handOut.2.1 5 = .ok (.aload_n 0, 1) := by decide +kernel
theorem d_Course_handOut_6 : decode M_Course_handOut.2.1 6 = .ok (.getfield 12, 3) := by decide +kernel
theorem d_Course_handOut_9 : decode M_Course_handOut.2.1 9 = .ok (.getfield 81, 3) := by decide +kernel
theorem d_Course_handOut_12 : decode M_Course_handOut.2.1 12 = .ok (.if_icmp .ge 44, 3) := by decide +kernel
theorem d_Course_handOut_15 : decode M_Course_handOut.2.1 15 = .ok (.iload_n 3, 1) := by decide +kernel
theorem d_Course_handOut_16 : decode M_Course_handOut.2.1 16 = .ok (.bipush (-2), 2) := by decide +kernel
theorem d_Course_handOut_18 : decode M_Course_handOut.2.1 18 = .ok (.if_icmp .eq 38, 3) := by decide +kernel
theorem d_Course_handOut_21 : decode M_Course_handOut.2.1 21 = .ok (.aload_n 0, 1) := by decide +kernel
theorem d_Course_handOut_22 : decode M_Course_handOut.2.1 22 = .ok (.getfield 12, 3) := by decide +kernel
theorem d_Course_handOut_25 : decode M_Course_handOut.2.1 25 = .ok (.getfield 121, 3) := by decide +kernel
theorem d_Course_handOut_28 : decode M_Course_handOut.2.1 28 = .ok (.iload_n 1, 1) := by decide +kernel
theorem d_Course_handOut_29 : decode M_Course_handOut.2.1 29 = .ok (.iaload, 1) := by decide +kernel
theorem d_Course_handOut_30 : decode M_Course_handOut.2.1 30 = .ok (.iload 4, 2) := by decide +kernel
theorem d_Course_handOut_32 : decode M_Course_handOut.2.1 32 = .ok (.invokestatic 124, 3) := by decide +kernel
theorem d_Course_handOut_35 : decode M_Course_handOut.2.1 35 = .ok (.ifCond .eq 15, 3) := by decide +kernel
theorem d_Course_handOut_38 : decode M_Course_handOut.2.1 38 = .ok (.aload_n 0, 1) := by decide +kernel
theorem d_Course_handOut_39 : decode M_Course_handOut.2.1 39 = .ok (.getfield 28, 3) := by decide +kernel
theorem d_Course_handOut_42 : decode M_Course_handOut.2.1 42 = .ok (.iload_n 1, 1) := by decide +kernel
theorem d_Course_handOut_43 : decode M_Course_handOut.2.1 43 = .ok (.iload 4, 2) := by decide +kernel
theorem d_Course_handOut_45 : decode M_Course_handOut.2.1 45 = .ok (.iload_n 2, 1) := by decide +kernel
theorem d_Course_handOut_46 : decode M_Course_handOut.2.1 46 = .ok (.iload_n 3, 1) := by decide +kernel
theorem d_Course_handOut_47 : decode M_Course_handOut.2.1 47 = .ok (.invokevirtual 128, 3) := by decide +kernel
theorem d_Course_handOut_50 : decode M_Course_handOut.2.1 50 = .ok (.iinc 4 1, 3) := by decide +kernel
theorem d_Course_handOut_53 : decode M_Course_handOut.2.1 53 = .ok (.goto (-50), 3) := by decide +kernel
theorem d_Course_handOut_56 : decode M_Course_handOut.2.1 56 = .ok (.return_, 1) := by decide +kernel
theorem d_Course_bring_0 : decode M_Course_bring.2.1 0 = .ok (.aload_n 0, 1) := by decide +kernel
theorem d_Course_bring_1 : decode M_Course_bring.2.1 1 = .ok (.getfield 35, 3) := by decide +kernel
theorem d_Course_bring_4 : decode M_Course_bring.2.1 4 = .ok (.getfield 132, 3) := by decide +kernel
theorem d_Course_bring_7 : decode M_Course_bring.2.1 7 = .ok (.iload_n 1, 1) := by decide +kernel
theorem d_Course_bring_8 : decode M_Course_bring.2.1 8 = .ok (.iaload, 1) := by decide +kernel
theorem d_Course_bring_9 : decode M_Course_bring.2.1 9 = .ok (.istore_n 2, 1) := by decide +kernel
theorem d_Course_bring_10 : decode M_Course_bring.2.1 10 = .ok (.aload_n 0, 1) := by decide +kernel
theorem d_Course_bring_11 : decode M_Course_bring.2.1 11 = .ok (.getfield 35, 3) := by decide +kernel
theorem d_Course_bring_14 : decode M_Course_bring.2.1 14 = .ok (.getfield 135, 3) := by decide +kernel
theorem d_Course_bring_17 : decode M_Course_bring.2.1 17 = .ok (.iload_n 1, 1) := by decide +kernel
theorem d_Course_bring_18 : decode M_Course_bring.2.1 18 = .ok (.iaload, 1) := by decide +kernel
theorem d_Course_bring_19 : decode M_Course_bring.2.1 19 = .ok (.istore_n 3, 1) := by decide +kernel
theorem d_Course_bring_20 : decode M_Course_bring.2.1 20 = .ok (.aload_n 0, 1) := by decide +kernel
theorem d_Course_bring_21 : decode M_Course_bring.2.1 21 = .ok (.getfield 35, 3) := by decide +kernel
theorem d_Course_bring_24 : decode M_Course_bring.2.1 24 = .ok (.getfield 138, 3) := by decide +kernel
theorem d_Course_bring_27 : decode M_Course_bring.2.1 27 = .ok (.iload_n 1, 1) := by decide +kernel
theorem d_Course_bring_28 : decode M_Course_bring.2.1 28 = .ok (.iaload, 1) := by decide +kernel
theorem d_Course_bring_29 : decode M_Course_bring.2.1 29 = .ok (.istore 4, 2) := by decide +kernel
theorem d_Course_bring_31 : decode M_Course_bring.2.1 31 = .ok (.aload_n 0, 1) := by decide +kernel
theorem d_Course_bring_32 : decode M_Course_bring.2.1 32 = .ok (.getfield 35, 3) := by decide +kernel
theorem d_Course_bring_35 : decode M_Course_bring.2.1 35 = .ok (.getfield 141, 3) := by decide +kernel
theorem d_Course_bring_38 : decode M_Course_bring.2.1 38 = .ok (.iload_n 1, 1) := by decide +kernel
theorem d_Course_bring_39 : decode M_Course_bring.2.1 39 = .ok (.iaload, 1) := by decide +kernel
theorem d_Course_bring_40 : decode M_Course_bring.2.1 40 = .ok (.istore 5, 2) := by decide +kernel
theorem d_Course_bring_42 : decode M_Course_bring.2.1 42 = .ok (.aload_n 0, 1) := by decide +kernel
theorem d_Course_bring_43 : decode M_Course_bring.2.1 43 = .ok (.getfield 35, 3) := by decide +kernel
theorem d_Course_bring_46 : decode M_Course_bring.2.1 46 = .ok (.getfield 143, 3) := by decide +kernel
theorem d_Course_bring_49 : decode M_Course_bring.2.1 49 = .ok (.iload_n 1, 1) := by decide +kernel
theorem d_Course_bring_50 : decode M_Course_bring.2.1 50 = .ok (.iaload, 1) := by decide +kernel
theorem d_Course_bring_51 : decode M_Course_bring.2.1 51 = .ok (.istore 6, 2) := by decide +kernel
theorem d_Course_bring_53 : decode M_Course_bring.2.1 53 = .ok (.aload_n 0, 1) := by decide +kernel
theorem d_Course_bring_54 : decode M_Course_bring.2.1 54 = .ok (.getfield 35, 3) := by decide +kernel
theorem d_Course_bring_57 : decode M_Course_bring.2.1 57 = .ok (.iload_n 1, 1) := by decide +kernel
theorem d_Course_bring_58 : decode M_Course_bring.2.1 58 = .ok (.invokevirtual 146, 3) := by decide +kernel
theorem d_Course_bring_61 : decode M_Course_bring.2.1 61 = .ok (.iload_n 2, 1) := by decide +kernel
theorem d_Course_bring_62 : decode M_Course_bring.2.1 62 = .ok (.tableswitch 135 0 5 #[38, 68, 82, 103, 117, 126], 38) := by decide +kernel
theorem d_Course_bring_100 : decode M_Course_bring.2.1 100 = .ok (.aload_n 0, 1) := by decide +kernel
theorem d_Course_bring_101 : decode M_Course_bring.2.1 101 = .ok (.getfield 28, 3) := by decide +kernel
theorem d_Course_bring_104 : decode M_Course_bring.2.1 104 = .ok (.iload_n 3, 1) := by decide +kernel
theorem d_Course_bring_105 : decode M_Course_bring.2.1 105 = .ok (.iload 4, 2) := by decide +kernel
theorem d_Course_bring_107 : decode M_Course_bring.2.1 107 = .ok (.iload 5, 2) := by decide +kernel
theorem d_Course_bring_109 : decode M_Course_bring.2.1 109 = .ok (.iload 6, 2) := by decide +kernel
theorem d_Course_bring_111 : decode M_Course_bring.2.1 111 = .ok (.invokevirtual 128, 3) := by decide +kernel
theorem d_Course_bring_114 : decode M_Course_bring.2.1 114 = .ok (.aload_n 0, 1) := by decide +kernel
theorem d_Course_bring_115 : decode M_Course_bring.2.1 115 = .ok (.iconst 1, 1) := by decide +kernel
theorem d_Course_bring_116 : decode M_Course_bring.2.1 116 = .ok (.iload 4, 2) := by decide +kernel
theorem d_Course_bring_118 : decode M_Course_bring.2.1 118 = .ok (.iconst 1, 1) := by decide +kernel
theorem d_Course_bring_119 : decode M_Course_bring.2.1 119 = .ok (.iload_n 3, 1) := by decide +kernel
theorem d_Course_bring_120 : decode M_Course_bring.2.1 120 = .ok (.ishl, 1) := by decide +kernel
theorem d_Course_bring_121 : decode M_Course_bring.2.1 121 = .ok (.iload 5, 2) := by decide +kernel
theorem d_Course_bring_123 : decode M_Course_bring.2.1 123 = .ok (.iconst 0, 1) := by decide +kernel
theorem d_Course_bring_124 : decode M_Course_bring.2.1 124 = .ok (.invokevirtual 149, 3) := by decide +kernel
theorem d_Course_bring_127 : decode M_Course_bring.2.1 127 = .ok (.goto 81, 3) := by decide +kernel
theorem d_Course_bring_130 : decode M_Course_bring.2.1 130 = .ok (.aload_n 0, 1) := by decide +kernel
theorem d_Course_bring_131 : decode M_Course_bring.2.1 131 = .ok (.getfield 46, 3) := by decide +kernel
theorem d_Course_bring_134 : decode M_Course_bring.2.1 134 = .ok (.iload 4, 2) := by decide +kernel
theorem d_Course_bring_136 : decode M_Course_bring.2.1 136 = .ok (.dup2, 1) := by decide +kernel
theorem d_Course_bring_137 : decode M_Course_bring.2.1 137 = .ok (.iaload, 1) := by decide +kernel
theorem d_Course_bring_138 : decode M_Course_bring.2.1 138 = .ok (.iconst 1, 1) := by decide +kernel
theorem d_Course_bring_139 : decode M_Course_bring.2.1 139 = .ok (.isub, 1) := by decide +kernel
theorem d_Course_bring_140 : decode M_Course_bring.2.1 140 = .ok (.iastore, 1) := by decide +kernel
theorem d_Course_bring_141 : decode M_Course_bring.2.1 141 = .ok (.goto 67, 3) := by decide +kernel
theorem d_Course_bring_144 : decode M_Course_bring.2.1 144 = .ok (.aload_n 0, 1) := by decide +kernel
theorem d_Course_bring_145 : decode M_Course_bring.2.1 145 = .ok (.getfield 55, 3) := by decide +kernel
theorem d_Course_bring_148 : decode M_Course_bring.2.1 148 = .ok (.iload 5, 2) := by decide +kernel
theorem d_Course_bring_150 : decode M_Course_bring.2.1 150 = .ok (.iconst 1, 1) := by decide +kernel
theorem d_Course_bring_151 : decode M_Course_bring.2.1 151 = .ok (.iand, 1) := by decide +kernel
theorem d_Course_bring_152 : decode M_Course_bring.2.1 152 = .ok (.iload 4, 2) := by decide +kernel
theorem d_Course_bring_154 : decode M_Course_bring.2.1 154 = .ok (.invokestatic 84, 3) := by decide +kernel
theorem d_Course_bring_157 : decode M_Course_bring.2.1 157 = .ok (.dup2, 1) := by decide +kernel
theorem d_Course_bring_158 : decode M_Course_bring.2.1 158 = .ok (.iaload, 1) := by decide +kernel
theorem d_Course_bring_159 : decode M_Course_bring.2.1 159 = .ok (.iconst 1, 1) := by decide +kernel
theorem d_Course_bring_160 : decode M_Course_bring.2.1 160 = .ok (.iadd, 1) := by decide +kernel
theorem d_Course_bring_161 : decode M_Course_bring.2.1 161 = .ok (.iastore, 1) := by decide +kernel
theorem d_Course_bring_162 : decode M_Course_bring.2.1 162 = .ok (.goto 46, 3) := by decide +kernel
theorem d_Course_bring_165 : decode M_Course_bring.2.1 165 = .ok (.aload_n 0, 1) := by decide +kernel
theorem d_Course_bring_166 : decode M_Course_bring.2.1 166 = .ok (.getfield 49, 3) := by decide +kernel
theorem d_Course_bring_169 : decode M_Course_bring.2.1 169 = .ok (.iload 4, 2) := by decide +kernel
theorem d_Course_bring_171 : decode M_Course_bring.2.1 171 = .ok (.dup2, 1) := by decide +kernel
theorem d_Course_bring_172 : decode M_Course_bring.2.1 172 = .ok (.iaload, 1) := by decide +kernel
theorem d_Course_bring_173 : decode M_Course_bring.2.1 173 = .ok (.iconst 1, 1) := by decide +kernel
theorem d_Course_bring_174 : decode M_Course_bring.2.1 174 = .ok (.iadd, 1) := by decide +kernel
theorem d_Course_bring_175 : decode M_Course_bring.2.1 175 = .ok (.iastore, 1) := by decide +kernel
theorem d_Course_bring_176 : decode M_Course_bring.2.1 176 = .ok (.goto 32, 3) := by decide +kernel
theorem d_Course_bring_179 : decode M_Course_bring.2.1 179 = .ok (.aload_n 0, 1) := by decide +kernel
theorem d_Course_bring_180 : decode M_Course_bring.2.1 180 = .ok (.iload 4, 2) := by decide +kernel
theorem d_Course_bring_182 : decode M_Course_bring.2.1 182 = .ok (.invokevirtual 91, 3) := by decide +kernel
theorem d_Course_bring_185 : decode M_Course_bring.2.1 185 = .ok (.goto 23, 3) := by decide +kernel
theorem d_Course_bring_188 : decode M_Course_bring.2.1 188 = .ok (.aload_n 0, 1) := by decide +kernel
theorem d_Course_bring_189 : decode M_Course_bring.2.1 189 = .ok (.iload 4, 2) := by decide +kernel
theorem d_Course_bring_191 : decode M_Course_bring.2.1 191 = .ok (.invokevirtual 153, 3) := by decide +kernel
theorem d_Course_bring_194 : decode M_Course_bring.2.1 194 = .ok (.goto 14, 3) := by decide +kernel
theorem d_Course_bring_197 : decode M_Course_bring.2.1 197 = .ok (.aload_n 0, 1) := by decide +kernel
theorem d_Course_bring_198 : decode M_Course_bring.2.1 198 = .ok (.getfield 52, 3) := by decide +kernel
theorem d_Course_bring_201 : decode M_Course_bring.2.1 201 = .ok (.iload 4, 2) := by decide +kernel
theorem d_Course_bring_203 : decode M_Course_bring.2.1 203 = .ok (.dup2, 1) := by decide +kernel
theorem d_Course_bring_204 : decode M_Course_bring.2.1 204 = .ok (.iaload, 1) := by decide +kernel
theorem d_Course_bring_205 : decode M_Course_bring.2.1 205 = .ok (.iconst 1, 1) := by decide +kernel
theorem d_Course_bring_206 : decode M_Course_bring.2.1 206 = .ok (.iadd, 1) := by decide +kernel
theorem d_Course_bring_207 : decode M_Course_bring.2.1 207 = .ok (.iastore, 1) := by decide +kernel
theorem d_Course_bring_208 : decode M_Course_bring.2.1 208 = .ok (.aload_n 0, 1) := by decide +kernel
theorem d_Course_bring_209 : decode M_Course_bring.2.1 209 = .ok (.iload 4, 2) := by decide +kernel
theorem d_Course_bring_211 : decode M_Course_bring.2.1 211 = .ok (.invokevirtual 95, 3) := by decide +kernel
theorem d_Course_bring_214 : decode M_Course_bring.2.1 214 = .ok (.iload_n 2, 1) := by decide +kernel
theorem d_Course_bring_215 : decode M_Course_bring.2.1 215 = .ok (.ireturn, 1) := by decide +kernel
theorem d_Course_send_0 : decode M_Course_send.2.1 0 = .ok (.iconst 0, 1) := by decide +kernel
theorem d_Course_send_1 : decode M_Course_send.2.1 1 = .ok (.istore 6, 2) := by decide +kernel
theorem d_Course_send_3 : decode M_Course_send.2.1 3 = .ok (.iload 6, 2) := by decide +kernel
theorem d_Course_send_5 : decode M_Course_send.2.1 5 = .ok (.aload_n 0, 1) := by decide +kernel
theorem d_Course_send_6 : decode M_Course_send.2.1 6 = .ok (.getfield 12, 3) := by decide +kernel
theorem d_Course_send_9 : decode M_Course_send.2.1 9 = .ok (.getfield 81, 3) := by decide +kernel
theorem d_Course_send_12 : decode M_Course_send.2.1 12 = .ok (.if_icmp .ge 69, 3) := by decide +kernel
theorem d_Course_send_15 : decode M_Course_send.2.1 15 = .ok (.iload_n 3, 1) := by decide +kernel
theorem d_Course_send_16 : decode M_Course_send.2.1 16 = .ok (.iload 6, 2) := by decide +kernel
theorem d_Course_send_18 : decode M_Course_send.2.1 18 = .ok (.invokestatic 124, 3) := by decide +kernel
theorem d_Course_send_21 : decode M_Course_send.2.1 21 = .ok (.ifCond .eq 54, 3) := by decide +kernel
theorem d_Course_send_24 : decode M_Course_send.2.1 24 = .ok (.aload_n 0, 1) := by decide +kernel
theorem d_Course_send_25 : decode M_Course_send.2.1 25 = .ok (.getfield 35, 3) := by decide +kernel
theorem d_Course_send_28 : decode M_Course_send.2.1 28 = .ok (.iload_n 1, 1) := by decide +kernel
theorem d_Course_send_29 : decode M_Course_send.2.1 29 = .ok (.iload_n 2, 1) := by decide +kernel
theorem d_Course_send_30 : decode M_Course_send.2.1 30 = .ok (.iload 6, 2) := by decide +kernel
theorem d_Course_send_32 : decode M_Course_send.2.1 32 = .ok (.iload 4, 2) := by decide +kernel
theorem d_Course_send_34 : decode M_Course_send.2.1 34 = .ok (.iload 5, 2) := by decide +kernel
theorem d_Course_send_36 : decode M_Course_send.2.1 36 = .ok (.invokevirtual 156, 3) := by decide +kernel
theorem d_Course_send_39 : decode M_Course_send.2.1 39 = .ok (.aload_n 0, 1) := by decide +kernel
theorem d_Course_send_40 : decode M_Course_send.2.1 40 = .ok (.dup, 1) := by decide +kernel
theorem d_Course_send_41 : decode M_Course_send.2.1 41 = .ok (.getfield 101, 3) := by decide +kernel
theorem d_Course_send_44 : decode M_Course_send.2.1 44 = .ok (.iload_n 1, 1) := by decide +kernel
theorem d_Course_send_45 : decode M_Course_send.2.1 45 = .ok (.ifCond .ne 7, 3) := by decide +kernel
theorem d_Course_send_48 : decode M_Course_send.2.1 48 = .ok (.iconst 1, 1) := by decide +kernel
theorem d_Course_send_49 : decode M_Course_send.2.1 49 = .ok (.goto 4, 3) := by decide +kernel
theorem d_Course_send_52 : decode M_Course_send.2.1 52 = .ok (.iconst 0, 1) := by decide +kernel
theorem d_Course_send_53 : decode M_Course_send.2.1 53 = .ok (.iadd, 1) := by decide +kernel
theorem d_Course_send_54 : decode M_Course_send.2.1 54 = .ok (.putfield 101, 3) := by decide +kernel
theorem d_Course_send_57 : decode M_Course_send.2.1 57 = .ok (.aload_n 0, 1) := by decide +kernel
theorem d_Course_send_58 : decode M_Course_send.2.1 58 = .ok (.dup, 1) := by decide +kernel
theorem d_Course_send_59 : decode M_Course_send.2.1 59 = .ok (.getfield 104, 3) := by decide +kernel
theorem d_Course_send_62 : decode M_Course_send.2.1 62 = .ok (.iload_n 1, 1) := by decide +kernel
theorem d_Course_send_63 : decode M_Course_send.2.1 63 = .ok (.ifCond .ne 7, 3) := by decide +kernel
theorem d_Course_send_66 : decode M_Course_send.2.1 66 = .ok (.iconst 0, 1) := by decide +kernel
theorem d_Course_send_67 : decode M_Course_send.2.1 67 = .ok (.goto 4, 3) := by decide +kernel
theorem d_Course_send_70 : decode M_Course_send.2.1 70 = .ok (.iconst 1, 1) := by decide +kernel
theorem d_Course_send_71 : decode M_Course_send.2.1 71 = .ok (.iadd, 1) := by decide +kernel
theorem d_Course_send_72 : decode M_Course_send.2.1 72 = .ok (.putfield 104, 3) := by decide +kernel
theorem d_Course_send_75 : decode M_Course_send.2.1 75 = .ok (.iinc 6 1, 3) := by decide +kernel
theorem d_Course_send_78 : decode M_Course_send.2.1 78 = .ok (.goto (-75), 3) := by decide +kernel
theorem d_Course_send_81 : decode M_Course_send.2.1 81 = .ok (.return_, 1) := by decide +kernel
theorem d_Course_push_0 : decode M_Course_push.2.1 0 = .ok (.iconst 0, 1) := by decide +kernel
theorem d_Course_push_1 : decode M_Course_push.2.1 1 = .ok (.istore_n 2, 1) := by decide +kernel
theorem d_Course_push_2 : decode M_Course_push.2.1 2 = .ok (.iload_n 2, 1) := by decide +kernel
theorem d_Course_push_3 : decode M_Course_push.2.1 3 = .ok (.aload_n 0, 1) := by decide +kernel
theorem d_Course_push_4 : decode M_Course_push.2.1 4 = .ok (.getfield 68, 3) := by decide +kernel
theorem d_Course_push_7 : decode M_Course_push.2.1 7 = .ok (.if_icmp .ge 69, 3) := by decide +kernel
theorem d_Course_push_10 : decode M_Course_push.2.1 10 = .ok (.aload_n 0, 1) := by decide +kernel
theorem d_Course_push_11 : decode M_Course_push.2.1 11 = .ok (.getfield 64, 3) := by decide +kernel
theorem d_Course_push_14 : decode M_Course_push.2.1 14 = .ok (.ifCond .ne 11, 3) := by decide +kernel
theorem d_Course_push_17 : decode M_Course_push.2.1 17 = .ok (.aload_n 0, 1) := by decide +kernel
theorem d_Course_push_18 : decode M_Course_push.2.1 18 = .ok (.iload_n 1, 1) := by decide +kernel
theorem d_Course_push_19 : decode M_Course_push.2.1 19 = .ok (.invokevirtual 159, 3) := by decide +kernel
theorem d_Course_push_22 : decode M_Course_push.2.1 22 = .ok (.goto 24, 3) := by decide +kernel
theorem d_Course_push_25 : decode M_Course_push.2.1 25 = .ok (.aload_n 0, 1) := by decide +kernel
theorem d_Course_push_26 : decode M_Course_push.2.1 26 = .ok (.getfield 64, 3) := by decide +kernel
theorem d_Course_push_29 : decode M_Course_push.2.1 29 = .ok (.iconst 1, 1) := by decide +kernel
theorem d_Course_push_30 : decode M_Course_push.2.1 30 = .ok (.if_icmp .ne 11, 3) := by decide +kernel
theorem d_Course_push_33 : decode M_Course_push.2.1 33 = .ok (.aload_n 0, 1) := by decide +kernel
theorem d_Course_push_34 : decode M_Course_push.2.1 34 = .ok (.iload_n 1, 1) := by decide +kernel
theorem d_Course_push_35 : decode M_Course_push.2.1 35 = .ok (.invokevirtual 163, 3) := by decide +kernel
theorem d_Course_push_38 : decode M_Course_push.2.1 38 = .ok (.goto 8, 3) := by decide +kernel
theorem d_Course_push_41 : decode M_Course_push.2.1 41 = .ok (.aload_n 0, 1) := by decide +kernel
theorem d_Course_push_42 : decode M_Course_push.2.1 42 = .ok (.iload_n 1, 1) := by decide +kernel
theorem d_Course_push_43 : decode M_Course_push.2.1 43 = .ok (.invokevirtual 166, 3) := by decide +kernel
theorem d_Course_push_46 : decode M_Course_push.2.1 46 = .ok (.istore_n 3, 1) := by decide +kernel
theorem d_Course_push_47 : decode M_Course_push.2.1 47 = .ok (.iload_n 3, 1) := by decide +kernel
theorem d_Course_push_48 : decode M_Course_push.2.1 48 = .ok (.ifCond .eq 16, 3) := by decide +kernel
theorem d_Course_push_51 : decode M_Course_push.2.1 51 = .ok (.aload_n 0, 1) := by decide +kernel
theorem d_Course_push_52 : decode M_Course_push.2.1 52 = .ok (.getfield 39, 3) := by decide +kernel
theorem d_Course_push_55 : decode M_Course_push.2.1 55 = .ok (.iload_n 1, 1) := by decide +kernel
theorem d_Course_push_56 : decode M_Course_push.2.1 56 = .ok (.iaload, 1) := by decide +kernel
theorem d_Course_push_57 : decode M_Course_push.2.1 57 = .ok (.aload_n 0, 1) := by decide +kernel
theorem d_Course_push_58 : decode M_Course_push.2.1 58 = .ok (.getfield 68, 3) := by decide +kernel
theorem d_Course_push_61 : decode M_Course_push.2.1 61 = .ok (.if_icmp .lt 4, 3) := by decide +kernel
theorem d_Course_push_64 : decode M_Course_push.2.1 64 = .ok (.return_, 1) := by decide +kernel
theorem d_Course_push_65 : decode M_Course_push.2.1 65 = .ok (.aload_n 0, 1) := by decide +kernel
theorem d_Course_push_66 : decode M_Course_push.2.1 66 = .ok (.iload_n 1, 1) := by decide +kernel
theorem d_Course_push_67 : decode M_Course_push.2.1 67 = .ok (.invokevirtual 91, 3) := by decide +kernel
theorem d_Course_push_70 : decode M_Course_push.2.1 70 = .ok (.iinc 2 1, 3) := by decide +kernel
theorem d_Course_push_73 : decode M_Course_push.2.1 73 = .ok (.goto (-71), 3) := by decide +kernel
theorem d_Course_push_76 : decode M_Course_push.2.1 76 = .ok (.return_, 1) := by decide +kernel
