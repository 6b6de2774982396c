theorem d_Mo_bits_0 : decode M_Mo_bits.2.1 0 = .ok (.iconst 0, 1) := by decide +kernel
theorem d_Mo_bits_1 : decode M_Mo_bits.2.1 1 = .ok (.istore_n 2, 1) := by decide +kernel
theorem d_Mo_bits_2 : decode M_Mo_bits.2.1 2 = .ok (.iconst 0, 1) := by decide +kernel
theorem d_Mo_bits_3 : decode M_Mo_bits.2.1 3 = .ok (.istore_n 3, 1) := by decide +kernel
theorem d_Mo_bits_4 : decode M_Mo_bits.2.1 4 = .ok (.iload_n 3, 1) := by decide +kernel
theorem d_Mo_bits_5 : decode M_Mo_bits.2.1 5 = .ok (.aload_n 0, 1) := by decide +kernel
theorem d_Mo_bits_6 : decode M_Mo_bits.2.1 6 = .ok (.getfield 84, 3) := by decide +kernel
theorem d_Mo_bits_9 : decode M_Mo_bits.2.1 9 = .ok (.if_icmp .ge 17, 3) := by decide +kernel
theorem d_Mo_bits_12 : decode M_Mo_bits.2.1 12 = .ok (.iload_n 2, 1) := by decide +kernel
theorem d_Mo_bits_13 : decode M_Mo_bits.2.1 13 = .ok (.iload_n 1, 1) := by decide +kernel
theorem d_Mo_bits_14 : decode M_Mo_bits.2.1 14 = .ok (.iload_n 3, 1) := by decide +kernel
theorem d_Mo_bits_15 : decode M_Mo_bits.2.1 15 = .ok (.ishr, 1) := by decide +kernel
theorem d_Mo_bits_16 : decode M_Mo_bits.2.1 16 = .ok (.iconst 1, 1) := by decide +kernel
theorem d_Mo_bits_17 : decode M_Mo_bits.2.1 17 = .ok (.iand, 1) := by decide +kernel
theorem d_Mo_bits_18 : decode M_Mo_bits.2.1 18 = .ok (.iadd, 1) := by decide +kernel
theorem d_Mo_bits_19 : decode M_Mo_bits.2.1 19 = .ok (.istore_n 2, 1) := by decide +kernel
theorem d_Mo_bits_20 : decode M_Mo_bits.2.1 20 = .ok (.iinc 3 1, 3) := by decide +kernel
theorem d_Mo_bits_23 : decode M_Mo_bits.2.1 23 = .ok (.goto (-19), 3) := by decide +kernel
theorem d_Mo_bits_26 : decode M_Mo_bits.2.1 26 = .ok (.iload_n 2, 1) := by decide +kernel
theorem d_Mo_bits_27 : decode M_Mo_bits.2.1 27 = .ok (.ireturn, 1) := by decide +kernel
theorem d_Mo_around_0 : decode M_Mo_around.2.1 0 = .ok (.iconst 0, 1) := by decide +kernel
theorem d_Mo_around_1 : decode M_Mo_around.2.1 1 = .ok (.istore_n 3, 1) := by decide +kernel
theorem d_Mo_around_2 : decode M_Mo_around.2.1 2 = .ok (.iconst 0, 1) := by decide +kernel
theorem d_Mo_around_3 : decode M_Mo_around.2.1 3 = .ok (.istore 4, 2) := by decide +kernel
theorem d_Mo_around_5 : decode M_Mo_around.2.1 5 = .ok (.iload 4, 2) := by decide +kernel
theorem d_Mo_around_7 : decode M_Mo_around.2.1 7 = .ok (.aload_n 0, 1) := by decide +kernel
theorem d_Mo_around_8 : decode M_Mo_around.2.1 8 = .ok (.getfield 84, 3) := by decide +kernel
theorem d_Mo_around_11 : decode M_Mo_around.2.1 11 = .ok (.if_icmp .ge 59, 3) := by decide +kernel
theorem d_Mo_around_14 : decode M_Mo_around.2.1 14 = .ok (.iconst 0, 1) := by decide +kernel
theorem d_Mo_around_15 : decode M_Mo_around.2.1 15 = .ok (.istore 5, 2) := by decide +kernel
theorem d_Mo_around_17 : decode M_Mo_around.2.1 17 = .ok (.iload 5, 2) := by decide +kernel
theorem d_Mo_around_19 : decode M_Mo_around.2.1 19 = .ok (.aload_n 0, 1) := by decide +kernel
theorem d_Mo_around_20 : decode M_Mo_around.2.1 20 = .ok (.getfield 84, 3) := by decide +kernel
theorem d_Mo_around_23 : decode M_Mo_around.2.1 23 = .ok (.if_icmp .ge 41, 3) := by decide +kernel
theorem d_Mo_around_26 : decode M_Mo_around.2.1 26 = .ok (.iload_n 1, 1) := by decide +kernel
theorem d_Mo_around_27 : decode M_Mo_around.2.1 27 = .ok (.iload 4, 2) := by decide +kernel
theorem d_Mo_around_29 : decode M_Mo_around.2.1 29 = .ok (.ishr, 1) := by decide +kernel
theorem d_Mo_around_30 : decode M_Mo_around.2.1 30 = .ok (.iconst 1, 1) := by decide +kernel
theorem d_Mo_around_31 : decode M_Mo_around.2.1 31 = .ok (.iand, 1) := by decide +kernel
theorem d_Mo_around_32 : decode M_Mo_around.2.1 32 = .ok (.iconst 1, 1) := by decide +kernel
theorem d_Mo_around_33 : decode M_Mo_around.2.1 33 = .ok (.if_icmp .ne 23, 3) := by decide +kernel
theorem d_Mo_around_36 : decode M_Mo_around.2.1 36 = .ok (.aload_n 0, 1) := by decide +kernel
theorem d_Mo_around_37 : decode M_Mo_around.2.1 37 = .ok (.iload 4, 2) := by decide +kernel
theorem d_Mo_around_39 : decode M_Mo_around.2.1 39 = .ok (.iload 5, 2) := by decide +kernel
theorem d_Mo_around_41 : decode M_Mo_around.2.1 41 = .ok (.invokevirtual 99, 3) := by decide +kernel
theorem d_Mo_around_44 : decode M_Mo_around.2.1 44 = .ok (.ifCond .eq 12, 3) := by decide +kernel
theorem d_Mo_around_47 : decode M_Mo_around.2.1 47 = .ok (.iload_n 3, 1) := by decide +kernel
theorem d_Mo_around_48 : decode M_Mo_around.2.1 48 = .ok (.iconst 1, 1) := by decide +kernel
theorem d_Mo_around_49 : decode M_Mo_around.2.1 49 = .ok (.iload 5, 2) := by decide +kernel
theorem d_Mo_around_51 : decode M_Mo_around.2.1 51 = .ok (.ishl, 1) := by decide +kernel
theorem d_Mo_around_52 : decode M_Mo_around.2.1 52 = .ok (.ior, 1) := by decide +kernel
theorem d_Mo_around_53 : decode M_Mo_around.2.1 53 = .ok (.goto 4, 3) := by decide +kernel
theorem d_Mo_around_56 : decode M_Mo_around.2.1 56 = .ok (.iload_n 3, 1) := by decide +kernel
theorem d_Mo_around_57 : decode M_Mo_around.2.1 57 = .ok (.istore_n 3, 1) := by decide +kernel
theorem d_Mo_around_58 : decode M_Mo_around.2.1 58 = .ok (.iinc 5 1, 3) := by decide +kernel
theorem d_Mo_around_61 : decode M_Mo_around.2.1 61 = .ok (.goto (-44), 3) := by decide +kernel
theorem d_Mo_around_64 : decode M_Mo_around.2.1 64 = .ok (.iinc 4 1, 3) := by decide +kernel
theorem d_Mo_around_67 : decode M_Mo_around.2.1 67 = .ok (.goto (-62), 3) := by decide +kernel
theorem d_Mo_around_70 : decode M_Mo_around.2.1 70 = .ok (.iload_n 3, 1) := by decide +kernel
theorem d_Mo_around_71 : decode M_Mo_around.2.1 71 = .ok (.iload_n 2, 1) := by decide +kernel
theorem d_Mo_around_72 : decode M_Mo_around.2.1 72 = .ok (.iand, 1) := by decide +kernel
theorem d_Mo_around_73 : decode M_Mo_around.2.1 73 = .ok (.ireturn, 1) := by decide +kernel
theorem d_Mo_makeClusters_0 : decode M_Mo_makeClusters.2.1 0 = .ok (.iconst 1, 1) := by decide +kernel
theorem d_Mo_makeClusters_1 : decode M_Mo_makeClusters.2.1 1 = .ok (.aload_n 0, 1) := by decide +kernel
theorem d_Mo_makeClusters_2 : decode M_Mo_makeClusters.2.1 2 = .ok (.getfield 84, 3) := by decide +kernel
theorem d_Mo_makeClusters_5 : decode M_Mo_makeClusters.2.1 5 = .ok (.ishl, 1) := by decide +kernel
theorem d_Mo_makeClusters_6 : decode M_Mo_makeClusters.2.1 6 = .ok (.iconst 1, 1) := by decide +kernel
theorem d_Mo_makeClusters_7 : decode M_Mo_makeClusters.2.1 7 = .ok (.isub, 1) := by decide +kernel
theorem d_Mo_makeClusters_8 : decode M_Mo_makeClusters.2.1 8 = .ok (.istore_n 2, 1) := by decide +kernel
theorem d_Mo_makeClusters_9 : decode M_Mo_makeClusters.2.1 9 = .ok (.aload_n 0, 1) := by decide +kernel
theorem d_Mo_makeClusters_10 : decode M_Mo_makeClusters.2.1 10 = .ok (.iconst 0, 1) := by decide +kernel
theorem d_Mo_makeClusters_11 : decode M_Mo_makeClusters.2.1 11 = .ok (.putfield 103, 3) := by decide +kernel
theorem d_Mo_makeClusters_14 : decode M_Mo_makeClusters.2.1 14 = .ok (.iload_n 2, 1) := by decide +kernel
theorem d_Mo_makeClusters_15 : decode M_Mo_makeClusters.2.1 15 = .ok (.ifCond .eq 110, 3) := by decide +kernel
theorem d_Mo_makeClusters_18 : decode M_Mo_makeClusters.2.1 18 = .ok (.iconst 0, 1) := by decide +kernel
theorem d_Mo_makeClusters_19 : decode M_Mo_makeClusters.2.1 19 = .ok (.istore_n 3, 1) := by decide +kernel
theorem d_Mo_makeClusters_20 : decode M_Mo_makeClusters.2.1 20 = .ok (.iload_n 2, 1) := by decide +kernel
theorem d_Mo_makeClusters_21 : decode M_Mo_makeClusters.2.1 21 = .ok (.iload_n 3, 1) := by decide +kernel
theorem d_Mo_makeClusters_22 : decode M_Mo_makeClusters.2.1 22 = .ok (.ishr, 1) := by decide +kernel
theorem d_Mo_makeClusters_23 : decode M_Mo_makeClusters.2.1 23 = .ok (.iconst 1, 1) := by decide +kernel
theorem d_Mo_makeClusters_24 : decode M_Mo_makeClusters.2.1 24 = .ok (.iand, 1) := by decide +kernel
theorem d_Mo_makeClusters_25 : decode M_Mo_makeClusters.2.1 25 = .ok (.ifCond .ne 9, 3) := by decide +kernel
theorem d_Mo_makeClusters_28 : decode M_Mo_makeClusters.2.1 28 = .ok (.iinc 3 1, 3) := by decide +kernel
theorem d_Mo_makeClusters_31 : decode M_Mo_makeClusters.2.1 31 = .ok (.goto (-11), 3) := by decide +kernel
theorem d_Mo_makeClusters_34 : decode M_Mo_makeClusters.2.1 34 = .ok (.iconst 1, 1) := by decide +kernel
theorem d_Mo_makeClusters_35 : decode M_Mo_makeClusters.2.1 35 = .ok (.iload_n 3, 1) := by decide +kernel
theorem d_Mo_makeClusters_36 : decode M_Mo_makeClusters.2.1 36 = .ok (.ishl, 1) := by decide +kernel
theorem d_Mo_makeClusters_37 : decode M_Mo_makeClusters.2.1 37 = .ok (.istore 4, 2) := by decide +kernel
theorem d_Mo_makeClusters_39 : decode M_Mo_makeClusters.2.1 39 = .ok (.iload_n 2, 1) := by decide +kernel
theorem d_Mo_makeClusters_40 : decode M_Mo_makeClusters.2.1 40 = .ok (.iload 4, 2) := by decide +kernel
theorem d_Mo_makeClusters_42 : decode M_Mo_makeClusters.2.1 42 = .ok (.iconst (-1), 1) := by decide +kernel
theorem d_Mo_makeClusters_43 : decode M_Mo_makeClusters.2.1 43 = .ok (.ixor, 1) := by decide +kernel
theorem d_Mo_makeClusters_44 : decode M_Mo_makeClusters.2.1 44 = .ok (.iand, 1) := by decide +kernel
theorem d_Mo_makeClusters_45 : decode M_Mo_makeClusters.2.1 45 = .ok (.istore_n 2, 1) := by decide +kernel
theorem d_Mo_makeClusters_46 : decode M_Mo_makeClusters.2.1 46 = .ok (.aload_n 0, 1) := by decide +kernel
theorem d_Mo_makeClusters_47 : decode M_Mo_makeClusters.2.1 47 = .ok (.iload 4, 2) := by decide +kernel
theorem d_Mo_makeClusters_49 : decode M_Mo_makeClusters.2.1 49 = .ok (.iload_n 2, 1) := by decide +kernel
theorem d_Mo_makeClusters_50 : decode M_Mo_makeClusters.2.1 50 = .ok (.invokevirtual 106, 3) := by decide +kernel
theorem d_Mo_makeClusters_53 : decode M_Mo_makeClusters.2.1 53 = .ok (.istore 5, 2) := by decide +kernel
theorem d_Mo_makeClusters_55 : decode M_Mo_makeClusters.2.1 55 = .ok (.iload 5, 2) := by decide +kernel
theorem d_Mo_makeClusters_57 : decode M_Mo_makeClusters.2.1 57 = .ok (.ifCond .eq 48, 3) := by decide +kernel
theorem d_Mo_makeClusters_60 : decode M_Mo_makeClusters.2.1 60 = .ok (.aload_n 0, 1) := by decide +kernel
theorem d_Mo_makeClusters_61 : decode M_Mo_makeClusters.2.1 61 = .ok (.iload 5, 2) := by decide +kernel
theorem d_Mo_makeClusters_63 : decode M_Mo_makeClusters.2.1 63 = .ok (.invokevirtual 110, 3) := by decide +kernel
theorem d_Mo_makeClusters_66 : decode M_Mo_makeClusters.2.1 66 = .ok (.iload_n 1, 1) := by decide +kernel
theorem d_Mo_makeClusters_67 : decode M_Mo_makeClusters.2.1 67 = .ok (.iconst 1, 1) := by decide +kernel
theorem d_Mo_makeClusters_68 : decode M_Mo_makeClusters.2.1 68 = .ok (.isub, 1) := by decide +kernel
theorem d_Mo_makeClusters_69 : decode M_Mo_makeClusters.2.1 69 = .ok (.aload_n 0, 1) := by decide +kernel
theorem d_Mo_makeClusters_70 : decode M_Mo_makeClusters.2.1 70 = .ok (.iload 4, 2) := by decide +kernel
theorem d_Mo_makeClusters_72 : decode M_Mo_makeClusters.2.1 72 = .ok (.invokevirtual 110, 3) := by decide +kernel
theorem d_Mo_makeClusters_75 : decode M_Mo_makeClusters.2.1 75 = .ok (.imul, 1) := by decide +kernel
theorem d_Mo_makeClusters_76 : decode M_Mo_makeClusters.2.1 76 = .ok (.if_icmp .lt 29, 3) := by decide +kernel
theorem d_Mo_makeClusters_79 : decode M_Mo_makeClusters.2.1 79 = .ok (.iload 4, 2) := by decide +kernel
theorem d_Mo_makeClusters_81 : decode M_Mo_makeClusters.2.1 81 = .ok (.iload 5, 2) := by decide +kernel
theorem d_Mo_makeClusters_83 : decode M_Mo_makeClusters.2.1 83 = .ok (.ior, 1) := by decide +kernel
theorem d_Mo_makeClusters_84 : decode M_Mo_makeClusters.2.1 84 = .ok (.istore 4, 2) := by decide +kernel
theorem d_Mo_makeClusters_86 : decode M_Mo_makeClusters.2.1 86 = .ok (.iload_n 2, 1) := by decide +kernel
theorem d_Mo_makeClusters_87 : decode M_Mo_makeClusters.2.1 87 = .ok (.iload 5, 2) := by decide +kernel
theorem d_Mo_makeClusters_89 : decode M_Mo_makeClusters.2.1 89 = .ok (.iconst (-1), 1) := by decide +kernel
theorem d_Mo_makeClusters_90 : decode M_Mo_makeClusters.2.1 90 = .ok (.ixor, 1) := by decide +kernel
theorem d_Mo_makeClusters_91 : decode M_Mo_makeClusters.2.1 91 = .ok (.iand, 1) := by decide +kernel
theorem d_Mo_makeClusters_92 : decode M_Mo_makeClusters.2.1 92 = .ok (.istore_n 2, 1) := by decide +kernel
theorem d_Mo_makeClusters_93 : decode M_Mo_makeClusters.2.1 93 = .ok (.aload_n 0, 1) := by decide +kernel
theorem d_Mo_makeClusters_94 : decode M_Mo_makeClusters.2.1 94 = .ok (.iload 4, 2) := by decide +kernel
theorem d_Mo_makeClusters_96 : decode M_Mo_makeClusters.2.1 96 = .ok (.iload_n 2, 1) := by decide +kernel
theorem d_Mo_makeClusters_97 : decode M_Mo_makeClusters.2.1 97 = .ok (.invokevirtual 106, 3) := by decide +kernel
theorem d_Mo_makeClusters_100 : decode M_Mo_makeClusters.2.1 100 = .ok (.istore 5, 2) := by decide +kernel
theorem d_Mo_makeClusters_102 : decode M_Mo_makeClusters.2.1 102 = .ok (.goto (-47), 3) := by decide +kernel
theorem d_Mo_makeClusters_105 : decode M_Mo_makeClusters.2.1 105 = .ok (.aload_n 0, 1) := by decide +kernel
theorem d_Mo_makeClusters_106 : decode M_Mo_makeClusters.2.1 106 = .ok (.iload_n 3, 1) := by decide +kernel
theorem d_Mo_makeClusters_107 : decode M_Mo_makeClusters.2.1 107 = .ok (.iload 4, 2) := by decide +kernel
theorem d_Mo_makeClusters_109 : decode M_Mo_makeClusters.2.1 109 = .ok (.invokevirtual 113, 3) := by decide +kernel
theorem d_Mo_makeClusters_112 : decode M_Mo_makeClusters.2.1 112 = .ok (.aload_n 0, 1) := by decide +kernel
theorem d_Mo_makeClusters_113 : decode M_Mo_makeClusters.2.1 113 = .ok (.dup, 1) := by decide +kernel
theorem d_Mo_makeClusters_114 : decode M_Mo_makeClusters.2.1 114 = .ok (.getfield 103, 3) := by decide +kernel
theorem d_Mo_makeClusters_117 : decode M_Mo_makeClusters.2.1 117 = .ok (.iconst 1, 1) := by decide +kernel
theorem d_Mo_makeClusters_118 : decode M_Mo_makeClusters.2.1 118 = .ok (.iadd, 1) := by decide +kernel
theorem d_Mo_makeClusters_119 : decode M_Mo_makeClusters.2.1 119 = .ok (.putfield 103, 3) := by decide +kernel
theorem d_Mo_makeClusters_122 : decode M_Mo_makeClusters.2.1 122 = .ok (.goto (-108), 3) := by decide +kernel
theorem d_Mo_makeClusters_125 : decode M_Mo_makeClusters.2.1 125 = .ok (.aload_n 0, 1) := by decide +kernel
theorem d_Mo_makeClusters_126 : decode M_Mo_makeClusters.2.1 126 = .ok (.invokevirtual 117, 3) := by decide +kernel
theorem d_Mo_makeClusters_129 : decode M_Mo_makeClusters.2.1 129 = .ok (.return_, 1) := by decide +kernel
theorem d_Mo_choose_0 : decode M_Mo_choose.2.1 0 = .ok (.iconst 0, 1) := by decide +kernel
theorem d_Mo_choose_1 : decode M_Mo_choose.2.1 1 = .ok (.istore_n 1, 1) := by decide +kernel
theorem d_Mo_choose_2 : decode M_Mo_choose.2.1 2 = .ok (.iload_n 1, 1) := by decide +kernel
theorem d_Mo_choose_3 : decode M_Mo_choose.2.1 3 = .ok (.aload_n 0, 1) := by decide +kernel
theorem d_Mo_choose_4 : decode M_Mo_choose.2.1 4 = .ok (.getfield 84, 3) := by decide +kernel
theorem d_Mo_choose_7 : decode M_Mo_choose.2.1 7 = .ok (.if_icmp .ge 257, 3) := by decide +kernel
theorem d_Mo_choose_10 : decode M_Mo_choose.2.1 10 = .ok (.iload_n 1, 1) := by decide +kernel
theorem d_Mo_choose_11 : decode M_Mo_choose.2.1 11 = .ok (.iconst 1, 1) := by decide +kernel
theorem d_Mo_choose_12 : decode M_Mo_choose.2.1 12 = .ok (.iadd, 1) := by decide +kernel
theorem d_Mo_choose_13 : decode M_Mo_choose.2.1 13 = .ok (.istore_n 2, 1) := by decide +kernel
theorem d_Mo_choose_14 : decode M_Mo_choose.2.1 14 = .ok (.iload_n 2, 1) := by decide +kernel
theorem d_Mo_choose_15 : decode M_Mo_choose.2.1 15 = .ok (.aload_n 0, 1) := by decide +kernel
theorem d_Mo_choose_16 : decode M_Mo_choose.2.1 16 = .ok (.getfield 84, 3) := by decide +kernel
theorem d_Mo_choose_19 : decode M_Mo_choose.2.1 19 = .ok (.if_icmp .ge 239, 3) := by decide +kernel
theorem d_Mo_choose_22 : decode M_Mo_choose.2.1 22 = .ok (.aload_n 0, 1) := by decide +kernel
theorem d_Mo_choose_23 : decode M_Mo_choose.2.1 23 = .ok (.iload_n 1, 1) := by decide +kernel
theorem d_Mo_choose_24 : decode M_Mo_choose.2.1 24 = .ok (.iload_n 2, 1) := by decide +kernel
theorem d_Mo_choose_25 : decode M_Mo_choose.2.1 25 = .ok (.invokevirtual 99, 3) := by decide +kernel
theorem d_Mo_choose_28 : decode M_Mo_choose.2.1 28 = .ok (.ifCond .eq 22, 3) := by decide +kernel
theorem d_Mo_choose_31 : decode M_Mo_choose.2.1 31 = .ok (.aload_n 0, 1) := by decide +kernel
theorem d_Mo_choose_32 : decode M_Mo_choose.2.1 32 = .ok (.getfield 38, 3) := by decide +kernel
theorem d_Mo_choose_35 : decode M_Mo_choose.2.1 35 = .ok (.iload_n 1, 1) := by decide +kernel
theorem d_Mo_choose_36 : decode M_Mo_choose.2.1 36 = .ok (.iaload, 1) := by decide +kernel
theorem d_Mo_choose_37 : decode M_Mo_choose.2.1 37 = .ok (.aload_n 0, 1) := by decide +kernel
theorem d_Mo_choose_38 : decode M_Mo_choose.2.1 38 = .ok (.getfield 38, 3) := by decide +kernel
theorem d_Mo_choose_41 : decode M_Mo_choose.2.1 41 = .ok (.iload_n 2, 1) := by decide +kernel
theorem d_Mo_choose_42 : decode M_Mo_choose.2.1 42 = .ok (.iaload, 1) := by decide +kernel
theorem d_Mo_choose_43 : decode M_Mo_choose.2.1 43 = .ok (.if_icmp .eq 7, 3) := by decide +kernel
theorem d_Mo_choose_46 : decode M_Mo_choose.2.1 46 = .ok (.iconst 1, 1) := by decide +kernel
theorem d_Mo_choose_47 : decode M_Mo_choose.2.1 47 = .ok (.goto 4, 3) := by decide +kernel
theorem d_Mo_choose_50 : decode M_Mo_choose.2.1 50 = .ok (.iconst 0, 1) := by decide +kernel
theorem d_Mo_choose_51 : decode M_Mo_choose.2.1 51 = .ok (.istore_n 3, 1) := by decide +kernel
theorem d_Mo_choose_52 : decode M_Mo_choose.2.1 52 = .ok (.iconst 0, 1) := by decide +kernel
theorem d_Mo_choose_53 : decode M_Mo_choose.2.1 53 = .ok (.istore 4, 2) := by decide +kernel
theorem d_Mo_choose_55 : decode M_Mo_choose.2.1 55 = .ok (.iload 4, 2) := by decide +kernel
theorem d_Mo_choose_57 : decode M_Mo_choose.2.1 57 = .ok (.aload_n 0, 1) := by decide +kernel
theorem d_Mo_choose_58 : decode M_Mo_choose.2.1 58 = .ok (.getfield 84, 3) := by decide +kernel
theorem d_Mo_choose_61 : decode M_Mo_choose.2.1 61 = .ok (.if_icmp .ge 149, 3) := by decide +kernel
theorem d_Mo_choose_64 : decode M_Mo_choose.2.1 64 = .ok (.iload_n 3, 1) := by decide +kernel
theorem d_Mo_choose_65 : decode M_Mo_choose.2.1 65 = .ok (.ifCond .eq 145, 3) := by decide +kernel
theorem d_Mo_choose_68 : decode M_Mo_choose.2.1 68 = .ok (.iload 4, 2) := by decide +kernel
theorem d_Mo_choose_70 : decode M_Mo_choose.2.1 70 = .ok (.iconst 1, 1) := by decide +kernel
theorem d_Mo_choose_71 : decode M_Mo_choose.2.1 71 = .ok (.iadd, 1) := by decide +kernel
theorem d_Mo_choose_72 : decode M_Mo_choose.2.1 72 = .ok (.istore 5, 2) := by decide +kernel
theorem d_Mo_choose_74 : decode M_Mo_choose.2.1 74 = .ok (.iload 5, 2) := by decide +kernel
theorem d_Mo_choose_76 : decode M_Mo_choose.2.1 76 = .ok (.aload_n 0, 1) := by decide +kernel
theorem d_Mo_choose_77 : decode M_Mo_choose.2.1 77 = .ok (.getfield 84, 3) := by decide +kernel
theorem d_Mo_choose_80 : decode M_Mo_choose.2.1 80 = .ok (.if_icmp .ge 124, 3) := by decide +kernel
theorem d_Mo_choose_83 : decode M_Mo_choose.2.1 83 = .ok (.aload_n 0, 1) := by decide +kernel
theorem d_Mo_choose_84 : decode M_Mo_choose.2.1 84 = .ok (.getfield 38, 3) := by decide +kernel
theorem d_Mo_choose_87 : decode M_Mo_choose.2.1 87 = .ok (.iload 4, 2) := by decide +kernel
theorem d_Mo_choose_89 : decode M_Mo_choose.2.1 89 = .ok (.iaload, 1) := by decide +kernel
theorem d_Mo_choose_90 : decode M_Mo_choose.2.1 90 = .ok (.aload_n 0, 1) := by decide +kernel
theorem d_Mo_choose_91 : decode M_Mo_choose.2.1 91 = .ok (.getfield 38, 3) := by decide +kernel
theorem d_Mo_choose_94 : decode M_Mo_choose.2.1 94 = .ok (.iload_n 1, 1) := by decide +kernel
theorem d_Mo_choose_95 : decode M_Mo_choose.2.1 95 = .ok (.iaload, 1) := by decide +kernel
theorem d_Mo_choose_96 : decode M_Mo_choose.2.1 96 = .ok (.if_icmp .ne 19, 3) := by decide +kernel
theorem d_Mo_choose_99 : decode M_Mo_choose.2.1 99 = .ok (.aload_n 0, 1) := by decide +kernel
theorem d_Mo_choose_100 : decode M_Mo_choose.2.1 100 = .ok (.getfield 38, 3) := by decide +kernel
theorem d_Mo_choose_103 : decode M_Mo_choose.2.1 103 = .ok (.iload 5, 2) := by decide +kernel
theorem d_Mo_choose_105 : decode M_Mo_choose.2.1 105 = .ok (.iaload, 1) := by decide +kernel
theorem d_Mo_choose_106 : decode M_Mo_choose.2.1 106 = .ok (.aload_n 0, 1) := by decide +kernel
theorem d_Mo_choose_107 : decode M_Mo_choose.2.1 107 = .ok (.getfield 38, 3) := by decide +kernel
theorem d_Mo_choose_110 : decode M_Mo_choose.2.1 110 = .ok (.iload_n 2, 1) := by decide +kernel
theorem d_Mo_choose_111 : decode M_Mo_choose.2.1 111 = .ok (.iaload, 1) := by decide +kernel
theorem d_Mo_choose_112 : decode M_Mo_choose.2.1 112 = .ok (.if_icmp .eq 35, 3) := by decide +kernel
theorem d_Mo_choose_115 : decode M_Mo_choose.2.1 115 = .ok (.aload_n 0, 1) := by decide +kernel
theorem d_Mo_choose_116 : decode M_Mo_choose.2.1 116 = .ok (.getfield 38, 3) := by decide +kernel
theorem d_Mo_choose_119 : decode M_Mo_choose.2.1 119 = .ok (.iload 4, 2) := by decide +kernel
theorem d_Mo_choose_121 : decode M_Mo_choose.2.1 121 = .ok (.iaload, 1) := by decide +kernel
theorem d_Mo_choose_122 : decode M_Mo_choose.2.1 122 = .ok (.aload_n 0, 1) := by decide +kernel
theorem d_Mo_choose_123 : decode M_Mo_choose.2.1 123 = .ok (.getfield 38, 3) := by decide +kernel
theorem d_Mo_choose_126 : decode M_Mo_choose.2.1 126 = .ok (.iload_n 2, 1) := by decide +kernel
theorem d_Mo_choose_127 : decode M_Mo_choose.2.1 127 = .ok (.iaload, 1) := by decide +kernel
theorem d_Mo_choose_128 : decode M_Mo_choose.2.1 128 = .ok (.if_icmp .ne 23, 3) := by decide +kernel
theorem d_Mo_choose_131 : decode M_Mo_choose.2.1 131 = .ok (.aload_n 0, 1) := by decide +kernel
theorem d_Mo_choose_132 : decode M_Mo_choose.2.1 132 = .ok (.getfield 38, 3) := by decide +kernel
theorem d_Mo_choose_135 : decode M_Mo_choose.2.1 135 = .ok (.iload 5, 2) := by decide +kernel
theorem d_Mo_choose_137 : decode M_Mo_choose.2.1 137 = .ok (.iaload, 1) := by decide +kernel
theorem d_Mo_choose_138 : decode M_Mo_choose.2.1 138 = .ok (.aload_n 0, 1) := by decide +kernel
theorem d_Mo_choose_139 : decode M_Mo_choose.2.1 139 = .ok (.getfield 38, 3) := by decide +kernel
theorem d_Mo_choose_142 : decode M_Mo_choose.2.1 142 = .ok (.iload_n 1, 1) := by decide +kernel
theorem d_Mo_choose_143 : decode M_Mo_choose.2.1 143 = .ok (.iaload, 1) := by decide +kernel
theorem d_Mo_choose_144 : decode M_Mo_choose.2.1 144 = .ok (.if_icmp .ne 7, 3) := by decide +kernel
theorem d_Mo_choose_147 : decode M_Mo_choose.2.1 147 = .ok (.iconst 1, 1) := by decide +kernel
theorem d_Mo_choose_148 : decode M_Mo_choose.2.1 148 = .ok (.goto 4, 3) := by decide +kernel
theorem d_Mo_choose_151 : decode M_Mo_choose.2.1 151 = .ok (.iconst 0, 1) := by decide +kernel
theorem d_Mo_choose_152 : decode M_Mo_choose.2.1 152 = .ok (.istore 6, 2) := by decide +kernel
theorem d_Mo_choose_154 : decode M_Mo_choose.2.1 154 = .ok (.iload_n 3, 1) := by decide +kernel
theorem d_Mo_choose_155 : decode M_Mo_choose.2.1 155 = .ok (.ifCond .eq 41, 3) := by decide +kernel
theorem d_Mo_choose_158 : decode M_Mo_choose.2.1 158 = .ok (.aload_n 0, 1) := by decide +kernel
theorem d_Mo_choose_159 : decode M_Mo_choose.2.1 159 = .ok (.iload 4, 2) := by decide +kernel
theorem d_Mo_choose_161 : decode M_Mo_choose.2.1 161 = .ok (.iload 5, 2) := by decide +kernel
theorem d_Mo_choose_163 : decode M_Mo_choose.2.1 163 = .ok (.invokevirtual 99, 3) := by decide +kernel
theorem d_Mo_choose_166 : decode M_Mo_choose.2.1 166 = .ok (.ifCond .eq 26, 3) := by decide +kernel
theorem d_Mo_choose_169 : decode M_Mo_choose.2.1 169 = .ok (.iload 6, 2) := by decide +kernel
theorem d_Mo_choose_171 : decode M_Mo_choose.2.1 171 = .ok (.ifCond .eq 21, 3) := by decide +kernel
theorem d_Mo_choose_174 : decode M_Mo_choose.2.1 174 = .ok (.iload 4, 2) := by decide +kernel
theorem d_Mo_choose_176 : decode M_Mo_choose.2.1 176 = .ok (.iload_n 1, 1) := by decide +kernel
theorem d_Mo_choose_177 : decode M_Mo_choose.2.1 177 = .ok (.if_icmp .lt 19, 3) := by decide +kernel
theorem d_Mo_choose_180 : decode M_Mo_choose.2.1 180 = .ok (.iload 4, 2) := by decide +kernel
theorem d_Mo_choose_182 : decode M_Mo_choose.2.1 182 = .ok (.iload_n 1, 1) := by decide +kernel
theorem d_Mo_choose_183 : decode M_Mo_choose.2.1 183 = .ok (.if_icmp .ne 9, 3) := by decide +kernel
theorem d_Mo_choose_186 : decode M_Mo_choose.2.1 186 = .ok (.iload 5, 2) := by decide +kernel
theorem d_Mo_choose_188 : decode M_Mo_choose.2.1 188 = .ok (.iload_n 2, 1) := by decide +kernel
theorem d_Mo_choose_189 : decode M_Mo_choose.2.1 189 = .ok (.if_icmp .lt 7, 3) := by decide +kernel
theorem d_Mo_choose_192 : decode M_Mo_choose.2.1 192 = .ok (.iconst 1, 1) := by decide +kernel
theorem d_Mo_choose_193 : decode M_Mo_choose.2.1 193 = .ok (.goto 4, 3) := by decide +kernel
theorem d_Mo_choose_196 : decode M_Mo_choose.2.1 196 = .ok (.iconst 0, 1) := by decide +kernel
theorem d_Mo_choose_197 : decode M_Mo_choose.2.1 197 = .ok (.istore_n 3, 1) := by decide +kernel
theorem d_Mo_choose_198 : decode M_Mo_choose.2.1 198 = .ok (.iinc 5 1, 3) := by decide +kernel
theorem d_Mo_choose_201 : decode M_Mo_choose.2.1 201 = .ok (.goto (-127), 3) := by decide +kernel
theorem d_Mo_choose_204 : decode M_Mo_choose.2.1 204 = .ok (.iinc 4 1, 3) := by decide +kernel
theorem d_Mo_choose_207 : decode M_Mo_choose.2.1 207 = .ok (.goto (-152), 3) := by decide +kernel
theorem d_Mo_choose_210 : decode M_Mo_choose.2.1 210 = .ok (.aload_n 0, 1) := by decide +kernel
theorem d_Mo_choose_211 : decode M_Mo_choose.2.1 211 = .ok (.getfield 44, 3) := by decide +kernel
theorem d_Mo_choose_214 : decode M_Mo_choose.2.1 214 = .ok (.bipush 12, 2) := by decide +kernel
theorem d_Mo_choose_216 : decode M_Mo_choose.2.1 216 = .ok (.iload_n 1, 1) := by decide +kernel
theorem d_Mo_choose_217 : decode M_Mo_choose.2.1 217 = .ok (.imul, 1) := by decide +kernel
theorem d_Mo_choose_218 : decode M_Mo_choose.2.1 218 = .ok (.iload_n 2, 1) := by decide +kernel
theorem d_Mo_choose_219 : decode M_Mo_choose.2.1 219 = .ok (.iadd, 1) := by decide +kernel
theorem d_Mo_choose_220 : decode M_Mo_choose.2.1 220 = .ok (.iload_n 3, 1) := by decide +kernel
theorem d_Mo_choose_221 : decode M_Mo_choose.2.1 221 = .ok (.bastore, 1) := by decide +kernel
theorem d_Mo_choose_222 : decode M_Mo_choose.2.1 222 = .ok (.aload_n 0, 1) := by decide +kernel
theorem d_Mo_choose_223 : decode M_Mo_choose.2.1 223 = .ok (.getfield 44, 3) := by decide +kernel
theorem d_Mo_choose_226 : decode M_Mo_choose.2.1 226 = .ok (.bipush 12, 2) := by decide +kernel
theorem d_Mo_choose_228 : decode M_Mo_choose.2.1 228 = .ok (.iload_n 2, 1) := by decide +kernel
theorem d_Mo_choose_229 : decode M_Mo_choose.2.1 229 = .ok (.imul, 1) := by decide +kernel
theorem d_Mo_choose_230 : decode M_Mo_choose.2.1 230 = .ok (.iload_n 1, 1) := by decide +kernel
theorem d_Mo_choose_231 : decode M_Mo_choose.2.1 231 = .ok (.iadd, 1) := by decide +kernel
theorem d_Mo_choose_232 : decode M_Mo_choose.2.1 232 = .ok (.iload_n 3, 1) := by decide +kernel
theorem d_Mo_choose_233 : decode M_Mo_choose.2.1 233 = .ok (.bastore, 1) := by decide +kernel
theorem d_Mo_choose_234 : decode M_Mo_choose.2.1 234 = .ok (.aload_n 0, 1) := by decide +kernel
theorem d_Mo_choose_235 : decode M_Mo_choose.2.1 235 = .ok (.dup, 1) := by decide +kernel
theorem d_Mo_choose_236 : decode M_Mo_choose.2.1 236 = .ok (.getfield 120, 3) := by decide +kernel
theorem d_Mo_choose_239 : decode M_Mo_choose.2.1 239 = .ok (.iload_n 3, 1) := by decide +kernel
theorem d_Mo_choose_240 : decode M_Mo_choose.2.1 240 = .ok (.ifCond .eq 7, 3) := by decide +kernel
theorem d_Mo_choose_243 : decode M_Mo_choose.2.1 243 = .ok (.iconst 1, 1) := by decide +kernel
theorem d_Mo_choose_244 : decode M_Mo_choose.2.1 244 = .ok (.goto 4, 3) := by decide +kernel
theorem d_Mo_choose_247 : decode M_Mo_choose.2.1 247 = .ok (.iconst 0, 1) := by decide +kernel
theorem d_Mo_choose_248 : decode M_Mo_choose.2.1 248 = .ok (.iadd, 1) := by decide +kernel
theorem d_Mo_choose_249 : decode M_Mo_choose.2.1 249 = .ok (.putfield 120, 3) := by decide +kernel
theorem d_Mo_choose_252 : decode M_Mo_choose.2.1 252 = .ok (.iinc 2 1, 3) := by decide +kernel
theorem d_Mo_choose_255 : decode M_Mo_choose.2.1 255 = .ok (.goto (-241), 3) := by decide +kernel
theorem d_Mo_choose_258 : decode M_Mo_choose.2.1 258 = .ok (.iinc 1 1, 3) := by decide +kernel
theorem d_Mo_choose_261 : decode M_Mo_choose.2.1 261 = .ok (.goto (-259), 3) := by decide +kernel
theorem d_Mo_choose_264 : decode M_Mo_choose.2.1 264 = .ok (.return_, 1) := by decide +kernel
theorem d_Mo_first_0 : decode M_Mo_first.2.1 0 = .ok (.aload_n 0, 1) := by decide +kernel
theorem d_Mo_first_1 : decode M_Mo_first.2.1 1 = .ok (.getfield 53, 3) := by decide +kernel
theorem d_Mo_first_4 : decode M_Mo_first.2.1 4 = .ok (.iload_n 1, 1) := by decide +kernel
theorem d_Mo_first_5 : decode M_Mo_first.2.1 5 = .ok (.aload_n 0, 1) := by decide +kernel
theorem d_Mo_first_6 : decode M_Mo_first.2.1 6 = .ok (.getfield 123, 3) := by decide +kernel
theorem d_Mo_first_9 : decode M_Mo_first.2.1 9 = .ok (.iconst 1, 1) := by decide +kernel
theorem d_Mo_first_10 : decode M_Mo_first.2.1 10 = .ok (.if_icmp .ne 12, 3) := by decide +kernel
theorem d_Mo_first_13 : decode M_Mo_first.2.1 13 = .ok (.aload_n 0, 1) := by decide +kernel
theorem d_Mo_first_14 : decode M_Mo_first.2.1 14 = .ok (.getfield 13, 3) := by decide +kernel
theorem d_Mo_first_17 : decode M_Mo_first.2.1 17 = .ok (.iload_n 2, 1) := by decide +kernel
theorem d_Mo_first_18 : decode M_Mo_first.2.1 18 = .ok (.iaload, 1) := by decide +kernel
theorem d_Mo_first_19 : decode M_Mo_first.2.1 19 = .ok (.goto 29, 3) := by decide +kernel
theorem d_Mo_first_22 : decode M_Mo_first.2.1 22 = .ok (.aload_n 0, 1) := by decide +kernel
theorem d_Mo_first_23 : decode M_Mo_first.2.1 23 = .ok (.getfield 123, 3) := by decide +kernel
theorem d_Mo_first_26 : decode M_Mo_first.2.1 26 = .ok (.iconst 2, 1) := by decide +kernel
theorem d_Mo_first_27 : decode M_Mo_first.2.1 27 = .ok (.if_icmp .ne 7, 3) := by decide +kernel
theorem d_Mo_first_30 : decode M_Mo_first.2.1 30 = .ok (.iconst 0, 1) := by decide +kernel
theorem d_Mo_first_31 : decode M_Mo_first.2.1 31 = .ok (.goto 17, 3) := by decide +kernel
theorem d_Mo_first_34 : decode M_Mo_first.2.1 34 = .ok (.iload_n 2, 1) := by decide +kernel
theorem d_Mo_first_35 : decode M_Mo_first.2.1 35 = .ok (.aload_n 0, 1) := by decide +kernel
theorem d_Mo_first_36 : decode M_Mo_first.2.1 36 = .ok (.getfield 126, 3) := by decide +kernel
theorem d_Mo_first_39 : decode M_Mo_first.2.1 39 = .ok (.if_icmp .ne 7, 3) := by decide +kernel
theorem d_Mo_first_42 : decode M_Mo_first.2.1 42 = .ok (.iconst 0, 1) := by decide +kernel
theorem d_Mo_first_43 : decode M_Mo_first.2.1 43 = .ok (.goto 5, 3) := by decide +kernel
theorem d_Mo_first_46 : decode M_Mo_first.2.1 46 = .ok (.bipush (-2), 2) := by decide +kernel
theorem d_Mo_first_48 : decode M_Mo_first.2.1 48 = .ok (.iastore, 1) := by decide +kernel
theorem d_Mo_first_49 : decode M_Mo_first.2.1 49 = .ok (.aload_n 0, 1) := by decide +kernel
theorem d_Mo_first_50 : decode M_Mo_first.2.1 50 = .ok (.getfield 56, 3) := by decide +kernel
theorem d_Mo_first_53 : decode M_Mo_first.2.1 53 = .ok (.iload_n 1, 1) := by decide +kernel
theorem d_Mo_first_54 : decode M_Mo_first.2.1 54 = .ok (.bipush (-2), 2) := by decide +kernel
theorem d_Mo_first_56 : decode M_Mo_first.2.1 56 = .ok (.iastore, 1) := by decide +kernel
theorem d_Mo_first_57 : decode M_Mo_first.2.1 57 = .ok (.return_, 1) := by decide +kernel
theorem d_Mo_writer_0 : decode M_Mo_writer.2.1 0 = .ok (.iconst 0, 1) := by decide +kernel
theorem d_Mo_writer_1 : decode M_Mo_writer.2.1 1 = .ok (.istore 4, 2) := by decide +kernel
theorem d_Mo_writer_3 : decode M_Mo_writer.2.1 3 = .ok (.aload_n 0, 1) := by decide +kernel
theorem d_Mo_writer_4 : decode M_Mo_writer.2.1 4 = .ok (.getfield 74, 3) := by decide +kernel
theorem d_Mo_writer_7 : decode M_Mo_writer.2.1 7 = .ok (.iload 4, 2) := by decide +kernel
theorem d_Mo_writer_9 : decode M_Mo_writer.2.1 9 = .ok (.baload, 1) := by decide +kernel
theorem d_Mo_writer_10 : decode M_Mo_writer.2.1 10 = .ok (.ifCond .eq 35, 3) := by decide +kernel
theorem d_Mo_writer_13 : decode M_Mo_writer.2.1 13 = .ok (.aload_n 0, 1) := by decide +kernel
theorem d_Mo_writer_14 : decode M_Mo_writer.2.1 14 = .ok (.getfield 77, 3) := by decide +kernel
theorem d_Mo_writer_17 : decode M_Mo_writer.2.1 17 = .ok (.iload 4, 2) := by decide +kernel
theorem d_Mo_writer_19 : decode M_Mo_writer.2.1 19 = .ok (.iaload, 1) := by decide +kernel
theorem d_Mo_writer_20 : decode M_Mo_writer.2.1 20 = .ok (.iload_n 3, 1) := by decide +kernel
theorem d_Mo_writer_21 : decode M_Mo_writer.2.1 21 = .ok (.ifCond .eq 18, 3) := by decide +kernel
theorem d_Mo_writer_24 : decode M_Mo_writer.2.1 24 = .ok (.aload_n 0, 1) := by decide +kernel
theorem d_Mo_writer_25 : decode M_Mo_writer.2.1 25 = .ok (.getfield 7, 3) := by decide +kernel
theorem d_Mo_writer_28 : decode M_Mo_writer.2.1 28 = .ok (.bipush 12, 2) := by decide +kernel
theorem d_Mo_writer_30 : decode M_Mo_writer.2.1 30 = .ok (.iload 4, 2) := by decide +kernel
theorem d_Mo_writer_32 : decode M_Mo_writer.2.1 32 = .ok (.imul, 1) := by decide +kernel
theorem d_Mo_writer_33 : decode M_Mo_writer.2.1 33 = .ok (.iload_n 1, 1) := by decide +kernel
theorem d_Mo_writer_34 : decode M_Mo_writer.2.1 34 = .ok (.iadd, 1) := by decide +kernel
theorem d_Mo_writer_35 : decode M_Mo_writer.2.1 35 = .ok (.iaload, 1) := by decide +kernel
theorem d_Mo_writer_36 : decode M_Mo_writer.2.1 36 = .ok (.goto 4, 3) := by decide +kernel
theorem d_Mo_writer_39 : decode M_Mo_writer.2.1 39 = .ok (.iconst 0, 1) := by decide +kernel
theorem d_Mo_writer_40 : decode M_Mo_writer.2.1 40 = .ok (.iadd, 1) := by decide +kernel
theorem d_Mo_writer_41 : decode M_Mo_writer.2.1 41 = .ok (.iload_n 2, 1) := by decide +kernel
theorem d_Mo_writer_42 : decode M_Mo_writer.2.1 42 = .ok (.if_icmp .eq 9, 3) := by decide +kernel
theorem d_Mo_writer_45 : decode M_Mo_writer.2.1 45 = .ok (.iinc 4 1, 3) := by decide +kernel
theorem d_Mo_writer_48 : decode M_Mo_writer.2.1 48 = .ok (.goto (-45), 3) := by decide +kernel
theorem d_Mo_writer_51 : decode M_Mo_writer.2.1 51 = .ok (.iload 4, 2) := by decide +kernel
theorem d_Mo_writer_53 : decode M_Mo_writer.2.1 53 = .ok (.ireturn, 1) := by decide +kernel
theorem d_Mo_act_0 : decode M_Mo_act.2.1 0 = .ok (.aload_n 0, 1) := by decide +kernel
theorem d_Mo_act_1 : decode M_Mo_act.2.1 1 = .ok (.getfield 123, 3) := by decide +kernel
theorem d_Mo_act_4 : decode M_Mo_act.2.1 4 = .ok (.iconst 3, 1) := by decide +kernel
theorem d_Mo_act_5 : decode M_Mo_act.2.1 5 = .ok (.if_icmp .ne 7, 3) := by decide +kernel
theorem d_Mo_act_8 : decode M_Mo_act.2.1 8 = .ok (.iconst 1, 1) := by decide +kernel
theorem d_Mo_act_9 : decode M_Mo_act.2.1 9 = .ok (.goto 4, 3) := by decide +kernel
theorem d_Mo_act_12 : decode M_Mo_act.2.1 12 = .ok (.iconst 0, 1) := by decide +kernel
theorem d_Mo_act_13 : decode M_Mo_act.2.1 13 = .ok (.istore 4, 2) := by decide +kernel
theorem d_Mo_act_15 : decode M_Mo_act.2.1 15 = .ok (.sipush 2000, 3) := by decide +kernel
theorem d_Mo_act_18 : decode M_Mo_act.2.1 18 = .ok (.istore 5, 2) := by decide +kernel
theorem d_Mo_act_20 : decode M_Mo_act.2.1 20 = .ok (.sipush (-2000), 3) := by decide +kernel
theorem d_Mo_act_23 : decode M_Mo_act.2.1 23 = .ok (.istore 6, 2) := by decide +kernel
theorem d_Mo_act_25 : decode M_Mo_act.2.1 25 = .ok (.iconst 0, 1) := by decide +kernel
theorem d_Mo_act_26 : decode M_Mo_act.2.1 26 = .ok (.istore 7, 2) := by decide +kernel
theorem d_Mo_act_28 : decode M_Mo_act.2.1 28 = .ok (.iconst 0, 1) := by decide +kernel
theorem d_Mo_act_29 : decode M_Mo_act.2.1 29 = .ok (.istore 8, 2) := by decide +kernel
theorem d_Mo_act_31 : decode M_Mo_act.2.1 31 = .ok (.iload 8, 2) := by decide +kernel
theorem d_Mo_act_33 : decode M_Mo_act.2.1 33 = .ok (.aload_n 0, 1) := by decide +kernel
theorem d_Mo_act_34 : decode M_Mo_act.2.1 34 = .ok (.getfield 84, 3) := by decide +kernel
theorem d_Mo_act_37 : decode M_Mo_act.2.1 37 = .ok (.if_icmp .ge 122, 3) := by decide +kernel
theorem d_Mo_act_40 : decode M_Mo_act.2.1 40 = .ok (.aload_n 0, 1) := by decide +kernel
theorem d_Mo_act_41 : decode M_Mo_act.2.1 41 = .ok (.getfield 74, 3) := by decide +kernel
theorem d_Mo_act_44 : decode M_Mo_act.2.1 44 = .ok (.iload 8, 2) := by decide +kernel
theorem d_Mo_act_46 : decode M_Mo_act.2.1 46 = .ok (.baload, 1) := by decide +kernel
theorem d_Mo_act_47 : decode M_Mo_act.2.1 47 = .ok (.ifCond .eq 106, 3) := by decide +kernel
theorem d_Mo_act_50 : decode M_Mo_act.2.1 50 = .ok (.aload_n 0, 1) := by decide +kernel
theorem d_Mo_act_51 : decode M_Mo_act.2.1 51 = .ok (.getfield 77, 3) := by decide +kernel
theorem d_Mo_act_54 : decode M_Mo_act.2.1 54 = .ok (.iload 8, 2) := by decide +kernel
theorem d_Mo_act_56 : decode M_Mo_act.2.1 56 = .ok (.iaload, 1) := by decide +kernel
theorem d_Mo_act_57 : decode M_Mo_act.2.1 57 = .ok (.iload 4, 2) := by decide +kernel
theorem d_Mo_act_59 : decode M_Mo_act.2.1 59 = .ok (.ifCond .eq 18, 3) := by decide +kernel
theorem d_Mo_act_62 : decode M_Mo_act.2.1 62 = .ok (.aload_n 0, 1) := by decide +kernel
theorem d_Mo_act_63 : decode M_Mo_act.2.1 63 = .ok (.getfield 7, 3) := by decide +kernel
theorem d_Mo_act_66 : decode M_Mo_act.2.1 66 = .ok (.bipush 12, 2) := by decide +kernel
theorem d_Mo_act_68 : decode M_Mo_act.2.1 68 = .ok (.iload 8, 2) := by decide +kernel
theorem d_Mo_act_70 : decode M_Mo_act.2.1 70 = .ok (.imul, 1) := by decide +kernel
theorem d_Mo_act_71 : decode M_Mo_act.2.1 71 = .ok (.iload_n 2, 1) := by decide +kernel
theorem d_Mo_act_72 : decode M_Mo_act.2.1 72 = .ok (.iadd, 1) := by decide +kernel
theorem d_Mo_act_73 : decode M_Mo_act.2.1 73 = .ok (.iaload, 1) := by decide +kernel
theorem d_Mo_act_74 : decode M_Mo_act.2.1 74 = .ok (.goto 4, 3) := by decide +kernel
theorem d_Mo_act_77 : decode M_Mo_act.2.1 77 = .ok (.iconst 0, 1) := by decide +kernel
theorem d_Mo_act_78 : decode M_Mo_act.2.1 78 = .ok (.iadd, 1) := by decide +kernel
theorem d_Mo_act_79 : decode M_Mo_act.2.1 79 = .ok (.istore 9, 2) := by decide +kernel
theorem d_Mo_act_81 : decode M_Mo_act.2.1 81 = .ok (.iload 9, 2) := by decide +kernel
theorem d_Mo_act_83 : decode M_Mo_act.2.1 83 = .ok (.iload 5, 2) := by decide +kernel
theorem d_Mo_act_85 : decode M_Mo_act.2.1 85 = .ok (.if_icmp .ge 8, 3) := by decide +kernel
theorem d_Mo_act_88 : decode M_Mo_act.2.1 88 = .ok (.iload 9, 2) := by decide +kernel
theorem d_Mo_act_90 : decode M_Mo_act.2.1 90 = .ok (.goto 5, 3) := by decide +kernel
theorem d_Mo_act_93 : decode M_Mo_act.2.1 93 = .ok (.iload 5, 2) := by decide +kernel
theorem d_Mo_act_95 : decode M_Mo_act.2.1 95 = .ok (.istore 5, 2) := by decide +kernel
theorem d_Mo_act_97 : decode M_Mo_act.2.1 97 = .ok (.iload 9, 2) := by decide +kernel
theorem d_Mo_act_99 : decode M_Mo_act.2.1 99 = .ok (.iload 6, 2) := by decide +kernel
theorem d_Mo_act_101 : decode M_Mo_act.2.1 101 = .ok (.if_icmp .le 8, 3) := by decide +kernel
theorem d_Mo_act_104 : decode M_Mo_act.2.1 104 = .ok (.iload 9, 2) := by decide +kernel
theorem d_Mo_act_106 : decode M_Mo_act.2.1 106 = .ok (.goto 5, 3) := by decide +kernel
theorem d_Mo_act_109 : decode M_Mo_act.2.1 109 = .ok (.iload 6, 2) := by decide +kernel
theorem d_Mo_act_111 : decode M_Mo_act.2.1 111 = .ok (.istore 6, 2) := by decide +kernel
theorem d_Mo_act_113 : decode M_Mo_act.2.1 113 = .ok (.iload 7, 2) := by decide +kernel
theorem d_Mo_act_115 : decode M_Mo_act.2.1 115 = .ok (.ifCond .ne 31, 3) := by decide +kernel
theorem d_Mo_act_118 : decode M_Mo_act.2.1 118 = .ok (.iload 9, 2) := by decide +kernel
theorem d_Mo_act_120 : decode M_Mo_act.2.1 120 = .ok (.aload_n 0, 1) := by decide +kernel
theorem d_Mo_act_121 : decode M_Mo_act.2.1 121 = .ok (.getfield 13, 3) := by decide +kernel
theorem d_Mo_act_124 : decode M_Mo_act.2.1 124 = .ok (.iload_n 2, 1) := by decide +kernel
theorem d_Mo_act_125 : decode M_Mo_act.2.1 125 = .ok (.iaload, 1) := by decide +kernel
theorem d_Mo_act_126 : decode M_Mo_act.2.1 126 = .ok (.if_icmp .gt 20, 3) := by decide +kernel
theorem d_Mo_act_129 : decode M_Mo_act.2.1 129 = .ok (.iload 9, 2) := by decide +kernel
theorem d_Mo_act_131 : decode M_Mo_act.2.1 131 = .ok (.aload_n 0, 1) := by decide +kernel
theorem d_Mo_act_132 : decode M_Mo_act.2.1 132 = .ok (.getfield 13, 3) := by decide +kernel
theorem d_Mo_act_135 : decode M_Mo_act.2.1 135 = .ok (.iload_n 2, 1) := by decide +kernel
theorem d_Mo_act_136 : decode M_Mo_act.2.1 136 = .ok (.iaload, 1) := by decide +kernel
theorem d_Mo_act_137 : decode M_Mo_act.2.1 137 = .ok (.if_icmp .ne 13, 3) := by decide +kernel
theorem d_Mo_act_140 : decode M_Mo_act.2.1 140 = .ok (.iload 8, 2) := by decide +kernel
theorem d_Mo_act_142 : decode M_Mo_act.2.1 142 = .ok (.iload_n 2, 1) := by decide +kernel
theorem d_Mo_act_143 : decode M_Mo_act.2.1 143 = .ok (.if_icmp .le 7, 3) := by decide +kernel
theorem d_Mo_act_146 : decode M_Mo_act.2.1 146 = .ok (.iconst 1, 1) := by decide +kernel
theorem d_Mo_act_147 : decode M_Mo_act.2.1 147 = .ok (.goto 4, 3) := by decide +kernel
theorem d_Mo_act_150 : decode M_Mo_act.2.1 150 = .ok (.iconst 0, 1) := by decide +kernel
theorem d_Mo_act_151 : decode M_Mo_act.2.1 151 = .ok (.istore 7, 2) := by decide +kernel
theorem d_Mo_act_153 : decode M_Mo_act.2.1 153 = .ok (.iinc 8 1, 3) := by decide +kernel
theorem d_Mo_act_156 : decode M_Mo_act.2.1 156 = .ok (.goto (-125), 3) := by decide +kernel
theorem d_Mo_act_159 : decode M_Mo_act.2.1 159 = .ok (.iload 6, 2) := by decide +kernel
theorem d_Mo_act_161 : decode M_Mo_act.2.1 161 = .ok (.sipush (-2000), 3) := by decide +kernel
theorem d_Mo_act_164 : decode M_Mo_act.2.1 164 = .ok (.if_icmp .le 7, 3) := by decide +kernel
theorem d_Mo_act_167 : decode M_Mo_act.2.1 167 = .ok (.iconst 1, 1) := by decide +kernel
theorem d_Mo_act_168 : decode M_Mo_act.2.1 168 = .ok (.goto 4, 3) := by decide +kernel
theorem d_Mo_act_171 : decode M_Mo_act.2.1 171 = .ok (.iconst 0, 1) := by decide +kernel
theorem d_Mo_act_172 : decode M_Mo_act.2.1 172 = .ok (.istore 8, 2) := by decide +kernel
theorem d_Mo_act_174 : decode M_Mo_act.2.1 174 = .ok (.aload_n 0, 1) := by decide +kernel
theorem d_Mo_act_175 : decode M_Mo_act.2.1 175 = .ok (.getfield 123, 3) := by decide +kernel
theorem d_Mo_act_178 : decode M_Mo_act.2.1 178 = .ok (.iconst 2, 1) := by decide +kernel
theorem d_Mo_act_179 : decode M_Mo_act.2.1 179 = .ok (.if_icmp .ne 93, 3) := by decide +kernel
theorem d_Mo_act_182 : decode M_Mo_act.2.1 182 = .ok (.aload_n 0, 1) := by decide +kernel
theorem d_Mo_act_183 : decode M_Mo_act.2.1 183 = .ok (.getfield 53, 3) := by decide +kernel
theorem d_Mo_act_186 : decode M_Mo_act.2.1 186 = .ok (.iload_n 1, 1) := by decide +kernel
theorem d_Mo_act_187 : decode M_Mo_act.2.1 187 = .ok (.iaload, 1) := by decide +kernel
theorem d_Mo_act_188 : decode M_Mo_act.2.1 188 = .ok (.ifCond .eq 7, 3) := by decide +kernel
theorem d_Mo_act_191 : decode M_Mo_act.2.1 191 = .ok (.sipush (-1000), 3) := by decide +kernel
theorem d_Mo_act_194 : decode M_Mo_act.2.1 194 = .ok (.ireturn, 1) := by decide +kernel
theorem d_Mo_act_195 : decode M_Mo_act.2.1 195 = .ok (.iload_n 3, 1) := by decide +kernel
theorem d_Mo_act_196 : decode M_Mo_act.2.1 196 = .ok (.iconst 2, 1) := by decide +kernel
theorem d_Mo_act_197 : decode M_Mo_act.2.1 197 = .ok (.irem, 1) := by decide +kernel
theorem d_Mo_act_198 : decode M_Mo_act.2.1 198 = .ok (.ifCond .ne 32, 3) := by decide +kernel
theorem d_Mo_act_201 : decode M_Mo_act.2.1 201 = .ok (.aload_n 0, 1) := by decide +kernel
theorem d_Mo_act_202 : decode M_Mo_act.2.1 202 = .ok (.getfield 53, 3) := by decide +kernel
theorem d_Mo_act_205 : decode M_Mo_act.2.1 205 = .ok (.iload_n 1, 1) := by decide +kernel
theorem d_Mo_act_206 : decode M_Mo_act.2.1 206 = .ok (.iload 7, 2) := by decide +kernel
theorem d_Mo_act_208 : decode M_Mo_act.2.1 208 = .ok (.ifCond .eq 7, 3) := by decide +kernel
theorem d_Mo_act_211 : decode M_Mo_act.2.1 211 = .ok (.iconst 0, 1) := by decide +kernel
theorem d_Mo_act_212 : decode M_Mo_act.2.1 212 = .ok (.goto 4, 3) := by decide +kernel
theorem d_Mo_act_215 : decode M_Mo_act.2.1 215 = .ok (.iconst 1, 1) := by decide +kernel
theorem d_Mo_act_216 : decode M_Mo_act.2.1 216 = .ok (.iastore, 1) := by decide +kernel
theorem d_Mo_act_217 : decode M_Mo_act.2.1 217 = .ok (.iload 7, 2) := by decide +kernel
theorem d_Mo_act_219 : decode M_Mo_act.2.1 219 = .ok (.ifCond .eq 9, 3) := by decide +kernel
theorem d_Mo_act_222 : decode M_Mo_act.2.1 222 = .ok (.sipush (-1000), 3) := by decide +kernel
theorem d_Mo_act_225 : decode M_Mo_act.2.1 225 = .ok (.goto 4, 3) := by decide +kernel
theorem d_Mo_act_228 : decode M_Mo_act.2.1 228 = .ok (.iconst (-1), 1) := by decide +kernel
theorem d_Mo_act_229 : decode M_Mo_act.2.1 229 = .ok (.ireturn, 1) := by decide +kernel
theorem d_Mo_act_230 : decode M_Mo_act.2.1 230 = .ok (.iload 8, 2) := by decide +kernel
theorem d_Mo_act_232 : decode M_Mo_act.2.1 232 = .ok (.ifCond .eq 33, 3) := by decide +kernel
theorem d_Mo_act_235 : decode M_Mo_act.2.1 235 = .ok (.iload 5, 2) := by decide +kernel
theorem d_Mo_act_237 : decode M_Mo_act.2.1 237 = .ok (.iconst (-1), 1) := by decide +kernel
theorem d_Mo_act_238 : decode M_Mo_act.2.1 238 = .ok (.if_icmp .ne 27, 3) := by decide +kernel
theorem d_Mo_act_241 : decode M_Mo_act.2.1 241 = .ok (.aload_n 0, 1) := by decide +kernel
theorem d_Mo_act_242 : decode M_Mo_act.2.1 242 = .ok (.getfield 53, 3) := by decide +kernel
theorem d_Mo_act_245 : decode M_Mo_act.2.1 245 = .ok (.iload_n 1, 1) := by decide +kernel
theorem d_Mo_act_246 : decode M_Mo_act.2.1 246 = .ok (.iconst 2, 1) := by decide +kernel
theorem d_Mo_act_247 : decode M_Mo_act.2.1 247 = .ok (.iastore, 1) := by decide +kernel
theorem d_Mo_act_248 : decode M_Mo_act.2.1 248 = .ok (.aload_n 0, 1) := by decide +kernel
theorem d_Mo_act_249 : decode M_Mo_act.2.1 249 = .ok (.getfield 56, 3) := by decide +kernel
theorem d_Mo_act_252 : decode M_Mo_act.2.1 252 = .ok (.iload_n 1, 1) := by decide +kernel
theorem d_Mo_act_253 : decode M_Mo_act.2.1 253 = .ok (.aload_n 0, 1) := by decide +kernel
theorem d_Mo_act_254 : decode M_Mo_act.2.1 254 = .ok (.iload_n 2, 1) := by decide +kernel
theorem d_Mo_act_255 : decode M_Mo_act.2.1 255 = .ok (.iconst (-1), 1) := by decide +kernel
theorem d_Mo_act_256 : decode M_Mo_act.2.1 256 = .ok (.iconst 0, 1) := by decide +kernel
theorem d_Mo_act_257 : decode M_Mo_act.2.1 257 = .ok (.invokevirtual 129, 3) := by decide +kernel
theorem d_Mo_act_260 : decode M_Mo_act.2.1 260 = .ok (.iastore, 1) := by decide +kernel
theorem d_Mo_act_261 : decode M_Mo_act.2.1 261 = .ok (.sipush (-1000), 3) := by decide +kernel
theorem d_Mo_act_264 : decode M_Mo_act.2.1 264 = .ok (.ireturn, 1) := by decide +kernel
theorem d_Mo_act_265 : decode M_Mo_act.2.1 265 = .ok (.aload_n 0, 1) := by decide +kernel
theorem d_Mo_act_266 : decode M_Mo_act.2.1 266 = .ok (.getfield 13, 3) := by decide +kernel
theorem d_Mo_act_269 : decode M_Mo_act.2.1 269 = .ok (.iload_n 2, 1) := by decide +kernel
theorem d_Mo_act_270 : decode M_Mo_act.2.1 270 = .ok (.iaload, 1) := by decide +kernel
theorem d_Mo_act_271 : decode M_Mo_act.2.1 271 = .ok (.ireturn, 1) := by decide +kernel
theorem d_Mo_act_272 : decode M_Mo_act.2.1 272 = .ok (.iload_n 3, 1) := by decide +kernel
theorem d_Mo_act_273 : decode M_Mo_act.2.1 273 = .ok (.iconst 1, 1) := by decide +kernel
theorem d_Mo_act_274 : decode M_Mo_act.2.1 274 = .ok (.if_icmp .ne 47, 3) := by decide +kernel
theorem d_Mo_act_277 : decode M_Mo_act.2.1 277 = .ok (.aload_n 0, 1) := by decide +kernel
theorem d_Mo_act_278 : decode M_Mo_act.2.1 278 = .ok (.getfield 123, 3) := by decide +kernel
theorem d_Mo_act_281 : decode M_Mo_act.2.1 281 = .ok (.iconst 1, 1) := by decide +kernel
theorem d_Mo_act_282 : decode M_Mo_act.2.1 282 = .ok (.if_icmp .ne 12, 3) := by decide +kernel
theorem d_Mo_act_285 : decode M_Mo_act.2.1 285 = .ok (.aload_n 0, 1) := by decide +kernel
theorem d_Mo_act_286 : decode M_Mo_act.2.1 286 = .ok (.getfield 53, 3) := by decide +kernel
theorem d_Mo_act_289 : decode M_Mo_act.2.1 289 = .ok (.iload_n 1, 1) := by decide +kernel
theorem d_Mo_act_290 : decode M_Mo_act.2.1 290 = .ok (.iaload, 1) := by decide +kernel
theorem d_Mo_act_291 : decode M_Mo_act.2.1 291 = .ok (.goto 29, 3) := by decide +kernel
theorem d_Mo_act_294 : decode M_Mo_act.2.1 294 = .ok (.iload_n 2, 1) := by decide +kernel
theorem d_Mo_act_295 : decode M_Mo_act.2.1 295 = .ok (.aload_n 0, 1) := by decide +kernel
theorem d_Mo_act_296 : decode M_Mo_act.2.1 296 = .ok (.getfield 126, 3) := by decide +kernel
theorem d_Mo_act_299 : decode M_Mo_act.2.1 299 = .ok (.if_icmp .eq 9, 3) := by decide +kernel
theorem d_Mo_act_302 : decode M_Mo_act.2.1 302 = .ok (.sipush (-1000), 3) := by decide +kernel
theorem d_Mo_act_305 : decode M_Mo_act.2.1 305 = .ok (.goto 15, 3) := by decide +kernel
theorem d_Mo_act_308 : decode M_Mo_act.2.1 308 = .ok (.aload_n 0, 1) := by decide +kernel
theorem d_Mo_act_309 : decode M_Mo_act.2.1 309 = .ok (.getfield 123, 3) := by decide +kernel
theorem d_Mo_act_312 : decode M_Mo_act.2.1 312 = .ok (.ifCond .ne 7, 3) := by decide +kernel
theorem d_Mo_act_315 : decode M_Mo_act.2.1 315 = .ok (.iconst 1, 1) := by decide +kernel
theorem d_Mo_act_316 : decode M_Mo_act.2.1 316 = .ok (.goto 4, 3) := by decide +kernel
theorem d_Mo_act_319 : decode M_Mo_act.2.1 319 = .ok (.iconst 0, 1) := by decide +kernel
theorem d_Mo_act_320 : decode M_Mo_act.2.1 320 = .ok (.ireturn, 1) := by decide +kernel
theorem d_Mo_act_321 : decode M_Mo_act.2.1 321 = .ok (.iload 8, 2) := by decide +kernel
theorem d_Mo_act_323 : decode M_Mo_act.2.1 323 = .ok (.ifCond .eq 56, 3) := by decide +kernel
theorem d_Mo_act_326 : decode M_Mo_act.2.1 326 = .ok (.aload_n 0, 1) := by decide +kernel
theorem d_Mo_act_327 : decode M_Mo_act.2.1 327 = .ok (.getfield 123, 3) := by decide +kernel
theorem d_Mo_act_330 : decode M_Mo_act.2.1 330 = .ok (.iconst 1, 1) := by decide +kernel
theorem d_Mo_act_331 : decode M_Mo_act.2.1 331 = .ok (.if_icmp .ne 17, 3) := by decide +kernel
theorem d_Mo_act_334 : decode M_Mo_act.2.1 334 = .ok (.iload 6, 2) := by decide +kernel
theorem d_Mo_act_336 : decode M_Mo_act.2.1 336 = .ok (.aload_n 0, 1) := by decide +kernel
theorem d_Mo_act_337 : decode M_Mo_act.2.1 337 = .ok (.getfield 53, 3) := by decide +kernel
theorem d_Mo_act_340 : decode M_Mo_act.2.1 340 = .ok (.iload_n 1, 1) := by decide +kernel
theorem d_Mo_act_341 : decode M_Mo_act.2.1 341 = .ok (.iaload, 1) := by decide +kernel
theorem d_Mo_act_342 : decode M_Mo_act.2.1 342 = .ok (.if_icmp .le 37, 3) := by decide +kernel
theorem d_Mo_act_345 : decode M_Mo_act.2.1 345 = .ok (.goto 30, 3) := by decide +kernel
theorem d_Mo_act_348 : decode M_Mo_act.2.1 348 = .ok (.aload_n 0, 1) := by decide +kernel
theorem d_Mo_act_349 : decode M_Mo_act.2.1 349 = .ok (.getfield 53, 3) := by decide +kernel
theorem d_Mo_act_352 : decode M_Mo_act.2.1 352 = .ok (.iload_n 1, 1) := by decide +kernel
theorem d_Mo_act_353 : decode M_Mo_act.2.1 353 = .ok (.iaload, 1) := by decide +kernel
theorem d_Mo_act_354 : decode M_Mo_act.2.1 354 = .ok (.bipush (-2), 2) := by decide +kernel
theorem d_Mo_act_356 : decode M_Mo_act.2.1 356 = .ok (.if_icmp .eq 19, 3) := by decide +kernel
theorem d_Mo_act_359 : decode M_Mo_act.2.1 359 = .ok (.iload 4, 2) := by decide +kernel
theorem d_Mo_act_361 : decode M_Mo_act.2.1 361 = .ok (.ifCond .eq 18, 3) := by decide +kernel
theorem d_Mo_act_364 : decode M_Mo_act.2.1 364 = .ok (.iload 5, 2) := by decide +kernel
theorem d_Mo_act_366 : decode M_Mo_act.2.1 366 = .ok (.aload_n 0, 1) := by decide +kernel
theorem d_Mo_act_367 : decode M_Mo_act.2.1 367 = .ok (.getfield 53, 3) := by decide +kernel
theorem d_Mo_act_370 : decode M_Mo_act.2.1 370 = .ok (.iload_n 1, 1) := by decide +kernel
theorem d_Mo_act_371 : decode M_Mo_act.2.1 371 = .ok (.iaload, 1) := by decide +kernel
theorem d_Mo_act_372 : decode M_Mo_act.2.1 372 = .ok (.if_icmp .ge 7, 3) := by decide +kernel
theorem d_Mo_act_375 : decode M_Mo_act.2.1 375 = .ok (.iconst 1, 1) := by decide +kernel
theorem d_Mo_act_376 : decode M_Mo_act.2.1 376 = .ok (.goto 4, 3) := by decide +kernel
theorem d_Mo_act_379 : decode M_Mo_act.2.1 379 = .ok (.iconst 0, 1) := by decide +kernel
theorem d_Mo_act_380 : decode M_Mo_act.2.1 380 = .ok (.istore 9, 2) := by decide +kernel
theorem d_Mo_act_382 : decode M_Mo_act.2.1 382 = .ok (.iload 9, 2) := by decide +kernel
theorem d_Mo_act_384 : decode M_Mo_act.2.1 384 = .ok (.ifCond .ne 7, 3) := by decide +kernel
theorem d_Mo_act_387 : decode M_Mo_act.2.1 387 = .ok (.sipush (-1000), 3) := by decide +kernel
theorem d_Mo_act_390 : decode M_Mo_act.2.1 390 = .ok (.ireturn, 1) := by decide +kernel
theorem d_Mo_act_391 : decode M_Mo_act.2.1 391 = .ok (.aload_n 0, 1) := by decide +kernel
theorem d_Mo_act_392 : decode M_Mo_act.2.1 392 = .ok (.getfield 123, 3) := by decide +kernel
theorem d_Mo_act_395 : decode M_Mo_act.2.1 395 = .ok (.iconst 1, 1) := by decide +kernel
theorem d_Mo_act_396 : decode M_Mo_act.2.1 396 = .ok (.if_icmp .ne 8, 3) := by decide +kernel
theorem d_Mo_act_399 : decode M_Mo_act.2.1 399 = .ok (.iload 6, 2) := by decide +kernel
theorem d_Mo_act_401 : decode M_Mo_act.2.1 401 = .ok (.goto 5, 3) := by decide +kernel
theorem d_Mo_act_404 : decode M_Mo_act.2.1 404 = .ok (.iload 5, 2) := by decide +kernel
theorem d_Mo_act_406 : decode M_Mo_act.2.1 406 = .ok (.istore 10, 2) := by decide +kernel
theorem d_Mo_act_408 : decode M_Mo_act.2.1 408 = .ok (.aload_n 0, 1) := by decide +kernel
theorem d_Mo_act_409 : decode M_Mo_act.2.1 409 = .ok (.getfield 53, 3) := by decide +kernel
theorem d_Mo_act_412 : decode M_Mo_act.2.1 412 = .ok (.iload_n 1, 1) := by decide +kernel
theorem d_Mo_act_413 : decode M_Mo_act.2.1 413 = .ok (.iload 10, 2) := by decide +kernel
theorem d_Mo_act_415 : decode M_Mo_act.2.1 415 = .ok (.iastore, 1) := by decide +kernel
theorem d_Mo_act_416 : decode M_Mo_act.2.1 416 = .ok (.aload_n 0, 1) := by decide +kernel
theorem d_Mo_act_417 : decode M_Mo_act.2.1 417 = .ok (.getfield 56, 3) := by decide +kernel
theorem d_Mo_act_420 : decode M_Mo_act.2.1 420 = .ok (.iload_n 1, 1) := by decide +kernel
theorem d_Mo_act_421 : decode M_Mo_act.2.1 421 = .ok (.aload_n 0, 1) := by decide +kernel
theorem d_Mo_act_422 : decode M_Mo_act.2.1 422 = .ok (.iload_n 2, 1) := by decide +kernel
theorem d_Mo_act_423 : decode M_Mo_act.2.1 423 = .ok (.iload 10, 2) := by decide +kernel
theorem d_Mo_act_425 : decode M_Mo_act.2.1 425 = .ok (.iload 4, 2) := by decide +kernel
theorem d_Mo_act_427 : decode M_Mo_act.2.1 427 = .ok (.invokevirtual 129, 3) := by decide +kernel
theorem d_Mo_act_430 : decode M_Mo_act.2.1 430 = .ok (.iastore, 1) := by decide +kernel
theorem d_Mo_act_431 : decode M_Mo_act.2.1 431 = .ok (.aload_n 0, 1) := by decide +kernel
theorem d_Mo_act_432 : decode M_Mo_act.2.1 432 = .ok (.getfield 123, 3) := by decide +kernel
theorem d_Mo_act_435 : decode M_Mo_act.2.1 435 = .ok (.ifCond .ne 10, 3) := by decide +kernel
theorem d_Mo_act_438 : decode M_Mo_act.2.1 438 = .ok (.iload 10, 2) := by decide +kernel
theorem d_Mo_act_440 : decode M_Mo_act.2.1 440 = .ok (.iconst 1, 1) := by decide +kernel
theorem d_Mo_act_441 : decode M_Mo_act.2.1 441 = .ok (.iadd, 1) := by decide +kernel
theorem d_Mo_act_442 : decode M_Mo_act.2.1 442 = .ok (.goto 5, 3) := by decide +kernel
theorem d_Mo_act_445 : decode M_Mo_act.2.1 445 = .ok (.iload 10, 2) := by decide +kernel
theorem d_Mo_act_447 : decode M_Mo_act.2.1 447 = .ok (.ireturn, 1) := by decide +kernel
