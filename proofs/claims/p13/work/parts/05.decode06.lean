theorem d_P_differ_0 : decode M_P_differ.2.1 0 = .ok (.aload_n 0, 1) := by decide +kernel
theorem d_P_differ_1 : decode M_P_differ.2.1 1 = .ok (.getfield 26, 3) := by decide +kernel
theorem d_P_differ_4 : decode M_P_differ.2.1 4 = .ok (.ifCond .eq 13, 3) := by decide +kernel
theorem d_P_differ_7 : decode M_P_differ.2.1 7 = .ok (.aload_n 0, 1) := by decide +kernel
theorem d_P_differ_8 : decode M_P_differ.2.1 8 = .ok (.getfield 10, 3) := by decide +kernel
theorem d_P_differ_11 : decode M_P_differ.2.1 11 = .ok (.invokevirtual 133, 3) := by decide +kernel
theorem d_P_differ_14 : decode M_P_differ.2.1 14 = .ok (.goto 4, 3) := by decide +kernel
theorem d_P_differ_17 : decode M_P_differ.2.1 17 = .ok (.iconst (-1), 1) := by decide +kernel
theorem d_P_differ_18 : decode M_P_differ.2.1 18 = .ok (.ireturn, 1) := by decide +kernel
theorem d_P_letter_0 : decode M_P_letter.2.1 0 = .ok (.aload_n 0, 1) := by decide +kernel
theorem d_P_letter_1 : decode M_P_letter.2.1 1 = .ok (.iload_n 1, 1) := by decide +kernel
theorem d_P_letter_2 : decode M_P_letter.2.1 2 = .ok (.invokevirtual 73, 3) := by decide +kernel
theorem d_P_letter_5 : decode M_P_letter.2.1 5 = .ok (.ifCond .ne 5, 3) := by decide +kernel
theorem d_P_letter_8 : decode M_P_letter.2.1 8 = .ok (.iconst (-1), 1) := by decide +kernel
theorem d_P_letter_9 : decode M_P_letter.2.1 9 = .ok (.ireturn, 1) := by decide +kernel
theorem d_P_letter_10 : decode M_P_letter.2.1 10 = .ok (.iload_n 2, 1) := by decide +kernel
theorem d_P_letter_11 : decode M_P_letter.2.1 11 = .ok (.tableswitch 98 0 4 #[33, 46, 59, 72, 85], 33) := by decide +kernel
theorem d_P_letter_44 : decode M_P_letter.2.1 44 = .ok (.aload_n 0, 1) := by decide +kernel
theorem d_P_letter_45 : decode M_P_letter.2.1 45 = .ok (.getfield 10, 3) := by decide +kernel
theorem d_P_letter_48 : decode M_P_letter.2.1 48 = .ok (.getfield 64, 3) := by decide +kernel
theorem d_P_letter_51 : decode M_P_letter.2.1 51 = .ok (.getfield 137, 3) := by decide +kernel
theorem d_P_letter_54 : decode M_P_letter.2.1 54 = .ok (.iload_n 1, 1) := by decide +kernel
theorem d_P_letter_55 : decode M_P_letter.2.1 55 = .ok (.iaload, 1) := by decide +kernel
theorem d_P_letter_56 : decode M_P_letter.2.1 56 = .ok (.ireturn, 1) := by decide +kernel
theorem d_P_letter_57 : decode M_P_letter.2.1 57 = .ok (.aload_n 0, 1) := by decide +kernel
theorem d_P_letter_58 : decode M_P_letter.2.1 58 = .ok (.getfield 10, 3) := by decide +kernel
theorem d_P_letter_61 : decode M_P_letter.2.1 61 = .ok (.getfield 64, 3) := by decide +kernel
theorem d_P_letter_64 : decode M_P_letter.2.1 64 = .ok (.getfield 140, 3) := by decide +kernel
theorem d_P_letter_67 : decode M_P_letter.2.1 67 = .ok (.iload_n 1, 1) := by decide +kernel
theorem d_P_letter_68 : decode M_P_letter.2.1 68 = .ok (.iaload, 1) := by decide +kernel
theorem d_P_letter_69 : decode M_P_letter.2.1 69 = .ok (.ireturn, 1) := by decide +kernel
theorem d_P_letter_70 : decode M_P_letter.2.1 70 = .ok (.aload_n 0, 1) := by decide +kernel
theorem d_P_letter_71 : decode M_P_letter.2.1 71 = .ok (.getfield 10, 3) := by decide +kernel
theorem d_P_letter_74 : decode M_P_letter.2.1 74 = .ok (.getfield 64, 3) := by decide +kernel
theorem d_P_letter_77 : decode M_P_letter.2.1 77 = .ok (.getfield 143, 3) := by decide +kernel
theorem d_P_letter_80 : decode M_P_letter.2.1 80 = .ok (.iload_n 1, 1) := by decide +kernel
theorem d_P_letter_81 : decode M_P_letter.2.1 81 = .ok (.iaload, 1) := by decide +kernel
theorem d_P_letter_82 : decode M_P_letter.2.1 82 = .ok (.ireturn, 1) := by decide +kernel
theorem d_P_letter_83 : decode M_P_letter.2.1 83 = .ok (.aload_n 0, 1) := by decide +kernel
theorem d_P_letter_84 : decode M_P_letter.2.1 84 = .ok (.getfield 10, 3) := by decide +kernel
theorem d_P_letter_87 : decode M_P_letter.2.1 87 = .ok (.getfield 64, 3) := by decide +kernel
theorem d_P_letter_90 : decode M_P_letter.2.1 90 = .ok (.getfield 146, 3) := by decide +kernel
theorem d_P_letter_93 : decode M_P_letter.2.1 93 = .ok (.iload_n 1, 1) := by decide +kernel
theorem d_P_letter_94 : decode M_P_letter.2.1 94 = .ok (.iaload, 1) := by decide +kernel
theorem d_P_letter_95 : decode M_P_letter.2.1 95 = .ok (.ireturn, 1) := by decide +kernel
theorem d_P_letter_96 : decode M_P_letter.2.1 96 = .ok (.aload_n 0, 1) := by decide +kernel
theorem d_P_letter_97 : decode M_P_letter.2.1 97 = .ok (.getfield 10, 3) := by decide +kernel
theorem d_P_letter_100 : decode M_P_letter.2.1 100 = .ok (.getfield 64, 3) := by decide +kernel
theorem d_P_letter_103 : decode M_P_letter.2.1 103 = .ok (.getfield 149, 3) := by decide +kernel
theorem d_P_letter_106 : decode M_P_letter.2.1 106 = .ok (.iload_n 1, 1) := by decide +kernel
theorem d_P_letter_107 : decode M_P_letter.2.1 107 = .ok (.iaload, 1) := by decide +kernel
theorem d_P_letter_108 : decode M_P_letter.2.1 108 = .ok (.ireturn, 1) := by decide +kernel
theorem d_P_letter_109 : decode M_P_letter.2.1 109 = .ok (.iconst (-1), 1) := by decide +kernel
theorem d_P_letter_110 : decode M_P_letter.2.1 110 = .ok (.ireturn, 1) := by decide +kernel
theorem d_P_count_0 : decode M_P_count.2.1 0 = .ok (.iload_n 1, 1) := by decide +kernel
theorem d_P_count_1 : decode M_P_count.2.1 1 = .ok (.ifCond .ne 14, 3) := by decide +kernel
theorem d_P_count_4 : decode M_P_count.2.1 4 = .ok (.aload_n 0, 1) := by decide +kernel
theorem d_P_count_5 : decode M_P_count.2.1 5 = .ok (.getfield 10, 3) := by decide +kernel
theorem d_P_count_8 : decode M_P_count.2.1 8 = .ok (.getfield 16, 3) := by decide +kernel
theorem d_P_count_11 : decode M_P_count.2.1 11 = .ok (.getfield 152, 3) := by decide +kernel
theorem d_P_count_14 : decode M_P_count.2.1 14 = .ok (.ireturn, 1) := by decide +kernel
theorem d_P_count_15 : decode M_P_count.2.1 15 = .ok (.iload_n 1, 1) := by decide +kernel
theorem d_P_count_16 : decode M_P_count.2.1 16 = .ok (.iconst 1, 1) := by decide +kernel
theorem d_P_count_17 : decode M_P_count.2.1 17 = .ok (.if_icmp .ne 14, 3) := by decide +kernel
theorem d_P_count_20 : decode M_P_count.2.1 20 = .ok (.aload_n 0, 1) := by decide +kernel
theorem d_P_count_21 : decode M_P_count.2.1 21 = .ok (.getfield 10, 3) := by decide +kernel
theorem d_P_count_24 : decode M_P_count.2.1 24 = .ok (.getfield 16, 3) := by decide +kernel
theorem d_P_count_27 : decode M_P_count.2.1 27 = .ok (.getfield 38, 3) := by decide +kernel
theorem d_P_count_30 : decode M_P_count.2.1 30 = .ok (.ireturn, 1) := by decide +kernel
theorem d_P_count_31 : decode M_P_count.2.1 31 = .ok (.aload_n 0, 1) := by decide +kernel
theorem d_P_count_32 : decode M_P_count.2.1 32 = .ok (.getfield 26, 3) := by decide +kernel
theorem d_P_count_35 : decode M_P_count.2.1 35 = .ok (.ifCond .ne 5, 3) := by decide +kernel
theorem d_P_count_38 : decode M_P_count.2.1 38 = .ok (.iconst (-1), 1) := by decide +kernel
theorem d_P_count_39 : decode M_P_count.2.1 39 = .ok (.ireturn, 1) := by decide +kernel
theorem d_P_count_40 : decode M_P_count.2.1 40 = .ok (.iload_n 1, 1) := by decide +kernel
theorem d_P_count_41 : decode M_P_count.2.1 41 = .ok (.tableswitch 128 2 9 #[47, 58, 66, 74, 82, 90, 106, 117], 47) := by decide +kernel
theorem d_P_count_88 : decode M_P_count.2.1 88 = .ok (.aload_n 0, 1) := by decide +kernel
theorem d_P_count_89 : decode M_P_count.2.1 89 = .ok (.getfield 10, 3) := by decide +kernel
theorem d_P_count_92 : decode M_P_count.2.1 92 = .ok (.getfield 64, 3) := by decide +kernel
theorem d_P_count_95 : decode M_P_count.2.1 95 = .ok (.getfield 68, 3) := by decide +kernel
theorem d_P_count_98 : decode M_P_count.2.1 98 = .ok (.ireturn, 1) := by decide +kernel
theorem d_P_count_99 : decode M_P_count.2.1 99 = .ok (.aload_n 0, 1) := by decide +kernel
theorem d_P_count_100 : decode M_P_count.2.1 100 = .ok (.getfield 10, 3) := by decide +kernel
theorem d_P_count_103 : decode M_P_count.2.1 103 = .ok (.getfield 155, 3) := by decide +kernel
theorem d_P_count_106 : decode M_P_count.2.1 106 = .ok (.ireturn, 1) := by decide +kernel
theorem d_P_count_107 : decode M_P_count.2.1 107 = .ok (.aload_n 0, 1) := by decide +kernel
theorem d_P_count_108 : decode M_P_count.2.1 108 = .ok (.getfield 10, 3) := by decide +kernel
theorem d_P_count_111 : decode M_P_count.2.1 111 = .ok (.getfield 158, 3) := by decide +kernel
theorem d_P_count_114 : decode M_P_count.2.1 114 = .ok (.ireturn, 1) := by decide +kernel
theorem d_P_count_115 : decode M_P_count.2.1 115 = .ok (.aload_n 0, 1) := by decide +kernel
theorem d_P_count_116 : decode M_P_count.2.1 116 = .ok (.getfield 10, 3) := by decide +kernel
theorem d_P_count_119 : decode M_P_count.2.1 119 = .ok (.invokevirtual 161, 3) := by decide +kernel
theorem d_P_count_122 : decode M_P_count.2.1 122 = .ok (.ireturn, 1) := by decide +kernel
theorem d_P_count_123 : decode M_P_count.2.1 123 = .ok (.aload_n 0, 1) := by decide +kernel
theorem d_P_count_124 : decode M_P_count.2.1 124 = .ok (.getfield 10, 3) := by decide +kernel
theorem d_P_count_127 : decode M_P_count.2.1 127 = .ok (.invokevirtual 164, 3) := by decide +kernel
theorem d_P_count_130 : decode M_P_count.2.1 130 = .ok (.ireturn, 1) := by decide +kernel
theorem d_P_count_131 : decode M_P_count.2.1 131 = .ok (.aload_n 0, 1) := by decide +kernel
theorem d_P_count_132 : decode M_P_count.2.1 132 = .ok (.getfield 10, 3) := by decide +kernel
theorem d_P_count_135 : decode M_P_count.2.1 135 = .ok (.invokevirtual 167, 3) := by decide +kernel
theorem d_P_count_138 : decode M_P_count.2.1 138 = .ok (.ifCond .eq 7, 3) := by decide +kernel
theorem d_P_count_141 : decode M_P_count.2.1 141 = .ok (.iconst 1, 1) := by decide +kernel
theorem d_P_count_142 : decode M_P_count.2.1 142 = .ok (.goto 4, 3) := by decide +kernel
theorem d_P_count_145 : decode M_P_count.2.1 145 = .ok (.iconst 0, 1) := by decide +kernel
theorem d_P_count_146 : decode M_P_count.2.1 146 = .ok (.ireturn, 1) := by decide +kernel
theorem d_P_count_147 : decode M_P_count.2.1 147 = .ok (.aload_n 0, 1) := by decide +kernel
theorem d_P_count_148 : decode M_P_count.2.1 148 = .ok (.getfield 10, 3) := by decide +kernel
theorem d_P_count_151 : decode M_P_count.2.1 151 = .ok (.getfield 50, 3) := by decide +kernel
theorem d_P_count_154 : decode M_P_count.2.1 154 = .ok (.getfield 170, 3) := by decide +kernel
theorem d_P_count_157 : decode M_P_count.2.1 157 = .ok (.ireturn, 1) := by decide +kernel
theorem d_P_count_158 : decode M_P_count.2.1 158 = .ok (.aload_n 0, 1) := by decide +kernel
theorem d_P_count_159 : decode M_P_count.2.1 159 = .ok (.getfield 10, 3) := by decide +kernel
theorem d_P_count_162 : decode M_P_count.2.1 162 = .ok (.getfield 50, 3) := by decide +kernel
theorem d_P_count_165 : decode M_P_count.2.1 165 = .ok (.getfield 173, 3) := by decide +kernel
theorem d_P_count_168 : decode M_P_count.2.1 168 = .ok (.ireturn, 1) := by decide +kernel
theorem d_P_count_169 : decode M_P_count.2.1 169 = .ok (.iconst (-1), 1) := by decide +kernel
theorem d_P_count_170 : decode M_P_count.2.1 170 = .ok (.ireturn, 1) := by decide +kernel
theorem d_P_hasLetter_0 : decode M_P_hasLetter.2.1 0 = .ok (.aload_n 0, 1) := by decide +kernel
theorem d_P_hasLetter_1 : decode M_P_hasLetter.2.1 1 = .ok (.getfield 26, 3) := by decide +kernel
theorem d_P_hasLetter_4 : decode M_P_hasLetter.2.1 4 = .ok (.ifCond .eq 25, 3) := by decide +kernel
theorem d_P_hasLetter_7 : decode M_P_hasLetter.2.1 7 = .ok (.iload_n 1, 1) := by decide +kernel
theorem d_P_hasLetter_8 : decode M_P_hasLetter.2.1 8 = .ok (.ifCond .lt 21, 3) := by decide +kernel
theorem d_P_hasLetter_11 : decode M_P_hasLetter.2.1 11 = .ok (.iload_n 1, 1) := by decide +kernel
theorem d_P_hasLetter_12 : decode M_P_hasLetter.2.1 12 = .ok (.aload_n 0, 1) := by decide +kernel
theorem d_P_hasLetter_13 : decode M_P_hasLetter.2.1 13 = .ok (.getfield 10, 3) := by decide +kernel
theorem d_P_hasLetter_16 : decode M_P_hasLetter.2.1 16 = .ok (.getfield 64, 3) := by decide +kernel
theorem d_P_hasLetter_19 : decode M_P_hasLetter.2.1 19 = .ok (.getfield 68, 3) := by decide +kernel
theorem d_P_hasLetter_22 : decode M_P_hasLetter.2.1 22 = .ok (.if_icmp .ge 7, 3) := by decide +kernel
theorem d_P_hasLetter_25 : decode M_P_hasLetter.2.1 25 = .ok (.iconst 1, 1) := by decide +kernel
theorem d_P_hasLetter_26 : decode M_P_hasLetter.2.1 26 = .ok (.goto 4, 3) := by decide +kernel
theorem d_P_hasLetter_29 : decode M_P_hasLetter.2.1 29 = .ok (.iconst 0, 1) := by decide +kernel
theorem d_P_hasLetter_30 : decode M_P_hasLetter.2.1 30 = .ok (.ireturn, 1) := by decide +kernel
theorem d_P_hasRound_0 : decode M_P_hasRound.2.1 0 = .ok (.aload_n 0, 1) := by decide +kernel
theorem d_P_hasRound_1 : decode M_P_hasRound.2.1 1 = .ok (.getfield 26, 3) := by decide +kernel
theorem d_P_hasRound_4 : decode M_P_hasRound.2.1 4 = .ok (.ifCond .eq 36, 3) := by decide +kernel
theorem d_P_hasRound_7 : decode M_P_hasRound.2.1 7 = .ok (.aload_n 0, 1) := by decide +kernel
theorem d_P_hasRound_8 : decode M_P_hasRound.2.1 8 = .ok (.getfield 10, 3) := by decide +kernel
theorem d_P_hasRound_11 : decode M_P_hasRound.2.1 11 = .ok (.getfield 16, 3) := by decide +kernel
theorem d_P_hasRound_14 : decode M_P_hasRound.2.1 14 = .ok (.iload_n 1, 1) := by decide +kernel
theorem d_P_hasRound_15 : decode M_P_hasRound.2.1 15 = .ok (.invokevirtual 30, 3) := by decide +kernel
theorem d_P_hasRound_18 : decode M_P_hasRound.2.1 18 = .ok (.ifCond .eq 22, 3) := by decide +kernel
theorem d_P_hasRound_21 : decode M_P_hasRound.2.1 21 = .ok (.iload_n 2, 1) := by decide +kernel
theorem d_P_hasRound_22 : decode M_P_hasRound.2.1 22 = .ok (.ifCond .lt 18, 3) := by decide +kernel
theorem d_P_hasRound_25 : decode M_P_hasRound.2.1 25 = .ok (.iload_n 2, 1) := by decide +kernel
theorem d_P_hasRound_26 : decode M_P_hasRound.2.1 26 = .ok (.aload_n 0, 1) := by decide +kernel
theorem d_P_hasRound_27 : decode M_P_hasRound.2.1 27 = .ok (.getfield 10, 3) := by decide +kernel
theorem d_P_hasRound_30 : decode M_P_hasRound.2.1 30 = .ok (.getfield 176, 3) := by decide +kernel
theorem d_P_hasRound_33 : decode M_P_hasRound.2.1 33 = .ok (.if_icmp .gt 7, 3) := by decide +kernel
theorem d_P_hasRound_36 : decode M_P_hasRound.2.1 36 = .ok (.iconst 1, 1) := by decide +kernel
theorem d_P_hasRound_37 : decode M_P_hasRound.2.1 37 = .ok (.goto 4, 3) := by decide +kernel
theorem d_P_hasRound_40 : decode M_P_hasRound.2.1 40 = .ok (.iconst 0, 1) := by decide +kernel
theorem d_P_hasRound_41 : decode M_P_hasRound.2.1 41 = .ok (.ireturn, 1) := by decide +kernel
theorem d_P_at_0 : decode M_P_at.2.1 0 = .ok (.iload_n 0, 1) := by decide +kernel
theorem d_P_at_1 : decode M_P_at.2.1 1 = .ok (.bipush 12, 2) := by decide +kernel
theorem d_P_at_3 : decode M_P_at.2.1 3 = .ok (.imul, 1) := by decide +kernel
theorem d_P_at_4 : decode M_P_at.2.1 4 = .ok (.iload_n 1, 1) := by decide +kernel
theorem d_P_at_5 : decode M_P_at.2.1 5 = .ok (.iadd, 1) := by decide +kernel
theorem d_P_at_6 : decode M_P_at.2.1 6 = .ok (.ireturn, 1) := by decide +kernel
theorem d_P_isIn_0 : decode M_P_isIn.2.1 0 = .ok (.iload_n 0, 1) := by decide +kernel
theorem d_P_isIn_1 : decode M_P_isIn.2.1 1 = .ok (.iload_n 1, 1) := by decide +kernel
theorem d_P_isIn_2 : decode M_P_isIn.2.1 2 = .ok (.ishr, 1) := by decide +kernel
theorem d_P_isIn_3 : decode M_P_isIn.2.1 3 = .ok (.iconst 1, 1) := by decide +kernel
theorem d_P_isIn_4 : decode M_P_isIn.2.1 4 = .ok (.iand, 1) := by decide +kernel
theorem d_P_isIn_5 : decode M_P_isIn.2.1 5 = .ok (.ifCond .eq 7, 3) := by decide +kernel
theorem d_P_isIn_8 : decode M_P_isIn.2.1 8 = .ok (.iconst 1, 1) := by decide +kernel
theorem d_P_isIn_9 : decode M_P_isIn.2.1 9 = .ok (.goto 4, 3) := by decide +kernel
theorem d_P_isIn_12 : decode M_P_isIn.2.1 12 = .ok (.iconst 0, 1) := by decide +kernel
theorem d_P_isIn_13 : decode M_P_isIn.2.1 13 = .ok (.ireturn, 1) := by decide +kernel
theorem d_Mo_begin_0 : decode M_Mo_begin.2.1 0 = .ok (.iload_n 1, 1) := by decide +kernel
theorem d_Mo_begin_1 : decode M_Mo_begin.2.1 1 = .ok (.iconst 1, 1) := by decide +kernel
theorem d_Mo_begin_2 : decode M_Mo_begin.2.1 2 = .ok (.if_icmp .lt 9, 3) := by decide +kernel
theorem d_Mo_begin_5 : decode M_Mo_begin.2.1 5 = .ok (.iload_n 1, 1) := by decide +kernel
theorem d_Mo_begin_6 : decode M_Mo_begin.2.1 6 = .ok (.bipush 12, 2) := by decide +kernel
theorem d_Mo_begin_8 : decode M_Mo_begin.2.1 8 = .ok (.if_icmp .le 5, 3) := by decide +kernel
theorem d_Mo_begin_11 : decode M_Mo_begin.2.1 11 = .ok (.iconst (-1), 1) := by decide +kernel
theorem d_Mo_begin_12 : decode M_Mo_begin.2.1 12 = .ok (.ireturn, 1) := by decide +kernel
theorem d_Mo_begin_13 : decode M_Mo_begin.2.1 13 = .ok (.aload_n 0, 1) := by decide +kernel
theorem d_Mo_begin_14 : decode M_Mo_begin.2.1 14 = .ok (.iload_n 1, 1) := by decide +kernel
theorem d_Mo_begin_15 : decode M_Mo_begin.2.1 15 = .ok (.putfield 84, 3) := by decide +kernel
theorem d_Mo_begin_18 : decode M_Mo_begin.2.1 18 = .ok (.aload_n 0, 1) := by decide +kernel
theorem d_Mo_begin_19 : decode M_Mo_begin.2.1 19 = .ok (.iconst 0, 1) := by decide +kernel
theorem d_Mo_begin_20 : decode M_Mo_begin.2.1 20 = .ok (.putfield 88, 3) := by decide +kernel
theorem d_Mo_begin_23 : decode M_Mo_begin.2.1 23 = .ok (.aload_n 0, 1) := by decide +kernel
theorem d_Mo_begin_24 : decode M_Mo_begin.2.1 24 = .ok (.iconst 0, 1) := by decide +kernel
theorem d_Mo_begin_25 : decode M_Mo_begin.2.1 25 = .ok (.putfield 91, 3) := by decide +kernel
theorem d_Mo_begin_28 : decode M_Mo_begin.2.1 28 = .ok (.iconst 0, 1) := by decide +kernel
theorem d_Mo_begin_29 : decode M_Mo_begin.2.1 29 = .ok (.istore_n 2, 1) := by decide +kernel
theorem d_Mo_begin_30 : decode M_Mo_begin.2.1 30 = .ok (.iload_n 2, 1) := by decide +kernel
theorem d_Mo_begin_31 : decode M_Mo_begin.2.1 31 = .ok (.sipush 144, 3) := by decide +kernel
theorem d_Mo_begin_34 : decode M_Mo_begin.2.1 34 = .ok (.if_icmp .ge 16, 3) := by decide +kernel
theorem d_Mo_begin_37 : decode M_Mo_begin.2.1 37 = .ok (.aload_n 0, 1) := by decide +kernel
theorem d_Mo_begin_38 : decode M_Mo_begin.2.1 38 = .ok (.getfield 7, 3) := by decide +kernel
theorem d_Mo_begin_41 : decode M_Mo_begin.2.1 41 = .ok (.iload_n 2, 1) := by decide +kernel
theorem d_Mo_begin_42 : decode M_Mo_begin.2.1 42 = .ok (.iconst 0, 1) := by decide +kernel
theorem d_Mo_begin_43 : decode M_Mo_begin.2.1 43 = .ok (.iastore, 1) := by decide +kernel
theorem d_Mo_begin_44 : decode M_Mo_begin.2.1 44 = .ok (.iinc 2 1, 3) := by decide +kernel
theorem d_Mo_begin_47 : decode M_Mo_begin.2.1 47 = .ok (.goto (-17), 3) := by decide +kernel
theorem d_Mo_begin_50 : decode M_Mo_begin.2.1 50 = .ok (.iconst 0, 1) := by decide +kernel
theorem d_Mo_begin_51 : decode M_Mo_begin.2.1 51 = .ok (.istore_n 2, 1) := by decide +kernel
theorem d_Mo_begin_52 : decode M_Mo_begin.2.1 52 = .ok (.iload_n 2, 1) := by decide +kernel
theorem d_Mo_begin_53 : decode M_Mo_begin.2.1 53 = .ok (.bipush 12, 2) := by decide +kernel
theorem d_Mo_begin_55 : decode M_Mo_begin.2.1 55 = .ok (.if_icmp .ge 16, 3) := by decide +kernel
theorem d_Mo_begin_58 : decode M_Mo_begin.2.1 58 = .ok (.aload_n 0, 1) := by decide +kernel
theorem d_Mo_begin_59 : decode M_Mo_begin.2.1 59 = .ok (.getfield 13, 3) := by decide +kernel
theorem d_Mo_begin_62 : decode M_Mo_begin.2.1 62 = .ok (.iload_n 2, 1) := by decide +kernel
theorem d_Mo_begin_63 : decode M_Mo_begin.2.1 63 = .ok (.iconst 0, 1) := by decide +kernel
theorem d_Mo_begin_64 : decode M_Mo_begin.2.1 64 = .ok (.iastore, 1) := by decide +kernel
theorem d_Mo_begin_65 : decode M_Mo_begin.2.1 65 = .ok (.iinc 2 1, 3) := by decide +kernel
theorem d_Mo_begin_68 : decode M_Mo_begin.2.1 68 = .ok (.goto (-16), 3) := by decide +kernel
theorem d_Mo_begin_71 : decode M_Mo_begin.2.1 71 = .ok (.iconst 0, 1) := by decide +kernel
theorem d_Mo_begin_72 : decode M_Mo_begin.2.1 72 = .ok (.ireturn, 1) := by decide +kernel
theorem d_Mo_noNode_0 : decode M_Mo_noNode.2.1 0 = .ok (.iload_n 1, 1) := by decide +kernel
theorem d_Mo_noNode_1 : decode M_Mo_noNode.2.1 1 = .ok (.ifCond .lt 11, 3) := by decide +kernel
theorem d_Mo_noNode_4 : decode M_Mo_noNode.2.1 4 = .ok (.iload_n 1, 1) := by decide +kernel
theorem d_Mo_noNode_5 : decode M_Mo_noNode.2.1 5 = .ok (.aload_n 0, 1) := by decide +kernel
theorem d_Mo_noNode_6 : decode M_Mo_noNode.2.1 6 = .ok (.getfield 84, 3) := by decide +kernel
theorem d_Mo_noNode_9 : decode M_Mo_noNode.2.1 9 = .ok (.if_icmp .lt 7, 3) := by decide +kernel
theorem d_Mo_noNode_12 : decode M_Mo_noNode.2.1 12 = .ok (.iconst 1, 1) := by decide +kernel
theorem d_Mo_noNode_13 : decode M_Mo_noNode.2.1 13 = .ok (.goto 4, 3) := by decide +kernel
theorem d_Mo_noNode_16 : decode M_Mo_noNode.2.1 16 = .ok (.iconst 0, 1) := by decide +kernel
theorem d_Mo_noNode_17 : decode M_Mo_noNode.2.1 17 = .ok (.ireturn, 1) := by decide +kernel
theorem d_Mo_isLink_0 : decode M_Mo_isLink.2.1 0 = .ok (.aload_n 0, 1) := by decide +kernel
theorem d_Mo_isLink_1 : decode M_Mo_isLink.2.1 1 = .ok (.getfield 7, 3) := by decide +kernel
theorem d_Mo_isLink_4 : decode M_Mo_isLink.2.1 4 = .ok (.bipush 12, 2) := by decide +kernel
theorem d_Mo_isLink_6 : decode M_Mo_isLink.2.1 6 = .ok (.iload_n 1, 1) := by decide +kernel
theorem d_Mo_isLink_7 : decode M_Mo_isLink.2.1 7 = .ok (.imul, 1) := by decide +kernel
theorem d_Mo_isLink_8 : decode M_Mo_isLink.2.1 8 = .ok (.iload_n 2, 1) := by decide +kernel
theorem d_Mo_isLink_9 : decode M_Mo_isLink.2.1 9 = .ok (.iadd, 1) := by decide +kernel
theorem d_Mo_isLink_10 : decode M_Mo_isLink.2.1 10 = .ok (.iaload, 1) := by decide +kernel
theorem d_Mo_isLink_11 : decode M_Mo_isLink.2.1 11 = .ok (.ifCond .le 7, 3) := by decide +kernel
theorem d_Mo_isLink_14 : decode M_Mo_isLink.2.1 14 = .ok (.iconst 1, 1) := by decide +kernel
theorem d_Mo_isLink_15 : decode M_Mo_isLink.2.1 15 = .ok (.goto 4, 3) := by decide +kernel
theorem d_Mo_isLink_18 : decode M_Mo_isLink.2.1 18 = .ok (.iconst 0, 1) := by decide +kernel
theorem d_Mo_isLink_19 : decode M_Mo_isLink.2.1 19 = .ok (.ireturn, 1) := by decide +kernel
theorem d_Mo_link_0 : decode M_Mo_link.2.1 0 = .ok (.aload_n 0, 1) := by decide +kernel
theorem d_Mo_link_1 : decode M_Mo_link.2.1 1 = .ok (.iload_n 1, 1) := by decide +kernel
theorem d_Mo_link_2 : decode M_Mo_link.2.1 2 = .ok (.invokevirtual 95, 3) := by decide +kernel
theorem d_Mo_link_5 : decode M_Mo_link.2.1 5 = .ok (.ifCond .ne 27, 3) := by decide +kernel
theorem d_Mo_link_8 : decode M_Mo_link.2.1 8 = .ok (.aload_n 0, 1) := by decide +kernel
theorem d_Mo_link_9 : decode M_Mo_link.2.1 9 = .ok (.iload_n 2, 1) := by decide +kernel
theorem d_Mo_link_10 : decode M_Mo_link.2.1 10 = .ok (.invokevirtual 95, 3) := by decide +kernel
theorem d_Mo_link_13 : decode M_Mo_link.2.1 13 = .ok (.ifCond .ne 19, 3) := by decide +kernel
theorem d_Mo_link_16 : decode M_Mo_link.2.1 16 = .ok (.iload_n 1, 1) := by decide +kernel
theorem d_Mo_link_17 : decode M_Mo_link.2.1 17 = .ok (.iload_n 2, 1) := by decide +kernel
theorem d_Mo_link_18 : decode M_Mo_link.2.1 18 = .ok (.if_icmp .eq 14, 3) := by decide +kernel
theorem d_Mo_link_21 : decode M_Mo_link.2.1 21 = .ok (.iload_n 3, 1) := by decide +kernel
theorem d_Mo_link_22 : decode M_Mo_link.2.1 22 = .ok (.iconst 1, 1) := by decide +kernel
theorem d_Mo_link_23 : decode M_Mo_link.2.1 23 = .ok (.if_icmp .lt 9, 3) := by decide +kernel
theorem d_Mo_link_26 : decode M_Mo_link.2.1 26 = .ok (.iload_n 3, 1) := by decide +kernel
theorem d_Mo_link_27 : decode M_Mo_link.2.1 27 = .ok (.bipush 9, 2) := by decide +kernel
theorem d_Mo_link_29 : decode M_Mo_link.2.1 29 = .ok (.if_icmp .le 5, 3) := by decide +kernel
theorem d_Mo_link_32 : decode M_Mo_link.2.1 32 = .ok (.iconst (-1), 1) := by decide +kernel
theorem d_Mo_link_33 : decode M_Mo_link.2.1 33 = .ok (.ireturn, 1) := by decide +kernel
theorem d_Mo_link_34 : decode M_Mo_link.2.1 34 = .ok (.aload_n 0, 1) := by decide +kernel
theorem d_Mo_link_35 : decode M_Mo_link.2.1 35 = .ok (.dup, 1) := by decide +kernel
theorem d_Mo_link_36 : decode M_Mo_link.2.1 36 = .ok (.getfield 88, 3) := by decide +kernel
theorem d_Mo_link_39 : decode M_Mo_link.2.1 39 = .ok (.aload_n 0, 1) := by decide +kernel
theorem d_Mo_link_40 : decode M_Mo_link.2.1 40 = .ok (.iload_n 1, 1) := by decide +kernel
theorem d_Mo_link_41 : decode M_Mo_link.2.1 41 = .ok (.iload_n 2, 1) := by decide +kernel
theorem d_Mo_link_42 : decode M_Mo_link.2.1 42 = .ok (.invokevirtual 99, 3) := by decide +kernel
theorem d_Mo_link_45 : decode M_Mo_link.2.1 45 = .ok (.ifCond .eq 7, 3) := by decide +kernel
theorem d_Mo_link_48 : decode M_Mo_link.2.1 48 = .ok (.iconst 0, 1) := by decide +kernel
theorem d_Mo_link_49 : decode M_Mo_link.2.1 49 = .ok (.goto 4, 3) := by decide +kernel
theorem d_Mo_link_52 : decode M_Mo_link.2.1 52 = .ok (.iconst 1, 1) := by decide +kernel
theorem d_Mo_link_53 : decode M_Mo_link.2.1 53 = .ok (.iadd, 1) := by decide +kernel
theorem d_Mo_link_54 : decode M_Mo_link.2.1 54 = .ok (.putfield 88, 3) := by decide +kernel
theorem d_Mo_link_57 : decode M_Mo_link.2.1 57 = .ok (.aload_n 0, 1) := by decide +kernel
theorem d_Mo_link_58 : decode M_Mo_link.2.1 58 = .ok (.getfield 7, 3) := by decide +kernel
theorem d_Mo_link_61 : decode M_Mo_link.2.1 61 = .ok (.bipush 12, 2) := by decide +kernel
theorem d_Mo_link_63 : decode M_Mo_link.2.1 63 = .ok (.iload_n 1, 1) := by decide +kernel
theorem d_Mo_link_64 : decode M_Mo_link.2.1 64 = .ok (.imul, 1) := by decide +kernel
theorem d_Mo_link_65 : decode M_Mo_link.2.1 65 = .ok (.iload_n 2, 1) := by decide +kernel
theorem d_Mo_link_66 : decode M_Mo_link.2.1 66 = .ok (.iadd, 1) := by decide +kernel
theorem d_Mo_link_67 : decode M_Mo_link.2.1 67 = .ok (.iload_n 3, 1) := by decide +kernel
theorem d_Mo_link_68 : decode M_Mo_link.2.1 68 = .ok (.iastore, 1) := by decide +kernel
theorem d_Mo_link_69 : decode M_Mo_link.2.1 69 = .ok (.aload_n 0, 1) := by decide +kernel
theorem d_Mo_link_70 : decode M_Mo_link.2.1 70 = .ok (.getfield 7, 3) := by decide +kernel
theorem d_Mo_link_73 : decode M_Mo_link.2.1 73 = .ok (.bipush 12, 2) := by decide +kernel
theorem d_Mo_link_75 : decode M_Mo_link.2.1 75 = .ok (.iload_n 2, 1) := by decide +kernel
theorem d_Mo_link_76 : decode M_Mo_link.2.1 76 = .ok (.imul, 1) := by decide +kernel
theorem d_Mo_link_77 : decode M_Mo_link.2.1 77 = .ok (.iload_n 1, 1) := by decide +kernel
theorem d_Mo_link_78 : decode M_Mo_link.2.1 78 = .ok (.iadd, 1) := by decide +kernel
theorem d_Mo_link_79 : decode M_Mo_link.2.1 79 = .ok (.iload_n 3, 1) := by decide +kernel
theorem d_Mo_link_80 : decode M_Mo_link.2.1 80 = .ok (.iastore, 1) := by decide +kernel
theorem d_Mo_link_81 : decode M_Mo_link.2.1 81 = .ok (.aload_n 0, 1) := by decide +kernel
theorem d_Mo_link_82 : decode M_Mo_link.2.1 82 = .ok (.iconst 0, 1) := by decide +kernel
theorem d_Mo_link_83 : decode M_Mo_link.2.1 83 = .ok (.putfield 91, 3) := by decide +kernel
theorem d_Mo_link_86 : decode M_Mo_link.2.1 86 = .ok (.aload_n 0, 1) := by decide +kernel
theorem d_Mo_link_87 : decode M_Mo_link.2.1 87 = .ok (.getfield 88, 3) := by decide +kernel
theorem d_Mo_link_90 : decode M_Mo_link.2.1 90 = .ok (.ireturn, 1) := by decide +kernel
theorem d_Mo_mark_0 : decode M_Mo_mark.2.1 0 = .ok (.aload_n 0, 1) := by decide +kernel
theorem d_Mo_mark_1 : decode M_Mo_mark.2.1 1 = .ok (.iload_n 1, 1) := by decide +kernel
theorem d_Mo_mark_2 : decode M_Mo_mark.2.1 2 = .ok (.invokevirtual 95, 3) := by decide +kernel
theorem d_Mo_mark_5 : decode M_Mo_mark.2.1 5 = .ok (.ifCond .ne 13, 3) := by decide +kernel
theorem d_Mo_mark_8 : decode M_Mo_mark.2.1 8 = .ok (.iload_n 2, 1) := by decide +kernel
theorem d_Mo_mark_9 : decode M_Mo_mark.2.1 9 = .ok (.ifCond .lt 9, 3) := by decide +kernel
theorem d_Mo_mark_12 : decode M_Mo_mark.2.1 12 = .ok (.iload_n 2, 1) := by decide +kernel
theorem d_Mo_mark_13 : decode M_Mo_mark.2.1 13 = .ok (.bipush 99, 2) := by decide +kernel
theorem d_Mo_mark_15 : decode M_Mo_mark.2.1 15 = .ok (.if_icmp .le 5, 3) := by decide +kernel
theorem d_Mo_mark_18 : decode M_Mo_mark.2.1 18 = .ok (.iconst (-1), 1) := by decide +kernel
theorem d_Mo_mark_19 : decode M_Mo_mark.2.1 19 = .ok (.ireturn, 1) := by decide +kernel
theorem d_Mo_mark_20 : decode M_Mo_mark.2.1 20 = .ok (.aload_n 0, 1) := by decide +kernel
theorem d_Mo_mark_21 : decode M_Mo_mark.2.1 21 = .ok (.getfield 13, 3) := by decide +kernel
theorem d_Mo_mark_24 : decode M_Mo_mark.2.1 24 = .ok (.iload_n 1, 1) := by decide +kernel
theorem d_Mo_mark_25 : decode M_Mo_mark.2.1 25 = .ok (.iaload, 1) := by decide +kernel
theorem d_Mo_mark_26 : decode M_Mo_mark.2.1 26 = .ok (.istore_n 3, 1) := by decide +kernel
theorem d_Mo_mark_27 : decode M_Mo_mark.2.1 27 = .ok (.aload_n 0, 1) := by decide +kernel
theorem d_Mo_mark_28 : decode M_Mo_mark.2.1 28 = .ok (.getfield 13, 3) := by decide +kernel
theorem d_Mo_mark_31 : decode M_Mo_mark.2.1 31 = .ok (.iload_n 1, 1) := by decide +kernel
theorem d_Mo_mark_32 : decode M_Mo_mark.2.1 32 = .ok (.iload_n 2, 1) := by decide +kernel
theorem d_Mo_mark_33 : decode M_Mo_mark.2.1 33 = .ok (.iastore, 1) := by decide +kernel
theorem d_Mo_mark_34 : decode M_Mo_mark.2.1 34 = .ok (.aload_n 0, 1) := by decide +kernel
theorem d_Mo_mark_35 : decode M_Mo_mark.2.1 35 = .ok (.iconst 0, 1) := by decide +kernel
theorem d_Mo_mark_36 : decode M_Mo_mark.2.1 36 = .ok (.putfield 91, 3) := by decide +kernel
theorem d_Mo_mark_39 : decode M_Mo_mark.2.1 39 = .ok (.iload_n 3, 1) := by decide +kernel
theorem d_Mo_mark_40 : decode M_Mo_mark.2.1 40 = .ok (.ireturn, 1) := by decide +kernel
theorem d_Mo_spread_0 : decode M_Mo_spread.2.1 0 = .ok (.iload_n 1, 1) := by decide +kernel
theorem d_Mo_spread_1 : decode M_Mo_spread.2.1 1 = .ok (.istore_n 3, 1) := by decide +kernel
theorem d_Mo_spread_2 : decode M_Mo_spread.2.1 2 = .ok (.iconst 1, 1) := by decide +kernel
theorem d_Mo_spread_3 : decode M_Mo_spread.2.1 3 = .ok (.istore 4, 2) := by decide +kernel
theorem d_Mo_spread_5 : decode M_Mo_spread.2.1 5 = .ok (.iload 4, 2) := by decide +kernel
theorem d_Mo_spread_7 : decode M_Mo_spread.2.1 7 = .ok (.ifCond .eq 95, 3) := by decide +kernel
theorem d_Mo_spread_10 : decode M_Mo_spread.2.1 10 = .ok (.iconst 0, 1) := by decide +kernel
theorem d_Mo_spread_11 : decode M_Mo_spread.2.1 11 = .ok (.istore 4, 2) := by decide +kernel
theorem d_Mo_spread_13 : decode M_Mo_spread.2.1 13 = .ok (.iconst 0, 1) := by decide +kernel
theorem d_Mo_spread_14 : decode M_Mo_spread.2.1 14 = .ok (.istore 5, 2) := by decide +kernel
theorem d_Mo_spread_16 : decode M_Mo_spread.2.1 16 = .ok (.iload 5, 2) := by decide +kernel
theorem d_Mo_spread_18 : decode M_Mo_spread.2.1 18 = .ok (.aload_n 0, 1) := by decide +kernel
theorem d_Mo_spread_19 : decode M_Mo_spread.2.1 19 = .ok (.getfield 84, 3) := by decide +kernel
theorem d_Mo_spread_22 : decode M_Mo_spread.2.1 22 = .ok (.if_icmp .ge 77, 3) := by decide +kernel
theorem d_Mo_spread_25 : decode M_Mo_spread.2.1 25 = .ok (.iconst 0, 1) := by decide +kernel
theorem d_Mo_spread_26 : decode M_Mo_spread.2.1 26 = .ok (.istore 6, 2) := by decide +kernel
theorem d_Mo_spread_28 : decode M_Mo_spread.2.1 28 = .ok (.iload 6, 2) := by decide +kernel
theorem d_Mo_spread_30 : decode M_Mo_spread.2.1 30 = .ok (.aload_n 0, 1) := by decide +kernel
theorem d_Mo_spread_31 : decode M_Mo_spread.2.1 31 = .ok (.getfield 84, 3) := by decide +kernel
theorem d_Mo_spread_34 : decode M_Mo_spread.2.1 34 = .ok (.if_icmp .ge 59, 3) := by decide +kernel
theorem d_Mo_spread_37 : decode M_Mo_spread.2.1 37 = .ok (.iload_n 3, 1) := by decide +kernel
theorem d_Mo_spread_38 : decode M_Mo_spread.2.1 38 = .ok (.iload 5, 2) := by decide +kernel
theorem d_Mo_spread_40 : decode M_Mo_spread.2.1 40 = .ok (.ishr, 1) := by decide +kernel
theorem d_Mo_spread_41 : decode M_Mo_spread.2.1 41 = .ok (.iconst 1, 1) := by decide +kernel
theorem d_Mo_spread_42 : decode M_Mo_spread.2.1 42 = .ok (.iand, 1) := by decide +kernel
theorem d_Mo_spread_43 : decode M_Mo_spread.2.1 43 = .ok (.iconst 1, 1) := by decide +kernel
theorem d_Mo_spread_44 : decode M_Mo_spread.2.1 44 = .ok (.if_icmp .ne 43, 3) := by decide +kernel
theorem d_Mo_spread_47 : decode M_Mo_spread.2.1 47 = .ok (.aload_n 0, 1) := by decide +kernel
theorem d_Mo_spread_48 : decode M_Mo_spread.2.1 48 = .ok (.iload 5, 2) := by decide +kernel
theorem d_Mo_spread_50 : decode M_Mo_spread.2.1 50 = .ok (.iload 6, 2) := by decide +kernel
theorem d_Mo_spread_52 : decode M_Mo_spread.2.1 52 = .ok (.invokevirtual 99, 3) := by decide +kernel
theorem d_Mo_spread_55 : decode M_Mo_spread.2.1 55 = .ok (.ifCond .eq 32, 3) := by decide +kernel
theorem d_Mo_spread_58 : decode M_Mo_spread.2.1 58 = .ok (.iload_n 2, 1) := by decide +kernel
theorem d_Mo_spread_59 : decode M_Mo_spread.2.1 59 = .ok (.iload 6, 2) := by decide +kernel
theorem d_Mo_spread_61 : decode M_Mo_spread.2.1 61 = .ok (.ishr, 1) := by decide +kernel
theorem d_Mo_spread_62 : decode M_Mo_spread.2.1 62 = .ok (.iconst 1, 1) := by decide +kernel
theorem d_Mo_spread_63 : decode M_Mo_spread.2.1 63 = .ok (.iand, 1) := by decide +kernel
theorem d_Mo_spread_64 : decode M_Mo_spread.2.1 64 = .ok (.iconst 1, 1) := by decide +kernel
theorem d_Mo_spread_65 : decode M_Mo_spread.2.1 65 = .ok (.if_icmp .ne 22, 3) := by decide +kernel
theorem d_Mo_spread_68 : decode M_Mo_spread.2.1 68 = .ok (.iload_n 3, 1) := by decide +kernel
theorem d_Mo_spread_69 : decode M_Mo_spread.2.1 69 = .ok (.iload 6, 2) := by decide +kernel
theorem d_Mo_spread_71 : decode M_Mo_spread.2.1 71 = .ok (.ishr, 1) := by decide +kernel
theorem d_Mo_spread_72 : decode M_Mo_spread.2.1 72 = .ok (.iconst 1, 1) := by decide +kernel
theorem d_Mo_spread_73 : decode M_Mo_spread.2.1 73 = .ok (.iand, 1) := by decide +kernel
theorem d_Mo_spread_74 : decode M_Mo_spread.2.1 74 = .ok (.ifCond .ne 13, 3) := by decide +kernel
theorem d_Mo_spread_77 : decode M_Mo_spread.2.1 77 = .ok (.iload_n 3, 1) := by decide +kernel
theorem d_Mo_spread_78 : decode M_Mo_spread.2.1 78 = .ok (.iconst 1, 1) := by decide +kernel
theorem d_Mo_spread_79 : decode M_Mo_spread.2.1 79 = .ok (.iload 6, 2) := by decide +kernel
theorem d_Mo_spread_81 : decode M_Mo_spread.2.1 81 = .ok (.ishl, 1) := by decide +kernel
theorem d_Mo_spread_82 : decode M_Mo_spread.2.1 82 = .ok (.ior, 1) := by decide +kernel
theorem d_Mo_spread_83 : decode M_Mo_spread.2.1 83 = .ok (.istore_n 3, 1) := by decide +kernel
theorem d_Mo_spread_84 : decode M_Mo_spread.2.1 84 = .ok (.iconst 1, 1) := by decide +kernel
theorem d_Mo_spread_85 : decode M_Mo_spread.2.1 85 = .ok (.istore 4, 2) := by decide +kernel
theorem d_Mo_spread_87 : decode M_Mo_spread.2.1 87 = .ok (.iinc 6 1, 3) := by decide +kernel
theorem d_Mo_spread_90 : decode M_Mo_spread.2.1 90 = .ok (.goto (-62), 3) := by decide +kernel
theorem d_Mo_spread_93 : decode M_Mo_spread.2.1 93 = .ok (.iinc 5 1, 3) := by decide +kernel
theorem d_Mo_spread_96 : decode M_Mo_spread.2.1 96 = .ok (.goto (-80), 3) := by decide +kernel
theorem d_Mo_spread_99 : decode M_Mo_spread.2.1 99 = .ok (.goto (-94), 3) := by decide +kernel
theorem d_Mo_spread_102 : decode M_Mo_spread.2.1 102 = .ok (.iload_n 3, 1) := by decide +kernel
theorem d_Mo_spread_103 : decode M_Mo_spread.2.1 103 = .ok (.ireturn, 1) := by decide +kernel
theorem d_Mo_tree_0 : decode M_Mo_tree.2.1 0 = .ok (.iconst 0, 1) := by decide +kernel
theorem d_Mo_tree_1 : decode M_Mo_tree.2.1 1 = .ok (.istore_n 3, 1) := by decide +kernel
theorem d_Mo_tree_2 : decode M_Mo_tree.2.1 2 = .ok (.iload_n 3, 1) := by decide +kernel
theorem d_Mo_tree_3 : decode M_Mo_tree.2.1 3 = .ok (.aload_n 0, 1) := by decide +kernel
theorem d_Mo_tree_4 : decode M_Mo_tree.2.1 4 = .ok (.getfield 84, 3) := by decide +kernel
theorem d_Mo_tree_7 : decode M_Mo_tree.2.1 7 = .ok (.if_icmp .ge 50, 3) := by decide +kernel
theorem d_Mo_tree_10 : decode M_Mo_tree.2.1 10 = .ok (.iload_n 2, 1) := by decide +kernel
theorem d_Mo_tree_11 : decode M_Mo_tree.2.1 11 = .ok (.iload_n 3, 1) := by decide +kernel
theorem d_Mo_tree_12 : decode M_Mo_tree.2.1 12 = .ok (.ishr, 1) := by decide +kernel
theorem d_Mo_tree_13 : decode M_Mo_tree.2.1 13 = .ok (.iconst 1, 1) := by decide +kernel
theorem d_Mo_tree_14 : decode M_Mo_tree.2.1 14 = .ok (.iand, 1) := by decide +kernel
theorem d_Mo_tree_15 : decode M_Mo_tree.2.1 15 = .ok (.iconst 1, 1) := by decide +kernel
theorem d_Mo_tree_16 : decode M_Mo_tree.2.1 16 = .ok (.if_icmp .ne 35, 3) := by decide +kernel
theorem d_Mo_tree_19 : decode M_Mo_tree.2.1 19 = .ok (.aload_n 0, 1) := by decide +kernel
theorem d_Mo_tree_20 : decode M_Mo_tree.2.1 20 = .ok (.getfield 38, 3) := by decide +kernel
theorem d_Mo_tree_23 : decode M_Mo_tree.2.1 23 = .ok (.iload_n 3, 1) := by decide +kernel
theorem d_Mo_tree_24 : decode M_Mo_tree.2.1 24 = .ok (.iload_n 1, 1) := by decide +kernel
theorem d_Mo_tree_25 : decode M_Mo_tree.2.1 25 = .ok (.iastore, 1) := by decide +kernel
theorem d_Mo_tree_26 : decode M_Mo_tree.2.1 26 = .ok (.aload_n 0, 1) := by decide +kernel
theorem d_Mo_tree_27 : decode M_Mo_tree.2.1 27 = .ok (.getfield 41, 3) := by decide +kernel
theorem d_Mo_tree_30 : decode M_Mo_tree.2.1 30 = .ok (.iload_n 3, 1) := by decide +kernel
theorem d_Mo_tree_31 : decode M_Mo_tree.2.1 31 = .ok (.iload_n 3, 1) := by decide +kernel
theorem d_Mo_tree_32 : decode M_Mo_tree.2.1 32 = .ok (.iload_n 1, 1) := by decide +kernel
theorem d_Mo_tree_33 : decode M_Mo_tree.2.1 33 = .ok (.if_icmp .ne 7, 3) := by decide +kernel
theorem d_Mo_tree_36 : decode M_Mo_tree.2.1 36 = .ok (.iconst 0, 1) := by decide +kernel
theorem d_Mo_tree_37 : decode M_Mo_tree.2.1 37 = .ok (.goto 5, 3) := by decide +kernel
theorem d_Mo_tree_40 : decode M_Mo_tree.2.1 40 = .ok (.bipush 99, 2) := by decide +kernel
theorem d_Mo_tree_42 : decode M_Mo_tree.2.1 42 = .ok (.iastore, 1) := by decide +kernel
theorem d_Mo_tree_43 : decode M_Mo_tree.2.1 43 = .ok (.aload_n 0, 1) := by decide +kernel
theorem d_Mo_tree_44 : decode M_Mo_tree.2.1 44 = .ok (.getfield 35, 3) := by decide +kernel
theorem d_Mo_tree_47 : decode M_Mo_tree.2.1 47 = .ok (.iload_n 3, 1) := by decide +kernel
theorem d_Mo_tree_48 : decode M_Mo_tree.2.1 48 = .ok (.bipush (-2), 2) := by decide +kernel
theorem d_Mo_tree_50 : decode M_Mo_tree.2.1 50 = .ok (.iastore, 1) := by decide +kernel
theorem d_Mo_tree_51 : decode M_Mo_tree.2.1 51 = .ok (.iinc 3 1, 3) := by decide +kernel
theorem d_Mo_tree_54 : decode M_Mo_tree.2.1 54 = .ok (.goto (-52), 3) := by decide +kernel
theorem d_Mo_tree_57 : decode M_Mo_tree.2.1 57 = .ok (.iconst 0, 1) := by decide +kernel
theorem d_Mo_tree_58 : decode M_Mo_tree.2.1 58 = .ok (.istore_n 3, 1) := by decide +kernel
theorem d_Mo_tree_59 : decode M_Mo_tree.2.1 59 = .ok (.iload_n 3, 1) := by decide +kernel
theorem d_Mo_tree_60 : decode M_Mo_tree.2.1 60 = .ok (.aload_n 0, 1) := by decide +kernel
theorem d_Mo_tree_61 : decode M_Mo_tree.2.1 61 = .ok (.getfield 84, 3) := by decide +kernel
theorem d_Mo_tree_64 : decode M_Mo_tree.2.1 64 = .ok (.if_icmp .ge 153, 3) := by decide +kernel
theorem d_Mo_tree_67 : decode M_Mo_tree.2.1 67 = .ok (.iconst 0, 1) := by decide +kernel
theorem d_Mo_tree_68 : decode M_Mo_tree.2.1 68 = .ok (.istore 4, 2) := by decide +kernel
theorem d_Mo_tree_70 : decode M_Mo_tree.2.1 70 = .ok (.iload 4, 2) := by decide +kernel
theorem d_Mo_tree_72 : decode M_Mo_tree.2.1 72 = .ok (.aload_n 0, 1) := by decide +kernel
theorem d_Mo_tree_73 : decode M_Mo_tree.2.1 73 = .ok (.getfield 84, 3) := by decide +kernel
theorem d_Mo_tree_76 : decode M_Mo_tree.2.1 76 = .ok (.if_icmp .ge 135, 3) := by decide +kernel
theorem d_Mo_tree_79 : decode M_Mo_tree.2.1 79 = .ok (.iconst 0, 1) := by decide +kernel
theorem d_Mo_tree_80 : decode M_Mo_tree.2.1 80 = .ok (.istore 5, 2) := by decide +kernel
theorem d_Mo_tree_82 : decode M_Mo_tree.2.1 82 = .ok (.iload 5, 2) := by decide +kernel
theorem d_Mo_tree_84 : decode M_Mo_tree.2.1 84 = .ok (.aload_n 0, 1) := by decide +kernel
theorem d_Mo_tree_85 : decode M_Mo_tree.2.1 85 = .ok (.getfield 84, 3) := by decide +kernel
theorem d_Mo_tree_88 : decode M_Mo_tree.2.1 88 = .ok (.if_icmp .ge 117, 3) := by decide +kernel
theorem d_Mo_tree_91 : decode M_Mo_tree.2.1 91 = .ok (.iload_n 2, 1) := by decide +kernel
theorem d_Mo_tree_92 : decode M_Mo_tree.2.1 92 = .ok (.iload 4, 2) := by decide +kernel
theorem d_Mo_tree_94 : decode M_Mo_tree.2.1 94 = .ok (.ishr, 1) := by decide +kernel
theorem d_Mo_tree_95 : decode M_Mo_tree.2.1 95 = .ok (.iconst 1, 1) := by decide +kernel
theorem d_Mo_tree_96 : decode M_Mo_tree.2.1 96 = .ok (.iand, 1) := by decide +kernel
theorem d_Mo_tree_97 : decode M_Mo_tree.2.1 97 = .ok (.iconst 1, 1) := by decide +kernel
theorem d_Mo_tree_98 : decode M_Mo_tree.2.1 98 = .ok (.if_icmp .ne 28, 3) := by decide +kernel
theorem d_Mo_tree_101 : decode M_Mo_tree.2.1 101 = .ok (.iload_n 2, 1) := by decide +kernel
theorem d_Mo_tree_102 : decode M_Mo_tree.2.1 102 = .ok (.iload 5, 2) := by decide +kernel
theorem d_Mo_tree_104 : decode M_Mo_tree.2.1 104 = .ok (.ishr, 1) := by decide +kernel
theorem d_Mo_tree_105 : decode M_Mo_tree.2.1 105 = .ok (.iconst 1, 1) := by decide +kernel
theorem d_Mo_tree_106 : decode M_Mo_tree.2.1 106 = .ok (.iand, 1) := by decide +kernel
theorem d_Mo_tree_107 : decode M_Mo_tree.2.1 107 = .ok (.iconst 1, 1) := by decide +kernel
theorem d_Mo_tree_108 : decode M_Mo_tree.2.1 108 = .ok (.if_icmp .ne 18, 3) := by decide +kernel
theorem d_Mo_tree_111 : decode M_Mo_tree.2.1 111 = .ok (.aload_n 0, 1) := by decide +kernel
theorem d_Mo_tree_112 : decode M_Mo_tree.2.1 112 = .ok (.iload 4, 2) := by decide +kernel
theorem d_Mo_tree_114 : decode M_Mo_tree.2.1 114 = .ok (.iload 5, 2) := by decide +kernel
theorem d_Mo_tree_116 : decode M_Mo_tree.2.1 116 = .ok (.invokevirtual 99, 3) := by decide +kernel
theorem d_Mo_tree_119 : decode M_Mo_tree.2.1 119 = .ok (.ifCond .eq 7, 3) := by decide +kernel
theorem d_Mo_tree_122 : decode M_Mo_tree.2.1 122 = .ok (.iconst 1, 1) := by decide +kernel
theorem d_Mo_tree_123 : decode M_Mo_tree.2.1 123 = .ok (.goto 4, 3) := by decide +kernel
theorem d_Mo_tree_126 : decode M_Mo_tree.2.1 126 = .ok (.iconst 0, 1) := by decide +kernel
theorem d_Mo_tree_127 : decode M_Mo_tree.2.1 127 = .ok (.istore 6, 2) := by decide +kernel
theorem d_Mo_tree_129 : decode M_Mo_tree.2.1 129 = .ok (.iload 6, 2) := by decide +kernel
theorem d_Mo_tree_131 : decode M_Mo_tree.2.1 131 = .ok (.ifCond .eq 68, 3) := by decide +kernel
theorem d_Mo_tree_134 : decode M_Mo_tree.2.1 134 = .ok (.aload_n 0, 1) := by decide +kernel
theorem d_Mo_tree_135 : decode M_Mo_tree.2.1 135 = .ok (.getfield 41, 3) := by decide +kernel
theorem d_Mo_tree_138 : decode M_Mo_tree.2.1 138 = .ok (.iload 5, 2) := by decide +kernel
theorem d_Mo_tree_140 : decode M_Mo_tree.2.1 140 = .ok (.iaload, 1) := by decide +kernel
theorem d_Mo_tree_141 : decode M_Mo_tree.2.1 141 = .ok (.iload_n 3, 1) := by decide +kernel
theorem d_Mo_tree_142 : decode M_Mo_tree.2.1 142 = .ok (.if_icmp .ne 57, 3) := by decide +kernel
theorem d_Mo_tree_145 : decode M_Mo_tree.2.1 145 = .ok (.aload_n 0, 1) := by decide +kernel
theorem d_Mo_tree_146 : decode M_Mo_tree.2.1 146 = .ok (.getfield 41, 3) := by decide +kernel
theorem d_Mo_tree_149 : decode M_Mo_tree.2.1 149 = .ok (.iload 4, 2) := by decide +kernel
theorem d_Mo_tree_151 : decode M_Mo_tree.2.1 151 = .ok (.iaload, 1) := by decide +kernel
theorem d_Mo_tree_152 : decode M_Mo_tree.2.1 152 = .ok (.iload_n 3, 1) := by decide +kernel
theorem d_Mo_tree_153 : decode M_Mo_tree.2.1 153 = .ok (.if_icmp .le 46, 3) := by decide +kernel
theorem d_Mo_tree_156 : decode M_Mo_tree.2.1 156 = .ok (.aload_n 0, 1) := by decide +kernel
theorem d_Mo_tree_157 : decode M_Mo_tree.2.1 157 = .ok (.getfield 41, 3) := by decide +kernel
theorem d_Mo_tree_160 : decode M_Mo_tree.2.1 160 = .ok (.iload 4, 2) := by decide +kernel
theorem d_Mo_tree_162 : decode M_Mo_tree.2.1 162 = .ok (.iaload, 1) := by decide +kernel
theorem d_Mo_tree_163 : decode M_Mo_tree.2.1 163 = .ok (.bipush 99, 2) := by decide +kernel
theorem d_Mo_tree_165 : decode M_Mo_tree.2.1 165 = .ok (.if_icmp .eq 15, 3) := by decide +kernel
theorem d_Mo_tree_168 : decode M_Mo_tree.2.1 168 = .ok (.aload_n 0, 1) := by decide +kernel
theorem d_Mo_tree_169 : decode M_Mo_tree.2.1 169 = .ok (.getfield 35, 3) := by decide +kernel
theorem d_Mo_tree_172 : decode M_Mo_tree.2.1 172 = .ok (.iload 4, 2) := by decide +kernel
theorem d_Mo_tree_174 : decode M_Mo_tree.2.1 174 = .ok (.iaload, 1) := by decide +kernel
theorem d_Mo_tree_175 : decode M_Mo_tree.2.1 175 = .ok (.iload 5, 2) := by decide +kernel
theorem d_Mo_tree_177 : decode M_Mo_tree.2.1 177 = .ok (.if_icmp .le 22, 3) := by decide +kernel
theorem d_Mo_tree_180 : decode M_Mo_tree.2.1 180 = .ok (.aload_n 0, 1) := by decide +kernel
theorem d_Mo_tree_181 : decode M_Mo_tree.2.1 181 = .ok (.getfield 41, 3) := by decide +kernel
theorem d_Mo_tree_184 : decode M_Mo_tree.2.1 184 = .ok (.iload 4, 2) := by decide +kernel
theorem d_Mo_tree_186 : decode M_Mo_tree.2.1 186 = .ok (.iload_n 3, 1) := by decide +kernel
theorem d_Mo_tree_187 : decode M_Mo_tree.2.1 187 = .ok (.iconst 1, 1) := by decide +kernel
theorem d_Mo_tree_188 : decode M_Mo_tree.2.1 188 = .ok (.iadd, 1) := by decide +kernel
theorem d_Mo_tree_189 : decode M_Mo_tree.2.1 189 = .ok (.iastore, 1) := by decide +kernel
theorem d_Mo_tree_190 : decode M_Mo_tree.2.1 190 = .ok (.aload_n 0, 1) := by decide +kernel
theorem d_Mo_tree_191 : decode M_Mo_tree.2.1 191 = .ok (.getfield 35, 3) := by decide +kernel
theorem d_Mo_tree_194 : decode M_Mo_tree.2.1 194 = .ok (.iload 4, 2) := by decide +kernel
theorem d_Mo_tree_196 : decode M_Mo_tree.2.1 196 = .ok (.iload 5, 2) := by decide +kernel
theorem d_Mo_tree_198 : decode M_Mo_tree.2.1 198 = .ok (.iastore, 1) := by decide +kernel
theorem d_Mo_tree_199 : decode M_Mo_tree.2.1 199 = .ok (.iinc 5 1, 3) := by decide +kernel
theorem d_Mo_tree_202 : decode M_Mo_tree.2.1 202 = .ok (.goto (-120), 3) := by decide +kernel
theorem d_Mo_tree_205 : decode M_Mo_tree.2.1 205 = .ok (.iinc 4 1, 3) := by decide +kernel
theorem d_Mo_tree_208 : decode M_Mo_tree.2.1 208 = .ok (.goto (-138), 3) := by decide +kernel
theorem d_Mo_tree_211 : decode M_Mo_tree.2.1 211 = .ok (.iinc 3 1, 3) := by decide +kernel
theorem d_Mo_tree_214 : decode M_Mo_tree.2.1 214 = .ok (.goto (-155), 3) := by decide +kernel
theorem d_Mo_tree_217 : decode M_Mo_tree.2.1 217 = .ok (.return_, 1) := by decide +kernel
