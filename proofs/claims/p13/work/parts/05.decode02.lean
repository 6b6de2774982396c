theorem d_Course_enterNext_0 : decode M_Course_enterNext.2.1 0 = .ok (.aload_n 0, 1) := by decide +kernel
theorem d_Course_enterNext_1 : decode M_Course_enterNext.2.1 1 = .ok (.getfield 39, 3) := by decide +kernel
theorem d_Course_enterNext_4 : decode M_Course_enterNext.2.1 4 = .ok (.iload_n 1, 1) := by decide +kernel
theorem d_Course_enterNext_5 : decode M_Course_enterNext.2.1 5 = .ok (.iaload, 1) := by decide +kernel
theorem d_Course_enterNext_6 : decode M_Course_enterNext.2.1 6 = .ok (.iconst 1, 1) := by decide +kernel
theorem d_Course_enterNext_7 : decode M_Course_enterNext.2.1 7 = .ok (.iadd, 1) := by decide +kernel
theorem d_Course_enterNext_8 : decode M_Course_enterNext.2.1 8 = .ok (.istore_n 2, 1) := by decide +kernel
theorem d_Course_enterNext_9 : decode M_Course_enterNext.2.1 9 = .ok (.aload_n 0, 1) := by decide +kernel
theorem d_Course_enterNext_10 : decode M_Course_enterNext.2.1 10 = .ok (.getfield 39, 3) := by decide +kernel
theorem d_Course_enterNext_13 : decode M_Course_enterNext.2.1 13 = .ok (.iload_n 1, 1) := by decide +kernel
theorem d_Course_enterNext_14 : decode M_Course_enterNext.2.1 14 = .ok (.iload_n 2, 1) := by decide +kernel
theorem d_Course_enterNext_15 : decode M_Course_enterNext.2.1 15 = .ok (.iastore, 1) := by decide +kernel
theorem d_Course_enterNext_16 : decode M_Course_enterNext.2.1 16 = .ok (.aload_n 0, 1) := by decide +kernel
theorem d_Course_enterNext_17 : decode M_Course_enterNext.2.1 17 = .ok (.getfield 43, 3) := by decide +kernel
theorem d_Course_enterNext_20 : decode M_Course_enterNext.2.1 20 = .ok (.iload_n 1, 1) := by decide +kernel
theorem d_Course_enterNext_21 : decode M_Course_enterNext.2.1 21 = .ok (.iconst 0, 1) := by decide +kernel
theorem d_Course_enterNext_22 : decode M_Course_enterNext.2.1 22 = .ok (.iastore, 1) := by decide +kernel
theorem d_Course_enterNext_23 : decode M_Course_enterNext.2.1 23 = .ok (.aload_n 0, 1) := by decide +kernel
theorem d_Course_enterNext_24 : decode M_Course_enterNext.2.1 24 = .ok (.getfield 49, 3) := by decide +kernel
theorem d_Course_enterNext_27 : decode M_Course_enterNext.2.1 27 = .ok (.iload_n 1, 1) := by decide +kernel
theorem d_Course_enterNext_28 : decode M_Course_enterNext.2.1 28 = .ok (.iconst 0, 1) := by decide +kernel
theorem d_Course_enterNext_29 : decode M_Course_enterNext.2.1 29 = .ok (.iastore, 1) := by decide +kernel
theorem d_Course_enterNext_30 : decode M_Course_enterNext.2.1 30 = .ok (.aload_n 0, 1) := by decide +kernel
theorem d_Course_enterNext_31 : decode M_Course_enterNext.2.1 31 = .ok (.getfield 52, 3) := by decide +kernel
theorem d_Course_enterNext_34 : decode M_Course_enterNext.2.1 34 = .ok (.iload_n 1, 1) := by decide +kernel
theorem d_Course_enterNext_35 : decode M_Course_enterNext.2.1 35 = .ok (.iconst 0, 1) := by decide +kernel
theorem d_Course_enterNext_36 : decode M_Course_enterNext.2.1 36 = .ok (.iastore, 1) := by decide +kernel
theorem d_Course_enterNext_37 : decode M_Course_enterNext.2.1 37 = .ok (.aload_n 0, 1) := by decide +kernel
theorem d_Course_enterNext_38 : decode M_Course_enterNext.2.1 38 = .ok (.getfield 55, 3) := by decide +kernel
theorem d_Course_enterNext_41 : decode M_Course_enterNext.2.1 41 = .ok (.iload_n 2, 1) := by decide +kernel
theorem d_Course_enterNext_42 : decode M_Course_enterNext.2.1 42 = .ok (.iconst 1, 1) := by decide +kernel
theorem d_Course_enterNext_43 : decode M_Course_enterNext.2.1 43 = .ok (.isub, 1) := by decide +kernel
theorem d_Course_enterNext_44 : decode M_Course_enterNext.2.1 44 = .ok (.iconst 1, 1) := by decide +kernel
theorem d_Course_enterNext_45 : decode M_Course_enterNext.2.1 45 = .ok (.iand, 1) := by decide +kernel
theorem d_Course_enterNext_46 : decode M_Course_enterNext.2.1 46 = .ok (.iload_n 1, 1) := by decide +kernel
theorem d_Course_enterNext_47 : decode M_Course_enterNext.2.1 47 = .ok (.invokestatic 84, 3) := by decide +kernel
theorem d_Course_enterNext_50 : decode M_Course_enterNext.2.1 50 = .ok (.iconst 0, 1) := by decide +kernel
theorem d_Course_enterNext_51 : decode M_Course_enterNext.2.1 51 = .ok (.iastore, 1) := by decide +kernel
theorem d_Course_enterNext_52 : decode M_Course_enterNext.2.1 52 = .ok (.iload_n 2, 1) := by decide +kernel
theorem d_Course_enterNext_53 : decode M_Course_enterNext.2.1 53 = .ok (.iconst 1, 1) := by decide +kernel
theorem d_Course_enterNext_54 : decode M_Course_enterNext.2.1 54 = .ok (.if_icmp .le 20, 3) := by decide +kernel
theorem d_Course_enterNext_57 : decode M_Course_enterNext.2.1 57 = .ok (.aload_n 0, 1) := by decide +kernel
theorem d_Course_enterNext_58 : decode M_Course_enterNext.2.1 58 = .ok (.iconst 4, 1) := by decide +kernel
theorem d_Course_enterNext_59 : decode M_Course_enterNext.2.1 59 = .ok (.iload_n 1, 1) := by decide +kernel
theorem d_Course_enterNext_60 : decode M_Course_enterNext.2.1 60 = .ok (.aload_n 0, 1) := by decide +kernel
theorem d_Course_enterNext_61 : decode M_Course_enterNext.2.1 61 = .ok (.getfield 21, 3) := by decide +kernel
theorem d_Course_enterNext_64 : decode M_Course_enterNext.2.1 64 = .ok (.getfield 169, 3) := by decide +kernel
theorem d_Course_enterNext_67 : decode M_Course_enterNext.2.1 67 = .ok (.iload_n 1, 1) := by decide +kernel
theorem d_Course_enterNext_68 : decode M_Course_enterNext.2.1 68 = .ok (.iaload, 1) := by decide +kernel
theorem d_Course_enterNext_69 : decode M_Course_enterNext.2.1 69 = .ok (.iload_n 2, 1) := by decide +kernel
theorem d_Course_enterNext_70 : decode M_Course_enterNext.2.1 70 = .ok (.iconst 0, 1) := by decide +kernel
theorem d_Course_enterNext_71 : decode M_Course_enterNext.2.1 71 = .ok (.invokevirtual 149, 3) := by decide +kernel
theorem d_Course_enterNext_74 : decode M_Course_enterNext.2.1 74 = .ok (.aload_n 0, 1) := by decide +kernel
theorem d_Course_enterNext_75 : decode M_Course_enterNext.2.1 75 = .ok (.getfield 28, 3) := by decide +kernel
theorem d_Course_enterNext_78 : decode M_Course_enterNext.2.1 78 = .ok (.aload_n 0, 1) := by decide +kernel
theorem d_Course_enterNext_79 : decode M_Course_enterNext.2.1 79 = .ok (.getfield 12, 3) := by decide +kernel
theorem d_Course_enterNext_82 : decode M_Course_enterNext.2.1 82 = .ok (.iload_n 1, 1) := by decide +kernel
theorem d_Course_enterNext_83 : decode M_Course_enterNext.2.1 83 = .ok (.iload_n 2, 1) := by decide +kernel
theorem d_Course_enterNext_84 : decode M_Course_enterNext.2.1 84 = .ok (.invokevirtual 113, 3) := by decide +kernel
theorem d_Course_enterNext_87 : decode M_Course_enterNext.2.1 87 = .ok (.istore_n 3, 1) := by decide +kernel
theorem d_Course_enterNext_88 : decode M_Course_enterNext.2.1 88 = .ok (.aload_n 0, 1) := by decide +kernel
theorem d_Course_enterNext_89 : decode M_Course_enterNext.2.1 89 = .ok (.getfield 58, 3) := by decide +kernel
theorem d_Course_enterNext_92 : decode M_Course_enterNext.2.1 92 = .ok (.iload_n 2, 1) := by decide +kernel
theorem d_Course_enterNext_93 : decode M_Course_enterNext.2.1 93 = .ok (.iload_n 1, 1) := by decide +kernel
theorem d_Course_enterNext_94 : decode M_Course_enterNext.2.1 94 = .ok (.invokestatic 84, 3) := by decide +kernel
theorem d_Course_enterNext_97 : decode M_Course_enterNext.2.1 97 = .ok (.aload_n 0, 1) := by decide +kernel
theorem d_Course_enterNext_98 : decode M_Course_enterNext.2.1 98 = .ok (.getfield 28, 3) := by decide +kernel
theorem d_Course_enterNext_101 : decode M_Course_enterNext.2.1 101 = .ok (.getfield 88, 3) := by decide +kernel
theorem d_Course_enterNext_104 : decode M_Course_enterNext.2.1 104 = .ok (.iload_n 1, 1) := by decide +kernel
theorem d_Course_enterNext_105 : decode M_Course_enterNext.2.1 105 = .ok (.iaload, 1) := by decide +kernel
theorem d_Course_enterNext_106 : decode M_Course_enterNext.2.1 106 = .ok (.iastore, 1) := by decide +kernel
theorem d_Course_enterNext_107 : decode M_Course_enterNext.2.1 107 = .ok (.iload_n 3, 1) := by decide +kernel
theorem d_Course_enterNext_108 : decode M_Course_enterNext.2.1 108 = .ok (.bipush (-2), 2) := by decide +kernel
theorem d_Course_enterNext_110 : decode M_Course_enterNext.2.1 110 = .ok (.if_icmp .eq 38, 3) := by decide +kernel
theorem d_Course_enterNext_113 : decode M_Course_enterNext.2.1 113 = .ok (.aload_n 0, 1) := by decide +kernel
theorem d_Course_enterNext_114 : decode M_Course_enterNext.2.1 114 = .ok (.getfield 46, 3) := by decide +kernel
theorem d_Course_enterNext_117 : decode M_Course_enterNext.2.1 117 = .ok (.iload_n 1, 1) := by decide +kernel
theorem d_Course_enterNext_118 : decode M_Course_enterNext.2.1 118 = .ok (.aload_n 0, 1) := by decide +kernel
theorem d_Course_enterNext_119 : decode M_Course_enterNext.2.1 119 = .ok (.getfield 12, 3) := by decide +kernel
theorem d_Course_enterNext_122 : decode M_Course_enterNext.2.1 122 = .ok (.getfield 121, 3) := by decide +kernel
theorem d_Course_enterNext_125 : decode M_Course_enterNext.2.1 125 = .ok (.iload_n 1, 1) := by decide +kernel
theorem d_Course_enterNext_126 : decode M_Course_enterNext.2.1 126 = .ok (.iaload, 1) := by decide +kernel
theorem d_Course_enterNext_127 : decode M_Course_enterNext.2.1 127 = .ok (.invokestatic 172, 3) := by decide +kernel
theorem d_Course_enterNext_130 : decode M_Course_enterNext.2.1 130 = .ok (.iastore, 1) := by decide +kernel
theorem d_Course_enterNext_131 : decode M_Course_enterNext.2.1 131 = .ok (.aload_n 0, 1) := by decide +kernel
theorem d_Course_enterNext_132 : decode M_Course_enterNext.2.1 132 = .ok (.iconst 0, 1) := by decide +kernel
theorem d_Course_enterNext_133 : decode M_Course_enterNext.2.1 133 = .ok (.iload_n 1, 1) := by decide +kernel
theorem d_Course_enterNext_134 : decode M_Course_enterNext.2.1 134 = .ok (.aload_n 0, 1) := by decide +kernel
theorem d_Course_enterNext_135 : decode M_Course_enterNext.2.1 135 = .ok (.getfield 12, 3) := by decide +kernel
theorem d_Course_enterNext_138 : decode M_Course_enterNext.2.1 138 = .ok (.getfield 121, 3) := by decide +kernel
theorem d_Course_enterNext_141 : decode M_Course_enterNext.2.1 141 = .ok (.iload_n 1, 1) := by decide +kernel
theorem d_Course_enterNext_142 : decode M_Course_enterNext.2.1 142 = .ok (.iaload, 1) := by decide +kernel
theorem d_Course_enterNext_143 : decode M_Course_enterNext.2.1 143 = .ok (.iload_n 2, 1) := by decide +kernel
theorem d_Course_enterNext_144 : decode M_Course_enterNext.2.1 144 = .ok (.iload_n 3, 1) := by decide +kernel
theorem d_Course_enterNext_145 : decode M_Course_enterNext.2.1 145 = .ok (.invokevirtual 149, 3) := by decide +kernel
theorem d_Course_enterNext_148 : decode M_Course_enterNext.2.1 148 = .ok (.return_, 1) := by decide +kernel
theorem d_Course_isSafe_0 : decode M_Course_isSafe.2.1 0 = .ok (.aload_n 0, 1) := by decide +kernel
theorem d_Course_isSafe_1 : decode M_Course_isSafe.2.1 1 = .ok (.getfield 46, 3) := by decide +kernel
theorem d_Course_isSafe_4 : decode M_Course_isSafe.2.1 4 = .ok (.iload_n 1, 1) := by decide +kernel
theorem d_Course_isSafe_5 : decode M_Course_isSafe.2.1 5 = .ok (.iaload, 1) := by decide +kernel
theorem d_Course_isSafe_6 : decode M_Course_isSafe.2.1 6 = .ok (.ifCond .ne 7, 3) := by decide +kernel
theorem d_Course_isSafe_9 : decode M_Course_isSafe.2.1 9 = .ok (.iconst 1, 1) := by decide +kernel
theorem d_Course_isSafe_10 : decode M_Course_isSafe.2.1 10 = .ok (.goto 4, 3) := by decide +kernel
theorem d_Course_isSafe_13 : decode M_Course_isSafe.2.1 13 = .ok (.iconst 0, 1) := by decide +kernel
theorem d_Course_isSafe_14 : decode M_Course_isSafe.2.1 14 = .ok (.ireturn, 1) := by decide +kernel
theorem d_Course_hasAllSafes_0 : decode M_Course_hasAllSafes.2.1 0 = .ok (.aload_n 0, 1) := by decide +kernel
theorem d_Course_hasAllSafes_1 : decode M_Course_hasAllSafes.2.1 1 = .ok (.getfield 55, 3) := by decide +kernel
theorem d_Course_hasAllSafes_4 : decode M_Course_hasAllSafes.2.1 4 = .ok (.aload_n 0, 1) := by decide +kernel
theorem d_Course_hasAllSafes_5 : decode M_Course_hasAllSafes.2.1 5 = .ok (.getfield 39, 3) := by decide +kernel
theorem d_Course_hasAllSafes_8 : decode M_Course_hasAllSafes.2.1 8 = .ok (.iload_n 1, 1) := by decide +kernel
theorem d_Course_hasAllSafes_9 : decode M_Course_hasAllSafes.2.1 9 = .ok (.iaload, 1) := by decide +kernel
theorem d_Course_hasAllSafes_10 : decode M_Course_hasAllSafes.2.1 10 = .ok (.iconst 1, 1) := by decide +kernel
theorem d_Course_hasAllSafes_11 : decode M_Course_hasAllSafes.2.1 11 = .ok (.iand, 1) := by decide +kernel
theorem d_Course_hasAllSafes_12 : decode M_Course_hasAllSafes.2.1 12 = .ok (.iload_n 1, 1) := by decide +kernel
theorem d_Course_hasAllSafes_13 : decode M_Course_hasAllSafes.2.1 13 = .ok (.invokestatic 84, 3) := by decide +kernel
theorem d_Course_hasAllSafes_16 : decode M_Course_hasAllSafes.2.1 16 = .ok (.iaload, 1) := by decide +kernel
theorem d_Course_hasAllSafes_17 : decode M_Course_hasAllSafes.2.1 17 = .ok (.aload_n 0, 1) := by decide +kernel
theorem d_Course_hasAllSafes_18 : decode M_Course_hasAllSafes.2.1 18 = .ok (.getfield 21, 3) := by decide +kernel
theorem d_Course_hasAllSafes_21 : decode M_Course_hasAllSafes.2.1 21 = .ok (.getfield 178, 3) := by decide +kernel
theorem d_Course_hasAllSafes_24 : decode M_Course_hasAllSafes.2.1 24 = .ok (.iload_n 1, 1) := by decide +kernel
theorem d_Course_hasAllSafes_25 : decode M_Course_hasAllSafes.2.1 25 = .ok (.iaload, 1) := by decide +kernel
theorem d_Course_hasAllSafes_26 : decode M_Course_hasAllSafes.2.1 26 = .ok (.invokestatic 172, 3) := by decide +kernel
theorem d_Course_hasAllSafes_29 : decode M_Course_hasAllSafes.2.1 29 = .ok (.if_icmp .ne 7, 3) := by decide +kernel
theorem d_Course_hasAllSafes_32 : decode M_Course_hasAllSafes.2.1 32 = .ok (.iconst 1, 1) := by decide +kernel
theorem d_Course_hasAllSafes_33 : decode M_Course_hasAllSafes.2.1 33 = .ok (.goto 4, 3) := by decide +kernel
theorem d_Course_hasAllSafes_36 : decode M_Course_hasAllSafes.2.1 36 = .ok (.iconst 0, 1) := by decide +kernel
theorem d_Course_hasAllSafes_37 : decode M_Course_hasAllSafes.2.1 37 = .ok (.ireturn, 1) := by decide +kernel
theorem d_Course_hasAllBelow_0 : decode M_Course_hasAllBelow.2.1 0 = .ok (.aload_n 1, 1) := by decide +kernel
theorem d_Course_hasAllBelow_1 : decode M_Course_hasAllBelow.2.1 1 = .ok (.iload_n 2, 1) := by decide +kernel
theorem d_Course_hasAllBelow_2 : decode M_Course_hasAllBelow.2.1 2 = .ok (.iaload, 1) := by decide +kernel
theorem d_Course_hasAllBelow_3 : decode M_Course_hasAllBelow.2.1 3 = .ok (.aload_n 0, 1) := by decide +kernel
theorem d_Course_hasAllBelow_4 : decode M_Course_hasAllBelow.2.1 4 = .ok (.getfield 21, 3) := by decide +kernel
theorem d_Course_hasAllBelow_7 : decode M_Course_hasAllBelow.2.1 7 = .ok (.getfield 169, 3) := by decide +kernel
theorem d_Course_hasAllBelow_10 : decode M_Course_hasAllBelow.2.1 10 = .ok (.iload_n 2, 1) := by decide +kernel
theorem d_Course_hasAllBelow_11 : decode M_Course_hasAllBelow.2.1 11 = .ok (.iaload, 1) := by decide +kernel
theorem d_Course_hasAllBelow_12 : decode M_Course_hasAllBelow.2.1 12 = .ok (.invokestatic 172, 3) := by decide +kernel
theorem d_Course_hasAllBelow_15 : decode M_Course_hasAllBelow.2.1 15 = .ok (.if_icmp .ne 7, 3) := by decide +kernel
theorem d_Course_hasAllBelow_18 : decode M_Course_hasAllBelow.2.1 18 = .ok (.iconst 1, 1) := by decide +kernel
theorem d_Course_hasAllBelow_19 : decode M_Course_hasAllBelow.2.1 19 = .ok (.goto 4, 3) := by decide +kernel
theorem d_Course_hasAllBelow_22 : decode M_Course_hasAllBelow.2.1 22 = .ok (.iconst 0, 1) := by decide +kernel
theorem d_Course_hasAllBelow_23 : decode M_Course_hasAllBelow.2.1 23 = .ok (.ireturn, 1) := by decide +kernel
theorem d_Course_isLeader_0 : decode M_Course_isLeader.2.1 0 = .ok (.aload_n 0, 1) := by decide +kernel
theorem d_Course_isLeader_1 : decode M_Course_isLeader.2.1 1 = .ok (.getfield 21, 3) := by decide +kernel
theorem d_Course_isLeader_4 : decode M_Course_isLeader.2.1 4 = .ok (.getfield 181, 3) := by decide +kernel
theorem d_Course_isLeader_7 : decode M_Course_isLeader.2.1 7 = .ok (.iload_n 1, 1) := by decide +kernel
theorem d_Course_isLeader_8 : decode M_Course_isLeader.2.1 8 = .ok (.iaload, 1) := by decide +kernel
theorem d_Course_isLeader_9 : decode M_Course_isLeader.2.1 9 = .ok (.iload_n 1, 1) := by decide +kernel
theorem d_Course_isLeader_10 : decode M_Course_isLeader.2.1 10 = .ok (.if_icmp .ne 7, 3) := by decide +kernel
theorem d_Course_isLeader_13 : decode M_Course_isLeader.2.1 13 = .ok (.iconst 1, 1) := by decide +kernel
theorem d_Course_isLeader_14 : decode M_Course_isLeader.2.1 14 = .ok (.goto 4, 3) := by decide +kernel
theorem d_Course_isLeader_17 : decode M_Course_isLeader.2.1 17 = .ok (.iconst 0, 1) := by decide +kernel
theorem d_Course_isLeader_18 : decode M_Course_isLeader.2.1 18 = .ok (.ireturn, 1) := by decide +kernel
theorem d_Course_keepWithAll_0 : decode M_Course_keepWithAll.2.1 0 = .ok (.aload_n 0, 1) := by decide +kernel
theorem d_Course_keepWithAll_1 : decode M_Course_keepWithAll.2.1 1 = .ok (.iload_n 1, 1) := by decide +kernel
theorem d_Course_keepWithAll_2 : decode M_Course_keepWithAll.2.1 2 = .ok (.invokevirtual 184, 3) := by decide +kernel
theorem d_Course_keepWithAll_5 : decode M_Course_keepWithAll.2.1 5 = .ok (.ifCond .ne 5, 3) := by decide +kernel
theorem d_Course_keepWithAll_8 : decode M_Course_keepWithAll.2.1 8 = .ok (.iconst 0, 1) := by decide +kernel
theorem d_Course_keepWithAll_9 : decode M_Course_keepWithAll.2.1 9 = .ok (.ireturn, 1) := by decide +kernel
theorem d_Course_keepWithAll_10 : decode M_Course_keepWithAll.2.1 10 = .ok (.aload_n 0, 1) := by decide +kernel
theorem d_Course_keepWithAll_11 : decode M_Course_keepWithAll.2.1 11 = .ok (.getfield 43, 3) := by decide +kernel
theorem d_Course_keepWithAll_14 : decode M_Course_keepWithAll.2.1 14 = .ok (.iload_n 1, 1) := by decide +kernel
theorem d_Course_keepWithAll_15 : decode M_Course_keepWithAll.2.1 15 = .ok (.iaload, 1) := by decide +kernel
theorem d_Course_keepWithAll_16 : decode M_Course_keepWithAll.2.1 16 = .ok (.ifCond .ne 32, 3) := by decide +kernel
theorem d_Course_keepWithAll_19 : decode M_Course_keepWithAll.2.1 19 = .ok (.aload_n 0, 1) := by decide +kernel
theorem d_Course_keepWithAll_20 : decode M_Course_keepWithAll.2.1 20 = .ok (.getfield 43, 3) := by decide +kernel
theorem d_Course_keepWithAll_23 : decode M_Course_keepWithAll.2.1 23 = .ok (.iload_n 1, 1) := by decide +kernel
theorem d_Course_keepWithAll_24 : decode M_Course_keepWithAll.2.1 24 = .ok (.iconst 1, 1) := by decide +kernel
theorem d_Course_keepWithAll_25 : decode M_Course_keepWithAll.2.1 25 = .ok (.iastore, 1) := by decide +kernel
theorem d_Course_keepWithAll_26 : decode M_Course_keepWithAll.2.1 26 = .ok (.aload_n 0, 1) := by decide +kernel
theorem d_Course_keepWithAll_27 : decode M_Course_keepWithAll.2.1 27 = .ok (.iconst 2, 1) := by decide +kernel
theorem d_Course_keepWithAll_28 : decode M_Course_keepWithAll.2.1 28 = .ok (.iload_n 1, 1) := by decide +kernel
theorem d_Course_keepWithAll_29 : decode M_Course_keepWithAll.2.1 29 = .ok (.aload_n 0, 1) := by decide +kernel
theorem d_Course_keepWithAll_30 : decode M_Course_keepWithAll.2.1 30 = .ok (.getfield 21, 3) := by decide +kernel
theorem d_Course_keepWithAll_33 : decode M_Course_keepWithAll.2.1 33 = .ok (.getfield 178, 3) := by decide +kernel
theorem d_Course_keepWithAll_36 : decode M_Course_keepWithAll.2.1 36 = .ok (.iload_n 1, 1) := by decide +kernel
theorem d_Course_keepWithAll_37 : decode M_Course_keepWithAll.2.1 37 = .ok (.iaload, 1) := by decide +kernel
theorem d_Course_keepWithAll_38 : decode M_Course_keepWithAll.2.1 38 = .ok (.aload_n 0, 1) := by decide +kernel
theorem d_Course_keepWithAll_39 : decode M_Course_keepWithAll.2.1 39 = .ok (.getfield 39, 3) := by decide +kernel
theorem d_Course_keepWithAll_42 : decode M_Course_keepWithAll.2.1 42 = .ok (.iload_n 1, 1) := by decide +kernel
theorem d_Course_keepWithAll_43 : decode M_Course_keepWithAll.2.1 43 = .ok (.iaload, 1) := by decide +kernel
theorem d_Course_keepWithAll_44 : decode M_Course_keepWithAll.2.1 44 = .ok (.iconst 0, 1) := by decide +kernel
theorem d_Course_keepWithAll_45 : decode M_Course_keepWithAll.2.1 45 = .ok (.invokevirtual 149, 3) := by decide +kernel
theorem d_Course_keepWithAll_48 : decode M_Course_keepWithAll.2.1 48 = .ok (.aload_n 0, 1) := by decide +kernel
theorem d_Course_keepWithAll_49 : decode M_Course_keepWithAll.2.1 49 = .ok (.iload_n 1, 1) := by decide +kernel
theorem d_Course_keepWithAll_50 : decode M_Course_keepWithAll.2.1 50 = .ok (.invokevirtual 187, 3) := by decide +kernel
theorem d_Course_keepWithAll_53 : decode M_Course_keepWithAll.2.1 53 = .ok (.ireturn, 1) := by decide +kernel
theorem d_Course_keepInTree_0 : decode M_Course_keepInTree.2.1 0 = .ok (.aload_n 0, 1) := by decide +kernel
theorem d_Course_keepInTree_1 : decode M_Course_keepInTree.2.1 1 = .ok (.getfield 43, 3) := by decide +kernel
theorem d_Course_keepInTree_4 : decode M_Course_keepInTree.2.1 4 = .ok (.iload_n 1, 1) := by decide +kernel
theorem d_Course_keepInTree_5 : decode M_Course_keepInTree.2.1 5 = .ok (.iaload, 1) := by decide +kernel
theorem d_Course_keepInTree_6 : decode M_Course_keepInTree.2.1 6 = .ok (.ifCond .ne 23, 3) := by decide +kernel
theorem d_Course_keepInTree_9 : decode M_Course_keepInTree.2.1 9 = .ok (.aload_n 0, 1) := by decide +kernel
theorem d_Course_keepInTree_10 : decode M_Course_keepInTree.2.1 10 = .ok (.iload_n 1, 1) := by decide +kernel
theorem d_Course_keepInTree_11 : decode M_Course_keepInTree.2.1 11 = .ok (.invokevirtual 184, 3) := by decide +kernel
theorem d_Course_keepInTree_14 : decode M_Course_keepInTree.2.1 14 = .ok (.ifCond .eq 15, 3) := by decide +kernel
theorem d_Course_keepInTree_17 : decode M_Course_keepInTree.2.1 17 = .ok (.aload_n 0, 1) := by decide +kernel
theorem d_Course_keepInTree_18 : decode M_Course_keepInTree.2.1 18 = .ok (.aload_n 0, 1) := by decide +kernel
theorem d_Course_keepInTree_19 : decode M_Course_keepInTree.2.1 19 = .ok (.getfield 49, 3) := by decide +kernel
theorem d_Course_keepInTree_22 : decode M_Course_keepInTree.2.1 22 = .ok (.iload_n 1, 1) := by decide +kernel
theorem d_Course_keepInTree_23 : decode M_Course_keepInTree.2.1 23 = .ok (.invokevirtual 190, 3) := by decide +kernel
theorem d_Course_keepInTree_26 : decode M_Course_keepInTree.2.1 26 = .ok (.ifCond .ne 5, 3) := by decide +kernel
theorem d_Course_keepInTree_29 : decode M_Course_keepInTree.2.1 29 = .ok (.iconst 0, 1) := by decide +kernel
theorem d_Course_keepInTree_30 : decode M_Course_keepInTree.2.1 30 = .ok (.ireturn, 1) := by decide +kernel
theorem d_Course_keepInTree_31 : decode M_Course_keepInTree.2.1 31 = .ok (.aload_n 0, 1) := by decide +kernel
theorem d_Course_keepInTree_32 : decode M_Course_keepInTree.2.1 32 = .ok (.getfield 43, 3) := by decide +kernel
theorem d_Course_keepInTree_35 : decode M_Course_keepInTree.2.1 35 = .ok (.iload_n 1, 1) := by decide +kernel
theorem d_Course_keepInTree_36 : decode M_Course_keepInTree.2.1 36 = .ok (.iconst 1, 1) := by decide +kernel
theorem d_Course_keepInTree_37 : decode M_Course_keepInTree.2.1 37 = .ok (.iastore, 1) := by decide +kernel
theorem d_Course_keepInTree_38 : decode M_Course_keepInTree.2.1 38 = .ok (.aload_n 0, 1) := by decide +kernel
theorem d_Course_keepInTree_39 : decode M_Course_keepInTree.2.1 39 = .ok (.iconst 3, 1) := by decide +kernel
theorem d_Course_keepInTree_40 : decode M_Course_keepInTree.2.1 40 = .ok (.iload_n 1, 1) := by decide +kernel
theorem d_Course_keepInTree_41 : decode M_Course_keepInTree.2.1 41 = .ok (.aload_n 0, 1) := by decide +kernel
theorem d_Course_keepInTree_42 : decode M_Course_keepInTree.2.1 42 = .ok (.getfield 21, 3) := by decide +kernel
theorem d_Course_keepInTree_45 : decode M_Course_keepInTree.2.1 45 = .ok (.getfield 194, 3) := by decide +kernel
theorem d_Course_keepInTree_48 : decode M_Course_keepInTree.2.1 48 = .ok (.iload_n 1, 1) := by decide +kernel
theorem d_Course_keepInTree_49 : decode M_Course_keepInTree.2.1 49 = .ok (.iaload, 1) := by decide +kernel
theorem d_Course_keepInTree_50 : decode M_Course_keepInTree.2.1 50 = .ok (.aload_n 0, 1) := by decide +kernel
theorem d_Course_keepInTree_51 : decode M_Course_keepInTree.2.1 51 = .ok (.getfield 39, 3) := by decide +kernel
theorem d_Course_keepInTree_54 : decode M_Course_keepInTree.2.1 54 = .ok (.iload_n 1, 1) := by decide +kernel
theorem d_Course_keepInTree_55 : decode M_Course_keepInTree.2.1 55 = .ok (.iaload, 1) := by decide +kernel
theorem d_Course_keepInTree_56 : decode M_Course_keepInTree.2.1 56 = .ok (.iconst 0, 1) := by decide +kernel
theorem d_Course_keepInTree_57 : decode M_Course_keepInTree.2.1 57 = .ok (.invokevirtual 149, 3) := by decide +kernel
theorem d_Course_keepInTree_60 : decode M_Course_keepInTree.2.1 60 = .ok (.aload_n 0, 1) := by decide +kernel
theorem d_Course_keepInTree_61 : decode M_Course_keepInTree.2.1 61 = .ok (.iload_n 1, 1) := by decide +kernel
theorem d_Course_keepInTree_62 : decode M_Course_keepInTree.2.1 62 = .ok (.invokevirtual 197, 3) := by decide +kernel
theorem d_Course_keepInTree_65 : decode M_Course_keepInTree.2.1 65 = .ok (.ireturn, 1) := by decide +kernel
theorem d_Course_keepInClusters_0 : decode M_Course_keepInClusters.2.1 0 = .ok (.aload_n 0, 1) := by decide +kernel
theorem d_Course_keepInClusters_1 : decode M_Course_keepInClusters.2.1 1 = .ok (.iload_n 1, 1) := by decide +kernel
theorem d_Course_keepInClusters_2 : decode M_Course_keepInClusters.2.1 2 = .ok (.invokevirtual 163, 3) := by decide +kernel
theorem d_Course_keepInClusters_5 : decode M_Course_keepInClusters.2.1 5 = .ok (.ifCond .eq 8, 3) := by decide +kernel
theorem d_Course_keepInClusters_8 : decode M_Course_keepInClusters.2.1 8 = .ok (.aload_n 0, 1) := by decide +kernel
theorem d_Course_keepInClusters_9 : decode M_Course_keepInClusters.2.1 9 = .ok (.iload_n 1, 1) := by decide +kernel
theorem d_Course_keepInClusters_10 : decode M_Course_keepInClusters.2.1 10 = .ok (.invokevirtual 153, 3) := by decide +kernel
theorem d_Course_keepInClusters_13 : decode M_Course_keepInClusters.2.1 13 = .ok (.aload_n 0, 1) := by decide +kernel
theorem d_Course_keepInClusters_14 : decode M_Course_keepInClusters.2.1 14 = .ok (.getfield 43, 3) := by decide +kernel
theorem d_Course_keepInClusters_17 : decode M_Course_keepInClusters.2.1 17 = .ok (.iload_n 1, 1) := by decide +kernel
theorem d_Course_keepInClusters_18 : decode M_Course_keepInClusters.2.1 18 = .ok (.iaload, 1) := by decide +kernel
theorem d_Course_keepInClusters_19 : decode M_Course_keepInClusters.2.1 19 = .ok (.iconst 2, 1) := by decide +kernel
theorem d_Course_keepInClusters_20 : decode M_Course_keepInClusters.2.1 20 = .ok (.if_icmp .ne 23, 3) := by decide +kernel
theorem d_Course_keepInClusters_23 : decode M_Course_keepInClusters.2.1 23 = .ok (.aload_n 0, 1) := by decide +kernel
theorem d_Course_keepInClusters_24 : decode M_Course_keepInClusters.2.1 24 = .ok (.iload_n 1, 1) := by decide +kernel
theorem d_Course_keepInClusters_25 : decode M_Course_keepInClusters.2.1 25 = .ok (.invokevirtual 187, 3) := by decide +kernel
theorem d_Course_keepInClusters_28 : decode M_Course_keepInClusters.2.1 28 = .ok (.ifCond .eq 15, 3) := by decide +kernel
theorem d_Course_keepInClusters_31 : decode M_Course_keepInClusters.2.1 31 = .ok (.aload_n 0, 1) := by decide +kernel
theorem d_Course_keepInClusters_32 : decode M_Course_keepInClusters.2.1 32 = .ok (.aload_n 0, 1) := by decide +kernel
theorem d_Course_keepInClusters_33 : decode M_Course_keepInClusters.2.1 33 = .ok (.getfield 52, 3) := by decide +kernel
theorem d_Course_keepInClusters_36 : decode M_Course_keepInClusters.2.1 36 = .ok (.iload_n 1, 1) := by decide +kernel
theorem d_Course_keepInClusters_37 : decode M_Course_keepInClusters.2.1 37 = .ok (.invokevirtual 190, 3) := by decide +kernel
theorem d_Course_keepInClusters_40 : decode M_Course_keepInClusters.2.1 40 = .ok (.ifCond .ne 5, 3) := by decide +kernel
theorem d_Course_keepInClusters_43 : decode M_Course_keepInClusters.2.1 43 = .ok (.iconst 0, 1) := by decide +kernel
theorem d_Course_keepInClusters_44 : decode M_Course_keepInClusters.2.1 44 = .ok (.ireturn, 1) := by decide +kernel
theorem d_Course_keepInClusters_45 : decode M_Course_keepInClusters.2.1 45 = .ok (.aload_n 0, 1) := by decide +kernel
theorem d_Course_keepInClusters_46 : decode M_Course_keepInClusters.2.1 46 = .ok (.getfield 43, 3) := by decide +kernel
theorem d_Course_keepInClusters_49 : decode M_Course_keepInClusters.2.1 49 = .ok (.iload_n 1, 1) := by decide +kernel
theorem d_Course_keepInClusters_50 : decode M_Course_keepInClusters.2.1 50 = .ok (.iconst 3, 1) := by decide +kernel
theorem d_Course_keepInClusters_51 : decode M_Course_keepInClusters.2.1 51 = .ok (.iastore, 1) := by decide +kernel
theorem d_Course_keepInClusters_52 : decode M_Course_keepInClusters.2.1 52 = .ok (.aload_n 0, 1) := by decide +kernel
theorem d_Course_keepInClusters_53 : decode M_Course_keepInClusters.2.1 53 = .ok (.bipush 6, 2) := by decide +kernel
theorem d_Course_keepInClusters_55 : decode M_Course_keepInClusters.2.1 55 = .ok (.iload_n 1, 1) := by decide +kernel
theorem d_Course_keepInClusters_56 : decode M_Course_keepInClusters.2.1 56 = .ok (.aload_n 0, 1) := by decide +kernel
theorem d_Course_keepInClusters_57 : decode M_Course_keepInClusters.2.1 57 = .ok (.getfield 21, 3) := by decide +kernel
theorem d_Course_keepInClusters_60 : decode M_Course_keepInClusters.2.1 60 = .ok (.getfield 194, 3) := by decide +kernel
theorem d_Course_keepInClusters_63 : decode M_Course_keepInClusters.2.1 63 = .ok (.iload_n 1, 1) := by decide +kernel
theorem d_Course_keepInClusters_64 : decode M_Course_keepInClusters.2.1 64 = .ok (.iaload, 1) := by decide +kernel
theorem d_Course_keepInClusters_65 : decode M_Course_keepInClusters.2.1 65 = .ok (.aload_n 0, 1) := by decide +kernel
theorem d_Course_keepInClusters_66 : decode M_Course_keepInClusters.2.1 66 = .ok (.getfield 39, 3) := by decide +kernel
theorem d_Course_keepInClusters_69 : decode M_Course_keepInClusters.2.1 69 = .ok (.iload_n 1, 1) := by decide +kernel
theorem d_Course_keepInClusters_70 : decode M_Course_keepInClusters.2.1 70 = .ok (.iaload, 1) := by decide +kernel
theorem d_Course_keepInClusters_71 : decode M_Course_keepInClusters.2.1 71 = .ok (.iconst 0, 1) := by decide +kernel
theorem d_Course_keepInClusters_72 : decode M_Course_keepInClusters.2.1 72 = .ok (.invokevirtual 149, 3) := by decide +kernel
theorem d_Course_keepInClusters_75 : decode M_Course_keepInClusters.2.1 75 = .ok (.aload_n 0, 1) := by decide +kernel
theorem d_Course_keepInClusters_76 : decode M_Course_keepInClusters.2.1 76 = .ok (.iload_n 1, 1) := by decide +kernel
theorem d_Course_keepInClusters_77 : decode M_Course_keepInClusters.2.1 77 = .ok (.invokevirtual 197, 3) := by decide +kernel
theorem d_Course_keepInClusters_80 : decode M_Course_keepInClusters.2.1 80 = .ok (.ireturn, 1) := by decide +kernel
theorem d_Course_spreadFirm_0 : decode M_Course_spreadFirm.2.1 0 = .ok (.aload_n 0, 1) := by decide +kernel
theorem d_Course_spreadFirm_1 : decode M_Course_spreadFirm.2.1 1 = .ok (.getfield 43, 3) := by decide +kernel
theorem d_Course_spreadFirm_4 : decode M_Course_spreadFirm.2.1 4 = .ok (.iload_n 1, 1) := by decide +kernel
theorem d_Course_spreadFirm_5 : decode M_Course_spreadFirm.2.1 5 = .ok (.iconst 2, 1) := by decide +kernel
theorem d_Course_spreadFirm_6 : decode M_Course_spreadFirm.2.1 6 = .ok (.iastore, 1) := by decide +kernel
theorem d_Course_spreadFirm_7 : decode M_Course_spreadFirm.2.1 7 = .ok (.aload_n 0, 1) := by decide +kernel
theorem d_Course_spreadFirm_8 : decode M_Course_spreadFirm.2.1 8 = .ok (.iconst 5, 1) := by decide +kernel
theorem d_Course_spreadFirm_9 : decode M_Course_spreadFirm.2.1 9 = .ok (.iload_n 1, 1) := by decide +kernel
theorem d_Course_spreadFirm_10 : decode M_Course_spreadFirm.2.1 10 = .ok (.aload_n 0, 1) := by decide +kernel
theorem d_Course_spreadFirm_11 : decode M_Course_spreadFirm.2.1 11 = .ok (.getfield 21, 3) := by decide +kernel
theorem d_Course_spreadFirm_14 : decode M_Course_spreadFirm.2.1 14 = .ok (.getfield 169, 3) := by decide +kernel
theorem d_Course_spreadFirm_17 : decode M_Course_spreadFirm.2.1 17 = .ok (.iload_n 1, 1) := by decide +kernel
theorem d_Course_spreadFirm_18 : decode M_Course_spreadFirm.2.1 18 = .ok (.iaload, 1) := by decide +kernel
theorem d_Course_spreadFirm_19 : decode M_Course_spreadFirm.2.1 19 = .ok (.aload_n 0, 1) := by decide +kernel
theorem d_Course_spreadFirm_20 : decode M_Course_spreadFirm.2.1 20 = .ok (.getfield 39, 3) := by decide +kernel
theorem d_Course_spreadFirm_23 : decode M_Course_spreadFirm.2.1 23 = .ok (.iload_n 1, 1) := by decide +kernel
theorem d_Course_spreadFirm_24 : decode M_Course_spreadFirm.2.1 24 = .ok (.iaload, 1) := by decide +kernel
theorem d_Course_spreadFirm_25 : decode M_Course_spreadFirm.2.1 25 = .ok (.iconst 0, 1) := by decide +kernel
theorem d_Course_spreadFirm_26 : decode M_Course_spreadFirm.2.1 26 = .ok (.invokevirtual 149, 3) := by decide +kernel
theorem d_Course_spreadFirm_29 : decode M_Course_spreadFirm.2.1 29 = .ok (.aload_n 0, 1) := by decide +kernel
theorem d_Course_spreadFirm_30 : decode M_Course_spreadFirm.2.1 30 = .ok (.iconst 2, 1) := by decide +kernel
theorem d_Course_spreadFirm_31 : decode M_Course_spreadFirm.2.1 31 = .ok (.iload_n 1, 1) := by decide +kernel
theorem d_Course_spreadFirm_32 : decode M_Course_spreadFirm.2.1 32 = .ok (.aload_n 0, 1) := by decide +kernel
theorem d_Course_spreadFirm_33 : decode M_Course_spreadFirm.2.1 33 = .ok (.getfield 21, 3) := by decide +kernel
theorem d_Course_spreadFirm_36 : decode M_Course_spreadFirm.2.1 36 = .ok (.getfield 178, 3) := by decide +kernel
theorem d_Course_spreadFirm_39 : decode M_Course_spreadFirm.2.1 39 = .ok (.iload_n 1, 1) := by decide +kernel
theorem d_Course_spreadFirm_40 : decode M_Course_spreadFirm.2.1 40 = .ok (.iaload, 1) := by decide +kernel
theorem d_Course_spreadFirm_41 : decode M_Course_spreadFirm.2.1 41 = .ok (.aload_n 0, 1) := by decide +kernel
theorem d_Course_spreadFirm_42 : decode M_Course_spreadFirm.2.1 42 = .ok (.getfield 39, 3) := by decide +kernel
theorem d_Course_spreadFirm_45 : decode M_Course_spreadFirm.2.1 45 = .ok (.iload_n 1, 1) := by decide +kernel
theorem d_Course_spreadFirm_46 : decode M_Course_spreadFirm.2.1 46 = .ok (.iaload, 1) := by decide +kernel
theorem d_Course_spreadFirm_47 : decode M_Course_spreadFirm.2.1 47 = .ok (.iconst 0, 1) := by decide +kernel
theorem d_Course_spreadFirm_48 : decode M_Course_spreadFirm.2.1 48 = .ok (.invokevirtual 149, 3) := by decide +kernel
theorem d_Course_spreadFirm_51 : decode M_Course_spreadFirm.2.1 51 = .ok (.return_, 1) := by decide +kernel
theorem d_Course_leastRound_0 : decode M_Course_leastRound.2.1 0 = .ok (.aload_n 0, 1) := by decide +kernel
theorem d_Course_leastRound_1 : decode M_Course_leastRound.2.1 1 = .ok (.getfield 68, 3) := by decide +kernel
theorem d_Course_leastRound_4 : decode M_Course_leastRound.2.1 4 = .ok (.istore_n 1, 1) := by decide +kernel
theorem d_Course_leastRound_5 : decode M_Course_leastRound.2.1 5 = .ok (.iconst 0, 1) := by decide +kernel
theorem d_Course_leastRound_6 : decode M_Course_leastRound.2.1 6 = .ok (.istore_n 2, 1) := by decide +kernel
theorem d_Course_leastRound_7 : decode M_Course_leastRound.2.1 7 = .ok (.iload_n 2, 1) := by decide +kernel
theorem d_Course_leastRound_8 : decode M_Course_leastRound.2.1 8 = .ok (.aload_n 0, 1) := by decide +kernel
theorem d_Course_leastRound_9 : decode M_Course_leastRound.2.1 9 = .ok (.getfield 12, 3) := by decide +kernel
theorem d_Course_leastRound_12 : decode M_Course_leastRound.2.1 12 = .ok (.getfield 81, 3) := by decide +kernel
theorem d_Course_leastRound_15 : decode M_Course_leastRound.2.1 15 = .ok (.if_icmp .ge 20, 3) := by decide +kernel
theorem d_Course_leastRound_18 : decode M_Course_leastRound.2.1 18 = .ok (.iload_n 1, 1) := by decide +kernel
theorem d_Course_leastRound_19 : decode M_Course_leastRound.2.1 19 = .ok (.aload_n 0, 1) := by decide +kernel
theorem d_Course_leastRound_20 : decode M_Course_leastRound.2.1 20 = .ok (.getfield 39, 3) := by decide +kernel
theorem d_Course_leastRound_23 : decode M_Course_leastRound.2.1 23 = .ok (.iload_n 2, 1) := by decide +kernel
theorem d_Course_leastRound_24 : decode M_Course_leastRound.2.1 24 = .ok (.iaload, 1) := by decide +kernel
theorem d_Course_leastRound_25 : decode M_Course_leastRound.2.1 25 = .ok (.invokestatic 200, 3) := by decide +kernel
theorem d_Course_leastRound_28 : decode M_Course_leastRound.2.1 28 = .ok (.istore_n 1, 1) := by decide +kernel
theorem d_Course_leastRound_29 : decode M_Course_leastRound.2.1 29 = .ok (.iinc 2 1, 3) := by decide +kernel
theorem d_Course_leastRound_32 : decode M_Course_leastRound.2.1 32 = .ok (.goto (-25), 3) := by decide +kernel
theorem d_Course_leastRound_35 : decode M_Course_leastRound.2.1 35 = .ok (.iload_n 1, 1) := by decide +kernel
theorem d_Course_leastRound_36 : decode M_Course_leastRound.2.1 36 = .ok (.ireturn, 1) := by decide +kernel
theorem d_Course_greatestRound_0 : decode M_Course_greatestRound.2.1 0 = .ok (.iconst 0, 1) := by decide +kernel
theorem d_Course_greatestRound_1 : decode M_Course_greatestRound.2.1 1 = .ok (.istore_n 1, 1) := by decide +kernel
theorem d_Course_greatestRound_2 : decode M_Course_greatestRound.2.1 2 = .ok (.iconst 0, 1) := by decide +kernel
theorem d_Course_greatestRound_3 : decode M_Course_greatestRound.2.1 3 = .ok (.istore_n 2, 1) := by decide +kernel
theorem d_Course_greatestRound_4 : decode M_Course_greatestRound.2.1 4 = .ok (.iload_n 2, 1) := by decide +kernel
theorem d_Course_greatestRound_5 : decode M_Course_greatestRound.2.1 5 = .ok (.aload_n 0, 1) := by decide +kernel
theorem d_Course_greatestRound_6 : decode M_Course_greatestRound.2.1 6 = .ok (.getfield 12, 3) := by decide +kernel
theorem d_Course_greatestRound_9 : decode M_Course_greatestRound.2.1 9 = .ok (.getfield 81, 3) := by decide +kernel
theorem d_Course_greatestRound_12 : decode M_Course_greatestRound.2.1 12 = .ok (.if_icmp .ge 20, 3) := by decide +kernel
theorem d_Course_greatestRound_15 : decode M_Course_greatestRound.2.1 15 = .ok (.iload_n 1, 1) := by decide +kernel
theorem d_Course_greatestRound_16 : decode M_Course_greatestRound.2.1 16 = .ok (.aload_n 0, 1) := by decide +kernel
theorem d_Course_greatestRound_17 : decode M_Course_greatestRound.2.1 17 = .ok (.getfield 39, 3) := by decide +kernel
theorem d_Course_greatestRound_20 : decode M_Course_greatestRound.2.1 20 = .ok (.iload_n 2, 1) := by decide +kernel
theorem d_Course_greatestRound_21 : decode M_Course_greatestRound.2.1 21 = .ok (.iaload, 1) := by decide +kernel
theorem d_Course_greatestRound_22 : decode M_Course_greatestRound.2.1 22 = .ok (.invokestatic 205, 3) := by decide +kernel
theorem d_Course_greatestRound_25 : decode M_Course_greatestRound.2.1 25 = .ok (.istore_n 1, 1) := by decide +kernel
theorem d_Course_greatestRound_26 : decode M_Course_greatestRound.2.1 26 = .ok (.iinc 2 1, 3) := by decide +kernel
theorem d_Course_greatestRound_29 : decode M_Course_greatestRound.2.1 29 = .ok (.goto (-25), 3) := by decide +kernel
theorem d_Course_greatestRound_32 : decode M_Course_greatestRound.2.1 32 = .ok (.iload_n 1, 1) := by decide +kernel
theorem d_Course_greatestRound_33 : decode M_Course_greatestRound.2.1 33 = .ok (.ireturn, 1) := by decide +kernel
theorem d_Course_isOver_0 : decode M_Course_isOver.2.1 0 = .ok (.aload_n 0, 1) := by decide +kernel
theorem d_Course_isOver_1 : decode M_Course_isOver.2.1 1 = .ok (.getfield 35, 3) := by decide +kernel
theorem d_Course_isOver_4 : decode M_Course_isOver.2.1 4 = .ok (.getfield 98, 3) := by decide +kernel
theorem d_Course_isOver_7 : decode M_Course_isOver.2.1 7 = .ok (.ifCond .ne 18, 3) := by decide +kernel
theorem d_Course_isOver_10 : decode M_Course_isOver.2.1 10 = .ok (.aload_n 0, 1) := by decide +kernel
theorem d_Course_isOver_11 : decode M_Course_isOver.2.1 11 = .ok (.invokevirtual 208, 3) := by decide +kernel
theorem d_Course_isOver_14 : decode M_Course_isOver.2.1 14 = .ok (.aload_n 0, 1) := by decide +kernel
theorem d_Course_isOver_15 : decode M_Course_isOver.2.1 15 = .ok (.getfield 68, 3) := by decide +kernel
theorem d_Course_isOver_18 : decode M_Course_isOver.2.1 18 = .ok (.if_icmp .ne 7, 3) := by decide +kernel
theorem d_Course_isOver_21 : decode M_Course_isOver.2.1 21 = .ok (.iconst 1, 1) := by decide +kernel
theorem d_Course_isOver_22 : decode M_Course_isOver.2.1 22 = .ok (.goto 4, 3) := by decide +kernel
theorem d_Course_isOver_25 : decode M_Course_isOver.2.1 25 = .ok (.iconst 0, 1) := by decide +kernel
theorem d_Course_isOver_26 : decode M_Course_isOver.2.1 26 = .ok (.ireturn, 1) := by decide +kernel
theorem d_Course_countWrong_0 : decode M_Course_countWrong.2.1 0 = .ok (.iconst 0, 1) := by decide +kernel
theorem d_Course_countWrong_1 : decode M_Course_countWrong.2.1 1 = .ok (.istore_n 1, 1) := by decide +kernel
theorem d_Course_countWrong_2 : decode M_Course_countWrong.2.1 2 = .ok (.iconst 0, 1) := by decide +kernel
theorem d_Course_countWrong_3 : decode M_Course_countWrong.2.1 3 = .ok (.istore_n 2, 1) := by decide +kernel
theorem d_Course_countWrong_4 : decode M_Course_countWrong.2.1 4 = .ok (.iload_n 2, 1) := by decide +kernel
theorem d_Course_countWrong_5 : decode M_Course_countWrong.2.1 5 = .ok (.aload_n 0, 1) := by decide +kernel
theorem d_Course_countWrong_6 : decode M_Course_countWrong.2.1 6 = .ok (.getfield 12, 3) := by decide +kernel
theorem d_Course_countWrong_9 : decode M_Course_countWrong.2.1 9 = .ok (.getfield 81, 3) := by decide +kernel
theorem d_Course_countWrong_12 : decode M_Course_countWrong.2.1 12 = .ok (.if_icmp .ge 58, 3) := by decide +kernel
theorem d_Course_countWrong_15 : decode M_Course_countWrong.2.1 15 = .ok (.iconst 0, 1) := by decide +kernel
theorem d_Course_countWrong_16 : decode M_Course_countWrong.2.1 16 = .ok (.istore_n 3, 1) := by decide +kernel
theorem d_Course_countWrong_17 : decode M_Course_countWrong.2.1 17 = .ok (.iload_n 3, 1) := by decide +kernel
theorem d_Course_countWrong_18 : decode M_Course_countWrong.2.1 18 = .ok (.aload_n 0, 1) := by decide +kernel
theorem d_Course_countWrong_19 : decode M_Course_countWrong.2.1 19 = .ok (.getfield 39, 3) := by decide +kernel
theorem d_Course_countWrong_22 : decode M_Course_countWrong.2.1 22 = .ok (.iload_n 2, 1) := by decide +kernel
theorem d_Course_countWrong_23 : decode M_Course_countWrong.2.1 23 = .ok (.iaload, 1) := by decide +kernel
theorem d_Course_countWrong_24 : decode M_Course_countWrong.2.1 24 = .ok (.if_icmp .gt 40, 3) := by decide +kernel
theorem d_Course_countWrong_27 : decode M_Course_countWrong.2.1 27 = .ok (.iload_n 1, 1) := by decide +kernel
theorem d_Course_countWrong_28 : decode M_Course_countWrong.2.1 28 = .ok (.aload_n 0, 1) := by decide +kernel
theorem d_Course_countWrong_29 : decode M_Course_countWrong.2.1 29 = .ok (.getfield 58, 3) := by decide +kernel
theorem d_Course_countWrong_32 : decode M_Course_countWrong.2.1 32 = .ok (.iload_n 3, 1) := by decide +kernel
theorem d_Course_countWrong_33 : decode M_Course_countWrong.2.1 33 = .ok (.iload_n 2, 1) := by decide +kernel
theorem d_Course_countWrong_34 : decode M_Course_countWrong.2.1 34 = .ok (.invokestatic 84, 3) := by decide +kernel
theorem d_Course_countWrong_37 : decode M_Course_countWrong.2.1 37 = .ok (.iaload, 1) := by decide +kernel
theorem d_Course_countWrong_38 : decode M_Course_countWrong.2.1 38 = .ok (.aload_n 0, 1) := by decide +kernel
theorem d_Course_countWrong_39 : decode M_Course_countWrong.2.1 39 = .ok (.getfield 61, 3) := by decide +kernel
theorem d_Course_countWrong_42 : decode M_Course_countWrong.2.1 42 = .ok (.iload_n 3, 1) := by decide +kernel
theorem d_Course_countWrong_43 : decode M_Course_countWrong.2.1 43 = .ok (.iload_n 2, 1) := by decide +kernel
theorem d_Course_countWrong_44 : decode M_Course_countWrong.2.1 44 = .ok (.invokestatic 84, 3) := by decide +kernel
theorem d_Course_countWrong_47 : decode M_Course_countWrong.2.1 47 = .ok (.iaload, 1) := by decide +kernel
theorem d_Course_countWrong_48 : decode M_Course_countWrong.2.1 48 = .ok (.if_icmp .ne 7, 3) := by decide +kernel
theorem d_Course_countWrong_51 : decode M_Course_countWrong.2.1 51 = .ok (.iconst 0, 1) := by decide +kernel
theorem d_Course_countWrong_52 : decode M_Course_countWrong.2.1 52 = .ok (.goto 4, 3) := by decide +kernel
theorem d_Course_countWrong_55 : decode M_Course_countWrong.2.1 55 = .ok (.iconst 1, 1) := by decide +kernel
theorem d_Course_countWrong_56 : decode M_Course_countWrong.2.1 56 = .ok (.iadd, 1) := by decide +kernel
theorem d_Course_countWrong_57 : decode M_Course_countWrong.2.1 57 = .ok (.istore_n 1, 1) := by decide +kernel
theorem d_Course_countWrong_58 : decode M_Course_countWrong.2.1 58 = .ok (.iinc 3 1, 3) := by decide +kernel
theorem d_Course_countWrong_61 : decode M_Course_countWrong.2.1 61 = .ok (.goto (-44), 3) := by decide +kernel
theorem d_Course_countWrong_64 : decode M_Course_countWrong.2.1 64 = .ok (.iinc 2 1, 3) := by decide +kernel
theorem d_Course_countWrong_67 : decode M_Course_countWrong.2.1 67 = .ok (.goto (-63), 3) := by decide +kernel
theorem d_Course_countWrong_70 : decode M_Course_countWrong.2.1 70 = .ok (.iload_n 1, 1) := by decide +kernel
theorem d_Course_countWrong_71 : decode M_Course_countWrong.2.1 71 = .ok (.ireturn, 1) := by decide +kernel
theorem d_Frame_setUp_0 : decode M_Frame_setUp.2.1 0 = .ok (.aload_n 0, 1) := by decide +kernel
theorem d_Frame_setUp_1 : decode M_Frame_setUp.2.1 1 = .ok (.invokevirtual 33, 3) := by decide +kernel
theorem d_Frame_setUp_4 : decode M_Frame_setUp.2.1 4 = .ok (.iload_n 2, 1) := by decide +kernel
theorem d_Frame_setUp_5 : decode M_Frame_setUp.2.1 5 = .ok (.ifCond .ne 11, 3) := by decide +kernel
theorem d_Frame_setUp_8 : decode M_Frame_setUp.2.1 8 = .ok (.aload_n 0, 1) := by decide +kernel
theorem d_Frame_setUp_9 : decode M_Frame_setUp.2.1 9 = .ok (.aload_n 1, 1) := by decide +kernel
theorem d_Frame_setUp_10 : decode M_Frame_setUp.2.1 10 = .ok (.invokevirtual 36, 3) := by decide +kernel
theorem d_Frame_setUp_13 : decode M_Frame_setUp.2.1 13 = .ok (.goto 33, 3) := by decide +kernel
theorem d_Frame_setUp_16 : decode M_Frame_setUp.2.1 16 = .ok (.iload_n 2, 1) := by decide +kernel
theorem d_Frame_setUp_17 : decode M_Frame_setUp.2.1 17 = .ok (.iconst 1, 1) := by decide +kernel
theorem d_Frame_setUp_18 : decode M_Frame_setUp.2.1 18 = .ok (.if_icmp .ne 16, 3) := by decide +kernel
theorem d_Frame_setUp_21 : decode M_Frame_setUp.2.1 21 = .ok (.aload_n 0, 1) := by decide +kernel
theorem d_Frame_setUp_22 : decode M_Frame_setUp.2.1 22 = .ok (.aload_n 1, 1) := by decide +kernel
theorem d_Frame_setUp_23 : decode M_Frame_setUp.2.1 23 = .ok (.aload_n 1, 1) := by decide +kernel
theorem d_Frame_setUp_24 : decode M_Frame_setUp.2.1 24 = .ok (.invokevirtual 40, 3) := by decide +kernel
theorem d_Frame_setUp_27 : decode M_Frame_setUp.2.1 27 = .ok (.iload_n 3, 1) := by decide +kernel
theorem d_Frame_setUp_28 : decode M_Frame_setUp.2.1 28 = .ok (.invokevirtual 46, 3) := by decide +kernel
theorem d_Frame_setUp_31 : decode M_Frame_setUp.2.1 31 = .ok (.goto 15, 3) := by decide +kernel
theorem d_Frame_setUp_34 : decode M_Frame_setUp.2.1 34 = .ok (.aload_n 0, 1) := by decide +kernel
theorem d_Frame_setUp_35 : decode M_Frame_setUp.2.1 35 = .ok (.aload_n 1, 1) := by decide +kernel
theorem d_Frame_setUp_36 : decode M_Frame_setUp.2.1 36 = .ok (.iload 4, 2) := by decide +kernel
theorem d_Frame_setUp_38 : decode M_Frame_setUp.2.1 38 = .ok (.invokevirtual 50, 3) := by decide +kernel
theorem d_Frame_setUp_41 : decode M_Frame_setUp.2.1 41 = .ok (.aload_n 0, 1) := by decide +kernel
theorem d_Frame_setUp_42 : decode M_Frame_setUp.2.1 42 = .ok (.aload_n 1, 1) := by decide +kernel
theorem d_Frame_setUp_43 : decode M_Frame_setUp.2.1 43 = .ok (.invokevirtual 54, 3) := by decide +kernel
theorem d_Frame_setUp_46 : decode M_Frame_setUp.2.1 46 = .ok (.return_, 1) := by decide +kernel
