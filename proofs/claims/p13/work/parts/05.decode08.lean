theorem d_Mo_step_0 : decode M_Mo_step.2.1 0 = .ok (.iconst 0, 1) := by decide +kernel
theorem d_Mo_step_1 : decode M_Mo_step.2.1 1 = .ok (.istore_n 1, 1) := by decide +kernel
theorem d_Mo_step_2 : decode M_Mo_step.2.1 2 = .ok (.iload_n 1, 1) := by decide +kernel
theorem d_Mo_step_3 : decode M_Mo_step.2.1 3 = .ok (.aload_n 0, 1) := by decide +kernel
theorem d_Mo_step_4 : decode M_Mo_step.2.1 4 = .ok (.getfield 84, 3) := by decide +kernel
theorem d_Mo_step_7 : decode M_Mo_step.2.1 7 = .ok (.if_icmp .ge 42, 3) := by decide +kernel
theorem d_Mo_step_10 : decode M_Mo_step.2.1 10 = .ok (.aload_n 0, 1) := by decide +kernel
theorem d_Mo_step_11 : decode M_Mo_step.2.1 11 = .ok (.bipush 12, 2) := by decide +kernel
theorem d_Mo_step_13 : decode M_Mo_step.2.1 13 = .ok (.iload_n 1, 1) := by decide +kernel
theorem d_Mo_step_14 : decode M_Mo_step.2.1 14 = .ok (.iadd, 1) := by decide +kernel
theorem d_Mo_step_15 : decode M_Mo_step.2.1 15 = .ok (.iload_n 1, 1) := by decide +kernel
theorem d_Mo_step_16 : decode M_Mo_step.2.1 16 = .ok (.invokevirtual 133, 3) := by decide +kernel
theorem d_Mo_step_19 : decode M_Mo_step.2.1 19 = .ok (.aload_n 0, 1) := by decide +kernel
theorem d_Mo_step_20 : decode M_Mo_step.2.1 20 = .ok (.getfield 62, 3) := by decide +kernel
theorem d_Mo_step_23 : decode M_Mo_step.2.1 23 = .ok (.iload_n 1, 1) := by decide +kernel
theorem d_Mo_step_24 : decode M_Mo_step.2.1 24 = .ok (.aload_n 0, 1) := by decide +kernel
theorem d_Mo_step_25 : decode M_Mo_step.2.1 25 = .ok (.getfield 53, 3) := by decide +kernel
theorem d_Mo_step_28 : decode M_Mo_step.2.1 28 = .ok (.bipush 12, 2) := by decide +kernel
theorem d_Mo_step_30 : decode M_Mo_step.2.1 30 = .ok (.iload_n 1, 1) := by decide +kernel
theorem d_Mo_step_31 : decode M_Mo_step.2.1 31 = .ok (.iadd, 1) := by decide +kernel
theorem d_Mo_step_32 : decode M_Mo_step.2.1 32 = .ok (.iaload, 1) := by decide +kernel
theorem d_Mo_step_33 : decode M_Mo_step.2.1 33 = .ok (.iastore, 1) := by decide +kernel
theorem d_Mo_step_34 : decode M_Mo_step.2.1 34 = .ok (.aload_n 0, 1) := by decide +kernel
theorem d_Mo_step_35 : decode M_Mo_step.2.1 35 = .ok (.getfield 71, 3) := by decide +kernel
theorem d_Mo_step_38 : decode M_Mo_step.2.1 38 = .ok (.iload_n 1, 1) := by decide +kernel
theorem d_Mo_step_39 : decode M_Mo_step.2.1 39 = .ok (.sipush (-1000), 3) := by decide +kernel
theorem d_Mo_step_42 : decode M_Mo_step.2.1 42 = .ok (.iastore, 1) := by decide +kernel
theorem d_Mo_step_43 : decode M_Mo_step.2.1 43 = .ok (.iinc 1 1, 3) := by decide +kernel
theorem d_Mo_step_46 : decode M_Mo_step.2.1 46 = .ok (.goto (-44), 3) := by decide +kernel
theorem d_Mo_step_49 : decode M_Mo_step.2.1 49 = .ok (.iconst 1, 1) := by decide +kernel
theorem d_Mo_step_50 : decode M_Mo_step.2.1 50 = .ok (.istore_n 1, 1) := by decide +kernel
theorem d_Mo_step_51 : decode M_Mo_step.2.1 51 = .ok (.iload_n 1, 1) := by decide +kernel
theorem d_Mo_step_52 : decode M_Mo_step.2.1 52 = .ok (.aload_n 0, 1) := by decide +kernel
theorem d_Mo_step_53 : decode M_Mo_step.2.1 53 = .ok (.getfield 136, 3) := by decide +kernel
theorem d_Mo_step_56 : decode M_Mo_step.2.1 56 = .ok (.if_icmp .gt 149, 3) := by decide +kernel
theorem d_Mo_step_59 : decode M_Mo_step.2.1 59 = .ok (.iconst 0, 1) := by decide +kernel
theorem d_Mo_step_60 : decode M_Mo_step.2.1 60 = .ok (.istore_n 2, 1) := by decide +kernel
theorem d_Mo_step_61 : decode M_Mo_step.2.1 61 = .ok (.iload_n 2, 1) := by decide +kernel
theorem d_Mo_step_62 : decode M_Mo_step.2.1 62 = .ok (.aload_n 0, 1) := by decide +kernel
theorem d_Mo_step_63 : decode M_Mo_step.2.1 63 = .ok (.getfield 84, 3) := by decide +kernel
theorem d_Mo_step_66 : decode M_Mo_step.2.1 66 = .ok (.if_icmp .ge 21, 3) := by decide +kernel
theorem d_Mo_step_69 : decode M_Mo_step.2.1 69 = .ok (.aload_n 0, 1) := by decide +kernel
theorem d_Mo_step_70 : decode M_Mo_step.2.1 70 = .ok (.getfield 68, 3) := by decide +kernel
theorem d_Mo_step_73 : decode M_Mo_step.2.1 73 = .ok (.iload_n 2, 1) := by decide +kernel
theorem d_Mo_step_74 : decode M_Mo_step.2.1 74 = .ok (.aload_n 0, 1) := by decide +kernel
theorem d_Mo_step_75 : decode M_Mo_step.2.1 75 = .ok (.getfield 71, 3) := by decide +kernel
theorem d_Mo_step_78 : decode M_Mo_step.2.1 78 = .ok (.iload_n 2, 1) := by decide +kernel
theorem d_Mo_step_79 : decode M_Mo_step.2.1 79 = .ok (.iaload, 1) := by decide +kernel
theorem d_Mo_step_80 : decode M_Mo_step.2.1 80 = .ok (.iastore, 1) := by decide +kernel
theorem d_Mo_step_81 : decode M_Mo_step.2.1 81 = .ok (.iinc 2 1, 3) := by decide +kernel
theorem d_Mo_step_84 : decode M_Mo_step.2.1 84 = .ok (.goto (-23), 3) := by decide +kernel
theorem d_Mo_step_87 : decode M_Mo_step.2.1 87 = .ok (.iconst 0, 1) := by decide +kernel
theorem d_Mo_step_88 : decode M_Mo_step.2.1 88 = .ok (.istore_n 2, 1) := by decide +kernel
theorem d_Mo_step_89 : decode M_Mo_step.2.1 89 = .ok (.iload_n 2, 1) := by decide +kernel
theorem d_Mo_step_90 : decode M_Mo_step.2.1 90 = .ok (.aload_n 0, 1) := by decide +kernel
theorem d_Mo_step_91 : decode M_Mo_step.2.1 91 = .ok (.getfield 84, 3) := by decide +kernel
theorem d_Mo_step_94 : decode M_Mo_step.2.1 94 = .ok (.if_icmp .ge 105, 3) := by decide +kernel
theorem d_Mo_step_97 : decode M_Mo_step.2.1 97 = .ok (.iconst 0, 1) := by decide +kernel
theorem d_Mo_step_98 : decode M_Mo_step.2.1 98 = .ok (.istore_n 3, 1) := by decide +kernel
theorem d_Mo_step_99 : decode M_Mo_step.2.1 99 = .ok (.iload_n 3, 1) := by decide +kernel
theorem d_Mo_step_100 : decode M_Mo_step.2.1 100 = .ok (.aload_n 0, 1) := by decide +kernel
theorem d_Mo_step_101 : decode M_Mo_step.2.1 101 = .ok (.getfield 84, 3) := by decide +kernel
theorem d_Mo_step_104 : decode M_Mo_step.2.1 104 = .ok (.if_icmp .ge 53, 3) := by decide +kernel
theorem d_Mo_step_107 : decode M_Mo_step.2.1 107 = .ok (.aload_n 0, 1) := by decide +kernel
theorem d_Mo_step_108 : decode M_Mo_step.2.1 108 = .ok (.getfield 74, 3) := by decide +kernel
theorem d_Mo_step_111 : decode M_Mo_step.2.1 111 = .ok (.iload_n 3, 1) := by decide +kernel
theorem d_Mo_step_112 : decode M_Mo_step.2.1 112 = .ok (.aload_n 0, 1) := by decide +kernel
theorem d_Mo_step_113 : decode M_Mo_step.2.1 113 = .ok (.iload_n 2, 1) := by decide +kernel
theorem d_Mo_step_114 : decode M_Mo_step.2.1 114 = .ok (.iload_n 3, 1) := by decide +kernel
theorem d_Mo_step_115 : decode M_Mo_step.2.1 115 = .ok (.invokevirtual 99, 3) := by decide +kernel
theorem d_Mo_step_118 : decode M_Mo_step.2.1 118 = .ok (.ifCond .eq 19, 3) := by decide +kernel
theorem d_Mo_step_121 : decode M_Mo_step.2.1 121 = .ok (.aload_n 0, 1) := by decide +kernel
theorem d_Mo_step_122 : decode M_Mo_step.2.1 122 = .ok (.getfield 68, 3) := by decide +kernel
theorem d_Mo_step_125 : decode M_Mo_step.2.1 125 = .ok (.iload_n 3, 1) := by decide +kernel
theorem d_Mo_step_126 : decode M_Mo_step.2.1 126 = .ok (.iaload, 1) := by decide +kernel
theorem d_Mo_step_127 : decode M_Mo_step.2.1 127 = .ok (.sipush (-1000), 3) := by decide +kernel
theorem d_Mo_step_130 : decode M_Mo_step.2.1 130 = .ok (.if_icmp .eq 7, 3) := by decide +kernel
theorem d_Mo_step_133 : decode M_Mo_step.2.1 133 = .ok (.iconst 1, 1) := by decide +kernel
theorem d_Mo_step_134 : decode M_Mo_step.2.1 134 = .ok (.goto 4, 3) := by decide +kernel
theorem d_Mo_step_137 : decode M_Mo_step.2.1 137 = .ok (.iconst 0, 1) := by decide +kernel
theorem d_Mo_step_138 : decode M_Mo_step.2.1 138 = .ok (.bastore, 1) := by decide +kernel
theorem d_Mo_step_139 : decode M_Mo_step.2.1 139 = .ok (.aload_n 0, 1) := by decide +kernel
theorem d_Mo_step_140 : decode M_Mo_step.2.1 140 = .ok (.getfield 77, 3) := by decide +kernel
theorem d_Mo_step_143 : decode M_Mo_step.2.1 143 = .ok (.iload_n 3, 1) := by decide +kernel
theorem d_Mo_step_144 : decode M_Mo_step.2.1 144 = .ok (.aload_n 0, 1) := by decide +kernel
theorem d_Mo_step_145 : decode M_Mo_step.2.1 145 = .ok (.getfield 68, 3) := by decide +kernel
theorem d_Mo_step_148 : decode M_Mo_step.2.1 148 = .ok (.iload_n 3, 1) := by decide +kernel
theorem d_Mo_step_149 : decode M_Mo_step.2.1 149 = .ok (.iaload, 1) := by decide +kernel
theorem d_Mo_step_150 : decode M_Mo_step.2.1 150 = .ok (.iastore, 1) := by decide +kernel
theorem d_Mo_step_151 : decode M_Mo_step.2.1 151 = .ok (.iinc 3 1, 3) := by decide +kernel
theorem d_Mo_step_154 : decode M_Mo_step.2.1 154 = .ok (.goto (-55), 3) := by decide +kernel
theorem d_Mo_step_157 : decode M_Mo_step.2.1 157 = .ok (.aload_n 0, 1) := by decide +kernel
theorem d_Mo_step_158 : decode M_Mo_step.2.1 158 = .ok (.getfield 71, 3) := by decide +kernel
theorem d_Mo_step_161 : decode M_Mo_step.2.1 161 = .ok (.iload_n 2, 1) := by decide +kernel
theorem d_Mo_step_162 : decode M_Mo_step.2.1 162 = .ok (.aload_n 0, 1) := by decide +kernel
theorem d_Mo_step_163 : decode M_Mo_step.2.1 163 = .ok (.bipush 12, 2) := by decide +kernel
theorem d_Mo_step_165 : decode M_Mo_step.2.1 165 = .ok (.iload_n 2, 1) := by decide +kernel
theorem d_Mo_step_166 : decode M_Mo_step.2.1 166 = .ok (.iadd, 1) := by decide +kernel
theorem d_Mo_step_167 : decode M_Mo_step.2.1 167 = .ok (.iload_n 2, 1) := by decide +kernel
theorem d_Mo_step_168 : decode M_Mo_step.2.1 168 = .ok (.iload_n 1, 1) := by decide +kernel
theorem d_Mo_step_169 : decode M_Mo_step.2.1 169 = .ok (.invokevirtual 139, 3) := by decide +kernel
theorem d_Mo_step_172 : decode M_Mo_step.2.1 172 = .ok (.iastore, 1) := by decide +kernel
theorem d_Mo_step_173 : decode M_Mo_step.2.1 173 = .ok (.aload_n 0, 1) := by decide +kernel
theorem d_Mo_step_174 : decode M_Mo_step.2.1 174 = .ok (.getfield 62, 3) := by decide +kernel
theorem d_Mo_step_177 : decode M_Mo_step.2.1 177 = .ok (.bipush 12, 2) := by decide +kernel
theorem d_Mo_step_179 : decode M_Mo_step.2.1 179 = .ok (.iload_n 1, 1) := by decide +kernel
theorem d_Mo_step_180 : decode M_Mo_step.2.1 180 = .ok (.imul, 1) := by decide +kernel
theorem d_Mo_step_181 : decode M_Mo_step.2.1 181 = .ok (.iload_n 2, 1) := by decide +kernel
theorem d_Mo_step_182 : decode M_Mo_step.2.1 182 = .ok (.iadd, 1) := by decide +kernel
theorem d_Mo_step_183 : decode M_Mo_step.2.1 183 = .ok (.aload_n 0, 1) := by decide +kernel
theorem d_Mo_step_184 : decode M_Mo_step.2.1 184 = .ok (.getfield 53, 3) := by decide +kernel
theorem d_Mo_step_187 : decode M_Mo_step.2.1 187 = .ok (.bipush 12, 2) := by decide +kernel
theorem d_Mo_step_189 : decode M_Mo_step.2.1 189 = .ok (.iload_n 2, 1) := by decide +kernel
theorem d_Mo_step_190 : decode M_Mo_step.2.1 190 = .ok (.iadd, 1) := by decide +kernel
theorem d_Mo_step_191 : decode M_Mo_step.2.1 191 = .ok (.iaload, 1) := by decide +kernel
theorem d_Mo_step_192 : decode M_Mo_step.2.1 192 = .ok (.iastore, 1) := by decide +kernel
theorem d_Mo_step_193 : decode M_Mo_step.2.1 193 = .ok (.iinc 2 1, 3) := by decide +kernel
theorem d_Mo_step_196 : decode M_Mo_step.2.1 196 = .ok (.goto (-107), 3) := by decide +kernel
theorem d_Mo_step_199 : decode M_Mo_step.2.1 199 = .ok (.iinc 1 1, 3) := by decide +kernel
theorem d_Mo_step_202 : decode M_Mo_step.2.1 202 = .ok (.goto (-151), 3) := by decide +kernel
theorem d_Mo_step_205 : decode M_Mo_step.2.1 205 = .ok (.return_, 1) := by decide +kernel
theorem d_Mo_send_0 : decode M_Mo_send.2.1 0 = .ok (.aload_n 0, 1) := by decide +kernel
theorem d_Mo_send_1 : decode M_Mo_send.2.1 1 = .ok (.getfield 65, 3) := by decide +kernel
theorem d_Mo_send_4 : decode M_Mo_send.2.1 4 = .ok (.iconst 5, 1) := by decide +kernel
theorem d_Mo_send_5 : decode M_Mo_send.2.1 5 = .ok (.aload_n 0, 1) := by decide +kernel
theorem d_Mo_send_6 : decode M_Mo_send.2.1 6 = .ok (.getfield 143, 3) := by decide +kernel
theorem d_Mo_send_9 : decode M_Mo_send.2.1 9 = .ok (.imul, 1) := by decide +kernel
theorem d_Mo_send_10 : decode M_Mo_send.2.1 10 = .ok (.iload_n 1, 1) := by decide +kernel
theorem d_Mo_send_11 : decode M_Mo_send.2.1 11 = .ok (.iastore, 1) := by decide +kernel
theorem d_Mo_send_12 : decode M_Mo_send.2.1 12 = .ok (.aload_n 0, 1) := by decide +kernel
theorem d_Mo_send_13 : decode M_Mo_send.2.1 13 = .ok (.getfield 65, 3) := by decide +kernel
theorem d_Mo_send_16 : decode M_Mo_send.2.1 16 = .ok (.iconst 5, 1) := by decide +kernel
theorem d_Mo_send_17 : decode M_Mo_send.2.1 17 = .ok (.aload_n 0, 1) := by decide +kernel
theorem d_Mo_send_18 : decode M_Mo_send.2.1 18 = .ok (.getfield 143, 3) := by decide +kernel
theorem d_Mo_send_21 : decode M_Mo_send.2.1 21 = .ok (.imul, 1) := by decide +kernel
theorem d_Mo_send_22 : decode M_Mo_send.2.1 22 = .ok (.iconst 1, 1) := by decide +kernel
theorem d_Mo_send_23 : decode M_Mo_send.2.1 23 = .ok (.iadd, 1) := by decide +kernel
theorem d_Mo_send_24 : decode M_Mo_send.2.1 24 = .ok (.iload_n 2, 1) := by decide +kernel
theorem d_Mo_send_25 : decode M_Mo_send.2.1 25 = .ok (.iastore, 1) := by decide +kernel
theorem d_Mo_send_26 : decode M_Mo_send.2.1 26 = .ok (.aload_n 0, 1) := by decide +kernel
theorem d_Mo_send_27 : decode M_Mo_send.2.1 27 = .ok (.getfield 65, 3) := by decide +kernel
theorem d_Mo_send_30 : decode M_Mo_send.2.1 30 = .ok (.iconst 5, 1) := by decide +kernel
theorem d_Mo_send_31 : decode M_Mo_send.2.1 31 = .ok (.aload_n 0, 1) := by decide +kernel
theorem d_Mo_send_32 : decode M_Mo_send.2.1 32 = .ok (.getfield 143, 3) := by decide +kernel
theorem d_Mo_send_35 : decode M_Mo_send.2.1 35 = .ok (.imul, 1) := by decide +kernel
theorem d_Mo_send_36 : decode M_Mo_send.2.1 36 = .ok (.iconst 2, 1) := by decide +kernel
theorem d_Mo_send_37 : decode M_Mo_send.2.1 37 = .ok (.iadd, 1) := by decide +kernel
theorem d_Mo_send_38 : decode M_Mo_send.2.1 38 = .ok (.iload_n 3, 1) := by decide +kernel
theorem d_Mo_send_39 : decode M_Mo_send.2.1 39 = .ok (.iastore, 1) := by decide +kernel
theorem d_Mo_send_40 : decode M_Mo_send.2.1 40 = .ok (.aload_n 0, 1) := by decide +kernel
theorem d_Mo_send_41 : decode M_Mo_send.2.1 41 = .ok (.getfield 65, 3) := by decide +kernel
theorem d_Mo_send_44 : decode M_Mo_send.2.1 44 = .ok (.iconst 5, 1) := by decide +kernel
theorem d_Mo_send_45 : decode M_Mo_send.2.1 45 = .ok (.aload_n 0, 1) := by decide +kernel
theorem d_Mo_send_46 : decode M_Mo_send.2.1 46 = .ok (.getfield 143, 3) := by decide +kernel
theorem d_Mo_send_49 : decode M_Mo_send.2.1 49 = .ok (.imul, 1) := by decide +kernel
theorem d_Mo_send_50 : decode M_Mo_send.2.1 50 = .ok (.iconst 3, 1) := by decide +kernel
theorem d_Mo_send_51 : decode M_Mo_send.2.1 51 = .ok (.iadd, 1) := by decide +kernel
theorem d_Mo_send_52 : decode M_Mo_send.2.1 52 = .ok (.iload 4, 2) := by decide +kernel
theorem d_Mo_send_54 : decode M_Mo_send.2.1 54 = .ok (.iastore, 1) := by decide +kernel
theorem d_Mo_send_55 : decode M_Mo_send.2.1 55 = .ok (.aload_n 0, 1) := by decide +kernel
theorem d_Mo_send_56 : decode M_Mo_send.2.1 56 = .ok (.getfield 65, 3) := by decide +kernel
theorem d_Mo_send_59 : decode M_Mo_send.2.1 59 = .ok (.iconst 5, 1) := by decide +kernel
theorem d_Mo_send_60 : decode M_Mo_send.2.1 60 = .ok (.aload_n 0, 1) := by decide +kernel
theorem d_Mo_send_61 : decode M_Mo_send.2.1 61 = .ok (.getfield 143, 3) := by decide +kernel
theorem d_Mo_send_64 : decode M_Mo_send.2.1 64 = .ok (.imul, 1) := by decide +kernel
theorem d_Mo_send_65 : decode M_Mo_send.2.1 65 = .ok (.iconst 4, 1) := by decide +kernel
theorem d_Mo_send_66 : decode M_Mo_send.2.1 66 = .ok (.iadd, 1) := by decide +kernel
theorem d_Mo_send_67 : decode M_Mo_send.2.1 67 = .ok (.iload 5, 2) := by decide +kernel
theorem d_Mo_send_69 : decode M_Mo_send.2.1 69 = .ok (.iastore, 1) := by decide +kernel
theorem d_Mo_send_70 : decode M_Mo_send.2.1 70 = .ok (.aload_n 0, 1) := by decide +kernel
theorem d_Mo_send_71 : decode M_Mo_send.2.1 71 = .ok (.dup, 1) := by decide +kernel
theorem d_Mo_send_72 : decode M_Mo_send.2.1 72 = .ok (.getfield 143, 3) := by decide +kernel
theorem d_Mo_send_75 : decode M_Mo_send.2.1 75 = .ok (.iconst 1, 1) := by decide +kernel
theorem d_Mo_send_76 : decode M_Mo_send.2.1 76 = .ok (.iadd, 1) := by decide +kernel
theorem d_Mo_send_77 : decode M_Mo_send.2.1 77 = .ok (.putfield 143, 3) := by decide +kernel
theorem d_Mo_send_80 : decode M_Mo_send.2.1 80 = .ok (.iload_n 1, 1) := by decide +kernel
theorem d_Mo_send_81 : decode M_Mo_send.2.1 81 = .ok (.ifCond .ne 16, 3) := by decide +kernel
theorem d_Mo_send_84 : decode M_Mo_send.2.1 84 = .ok (.aload_n 0, 1) := by decide +kernel
theorem d_Mo_send_85 : decode M_Mo_send.2.1 85 = .ok (.dup, 1) := by decide +kernel
theorem d_Mo_send_86 : decode M_Mo_send.2.1 86 = .ok (.getfield 146, 3) := by decide +kernel
theorem d_Mo_send_89 : decode M_Mo_send.2.1 89 = .ok (.iconst 1, 1) := by decide +kernel
theorem d_Mo_send_90 : decode M_Mo_send.2.1 90 = .ok (.iadd, 1) := by decide +kernel
theorem d_Mo_send_91 : decode M_Mo_send.2.1 91 = .ok (.putfield 146, 3) := by decide +kernel
theorem d_Mo_send_94 : decode M_Mo_send.2.1 94 = .ok (.goto 13, 3) := by decide +kernel
theorem d_Mo_send_97 : decode M_Mo_send.2.1 97 = .ok (.aload_n 0, 1) := by decide +kernel
theorem d_Mo_send_98 : decode M_Mo_send.2.1 98 = .ok (.dup, 1) := by decide +kernel
theorem d_Mo_send_99 : decode M_Mo_send.2.1 99 = .ok (.getfield 149, 3) := by decide +kernel
theorem d_Mo_send_102 : decode M_Mo_send.2.1 102 = .ok (.iconst 1, 1) := by decide +kernel
theorem d_Mo_send_103 : decode M_Mo_send.2.1 103 = .ok (.iadd, 1) := by decide +kernel
theorem d_Mo_send_104 : decode M_Mo_send.2.1 104 = .ok (.putfield 149, 3) := by decide +kernel
theorem d_Mo_send_107 : decode M_Mo_send.2.1 107 = .ok (.return_, 1) := by decide +kernel
theorem d_Mo_place_0 : decode M_Mo_place.2.1 0 = .ok (.iload_n 1, 1) := by decide +kernel
theorem d_Mo_place_1 : decode M_Mo_place.2.1 1 = .ok (.bipush 12, 2) := by decide +kernel
theorem d_Mo_place_3 : decode M_Mo_place.2.1 3 = .ok (.imul, 1) := by decide +kernel
theorem d_Mo_place_4 : decode M_Mo_place.2.1 4 = .ok (.iload_n 2, 1) := by decide +kernel
theorem d_Mo_place_5 : decode M_Mo_place.2.1 5 = .ok (.iadd, 1) := by decide +kernel
theorem d_Mo_place_6 : decode M_Mo_place.2.1 6 = .ok (.bipush 12, 2) := by decide +kernel
theorem d_Mo_place_8 : decode M_Mo_place.2.1 8 = .ok (.imul, 1) := by decide +kernel
theorem d_Mo_place_9 : decode M_Mo_place.2.1 9 = .ok (.iload_n 3, 1) := by decide +kernel
theorem d_Mo_place_10 : decode M_Mo_place.2.1 10 = .ok (.iadd, 1) := by decide +kernel
theorem d_Mo_place_11 : decode M_Mo_place.2.1 11 = .ok (.bipush 22, 2) := by decide +kernel
theorem d_Mo_place_13 : decode M_Mo_place.2.1 13 = .ok (.imul, 1) := by decide +kernel
theorem d_Mo_place_14 : decode M_Mo_place.2.1 14 = .ok (.iload 4, 2) := by decide +kernel
theorem d_Mo_place_16 : decode M_Mo_place.2.1 16 = .ok (.iadd, 1) := by decide +kernel
theorem d_Mo_place_17 : decode M_Mo_place.2.1 17 = .ok (.ireturn, 1) := by decide +kernel
theorem d_Mo_isBelow_0 : decode M_Mo_isBelow.2.1 0 = .ok (.aload_n 0, 1) := by decide +kernel
theorem d_Mo_isBelow_1 : decode M_Mo_isBelow.2.1 1 = .ok (.getfield 35, 3) := by decide +kernel
theorem d_Mo_isBelow_4 : decode M_Mo_isBelow.2.1 4 = .ok (.iload_n 1, 1) := by decide +kernel
theorem d_Mo_isBelow_5 : decode M_Mo_isBelow.2.1 5 = .ok (.iaload, 1) := by decide +kernel
theorem d_Mo_isBelow_6 : decode M_Mo_isBelow.2.1 6 = .ok (.iload_n 2, 1) := by decide +kernel
theorem d_Mo_isBelow_7 : decode M_Mo_isBelow.2.1 7 = .ok (.if_icmp .ne 12, 3) := by decide +kernel
theorem d_Mo_isBelow_10 : decode M_Mo_isBelow.2.1 10 = .ok (.iload_n 1, 1) := by decide +kernel
theorem d_Mo_isBelow_11 : decode M_Mo_isBelow.2.1 11 = .ok (.iload_n 2, 1) := by decide +kernel
theorem d_Mo_isBelow_12 : decode M_Mo_isBelow.2.1 12 = .ok (.if_icmp .eq 7, 3) := by decide +kernel
theorem d_Mo_isBelow_15 : decode M_Mo_isBelow.2.1 15 = .ok (.iconst 1, 1) := by decide +kernel
theorem d_Mo_isBelow_16 : decode M_Mo_isBelow.2.1 16 = .ok (.goto 4, 3) := by decide +kernel
theorem d_Mo_isBelow_19 : decode M_Mo_isBelow.2.1 19 = .ok (.iconst 0, 1) := by decide +kernel
theorem d_Mo_isBelow_20 : decode M_Mo_isBelow.2.1 20 = .ok (.ireturn, 1) := by decide +kernel
theorem d_Mo_toLower_0 : decode M_Mo_toLower.2.1 0 = .ok (.iconst 0, 1) := by decide +kernel
theorem d_Mo_toLower_1 : decode M_Mo_toLower.2.1 1 = .ok (.istore 4, 2) := by decide +kernel
theorem d_Mo_toLower_3 : decode M_Mo_toLower.2.1 3 = .ok (.iload 4, 2) := by decide +kernel
theorem d_Mo_toLower_5 : decode M_Mo_toLower.2.1 5 = .ok (.aload_n 0, 1) := by decide +kernel
theorem d_Mo_toLower_6 : decode M_Mo_toLower.2.1 6 = .ok (.getfield 84, 3) := by decide +kernel
theorem d_Mo_toLower_9 : decode M_Mo_toLower.2.1 9 = .ok (.if_icmp .ge 36, 3) := by decide +kernel
theorem d_Mo_toLower_12 : decode M_Mo_toLower.2.1 12 = .ok (.aload_n 0, 1) := by decide +kernel
theorem d_Mo_toLower_13 : decode M_Mo_toLower.2.1 13 = .ok (.getfield 152, 3) := by decide +kernel
theorem d_Mo_toLower_16 : decode M_Mo_toLower.2.1 16 = .ok (.ifCond .le 23, 3) := by decide +kernel
theorem d_Mo_toLower_19 : decode M_Mo_toLower.2.1 19 = .ok (.aload_n 0, 1) := by decide +kernel
theorem d_Mo_toLower_20 : decode M_Mo_toLower.2.1 20 = .ok (.iload 4, 2) := by decide +kernel
theorem d_Mo_toLower_22 : decode M_Mo_toLower.2.1 22 = .ok (.iload_n 2, 1) := by decide +kernel
theorem d_Mo_toLower_23 : decode M_Mo_toLower.2.1 23 = .ok (.invokevirtual 155, 3) := by decide +kernel
theorem d_Mo_toLower_26 : decode M_Mo_toLower.2.1 26 = .ok (.ifCond .eq 13, 3) := by decide +kernel
theorem d_Mo_toLower_29 : decode M_Mo_toLower.2.1 29 = .ok (.aload_n 0, 1) := by decide +kernel
theorem d_Mo_toLower_30 : decode M_Mo_toLower.2.1 30 = .ok (.iload_n 1, 1) := by decide +kernel
theorem d_Mo_toLower_31 : decode M_Mo_toLower.2.1 31 = .ok (.iload_n 2, 1) := by decide +kernel
theorem d_Mo_toLower_32 : decode M_Mo_toLower.2.1 32 = .ok (.iload 4, 2) := by decide +kernel
theorem d_Mo_toLower_34 : decode M_Mo_toLower.2.1 34 = .ok (.iload_n 3, 1) := by decide +kernel
theorem d_Mo_toLower_35 : decode M_Mo_toLower.2.1 35 = .ok (.iconst 0, 1) := by decide +kernel
theorem d_Mo_toLower_36 : decode M_Mo_toLower.2.1 36 = .ok (.invokevirtual 158, 3) := by decide +kernel
theorem d_Mo_toLower_39 : decode M_Mo_toLower.2.1 39 = .ok (.iinc 4 1, 3) := by decide +kernel
theorem d_Mo_toLower_42 : decode M_Mo_toLower.2.1 42 = .ok (.goto (-39), 3) := by decide +kernel
theorem d_Mo_toLower_45 : decode M_Mo_toLower.2.1 45 = .ok (.return_, 1) := by decide +kernel
theorem d_Mo_hasAll_0 : decode M_Mo_hasAll.2.1 0 = .ok (.iconst 0, 1) := by decide +kernel
theorem d_Mo_hasAll_1 : decode M_Mo_hasAll.2.1 1 = .ok (.istore 4, 2) := by decide +kernel
theorem d_Mo_hasAll_3 : decode M_Mo_hasAll.2.1 3 = .ok (.iload 4, 2) := by decide +kernel
theorem d_Mo_hasAll_5 : decode M_Mo_hasAll.2.1 5 = .ok (.aload_n 0, 1) := by decide +kernel
theorem d_Mo_hasAll_6 : decode M_Mo_hasAll.2.1 6 = .ok (.getfield 84, 3) := by decide +kernel
theorem d_Mo_hasAll_9 : decode M_Mo_hasAll.2.1 9 = .ok (.if_icmp .ge 83, 3) := by decide +kernel
theorem d_Mo_hasAll_12 : decode M_Mo_hasAll.2.1 12 = .ok (.iload_n 3, 1) := by decide +kernel
theorem d_Mo_hasAll_13 : decode M_Mo_hasAll.2.1 13 = .ok (.ifCond .eq 13, 3) := by decide +kernel
theorem d_Mo_hasAll_16 : decode M_Mo_hasAll.2.1 16 = .ok (.aload_n 0, 1) := by decide +kernel
theorem d_Mo_hasAll_17 : decode M_Mo_hasAll.2.1 17 = .ok (.iload 4, 2) := by decide +kernel
theorem d_Mo_hasAll_19 : decode M_Mo_hasAll.2.1 19 = .ok (.iload_n 2, 1) := by decide +kernel
theorem d_Mo_hasAll_20 : decode M_Mo_hasAll.2.1 20 = .ok (.invokevirtual 155, 3) := by decide +kernel
theorem d_Mo_hasAll_23 : decode M_Mo_hasAll.2.1 23 = .ok (.goto 32, 3) := by decide +kernel
theorem d_Mo_hasAll_26 : decode M_Mo_hasAll.2.1 26 = .ok (.aload_n 0, 1) := by decide +kernel
theorem d_Mo_hasAll_27 : decode M_Mo_hasAll.2.1 27 = .ok (.getfield 152, 3) := by decide +kernel
theorem d_Mo_hasAll_30 : decode M_Mo_hasAll.2.1 30 = .ok (.ifCond .ne 13, 3) := by decide +kernel
theorem d_Mo_hasAll_33 : decode M_Mo_hasAll.2.1 33 = .ok (.aload_n 0, 1) := by decide +kernel
theorem d_Mo_hasAll_34 : decode M_Mo_hasAll.2.1 34 = .ok (.iload_n 2, 1) := by decide +kernel
theorem d_Mo_hasAll_35 : decode M_Mo_hasAll.2.1 35 = .ok (.iload 4, 2) := by decide +kernel
theorem d_Mo_hasAll_37 : decode M_Mo_hasAll.2.1 37 = .ok (.invokevirtual 99, 3) := by decide +kernel
theorem d_Mo_hasAll_40 : decode M_Mo_hasAll.2.1 40 = .ok (.goto 15, 3) := by decide +kernel
theorem d_Mo_hasAll_43 : decode M_Mo_hasAll.2.1 43 = .ok (.aload_n 0, 1) := by decide +kernel
theorem d_Mo_hasAll_44 : decode M_Mo_hasAll.2.1 44 = .ok (.getfield 44, 3) := by decide +kernel
theorem d_Mo_hasAll_47 : decode M_Mo_hasAll.2.1 47 = .ok (.bipush 12, 2) := by decide +kernel
theorem d_Mo_hasAll_49 : decode M_Mo_hasAll.2.1 49 = .ok (.iload_n 2, 1) := by decide +kernel
theorem d_Mo_hasAll_50 : decode M_Mo_hasAll.2.1 50 = .ok (.imul, 1) := by decide +kernel
theorem d_Mo_hasAll_51 : decode M_Mo_hasAll.2.1 51 = .ok (.iload 4, 2) := by decide +kernel
theorem d_Mo_hasAll_53 : decode M_Mo_hasAll.2.1 53 = .ok (.iadd, 1) := by decide +kernel
theorem d_Mo_hasAll_54 : decode M_Mo_hasAll.2.1 54 = .ok (.baload, 1) := by decide +kernel
theorem d_Mo_hasAll_55 : decode M_Mo_hasAll.2.1 55 = .ok (.istore 5, 2) := by decide +kernel
theorem d_Mo_hasAll_57 : decode M_Mo_hasAll.2.1 57 = .ok (.iload 5, 2) := by decide +kernel
theorem d_Mo_hasAll_59 : decode M_Mo_hasAll.2.1 59 = .ok (.ifCond .eq 27, 3) := by decide +kernel
theorem d_Mo_hasAll_62 : decode M_Mo_hasAll.2.1 62 = .ok (.aload_n 0, 1) := by decide +kernel
theorem d_Mo_hasAll_63 : decode M_Mo_hasAll.2.1 63 = .ok (.getfield 47, 3) := by decide +kernel
theorem d_Mo_hasAll_66 : decode M_Mo_hasAll.2.1 66 = .ok (.aload_n 0, 1) := by decide +kernel
theorem d_Mo_hasAll_67 : decode M_Mo_hasAll.2.1 67 = .ok (.iload_n 1, 1) := by decide +kernel
theorem d_Mo_hasAll_68 : decode M_Mo_hasAll.2.1 68 = .ok (.iload_n 2, 1) := by decide +kernel
theorem d_Mo_hasAll_69 : decode M_Mo_hasAll.2.1 69 = .ok (.iload 4, 2) := by decide +kernel
theorem d_Mo_hasAll_71 : decode M_Mo_hasAll.2.1 71 = .ok (.aload_n 0, 1) := by decide +kernel
theorem d_Mo_hasAll_72 : decode M_Mo_hasAll.2.1 72 = .ok (.getfield 16, 3) := by decide +kernel
theorem d_Mo_hasAll_75 : decode M_Mo_hasAll.2.1 75 = .ok (.iload_n 2, 1) := by decide +kernel
theorem d_Mo_hasAll_76 : decode M_Mo_hasAll.2.1 76 = .ok (.iaload, 1) := by decide +kernel
theorem d_Mo_hasAll_77 : decode M_Mo_hasAll.2.1 77 = .ok (.invokevirtual 162, 3) := by decide +kernel
theorem d_Mo_hasAll_80 : decode M_Mo_hasAll.2.1 80 = .ok (.baload, 1) := by decide +kernel
theorem d_Mo_hasAll_81 : decode M_Mo_hasAll.2.1 81 = .ok (.ifCond .ne 5, 3) := by decide +kernel
theorem d_Mo_hasAll_84 : decode M_Mo_hasAll.2.1 84 = .ok (.iconst 0, 1) := by decide +kernel
theorem d_Mo_hasAll_85 : decode M_Mo_hasAll.2.1 85 = .ok (.ireturn, 1) := by decide +kernel
theorem d_Mo_hasAll_86 : decode M_Mo_hasAll.2.1 86 = .ok (.iinc 4 1, 3) := by decide +kernel
theorem d_Mo_hasAll_89 : decode M_Mo_hasAll.2.1 89 = .ok (.goto (-86), 3) := by decide +kernel
theorem d_Mo_hasAll_92 : decode M_Mo_hasAll.2.1 92 = .ok (.iconst 1, 1) := by decide +kernel
theorem d_Mo_hasAll_93 : decode M_Mo_hasAll.2.1 93 = .ok (.ireturn, 1) := by decide +kernel
theorem d_Mo_beginRound_0 : decode M_Mo_beginRound.2.1 0 = .ok (.iload_n 2, 1) := by decide +kernel
theorem d_Mo_beginRound_1 : decode M_Mo_beginRound.2.1 1 = .ok (.iconst 1, 1) := by decide +kernel
theorem d_Mo_beginRound_2 : decode M_Mo_beginRound.2.1 2 = .ok (.if_icmp .le 10, 3) := by decide +kernel
theorem d_Mo_beginRound_5 : decode M_Mo_beginRound.2.1 5 = .ok (.aload_n 0, 1) := by decide +kernel
theorem d_Mo_beginRound_6 : decode M_Mo_beginRound.2.1 6 = .ok (.iconst 4, 1) := by decide +kernel
theorem d_Mo_beginRound_7 : decode M_Mo_beginRound.2.1 7 = .ok (.iload_n 1, 1) := by decide +kernel
theorem d_Mo_beginRound_8 : decode M_Mo_beginRound.2.1 8 = .ok (.iload_n 2, 1) := by decide +kernel
theorem d_Mo_beginRound_9 : decode M_Mo_beginRound.2.1 9 = .ok (.invokevirtual 166, 3) := by decide +kernel
theorem d_Mo_beginRound_12 : decode M_Mo_beginRound.2.1 12 = .ok (.aload_n 0, 1) := by decide +kernel
theorem d_Mo_beginRound_13 : decode M_Mo_beginRound.2.1 13 = .ok (.getfield 16, 3) := by decide +kernel
theorem d_Mo_beginRound_16 : decode M_Mo_beginRound.2.1 16 = .ok (.iload_n 1, 1) := by decide +kernel
theorem d_Mo_beginRound_17 : decode M_Mo_beginRound.2.1 17 = .ok (.iload_n 2, 1) := by decide +kernel
theorem d_Mo_beginRound_18 : decode M_Mo_beginRound.2.1 18 = .ok (.iastore, 1) := by decide +kernel
theorem d_Mo_beginRound_19 : decode M_Mo_beginRound.2.1 19 = .ok (.aload_n 0, 1) := by decide +kernel
theorem d_Mo_beginRound_20 : decode M_Mo_beginRound.2.1 20 = .ok (.getfield 22, 3) := by decide +kernel
theorem d_Mo_beginRound_23 : decode M_Mo_beginRound.2.1 23 = .ok (.iload_n 1, 1) := by decide +kernel
theorem d_Mo_beginRound_24 : decode M_Mo_beginRound.2.1 24 = .ok (.iconst 0, 1) := by decide +kernel
theorem d_Mo_beginRound_25 : decode M_Mo_beginRound.2.1 25 = .ok (.bastore, 1) := by decide +kernel
theorem d_Mo_beginRound_26 : decode M_Mo_beginRound.2.1 26 = .ok (.aload_n 0, 1) := by decide +kernel
theorem d_Mo_beginRound_27 : decode M_Mo_beginRound.2.1 27 = .ok (.getfield 26, 3) := by decide +kernel
theorem d_Mo_beginRound_30 : decode M_Mo_beginRound.2.1 30 = .ok (.iload_n 1, 1) := by decide +kernel
theorem d_Mo_beginRound_31 : decode M_Mo_beginRound.2.1 31 = .ok (.iconst 0, 1) := by decide +kernel
theorem d_Mo_beginRound_32 : decode M_Mo_beginRound.2.1 32 = .ok (.bastore, 1) := by decide +kernel
theorem d_Mo_beginRound_33 : decode M_Mo_beginRound.2.1 33 = .ok (.aload_n 0, 1) := by decide +kernel
theorem d_Mo_beginRound_34 : decode M_Mo_beginRound.2.1 34 = .ok (.getfield 29, 3) := by decide +kernel
theorem d_Mo_beginRound_37 : decode M_Mo_beginRound.2.1 37 = .ok (.iload_n 1, 1) := by decide +kernel
theorem d_Mo_beginRound_38 : decode M_Mo_beginRound.2.1 38 = .ok (.iconst 0, 1) := by decide +kernel
theorem d_Mo_beginRound_39 : decode M_Mo_beginRound.2.1 39 = .ok (.bastore, 1) := by decide +kernel
theorem d_Mo_beginRound_40 : decode M_Mo_beginRound.2.1 40 = .ok (.aload_n 0, 1) := by decide +kernel
theorem d_Mo_beginRound_41 : decode M_Mo_beginRound.2.1 41 = .ok (.getfield 32, 3) := by decide +kernel
theorem d_Mo_beginRound_44 : decode M_Mo_beginRound.2.1 44 = .ok (.iload_n 1, 1) := by decide +kernel
theorem d_Mo_beginRound_45 : decode M_Mo_beginRound.2.1 45 = .ok (.iconst 0, 1) := by decide +kernel
theorem d_Mo_beginRound_46 : decode M_Mo_beginRound.2.1 46 = .ok (.bastore, 1) := by decide +kernel
theorem d_Mo_beginRound_47 : decode M_Mo_beginRound.2.1 47 = .ok (.aload_n 0, 1) := by decide +kernel
theorem d_Mo_beginRound_48 : decode M_Mo_beginRound.2.1 48 = .ok (.getfield 19, 3) := by decide +kernel
theorem d_Mo_beginRound_51 : decode M_Mo_beginRound.2.1 51 = .ok (.iload_n 1, 1) := by decide +kernel
theorem d_Mo_beginRound_52 : decode M_Mo_beginRound.2.1 52 = .ok (.iconst 0, 1) := by decide +kernel
theorem d_Mo_beginRound_53 : decode M_Mo_beginRound.2.1 53 = .ok (.iastore, 1) := by decide +kernel
theorem d_Mo_beginRound_54 : decode M_Mo_beginRound.2.1 54 = .ok (.iconst 0, 1) := by decide +kernel
theorem d_Mo_beginRound_55 : decode M_Mo_beginRound.2.1 55 = .ok (.istore_n 3, 1) := by decide +kernel
theorem d_Mo_beginRound_56 : decode M_Mo_beginRound.2.1 56 = .ok (.iload_n 3, 1) := by decide +kernel
theorem d_Mo_beginRound_57 : decode M_Mo_beginRound.2.1 57 = .ok (.aload_n 0, 1) := by decide +kernel
theorem d_Mo_beginRound_58 : decode M_Mo_beginRound.2.1 58 = .ok (.getfield 84, 3) := by decide +kernel
theorem d_Mo_beginRound_61 : decode M_Mo_beginRound.2.1 61 = .ok (.if_icmp .ge 77, 3) := by decide +kernel
theorem d_Mo_beginRound_64 : decode M_Mo_beginRound.2.1 64 = .ok (.aload_n 0, 1) := by decide +kernel
theorem d_Mo_beginRound_65 : decode M_Mo_beginRound.2.1 65 = .ok (.getfield 74, 3) := by decide +kernel
theorem d_Mo_beginRound_68 : decode M_Mo_beginRound.2.1 68 = .ok (.iload_n 3, 1) := by decide +kernel
theorem d_Mo_beginRound_69 : decode M_Mo_beginRound.2.1 69 = .ok (.iload_n 2, 1) := by decide +kernel
theorem d_Mo_beginRound_70 : decode M_Mo_beginRound.2.1 70 = .ok (.iconst 1, 1) := by decide +kernel
theorem d_Mo_beginRound_71 : decode M_Mo_beginRound.2.1 71 = .ok (.if_icmp .le 25, 3) := by decide +kernel
theorem d_Mo_beginRound_74 : decode M_Mo_beginRound.2.1 74 = .ok (.aload_n 0, 1) := by decide +kernel
theorem d_Mo_beginRound_75 : decode M_Mo_beginRound.2.1 75 = .ok (.getfield 47, 3) := by decide +kernel
theorem d_Mo_beginRound_78 : decode M_Mo_beginRound.2.1 78 = .ok (.aload_n 0, 1) := by decide +kernel
theorem d_Mo_beginRound_79 : decode M_Mo_beginRound.2.1 79 = .ok (.iconst 0, 1) := by decide +kernel
theorem d_Mo_beginRound_80 : decode M_Mo_beginRound.2.1 80 = .ok (.iload_n 1, 1) := by decide +kernel
theorem d_Mo_beginRound_81 : decode M_Mo_beginRound.2.1 81 = .ok (.iload_n 3, 1) := by decide +kernel
theorem d_Mo_beginRound_82 : decode M_Mo_beginRound.2.1 82 = .ok (.iload_n 2, 1) := by decide +kernel
theorem d_Mo_beginRound_83 : decode M_Mo_beginRound.2.1 83 = .ok (.iconst 1, 1) := by decide +kernel
theorem d_Mo_beginRound_84 : decode M_Mo_beginRound.2.1 84 = .ok (.isub, 1) := by decide +kernel
theorem d_Mo_beginRound_85 : decode M_Mo_beginRound.2.1 85 = .ok (.invokevirtual 162, 3) := by decide +kernel
theorem d_Mo_beginRound_88 : decode M_Mo_beginRound.2.1 88 = .ok (.baload, 1) := by decide +kernel
theorem d_Mo_beginRound_89 : decode M_Mo_beginRound.2.1 89 = .ok (.ifCond .eq 7, 3) := by decide +kernel
theorem d_Mo_beginRound_92 : decode M_Mo_beginRound.2.1 92 = .ok (.iconst 1, 1) := by decide +kernel
theorem d_Mo_beginRound_93 : decode M_Mo_beginRound.2.1 93 = .ok (.goto 4, 3) := by decide +kernel
theorem d_Mo_beginRound_96 : decode M_Mo_beginRound.2.1 96 = .ok (.iconst 0, 1) := by decide +kernel
theorem d_Mo_beginRound_97 : decode M_Mo_beginRound.2.1 97 = .ok (.bastore, 1) := by decide +kernel
theorem d_Mo_beginRound_98 : decode M_Mo_beginRound.2.1 98 = .ok (.aload_n 0, 1) := by decide +kernel
theorem d_Mo_beginRound_99 : decode M_Mo_beginRound.2.1 99 = .ok (.getfield 77, 3) := by decide +kernel
theorem d_Mo_beginRound_102 : decode M_Mo_beginRound.2.1 102 = .ok (.iload_n 3, 1) := by decide +kernel
theorem d_Mo_beginRound_103 : decode M_Mo_beginRound.2.1 103 = .ok (.aload_n 0, 1) := by decide +kernel
theorem d_Mo_beginRound_104 : decode M_Mo_beginRound.2.1 104 = .ok (.getfield 74, 3) := by decide +kernel
theorem d_Mo_beginRound_107 : decode M_Mo_beginRound.2.1 107 = .ok (.iload_n 3, 1) := by decide +kernel
theorem d_Mo_beginRound_108 : decode M_Mo_beginRound.2.1 108 = .ok (.baload, 1) := by decide +kernel
theorem d_Mo_beginRound_109 : decode M_Mo_beginRound.2.1 109 = .ok (.ifCond .eq 21, 3) := by decide +kernel
theorem d_Mo_beginRound_112 : decode M_Mo_beginRound.2.1 112 = .ok (.aload_n 0, 1) := by decide +kernel
theorem d_Mo_beginRound_113 : decode M_Mo_beginRound.2.1 113 = .ok (.getfield 50, 3) := by decide +kernel
theorem d_Mo_beginRound_116 : decode M_Mo_beginRound.2.1 116 = .ok (.aload_n 0, 1) := by decide +kernel
theorem d_Mo_beginRound_117 : decode M_Mo_beginRound.2.1 117 = .ok (.iconst 0, 1) := by decide +kernel
theorem d_Mo_beginRound_118 : decode M_Mo_beginRound.2.1 118 = .ok (.iload_n 1, 1) := by decide +kernel
theorem d_Mo_beginRound_119 : decode M_Mo_beginRound.2.1 119 = .ok (.iload_n 3, 1) := by decide +kernel
theorem d_Mo_beginRound_120 : decode M_Mo_beginRound.2.1 120 = .ok (.iload_n 2, 1) := by decide +kernel
theorem d_Mo_beginRound_121 : decode M_Mo_beginRound.2.1 121 = .ok (.iconst 1, 1) := by decide +kernel
theorem d_Mo_beginRound_122 : decode M_Mo_beginRound.2.1 122 = .ok (.isub, 1) := by decide +kernel
theorem d_Mo_beginRound_123 : decode M_Mo_beginRound.2.1 123 = .ok (.invokevirtual 162, 3) := by decide +kernel
theorem d_Mo_beginRound_126 : decode M_Mo_beginRound.2.1 126 = .ok (.iaload, 1) := by decide +kernel
theorem d_Mo_beginRound_127 : decode M_Mo_beginRound.2.1 127 = .ok (.goto 4, 3) := by decide +kernel
theorem d_Mo_beginRound_130 : decode M_Mo_beginRound.2.1 130 = .ok (.iconst 0, 1) := by decide +kernel
theorem d_Mo_beginRound_131 : decode M_Mo_beginRound.2.1 131 = .ok (.iastore, 1) := by decide +kernel
theorem d_Mo_beginRound_132 : decode M_Mo_beginRound.2.1 132 = .ok (.iinc 3 1, 3) := by decide +kernel
theorem d_Mo_beginRound_135 : decode M_Mo_beginRound.2.1 135 = .ok (.goto (-79), 3) := by decide +kernel
theorem d_Mo_beginRound_138 : decode M_Mo_beginRound.2.1 138 = .ok (.aload_n 0, 1) := by decide +kernel
theorem d_Mo_beginRound_139 : decode M_Mo_beginRound.2.1 139 = .ok (.iload_n 1, 1) := by decide +kernel
theorem d_Mo_beginRound_140 : decode M_Mo_beginRound.2.1 140 = .ok (.iload_n 1, 1) := by decide +kernel
theorem d_Mo_beginRound_141 : decode M_Mo_beginRound.2.1 141 = .ok (.iload_n 2, 1) := by decide +kernel
theorem d_Mo_beginRound_142 : decode M_Mo_beginRound.2.1 142 = .ok (.invokevirtual 139, 3) := by decide +kernel
theorem d_Mo_beginRound_145 : decode M_Mo_beginRound.2.1 145 = .ok (.istore_n 3, 1) := by decide +kernel
theorem d_Mo_beginRound_146 : decode M_Mo_beginRound.2.1 146 = .ok (.aload_n 0, 1) := by decide +kernel
theorem d_Mo_beginRound_147 : decode M_Mo_beginRound.2.1 147 = .ok (.getfield 59, 3) := by decide +kernel
theorem d_Mo_beginRound_150 : decode M_Mo_beginRound.2.1 150 = .ok (.bipush 12, 2) := by decide +kernel
theorem d_Mo_beginRound_152 : decode M_Mo_beginRound.2.1 152 = .ok (.iload_n 2, 1) := by decide +kernel
theorem d_Mo_beginRound_153 : decode M_Mo_beginRound.2.1 153 = .ok (.imul, 1) := by decide +kernel
theorem d_Mo_beginRound_154 : decode M_Mo_beginRound.2.1 154 = .ok (.iload_n 1, 1) := by decide +kernel
theorem d_Mo_beginRound_155 : decode M_Mo_beginRound.2.1 155 = .ok (.iadd, 1) := by decide +kernel
theorem d_Mo_beginRound_156 : decode M_Mo_beginRound.2.1 156 = .ok (.aload_n 0, 1) := by decide +kernel
theorem d_Mo_beginRound_157 : decode M_Mo_beginRound.2.1 157 = .ok (.getfield 53, 3) := by decide +kernel
theorem d_Mo_beginRound_160 : decode M_Mo_beginRound.2.1 160 = .ok (.iload_n 1, 1) := by decide +kernel
theorem d_Mo_beginRound_161 : decode M_Mo_beginRound.2.1 161 = .ok (.iaload, 1) := by decide +kernel
theorem d_Mo_beginRound_162 : decode M_Mo_beginRound.2.1 162 = .ok (.iastore, 1) := by decide +kernel
theorem d_Mo_beginRound_163 : decode M_Mo_beginRound.2.1 163 = .ok (.iconst 0, 1) := by decide +kernel
theorem d_Mo_beginRound_164 : decode M_Mo_beginRound.2.1 164 = .ok (.istore 4, 2) := by decide +kernel
theorem d_Mo_beginRound_166 : decode M_Mo_beginRound.2.1 166 = .ok (.iload 4, 2) := by decide +kernel
theorem d_Mo_beginRound_168 : decode M_Mo_beginRound.2.1 168 = .ok (.aload_n 0, 1) := by decide +kernel
theorem d_Mo_beginRound_169 : decode M_Mo_beginRound.2.1 169 = .ok (.getfield 84, 3) := by decide +kernel
theorem d_Mo_beginRound_172 : decode M_Mo_beginRound.2.1 172 = .ok (.if_icmp .ge 46, 3) := by decide +kernel
theorem d_Mo_beginRound_175 : decode M_Mo_beginRound.2.1 175 = .ok (.iload_n 3, 1) := by decide +kernel
theorem d_Mo_beginRound_176 : decode M_Mo_beginRound.2.1 176 = .ok (.sipush (-1000), 3) := by decide +kernel
theorem d_Mo_beginRound_179 : decode M_Mo_beginRound.2.1 179 = .ok (.if_icmp .eq 39, 3) := by decide +kernel
theorem d_Mo_beginRound_182 : decode M_Mo_beginRound.2.1 182 = .ok (.aload_n 0, 1) := by decide +kernel
theorem d_Mo_beginRound_183 : decode M_Mo_beginRound.2.1 183 = .ok (.iload_n 1, 1) := by decide +kernel
theorem d_Mo_beginRound_184 : decode M_Mo_beginRound.2.1 184 = .ok (.iload 4, 2) := by decide +kernel
theorem d_Mo_beginRound_186 : decode M_Mo_beginRound.2.1 186 = .ok (.invokevirtual 99, 3) := by decide +kernel
theorem d_Mo_beginRound_189 : decode M_Mo_beginRound.2.1 189 = .ok (.ifCond .eq 23, 3) := by decide +kernel
theorem d_Mo_beginRound_192 : decode M_Mo_beginRound.2.1 192 = .ok (.aload_n 0, 1) := by decide +kernel
theorem d_Mo_beginRound_193 : decode M_Mo_beginRound.2.1 193 = .ok (.iconst 0, 1) := by decide +kernel
theorem d_Mo_beginRound_194 : decode M_Mo_beginRound.2.1 194 = .ok (.iload_n 1, 1) := by decide +kernel
theorem d_Mo_beginRound_195 : decode M_Mo_beginRound.2.1 195 = .ok (.iload 4, 2) := by decide +kernel
theorem d_Mo_beginRound_197 : decode M_Mo_beginRound.2.1 197 = .ok (.iload_n 2, 1) := by decide +kernel
theorem d_Mo_beginRound_198 : decode M_Mo_beginRound.2.1 198 = .ok (.iload_n 3, 1) := by decide +kernel
theorem d_Mo_beginRound_199 : decode M_Mo_beginRound.2.1 199 = .ok (.invokevirtual 158, 3) := by decide +kernel
theorem d_Mo_beginRound_202 : decode M_Mo_beginRound.2.1 202 = .ok (.aload_n 0, 1) := by decide +kernel
theorem d_Mo_beginRound_203 : decode M_Mo_beginRound.2.1 203 = .ok (.getfield 19, 3) := by decide +kernel
theorem d_Mo_beginRound_206 : decode M_Mo_beginRound.2.1 206 = .ok (.iload_n 1, 1) := by decide +kernel
theorem d_Mo_beginRound_207 : decode M_Mo_beginRound.2.1 207 = .ok (.dup2, 1) := by decide +kernel
theorem d_Mo_beginRound_208 : decode M_Mo_beginRound.2.1 208 = .ok (.iaload, 1) := by decide +kernel
theorem d_Mo_beginRound_209 : decode M_Mo_beginRound.2.1 209 = .ok (.iconst 1, 1) := by decide +kernel
theorem d_Mo_beginRound_210 : decode M_Mo_beginRound.2.1 210 = .ok (.iadd, 1) := by decide +kernel
theorem d_Mo_beginRound_211 : decode M_Mo_beginRound.2.1 211 = .ok (.iastore, 1) := by decide +kernel
theorem d_Mo_beginRound_212 : decode M_Mo_beginRound.2.1 212 = .ok (.iinc 4 1, 3) := by decide +kernel
theorem d_Mo_beginRound_215 : decode M_Mo_beginRound.2.1 215 = .ok (.goto (-49), 3) := by decide +kernel
theorem d_Mo_beginRound_218 : decode M_Mo_beginRound.2.1 218 = .ok (.return_, 1) := by decide +kernel
