theorem d_Mo_becomeFirm_0 : decode M_Mo_becomeFirm.2.1 0 = .ok (.aload_n 0, 1) := by decide +kernel
theorem d_Mo_becomeFirm_1 : decode M_Mo_becomeFirm.2.1 1 = .ok (.getfield 29, 3) := by decide +kernel
theorem d_Mo_becomeFirm_4 : decode M_Mo_becomeFirm.2.1 4 = .ok (.iload_n 1, 1) := by decide +kernel
theorem d_Mo_becomeFirm_5 : decode M_Mo_becomeFirm.2.1 5 = .ok (.iconst 1, 1) := by decide +kernel
theorem d_Mo_becomeFirm_6 : decode M_Mo_becomeFirm.2.1 6 = .ok (.bastore, 1) := by decide +kernel
theorem d_Mo_becomeFirm_7 : decode M_Mo_becomeFirm.2.1 7 = .ok (.aload_n 0, 1) := by decide +kernel
theorem d_Mo_becomeFirm_8 : decode M_Mo_becomeFirm.2.1 8 = .ok (.iconst 5, 1) := by decide +kernel
theorem d_Mo_becomeFirm_9 : decode M_Mo_becomeFirm.2.1 9 = .ok (.iload_n 1, 1) := by decide +kernel
theorem d_Mo_becomeFirm_10 : decode M_Mo_becomeFirm.2.1 10 = .ok (.aload_n 0, 1) := by decide +kernel
theorem d_Mo_becomeFirm_11 : decode M_Mo_becomeFirm.2.1 11 = .ok (.getfield 16, 3) := by decide +kernel
theorem d_Mo_becomeFirm_14 : decode M_Mo_becomeFirm.2.1 14 = .ok (.iload_n 1, 1) := by decide +kernel
theorem d_Mo_becomeFirm_15 : decode M_Mo_becomeFirm.2.1 15 = .ok (.iaload, 1) := by decide +kernel
theorem d_Mo_becomeFirm_16 : decode M_Mo_becomeFirm.2.1 16 = .ok (.invokevirtual 166, 3) := by decide +kernel
theorem d_Mo_becomeFirm_19 : decode M_Mo_becomeFirm.2.1 19 = .ok (.iconst 0, 1) := by decide +kernel
theorem d_Mo_becomeFirm_20 : decode M_Mo_becomeFirm.2.1 20 = .ok (.istore_n 2, 1) := by decide +kernel
theorem d_Mo_becomeFirm_21 : decode M_Mo_becomeFirm.2.1 21 = .ok (.iload_n 2, 1) := by decide +kernel
theorem d_Mo_becomeFirm_22 : decode M_Mo_becomeFirm.2.1 22 = .ok (.aload_n 0, 1) := by decide +kernel
theorem d_Mo_becomeFirm_23 : decode M_Mo_becomeFirm.2.1 23 = .ok (.getfield 84, 3) := by decide +kernel
theorem d_Mo_becomeFirm_26 : decode M_Mo_becomeFirm.2.1 26 = .ok (.if_icmp .ge 37, 3) := by decide +kernel
theorem d_Mo_becomeFirm_29 : decode M_Mo_becomeFirm.2.1 29 = .ok (.aload_n 0, 1) := by decide +kernel
theorem d_Mo_becomeFirm_30 : decode M_Mo_becomeFirm.2.1 30 = .ok (.getfield 44, 3) := by decide +kernel
theorem d_Mo_becomeFirm_33 : decode M_Mo_becomeFirm.2.1 33 = .ok (.bipush 12, 2) := by decide +kernel
theorem d_Mo_becomeFirm_35 : decode M_Mo_becomeFirm.2.1 35 = .ok (.iload_n 1, 1) := by decide +kernel
theorem d_Mo_becomeFirm_36 : decode M_Mo_becomeFirm.2.1 36 = .ok (.imul, 1) := by decide +kernel
theorem d_Mo_becomeFirm_37 : decode M_Mo_becomeFirm.2.1 37 = .ok (.iload_n 2, 1) := by decide +kernel
theorem d_Mo_becomeFirm_38 : decode M_Mo_becomeFirm.2.1 38 = .ok (.iadd, 1) := by decide +kernel
theorem d_Mo_becomeFirm_39 : decode M_Mo_becomeFirm.2.1 39 = .ok (.baload, 1) := by decide +kernel
theorem d_Mo_becomeFirm_40 : decode M_Mo_becomeFirm.2.1 40 = .ok (.ifCond .eq 17, 3) := by decide +kernel
theorem d_Mo_becomeFirm_43 : decode M_Mo_becomeFirm.2.1 43 = .ok (.aload_n 0, 1) := by decide +kernel
theorem d_Mo_becomeFirm_44 : decode M_Mo_becomeFirm.2.1 44 = .ok (.iconst 2, 1) := by decide +kernel
theorem d_Mo_becomeFirm_45 : decode M_Mo_becomeFirm.2.1 45 = .ok (.iload_n 1, 1) := by decide +kernel
theorem d_Mo_becomeFirm_46 : decode M_Mo_becomeFirm.2.1 46 = .ok (.iload_n 2, 1) := by decide +kernel
theorem d_Mo_becomeFirm_47 : decode M_Mo_becomeFirm.2.1 47 = .ok (.aload_n 0, 1) := by decide +kernel
theorem d_Mo_becomeFirm_48 : decode M_Mo_becomeFirm.2.1 48 = .ok (.getfield 16, 3) := by decide +kernel
theorem d_Mo_becomeFirm_51 : decode M_Mo_becomeFirm.2.1 51 = .ok (.iload_n 1, 1) := by decide +kernel
theorem d_Mo_becomeFirm_52 : decode M_Mo_becomeFirm.2.1 52 = .ok (.iaload, 1) := by decide +kernel
theorem d_Mo_becomeFirm_53 : decode M_Mo_becomeFirm.2.1 53 = .ok (.iconst 0, 1) := by decide +kernel
theorem d_Mo_becomeFirm_54 : decode M_Mo_becomeFirm.2.1 54 = .ok (.invokevirtual 158, 3) := by decide +kernel
theorem d_Mo_becomeFirm_57 : decode M_Mo_becomeFirm.2.1 57 = .ok (.iinc 2 1, 3) := by decide +kernel
theorem d_Mo_becomeFirm_60 : decode M_Mo_becomeFirm.2.1 60 = .ok (.goto (-39), 3) := by decide +kernel
theorem d_Mo_becomeFirm_63 : decode M_Mo_becomeFirm.2.1 63 = .ok (.return_, 1) := by decide +kernel
theorem d_Mo_goOn_0 : decode M_Mo_goOn.2.1 0 = .ok (.iconst 1, 1) := by decide +kernel
theorem d_Mo_goOn_1 : decode M_Mo_goOn.2.1 1 = .ok (.istore_n 2, 1) := by decide +kernel
theorem d_Mo_goOn_2 : decode M_Mo_goOn.2.1 2 = .ok (.iload_n 2, 1) := by decide +kernel
theorem d_Mo_goOn_3 : decode M_Mo_goOn.2.1 3 = .ok (.ifCond .eq 323, 3) := by decide +kernel
theorem d_Mo_goOn_6 : decode M_Mo_goOn.2.1 6 = .ok (.iconst 0, 1) := by decide +kernel
theorem d_Mo_goOn_7 : decode M_Mo_goOn.2.1 7 = .ok (.istore_n 2, 1) := by decide +kernel
theorem d_Mo_goOn_8 : decode M_Mo_goOn.2.1 8 = .ok (.aload_n 0, 1) := by decide +kernel
theorem d_Mo_goOn_9 : decode M_Mo_goOn.2.1 9 = .ok (.getfield 22, 3) := by decide +kernel
theorem d_Mo_goOn_12 : decode M_Mo_goOn.2.1 12 = .ok (.iload_n 1, 1) := by decide +kernel
theorem d_Mo_goOn_13 : decode M_Mo_goOn.2.1 13 = .ok (.baload, 1) := by decide +kernel
theorem d_Mo_goOn_14 : decode M_Mo_goOn.2.1 14 = .ok (.ifCond .ne 65, 3) := by decide +kernel
theorem d_Mo_goOn_17 : decode M_Mo_goOn.2.1 17 = .ok (.aload_n 0, 1) := by decide +kernel
theorem d_Mo_goOn_18 : decode M_Mo_goOn.2.1 18 = .ok (.getfield 19, 3) := by decide +kernel
theorem d_Mo_goOn_21 : decode M_Mo_goOn.2.1 21 = .ok (.iload_n 1, 1) := by decide +kernel
theorem d_Mo_goOn_22 : decode M_Mo_goOn.2.1 22 = .ok (.iaload, 1) := by decide +kernel
theorem d_Mo_goOn_23 : decode M_Mo_goOn.2.1 23 = .ok (.ifCond .ne 56, 3) := by decide +kernel
theorem d_Mo_goOn_26 : decode M_Mo_goOn.2.1 26 = .ok (.aload_n 0, 1) := by decide +kernel
theorem d_Mo_goOn_27 : decode M_Mo_goOn.2.1 27 = .ok (.getfield 22, 3) := by decide +kernel
theorem d_Mo_goOn_30 : decode M_Mo_goOn.2.1 30 = .ok (.iload_n 1, 1) := by decide +kernel
theorem d_Mo_goOn_31 : decode M_Mo_goOn.2.1 31 = .ok (.iconst 1, 1) := by decide +kernel
theorem d_Mo_goOn_32 : decode M_Mo_goOn.2.1 32 = .ok (.bastore, 1) := by decide +kernel
theorem d_Mo_goOn_33 : decode M_Mo_goOn.2.1 33 = .ok (.iconst 0, 1) := by decide +kernel
theorem d_Mo_goOn_34 : decode M_Mo_goOn.2.1 34 = .ok (.istore_n 3, 1) := by decide +kernel
theorem d_Mo_goOn_35 : decode M_Mo_goOn.2.1 35 = .ok (.iload_n 3, 1) := by decide +kernel
theorem d_Mo_goOn_36 : decode M_Mo_goOn.2.1 36 = .ok (.aload_n 0, 1) := by decide +kernel
theorem d_Mo_goOn_37 : decode M_Mo_goOn.2.1 37 = .ok (.getfield 84, 3) := by decide +kernel
theorem d_Mo_goOn_40 : decode M_Mo_goOn.2.1 40 = .ok (.if_icmp .ge 39, 3) := by decide +kernel
theorem d_Mo_goOn_43 : decode M_Mo_goOn.2.1 43 = .ok (.aload_n 0, 1) := by decide +kernel
theorem d_Mo_goOn_44 : decode M_Mo_goOn.2.1 44 = .ok (.getfield 152, 3) := by decide +kernel
theorem d_Mo_goOn_47 : decode M_Mo_goOn.2.1 47 = .ok (.ifCond .ne 26, 3) := by decide +kernel
theorem d_Mo_goOn_50 : decode M_Mo_goOn.2.1 50 = .ok (.aload_n 0, 1) := by decide +kernel
theorem d_Mo_goOn_51 : decode M_Mo_goOn.2.1 51 = .ok (.iload_n 1, 1) := by decide +kernel
theorem d_Mo_goOn_52 : decode M_Mo_goOn.2.1 52 = .ok (.iload_n 3, 1) := by decide +kernel
theorem d_Mo_goOn_53 : decode M_Mo_goOn.2.1 53 = .ok (.invokevirtual 99, 3) := by decide +kernel
theorem d_Mo_goOn_56 : decode M_Mo_goOn.2.1 56 = .ok (.ifCond .eq 17, 3) := by decide +kernel
theorem d_Mo_goOn_59 : decode M_Mo_goOn.2.1 59 = .ok (.aload_n 0, 1) := by decide +kernel
theorem d_Mo_goOn_60 : decode M_Mo_goOn.2.1 60 = .ok (.iconst 2, 1) := by decide +kernel
theorem d_Mo_goOn_61 : decode M_Mo_goOn.2.1 61 = .ok (.iload_n 1, 1) := by decide +kernel
theorem d_Mo_goOn_62 : decode M_Mo_goOn.2.1 62 = .ok (.iload_n 3, 1) := by decide +kernel
theorem d_Mo_goOn_63 : decode M_Mo_goOn.2.1 63 = .ok (.aload_n 0, 1) := by decide +kernel
theorem d_Mo_goOn_64 : decode M_Mo_goOn.2.1 64 = .ok (.getfield 16, 3) := by decide +kernel
theorem d_Mo_goOn_67 : decode M_Mo_goOn.2.1 67 = .ok (.iload_n 1, 1) := by decide +kernel
theorem d_Mo_goOn_68 : decode M_Mo_goOn.2.1 68 = .ok (.iaload, 1) := by decide +kernel
theorem d_Mo_goOn_69 : decode M_Mo_goOn.2.1 69 = .ok (.iconst 0, 1) := by decide +kernel
theorem d_Mo_goOn_70 : decode M_Mo_goOn.2.1 70 = .ok (.invokevirtual 158, 3) := by decide +kernel
theorem d_Mo_goOn_73 : decode M_Mo_goOn.2.1 73 = .ok (.iinc 3 1, 3) := by decide +kernel
theorem d_Mo_goOn_76 : decode M_Mo_goOn.2.1 76 = .ok (.goto (-41), 3) := by decide +kernel
theorem d_Mo_goOn_79 : decode M_Mo_goOn.2.1 79 = .ok (.iconst 0, 1) := by decide +kernel
theorem d_Mo_goOn_80 : decode M_Mo_goOn.2.1 80 = .ok (.istore_n 3, 1) := by decide +kernel
theorem d_Mo_goOn_81 : decode M_Mo_goOn.2.1 81 = .ok (.aload_n 0, 1) := by decide +kernel
theorem d_Mo_goOn_82 : decode M_Mo_goOn.2.1 82 = .ok (.getfield 152, 3) := by decide +kernel
theorem d_Mo_goOn_85 : decode M_Mo_goOn.2.1 85 = .ok (.ifCond .ne 31, 3) := by decide +kernel
theorem d_Mo_goOn_88 : decode M_Mo_goOn.2.1 88 = .ok (.aload_n 0, 1) := by decide +kernel
theorem d_Mo_goOn_89 : decode M_Mo_goOn.2.1 89 = .ok (.getfield 22, 3) := by decide +kernel
theorem d_Mo_goOn_92 : decode M_Mo_goOn.2.1 92 = .ok (.iload_n 1, 1) := by decide +kernel
theorem d_Mo_goOn_93 : decode M_Mo_goOn.2.1 93 = .ok (.baload, 1) := by decide +kernel
theorem d_Mo_goOn_94 : decode M_Mo_goOn.2.1 94 = .ok (.ifCond .eq 17, 3) := by decide +kernel
theorem d_Mo_goOn_97 : decode M_Mo_goOn.2.1 97 = .ok (.aload_n 0, 1) := by decide +kernel
theorem d_Mo_goOn_98 : decode M_Mo_goOn.2.1 98 = .ok (.iconst 1, 1) := by decide +kernel
theorem d_Mo_goOn_99 : decode M_Mo_goOn.2.1 99 = .ok (.iload_n 1, 1) := by decide +kernel
theorem d_Mo_goOn_100 : decode M_Mo_goOn.2.1 100 = .ok (.iconst 0, 1) := by decide +kernel
theorem d_Mo_goOn_101 : decode M_Mo_goOn.2.1 101 = .ok (.invokevirtual 170, 3) := by decide +kernel
theorem d_Mo_goOn_104 : decode M_Mo_goOn.2.1 104 = .ok (.ifCond .eq 7, 3) := by decide +kernel
theorem d_Mo_goOn_107 : decode M_Mo_goOn.2.1 107 = .ok (.iconst 1, 1) := by decide +kernel
theorem d_Mo_goOn_108 : decode M_Mo_goOn.2.1 108 = .ok (.goto 4, 3) := by decide +kernel
theorem d_Mo_goOn_111 : decode M_Mo_goOn.2.1 111 = .ok (.iconst 0, 1) := by decide +kernel
theorem d_Mo_goOn_112 : decode M_Mo_goOn.2.1 112 = .ok (.istore_n 3, 1) := by decide +kernel
theorem d_Mo_goOn_113 : decode M_Mo_goOn.2.1 113 = .ok (.goto 89, 3) := by decide +kernel
theorem d_Mo_goOn_116 : decode M_Mo_goOn.2.1 116 = .ok (.aload_n 0, 1) := by decide +kernel
theorem d_Mo_goOn_117 : decode M_Mo_goOn.2.1 117 = .ok (.getfield 22, 3) := by decide +kernel
theorem d_Mo_goOn_120 : decode M_Mo_goOn.2.1 120 = .ok (.iload_n 1, 1) := by decide +kernel
theorem d_Mo_goOn_121 : decode M_Mo_goOn.2.1 121 = .ok (.baload, 1) := by decide +kernel
theorem d_Mo_goOn_122 : decode M_Mo_goOn.2.1 122 = .ok (.ifCond .eq 80, 3) := by decide +kernel
theorem d_Mo_goOn_125 : decode M_Mo_goOn.2.1 125 = .ok (.aload_n 0, 1) := by decide +kernel
theorem d_Mo_goOn_126 : decode M_Mo_goOn.2.1 126 = .ok (.getfield 26, 3) := by decide +kernel
theorem d_Mo_goOn_129 : decode M_Mo_goOn.2.1 129 = .ok (.iload_n 1, 1) := by decide +kernel
theorem d_Mo_goOn_130 : decode M_Mo_goOn.2.1 130 = .ok (.baload, 1) := by decide +kernel
theorem d_Mo_goOn_131 : decode M_Mo_goOn.2.1 131 = .ok (.ifCond .ne 71, 3) := by decide +kernel
theorem d_Mo_goOn_134 : decode M_Mo_goOn.2.1 134 = .ok (.aload_n 0, 1) := by decide +kernel
theorem d_Mo_goOn_135 : decode M_Mo_goOn.2.1 135 = .ok (.iconst 2, 1) := by decide +kernel
theorem d_Mo_goOn_136 : decode M_Mo_goOn.2.1 136 = .ok (.iload_n 1, 1) := by decide +kernel
theorem d_Mo_goOn_137 : decode M_Mo_goOn.2.1 137 = .ok (.iconst 1, 1) := by decide +kernel
theorem d_Mo_goOn_138 : decode M_Mo_goOn.2.1 138 = .ok (.invokevirtual 170, 3) := by decide +kernel
theorem d_Mo_goOn_141 : decode M_Mo_goOn.2.1 141 = .ok (.ifCond .eq 61, 3) := by decide +kernel
theorem d_Mo_goOn_144 : decode M_Mo_goOn.2.1 144 = .ok (.aload_n 0, 1) := by decide +kernel
theorem d_Mo_goOn_145 : decode M_Mo_goOn.2.1 145 = .ok (.getfield 26, 3) := by decide +kernel
theorem d_Mo_goOn_148 : decode M_Mo_goOn.2.1 148 = .ok (.iload_n 1, 1) := by decide +kernel
theorem d_Mo_goOn_149 : decode M_Mo_goOn.2.1 149 = .ok (.iconst 1, 1) := by decide +kernel
theorem d_Mo_goOn_150 : decode M_Mo_goOn.2.1 150 = .ok (.bastore, 1) := by decide +kernel
theorem d_Mo_goOn_151 : decode M_Mo_goOn.2.1 151 = .ok (.aload_n 0, 1) := by decide +kernel
theorem d_Mo_goOn_152 : decode M_Mo_goOn.2.1 152 = .ok (.getfield 35, 3) := by decide +kernel
theorem d_Mo_goOn_155 : decode M_Mo_goOn.2.1 155 = .ok (.iload_n 1, 1) := by decide +kernel
theorem d_Mo_goOn_156 : decode M_Mo_goOn.2.1 156 = .ok (.iaload, 1) := by decide +kernel
theorem d_Mo_goOn_157 : decode M_Mo_goOn.2.1 157 = .ok (.bipush (-2), 2) := by decide +kernel
theorem d_Mo_goOn_159 : decode M_Mo_goOn.2.1 159 = .ok (.if_icmp .eq 25, 3) := by decide +kernel
theorem d_Mo_goOn_162 : decode M_Mo_goOn.2.1 162 = .ok (.aload_n 0, 1) := by decide +kernel
theorem d_Mo_goOn_163 : decode M_Mo_goOn.2.1 163 = .ok (.iconst 3, 1) := by decide +kernel
theorem d_Mo_goOn_164 : decode M_Mo_goOn.2.1 164 = .ok (.iload_n 1, 1) := by decide +kernel
theorem d_Mo_goOn_165 : decode M_Mo_goOn.2.1 165 = .ok (.aload_n 0, 1) := by decide +kernel
theorem d_Mo_goOn_166 : decode M_Mo_goOn.2.1 166 = .ok (.getfield 35, 3) := by decide +kernel
theorem d_Mo_goOn_169 : decode M_Mo_goOn.2.1 169 = .ok (.iload_n 1, 1) := by decide +kernel
theorem d_Mo_goOn_170 : decode M_Mo_goOn.2.1 170 = .ok (.iaload, 1) := by decide +kernel
theorem d_Mo_goOn_171 : decode M_Mo_goOn.2.1 171 = .ok (.aload_n 0, 1) := by decide +kernel
theorem d_Mo_goOn_172 : decode M_Mo_goOn.2.1 172 = .ok (.getfield 16, 3) := by decide +kernel
theorem d_Mo_goOn_175 : decode M_Mo_goOn.2.1 175 = .ok (.iload_n 1, 1) := by decide +kernel
theorem d_Mo_goOn_176 : decode M_Mo_goOn.2.1 176 = .ok (.iaload, 1) := by decide +kernel
theorem d_Mo_goOn_177 : decode M_Mo_goOn.2.1 177 = .ok (.iconst 0, 1) := by decide +kernel
theorem d_Mo_goOn_178 : decode M_Mo_goOn.2.1 178 = .ok (.invokevirtual 158, 3) := by decide +kernel
theorem d_Mo_goOn_181 : decode M_Mo_goOn.2.1 181 = .ok (.goto 21, 3) := by decide +kernel
theorem d_Mo_goOn_184 : decode M_Mo_goOn.2.1 184 = .ok (.aload_n 0, 1) := by decide +kernel
theorem d_Mo_goOn_185 : decode M_Mo_goOn.2.1 185 = .ok (.getfield 152, 3) := by decide +kernel
theorem d_Mo_goOn_188 : decode M_Mo_goOn.2.1 188 = .ok (.iconst 1, 1) := by decide +kernel
theorem d_Mo_goOn_189 : decode M_Mo_goOn.2.1 189 = .ok (.if_icmp .ne 8, 3) := by decide +kernel
theorem d_Mo_goOn_192 : decode M_Mo_goOn.2.1 192 = .ok (.iconst 1, 1) := by decide +kernel
theorem d_Mo_goOn_193 : decode M_Mo_goOn.2.1 193 = .ok (.istore_n 3, 1) := by decide +kernel
theorem d_Mo_goOn_194 : decode M_Mo_goOn.2.1 194 = .ok (.goto 8, 3) := by decide +kernel
theorem d_Mo_goOn_197 : decode M_Mo_goOn.2.1 197 = .ok (.aload_n 0, 1) := by decide +kernel
theorem d_Mo_goOn_198 : decode M_Mo_goOn.2.1 198 = .ok (.iload_n 1, 1) := by decide +kernel
theorem d_Mo_goOn_199 : decode M_Mo_goOn.2.1 199 = .ok (.invokevirtual 174, 3) := by decide +kernel
theorem d_Mo_goOn_202 : decode M_Mo_goOn.2.1 202 = .ok (.aload_n 0, 1) := by decide +kernel
theorem d_Mo_goOn_203 : decode M_Mo_goOn.2.1 203 = .ok (.getfield 152, 3) := by decide +kernel
theorem d_Mo_goOn_206 : decode M_Mo_goOn.2.1 206 = .ok (.iconst 2, 1) := by decide +kernel
theorem d_Mo_goOn_207 : decode M_Mo_goOn.2.1 207 = .ok (.if_icmp .ne 84, 3) := by decide +kernel
theorem d_Mo_goOn_210 : decode M_Mo_goOn.2.1 210 = .ok (.aload_n 0, 1) := by decide +kernel
theorem d_Mo_goOn_211 : decode M_Mo_goOn.2.1 211 = .ok (.getfield 29, 3) := by decide +kernel
theorem d_Mo_goOn_214 : decode M_Mo_goOn.2.1 214 = .ok (.iload_n 1, 1) := by decide +kernel
theorem d_Mo_goOn_215 : decode M_Mo_goOn.2.1 215 = .ok (.baload, 1) := by decide +kernel
theorem d_Mo_goOn_216 : decode M_Mo_goOn.2.1 216 = .ok (.ifCond .eq 75, 3) := by decide +kernel
theorem d_Mo_goOn_219 : decode M_Mo_goOn.2.1 219 = .ok (.aload_n 0, 1) := by decide +kernel
theorem d_Mo_goOn_220 : decode M_Mo_goOn.2.1 220 = .ok (.getfield 32, 3) := by decide +kernel
theorem d_Mo_goOn_223 : decode M_Mo_goOn.2.1 223 = .ok (.iload_n 1, 1) := by decide +kernel
theorem d_Mo_goOn_224 : decode M_Mo_goOn.2.1 224 = .ok (.baload, 1) := by decide +kernel
theorem d_Mo_goOn_225 : decode M_Mo_goOn.2.1 225 = .ok (.ifCond .ne 66, 3) := by decide +kernel
theorem d_Mo_goOn_228 : decode M_Mo_goOn.2.1 228 = .ok (.aload_n 0, 1) := by decide +kernel
theorem d_Mo_goOn_229 : decode M_Mo_goOn.2.1 229 = .ok (.iconst 1, 1) := by decide +kernel
theorem d_Mo_goOn_230 : decode M_Mo_goOn.2.1 230 = .ok (.iload_n 1, 1) := by decide +kernel
theorem d_Mo_goOn_231 : decode M_Mo_goOn.2.1 231 = .ok (.iconst 0, 1) := by decide +kernel
theorem d_Mo_goOn_232 : decode M_Mo_goOn.2.1 232 = .ok (.invokevirtual 170, 3) := by decide +kernel
theorem d_Mo_goOn_235 : decode M_Mo_goOn.2.1 235 = .ok (.ifCond .eq 56, 3) := by decide +kernel
theorem d_Mo_goOn_238 : decode M_Mo_goOn.2.1 238 = .ok (.aload_n 0, 1) := by decide +kernel
theorem d_Mo_goOn_239 : decode M_Mo_goOn.2.1 239 = .ok (.iconst 3, 1) := by decide +kernel
theorem d_Mo_goOn_240 : decode M_Mo_goOn.2.1 240 = .ok (.iload_n 1, 1) := by decide +kernel
theorem d_Mo_goOn_241 : decode M_Mo_goOn.2.1 241 = .ok (.iconst 1, 1) := by decide +kernel
theorem d_Mo_goOn_242 : decode M_Mo_goOn.2.1 242 = .ok (.invokevirtual 170, 3) := by decide +kernel
theorem d_Mo_goOn_245 : decode M_Mo_goOn.2.1 245 = .ok (.ifCond .eq 46, 3) := by decide +kernel
theorem d_Mo_goOn_248 : decode M_Mo_goOn.2.1 248 = .ok (.aload_n 0, 1) := by decide +kernel
theorem d_Mo_goOn_249 : decode M_Mo_goOn.2.1 249 = .ok (.getfield 32, 3) := by decide +kernel
theorem d_Mo_goOn_252 : decode M_Mo_goOn.2.1 252 = .ok (.iload_n 1, 1) := by decide +kernel
theorem d_Mo_goOn_253 : decode M_Mo_goOn.2.1 253 = .ok (.iconst 1, 1) := by decide +kernel
theorem d_Mo_goOn_254 : decode M_Mo_goOn.2.1 254 = .ok (.bastore, 1) := by decide +kernel
theorem d_Mo_goOn_255 : decode M_Mo_goOn.2.1 255 = .ok (.aload_n 0, 1) := by decide +kernel
theorem d_Mo_goOn_256 : decode M_Mo_goOn.2.1 256 = .ok (.getfield 35, 3) := by decide +kernel
theorem d_Mo_goOn_259 : decode M_Mo_goOn.2.1 259 = .ok (.iload_n 1, 1) := by decide +kernel
theorem d_Mo_goOn_260 : decode M_Mo_goOn.2.1 260 = .ok (.iaload, 1) := by decide +kernel
theorem d_Mo_goOn_261 : decode M_Mo_goOn.2.1 261 = .ok (.bipush (-2), 2) := by decide +kernel
theorem d_Mo_goOn_263 : decode M_Mo_goOn.2.1 263 = .ok (.if_icmp .eq 26, 3) := by decide +kernel
theorem d_Mo_goOn_266 : decode M_Mo_goOn.2.1 266 = .ok (.aload_n 0, 1) := by decide +kernel
theorem d_Mo_goOn_267 : decode M_Mo_goOn.2.1 267 = .ok (.bipush 6, 2) := by decide +kernel
theorem d_Mo_goOn_269 : decode M_Mo_goOn.2.1 269 = .ok (.iload_n 1, 1) := by decide +kernel
theorem d_Mo_goOn_270 : decode M_Mo_goOn.2.1 270 = .ok (.aload_n 0, 1) := by decide +kernel
theorem d_Mo_goOn_271 : decode M_Mo_goOn.2.1 271 = .ok (.getfield 35, 3) := by decide +kernel
theorem d_Mo_goOn_274 : decode M_Mo_goOn.2.1 274 = .ok (.iload_n 1, 1) := by decide +kernel
theorem d_Mo_goOn_275 : decode M_Mo_goOn.2.1 275 = .ok (.iaload, 1) := by decide +kernel
theorem d_Mo_goOn_276 : decode M_Mo_goOn.2.1 276 = .ok (.aload_n 0, 1) := by decide +kernel
theorem d_Mo_goOn_277 : decode M_Mo_goOn.2.1 277 = .ok (.getfield 16, 3) := by decide +kernel
theorem d_Mo_goOn_280 : decode M_Mo_goOn.2.1 280 = .ok (.iload_n 1, 1) := by decide +kernel
theorem d_Mo_goOn_281 : decode M_Mo_goOn.2.1 281 = .ok (.iaload, 1) := by decide +kernel
theorem d_Mo_goOn_282 : decode M_Mo_goOn.2.1 282 = .ok (.iconst 0, 1) := by decide +kernel
theorem d_Mo_goOn_283 : decode M_Mo_goOn.2.1 283 = .ok (.invokevirtual 158, 3) := by decide +kernel
theorem d_Mo_goOn_286 : decode M_Mo_goOn.2.1 286 = .ok (.goto 5, 3) := by decide +kernel
theorem d_Mo_goOn_289 : decode M_Mo_goOn.2.1 289 = .ok (.iconst 1, 1) := by decide +kernel
theorem d_Mo_goOn_290 : decode M_Mo_goOn.2.1 290 = .ok (.istore_n 3, 1) := by decide +kernel
theorem d_Mo_goOn_291 : decode M_Mo_goOn.2.1 291 = .ok (.iload_n 3, 1) := by decide +kernel
theorem d_Mo_goOn_292 : decode M_Mo_goOn.2.1 292 = .ok (.ifCond .eq 31, 3) := by decide +kernel
theorem d_Mo_goOn_295 : decode M_Mo_goOn.2.1 295 = .ok (.aload_n 0, 1) := by decide +kernel
theorem d_Mo_goOn_296 : decode M_Mo_goOn.2.1 296 = .ok (.getfield 16, 3) := by decide +kernel
theorem d_Mo_goOn_299 : decode M_Mo_goOn.2.1 299 = .ok (.iload_n 1, 1) := by decide +kernel
theorem d_Mo_goOn_300 : decode M_Mo_goOn.2.1 300 = .ok (.iaload, 1) := by decide +kernel
theorem d_Mo_goOn_301 : decode M_Mo_goOn.2.1 301 = .ok (.aload_n 0, 1) := by decide +kernel
theorem d_Mo_goOn_302 : decode M_Mo_goOn.2.1 302 = .ok (.getfield 136, 3) := by decide +kernel
theorem d_Mo_goOn_305 : decode M_Mo_goOn.2.1 305 = .ok (.if_icmp .ge 18, 3) := by decide +kernel
theorem d_Mo_goOn_308 : decode M_Mo_goOn.2.1 308 = .ok (.aload_n 0, 1) := by decide +kernel
theorem d_Mo_goOn_309 : decode M_Mo_goOn.2.1 309 = .ok (.iload_n 1, 1) := by decide +kernel
theorem d_Mo_goOn_310 : decode M_Mo_goOn.2.1 310 = .ok (.aload_n 0, 1) := by decide +kernel
theorem d_Mo_goOn_311 : decode M_Mo_goOn.2.1 311 = .ok (.getfield 16, 3) := by decide +kernel
theorem d_Mo_goOn_314 : decode M_Mo_goOn.2.1 314 = .ok (.iload_n 1, 1) := by decide +kernel
theorem d_Mo_goOn_315 : decode M_Mo_goOn.2.1 315 = .ok (.iaload, 1) := by decide +kernel
theorem d_Mo_goOn_316 : decode M_Mo_goOn.2.1 316 = .ok (.iconst 1, 1) := by decide +kernel
theorem d_Mo_goOn_317 : decode M_Mo_goOn.2.1 317 = .ok (.iadd, 1) := by decide +kernel
theorem d_Mo_goOn_318 : decode M_Mo_goOn.2.1 318 = .ok (.invokevirtual 178, 3) := by decide +kernel
theorem d_Mo_goOn_321 : decode M_Mo_goOn.2.1 321 = .ok (.iconst 1, 1) := by decide +kernel
theorem d_Mo_goOn_322 : decode M_Mo_goOn.2.1 322 = .ok (.istore_n 2, 1) := by decide +kernel
theorem d_Mo_goOn_323 : decode M_Mo_goOn.2.1 323 = .ok (.goto (-321), 3) := by decide +kernel
theorem d_Mo_goOn_326 : decode M_Mo_goOn.2.1 326 = .ok (.return_, 1) := by decide +kernel
theorem d_Mo_start_0 : decode M_Mo_start.2.1 0 = .ok (.iload_n 1, 1) := by decide +kernel
theorem d_Mo_start_1 : decode M_Mo_start.2.1 1 = .ok (.ifCond .lt 56, 3) := by decide +kernel
theorem d_Mo_start_4 : decode M_Mo_start.2.1 4 = .ok (.iload_n 1, 1) := by decide +kernel
theorem d_Mo_start_5 : decode M_Mo_start.2.1 5 = .ok (.iconst 3, 1) := by decide +kernel
theorem d_Mo_start_6 : decode M_Mo_start.2.1 6 = .ok (.if_icmp .gt 51, 3) := by decide +kernel
theorem d_Mo_start_9 : decode M_Mo_start.2.1 9 = .ok (.iload_n 2, 1) := by decide +kernel
theorem d_Mo_start_10 : decode M_Mo_start.2.1 10 = .ok (.ifCond .lt 47, 3) := by decide +kernel
theorem d_Mo_start_13 : decode M_Mo_start.2.1 13 = .ok (.iload_n 2, 1) := by decide +kernel
theorem d_Mo_start_14 : decode M_Mo_start.2.1 14 = .ok (.iconst 2, 1) := by decide +kernel
theorem d_Mo_start_15 : decode M_Mo_start.2.1 15 = .ok (.if_icmp .gt 42, 3) := by decide +kernel
theorem d_Mo_start_18 : decode M_Mo_start.2.1 18 = .ok (.aload_n 0, 1) := by decide +kernel
theorem d_Mo_start_19 : decode M_Mo_start.2.1 19 = .ok (.iload_n 3, 1) := by decide +kernel
theorem d_Mo_start_20 : decode M_Mo_start.2.1 20 = .ok (.invokevirtual 95, 3) := by decide +kernel
theorem d_Mo_start_23 : decode M_Mo_start.2.1 23 = .ok (.ifCond .ne 34, 3) := by decide +kernel
theorem d_Mo_start_26 : decode M_Mo_start.2.1 26 = .ok (.iload_n 2, 1) := by decide +kernel
theorem d_Mo_start_27 : decode M_Mo_start.2.1 27 = .ok (.iconst 2, 1) := by decide +kernel
theorem d_Mo_start_28 : decode M_Mo_start.2.1 28 = .ok (.if_icmp .ne 16, 3) := by decide +kernel
theorem d_Mo_start_31 : decode M_Mo_start.2.1 31 = .ok (.iload 4, 2) := by decide +kernel
theorem d_Mo_start_33 : decode M_Mo_start.2.1 33 = .ok (.iconst 2, 1) := by decide +kernel
theorem d_Mo_start_34 : decode M_Mo_start.2.1 34 = .ok (.if_icmp .lt 23, 3) := by decide +kernel
theorem d_Mo_start_37 : decode M_Mo_start.2.1 37 = .ok (.iload 4, 2) := by decide +kernel
theorem d_Mo_start_39 : decode M_Mo_start.2.1 39 = .ok (.bipush 8, 2) := by decide +kernel
theorem d_Mo_start_41 : decode M_Mo_start.2.1 41 = .ok (.if_icmp .gt 16, 3) := by decide +kernel
theorem d_Mo_start_44 : decode M_Mo_start.2.1 44 = .ok (.iload 5, 2) := by decide +kernel
theorem d_Mo_start_46 : decode M_Mo_start.2.1 46 = .ok (.iconst 1, 1) := by decide +kernel
theorem d_Mo_start_47 : decode M_Mo_start.2.1 47 = .ok (.if_icmp .lt 10, 3) := by decide +kernel
theorem d_Mo_start_50 : decode M_Mo_start.2.1 50 = .ok (.iload 5, 2) := by decide +kernel
theorem d_Mo_start_52 : decode M_Mo_start.2.1 52 = .ok (.bipush 20, 2) := by decide +kernel
theorem d_Mo_start_54 : decode M_Mo_start.2.1 54 = .ok (.if_icmp .le 7, 3) := by decide +kernel
theorem d_Mo_start_57 : decode M_Mo_start.2.1 57 = .ok (.iconst 1, 1) := by decide +kernel
theorem d_Mo_start_58 : decode M_Mo_start.2.1 58 = .ok (.goto 4, 3) := by decide +kernel
theorem d_Mo_start_61 : decode M_Mo_start.2.1 61 = .ok (.iconst 0, 1) := by decide +kernel
theorem d_Mo_start_62 : decode M_Mo_start.2.1 62 = .ok (.istore 6, 2) := by decide +kernel
theorem d_Mo_start_64 : decode M_Mo_start.2.1 64 = .ok (.iconst 1, 1) := by decide +kernel
theorem d_Mo_start_65 : decode M_Mo_start.2.1 65 = .ok (.aload_n 0, 1) := by decide +kernel
theorem d_Mo_start_66 : decode M_Mo_start.2.1 66 = .ok (.getfield 84, 3) := by decide +kernel
theorem d_Mo_start_69 : decode M_Mo_start.2.1 69 = .ok (.ishl, 1) := by decide +kernel
theorem d_Mo_start_70 : decode M_Mo_start.2.1 70 = .ok (.iconst 1, 1) := by decide +kernel
theorem d_Mo_start_71 : decode M_Mo_start.2.1 71 = .ok (.isub, 1) := by decide +kernel
theorem d_Mo_start_72 : decode M_Mo_start.2.1 72 = .ok (.istore 7, 2) := by decide +kernel
theorem d_Mo_start_74 : decode M_Mo_start.2.1 74 = .ok (.iload 6, 2) := by decide +kernel
theorem d_Mo_start_76 : decode M_Mo_start.2.1 76 = .ok (.ifCond .ne 15, 3) := by decide +kernel
theorem d_Mo_start_79 : decode M_Mo_start.2.1 79 = .ok (.aload_n 0, 1) := by decide +kernel
theorem d_Mo_start_80 : decode M_Mo_start.2.1 80 = .ok (.iconst 1, 1) := by decide +kernel
theorem d_Mo_start_81 : decode M_Mo_start.2.1 81 = .ok (.iload 7, 2) := by decide +kernel
theorem d_Mo_start_83 : decode M_Mo_start.2.1 83 = .ok (.invokevirtual 181, 3) := by decide +kernel
theorem d_Mo_start_86 : decode M_Mo_start.2.1 86 = .ok (.iload 7, 2) := by decide +kernel
theorem d_Mo_start_88 : decode M_Mo_start.2.1 88 = .ok (.if_icmp .eq 5, 3) := by decide +kernel
theorem d_Mo_start_91 : decode M_Mo_start.2.1 91 = .ok (.iconst (-1), 1) := by decide +kernel
theorem d_Mo_start_92 : decode M_Mo_start.2.1 92 = .ok (.ireturn, 1) := by decide +kernel
theorem d_Mo_start_93 : decode M_Mo_start.2.1 93 = .ok (.aload_n 0, 1) := by decide +kernel
theorem d_Mo_start_94 : decode M_Mo_start.2.1 94 = .ok (.iload_n 1, 1) := by decide +kernel
theorem d_Mo_start_95 : decode M_Mo_start.2.1 95 = .ok (.putfield 123, 3) := by decide +kernel
theorem d_Mo_start_98 : decode M_Mo_start.2.1 98 = .ok (.aload_n 0, 1) := by decide +kernel
theorem d_Mo_start_99 : decode M_Mo_start.2.1 99 = .ok (.iload_n 2, 1) := by decide +kernel
theorem d_Mo_start_100 : decode M_Mo_start.2.1 100 = .ok (.putfield 152, 3) := by decide +kernel
theorem d_Mo_start_103 : decode M_Mo_start.2.1 103 = .ok (.aload_n 0, 1) := by decide +kernel
theorem d_Mo_start_104 : decode M_Mo_start.2.1 104 = .ok (.iload_n 3, 1) := by decide +kernel
theorem d_Mo_start_105 : decode M_Mo_start.2.1 105 = .ok (.putfield 126, 3) := by decide +kernel
theorem d_Mo_start_108 : decode M_Mo_start.2.1 108 = .ok (.aload_n 0, 1) := by decide +kernel
theorem d_Mo_start_109 : decode M_Mo_start.2.1 109 = .ok (.iload 5, 2) := by decide +kernel
theorem d_Mo_start_111 : decode M_Mo_start.2.1 111 = .ok (.putfield 136, 3) := by decide +kernel
theorem d_Mo_start_114 : decode M_Mo_start.2.1 114 = .ok (.aload_n 0, 1) := by decide +kernel
theorem d_Mo_start_115 : decode M_Mo_start.2.1 115 = .ok (.iconst 1, 1) := by decide +kernel
theorem d_Mo_start_116 : decode M_Mo_start.2.1 116 = .ok (.putfield 91, 3) := by decide +kernel
theorem d_Mo_start_119 : decode M_Mo_start.2.1 119 = .ok (.aload_n 0, 1) := by decide +kernel
theorem d_Mo_start_120 : decode M_Mo_start.2.1 120 = .ok (.iconst 0, 1) := by decide +kernel
theorem d_Mo_start_121 : decode M_Mo_start.2.1 121 = .ok (.putfield 143, 3) := by decide +kernel
theorem d_Mo_start_124 : decode M_Mo_start.2.1 124 = .ok (.aload_n 0, 1) := by decide +kernel
theorem d_Mo_start_125 : decode M_Mo_start.2.1 125 = .ok (.iconst 0, 1) := by decide +kernel
theorem d_Mo_start_126 : decode M_Mo_start.2.1 126 = .ok (.putfield 146, 3) := by decide +kernel
theorem d_Mo_start_129 : decode M_Mo_start.2.1 129 = .ok (.aload_n 0, 1) := by decide +kernel
theorem d_Mo_start_130 : decode M_Mo_start.2.1 130 = .ok (.iconst 0, 1) := by decide +kernel
theorem d_Mo_start_131 : decode M_Mo_start.2.1 131 = .ok (.putfield 149, 3) := by decide +kernel
theorem d_Mo_start_134 : decode M_Mo_start.2.1 134 = .ok (.aload_n 0, 1) := by decide +kernel
theorem d_Mo_start_135 : decode M_Mo_start.2.1 135 = .ok (.iconst 1, 1) := by decide +kernel
theorem d_Mo_start_136 : decode M_Mo_start.2.1 136 = .ok (.putfield 103, 3) := by decide +kernel
theorem d_Mo_start_139 : decode M_Mo_start.2.1 139 = .ok (.aload_n 0, 1) := by decide +kernel
theorem d_Mo_start_140 : decode M_Mo_start.2.1 140 = .ok (.iconst 0, 1) := by decide +kernel
theorem d_Mo_start_141 : decode M_Mo_start.2.1 141 = .ok (.putfield 120, 3) := by decide +kernel
theorem d_Mo_start_144 : decode M_Mo_start.2.1 144 = .ok (.iconst 0, 1) := by decide +kernel
theorem d_Mo_start_145 : decode M_Mo_start.2.1 145 = .ok (.istore 8, 2) := by decide +kernel
theorem d_Mo_start_147 : decode M_Mo_start.2.1 147 = .ok (.iload 8, 2) := by decide +kernel
theorem d_Mo_start_149 : decode M_Mo_start.2.1 149 = .ok (.sipush 12672, 3) := by decide +kernel
theorem d_Mo_start_152 : decode M_Mo_start.2.1 152 = .ok (.if_icmp .ge 17, 3) := by decide +kernel
theorem d_Mo_start_155 : decode M_Mo_start.2.1 155 = .ok (.aload_n 0, 1) := by decide +kernel
theorem d_Mo_start_156 : decode M_Mo_start.2.1 156 = .ok (.getfield 47, 3) := by decide +kernel
theorem d_Mo_start_159 : decode M_Mo_start.2.1 159 = .ok (.iload 8, 2) := by decide +kernel
theorem d_Mo_start_161 : decode M_Mo_start.2.1 161 = .ok (.iconst 0, 1) := by decide +kernel
theorem d_Mo_start_162 : decode M_Mo_start.2.1 162 = .ok (.bastore, 1) := by decide +kernel
theorem d_Mo_start_163 : decode M_Mo_start.2.1 163 = .ok (.iinc 8 1, 3) := by decide +kernel
theorem d_Mo_start_166 : decode M_Mo_start.2.1 166 = .ok (.goto (-19), 3) := by decide +kernel
theorem d_Mo_start_169 : decode M_Mo_start.2.1 169 = .ok (.iconst 0, 1) := by decide +kernel
theorem d_Mo_start_170 : decode M_Mo_start.2.1 170 = .ok (.istore 8, 2) := by decide +kernel
theorem d_Mo_start_172 : decode M_Mo_start.2.1 172 = .ok (.iload 8, 2) := by decide +kernel
theorem d_Mo_start_174 : decode M_Mo_start.2.1 174 = .ok (.sipush 144, 3) := by decide +kernel
theorem d_Mo_start_177 : decode M_Mo_start.2.1 177 = .ok (.if_icmp .ge 17, 3) := by decide +kernel
theorem d_Mo_start_180 : decode M_Mo_start.2.1 180 = .ok (.aload_n 0, 1) := by decide +kernel
theorem d_Mo_start_181 : decode M_Mo_start.2.1 181 = .ok (.getfield 44, 3) := by decide +kernel
theorem d_Mo_start_184 : decode M_Mo_start.2.1 184 = .ok (.iload 8, 2) := by decide +kernel
theorem d_Mo_start_186 : decode M_Mo_start.2.1 186 = .ok (.iconst 0, 1) := by decide +kernel
theorem d_Mo_start_187 : decode M_Mo_start.2.1 187 = .ok (.bastore, 1) := by decide +kernel
theorem d_Mo_start_188 : decode M_Mo_start.2.1 188 = .ok (.iinc 8 1, 3) := by decide +kernel
theorem d_Mo_start_191 : decode M_Mo_start.2.1 191 = .ok (.goto (-19), 3) := by decide +kernel
theorem d_Mo_start_194 : decode M_Mo_start.2.1 194 = .ok (.iconst 0, 1) := by decide +kernel
theorem d_Mo_start_195 : decode M_Mo_start.2.1 195 = .ok (.istore 8, 2) := by decide +kernel
theorem d_Mo_start_197 : decode M_Mo_start.2.1 197 = .ok (.iload 8, 2) := by decide +kernel
theorem d_Mo_start_199 : decode M_Mo_start.2.1 199 = .ok (.aload_n 0, 1) := by decide +kernel
theorem d_Mo_start_200 : decode M_Mo_start.2.1 200 = .ok (.getfield 84, 3) := by decide +kernel
theorem d_Mo_start_203 : decode M_Mo_start.2.1 203 = .ok (.if_icmp .ge 57, 3) := by decide +kernel
theorem d_Mo_start_206 : decode M_Mo_start.2.1 206 = .ok (.aload_n 0, 1) := by decide +kernel
theorem d_Mo_start_207 : decode M_Mo_start.2.1 207 = .ok (.getfield 35, 3) := by decide +kernel
theorem d_Mo_start_210 : decode M_Mo_start.2.1 210 = .ok (.iload 8, 2) := by decide +kernel
theorem d_Mo_start_212 : decode M_Mo_start.2.1 212 = .ok (.bipush (-2), 2) := by decide +kernel
theorem d_Mo_start_214 : decode M_Mo_start.2.1 214 = .ok (.iastore, 1) := by decide +kernel
theorem d_Mo_start_215 : decode M_Mo_start.2.1 215 = .ok (.aload_n 0, 1) := by decide +kernel
theorem d_Mo_start_216 : decode M_Mo_start.2.1 216 = .ok (.getfield 38, 3) := by decide +kernel
theorem d_Mo_start_219 : decode M_Mo_start.2.1 219 = .ok (.iload 8, 2) := by decide +kernel
theorem d_Mo_start_221 : decode M_Mo_start.2.1 221 = .ok (.iload 8, 2) := by decide +kernel
theorem d_Mo_start_223 : decode M_Mo_start.2.1 223 = .ok (.iastore, 1) := by decide +kernel
theorem d_Mo_start_224 : decode M_Mo_start.2.1 224 = .ok (.aload_n 0, 1) := by decide +kernel
theorem d_Mo_start_225 : decode M_Mo_start.2.1 225 = .ok (.iload 8, 2) := by decide +kernel
theorem d_Mo_start_227 : decode M_Mo_start.2.1 227 = .ok (.iload 8, 2) := by decide +kernel
theorem d_Mo_start_229 : decode M_Mo_start.2.1 229 = .ok (.invokevirtual 133, 3) := by decide +kernel
theorem d_Mo_start_232 : decode M_Mo_start.2.1 232 = .ok (.aload_n 0, 1) := by decide +kernel
theorem d_Mo_start_233 : decode M_Mo_start.2.1 233 = .ok (.getfield 59, 3) := by decide +kernel
theorem d_Mo_start_236 : decode M_Mo_start.2.1 236 = .ok (.iload 8, 2) := by decide +kernel
theorem d_Mo_start_238 : decode M_Mo_start.2.1 238 = .ok (.aload_n 0, 1) := by decide +kernel
theorem d_Mo_start_239 : decode M_Mo_start.2.1 239 = .ok (.getfield 53, 3) := by decide +kernel
theorem d_Mo_start_242 : decode M_Mo_start.2.1 242 = .ok (.iload 8, 2) := by decide +kernel
theorem d_Mo_start_244 : decode M_Mo_start.2.1 244 = .ok (.iaload, 1) := by decide +kernel
theorem d_Mo_start_245 : decode M_Mo_start.2.1 245 = .ok (.iastore, 1) := by decide +kernel
theorem d_Mo_start_246 : decode M_Mo_start.2.1 246 = .ok (.aload_n 0, 1) := by decide +kernel
theorem d_Mo_start_247 : decode M_Mo_start.2.1 247 = .ok (.getfield 16, 3) := by decide +kernel
theorem d_Mo_start_250 : decode M_Mo_start.2.1 250 = .ok (.iload 8, 2) := by decide +kernel
theorem d_Mo_start_252 : decode M_Mo_start.2.1 252 = .ok (.iconst 0, 1) := by decide +kernel
theorem d_Mo_start_253 : decode M_Mo_start.2.1 253 = .ok (.iastore, 1) := by decide +kernel
theorem d_Mo_start_254 : decode M_Mo_start.2.1 254 = .ok (.iinc 8 1, 3) := by decide +kernel
theorem d_Mo_start_257 : decode M_Mo_start.2.1 257 = .ok (.goto (-60), 3) := by decide +kernel
theorem d_Mo_start_260 : decode M_Mo_start.2.1 260 = .ok (.aload_n 0, 1) := by decide +kernel
theorem d_Mo_start_261 : decode M_Mo_start.2.1 261 = .ok (.getfield 152, 3) := by decide +kernel
theorem d_Mo_start_264 : decode M_Mo_start.2.1 264 = .ok (.iconst 1, 1) := by decide +kernel
theorem d_Mo_start_265 : decode M_Mo_start.2.1 265 = .ok (.if_icmp .ne 16, 3) := by decide +kernel
theorem d_Mo_start_268 : decode M_Mo_start.2.1 268 = .ok (.aload_n 0, 1) := by decide +kernel
theorem d_Mo_start_269 : decode M_Mo_start.2.1 269 = .ok (.aload_n 0, 1) := by decide +kernel
theorem d_Mo_start_270 : decode M_Mo_start.2.1 270 = .ok (.getfield 126, 3) := by decide +kernel
theorem d_Mo_start_273 : decode M_Mo_start.2.1 273 = .ok (.iload 7, 2) := by decide +kernel
theorem d_Mo_start_275 : decode M_Mo_start.2.1 275 = .ok (.invokevirtual 113, 3) := by decide +kernel
theorem d_Mo_start_278 : decode M_Mo_start.2.1 278 = .ok (.goto 17, 3) := by decide +kernel
theorem d_Mo_start_281 : decode M_Mo_start.2.1 281 = .ok (.aload_n 0, 1) := by decide +kernel
theorem d_Mo_start_282 : decode M_Mo_start.2.1 282 = .ok (.getfield 152, 3) := by decide +kernel
theorem d_Mo_start_285 : decode M_Mo_start.2.1 285 = .ok (.iconst 2, 1) := by decide +kernel
theorem d_Mo_start_286 : decode M_Mo_start.2.1 286 = .ok (.if_icmp .ne 9, 3) := by decide +kernel
theorem d_Mo_start_289 : decode M_Mo_start.2.1 289 = .ok (.aload_n 0, 1) := by decide +kernel
theorem d_Mo_start_290 : decode M_Mo_start.2.1 290 = .ok (.iload 4, 2) := by decide +kernel
theorem d_Mo_start_292 : decode M_Mo_start.2.1 292 = .ok (.invokevirtual 184, 3) := by decide +kernel
theorem d_Mo_start_295 : decode M_Mo_start.2.1 295 = .ok (.aload_n 0, 1) := by decide +kernel
theorem d_Mo_start_296 : decode M_Mo_start.2.1 296 = .ok (.invokevirtual 187, 3) := by decide +kernel
theorem d_Mo_start_299 : decode M_Mo_start.2.1 299 = .ok (.iconst 0, 1) := by decide +kernel
theorem d_Mo_start_300 : decode M_Mo_start.2.1 300 = .ok (.istore 8, 2) := by decide +kernel
theorem d_Mo_start_302 : decode M_Mo_start.2.1 302 = .ok (.iload 8, 2) := by decide +kernel
theorem d_Mo_start_304 : decode M_Mo_start.2.1 304 = .ok (.aload_n 0, 1) := by decide +kernel
theorem d_Mo_start_305 : decode M_Mo_start.2.1 305 = .ok (.getfield 84, 3) := by decide +kernel
theorem d_Mo_start_308 : decode M_Mo_start.2.1 308 = .ok (.if_icmp .ge 22, 3) := by decide +kernel
theorem d_Mo_start_311 : decode M_Mo_start.2.1 311 = .ok (.aload_n 0, 1) := by decide +kernel
theorem d_Mo_start_312 : decode M_Mo_start.2.1 312 = .ok (.iload 8, 2) := by decide +kernel
theorem d_Mo_start_314 : decode M_Mo_start.2.1 314 = .ok (.iconst 1, 1) := by decide +kernel
theorem d_Mo_start_315 : decode M_Mo_start.2.1 315 = .ok (.invokevirtual 178, 3) := by decide +kernel
theorem d_Mo_start_318 : decode M_Mo_start.2.1 318 = .ok (.aload_n 0, 1) := by decide +kernel
theorem d_Mo_start_319 : decode M_Mo_start.2.1 319 = .ok (.iload 8, 2) := by decide +kernel
theorem d_Mo_start_321 : decode M_Mo_start.2.1 321 = .ok (.invokevirtual 190, 3) := by decide +kernel
theorem d_Mo_start_324 : decode M_Mo_start.2.1 324 = .ok (.iinc 8 1, 3) := by decide +kernel
theorem d_Mo_start_327 : decode M_Mo_start.2.1 327 = .ok (.goto (-25), 3) := by decide +kernel
theorem d_Mo_start_330 : decode M_Mo_start.2.1 330 = .ok (.aload_n 0, 1) := by decide +kernel
theorem d_Mo_start_331 : decode M_Mo_start.2.1 331 = .ok (.getfield 143, 3) := by decide +kernel
theorem d_Mo_start_334 : decode M_Mo_start.2.1 334 = .ok (.ireturn, 1) := by decide +kernel
theorem d_Mo_handle_0 : decode M_Mo_handle.2.1 0 = .ok (.aload_n 0, 1) := by decide +kernel
theorem d_Mo_handle_1 : decode M_Mo_handle.2.1 1 = .ok (.getfield 65, 3) := by decide +kernel
theorem d_Mo_handle_4 : decode M_Mo_handle.2.1 4 = .ok (.iconst 5, 1) := by decide +kernel
theorem d_Mo_handle_5 : decode M_Mo_handle.2.1 5 = .ok (.iload_n 1, 1) := by decide +kernel
theorem d_Mo_handle_6 : decode M_Mo_handle.2.1 6 = .ok (.imul, 1) := by decide +kernel
theorem d_Mo_handle_7 : decode M_Mo_handle.2.1 7 = .ok (.iaload, 1) := by decide +kernel
theorem d_Mo_handle_8 : decode M_Mo_handle.2.1 8 = .ok (.istore_n 2, 1) := by decide +kernel
theorem d_Mo_handle_9 : decode M_Mo_handle.2.1 9 = .ok (.aload_n 0, 1) := by decide +kernel
theorem d_Mo_handle_10 : decode M_Mo_handle.2.1 10 = .ok (.getfield 65, 3) := by decide +kernel
theorem d_Mo_handle_13 : decode M_Mo_handle.2.1 13 = .ok (.iconst 5, 1) := by decide +kernel
theorem d_Mo_handle_14 : decode M_Mo_handle.2.1 14 = .ok (.iload_n 1, 1) := by decide +kernel
theorem d_Mo_handle_15 : decode M_Mo_handle.2.1 15 = .ok (.imul, 1) := by decide +kernel
theorem d_Mo_handle_16 : decode M_Mo_handle.2.1 16 = .ok (.iconst 1, 1) := by decide +kernel
theorem d_Mo_handle_17 : decode M_Mo_handle.2.1 17 = .ok (.iadd, 1) := by decide +kernel
theorem d_Mo_handle_18 : decode M_Mo_handle.2.1 18 = .ok (.iaload, 1) := by decide +kernel
theorem d_Mo_handle_19 : decode M_Mo_handle.2.1 19 = .ok (.istore_n 3, 1) := by decide +kernel
theorem d_Mo_handle_20 : decode M_Mo_handle.2.1 20 = .ok (.aload_n 0, 1) := by decide +kernel
theorem d_Mo_handle_21 : decode M_Mo_handle.2.1 21 = .ok (.getfield 65, 3) := by decide +kernel
theorem d_Mo_handle_24 : decode M_Mo_handle.2.1 24 = .ok (.iconst 5, 1) := by decide +kernel
theorem d_Mo_handle_25 : decode M_Mo_handle.2.1 25 = .ok (.iload_n 1, 1) := by decide +kernel
theorem d_Mo_handle_26 : decode M_Mo_handle.2.1 26 = .ok (.imul, 1) := by decide +kernel
theorem d_Mo_handle_27 : decode M_Mo_handle.2.1 27 = .ok (.iconst 2, 1) := by decide +kernel
theorem d_Mo_handle_28 : decode M_Mo_handle.2.1 28 = .ok (.iadd, 1) := by decide +kernel
theorem d_Mo_handle_29 : decode M_Mo_handle.2.1 29 = .ok (.iaload, 1) := by decide +kernel
theorem d_Mo_handle_30 : decode M_Mo_handle.2.1 30 = .ok (.istore 4, 2) := by decide +kernel
theorem d_Mo_handle_32 : decode M_Mo_handle.2.1 32 = .ok (.aload_n 0, 1) := by decide +kernel
theorem d_Mo_handle_33 : decode M_Mo_handle.2.1 33 = .ok (.getfield 65, 3) := by decide +kernel
theorem d_Mo_handle_36 : decode M_Mo_handle.2.1 36 = .ok (.iconst 5, 1) := by decide +kernel
theorem d_Mo_handle_37 : decode M_Mo_handle.2.1 37 = .ok (.iload_n 1, 1) := by decide +kernel
theorem d_Mo_handle_38 : decode M_Mo_handle.2.1 38 = .ok (.imul, 1) := by decide +kernel
theorem d_Mo_handle_39 : decode M_Mo_handle.2.1 39 = .ok (.iconst 3, 1) := by decide +kernel
theorem d_Mo_handle_40 : decode M_Mo_handle.2.1 40 = .ok (.iadd, 1) := by decide +kernel
theorem d_Mo_handle_41 : decode M_Mo_handle.2.1 41 = .ok (.iaload, 1) := by decide +kernel
theorem d_Mo_handle_42 : decode M_Mo_handle.2.1 42 = .ok (.istore 5, 2) := by decide +kernel
theorem d_Mo_handle_44 : decode M_Mo_handle.2.1 44 = .ok (.aload_n 0, 1) := by decide +kernel
theorem d_Mo_handle_45 : decode M_Mo_handle.2.1 45 = .ok (.getfield 65, 3) := by decide +kernel
theorem d_Mo_handle_48 : decode M_Mo_handle.2.1 48 = .ok (.iconst 5, 1) := by decide +kernel
theorem d_Mo_handle_49 : decode M_Mo_handle.2.1 49 = .ok (.iload_n 1, 1) := by decide +kernel
theorem d_Mo_handle_50 : decode M_Mo_handle.2.1 50 = .ok (.imul, 1) := by decide +kernel
theorem d_Mo_handle_51 : decode M_Mo_handle.2.1 51 = .ok (.iconst 4, 1) := by decide +kernel
theorem d_Mo_handle_52 : decode M_Mo_handle.2.1 52 = .ok (.iadd, 1) := by decide +kernel
theorem d_Mo_handle_53 : decode M_Mo_handle.2.1 53 = .ok (.iaload, 1) := by decide +kernel
theorem d_Mo_handle_54 : decode M_Mo_handle.2.1 54 = .ok (.istore 6, 2) := by decide +kernel
theorem d_Mo_handle_56 : decode M_Mo_handle.2.1 56 = .ok (.iconst 5, 1) := by decide +kernel
theorem d_Mo_handle_57 : decode M_Mo_handle.2.1 57 = .ok (.iload_n 1, 1) := by decide +kernel
theorem d_Mo_handle_58 : decode M_Mo_handle.2.1 58 = .ok (.imul, 1) := by decide +kernel
theorem d_Mo_handle_59 : decode M_Mo_handle.2.1 59 = .ok (.istore 7, 2) := by decide +kernel
theorem d_Mo_handle_61 : decode M_Mo_handle.2.1 61 = .ok (.iload 7, 2) := by decide +kernel
theorem d_Mo_handle_63 : decode M_Mo_handle.2.1 63 = .ok (.iconst 5, 1) := by decide +kernel
theorem d_Mo_handle_64 : decode M_Mo_handle.2.1 64 = .ok (.iadd, 1) := by decide +kernel
theorem d_Mo_handle_65 : decode M_Mo_handle.2.1 65 = .ok (.iconst 5, 1) := by decide +kernel
theorem d_Mo_handle_66 : decode M_Mo_handle.2.1 66 = .ok (.aload_n 0, 1) := by decide +kernel
theorem d_Mo_handle_67 : decode M_Mo_handle.2.1 67 = .ok (.getfield 143, 3) := by decide +kernel
theorem d_Mo_handle_70 : decode M_Mo_handle.2.1 70 = .ok (.imul, 1) := by decide +kernel
theorem d_Mo_handle_71 : decode M_Mo_handle.2.1 71 = .ok (.if_icmp .ge 25, 3) := by decide +kernel
theorem d_Mo_handle_74 : decode M_Mo_handle.2.1 74 = .ok (.aload_n 0, 1) := by decide +kernel
theorem d_Mo_handle_75 : decode M_Mo_handle.2.1 75 = .ok (.getfield 65, 3) := by decide +kernel
theorem d_Mo_handle_78 : decode M_Mo_handle.2.1 78 = .ok (.iload 7, 2) := by decide +kernel
theorem d_Mo_handle_80 : decode M_Mo_handle.2.1 80 = .ok (.aload_n 0, 1) := by decide +kernel
theorem d_Mo_handle_81 : decode M_Mo_handle.2.1 81 = .ok (.getfield 65, 3) := by decide +kernel
theorem d_Mo_handle_84 : decode M_Mo_handle.2.1 84 = .ok (.iload 7, 2) := by decide +kernel
theorem d_Mo_handle_86 : decode M_Mo_handle.2.1 86 = .ok (.iconst 5, 1) := by decide +kernel
theorem d_Mo_handle_87 : decode M_Mo_handle.2.1 87 = .ok (.iadd, 1) := by decide +kernel
theorem d_Mo_handle_88 : decode M_Mo_handle.2.1 88 = .ok (.iaload, 1) := by decide +kernel
theorem d_Mo_handle_89 : decode M_Mo_handle.2.1 89 = .ok (.iastore, 1) := by decide +kernel
theorem d_Mo_handle_90 : decode M_Mo_handle.2.1 90 = .ok (.iinc 7 1, 3) := by decide +kernel
theorem d_Mo_handle_93 : decode M_Mo_handle.2.1 93 = .ok (.goto (-32), 3) := by decide +kernel
theorem d_Mo_handle_96 : decode M_Mo_handle.2.1 96 = .ok (.aload_n 0, 1) := by decide +kernel
theorem d_Mo_handle_97 : decode M_Mo_handle.2.1 97 = .ok (.dup, 1) := by decide +kernel
theorem d_Mo_handle_98 : decode M_Mo_handle.2.1 98 = .ok (.getfield 143, 3) := by decide +kernel
theorem d_Mo_handle_101 : decode M_Mo_handle.2.1 101 = .ok (.iconst 1, 1) := by decide +kernel
theorem d_Mo_handle_102 : decode M_Mo_handle.2.1 102 = .ok (.isub, 1) := by decide +kernel
theorem d_Mo_handle_103 : decode M_Mo_handle.2.1 103 = .ok (.putfield 143, 3) := by decide +kernel
theorem d_Mo_handle_106 : decode M_Mo_handle.2.1 106 = .ok (.iload_n 2, 1) := by decide +kernel
theorem d_Mo_handle_107 : decode M_Mo_handle.2.1 107 = .ok (.tableswitch 117 0 5 #[37, 83, 117, 117, 97, 108], 37) := by decide +kernel
theorem d_Mo_handle_144 : decode M_Mo_handle.2.1 144 = .ok (.aload_n 0, 1) := by decide +kernel
theorem d_Mo_handle_145 : decode M_Mo_handle.2.1 145 = .ok (.getfield 47, 3) := by decide +kernel
theorem d_Mo_handle_148 : decode M_Mo_handle.2.1 148 = .ok (.aload_n 0, 1) := by decide +kernel
theorem d_Mo_handle_149 : decode M_Mo_handle.2.1 149 = .ok (.iconst 0, 1) := by decide +kernel
theorem d_Mo_handle_150 : decode M_Mo_handle.2.1 150 = .ok (.iload 4, 2) := by decide +kernel
theorem d_Mo_handle_152 : decode M_Mo_handle.2.1 152 = .ok (.iload_n 3, 1) := by decide +kernel
theorem d_Mo_handle_153 : decode M_Mo_handle.2.1 153 = .ok (.iload 5, 2) := by decide +kernel
theorem d_Mo_handle_155 : decode M_Mo_handle.2.1 155 = .ok (.invokevirtual 162, 3) := by decide +kernel
theorem d_Mo_handle_158 : decode M_Mo_handle.2.1 158 = .ok (.iconst 1, 1) := by decide +kernel
theorem d_Mo_handle_159 : decode M_Mo_handle.2.1 159 = .ok (.bastore, 1) := by decide +kernel
theorem d_Mo_handle_160 : decode M_Mo_handle.2.1 160 = .ok (.aload_n 0, 1) := by decide +kernel
theorem d_Mo_handle_161 : decode M_Mo_handle.2.1 161 = .ok (.getfield 50, 3) := by decide +kernel
theorem d_Mo_handle_164 : decode M_Mo_handle.2.1 164 = .ok (.aload_n 0, 1) := by decide +kernel
theorem d_Mo_handle_165 : decode M_Mo_handle.2.1 165 = .ok (.iconst 0, 1) := by decide +kernel
theorem d_Mo_handle_166 : decode M_Mo_handle.2.1 166 = .ok (.iload 4, 2) := by decide +kernel
theorem d_Mo_handle_168 : decode M_Mo_handle.2.1 168 = .ok (.iload_n 3, 1) := by decide +kernel
theorem d_Mo_handle_169 : decode M_Mo_handle.2.1 169 = .ok (.iload 5, 2) := by decide +kernel
theorem d_Mo_handle_171 : decode M_Mo_handle.2.1 171 = .ok (.invokevirtual 162, 3) := by decide +kernel
theorem d_Mo_handle_174 : decode M_Mo_handle.2.1 174 = .ok (.iload 6, 2) := by decide +kernel
theorem d_Mo_handle_176 : decode M_Mo_handle.2.1 176 = .ok (.iastore, 1) := by decide +kernel
theorem d_Mo_handle_177 : decode M_Mo_handle.2.1 177 = .ok (.aload_n 0, 1) := by decide +kernel
theorem d_Mo_handle_178 : decode M_Mo_handle.2.1 178 = .ok (.iconst 1, 1) := by decide +kernel
theorem d_Mo_handle_179 : decode M_Mo_handle.2.1 179 = .ok (.iload 4, 2) := by decide +kernel
theorem d_Mo_handle_181 : decode M_Mo_handle.2.1 181 = .ok (.iload_n 3, 1) := by decide +kernel
theorem d_Mo_handle_182 : decode M_Mo_handle.2.1 182 = .ok (.iload 5, 2) := by decide +kernel
theorem d_Mo_handle_184 : decode M_Mo_handle.2.1 184 = .ok (.iconst 0, 1) := by decide +kernel
theorem d_Mo_handle_185 : decode M_Mo_handle.2.1 185 = .ok (.invokevirtual 158, 3) := by decide +kernel
theorem d_Mo_handle_188 : decode M_Mo_handle.2.1 188 = .ok (.iload_n 2, 1) := by decide +kernel
theorem d_Mo_handle_189 : decode M_Mo_handle.2.1 189 = .ok (.ireturn, 1) := by decide +kernel
theorem d_Mo_handle_190 : decode M_Mo_handle.2.1 190 = .ok (.aload_n 0, 1) := by decide +kernel
theorem d_Mo_handle_191 : decode M_Mo_handle.2.1 191 = .ok (.getfield 19, 3) := by decide +kernel
theorem d_Mo_handle_194 : decode M_Mo_handle.2.1 194 = .ok (.iload 4, 2) := by decide +kernel
theorem d_Mo_handle_196 : decode M_Mo_handle.2.1 196 = .ok (.dup2, 1) := by decide +kernel
theorem d_Mo_handle_197 : decode M_Mo_handle.2.1 197 = .ok (.iaload, 1) := by decide +kernel
theorem d_Mo_handle_198 : decode M_Mo_handle.2.1 198 = .ok (.iconst 1, 1) := by decide +kernel
theorem d_Mo_handle_199 : decode M_Mo_handle.2.1 199 = .ok (.isub, 1) := by decide +kernel
theorem d_Mo_handle_200 : decode M_Mo_handle.2.1 200 = .ok (.iastore, 1) := by decide +kernel
theorem d_Mo_handle_201 : decode M_Mo_handle.2.1 201 = .ok (.goto 57, 3) := by decide +kernel
theorem d_Mo_handle_204 : decode M_Mo_handle.2.1 204 = .ok (.aload_n 0, 1) := by decide +kernel
theorem d_Mo_handle_205 : decode M_Mo_handle.2.1 205 = .ok (.iload 4, 2) := by decide +kernel
theorem d_Mo_handle_207 : decode M_Mo_handle.2.1 207 = .ok (.iload 5, 2) := by decide +kernel
theorem d_Mo_handle_209 : decode M_Mo_handle.2.1 209 = .ok (.invokevirtual 178, 3) := by decide +kernel
theorem d_Mo_handle_212 : decode M_Mo_handle.2.1 212 = .ok (.goto 46, 3) := by decide +kernel
theorem d_Mo_handle_215 : decode M_Mo_handle.2.1 215 = .ok (.aload_n 0, 1) := by decide +kernel
theorem d_Mo_handle_216 : decode M_Mo_handle.2.1 216 = .ok (.iload 4, 2) := by decide +kernel
theorem d_Mo_handle_218 : decode M_Mo_handle.2.1 218 = .ok (.invokevirtual 174, 3) := by decide +kernel
theorem d_Mo_handle_221 : decode M_Mo_handle.2.1 221 = .ok (.goto 37, 3) := by decide +kernel
theorem d_Mo_handle_224 : decode M_Mo_handle.2.1 224 = .ok (.aload_n 0, 1) := by decide +kernel
theorem d_Mo_handle_225 : decode M_Mo_handle.2.1 225 = .ok (.getfield 47, 3) := by decide +kernel
theorem d_Mo_handle_228 : decode M_Mo_handle.2.1 228 = .ok (.aload_n 0, 1) := by decide +kernel
theorem d_Mo_handle_229 : decode M_Mo_handle.2.1 229 = .ok (.iload_n 2, 1) := by decide +kernel
theorem d_Mo_handle_230 : decode M_Mo_handle.2.1 230 = .ok (.iconst 2, 1) := by decide +kernel
theorem d_Mo_handle_231 : decode M_Mo_handle.2.1 231 = .ok (.if_icmp .ne 7, 3) := by decide +kernel
theorem d_Mo_handle_234 : decode M_Mo_handle.2.1 234 = .ok (.iconst 1, 1) := by decide +kernel
theorem d_Mo_handle_235 : decode M_Mo_handle.2.1 235 = .ok (.goto 13, 3) := by decide +kernel
theorem d_Mo_handle_238 : decode M_Mo_handle.2.1 238 = .ok (.iload_n 2, 1) := by decide +kernel
theorem d_Mo_handle_239 : decode M_Mo_handle.2.1 239 = .ok (.iconst 3, 1) := by decide +kernel
theorem d_Mo_handle_240 : decode M_Mo_handle.2.1 240 = .ok (.if_icmp .ne 7, 3) := by decide +kernel
theorem d_Mo_handle_243 : decode M_Mo_handle.2.1 243 = .ok (.iconst 2, 1) := by decide +kernel
theorem d_Mo_handle_244 : decode M_Mo_handle.2.1 244 = .ok (.goto 4, 3) := by decide +kernel
theorem d_Mo_handle_247 : decode M_Mo_handle.2.1 247 = .ok (.iconst 3, 1) := by decide +kernel
theorem d_Mo_handle_248 : decode M_Mo_handle.2.1 248 = .ok (.iload 4, 2) := by decide +kernel
theorem d_Mo_handle_250 : decode M_Mo_handle.2.1 250 = .ok (.iload_n 3, 1) := by decide +kernel
theorem d_Mo_handle_251 : decode M_Mo_handle.2.1 251 = .ok (.iload 5, 2) := by decide +kernel
theorem d_Mo_handle_253 : decode M_Mo_handle.2.1 253 = .ok (.invokevirtual 162, 3) := by decide +kernel
theorem d_Mo_handle_256 : decode M_Mo_handle.2.1 256 = .ok (.iconst 1, 1) := by decide +kernel
theorem d_Mo_handle_257 : decode M_Mo_handle.2.1 257 = .ok (.bastore, 1) := by decide +kernel
theorem d_Mo_handle_258 : decode M_Mo_handle.2.1 258 = .ok (.aload_n 0, 1) := by decide +kernel
theorem d_Mo_handle_259 : decode M_Mo_handle.2.1 259 = .ok (.iload 4, 2) := by decide +kernel
theorem d_Mo_handle_261 : decode M_Mo_handle.2.1 261 = .ok (.invokevirtual 190, 3) := by decide +kernel
theorem d_Mo_handle_264 : decode M_Mo_handle.2.1 264 = .ok (.iload_n 2, 1) := by decide +kernel
theorem d_Mo_handle_265 : decode M_Mo_handle.2.1 265 = .ok (.ireturn, 1) := by decide +kernel
