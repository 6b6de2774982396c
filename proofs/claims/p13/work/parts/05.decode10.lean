theorem d_Mo_come_0 : decode M_Mo_come.2.1 0 = .ok (.aload_n 0, 1) := by decide +kernel
theorem d_Mo_come_1 : decode M_Mo_come.2.1 1 = .ok (.getfield 91, 3) := by decide +kernel
theorem d_Mo_come_4 : decode M_Mo_come.2.1 4 = .ok (.ifCond .eq 15, 3) := by decide +kernel
theorem d_Mo_come_7 : decode M_Mo_come.2.1 7 = .ok (.iload_n 1, 1) := by decide +kernel
theorem d_Mo_come_8 : decode M_Mo_come.2.1 8 = .ok (.ifCond .lt 11, 3) := by decide +kernel
theorem d_Mo_come_11 : decode M_Mo_come.2.1 11 = .ok (.iload_n 1, 1) := by decide +kernel
theorem d_Mo_come_12 : decode M_Mo_come.2.1 12 = .ok (.aload_n 0, 1) := by decide +kernel
theorem d_Mo_come_13 : decode M_Mo_come.2.1 13 = .ok (.getfield 143, 3) := by decide +kernel
theorem d_Mo_come_16 : decode M_Mo_come.2.1 16 = .ok (.if_icmp .lt 7, 3) := by decide +kernel
theorem d_Mo_come_19 : decode M_Mo_come.2.1 19 = .ok (.iconst (-1), 1) := by decide +kernel
theorem d_Mo_come_20 : decode M_Mo_come.2.1 20 = .ok (.goto 8, 3) := by decide +kernel
theorem d_Mo_come_23 : decode M_Mo_come.2.1 23 = .ok (.aload_n 0, 1) := by decide +kernel
theorem d_Mo_come_24 : decode M_Mo_come.2.1 24 = .ok (.iload_n 1, 1) := by decide +kernel
theorem d_Mo_come_25 : decode M_Mo_come.2.1 25 = .ok (.invokevirtual 193, 3) := by decide +kernel
theorem d_Mo_come_28 : decode M_Mo_come.2.1 28 = .ok (.ireturn, 1) := by decide +kernel
theorem d_Mo_flow_0 : decode M_Mo_flow.2.1 0 = .ok (.aload_n 0, 1) := by decide +kernel
theorem d_Mo_flow_1 : decode M_Mo_flow.2.1 1 = .ok (.getfield 91, 3) := by decide +kernel
theorem d_Mo_flow_4 : decode M_Mo_flow.2.1 4 = .ok (.ifCond .eq 18, 3) := by decide +kernel
theorem d_Mo_flow_7 : decode M_Mo_flow.2.1 7 = .ok (.iload_n 1, 1) := by decide +kernel
theorem d_Mo_flow_8 : decode M_Mo_flow.2.1 8 = .ok (.ifCond .lt 14, 3) := by decide +kernel
theorem d_Mo_flow_11 : decode M_Mo_flow.2.1 11 = .ok (.iload_n 1, 1) := by decide +kernel
theorem d_Mo_flow_12 : decode M_Mo_flow.2.1 12 = .ok (.sipush 3000, 3) := by decide +kernel
theorem d_Mo_flow_15 : decode M_Mo_flow.2.1 15 = .ok (.if_icmp .gt 7, 3) := by decide +kernel
theorem d_Mo_flow_18 : decode M_Mo_flow.2.1 18 = .ok (.iload_n 2, 1) := by decide +kernel
theorem d_Mo_flow_19 : decode M_Mo_flow.2.1 19 = .ok (.ifCond .ge 5, 3) := by decide +kernel
theorem d_Mo_flow_22 : decode M_Mo_flow.2.1 22 = .ok (.iconst (-1), 1) := by decide +kernel
theorem d_Mo_flow_23 : decode M_Mo_flow.2.1 23 = .ok (.ireturn, 1) := by decide +kernel
theorem d_Mo_flow_24 : decode M_Mo_flow.2.1 24 = .ok (.iload_n 2, 1) := by decide +kernel
theorem d_Mo_flow_25 : decode M_Mo_flow.2.1 25 = .ok (.i2l, 1) := by decide +kernel
theorem d_Mo_flow_26 : decode M_Mo_flow.2.1 26 = .ok (.lstore_n 3, 1) := by decide +kernel
theorem d_Mo_flow_27 : decode M_Mo_flow.2.1 27 = .ok (.iconst 0, 1) := by decide +kernel
theorem d_Mo_flow_28 : decode M_Mo_flow.2.1 28 = .ok (.istore 5, 2) := by decide +kernel
theorem d_Mo_flow_30 : decode M_Mo_flow.2.1 30 = .ok (.iload 5, 2) := by decide +kernel
theorem d_Mo_flow_32 : decode M_Mo_flow.2.1 32 = .ok (.iload_n 1, 1) := by decide +kernel
theorem d_Mo_flow_33 : decode M_Mo_flow.2.1 33 = .ok (.if_icmp .ge 42, 3) := by decide +kernel
theorem d_Mo_flow_36 : decode M_Mo_flow.2.1 36 = .ok (.aload_n 0, 1) := by decide +kernel
theorem d_Mo_flow_37 : decode M_Mo_flow.2.1 37 = .ok (.getfield 143, 3) := by decide +kernel
theorem d_Mo_flow_40 : decode M_Mo_flow.2.1 40 = .ok (.ifCond .le 35, 3) := by decide +kernel
theorem d_Mo_flow_43 : decode M_Mo_flow.2.1 43 = .ok (.aload_n 0, 1) := by decide +kernel
theorem d_Mo_flow_44 : decode M_Mo_flow.2.1 44 = .ok (.lload_n 3, 1) := by decide +kernel
theorem d_Mo_flow_45 : decode M_Mo_flow.2.1 45 = .ok (.aload_n 0, 1) := by decide +kernel
theorem d_Mo_flow_46 : decode M_Mo_flow.2.1 46 = .ok (.getfield 143, 3) := by decide +kernel
theorem d_Mo_flow_49 : decode M_Mo_flow.2.1 49 = .ok (.i2l, 1) := by decide +kernel
theorem d_Mo_flow_50 : decode M_Mo_flow.2.1 50 = .ok (.lrem, 1) := by decide +kernel
theorem d_Mo_flow_51 : decode M_Mo_flow.2.1 51 = .ok (.l2i, 1) := by decide +kernel
theorem d_Mo_flow_52 : decode M_Mo_flow.2.1 52 = .ok (.invokevirtual 193, 3) := by decide +kernel
theorem d_Mo_flow_55 : decode M_Mo_flow.2.1 55 = .ok (.istore 6, 2) := by decide +kernel
theorem d_Mo_flow_57 : decode M_Mo_flow.2.1 57 = .ok (.ldc2_w 196, 3) := by decide +kernel
theorem d_Mo_flow_60 : decode M_Mo_flow.2.1 60 = .ok (.lload_n 3, 1) := by decide +kernel
theorem d_Mo_flow_61 : decode M_Mo_flow.2.1 61 = .ok (.lmul, 1) := by decide +kernel
theorem d_Mo_flow_62 : decode M_Mo_flow.2.1 62 = .ok (.lconst 1, 1) := by decide +kernel
theorem d_Mo_flow_63 : decode M_Mo_flow.2.1 63 = .ok (.ladd, 1) := by decide +kernel
theorem d_Mo_flow_64 : decode M_Mo_flow.2.1 64 = .ok (.ldc2_w 198, 3) := by decide +kernel
theorem d_Mo_flow_67 : decode M_Mo_flow.2.1 67 = .ok (.lrem, 1) := by decide +kernel
theorem d_Mo_flow_68 : decode M_Mo_flow.2.1 68 = .ok (.lstore_n 3, 1) := by decide +kernel
theorem d_Mo_flow_69 : decode M_Mo_flow.2.1 69 = .ok (.iinc 5 1, 3) := by decide +kernel
theorem d_Mo_flow_72 : decode M_Mo_flow.2.1 72 = .ok (.goto (-42), 3) := by decide +kernel
theorem d_Mo_flow_75 : decode M_Mo_flow.2.1 75 = .ok (.iload 5, 2) := by decide +kernel
theorem d_Mo_flow_77 : decode M_Mo_flow.2.1 77 = .ok (.ireturn, 1) := by decide +kernel
theorem d_Mo_told_0 : decode M_Mo_told.2.1 0 = .ok (.aload_n 0, 1) := by decide +kernel
theorem d_Mo_told_1 : decode M_Mo_told.2.1 1 = .ok (.iload_n 1, 1) := by decide +kernel
theorem d_Mo_told_2 : decode M_Mo_told.2.1 2 = .ok (.invokevirtual 95, 3) := by decide +kernel
theorem d_Mo_told_5 : decode M_Mo_told.2.1 5 = .ok (.ifCond .ne 26, 3) := by decide +kernel
theorem d_Mo_told_8 : decode M_Mo_told.2.1 8 = .ok (.iload_n 2, 1) := by decide +kernel
theorem d_Mo_told_9 : decode M_Mo_told.2.1 9 = .ok (.ifCond .lt 22, 3) := by decide +kernel
theorem d_Mo_told_12 : decode M_Mo_told.2.1 12 = .ok (.iload_n 2, 1) := by decide +kernel
theorem d_Mo_told_13 : decode M_Mo_told.2.1 13 = .ok (.bipush 7, 2) := by decide +kernel
theorem d_Mo_told_15 : decode M_Mo_told.2.1 15 = .ok (.if_icmp .gt 16, 3) := by decide +kernel
theorem d_Mo_told_18 : decode M_Mo_told.2.1 18 = .ok (.aload_n 0, 1) := by decide +kernel
theorem d_Mo_told_19 : decode M_Mo_told.2.1 19 = .ok (.getfield 91, 3) := by decide +kernel
theorem d_Mo_told_22 : decode M_Mo_told.2.1 22 = .ok (.ifCond .ne 11, 3) := by decide +kernel
theorem d_Mo_told_25 : decode M_Mo_told.2.1 25 = .ok (.iload_n 2, 1) := by decide +kernel
theorem d_Mo_told_26 : decode M_Mo_told.2.1 26 = .ok (.bipush 7, 2) := by decide +kernel
theorem d_Mo_told_28 : decode M_Mo_told.2.1 28 = .ok (.if_icmp .ge 5, 3) := by decide +kernel
theorem d_Mo_told_31 : decode M_Mo_told.2.1 31 = .ok (.iconst (-1), 1) := by decide +kernel
theorem d_Mo_told_32 : decode M_Mo_told.2.1 32 = .ok (.ireturn, 1) := by decide +kernel
theorem d_Mo_told_33 : decode M_Mo_told.2.1 33 = .ok (.iconst 0, 1) := by decide +kernel
theorem d_Mo_told_34 : decode M_Mo_told.2.1 34 = .ok (.istore_n 3, 1) := by decide +kernel
theorem d_Mo_told_35 : decode M_Mo_told.2.1 35 = .ok (.iconst 0, 1) := by decide +kernel
theorem d_Mo_told_36 : decode M_Mo_told.2.1 36 = .ok (.istore 4, 2) := by decide +kernel
theorem d_Mo_told_38 : decode M_Mo_told.2.1 38 = .ok (.iload 4, 2) := by decide +kernel
theorem d_Mo_told_40 : decode M_Mo_told.2.1 40 = .ok (.aload_n 0, 1) := by decide +kernel
theorem d_Mo_told_41 : decode M_Mo_told.2.1 41 = .ok (.getfield 84, 3) := by decide +kernel
theorem d_Mo_told_44 : decode M_Mo_told.2.1 44 = .ok (.if_icmp .ge 27, 3) := by decide +kernel
theorem d_Mo_told_47 : decode M_Mo_told.2.1 47 = .ok (.iload_n 3, 1) := by decide +kernel
theorem d_Mo_told_48 : decode M_Mo_told.2.1 48 = .ok (.aload_n 0, 1) := by decide +kernel
theorem d_Mo_told_49 : decode M_Mo_told.2.1 49 = .ok (.iload_n 1, 1) := by decide +kernel
theorem d_Mo_told_50 : decode M_Mo_told.2.1 50 = .ok (.iload 4, 2) := by decide +kernel
theorem d_Mo_told_52 : decode M_Mo_told.2.1 52 = .ok (.invokevirtual 99, 3) := by decide +kernel
theorem d_Mo_told_55 : decode M_Mo_told.2.1 55 = .ok (.ifCond .eq 7, 3) := by decide +kernel
theorem d_Mo_told_58 : decode M_Mo_told.2.1 58 = .ok (.iconst 1, 1) := by decide +kernel
theorem d_Mo_told_59 : decode M_Mo_told.2.1 59 = .ok (.goto 4, 3) := by decide +kernel
theorem d_Mo_told_62 : decode M_Mo_told.2.1 62 = .ok (.iconst 0, 1) := by decide +kernel
theorem d_Mo_told_63 : decode M_Mo_told.2.1 63 = .ok (.iadd, 1) := by decide +kernel
theorem d_Mo_told_64 : decode M_Mo_told.2.1 64 = .ok (.istore_n 3, 1) := by decide +kernel
theorem d_Mo_told_65 : decode M_Mo_told.2.1 65 = .ok (.iinc 4 1, 3) := by decide +kernel
theorem d_Mo_told_68 : decode M_Mo_told.2.1 68 = .ok (.goto (-30), 3) := by decide +kernel
theorem d_Mo_told_71 : decode M_Mo_told.2.1 71 = .ok (.iload_n 2, 1) := by decide +kernel
theorem d_Mo_told_72 : decode M_Mo_told.2.1 72 = .ok (.tableswitch 101 0 6 #[44, 51, 58, 65, 72, 87, 94], 44) := by decide +kernel
theorem d_Mo_told_116 : decode M_Mo_told.2.1 116 = .ok (.aload_n 0, 1) := by decide +kernel
theorem d_Mo_told_117 : decode M_Mo_told.2.1 117 = .ok (.getfield 16, 3) := by decide +kernel
theorem d_Mo_told_120 : decode M_Mo_told.2.1 120 = .ok (.iload_n 1, 1) := by decide +kernel
theorem d_Mo_told_121 : decode M_Mo_told.2.1 121 = .ok (.iaload, 1) := by decide +kernel
theorem d_Mo_told_122 : decode M_Mo_told.2.1 122 = .ok (.ireturn, 1) := by decide +kernel
theorem d_Mo_told_123 : decode M_Mo_told.2.1 123 = .ok (.aload_n 0, 1) := by decide +kernel
theorem d_Mo_told_124 : decode M_Mo_told.2.1 124 = .ok (.getfield 53, 3) := by decide +kernel
theorem d_Mo_told_127 : decode M_Mo_told.2.1 127 = .ok (.iload_n 1, 1) := by decide +kernel
theorem d_Mo_told_128 : decode M_Mo_told.2.1 128 = .ok (.iaload, 1) := by decide +kernel
theorem d_Mo_told_129 : decode M_Mo_told.2.1 129 = .ok (.ireturn, 1) := by decide +kernel
theorem d_Mo_told_130 : decode M_Mo_told.2.1 130 = .ok (.aload_n 0, 1) := by decide +kernel
theorem d_Mo_told_131 : decode M_Mo_told.2.1 131 = .ok (.getfield 56, 3) := by decide +kernel
theorem d_Mo_told_134 : decode M_Mo_told.2.1 134 = .ok (.iload_n 1, 1) := by decide +kernel
theorem d_Mo_told_135 : decode M_Mo_told.2.1 135 = .ok (.iaload, 1) := by decide +kernel
theorem d_Mo_told_136 : decode M_Mo_told.2.1 136 = .ok (.ireturn, 1) := by decide +kernel
theorem d_Mo_told_137 : decode M_Mo_told.2.1 137 = .ok (.aload_n 0, 1) := by decide +kernel
theorem d_Mo_told_138 : decode M_Mo_told.2.1 138 = .ok (.getfield 19, 3) := by decide +kernel
theorem d_Mo_told_141 : decode M_Mo_told.2.1 141 = .ok (.iload_n 1, 1) := by decide +kernel
theorem d_Mo_told_142 : decode M_Mo_told.2.1 142 = .ok (.iaload, 1) := by decide +kernel
theorem d_Mo_told_143 : decode M_Mo_told.2.1 143 = .ok (.ireturn, 1) := by decide +kernel
theorem d_Mo_told_144 : decode M_Mo_told.2.1 144 = .ok (.aload_n 0, 1) := by decide +kernel
theorem d_Mo_told_145 : decode M_Mo_told.2.1 145 = .ok (.getfield 22, 3) := by decide +kernel
theorem d_Mo_told_148 : decode M_Mo_told.2.1 148 = .ok (.iload_n 1, 1) := by decide +kernel
theorem d_Mo_told_149 : decode M_Mo_told.2.1 149 = .ok (.baload, 1) := by decide +kernel
theorem d_Mo_told_150 : decode M_Mo_told.2.1 150 = .ok (.ifCond .eq 7, 3) := by decide +kernel
theorem d_Mo_told_153 : decode M_Mo_told.2.1 153 = .ok (.iconst 1, 1) := by decide +kernel
theorem d_Mo_told_154 : decode M_Mo_told.2.1 154 = .ok (.goto 4, 3) := by decide +kernel
theorem d_Mo_told_157 : decode M_Mo_told.2.1 157 = .ok (.iconst 0, 1) := by decide +kernel
theorem d_Mo_told_158 : decode M_Mo_told.2.1 158 = .ok (.ireturn, 1) := by decide +kernel
theorem d_Mo_told_159 : decode M_Mo_told.2.1 159 = .ok (.aload_n 0, 1) := by decide +kernel
theorem d_Mo_told_160 : decode M_Mo_told.2.1 160 = .ok (.getfield 35, 3) := by decide +kernel
theorem d_Mo_told_163 : decode M_Mo_told.2.1 163 = .ok (.iload_n 1, 1) := by decide +kernel
theorem d_Mo_told_164 : decode M_Mo_told.2.1 164 = .ok (.iaload, 1) := by decide +kernel
theorem d_Mo_told_165 : decode M_Mo_told.2.1 165 = .ok (.ireturn, 1) := by decide +kernel
theorem d_Mo_told_166 : decode M_Mo_told.2.1 166 = .ok (.aload_n 0, 1) := by decide +kernel
theorem d_Mo_told_167 : decode M_Mo_told.2.1 167 = .ok (.getfield 38, 3) := by decide +kernel
theorem d_Mo_told_170 : decode M_Mo_told.2.1 170 = .ok (.iload_n 1, 1) := by decide +kernel
theorem d_Mo_told_171 : decode M_Mo_told.2.1 171 = .ok (.iaload, 1) := by decide +kernel
theorem d_Mo_told_172 : decode M_Mo_told.2.1 172 = .ok (.ireturn, 1) := by decide +kernel
theorem d_Mo_told_173 : decode M_Mo_told.2.1 173 = .ok (.iload_n 3, 1) := by decide +kernel
theorem d_Mo_told_174 : decode M_Mo_told.2.1 174 = .ok (.ireturn, 1) := by decide +kernel
theorem d_Mo_noPlace_0 : decode M_Mo_noPlace.2.1 0 = .ok (.aload_n 0, 1) := by decide +kernel
theorem d_Mo_noPlace_1 : decode M_Mo_noPlace.2.1 1 = .ok (.getfield 91, 3) := by decide +kernel
theorem d_Mo_noPlace_4 : decode M_Mo_noPlace.2.1 4 = .ok (.ifCond .eq 23, 3) := by decide +kernel
theorem d_Mo_noPlace_7 : decode M_Mo_noPlace.2.1 7 = .ok (.aload_n 0, 1) := by decide +kernel
theorem d_Mo_noPlace_8 : decode M_Mo_noPlace.2.1 8 = .ok (.iload_n 1, 1) := by decide +kernel
theorem d_Mo_noPlace_9 : decode M_Mo_noPlace.2.1 9 = .ok (.invokevirtual 95, 3) := by decide +kernel
theorem d_Mo_noPlace_12 : decode M_Mo_noPlace.2.1 12 = .ok (.ifCond .ne 15, 3) := by decide +kernel
theorem d_Mo_noPlace_15 : decode M_Mo_noPlace.2.1 15 = .ok (.iload_n 2, 1) := by decide +kernel
theorem d_Mo_noPlace_16 : decode M_Mo_noPlace.2.1 16 = .ok (.ifCond .lt 11, 3) := by decide +kernel
theorem d_Mo_noPlace_19 : decode M_Mo_noPlace.2.1 19 = .ok (.iload_n 2, 1) := by decide +kernel
theorem d_Mo_noPlace_20 : decode M_Mo_noPlace.2.1 20 = .ok (.aload_n 0, 1) := by decide +kernel
theorem d_Mo_noPlace_21 : decode M_Mo_noPlace.2.1 21 = .ok (.getfield 136, 3) := by decide +kernel
theorem d_Mo_noPlace_24 : decode M_Mo_noPlace.2.1 24 = .ok (.if_icmp .le 7, 3) := by decide +kernel
theorem d_Mo_noPlace_27 : decode M_Mo_noPlace.2.1 27 = .ok (.iconst 1, 1) := by decide +kernel
theorem d_Mo_noPlace_28 : decode M_Mo_noPlace.2.1 28 = .ok (.goto 4, 3) := by decide +kernel
theorem d_Mo_noPlace_31 : decode M_Mo_noPlace.2.1 31 = .ok (.iconst 0, 1) := by decide +kernel
theorem d_Mo_noPlace_32 : decode M_Mo_noPlace.2.1 32 = .ok (.ireturn, 1) := by decide +kernel
theorem d_Mo_past_0 : decode M_Mo_past.2.1 0 = .ok (.aload_n 0, 1) := by decide +kernel
theorem d_Mo_past_1 : decode M_Mo_past.2.1 1 = .ok (.iload_n 1, 1) := by decide +kernel
theorem d_Mo_past_2 : decode M_Mo_past.2.1 2 = .ok (.iload_n 2, 1) := by decide +kernel
theorem d_Mo_past_3 : decode M_Mo_past.2.1 3 = .ok (.invokevirtual 200, 3) := by decide +kernel
theorem d_Mo_past_6 : decode M_Mo_past.2.1 6 = .ok (.ifCond .eq 7, 3) := by decide +kernel
theorem d_Mo_past_9 : decode M_Mo_past.2.1 9 = .ok (.iconst (-1), 1) := by decide +kernel
theorem d_Mo_past_10 : decode M_Mo_past.2.1 10 = .ok (.goto 29, 3) := by decide +kernel
theorem d_Mo_past_13 : decode M_Mo_past.2.1 13 = .ok (.iload_n 2, 1) := by decide +kernel
theorem d_Mo_past_14 : decode M_Mo_past.2.1 14 = .ok (.aload_n 0, 1) := by decide +kernel
theorem d_Mo_past_15 : decode M_Mo_past.2.1 15 = .ok (.getfield 16, 3) := by decide +kernel
theorem d_Mo_past_18 : decode M_Mo_past.2.1 18 = .ok (.iload_n 1, 1) := by decide +kernel
theorem d_Mo_past_19 : decode M_Mo_past.2.1 19 = .ok (.iaload, 1) := by decide +kernel
theorem d_Mo_past_20 : decode M_Mo_past.2.1 20 = .ok (.if_icmp .le 8, 3) := by decide +kernel
theorem d_Mo_past_23 : decode M_Mo_past.2.1 23 = .ok (.bipush (-3), 2) := by decide +kernel
theorem d_Mo_past_25 : decode M_Mo_past.2.1 25 = .ok (.goto 14, 3) := by decide +kernel
theorem d_Mo_past_28 : decode M_Mo_past.2.1 28 = .ok (.aload_n 0, 1) := by decide +kernel
theorem d_Mo_past_29 : decode M_Mo_past.2.1 29 = .ok (.getfield 59, 3) := by decide +kernel
theorem d_Mo_past_32 : decode M_Mo_past.2.1 32 = .ok (.bipush 12, 2) := by decide +kernel
theorem d_Mo_past_34 : decode M_Mo_past.2.1 34 = .ok (.iload_n 2, 1) := by decide +kernel
theorem d_Mo_past_35 : decode M_Mo_past.2.1 35 = .ok (.imul, 1) := by decide +kernel
theorem d_Mo_past_36 : decode M_Mo_past.2.1 36 = .ok (.iload_n 1, 1) := by decide +kernel
theorem d_Mo_past_37 : decode M_Mo_past.2.1 37 = .ok (.iadd, 1) := by decide +kernel
theorem d_Mo_past_38 : decode M_Mo_past.2.1 38 = .ok (.iaload, 1) := by decide +kernel
theorem d_Mo_past_39 : decode M_Mo_past.2.1 39 = .ok (.ireturn, 1) := by decide +kernel
theorem d_Mo_inStep_0 : decode M_Mo_inStep.2.1 0 = .ok (.aload_n 0, 1) := by decide +kernel
theorem d_Mo_inStep_1 : decode M_Mo_inStep.2.1 1 = .ok (.iload_n 1, 1) := by decide +kernel
theorem d_Mo_inStep_2 : decode M_Mo_inStep.2.1 2 = .ok (.iload_n 2, 1) := by decide +kernel
theorem d_Mo_inStep_3 : decode M_Mo_inStep.2.1 3 = .ok (.invokevirtual 200, 3) := by decide +kernel
theorem d_Mo_inStep_6 : decode M_Mo_inStep.2.1 6 = .ok (.ifCond .eq 7, 3) := by decide +kernel
theorem d_Mo_inStep_9 : decode M_Mo_inStep.2.1 9 = .ok (.iconst (-1), 1) := by decide +kernel
theorem d_Mo_inStep_10 : decode M_Mo_inStep.2.1 10 = .ok (.goto 14, 3) := by decide +kernel
theorem d_Mo_inStep_13 : decode M_Mo_inStep.2.1 13 = .ok (.aload_n 0, 1) := by decide +kernel
theorem d_Mo_inStep_14 : decode M_Mo_inStep.2.1 14 = .ok (.getfield 62, 3) := by decide +kernel
theorem d_Mo_inStep_17 : decode M_Mo_inStep.2.1 17 = .ok (.bipush 12, 2) := by decide +kernel
theorem d_Mo_inStep_19 : decode M_Mo_inStep.2.1 19 = .ok (.iload_n 2, 1) := by decide +kernel
theorem d_Mo_inStep_20 : decode M_Mo_inStep.2.1 20 = .ok (.imul, 1) := by decide +kernel
theorem d_Mo_inStep_21 : decode M_Mo_inStep.2.1 21 = .ok (.iload_n 1, 1) := by decide +kernel
theorem d_Mo_inStep_22 : decode M_Mo_inStep.2.1 22 = .ok (.iadd, 1) := by decide +kernel
theorem d_Mo_inStep_23 : decode M_Mo_inStep.2.1 23 = .ok (.iaload, 1) := by decide +kernel
theorem d_Mo_inStep_24 : decode M_Mo_inStep.2.1 24 = .ok (.ireturn, 1) := by decide +kernel
theorem d_Mo_differ_0 : decode M_Mo_differ.2.1 0 = .ok (.iconst 0, 1) := by decide +kernel
theorem d_Mo_differ_1 : decode M_Mo_differ.2.1 1 = .ok (.istore_n 1, 1) := by decide +kernel
theorem d_Mo_differ_2 : decode M_Mo_differ.2.1 2 = .ok (.iconst 0, 1) := by decide +kernel
theorem d_Mo_differ_3 : decode M_Mo_differ.2.1 3 = .ok (.istore_n 2, 1) := by decide +kernel
theorem d_Mo_differ_4 : decode M_Mo_differ.2.1 4 = .ok (.iload_n 2, 1) := by decide +kernel
theorem d_Mo_differ_5 : decode M_Mo_differ.2.1 5 = .ok (.aload_n 0, 1) := by decide +kernel
theorem d_Mo_differ_6 : decode M_Mo_differ.2.1 6 = .ok (.getfield 84, 3) := by decide +kernel
theorem d_Mo_differ_9 : decode M_Mo_differ.2.1 9 = .ok (.if_icmp .ge 67, 3) := by decide +kernel
theorem d_Mo_differ_12 : decode M_Mo_differ.2.1 12 = .ok (.aload_n 0, 1) := by decide +kernel
theorem d_Mo_differ_13 : decode M_Mo_differ.2.1 13 = .ok (.getfield 91, 3) := by decide +kernel
theorem d_Mo_differ_16 : decode M_Mo_differ.2.1 16 = .ok (.ifCond .eq 60, 3) := by decide +kernel
theorem d_Mo_differ_19 : decode M_Mo_differ.2.1 19 = .ok (.iconst 0, 1) := by decide +kernel
theorem d_Mo_differ_20 : decode M_Mo_differ.2.1 20 = .ok (.istore_n 3, 1) := by decide +kernel
theorem d_Mo_differ_21 : decode M_Mo_differ.2.1 21 = .ok (.iload_n 3, 1) := by decide +kernel
theorem d_Mo_differ_22 : decode M_Mo_differ.2.1 22 = .ok (.aload_n 0, 1) := by decide +kernel
theorem d_Mo_differ_23 : decode M_Mo_differ.2.1 23 = .ok (.getfield 16, 3) := by decide +kernel
theorem d_Mo_differ_26 : decode M_Mo_differ.2.1 26 = .ok (.iload_n 2, 1) := by decide +kernel
theorem d_Mo_differ_27 : decode M_Mo_differ.2.1 27 = .ok (.iaload, 1) := by decide +kernel
theorem d_Mo_differ_28 : decode M_Mo_differ.2.1 28 = .ok (.if_icmp .gt 42, 3) := by decide +kernel
theorem d_Mo_differ_31 : decode M_Mo_differ.2.1 31 = .ok (.iload_n 1, 1) := by decide +kernel
theorem d_Mo_differ_32 : decode M_Mo_differ.2.1 32 = .ok (.aload_n 0, 1) := by decide +kernel
theorem d_Mo_differ_33 : decode M_Mo_differ.2.1 33 = .ok (.getfield 59, 3) := by decide +kernel
theorem d_Mo_differ_36 : decode M_Mo_differ.2.1 36 = .ok (.bipush 12, 2) := by decide +kernel
theorem d_Mo_differ_38 : decode M_Mo_differ.2.1 38 = .ok (.iload_n 3, 1) := by decide +kernel
theorem d_Mo_differ_39 : decode M_Mo_differ.2.1 39 = .ok (.imul, 1) := by decide +kernel
theorem d_Mo_differ_40 : decode M_Mo_differ.2.1 40 = .ok (.iload_n 2, 1) := by decide +kernel
theorem d_Mo_differ_41 : decode M_Mo_differ.2.1 41 = .ok (.iadd, 1) := by decide +kernel
theorem d_Mo_differ_42 : decode M_Mo_differ.2.1 42 = .ok (.iaload, 1) := by decide +kernel
theorem d_Mo_differ_43 : decode M_Mo_differ.2.1 43 = .ok (.aload_n 0, 1) := by decide +kernel
theorem d_Mo_differ_44 : decode M_Mo_differ.2.1 44 = .ok (.getfield 62, 3) := by decide +kernel
theorem d_Mo_differ_47 : decode M_Mo_differ.2.1 47 = .ok (.bipush 12, 2) := by decide +kernel
theorem d_Mo_differ_49 : decode M_Mo_differ.2.1 49 = .ok (.iload_n 3, 1) := by decide +kernel
theorem d_Mo_differ_50 : decode M_Mo_differ.2.1 50 = .ok (.imul, 1) := by decide +kernel
theorem d_Mo_differ_51 : decode M_Mo_differ.2.1 51 = .ok (.iload_n 2, 1) := by decide +kernel
theorem d_Mo_differ_52 : decode M_Mo_differ.2.1 52 = .ok (.iadd, 1) := by decide +kernel
theorem d_Mo_differ_53 : decode M_Mo_differ.2.1 53 = .ok (.iaload, 1) := by decide +kernel
theorem d_Mo_differ_54 : decode M_Mo_differ.2.1 54 = .ok (.if_icmp .ne 7, 3) := by decide +kernel
theorem d_Mo_differ_57 : decode M_Mo_differ.2.1 57 = .ok (.iconst 0, 1) := by decide +kernel
theorem d_Mo_differ_58 : decode M_Mo_differ.2.1 58 = .ok (.goto 4, 3) := by decide +kernel
theorem d_Mo_differ_61 : decode M_Mo_differ.2.1 61 = .ok (.iconst 1, 1) := by decide +kernel
theorem d_Mo_differ_62 : decode M_Mo_differ.2.1 62 = .ok (.iadd, 1) := by decide +kernel
theorem d_Mo_differ_63 : decode M_Mo_differ.2.1 63 = .ok (.istore_n 1, 1) := by decide +kernel
theorem d_Mo_differ_64 : decode M_Mo_differ.2.1 64 = .ok (.iinc 3 1, 3) := by decide +kernel
theorem d_Mo_differ_67 : decode M_Mo_differ.2.1 67 = .ok (.goto (-46), 3) := by decide +kernel
theorem d_Mo_differ_70 : decode M_Mo_differ.2.1 70 = .ok (.iinc 2 1, 3) := by decide +kernel
theorem d_Mo_differ_73 : decode M_Mo_differ.2.1 73 = .ok (.goto (-69), 3) := by decide +kernel
theorem d_Mo_differ_76 : decode M_Mo_differ.2.1 76 = .ok (.aload_n 0, 1) := by decide +kernel
theorem d_Mo_differ_77 : decode M_Mo_differ.2.1 77 = .ok (.getfield 91, 3) := by decide +kernel
theorem d_Mo_differ_80 : decode M_Mo_differ.2.1 80 = .ok (.ifCond .eq 7, 3) := by decide +kernel
theorem d_Mo_differ_83 : decode M_Mo_differ.2.1 83 = .ok (.iload_n 1, 1) := by decide +kernel
theorem d_Mo_differ_84 : decode M_Mo_differ.2.1 84 = .ok (.goto 4, 3) := by decide +kernel
theorem d_Mo_differ_87 : decode M_Mo_differ.2.1 87 = .ok (.iconst (-1), 1) := by decide +kernel
theorem d_Mo_differ_88 : decode M_Mo_differ.2.1 88 = .ok (.ireturn, 1) := by decide +kernel
theorem d_Mo_letter_0 : decode M_Mo_letter.2.1 0 = .ok (.aload_n 0, 1) := by decide +kernel
theorem d_Mo_letter_1 : decode M_Mo_letter.2.1 1 = .ok (.getfield 91, 3) := by decide +kernel
theorem d_Mo_letter_4 : decode M_Mo_letter.2.1 4 = .ok (.ifCond .eq 24, 3) := by decide +kernel
theorem d_Mo_letter_7 : decode M_Mo_letter.2.1 7 = .ok (.iload_n 1, 1) := by decide +kernel
theorem d_Mo_letter_8 : decode M_Mo_letter.2.1 8 = .ok (.ifCond .lt 20, 3) := by decide +kernel
theorem d_Mo_letter_11 : decode M_Mo_letter.2.1 11 = .ok (.iload_n 1, 1) := by decide +kernel
theorem d_Mo_letter_12 : decode M_Mo_letter.2.1 12 = .ok (.aload_n 0, 1) := by decide +kernel
theorem d_Mo_letter_13 : decode M_Mo_letter.2.1 13 = .ok (.getfield 143, 3) := by decide +kernel
theorem d_Mo_letter_16 : decode M_Mo_letter.2.1 16 = .ok (.if_icmp .ge 12, 3) := by decide +kernel
theorem d_Mo_letter_19 : decode M_Mo_letter.2.1 19 = .ok (.iload_n 2, 1) := by decide +kernel
theorem d_Mo_letter_20 : decode M_Mo_letter.2.1 20 = .ok (.ifCond .lt 8, 3) := by decide +kernel
theorem d_Mo_letter_23 : decode M_Mo_letter.2.1 23 = .ok (.iload_n 2, 1) := by decide +kernel
theorem d_Mo_letter_24 : decode M_Mo_letter.2.1 24 = .ok (.iconst 4, 1) := by decide +kernel
theorem d_Mo_letter_25 : decode M_Mo_letter.2.1 25 = .ok (.if_icmp .le 7, 3) := by decide +kernel
theorem d_Mo_letter_28 : decode M_Mo_letter.2.1 28 = .ok (.iconst (-1), 1) := by decide +kernel
theorem d_Mo_letter_29 : decode M_Mo_letter.2.1 29 = .ok (.goto 13, 3) := by decide +kernel
theorem d_Mo_letter_32 : decode M_Mo_letter.2.1 32 = .ok (.aload_n 0, 1) := by decide +kernel
theorem d_Mo_letter_33 : decode M_Mo_letter.2.1 33 = .ok (.getfield 65, 3) := by decide +kernel
theorem d_Mo_letter_36 : decode M_Mo_letter.2.1 36 = .ok (.iconst 5, 1) := by decide +kernel
theorem d_Mo_letter_37 : decode M_Mo_letter.2.1 37 = .ok (.iload_n 1, 1) := by decide +kernel
theorem d_Mo_letter_38 : decode M_Mo_letter.2.1 38 = .ok (.imul, 1) := by decide +kernel
theorem d_Mo_letter_39 : decode M_Mo_letter.2.1 39 = .ok (.iload_n 2, 1) := by decide +kernel
theorem d_Mo_letter_40 : decode M_Mo_letter.2.1 40 = .ok (.iadd, 1) := by decide +kernel
theorem d_Mo_letter_41 : decode M_Mo_letter.2.1 41 = .ok (.iaload, 1) := by decide +kernel
theorem d_Mo_letter_42 : decode M_Mo_letter.2.1 42 = .ok (.ireturn, 1) := by decide +kernel
theorem d_Mo_count_0 : decode M_Mo_count.2.1 0 = .ok (.iload_n 1, 1) := by decide +kernel
theorem d_Mo_count_1 : decode M_Mo_count.2.1 1 = .ok (.ifCond .lt 21, 3) := by decide +kernel
theorem d_Mo_count_4 : decode M_Mo_count.2.1 4 = .ok (.iload_n 1, 1) := by decide +kernel
theorem d_Mo_count_5 : decode M_Mo_count.2.1 5 = .ok (.bipush 9, 2) := by decide +kernel
theorem d_Mo_count_7 : decode M_Mo_count.2.1 7 = .ok (.if_icmp .gt 15, 3) := by decide +kernel
theorem d_Mo_count_10 : decode M_Mo_count.2.1 10 = .ok (.iload_n 1, 1) := by decide +kernel
theorem d_Mo_count_11 : decode M_Mo_count.2.1 11 = .ok (.iconst 1, 1) := by decide +kernel
theorem d_Mo_count_12 : decode M_Mo_count.2.1 12 = .ok (.if_icmp .le 12, 3) := by decide +kernel
theorem d_Mo_count_15 : decode M_Mo_count.2.1 15 = .ok (.aload_n 0, 1) := by decide +kernel
theorem d_Mo_count_16 : decode M_Mo_count.2.1 16 = .ok (.getfield 91, 3) := by decide +kernel
theorem d_Mo_count_19 : decode M_Mo_count.2.1 19 = .ok (.ifCond .ne 5, 3) := by decide +kernel
theorem d_Mo_count_22 : decode M_Mo_count.2.1 22 = .ok (.iconst (-1), 1) := by decide +kernel
theorem d_Mo_count_23 : decode M_Mo_count.2.1 23 = .ok (.ireturn, 1) := by decide +kernel
theorem d_Mo_count_24 : decode M_Mo_count.2.1 24 = .ok (.bipush 99, 2) := by decide +kernel
theorem d_Mo_count_26 : decode M_Mo_count.2.1 26 = .ok (.istore_n 2, 1) := by decide +kernel
theorem d_Mo_count_27 : decode M_Mo_count.2.1 27 = .ok (.iconst 0, 1) := by decide +kernel
theorem d_Mo_count_28 : decode M_Mo_count.2.1 28 = .ok (.istore_n 3, 1) := by decide +kernel
theorem d_Mo_count_29 : decode M_Mo_count.2.1 29 = .ok (.iconst 0, 1) := by decide +kernel
theorem d_Mo_count_30 : decode M_Mo_count.2.1 30 = .ok (.istore 4, 2) := by decide +kernel
theorem d_Mo_count_32 : decode M_Mo_count.2.1 32 = .ok (.iload 4, 2) := by decide +kernel
theorem d_Mo_count_34 : decode M_Mo_count.2.1 34 = .ok (.aload_n 0, 1) := by decide +kernel
theorem d_Mo_count_35 : decode M_Mo_count.2.1 35 = .ok (.getfield 84, 3) := by decide +kernel
theorem d_Mo_count_38 : decode M_Mo_count.2.1 38 = .ok (.if_icmp .ge 55, 3) := by decide +kernel
theorem d_Mo_count_41 : decode M_Mo_count.2.1 41 = .ok (.aload_n 0, 1) := by decide +kernel
theorem d_Mo_count_42 : decode M_Mo_count.2.1 42 = .ok (.getfield 16, 3) := by decide +kernel
theorem d_Mo_count_45 : decode M_Mo_count.2.1 45 = .ok (.iload 4, 2) := by decide +kernel
theorem d_Mo_count_47 : decode M_Mo_count.2.1 47 = .ok (.iaload, 1) := by decide +kernel
theorem d_Mo_count_48 : decode M_Mo_count.2.1 48 = .ok (.iload_n 2, 1) := by decide +kernel
theorem d_Mo_count_49 : decode M_Mo_count.2.1 49 = .ok (.if_icmp .ge 13, 3) := by decide +kernel
theorem d_Mo_count_52 : decode M_Mo_count.2.1 52 = .ok (.aload_n 0, 1) := by decide +kernel
theorem d_Mo_count_53 : decode M_Mo_count.2.1 53 = .ok (.getfield 16, 3) := by decide +kernel
theorem d_Mo_count_56 : decode M_Mo_count.2.1 56 = .ok (.iload 4, 2) := by decide +kernel
theorem d_Mo_count_58 : decode M_Mo_count.2.1 58 = .ok (.iaload, 1) := by decide +kernel
theorem d_Mo_count_59 : decode M_Mo_count.2.1 59 = .ok (.goto 4, 3) := by decide +kernel
theorem d_Mo_count_62 : decode M_Mo_count.2.1 62 = .ok (.iload_n 2, 1) := by decide +kernel
theorem d_Mo_count_63 : decode M_Mo_count.2.1 63 = .ok (.istore_n 2, 1) := by decide +kernel
theorem d_Mo_count_64 : decode M_Mo_count.2.1 64 = .ok (.aload_n 0, 1) := by decide +kernel
theorem d_Mo_count_65 : decode M_Mo_count.2.1 65 = .ok (.getfield 16, 3) := by decide +kernel
theorem d_Mo_count_68 : decode M_Mo_count.2.1 68 = .ok (.iload 4, 2) := by decide +kernel
theorem d_Mo_count_70 : decode M_Mo_count.2.1 70 = .ok (.iaload, 1) := by decide +kernel
theorem d_Mo_count_71 : decode M_Mo_count.2.1 71 = .ok (.iload_n 3, 1) := by decide +kernel
theorem d_Mo_count_72 : decode M_Mo_count.2.1 72 = .ok (.if_icmp .le 13, 3) := by decide +kernel
theorem d_Mo_count_75 : decode M_Mo_count.2.1 75 = .ok (.aload_n 0, 1) := by decide +kernel
theorem d_Mo_count_76 : decode M_Mo_count.2.1 76 = .ok (.getfield 16, 3) := by decide +kernel
theorem d_Mo_count_79 : decode M_Mo_count.2.1 79 = .ok (.iload 4, 2) := by decide +kernel
theorem d_Mo_count_81 : decode M_Mo_count.2.1 81 = .ok (.iaload, 1) := by decide +kernel
theorem d_Mo_count_82 : decode M_Mo_count.2.1 82 = .ok (.goto 4, 3) := by decide +kernel
theorem d_Mo_count_85 : decode M_Mo_count.2.1 85 = .ok (.iload_n 3, 1) := by decide +kernel
theorem d_Mo_count_86 : decode M_Mo_count.2.1 86 = .ok (.istore_n 3, 1) := by decide +kernel
theorem d_Mo_count_87 : decode M_Mo_count.2.1 87 = .ok (.iinc 4 1, 3) := by decide +kernel
theorem d_Mo_count_90 : decode M_Mo_count.2.1 90 = .ok (.goto (-58), 3) := by decide +kernel
theorem d_Mo_count_93 : decode M_Mo_count.2.1 93 = .ok (.iload_n 1, 1) := by decide +kernel
theorem d_Mo_count_94 : decode M_Mo_count.2.1 94 = .ok (.tableswitch 105 0 8 #[50, 55, 60, 65, 70, 75, 77, 79, 100], 50) := by decide +kernel
theorem d_Mo_count_144 : decode M_Mo_count.2.1 144 = .ok (.aload_n 0, 1) := by decide +kernel
theorem d_Mo_count_145 : decode M_Mo_count.2.1 145 = .ok (.getfield 84, 3) := by decide +kernel
theorem d_Mo_count_148 : decode M_Mo_count.2.1 148 = .ok (.ireturn, 1) := by decide +kernel
theorem d_Mo_count_149 : decode M_Mo_count.2.1 149 = .ok (.aload_n 0, 1) := by decide +kernel
theorem d_Mo_count_150 : decode M_Mo_count.2.1 150 = .ok (.getfield 88, 3) := by decide +kernel
theorem d_Mo_count_153 : decode M_Mo_count.2.1 153 = .ok (.ireturn, 1) := by decide +kernel
theorem d_Mo_count_154 : decode M_Mo_count.2.1 154 = .ok (.aload_n 0, 1) := by decide +kernel
theorem d_Mo_count_155 : decode M_Mo_count.2.1 155 = .ok (.getfield 143, 3) := by decide +kernel
theorem d_Mo_count_158 : decode M_Mo_count.2.1 158 = .ok (.ireturn, 1) := by decide +kernel
theorem d_Mo_count_159 : decode M_Mo_count.2.1 159 = .ok (.aload_n 0, 1) := by decide +kernel
theorem d_Mo_count_160 : decode M_Mo_count.2.1 160 = .ok (.getfield 146, 3) := by decide +kernel
theorem d_Mo_count_163 : decode M_Mo_count.2.1 163 = .ok (.ireturn, 1) := by decide +kernel
theorem d_Mo_count_164 : decode M_Mo_count.2.1 164 = .ok (.aload_n 0, 1) := by decide +kernel
theorem d_Mo_count_165 : decode M_Mo_count.2.1 165 = .ok (.getfield 149, 3) := by decide +kernel
theorem d_Mo_count_168 : decode M_Mo_count.2.1 168 = .ok (.ireturn, 1) := by decide +kernel
theorem d_Mo_count_169 : decode M_Mo_count.2.1 169 = .ok (.iload_n 2, 1) := by decide +kernel
theorem d_Mo_count_170 : decode M_Mo_count.2.1 170 = .ok (.ireturn, 1) := by decide +kernel
theorem d_Mo_count_171 : decode M_Mo_count.2.1 171 = .ok (.iload_n 3, 1) := by decide +kernel
theorem d_Mo_count_172 : decode M_Mo_count.2.1 172 = .ok (.ireturn, 1) := by decide +kernel
theorem d_Mo_count_173 : decode M_Mo_count.2.1 173 = .ok (.iload_n 2, 1) := by decide +kernel
theorem d_Mo_count_174 : decode M_Mo_count.2.1 174 = .ok (.aload_n 0, 1) := by decide +kernel
theorem d_Mo_count_175 : decode M_Mo_count.2.1 175 = .ok (.getfield 136, 3) := by decide +kernel
theorem d_Mo_count_178 : decode M_Mo_count.2.1 178 = .ok (.if_icmp .ne 14, 3) := by decide +kernel
theorem d_Mo_count_181 : decode M_Mo_count.2.1 181 = .ok (.aload_n 0, 1) := by decide +kernel
theorem d_Mo_count_182 : decode M_Mo_count.2.1 182 = .ok (.getfield 143, 3) := by decide +kernel
theorem d_Mo_count_185 : decode M_Mo_count.2.1 185 = .ok (.ifCond .ne 7, 3) := by decide +kernel
theorem d_Mo_count_188 : decode M_Mo_count.2.1 188 = .ok (.iconst 1, 1) := by decide +kernel
theorem d_Mo_count_189 : decode M_Mo_count.2.1 189 = .ok (.goto 4, 3) := by decide +kernel
theorem d_Mo_count_192 : decode M_Mo_count.2.1 192 = .ok (.iconst 0, 1) := by decide +kernel
theorem d_Mo_count_193 : decode M_Mo_count.2.1 193 = .ok (.ireturn, 1) := by decide +kernel
theorem d_Mo_count_194 : decode M_Mo_count.2.1 194 = .ok (.aload_n 0, 1) := by decide +kernel
theorem d_Mo_count_195 : decode M_Mo_count.2.1 195 = .ok (.getfield 103, 3) := by decide +kernel
theorem d_Mo_count_198 : decode M_Mo_count.2.1 198 = .ok (.ireturn, 1) := by decide +kernel
theorem d_Mo_count_199 : decode M_Mo_count.2.1 199 = .ok (.aload_n 0, 1) := by decide +kernel
theorem d_Mo_count_200 : decode M_Mo_count.2.1 200 = .ok (.getfield 120, 3) := by decide +kernel
theorem d_Mo_count_203 : decode M_Mo_count.2.1 203 = .ok (.ireturn, 1) := by decide +kernel
