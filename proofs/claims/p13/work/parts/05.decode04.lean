theorem d_Net_everyNode_0 : decode M_Net_everyNode.2.1 0 = .ok (.iconst 1, 1) := by decide +kernel
theorem d_Net_everyNode_1 : decode M_Net_everyNode.2.1 1 = .ok (.aload_n 0, 1) := by decide +kernel
theorem d_Net_everyNode_2 : decode M_Net_everyNode.2.1 2 = .ok (.getfield 21, 3) := by decide +kernel
theorem d_Net_everyNode_5 : decode M_Net_everyNode.2.1 5 = .ok (.ishl, 1) := by decide +kernel
theorem d_Net_everyNode_6 : decode M_Net_everyNode.2.1 6 = .ok (.iconst 1, 1) := by decide +kernel
theorem d_Net_everyNode_7 : decode M_Net_everyNode.2.1 7 = .ok (.isub, 1) := by decide +kernel
theorem d_Net_everyNode_8 : decode M_Net_everyNode.2.1 8 = .ok (.ireturn, 1) := by decide +kernel
theorem d_Net_around_0 : decode M_Net_around.2.1 0 = .ok (.iconst 0, 1) := by decide +kernel
theorem d_Net_around_1 : decode M_Net_around.2.1 1 = .ok (.istore_n 2, 1) := by decide +kernel
theorem d_Net_around_2 : decode M_Net_around.2.1 2 = .ok (.iconst 0, 1) := by decide +kernel
theorem d_Net_around_3 : decode M_Net_around.2.1 3 = .ok (.istore_n 3, 1) := by decide +kernel
theorem d_Net_around_4 : decode M_Net_around.2.1 4 = .ok (.iload_n 3, 1) := by decide +kernel
theorem d_Net_around_5 : decode M_Net_around.2.1 5 = .ok (.aload_n 0, 1) := by decide +kernel
theorem d_Net_around_6 : decode M_Net_around.2.1 6 = .ok (.getfield 21, 3) := by decide +kernel
theorem d_Net_around_9 : decode M_Net_around.2.1 9 = .ok (.if_icmp .ge 26, 3) := by decide +kernel
theorem d_Net_around_12 : decode M_Net_around.2.1 12 = .ok (.iload_n 1, 1) := by decide +kernel
theorem d_Net_around_13 : decode M_Net_around.2.1 13 = .ok (.iload_n 3, 1) := by decide +kernel
theorem d_Net_around_14 : decode M_Net_around.2.1 14 = .ok (.invokestatic 34, 3) := by decide +kernel
theorem d_Net_around_17 : decode M_Net_around.2.1 17 = .ok (.ifCond .eq 12, 3) := by decide +kernel
theorem d_Net_around_20 : decode M_Net_around.2.1 20 = .ok (.iload_n 2, 1) := by decide +kernel
theorem d_Net_around_21 : decode M_Net_around.2.1 21 = .ok (.aload_n 0, 1) := by decide +kernel
theorem d_Net_around_22 : decode M_Net_around.2.1 22 = .ok (.getfield 15, 3) := by decide +kernel
theorem d_Net_around_25 : decode M_Net_around.2.1 25 = .ok (.iload_n 3, 1) := by decide +kernel
theorem d_Net_around_26 : decode M_Net_around.2.1 26 = .ok (.iaload, 1) := by decide +kernel
theorem d_Net_around_27 : decode M_Net_around.2.1 27 = .ok (.ior, 1) := by decide +kernel
theorem d_Net_around_28 : decode M_Net_around.2.1 28 = .ok (.istore_n 2, 1) := by decide +kernel
theorem d_Net_around_29 : decode M_Net_around.2.1 29 = .ok (.iinc 3 1, 3) := by decide +kernel
theorem d_Net_around_32 : decode M_Net_around.2.1 32 = .ok (.goto (-28), 3) := by decide +kernel
theorem d_Net_around_35 : decode M_Net_around.2.1 35 = .ok (.iload_n 2, 1) := by decide +kernel
theorem d_Net_around_36 : decode M_Net_around.2.1 36 = .ok (.ireturn, 1) := by decide +kernel
theorem d_Net_isConnected_0 : decode M_Net_isConnected.2.1 0 = .ok (.iconst 1, 1) := by decide +kernel
theorem d_Net_isConnected_1 : decode M_Net_isConnected.2.1 1 = .ok (.istore_n 1, 1) := by decide +kernel
theorem d_Net_isConnected_2 : decode M_Net_isConnected.2.1 2 = .ok (.iconst 1, 1) := by decide +kernel
theorem d_Net_isConnected_3 : decode M_Net_isConnected.2.1 3 = .ok (.istore_n 2, 1) := by decide +kernel
theorem d_Net_isConnected_4 : decode M_Net_isConnected.2.1 4 = .ok (.iload_n 2, 1) := by decide +kernel
theorem d_Net_isConnected_5 : decode M_Net_isConnected.2.1 5 = .ok (.aload_n 0, 1) := by decide +kernel
theorem d_Net_isConnected_6 : decode M_Net_isConnected.2.1 6 = .ok (.getfield 21, 3) := by decide +kernel
theorem d_Net_isConnected_9 : decode M_Net_isConnected.2.1 9 = .ok (.if_icmp .ge 17, 3) := by decide +kernel
theorem d_Net_isConnected_12 : decode M_Net_isConnected.2.1 12 = .ok (.iload_n 1, 1) := by decide +kernel
theorem d_Net_isConnected_13 : decode M_Net_isConnected.2.1 13 = .ok (.aload_n 0, 1) := by decide +kernel
theorem d_Net_isConnected_14 : decode M_Net_isConnected.2.1 14 = .ok (.iload_n 1, 1) := by decide +kernel
theorem d_Net_isConnected_15 : decode M_Net_isConnected.2.1 15 = .ok (.invokevirtual 42, 3) := by decide +kernel
theorem d_Net_isConnected_18 : decode M_Net_isConnected.2.1 18 = .ok (.ior, 1) := by decide +kernel
theorem d_Net_isConnected_19 : decode M_Net_isConnected.2.1 19 = .ok (.istore_n 1, 1) := by decide +kernel
theorem d_Net_isConnected_20 : decode M_Net_isConnected.2.1 20 = .ok (.iinc 2 1, 3) := by decide +kernel
theorem d_Net_isConnected_23 : decode M_Net_isConnected.2.1 23 = .ok (.goto (-19), 3) := by decide +kernel
theorem d_Net_isConnected_26 : decode M_Net_isConnected.2.1 26 = .ok (.iload_n 1, 1) := by decide +kernel
theorem d_Net_isConnected_27 : decode M_Net_isConnected.2.1 27 = .ok (.aload_n 0, 1) := by decide +kernel
theorem d_Net_isConnected_28 : decode M_Net_isConnected.2.1 28 = .ok (.invokevirtual 46, 3) := by decide +kernel
theorem d_Net_isConnected_31 : decode M_Net_isConnected.2.1 31 = .ok (.if_icmp .ne 7, 3) := by decide +kernel
theorem d_Net_isConnected_34 : decode M_Net_isConnected.2.1 34 = .ok (.iconst 1, 1) := by decide +kernel
theorem d_Net_isConnected_35 : decode M_Net_isConnected.2.1 35 = .ok (.goto 4, 3) := by decide +kernel
theorem d_Net_isConnected_38 : decode M_Net_isConnected.2.1 38 = .ok (.iconst 0, 1) := by decide +kernel
theorem d_Net_isConnected_39 : decode M_Net_isConnected.2.1 39 = .ok (.ireturn, 1) := by decide +kernel
theorem d_Play_reset_0 : decode M_Play_reset.2.1 0 = .ok (.aload_n 0, 1) := by decide +kernel
theorem d_Play_reset_1 : decode M_Play_reset.2.1 1 = .ok (.iload_n 2, 1) := by decide +kernel
theorem d_Play_reset_2 : decode M_Play_reset.2.1 2 = .ok (.putfield 21, 3) := by decide +kernel
theorem d_Play_reset_5 : decode M_Play_reset.2.1 5 = .ok (.aload_n 0, 1) := by decide +kernel
theorem d_Play_reset_6 : decode M_Play_reset.2.1 6 = .ok (.iload_n 3, 1) := by decide +kernel
theorem d_Play_reset_7 : decode M_Play_reset.2.1 7 = .ok (.putfield 25, 3) := by decide +kernel
theorem d_Play_reset_10 : decode M_Play_reset.2.1 10 = .ok (.aload_n 0, 1) := by decide +kernel
theorem d_Play_reset_11 : decode M_Play_reset.2.1 11 = .ok (.getfield 15, 3) := by decide +kernel
theorem d_Play_reset_14 : decode M_Play_reset.2.1 14 = .ok (.bipush (-2), 2) := by decide +kernel
theorem d_Play_reset_16 : decode M_Play_reset.2.1 16 = .ok (.invokestatic 28, 3) := by decide +kernel
theorem d_Play_reset_19 : decode M_Play_reset.2.1 19 = .ok (.aload_n 0, 1) := by decide +kernel
theorem d_Play_reset_20 : decode M_Play_reset.2.1 20 = .ok (.getfield 18, 3) := by decide +kernel
theorem d_Play_reset_23 : decode M_Play_reset.2.1 23 = .ok (.bipush (-2), 2) := by decide +kernel
theorem d_Play_reset_25 : decode M_Play_reset.2.1 25 = .ok (.invokestatic 28, 3) := by decide +kernel
theorem d_Play_reset_28 : decode M_Play_reset.2.1 28 = .ok (.iconst 0, 1) := by decide +kernel
theorem d_Play_reset_29 : decode M_Play_reset.2.1 29 = .ok (.istore 4, 2) := by decide +kernel
theorem d_Play_reset_31 : decode M_Play_reset.2.1 31 = .ok (.iload 4, 2) := by decide +kernel
theorem d_Play_reset_33 : decode M_Play_reset.2.1 33 = .ok (.bipush 12, 2) := by decide +kernel
theorem d_Play_reset_35 : decode M_Play_reset.2.1 35 = .ok (.if_icmp .ge 23, 3) := by decide +kernel
theorem d_Play_reset_38 : decode M_Play_reset.2.1 38 = .ok (.aload_n 0, 1) := by decide +kernel
theorem d_Play_reset_39 : decode M_Play_reset.2.1 39 = .ok (.getfield 9, 3) := by decide +kernel
theorem d_Play_reset_42 : decode M_Play_reset.2.1 42 = .ok (.iload 4, 2) := by decide +kernel
theorem d_Play_reset_44 : decode M_Play_reset.2.1 44 = .ok (.aload_n 0, 1) := by decide +kernel
theorem d_Play_reset_45 : decode M_Play_reset.2.1 45 = .ok (.aload_n 1, 1) := by decide +kernel
theorem d_Play_reset_46 : decode M_Play_reset.2.1 46 = .ok (.iload 4, 2) := by decide +kernel
theorem d_Play_reset_48 : decode M_Play_reset.2.1 48 = .ok (.invokevirtual 34, 3) := by decide +kernel
theorem d_Play_reset_51 : decode M_Play_reset.2.1 51 = .ok (.iastore, 1) := by decide +kernel
theorem d_Play_reset_52 : decode M_Play_reset.2.1 52 = .ok (.iinc 4 1, 3) := by decide +kernel
theorem d_Play_reset_55 : decode M_Play_reset.2.1 55 = .ok (.goto (-24), 3) := by decide +kernel
theorem d_Play_reset_58 : decode M_Play_reset.2.1 58 = .ok (.return_, 1) := by decide +kernel
theorem d_Play_firstValue_0 : decode M_Play_firstValue.2.1 0 = .ok (.aload_n 0, 1) := by decide +kernel
theorem d_Play_firstValue_1 : decode M_Play_firstValue.2.1 1 = .ok (.getfield 21, 3) := by decide +kernel
theorem d_Play_firstValue_4 : decode M_Play_firstValue.2.1 4 = .ok (.lookupswitch 37 #[(1, 28), (2, 35)], 28) := by decide +kernel
theorem d_Play_firstValue_32 : decode M_Play_firstValue.2.1 32 = .ok (.aload_n 1, 1) := by decide +kernel
theorem d_Play_firstValue_33 : decode M_Play_firstValue.2.1 33 = .ok (.getfield 38, 3) := by decide +kernel
theorem d_Play_firstValue_36 : decode M_Play_firstValue.2.1 36 = .ok (.iload_n 2, 1) := by decide +kernel
theorem d_Play_firstValue_37 : decode M_Play_firstValue.2.1 37 = .ok (.iaload, 1) := by decide +kernel
theorem d_Play_firstValue_38 : decode M_Play_firstValue.2.1 38 = .ok (.ireturn, 1) := by decide +kernel
theorem d_Play_firstValue_39 : decode M_Play_firstValue.2.1 39 = .ok (.iconst 0, 1) := by decide +kernel
theorem d_Play_firstValue_40 : decode M_Play_firstValue.2.1 40 = .ok (.ireturn, 1) := by decide +kernel
theorem d_Play_firstValue_41 : decode M_Play_firstValue.2.1 41 = .ok (.iload_n 2, 1) := by decide +kernel
theorem d_Play_firstValue_42 : decode M_Play_firstValue.2.1 42 = .ok (.aload_n 0, 1) := by decide +kernel
theorem d_Play_firstValue_43 : decode M_Play_firstValue.2.1 43 = .ok (.getfield 25, 3) := by decide +kernel
theorem d_Play_firstValue_46 : decode M_Play_firstValue.2.1 46 = .ok (.if_icmp .ne 7, 3) := by decide +kernel
theorem d_Play_firstValue_49 : decode M_Play_firstValue.2.1 49 = .ok (.iconst 0, 1) := by decide +kernel
theorem d_Play_firstValue_50 : decode M_Play_firstValue.2.1 50 = .ok (.goto 5, 3) := by decide +kernel
theorem d_Play_firstValue_53 : decode M_Play_firstValue.2.1 53 = .ok (.bipush (-2), 2) := by decide +kernel
theorem d_Play_firstValue_55 : decode M_Play_firstValue.2.1 55 = .ok (.ireturn, 1) := by decide +kernel
theorem d_Play_noteRow_0 : decode M_Play_noteRow.2.1 0 = .ok (.iload_n 0, 1) := by decide +kernel
theorem d_Play_noteRow_1 : decode M_Play_noteRow.2.1 1 = .ok (.iconst 1, 1) := by decide +kernel
theorem d_Play_noteRow_2 : decode M_Play_noteRow.2.1 2 = .ok (.iand, 1) := by decide +kernel
theorem d_Play_noteRow_3 : decode M_Play_noteRow.2.1 3 = .ok (.sipush 144, 3) := by decide +kernel
theorem d_Play_noteRow_6 : decode M_Play_noteRow.2.1 6 = .ok (.imul, 1) := by decide +kernel
theorem d_Play_noteRow_7 : decode M_Play_noteRow.2.1 7 = .ok (.iload_n 1, 1) := by decide +kernel
theorem d_Play_noteRow_8 : decode M_Play_noteRow.2.1 8 = .ok (.bipush 12, 2) := by decide +kernel
theorem d_Play_noteRow_10 : decode M_Play_noteRow.2.1 10 = .ok (.imul, 1) := by decide +kernel
theorem d_Play_noteRow_11 : decode M_Play_noteRow.2.1 11 = .ok (.iadd, 1) := by decide +kernel
theorem d_Play_noteRow_12 : decode M_Play_noteRow.2.1 12 = .ok (.ireturn, 1) := by decide +kernel
theorem d_Play_keepNote_0 : decode M_Play_keepNote.2.1 0 = .ok (.aload_n 0, 1) := by decide +kernel
theorem d_Play_keepNote_1 : decode M_Play_keepNote.2.1 1 = .ok (.getfield 18, 3) := by decide +kernel
theorem d_Play_keepNote_4 : decode M_Play_keepNote.2.1 4 = .ok (.iload_n 3, 1) := by decide +kernel
theorem d_Play_keepNote_5 : decode M_Play_keepNote.2.1 5 = .ok (.iload_n 2, 1) := by decide +kernel
theorem d_Play_keepNote_6 : decode M_Play_keepNote.2.1 6 = .ok (.invokestatic 43, 3) := by decide +kernel
theorem d_Play_keepNote_9 : decode M_Play_keepNote.2.1 9 = .ok (.iload_n 1, 1) := by decide +kernel
theorem d_Play_keepNote_10 : decode M_Play_keepNote.2.1 10 = .ok (.iadd, 1) := by decide +kernel
theorem d_Play_keepNote_11 : decode M_Play_keepNote.2.1 11 = .ok (.iload 4, 2) := by decide +kernel
theorem d_Play_keepNote_13 : decode M_Play_keepNote.2.1 13 = .ok (.iastore, 1) := by decide +kernel
theorem d_Play_keepNote_14 : decode M_Play_keepNote.2.1 14 = .ok (.return_, 1) := by decide +kernel
theorem d_Play_doRound_0 : decode M_Play_doRound.2.1 0 = .ok (.iload_n 3, 1) := by decide +kernel
theorem d_Play_doRound_1 : decode M_Play_doRound.2.1 1 = .ok (.iconst 1, 1) := by decide +kernel
theorem d_Play_doRound_2 : decode M_Play_doRound.2.1 2 = .ok (.isub, 1) := by decide +kernel
theorem d_Play_doRound_3 : decode M_Play_doRound.2.1 3 = .ok (.iload_n 2, 1) := by decide +kernel
theorem d_Play_doRound_4 : decode M_Play_doRound.2.1 4 = .ok (.invokestatic 43, 3) := by decide +kernel
theorem d_Play_doRound_7 : decode M_Play_doRound.2.1 7 = .ok (.istore 4, 2) := by decide +kernel
theorem d_Play_doRound_9 : decode M_Play_doRound.2.1 9 = .ok (.iload_n 3, 1) := by decide +kernel
theorem d_Play_doRound_10 : decode M_Play_doRound.2.1 10 = .ok (.iconst 1, 1) := by decide +kernel
theorem d_Play_doRound_11 : decode M_Play_doRound.2.1 11 = .ok (.if_icmp .ne 12, 3) := by decide +kernel
theorem d_Play_doRound_14 : decode M_Play_doRound.2.1 14 = .ok (.aload_n 0, 1) := by decide +kernel
theorem d_Play_doRound_15 : decode M_Play_doRound.2.1 15 = .ok (.aload_n 1, 1) := by decide +kernel
theorem d_Play_doRound_16 : decode M_Play_doRound.2.1 16 = .ok (.iload_n 2, 1) := by decide +kernel
theorem d_Play_doRound_17 : decode M_Play_doRound.2.1 17 = .ok (.invokevirtual 47, 3) := by decide +kernel
theorem d_Play_doRound_20 : decode M_Play_doRound.2.1 20 = .ok (.goto 12, 3) := by decide +kernel
theorem d_Play_doRound_23 : decode M_Play_doRound.2.1 23 = .ok (.aload_n 0, 1) := by decide +kernel
theorem d_Play_doRound_24 : decode M_Play_doRound.2.1 24 = .ok (.aload_n 1, 1) := by decide +kernel
theorem d_Play_doRound_25 : decode M_Play_doRound.2.1 25 = .ok (.iload_n 2, 1) := by decide +kernel
theorem d_Play_doRound_26 : decode M_Play_doRound.2.1 26 = .ok (.iload_n 3, 1) := by decide +kernel
theorem d_Play_doRound_27 : decode M_Play_doRound.2.1 27 = .ok (.iload 4, 2) := by decide +kernel
theorem d_Play_doRound_29 : decode M_Play_doRound.2.1 29 = .ok (.invokevirtual 50, 3) := by decide +kernel
theorem d_Play_doRound_32 : decode M_Play_doRound.2.1 32 = .ok (.istore 5, 2) := by decide +kernel
theorem d_Play_doRound_34 : decode M_Play_doRound.2.1 34 = .ok (.iconst 0, 1) := by decide +kernel
theorem d_Play_doRound_35 : decode M_Play_doRound.2.1 35 = .ok (.istore 6, 2) := by decide +kernel
theorem d_Play_doRound_37 : decode M_Play_doRound.2.1 37 = .ok (.iload 6, 2) := by decide +kernel
theorem d_Play_doRound_39 : decode M_Play_doRound.2.1 39 = .ok (.bipush 12, 2) := by decide +kernel
theorem d_Play_doRound_41 : decode M_Play_doRound.2.1 41 = .ok (.if_icmp .ge 21, 3) := by decide +kernel
theorem d_Play_doRound_44 : decode M_Play_doRound.2.1 44 = .ok (.aload_n 0, 1) := by decide +kernel
theorem d_Play_doRound_45 : decode M_Play_doRound.2.1 45 = .ok (.getfield 18, 3) := by decide +kernel
theorem d_Play_doRound_48 : decode M_Play_doRound.2.1 48 = .ok (.iload 4, 2) := by decide +kernel
theorem d_Play_doRound_50 : decode M_Play_doRound.2.1 50 = .ok (.iload 6, 2) := by decide +kernel
theorem d_Play_doRound_52 : decode M_Play_doRound.2.1 52 = .ok (.iadd, 1) := by decide +kernel
theorem d_Play_doRound_53 : decode M_Play_doRound.2.1 53 = .ok (.bipush (-2), 2) := by decide +kernel
theorem d_Play_doRound_55 : decode M_Play_doRound.2.1 55 = .ok (.iastore, 1) := by decide +kernel
theorem d_Play_doRound_56 : decode M_Play_doRound.2.1 56 = .ok (.iinc 6 1, 3) := by decide +kernel
theorem d_Play_doRound_59 : decode M_Play_doRound.2.1 59 = .ok (.goto (-22), 3) := by decide +kernel
theorem d_Play_doRound_62 : decode M_Play_doRound.2.1 62 = .ok (.iload 5, 2) := by decide +kernel
theorem d_Play_doRound_64 : decode M_Play_doRound.2.1 64 = .ok (.ireturn, 1) := by decide +kernel
theorem d_Play_firstNote_0 : decode M_Play_firstNote.2.1 0 = .ok (.aload_n 0, 1) := by decide +kernel
theorem d_Play_firstNote_1 : decode M_Play_firstNote.2.1 1 = .ok (.getfield 21, 3) := by decide +kernel
theorem d_Play_firstNote_4 : decode M_Play_firstNote.2.1 4 = .ok (.lookupswitch 58 #[(0, 28), (3, 43)], 28) := by decide +kernel
theorem d_Play_firstNote_32 : decode M_Play_firstNote.2.1 32 = .ok (.iload_n 2, 1) := by decide +kernel
theorem d_Play_firstNote_33 : decode M_Play_firstNote.2.1 33 = .ok (.aload_n 0, 1) := by decide +kernel
theorem d_Play_firstNote_34 : decode M_Play_firstNote.2.1 34 = .ok (.getfield 25, 3) := by decide +kernel
theorem d_Play_firstNote_37 : decode M_Play_firstNote.2.1 37 = .ok (.if_icmp .ne 7, 3) := by decide +kernel
theorem d_Play_firstNote_40 : decode M_Play_firstNote.2.1 40 = .ok (.iconst 1, 1) := by decide +kernel
theorem d_Play_firstNote_41 : decode M_Play_firstNote.2.1 41 = .ok (.goto 5, 3) := by decide +kernel
theorem d_Play_firstNote_44 : decode M_Play_firstNote.2.1 44 = .ok (.bipush (-2), 2) := by decide +kernel
theorem d_Play_firstNote_46 : decode M_Play_firstNote.2.1 46 = .ok (.ireturn, 1) := by decide +kernel
theorem d_Play_firstNote_47 : decode M_Play_firstNote.2.1 47 = .ok (.iload_n 2, 1) := by decide +kernel
theorem d_Play_firstNote_48 : decode M_Play_firstNote.2.1 48 = .ok (.aload_n 0, 1) := by decide +kernel
theorem d_Play_firstNote_49 : decode M_Play_firstNote.2.1 49 = .ok (.getfield 25, 3) := by decide +kernel
theorem d_Play_firstNote_52 : decode M_Play_firstNote.2.1 52 = .ok (.if_icmp .ne 7, 3) := by decide +kernel
theorem d_Play_firstNote_55 : decode M_Play_firstNote.2.1 55 = .ok (.iconst 0, 1) := by decide +kernel
theorem d_Play_firstNote_56 : decode M_Play_firstNote.2.1 56 = .ok (.goto 5, 3) := by decide +kernel
theorem d_Play_firstNote_59 : decode M_Play_firstNote.2.1 59 = .ok (.bipush (-2), 2) := by decide +kernel
theorem d_Play_firstNote_61 : decode M_Play_firstNote.2.1 61 = .ok (.ireturn, 1) := by decide +kernel
theorem d_Play_firstNote_62 : decode M_Play_firstNote.2.1 62 = .ok (.aload_n 1, 1) := by decide +kernel
theorem d_Play_firstNote_63 : decode M_Play_firstNote.2.1 63 = .ok (.getfield 38, 3) := by decide +kernel
theorem d_Play_firstNote_66 : decode M_Play_firstNote.2.1 66 = .ok (.iload_n 2, 1) := by decide +kernel
theorem d_Play_firstNote_67 : decode M_Play_firstNote.2.1 67 = .ok (.iaload, 1) := by decide +kernel
theorem d_Play_firstNote_68 : decode M_Play_firstNote.2.1 68 = .ok (.ireturn, 1) := by decide +kernel
theorem d_Play_laterNote_0 : decode M_Play_laterNote.2.1 0 = .ok (.aload_n 0, 1) := by decide +kernel
theorem d_Play_laterNote_1 : decode M_Play_laterNote.2.1 1 = .ok (.getfield 21, 3) := by decide +kernel
theorem d_Play_laterNote_4 : decode M_Play_laterNote.2.1 4 = .ok (.tableswitch 70 0 2 #[28, 36, 44], 28) := by decide +kernel
theorem d_Play_laterNote_32 : decode M_Play_laterNote.2.1 32 = .ok (.aload_n 0, 1) := by decide +kernel
theorem d_Play_laterNote_33 : decode M_Play_laterNote.2.1 33 = .ok (.iload_n 2, 1) := by decide +kernel
theorem d_Play_laterNote_34 : decode M_Play_laterNote.2.1 34 = .ok (.iload 4, 2) := by decide +kernel
theorem d_Play_laterNote_36 : decode M_Play_laterNote.2.1 36 = .ok (.invokevirtual 54, 3) := by decide +kernel
theorem d_Play_laterNote_39 : decode M_Play_laterNote.2.1 39 = .ok (.ireturn, 1) := by decide +kernel
theorem d_Play_laterNote_40 : decode M_Play_laterNote.2.1 40 = .ok (.aload_n 0, 1) := by decide +kernel
theorem d_Play_laterNote_41 : decode M_Play_laterNote.2.1 41 = .ok (.iload_n 2, 1) := by decide +kernel
theorem d_Play_laterNote_42 : decode M_Play_laterNote.2.1 42 = .ok (.iload 4, 2) := by decide +kernel
theorem d_Play_laterNote_44 : decode M_Play_laterNote.2.1 44 = .ok (.invokevirtual 57, 3) := by decide +kernel
theorem d_Play_laterNote_47 : decode M_Play_laterNote.2.1 47 = .ok (.ireturn, 1) := by decide +kernel
theorem d_Play_laterNote_48 : decode M_Play_laterNote.2.1 48 = .ok (.iload_n 3, 1) := by decide +kernel
theorem d_Play_laterNote_49 : decode M_Play_laterNote.2.1 49 = .ok (.iconst 2, 1) := by decide +kernel
theorem d_Play_laterNote_50 : decode M_Play_laterNote.2.1 50 = .ok (.irem, 1) := by decide +kernel
theorem d_Play_laterNote_51 : decode M_Play_laterNote.2.1 51 = .ok (.ifCond .ne 14, 3) := by decide +kernel
theorem d_Play_laterNote_54 : decode M_Play_laterNote.2.1 54 = .ok (.aload_n 0, 1) := by decide +kernel
theorem d_Play_laterNote_55 : decode M_Play_laterNote.2.1 55 = .ok (.aload_n 1, 1) := by decide +kernel
theorem d_Play_laterNote_56 : decode M_Play_laterNote.2.1 56 = .ok (.iload_n 2, 1) := by decide +kernel
theorem d_Play_laterNote_57 : decode M_Play_laterNote.2.1 57 = .ok (.iload 4, 2) := by decide +kernel
theorem d_Play_laterNote_59 : decode M_Play_laterNote.2.1 59 = .ok (.invokevirtual 60, 3) := by decide +kernel
theorem d_Play_laterNote_62 : decode M_Play_laterNote.2.1 62 = .ok (.goto 11, 3) := by decide +kernel
theorem d_Play_laterNote_65 : decode M_Play_laterNote.2.1 65 = .ok (.aload_n 0, 1) := by decide +kernel
theorem d_Play_laterNote_66 : decode M_Play_laterNote.2.1 66 = .ok (.aload_n 1, 1) := by decide +kernel
theorem d_Play_laterNote_67 : decode M_Play_laterNote.2.1 67 = .ok (.iload_n 2, 1) := by decide +kernel
theorem d_Play_laterNote_68 : decode M_Play_laterNote.2.1 68 = .ok (.iload 4, 2) := by decide +kernel
theorem d_Play_laterNote_70 : decode M_Play_laterNote.2.1 70 = .ok (.invokevirtual 64, 3) := by decide +kernel
theorem d_Play_laterNote_73 : decode M_Play_laterNote.2.1 73 = .ok (.ireturn, 1) := by decide +kernel
theorem d_Play_laterNote_74 : decode M_Play_laterNote.2.1 74 = .ok (.aload_n 0, 1) := by decide +kernel
theorem d_Play_laterNote_75 : decode M_Play_laterNote.2.1 75 = .ok (.aload_n 1, 1) := by decide +kernel
theorem d_Play_laterNote_76 : decode M_Play_laterNote.2.1 76 = .ok (.iload_n 2, 1) := by decide +kernel
theorem d_Play_laterNote_77 : decode M_Play_laterNote.2.1 77 = .ok (.iload 4, 2) := by decide +kernel
theorem d_Play_laterNote_79 : decode M_Play_laterNote.2.1 79 = .ok (.invokevirtual 67, 3) := by decide +kernel
theorem d_Play_laterNote_82 : decode M_Play_laterNote.2.1 82 = .ok (.ireturn, 1) := by decide +kernel
theorem d_Play_takeWave_0 : decode M_Play_takeWave.2.1 0 = .ok (.iconst 0, 1) := by decide +kernel
theorem d_Play_takeWave_1 : decode M_Play_takeWave.2.1 1 = .ok (.istore_n 3, 1) := by decide +kernel
theorem d_Play_takeWave_2 : decode M_Play_takeWave.2.1 2 = .ok (.iload_n 3, 1) := by decide +kernel
theorem d_Play_takeWave_3 : decode M_Play_takeWave.2.1 3 = .ok (.bipush 12, 2) := by decide +kernel
theorem d_Play_takeWave_5 : decode M_Play_takeWave.2.1 5 = .ok (.if_icmp .ge 63, 3) := by decide +kernel
theorem d_Play_takeWave_8 : decode M_Play_takeWave.2.1 8 = .ok (.aload_n 0, 1) := by decide +kernel
theorem d_Play_takeWave_9 : decode M_Play_takeWave.2.1 9 = .ok (.getfield 9, 3) := by decide +kernel
theorem d_Play_takeWave_12 : decode M_Play_takeWave.2.1 12 = .ok (.iload_n 1, 1) := by decide +kernel
theorem d_Play_takeWave_13 : decode M_Play_takeWave.2.1 13 = .ok (.iaload, 1) := by decide +kernel
theorem d_Play_takeWave_14 : decode M_Play_takeWave.2.1 14 = .ok (.bipush (-2), 2) := by decide +kernel
theorem d_Play_takeWave_16 : decode M_Play_takeWave.2.1 16 = .ok (.if_icmp .ne 52, 3) := by decide +kernel
theorem d_Play_takeWave_19 : decode M_Play_takeWave.2.1 19 = .ok (.aload_n 0, 1) := by decide +kernel
theorem d_Play_takeWave_20 : decode M_Play_takeWave.2.1 20 = .ok (.getfield 18, 3) := by decide +kernel
theorem d_Play_takeWave_23 : decode M_Play_takeWave.2.1 23 = .ok (.iload_n 2, 1) := by decide +kernel
theorem d_Play_takeWave_24 : decode M_Play_takeWave.2.1 24 = .ok (.iload_n 3, 1) := by decide +kernel
theorem d_Play_takeWave_25 : decode M_Play_takeWave.2.1 25 = .ok (.iadd, 1) := by decide +kernel
theorem d_Play_takeWave_26 : decode M_Play_takeWave.2.1 26 = .ok (.iaload, 1) := by decide +kernel
theorem d_Play_takeWave_27 : decode M_Play_takeWave.2.1 27 = .ok (.bipush (-2), 2) := by decide +kernel
theorem d_Play_takeWave_29 : decode M_Play_takeWave.2.1 29 = .ok (.if_icmp .eq 33, 3) := by decide +kernel
theorem d_Play_takeWave_32 : decode M_Play_takeWave.2.1 32 = .ok (.aload_n 0, 1) := by decide +kernel
theorem d_Play_takeWave_33 : decode M_Play_takeWave.2.1 33 = .ok (.getfield 9, 3) := by decide +kernel
theorem d_Play_takeWave_36 : decode M_Play_takeWave.2.1 36 = .ok (.iload_n 1, 1) := by decide +kernel
theorem d_Play_takeWave_37 : decode M_Play_takeWave.2.1 37 = .ok (.aload_n 0, 1) := by decide +kernel
theorem d_Play_takeWave_38 : decode M_Play_takeWave.2.1 38 = .ok (.getfield 18, 3) := by decide +kernel
theorem d_Play_takeWave_41 : decode M_Play_takeWave.2.1 41 = .ok (.iload_n 2, 1) := by decide +kernel
theorem d_Play_takeWave_42 : decode M_Play_takeWave.2.1 42 = .ok (.iload_n 3, 1) := by decide +kernel
theorem d_Play_takeWave_43 : decode M_Play_takeWave.2.1 43 = .ok (.iadd, 1) := by decide +kernel
theorem d_Play_takeWave_44 : decode M_Play_takeWave.2.1 44 = .ok (.iaload, 1) := by decide +kernel
theorem d_Play_takeWave_45 : decode M_Play_takeWave.2.1 45 = .ok (.iastore, 1) := by decide +kernel
theorem d_Play_takeWave_46 : decode M_Play_takeWave.2.1 46 = .ok (.aload_n 0, 1) := by decide +kernel
theorem d_Play_takeWave_47 : decode M_Play_takeWave.2.1 47 = .ok (.getfield 15, 3) := by decide +kernel
theorem d_Play_takeWave_50 : decode M_Play_takeWave.2.1 50 = .ok (.iload_n 1, 1) := by decide +kernel
theorem d_Play_takeWave_51 : decode M_Play_takeWave.2.1 51 = .ok (.iload_n 3, 1) := by decide +kernel
theorem d_Play_takeWave_52 : decode M_Play_takeWave.2.1 52 = .ok (.iastore, 1) := by decide +kernel
theorem d_Play_takeWave_53 : decode M_Play_takeWave.2.1 53 = .ok (.aload_n 0, 1) := by decide +kernel
theorem d_Play_takeWave_54 : decode M_Play_takeWave.2.1 54 = .ok (.getfield 9, 3) := by decide +kernel
theorem d_Play_takeWave_57 : decode M_Play_takeWave.2.1 57 = .ok (.iload_n 1, 1) := by decide +kernel
theorem d_Play_takeWave_58 : decode M_Play_takeWave.2.1 58 = .ok (.iaload, 1) := by decide +kernel
theorem d_Play_takeWave_59 : decode M_Play_takeWave.2.1 59 = .ok (.iconst 1, 1) := by decide +kernel
theorem d_Play_takeWave_60 : decode M_Play_takeWave.2.1 60 = .ok (.iadd, 1) := by decide +kernel
theorem d_Play_takeWave_61 : decode M_Play_takeWave.2.1 61 = .ok (.ireturn, 1) := by decide +kernel
theorem d_Play_takeWave_62 : decode M_Play_takeWave.2.1 62 = .ok (.iinc 3 1, 3) := by decide +kernel
theorem d_Play_takeWave_65 : decode M_Play_takeWave.2.1 65 = .ok (.goto (-63), 3) := by decide +kernel
theorem d_Play_takeWave_68 : decode M_Play_takeWave.2.1 68 = .ok (.bipush (-2), 2) := by decide +kernel
theorem d_Play_takeWave_70 : decode M_Play_takeWave.2.1 70 = .ok (.ireturn, 1) := by decide +kernel
theorem d_Play_takeGreatest_0 : decode M_Play_takeGreatest.2.1 0 = .ok (.aload_n 0, 1) := by decide +kernel
theorem d_Play_takeGreatest_1 : decode M_Play_takeGreatest.2.1 1 = .ok (.getfield 9, 3) := by decide +kernel
theorem d_Play_takeGreatest_4 : decode M_Play_takeGreatest.2.1 4 = .ok (.iload_n 1, 1) := by decide +kernel
theorem d_Play_takeGreatest_5 : decode M_Play_takeGreatest.2.1 5 = .ok (.iaload, 1) := by decide +kernel
theorem d_Play_takeGreatest_6 : decode M_Play_takeGreatest.2.1 6 = .ok (.istore_n 3, 1) := by decide +kernel
theorem d_Play_takeGreatest_7 : decode M_Play_takeGreatest.2.1 7 = .ok (.iconst 0, 1) := by decide +kernel
theorem d_Play_takeGreatest_8 : decode M_Play_takeGreatest.2.1 8 = .ok (.istore 4, 2) := by decide +kernel
theorem d_Play_takeGreatest_10 : decode M_Play_takeGreatest.2.1 10 = .ok (.iload 4, 2) := by decide +kernel
theorem d_Play_takeGreatest_12 : decode M_Play_takeGreatest.2.1 12 = .ok (.bipush 12, 2) := by decide +kernel
theorem d_Play_takeGreatest_14 : decode M_Play_takeGreatest.2.1 14 = .ok (.if_icmp .ge 64, 3) := by decide +kernel
theorem d_Play_takeGreatest_17 : decode M_Play_takeGreatest.2.1 17 = .ok (.aload_n 0, 1) := by decide +kernel
theorem d_Play_takeGreatest_18 : decode M_Play_takeGreatest.2.1 18 = .ok (.getfield 18, 3) := by decide +kernel
theorem d_Play_takeGreatest_21 : decode M_Play_takeGreatest.2.1 21 = .ok (.iload_n 2, 1) := by decide +kernel
theorem d_Play_takeGreatest_22 : decode M_Play_takeGreatest.2.1 22 = .ok (.iload 4, 2) := by decide +kernel
theorem d_Play_takeGreatest_24 : decode M_Play_takeGreatest.2.1 24 = .ok (.iadd, 1) := by decide +kernel
theorem d_Play_takeGreatest_25 : decode M_Play_takeGreatest.2.1 25 = .ok (.iaload, 1) := by decide +kernel
theorem d_Play_takeGreatest_26 : decode M_Play_takeGreatest.2.1 26 = .ok (.bipush (-2), 2) := by decide +kernel
theorem d_Play_takeGreatest_28 : decode M_Play_takeGreatest.2.1 28 = .ok (.if_icmp .eq 44, 3) := by decide +kernel
theorem d_Play_takeGreatest_31 : decode M_Play_takeGreatest.2.1 31 = .ok (.aload_n 0, 1) := by decide +kernel
theorem d_Play_takeGreatest_32 : decode M_Play_takeGreatest.2.1 32 = .ok (.getfield 18, 3) := by decide +kernel
theorem d_Play_takeGreatest_35 : decode M_Play_takeGreatest.2.1 35 = .ok (.iload_n 2, 1) := by decide +kernel
theorem d_Play_takeGreatest_36 : decode M_Play_takeGreatest.2.1 36 = .ok (.iload 4, 2) := by decide +kernel
theorem d_Play_takeGreatest_38 : decode M_Play_takeGreatest.2.1 38 = .ok (.iadd, 1) := by decide +kernel
theorem d_Play_takeGreatest_39 : decode M_Play_takeGreatest.2.1 39 = .ok (.iaload, 1) := by decide +kernel
theorem d_Play_takeGreatest_40 : decode M_Play_takeGreatest.2.1 40 = .ok (.aload_n 0, 1) := by decide +kernel
theorem d_Play_takeGreatest_41 : decode M_Play_takeGreatest.2.1 41 = .ok (.getfield 9, 3) := by decide +kernel
theorem d_Play_takeGreatest_44 : decode M_Play_takeGreatest.2.1 44 = .ok (.iload_n 1, 1) := by decide +kernel
theorem d_Play_takeGreatest_45 : decode M_Play_takeGreatest.2.1 45 = .ok (.iaload, 1) := by decide +kernel
theorem d_Play_takeGreatest_46 : decode M_Play_takeGreatest.2.1 46 = .ok (.if_icmp .le 26, 3) := by decide +kernel
theorem d_Play_takeGreatest_49 : decode M_Play_takeGreatest.2.1 49 = .ok (.aload_n 0, 1) := by decide +kernel
theorem d_Play_takeGreatest_50 : decode M_Play_takeGreatest.2.1 50 = .ok (.getfield 9, 3) := by decide +kernel
theorem d_Play_takeGreatest_53 : decode M_Play_takeGreatest.2.1 53 = .ok (.iload_n 1, 1) := by decide +kernel
theorem d_Play_takeGreatest_54 : decode M_Play_takeGreatest.2.1 54 = .ok (.aload_n 0, 1) := by decide +kernel
theorem d_Play_takeGreatest_55 : decode M_Play_takeGreatest.2.1 55 = .ok (.getfield 18, 3) := by decide +kernel
theorem d_Play_takeGreatest_58 : decode M_Play_takeGreatest.2.1 58 = .ok (.iload_n 2, 1) := by decide +kernel
theorem d_Play_takeGreatest_59 : decode M_Play_takeGreatest.2.1 59 = .ok (.iload 4, 2) := by decide +kernel
theorem d_Play_takeGreatest_61 : decode M_Play_takeGreatest.2.1 61 = .ok (.iadd, 1) := by decide +kernel
theorem d_Play_takeGreatest_62 : decode M_Play_takeGreatest.2.1 62 = .ok (.iaload, 1) := by decide +kernel
theorem d_Play_takeGreatest_63 : decode M_Play_takeGreatest.2.1 63 = .ok (.iastore, 1) := by decide +kernel
theorem d_Play_takeGreatest_64 : decode M_Play_takeGreatest.2.1 64 = .ok (.aload_n 0, 1) := by decide +kernel
theorem d_Play_takeGreatest_65 : decode M_Play_takeGreatest.2.1 65 = .ok (.getfield 15, 3) := by decide +kernel
theorem d_Play_takeGreatest_68 : decode M_Play_takeGreatest.2.1 68 = .ok (.iload_n 1, 1) := by decide +kernel
theorem d_Play_takeGreatest_69 : decode M_Play_takeGreatest.2.1 69 = .ok (.iload 4, 2) := by decide +kernel
theorem d_Play_takeGreatest_71 : decode M_Play_takeGreatest.2.1 71 = .ok (.iastore, 1) := by decide +kernel
theorem d_Play_takeGreatest_72 : decode M_Play_takeGreatest.2.1 72 = .ok (.iinc 4 1, 3) := by decide +kernel
theorem d_Play_takeGreatest_75 : decode M_Play_takeGreatest.2.1 75 = .ok (.goto (-65), 3) := by decide +kernel
theorem d_Play_takeGreatest_78 : decode M_Play_takeGreatest.2.1 78 = .ok (.aload_n 0, 1) := by decide +kernel
theorem d_Play_takeGreatest_79 : decode M_Play_takeGreatest.2.1 79 = .ok (.getfield 9, 3) := by decide +kernel
theorem d_Play_takeGreatest_82 : decode M_Play_takeGreatest.2.1 82 = .ok (.iload_n 1, 1) := by decide +kernel
theorem d_Play_takeGreatest_83 : decode M_Play_takeGreatest.2.1 83 = .ok (.iaload, 1) := by decide +kernel
theorem d_Play_takeGreatest_84 : decode M_Play_takeGreatest.2.1 84 = .ok (.iload_n 3, 1) := by decide +kernel
theorem d_Play_takeGreatest_85 : decode M_Play_takeGreatest.2.1 85 = .ok (.if_icmp .ne 8, 3) := by decide +kernel
theorem d_Play_takeGreatest_88 : decode M_Play_takeGreatest.2.1 88 = .ok (.bipush (-2), 2) := by decide +kernel
theorem d_Play_takeGreatest_90 : decode M_Play_takeGreatest.2.1 90 = .ok (.goto 9, 3) := by decide +kernel
theorem d_Play_takeGreatest_93 : decode M_Play_takeGreatest.2.1 93 = .ok (.aload_n 0, 1) := by decide +kernel
theorem d_Play_takeGreatest_94 : decode M_Play_takeGreatest.2.1 94 = .ok (.getfield 9, 3) := by decide +kernel
theorem d_Play_takeGreatest_97 : decode M_Play_takeGreatest.2.1 97 = .ok (.iload_n 1, 1) := by decide +kernel
theorem d_Play_takeGreatest_98 : decode M_Play_takeGreatest.2.1 98 = .ok (.iaload, 1) := by decide +kernel
theorem d_Play_takeGreatest_99 : decode M_Play_takeGreatest.2.1 99 = .ok (.ireturn, 1) := by decide +kernel
theorem d_Play_tryIn_0 : decode M_Play_tryIn.2.1 0 = .ok (.aload_n 0, 1) := by decide +kernel
theorem d_Play_tryIn_1 : decode M_Play_tryIn.2.1 1 = .ok (.getfield 9, 3) := by decide +kernel
theorem d_Play_tryIn_4 : decode M_Play_tryIn.2.1 4 = .ok (.iload_n 2, 1) := by decide +kernel
theorem d_Play_tryIn_5 : decode M_Play_tryIn.2.1 5 = .ok (.iaload, 1) := by decide +kernel
theorem d_Play_tryIn_6 : decode M_Play_tryIn.2.1 6 = .ok (.ifCond .eq 6, 3) := by decide +kernel
theorem d_Play_tryIn_9 : decode M_Play_tryIn.2.1 9 = .ok (.bipush (-2), 2) := by decide +kernel
theorem d_Play_tryIn_11 : decode M_Play_tryIn.2.1 11 = .ok (.ireturn, 1) := by decide +kernel
theorem d_Play_tryIn_12 : decode M_Play_tryIn.2.1 12 = .ok (.iconst 0, 1) := by decide +kernel
theorem d_Play_tryIn_13 : decode M_Play_tryIn.2.1 13 = .ok (.istore 4, 2) := by decide +kernel
theorem d_Play_tryIn_15 : decode M_Play_tryIn.2.1 15 = .ok (.iload 4, 2) := by decide +kernel
theorem d_Play_tryIn_17 : decode M_Play_tryIn.2.1 17 = .ok (.bipush 12, 2) := by decide +kernel
theorem d_Play_tryIn_19 : decode M_Play_tryIn.2.1 19 = .ok (.if_icmp .ge 70, 3) := by decide +kernel
theorem d_Play_tryIn_22 : decode M_Play_tryIn.2.1 22 = .ok (.aload_n 0, 1) := by decide +kernel
theorem d_Play_tryIn_23 : decode M_Play_tryIn.2.1 23 = .ok (.getfield 18, 3) := by decide +kernel
theorem d_Play_tryIn_26 : decode M_Play_tryIn.2.1 26 = .ok (.iload_n 3, 1) := by decide +kernel
theorem d_Play_tryIn_27 : decode M_Play_tryIn.2.1 27 = .ok (.iload 4, 2) := by decide +kernel
theorem d_Play_tryIn_29 : decode M_Play_tryIn.2.1 29 = .ok (.iadd, 1) := by decide +kernel
theorem d_Play_tryIn_30 : decode M_Play_tryIn.2.1 30 = .ok (.iaload, 1) := by decide +kernel
theorem d_Play_tryIn_31 : decode M_Play_tryIn.2.1 31 = .ok (.istore 5, 2) := by decide +kernel
theorem d_Play_tryIn_33 : decode M_Play_tryIn.2.1 33 = .ok (.iload 5, 2) := by decide +kernel
theorem d_Play_tryIn_35 : decode M_Play_tryIn.2.1 35 = .ok (.aload_n 1, 1) := by decide +kernel
theorem d_Play_tryIn_36 : decode M_Play_tryIn.2.1 36 = .ok (.getfield 38, 3) := by decide +kernel
theorem d_Play_tryIn_39 : decode M_Play_tryIn.2.1 39 = .ok (.iload_n 2, 1) := by decide +kernel
theorem d_Play_tryIn_40 : decode M_Play_tryIn.2.1 40 = .ok (.iaload, 1) := by decide +kernel
theorem d_Play_tryIn_41 : decode M_Play_tryIn.2.1 41 = .ok (.if_icmp .ne 13, 3) := by decide +kernel
theorem d_Play_tryIn_44 : decode M_Play_tryIn.2.1 44 = .ok (.iload 4, 2) := by decide +kernel
theorem d_Play_tryIn_46 : decode M_Play_tryIn.2.1 46 = .ok (.iload_n 2, 1) := by decide +kernel
theorem d_Play_tryIn_47 : decode M_Play_tryIn.2.1 47 = .ok (.if_icmp .le 7, 3) := by decide +kernel
theorem d_Play_tryIn_50 : decode M_Play_tryIn.2.1 50 = .ok (.iconst 1, 1) := by decide +kernel
theorem d_Play_tryIn_51 : decode M_Play_tryIn.2.1 51 = .ok (.goto 4, 3) := by decide +kernel
theorem d_Play_tryIn_54 : decode M_Play_tryIn.2.1 54 = .ok (.iconst 0, 1) := by decide +kernel
theorem d_Play_tryIn_55 : decode M_Play_tryIn.2.1 55 = .ok (.istore 6, 2) := by decide +kernel
theorem d_Play_tryIn_57 : decode M_Play_tryIn.2.1 57 = .ok (.iload 5, 2) := by decide +kernel
theorem d_Play_tryIn_59 : decode M_Play_tryIn.2.1 59 = .ok (.bipush (-2), 2) := by decide +kernel
theorem d_Play_tryIn_61 : decode M_Play_tryIn.2.1 61 = .ok (.if_icmp .eq 22, 3) := by decide +kernel
theorem d_Play_tryIn_64 : decode M_Play_tryIn.2.1 64 = .ok (.iload 5, 2) := by decide +kernel
theorem d_Play_tryIn_66 : decode M_Play_tryIn.2.1 66 = .ok (.aload_n 1, 1) := by decide +kernel
theorem d_Play_tryIn_67 : decode M_Play_tryIn.2.1 67 = .ok (.getfield 38, 3) := by decide +kernel
theorem d_Play_tryIn_70 : decode M_Play_tryIn.2.1 70 = .ok (.iload_n 2, 1) := by decide +kernel
theorem d_Play_tryIn_71 : decode M_Play_tryIn.2.1 71 = .ok (.iaload, 1) := by decide +kernel
theorem d_Play_tryIn_72 : decode M_Play_tryIn.2.1 72 = .ok (.if_icmp .gt 8, 3) := by decide +kernel
theorem d_Play_tryIn_75 : decode M_Play_tryIn.2.1 75 = .ok (.iload 6, 2) := by decide +kernel
theorem d_Play_tryIn_77 : decode M_Play_tryIn.2.1 77 = .ok (.ifCond .eq 6, 3) := by decide +kernel
theorem d_Play_tryIn_80 : decode M_Play_tryIn.2.1 80 = .ok (.bipush (-2), 2) := by decide +kernel
theorem d_Play_tryIn_82 : decode M_Play_tryIn.2.1 82 = .ok (.ireturn, 1) := by decide +kernel
theorem d_Play_tryIn_83 : decode M_Play_tryIn.2.1 83 = .ok (.iinc 4 1, 3) := by decide +kernel
theorem d_Play_tryIn_86 : decode M_Play_tryIn.2.1 86 = .ok (.goto (-71), 3) := by decide +kernel
theorem d_Play_tryIn_89 : decode M_Play_tryIn.2.1 89 = .ok (.aload_n 0, 1) := by decide +kernel
theorem d_Play_tryIn_90 : decode M_Play_tryIn.2.1 90 = .ok (.getfield 9, 3) := by decide +kernel
theorem d_Play_tryIn_93 : decode M_Play_tryIn.2.1 93 = .ok (.iload_n 2, 1) := by decide +kernel
theorem d_Play_tryIn_94 : decode M_Play_tryIn.2.1 94 = .ok (.iconst 1, 1) := by decide +kernel
theorem d_Play_tryIn_95 : decode M_Play_tryIn.2.1 95 = .ok (.iastore, 1) := by decide +kernel
theorem d_Play_tryIn_96 : decode M_Play_tryIn.2.1 96 = .ok (.iconst (-1), 1) := by decide +kernel
theorem d_Play_tryIn_97 : decode M_Play_tryIn.2.1 97 = .ok (.ireturn, 1) := by decide +kernel
theorem d_Play_tryOut_0 : decode M_Play_tryOut.2.1 0 = .ok (.aload_n 0, 1) := by decide +kernel
theorem d_Play_tryOut_1 : decode M_Play_tryOut.2.1 1 = .ok (.getfield 9, 3) := by decide +kernel
theorem d_Play_tryOut_4 : decode M_Play_tryOut.2.1 4 = .ok (.iload_n 2, 1) := by decide +kernel
theorem d_Play_tryOut_5 : decode M_Play_tryOut.2.1 5 = .ok (.iaload, 1) := by decide +kernel
theorem d_Play_tryOut_6 : decode M_Play_tryOut.2.1 6 = .ok (.ifCond .eq 6, 3) := by decide +kernel
theorem d_Play_tryOut_9 : decode M_Play_tryOut.2.1 9 = .ok (.bipush (-2), 2) := by decide +kernel
theorem d_Play_tryOut_11 : decode M_Play_tryOut.2.1 11 = .ok (.ireturn, 1) := by decide +kernel
theorem d_Play_tryOut_12 : decode M_Play_tryOut.2.1 12 = .ok (.iconst 0, 1) := by decide +kernel
theorem d_Play_tryOut_13 : decode M_Play_tryOut.2.1 13 = .ok (.istore 4, 2) := by decide +kernel
theorem d_Play_tryOut_15 : decode M_Play_tryOut.2.1 15 = .ok (.iload 4, 2) := by decide +kernel
theorem d_Play_tryOut_17 : decode M_Play_tryOut.2.1 17 = .ok (.bipush 12, 2) := by decide +kernel
theorem d_Play_tryOut_19 : decode M_Play_tryOut.2.1 19 = .ok (.if_icmp .ge 40, 3) := by decide +kernel
theorem d_Play_tryOut_22 : decode M_Play_tryOut.2.1 22 = .ok (.aload_n 0, 1) := by decide +kernel
theorem d_Play_tryOut_23 : decode M_Play_tryOut.2.1 23 = .ok (.getfield 18, 3) := by decide +kernel
theorem d_Play_tryOut_26 : decode M_Play_tryOut.2.1 26 = .ok (.iload_n 3, 1) := by decide +kernel
theorem d_Play_tryOut_27 : decode M_Play_tryOut.2.1 27 = .ok (.iload 4, 2) := by decide +kernel
theorem d_Play_tryOut_29 : decode M_Play_tryOut.2.1 29 = .ok (.iadd, 1) := by decide +kernel
theorem d_Play_tryOut_30 : decode M_Play_tryOut.2.1 30 = .ok (.iaload, 1) := by decide +kernel
theorem d_Play_tryOut_31 : decode M_Play_tryOut.2.1 31 = .ok (.iconst (-1), 1) := by decide +kernel
theorem d_Play_tryOut_32 : decode M_Play_tryOut.2.1 32 = .ok (.if_icmp .ne 21, 3) := by decide +kernel
theorem d_Play_tryOut_35 : decode M_Play_tryOut.2.1 35 = .ok (.aload_n 0, 1) := by decide +kernel
theorem d_Play_tryOut_36 : decode M_Play_tryOut.2.1 36 = .ok (.getfield 9, 3) := by decide +kernel
theorem d_Play_tryOut_39 : decode M_Play_tryOut.2.1 39 = .ok (.iload_n 2, 1) := by decide +kernel
theorem d_Play_tryOut_40 : decode M_Play_tryOut.2.1 40 = .ok (.iconst 2, 1) := by decide +kernel
theorem d_Play_tryOut_41 : decode M_Play_tryOut.2.1 41 = .ok (.iastore, 1) := by decide +kernel
theorem d_Play_tryOut_42 : decode M_Play_tryOut.2.1 42 = .ok (.aload_n 0, 1) := by decide +kernel
theorem d_Play_tryOut_43 : decode M_Play_tryOut.2.1 43 = .ok (.getfield 15, 3) := by decide +kernel
theorem d_Play_tryOut_46 : decode M_Play_tryOut.2.1 46 = .ok (.iload_n 2, 1) := by decide +kernel
theorem d_Play_tryOut_47 : decode M_Play_tryOut.2.1 47 = .ok (.iload 4, 2) := by decide +kernel
theorem d_Play_tryOut_49 : decode M_Play_tryOut.2.1 49 = .ok (.iastore, 1) := by decide +kernel
theorem d_Play_tryOut_50 : decode M_Play_tryOut.2.1 50 = .ok (.bipush (-2), 2) := by decide +kernel
theorem d_Play_tryOut_52 : decode M_Play_tryOut.2.1 52 = .ok (.ireturn, 1) := by decide +kernel
theorem d_Play_tryOut_53 : decode M_Play_tryOut.2.1 53 = .ok (.iinc 4 1, 3) := by decide +kernel
theorem d_Play_tryOut_56 : decode M_Play_tryOut.2.1 56 = .ok (.goto (-41), 3) := by decide +kernel
theorem d_Play_tryOut_59 : decode M_Play_tryOut.2.1 59 = .ok (.aload_n 1, 1) := by decide +kernel
theorem d_Play_tryOut_60 : decode M_Play_tryOut.2.1 60 = .ok (.getfield 38, 3) := by decide +kernel
theorem d_Play_tryOut_63 : decode M_Play_tryOut.2.1 63 = .ok (.iload_n 2, 1) := by decide +kernel
theorem d_Play_tryOut_64 : decode M_Play_tryOut.2.1 64 = .ok (.iaload, 1) := by decide +kernel
theorem d_Play_tryOut_65 : decode M_Play_tryOut.2.1 65 = .ok (.ireturn, 1) := by decide +kernel
theorem d_Play_takeLengths_0 : decode M_Play_takeLengths.2.1 0 = .ok (.aload_n 0, 1) := by decide +kernel
theorem d_Play_takeLengths_1 : decode M_Play_takeLengths.2.1 1 = .ok (.getfield 9, 3) := by decide +kernel
theorem d_Play_takeLengths_4 : decode M_Play_takeLengths.2.1 4 = .ok (.iload_n 2, 1) := by decide +kernel
theorem d_Play_takeLengths_5 : decode M_Play_takeLengths.2.1 5 = .ok (.iaload, 1) := by decide +kernel
theorem d_Play_takeLengths_6 : decode M_Play_takeLengths.2.1 6 = .ok (.istore 4, 2) := by decide +kernel
theorem d_Play_takeLengths_8 : decode M_Play_takeLengths.2.1 8 = .ok (.iconst 0, 1) := by decide +kernel
theorem d_Play_takeLengths_9 : decode M_Play_takeLengths.2.1 9 = .ok (.istore 5, 2) := by decide +kernel
theorem d_Play_takeLengths_11 : decode M_Play_takeLengths.2.1 11 = .ok (.iload 5, 2) := by decide +kernel
theorem d_Play_takeLengths_13 : decode M_Play_takeLengths.2.1 13 = .ok (.bipush 12, 2) := by decide +kernel
theorem d_Play_takeLengths_15 : decode M_Play_takeLengths.2.1 15 = .ok (.if_icmp .ge 96, 3) := by decide +kernel
theorem d_Play_takeLengths_18 : decode M_Play_takeLengths.2.1 18 = .ok (.aload_n 0, 1) := by decide +kernel
theorem d_Play_takeLengths_19 : decode M_Play_takeLengths.2.1 19 = .ok (.getfield 18, 3) := by decide +kernel
theorem d_Play_takeLengths_22 : decode M_Play_takeLengths.2.1 22 = .ok (.iload_n 3, 1) := by decide +kernel
theorem d_Play_takeLengths_23 : decode M_Play_takeLengths.2.1 23 = .ok (.iload 5, 2) := by decide +kernel
theorem d_Play_takeLengths_25 : decode M_Play_takeLengths.2.1 25 = .ok (.iadd, 1) := by decide +kernel
theorem d_Play_takeLengths_26 : decode M_Play_takeLengths.2.1 26 = .ok (.iaload, 1) := by decide +kernel
theorem d_Play_takeLengths_27 : decode M_Play_takeLengths.2.1 27 = .ok (.aload_n 1, 1) := by decide +kernel
theorem d_Play_takeLengths_28 : decode M_Play_takeLengths.2.1 28 = .ok (.getfield 70, 3) := by decide +kernel
theorem d_Play_takeLengths_31 : decode M_Play_takeLengths.2.1 31 = .ok (.iload_n 2, 1) := by decide +kernel
theorem d_Play_takeLengths_32 : decode M_Play_takeLengths.2.1 32 = .ok (.iload 5, 2) := by decide +kernel
theorem d_Play_takeLengths_34 : decode M_Play_takeLengths.2.1 34 = .ok (.invokestatic 73, 3) := by decide +kernel
theorem d_Play_takeLengths_37 : decode M_Play_takeLengths.2.1 37 = .ok (.iaload, 1) := by decide +kernel
theorem d_Play_takeLengths_38 : decode M_Play_takeLengths.2.1 38 = .ok (.iadd, 1) := by decide +kernel
theorem d_Play_takeLengths_39 : decode M_Play_takeLengths.2.1 39 = .ok (.istore 6, 2) := by decide +kernel
theorem d_Play_takeLengths_41 : decode M_Play_takeLengths.2.1 41 = .ok (.aload_n 0, 1) := by decide +kernel
theorem d_Play_takeLengths_42 : decode M_Play_takeLengths.2.1 42 = .ok (.getfield 9, 3) := by decide +kernel
theorem d_Play_takeLengths_45 : decode M_Play_takeLengths.2.1 45 = .ok (.iload_n 2, 1) := by decide +kernel
theorem d_Play_takeLengths_46 : decode M_Play_takeLengths.2.1 46 = .ok (.iaload, 1) := by decide +kernel
theorem d_Play_takeLengths_47 : decode M_Play_takeLengths.2.1 47 = .ok (.bipush (-2), 2) := by decide +kernel
theorem d_Play_takeLengths_49 : decode M_Play_takeLengths.2.1 49 = .ok (.if_icmp .eq 14, 3) := by decide +kernel
theorem d_Play_takeLengths_52 : decode M_Play_takeLengths.2.1 52 = .ok (.iload 6, 2) := by decide +kernel
theorem d_Play_takeLengths_54 : decode M_Play_takeLengths.2.1 54 = .ok (.aload_n 0, 1) := by decide +kernel
theorem d_Play_takeLengths_55 : decode M_Play_takeLengths.2.1 55 = .ok (.getfield 9, 3) := by decide +kernel
theorem d_Play_takeLengths_58 : decode M_Play_takeLengths.2.1 58 = .ok (.iload_n 2, 1) := by decide +kernel
theorem d_Play_takeLengths_59 : decode M_Play_takeLengths.2.1 59 = .ok (.iaload, 1) := by decide +kernel
theorem d_Play_takeLengths_60 : decode M_Play_takeLengths.2.1 60 = .ok (.if_icmp .ge 7, 3) := by decide +kernel
theorem d_Play_takeLengths_63 : decode M_Play_takeLengths.2.1 63 = .ok (.iconst 1, 1) := by decide +kernel
theorem d_Play_takeLengths_64 : decode M_Play_takeLengths.2.1 64 = .ok (.goto 4, 3) := by decide +kernel
theorem d_Play_takeLengths_67 : decode M_Play_takeLengths.2.1 67 = .ok (.iconst 0, 1) := by decide +kernel
theorem d_Play_takeLengths_68 : decode M_Play_takeLengths.2.1 68 = .ok (.istore 7, 2) := by decide +kernel
theorem d_Play_takeLengths_70 : decode M_Play_takeLengths.2.1 70 = .ok (.aload_n 0, 1) := by decide +kernel
theorem d_Play_takeLengths_71 : decode M_Play_takeLengths.2.1 71 = .ok (.getfield 18, 3) := by decide +kernel
theorem d_Play_takeLengths_74 : decode M_Play_takeLengths.2.1 74 = .ok (.iload_n 3, 1) := by decide +kernel
theorem d_Play_takeLengths_75 : decode M_Play_takeLengths.2.1 75 = .ok (.iload 5, 2) := by decide +kernel
theorem d_Play_takeLengths_77 : decode M_Play_takeLengths.2.1 77 = .ok (.iadd, 1) := by decide +kernel
theorem d_Play_takeLengths_78 : decode M_Play_takeLengths.2.1 78 = .ok (.iaload, 1) := by decide +kernel
theorem d_Play_takeLengths_79 : decode M_Play_takeLengths.2.1 79 = .ok (.bipush (-2), 2) := by decide +kernel
theorem d_Play_takeLengths_81 : decode M_Play_takeLengths.2.1 81 = .ok (.if_icmp .eq 24, 3) := by decide +kernel
theorem d_Play_takeLengths_84 : decode M_Play_takeLengths.2.1 84 = .ok (.iload 7, 2) := by decide +kernel
theorem d_Play_takeLengths_86 : decode M_Play_takeLengths.2.1 86 = .ok (.ifCond .eq 19, 3) := by decide +kernel
theorem d_Play_takeLengths_89 : decode M_Play_takeLengths.2.1 89 = .ok (.aload_n 0, 1) := by decide +kernel
theorem d_Play_takeLengths_90 : decode M_Play_takeLengths.2.1 90 = .ok (.getfield 9, 3) := by decide +kernel
theorem d_Play_takeLengths_93 : decode M_Play_takeLengths.2.1 93 = .ok (.iload_n 2, 1) := by decide +kernel
theorem d_Play_takeLengths_94 : decode M_Play_takeLengths.2.1 94 = .ok (.iload 6, 2) := by decide +kernel
theorem d_Play_takeLengths_96 : decode M_Play_takeLengths.2.1 96 = .ok (.iastore, 1) := by decide +kernel
theorem d_Play_takeLengths_97 : decode M_Play_takeLengths.2.1 97 = .ok (.aload_n 0, 1) := by decide +kernel
theorem d_Play_takeLengths_98 : decode M_Play_takeLengths.2.1 98 = .ok (.getfield 15, 3) := by decide +kernel
theorem d_Play_takeLengths_101 : decode M_Play_takeLengths.2.1 101 = .ok (.iload_n 2, 1) := by decide +kernel
theorem d_Play_takeLengths_102 : decode M_Play_takeLengths.2.1 102 = .ok (.iload 5, 2) := by decide +kernel
theorem d_Play_takeLengths_104 : decode M_Play_takeLengths.2.1 104 = .ok (.iastore, 1) := by decide +kernel
theorem d_Play_takeLengths_105 : decode M_Play_takeLengths.2.1 105 = .ok (.iinc 5 1, 3) := by decide +kernel
theorem d_Play_takeLengths_108 : decode M_Play_takeLengths.2.1 108 = .ok (.goto (-97), 3) := by decide +kernel
theorem d_Play_takeLengths_111 : decode M_Play_takeLengths.2.1 111 = .ok (.aload_n 0, 1) := by decide +kernel
theorem d_Play_takeLengths_112 : decode M_Play_takeLengths.2.1 112 = .ok (.getfield 9, 3) := by decide +kernel
theorem d_Play_takeLengths_115 : decode M_Play_takeLengths.2.1 115 = .ok (.iload_n 2, 1) := by decide +kernel
theorem d_Play_takeLengths_116 : decode M_Play_takeLengths.2.1 116 = .ok (.iaload, 1) := by decide +kernel
theorem d_Play_takeLengths_117 : decode M_Play_takeLengths.2.1 117 = .ok (.iload 4, 2) := by decide +kernel
theorem d_Play_takeLengths_119 : decode M_Play_takeLengths.2.1 119 = .ok (.if_icmp .ne 8, 3) := by decide +kernel
theorem d_Play_takeLengths_122 : decode M_Play_takeLengths.2.1 122 = .ok (.bipush (-2), 2) := by decide +kernel
theorem d_Play_takeLengths_124 : decode M_Play_takeLengths.2.1 124 = .ok (.goto 9, 3) := by decide +kernel
theorem d_Play_takeLengths_127 : decode M_Play_takeLengths.2.1 127 = .ok (.aload_n 0, 1) := by decide +kernel
theorem d_Play_takeLengths_128 : decode M_Play_takeLengths.2.1 128 = .ok (.getfield 9, 3) := by decide +kernel
theorem d_Play_takeLengths_131 : decode M_Play_takeLengths.2.1 131 = .ok (.iload_n 2, 1) := by decide +kernel
theorem d_Play_takeLengths_132 : decode M_Play_takeLengths.2.1 132 = .ok (.iaload, 1) := by decide +kernel
theorem d_Play_takeLengths_133 : decode M_Play_takeLengths.2.1 133 = .ok (.ireturn, 1) := by decide +kernel
