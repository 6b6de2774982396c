theorem d_Frame_clear_0 : decode M_Frame_clear.2.1 0 = .ok (.aload_n 0, 1) := by decide +kernel
theorem d_Frame_clear_1 : decode M_Frame_clear.2.1 1 = .ok (.iconst 1, 1) := by decide +kernel
theorem d_Frame_clear_2 : decode M_Frame_clear.2.1 2 = .ok (.putfield 57, 3) := by decide +kernel
theorem d_Frame_clear_5 : decode M_Frame_clear.2.1 5 = .ok (.aload_n 0, 1) := by decide +kernel
theorem d_Frame_clear_6 : decode M_Frame_clear.2.1 6 = .ok (.iconst 0, 1) := by decide +kernel
theorem d_Frame_clear_7 : decode M_Frame_clear.2.1 7 = .ok (.putfield 61, 3) := by decide +kernel
theorem d_Frame_clear_10 : decode M_Frame_clear.2.1 10 = .ok (.aload_n 0, 1) := by decide +kernel
theorem d_Frame_clear_11 : decode M_Frame_clear.2.1 11 = .ok (.getfield 9, 3) := by decide +kernel
theorem d_Frame_clear_14 : decode M_Frame_clear.2.1 14 = .ok (.bipush (-2), 2) := by decide +kernel
theorem d_Frame_clear_16 : decode M_Frame_clear.2.1 16 = .ok (.invokestatic 64, 3) := by decide +kernel
theorem d_Frame_clear_19 : decode M_Frame_clear.2.1 19 = .ok (.aload_n 0, 1) := by decide +kernel
theorem d_Frame_clear_20 : decode M_Frame_clear.2.1 20 = .ok (.getfield 15, 3) := by decide +kernel
theorem d_Frame_clear_23 : decode M_Frame_clear.2.1 23 = .ok (.bipush (-2), 2) := by decide +kernel
theorem d_Frame_clear_25 : decode M_Frame_clear.2.1 25 = .ok (.invokestatic 64, 3) := by decide +kernel
theorem d_Frame_clear_28 : decode M_Frame_clear.2.1 28 = .ok (.aload_n 0, 1) := by decide +kernel
theorem d_Frame_clear_29 : decode M_Frame_clear.2.1 29 = .ok (.getfield 18, 3) := by decide +kernel
theorem d_Frame_clear_32 : decode M_Frame_clear.2.1 32 = .ok (.bipush (-2), 2) := by decide +kernel
theorem d_Frame_clear_34 : decode M_Frame_clear.2.1 34 = .ok (.invokestatic 64, 3) := by decide +kernel
theorem d_Frame_clear_37 : decode M_Frame_clear.2.1 37 = .ok (.aload_n 0, 1) := by decide +kernel
theorem d_Frame_clear_38 : decode M_Frame_clear.2.1 38 = .ok (.getfield 21, 3) := by decide +kernel
theorem d_Frame_clear_41 : decode M_Frame_clear.2.1 41 = .ok (.iconst 0, 1) := by decide +kernel
theorem d_Frame_clear_42 : decode M_Frame_clear.2.1 42 = .ok (.invokestatic 64, 3) := by decide +kernel
theorem d_Frame_clear_45 : decode M_Frame_clear.2.1 45 = .ok (.aload_n 0, 1) := by decide +kernel
theorem d_Frame_clear_46 : decode M_Frame_clear.2.1 46 = .ok (.getfield 24, 3) := by decide +kernel
theorem d_Frame_clear_49 : decode M_Frame_clear.2.1 49 = .ok (.iconst 0, 1) := by decide +kernel
theorem d_Frame_clear_50 : decode M_Frame_clear.2.1 50 = .ok (.invokestatic 64, 3) := by decide +kernel
theorem d_Frame_clear_53 : decode M_Frame_clear.2.1 53 = .ok (.aload_n 0, 1) := by decide +kernel
theorem d_Frame_clear_54 : decode M_Frame_clear.2.1 54 = .ok (.getfield 27, 3) := by decide +kernel
theorem d_Frame_clear_57 : decode M_Frame_clear.2.1 57 = .ok (.iconst 0, 1) := by decide +kernel
theorem d_Frame_clear_58 : decode M_Frame_clear.2.1 58 = .ok (.invokestatic 64, 3) := by decide +kernel
theorem d_Frame_clear_61 : decode M_Frame_clear.2.1 61 = .ok (.aload_n 0, 1) := by decide +kernel
theorem d_Frame_clear_62 : decode M_Frame_clear.2.1 62 = .ok (.getfield 30, 3) := by decide +kernel
theorem d_Frame_clear_65 : decode M_Frame_clear.2.1 65 = .ok (.iconst 0, 1) := by decide +kernel
theorem d_Frame_clear_66 : decode M_Frame_clear.2.1 66 = .ok (.invokestatic 64, 3) := by decide +kernel
theorem d_Frame_clear_69 : decode M_Frame_clear.2.1 69 = .ok (.return_, 1) := by decide +kernel
theorem d_Frame_standAlone_0 : decode M_Frame_standAlone.2.1 0 = .ok (.iconst 0, 1) := by decide +kernel
theorem d_Frame_standAlone_1 : decode M_Frame_standAlone.2.1 1 = .ok (.istore_n 2, 1) := by decide +kernel
theorem d_Frame_standAlone_2 : decode M_Frame_standAlone.2.1 2 = .ok (.iload_n 2, 1) := by decide +kernel
theorem d_Frame_standAlone_3 : decode M_Frame_standAlone.2.1 3 = .ok (.aload_n 1, 1) := by decide +kernel
theorem d_Frame_standAlone_4 : decode M_Frame_standAlone.2.1 4 = .ok (.getfield 70, 3) := by decide +kernel
theorem d_Frame_standAlone_7 : decode M_Frame_standAlone.2.1 7 = .ok (.if_icmp .ge 28, 3) := by decide +kernel
theorem d_Frame_standAlone_10 : decode M_Frame_standAlone.2.1 10 = .ok (.aload_n 0, 1) := by decide +kernel
theorem d_Frame_standAlone_11 : decode M_Frame_standAlone.2.1 11 = .ok (.getfield 9, 3) := by decide +kernel
theorem d_Frame_standAlone_14 : decode M_Frame_standAlone.2.1 14 = .ok (.iload_n 2, 1) := by decide +kernel
theorem d_Frame_standAlone_15 : decode M_Frame_standAlone.2.1 15 = .ok (.iload_n 2, 1) := by decide +kernel
theorem d_Frame_standAlone_16 : decode M_Frame_standAlone.2.1 16 = .ok (.iastore, 1) := by decide +kernel
theorem d_Frame_standAlone_17 : decode M_Frame_standAlone.2.1 17 = .ok (.aload_n 0, 1) := by decide +kernel
theorem d_Frame_standAlone_18 : decode M_Frame_standAlone.2.1 18 = .ok (.getfield 27, 3) := by decide +kernel
theorem d_Frame_standAlone_21 : decode M_Frame_standAlone.2.1 21 = .ok (.iload_n 2, 1) := by decide +kernel
theorem d_Frame_standAlone_22 : decode M_Frame_standAlone.2.1 22 = .ok (.aload_n 1, 1) := by decide +kernel
theorem d_Frame_standAlone_23 : decode M_Frame_standAlone.2.1 23 = .ok (.getfield 73, 3) := by decide +kernel
theorem d_Frame_standAlone_26 : decode M_Frame_standAlone.2.1 26 = .ok (.iload_n 2, 1) := by decide +kernel
theorem d_Frame_standAlone_27 : decode M_Frame_standAlone.2.1 27 = .ok (.iaload, 1) := by decide +kernel
theorem d_Frame_standAlone_28 : decode M_Frame_standAlone.2.1 28 = .ok (.iastore, 1) := by decide +kernel
theorem d_Frame_standAlone_29 : decode M_Frame_standAlone.2.1 29 = .ok (.iinc 2 1, 3) := by decide +kernel
theorem d_Frame_standAlone_32 : decode M_Frame_standAlone.2.1 32 = .ok (.goto (-30), 3) := by decide +kernel
theorem d_Frame_standAlone_35 : decode M_Frame_standAlone.2.1 35 = .ok (.return_, 1) := by decide +kernel
theorem d_Frame_growTree_0 : decode M_Frame_growTree.2.1 0 = .ok (.aload_n 0, 1) := by decide +kernel
theorem d_Frame_growTree_1 : decode M_Frame_growTree.2.1 1 = .ok (.getfield 18, 3) := by decide +kernel
theorem d_Frame_growTree_4 : decode M_Frame_growTree.2.1 4 = .ok (.iload_n 3, 1) := by decide +kernel
theorem d_Frame_growTree_5 : decode M_Frame_growTree.2.1 5 = .ok (.iconst 0, 1) := by decide +kernel
theorem d_Frame_growTree_6 : decode M_Frame_growTree.2.1 6 = .ok (.iastore, 1) := by decide +kernel
theorem d_Frame_growTree_7 : decode M_Frame_growTree.2.1 7 = .ok (.aload_n 0, 1) := by decide +kernel
theorem d_Frame_growTree_8 : decode M_Frame_growTree.2.1 8 = .ok (.getfield 9, 3) := by decide +kernel
theorem d_Frame_growTree_11 : decode M_Frame_growTree.2.1 11 = .ok (.iload_n 3, 1) := by decide +kernel
theorem d_Frame_growTree_12 : decode M_Frame_growTree.2.1 12 = .ok (.iload_n 3, 1) := by decide +kernel
theorem d_Frame_growTree_13 : decode M_Frame_growTree.2.1 13 = .ok (.iastore, 1) := by decide +kernel
theorem d_Frame_growTree_14 : decode M_Frame_growTree.2.1 14 = .ok (.iconst 0, 1) := by decide +kernel
theorem d_Frame_growTree_15 : decode M_Frame_growTree.2.1 15 = .ok (.istore 4, 2) := by decide +kernel
theorem d_Frame_growTree_17 : decode M_Frame_growTree.2.1 17 = .ok (.iload 4, 2) := by decide +kernel
theorem d_Frame_growTree_19 : decode M_Frame_growTree.2.1 19 = .ok (.aload_n 1, 1) := by decide +kernel
theorem d_Frame_growTree_20 : decode M_Frame_growTree.2.1 20 = .ok (.getfield 70, 3) := by decide +kernel
theorem d_Frame_growTree_23 : decode M_Frame_growTree.2.1 23 = .ok (.if_icmp .ge 58, 3) := by decide +kernel
theorem d_Frame_growTree_26 : decode M_Frame_growTree.2.1 26 = .ok (.iconst 0, 1) := by decide +kernel
theorem d_Frame_growTree_27 : decode M_Frame_growTree.2.1 27 = .ok (.istore 5, 2) := by decide +kernel
theorem d_Frame_growTree_29 : decode M_Frame_growTree.2.1 29 = .ok (.iload 5, 2) := by decide +kernel
theorem d_Frame_growTree_31 : decode M_Frame_growTree.2.1 31 = .ok (.aload_n 1, 1) := by decide +kernel
theorem d_Frame_growTree_32 : decode M_Frame_growTree.2.1 32 = .ok (.getfield 70, 3) := by decide +kernel
theorem d_Frame_growTree_35 : decode M_Frame_growTree.2.1 35 = .ok (.if_icmp .ge 40, 3) := by decide +kernel
theorem d_Frame_growTree_38 : decode M_Frame_growTree.2.1 38 = .ok (.iload_n 2, 1) := by decide +kernel
theorem d_Frame_growTree_39 : decode M_Frame_growTree.2.1 39 = .ok (.iload 5, 2) := by decide +kernel
theorem d_Frame_growTree_41 : decode M_Frame_growTree.2.1 41 = .ok (.invokestatic 76, 3) := by decide +kernel
theorem d_Frame_growTree_44 : decode M_Frame_growTree.2.1 44 = .ok (.ifCond .eq 25, 3) := by decide +kernel
theorem d_Frame_growTree_47 : decode M_Frame_growTree.2.1 47 = .ok (.aload_n 0, 1) := by decide +kernel
theorem d_Frame_growTree_48 : decode M_Frame_growTree.2.1 48 = .ok (.getfield 18, 3) := by decide +kernel
theorem d_Frame_growTree_51 : decode M_Frame_growTree.2.1 51 = .ok (.iload 5, 2) := by decide +kernel
theorem d_Frame_growTree_53 : decode M_Frame_growTree.2.1 53 = .ok (.iaload, 1) := by decide +kernel
theorem d_Frame_growTree_54 : decode M_Frame_growTree.2.1 54 = .ok (.bipush (-2), 2) := by decide +kernel
theorem d_Frame_growTree_56 : decode M_Frame_growTree.2.1 56 = .ok (.if_icmp .ne 13, 3) := by decide +kernel
theorem d_Frame_growTree_59 : decode M_Frame_growTree.2.1 59 = .ok (.aload_n 0, 1) := by decide +kernel
theorem d_Frame_growTree_60 : decode M_Frame_growTree.2.1 60 = .ok (.aload_n 1, 1) := by decide +kernel
theorem d_Frame_growTree_61 : decode M_Frame_growTree.2.1 61 = .ok (.iload 5, 2) := by decide +kernel
theorem d_Frame_growTree_63 : decode M_Frame_growTree.2.1 63 = .ok (.iload_n 2, 1) := by decide +kernel
theorem d_Frame_growTree_64 : decode M_Frame_growTree.2.1 64 = .ok (.iload 4, 2) := by decide +kernel
theorem d_Frame_growTree_66 : decode M_Frame_growTree.2.1 66 = .ok (.invokevirtual 80, 3) := by decide +kernel
theorem d_Frame_growTree_69 : decode M_Frame_growTree.2.1 69 = .ok (.iinc 5 1, 3) := by decide +kernel
theorem d_Frame_growTree_72 : decode M_Frame_growTree.2.1 72 = .ok (.goto (-43), 3) := by decide +kernel
theorem d_Frame_growTree_75 : decode M_Frame_growTree.2.1 75 = .ok (.iinc 4 1, 3) := by decide +kernel
theorem d_Frame_growTree_78 : decode M_Frame_growTree.2.1 78 = .ok (.goto (-61), 3) := by decide +kernel
theorem d_Frame_growTree_81 : decode M_Frame_growTree.2.1 81 = .ok (.iconst 0, 1) := by decide +kernel
theorem d_Frame_growTree_82 : decode M_Frame_growTree.2.1 82 = .ok (.istore 4, 2) := by decide +kernel
theorem d_Frame_growTree_84 : decode M_Frame_growTree.2.1 84 = .ok (.iload 4, 2) := by decide +kernel
theorem d_Frame_growTree_86 : decode M_Frame_growTree.2.1 86 = .ok (.aload_n 1, 1) := by decide +kernel
theorem d_Frame_growTree_87 : decode M_Frame_growTree.2.1 87 = .ok (.getfield 70, 3) := by decide +kernel
theorem d_Frame_growTree_90 : decode M_Frame_growTree.2.1 90 = .ok (.if_icmp .ge 26, 3) := by decide +kernel
theorem d_Frame_growTree_93 : decode M_Frame_growTree.2.1 93 = .ok (.iload_n 2, 1) := by decide +kernel
theorem d_Frame_growTree_94 : decode M_Frame_growTree.2.1 94 = .ok (.iload 4, 2) := by decide +kernel
theorem d_Frame_growTree_96 : decode M_Frame_growTree.2.1 96 = .ok (.invokestatic 76, 3) := by decide +kernel
theorem d_Frame_growTree_99 : decode M_Frame_growTree.2.1 99 = .ok (.ifCond .eq 11, 3) := by decide +kernel
theorem d_Frame_growTree_102 : decode M_Frame_growTree.2.1 102 = .ok (.aload_n 0, 1) := by decide +kernel
theorem d_Frame_growTree_103 : decode M_Frame_growTree.2.1 103 = .ok (.getfield 9, 3) := by decide +kernel
theorem d_Frame_growTree_106 : decode M_Frame_growTree.2.1 106 = .ok (.iload 4, 2) := by decide +kernel
theorem d_Frame_growTree_108 : decode M_Frame_growTree.2.1 108 = .ok (.iload_n 3, 1) := by decide +kernel
theorem d_Frame_growTree_109 : decode M_Frame_growTree.2.1 109 = .ok (.iastore, 1) := by decide +kernel
theorem d_Frame_growTree_110 : decode M_Frame_growTree.2.1 110 = .ok (.iinc 4 1, 3) := by decide +kernel
theorem d_Frame_growTree_113 : decode M_Frame_growTree.2.1 113 = .ok (.goto (-29), 3) := by decide +kernel
theorem d_Frame_growTree_116 : decode M_Frame_growTree.2.1 116 = .ok (.return_, 1) := by decide +kernel
theorem d_Frame_hang_0 : decode M_Frame_hang.2.1 0 = .ok (.aload_n 1, 1) := by decide +kernel
theorem d_Frame_hang_1 : decode M_Frame_hang.2.1 1 = .ok (.getfield 73, 3) := by decide +kernel
theorem d_Frame_hang_4 : decode M_Frame_hang.2.1 4 = .ok (.iload_n 2, 1) := by decide +kernel
theorem d_Frame_hang_5 : decode M_Frame_hang.2.1 5 = .ok (.iaload, 1) := by decide +kernel
theorem d_Frame_hang_6 : decode M_Frame_hang.2.1 6 = .ok (.iload_n 3, 1) := by decide +kernel
theorem d_Frame_hang_7 : decode M_Frame_hang.2.1 7 = .ok (.iand, 1) := by decide +kernel
theorem d_Frame_hang_8 : decode M_Frame_hang.2.1 8 = .ok (.istore 5, 2) := by decide +kernel
theorem d_Frame_hang_10 : decode M_Frame_hang.2.1 10 = .ok (.iconst 0, 1) := by decide +kernel
theorem d_Frame_hang_11 : decode M_Frame_hang.2.1 11 = .ok (.istore 6, 2) := by decide +kernel
theorem d_Frame_hang_13 : decode M_Frame_hang.2.1 13 = .ok (.iload 6, 2) := by decide +kernel
theorem d_Frame_hang_15 : decode M_Frame_hang.2.1 15 = .ok (.aload_n 1, 1) := by decide +kernel
theorem d_Frame_hang_16 : decode M_Frame_hang.2.1 16 = .ok (.getfield 70, 3) := by decide +kernel
theorem d_Frame_hang_19 : decode M_Frame_hang.2.1 19 = .ok (.if_icmp .ge 73, 3) := by decide +kernel
theorem d_Frame_hang_22 : decode M_Frame_hang.2.1 22 = .ok (.iload 5, 2) := by decide +kernel
theorem d_Frame_hang_24 : decode M_Frame_hang.2.1 24 = .ok (.iload 6, 2) := by decide +kernel
theorem d_Frame_hang_26 : decode M_Frame_hang.2.1 26 = .ok (.invokestatic 76, 3) := by decide +kernel
theorem d_Frame_hang_29 : decode M_Frame_hang.2.1 29 = .ok (.ifCond .eq 57, 3) := by decide +kernel
theorem d_Frame_hang_32 : decode M_Frame_hang.2.1 32 = .ok (.aload_n 0, 1) := by decide +kernel
theorem d_Frame_hang_33 : decode M_Frame_hang.2.1 33 = .ok (.getfield 18, 3) := by decide +kernel
theorem d_Frame_hang_36 : decode M_Frame_hang.2.1 36 = .ok (.iload 6, 2) := by decide +kernel
theorem d_Frame_hang_38 : decode M_Frame_hang.2.1 38 = .ok (.iaload, 1) := by decide +kernel
theorem d_Frame_hang_39 : decode M_Frame_hang.2.1 39 = .ok (.iload 4, 2) := by decide +kernel
theorem d_Frame_hang_41 : decode M_Frame_hang.2.1 41 = .ok (.if_icmp .ne 45, 3) := by decide +kernel
theorem d_Frame_hang_44 : decode M_Frame_hang.2.1 44 = .ok (.aload_n 0, 1) := by decide +kernel
theorem d_Frame_hang_45 : decode M_Frame_hang.2.1 45 = .ok (.getfield 18, 3) := by decide +kernel
theorem d_Frame_hang_48 : decode M_Frame_hang.2.1 48 = .ok (.iload_n 2, 1) := by decide +kernel
theorem d_Frame_hang_49 : decode M_Frame_hang.2.1 49 = .ok (.iload 4, 2) := by decide +kernel
theorem d_Frame_hang_51 : decode M_Frame_hang.2.1 51 = .ok (.iconst 1, 1) := by decide +kernel
theorem d_Frame_hang_52 : decode M_Frame_hang.2.1 52 = .ok (.iadd, 1) := by decide +kernel
theorem d_Frame_hang_53 : decode M_Frame_hang.2.1 53 = .ok (.iastore, 1) := by decide +kernel
theorem d_Frame_hang_54 : decode M_Frame_hang.2.1 54 = .ok (.aload_n 0, 1) := by decide +kernel
theorem d_Frame_hang_55 : decode M_Frame_hang.2.1 55 = .ok (.getfield 15, 3) := by decide +kernel
theorem d_Frame_hang_58 : decode M_Frame_hang.2.1 58 = .ok (.iload_n 2, 1) := by decide +kernel
theorem d_Frame_hang_59 : decode M_Frame_hang.2.1 59 = .ok (.iload 6, 2) := by decide +kernel
theorem d_Frame_hang_61 : decode M_Frame_hang.2.1 61 = .ok (.iastore, 1) := by decide +kernel
theorem d_Frame_hang_62 : decode M_Frame_hang.2.1 62 = .ok (.aload_n 0, 1) := by decide +kernel
theorem d_Frame_hang_63 : decode M_Frame_hang.2.1 63 = .ok (.getfield 21, 3) := by decide +kernel
theorem d_Frame_hang_66 : decode M_Frame_hang.2.1 66 = .ok (.iload_n 2, 1) := by decide +kernel
theorem d_Frame_hang_67 : decode M_Frame_hang.2.1 67 = .ok (.iconst 1, 1) := by decide +kernel
theorem d_Frame_hang_68 : decode M_Frame_hang.2.1 68 = .ok (.iload 6, 2) := by decide +kernel
theorem d_Frame_hang_70 : decode M_Frame_hang.2.1 70 = .ok (.ishl, 1) := by decide +kernel
theorem d_Frame_hang_71 : decode M_Frame_hang.2.1 71 = .ok (.iastore, 1) := by decide +kernel
theorem d_Frame_hang_72 : decode M_Frame_hang.2.1 72 = .ok (.aload_n 0, 1) := by decide +kernel
theorem d_Frame_hang_73 : decode M_Frame_hang.2.1 73 = .ok (.getfield 24, 3) := by decide +kernel
theorem d_Frame_hang_76 : decode M_Frame_hang.2.1 76 = .ok (.iload 6, 2) := by decide +kernel
theorem d_Frame_hang_78 : decode M_Frame_hang.2.1 78 = .ok (.dup2, 1) := by decide +kernel
theorem d_Frame_hang_79 : decode M_Frame_hang.2.1 79 = .ok (.iaload, 1) := by decide +kernel
theorem d_Frame_hang_80 : decode M_Frame_hang.2.1 80 = .ok (.iconst 1, 1) := by decide +kernel
theorem d_Frame_hang_81 : decode M_Frame_hang.2.1 81 = .ok (.iload_n 2, 1) := by decide +kernel
theorem d_Frame_hang_82 : decode M_Frame_hang.2.1 82 = .ok (.ishl, 1) := by decide +kernel
theorem d_Frame_hang_83 : decode M_Frame_hang.2.1 83 = .ok (.ior, 1) := by decide +kernel
theorem d_Frame_hang_84 : decode M_Frame_hang.2.1 84 = .ok (.iastore, 1) := by decide +kernel
theorem d_Frame_hang_85 : decode M_Frame_hang.2.1 85 = .ok (.return_, 1) := by decide +kernel
theorem d_Frame_hang_86 : decode M_Frame_hang.2.1 86 = .ok (.iinc 6 1, 3) := by decide +kernel
theorem d_Frame_hang_89 : decode M_Frame_hang.2.1 89 = .ok (.goto (-76), 3) := by decide +kernel
theorem d_Frame_hang_92 : decode M_Frame_hang.2.1 92 = .ok (.return_, 1) := by decide +kernel
theorem d_Frame_makeClusters_0 : decode M_Frame_makeClusters.2.1 0 = .ok (.aload_n 1, 1) := by decide +kernel
theorem d_Frame_makeClusters_1 : decode M_Frame_makeClusters.2.1 1 = .ok (.invokevirtual 40, 3) := by decide +kernel
theorem d_Frame_makeClusters_4 : decode M_Frame_makeClusters.2.1 4 = .ok (.istore_n 3, 1) := by decide +kernel
theorem d_Frame_makeClusters_5 : decode M_Frame_makeClusters.2.1 5 = .ok (.aload_n 0, 1) := by decide +kernel
theorem d_Frame_makeClusters_6 : decode M_Frame_makeClusters.2.1 6 = .ok (.iconst 0, 1) := by decide +kernel
theorem d_Frame_makeClusters_7 : decode M_Frame_makeClusters.2.1 7 = .ok (.putfield 57, 3) := by decide +kernel
theorem d_Frame_makeClusters_10 : decode M_Frame_makeClusters.2.1 10 = .ok (.iconst 0, 1) := by decide +kernel
theorem d_Frame_makeClusters_11 : decode M_Frame_makeClusters.2.1 11 = .ok (.istore 4, 2) := by decide +kernel
theorem d_Frame_makeClusters_13 : decode M_Frame_makeClusters.2.1 13 = .ok (.iload 4, 2) := by decide +kernel
theorem d_Frame_makeClusters_15 : decode M_Frame_makeClusters.2.1 15 = .ok (.aload_n 1, 1) := by decide +kernel
theorem d_Frame_makeClusters_16 : decode M_Frame_makeClusters.2.1 16 = .ok (.getfield 70, 3) := by decide +kernel
theorem d_Frame_makeClusters_19 : decode M_Frame_makeClusters.2.1 19 = .ok (.if_icmp .ge 54, 3) := by decide +kernel
theorem d_Frame_makeClusters_22 : decode M_Frame_makeClusters.2.1 22 = .ok (.iload_n 3, 1) := by decide +kernel
theorem d_Frame_makeClusters_23 : decode M_Frame_makeClusters.2.1 23 = .ok (.iload 4, 2) := by decide +kernel
theorem d_Frame_makeClusters_25 : decode M_Frame_makeClusters.2.1 25 = .ok (.invokestatic 76, 3) := by decide +kernel
theorem d_Frame_makeClusters_28 : decode M_Frame_makeClusters.2.1 28 = .ok (.ifCond .eq 39, 3) := by decide +kernel
theorem d_Frame_makeClusters_31 : decode M_Frame_makeClusters.2.1 31 = .ok (.aload_n 1, 1) := by decide +kernel
theorem d_Frame_makeClusters_32 : decode M_Frame_makeClusters.2.1 32 = .ok (.iload 4, 2) := by decide +kernel
theorem d_Frame_makeClusters_34 : decode M_Frame_makeClusters.2.1 34 = .ok (.iload_n 3, 1) := by decide +kernel
theorem d_Frame_makeClusters_35 : decode M_Frame_makeClusters.2.1 35 = .ok (.iload_n 2, 1) := by decide +kernel
theorem d_Frame_makeClusters_36 : decode M_Frame_makeClusters.2.1 36 = .ok (.invokestatic 84, 3) := by decide +kernel
theorem d_Frame_makeClusters_39 : decode M_Frame_makeClusters.2.1 39 = .ok (.istore 5, 2) := by decide +kernel
theorem d_Frame_makeClusters_41 : decode M_Frame_makeClusters.2.1 41 = .ok (.iload_n 3, 1) := by decide +kernel
theorem d_Frame_makeClusters_42 : decode M_Frame_makeClusters.2.1 42 = .ok (.iload 5, 2) := by decide +kernel
theorem d_Frame_makeClusters_44 : decode M_Frame_makeClusters.2.1 44 = .ok (.iconst (-1), 1) := by decide +kernel
theorem d_Frame_makeClusters_45 : decode M_Frame_makeClusters.2.1 45 = .ok (.ixor, 1) := by decide +kernel
theorem d_Frame_makeClusters_46 : decode M_Frame_makeClusters.2.1 46 = .ok (.iand, 1) := by decide +kernel
theorem d_Frame_makeClusters_47 : decode M_Frame_makeClusters.2.1 47 = .ok (.istore_n 3, 1) := by decide +kernel
theorem d_Frame_makeClusters_48 : decode M_Frame_makeClusters.2.1 48 = .ok (.aload_n 0, 1) := by decide +kernel
theorem d_Frame_makeClusters_49 : decode M_Frame_makeClusters.2.1 49 = .ok (.dup, 1) := by decide +kernel
theorem d_Frame_makeClusters_50 : decode M_Frame_makeClusters.2.1 50 = .ok (.getfield 57, 3) := by decide +kernel
theorem d_Frame_makeClusters_53 : decode M_Frame_makeClusters.2.1 53 = .ok (.iconst 1, 1) := by decide +kernel
theorem d_Frame_makeClusters_54 : decode M_Frame_makeClusters.2.1 54 = .ok (.iadd, 1) := by decide +kernel
theorem d_Frame_makeClusters_55 : decode M_Frame_makeClusters.2.1 55 = .ok (.putfield 57, 3) := by decide +kernel
theorem d_Frame_makeClusters_58 : decode M_Frame_makeClusters.2.1 58 = .ok (.aload_n 0, 1) := by decide +kernel
theorem d_Frame_makeClusters_59 : decode M_Frame_makeClusters.2.1 59 = .ok (.aload_n 1, 1) := by decide +kernel
theorem d_Frame_makeClusters_60 : decode M_Frame_makeClusters.2.1 60 = .ok (.iload 5, 2) := by decide +kernel
theorem d_Frame_makeClusters_62 : decode M_Frame_makeClusters.2.1 62 = .ok (.iload 4, 2) := by decide +kernel
theorem d_Frame_makeClusters_64 : decode M_Frame_makeClusters.2.1 64 = .ok (.invokevirtual 46, 3) := by decide +kernel
theorem d_Frame_makeClusters_67 : decode M_Frame_makeClusters.2.1 67 = .ok (.iinc 4 1, 3) := by decide +kernel
theorem d_Frame_makeClusters_70 : decode M_Frame_makeClusters.2.1 70 = .ok (.goto (-57), 3) := by decide +kernel
theorem d_Frame_makeClusters_73 : decode M_Frame_makeClusters.2.1 73 = .ok (.return_, 1) := by decide +kernel
theorem d_Frame_clusterOf_0 : decode M_Frame_clusterOf.2.1 0 = .ok (.iconst 1, 1) := by decide +kernel
theorem d_Frame_clusterOf_1 : decode M_Frame_clusterOf.2.1 1 = .ok (.iload_n 1, 1) := by decide +kernel
theorem d_Frame_clusterOf_2 : decode M_Frame_clusterOf.2.1 2 = .ok (.ishl, 1) := by decide +kernel
theorem d_Frame_clusterOf_3 : decode M_Frame_clusterOf.2.1 3 = .ok (.istore 4, 2) := by decide +kernel
theorem d_Frame_clusterOf_5 : decode M_Frame_clusterOf.2.1 5 = .ok (.iconst 0, 1) := by decide +kernel
theorem d_Frame_clusterOf_6 : decode M_Frame_clusterOf.2.1 6 = .ok (.istore 5, 2) := by decide +kernel
theorem d_Frame_clusterOf_8 : decode M_Frame_clusterOf.2.1 8 = .ok (.iload 5, 2) := by decide +kernel
theorem d_Frame_clusterOf_10 : decode M_Frame_clusterOf.2.1 10 = .ok (.aload_n 0, 1) := by decide +kernel
theorem d_Frame_clusterOf_11 : decode M_Frame_clusterOf.2.1 11 = .ok (.getfield 70, 3) := by decide +kernel
theorem d_Frame_clusterOf_14 : decode M_Frame_clusterOf.2.1 14 = .ok (.if_icmp .ge 51, 3) := by decide +kernel
theorem d_Frame_clusterOf_17 : decode M_Frame_clusterOf.2.1 17 = .ok (.aload_n 0, 1) := by decide +kernel
theorem d_Frame_clusterOf_18 : decode M_Frame_clusterOf.2.1 18 = .ok (.iload 4, 2) := by decide +kernel
theorem d_Frame_clusterOf_20 : decode M_Frame_clusterOf.2.1 20 = .ok (.invokevirtual 88, 3) := by decide +kernel
theorem d_Frame_clusterOf_23 : decode M_Frame_clusterOf.2.1 23 = .ok (.iload_n 2, 1) := by decide +kernel
theorem d_Frame_clusterOf_24 : decode M_Frame_clusterOf.2.1 24 = .ok (.iand, 1) := by decide +kernel
theorem d_Frame_clusterOf_25 : decode M_Frame_clusterOf.2.1 25 = .ok (.iload 4, 2) := by decide +kernel
theorem d_Frame_clusterOf_27 : decode M_Frame_clusterOf.2.1 27 = .ok (.iconst (-1), 1) := by decide +kernel
theorem d_Frame_clusterOf_28 : decode M_Frame_clusterOf.2.1 28 = .ok (.ixor, 1) := by decide +kernel
theorem d_Frame_clusterOf_29 : decode M_Frame_clusterOf.2.1 29 = .ok (.iand, 1) := by decide +kernel
theorem d_Frame_clusterOf_30 : decode M_Frame_clusterOf.2.1 30 = .ok (.istore 6, 2) := by decide +kernel
theorem d_Frame_clusterOf_32 : decode M_Frame_clusterOf.2.1 32 = .ok (.iload 6, 2) := by decide +kernel
theorem d_Frame_clusterOf_34 : decode M_Frame_clusterOf.2.1 34 = .ok (.invokestatic 92, 3) := by decide +kernel
theorem d_Frame_clusterOf_37 : decode M_Frame_clusterOf.2.1 37 = .ok (.iload_n 3, 1) := by decide +kernel
theorem d_Frame_clusterOf_38 : decode M_Frame_clusterOf.2.1 38 = .ok (.iconst 1, 1) := by decide +kernel
theorem d_Frame_clusterOf_39 : decode M_Frame_clusterOf.2.1 39 = .ok (.isub, 1) := by decide +kernel
theorem d_Frame_clusterOf_40 : decode M_Frame_clusterOf.2.1 40 = .ok (.iload 4, 2) := by decide +kernel
theorem d_Frame_clusterOf_42 : decode M_Frame_clusterOf.2.1 42 = .ok (.invokestatic 92, 3) := by decide +kernel
theorem d_Frame_clusterOf_45 : decode M_Frame_clusterOf.2.1 45 = .ok (.imul, 1) := by decide +kernel
theorem d_Frame_clusterOf_46 : decode M_Frame_clusterOf.2.1 46 = .ok (.if_icmp .ge 6, 3) := by decide +kernel
theorem d_Frame_clusterOf_49 : decode M_Frame_clusterOf.2.1 49 = .ok (.iload 4, 2) := by decide +kernel
theorem d_Frame_clusterOf_51 : decode M_Frame_clusterOf.2.1 51 = .ok (.ireturn, 1) := by decide +kernel
theorem d_Frame_clusterOf_52 : decode M_Frame_clusterOf.2.1 52 = .ok (.iload 4, 2) := by decide +kernel
theorem d_Frame_clusterOf_54 : decode M_Frame_clusterOf.2.1 54 = .ok (.iload 6, 2) := by decide +kernel
theorem d_Frame_clusterOf_56 : decode M_Frame_clusterOf.2.1 56 = .ok (.ior, 1) := by decide +kernel
theorem d_Frame_clusterOf_57 : decode M_Frame_clusterOf.2.1 57 = .ok (.istore 4, 2) := by decide +kernel
theorem d_Frame_clusterOf_59 : decode M_Frame_clusterOf.2.1 59 = .ok (.iinc 5 1, 3) := by decide +kernel
theorem d_Frame_clusterOf_62 : decode M_Frame_clusterOf.2.1 62 = .ok (.goto (-54), 3) := by decide +kernel
theorem d_Frame_clusterOf_65 : decode M_Frame_clusterOf.2.1 65 = .ok (.iload 4, 2) := by decide +kernel
theorem d_Frame_clusterOf_67 : decode M_Frame_clusterOf.2.1 67 = .ok (.ireturn, 1) := by decide +kernel
theorem d_Frame_chooseLinks_0 : decode M_Frame_chooseLinks.2.1 0 = .ok (.iconst 0, 1) := by decide +kernel
theorem d_Frame_chooseLinks_1 : decode M_Frame_chooseLinks.2.1 1 = .ok (.istore_n 2, 1) := by decide +kernel
theorem d_Frame_chooseLinks_2 : decode M_Frame_chooseLinks.2.1 2 = .ok (.iload_n 2, 1) := by decide +kernel
theorem d_Frame_chooseLinks_3 : decode M_Frame_chooseLinks.2.1 3 = .ok (.aload_n 1, 1) := by decide +kernel
theorem d_Frame_chooseLinks_4 : decode M_Frame_chooseLinks.2.1 4 = .ok (.getfield 70, 3) := by decide +kernel
theorem d_Frame_chooseLinks_7 : decode M_Frame_chooseLinks.2.1 7 = .ok (.if_icmp .ge 96, 3) := by decide +kernel
theorem d_Frame_chooseLinks_10 : decode M_Frame_chooseLinks.2.1 10 = .ok (.iload_n 2, 1) := by decide +kernel
theorem d_Frame_chooseLinks_11 : decode M_Frame_chooseLinks.2.1 11 = .ok (.iconst 1, 1) := by decide +kernel
theorem d_Frame_chooseLinks_12 : decode M_Frame_chooseLinks.2.1 12 = .ok (.iadd, 1) := by decide +kernel
theorem d_Frame_chooseLinks_13 : decode M_Frame_chooseLinks.2.1 13 = .ok (.istore_n 3, 1) := by decide +kernel
theorem d_Frame_chooseLinks_14 : decode M_Frame_chooseLinks.2.1 14 = .ok (.iload_n 3, 1) := by decide +kernel
theorem d_Frame_chooseLinks_15 : decode M_Frame_chooseLinks.2.1 15 = .ok (.aload_n 1, 1) := by decide +kernel
theorem d_Frame_chooseLinks_16 : decode M_Frame_chooseLinks.2.1 16 = .ok (.getfield 70, 3) := by decide +kernel
theorem d_Frame_chooseLinks_19 : decode M_Frame_chooseLinks.2.1 19 = .ok (.if_icmp .ge 78, 3) := by decide +kernel
theorem d_Frame_chooseLinks_22 : decode M_Frame_chooseLinks.2.1 22 = .ok (.aload_n 0, 1) := by decide +kernel
theorem d_Frame_chooseLinks_23 : decode M_Frame_chooseLinks.2.1 23 = .ok (.getfield 9, 3) := by decide +kernel
theorem d_Frame_chooseLinks_26 : decode M_Frame_chooseLinks.2.1 26 = .ok (.iload_n 2, 1) := by decide +kernel
theorem d_Frame_chooseLinks_27 : decode M_Frame_chooseLinks.2.1 27 = .ok (.iaload, 1) := by decide +kernel
theorem d_Frame_chooseLinks_28 : decode M_Frame_chooseLinks.2.1 28 = .ok (.aload_n 0, 1) := by decide +kernel
theorem d_Frame_chooseLinks_29 : decode M_Frame_chooseLinks.2.1 29 = .ok (.getfield 9, 3) := by decide +kernel
theorem d_Frame_chooseLinks_32 : decode M_Frame_chooseLinks.2.1 32 = .ok (.iload_n 3, 1) := by decide +kernel
theorem d_Frame_chooseLinks_33 : decode M_Frame_chooseLinks.2.1 33 = .ok (.iaload, 1) := by decide +kernel
theorem d_Frame_chooseLinks_34 : decode M_Frame_chooseLinks.2.1 34 = .ok (.if_icmp .eq 30, 3) := by decide +kernel
theorem d_Frame_chooseLinks_37 : decode M_Frame_chooseLinks.2.1 37 = .ok (.aload_n 0, 1) := by decide +kernel
theorem d_Frame_chooseLinks_38 : decode M_Frame_chooseLinks.2.1 38 = .ok (.getfield 30, 3) := by decide +kernel
theorem d_Frame_chooseLinks_41 : decode M_Frame_chooseLinks.2.1 41 = .ok (.aload_n 0, 1) := by decide +kernel
theorem d_Frame_chooseLinks_42 : decode M_Frame_chooseLinks.2.1 42 = .ok (.getfield 9, 3) := by decide +kernel
theorem d_Frame_chooseLinks_45 : decode M_Frame_chooseLinks.2.1 45 = .ok (.iload_n 2, 1) := by decide +kernel
theorem d_Frame_chooseLinks_46 : decode M_Frame_chooseLinks.2.1 46 = .ok (.iaload, 1) := by decide +kernel
theorem d_Frame_chooseLinks_47 : decode M_Frame_chooseLinks.2.1 47 = .ok (.iaload, 1) := by decide +kernel
theorem d_Frame_chooseLinks_48 : decode M_Frame_chooseLinks.2.1 48 = .ok (.aload_n 0, 1) := by decide +kernel
theorem d_Frame_chooseLinks_49 : decode M_Frame_chooseLinks.2.1 49 = .ok (.getfield 9, 3) := by decide +kernel
theorem d_Frame_chooseLinks_52 : decode M_Frame_chooseLinks.2.1 52 = .ok (.iload_n 3, 1) := by decide +kernel
theorem d_Frame_chooseLinks_53 : decode M_Frame_chooseLinks.2.1 53 = .ok (.iaload, 1) := by decide +kernel
theorem d_Frame_chooseLinks_54 : decode M_Frame_chooseLinks.2.1 54 = .ok (.invokestatic 76, 3) := by decide +kernel
theorem d_Frame_chooseLinks_57 : decode M_Frame_chooseLinks.2.1 57 = .ok (.ifCond .ne 7, 3) := by decide +kernel
theorem d_Frame_chooseLinks_60 : decode M_Frame_chooseLinks.2.1 60 = .ok (.iconst 1, 1) := by decide +kernel
theorem d_Frame_chooseLinks_61 : decode M_Frame_chooseLinks.2.1 61 = .ok (.goto 4, 3) := by decide +kernel
theorem d_Frame_chooseLinks_64 : decode M_Frame_chooseLinks.2.1 64 = .ok (.iconst 0, 1) := by decide +kernel
theorem d_Frame_chooseLinks_65 : decode M_Frame_chooseLinks.2.1 65 = .ok (.istore 4, 2) := by decide +kernel
theorem d_Frame_chooseLinks_67 : decode M_Frame_chooseLinks.2.1 67 = .ok (.iload 4, 2) := by decide +kernel
theorem d_Frame_chooseLinks_69 : decode M_Frame_chooseLinks.2.1 69 = .ok (.ifCond .eq 22, 3) := by decide +kernel
theorem d_Frame_chooseLinks_72 : decode M_Frame_chooseLinks.2.1 72 = .ok (.aload_n 1, 1) := by decide +kernel
theorem d_Frame_chooseLinks_73 : decode M_Frame_chooseLinks.2.1 73 = .ok (.getfield 73, 3) := by decide +kernel
theorem d_Frame_chooseLinks_76 : decode M_Frame_chooseLinks.2.1 76 = .ok (.iload_n 2, 1) := by decide +kernel
theorem d_Frame_chooseLinks_77 : decode M_Frame_chooseLinks.2.1 77 = .ok (.iaload, 1) := by decide +kernel
theorem d_Frame_chooseLinks_78 : decode M_Frame_chooseLinks.2.1 78 = .ok (.iload_n 3, 1) := by decide +kernel
theorem d_Frame_chooseLinks_79 : decode M_Frame_chooseLinks.2.1 79 = .ok (.invokestatic 76, 3) := by decide +kernel
theorem d_Frame_chooseLinks_82 : decode M_Frame_chooseLinks.2.1 82 = .ok (.ifCond .eq 9, 3) := by decide +kernel
theorem d_Frame_chooseLinks_85 : decode M_Frame_chooseLinks.2.1 85 = .ok (.aload_n 0, 1) := by decide +kernel
theorem d_Frame_chooseLinks_86 : decode M_Frame_chooseLinks.2.1 86 = .ok (.iload_n 2, 1) := by decide +kernel
theorem d_Frame_chooseLinks_87 : decode M_Frame_chooseLinks.2.1 87 = .ok (.iload_n 3, 1) := by decide +kernel
theorem d_Frame_chooseLinks_88 : decode M_Frame_chooseLinks.2.1 88 = .ok (.invokevirtual 97, 3) := by decide +kernel
theorem d_Frame_chooseLinks_91 : decode M_Frame_chooseLinks.2.1 91 = .ok (.iinc 3 1, 3) := by decide +kernel
theorem d_Frame_chooseLinks_94 : decode M_Frame_chooseLinks.2.1 94 = .ok (.goto (-80), 3) := by decide +kernel
theorem d_Frame_chooseLinks_97 : decode M_Frame_chooseLinks.2.1 97 = .ok (.iinc 2 1, 3) := by decide +kernel
theorem d_Frame_chooseLinks_100 : decode M_Frame_chooseLinks.2.1 100 = .ok (.goto (-98), 3) := by decide +kernel
theorem d_Frame_chooseLinks_103 : decode M_Frame_chooseLinks.2.1 103 = .ok (.return_, 1) := by decide +kernel
theorem d_Frame_choose_0 : decode M_Frame_choose.2.1 0 = .ok (.aload_n 0, 1) := by decide +kernel
theorem d_Frame_choose_1 : decode M_Frame_choose.2.1 1 = .ok (.getfield 30, 3) := by decide +kernel
theorem d_Frame_choose_4 : decode M_Frame_choose.2.1 4 = .ok (.aload_n 0, 1) := by decide +kernel
theorem d_Frame_choose_5 : decode M_Frame_choose.2.1 5 = .ok (.getfield 9, 3) := by decide +kernel
theorem d_Frame_choose_8 : decode M_Frame_choose.2.1 8 = .ok (.iload_n 1, 1) := by decide +kernel
theorem d_Frame_choose_9 : decode M_Frame_choose.2.1 9 = .ok (.iaload, 1) := by decide +kernel
theorem d_Frame_choose_10 : decode M_Frame_choose.2.1 10 = .ok (.dup2, 1) := by decide +kernel
theorem d_Frame_choose_11 : decode M_Frame_choose.2.1 11 = .ok (.iaload, 1) := by decide +kernel
theorem d_Frame_choose_12 : decode M_Frame_choose.2.1 12 = .ok (.iconst 1, 1) := by decide +kernel
theorem d_Frame_choose_13 : decode M_Frame_choose.2.1 13 = .ok (.aload_n 0, 1) := by decide +kernel
theorem d_Frame_choose_14 : decode M_Frame_choose.2.1 14 = .ok (.getfield 9, 3) := by decide +kernel
theorem d_Frame_choose_17 : decode M_Frame_choose.2.1 17 = .ok (.iload_n 2, 1) := by decide +kernel
theorem d_Frame_choose_18 : decode M_Frame_choose.2.1 18 = .ok (.iaload, 1) := by decide +kernel
theorem d_Frame_choose_19 : decode M_Frame_choose.2.1 19 = .ok (.ishl, 1) := by decide +kernel
theorem d_Frame_choose_20 : decode M_Frame_choose.2.1 20 = .ok (.ior, 1) := by decide +kernel
theorem d_Frame_choose_21 : decode M_Frame_choose.2.1 21 = .ok (.iastore, 1) := by decide +kernel
theorem d_Frame_choose_22 : decode M_Frame_choose.2.1 22 = .ok (.aload_n 0, 1) := by decide +kernel
theorem d_Frame_choose_23 : decode M_Frame_choose.2.1 23 = .ok (.getfield 30, 3) := by decide +kernel
theorem d_Frame_choose_26 : decode M_Frame_choose.2.1 26 = .ok (.aload_n 0, 1) := by decide +kernel
theorem d_Frame_choose_27 : decode M_Frame_choose.2.1 27 = .ok (.getfield 9, 3) := by decide +kernel
theorem d_Frame_choose_30 : decode M_Frame_choose.2.1 30 = .ok (.iload_n 2, 1) := by decide +kernel
theorem d_Frame_choose_31 : decode M_Frame_choose.2.1 31 = .ok (.iaload, 1) := by decide +kernel
theorem d_Frame_choose_32 : decode M_Frame_choose.2.1 32 = .ok (.dup2, 1) := by decide +kernel
theorem d_Frame_choose_33 : decode M_Frame_choose.2.1 33 = .ok (.iaload, 1) := by decide +kernel
theorem d_Frame_choose_34 : decode M_Frame_choose.2.1 34 = .ok (.iconst 1, 1) := by decide +kernel
theorem d_Frame_choose_35 : decode M_Frame_choose.2.1 35 = .ok (.aload_n 0, 1) := by decide +kernel
theorem d_Frame_choose_36 : decode M_Frame_choose.2.1 36 = .ok (.getfield 9, 3) := by decide +kernel
theorem d_Frame_choose_39 : decode M_Frame_choose.2.1 39 = .ok (.iload_n 1, 1) := by decide +kernel
theorem d_Frame_choose_40 : decode M_Frame_choose.2.1 40 = .ok (.iaload, 1) := by decide +kernel
theorem d_Frame_choose_41 : decode M_Frame_choose.2.1 41 = .ok (.ishl, 1) := by decide +kernel
theorem d_Frame_choose_42 : decode M_Frame_choose.2.1 42 = .ok (.ior, 1) := by decide +kernel
theorem d_Frame_choose_43 : decode M_Frame_choose.2.1 43 = .ok (.iastore, 1) := by decide +kernel
theorem d_Frame_choose_44 : decode M_Frame_choose.2.1 44 = .ok (.aload_n 0, 1) := by decide +kernel
theorem d_Frame_choose_45 : decode M_Frame_choose.2.1 45 = .ok (.getfield 27, 3) := by decide +kernel
theorem d_Frame_choose_48 : decode M_Frame_choose.2.1 48 = .ok (.iload_n 1, 1) := by decide +kernel
theorem d_Frame_choose_49 : decode M_Frame_choose.2.1 49 = .ok (.dup2, 1) := by decide +kernel
theorem d_Frame_choose_50 : decode M_Frame_choose.2.1 50 = .ok (.iaload, 1) := by decide +kernel
theorem d_Frame_choose_51 : decode M_Frame_choose.2.1 51 = .ok (.iconst 1, 1) := by decide +kernel
theorem d_Frame_choose_52 : decode M_Frame_choose.2.1 52 = .ok (.iload_n 2, 1) := by decide +kernel
theorem d_Frame_choose_53 : decode M_Frame_choose.2.1 53 = .ok (.ishl, 1) := by decide +kernel
theorem d_Frame_choose_54 : decode M_Frame_choose.2.1 54 = .ok (.ior, 1) := by decide +kernel
theorem d_Frame_choose_55 : decode M_Frame_choose.2.1 55 = .ok (.iastore, 1) := by decide +kernel
theorem d_Frame_choose_56 : decode M_Frame_choose.2.1 56 = .ok (.aload_n 0, 1) := by decide +kernel
theorem d_Frame_choose_57 : decode M_Frame_choose.2.1 57 = .ok (.getfield 27, 3) := by decide +kernel
theorem d_Frame_choose_60 : decode M_Frame_choose.2.1 60 = .ok (.iload_n 2, 1) := by decide +kernel
theorem d_Frame_choose_61 : decode M_Frame_choose.2.1 61 = .ok (.dup2, 1) := by decide +kernel
theorem d_Frame_choose_62 : decode M_Frame_choose.2.1 62 = .ok (.iaload, 1) := by decide +kernel
theorem d_Frame_choose_63 : decode M_Frame_choose.2.1 63 = .ok (.iconst 1, 1) := by decide +kernel
theorem d_Frame_choose_64 : decode M_Frame_choose.2.1 64 = .ok (.iload_n 1, 1) := by decide +kernel
theorem d_Frame_choose_65 : decode M_Frame_choose.2.1 65 = .ok (.ishl, 1) := by decide +kernel
theorem d_Frame_choose_66 : decode M_Frame_choose.2.1 66 = .ok (.ior, 1) := by decide +kernel
theorem d_Frame_choose_67 : decode M_Frame_choose.2.1 67 = .ok (.iastore, 1) := by decide +kernel
theorem d_Frame_choose_68 : decode M_Frame_choose.2.1 68 = .ok (.aload_n 0, 1) := by decide +kernel
theorem d_Frame_choose_69 : decode M_Frame_choose.2.1 69 = .ok (.dup, 1) := by decide +kernel
theorem d_Frame_choose_70 : decode M_Frame_choose.2.1 70 = .ok (.getfield 61, 3) := by decide +kernel
theorem d_Frame_choose_73 : decode M_Frame_choose.2.1 73 = .ok (.iconst 1, 1) := by decide +kernel
theorem d_Frame_choose_74 : decode M_Frame_choose.2.1 74 = .ok (.iadd, 1) := by decide +kernel
theorem d_Frame_choose_75 : decode M_Frame_choose.2.1 75 = .ok (.putfield 61, 3) := by decide +kernel
theorem d_Frame_choose_78 : decode M_Frame_choose.2.1 78 = .ok (.return_, 1) := by decide +kernel
theorem d_Net_clear_0 : decode M_Net_clear.2.1 0 = .ok (.aload_n 0, 1) := by decide +kernel
theorem d_Net_clear_1 : decode M_Net_clear.2.1 1 = .ok (.iload_n 1, 1) := by decide +kernel
theorem d_Net_clear_2 : decode M_Net_clear.2.1 2 = .ok (.putfield 21, 3) := by decide +kernel
theorem d_Net_clear_5 : decode M_Net_clear.2.1 5 = .ok (.aload_n 0, 1) := by decide +kernel
theorem d_Net_clear_6 : decode M_Net_clear.2.1 6 = .ok (.iconst 0, 1) := by decide +kernel
theorem d_Net_clear_7 : decode M_Net_clear.2.1 7 = .ok (.putfield 25, 3) := by decide +kernel
theorem d_Net_clear_10 : decode M_Net_clear.2.1 10 = .ok (.aload_n 0, 1) := by decide +kernel
theorem d_Net_clear_11 : decode M_Net_clear.2.1 11 = .ok (.getfield 9, 3) := by decide +kernel
theorem d_Net_clear_14 : decode M_Net_clear.2.1 14 = .ok (.iconst 0, 1) := by decide +kernel
theorem d_Net_clear_15 : decode M_Net_clear.2.1 15 = .ok (.invokestatic 28, 3) := by decide +kernel
theorem d_Net_clear_18 : decode M_Net_clear.2.1 18 = .ok (.aload_n 0, 1) := by decide +kernel
theorem d_Net_clear_19 : decode M_Net_clear.2.1 19 = .ok (.getfield 15, 3) := by decide +kernel
theorem d_Net_clear_22 : decode M_Net_clear.2.1 22 = .ok (.iconst 0, 1) := by decide +kernel
theorem d_Net_clear_23 : decode M_Net_clear.2.1 23 = .ok (.invokestatic 28, 3) := by decide +kernel
theorem d_Net_clear_26 : decode M_Net_clear.2.1 26 = .ok (.aload_n 0, 1) := by decide +kernel
theorem d_Net_clear_27 : decode M_Net_clear.2.1 27 = .ok (.getfield 18, 3) := by decide +kernel
theorem d_Net_clear_30 : decode M_Net_clear.2.1 30 = .ok (.iconst 0, 1) := by decide +kernel
theorem d_Net_clear_31 : decode M_Net_clear.2.1 31 = .ok (.invokestatic 28, 3) := by decide +kernel
theorem d_Net_clear_34 : decode M_Net_clear.2.1 34 = .ok (.return_, 1) := by decide +kernel
theorem d_Net_hasNode_0 : decode M_Net_hasNode.2.1 0 = .ok (.iload_n 1, 1) := by decide +kernel
theorem d_Net_hasNode_1 : decode M_Net_hasNode.2.1 1 = .ok (.ifCond .lt 15, 3) := by decide +kernel
theorem d_Net_hasNode_4 : decode M_Net_hasNode.2.1 4 = .ok (.iload_n 1, 1) := by decide +kernel
theorem d_Net_hasNode_5 : decode M_Net_hasNode.2.1 5 = .ok (.aload_n 0, 1) := by decide +kernel
theorem d_Net_hasNode_6 : decode M_Net_hasNode.2.1 6 = .ok (.getfield 21, 3) := by decide +kernel
theorem d_Net_hasNode_9 : decode M_Net_hasNode.2.1 9 = .ok (.if_icmp .ge 7, 3) := by decide +kernel
theorem d_Net_hasNode_12 : decode M_Net_hasNode.2.1 12 = .ok (.iconst 1, 1) := by decide +kernel
theorem d_Net_hasNode_13 : decode M_Net_hasNode.2.1 13 = .ok (.goto 4, 3) := by decide +kernel
theorem d_Net_hasNode_16 : decode M_Net_hasNode.2.1 16 = .ok (.iconst 0, 1) := by decide +kernel
theorem d_Net_hasNode_17 : decode M_Net_hasNode.2.1 17 = .ok (.ireturn, 1) := by decide +kernel
theorem d_Net_join_0 : decode M_Net_join.2.1 0 = .ok (.aload_n 0, 1) := by decide +kernel
theorem d_Net_join_1 : decode M_Net_join.2.1 1 = .ok (.getfield 15, 3) := by decide +kernel
theorem d_Net_join_4 : decode M_Net_join.2.1 4 = .ok (.iload_n 1, 1) := by decide +kernel
theorem d_Net_join_5 : decode M_Net_join.2.1 5 = .ok (.iaload, 1) := by decide +kernel
theorem d_Net_join_6 : decode M_Net_join.2.1 6 = .ok (.iload_n 2, 1) := by decide +kernel
theorem d_Net_join_7 : decode M_Net_join.2.1 7 = .ok (.invokestatic 34, 3) := by decide +kernel
theorem d_Net_join_10 : decode M_Net_join.2.1 10 = .ok (.ifCond .ne 13, 3) := by decide +kernel
theorem d_Net_join_13 : decode M_Net_join.2.1 13 = .ok (.aload_n 0, 1) := by decide +kernel
theorem d_Net_join_14 : decode M_Net_join.2.1 14 = .ok (.dup, 1) := by decide +kernel
theorem d_Net_join_15 : decode M_Net_join.2.1 15 = .ok (.getfield 25, 3) := by decide +kernel
theorem d_Net_join_18 : decode M_Net_join.2.1 18 = .ok (.iconst 1, 1) := by decide +kernel
theorem d_Net_join_19 : decode M_Net_join.2.1 19 = .ok (.iadd, 1) := by decide +kernel
theorem d_Net_join_20 : decode M_Net_join.2.1 20 = .ok (.putfield 25, 3) := by decide +kernel
theorem d_Net_join_23 : decode M_Net_join.2.1 23 = .ok (.aload_n 0, 1) := by decide +kernel
theorem d_Net_join_24 : decode M_Net_join.2.1 24 = .ok (.getfield 15, 3) := by decide +kernel
theorem d_Net_join_27 : decode M_Net_join.2.1 27 = .ok (.iload_n 1, 1) := by decide +kernel
theorem d_Net_join_28 : decode M_Net_join.2.1 28 = .ok (.dup2, 1) := by decide +kernel
theorem d_Net_join_29 : decode M_Net_join.2.1 29 = .ok (.iaload, 1) := by decide +kernel
theorem d_Net_join_30 : decode M_Net_join.2.1 30 = .ok (.iconst 1, 1) := by decide +kernel
theorem d_Net_join_31 : decode M_Net_join.2.1 31 = .ok (.iload_n 2, 1) := by decide +kernel
theorem d_Net_join_32 : decode M_Net_join.2.1 32 = .ok (.ishl, 1) := by decide +kernel
theorem d_Net_join_33 : decode M_Net_join.2.1 33 = .ok (.ior, 1) := by decide +kernel
theorem d_Net_join_34 : decode M_Net_join.2.1 34 = .ok (.iastore, 1) := by decide +kernel
theorem d_Net_join_35 : decode M_Net_join.2.1 35 = .ok (.aload_n 0, 1) := by decide +kernel
theorem d_Net_join_36 : decode M_Net_join.2.1 36 = .ok (.getfield 15, 3) := by decide +kernel
theorem d_Net_join_39 : decode M_Net_join.2.1 39 = .ok (.iload_n 2, 1) := by decide +kernel
theorem d_Net_join_40 : decode M_Net_join.2.1 40 = .ok (.dup2, 1) := by decide +kernel
theorem d_Net_join_41 : decode M_Net_join.2.1 41 = .ok (.iaload, 1) := by decide +kernel
theorem d_Net_join_42 : decode M_Net_join.2.1 42 = .ok (.iconst 1, 1) := by decide +kernel
theorem d_Net_join_43 : decode M_Net_join.2.1 43 = .ok (.iload_n 1, 1) := by decide +kernel
theorem d_Net_join_44 : decode M_Net_join.2.1 44 = .ok (.ishl, 1) := by decide +kernel
theorem d_Net_join_45 : decode M_Net_join.2.1 45 = .ok (.ior, 1) := by decide +kernel
theorem d_Net_join_46 : decode M_Net_join.2.1 46 = .ok (.iastore, 1) := by decide +kernel
theorem d_Net_join_47 : decode M_Net_join.2.1 47 = .ok (.aload_n 0, 1) := by decide +kernel
theorem d_Net_join_48 : decode M_Net_join.2.1 48 = .ok (.getfield 18, 3) := by decide +kernel
theorem d_Net_join_51 : decode M_Net_join.2.1 51 = .ok (.iload_n 1, 1) := by decide +kernel
theorem d_Net_join_52 : decode M_Net_join.2.1 52 = .ok (.iload_n 2, 1) := by decide +kernel
theorem d_Net_join_53 : decode M_Net_join.2.1 53 = .ok (.invokestatic 38, 3) := by decide +kernel
theorem d_Net_join_56 : decode M_Net_join.2.1 56 = .ok (.iload_n 3, 1) := by decide +kernel
theorem d_Net_join_57 : decode M_Net_join.2.1 57 = .ok (.iastore, 1) := by decide +kernel
theorem d_Net_join_58 : decode M_Net_join.2.1 58 = .ok (.aload_n 0, 1) := by decide +kernel
theorem d_Net_join_59 : decode M_Net_join.2.1 59 = .ok (.getfield 18, 3) := by decide +kernel
theorem d_Net_join_62 : decode M_Net_join.2.1 62 = .ok (.iload_n 2, 1) := by decide +kernel
theorem d_Net_join_63 : decode M_Net_join.2.1 63 = .ok (.iload_n 1, 1) := by decide +kernel
theorem d_Net_join_64 : decode M_Net_join.2.1 64 = .ok (.invokestatic 38, 3) := by decide +kernel
theorem d_Net_join_67 : decode M_Net_join.2.1 67 = .ok (.iload_n 3, 1) := by decide +kernel
theorem d_Net_join_68 : decode M_Net_join.2.1 68 = .ok (.iastore, 1) := by decide +kernel
theorem d_Net_join_69 : decode M_Net_join.2.1 69 = .ok (.return_, 1) := by decide +kernel
