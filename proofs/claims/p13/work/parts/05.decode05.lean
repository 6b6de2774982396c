theorem d_Pool_add_0 : decode M_Pool_add.2.1 0 = .ok (.aload_n 0, 1) := by decide +kernel
theorem d_Pool_add_1 : decode M_Pool_add.2.1 1 = .ok (.getfield 27, 3) := by decide +kernel
theorem d_Pool_add_4 : decode M_Pool_add.2.1 4 = .ok (.sipush 528, 3) := by decide +kernel
theorem d_Pool_add_7 : decode M_Pool_add.2.1 7 = .ok (.if_icmp .lt 4, 3) := by decide +kernel
theorem d_Pool_add_10 : decode M_Pool_add.2.1 10 = .ok (.return_, 1) := by decide +kernel
theorem d_Pool_add_11 : decode M_Pool_add.2.1 11 = .ok (.aload_n 0, 1) := by decide +kernel
theorem d_Pool_add_12 : decode M_Pool_add.2.1 12 = .ok (.getfield 11, 3) := by decide +kernel
theorem d_Pool_add_15 : decode M_Pool_add.2.1 15 = .ok (.aload_n 0, 1) := by decide +kernel
theorem d_Pool_add_16 : decode M_Pool_add.2.1 16 = .ok (.getfield 27, 3) := by decide +kernel
theorem d_Pool_add_19 : decode M_Pool_add.2.1 19 = .ok (.iload_n 1, 1) := by decide +kernel
theorem d_Pool_add_20 : decode M_Pool_add.2.1 20 = .ok (.iastore, 1) := by decide +kernel
theorem d_Pool_add_21 : decode M_Pool_add.2.1 21 = .ok (.aload_n 0, 1) := by decide +kernel
theorem d_Pool_add_22 : decode M_Pool_add.2.1 22 = .ok (.getfield 15, 3) := by decide +kernel
theorem d_Pool_add_25 : decode M_Pool_add.2.1 25 = .ok (.aload_n 0, 1) := by decide +kernel
theorem d_Pool_add_26 : decode M_Pool_add.2.1 26 = .ok (.getfield 27, 3) := by decide +kernel
theorem d_Pool_add_29 : decode M_Pool_add.2.1 29 = .ok (.iload_n 2, 1) := by decide +kernel
theorem d_Pool_add_30 : decode M_Pool_add.2.1 30 = .ok (.iastore, 1) := by decide +kernel
theorem d_Pool_add_31 : decode M_Pool_add.2.1 31 = .ok (.aload_n 0, 1) := by decide +kernel
theorem d_Pool_add_32 : decode M_Pool_add.2.1 32 = .ok (.getfield 18, 3) := by decide +kernel
theorem d_Pool_add_35 : decode M_Pool_add.2.1 35 = .ok (.aload_n 0, 1) := by decide +kernel
theorem d_Pool_add_36 : decode M_Pool_add.2.1 36 = .ok (.getfield 27, 3) := by decide +kernel
theorem d_Pool_add_39 : decode M_Pool_add.2.1 39 = .ok (.iload_n 3, 1) := by decide +kernel
theorem d_Pool_add_40 : decode M_Pool_add.2.1 40 = .ok (.iastore, 1) := by decide +kernel
theorem d_Pool_add_41 : decode M_Pool_add.2.1 41 = .ok (.aload_n 0, 1) := by decide +kernel
theorem d_Pool_add_42 : decode M_Pool_add.2.1 42 = .ok (.getfield 21, 3) := by decide +kernel
theorem d_Pool_add_45 : decode M_Pool_add.2.1 45 = .ok (.aload_n 0, 1) := by decide +kernel
theorem d_Pool_add_46 : decode M_Pool_add.2.1 46 = .ok (.getfield 27, 3) := by decide +kernel
theorem d_Pool_add_49 : decode M_Pool_add.2.1 49 = .ok (.iload 4, 2) := by decide +kernel
theorem d_Pool_add_51 : decode M_Pool_add.2.1 51 = .ok (.iastore, 1) := by decide +kernel
theorem d_Pool_add_52 : decode M_Pool_add.2.1 52 = .ok (.aload_n 0, 1) := by decide +kernel
theorem d_Pool_add_53 : decode M_Pool_add.2.1 53 = .ok (.getfield 24, 3) := by decide +kernel
theorem d_Pool_add_56 : decode M_Pool_add.2.1 56 = .ok (.aload_n 0, 1) := by decide +kernel
theorem d_Pool_add_57 : decode M_Pool_add.2.1 57 = .ok (.getfield 27, 3) := by decide +kernel
theorem d_Pool_add_60 : decode M_Pool_add.2.1 60 = .ok (.iload 5, 2) := by decide +kernel
theorem d_Pool_add_62 : decode M_Pool_add.2.1 62 = .ok (.iastore, 1) := by decide +kernel
theorem d_Pool_add_63 : decode M_Pool_add.2.1 63 = .ok (.aload_n 0, 1) := by decide +kernel
theorem d_Pool_add_64 : decode M_Pool_add.2.1 64 = .ok (.dup, 1) := by decide +kernel
theorem d_Pool_add_65 : decode M_Pool_add.2.1 65 = .ok (.getfield 27, 3) := by decide +kernel
theorem d_Pool_add_68 : decode M_Pool_add.2.1 68 = .ok (.iconst 1, 1) := by decide +kernel
theorem d_Pool_add_69 : decode M_Pool_add.2.1 69 = .ok (.iadd, 1) := by decide +kernel
theorem d_Pool_add_70 : decode M_Pool_add.2.1 70 = .ok (.putfield 27, 3) := by decide +kernel
theorem d_Pool_add_73 : decode M_Pool_add.2.1 73 = .ok (.return_, 1) := by decide +kernel
theorem d_Pool_remove_0 : decode M_Pool_remove.2.1 0 = .ok (.iload_n 1, 1) := by decide +kernel
theorem d_Pool_remove_1 : decode M_Pool_remove.2.1 1 = .ok (.ifCond .lt 11, 3) := by decide +kernel
theorem d_Pool_remove_4 : decode M_Pool_remove.2.1 4 = .ok (.iload_n 1, 1) := by decide +kernel
theorem d_Pool_remove_5 : decode M_Pool_remove.2.1 5 = .ok (.aload_n 0, 1) := by decide +kernel
theorem d_Pool_remove_6 : decode M_Pool_remove.2.1 6 = .ok (.getfield 27, 3) := by decide +kernel
theorem d_Pool_remove_9 : decode M_Pool_remove.2.1 9 = .ok (.if_icmp .lt 4, 3) := by decide +kernel
theorem d_Pool_remove_12 : decode M_Pool_remove.2.1 12 = .ok (.return_, 1) := by decide +kernel
theorem d_Pool_remove_13 : decode M_Pool_remove.2.1 13 = .ok (.aload_n 0, 1) := by decide +kernel
theorem d_Pool_remove_14 : decode M_Pool_remove.2.1 14 = .ok (.dup, 1) := by decide +kernel
theorem d_Pool_remove_15 : decode M_Pool_remove.2.1 15 = .ok (.getfield 27, 3) := by decide +kernel
theorem d_Pool_remove_18 : decode M_Pool_remove.2.1 18 = .ok (.iconst 1, 1) := by decide +kernel
theorem d_Pool_remove_19 : decode M_Pool_remove.2.1 19 = .ok (.isub, 1) := by decide +kernel
theorem d_Pool_remove_20 : decode M_Pool_remove.2.1 20 = .ok (.putfield 27, 3) := by decide +kernel
theorem d_Pool_remove_23 : decode M_Pool_remove.2.1 23 = .ok (.aload_n 0, 1) := by decide +kernel
theorem d_Pool_remove_24 : decode M_Pool_remove.2.1 24 = .ok (.aload_n 0, 1) := by decide +kernel
theorem d_Pool_remove_25 : decode M_Pool_remove.2.1 25 = .ok (.getfield 11, 3) := by decide +kernel
theorem d_Pool_remove_28 : decode M_Pool_remove.2.1 28 = .ok (.iload_n 1, 1) := by decide +kernel
theorem d_Pool_remove_29 : decode M_Pool_remove.2.1 29 = .ok (.invokevirtual 31, 3) := by decide +kernel
theorem d_Pool_remove_32 : decode M_Pool_remove.2.1 32 = .ok (.aload_n 0, 1) := by decide +kernel
theorem d_Pool_remove_33 : decode M_Pool_remove.2.1 33 = .ok (.aload_n 0, 1) := by decide +kernel
theorem d_Pool_remove_34 : decode M_Pool_remove.2.1 34 = .ok (.getfield 15, 3) := by decide +kernel
theorem d_Pool_remove_37 : decode M_Pool_remove.2.1 37 = .ok (.iload_n 1, 1) := by decide +kernel
theorem d_Pool_remove_38 : decode M_Pool_remove.2.1 38 = .ok (.invokevirtual 31, 3) := by decide +kernel
theorem d_Pool_remove_41 : decode M_Pool_remove.2.1 41 = .ok (.aload_n 0, 1) := by decide +kernel
theorem d_Pool_remove_42 : decode M_Pool_remove.2.1 42 = .ok (.aload_n 0, 1) := by decide +kernel
theorem d_Pool_remove_43 : decode M_Pool_remove.2.1 43 = .ok (.getfield 18, 3) := by decide +kernel
theorem d_Pool_remove_46 : decode M_Pool_remove.2.1 46 = .ok (.iload_n 1, 1) := by decide +kernel
theorem d_Pool_remove_47 : decode M_Pool_remove.2.1 47 = .ok (.invokevirtual 31, 3) := by decide +kernel
theorem d_Pool_remove_50 : decode M_Pool_remove.2.1 50 = .ok (.aload_n 0, 1) := by decide +kernel
theorem d_Pool_remove_51 : decode M_Pool_remove.2.1 51 = .ok (.aload_n 0, 1) := by decide +kernel
theorem d_Pool_remove_52 : decode M_Pool_remove.2.1 52 = .ok (.getfield 21, 3) := by decide +kernel
theorem d_Pool_remove_55 : decode M_Pool_remove.2.1 55 = .ok (.iload_n 1, 1) := by decide +kernel
theorem d_Pool_remove_56 : decode M_Pool_remove.2.1 56 = .ok (.invokevirtual 31, 3) := by decide +kernel
theorem d_Pool_remove_59 : decode M_Pool_remove.2.1 59 = .ok (.aload_n 0, 1) := by decide +kernel
theorem d_Pool_remove_60 : decode M_Pool_remove.2.1 60 = .ok (.aload_n 0, 1) := by decide +kernel
theorem d_Pool_remove_61 : decode M_Pool_remove.2.1 61 = .ok (.getfield 24, 3) := by decide +kernel
theorem d_Pool_remove_64 : decode M_Pool_remove.2.1 64 = .ok (.iload_n 1, 1) := by decide +kernel
theorem d_Pool_remove_65 : decode M_Pool_remove.2.1 65 = .ok (.invokevirtual 31, 3) := by decide +kernel
theorem d_Pool_remove_68 : decode M_Pool_remove.2.1 68 = .ok (.return_, 1) := by decide +kernel
theorem d_Pool_closeGap_0 : decode M_Pool_closeGap.2.1 0 = .ok (.aload_n 1, 1) := by decide +kernel
theorem d_Pool_closeGap_1 : decode M_Pool_closeGap.2.1 1 = .ok (.iload_n 2, 1) := by decide +kernel
theorem d_Pool_closeGap_2 : decode M_Pool_closeGap.2.1 2 = .ok (.iconst 1, 1) := by decide +kernel
theorem d_Pool_closeGap_3 : decode M_Pool_closeGap.2.1 3 = .ok (.iadd, 1) := by decide +kernel
theorem d_Pool_closeGap_4 : decode M_Pool_closeGap.2.1 4 = .ok (.aload_n 1, 1) := by decide +kernel
theorem d_Pool_closeGap_5 : decode M_Pool_closeGap.2.1 5 = .ok (.iload_n 2, 1) := by decide +kernel
theorem d_Pool_closeGap_6 : decode M_Pool_closeGap.2.1 6 = .ok (.aload_n 0, 1) := by decide +kernel
theorem d_Pool_closeGap_7 : decode M_Pool_closeGap.2.1 7 = .ok (.getfield 27, 3) := by decide +kernel
theorem d_Pool_closeGap_10 : decode M_Pool_closeGap.2.1 10 = .ok (.iload_n 2, 1) := by decide +kernel
theorem d_Pool_closeGap_11 : decode M_Pool_closeGap.2.1 11 = .ok (.isub, 1) := by decide +kernel
theorem d_Pool_closeGap_12 : decode M_Pool_closeGap.2.1 12 = .ok (.invokestatic 35, 3) := by decide +kernel
theorem d_Pool_closeGap_15 : decode M_Pool_closeGap.2.1 15 = .ok (.return_, 1) := by decide +kernel
theorem d_P_begin_0 : decode M_P_begin.2.1 0 = .ok (.iload_n 1, 1) := by decide +kernel
theorem d_P_begin_1 : decode M_P_begin.2.1 1 = .ok (.iconst 1, 1) := by decide +kernel
theorem d_P_begin_2 : decode M_P_begin.2.1 2 = .ok (.if_icmp .lt 9, 3) := by decide +kernel
theorem d_P_begin_5 : decode M_P_begin.2.1 5 = .ok (.iload_n 1, 1) := by decide +kernel
theorem d_P_begin_6 : decode M_P_begin.2.1 6 = .ok (.bipush 12, 2) := by decide +kernel
theorem d_P_begin_8 : decode M_P_begin.2.1 8 = .ok (.if_icmp .le 5, 3) := by decide +kernel
theorem d_P_begin_11 : decode M_P_begin.2.1 11 = .ok (.iconst (-1), 1) := by decide +kernel
theorem d_P_begin_12 : decode M_P_begin.2.1 12 = .ok (.ireturn, 1) := by decide +kernel
theorem d_P_begin_13 : decode M_P_begin.2.1 13 = .ok (.aload_n 0, 1) := by decide +kernel
theorem d_P_begin_14 : decode M_P_begin.2.1 14 = .ok (.getfield 10, 3) := by decide +kernel
theorem d_P_begin_17 : decode M_P_begin.2.1 17 = .ok (.getfield 16, 3) := by decide +kernel
theorem d_P_begin_20 : decode M_P_begin.2.1 20 = .ok (.iload_n 1, 1) := by decide +kernel
theorem d_P_begin_21 : decode M_P_begin.2.1 21 = .ok (.invokevirtual 20, 3) := by decide +kernel
theorem d_P_begin_24 : decode M_P_begin.2.1 24 = .ok (.aload_n 0, 1) := by decide +kernel
theorem d_P_begin_25 : decode M_P_begin.2.1 25 = .ok (.iconst 0, 1) := by decide +kernel
theorem d_P_begin_26 : decode M_P_begin.2.1 26 = .ok (.putfield 26, 3) := by decide +kernel
theorem d_P_begin_29 : decode M_P_begin.2.1 29 = .ok (.iconst 0, 1) := by decide +kernel
theorem d_P_begin_30 : decode M_P_begin.2.1 30 = .ok (.ireturn, 1) := by decide +kernel
theorem d_P_link_0 : decode M_P_link.2.1 0 = .ok (.aload_n 0, 1) := by decide +kernel
theorem d_P_link_1 : decode M_P_link.2.1 1 = .ok (.getfield 10, 3) := by decide +kernel
theorem d_P_link_4 : decode M_P_link.2.1 4 = .ok (.getfield 16, 3) := by decide +kernel
theorem d_P_link_7 : decode M_P_link.2.1 7 = .ok (.astore 4, 2) := by decide +kernel
theorem d_P_link_9 : decode M_P_link.2.1 9 = .ok (.aload 4, 2) := by decide +kernel
theorem d_P_link_11 : decode M_P_link.2.1 11 = .ok (.iload_n 1, 1) := by decide +kernel
theorem d_P_link_12 : decode M_P_link.2.1 12 = .ok (.invokevirtual 30, 3) := by decide +kernel
theorem d_P_link_15 : decode M_P_link.2.1 15 = .ok (.ifCond .eq 28, 3) := by decide +kernel
theorem d_P_link_18 : decode M_P_link.2.1 18 = .ok (.aload 4, 2) := by decide +kernel
theorem d_P_link_20 : decode M_P_link.2.1 20 = .ok (.iload_n 2, 1) := by decide +kernel
theorem d_P_link_21 : decode M_P_link.2.1 21 = .ok (.invokevirtual 30, 3) := by decide +kernel
theorem d_P_link_24 : decode M_P_link.2.1 24 = .ok (.ifCond .eq 19, 3) := by decide +kernel
theorem d_P_link_27 : decode M_P_link.2.1 27 = .ok (.iload_n 1, 1) := by decide +kernel
theorem d_P_link_28 : decode M_P_link.2.1 28 = .ok (.iload_n 2, 1) := by decide +kernel
theorem d_P_link_29 : decode M_P_link.2.1 29 = .ok (.if_icmp .eq 14, 3) := by decide +kernel
theorem d_P_link_32 : decode M_P_link.2.1 32 = .ok (.iload_n 3, 1) := by decide +kernel
theorem d_P_link_33 : decode M_P_link.2.1 33 = .ok (.iconst 1, 1) := by decide +kernel
theorem d_P_link_34 : decode M_P_link.2.1 34 = .ok (.if_icmp .lt 9, 3) := by decide +kernel
theorem d_P_link_37 : decode M_P_link.2.1 37 = .ok (.iload_n 3, 1) := by decide +kernel
theorem d_P_link_38 : decode M_P_link.2.1 38 = .ok (.bipush 9, 2) := by decide +kernel
theorem d_P_link_40 : decode M_P_link.2.1 40 = .ok (.if_icmp .le 5, 3) := by decide +kernel
theorem d_P_link_43 : decode M_P_link.2.1 43 = .ok (.iconst (-1), 1) := by decide +kernel
theorem d_P_link_44 : decode M_P_link.2.1 44 = .ok (.ireturn, 1) := by decide +kernel
theorem d_P_link_45 : decode M_P_link.2.1 45 = .ok (.aload 4, 2) := by decide +kernel
theorem d_P_link_47 : decode M_P_link.2.1 47 = .ok (.iload_n 1, 1) := by decide +kernel
theorem d_P_link_48 : decode M_P_link.2.1 48 = .ok (.iload_n 2, 1) := by decide +kernel
theorem d_P_link_49 : decode M_P_link.2.1 49 = .ok (.iload_n 3, 1) := by decide +kernel
theorem d_P_link_50 : decode M_P_link.2.1 50 = .ok (.invokevirtual 34, 3) := by decide +kernel
theorem d_P_link_53 : decode M_P_link.2.1 53 = .ok (.aload_n 0, 1) := by decide +kernel
theorem d_P_link_54 : decode M_P_link.2.1 54 = .ok (.iconst 0, 1) := by decide +kernel
theorem d_P_link_55 : decode M_P_link.2.1 55 = .ok (.putfield 26, 3) := by decide +kernel
theorem d_P_link_58 : decode M_P_link.2.1 58 = .ok (.aload 4, 2) := by decide +kernel
theorem d_P_link_60 : decode M_P_link.2.1 60 = .ok (.getfield 38, 3) := by decide +kernel
theorem d_P_link_63 : decode M_P_link.2.1 63 = .ok (.ireturn, 1) := by decide +kernel
theorem d_P_mark_0 : decode M_P_mark.2.1 0 = .ok (.aload_n 0, 1) := by decide +kernel
theorem d_P_mark_1 : decode M_P_mark.2.1 1 = .ok (.getfield 10, 3) := by decide +kernel
theorem d_P_mark_4 : decode M_P_mark.2.1 4 = .ok (.getfield 16, 3) := by decide +kernel
theorem d_P_mark_7 : decode M_P_mark.2.1 7 = .ok (.astore_n 3, 1) := by decide +kernel
theorem d_P_mark_8 : decode M_P_mark.2.1 8 = .ok (.aload_n 3, 1) := by decide +kernel
theorem d_P_mark_9 : decode M_P_mark.2.1 9 = .ok (.iload_n 1, 1) := by decide +kernel
theorem d_P_mark_10 : decode M_P_mark.2.1 10 = .ok (.invokevirtual 30, 3) := by decide +kernel
theorem d_P_mark_13 : decode M_P_mark.2.1 13 = .ok (.ifCond .eq 13, 3) := by decide +kernel
theorem d_P_mark_16 : decode M_P_mark.2.1 16 = .ok (.iload_n 2, 1) := by decide +kernel
theorem d_P_mark_17 : decode M_P_mark.2.1 17 = .ok (.ifCond .lt 9, 3) := by decide +kernel
theorem d_P_mark_20 : decode M_P_mark.2.1 20 = .ok (.iload_n 2, 1) := by decide +kernel
theorem d_P_mark_21 : decode M_P_mark.2.1 21 = .ok (.bipush 99, 2) := by decide +kernel
theorem d_P_mark_23 : decode M_P_mark.2.1 23 = .ok (.if_icmp .le 5, 3) := by decide +kernel
theorem d_P_mark_26 : decode M_P_mark.2.1 26 = .ok (.iconst (-1), 1) := by decide +kernel
theorem d_P_mark_27 : decode M_P_mark.2.1 27 = .ok (.ireturn, 1) := by decide +kernel
theorem d_P_mark_28 : decode M_P_mark.2.1 28 = .ok (.aload_n 3, 1) := by decide +kernel
theorem d_P_mark_29 : decode M_P_mark.2.1 29 = .ok (.getfield 42, 3) := by decide +kernel
theorem d_P_mark_32 : decode M_P_mark.2.1 32 = .ok (.iload_n 1, 1) := by decide +kernel
theorem d_P_mark_33 : decode M_P_mark.2.1 33 = .ok (.iaload, 1) := by decide +kernel
theorem d_P_mark_34 : decode M_P_mark.2.1 34 = .ok (.istore 4, 2) := by decide +kernel
theorem d_P_mark_36 : decode M_P_mark.2.1 36 = .ok (.aload_n 3, 1) := by decide +kernel
theorem d_P_mark_37 : decode M_P_mark.2.1 37 = .ok (.getfield 42, 3) := by decide +kernel
theorem d_P_mark_40 : decode M_P_mark.2.1 40 = .ok (.iload_n 1, 1) := by decide +kernel
theorem d_P_mark_41 : decode M_P_mark.2.1 41 = .ok (.iload_n 2, 1) := by decide +kernel
theorem d_P_mark_42 : decode M_P_mark.2.1 42 = .ok (.iastore, 1) := by decide +kernel
theorem d_P_mark_43 : decode M_P_mark.2.1 43 = .ok (.aload_n 0, 1) := by decide +kernel
theorem d_P_mark_44 : decode M_P_mark.2.1 44 = .ok (.iconst 0, 1) := by decide +kernel
theorem d_P_mark_45 : decode M_P_mark.2.1 45 = .ok (.putfield 26, 3) := by decide +kernel
theorem d_P_mark_48 : decode M_P_mark.2.1 48 = .ok (.iload 4, 2) := by decide +kernel
theorem d_P_mark_50 : decode M_P_mark.2.1 50 = .ok (.ireturn, 1) := by decide +kernel
theorem d_P_start_0 : decode M_P_start.2.1 0 = .ok (.iload_n 1, 1) := by decide +kernel
theorem d_P_start_1 : decode M_P_start.2.1 1 = .ok (.ifCond .lt 17, 3) := by decide +kernel
theorem d_P_start_4 : decode M_P_start.2.1 4 = .ok (.iload_n 1, 1) := by decide +kernel
theorem d_P_start_5 : decode M_P_start.2.1 5 = .ok (.iconst 3, 1) := by decide +kernel
theorem d_P_start_6 : decode M_P_start.2.1 6 = .ok (.if_icmp .gt 12, 3) := by decide +kernel
theorem d_P_start_9 : decode M_P_start.2.1 9 = .ok (.iload_n 2, 1) := by decide +kernel
theorem d_P_start_10 : decode M_P_start.2.1 10 = .ok (.ifCond .lt 8, 3) := by decide +kernel
theorem d_P_start_13 : decode M_P_start.2.1 13 = .ok (.iload_n 2, 1) := by decide +kernel
theorem d_P_start_14 : decode M_P_start.2.1 14 = .ok (.iconst 2, 1) := by decide +kernel
theorem d_P_start_15 : decode M_P_start.2.1 15 = .ok (.if_icmp .le 5, 3) := by decide +kernel
theorem d_P_start_18 : decode M_P_start.2.1 18 = .ok (.iconst (-1), 1) := by decide +kernel
theorem d_P_start_19 : decode M_P_start.2.1 19 = .ok (.ireturn, 1) := by decide +kernel
theorem d_P_start_20 : decode M_P_start.2.1 20 = .ok (.aload_n 0, 1) := by decide +kernel
theorem d_P_start_21 : decode M_P_start.2.1 21 = .ok (.getfield 10, 3) := by decide +kernel
theorem d_P_start_24 : decode M_P_start.2.1 24 = .ok (.getfield 16, 3) := by decide +kernel
theorem d_P_start_27 : decode M_P_start.2.1 27 = .ok (.iload_n 3, 1) := by decide +kernel
theorem d_P_start_28 : decode M_P_start.2.1 28 = .ok (.invokevirtual 30, 3) := by decide +kernel
theorem d_P_start_31 : decode M_P_start.2.1 31 = .ok (.ifCond .eq 16, 3) := by decide +kernel
theorem d_P_start_34 : decode M_P_start.2.1 34 = .ok (.iload 5, 2) := by decide +kernel
theorem d_P_start_36 : decode M_P_start.2.1 36 = .ok (.iconst 1, 1) := by decide +kernel
theorem d_P_start_37 : decode M_P_start.2.1 37 = .ok (.if_icmp .lt 10, 3) := by decide +kernel
theorem d_P_start_40 : decode M_P_start.2.1 40 = .ok (.iload 5, 2) := by decide +kernel
theorem d_P_start_42 : decode M_P_start.2.1 42 = .ok (.bipush 20, 2) := by decide +kernel
theorem d_P_start_44 : decode M_P_start.2.1 44 = .ok (.if_icmp .le 5, 3) := by decide +kernel
theorem d_P_start_47 : decode M_P_start.2.1 47 = .ok (.iconst (-1), 1) := by decide +kernel
theorem d_P_start_48 : decode M_P_start.2.1 48 = .ok (.ireturn, 1) := by decide +kernel
theorem d_P_start_49 : decode M_P_start.2.1 49 = .ok (.iload_n 2, 1) := by decide +kernel
theorem d_P_start_50 : decode M_P_start.2.1 50 = .ok (.iconst 2, 1) := by decide +kernel
theorem d_P_start_51 : decode M_P_start.2.1 51 = .ok (.if_icmp .ne 18, 3) := by decide +kernel
theorem d_P_start_54 : decode M_P_start.2.1 54 = .ok (.iload 4, 2) := by decide +kernel
theorem d_P_start_56 : decode M_P_start.2.1 56 = .ok (.iconst 2, 1) := by decide +kernel
theorem d_P_start_57 : decode M_P_start.2.1 57 = .ok (.if_icmp .lt 10, 3) := by decide +kernel
theorem d_P_start_60 : decode M_P_start.2.1 60 = .ok (.iload 4, 2) := by decide +kernel
theorem d_P_start_62 : decode M_P_start.2.1 62 = .ok (.bipush 8, 2) := by decide +kernel
theorem d_P_start_64 : decode M_P_start.2.1 64 = .ok (.if_icmp .le 5, 3) := by decide +kernel
theorem d_P_start_67 : decode M_P_start.2.1 67 = .ok (.iconst (-1), 1) := by decide +kernel
theorem d_P_start_68 : decode M_P_start.2.1 68 = .ok (.ireturn, 1) := by decide +kernel
theorem d_P_start_69 : decode M_P_start.2.1 69 = .ok (.aload_n 0, 1) := by decide +kernel
theorem d_P_start_70 : decode M_P_start.2.1 70 = .ok (.getfield 10, 3) := by decide +kernel
theorem d_P_start_73 : decode M_P_start.2.1 73 = .ok (.getfield 16, 3) := by decide +kernel
theorem d_P_start_76 : decode M_P_start.2.1 76 = .ok (.invokevirtual 46, 3) := by decide +kernel
theorem d_P_start_79 : decode M_P_start.2.1 79 = .ok (.ifCond .ne 5, 3) := by decide +kernel
theorem d_P_start_82 : decode M_P_start.2.1 82 = .ok (.iconst (-1), 1) := by decide +kernel
theorem d_P_start_83 : decode M_P_start.2.1 83 = .ok (.ireturn, 1) := by decide +kernel
theorem d_P_start_84 : decode M_P_start.2.1 84 = .ok (.aload_n 0, 1) := by decide +kernel
theorem d_P_start_85 : decode M_P_start.2.1 85 = .ok (.getfield 10, 3) := by decide +kernel
theorem d_P_start_88 : decode M_P_start.2.1 88 = .ok (.getfield 50, 3) := by decide +kernel
theorem d_P_start_91 : decode M_P_start.2.1 91 = .ok (.aload_n 0, 1) := by decide +kernel
theorem d_P_start_92 : decode M_P_start.2.1 92 = .ok (.getfield 10, 3) := by decide +kernel
theorem d_P_start_95 : decode M_P_start.2.1 95 = .ok (.getfield 16, 3) := by decide +kernel
theorem d_P_start_98 : decode M_P_start.2.1 98 = .ok (.iload_n 2, 1) := by decide +kernel
theorem d_P_start_99 : decode M_P_start.2.1 99 = .ok (.iload_n 3, 1) := by decide +kernel
theorem d_P_start_100 : decode M_P_start.2.1 100 = .ok (.iload 4, 2) := by decide +kernel
theorem d_P_start_102 : decode M_P_start.2.1 102 = .ok (.invokevirtual 54, 3) := by decide +kernel
theorem d_P_start_105 : decode M_P_start.2.1 105 = .ok (.aload_n 0, 1) := by decide +kernel
theorem d_P_start_106 : decode M_P_start.2.1 106 = .ok (.getfield 10, 3) := by decide +kernel
theorem d_P_start_109 : decode M_P_start.2.1 109 = .ok (.iload_n 1, 1) := by decide +kernel
theorem d_P_start_110 : decode M_P_start.2.1 110 = .ok (.iload_n 2, 1) := by decide +kernel
theorem d_P_start_111 : decode M_P_start.2.1 111 = .ok (.iload_n 3, 1) := by decide +kernel
theorem d_P_start_112 : decode M_P_start.2.1 112 = .ok (.iload 5, 2) := by decide +kernel
theorem d_P_start_114 : decode M_P_start.2.1 114 = .ok (.invokevirtual 60, 3) := by decide +kernel
theorem d_P_start_117 : decode M_P_start.2.1 117 = .ok (.aload_n 0, 1) := by decide +kernel
theorem d_P_start_118 : decode M_P_start.2.1 118 = .ok (.iconst 1, 1) := by decide +kernel
theorem d_P_start_119 : decode M_P_start.2.1 119 = .ok (.putfield 26, 3) := by decide +kernel
theorem d_P_start_122 : decode M_P_start.2.1 122 = .ok (.aload_n 0, 1) := by decide +kernel
theorem d_P_start_123 : decode M_P_start.2.1 123 = .ok (.getfield 10, 3) := by decide +kernel
theorem d_P_start_126 : decode M_P_start.2.1 126 = .ok (.getfield 64, 3) := by decide +kernel
theorem d_P_start_129 : decode M_P_start.2.1 129 = .ok (.getfield 68, 3) := by decide +kernel
theorem d_P_start_132 : decode M_P_start.2.1 132 = .ok (.ireturn, 1) := by decide +kernel
theorem d_P_come_0 : decode M_P_come.2.1 0 = .ok (.aload_n 0, 1) := by decide +kernel
theorem d_P_come_1 : decode M_P_come.2.1 1 = .ok (.iload_n 1, 1) := by decide +kernel
theorem d_P_come_2 : decode M_P_come.2.1 2 = .ok (.invokevirtual 73, 3) := by decide +kernel
theorem d_P_come_5 : decode M_P_come.2.1 5 = .ok (.ifCond .eq 14, 3) := by decide +kernel
theorem d_P_come_8 : decode M_P_come.2.1 8 = .ok (.aload_n 0, 1) := by decide +kernel
theorem d_P_come_9 : decode M_P_come.2.1 9 = .ok (.getfield 10, 3) := by decide +kernel
theorem d_P_come_12 : decode M_P_come.2.1 12 = .ok (.iload_n 1, 1) := by decide +kernel
theorem d_P_come_13 : decode M_P_come.2.1 13 = .ok (.invokevirtual 76, 3) := by decide +kernel
theorem d_P_come_16 : decode M_P_come.2.1 16 = .ok (.goto 4, 3) := by decide +kernel
theorem d_P_come_19 : decode M_P_come.2.1 19 = .ok (.iconst (-1), 1) := by decide +kernel
theorem d_P_come_20 : decode M_P_come.2.1 20 = .ok (.ireturn, 1) := by decide +kernel
theorem d_P_flow_0 : decode M_P_flow.2.1 0 = .ok (.iload_n 1, 1) := by decide +kernel
theorem d_P_flow_1 : decode M_P_flow.2.1 1 = .ok (.ifCond .lt 14, 3) := by decide +kernel
theorem d_P_flow_4 : decode M_P_flow.2.1 4 = .ok (.iload_n 1, 1) := by decide +kernel
theorem d_P_flow_5 : decode M_P_flow.2.1 5 = .ok (.sipush 3000, 3) := by decide +kernel
theorem d_P_flow_8 : decode M_P_flow.2.1 8 = .ok (.if_icmp .gt 7, 3) := by decide +kernel
theorem d_P_flow_11 : decode M_P_flow.2.1 11 = .ok (.iload_n 2, 1) := by decide +kernel
theorem d_P_flow_12 : decode M_P_flow.2.1 12 = .ok (.ifCond .ge 5, 3) := by decide +kernel
theorem d_P_flow_15 : decode M_P_flow.2.1 15 = .ok (.iconst (-1), 1) := by decide +kernel
theorem d_P_flow_16 : decode M_P_flow.2.1 16 = .ok (.ireturn, 1) := by decide +kernel
theorem d_P_flow_17 : decode M_P_flow.2.1 17 = .ok (.iload_n 2, 1) := by decide +kernel
theorem d_P_flow_18 : decode M_P_flow.2.1 18 = .ok (.i2l, 1) := by decide +kernel
theorem d_P_flow_19 : decode M_P_flow.2.1 19 = .ok (.lstore_n 3, 1) := by decide +kernel
theorem d_P_flow_20 : decode M_P_flow.2.1 20 = .ok (.iconst 0, 1) := by decide +kernel
theorem d_P_flow_21 : decode M_P_flow.2.1 21 = .ok (.istore 5, 2) := by decide +kernel
theorem d_P_flow_23 : decode M_P_flow.2.1 23 = .ok (.iload 5, 2) := by decide +kernel
theorem d_P_flow_25 : decode M_P_flow.2.1 25 = .ok (.iload_n 1, 1) := by decide +kernel
theorem d_P_flow_26 : decode M_P_flow.2.1 26 = .ok (.if_icmp .ge 63, 3) := by decide +kernel
theorem d_P_flow_29 : decode M_P_flow.2.1 29 = .ok (.aload_n 0, 1) := by decide +kernel
theorem d_P_flow_30 : decode M_P_flow.2.1 30 = .ok (.getfield 26, 3) := by decide +kernel
theorem d_P_flow_33 : decode M_P_flow.2.1 33 = .ok (.ifCond .eq 56, 3) := by decide +kernel
theorem d_P_flow_36 : decode M_P_flow.2.1 36 = .ok (.aload_n 0, 1) := by decide +kernel
theorem d_P_flow_37 : decode M_P_flow.2.1 37 = .ok (.getfield 10, 3) := by decide +kernel
theorem d_P_flow_40 : decode M_P_flow.2.1 40 = .ok (.getfield 64, 3) := by decide +kernel
theorem d_P_flow_43 : decode M_P_flow.2.1 43 = .ok (.getfield 68, 3) := by decide +kernel
theorem d_P_flow_46 : decode M_P_flow.2.1 46 = .ok (.ifCond .le 43, 3) := by decide +kernel
theorem d_P_flow_49 : decode M_P_flow.2.1 49 = .ok (.aload_n 0, 1) := by decide +kernel
theorem d_P_flow_50 : decode M_P_flow.2.1 50 = .ok (.getfield 10, 3) := by decide +kernel
theorem d_P_flow_53 : decode M_P_flow.2.1 53 = .ok (.lload_n 3, 1) := by decide +kernel
theorem d_P_flow_54 : decode M_P_flow.2.1 54 = .ok (.aload_n 0, 1) := by decide +kernel
theorem d_P_flow_55 : decode M_P_flow.2.1 55 = .ok (.getfield 10, 3) := by decide +kernel
theorem d_P_flow_58 : decode M_P_flow.2.1 58 = .ok (.getfield 64, 3) := by decide +kernel
theorem d_P_flow_61 : decode M_P_flow.2.1 61 = .ok (.getfield 68, 3) := by decide +kernel
theorem d_P_flow_64 : decode M_P_flow.2.1 64 = .ok (.i2l, 1) := by decide +kernel
theorem d_P_flow_65 : decode M_P_flow.2.1 65 = .ok (.lrem, 1) := by decide +kernel
theorem d_P_flow_66 : decode M_P_flow.2.1 66 = .ok (.l2i, 1) := by decide +kernel
theorem d_P_flow_67 : decode M_P_flow.2.1 67 = .ok (.invokevirtual 76, 3) := by decide +kernel
theorem d_P_flow_70 : decode M_P_flow.2.1 70 = .ok (.pop, 1) := by decide +kernel
theorem d_P_flow_71 : decode M_P_flow.2.1 71 = .ok (.ldc2_w 80, 3) := by decide +kernel
theorem d_P_flow_74 : decode M_P_flow.2.1 74 = .ok (.lload_n 3, 1) := by decide +kernel
theorem d_P_flow_75 : decode M_P_flow.2.1 75 = .ok (.lmul, 1) := by decide +kernel
theorem d_P_flow_76 : decode M_P_flow.2.1 76 = .ok (.lconst 1, 1) := by decide +kernel
theorem d_P_flow_77 : decode M_P_flow.2.1 77 = .ok (.ladd, 1) := by decide +kernel
theorem d_P_flow_78 : decode M_P_flow.2.1 78 = .ok (.ldc2_w 82, 3) := by decide +kernel
theorem d_P_flow_81 : decode M_P_flow.2.1 81 = .ok (.land, 1) := by decide +kernel
theorem d_P_flow_82 : decode M_P_flow.2.1 82 = .ok (.lstore_n 3, 1) := by decide +kernel
theorem d_P_flow_83 : decode M_P_flow.2.1 83 = .ok (.iinc 5 1, 3) := by decide +kernel
theorem d_P_flow_86 : decode M_P_flow.2.1 86 = .ok (.goto (-63), 3) := by decide +kernel
theorem d_P_flow_89 : decode M_P_flow.2.1 89 = .ok (.iload 5, 2) := by decide +kernel
theorem d_P_flow_91 : decode M_P_flow.2.1 91 = .ok (.ireturn, 1) := by decide +kernel
theorem d_P_told_0 : decode M_P_told.2.1 0 = .ok (.aload_n 0, 1) := by decide +kernel
theorem d_P_told_1 : decode M_P_told.2.1 1 = .ok (.getfield 10, 3) := by decide +kernel
theorem d_P_told_4 : decode M_P_told.2.1 4 = .ok (.getfield 16, 3) := by decide +kernel
theorem d_P_told_7 : decode M_P_told.2.1 7 = .ok (.iload_n 1, 1) := by decide +kernel
theorem d_P_told_8 : decode M_P_told.2.1 8 = .ok (.invokevirtual 30, 3) := by decide +kernel
theorem d_P_told_11 : decode M_P_told.2.1 11 = .ok (.ifCond .eq 13, 3) := by decide +kernel
theorem d_P_told_14 : decode M_P_told.2.1 14 = .ok (.iload_n 2, 1) := by decide +kernel
theorem d_P_told_15 : decode M_P_told.2.1 15 = .ok (.ifCond .lt 9, 3) := by decide +kernel
theorem d_P_told_18 : decode M_P_told.2.1 18 = .ok (.iload_n 2, 1) := by decide +kernel
theorem d_P_told_19 : decode M_P_told.2.1 19 = .ok (.bipush 7, 2) := by decide +kernel
theorem d_P_told_21 : decode M_P_told.2.1 21 = .ok (.if_icmp .le 5, 3) := by decide +kernel
theorem d_P_told_24 : decode M_P_told.2.1 24 = .ok (.iconst (-1), 1) := by decide +kernel
theorem d_P_told_25 : decode M_P_told.2.1 25 = .ok (.ireturn, 1) := by decide +kernel
theorem d_P_told_26 : decode M_P_told.2.1 26 = .ok (.iload_n 2, 1) := by decide +kernel
theorem d_P_told_27 : decode M_P_told.2.1 27 = .ok (.bipush 7, 2) := by decide +kernel
theorem d_P_told_29 : decode M_P_told.2.1 29 = .ok (.if_icmp .ne 19, 3) := by decide +kernel
theorem d_P_told_32 : decode M_P_told.2.1 32 = .ok (.aload_n 0, 1) := by decide +kernel
theorem d_P_told_33 : decode M_P_told.2.1 33 = .ok (.getfield 10, 3) := by decide +kernel
theorem d_P_told_36 : decode M_P_told.2.1 36 = .ok (.getfield 16, 3) := by decide +kernel
theorem d_P_told_39 : decode M_P_told.2.1 39 = .ok (.getfield 84, 3) := by decide +kernel
theorem d_P_told_42 : decode M_P_told.2.1 42 = .ok (.iload_n 1, 1) := by decide +kernel
theorem d_P_told_43 : decode M_P_told.2.1 43 = .ok (.iaload, 1) := by decide +kernel
theorem d_P_told_44 : decode M_P_told.2.1 44 = .ok (.invokestatic 87, 3) := by decide +kernel
theorem d_P_told_47 : decode M_P_told.2.1 47 = .ok (.ireturn, 1) := by decide +kernel
theorem d_P_told_48 : decode M_P_told.2.1 48 = .ok (.aload_n 0, 1) := by decide +kernel
theorem d_P_told_49 : decode M_P_told.2.1 49 = .ok (.getfield 26, 3) := by decide +kernel
theorem d_P_told_52 : decode M_P_told.2.1 52 = .ok (.ifCond .ne 5, 3) := by decide +kernel
theorem d_P_told_55 : decode M_P_told.2.1 55 = .ok (.iconst (-1), 1) := by decide +kernel
theorem d_P_told_56 : decode M_P_told.2.1 56 = .ok (.ireturn, 1) := by decide +kernel
theorem d_P_told_57 : decode M_P_told.2.1 57 = .ok (.iload_n 2, 1) := by decide +kernel
theorem d_P_told_58 : decode M_P_told.2.1 58 = .ok (.tableswitch 114 0 5 #[38, 48, 61, 74, 84, 101], 38) := by decide +kernel
theorem d_P_told_96 : decode M_P_told.2.1 96 = .ok (.aload_n 0, 1) := by decide +kernel
theorem d_P_told_97 : decode M_P_told.2.1 97 = .ok (.getfield 10, 3) := by decide +kernel
theorem d_P_told_100 : decode M_P_told.2.1 100 = .ok (.getfield 92, 3) := by decide +kernel
theorem d_P_told_103 : decode M_P_told.2.1 103 = .ok (.iload_n 1, 1) := by decide +kernel
theorem d_P_told_104 : decode M_P_told.2.1 104 = .ok (.iaload, 1) := by decide +kernel
theorem d_P_told_105 : decode M_P_told.2.1 105 = .ok (.ireturn, 1) := by decide +kernel
theorem d_P_told_106 : decode M_P_told.2.1 106 = .ok (.aload_n 0, 1) := by decide +kernel
theorem d_P_told_107 : decode M_P_told.2.1 107 = .ok (.getfield 10, 3) := by decide +kernel
theorem d_P_told_110 : decode M_P_told.2.1 110 = .ok (.getfield 95, 3) := by decide +kernel
theorem d_P_told_113 : decode M_P_told.2.1 113 = .ok (.getfield 99, 3) := by decide +kernel
theorem d_P_told_116 : decode M_P_told.2.1 116 = .ok (.iload_n 1, 1) := by decide +kernel
theorem d_P_told_117 : decode M_P_told.2.1 117 = .ok (.iaload, 1) := by decide +kernel
theorem d_P_told_118 : decode M_P_told.2.1 118 = .ok (.ireturn, 1) := by decide +kernel
theorem d_P_told_119 : decode M_P_told.2.1 119 = .ok (.aload_n 0, 1) := by decide +kernel
theorem d_P_told_120 : decode M_P_told.2.1 120 = .ok (.getfield 10, 3) := by decide +kernel
theorem d_P_told_123 : decode M_P_told.2.1 123 = .ok (.getfield 95, 3) := by decide +kernel
theorem d_P_told_126 : decode M_P_told.2.1 126 = .ok (.getfield 104, 3) := by decide +kernel
theorem d_P_told_129 : decode M_P_told.2.1 129 = .ok (.iload_n 1, 1) := by decide +kernel
theorem d_P_told_130 : decode M_P_told.2.1 130 = .ok (.iaload, 1) := by decide +kernel
theorem d_P_told_131 : decode M_P_told.2.1 131 = .ok (.ireturn, 1) := by decide +kernel
theorem d_P_told_132 : decode M_P_told.2.1 132 = .ok (.aload_n 0, 1) := by decide +kernel
theorem d_P_told_133 : decode M_P_told.2.1 133 = .ok (.getfield 10, 3) := by decide +kernel
theorem d_P_told_136 : decode M_P_told.2.1 136 = .ok (.getfield 107, 3) := by decide +kernel
theorem d_P_told_139 : decode M_P_told.2.1 139 = .ok (.iload_n 1, 1) := by decide +kernel
theorem d_P_told_140 : decode M_P_told.2.1 140 = .ok (.iaload, 1) := by decide +kernel
theorem d_P_told_141 : decode M_P_told.2.1 141 = .ok (.ireturn, 1) := by decide +kernel
theorem d_P_told_142 : decode M_P_told.2.1 142 = .ok (.aload_n 0, 1) := by decide +kernel
theorem d_P_told_143 : decode M_P_told.2.1 143 = .ok (.getfield 10, 3) := by decide +kernel
theorem d_P_told_146 : decode M_P_told.2.1 146 = .ok (.iload_n 1, 1) := by decide +kernel
theorem d_P_told_147 : decode M_P_told.2.1 147 = .ok (.invokevirtual 110, 3) := by decide +kernel
theorem d_P_told_150 : decode M_P_told.2.1 150 = .ok (.ifCond .eq 7, 3) := by decide +kernel
theorem d_P_told_153 : decode M_P_told.2.1 153 = .ok (.iconst 1, 1) := by decide +kernel
theorem d_P_told_154 : decode M_P_told.2.1 154 = .ok (.goto 4, 3) := by decide +kernel
theorem d_P_told_157 : decode M_P_told.2.1 157 = .ok (.iconst 0, 1) := by decide +kernel
theorem d_P_told_158 : decode M_P_told.2.1 158 = .ok (.ireturn, 1) := by decide +kernel
theorem d_P_told_159 : decode M_P_told.2.1 159 = .ok (.aload_n 0, 1) := by decide +kernel
theorem d_P_told_160 : decode M_P_told.2.1 160 = .ok (.getfield 10, 3) := by decide +kernel
theorem d_P_told_163 : decode M_P_told.2.1 163 = .ok (.getfield 50, 3) := by decide +kernel
theorem d_P_told_166 : decode M_P_told.2.1 166 = .ok (.getfield 113, 3) := by decide +kernel
theorem d_P_told_169 : decode M_P_told.2.1 169 = .ok (.iload_n 1, 1) := by decide +kernel
theorem d_P_told_170 : decode M_P_told.2.1 170 = .ok (.iaload, 1) := by decide +kernel
theorem d_P_told_171 : decode M_P_told.2.1 171 = .ok (.ireturn, 1) := by decide +kernel
theorem d_P_told_172 : decode M_P_told.2.1 172 = .ok (.aload_n 0, 1) := by decide +kernel
theorem d_P_told_173 : decode M_P_told.2.1 173 = .ok (.getfield 10, 3) := by decide +kernel
theorem d_P_told_176 : decode M_P_told.2.1 176 = .ok (.getfield 50, 3) := by decide +kernel
theorem d_P_told_179 : decode M_P_told.2.1 179 = .ok (.getfield 116, 3) := by decide +kernel
theorem d_P_told_182 : decode M_P_told.2.1 182 = .ok (.iload_n 1, 1) := by decide +kernel
theorem d_P_told_183 : decode M_P_told.2.1 183 = .ok (.iaload, 1) := by decide +kernel
theorem d_P_told_184 : decode M_P_told.2.1 184 = .ok (.ireturn, 1) := by decide +kernel
theorem d_P_past_0 : decode M_P_past.2.1 0 = .ok (.aload_n 0, 1) := by decide +kernel
theorem d_P_past_1 : decode M_P_past.2.1 1 = .ok (.iload_n 1, 1) := by decide +kernel
theorem d_P_past_2 : decode M_P_past.2.1 2 = .ok (.iload_n 2, 1) := by decide +kernel
theorem d_P_past_3 : decode M_P_past.2.1 3 = .ok (.invokevirtual 119, 3) := by decide +kernel
theorem d_P_past_6 : decode M_P_past.2.1 6 = .ok (.ifCond .ne 5, 3) := by decide +kernel
theorem d_P_past_9 : decode M_P_past.2.1 9 = .ok (.iconst (-1), 1) := by decide +kernel
theorem d_P_past_10 : decode M_P_past.2.1 10 = .ok (.ireturn, 1) := by decide +kernel
theorem d_P_past_11 : decode M_P_past.2.1 11 = .ok (.iload_n 2, 1) := by decide +kernel
theorem d_P_past_12 : decode M_P_past.2.1 12 = .ok (.aload_n 0, 1) := by decide +kernel
theorem d_P_past_13 : decode M_P_past.2.1 13 = .ok (.getfield 10, 3) := by decide +kernel
theorem d_P_past_16 : decode M_P_past.2.1 16 = .ok (.getfield 92, 3) := by decide +kernel
theorem d_P_past_19 : decode M_P_past.2.1 19 = .ok (.iload_n 1, 1) := by decide +kernel
theorem d_P_past_20 : decode M_P_past.2.1 20 = .ok (.iaload, 1) := by decide +kernel
theorem d_P_past_21 : decode M_P_past.2.1 21 = .ok (.if_icmp .le 8, 3) := by decide +kernel
theorem d_P_past_24 : decode M_P_past.2.1 24 = .ok (.bipush (-3), 2) := by decide +kernel
theorem d_P_past_26 : decode M_P_past.2.1 26 = .ok (.goto 16, 3) := by decide +kernel
theorem d_P_past_29 : decode M_P_past.2.1 29 = .ok (.aload_n 0, 1) := by decide +kernel
theorem d_P_past_30 : decode M_P_past.2.1 30 = .ok (.getfield 10, 3) := by decide +kernel
theorem d_P_past_33 : decode M_P_past.2.1 33 = .ok (.getfield 123, 3) := by decide +kernel
theorem d_P_past_36 : decode M_P_past.2.1 36 = .ok (.iload_n 2, 1) := by decide +kernel
theorem d_P_past_37 : decode M_P_past.2.1 37 = .ok (.iload_n 1, 1) := by decide +kernel
theorem d_P_past_38 : decode M_P_past.2.1 38 = .ok (.invokestatic 126, 3) := by decide +kernel
theorem d_P_past_41 : decode M_P_past.2.1 41 = .ok (.iaload, 1) := by decide +kernel
theorem d_P_past_42 : decode M_P_past.2.1 42 = .ok (.ireturn, 1) := by decide +kernel
theorem d_P_inStep_0 : decode M_P_inStep.2.1 0 = .ok (.aload_n 0, 1) := by decide +kernel
theorem d_P_inStep_1 : decode M_P_inStep.2.1 1 = .ok (.iload_n 1, 1) := by decide +kernel
theorem d_P_inStep_2 : decode M_P_inStep.2.1 2 = .ok (.iload_n 2, 1) := by decide +kernel
theorem d_P_inStep_3 : decode M_P_inStep.2.1 3 = .ok (.invokevirtual 119, 3) := by decide +kernel
theorem d_P_inStep_6 : decode M_P_inStep.2.1 6 = .ok (.ifCond .eq 19, 3) := by decide +kernel
theorem d_P_inStep_9 : decode M_P_inStep.2.1 9 = .ok (.aload_n 0, 1) := by decide +kernel
theorem d_P_inStep_10 : decode M_P_inStep.2.1 10 = .ok (.getfield 10, 3) := by decide +kernel
theorem d_P_inStep_13 : decode M_P_inStep.2.1 13 = .ok (.getfield 130, 3) := by decide +kernel
theorem d_P_inStep_16 : decode M_P_inStep.2.1 16 = .ok (.iload_n 2, 1) := by decide +kernel
theorem d_P_inStep_17 : decode M_P_inStep.2.1 17 = .ok (.iload_n 1, 1) := by decide +kernel
theorem d_P_inStep_18 : decode M_P_inStep.2.1 18 = .ok (.invokestatic 126, 3) := by decide +kernel
theorem d_P_inStep_21 : decode M_P_inStep.2.1 21 = .ok (.iaload, 1) := by decide +kernel
theorem d_P_inStep_22 : decode M_P_inStep.2.1 22 = .ok (.goto 4, 3) := by decide +kernel
theorem d_P_inStep_25 : decode M_P_inStep.2.1 25 = .ok (.iconst (-1), 1) := by decide +kernel
theorem d_P_inStep_26 : decode M_P_inStep.2.1 26 = .ok (.ireturn, 1) := by decide +kernel
