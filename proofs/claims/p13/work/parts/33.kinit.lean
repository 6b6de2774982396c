-- The constructors (written by kinit.py)
abbrev M_P_init : MethodName × ByteArray × Nat × Option FieldType := (⟨"PulseNet", "<init>", "()V"⟩, prog_1_method_1_code, 1, none)
abbrev M_Course_init : MethodName × ByteArray × Nat × Option FieldType := (⟨"PulseNet$Course", "<init>", "()V"⟩, prog_2_method_1_code, 1, none)
abbrev M_Net_init : MethodName × ByteArray × Nat × Option FieldType := (⟨"PulseNet$Net", "<init>", "()V"⟩, prog_4_method_1_code, 1, none)
abbrev M_Frame_init : MethodName × ByteArray × Nat × Option FieldType := (⟨"PulseNet$Frame", "<init>", "()V"⟩, prog_3_method_1_code, 1, none)
abbrev M_Play_init : MethodName × ByteArray × Nat × Option FieldType := (⟨"PulseNet$Play", "<init>", "()V"⟩, prog_5_method_1_code, 1, none)
abbrev M_Pool_init : MethodName × ByteArray × Nat × Option FieldType := (⟨"PulseNet$Pool", "<init>", "()V"⟩, prog_6_method_1_code, 1, none)
abbrev M_Mo_init : MethodName × ByteArray × Nat × Option FieldType := (⟨"PulseNetModel", "<init>", "()V"⟩, prog_8_method_1_code, 2, none)
theorem kw_oi : Cond.instanceMethod objectInit ∈ zTbl := (zTbl_in (List.mem_append_right _ (List.mem_of_getElem? (i := 18) (by decide +kernel))) rfl)
theorem kw_oc : Cond.code objectInit ⟨#[0xb1]⟩ 1 none ∈ zTbl := (zTbl_in (List.mem_append_right _ (List.mem_of_getElem? (i := 19) (by decide +kernel))) rfl)
theorem kw_ai : Cond.arrayClass .int ∈ zTbl := (zTbl_in (List.mem_append_right _ (List.mem_of_getElem? (i := 58) (by decide +kernel))) rfl)
theorem kw_az : Cond.arrayClass .boolean ∈ zTbl := (zTbl_in (List.mem_append_right _ (List.mem_of_getElem? (i := 640) (by decide +kernel))) rfl)
theorem d_P_init_0 : decode M_P_init.2.1 0 = .ok (.aload_n 0, 1) := by decide +kernel
theorem d_P_init_1 : decode M_P_init.2.1 1 = .ok (.invokespecial 1, 3) := by decide +kernel
theorem d_P_init_4 : decode M_P_init.2.1 4 = .ok (.aload_n 0, 1) := by decide +kernel
theorem d_P_init_5 : decode M_P_init.2.1 5 = .ok (.new 7, 3) := by decide +kernel
theorem d_P_init_8 : decode M_P_init.2.1 8 = .ok (.dup, 1) := by decide +kernel
theorem d_P_init_9 : decode M_P_init.2.1 9 = .ok (.invokespecial 9, 3) := by decide +kernel
theorem d_P_init_12 : decode M_P_init.2.1 12 = .ok (.putfield 10, 3) := by decide +kernel
theorem d_P_init_15 : decode M_P_init.2.1 15 = .ok (.aload_n 0, 1) := by decide +kernel
theorem d_P_init_16 : decode M_P_init.2.1 16 = .ok (.getfield 10, 3) := by decide +kernel
theorem d_P_init_19 : decode M_P_init.2.1 19 = .ok (.getfield 16, 3) := by decide +kernel
theorem d_P_init_22 : decode M_P_init.2.1 22 = .ok (.iconst 1, 1) := by decide +kernel
theorem d_P_init_23 : decode M_P_init.2.1 23 = .ok (.invokevirtual 20, 3) := by decide +kernel
theorem d_P_init_26 : decode M_P_init.2.1 26 = .ok (.aload_n 0, 1) := by decide +kernel
theorem d_P_init_27 : decode M_P_init.2.1 27 = .ok (.iconst 0, 1) := by decide +kernel
theorem d_P_init_28 : decode M_P_init.2.1 28 = .ok (.putfield 26, 3) := by decide +kernel
theorem d_P_init_31 : decode M_P_init.2.1 31 = .ok (.return_, 1) := by decide +kernel
theorem d_Course_init_0 : decode M_Course_init.2.1 0 = .ok (.aload_n 0, 1) := by decide +kernel
theorem d_Course_init_1 : decode M_Course_init.2.1 1 = .ok (.invokespecial 3, 3) := by decide +kernel
theorem d_Course_init_4 : decode M_Course_init.2.1 4 = .ok (.aload_n 0, 1) := by decide +kernel
theorem d_Course_init_5 : decode M_Course_init.2.1 5 = .ok (.new 9, 3) := by decide +kernel
theorem d_Course_init_8 : decode M_Course_init.2.1 8 = .ok (.dup, 1) := by decide +kernel
theorem d_Course_init_9 : decode M_Course_init.2.1 9 = .ok (.invokespecial 11, 3) := by decide +kernel
theorem d_Course_init_12 : decode M_Course_init.2.1 12 = .ok (.putfield 12, 3) := by decide +kernel
theorem d_Course_init_15 : decode M_Course_init.2.1 15 = .ok (.aload_n 0, 1) := by decide +kernel
theorem d_Course_init_16 : decode M_Course_init.2.1 16 = .ok (.new 18, 3) := by decide +kernel
theorem d_Course_init_19 : decode M_Course_init.2.1 19 = .ok (.dup, 1) := by decide +kernel
theorem d_Course_init_20 : decode M_Course_init.2.1 20 = .ok (.invokespecial 20, 3) := by decide +kernel
theorem d_Course_init_23 : decode M_Course_init.2.1 23 = .ok (.putfield 21, 3) := by decide +kernel
theorem d_Course_init_26 : decode M_Course_init.2.1 26 = .ok (.aload_n 0, 1) := by decide +kernel
theorem d_Course_init_27 : decode M_Course_init.2.1 27 = .ok (.new 25, 3) := by decide +kernel
theorem d_Course_init_30 : decode M_Course_init.2.1 30 = .ok (.dup, 1) := by decide +kernel
theorem d_Course_init_31 : decode M_Course_init.2.1 31 = .ok (.invokespecial 27, 3) := by decide +kernel
theorem d_Course_init_34 : decode M_Course_init.2.1 34 = .ok (.putfield 28, 3) := by decide +kernel
theorem d_Course_init_37 : decode M_Course_init.2.1 37 = .ok (.aload_n 0, 1) := by decide +kernel
theorem d_Course_init_38 : decode M_Course_init.2.1 38 = .ok (.new 32, 3) := by decide +kernel
theorem d_Course_init_41 : decode M_Course_init.2.1 41 = .ok (.dup, 1) := by decide +kernel
theorem d_Course_init_42 : decode M_Course_init.2.1 42 = .ok (.invokespecial 34, 3) := by decide +kernel
theorem d_Course_init_45 : decode M_Course_init.2.1 45 = .ok (.putfield 35, 3) := by decide +kernel
theorem d_Course_init_48 : decode M_Course_init.2.1 48 = .ok (.aload_n 0, 1) := by decide +kernel
theorem d_Course_init_49 : decode M_Course_init.2.1 49 = .ok (.bipush 12, 2) := by decide +kernel
theorem d_Course_init_51 : decode M_Course_init.2.1 51 = .ok (.newarray .int, 2) := by decide +kernel
theorem d_Course_init_53 : decode M_Course_init.2.1 53 = .ok (.putfield 39, 3) := by decide +kernel
theorem d_Course_init_56 : decode M_Course_init.2.1 56 = .ok (.aload_n 0, 1) := by decide +kernel
theorem d_Course_init_57 : decode M_Course_init.2.1 57 = .ok (.bipush 12, 2) := by decide +kernel
theorem d_Course_init_59 : decode M_Course_init.2.1 59 = .ok (.newarray .int, 2) := by decide +kernel
theorem d_Course_init_61 : decode M_Course_init.2.1 61 = .ok (.putfield 43, 3) := by decide +kernel
theorem d_Course_init_64 : decode M_Course_init.2.1 64 = .ok (.aload_n 0, 1) := by decide +kernel
theorem d_Course_init_65 : decode M_Course_init.2.1 65 = .ok (.bipush 12, 2) := by decide +kernel
theorem d_Course_init_67 : decode M_Course_init.2.1 67 = .ok (.newarray .int, 2) := by decide +kernel
theorem d_Course_init_69 : decode M_Course_init.2.1 69 = .ok (.putfield 46, 3) := by decide +kernel
theorem d_Course_init_72 : decode M_Course_init.2.1 72 = .ok (.aload_n 0, 1) := by decide +kernel
theorem d_Course_init_73 : decode M_Course_init.2.1 73 = .ok (.bipush 12, 2) := by decide +kernel
theorem d_Course_init_75 : decode M_Course_init.2.1 75 = .ok (.newarray .int, 2) := by decide +kernel
theorem d_Course_init_77 : decode M_Course_init.2.1 77 = .ok (.putfield 49, 3) := by decide +kernel
theorem d_Course_init_80 : decode M_Course_init.2.1 80 = .ok (.aload_n 0, 1) := by decide +kernel
theorem d_Course_init_81 : decode M_Course_init.2.1 81 = .ok (.bipush 12, 2) := by decide +kernel
theorem d_Course_init_83 : decode M_Course_init.2.1 83 = .ok (.newarray .int, 2) := by decide +kernel
theorem d_Course_init_85 : decode M_Course_init.2.1 85 = .ok (.putfield 52, 3) := by decide +kernel
theorem d_Course_init_88 : decode M_Course_init.2.1 88 = .ok (.aload_n 0, 1) := by decide +kernel
theorem d_Course_init_89 : decode M_Course_init.2.1 89 = .ok (.bipush 24, 2) := by decide +kernel
theorem d_Course_init_91 : decode M_Course_init.2.1 91 = .ok (.newarray .int, 2) := by decide +kernel
theorem d_Course_init_93 : decode M_Course_init.2.1 93 = .ok (.putfield 55, 3) := by decide +kernel
theorem d_Course_init_96 : decode M_Course_init.2.1 96 = .ok (.aload_n 0, 1) := by decide +kernel
theorem d_Course_init_97 : decode M_Course_init.2.1 97 = .ok (.sipush 252, 3) := by decide +kernel
theorem d_Course_init_100 : decode M_Course_init.2.1 100 = .ok (.newarray .int, 2) := by decide +kernel
theorem d_Course_init_102 : decode M_Course_init.2.1 102 = .ok (.putfield 58, 3) := by decide +kernel
theorem d_Course_init_105 : decode M_Course_init.2.1 105 = .ok (.aload_n 0, 1) := by decide +kernel
theorem d_Course_init_106 : decode M_Course_init.2.1 106 = .ok (.sipush 252, 3) := by decide +kernel
theorem d_Course_init_109 : decode M_Course_init.2.1 109 = .ok (.newarray .int, 2) := by decide +kernel
theorem d_Course_init_111 : decode M_Course_init.2.1 111 = .ok (.putfield 61, 3) := by decide +kernel
theorem d_Course_init_114 : decode M_Course_init.2.1 114 = .ok (.return_, 1) := by decide +kernel
theorem d_Net_init_0 : decode M_Net_init.2.1 0 = .ok (.aload_n 0, 1) := by decide +kernel
theorem d_Net_init_1 : decode M_Net_init.2.1 1 = .ok (.invokespecial 3, 3) := by decide +kernel
theorem d_Net_init_4 : decode M_Net_init.2.1 4 = .ok (.aload_n 0, 1) := by decide +kernel
theorem d_Net_init_5 : decode M_Net_init.2.1 5 = .ok (.bipush 12, 2) := by decide +kernel
theorem d_Net_init_7 : decode M_Net_init.2.1 7 = .ok (.newarray .int, 2) := by decide +kernel
theorem d_Net_init_9 : decode M_Net_init.2.1 9 = .ok (.putfield 9, 3) := by decide +kernel
theorem d_Net_init_12 : decode M_Net_init.2.1 12 = .ok (.aload_n 0, 1) := by decide +kernel
theorem d_Net_init_13 : decode M_Net_init.2.1 13 = .ok (.bipush 12, 2) := by decide +kernel
theorem d_Net_init_15 : decode M_Net_init.2.1 15 = .ok (.newarray .int, 2) := by decide +kernel
theorem d_Net_init_17 : decode M_Net_init.2.1 17 = .ok (.putfield 15, 3) := by decide +kernel
theorem d_Net_init_20 : decode M_Net_init.2.1 20 = .ok (.aload_n 0, 1) := by decide +kernel
theorem d_Net_init_21 : decode M_Net_init.2.1 21 = .ok (.sipush 144, 3) := by decide +kernel
theorem d_Net_init_24 : decode M_Net_init.2.1 24 = .ok (.newarray .int, 2) := by decide +kernel
theorem d_Net_init_26 : decode M_Net_init.2.1 26 = .ok (.putfield 18, 3) := by decide +kernel
theorem d_Net_init_29 : decode M_Net_init.2.1 29 = .ok (.return_, 1) := by decide +kernel
theorem d_Frame_init_0 : decode M_Frame_init.2.1 0 = .ok (.aload_n 0, 1) := by decide +kernel
theorem d_Frame_init_1 : decode M_Frame_init.2.1 1 = .ok (.invokespecial 3, 3) := by decide +kernel
theorem d_Frame_init_4 : decode M_Frame_init.2.1 4 = .ok (.aload_n 0, 1) := by decide +kernel
theorem d_Frame_init_5 : decode M_Frame_init.2.1 5 = .ok (.bipush 12, 2) := by decide +kernel
theorem d_Frame_init_7 : decode M_Frame_init.2.1 7 = .ok (.newarray .int, 2) := by decide +kernel
theorem d_Frame_init_9 : decode M_Frame_init.2.1 9 = .ok (.putfield 9, 3) := by decide +kernel
theorem d_Frame_init_12 : decode M_Frame_init.2.1 12 = .ok (.aload_n 0, 1) := by decide +kernel
theorem d_Frame_init_13 : decode M_Frame_init.2.1 13 = .ok (.bipush 12, 2) := by decide +kernel
theorem d_Frame_init_15 : decode M_Frame_init.2.1 15 = .ok (.newarray .int, 2) := by decide +kernel
theorem d_Frame_init_17 : decode M_Frame_init.2.1 17 = .ok (.putfield 15, 3) := by decide +kernel
theorem d_Frame_init_20 : decode M_Frame_init.2.1 20 = .ok (.aload_n 0, 1) := by decide +kernel
theorem d_Frame_init_21 : decode M_Frame_init.2.1 21 = .ok (.bipush 12, 2) := by decide +kernel
theorem d_Frame_init_23 : decode M_Frame_init.2.1 23 = .ok (.newarray .int, 2) := by decide +kernel
theorem d_Frame_init_25 : decode M_Frame_init.2.1 25 = .ok (.putfield 18, 3) := by decide +kernel
theorem d_Frame_init_28 : decode M_Frame_init.2.1 28 = .ok (.aload_n 0, 1) := by decide +kernel
theorem d_Frame_init_29 : decode M_Frame_init.2.1 29 = .ok (.bipush 12, 2) := by decide +kernel
theorem d_Frame_init_31 : decode M_Frame_init.2.1 31 = .ok (.newarray .int, 2) := by decide +kernel
theorem d_Frame_init_33 : decode M_Frame_init.2.1 33 = .ok (.putfield 21, 3) := by decide +kernel
theorem d_Frame_init_36 : decode M_Frame_init.2.1 36 = .ok (.aload_n 0, 1) := by decide +kernel
theorem d_Frame_init_37 : decode M_Frame_init.2.1 37 = .ok (.bipush 12, 2) := by decide +kernel
theorem d_Frame_init_39 : decode M_Frame_init.2.1 39 = .ok (.newarray .int, 2) := by decide +kernel
theorem d_Frame_init_41 : decode M_Frame_init.2.1 41 = .ok (.putfield 24, 3) := by decide +kernel
theorem d_Frame_init_44 : decode M_Frame_init.2.1 44 = .ok (.aload_n 0, 1) := by decide +kernel
theorem d_Frame_init_45 : decode M_Frame_init.2.1 45 = .ok (.bipush 12, 2) := by decide +kernel
theorem d_Frame_init_47 : decode M_Frame_init.2.1 47 = .ok (.newarray .int, 2) := by decide +kernel
theorem d_Frame_init_49 : decode M_Frame_init.2.1 49 = .ok (.putfield 27, 3) := by decide +kernel
theorem d_Frame_init_52 : decode M_Frame_init.2.1 52 = .ok (.aload_n 0, 1) := by decide +kernel
theorem d_Frame_init_53 : decode M_Frame_init.2.1 53 = .ok (.bipush 12, 2) := by decide +kernel
theorem d_Frame_init_55 : decode M_Frame_init.2.1 55 = .ok (.newarray .int, 2) := by decide +kernel
theorem d_Frame_init_57 : decode M_Frame_init.2.1 57 = .ok (.putfield 30, 3) := by decide +kernel
theorem d_Frame_init_60 : decode M_Frame_init.2.1 60 = .ok (.return_, 1) := by decide +kernel
theorem d_Play_init_0 : decode M_Play_init.2.1 0 = .ok (.aload_n 0, 1) := by decide +kernel
theorem d_Play_init_1 : decode M_Play_init.2.1 1 = .ok (.invokespecial 3, 3) := by decide +kernel
theorem d_Play_init_4 : decode M_Play_init.2.1 4 = .ok (.aload_n 0, 1) := by decide +kernel
theorem d_Play_init_5 : decode M_Play_init.2.1 5 = .ok (.bipush 12, 2) := by decide +kernel
theorem d_Play_init_7 : decode M_Play_init.2.1 7 = .ok (.newarray .int, 2) := by decide +kernel
theorem d_Play_init_9 : decode M_Play_init.2.1 9 = .ok (.putfield 9, 3) := by decide +kernel
theorem d_Play_init_12 : decode M_Play_init.2.1 12 = .ok (.aload_n 0, 1) := by decide +kernel
theorem d_Play_init_13 : decode M_Play_init.2.1 13 = .ok (.bipush 12, 2) := by decide +kernel
theorem d_Play_init_15 : decode M_Play_init.2.1 15 = .ok (.newarray .int, 2) := by decide +kernel
theorem d_Play_init_17 : decode M_Play_init.2.1 17 = .ok (.putfield 15, 3) := by decide +kernel
theorem d_Play_init_20 : decode M_Play_init.2.1 20 = .ok (.aload_n 0, 1) := by decide +kernel
theorem d_Play_init_21 : decode M_Play_init.2.1 21 = .ok (.sipush 288, 3) := by decide +kernel
theorem d_Play_init_24 : decode M_Play_init.2.1 24 = .ok (.newarray .int, 2) := by decide +kernel
theorem d_Play_init_26 : decode M_Play_init.2.1 26 = .ok (.putfield 18, 3) := by decide +kernel
theorem d_Play_init_29 : decode M_Play_init.2.1 29 = .ok (.return_, 1) := by decide +kernel
theorem d_Pool_init_0 : decode M_Pool_init.2.1 0 = .ok (.aload_n 0, 1) := by decide +kernel
theorem d_Pool_init_1 : decode M_Pool_init.2.1 1 = .ok (.invokespecial 3, 3) := by decide +kernel
theorem d_Pool_init_4 : decode M_Pool_init.2.1 4 = .ok (.aload_n 0, 1) := by decide +kernel
theorem d_Pool_init_5 : decode M_Pool_init.2.1 5 = .ok (.sipush 528, 3) := by decide +kernel
theorem d_Pool_init_8 : decode M_Pool_init.2.1 8 = .ok (.newarray .int, 2) := by decide +kernel
theorem d_Pool_init_10 : decode M_Pool_init.2.1 10 = .ok (.putfield 11, 3) := by decide +kernel
theorem d_Pool_init_13 : decode M_Pool_init.2.1 13 = .ok (.aload_n 0, 1) := by decide +kernel
theorem d_Pool_init_14 : decode M_Pool_init.2.1 14 = .ok (.sipush 528, 3) := by decide +kernel
theorem d_Pool_init_17 : decode M_Pool_init.2.1 17 = .ok (.newarray .int, 2) := by decide +kernel
theorem d_Pool_init_19 : decode M_Pool_init.2.1 19 = .ok (.putfield 15, 3) := by decide +kernel
theorem d_Pool_init_22 : decode M_Pool_init.2.1 22 = .ok (.aload_n 0, 1) := by decide +kernel
theorem d_Pool_init_23 : decode M_Pool_init.2.1 23 = .ok (.sipush 528, 3) := by decide +kernel
theorem d_Pool_init_26 : decode M_Pool_init.2.1 26 = .ok (.newarray .int, 2) := by decide +kernel
theorem d_Pool_init_28 : decode M_Pool_init.2.1 28 = .ok (.putfield 18, 3) := by decide +kernel
theorem d_Pool_init_31 : decode M_Pool_init.2.1 31 = .ok (.aload_n 0, 1) := by decide +kernel
theorem d_Pool_init_32 : decode M_Pool_init.2.1 32 = .ok (.sipush 528, 3) := by decide +kernel
theorem d_Pool_init_35 : decode M_Pool_init.2.1 35 = .ok (.newarray .int, 2) := by decide +kernel
theorem d_Pool_init_37 : decode M_Pool_init.2.1 37 = .ok (.putfield 21, 3) := by decide +kernel
theorem d_Pool_init_40 : decode M_Pool_init.2.1 40 = .ok (.aload_n 0, 1) := by decide +kernel
theorem d_Pool_init_41 : decode M_Pool_init.2.1 41 = .ok (.sipush 528, 3) := by decide +kernel
theorem d_Pool_init_44 : decode M_Pool_init.2.1 44 = .ok (.newarray .int, 2) := by decide +kernel
theorem d_Pool_init_46 : decode M_Pool_init.2.1 46 = .ok (.putfield 24, 3) := by decide +kernel
theorem d_Pool_init_49 : decode M_Pool_init.2.1 49 = .ok (.return_, 1) := by decide +kernel
theorem d_Mo_init_0 : decode M_Mo_init.2.1 0 = .ok (.aload_n 0, 1) := by decide +kernel
theorem d_Mo_init_1 : decode M_Mo_init.2.1 1 = .ok (.invokespecial 1, 3) := by decide +kernel
theorem d_Mo_init_4 : decode M_Mo_init.2.1 4 = .ok (.aload_n 0, 1) := by decide +kernel
theorem d_Mo_init_5 : decode M_Mo_init.2.1 5 = .ok (.sipush 144, 3) := by decide +kernel
theorem d_Mo_init_8 : decode M_Mo_init.2.1 8 = .ok (.newarray .int, 2) := by decide +kernel
theorem d_Mo_init_10 : decode M_Mo_init.2.1 10 = .ok (.putfield 7, 3) := by decide +kernel
theorem d_Mo_init_13 : decode M_Mo_init.2.1 13 = .ok (.aload_n 0, 1) := by decide +kernel
theorem d_Mo_init_14 : decode M_Mo_init.2.1 14 = .ok (.bipush 12, 2) := by decide +kernel
theorem d_Mo_init_16 : decode M_Mo_init.2.1 16 = .ok (.newarray .int, 2) := by decide +kernel
theorem d_Mo_init_18 : decode M_Mo_init.2.1 18 = .ok (.putfield 13, 3) := by decide +kernel
theorem d_Mo_init_21 : decode M_Mo_init.2.1 21 = .ok (.aload_n 0, 1) := by decide +kernel
theorem d_Mo_init_22 : decode M_Mo_init.2.1 22 = .ok (.bipush 12, 2) := by decide +kernel
theorem d_Mo_init_24 : decode M_Mo_init.2.1 24 = .ok (.newarray .int, 2) := by decide +kernel
theorem d_Mo_init_26 : decode M_Mo_init.2.1 26 = .ok (.putfield 16, 3) := by decide +kernel
theorem d_Mo_init_29 : decode M_Mo_init.2.1 29 = .ok (.aload_n 0, 1) := by decide +kernel
theorem d_Mo_init_30 : decode M_Mo_init.2.1 30 = .ok (.bipush 12, 2) := by decide +kernel
theorem d_Mo_init_32 : decode M_Mo_init.2.1 32 = .ok (.newarray .int, 2) := by decide +kernel
theorem d_Mo_init_34 : decode M_Mo_init.2.1 34 = .ok (.putfield 19, 3) := by decide +kernel
theorem d_Mo_init_37 : decode M_Mo_init.2.1 37 = .ok (.aload_n 0, 1) := by decide +kernel
theorem d_Mo_init_38 : decode M_Mo_init.2.1 38 = .ok (.bipush 12, 2) := by decide +kernel
theorem d_Mo_init_40 : decode M_Mo_init.2.1 40 = .ok (.newarray .boolean, 2) := by decide +kernel
theorem d_Mo_init_42 : decode M_Mo_init.2.1 42 = .ok (.putfield 22, 3) := by decide +kernel
theorem d_Mo_init_45 : decode M_Mo_init.2.1 45 = .ok (.aload_n 0, 1) := by decide +kernel
theorem d_Mo_init_46 : decode M_Mo_init.2.1 46 = .ok (.bipush 12, 2) := by decide +kernel
theorem d_Mo_init_48 : decode M_Mo_init.2.1 48 = .ok (.newarray .boolean, 2) := by decide +kernel
theorem d_Mo_init_50 : decode M_Mo_init.2.1 50 = .ok (.putfield 26, 3) := by decide +kernel
theorem d_Mo_init_53 : decode M_Mo_init.2.1 53 = .ok (.aload_n 0, 1) := by decide +kernel
theorem d_Mo_init_54 : decode M_Mo_init.2.1 54 = .ok (.bipush 12, 2) := by decide +kernel
theorem d_Mo_init_56 : decode M_Mo_init.2.1 56 = .ok (.newarray .boolean, 2) := by decide +kernel
theorem d_Mo_init_58 : decode M_Mo_init.2.1 58 = .ok (.putfield 29, 3) := by decide +kernel
theorem d_Mo_init_61 : decode M_Mo_init.2.1 61 = .ok (.aload_n 0, 1) := by decide +kernel
theorem d_Mo_init_62 : decode M_Mo_init.2.1 62 = .ok (.bipush 12, 2) := by decide +kernel
theorem d_Mo_init_64 : decode M_Mo_init.2.1 64 = .ok (.newarray .boolean, 2) := by decide +kernel
theorem d_Mo_init_66 : decode M_Mo_init.2.1 66 = .ok (.putfield 32, 3) := by decide +kernel
theorem d_Mo_init_69 : decode M_Mo_init.2.1 69 = .ok (.aload_n 0, 1) := by decide +kernel
theorem d_Mo_init_70 : decode M_Mo_init.2.1 70 = .ok (.bipush 12, 2) := by decide +kernel
theorem d_Mo_init_72 : decode M_Mo_init.2.1 72 = .ok (.newarray .int, 2) := by decide +kernel
theorem d_Mo_init_74 : decode M_Mo_init.2.1 74 = .ok (.putfield 35, 3) := by decide +kernel
theorem d_Mo_init_77 : decode M_Mo_init.2.1 77 = .ok (.aload_n 0, 1) := by decide +kernel
theorem d_Mo_init_78 : decode M_Mo_init.2.1 78 = .ok (.bipush 12, 2) := by decide +kernel
theorem d_Mo_init_80 : decode M_Mo_init.2.1 80 = .ok (.newarray .int, 2) := by decide +kernel
theorem d_Mo_init_82 : decode M_Mo_init.2.1 82 = .ok (.putfield 38, 3) := by decide +kernel
theorem d_Mo_init_85 : decode M_Mo_init.2.1 85 = .ok (.aload_n 0, 1) := by decide +kernel
theorem d_Mo_init_86 : decode M_Mo_init.2.1 86 = .ok (.bipush 12, 2) := by decide +kernel
theorem d_Mo_init_88 : decode M_Mo_init.2.1 88 = .ok (.newarray .int, 2) := by decide +kernel
theorem d_Mo_init_90 : decode M_Mo_init.2.1 90 = .ok (.putfield 41, 3) := by decide +kernel
theorem d_Mo_init_93 : decode M_Mo_init.2.1 93 = .ok (.aload_n 0, 1) := by decide +kernel
theorem d_Mo_init_94 : decode M_Mo_init.2.1 94 = .ok (.sipush 144, 3) := by decide +kernel
theorem d_Mo_init_97 : decode M_Mo_init.2.1 97 = .ok (.newarray .boolean, 2) := by decide +kernel
theorem d_Mo_init_99 : decode M_Mo_init.2.1 99 = .ok (.putfield 44, 3) := by decide +kernel
theorem d_Mo_init_102 : decode M_Mo_init.2.1 102 = .ok (.aload_n 0, 1) := by decide +kernel
theorem d_Mo_init_103 : decode M_Mo_init.2.1 103 = .ok (.sipush 12672, 3) := by decide +kernel
theorem d_Mo_init_106 : decode M_Mo_init.2.1 106 = .ok (.newarray .boolean, 2) := by decide +kernel
theorem d_Mo_init_108 : decode M_Mo_init.2.1 108 = .ok (.putfield 47, 3) := by decide +kernel
theorem d_Mo_init_111 : decode M_Mo_init.2.1 111 = .ok (.aload_n 0, 1) := by decide +kernel
theorem d_Mo_init_112 : decode M_Mo_init.2.1 112 = .ok (.sipush 3168, 3) := by decide +kernel
theorem d_Mo_init_115 : decode M_Mo_init.2.1 115 = .ok (.newarray .int, 2) := by decide +kernel
theorem d_Mo_init_117 : decode M_Mo_init.2.1 117 = .ok (.putfield 50, 3) := by decide +kernel
theorem d_Mo_init_120 : decode M_Mo_init.2.1 120 = .ok (.aload_n 0, 1) := by decide +kernel
theorem d_Mo_init_121 : decode M_Mo_init.2.1 121 = .ok (.bipush 24, 2) := by decide +kernel
theorem d_Mo_init_123 : decode M_Mo_init.2.1 123 = .ok (.newarray .int, 2) := by decide +kernel
theorem d_Mo_init_125 : decode M_Mo_init.2.1 125 = .ok (.putfield 53, 3) := by decide +kernel
theorem d_Mo_init_128 : decode M_Mo_init.2.1 128 = .ok (.aload_n 0, 1) := by decide +kernel
theorem d_Mo_init_129 : decode M_Mo_init.2.1 129 = .ok (.bipush 24, 2) := by decide +kernel
theorem d_Mo_init_131 : decode M_Mo_init.2.1 131 = .ok (.newarray .int, 2) := by decide +kernel
theorem d_Mo_init_133 : decode M_Mo_init.2.1 133 = .ok (.putfield 56, 3) := by decide +kernel
theorem d_Mo_init_136 : decode M_Mo_init.2.1 136 = .ok (.aload_n 0, 1) := by decide +kernel
theorem d_Mo_init_137 : decode M_Mo_init.2.1 137 = .ok (.sipush 252, 3) := by decide +kernel
theorem d_Mo_init_140 : decode M_Mo_init.2.1 140 = .ok (.newarray .int, 2) := by decide +kernel
theorem d_Mo_init_142 : decode M_Mo_init.2.1 142 = .ok (.putfield 59, 3) := by decide +kernel
theorem d_Mo_init_145 : decode M_Mo_init.2.1 145 = .ok (.aload_n 0, 1) := by decide +kernel
theorem d_Mo_init_146 : decode M_Mo_init.2.1 146 = .ok (.sipush 252, 3) := by decide +kernel
theorem d_Mo_init_149 : decode M_Mo_init.2.1 149 = .ok (.newarray .int, 2) := by decide +kernel
theorem d_Mo_init_151 : decode M_Mo_init.2.1 151 = .ok (.putfield 62, 3) := by decide +kernel
theorem d_Mo_init_154 : decode M_Mo_init.2.1 154 = .ok (.aload_n 0, 1) := by decide +kernel
theorem d_Mo_init_155 : decode M_Mo_init.2.1 155 = .ok (.sipush 20000, 3) := by decide +kernel
theorem d_Mo_init_158 : decode M_Mo_init.2.1 158 = .ok (.newarray .int, 2) := by decide +kernel
theorem d_Mo_init_160 : decode M_Mo_init.2.1 160 = .ok (.putfield 65, 3) := by decide +kernel
theorem d_Mo_init_163 : decode M_Mo_init.2.1 163 = .ok (.aload_n 0, 1) := by decide +kernel
theorem d_Mo_init_164 : decode M_Mo_init.2.1 164 = .ok (.bipush 12, 2) := by decide +kernel
theorem d_Mo_init_166 : decode M_Mo_init.2.1 166 = .ok (.newarray .int, 2) := by decide +kernel
theorem d_Mo_init_168 : decode M_Mo_init.2.1 168 = .ok (.putfield 68, 3) := by decide +kernel
theorem d_Mo_init_171 : decode M_Mo_init.2.1 171 = .ok (.aload_n 0, 1) := by decide +kernel
theorem d_Mo_init_172 : decode M_Mo_init.2.1 172 = .ok (.bipush 12, 2) := by decide +kernel
theorem d_Mo_init_174 : decode M_Mo_init.2.1 174 = .ok (.newarray .int, 2) := by decide +kernel
theorem d_Mo_init_176 : decode M_Mo_init.2.1 176 = .ok (.putfield 71, 3) := by decide +kernel
theorem d_Mo_init_179 : decode M_Mo_init.2.1 179 = .ok (.aload_n 0, 1) := by decide +kernel
theorem d_Mo_init_180 : decode M_Mo_init.2.1 180 = .ok (.bipush 12, 2) := by decide +kernel
theorem d_Mo_init_182 : decode M_Mo_init.2.1 182 = .ok (.newarray .boolean, 2) := by decide +kernel
theorem d_Mo_init_184 : decode M_Mo_init.2.1 184 = .ok (.putfield 74, 3) := by decide +kernel
theorem d_Mo_init_187 : decode M_Mo_init.2.1 187 = .ok (.aload_n 0, 1) := by decide +kernel
theorem d_Mo_init_188 : decode M_Mo_init.2.1 188 = .ok (.bipush 12, 2) := by decide +kernel
theorem d_Mo_init_190 : decode M_Mo_init.2.1 190 = .ok (.newarray .int, 2) := by decide +kernel
theorem d_Mo_init_192 : decode M_Mo_init.2.1 192 = .ok (.putfield 77, 3) := by decide +kernel
theorem d_Mo_init_195 : decode M_Mo_init.2.1 195 = .ok (.aload_n 0, 1) := by decide +kernel
theorem d_Mo_init_196 : decode M_Mo_init.2.1 196 = .ok (.iconst 1, 1) := by decide +kernel
theorem d_Mo_init_197 : decode M_Mo_init.2.1 197 = .ok (.invokevirtual 80, 3) := by decide +kernel
theorem d_Mo_init_200 : decode M_Mo_init.2.1 200 = .ok (.istore_n 1, 1) := by decide +kernel
theorem d_Mo_init_201 : decode M_Mo_init.2.1 201 = .ok (.return_, 1) := by decide +kernel
theorem kc_Course : zCal "PulseNet" 9 M_Course_init 0 := ⟨Or.inr ⟨"PulseNet", (List.mem_append_right _ (List.mem_of_getElem? (i := 22) (by decide +kernel)))⟩, (zTbl_in (List.mem_append_right _ (List.mem_of_getElem? (i := 24) (by decide +kernel))) rfl), (zTbl_in (List.mem_append_right _ (List.mem_of_getElem? (i := 2) (by decide +kernel))) rfl), ⟨by decide, by decide, by decide +kernel⟩, by decide⟩
theorem ki_Course : M_Course_init.1.name = "<init>" ∧ Cond.instanceMethod M_Course_init.1 ∈ zTbl ∧ M_Course_init.2.2.2 = none := ⟨rfl, (zTbl_in (List.mem_append_right _ (List.mem_of_getElem? (i := 23) (by decide +kernel))) rfl), rfl⟩
theorem kc_Net : zCal "PulseNet$Course" 11 M_Net_init 0 := ⟨Or.inr ⟨"PulseNet", (List.mem_append_right _ (List.mem_of_getElem? (i := 28) (by decide +kernel)))⟩, (zTbl_in (List.mem_append_right _ (List.mem_of_getElem? (i := 30) (by decide +kernel))) rfl), (zTbl_in (List.mem_append_right _ (List.mem_of_getElem? (i := 3) (by decide +kernel))) rfl), ⟨by decide, by decide, by decide +kernel⟩, by decide⟩
theorem ki_Net : M_Net_init.1.name = "<init>" ∧ Cond.instanceMethod M_Net_init.1 ∈ zTbl ∧ M_Net_init.2.2.2 = none := ⟨rfl, (zTbl_in (List.mem_append_right _ (List.mem_of_getElem? (i := 29) (by decide +kernel))) rfl), rfl⟩
theorem kc_Frame : zCal "PulseNet$Course" 20 M_Frame_init 0 := ⟨Or.inr ⟨"PulseNet", (List.mem_append_right _ (List.mem_of_getElem? (i := 61) (by decide +kernel)))⟩, (zTbl_in (List.mem_append_right _ (List.mem_of_getElem? (i := 63) (by decide +kernel))) rfl), (zTbl_in (List.mem_append_right _ (List.mem_of_getElem? (i := 4) (by decide +kernel))) rfl), ⟨by decide, by decide, by decide +kernel⟩, by decide⟩
theorem ki_Frame : M_Frame_init.1.name = "<init>" ∧ Cond.instanceMethod M_Frame_init.1 ∈ zTbl ∧ M_Frame_init.2.2.2 = none := ⟨rfl, (zTbl_in (List.mem_append_right _ (List.mem_of_getElem? (i := 62) (by decide +kernel))) rfl), rfl⟩
theorem kc_Play : zCal "PulseNet$Course" 27 M_Play_init 0 := ⟨Or.inr ⟨"PulseNet", (List.mem_append_right _ (List.mem_of_getElem? (i := 103) (by decide +kernel)))⟩, (zTbl_in (List.mem_append_right _ (List.mem_of_getElem? (i := 105) (by decide +kernel))) rfl), (zTbl_in (List.mem_append_right _ (List.mem_of_getElem? (i := 5) (by decide +kernel))) rfl), ⟨by decide, by decide, by decide +kernel⟩, by decide⟩
theorem ki_Play : M_Play_init.1.name = "<init>" ∧ Cond.instanceMethod M_Play_init.1 ∈ zTbl ∧ M_Play_init.2.2.2 = none := ⟨rfl, (zTbl_in (List.mem_append_right _ (List.mem_of_getElem? (i := 104) (by decide +kernel))) rfl), rfl⟩
theorem kc_Pool : zCal "PulseNet$Course" 34 M_Pool_init 0 := ⟨Or.inr ⟨"PulseNet", (List.mem_append_right _ (List.mem_of_getElem? (i := 128) (by decide +kernel)))⟩, (zTbl_in (List.mem_append_right _ (List.mem_of_getElem? (i := 130) (by decide +kernel))) rfl), (zTbl_in (List.mem_append_right _ (List.mem_of_getElem? (i := 6) (by decide +kernel))) rfl), ⟨by decide, by decide, by decide +kernel⟩, by decide⟩
theorem ki_Pool : M_Pool_init.1.name = "<init>" ∧ Cond.instanceMethod M_Pool_init.1 ∈ zTbl ∧ M_Pool_init.2.2.2 = none := ⟨rfl, (zTbl_in (List.mem_append_right _ (List.mem_of_getElem? (i := 129) (by decide +kernel))) rfl), rfl⟩
theorem kc_P : zCal "PulseNetLaw" 9 M_P_init 0 := ⟨Or.inl (zTbl_in (List.mem_append_right _ (List.mem_of_getElem? (i := 14) (by decide +kernel))) rfl), (zTbl_in (List.mem_append_right _ (List.mem_of_getElem? (i := 16) (by decide +kernel))) rfl), (zTbl_in (List.mem_append_right _ (List.mem_of_getElem? (i := 1) (by decide +kernel))) rfl), ⟨by decide, by decide, by decide +kernel⟩, by decide⟩
theorem ki_P : M_P_init.1.name = "<init>" ∧ Cond.instanceMethod M_P_init.1 ∈ zTbl ∧ M_P_init.2.2.2 = none := ⟨rfl, (zTbl_in (List.mem_append_right _ (List.mem_of_getElem? (i := 15) (by decide +kernel))) rfl), rfl⟩
theorem kc_Mo : zCal "PulseNetLaw" 12 M_Mo_init 0 := ⟨Or.inl (zTbl_in (List.mem_append_right _ (List.mem_of_getElem? (i := 526) (by decide +kernel))) rfl), (zTbl_in (List.mem_append_right _ (List.mem_of_getElem? (i := 528) (by decide +kernel))) rfl), (zTbl_in (List.mem_append_right _ (List.mem_of_getElem? (i := 8) (by decide +kernel))) rfl), ⟨by decide, by decide, by decide +kernel⟩, by decide⟩
theorem ki_Mo : M_Mo_init.1.name = "<init>" ∧ Cond.instanceMethod M_Mo_init.1 ∈ zTbl ∧ M_Mo_init.2.2.2 = none := ⟨rfl, (zTbl_in (List.mem_append_right _ (List.mem_of_getElem? (i := 527) (by decide +kernel))) rfl), rfl⟩
theorem kd_Net : ∀ j, j < 5 → defaultValue (ty_Net j) = vp_V [.int 0, .int 0, .null, .null, .null] j := by decide
theorem kd_Frame : ∀ j, j < 9 → defaultValue (ty_Frame j) = vp_V [.int 0, .int 0, .null, .null, .null, .null, .null, .null, .null] j := by decide
theorem kd_Play : ∀ j, j < 5 → defaultValue (ty_Play j) = vp_V [.int 0, .int 0, .null, .null, .null] j := by decide
theorem kd_Pool : ∀ j, j < 6 → defaultValue (ty_Pool j) = vp_V [.int 0, .null, .null, .null, .null, .null] j := by decide
theorem kd_Course : ∀ j, j < 16 → defaultValue (ty_Course j) = vp_V [.null, .null, .null, .null, .int 0, .int 0, .int 0, .int 0, .null, .null, .null, .null, .null, .null, .null, .null] j := by decide
theorem kd_P : ∀ j, j < 2 → defaultValue (ty_P j) = vp_V [.null, .int 0] j := by decide
theorem kd_Mo : ∀ j, j < 35 → defaultValue (ty_Mo j) = vp_V [.int 0, .int 0, .null, .null, .int 0, .int 0, .int 0, .int 0, .int 0, .null, .null, .null, .null, .null, .null, .null, .null, .null, .null, .int 0, .int 0, .null, .null, .null, .null, .null, .null, .int 0, .null, .int 0, .int 0, .null, .null, .null, .null] j := by decide
theorem s_Net_init (G : zG) (h0 : Nat) : kSpec G 1 M_Net_init [.ref h0] [(h0, .inr (2, [.int 0, .int 0, .null, .null, .null]))] 3 168 (fun w => ∃ q1 q2 q3 : Nat, w = [(h0, .inr (2, [.int 0, .int 0, .ref q1, .ref q2, .ref q3])), (q1, .inl (zcA G .int, 12, .inl kZ)), (q2, .inl (zcA G .int, 12, .inl kZ)), (q3, .inl (zcA G .int, 144, .inl kZ))]) := by
  refine kSpec.of (by decide) (Nat.le_of_ble_eq_true rfl) rfl (fun X E => ?_)
  refine k_aload E 0 d_Net_init_0 rfl rfl ?_
  refine k_obj E (zTbl_in (List.mem_append_right _ (List.mem_of_getElem? (i := 31) (by decide +kernel))) rfl) kw_oi kw_oc ⟨(Nat.le_of_ble_eq_true rfl), (Nat.le_of_ble_eq_true rfl)⟩ d_Net_init_1 ?_
  refine k_aload E 0 d_Net_init_4 rfl rfl ?_
  refine k_bipush (v := 12) E d_Net_init_5 (by decide) ?_
  refine k_newa (ty := .int) (N := 12) E rfl (Or.inl rfl) kw_ai (by decide) (by decide) (by decide) (Nat.le_of_ble_eq_true rfl) (Nat.le_of_ble_eq_true rfl) d_Net_init_7 (fun q1 => ?_)
  refine k_putF (q0 := 0) (ci := 2) (j := 2) (ty := .array .int) E rfl in_Net ty_Net_ok nm_Net (zTbl_in (List.mem_append_right _ (List.mem_of_getElem? (i := 38) (by decide +kernel))) rfl) rfl rfl rfl (by decide) (by decide +kernel) rfl rfl rfl (Nat.le_of_ble_eq_true rfl) d_Net_init_9 ?_
  refine k_aload E 0 d_Net_init_12 rfl rfl ?_
  refine k_bipush (v := 12) E d_Net_init_13 (by decide) ?_
  refine k_newa (ty := .int) (N := 12) E rfl (Or.inl rfl) kw_ai (by decide) (by decide) (by decide) (Nat.le_of_ble_eq_true rfl) (Nat.le_of_ble_eq_true rfl) d_Net_init_15 (fun q2 => ?_)
  refine k_putF (q0 := 0) (ci := 2) (j := 3) (ty := .array .int) E rfl in_Net ty_Net_ok nm_Net (zTbl_in (List.mem_append_right _ (List.mem_of_getElem? (i := 41) (by decide +kernel))) rfl) rfl rfl rfl (by decide) (by decide +kernel) rfl rfl rfl (Nat.le_of_ble_eq_true rfl) d_Net_init_17 ?_
  refine k_aload E 0 d_Net_init_20 rfl rfl ?_
  refine k_sipush (v := 144) E d_Net_init_21 (by decide) ?_
  refine k_newa (ty := .int) (N := 144) E rfl (Or.inl rfl) kw_ai (by decide) (by decide) (by decide) (Nat.le_of_ble_eq_true rfl) (Nat.le_of_ble_eq_true rfl) d_Net_init_24 (fun q3 => ?_)
  refine k_putF (q0 := 0) (ci := 2) (j := 4) (ty := .array .int) E rfl in_Net ty_Net_ok nm_Net (zTbl_in (List.mem_append_right _ (List.mem_of_getElem? (i := 45) (by decide +kernel))) rfl) rfl rfl rfl (by decide) (by decide +kernel) rfl rfl rfl (Nat.le_of_ble_eq_true rfl) d_Net_init_26 ?_
  exact k_ret E rfl d_Net_init_29 ⟨q1, q2, q3, rfl⟩
theorem s_Frame_init (G : zG) (h0 : Nat) : kSpec G 1 M_Frame_init [.ref h0] [(h0, .inr (3, [.int 0, .int 0, .null, .null, .null, .null, .null, .null, .null]))] 7 84 (fun w => ∃ q1 q2 q3 q4 q5 q6 q7 : Nat, w = [(h0, .inr (3, [.int 0, .int 0, .ref q1, .ref q2, .ref q3, .ref q4, .ref q5, .ref q6, .ref q7])), (q1, .inl (zcA G .int, 12, .inl kZ)), (q2, .inl (zcA G .int, 12, .inl kZ)), (q3, .inl (zcA G .int, 12, .inl kZ)), (q4, .inl (zcA G .int, 12, .inl kZ)), (q5, .inl (zcA G .int, 12, .inl kZ)), (q6, .inl (zcA G .int, 12, .inl kZ)), (q7, .inl (zcA G .int, 12, .inl kZ))]) := by
  refine kSpec.of (by decide) (Nat.le_of_ble_eq_true rfl) rfl (fun X E => ?_)
  refine k_aload E 0 d_Frame_init_0 rfl rfl ?_
  refine k_obj E (zTbl_in (List.mem_append_right _ (List.mem_of_getElem? (i := 64) (by decide +kernel))) rfl) kw_oi kw_oc ⟨(Nat.le_of_ble_eq_true rfl), (Nat.le_of_ble_eq_true rfl)⟩ d_Frame_init_1 ?_
  refine k_aload E 0 d_Frame_init_4 rfl rfl ?_
  refine k_bipush (v := 12) E d_Frame_init_5 (by decide) ?_
  refine k_newa (ty := .int) (N := 12) E rfl (Or.inl rfl) kw_ai (by decide) (by decide) (by decide) (Nat.le_of_ble_eq_true rfl) (Nat.le_of_ble_eq_true rfl) d_Frame_init_7 (fun q1 => ?_)
  refine k_putF (q0 := 0) (ci := 3) (j := 2) (ty := .array .int) E rfl in_Frame ty_Frame_ok nm_Frame (zTbl_in (List.mem_append_right _ (List.mem_of_getElem? (i := 69) (by decide +kernel))) rfl) rfl rfl rfl (by decide) (by decide +kernel) rfl rfl rfl (Nat.le_of_ble_eq_true rfl) d_Frame_init_9 ?_
  refine k_aload E 0 d_Frame_init_12 rfl rfl ?_
  refine k_bipush (v := 12) E d_Frame_init_13 (by decide) ?_
  refine k_newa (ty := .int) (N := 12) E rfl (Or.inl rfl) kw_ai (by decide) (by decide) (by decide) (Nat.le_of_ble_eq_true rfl) (Nat.le_of_ble_eq_true rfl) d_Frame_init_15 (fun q2 => ?_)
  refine k_putF (q0 := 0) (ci := 3) (j := 3) (ty := .array .int) E rfl in_Frame ty_Frame_ok nm_Frame (zTbl_in (List.mem_append_right _ (List.mem_of_getElem? (i := 72) (by decide +kernel))) rfl) rfl rfl rfl (by decide) (by decide +kernel) rfl rfl rfl (Nat.le_of_ble_eq_true rfl) d_Frame_init_17 ?_
  refine k_aload E 0 d_Frame_init_20 rfl rfl ?_
  refine k_bipush (v := 12) E d_Frame_init_21 (by decide) ?_
  refine k_newa (ty := .int) (N := 12) E rfl (Or.inl rfl) kw_ai (by decide) (by decide) (by decide) (Nat.le_of_ble_eq_true rfl) (Nat.le_of_ble_eq_true rfl) d_Frame_init_23 (fun q3 => ?_)
  refine k_putF (q0 := 0) (ci := 3) (j := 4) (ty := .array .int) E rfl in_Frame ty_Frame_ok nm_Frame (zTbl_in (List.mem_append_right _ (List.mem_of_getElem? (i := 74) (by decide +kernel))) rfl) rfl rfl rfl (by decide) (by decide +kernel) rfl rfl rfl (Nat.le_of_ble_eq_true rfl) d_Frame_init_25 ?_
  refine k_aload E 0 d_Frame_init_28 rfl rfl ?_
  refine k_bipush (v := 12) E d_Frame_init_29 (by decide) ?_
  refine k_newa (ty := .int) (N := 12) E rfl (Or.inl rfl) kw_ai (by decide) (by decide) (by decide) (Nat.le_of_ble_eq_true rfl) (Nat.le_of_ble_eq_true rfl) d_Frame_init_31 (fun q4 => ?_)
  refine k_putF (q0 := 0) (ci := 3) (j := 5) (ty := .array .int) E rfl in_Frame ty_Frame_ok nm_Frame (zTbl_in (List.mem_append_right _ (List.mem_of_getElem? (i := 75) (by decide +kernel))) rfl) rfl rfl rfl (by decide) (by decide +kernel) rfl rfl rfl (Nat.le_of_ble_eq_true rfl) d_Frame_init_33 ?_
  refine k_aload E 0 d_Frame_init_36 rfl rfl ?_
  refine k_bipush (v := 12) E d_Frame_init_37 (by decide) ?_
  refine k_newa (ty := .int) (N := 12) E rfl (Or.inl rfl) kw_ai (by decide) (by decide) (by decide) (Nat.le_of_ble_eq_true rfl) (Nat.le_of_ble_eq_true rfl) d_Frame_init_39 (fun q5 => ?_)
  refine k_putF (q0 := 0) (ci := 3) (j := 6) (ty := .array .int) E rfl in_Frame ty_Frame_ok nm_Frame (zTbl_in (List.mem_append_right _ (List.mem_of_getElem? (i := 77) (by decide +kernel))) rfl) rfl rfl rfl (by decide) (by decide +kernel) rfl rfl rfl (Nat.le_of_ble_eq_true rfl) d_Frame_init_41 ?_
  refine k_aload E 0 d_Frame_init_44 rfl rfl ?_
  refine k_bipush (v := 12) E d_Frame_init_45 (by decide) ?_
  refine k_newa (ty := .int) (N := 12) E rfl (Or.inl rfl) kw_ai (by decide) (by decide) (by decide) (Nat.le_of_ble_eq_true rfl) (Nat.le_of_ble_eq_true rfl) d_Frame_init_47 (fun q6 => ?_)
  refine k_putF (q0 := 0) (ci := 3) (j := 7) (ty := .array .int) E rfl in_Frame ty_Frame_ok nm_Frame (zTbl_in (List.mem_append_right _ (List.mem_of_getElem? (i := 79) (by decide +kernel))) rfl) rfl rfl rfl (by decide) (by decide +kernel) rfl rfl rfl (Nat.le_of_ble_eq_true rfl) d_Frame_init_49 ?_
  refine k_aload E 0 d_Frame_init_52 rfl rfl ?_
  refine k_bipush (v := 12) E d_Frame_init_53 (by decide) ?_
  refine k_newa (ty := .int) (N := 12) E rfl (Or.inl rfl) kw_ai (by decide) (by decide) (by decide) (Nat.le_of_ble_eq_true rfl) (Nat.le_of_ble_eq_true rfl) d_Frame_init_55 (fun q7 => ?_)
  refine k_putF (q0 := 0) (ci := 3) (j := 8) (ty := .array .int) E rfl in_Frame ty_Frame_ok nm_Frame (zTbl_in (List.mem_append_right _ (List.mem_of_getElem? (i := 81) (by decide +kernel))) rfl) rfl rfl rfl (by decide) (by decide +kernel) rfl rfl rfl (Nat.le_of_ble_eq_true rfl) d_Frame_init_57 ?_
  exact k_ret E rfl d_Frame_init_60 ⟨q1, q2, q3, q4, q5, q6, q7, rfl⟩
theorem s_Play_init (G : zG) (h0 : Nat) : kSpec G 1 M_Play_init [.ref h0] [(h0, .inr (4, [.int 0, .int 0, .null, .null, .null]))] 3 312 (fun w => ∃ q1 q2 q3 : Nat, w = [(h0, .inr (4, [.int 0, .int 0, .ref q1, .ref q2, .ref q3])), (q1, .inl (zcA G .int, 12, .inl kZ)), (q2, .inl (zcA G .int, 12, .inl kZ)), (q3, .inl (zcA G .int, 288, .inl kZ))]) := by
  refine kSpec.of (by decide) (Nat.le_of_ble_eq_true rfl) rfl (fun X E => ?_)
  refine k_aload E 0 d_Play_init_0 rfl rfl ?_
  refine k_obj E (zTbl_in (List.mem_append_right _ (List.mem_of_getElem? (i := 106) (by decide +kernel))) rfl) kw_oi kw_oc ⟨(Nat.le_of_ble_eq_true rfl), (Nat.le_of_ble_eq_true rfl)⟩ d_Play_init_1 ?_
  refine k_aload E 0 d_Play_init_4 rfl rfl ?_
  refine k_bipush (v := 12) E d_Play_init_5 (by decide) ?_
  refine k_newa (ty := .int) (N := 12) E rfl (Or.inl rfl) kw_ai (by decide) (by decide) (by decide) (Nat.le_of_ble_eq_true rfl) (Nat.le_of_ble_eq_true rfl) d_Play_init_7 (fun q1 => ?_)
  refine k_putF (q0 := 0) (ci := 4) (j := 2) (ty := .array .int) E rfl in_Play ty_Play_ok nm_Play (zTbl_in (List.mem_append_right _ (List.mem_of_getElem? (i := 109) (by decide +kernel))) rfl) rfl rfl rfl (by decide) (by decide +kernel) rfl rfl rfl (Nat.le_of_ble_eq_true rfl) d_Play_init_9 ?_
  refine k_aload E 0 d_Play_init_12 rfl rfl ?_
  refine k_bipush (v := 12) E d_Play_init_13 (by decide) ?_
  refine k_newa (ty := .int) (N := 12) E rfl (Or.inl rfl) kw_ai (by decide) (by decide) (by decide) (Nat.le_of_ble_eq_true rfl) (Nat.le_of_ble_eq_true rfl) d_Play_init_15 (fun q2 => ?_)
  refine k_putF (q0 := 0) (ci := 4) (j := 3) (ty := .array .int) E rfl in_Play ty_Play_ok nm_Play (zTbl_in (List.mem_append_right _ (List.mem_of_getElem? (i := 112) (by decide +kernel))) rfl) rfl rfl rfl (by decide) (by decide +kernel) rfl rfl rfl (Nat.le_of_ble_eq_true rfl) d_Play_init_17 ?_
  refine k_aload E 0 d_Play_init_20 rfl rfl ?_
  refine k_sipush (v := 288) E d_Play_init_21 (by decide) ?_
  refine k_newa (ty := .int) (N := 288) E rfl (Or.inl rfl) kw_ai (by decide) (by decide) (by decide) (Nat.le_of_ble_eq_true rfl) (Nat.le_of_ble_eq_true rfl) d_Play_init_24 (fun q3 => ?_)
  refine k_putF (q0 := 0) (ci := 4) (j := 4) (ty := .array .int) E rfl in_Play ty_Play_ok nm_Play (zTbl_in (List.mem_append_right _ (List.mem_of_getElem? (i := 114) (by decide +kernel))) rfl) rfl rfl rfl (by decide) (by decide +kernel) rfl rfl rfl (Nat.le_of_ble_eq_true rfl) d_Play_init_26 ?_
  exact k_ret E rfl d_Play_init_29 ⟨q1, q2, q3, rfl⟩
theorem s_Pool_init (G : zG) (h0 : Nat) : kSpec G 1 M_Pool_init [.ref h0] [(h0, .inr (5, [.int 0, .null, .null, .null, .null, .null]))] 5 2640 (fun w => ∃ q1 q2 q3 q4 q5 : Nat, w = [(h0, .inr (5, [.int 0, .ref q1, .ref q2, .ref q3, .ref q4, .ref q5])), (q1, .inl (zcA G .int, 528, .inl kZ)), (q2, .inl (zcA G .int, 528, .inl kZ)), (q3, .inl (zcA G .int, 528, .inl kZ)), (q4, .inl (zcA G .int, 528, .inl kZ)), (q5, .inl (zcA G .int, 528, .inl kZ))]) := by
  refine kSpec.of (by decide) (Nat.le_of_ble_eq_true rfl) rfl (fun X E => ?_)
  refine k_aload E 0 d_Pool_init_0 rfl rfl ?_
  refine k_obj E (zTbl_in (List.mem_append_right _ (List.mem_of_getElem? (i := 131) (by decide +kernel))) rfl) kw_oi kw_oc ⟨(Nat.le_of_ble_eq_true rfl), (Nat.le_of_ble_eq_true rfl)⟩ d_Pool_init_1 ?_
  refine k_aload E 0 d_Pool_init_4 rfl rfl ?_
  refine k_sipush (v := 528) E d_Pool_init_5 (by decide) ?_
  refine k_newa (ty := .int) (N := 528) E rfl (Or.inl rfl) kw_ai (by decide) (by decide) (by decide) (Nat.le_of_ble_eq_true rfl) (Nat.le_of_ble_eq_true rfl) d_Pool_init_8 (fun q1 => ?_)
  refine k_putF (q0 := 0) (ci := 5) (j := 1) (ty := .array .int) E rfl in_Pool ty_Pool_ok nm_Pool (zTbl_in (List.mem_append_right _ (List.mem_of_getElem? (i := 135) (by decide +kernel))) rfl) rfl rfl rfl (by decide) (by decide +kernel) rfl rfl rfl (Nat.le_of_ble_eq_true rfl) d_Pool_init_10 ?_
  refine k_aload E 0 d_Pool_init_13 rfl rfl ?_
  refine k_sipush (v := 528) E d_Pool_init_14 (by decide) ?_
  refine k_newa (ty := .int) (N := 528) E rfl (Or.inl rfl) kw_ai (by decide) (by decide) (by decide) (Nat.le_of_ble_eq_true rfl) (Nat.le_of_ble_eq_true rfl) d_Pool_init_17 (fun q2 => ?_)
  refine k_putF (q0 := 0) (ci := 5) (j := 2) (ty := .array .int) E rfl in_Pool ty_Pool_ok nm_Pool (zTbl_in (List.mem_append_right _ (List.mem_of_getElem? (i := 138) (by decide +kernel))) rfl) rfl rfl rfl (by decide) (by decide +kernel) rfl rfl rfl (Nat.le_of_ble_eq_true rfl) d_Pool_init_19 ?_
  refine k_aload E 0 d_Pool_init_22 rfl rfl ?_
  refine k_sipush (v := 528) E d_Pool_init_23 (by decide) ?_
  refine k_newa (ty := .int) (N := 528) E rfl (Or.inl rfl) kw_ai (by decide) (by decide) (by decide) (Nat.le_of_ble_eq_true rfl) (Nat.le_of_ble_eq_true rfl) d_Pool_init_26 (fun q3 => ?_)
  refine k_putF (q0 := 0) (ci := 5) (j := 3) (ty := .array .int) E rfl in_Pool ty_Pool_ok nm_Pool (zTbl_in (List.mem_append_right _ (List.mem_of_getElem? (i := 141) (by decide +kernel))) rfl) rfl rfl rfl (by decide) (by decide +kernel) rfl rfl rfl (Nat.le_of_ble_eq_true rfl) d_Pool_init_28 ?_
  refine k_aload E 0 d_Pool_init_31 rfl rfl ?_
  refine k_sipush (v := 528) E d_Pool_init_32 (by decide) ?_
  refine k_newa (ty := .int) (N := 528) E rfl (Or.inl rfl) kw_ai (by decide) (by decide) (by decide) (Nat.le_of_ble_eq_true rfl) (Nat.le_of_ble_eq_true rfl) d_Pool_init_35 (fun q4 => ?_)
  refine k_putF (q0 := 0) (ci := 5) (j := 4) (ty := .array .int) E rfl in_Pool ty_Pool_ok nm_Pool (zTbl_in (List.mem_append_right _ (List.mem_of_getElem? (i := 144) (by decide +kernel))) rfl) rfl rfl rfl (by decide) (by decide +kernel) rfl rfl rfl (Nat.le_of_ble_eq_true rfl) d_Pool_init_37 ?_
  refine k_aload E 0 d_Pool_init_40 rfl rfl ?_
  refine k_sipush (v := 528) E d_Pool_init_41 (by decide) ?_
  refine k_newa (ty := .int) (N := 528) E rfl (Or.inl rfl) kw_ai (by decide) (by decide) (by decide) (Nat.le_of_ble_eq_true rfl) (Nat.le_of_ble_eq_true rfl) d_Pool_init_44 (fun q5 => ?_)
  refine k_putF (q0 := 0) (ci := 5) (j := 5) (ty := .array .int) E rfl in_Pool ty_Pool_ok nm_Pool (zTbl_in (List.mem_append_right _ (List.mem_of_getElem? (i := 147) (by decide +kernel))) rfl) rfl rfl rfl (by decide) (by decide +kernel) rfl rfl rfl (Nat.le_of_ble_eq_true rfl) d_Pool_init_46 ?_
  exact k_ret E rfl d_Pool_init_49 ⟨q1, q2, q3, q4, q5, rfl⟩
theorem s_Course_init (G : zG) (h0 : Nat) : kSpec G 2 M_Course_init [.ref h0] [(h0, .inr (1, [.null, .null, .null, .null, .int 0, .int 0, .int 0, .int 0, .null, .null, .null, .null, .null, .null, .null, .null]))] 30 3817 (fun w => ∃ q1 q2 q3 q4 q5 q6 q7 q8 q9 q10 q11 q12 q13 q14 q15 q16 q17 q18 q19 q20 q21 q22 q23 q24 q25 q26 q27 q28 q29 q30 : Nat, w = [(h0, .inr (1, [.ref q1, .ref q5, .ref q13, .ref q17, .int 0, .int 0, .int 0, .int 0, .ref q23, .ref q24, .ref q25, .ref q26, .ref q27, .ref q28, .ref q29, .ref q30])), (q1, .inr (2, [.int 0, .int 0, .ref q2, .ref q3, .ref q4])), (q2, .inl (zcA G .int, 12, .inl kZ)), (q3, .inl (zcA G .int, 12, .inl kZ)), (q4, .inl (zcA G .int, 144, .inl kZ)), (q5, .inr (3, [.int 0, .int 0, .ref q6, .ref q7, .ref q8, .ref q9, .ref q10, .ref q11, .ref q12])), (q6, .inl (zcA G .int, 12, .inl kZ)), (q7, .inl (zcA G .int, 12, .inl kZ)), (q8, .inl (zcA G .int, 12, .inl kZ)), (q9, .inl (zcA G .int, 12, .inl kZ)), (q10, .inl (zcA G .int, 12, .inl kZ)), (q11, .inl (zcA G .int, 12, .inl kZ)), (q12, .inl (zcA G .int, 12, .inl kZ)), (q13, .inr (4, [.int 0, .int 0, .ref q14, .ref q15, .ref q16])), (q14, .inl (zcA G .int, 12, .inl kZ)), (q15, .inl (zcA G .int, 12, .inl kZ)), (q16, .inl (zcA G .int, 288, .inl kZ)), (q17, .inr (5, [.int 0, .ref q18, .ref q19, .ref q20, .ref q21, .ref q22])), (q18, .inl (zcA G .int, 528, .inl kZ)), (q19, .inl (zcA G .int, 528, .inl kZ)), (q20, .inl (zcA G .int, 528, .inl kZ)), (q21, .inl (zcA G .int, 528, .inl kZ)), (q22, .inl (zcA G .int, 528, .inl kZ)), (q23, .inl (zcA G .int, 12, .inl kZ)), (q24, .inl (zcA G .int, 12, .inl kZ)), (q25, .inl (zcA G .int, 12, .inl kZ)), (q26, .inl (zcA G .int, 12, .inl kZ)), (q27, .inl (zcA G .int, 12, .inl kZ)), (q28, .inl (zcA G .int, 24, .inl kZ)), (q29, .inl (zcA G .int, 252, .inl kZ)), (q30, .inl (zcA G .int, 252, .inl kZ))]) := by
  refine kSpec.of (by decide) (Nat.le_of_ble_eq_true rfl) rfl (fun X E => ?_)
  refine k_aload E 0 d_Course_init_0 rfl rfl ?_
  refine k_obj E (zTbl_in (List.mem_append_right _ (List.mem_of_getElem? (i := 25) (by decide +kernel))) rfl) kw_oi kw_oc ⟨(Nat.le_of_ble_eq_true rfl), (Nat.le_of_ble_eq_true rfl)⟩ d_Course_init_1 ?_
  refine k_aload E 0 d_Course_init_4 rfl rfl ?_
  refine k_new (ci := 2) (fs := [.int 0, .int 0, .null, .null, .null]) E rfl in_Net ty_Net_ok (zTbl_in (List.mem_append_right _ (List.mem_of_getElem? (i := 26) (by decide +kernel))) rfl) (zTbl_in (List.mem_append_right _ (List.mem_of_getElem? (i := 27) (by decide +kernel))) rfl) (zTbl_in (List.mem_append_right _ (List.mem_of_getElem? (i := 3) (by decide +kernel))) rfl) kd_Net (Nat.le_of_ble_eq_true rfl) (Nat.le_of_ble_eq_true rfl) d_Course_init_5 (fun q1 => ?_)
  refine k_dup E d_Course_init_8 rfl ?_
  refine k_callI (wr := [(h0, .inr (1, [.null, .null, .null, .null, .int 0, .int 0, .int 0, .int 0, .null, .null, .null, .null, .null, .null, .null, .null]))]) E (s_Net_init G q1) kc_Net ki_Net ⟨(Nat.le_of_ble_eq_true rfl), (Nat.le_of_ble_eq_true rfl), (Nat.le_of_ble_eq_true rfl), (Nat.le_of_ble_eq_true rfl)⟩ [1] [0] rfl rfl rfl rfl (by decide) (Nat.le_of_ble_eq_true rfl) d_Course_init_9 (fun w1 e1 => ?_)
  obtain ⟨q2, q3, q4, rfl⟩ := e1
  refine k_putF (q0 := 0) (ci := 1) (j := 0) (ty := .object "PulseNet$Net") E rfl in_Course ty_Course_ok nm_Course (zTbl_in (List.mem_append_right _ (List.mem_of_getElem? (i := 163) (by decide +kernel))) rfl) rfl rfl rfl (by decide) (by decide +kernel) rfl rfl rfl (Nat.le_of_ble_eq_true rfl) d_Course_init_12 ?_
  refine k_aload E 0 d_Course_init_15 rfl rfl ?_
  refine k_new (ci := 3) (fs := [.int 0, .int 0, .null, .null, .null, .null, .null, .null, .null]) E rfl in_Frame ty_Frame_ok (zTbl_in (List.mem_append_right _ (List.mem_of_getElem? (i := 59) (by decide +kernel))) rfl) (zTbl_in (List.mem_append_right _ (List.mem_of_getElem? (i := 60) (by decide +kernel))) rfl) (zTbl_in (List.mem_append_right _ (List.mem_of_getElem? (i := 4) (by decide +kernel))) rfl) kd_Frame (Nat.le_of_ble_eq_true rfl) (Nat.le_of_ble_eq_true rfl) d_Course_init_16 (fun q5 => ?_)
  refine k_dup E d_Course_init_19 rfl ?_
  refine k_callI (wr := [(h0, .inr (1, [.ref q1, .null, .null, .null, .int 0, .int 0, .int 0, .int 0, .null, .null, .null, .null, .null, .null, .null, .null])), (q1, .inr (2, [.int 0, .int 0, .ref q2, .ref q3, .ref q4])), (q2, .inl (zcA G .int, 12, .inl kZ)), (q3, .inl (zcA G .int, 12, .inl kZ)), (q4, .inl (zcA G .int, 144, .inl kZ))]) E (s_Frame_init G q5) kc_Frame ki_Frame ⟨(Nat.le_of_ble_eq_true rfl), (Nat.le_of_ble_eq_true rfl), (Nat.le_of_ble_eq_true rfl), (Nat.le_of_ble_eq_true rfl)⟩ [5] [0, 1, 2, 3, 4] rfl rfl rfl rfl (by decide) (Nat.le_of_ble_eq_true rfl) d_Course_init_20 (fun w1 e1 => ?_)
  obtain ⟨q6, q7, q8, q9, q10, q11, q12, rfl⟩ := e1
  refine k_putF (q0 := 0) (ci := 1) (j := 1) (ty := .object "PulseNet$Frame") E rfl in_Course ty_Course_ok nm_Course (zTbl_in (List.mem_append_right _ (List.mem_of_getElem? (i := 165) (by decide +kernel))) rfl) rfl rfl rfl (by decide) (by decide +kernel) rfl rfl rfl (Nat.le_of_ble_eq_true rfl) d_Course_init_23 ?_
  refine k_aload E 0 d_Course_init_26 rfl rfl ?_
  refine k_new (ci := 4) (fs := [.int 0, .int 0, .null, .null, .null]) E rfl in_Play ty_Play_ok (zTbl_in (List.mem_append_right _ (List.mem_of_getElem? (i := 101) (by decide +kernel))) rfl) (zTbl_in (List.mem_append_right _ (List.mem_of_getElem? (i := 102) (by decide +kernel))) rfl) (zTbl_in (List.mem_append_right _ (List.mem_of_getElem? (i := 5) (by decide +kernel))) rfl) kd_Play (Nat.le_of_ble_eq_true rfl) (Nat.le_of_ble_eq_true rfl) d_Course_init_27 (fun q13 => ?_)
  refine k_dup E d_Course_init_30 rfl ?_
  refine k_callI (wr := [(h0, .inr (1, [.ref q1, .ref q5, .null, .null, .int 0, .int 0, .int 0, .int 0, .null, .null, .null, .null, .null, .null, .null, .null])), (q1, .inr (2, [.int 0, .int 0, .ref q2, .ref q3, .ref q4])), (q2, .inl (zcA G .int, 12, .inl kZ)), (q3, .inl (zcA G .int, 12, .inl kZ)), (q4, .inl (zcA G .int, 144, .inl kZ)), (q5, .inr (3, [.int 0, .int 0, .ref q6, .ref q7, .ref q8, .ref q9, .ref q10, .ref q11, .ref q12])), (q6, .inl (zcA G .int, 12, .inl kZ)), (q7, .inl (zcA G .int, 12, .inl kZ)), (q8, .inl (zcA G .int, 12, .inl kZ)), (q9, .inl (zcA G .int, 12, .inl kZ)), (q10, .inl (zcA G .int, 12, .inl kZ)), (q11, .inl (zcA G .int, 12, .inl kZ)), (q12, .inl (zcA G .int, 12, .inl kZ))]) E (s_Play_init G q13) kc_Play ki_Play ⟨(Nat.le_of_ble_eq_true rfl), (Nat.le_of_ble_eq_true rfl), (Nat.le_of_ble_eq_true rfl), (Nat.le_of_ble_eq_true rfl)⟩ [13] [0, 1, 2, 3, 4, 5, 6, 7, 8, 9, 10, 11, 12] rfl rfl rfl rfl (by decide) (Nat.le_of_ble_eq_true rfl) d_Course_init_31 (fun w1 e1 => ?_)
  obtain ⟨q14, q15, q16, rfl⟩ := e1
  refine k_putF (q0 := 0) (ci := 1) (j := 2) (ty := .object "PulseNet$Play") E rfl in_Course ty_Course_ok nm_Course (zTbl_in (List.mem_append_right _ (List.mem_of_getElem? (i := 167) (by decide +kernel))) rfl) rfl rfl rfl (by decide) (by decide +kernel) rfl rfl rfl (Nat.le_of_ble_eq_true rfl) d_Course_init_34 ?_
  refine k_aload E 0 d_Course_init_37 rfl rfl ?_
  refine k_new (ci := 5) (fs := [.int 0, .null, .null, .null, .null, .null]) E rfl in_Pool ty_Pool_ok (zTbl_in (List.mem_append_right _ (List.mem_of_getElem? (i := 126) (by decide +kernel))) rfl) (zTbl_in (List.mem_append_right _ (List.mem_of_getElem? (i := 127) (by decide +kernel))) rfl) (zTbl_in (List.mem_append_right _ (List.mem_of_getElem? (i := 6) (by decide +kernel))) rfl) kd_Pool (Nat.le_of_ble_eq_true rfl) (Nat.le_of_ble_eq_true rfl) d_Course_init_38 (fun q17 => ?_)
  refine k_dup E d_Course_init_41 rfl ?_
  refine k_callI (wr := [(h0, .inr (1, [.ref q1, .ref q5, .ref q13, .null, .int 0, .int 0, .int 0, .int 0, .null, .null, .null, .null, .null, .null, .null, .null])), (q1, .inr (2, [.int 0, .int 0, .ref q2, .ref q3, .ref q4])), (q2, .inl (zcA G .int, 12, .inl kZ)), (q3, .inl (zcA G .int, 12, .inl kZ)), (q4, .inl (zcA G .int, 144, .inl kZ)), (q5, .inr (3, [.int 0, .int 0, .ref q6, .ref q7, .ref q8, .ref q9, .ref q10, .ref q11, .ref q12])), (q6, .inl (zcA G .int, 12, .inl kZ)), (q7, .inl (zcA G .int, 12, .inl kZ)), (q8, .inl (zcA G .int, 12, .inl kZ)), (q9, .inl (zcA G .int, 12, .inl kZ)), (q10, .inl (zcA G .int, 12, .inl kZ)), (q11, .inl (zcA G .int, 12, .inl kZ)), (q12, .inl (zcA G .int, 12, .inl kZ)), (q13, .inr (4, [.int 0, .int 0, .ref q14, .ref q15, .ref q16])), (q14, .inl (zcA G .int, 12, .inl kZ)), (q15, .inl (zcA G .int, 12, .inl kZ)), (q16, .inl (zcA G .int, 288, .inl kZ))]) E (s_Pool_init G q17) kc_Pool ki_Pool ⟨(Nat.le_of_ble_eq_true rfl), (Nat.le_of_ble_eq_true rfl), (Nat.le_of_ble_eq_true rfl), (Nat.le_of_ble_eq_true rfl)⟩ [17] [0, 1, 2, 3, 4, 5, 6, 7, 8, 9, 10, 11, 12, 13, 14, 15, 16] rfl rfl rfl rfl (by decide) (Nat.le_of_ble_eq_true rfl) d_Course_init_42 (fun w1 e1 => ?_)
  obtain ⟨q18, q19, q20, q21, q22, rfl⟩ := e1
  refine k_putF (q0 := 0) (ci := 1) (j := 3) (ty := .object "PulseNet$Pool") E rfl in_Course ty_Course_ok nm_Course (zTbl_in (List.mem_append_right _ (List.mem_of_getElem? (i := 169) (by decide +kernel))) rfl) rfl rfl rfl (by decide) (by decide +kernel) rfl rfl rfl (Nat.le_of_ble_eq_true rfl) d_Course_init_45 ?_
  refine k_aload E 0 d_Course_init_48 rfl rfl ?_
  refine k_bipush (v := 12) E d_Course_init_49 (by decide) ?_
  refine k_newa (ty := .int) (N := 12) E rfl (Or.inl rfl) kw_ai (by decide) (by decide) (by decide) (Nat.le_of_ble_eq_true rfl) (Nat.le_of_ble_eq_true rfl) d_Course_init_51 (fun q23 => ?_)
  refine k_putF (q0 := 0) (ci := 1) (j := 8) (ty := .array .int) E rfl in_Course ty_Course_ok nm_Course (zTbl_in (List.mem_append_right _ (List.mem_of_getElem? (i := 178) (by decide +kernel))) rfl) rfl rfl rfl (by decide) (by decide +kernel) rfl rfl rfl (Nat.le_of_ble_eq_true rfl) d_Course_init_53 ?_
  refine k_aload E 0 d_Course_init_56 rfl rfl ?_
  refine k_bipush (v := 12) E d_Course_init_57 (by decide) ?_
  refine k_newa (ty := .int) (N := 12) E rfl (Or.inl rfl) kw_ai (by decide) (by decide) (by decide) (Nat.le_of_ble_eq_true rfl) (Nat.le_of_ble_eq_true rfl) d_Course_init_59 (fun q24 => ?_)
  refine k_putF (q0 := 0) (ci := 1) (j := 9) (ty := .array .int) E rfl in_Course ty_Course_ok nm_Course (zTbl_in (List.mem_append_right _ (List.mem_of_getElem? (i := 180) (by decide +kernel))) rfl) rfl rfl rfl (by decide) (by decide +kernel) rfl rfl rfl (Nat.le_of_ble_eq_true rfl) d_Course_init_61 ?_
  refine k_aload E 0 d_Course_init_64 rfl rfl ?_
  refine k_bipush (v := 12) E d_Course_init_65 (by decide) ?_
  refine k_newa (ty := .int) (N := 12) E rfl (Or.inl rfl) kw_ai (by decide) (by decide) (by decide) (Nat.le_of_ble_eq_true rfl) (Nat.le_of_ble_eq_true rfl) d_Course_init_67 (fun q25 => ?_)
  refine k_putF (q0 := 0) (ci := 1) (j := 10) (ty := .array .int) E rfl in_Course ty_Course_ok nm_Course (zTbl_in (List.mem_append_right _ (List.mem_of_getElem? (i := 181) (by decide +kernel))) rfl) rfl rfl rfl (by decide) (by decide +kernel) rfl rfl rfl (Nat.le_of_ble_eq_true rfl) d_Course_init_69 ?_
  refine k_aload E 0 d_Course_init_72 rfl rfl ?_
  refine k_bipush (v := 12) E d_Course_init_73 (by decide) ?_
  refine k_newa (ty := .int) (N := 12) E rfl (Or.inl rfl) kw_ai (by decide) (by decide) (by decide) (Nat.le_of_ble_eq_true rfl) (Nat.le_of_ble_eq_true rfl) d_Course_init_75 (fun q26 => ?_)
  refine k_putF (q0 := 0) (ci := 1) (j := 11) (ty := .array .int) E rfl in_Course ty_Course_ok nm_Course (zTbl_in (List.mem_append_right _ (List.mem_of_getElem? (i := 183) (by decide +kernel))) rfl) rfl rfl rfl (by decide) (by decide +kernel) rfl rfl rfl (Nat.le_of_ble_eq_true rfl) d_Course_init_77 ?_
  refine k_aload E 0 d_Course_init_80 rfl rfl ?_
  refine k_bipush (v := 12) E d_Course_init_81 (by decide) ?_
  refine k_newa (ty := .int) (N := 12) E rfl (Or.inl rfl) kw_ai (by decide) (by decide) (by decide) (Nat.le_of_ble_eq_true rfl) (Nat.le_of_ble_eq_true rfl) d_Course_init_83 (fun q27 => ?_)
  refine k_putF (q0 := 0) (ci := 1) (j := 12) (ty := .array .int) E rfl in_Course ty_Course_ok nm_Course (zTbl_in (List.mem_append_right _ (List.mem_of_getElem? (i := 184) (by decide +kernel))) rfl) rfl rfl rfl (by decide) (by decide +kernel) rfl rfl rfl (Nat.le_of_ble_eq_true rfl) d_Course_init_85 ?_
  refine k_aload E 0 d_Course_init_88 rfl rfl ?_
  refine k_bipush (v := 24) E d_Course_init_89 (by decide) ?_
  refine k_newa (ty := .int) (N := 24) E rfl (Or.inl rfl) kw_ai (by decide) (by decide) (by decide) (Nat.le_of_ble_eq_true rfl) (Nat.le_of_ble_eq_true rfl) d_Course_init_91 (fun q28 => ?_)
  refine k_putF (q0 := 0) (ci := 1) (j := 13) (ty := .array .int) E rfl in_Course ty_Course_ok nm_Course (zTbl_in (List.mem_append_right _ (List.mem_of_getElem? (i := 185) (by decide +kernel))) rfl) rfl rfl rfl (by decide) (by decide +kernel) rfl rfl rfl (Nat.le_of_ble_eq_true rfl) d_Course_init_93 ?_
  refine k_aload E 0 d_Course_init_96 rfl rfl ?_
  refine k_sipush (v := 252) E d_Course_init_97 (by decide) ?_
  refine k_newa (ty := .int) (N := 252) E rfl (Or.inl rfl) kw_ai (by decide) (by decide) (by decide) (Nat.le_of_ble_eq_true rfl) (Nat.le_of_ble_eq_true rfl) d_Course_init_100 (fun q29 => ?_)
  refine k_putF (q0 := 0) (ci := 1) (j := 14) (ty := .array .int) E rfl in_Course ty_Course_ok nm_Course (zTbl_in (List.mem_append_right _ (List.mem_of_getElem? (i := 186) (by decide +kernel))) rfl) rfl rfl rfl (by decide) (by decide +kernel) rfl rfl rfl (Nat.le_of_ble_eq_true rfl) d_Course_init_102 ?_
  refine k_aload E 0 d_Course_init_105 rfl rfl ?_
  refine k_sipush (v := 252) E d_Course_init_106 (by decide) ?_
  refine k_newa (ty := .int) (N := 252) E rfl (Or.inl rfl) kw_ai (by decide) (by decide) (by decide) (Nat.le_of_ble_eq_true rfl) (Nat.le_of_ble_eq_true rfl) d_Course_init_109 (fun q30 => ?_)
  refine k_putF (q0 := 0) (ci := 1) (j := 15) (ty := .array .int) E rfl in_Course ty_Course_ok nm_Course (zTbl_in (List.mem_append_right _ (List.mem_of_getElem? (i := 188) (by decide +kernel))) rfl) rfl rfl rfl (by decide) (by decide +kernel) rfl rfl rfl (Nat.le_of_ble_eq_true rfl) d_Course_init_111 ?_
  exact k_ret E rfl d_Course_init_114 ⟨q1, q2, q3, q4, q5, q6, q7, q8, q9, q10, q11, q12, q13, q14, q15, q16, q17, q18, q19, q20, q21, q22, q23, q24, q25, q26, q27, q28, q29, q30, rfl⟩
