set_option maxRecDepth 20000 in
set_option maxHeartbeats 4000000 in
theorem b_JArrays_fill_0 {G : zG} {X : zX} {post : Option Value → zSt → Prop} (E : zCtx G M_JArrays_fill (zKm G 0 X post) X) (v1 : Int32) (ck n : Nat) (hck : zS[ck]? = some (.inl (.int, n))) (σ : zSt)
    (h : zZ G M_JArrays_fill 0 X post 5 [(0, zf G ck), (1, .int v1), (2, .int (0 : Int32)), (3, .int (nI n))] [] σ) :
    zZ G M_JArrays_fill 0 X post 0 [(0, zf G ck), (1, .int v1)] [] σ := by
  refine z_iconst E (v := 0) d_JArrays_fill_0 (by decide) ?_
  refine z_istore_n E [1, 2, 0] (lv' := [(0, zf G ck), (1, .int v1), (2, .int (0 : Int32))]) d_JArrays_fill_1 rfl (by decide) rfl ?_
  refine z_aload_n E 0 d_JArrays_fill_2 rfl rfl ?_
  refine z_alen E hck (v := nI n) rfl d_JArrays_fill_3 ?_
  refine z_istore_n E [1, 2, 3, 0] (lv' := [(0, zf G ck), (1, .int v1), (2, .int (0 : Int32)), (3, .int (nI n))]) d_JArrays_fill_4 rfl (by decide) rfl ?_
  exact h

set_option maxRecDepth 20000 in
set_option maxHeartbeats 4000000 in
theorem b_JArrays_fill_5 {G : zG} {X : zX} {post : Option Value → zSt → Prop} (E : zCtx G M_JArrays_fill (zKm G 0 X post) X) (v1 : Int32) (v2 : Int32) (v3 : Int32) (ck n : Nat) (hck : zS[ck]? = some (.inl (.int, n))) (σ : zSt)
    (h : ((v3 ≤ v2 → post none σ) ∧ (¬ v3 ≤ v2 → (vp_in v2 n ∧ ∀ σ1 : zSt, σ1 = zup σ ck v2.toNatClampNeg v1 → zZ G M_JArrays_fill 0 X post 5 [(0, zf G ck), (1, .int v1), (2, .int (v2 + 1)), (3, .int v3)] [] σ1)))) :
    zZ G M_JArrays_fill 0 X post 5 [(0, zf G ck), (1, .int v1), (2, .int v2), (3, .int v3)] [] σ := by
  refine z_iload_n E 2 d_JArrays_fill_5 rfl rfl ?_
  refine z_iload_n E 3 d_JArrays_fill_6 rfl rfl ?_
  refine z_icmp_ge E d_JArrays_fill_7 (tgt := 20) (by decide) ⟨fun q => ?_, fun q => ?_⟩
  · replace h := h.1 q
    exact z_return E rfl d_JArrays_fill_20 h
  · replace h := h.2 q
    refine z_aload_n E 0 d_JArrays_fill_10 rfl rfl ?_
    refine z_iload_n E 2 d_JArrays_fill_11 rfl rfl ?_
    refine z_iload_n E 1 d_JArrays_fill_12 rfl rfl ?_
    obtain ⟨h0, h⟩ := h
    refine z_iast E hck d_JArrays_fill_13 ⟨h0, fun σ1 e => ?_⟩
    replace h := h σ1 e
    refine z_iinc E 2 [1, 2, 0, 3] (v := v2 + 1) (lv' := [(0, zf G ck), (1, .int v1), (2, .int (v2 + 1)), (3, .int v3)]) d_JArrays_fill_14 rfl rfl (by decide) rfl ?_
    refine z_goto E d_JArrays_fill_17 (tgt := 5) (by decide) ?_
    exact h

set_option maxRecDepth 20000 in
set_option maxHeartbeats 4000000 in
theorem b_Course_open_0 {G : zG} {X : zX} {post : Option Value → zSt → Prop} (E : zCtx G M_Course_open (zKm G 6 X post) X) (v1 : Int32) (v2 : Int32) (v3 : Int32) (v4 : Int32) (σ : zSt)
    (h : (∀ σ1 : zSt, σ1 = zup σ 1 4 v2 → (∀ σ2 : zSt, σ2 = zup σ1 1 5 v4 → (∃ P : zSt → Prop, zV G 1 M_Play_reset [zf G 4, zf G 2, .int v1, .int v3] σ2 P ∧ ∀ σ3 : zSt, P σ3 → (∃ P : zSt → Prop, zV G 4 M_Course_goInStep [zf G 1] σ3 P ∧ ∀ σ4 : zSt, P σ4 → (∃ P : zSt → Prop, zV G 1 M_Play_reset [zf G 4, zf G 2, .int v1, .int v3] σ4 P ∧ ∀ σ5 : zSt, P σ5 → (∃ P : zSt → Prop, zV G 1 M_Course_clear [zf G 1] σ5 P ∧ ∀ σ6 : zSt, P σ6 → zZ G M_Course_open 6 X post 48 [(0, zf G 1), (5, .int (0 : Int32))] [] σ6))))))) :
    zZ G M_Course_open 6 X post 0 [(0, zf G 1), (1, .int v1), (2, .int v2), (3, .int v3), (4, .int v4)] [] σ := by
  refine z_aload_n E 0 d_Course_open_0 rfl rfl ?_
  refine z_iload_n E 2 d_Course_open_1 rfl rfl ?_
  refine z_putI E w_Course_64 d_Course_open_2 (fun σ1 e => ?_)
  replace h := h σ1 e
  refine z_aload_n E 0 d_Course_open_5 rfl rfl ?_
  refine z_iload E 4 d_Course_open_6 rfl ?_
  refine z_putI E w_Course_68 d_Course_open_8 (fun σ2 e => ?_)
  replace h := h σ2 e
  refine z_aload_n E 0 d_Course_open_11 rfl rfl ?_
  refine z_getR E f_Course_28 d_Course_open_12 ?_
  refine z_aload_n E 0 d_Course_open_15 rfl rfl ?_
  refine z_getR E f_Course_12 d_Course_open_16 ?_
  refine z_iload_n E 1 d_Course_open_19 rfl rfl ?_
  refine z_iload_n E 3 d_Course_open_20 rfl rfl ?_
  obtain ⟨P, hM, h⟩ := h
  refine z_callVV [zf G 2, .int v1, .int v3] [] E hM c_Course_71 r_Play_reset rfl zrm rfl (Nat.le_of_ble_eq_true rfl) d_Course_open_21 (fun σ3 hp => ?_)
  replace h := h σ3 hp
  refine z_aload_n E 0 d_Course_open_24 rfl rfl ?_
  obtain ⟨P, hM, h⟩ := h
  refine z_callVV [] [] E hM c_Course_75 r_Course_goInStep rfl zrm rfl (Nat.le_of_ble_eq_true rfl) d_Course_open_25 (fun σ4 hp => ?_)
  replace h := h σ4 hp
  refine z_aload_n E 0 d_Course_open_28 rfl rfl ?_
  refine z_getR E f_Course_28 d_Course_open_29 ?_
  refine z_aload_n E 0 d_Course_open_32 rfl rfl ?_
  refine z_getR E f_Course_12 d_Course_open_33 ?_
  refine z_iload_n E 1 d_Course_open_36 rfl rfl ?_
  refine z_iload_n E 3 d_Course_open_37 rfl rfl ?_
  obtain ⟨P, hM, h⟩ := h
  refine z_callVV [zf G 2, .int v1, .int v3] [] E hM c_Course_71 r_Play_reset rfl zrm rfl (Nat.le_of_ble_eq_true rfl) d_Course_open_38 (fun σ5 hp => ?_)
  replace h := h σ5 hp
  refine z_aload_n E 0 d_Course_open_41 rfl rfl ?_
  obtain ⟨P, hM, h⟩ := h
  refine z_callVV [] [] E hM c_Course_78 r_Course_clear rfl zrm rfl (Nat.le_of_ble_eq_true rfl) d_Course_open_42 (fun σ6 hp => ?_)
  replace h := h σ6 hp
  refine z_iconst E (v := 0) d_Course_open_45 (by decide) ?_
  refine z_istore E [1, 0] (lv' := [(0, zf G 1), (5, .int (0 : Int32))]) d_Course_open_46 (by decide) rfl ?_
  exact h

set_option maxRecDepth 20000 in
set_option maxHeartbeats 4000000 in
theorem b_Course_open_48 {G : zG} {X : zX} {post : Option Value → zSt → Prop} (E : zCtx G M_Course_open (zKm G 6 X post) X) (v5 : Int32) (σ : zSt)
    (h : (((σ 2 0) ≤ v5 → zZ G M_Course_open 6 X post 90 [(0, zf G 1), (5, .int (0 : Int32))] [] σ) ∧ (¬ (σ 2 0) ≤ v5 → (vp_in v5 12 ∧ (vp_in ((0 : Int32) * 12 + v5) 252 ∧ ∀ σ1 : zSt, σ1 = zup σ 30 ((0 : Int32) * 12 + v5).toNatClampNeg (σ 16 v5.toNatClampNeg) → zZ G M_Course_open 6 X post 48 [(0, zf G 1), (5, .int (v5 + 1))] [] σ1))))) :
    zZ G M_Course_open 6 X post 48 [(0, zf G 1), (5, .int v5)] [] σ := by
  refine z_iload E 1 d_Course_open_48 rfl ?_
  refine z_aload_n E 0 d_Course_open_50 rfl rfl ?_
  refine z_getR E f_Course_12 d_Course_open_51 ?_
  refine z_getI E f_Course_81 d_Course_open_54 ?_
  refine z_icmp_ge E d_Course_open_57 (tgt := 87) (by decide) ⟨fun q => ?_, fun q => ?_⟩
  · replace h := h.1 q
    refine z_iconst E (v := 0) d_Course_open_87 (by decide) ?_
    refine z_istore E [1, 0] (lv' := [(0, zf G 1), (5, .int (0 : Int32))]) d_Course_open_88 (by decide) rfl ?_
    exact h
  · replace h := h.2 q
    refine z_aload_n E 0 d_Course_open_60 rfl rfl ?_
    refine z_getR E f_Course_58 d_Course_open_61 ?_
    refine z_iconst E (v := 0) d_Course_open_64 (by decide) ?_
    refine z_iload E 1 d_Course_open_65 rfl ?_
    refine z_callSIp [.int (0 : Int32), .int v5] [zf G 30] E (p_P_at G σ (0 : Int32) v5) c_Course_84 st_P_at rfl zrm rfl (Nat.le_of_ble_eq_true rfl) d_Course_open_67 ?_
    refine z_aload_n E 0 d_Course_open_70 rfl rfl ?_
    refine z_getR E f_Course_28 d_Course_open_71 ?_
    refine z_getR E f_Course_88 d_Course_open_74 ?_
    refine z_iload E 1 d_Course_open_77 rfl ?_
    obtain ⟨h0, h⟩ := h
    refine z_iald E rfl d_Course_open_79 ⟨h0, ?_⟩
    obtain ⟨h0, h⟩ := h
    refine z_iast E rfl d_Course_open_80 ⟨h0, fun σ1 e => ?_⟩
    replace h := h σ1 e
    refine z_iinc E 1 [1, 0] (v := v5 + 1) (lv' := [(0, zf G 1), (5, .int (v5 + 1))]) d_Course_open_81 rfl rfl (by decide) rfl ?_
    refine z_goto E d_Course_open_84 (tgt := 48) (by decide) ?_
    exact h

set_option maxRecDepth 20000 in
set_option maxHeartbeats 4000000 in
theorem b_Course_open_90 {G : zG} {X : zX} {post : Option Value → zSt → Prop} (E : zCtx G M_Course_open (zKm G 6 X post) X) (v5 : Int32) (σ : zSt)
    (h : (((σ 2 0) ≤ v5 → post none σ) ∧ (¬ (σ 2 0) ≤ v5 → (∃ P : zSt → Prop, zV G 4 M_Course_enterNext [zf G 1, .int v5] σ P ∧ ∀ σ1 : zSt, P σ1 → (∃ P : zSt → Prop, zV G 5 M_Course_push [zf G 1, .int v5] σ1 P ∧ ∀ σ2 : zSt, P σ2 → zZ G M_Course_open 6 X post 90 [(0, zf G 1), (5, .int (v5 + 1))] [] σ2))))) :
    zZ G M_Course_open 6 X post 90 [(0, zf G 1), (5, .int v5)] [] σ := by
  refine z_iload E 1 d_Course_open_90 rfl ?_
  refine z_aload_n E 0 d_Course_open_92 rfl rfl ?_
  refine z_getR E f_Course_12 d_Course_open_93 ?_
  refine z_getI E f_Course_81 d_Course_open_96 ?_
  refine z_icmp_ge E d_Course_open_99 (tgt := 120) (by decide) ⟨fun q => ?_, fun q => ?_⟩
  · replace h := h.1 q
    exact z_return E rfl d_Course_open_120 h
  · replace h := h.2 q
    refine z_aload_n E 0 d_Course_open_102 rfl rfl ?_
    refine z_iload E 1 d_Course_open_103 rfl ?_
    obtain ⟨P, hM, h⟩ := h
    refine z_callVV [.int v5] [] E hM c_Course_91 r_Course_enterNext rfl zrm rfl (Nat.le_of_ble_eq_true rfl) d_Course_open_105 (fun σ1 hp => ?_)
    replace h := h σ1 hp
    refine z_aload_n E 0 d_Course_open_108 rfl rfl ?_
    refine z_iload E 1 d_Course_open_109 rfl ?_
    obtain ⟨P, hM, h⟩ := h
    refine z_callVV [.int v5] [] E hM c_Course_95 r_Course_push rfl zrm rfl (Nat.le_of_ble_eq_true rfl) d_Course_open_111 (fun σ2 hp => ?_)
    replace h := h σ2 hp
    refine z_iinc E 1 [1, 0] (v := v5 + 1) (lv' := [(0, zf G 1), (5, .int (v5 + 1))]) d_Course_open_114 rfl rfl (by decide) rfl ?_
    refine z_goto E d_Course_open_117 (tgt := 90) (by decide) ?_
    exact h

set_option maxRecDepth 20000 in
set_option maxHeartbeats 4000000 in
theorem b_Course_clear_0 {G : zG} {X : zX} {post : Option Value → zSt → Prop} (E : zCtx G M_Course_clear (zKm G 1 X post) X)  (σ : zSt)
    (h : (∀ σ1 : zSt, σ1 = zup σ 5 0 (0 : Int32) → (∀ σ2 : zSt, σ2 = zup σ1 1 6 (0 : Int32) → (∀ σ3 : zSt, σ3 = zup σ2 1 7 (0 : Int32) → (∃ P : zSt → Prop, zV G 0 M_JArrays_fill [zf G 24, .int (0 : Int32)] σ3 P ∧ ∀ σ4 : zSt, P σ4 → (∃ P : zSt → Prop, zV G 0 M_JArrays_fill [zf G 25, .int (0 : Int32)] σ4 P ∧ ∀ σ5 : zSt, P σ5 → (∃ P : zSt → Prop, zV G 0 M_JArrays_fill [zf G 26, .int (0 : Int32)] σ5 P ∧ ∀ σ6 : zSt, P σ6 → (∃ P : zSt → Prop, zV G 0 M_JArrays_fill [zf G 27, .int (0 : Int32)] σ6 P ∧ ∀ σ7 : zSt, P σ7 → (∃ P : zSt → Prop, zV G 0 M_JArrays_fill [zf G 28, .int (0 : Int32)] σ7 P ∧ ∀ σ8 : zSt, P σ8 → (∃ P : zSt → Prop, zV G 0 M_JArrays_fill [zf G 29, .int (0 : Int32)] σ8 P ∧ ∀ σ9 : zSt, P σ9 → post none σ9)))))))))) :
    zZ G M_Course_clear 1 X post 0 [(0, zf G 1)] [] σ := by
  refine z_aload_n E 0 d_Course_clear_0 rfl rfl ?_
  refine z_getR E f_Course_35 d_Course_clear_1 ?_
  refine z_iconst E (v := 0) d_Course_clear_4 (by decide) ?_
  refine z_putI E w_Course_98 d_Course_clear_5 (fun σ1 e => ?_)
  replace h := h σ1 e
  refine z_aload_n E 0 d_Course_clear_8 rfl rfl ?_
  refine z_iconst E (v := 0) d_Course_clear_9 (by decide) ?_
  refine z_putI E w_Course_101 d_Course_clear_10 (fun σ2 e => ?_)
  replace h := h σ2 e
  refine z_aload_n E 0 d_Course_clear_13 rfl rfl ?_
  refine z_iconst E (v := 0) d_Course_clear_14 (by decide) ?_
  refine z_putI E w_Course_104 d_Course_clear_15 (fun σ3 e => ?_)
  replace h := h σ3 e
  refine z_aload_n E 0 d_Course_clear_18 rfl rfl ?_
  refine z_getR E f_Course_39 d_Course_clear_19 ?_
  refine z_iconst E (v := 0) d_Course_clear_22 (by decide) ?_
  obtain ⟨P, hM, h⟩ := h
  refine z_callSV [zf G 24, .int (0 : Int32)] [] E hM c_Course_107 st_JArrays_fill rfl zrm rfl (Nat.le_of_ble_eq_true rfl) d_Course_clear_23 (fun σ4 hp => ?_)
  replace h := h σ4 hp
  refine z_aload_n E 0 d_Course_clear_26 rfl rfl ?_
  refine z_getR E f_Course_43 d_Course_clear_27 ?_
  refine z_iconst E (v := 0) d_Course_clear_30 (by decide) ?_
  obtain ⟨P, hM, h⟩ := h
  refine z_callSV [zf G 25, .int (0 : Int32)] [] E hM c_Course_107 st_JArrays_fill rfl zrm rfl (Nat.le_of_ble_eq_true rfl) d_Course_clear_31 (fun σ5 hp => ?_)
  replace h := h σ5 hp
  refine z_aload_n E 0 d_Course_clear_34 rfl rfl ?_
  refine z_getR E f_Course_46 d_Course_clear_35 ?_
  refine z_iconst E (v := 0) d_Course_clear_38 (by decide) ?_
  obtain ⟨P, hM, h⟩ := h
  refine z_callSV [zf G 26, .int (0 : Int32)] [] E hM c_Course_107 st_JArrays_fill rfl zrm rfl (Nat.le_of_ble_eq_true rfl) d_Course_clear_39 (fun σ6 hp => ?_)
  replace h := h σ6 hp
  refine z_aload_n E 0 d_Course_clear_42 rfl rfl ?_
  refine z_getR E f_Course_49 d_Course_clear_43 ?_
  refine z_iconst E (v := 0) d_Course_clear_46 (by decide) ?_
  obtain ⟨P, hM, h⟩ := h
  refine z_callSV [zf G 27, .int (0 : Int32)] [] E hM c_Course_107 st_JArrays_fill rfl zrm rfl (Nat.le_of_ble_eq_true rfl) d_Course_clear_47 (fun σ7 hp => ?_)
  replace h := h σ7 hp
  refine z_aload_n E 0 d_Course_clear_50 rfl rfl ?_
  refine z_getR E f_Course_52 d_Course_clear_51 ?_
  refine z_iconst E (v := 0) d_Course_clear_54 (by decide) ?_
  obtain ⟨P, hM, h⟩ := h
  refine z_callSV [zf G 28, .int (0 : Int32)] [] E hM c_Course_107 st_JArrays_fill rfl zrm rfl (Nat.le_of_ble_eq_true rfl) d_Course_clear_55 (fun σ8 hp => ?_)
  replace h := h σ8 hp
  refine z_aload_n E 0 d_Course_clear_58 rfl rfl ?_
  refine z_getR E f_Course_55 d_Course_clear_59 ?_
  refine z_iconst E (v := 0) d_Course_clear_62 (by decide) ?_
  obtain ⟨P, hM, h⟩ := h
  refine z_callSV [zf G 29, .int (0 : Int32)] [] E hM c_Course_107 st_JArrays_fill rfl zrm rfl (Nat.le_of_ble_eq_true rfl) d_Course_clear_63 (fun σ9 hp => ?_)
  replace h := h σ9 hp
  exact z_return E rfl d_Course_clear_66 h

set_option maxRecDepth 20000 in
set_option maxHeartbeats 4000000 in
theorem b_Course_goInStep_0 {G : zG} {X : zX} {post : Option Value → zSt → Prop} (E : zCtx G M_Course_goInStep (zKm G 4 X post) X)  (σ : zSt)
    (h : zZ G M_Course_goInStep 4 X post 2 [(0, zf G 1), (1, .int (0 : Int32))] [] σ) :
    zZ G M_Course_goInStep 4 X post 0 [(0, zf G 1)] [] σ := by
  refine z_iconst E (v := 0) d_Course_goInStep_0 (by decide) ?_
  refine z_istore_n E [1, 0] (lv' := [(0, zf G 1), (1, .int (0 : Int32))]) d_Course_goInStep_1 rfl (by decide) rfl ?_
  exact h

set_option maxRecDepth 20000 in
set_option maxHeartbeats 4000000 in
theorem b_Course_goInStep_2 {G : zG} {X : zX} {post : Option Value → zSt → Prop} (E : zCtx G M_Course_goInStep (zKm G 4 X post) X) (v1 : Int32) (σ : zSt)
    (h : (((σ 2 0) ≤ v1 → zZ G M_Course_goInStep 4 X post 40 [(0, zf G 1), (1, .int (1 : Int32))] [] σ) ∧ (¬ (σ 2 0) ≤ v1 → (vp_in v1 12 ∧ (vp_in ((0 : Int32) * 12 + v1) 252 ∧ ∀ σ1 : zSt, σ1 = zup σ 31 ((0 : Int32) * 12 + v1).toNatClampNeg (σ 16 v1.toNatClampNeg) → zZ G M_Course_goInStep 4 X post 2 [(0, zf G 1), (1, .int (v1 + 1))] [] σ1))))) :
    zZ G M_Course_goInStep 4 X post 2 [(0, zf G 1), (1, .int v1)] [] σ := by
  refine z_iload_n E 1 d_Course_goInStep_2 rfl rfl ?_
  refine z_aload_n E 0 d_Course_goInStep_3 rfl rfl ?_
  refine z_getR E f_Course_12 d_Course_goInStep_4 ?_
  refine z_getI E f_Course_81 d_Course_goInStep_7 ?_
  refine z_icmp_ge E d_Course_goInStep_10 (tgt := 38) (by decide) ⟨fun q => ?_, fun q => ?_⟩
  · replace h := h.1 q
    refine z_iconst E (v := 1) d_Course_goInStep_38 (by decide) ?_
    refine z_istore_n E [1, 0] (lv' := [(0, zf G 1), (1, .int (1 : Int32))]) d_Course_goInStep_39 rfl (by decide) rfl ?_
    exact h
  · replace h := h.2 q
    refine z_aload_n E 0 d_Course_goInStep_13 rfl rfl ?_
    refine z_getR E f_Course_61 d_Course_goInStep_14 ?_
    refine z_iconst E (v := 0) d_Course_goInStep_17 (by decide) ?_
    refine z_iload_n E 1 d_Course_goInStep_18 rfl rfl ?_
    refine z_callSIp [.int (0 : Int32), .int v1] [zf G 31] E (p_P_at G σ (0 : Int32) v1) c_Course_84 st_P_at rfl zrm rfl (Nat.le_of_ble_eq_true rfl) d_Course_goInStep_19 ?_
    refine z_aload_n E 0 d_Course_goInStep_22 rfl rfl ?_
    refine z_getR E f_Course_28 d_Course_goInStep_23 ?_
    refine z_getR E f_Course_88 d_Course_goInStep_26 ?_
    refine z_iload_n E 1 d_Course_goInStep_29 rfl rfl ?_
    obtain ⟨h0, h⟩ := h
    refine z_iald E rfl d_Course_goInStep_30 ⟨h0, ?_⟩
    obtain ⟨h0, h⟩ := h
    refine z_iast E rfl d_Course_goInStep_31 ⟨h0, fun σ1 e => ?_⟩
    replace h := h σ1 e
    refine z_iinc E 1 [1, 0] (v := v1 + 1) (lv' := [(0, zf G 1), (1, .int (v1 + 1))]) d_Course_goInStep_32 rfl rfl (by decide) rfl ?_
    refine z_goto E d_Course_goInStep_35 (tgt := 2) (by decide) ?_
    exact h

set_option maxRecDepth 20000 in
set_option maxHeartbeats 4000000 in
theorem b_Course_goInStep_40 {G : zG} {X : zX} {post : Option Value → zSt → Prop} (E : zCtx G M_Course_goInStep (zKm G 4 X post) X) (v1 : Int32) (σ : zSt)
    (h : (((σ 1 5) < v1 → post none σ) ∧ (¬ (σ 1 5) < v1 → zZ G M_Course_goInStep 4 X post 50 [(0, zf G 1), (1, .int v1), (2, .int (0 : Int32))] [] σ))) :
    zZ G M_Course_goInStep 4 X post 40 [(0, zf G 1), (1, .int v1)] [] σ := by
  refine z_iload_n E 1 d_Course_goInStep_40 rfl rfl ?_
  refine z_aload_n E 0 d_Course_goInStep_41 rfl rfl ?_
  refine z_getI E f_Course_68 d_Course_goInStep_42 ?_
  refine z_icmp_gt E d_Course_goInStep_45 (tgt := 111) (by decide) ⟨fun q => ?_, fun q => ?_⟩
  · replace h := h.1 q
    exact z_return E rfl d_Course_goInStep_111 h
  · replace h := h.2 q
    refine z_iconst E (v := 0) d_Course_goInStep_48 (by decide) ?_
    refine z_istore_n E [1, 2, 0] (lv' := [(0, zf G 1), (1, .int v1), (2, .int (0 : Int32))]) d_Course_goInStep_49 rfl (by decide) rfl ?_
    exact h

set_option maxRecDepth 20000 in
set_option maxHeartbeats 4000000 in
theorem b_Course_goInStep_50 {G : zG} {X : zX} {post : Option Value → zSt → Prop} (E : zCtx G M_Course_goInStep (zKm G 4 X post) X) (v1 : Int32) (v2 : Int32) (σ : zSt)
    (h : (((σ 2 0) ≤ v2 → zZ G M_Course_goInStep 4 X post 40 [(0, zf G 1), (1, .int (v1 + 1))] [] σ) ∧ (¬ (σ 2 0) ≤ v2 → (∃ P : Int32 → zSt → Prop, zI G 3 M_Play_doRound [zf G 4, zf G 2, .int v2, .int v1] σ P ∧ ∀ (x2 : Int32) (σ1 : zSt), P x2 σ1 → (∃ P : zSt → Prop, zV G 2 M_Course_handOut [zf G 1, .int v2, .int v1, .int x2] σ1 P ∧ ∀ σ3 : zSt, P σ3 → (vp_in v2 12 ∧ (vp_in (v1 * 12 + v2) 252 ∧ ∀ σ4 : zSt, σ4 = zup σ3 31 (v1 * 12 + v2).toNatClampNeg (σ3 16 v2.toNatClampNeg) → zZ G M_Course_goInStep 4 X post 50 [(0, zf G 1), (1, .int v1), (2, .int (v2 + 1))] [] σ4))))))) :
    zZ G M_Course_goInStep 4 X post 50 [(0, zf G 1), (1, .int v1), (2, .int v2)] [] σ := by
  refine z_iload_n E 2 d_Course_goInStep_50 rfl rfl ?_
  refine z_aload_n E 0 d_Course_goInStep_51 rfl rfl ?_
  refine z_getR E f_Course_12 d_Course_goInStep_52 ?_
  refine z_getI E f_Course_81 d_Course_goInStep_55 ?_
  refine z_icmp_ge E d_Course_goInStep_58 (tgt := 105) (by decide) ⟨fun q => ?_, fun q => ?_⟩
  · replace h := h.1 q
    refine z_iinc E 1 [1, 0, 2] (v := v1 + 1) (lv' := [(0, zf G 1), (1, .int (v1 + 1)), (2, .int v2)]) d_Course_goInStep_105 rfl rfl (by decide) rfl ?_
    refine z_goto E d_Course_goInStep_108 (tgt := 40) (by decide) ?_
    refine zZ.sub [0, 1] (lv' := [(0, zf G 1), (1, .int (v1 + 1))]) rfl ?_
    exact h
  · replace h := h.2 q
    refine z_aload_n E 0 d_Course_goInStep_61 rfl rfl ?_
    refine z_iload_n E 2 d_Course_goInStep_62 rfl rfl ?_
    refine z_iload_n E 1 d_Course_goInStep_63 rfl rfl ?_
    refine z_aload_n E 0 d_Course_goInStep_64 rfl rfl ?_
    refine z_getR E f_Course_28 d_Course_goInStep_65 ?_
    refine z_aload_n E 0 d_Course_goInStep_68 rfl rfl ?_
    refine z_getR E f_Course_12 d_Course_goInStep_69 ?_
    refine z_iload_n E 2 d_Course_goInStep_72 rfl rfl ?_
    refine z_iload_n E 1 d_Course_goInStep_73 rfl rfl ?_
    obtain ⟨P, hM, h⟩ := h
    refine z_callVI [zf G 2, .int v2, .int v1] [.int v1, .int v2, zf G 1] E hM c_Course_113 r_Play_doRound rfl zrm rfl (Nat.le_of_ble_eq_true rfl) d_Course_goInStep_74 (fun x2 σ1 hp => ?_)
    replace h := h x2 σ1 hp
    obtain ⟨P, hM, h⟩ := h
    refine z_callVV [.int v2, .int v1, .int x2] [] E hM c_Course_117 r_Course_handOut rfl zrm rfl (Nat.le_of_ble_eq_true rfl) d_Course_goInStep_77 (fun σ3 hp => ?_)
    replace h := h σ3 hp
    refine z_aload_n E 0 d_Course_goInStep_80 rfl rfl ?_
    refine z_getR E f_Course_61 d_Course_goInStep_81 ?_
    refine z_iload_n E 1 d_Course_goInStep_84 rfl rfl ?_
    refine z_iload_n E 2 d_Course_goInStep_85 rfl rfl ?_
    refine z_callSIp [.int v1, .int v2] [zf G 31] E (p_P_at G σ3 v1 v2) c_Course_84 st_P_at rfl zrm rfl (Nat.le_of_ble_eq_true rfl) d_Course_goInStep_86 ?_
    refine z_aload_n E 0 d_Course_goInStep_89 rfl rfl ?_
    refine z_getR E f_Course_28 d_Course_goInStep_90 ?_
    refine z_getR E f_Course_88 d_Course_goInStep_93 ?_
    refine z_iload_n E 2 d_Course_goInStep_96 rfl rfl ?_
    obtain ⟨h0, h⟩ := h
    refine z_iald E rfl d_Course_goInStep_97 ⟨h0, ?_⟩
    obtain ⟨h0, h⟩ := h
    refine z_iast E rfl d_Course_goInStep_98 ⟨h0, fun σ4 e => ?_⟩
    replace h := h σ4 e
    refine z_iinc E 2 [1, 2, 0] (v := v2 + 1) (lv' := [(0, zf G 1), (1, .int v1), (2, .int (v2 + 1))]) d_Course_goInStep_99 rfl rfl (by decide) rfl ?_
    refine z_goto E d_Course_goInStep_102 (tgt := 50) (by decide) ?_
    exact h

set_option maxRecDepth 20000 in
set_option maxHeartbeats 4000000 in
theorem b_Course_handOut_0 {G : zG} {X : zX} {post : Option Value → zSt → Prop} (E : zCtx G M_Course_handOut (zKm G 2 X post) X) (v1 : Int32) (v2 : Int32) (v3 : Int32) (σ : zSt)
    (h : zZ G M_Course_handOut 2 X post 3 [(0, zf G 1), (1, .int v1), (2, .int v2), (3, .int v3), (4, .int (0 : Int32))] [] σ) :
    zZ G M_Course_handOut 2 X post 0 [(0, zf G 1), (1, .int v1), (2, .int v2), (3, .int v3)] [] σ := by
  refine z_iconst E (v := 0) d_Course_handOut_0 (by decide) ?_
  refine z_istore E [1, 2, 3, 4, 0] (lv' := [(0, zf G 1), (1, .int v1), (2, .int v2), (3, .int v3), (4, .int (0 : Int32))]) d_Course_handOut_1 (by decide) rfl ?_
  exact h

set_option maxRecDepth 20000 in
set_option maxHeartbeats 4000000 in
theorem b_Course_handOut_3 {G : zG} {X : zX} {post : Option Value → zSt → Prop} (E : zCtx G M_Course_handOut (zKm G 2 X post) X) (v1 : Int32) (v2 : Int32) (v3 : Int32) (v4 : Int32) (σ : zSt)
    (h : (((σ 2 0) ≤ v4 → post none σ) ∧ (¬ (σ 2 0) ≤ v4 → ((v3 = (-2 : Int32) → post none σ) ∧ (¬ v3 = (-2 : Int32) → (vp_in v1 12 ∧ (((zIn (σ 7 v1.toNatClampNeg) v4) = false → zZ G M_Course_handOut 2 X post 3 [(0, zf G 1), (1, .int v1), (2, .int v2), (3, .int v3), (4, .int (v4 + 1))] [] σ) ∧ ((zIn (σ 7 v1.toNatClampNeg) v4) = true → (∃ P : zSt → Prop, zV G 1 M_Play_keepNote [zf G 4, .int v1, .int v4, .int v2, .int v3] σ P ∧ ∀ σ1 : zSt, P σ1 → zZ G M_Course_handOut 2 X post 3 [(0, zf G 1), (1, .int v1), (2, .int v2), (3, .int v3), (4, .int (v4 + 1))] [] σ1))))))))) :
    zZ G M_Course_handOut 2 X post 3 [(0, zf G 1), (1, .int v1), (2, .int v2), (3, .int v3), (4, .int v4)] [] σ := by
  refine z_iload E 4 d_Course_handOut_3 rfl ?_
  refine z_aload_n E 0 d_Course_handOut_5 rfl rfl ?_
  refine z_getR E f_Course_12 d_Course_handOut_6 ?_
  refine z_getI E f_Course_81 d_Course_handOut_9 ?_
  refine z_icmp_ge E d_Course_handOut_12 (tgt := 56) (by decide) ⟨fun q => ?_, fun q => ?_⟩
  · replace h := h.1 q
    exact z_return E rfl d_Course_handOut_56 h
  · replace h := h.2 q
    refine z_iload_n E 3 d_Course_handOut_15 rfl rfl ?_
    refine z_bipush E (v := -2) d_Course_handOut_16 (by decide) ?_
    refine z_icmp_eq E d_Course_handOut_18 (tgt := 56) (by decide) ⟨fun q => ?_, fun q => ?_⟩
    · replace h := h.1 q
      exact z_return E rfl d_Course_handOut_56 h
    · replace h := h.2 q
      refine z_aload_n E 0 d_Course_handOut_21 rfl rfl ?_
      refine z_getR E f_Course_12 d_Course_handOut_22 ?_
      refine z_getR E f_Course_121 d_Course_handOut_25 ?_
      refine z_iload_n E 1 d_Course_handOut_28 rfl rfl ?_
      obtain ⟨h0, h⟩ := h
      refine z_iald E rfl d_Course_handOut_29 ⟨h0, ?_⟩
      refine z_iload E 4 d_Course_handOut_30 rfl ?_
      refine z_callSBp [.int (σ 7 v1.toNatClampNeg), .int v4] [] E (p_P_isIn G σ (σ 7 v1.toNatClampNeg) v4) c_Course_124 st_P_isIn rfl zrm rfl (Nat.le_of_ble_eq_true rfl) d_Course_handOut_32 ?_
      refine z_ifz_eq E d_Course_handOut_35 (tgt := 50) (by decide) ⟨fun q => ?_, fun q => ?_⟩
      · replace h := h.1 q
        refine z_iinc E 4 [1, 2, 3, 4, 0] (v := v4 + 1) (lv' := [(0, zf G 1), (1, .int v1), (2, .int v2), (3, .int v3), (4, .int (v4 + 1))]) d_Course_handOut_50 rfl rfl (by decide) rfl ?_
        refine z_goto E d_Course_handOut_53 (tgt := 3) (by decide) ?_
        exact h
      · replace h := h.2 q
        refine z_aload_n E 0 d_Course_handOut_38 rfl rfl ?_
        refine z_getR E f_Course_28 d_Course_handOut_39 ?_
        refine z_iload_n E 1 d_Course_handOut_42 rfl rfl ?_
        refine z_iload E 4 d_Course_handOut_43 rfl ?_
        refine z_iload_n E 2 d_Course_handOut_45 rfl rfl ?_
        refine z_iload_n E 3 d_Course_handOut_46 rfl rfl ?_
        obtain ⟨P, hM, h⟩ := h
        refine z_callVV [.int v1, .int v4, .int v2, .int v3] [] E hM c_Course_128 r_Play_keepNote rfl zrm rfl (Nat.le_of_ble_eq_true rfl) d_Course_handOut_47 (fun σ1 hp => ?_)
        replace h := h σ1 hp
        refine z_iinc E 4 [1, 2, 3, 4, 0] (v := v4 + 1) (lv' := [(0, zf G 1), (1, .int v1), (2, .int v2), (3, .int v3), (4, .int (v4 + 1))]) d_Course_handOut_50 rfl rfl (by decide) rfl ?_
        refine z_goto E d_Course_handOut_53 (tgt := 3) (by decide) ?_
        exact h

set_option maxRecDepth 20000 in
set_option maxHeartbeats 4000000 in
theorem b_Course_bring_0 {G : zG} {X : zX} {post : Option Value → zSt → Prop} (E : zCtx G M_Course_bring (zKm G 6 X post) X) (v1 : Int32) (σ : zSt)
    (h : (vp_in v1 528 ∧ (vp_in v1 528 ∧ (vp_in v1 528 ∧ (vp_in v1 528 ∧ (vp_in v1 528 ∧ (∃ P : zSt → Prop, zV G 2 M_Pool_remove [zf G 5, .int v1] σ P ∧ ∀ σ1 : zSt, P σ1 → (((σ 19 v1.toNatClampNeg).toInt = 0 → (∃ P : zSt → Prop, zV G 1 M_Play_keepNote [zf G 4, .int (σ 20 v1.toNatClampNeg), .int (σ 21 v1.toNatClampNeg), .int (σ 22 v1.toNatClampNeg), .int (σ 23 v1.toNatClampNeg)] σ1 P ∧ ∀ σ2 : zSt, P σ2 → (∃ P : zSt → Prop, zV G 1 M_Course_send [zf G 1, .int (1 : Int32), .int (σ 21 v1.toNatClampNeg), .int ((1 : Int32) <<< ((σ 20 v1.toNatClampNeg) &&& 31)), .int (σ 22 v1.toNatClampNeg), .int (0 : Int32)] σ2 P ∧ ∀ σ3 : zSt, P σ3 → zZ G M_Course_bring 6 X post 208 [(0, zf G 1), (2, .int (σ 19 v1.toNatClampNeg)), (4, .int (σ 21 v1.toNatClampNeg))] [] σ3))) ∧ ((σ 19 v1.toNatClampNeg).toInt = 1 → (vp_in (σ 21 v1.toNatClampNeg) 12 ∧ (vp_in (σ 21 v1.toNatClampNeg) 12 ∧ ∀ σ4 : zSt, σ4 = zup σ1 26 (σ 21 v1.toNatClampNeg).toNatClampNeg ((σ1 26 (σ 21 v1.toNatClampNeg).toNatClampNeg) - (1 : Int32)) → zZ G M_Course_bring 6 X post 208 [(0, zf G 1), (2, .int (σ 19 v1.toNatClampNeg)), (4, .int (σ 21 v1.toNatClampNeg))] [] σ4))) ∧ ((σ 19 v1.toNatClampNeg).toInt = 2 → (vp_in (((σ 22 v1.toNatClampNeg) &&& (1 : Int32)) * 12 + (σ 21 v1.toNatClampNeg)) 24 ∧ (vp_in (((σ 22 v1.toNatClampNeg) &&& (1 : Int32)) * 12 + (σ 21 v1.toNatClampNeg)) 24 ∧ ∀ σ5 : zSt, σ5 = zup σ1 29 (((σ 22 v1.toNatClampNeg) &&& (1 : Int32)) * 12 + (σ 21 v1.toNatClampNeg)).toNatClampNeg ((σ1 29 (((σ 22 v1.toNatClampNeg) &&& (1 : Int32)) * 12 + (σ 21 v1.toNatClampNeg)).toNatClampNeg) + (1 : Int32)) → zZ G M_Course_bring 6 X post 208 [(0, zf G 1), (2, .int (σ 19 v1.toNatClampNeg)), (4, .int (σ 21 v1.toNatClampNeg))] [] σ5))) ∧ ((σ 19 v1.toNatClampNeg).toInt = 3 → (vp_in (σ 21 v1.toNatClampNeg) 12 ∧ (vp_in (σ 21 v1.toNatClampNeg) 12 ∧ ∀ σ6 : zSt, σ6 = zup σ1 27 (σ 21 v1.toNatClampNeg).toNatClampNeg ((σ1 27 (σ 21 v1.toNatClampNeg).toNatClampNeg) + (1 : Int32)) → zZ G M_Course_bring 6 X post 208 [(0, zf G 1), (2, .int (σ 19 v1.toNatClampNeg)), (4, .int (σ 21 v1.toNatClampNeg))] [] σ6))) ∧ ((σ 19 v1.toNatClampNeg).toInt = 4 → (∃ P : zSt → Prop, zV G 4 M_Course_enterNext [zf G 1, .int (σ 21 v1.toNatClampNeg)] σ1 P ∧ ∀ σ7 : zSt, P σ7 → zZ G M_Course_bring 6 X post 208 [(0, zf G 1), (2, .int (σ 19 v1.toNatClampNeg)), (4, .int (σ 21 v1.toNatClampNeg))] [] σ7)) ∧ ((σ 19 v1.toNatClampNeg).toInt = 5 → (∃ P : zSt → Prop, zV G 2 M_Course_spreadFirm [zf G 1, .int (σ 21 v1.toNatClampNeg)] σ1 P ∧ ∀ σ8 : zSt, P σ8 → zZ G M_Course_bring 6 X post 208 [(0, zf G 1), (2, .int (σ 19 v1.toNatClampNeg)), (4, .int (σ 21 v1.toNatClampNeg))] [] σ8)) ∧ (((σ 19 v1.toNatClampNeg).toInt < 0 ∨ 5 < (σ 19 v1.toNatClampNeg).toInt) → (vp_in (σ 21 v1.toNatClampNeg) 12 ∧ (vp_in (σ 21 v1.toNatClampNeg) 12 ∧ ∀ σ9 : zSt, σ9 = zup σ1 28 (σ 21 v1.toNatClampNeg).toNatClampNeg ((σ1 28 (σ 21 v1.toNatClampNeg).toNatClampNeg) + (1 : Int32)) → zZ G M_Course_bring 6 X post 208 [(0, zf G 1), (2, .int (σ 19 v1.toNatClampNeg)), (4, .int (σ 21 v1.toNatClampNeg))] [] σ9))))))))))) :
    zZ G M_Course_bring 6 X post 0 [(0, zf G 1), (1, .int v1)] [] σ := by
  refine z_aload_n E 0 d_Course_bring_0 rfl rfl ?_
  refine z_getR E f_Course_35 d_Course_bring_1 ?_
  refine z_getR E f_Course_132 d_Course_bring_4 ?_
  refine z_iload_n E 1 d_Course_bring_7 rfl rfl ?_
  obtain ⟨h0, h⟩ := h
  refine z_iald E rfl d_Course_bring_8 ⟨h0, ?_⟩
  refine z_istore_n E [1, 2, 0] (lv' := [(0, zf G 1), (1, .int v1), (2, .int (σ 19 v1.toNatClampNeg))]) d_Course_bring_9 rfl (by decide) rfl ?_
  refine z_aload_n E 0 d_Course_bring_10 rfl rfl ?_
  refine z_getR E f_Course_35 d_Course_bring_11 ?_
  refine z_getR E f_Course_135 d_Course_bring_14 ?_
  refine z_iload_n E 1 d_Course_bring_17 rfl rfl ?_
  obtain ⟨h0, h⟩ := h
  refine z_iald E rfl d_Course_bring_18 ⟨h0, ?_⟩
  refine z_istore_n E [1, 2, 3, 0] (lv' := [(0, zf G 1), (1, .int v1), (2, .int (σ 19 v1.toNatClampNeg)), (3, .int (σ 20 v1.toNatClampNeg))]) d_Course_bring_19 rfl (by decide) rfl ?_
  refine z_aload_n E 0 d_Course_bring_20 rfl rfl ?_
  refine z_getR E f_Course_35 d_Course_bring_21 ?_
  refine z_getR E f_Course_138 d_Course_bring_24 ?_
  refine z_iload_n E 1 d_Course_bring_27 rfl rfl ?_
  obtain ⟨h0, h⟩ := h
  refine z_iald E rfl d_Course_bring_28 ⟨h0, ?_⟩
  refine z_istore E [1, 2, 3, 4, 0] (lv' := [(0, zf G 1), (1, .int v1), (2, .int (σ 19 v1.toNatClampNeg)), (3, .int (σ 20 v1.toNatClampNeg)), (4, .int (σ 21 v1.toNatClampNeg))]) d_Course_bring_29 (by decide) rfl ?_
  refine z_aload_n E 0 d_Course_bring_31 rfl rfl ?_
  refine z_getR E f_Course_35 d_Course_bring_32 ?_
  refine z_getR E f_Course_141 d_Course_bring_35 ?_
  refine z_iload_n E 1 d_Course_bring_38 rfl rfl ?_
  obtain ⟨h0, h⟩ := h
  refine z_iald E rfl d_Course_bring_39 ⟨h0, ?_⟩
  refine z_istore E [1, 2, 3, 4, 5, 0] (lv' := [(0, zf G 1), (1, .int v1), (2, .int (σ 19 v1.toNatClampNeg)), (3, .int (σ 20 v1.toNatClampNeg)), (4, .int (σ 21 v1.toNatClampNeg)), (5, .int (σ 22 v1.toNatClampNeg))]) d_Course_bring_40 (by decide) rfl ?_
  refine z_aload_n E 0 d_Course_bring_42 rfl rfl ?_
  refine z_getR E f_Course_35 d_Course_bring_43 ?_
  refine z_getR E f_Course_143 d_Course_bring_46 ?_
  refine z_iload_n E 1 d_Course_bring_49 rfl rfl ?_
  obtain ⟨h0, h⟩ := h
  refine z_iald E rfl d_Course_bring_50 ⟨h0, ?_⟩
  refine z_istore E [1, 2, 3, 4, 5, 6, 0] (lv' := [(0, zf G 1), (1, .int v1), (2, .int (σ 19 v1.toNatClampNeg)), (3, .int (σ 20 v1.toNatClampNeg)), (4, .int (σ 21 v1.toNatClampNeg)), (5, .int (σ 22 v1.toNatClampNeg)), (6, .int (σ 23 v1.toNatClampNeg))]) d_Course_bring_51 (by decide) rfl ?_
  refine z_aload_n E 0 d_Course_bring_53 rfl rfl ?_
  refine z_getR E f_Course_35 d_Course_bring_54 ?_
  refine z_iload_n E 1 d_Course_bring_57 rfl rfl ?_
  obtain ⟨P, hM, h⟩ := h
  refine z_callVV [.int v1] [] E hM c_Course_146 r_Pool_remove rfl zrm rfl (Nat.le_of_ble_eq_true rfl) d_Course_bring_58 (fun σ1 hp => ?_)
  replace h := h σ1 hp
  refine z_iload_n E 2 d_Course_bring_61 rfl rfl ?_
  refine z_table E d_Course_bring_62 (tO := 197) (tgts := [100, 130, 144, 165, 179, 188]) (by decide) (by decide) (by decide) ⟨z_tcons (fun q => ?_) (z_tcons (fun q => ?_) (z_tcons (fun q => ?_) (z_tcons (fun q => ?_) (z_tcons (fun q => ?_) (z_tcons (fun q => ?_) (z_tnil)))))), fun q => ?_⟩
  · replace h := h.1 q
    show zZ G M_Course_bring 6 X post 100 [(0, zf G 1), (1, .int v1), (2, .int (σ 19 v1.toNatClampNeg)), (3, .int (σ 20 v1.toNatClampNeg)), (4, .int (σ 21 v1.toNatClampNeg)), (5, .int (σ 22 v1.toNatClampNeg)), (6, .int (σ 23 v1.toNatClampNeg))] [] σ1
    refine z_aload_n E 0 d_Course_bring_100 rfl rfl ?_
    refine z_getR E f_Course_28 d_Course_bring_101 ?_
    refine z_iload_n E 3 d_Course_bring_104 rfl rfl ?_
    refine z_iload E 4 d_Course_bring_105 rfl ?_
    refine z_iload E 5 d_Course_bring_107 rfl ?_
    refine z_iload E 6 d_Course_bring_109 rfl ?_
    obtain ⟨P, hM, h⟩ := h
    refine z_callVV [.int (σ 20 v1.toNatClampNeg), .int (σ 21 v1.toNatClampNeg), .int (σ 22 v1.toNatClampNeg), .int (σ 23 v1.toNatClampNeg)] [] E hM c_Course_128 r_Play_keepNote rfl zrm rfl (Nat.le_of_ble_eq_true rfl) d_Course_bring_111 (fun σ2 hp => ?_)
    replace h := h σ2 hp
    refine z_aload_n E 0 d_Course_bring_114 rfl rfl ?_
    refine z_iconst E (v := 1) d_Course_bring_115 (by decide) ?_
    refine z_iload E 4 d_Course_bring_116 rfl ?_
    refine z_iconst E (v := 1) d_Course_bring_118 (by decide) ?_
    refine z_iload_n E 3 d_Course_bring_119 rfl rfl ?_
    refine z_ishl E d_Course_bring_120 ?_
    refine z_iload E 5 d_Course_bring_121 rfl ?_
    refine z_iconst E (v := 0) d_Course_bring_123 (by decide) ?_
    obtain ⟨P, hM, h⟩ := h
    refine z_callVV [.int (1 : Int32), .int (σ 21 v1.toNatClampNeg), .int ((1 : Int32) <<< ((σ 20 v1.toNatClampNeg) &&& 31)), .int (σ 22 v1.toNatClampNeg), .int (0 : Int32)] [] E hM c_Course_149 r_Course_send rfl zrm rfl (Nat.le_of_ble_eq_true rfl) d_Course_bring_124 (fun σ3 hp => ?_)
    replace h := h σ3 hp
    refine z_goto E d_Course_bring_127 (tgt := 208) (by decide) ?_
    refine zZ.sub [0, 2, 4] (lv' := [(0, zf G 1), (2, .int (σ 19 v1.toNatClampNeg)), (4, .int (σ 21 v1.toNatClampNeg))]) rfl ?_
    exact h
  · replace h := h.2.1 q
    show zZ G M_Course_bring 6 X post 130 [(0, zf G 1), (1, .int v1), (2, .int (σ 19 v1.toNatClampNeg)), (3, .int (σ 20 v1.toNatClampNeg)), (4, .int (σ 21 v1.toNatClampNeg)), (5, .int (σ 22 v1.toNatClampNeg)), (6, .int (σ 23 v1.toNatClampNeg))] [] σ1
    refine z_aload_n E 0 d_Course_bring_130 rfl rfl ?_
    refine z_getR E f_Course_46 d_Course_bring_131 ?_
    refine z_iload E 4 d_Course_bring_134 rfl ?_
    refine z_dup2 E d_Course_bring_136 rfl rfl ?_
    obtain ⟨h0, h⟩ := h
    refine z_iald E rfl d_Course_bring_137 ⟨h0, ?_⟩
    refine z_iconst E (v := 1) d_Course_bring_138 (by decide) ?_
    refine z_isub E d_Course_bring_139 ?_
    obtain ⟨h0, h⟩ := h
    refine z_iast E rfl d_Course_bring_140 ⟨h0, fun σ4 e => ?_⟩
    replace h := h σ4 e
    refine z_goto E d_Course_bring_141 (tgt := 208) (by decide) ?_
    refine zZ.sub [0, 2, 4] (lv' := [(0, zf G 1), (2, .int (σ 19 v1.toNatClampNeg)), (4, .int (σ 21 v1.toNatClampNeg))]) rfl ?_
    exact h
  · replace h := h.2.2.1 q
    show zZ G M_Course_bring 6 X post 144 [(0, zf G 1), (1, .int v1), (2, .int (σ 19 v1.toNatClampNeg)), (3, .int (σ 20 v1.toNatClampNeg)), (4, .int (σ 21 v1.toNatClampNeg)), (5, .int (σ 22 v1.toNatClampNeg)), (6, .int (σ 23 v1.toNatClampNeg))] [] σ1
    refine z_aload_n E 0 d_Course_bring_144 rfl rfl ?_
    refine z_getR E f_Course_55 d_Course_bring_145 ?_
    refine z_iload E 5 d_Course_bring_148 rfl ?_
    refine z_iconst E (v := 1) d_Course_bring_150 (by decide) ?_
    refine z_iand E d_Course_bring_151 ?_
    refine z_iload E 4 d_Course_bring_152 rfl ?_
    refine z_callSIp [.int ((σ 22 v1.toNatClampNeg) &&& (1 : Int32)), .int (σ 21 v1.toNatClampNeg)] [zf G 29] E (p_P_at G σ1 ((σ 22 v1.toNatClampNeg) &&& (1 : Int32)) (σ 21 v1.toNatClampNeg)) c_Course_84 st_P_at rfl zrm rfl (Nat.le_of_ble_eq_true rfl) d_Course_bring_154 ?_
    refine z_dup2 E d_Course_bring_157 rfl rfl ?_
    obtain ⟨h0, h⟩ := h
    refine z_iald E rfl d_Course_bring_158 ⟨h0, ?_⟩
    refine z_iconst E (v := 1) d_Course_bring_159 (by decide) ?_
    refine z_iadd E d_Course_bring_160 ?_
    obtain ⟨h0, h⟩ := h
    refine z_iast E rfl d_Course_bring_161 ⟨h0, fun σ5 e => ?_⟩
    replace h := h σ5 e
    refine z_goto E d_Course_bring_162 (tgt := 208) (by decide) ?_
    refine zZ.sub [0, 2, 4] (lv' := [(0, zf G 1), (2, .int (σ 19 v1.toNatClampNeg)), (4, .int (σ 21 v1.toNatClampNeg))]) rfl ?_
    exact h
  · replace h := h.2.2.2.1 q
    show zZ G M_Course_bring 6 X post 165 [(0, zf G 1), (1, .int v1), (2, .int (σ 19 v1.toNatClampNeg)), (3, .int (σ 20 v1.toNatClampNeg)), (4, .int (σ 21 v1.toNatClampNeg)), (5, .int (σ 22 v1.toNatClampNeg)), (6, .int (σ 23 v1.toNatClampNeg))] [] σ1
    refine z_aload_n E 0 d_Course_bring_165 rfl rfl ?_
    refine z_getR E f_Course_49 d_Course_bring_166 ?_
    refine z_iload E 4 d_Course_bring_169 rfl ?_
    refine z_dup2 E d_Course_bring_171 rfl rfl ?_
    obtain ⟨h0, h⟩ := h
    refine z_iald E rfl d_Course_bring_172 ⟨h0, ?_⟩
    refine z_iconst E (v := 1) d_Course_bring_173 (by decide) ?_
    refine z_iadd E d_Course_bring_174 ?_
    obtain ⟨h0, h⟩ := h
    refine z_iast E rfl d_Course_bring_175 ⟨h0, fun σ6 e => ?_⟩
    replace h := h σ6 e
    refine z_goto E d_Course_bring_176 (tgt := 208) (by decide) ?_
    refine zZ.sub [0, 2, 4] (lv' := [(0, zf G 1), (2, .int (σ 19 v1.toNatClampNeg)), (4, .int (σ 21 v1.toNatClampNeg))]) rfl ?_
    exact h
  · replace h := h.2.2.2.2.1 q
    show zZ G M_Course_bring 6 X post 179 [(0, zf G 1), (1, .int v1), (2, .int (σ 19 v1.toNatClampNeg)), (3, .int (σ 20 v1.toNatClampNeg)), (4, .int (σ 21 v1.toNatClampNeg)), (5, .int (σ 22 v1.toNatClampNeg)), (6, .int (σ 23 v1.toNatClampNeg))] [] σ1
    refine z_aload_n E 0 d_Course_bring_179 rfl rfl ?_
    refine z_iload E 4 d_Course_bring_180 rfl ?_
    obtain ⟨P, hM, h⟩ := h
    refine z_callVV [.int (σ 21 v1.toNatClampNeg)] [] E hM c_Course_91 r_Course_enterNext rfl zrm rfl (Nat.le_of_ble_eq_true rfl) d_Course_bring_182 (fun σ7 hp => ?_)
    replace h := h σ7 hp
    refine z_goto E d_Course_bring_185 (tgt := 208) (by decide) ?_
    refine zZ.sub [0, 2, 4] (lv' := [(0, zf G 1), (2, .int (σ 19 v1.toNatClampNeg)), (4, .int (σ 21 v1.toNatClampNeg))]) rfl ?_
    exact h
  · replace h := h.2.2.2.2.2.1 q
    show zZ G M_Course_bring 6 X post 188 [(0, zf G 1), (1, .int v1), (2, .int (σ 19 v1.toNatClampNeg)), (3, .int (σ 20 v1.toNatClampNeg)), (4, .int (σ 21 v1.toNatClampNeg)), (5, .int (σ 22 v1.toNatClampNeg)), (6, .int (σ 23 v1.toNatClampNeg))] [] σ1
    refine z_aload_n E 0 d_Course_bring_188 rfl rfl ?_
    refine z_iload E 4 d_Course_bring_189 rfl ?_
    obtain ⟨P, hM, h⟩ := h
    refine z_callVV [.int (σ 21 v1.toNatClampNeg)] [] E hM c_Course_153 r_Course_spreadFirm rfl zrm rfl (Nat.le_of_ble_eq_true rfl) d_Course_bring_191 (fun σ8 hp => ?_)
    replace h := h σ8 hp
    refine z_goto E d_Course_bring_194 (tgt := 208) (by decide) ?_
    refine zZ.sub [0, 2, 4] (lv' := [(0, zf G 1), (2, .int (σ 19 v1.toNatClampNeg)), (4, .int (σ 21 v1.toNatClampNeg))]) rfl ?_
    exact h
  · replace h := h.2.2.2.2.2.2 q
    show zZ G M_Course_bring 6 X post 197 [(0, zf G 1), (1, .int v1), (2, .int (σ 19 v1.toNatClampNeg)), (3, .int (σ 20 v1.toNatClampNeg)), (4, .int (σ 21 v1.toNatClampNeg)), (5, .int (σ 22 v1.toNatClampNeg)), (6, .int (σ 23 v1.toNatClampNeg))] [] σ1
    refine z_aload_n E 0 d_Course_bring_197 rfl rfl ?_
    refine z_getR E f_Course_52 d_Course_bring_198 ?_
    refine z_iload E 4 d_Course_bring_201 rfl ?_
    refine z_dup2 E d_Course_bring_203 rfl rfl ?_
    obtain ⟨h0, h⟩ := h
    refine z_iald E rfl d_Course_bring_204 ⟨h0, ?_⟩
    refine z_iconst E (v := 1) d_Course_bring_205 (by decide) ?_
    refine z_iadd E d_Course_bring_206 ?_
    obtain ⟨h0, h⟩ := h
    refine z_iast E rfl d_Course_bring_207 ⟨h0, fun σ9 e => ?_⟩
    replace h := h σ9 e
    refine zZ.sub [0, 2, 4] (lv' := [(0, zf G 1), (2, .int (σ 19 v1.toNatClampNeg)), (4, .int (σ 21 v1.toNatClampNeg))]) rfl ?_
    exact h

set_option maxRecDepth 20000 in
set_option maxHeartbeats 4000000 in
theorem b_Course_bring_208 {G : zG} {X : zX} {post : Option Value → zSt → Prop} (E : zCtx G M_Course_bring (zKm G 6 X post) X) (v2 : Int32) (v4 : Int32) (σ : zSt)
    (h : (∃ P : zSt → Prop, zV G 5 M_Course_push [zf G 1, .int v4] σ P ∧ ∀ σ1 : zSt, P σ1 → post (some (.int v2)) σ1)) :
    zZ G M_Course_bring 6 X post 208 [(0, zf G 1), (2, .int v2), (4, .int v4)] [] σ := by
  refine z_aload_n E 0 d_Course_bring_208 rfl rfl ?_
  refine z_iload E 2 d_Course_bring_209 rfl ?_
  obtain ⟨P, hM, h⟩ := h
  refine z_callVV [.int v4] [] E hM c_Course_95 r_Course_push rfl zrm rfl (Nat.le_of_ble_eq_true rfl) d_Course_bring_211 (fun σ1 hp => ?_)
  replace h := h σ1 hp
  refine z_iload_n E 1 d_Course_bring_214 rfl rfl ?_
  exact z_ireturn E rfl d_Course_bring_215 h

set_option maxRecDepth 20000 in
set_option maxHeartbeats 4000000 in
theorem b_Course_send_0 {G : zG} {X : zX} {post : Option Value → zSt → Prop} (E : zCtx G M_Course_send (zKm G 1 X post) X) (v1 : Int32) (v2 : Int32) (v3 : Int32) (v4 : Int32) (v5 : Int32) (σ : zSt)
    (h : zZ G M_Course_send 1 X post 3 [(0, zf G 1), (1, .int v1), (2, .int v2), (3, .int v3), (4, .int v4), (5, .int v5), (6, .int (0 : Int32))] [] σ) :
    zZ G M_Course_send 1 X post 0 [(0, zf G 1), (1, .int v1), (2, .int v2), (3, .int v3), (4, .int v4), (5, .int v5)] [] σ := by
  refine z_iconst E (v := 0) d_Course_send_0 (by decide) ?_
  refine z_istore E [1, 2, 3, 4, 5, 6, 0] (lv' := [(0, zf G 1), (1, .int v1), (2, .int v2), (3, .int v3), (4, .int v4), (5, .int v5), (6, .int (0 : Int32))]) d_Course_send_1 (by decide) rfl ?_
  exact h

set_option maxRecDepth 20000 in
set_option maxHeartbeats 4000000 in
theorem b_Course_send_3 {G : zG} {X : zX} {post : Option Value → zSt → Prop} (E : zCtx G M_Course_send (zKm G 1 X post) X) (v1 : Int32) (v2 : Int32) (v3 : Int32) (v4 : Int32) (v5 : Int32) (v6 : Int32) (σ : zSt)
    (h : (((σ 2 0) ≤ v6 → post none σ) ∧ (¬ (σ 2 0) ≤ v6 → (((zIn v3 v6) = false → zZ G M_Course_send 1 X post 3 [(0, zf G 1), (1, .int v1), (2, .int v2), (3, .int v3), (4, .int v4), (5, .int v5), (6, .int (v6 + 1))] [] σ) ∧ ((zIn v3 v6) = true → (∃ P : zSt → Prop, zV G 0 M_Pool_add [zf G 5, .int v1, .int v2, .int v6, .int v4, .int v5] σ P ∧ ∀ σ1 : zSt, P σ1 → ((¬ v1 = 0 → (∀ σ2 : zSt, σ2 = zup σ1 1 6 ((σ1 1 6) + (0 : Int32)) → ((¬ v1 = 0 → (∀ σ3 : zSt, σ3 = zup σ2 1 7 ((σ2 1 7) + (1 : Int32)) → zZ G M_Course_send 1 X post 3 [(0, zf G 1), (1, .int v1), (2, .int v2), (3, .int v3), (4, .int v4), (5, .int v5), (6, .int (v6 + 1))] [] σ3)) ∧ (v1 = 0 → (∀ σ4 : zSt, σ4 = zup σ2 1 7 ((σ2 1 7) + (0 : Int32)) → zZ G M_Course_send 1 X post 3 [(0, zf G 1), (1, .int v1), (2, .int v2), (3, .int v3), (4, .int v4), (5, .int v5), (6, .int (v6 + 1))] [] σ4))))) ∧ (v1 = 0 → (∀ σ5 : zSt, σ5 = zup σ1 1 6 ((σ1 1 6) + (1 : Int32)) → ((¬ v1 = 0 → (∀ σ6 : zSt, σ6 = zup σ5 1 7 ((σ5 1 7) + (1 : Int32)) → zZ G M_Course_send 1 X post 3 [(0, zf G 1), (1, .int v1), (2, .int v2), (3, .int v3), (4, .int v4), (5, .int v5), (6, .int (v6 + 1))] [] σ6)) ∧ (v1 = 0 → (∀ σ7 : zSt, σ7 = zup σ5 1 7 ((σ5 1 7) + (0 : Int32)) → zZ G M_Course_send 1 X post 3 [(0, zf G 1), (1, .int v1), (2, .int v2), (3, .int v3), (4, .int v4), (5, .int v5), (6, .int (v6 + 1))] [] σ7)))))))))))) :
    zZ G M_Course_send 1 X post 3 [(0, zf G 1), (1, .int v1), (2, .int v2), (3, .int v3), (4, .int v4), (5, .int v5), (6, .int v6)] [] σ := by
  refine z_iload E 6 d_Course_send_3 rfl ?_
  refine z_aload_n E 0 d_Course_send_5 rfl rfl ?_
  refine z_getR E f_Course_12 d_Course_send_6 ?_
  refine z_getI E f_Course_81 d_Course_send_9 ?_
  refine z_icmp_ge E d_Course_send_12 (tgt := 81) (by decide) ⟨fun q => ?_, fun q => ?_⟩
  · replace h := h.1 q
    exact z_return E rfl d_Course_send_81 h
  · replace h := h.2 q
    refine z_iload_n E 3 d_Course_send_15 rfl rfl ?_
    refine z_iload E 6 d_Course_send_16 rfl ?_
    refine z_callSBp [.int v3, .int v6] [] E (p_P_isIn G σ v3 v6) c_Course_124 st_P_isIn rfl zrm rfl (Nat.le_of_ble_eq_true rfl) d_Course_send_18 ?_
    refine z_ifz_eq E d_Course_send_21 (tgt := 75) (by decide) ⟨fun q => ?_, fun q => ?_⟩
    · replace h := h.1 q
      refine z_iinc E 6 [1, 2, 3, 4, 5, 6, 0] (v := v6 + 1) (lv' := [(0, zf G 1), (1, .int v1), (2, .int v2), (3, .int v3), (4, .int v4), (5, .int v5), (6, .int (v6 + 1))]) d_Course_send_75 rfl rfl (by decide) rfl ?_
      refine z_goto E d_Course_send_78 (tgt := 3) (by decide) ?_
      exact h
    · replace h := h.2 q
      refine z_aload_n E 0 d_Course_send_24 rfl rfl ?_
      refine z_getR E f_Course_35 d_Course_send_25 ?_
      refine z_iload_n E 1 d_Course_send_28 rfl rfl ?_
      refine z_iload_n E 2 d_Course_send_29 rfl rfl ?_
      refine z_iload E 6 d_Course_send_30 rfl ?_
      refine z_iload E 4 d_Course_send_32 rfl ?_
      refine z_iload E 5 d_Course_send_34 rfl ?_
      obtain ⟨P, hM, h⟩ := h
      refine z_callVV [.int v1, .int v2, .int v6, .int v4, .int v5] [] E hM c_Course_156 r_Pool_add rfl zrm rfl (Nat.le_of_ble_eq_true rfl) d_Course_send_36 (fun σ1 hp => ?_)
      replace h := h σ1 hp
      refine z_aload_n E 0 d_Course_send_39 rfl rfl ?_
      refine z_dup E d_Course_send_40 rfl ?_
      refine z_getI E f_Course_101 d_Course_send_41 ?_
      refine z_iload_n E 1 d_Course_send_44 rfl rfl ?_
      refine z_if_ne E d_Course_send_45 (tgt := 52) (by decide) ⟨fun q => ?_, fun q => ?_⟩
      · replace h := h.1 q
        refine z_iconst E (v := 0) d_Course_send_52 (by decide) ?_
        refine z_iadd E d_Course_send_53 ?_
        refine z_putI E w_Course_101 d_Course_send_54 (fun σ2 e => ?_)
        replace h := h σ2 e
        refine z_aload_n E 0 d_Course_send_57 rfl rfl ?_
        refine z_dup E d_Course_send_58 rfl ?_
        refine z_getI E f_Course_104 d_Course_send_59 ?_
        refine z_iload_n E 1 d_Course_send_62 rfl rfl ?_
        refine z_if_ne E d_Course_send_63 (tgt := 70) (by decide) ⟨fun q => ?_, fun q => ?_⟩
        · replace h := h.1 q
          refine z_iconst E (v := 1) d_Course_send_70 (by decide) ?_
          refine z_iadd E d_Course_send_71 ?_
          refine z_putI E w_Course_104 d_Course_send_72 (fun σ3 e => ?_)
          replace h := h σ3 e
          refine z_iinc E 6 [1, 2, 3, 4, 5, 6, 0] (v := v6 + 1) (lv' := [(0, zf G 1), (1, .int v1), (2, .int v2), (3, .int v3), (4, .int v4), (5, .int v5), (6, .int (v6 + 1))]) d_Course_send_75 rfl rfl (by decide) rfl ?_
          refine z_goto E d_Course_send_78 (tgt := 3) (by decide) ?_
          exact h
        · replace h := h.2 q
          refine z_iconst E (v := 0) d_Course_send_66 (by decide) ?_
          refine z_goto E d_Course_send_67 (tgt := 71) (by decide) ?_
          refine z_iadd E d_Course_send_71 ?_
          refine z_putI E w_Course_104 d_Course_send_72 (fun σ4 e => ?_)
          replace h := h σ4 e
          refine z_iinc E 6 [1, 2, 3, 4, 5, 6, 0] (v := v6 + 1) (lv' := [(0, zf G 1), (1, .int v1), (2, .int v2), (3, .int v3), (4, .int v4), (5, .int v5), (6, .int (v6 + 1))]) d_Course_send_75 rfl rfl (by decide) rfl ?_
          refine z_goto E d_Course_send_78 (tgt := 3) (by decide) ?_
          exact h
      · replace h := h.2 q
        refine z_iconst E (v := 1) d_Course_send_48 (by decide) ?_
        refine z_goto E d_Course_send_49 (tgt := 53) (by decide) ?_
        refine z_iadd E d_Course_send_53 ?_
        refine z_putI E w_Course_101 d_Course_send_54 (fun σ5 e => ?_)
        replace h := h σ5 e
        refine z_aload_n E 0 d_Course_send_57 rfl rfl ?_
        refine z_dup E d_Course_send_58 rfl ?_
        refine z_getI E f_Course_104 d_Course_send_59 ?_
        refine z_iload_n E 1 d_Course_send_62 rfl rfl ?_
        refine z_if_ne E d_Course_send_63 (tgt := 70) (by decide) ⟨fun q => ?_, fun q => ?_⟩
        · replace h := h.1 q
          refine z_iconst E (v := 1) d_Course_send_70 (by decide) ?_
          refine z_iadd E d_Course_send_71 ?_
          refine z_putI E w_Course_104 d_Course_send_72 (fun σ6 e => ?_)
          replace h := h σ6 e
          refine z_iinc E 6 [1, 2, 3, 4, 5, 6, 0] (v := v6 + 1) (lv' := [(0, zf G 1), (1, .int v1), (2, .int v2), (3, .int v3), (4, .int v4), (5, .int v5), (6, .int (v6 + 1))]) d_Course_send_75 rfl rfl (by decide) rfl ?_
          refine z_goto E d_Course_send_78 (tgt := 3) (by decide) ?_
          exact h
        · replace h := h.2 q
          refine z_iconst E (v := 0) d_Course_send_66 (by decide) ?_
          refine z_goto E d_Course_send_67 (tgt := 71) (by decide) ?_
          refine z_iadd E d_Course_send_71 ?_
          refine z_putI E w_Course_104 d_Course_send_72 (fun σ7 e => ?_)
          replace h := h σ7 e
          refine z_iinc E 6 [1, 2, 3, 4, 5, 6, 0] (v := v6 + 1) (lv' := [(0, zf G 1), (1, .int v1), (2, .int v2), (3, .int v3), (4, .int v4), (5, .int v5), (6, .int (v6 + 1))]) d_Course_send_75 rfl rfl (by decide) rfl ?_
          refine z_goto E d_Course_send_78 (tgt := 3) (by decide) ?_
          exact h

set_option maxRecDepth 20000 in
set_option maxHeartbeats 4000000 in
theorem b_Course_push_0 {G : zG} {X : zX} {post : Option Value → zSt → Prop} (E : zCtx G M_Course_push (zKm G 5 X post) X) (v1 : Int32) (σ : zSt)
    (h : zZ G M_Course_push 5 X post 2 [(0, zf G 1), (1, .int v1), (2, .int (0 : Int32))] [] σ) :
    zZ G M_Course_push 5 X post 0 [(0, zf G 1), (1, .int v1)] [] σ := by
  refine z_iconst E (v := 0) d_Course_push_0 (by decide) ?_
  refine z_istore_n E [1, 2, 0] (lv' := [(0, zf G 1), (1, .int v1), (2, .int (0 : Int32))]) d_Course_push_1 rfl (by decide) rfl ?_
  exact h

set_option maxRecDepth 20000 in
set_option maxHeartbeats 4000000 in
theorem b_Course_push_2 {G : zG} {X : zX} {post : Option Value → zSt → Prop} (E : zCtx G M_Course_push (zKm G 5 X post) X) (v1 : Int32) (v2 : Int32) (σ : zSt)
    (h : (((σ 1 5) ≤ v2 → post none σ) ∧ (¬ (σ 1 5) ≤ v2 → ((¬ (σ 1 4) = 0 → ((¬ (σ 1 4) = (1 : Int32) → (∃ P : Bool → zSt → Prop, zB G 3 M_Course_keepInClusters [zf G 1, .int v1] σ P ∧ ∀ (b2 : Bool) (σ1 : zSt), P b2 σ1 → ((b2 = false → post none σ1) ∧ (b2 = true → (vp_in v1 12 ∧ (((σ1 24 v1.toNatClampNeg) < (σ1 1 5) → (∃ P : zSt → Prop, zV G 4 M_Course_enterNext [zf G 1, .int v1] σ1 P ∧ ∀ σ3 : zSt, P σ3 → zZ G M_Course_push 5 X post 2 [(0, zf G 1), (1, .int v1), (2, .int (v2 + 1))] [] σ3)) ∧ (¬ (σ1 24 v1.toNatClampNeg) < (σ1 1 5) → post none σ1))))))) ∧ ((σ 1 4) = (1 : Int32) → (∃ P : Bool → zSt → Prop, zB G 2 M_Course_keepInTree [zf G 1, .int v1] σ P ∧ ∀ (b5 : Bool) (σ4 : zSt), P b5 σ4 → ((b5 = false → post none σ4) ∧ (b5 = true → (vp_in v1 12 ∧ (((σ4 24 v1.toNatClampNeg) < (σ4 1 5) → (∃ P : zSt → Prop, zV G 4 M_Course_enterNext [zf G 1, .int v1] σ4 P ∧ ∀ σ6 : zSt, P σ6 → zZ G M_Course_push 5 X post 2 [(0, zf G 1), (1, .int v1), (2, .int (v2 + 1))] [] σ6)) ∧ (¬ (σ4 24 v1.toNatClampNeg) < (σ4 1 5) → post none σ4))))))))) ∧ ((σ 1 4) = 0 → (∃ P : Bool → zSt → Prop, zB G 2 M_Course_keepWithAll [zf G 1, .int v1] σ P ∧ ∀ (b8 : Bool) (σ7 : zSt), P b8 σ7 → ((b8 = false → post none σ7) ∧ (b8 = true → (vp_in v1 12 ∧ (((σ7 24 v1.toNatClampNeg) < (σ7 1 5) → (∃ P : zSt → Prop, zV G 4 M_Course_enterNext [zf G 1, .int v1] σ7 P ∧ ∀ σ9 : zSt, P σ9 → zZ G M_Course_push 5 X post 2 [(0, zf G 1), (1, .int v1), (2, .int (v2 + 1))] [] σ9)) ∧ (¬ (σ7 24 v1.toNatClampNeg) < (σ7 1 5) → post none σ7))))))))))) :
    zZ G M_Course_push 5 X post 2 [(0, zf G 1), (1, .int v1), (2, .int v2)] [] σ := by
  refine z_iload_n E 2 d_Course_push_2 rfl rfl ?_
  refine z_aload_n E 0 d_Course_push_3 rfl rfl ?_
  refine z_getI E f_Course_68 d_Course_push_4 ?_
  refine z_icmp_ge E d_Course_push_7 (tgt := 76) (by decide) ⟨fun q => ?_, fun q => ?_⟩
  · replace h := h.1 q
    exact z_return E rfl d_Course_push_76 h
  · replace h := h.2 q
    refine z_aload_n E 0 d_Course_push_10 rfl rfl ?_
    refine z_getI E f_Course_64 d_Course_push_11 ?_
    refine z_if_ne E d_Course_push_14 (tgt := 25) (by decide) ⟨fun q => ?_, fun q => ?_⟩
    · replace h := h.1 q
      refine z_aload_n E 0 d_Course_push_25 rfl rfl ?_
      refine z_getI E f_Course_64 d_Course_push_26 ?_
      refine z_iconst E (v := 1) d_Course_push_29 (by decide) ?_
      refine z_icmp_ne E d_Course_push_30 (tgt := 41) (by decide) ⟨fun q => ?_, fun q => ?_⟩
      · replace h := h.1 q
        refine z_aload_n E 0 d_Course_push_41 rfl rfl ?_
        refine z_iload_n E 1 d_Course_push_42 rfl rfl ?_
        obtain ⟨P, hM, h⟩ := h
        refine z_callVB [.int v1] [] E hM c_Course_166 r_Course_keepInClusters rfl zrm rfl (Nat.le_of_ble_eq_true rfl) d_Course_push_43 (fun b2 σ1 hp => ?_)
        replace h := h b2 σ1 hp
        refine z_istore_n E [1, 2, 3, 0] (lv' := [(0, zf G 1), (1, .int v1), (2, .int v2), (3, .int (zb b2))]) d_Course_push_46 rfl (by decide) rfl ?_
        refine z_iload_n E 3 d_Course_push_47 rfl rfl ?_
        refine z_ifz_eq E d_Course_push_48 (tgt := 64) (by decide) ⟨fun q => ?_, fun q => ?_⟩
        · replace h := h.1 q
          exact z_return E rfl d_Course_push_64 h
        · replace h := h.2 q
          refine z_aload_n E 0 d_Course_push_51 rfl rfl ?_
          refine z_getR E f_Course_39 d_Course_push_52 ?_
          refine z_iload_n E 1 d_Course_push_55 rfl rfl ?_
          obtain ⟨h0, h⟩ := h
          refine z_iald E rfl d_Course_push_56 ⟨h0, ?_⟩
          refine z_aload_n E 0 d_Course_push_57 rfl rfl ?_
          refine z_getI E f_Course_68 d_Course_push_58 ?_
          refine z_icmp_lt E d_Course_push_61 (tgt := 65) (by decide) ⟨fun q => ?_, fun q => ?_⟩
          · replace h := h.1 q
            refine z_aload_n E 0 d_Course_push_65 rfl rfl ?_
            refine z_iload_n E 1 d_Course_push_66 rfl rfl ?_
            obtain ⟨P, hM, h⟩ := h
            refine z_callVV [.int v1] [] E hM c_Course_91 r_Course_enterNext rfl zrm rfl (Nat.le_of_ble_eq_true rfl) d_Course_push_67 (fun σ3 hp => ?_)
            replace h := h σ3 hp
            refine z_iinc E 2 [1, 2, 0, 3] (v := v2 + 1) (lv' := [(0, zf G 1), (1, .int v1), (2, .int (v2 + 1)), (3, .int (zb b2))]) d_Course_push_70 rfl rfl (by decide) rfl ?_
            refine z_goto E d_Course_push_73 (tgt := 2) (by decide) ?_
            refine zZ.sub [0, 1, 2] (lv' := [(0, zf G 1), (1, .int v1), (2, .int (v2 + 1))]) rfl ?_
            exact h
          · replace h := h.2 q
            exact z_return E rfl d_Course_push_64 h
      · replace h := h.2 q
        refine z_aload_n E 0 d_Course_push_33 rfl rfl ?_
        refine z_iload_n E 1 d_Course_push_34 rfl rfl ?_
        obtain ⟨P, hM, h⟩ := h
        refine z_callVB [.int v1] [] E hM c_Course_163 r_Course_keepInTree rfl zrm rfl (Nat.le_of_ble_eq_true rfl) d_Course_push_35 (fun b5 σ4 hp => ?_)
        replace h := h b5 σ4 hp
        refine z_goto E d_Course_push_38 (tgt := 46) (by decide) ?_
        refine z_istore_n E [1, 2, 3, 0] (lv' := [(0, zf G 1), (1, .int v1), (2, .int v2), (3, .int (zb b5))]) d_Course_push_46 rfl (by decide) rfl ?_
        refine z_iload_n E 3 d_Course_push_47 rfl rfl ?_
        refine z_ifz_eq E d_Course_push_48 (tgt := 64) (by decide) ⟨fun q => ?_, fun q => ?_⟩
        · replace h := h.1 q
          exact z_return E rfl d_Course_push_64 h
        · replace h := h.2 q
          refine z_aload_n E 0 d_Course_push_51 rfl rfl ?_
          refine z_getR E f_Course_39 d_Course_push_52 ?_
          refine z_iload_n E 1 d_Course_push_55 rfl rfl ?_
          obtain ⟨h0, h⟩ := h
          refine z_iald E rfl d_Course_push_56 ⟨h0, ?_⟩
          refine z_aload_n E 0 d_Course_push_57 rfl rfl ?_
          refine z_getI E f_Course_68 d_Course_push_58 ?_
          refine z_icmp_lt E d_Course_push_61 (tgt := 65) (by decide) ⟨fun q => ?_, fun q => ?_⟩
          · replace h := h.1 q
            refine z_aload_n E 0 d_Course_push_65 rfl rfl ?_
            refine z_iload_n E 1 d_Course_push_66 rfl rfl ?_
            obtain ⟨P, hM, h⟩ := h
            refine z_callVV [.int v1] [] E hM c_Course_91 r_Course_enterNext rfl zrm rfl (Nat.le_of_ble_eq_true rfl) d_Course_push_67 (fun σ6 hp => ?_)
            replace h := h σ6 hp
            refine z_iinc E 2 [1, 2, 0, 3] (v := v2 + 1) (lv' := [(0, zf G 1), (1, .int v1), (2, .int (v2 + 1)), (3, .int (zb b5))]) d_Course_push_70 rfl rfl (by decide) rfl ?_
            refine z_goto E d_Course_push_73 (tgt := 2) (by decide) ?_
            refine zZ.sub [0, 1, 2] (lv' := [(0, zf G 1), (1, .int v1), (2, .int (v2 + 1))]) rfl ?_
            exact h
          · replace h := h.2 q
            exact z_return E rfl d_Course_push_64 h
    · replace h := h.2 q
      refine z_aload_n E 0 d_Course_push_17 rfl rfl ?_
      refine z_iload_n E 1 d_Course_push_18 rfl rfl ?_
      obtain ⟨P, hM, h⟩ := h
      refine z_callVB [.int v1] [] E hM c_Course_159 r_Course_keepWithAll rfl zrm rfl (Nat.le_of_ble_eq_true rfl) d_Course_push_19 (fun b8 σ7 hp => ?_)
      replace h := h b8 σ7 hp
      refine z_goto E d_Course_push_22 (tgt := 46) (by decide) ?_
      refine z_istore_n E [1, 2, 3, 0] (lv' := [(0, zf G 1), (1, .int v1), (2, .int v2), (3, .int (zb b8))]) d_Course_push_46 rfl (by decide) rfl ?_
      refine z_iload_n E 3 d_Course_push_47 rfl rfl ?_
      refine z_ifz_eq E d_Course_push_48 (tgt := 64) (by decide) ⟨fun q => ?_, fun q => ?_⟩
      · replace h := h.1 q
        exact z_return E rfl d_Course_push_64 h
      · replace h := h.2 q
        refine z_aload_n E 0 d_Course_push_51 rfl rfl ?_
        refine z_getR E f_Course_39 d_Course_push_52 ?_
        refine z_iload_n E 1 d_Course_push_55 rfl rfl ?_
        obtain ⟨h0, h⟩ := h
        refine z_iald E rfl d_Course_push_56 ⟨h0, ?_⟩
        refine z_aload_n E 0 d_Course_push_57 rfl rfl ?_
        refine z_getI E f_Course_68 d_Course_push_58 ?_
        refine z_icmp_lt E d_Course_push_61 (tgt := 65) (by decide) ⟨fun q => ?_, fun q => ?_⟩
        · replace h := h.1 q
          refine z_aload_n E 0 d_Course_push_65 rfl rfl ?_
          refine z_iload_n E 1 d_Course_push_66 rfl rfl ?_
          obtain ⟨P, hM, h⟩ := h
          refine z_callVV [.int v1] [] E hM c_Course_91 r_Course_enterNext rfl zrm rfl (Nat.le_of_ble_eq_true rfl) d_Course_push_67 (fun σ9 hp => ?_)
          replace h := h σ9 hp
          refine z_iinc E 2 [1, 2, 0, 3] (v := v2 + 1) (lv' := [(0, zf G 1), (1, .int v1), (2, .int (v2 + 1)), (3, .int (zb b8))]) d_Course_push_70 rfl rfl (by decide) rfl ?_
          refine z_goto E d_Course_push_73 (tgt := 2) (by decide) ?_
          refine zZ.sub [0, 1, 2] (lv' := [(0, zf G 1), (1, .int v1), (2, .int (v2 + 1))]) rfl ?_
          exact h
        · replace h := h.2 q
          exact z_return E rfl d_Course_push_64 h

set_option maxRecDepth 20000 in
set_option maxHeartbeats 4000000 in
theorem b_Course_enterNext_0 {G : zG} {X : zX} {post : Option Value → zSt → Prop} (E : zCtx G M_Course_enterNext (zKm G 4 X post) X) (v1 : Int32) (σ : zSt)
    (h : (vp_in v1 12 ∧ (vp_in v1 12 ∧ ∀ σ1 : zSt, σ1 = zup σ 24 v1.toNatClampNeg ((σ 24 v1.toNatClampNeg) + (1 : Int32)) → (vp_in v1 12 ∧ ∀ σ2 : zSt, σ2 = zup σ1 25 v1.toNatClampNeg (0 : Int32) → (vp_in v1 12 ∧ ∀ σ3 : zSt, σ3 = zup σ2 27 v1.toNatClampNeg (0 : Int32) → (vp_in v1 12 ∧ ∀ σ4 : zSt, σ4 = zup σ3 28 v1.toNatClampNeg (0 : Int32) → (vp_in (((((σ 24 v1.toNatClampNeg) + (1 : Int32)) - (1 : Int32)) &&& (1 : Int32)) * 12 + v1) 24 ∧ ∀ σ5 : zSt, σ5 = zup σ4 29 (((((σ 24 v1.toNatClampNeg) + (1 : Int32)) - (1 : Int32)) &&& (1 : Int32)) * 12 + v1).toNatClampNeg (0 : Int32) → ((((σ 24 v1.toNatClampNeg) + (1 : Int32)) ≤ (1 : Int32) → zZ G M_Course_enterNext 4 X post 74 [(0, zf G 1), (1, .int v1), (2, .int ((σ 24 v1.toNatClampNeg) + (1 : Int32)))] [] σ5) ∧ (¬ ((σ 24 v1.toNatClampNeg) + (1 : Int32)) ≤ (1 : Int32) → (vp_in v1 12 ∧ (∃ P : zSt → Prop, zV G 1 M_Course_send [zf G 1, .int (4 : Int32), .int v1, .int (σ5 13 v1.toNatClampNeg), .int ((σ 24 v1.toNatClampNeg) + (1 : Int32)), .int (0 : Int32)] σ5 P ∧ ∀ σ6 : zSt, P σ6 → zZ G M_Course_enterNext 4 X post 74 [(0, zf G 1), (1, .int v1), (2, .int ((σ 24 v1.toNatClampNeg) + (1 : Int32)))] [] σ6))))))))))) :
    zZ G M_Course_enterNext 4 X post 0 [(0, zf G 1), (1, .int v1)] [] σ := by
  refine z_aload_n E 0 d_Course_enterNext_0 rfl rfl ?_
  refine z_getR E f_Course_39 d_Course_enterNext_1 ?_
  refine z_iload_n E 1 d_Course_enterNext_4 rfl rfl ?_
  obtain ⟨h0, h⟩ := h
  refine z_iald E rfl d_Course_enterNext_5 ⟨h0, ?_⟩
  refine z_iconst E (v := 1) d_Course_enterNext_6 (by decide) ?_
  refine z_iadd E d_Course_enterNext_7 ?_
  refine z_istore_n E [1, 2, 0] (lv' := [(0, zf G 1), (1, .int v1), (2, .int ((σ 24 v1.toNatClampNeg) + (1 : Int32)))]) d_Course_enterNext_8 rfl (by decide) rfl ?_
  refine z_aload_n E 0 d_Course_enterNext_9 rfl rfl ?_
  refine z_getR E f_Course_39 d_Course_enterNext_10 ?_
  refine z_iload_n E 1 d_Course_enterNext_13 rfl rfl ?_
  refine z_iload_n E 2 d_Course_enterNext_14 rfl rfl ?_
  obtain ⟨h0, h⟩ := h
  refine z_iast E rfl d_Course_enterNext_15 ⟨h0, fun σ1 e => ?_⟩
  replace h := h σ1 e
  refine z_aload_n E 0 d_Course_enterNext_16 rfl rfl ?_
  refine z_getR E f_Course_43 d_Course_enterNext_17 ?_
  refine z_iload_n E 1 d_Course_enterNext_20 rfl rfl ?_
  refine z_iconst E (v := 0) d_Course_enterNext_21 (by decide) ?_
  obtain ⟨h0, h⟩ := h
  refine z_iast E rfl d_Course_enterNext_22 ⟨h0, fun σ2 e => ?_⟩
  replace h := h σ2 e
  refine z_aload_n E 0 d_Course_enterNext_23 rfl rfl ?_
  refine z_getR E f_Course_49 d_Course_enterNext_24 ?_
  refine z_iload_n E 1 d_Course_enterNext_27 rfl rfl ?_
  refine z_iconst E (v := 0) d_Course_enterNext_28 (by decide) ?_
  obtain ⟨h0, h⟩ := h
  refine z_iast E rfl d_Course_enterNext_29 ⟨h0, fun σ3 e => ?_⟩
  replace h := h σ3 e
  refine z_aload_n E 0 d_Course_enterNext_30 rfl rfl ?_
  refine z_getR E f_Course_52 d_Course_enterNext_31 ?_
  refine z_iload_n E 1 d_Course_enterNext_34 rfl rfl ?_
  refine z_iconst E (v := 0) d_Course_enterNext_35 (by decide) ?_
  obtain ⟨h0, h⟩ := h
  refine z_iast E rfl d_Course_enterNext_36 ⟨h0, fun σ4 e => ?_⟩
  replace h := h σ4 e
  refine z_aload_n E 0 d_Course_enterNext_37 rfl rfl ?_
  refine z_getR E f_Course_55 d_Course_enterNext_38 ?_
  refine z_iload_n E 2 d_Course_enterNext_41 rfl rfl ?_
  refine z_iconst E (v := 1) d_Course_enterNext_42 (by decide) ?_
  refine z_isub E d_Course_enterNext_43 ?_
  refine z_iconst E (v := 1) d_Course_enterNext_44 (by decide) ?_
  refine z_iand E d_Course_enterNext_45 ?_
  refine z_iload_n E 1 d_Course_enterNext_46 rfl rfl ?_
  refine z_callSIp [.int ((((σ 24 v1.toNatClampNeg) + (1 : Int32)) - (1 : Int32)) &&& (1 : Int32)), .int v1] [zf G 29] E (p_P_at G σ4 ((((σ 24 v1.toNatClampNeg) + (1 : Int32)) - (1 : Int32)) &&& (1 : Int32)) v1) c_Course_84 st_P_at rfl zrm rfl (Nat.le_of_ble_eq_true rfl) d_Course_enterNext_47 ?_
  refine z_iconst E (v := 0) d_Course_enterNext_50 (by decide) ?_
  obtain ⟨h0, h⟩ := h
  refine z_iast E rfl d_Course_enterNext_51 ⟨h0, fun σ5 e => ?_⟩
  replace h := h σ5 e
  refine z_iload_n E 2 d_Course_enterNext_52 rfl rfl ?_
  refine z_iconst E (v := 1) d_Course_enterNext_53 (by decide) ?_
  refine z_icmp_le E d_Course_enterNext_54 (tgt := 74) (by decide) ⟨fun q => ?_, fun q => ?_⟩
  · replace h := h.1 q
    exact h
  · replace h := h.2 q
    refine z_aload_n E 0 d_Course_enterNext_57 rfl rfl ?_
    refine z_iconst E (v := 4) d_Course_enterNext_58 (by decide) ?_
    refine z_iload_n E 1 d_Course_enterNext_59 rfl rfl ?_
    refine z_aload_n E 0 d_Course_enterNext_60 rfl rfl ?_
    refine z_getR E f_Course_21 d_Course_enterNext_61 ?_
    refine z_getR E f_Course_169 d_Course_enterNext_64 ?_
    refine z_iload_n E 1 d_Course_enterNext_67 rfl rfl ?_
    obtain ⟨h0, h⟩ := h
    refine z_iald E rfl d_Course_enterNext_68 ⟨h0, ?_⟩
    refine z_iload_n E 2 d_Course_enterNext_69 rfl rfl ?_
    refine z_iconst E (v := 0) d_Course_enterNext_70 (by decide) ?_
    obtain ⟨P, hM, h⟩ := h
    refine z_callVV [.int (4 : Int32), .int v1, .int (σ5 13 v1.toNatClampNeg), .int ((σ 24 v1.toNatClampNeg) + (1 : Int32)), .int (0 : Int32)] [] E hM c_Course_149 r_Course_send rfl zrm rfl (Nat.le_of_ble_eq_true rfl) d_Course_enterNext_71 (fun σ6 hp => ?_)
    replace h := h σ6 hp
    exact h

set_option maxRecDepth 20000 in
set_option maxHeartbeats 4000000 in
theorem b_Course_enterNext_74 {G : zG} {X : zX} {post : Option Value → zSt → Prop} (E : zCtx G M_Course_enterNext (zKm G 4 X post) X) (v1 : Int32) (v2 : Int32) (σ : zSt)
    (h : (∃ P : Int32 → zSt → Prop, zI G 3 M_Play_doRound [zf G 4, zf G 2, .int v1, .int v2] σ P ∧ ∀ (x2 : Int32) (σ1 : zSt), P x2 σ1 → (vp_in v1 12 ∧ (vp_in (v2 * 12 + v1) 252 ∧ ∀ σ3 : zSt, σ3 = zup σ1 30 (v2 * 12 + v1).toNatClampNeg (σ1 16 v1.toNatClampNeg) → ((x2 = (-2 : Int32) → post none σ3) ∧ (¬ x2 = (-2 : Int32) → (vp_in v1 12 ∧ (vp_in v1 12 ∧ ∀ σ4 : zSt, σ4 = zup σ3 26 v1.toNatClampNeg (zBc (σ3 7 v1.toNatClampNeg)) → (vp_in v1 12 ∧ (∃ P : zSt → Prop, zV G 1 M_Course_send [zf G 1, .int (0 : Int32), .int v1, .int (σ4 7 v1.toNatClampNeg), .int v2, .int x2] σ4 P ∧ ∀ σ5 : zSt, P σ5 → post none σ5)))))))))) :
    zZ G M_Course_enterNext 4 X post 74 [(0, zf G 1), (1, .int v1), (2, .int v2)] [] σ := by
  refine z_aload_n E 0 d_Course_enterNext_74 rfl rfl ?_
  refine z_getR E f_Course_28 d_Course_enterNext_75 ?_
  refine z_aload_n E 0 d_Course_enterNext_78 rfl rfl ?_
  refine z_getR E f_Course_12 d_Course_enterNext_79 ?_
  refine z_iload_n E 1 d_Course_enterNext_82 rfl rfl ?_
  refine z_iload_n E 2 d_Course_enterNext_83 rfl rfl ?_
  obtain ⟨P, hM, h⟩ := h
  refine z_callVI [zf G 2, .int v1, .int v2] [] E hM c_Course_113 r_Play_doRound rfl zrm rfl (Nat.le_of_ble_eq_true rfl) d_Course_enterNext_84 (fun x2 σ1 hp => ?_)
  replace h := h x2 σ1 hp
  refine z_istore_n E [1, 2, 3, 0] (lv' := [(0, zf G 1), (1, .int v1), (2, .int v2), (3, .int x2)]) d_Course_enterNext_87 rfl (by decide) rfl ?_
  refine z_aload_n E 0 d_Course_enterNext_88 rfl rfl ?_
  refine z_getR E f_Course_58 d_Course_enterNext_89 ?_
  refine z_iload_n E 2 d_Course_enterNext_92 rfl rfl ?_
  refine z_iload_n E 1 d_Course_enterNext_93 rfl rfl ?_
  refine z_callSIp [.int v2, .int v1] [zf G 30] E (p_P_at G σ1 v2 v1) c_Course_84 st_P_at rfl zrm rfl (Nat.le_of_ble_eq_true rfl) d_Course_enterNext_94 ?_
  refine z_aload_n E 0 d_Course_enterNext_97 rfl rfl ?_
  refine z_getR E f_Course_28 d_Course_enterNext_98 ?_
  refine z_getR E f_Course_88 d_Course_enterNext_101 ?_
  refine z_iload_n E 1 d_Course_enterNext_104 rfl rfl ?_
  obtain ⟨h0, h⟩ := h
  refine z_iald E rfl d_Course_enterNext_105 ⟨h0, ?_⟩
  obtain ⟨h0, h⟩ := h
  refine z_iast E rfl d_Course_enterNext_106 ⟨h0, fun σ3 e => ?_⟩
  replace h := h σ3 e
  refine z_iload_n E 3 d_Course_enterNext_107 rfl rfl ?_
  refine z_bipush E (v := -2) d_Course_enterNext_108 (by decide) ?_
  refine z_icmp_eq E d_Course_enterNext_110 (tgt := 148) (by decide) ⟨fun q => ?_, fun q => ?_⟩
  · replace h := h.1 q
    exact z_return E rfl d_Course_enterNext_148 h
  · replace h := h.2 q
    refine z_aload_n E 0 d_Course_enterNext_113 rfl rfl ?_
    refine z_getR E f_Course_46 d_Course_enterNext_114 ?_
    refine z_iload_n E 1 d_Course_enterNext_117 rfl rfl ?_
    refine z_aload_n E 0 d_Course_enterNext_118 rfl rfl ?_
    refine z_getR E f_Course_12 d_Course_enterNext_119 ?_
    refine z_getR E f_Course_121 d_Course_enterNext_122 ?_
    refine z_iload_n E 1 d_Course_enterNext_125 rfl rfl ?_
    obtain ⟨h0, h⟩ := h
    refine z_iald E rfl d_Course_enterNext_126 ⟨h0, ?_⟩
    refine z_callSIp [.int (σ3 7 v1.toNatClampNeg)] [.int v1, zf G 26] E (p_JInteger_bitCount G σ3 (σ3 7 v1.toNatClampNeg)) c_Course_172 st_JInteger_bitCount rfl zrm rfl (Nat.le_of_ble_eq_true rfl) d_Course_enterNext_127 ?_
    obtain ⟨h0, h⟩ := h
    refine z_iast E rfl d_Course_enterNext_130 ⟨h0, fun σ4 e => ?_⟩
    replace h := h σ4 e
    refine z_aload_n E 0 d_Course_enterNext_131 rfl rfl ?_
    refine z_iconst E (v := 0) d_Course_enterNext_132 (by decide) ?_
    refine z_iload_n E 1 d_Course_enterNext_133 rfl rfl ?_
    refine z_aload_n E 0 d_Course_enterNext_134 rfl rfl ?_
    refine z_getR E f_Course_12 d_Course_enterNext_135 ?_
    refine z_getR E f_Course_121 d_Course_enterNext_138 ?_
    refine z_iload_n E 1 d_Course_enterNext_141 rfl rfl ?_
    obtain ⟨h0, h⟩ := h
    refine z_iald E rfl d_Course_enterNext_142 ⟨h0, ?_⟩
    refine z_iload_n E 2 d_Course_enterNext_143 rfl rfl ?_
    refine z_iload_n E 3 d_Course_enterNext_144 rfl rfl ?_
    obtain ⟨P, hM, h⟩ := h
    refine z_callVV [.int (0 : Int32), .int v1, .int (σ4 7 v1.toNatClampNeg), .int v2, .int x2] [] E hM c_Course_149 r_Course_send rfl zrm rfl (Nat.le_of_ble_eq_true rfl) d_Course_enterNext_145 (fun σ5 hp => ?_)
    replace h := h σ5 hp
    exact z_return E rfl d_Course_enterNext_148 h

set_option maxRecDepth 20000 in
set_option maxHeartbeats 4000000 in
theorem b_Course_hasAllSafes_0 {G : zG} {X : zX} {post : Option Value → zSt → Prop} (E : zCtx G M_Course_hasAllSafes (zKm G 1 X post) X) (v1 : Int32) (σ : zSt)
    (h : (vp_in v1 12 ∧ (vp_in (((σ 24 v1.toNatClampNeg) &&& (1 : Int32)) * 12 + v1) 24 ∧ (vp_in v1 12 ∧ ((¬ (σ 29 (((σ 24 v1.toNatClampNeg) &&& (1 : Int32)) * 12 + v1).toNatClampNeg) = (zBc (σ 14 v1.toNatClampNeg)) → post (some (.int (0 : Int32))) σ) ∧ ((σ 29 (((σ 24 v1.toNatClampNeg) &&& (1 : Int32)) * 12 + v1).toNatClampNeg) = (zBc (σ 14 v1.toNatClampNeg)) → post (some (.int (1 : Int32))) σ)))))) :
    zZ G M_Course_hasAllSafes 1 X post 0 [(0, zf G 1), (1, .int v1)] [] σ := by
  refine z_aload_n E 0 d_Course_hasAllSafes_0 rfl rfl ?_
  refine z_getR E f_Course_55 d_Course_hasAllSafes_1 ?_
  refine z_aload_n E 0 d_Course_hasAllSafes_4 rfl rfl ?_
  refine z_getR E f_Course_39 d_Course_hasAllSafes_5 ?_
  refine z_iload_n E 1 d_Course_hasAllSafes_8 rfl rfl ?_
  obtain ⟨h0, h⟩ := h
  refine z_iald E rfl d_Course_hasAllSafes_9 ⟨h0, ?_⟩
  refine z_iconst E (v := 1) d_Course_hasAllSafes_10 (by decide) ?_
  refine z_iand E d_Course_hasAllSafes_11 ?_
  refine z_iload_n E 1 d_Course_hasAllSafes_12 rfl rfl ?_
  refine z_callSIp [.int ((σ 24 v1.toNatClampNeg) &&& (1 : Int32)), .int v1] [zf G 29] E (p_P_at G σ ((σ 24 v1.toNatClampNeg) &&& (1 : Int32)) v1) c_Course_84 st_P_at rfl zrm rfl (Nat.le_of_ble_eq_true rfl) d_Course_hasAllSafes_13 ?_
  obtain ⟨h0, h⟩ := h
  refine z_iald E rfl d_Course_hasAllSafes_16 ⟨h0, ?_⟩
  refine z_aload_n E 0 d_Course_hasAllSafes_17 rfl rfl ?_
  refine z_getR E f_Course_21 d_Course_hasAllSafes_18 ?_
  refine z_getR E f_Course_178 d_Course_hasAllSafes_21 ?_
  refine z_iload_n E 1 d_Course_hasAllSafes_24 rfl rfl ?_
  obtain ⟨h0, h⟩ := h
  refine z_iald E rfl d_Course_hasAllSafes_25 ⟨h0, ?_⟩
  refine z_callSIp [.int (σ 14 v1.toNatClampNeg)] [.int (σ 29 (((σ 24 v1.toNatClampNeg) &&& (1 : Int32)) * 12 + v1).toNatClampNeg)] E (p_JInteger_bitCount G σ (σ 14 v1.toNatClampNeg)) c_Course_172 st_JInteger_bitCount rfl zrm rfl (Nat.le_of_ble_eq_true rfl) d_Course_hasAllSafes_26 ?_
  refine z_icmp_ne E d_Course_hasAllSafes_29 (tgt := 36) (by decide) ⟨fun q => ?_, fun q => ?_⟩
  · replace h := h.1 q
    refine z_iconst E (v := 0) d_Course_hasAllSafes_36 (by decide) ?_
    exact z_zreturn E rfl rfl d_Course_hasAllSafes_37 h
  · replace h := h.2 q
    refine z_iconst E (v := 1) d_Course_hasAllSafes_32 (by decide) ?_
    refine z_goto E d_Course_hasAllSafes_33 (tgt := 37) (by decide) ?_
    exact z_zreturn E rfl rfl d_Course_hasAllSafes_37 h

set_option maxRecDepth 20000 in
set_option maxHeartbeats 4000000 in
theorem b_Course_hasAllBelow_0 {G : zG} {X : zX} {post : Option Value → zSt → Prop} (E : zCtx G M_Course_hasAllBelow (zKm G 1 X post) X) (v2 : Int32) (ck : Nat) (hck : zS[ck]? = some (.inl (.int, 12))) (σ : zSt)
    (h : (vp_in v2 12 ∧ (vp_in v2 12 ∧ ((¬ (σ ck v2.toNatClampNeg) = (zBc (σ 13 v2.toNatClampNeg)) → post (some (.int (0 : Int32))) σ) ∧ ((σ ck v2.toNatClampNeg) = (zBc (σ 13 v2.toNatClampNeg)) → post (some (.int (1 : Int32))) σ))))) :
    zZ G M_Course_hasAllBelow 1 X post 0 [(0, zf G 1), (1, zf G ck), (2, .int v2)] [] σ := by
  refine z_aload_n E 1 d_Course_hasAllBelow_0 rfl rfl ?_
  refine z_iload_n E 2 d_Course_hasAllBelow_1 rfl rfl ?_
  obtain ⟨h0, h⟩ := h
  refine z_iald E hck d_Course_hasAllBelow_2 ⟨h0, ?_⟩
  refine z_aload_n E 0 d_Course_hasAllBelow_3 rfl rfl ?_
  refine z_getR E f_Course_21 d_Course_hasAllBelow_4 ?_
  refine z_getR E f_Course_169 d_Course_hasAllBelow_7 ?_
  refine z_iload_n E 2 d_Course_hasAllBelow_10 rfl rfl ?_
  obtain ⟨h0, h⟩ := h
  refine z_iald E rfl d_Course_hasAllBelow_11 ⟨h0, ?_⟩
  refine z_callSIp [.int (σ 13 v2.toNatClampNeg)] [.int (σ ck v2.toNatClampNeg)] E (p_JInteger_bitCount G σ (σ 13 v2.toNatClampNeg)) c_Course_172 st_JInteger_bitCount rfl zrm rfl (Nat.le_of_ble_eq_true rfl) d_Course_hasAllBelow_12 ?_
  refine z_icmp_ne E d_Course_hasAllBelow_15 (tgt := 22) (by decide) ⟨fun q => ?_, fun q => ?_⟩
  · replace h := h.1 q
    refine z_iconst E (v := 0) d_Course_hasAllBelow_22 (by decide) ?_
    exact z_zreturn E rfl rfl d_Course_hasAllBelow_23 h
  · replace h := h.2 q
    refine z_iconst E (v := 1) d_Course_hasAllBelow_18 (by decide) ?_
    refine z_goto E d_Course_hasAllBelow_19 (tgt := 23) (by decide) ?_
    exact z_zreturn E rfl rfl d_Course_hasAllBelow_23 h

