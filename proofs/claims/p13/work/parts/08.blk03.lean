set_option maxRecDepth 20000 in
set_option maxHeartbeats 4000000 in
theorem b_Frame_chooseLinks_0 {G : zG} {X : zX} {post : Option Value → zSt → Prop} (E : zCtx G M_Frame_chooseLinks (zKm G 1 X post) X)  (σ : zSt)
    (h : zZ G M_Frame_chooseLinks 1 X post 2 [(0, zf G 3), (1, zf G 2), (2, .int (0 : Int32))] [] σ) :
    zZ G M_Frame_chooseLinks 1 X post 0 [(0, zf G 3), (1, zf G 2)] [] σ := by
  refine z_iconst E (v := 0) d_Frame_chooseLinks_0 (by decide) ?_
  refine z_istore_n E [1, 2, 0] (lv' := [(0, zf G 3), (1, zf G 2), (2, .int (0 : Int32))]) d_Frame_chooseLinks_1 rfl (by decide) rfl ?_
  exact h

set_option maxRecDepth 20000 in
set_option maxHeartbeats 4000000 in
theorem b_Frame_chooseLinks_2 {G : zG} {X : zX} {post : Option Value → zSt → Prop} (E : zCtx G M_Frame_chooseLinks (zKm G 1 X post) X) (v2 : Int32) (σ : zSt)
    (h : (((σ 2 0) ≤ v2 → post none σ) ∧ (¬ (σ 2 0) ≤ v2 → zZ G M_Frame_chooseLinks 1 X post 14 [(0, zf G 3), (1, zf G 2), (2, .int v2), (3, .int (v2 + (1 : Int32)))] [] σ))) :
    zZ G M_Frame_chooseLinks 1 X post 2 [(0, zf G 3), (1, zf G 2), (2, .int v2)] [] σ := by
  refine z_iload_n E 2 d_Frame_chooseLinks_2 rfl rfl ?_
  refine z_aload_n E 1 d_Frame_chooseLinks_3 rfl rfl ?_
  refine z_getI E f_Frame_70 d_Frame_chooseLinks_4 ?_
  refine z_icmp_ge E d_Frame_chooseLinks_7 (tgt := 103) (by decide) ⟨fun q => ?_, fun q => ?_⟩
  · replace h := h.1 q
    exact z_return E rfl d_Frame_chooseLinks_103 h
  · replace h := h.2 q
    refine z_iload_n E 2 d_Frame_chooseLinks_10 rfl rfl ?_
    refine z_iconst E (v := 1) d_Frame_chooseLinks_11 (by decide) ?_
    refine z_iadd E d_Frame_chooseLinks_12 ?_
    refine z_istore_n E [1, 2, 3, 0] (lv' := [(0, zf G 3), (1, zf G 2), (2, .int v2), (3, .int (v2 + (1 : Int32)))]) d_Frame_chooseLinks_13 rfl (by decide) rfl ?_
    exact h

set_option maxRecDepth 20000 in
set_option maxHeartbeats 4000000 in
theorem b_Frame_chooseLinks_14 {G : zG} {X : zX} {post : Option Value → zSt → Prop} (E : zCtx G M_Frame_chooseLinks (zKm G 1 X post) X) (v2 : Int32) (v3 : Int32) (σ : zSt)
    (h : (((σ 2 0) ≤ v3 → zZ G M_Frame_chooseLinks 1 X post 2 [(0, zf G 3), (1, zf G 2), (2, .int (v2 + 1))] [] σ) ∧ (¬ (σ 2 0) ≤ v3 → (vp_in v2 12 ∧ (vp_in v3 12 ∧ (((σ 9 v2.toNatClampNeg) = (σ 9 v3.toNatClampNeg) → zZ G M_Frame_chooseLinks 1 X post 14 [(0, zf G 3), (1, zf G 2), (2, .int v2), (3, .int (v3 + 1))] [] σ) ∧ (¬ (σ 9 v2.toNatClampNeg) = (σ 9 v3.toNatClampNeg) → (vp_in v2 12 ∧ (vp_in (σ 9 v2.toNatClampNeg) 12 ∧ (vp_in v3 12 ∧ (((zIn (σ 15 (σ 9 v2.toNatClampNeg).toNatClampNeg) (σ 9 v3.toNatClampNeg)) = true → zZ G M_Frame_chooseLinks 1 X post 14 [(0, zf G 3), (1, zf G 2), (2, .int v2), (3, .int (v3 + 1))] [] σ) ∧ ((zIn (σ 15 (σ 9 v2.toNatClampNeg).toNatClampNeg) (σ 9 v3.toNatClampNeg)) = false → (vp_in v2 12 ∧ (((zIn (σ 7 v2.toNatClampNeg) v3) = false → zZ G M_Frame_chooseLinks 1 X post 14 [(0, zf G 3), (1, zf G 2), (2, .int v2), (3, .int (v3 + 1))] [] σ) ∧ ((zIn (σ 7 v2.toNatClampNeg) v3) = true → (∃ P : zSt → Prop, zV G 0 M_Frame_choose [zf G 3, .int v2, .int v3] σ P ∧ ∀ σ1 : zSt, P σ1 → zZ G M_Frame_chooseLinks 1 X post 14 [(0, zf G 3), (1, zf G 2), (2, .int v2), (3, .int (v3 + 1))] [] σ1)))))))))))))))) :
    zZ G M_Frame_chooseLinks 1 X post 14 [(0, zf G 3), (1, zf G 2), (2, .int v2), (3, .int v3)] [] σ := by
  refine z_iload_n E 3 d_Frame_chooseLinks_14 rfl rfl ?_
  refine z_aload_n E 1 d_Frame_chooseLinks_15 rfl rfl ?_
  refine z_getI E f_Frame_70 d_Frame_chooseLinks_16 ?_
  refine z_icmp_ge E d_Frame_chooseLinks_19 (tgt := 97) (by decide) ⟨fun q => ?_, fun q => ?_⟩
  · replace h := h.1 q
    refine z_iinc E 2 [1, 2, 0, 3] (v := v2 + 1) (lv' := [(0, zf G 3), (1, zf G 2), (2, .int (v2 + 1)), (3, .int v3)]) d_Frame_chooseLinks_97 rfl rfl (by decide) rfl ?_
    refine z_goto E d_Frame_chooseLinks_100 (tgt := 2) (by decide) ?_
    refine zZ.sub [0, 1, 2] (lv' := [(0, zf G 3), (1, zf G 2), (2, .int (v2 + 1))]) rfl ?_
    exact h
  · replace h := h.2 q
    refine z_aload_n E 0 d_Frame_chooseLinks_22 rfl rfl ?_
    refine z_getR E f_Frame_9 d_Frame_chooseLinks_23 ?_
    refine z_iload_n E 2 d_Frame_chooseLinks_26 rfl rfl ?_
    obtain ⟨h0, h⟩ := h
    refine z_iald E rfl d_Frame_chooseLinks_27 ⟨h0, ?_⟩
    refine z_aload_n E 0 d_Frame_chooseLinks_28 rfl rfl ?_
    refine z_getR E f_Frame_9 d_Frame_chooseLinks_29 ?_
    refine z_iload_n E 3 d_Frame_chooseLinks_32 rfl rfl ?_
    obtain ⟨h0, h⟩ := h
    refine z_iald E rfl d_Frame_chooseLinks_33 ⟨h0, ?_⟩
    refine z_icmp_eq E d_Frame_chooseLinks_34 (tgt := 64) (by decide) ⟨fun q => ?_, fun q => ?_⟩
    · replace h := h.1 q
      refine z_iconst E (v := 0) d_Frame_chooseLinks_64 (by decide) ?_
      refine z_istore E [1, 2, 3, 4, 0] (lv' := [(0, zf G 3), (1, zf G 2), (2, .int v2), (3, .int v3), (4, .int (0 : Int32))]) d_Frame_chooseLinks_65 (by decide) rfl ?_
      refine z_iload E 4 d_Frame_chooseLinks_67 rfl ?_
      refine z_if_eq E d_Frame_chooseLinks_69 (tgt := 91) (by decide) ⟨fun _ => ?_, fun q => absurd q (by decide)⟩
      refine z_iinc E 3 [1, 2, 3, 0, 4] (v := v3 + 1) (lv' := [(0, zf G 3), (1, zf G 2), (2, .int v2), (3, .int (v3 + 1)), (4, .int (0 : Int32))]) d_Frame_chooseLinks_91 rfl rfl (by decide) rfl ?_
      refine z_goto E d_Frame_chooseLinks_94 (tgt := 14) (by decide) ?_
      refine zZ.sub [0, 1, 2, 3] (lv' := [(0, zf G 3), (1, zf G 2), (2, .int v2), (3, .int (v3 + 1))]) rfl ?_
      exact h
    · replace h := h.2 q
      refine z_aload_n E 0 d_Frame_chooseLinks_37 rfl rfl ?_
      refine z_getR E f_Frame_30 d_Frame_chooseLinks_38 ?_
      refine z_aload_n E 0 d_Frame_chooseLinks_41 rfl rfl ?_
      refine z_getR E f_Frame_9 d_Frame_chooseLinks_42 ?_
      refine z_iload_n E 2 d_Frame_chooseLinks_45 rfl rfl ?_
      obtain ⟨h0, h⟩ := h
      refine z_iald E rfl d_Frame_chooseLinks_46 ⟨h0, ?_⟩
      obtain ⟨h0, h⟩ := h
      refine z_iald E rfl d_Frame_chooseLinks_47 ⟨h0, ?_⟩
      refine z_aload_n E 0 d_Frame_chooseLinks_48 rfl rfl ?_
      refine z_getR E f_Frame_9 d_Frame_chooseLinks_49 ?_
      refine z_iload_n E 3 d_Frame_chooseLinks_52 rfl rfl ?_
      obtain ⟨h0, h⟩ := h
      refine z_iald E rfl d_Frame_chooseLinks_53 ⟨h0, ?_⟩
      refine z_callSBp [.int (σ 15 (σ 9 v2.toNatClampNeg).toNatClampNeg), .int (σ 9 v3.toNatClampNeg)] [] E (p_P_isIn G σ (σ 15 (σ 9 v2.toNatClampNeg).toNatClampNeg) (σ 9 v3.toNatClampNeg)) c_Frame_76 st_P_isIn rfl zrm rfl (Nat.le_of_ble_eq_true rfl) d_Frame_chooseLinks_54 ?_
      refine z_ifz_ne E d_Frame_chooseLinks_57 (tgt := 64) (by decide) ⟨fun q => ?_, fun q => ?_⟩
      · replace h := h.1 q
        refine z_iconst E (v := 0) d_Frame_chooseLinks_64 (by decide) ?_
        refine z_istore E [1, 2, 3, 4, 0] (lv' := [(0, zf G 3), (1, zf G 2), (2, .int v2), (3, .int v3), (4, .int (0 : Int32))]) d_Frame_chooseLinks_65 (by decide) rfl ?_
        refine z_iload E 4 d_Frame_chooseLinks_67 rfl ?_
        refine z_if_eq E d_Frame_chooseLinks_69 (tgt := 91) (by decide) ⟨fun _ => ?_, fun q => absurd q (by decide)⟩
        refine z_iinc E 3 [1, 2, 3, 0, 4] (v := v3 + 1) (lv' := [(0, zf G 3), (1, zf G 2), (2, .int v2), (3, .int (v3 + 1)), (4, .int (0 : Int32))]) d_Frame_chooseLinks_91 rfl rfl (by decide) rfl ?_
        refine z_goto E d_Frame_chooseLinks_94 (tgt := 14) (by decide) ?_
        refine zZ.sub [0, 1, 2, 3] (lv' := [(0, zf G 3), (1, zf G 2), (2, .int v2), (3, .int (v3 + 1))]) rfl ?_
        exact h
      · replace h := h.2 q
        refine z_iconst E (v := 1) d_Frame_chooseLinks_60 (by decide) ?_
        refine z_goto E d_Frame_chooseLinks_61 (tgt := 65) (by decide) ?_
        refine z_istore E [1, 2, 3, 4, 0] (lv' := [(0, zf G 3), (1, zf G 2), (2, .int v2), (3, .int v3), (4, .int (1 : Int32))]) d_Frame_chooseLinks_65 (by decide) rfl ?_
        refine z_iload E 4 d_Frame_chooseLinks_67 rfl ?_
        refine z_if_eq E d_Frame_chooseLinks_69 (tgt := 91) (by decide) ⟨fun q => absurd q (by decide), fun _ => ?_⟩
        refine z_aload_n E 1 d_Frame_chooseLinks_72 rfl rfl ?_
        refine z_getR E f_Frame_73 d_Frame_chooseLinks_73 ?_
        refine z_iload_n E 2 d_Frame_chooseLinks_76 rfl rfl ?_
        obtain ⟨h0, h⟩ := h
        refine z_iald E rfl d_Frame_chooseLinks_77 ⟨h0, ?_⟩
        refine z_iload_n E 3 d_Frame_chooseLinks_78 rfl rfl ?_
        refine z_callSBp [.int (σ 7 v2.toNatClampNeg), .int v3] [] E (p_P_isIn G σ (σ 7 v2.toNatClampNeg) v3) c_Frame_76 st_P_isIn rfl zrm rfl (Nat.le_of_ble_eq_true rfl) d_Frame_chooseLinks_79 ?_
        refine z_ifz_eq E d_Frame_chooseLinks_82 (tgt := 91) (by decide) ⟨fun q => ?_, fun q => ?_⟩
        · replace h := h.1 q
          refine z_iinc E 3 [1, 2, 3, 0, 4] (v := v3 + 1) (lv' := [(0, zf G 3), (1, zf G 2), (2, .int v2), (3, .int (v3 + 1)), (4, .int (1 : Int32))]) d_Frame_chooseLinks_91 rfl rfl (by decide) rfl ?_
          refine z_goto E d_Frame_chooseLinks_94 (tgt := 14) (by decide) ?_
          refine zZ.sub [0, 1, 2, 3] (lv' := [(0, zf G 3), (1, zf G 2), (2, .int v2), (3, .int (v3 + 1))]) rfl ?_
          exact h
        · replace h := h.2 q
          refine z_aload_n E 0 d_Frame_chooseLinks_85 rfl rfl ?_
          refine z_iload_n E 2 d_Frame_chooseLinks_86 rfl rfl ?_
          refine z_iload_n E 3 d_Frame_chooseLinks_87 rfl rfl ?_
          obtain ⟨P, hM, h⟩ := h
          refine z_callVV [.int v2, .int v3] [] E hM c_Frame_97 r_Frame_choose rfl zrm rfl (Nat.le_of_ble_eq_true rfl) d_Frame_chooseLinks_88 (fun σ1 hp => ?_)
          replace h := h σ1 hp
          refine z_iinc E 3 [1, 2, 3, 0, 4] (v := v3 + 1) (lv' := [(0, zf G 3), (1, zf G 2), (2, .int v2), (3, .int (v3 + 1)), (4, .int (1 : Int32))]) d_Frame_chooseLinks_91 rfl rfl (by decide) rfl ?_
          refine z_goto E d_Frame_chooseLinks_94 (tgt := 14) (by decide) ?_
          refine zZ.sub [0, 1, 2, 3] (lv' := [(0, zf G 3), (1, zf G 2), (2, .int v2), (3, .int (v3 + 1))]) rfl ?_
          exact h

set_option maxRecDepth 20000 in
set_option maxHeartbeats 4000000 in
theorem b_Frame_choose_0 {G : zG} {X : zX} {post : Option Value → zSt → Prop} (E : zCtx G M_Frame_choose (zKm G 0 X post) X) (v1 : Int32) (v2 : Int32) (σ : zSt)
    (h : (vp_in v1 12 ∧ (vp_in (σ 9 v1.toNatClampNeg) 12 ∧ (vp_in v2 12 ∧ (vp_in (σ 9 v1.toNatClampNeg) 12 ∧ ∀ σ1 : zSt, σ1 = zup σ 15 (σ 9 v1.toNatClampNeg).toNatClampNeg ((σ 15 (σ 9 v1.toNatClampNeg).toNatClampNeg) ||| ((1 : Int32) <<< ((σ 9 v2.toNatClampNeg) &&& 31))) → (vp_in v2 12 ∧ (vp_in (σ1 9 v2.toNatClampNeg) 12 ∧ (vp_in v1 12 ∧ (vp_in (σ1 9 v2.toNatClampNeg) 12 ∧ ∀ σ2 : zSt, σ2 = zup σ1 15 (σ1 9 v2.toNatClampNeg).toNatClampNeg ((σ1 15 (σ1 9 v2.toNatClampNeg).toNatClampNeg) ||| ((1 : Int32) <<< ((σ1 9 v1.toNatClampNeg) &&& 31))) → (vp_in v1 12 ∧ (vp_in v1 12 ∧ ∀ σ3 : zSt, σ3 = zup σ2 14 v1.toNatClampNeg ((σ2 14 v1.toNatClampNeg) ||| ((1 : Int32) <<< (v2 &&& 31))) → (vp_in v2 12 ∧ (vp_in v2 12 ∧ ∀ σ4 : zSt, σ4 = zup σ3 14 v2.toNatClampNeg ((σ3 14 v2.toNatClampNeg) ||| ((1 : Int32) <<< (v1 &&& 31))) → (∀ σ5 : zSt, σ5 = zup σ4 3 1 ((σ4 3 1) + (1 : Int32)) → post none σ5)))))))))))))) :
    zZ G M_Frame_choose 0 X post 0 [(0, zf G 3), (1, .int v1), (2, .int v2)] [] σ := by
  refine z_aload_n E 0 d_Frame_choose_0 rfl rfl ?_
  refine z_getR E f_Frame_30 d_Frame_choose_1 ?_
  refine z_aload_n E 0 d_Frame_choose_4 rfl rfl ?_
  refine z_getR E f_Frame_9 d_Frame_choose_5 ?_
  refine z_iload_n E 1 d_Frame_choose_8 rfl rfl ?_
  obtain ⟨h0, h⟩ := h
  refine z_iald E rfl d_Frame_choose_9 ⟨h0, ?_⟩
  refine z_dup2 E d_Frame_choose_10 rfl rfl ?_
  obtain ⟨h0, h⟩ := h
  refine z_iald E rfl d_Frame_choose_11 ⟨h0, ?_⟩
  refine z_iconst E (v := 1) d_Frame_choose_12 (by decide) ?_
  refine z_aload_n E 0 d_Frame_choose_13 rfl rfl ?_
  refine z_getR E f_Frame_9 d_Frame_choose_14 ?_
  refine z_iload_n E 2 d_Frame_choose_17 rfl rfl ?_
  obtain ⟨h0, h⟩ := h
  refine z_iald E rfl d_Frame_choose_18 ⟨h0, ?_⟩
  refine z_ishl E d_Frame_choose_19 ?_
  refine z_ior E d_Frame_choose_20 ?_
  obtain ⟨h0, h⟩ := h
  refine z_iast E rfl d_Frame_choose_21 ⟨h0, fun σ1 e => ?_⟩
  replace h := h σ1 e
  refine z_aload_n E 0 d_Frame_choose_22 rfl rfl ?_
  refine z_getR E f_Frame_30 d_Frame_choose_23 ?_
  refine z_aload_n E 0 d_Frame_choose_26 rfl rfl ?_
  refine z_getR E f_Frame_9 d_Frame_choose_27 ?_
  refine z_iload_n E 2 d_Frame_choose_30 rfl rfl ?_
  obtain ⟨h0, h⟩ := h
  refine z_iald E rfl d_Frame_choose_31 ⟨h0, ?_⟩
  refine z_dup2 E d_Frame_choose_32 rfl rfl ?_
  obtain ⟨h0, h⟩ := h
  refine z_iald E rfl d_Frame_choose_33 ⟨h0, ?_⟩
  refine z_iconst E (v := 1) d_Frame_choose_34 (by decide) ?_
  refine z_aload_n E 0 d_Frame_choose_35 rfl rfl ?_
  refine z_getR E f_Frame_9 d_Frame_choose_36 ?_
  refine z_iload_n E 1 d_Frame_choose_39 rfl rfl ?_
  obtain ⟨h0, h⟩ := h
  refine z_iald E rfl d_Frame_choose_40 ⟨h0, ?_⟩
  refine z_ishl E d_Frame_choose_41 ?_
  refine z_ior E d_Frame_choose_42 ?_
  obtain ⟨h0, h⟩ := h
  refine z_iast E rfl d_Frame_choose_43 ⟨h0, fun σ2 e => ?_⟩
  replace h := h σ2 e
  refine z_aload_n E 0 d_Frame_choose_44 rfl rfl ?_
  refine z_getR E f_Frame_27 d_Frame_choose_45 ?_
  refine z_iload_n E 1 d_Frame_choose_48 rfl rfl ?_
  refine z_dup2 E d_Frame_choose_49 rfl rfl ?_
  obtain ⟨h0, h⟩ := h
  refine z_iald E rfl d_Frame_choose_50 ⟨h0, ?_⟩
  refine z_iconst E (v := 1) d_Frame_choose_51 (by decide) ?_
  refine z_iload_n E 2 d_Frame_choose_52 rfl rfl ?_
  refine z_ishl E d_Frame_choose_53 ?_
  refine z_ior E d_Frame_choose_54 ?_
  obtain ⟨h0, h⟩ := h
  refine z_iast E rfl d_Frame_choose_55 ⟨h0, fun σ3 e => ?_⟩
  replace h := h σ3 e
  refine z_aload_n E 0 d_Frame_choose_56 rfl rfl ?_
  refine z_getR E f_Frame_27 d_Frame_choose_57 ?_
  refine z_iload_n E 2 d_Frame_choose_60 rfl rfl ?_
  refine z_dup2 E d_Frame_choose_61 rfl rfl ?_
  obtain ⟨h0, h⟩ := h
  refine z_iald E rfl d_Frame_choose_62 ⟨h0, ?_⟩
  refine z_iconst E (v := 1) d_Frame_choose_63 (by decide) ?_
  refine z_iload_n E 1 d_Frame_choose_64 rfl rfl ?_
  refine z_ishl E d_Frame_choose_65 ?_
  refine z_ior E d_Frame_choose_66 ?_
  obtain ⟨h0, h⟩ := h
  refine z_iast E rfl d_Frame_choose_67 ⟨h0, fun σ4 e => ?_⟩
  replace h := h σ4 e
  refine z_aload_n E 0 d_Frame_choose_68 rfl rfl ?_
  refine z_dup E d_Frame_choose_69 rfl ?_
  refine z_getI E f_Frame_61 d_Frame_choose_70 ?_
  refine z_iconst E (v := 1) d_Frame_choose_73 (by decide) ?_
  refine z_iadd E d_Frame_choose_74 ?_
  refine z_putI E w_Frame_61 d_Frame_choose_75 (fun σ5 e => ?_)
  replace h := h σ5 e
  exact z_return E rfl d_Frame_choose_78 h

set_option maxRecDepth 20000 in
set_option maxHeartbeats 4000000 in
theorem b_Net_clear_0 {G : zG} {X : zX} {post : Option Value → zSt → Prop} (E : zCtx G M_Net_clear (zKm G 1 X post) X) (v1 : Int32) (σ : zSt)
    (h : (∀ σ1 : zSt, σ1 = zup σ 2 0 v1 → (∀ σ2 : zSt, σ2 = zup σ1 2 1 (0 : Int32) → (∃ P : zSt → Prop, zV G 0 M_JArrays_fill [zf G 6, .int (0 : Int32)] σ2 P ∧ ∀ σ3 : zSt, P σ3 → (∃ P : zSt → Prop, zV G 0 M_JArrays_fill [zf G 7, .int (0 : Int32)] σ3 P ∧ ∀ σ4 : zSt, P σ4 → (∃ P : zSt → Prop, zV G 0 M_JArrays_fill [zf G 8, .int (0 : Int32)] σ4 P ∧ ∀ σ5 : zSt, P σ5 → post none σ5)))))) :
    zZ G M_Net_clear 1 X post 0 [(0, zf G 2), (1, .int v1)] [] σ := by
  refine z_aload_n E 0 d_Net_clear_0 rfl rfl ?_
  refine z_iload_n E 1 d_Net_clear_1 rfl rfl ?_
  refine z_putI E w_Net_21 d_Net_clear_2 (fun σ1 e => ?_)
  replace h := h σ1 e
  refine z_aload_n E 0 d_Net_clear_5 rfl rfl ?_
  refine z_iconst E (v := 0) d_Net_clear_6 (by decide) ?_
  refine z_putI E w_Net_25 d_Net_clear_7 (fun σ2 e => ?_)
  replace h := h σ2 e
  refine z_aload_n E 0 d_Net_clear_10 rfl rfl ?_
  refine z_getR E f_Net_9 d_Net_clear_11 ?_
  refine z_iconst E (v := 0) d_Net_clear_14 (by decide) ?_
  obtain ⟨P, hM, h⟩ := h
  refine z_callSV [zf G 6, .int (0 : Int32)] [] E hM c_Net_28 st_JArrays_fill rfl zrm rfl (Nat.le_of_ble_eq_true rfl) d_Net_clear_15 (fun σ3 hp => ?_)
  replace h := h σ3 hp
  refine z_aload_n E 0 d_Net_clear_18 rfl rfl ?_
  refine z_getR E f_Net_15 d_Net_clear_19 ?_
  refine z_iconst E (v := 0) d_Net_clear_22 (by decide) ?_
  obtain ⟨P, hM, h⟩ := h
  refine z_callSV [zf G 7, .int (0 : Int32)] [] E hM c_Net_28 st_JArrays_fill rfl zrm rfl (Nat.le_of_ble_eq_true rfl) d_Net_clear_23 (fun σ4 hp => ?_)
  replace h := h σ4 hp
  refine z_aload_n E 0 d_Net_clear_26 rfl rfl ?_
  refine z_getR E f_Net_18 d_Net_clear_27 ?_
  refine z_iconst E (v := 0) d_Net_clear_30 (by decide) ?_
  obtain ⟨P, hM, h⟩ := h
  refine z_callSV [zf G 8, .int (0 : Int32)] [] E hM c_Net_28 st_JArrays_fill rfl zrm rfl (Nat.le_of_ble_eq_true rfl) d_Net_clear_31 (fun σ5 hp => ?_)
  replace h := h σ5 hp
  exact z_return E rfl d_Net_clear_34 h

set_option maxRecDepth 20000 in
set_option maxHeartbeats 4000000 in
theorem b_Net_join_0 {G : zG} {X : zX} {post : Option Value → zSt → Prop} (E : zCtx G M_Net_join (zKm G 1 X post) X) (v1 : Int32) (v2 : Int32) (v3 : Int32) (σ : zSt)
    (h : (vp_in v1 12 ∧ (((zIn (σ 7 v1.toNatClampNeg) v2) = true → (vp_in v1 12 ∧ (vp_in v1 12 ∧ ∀ σ1 : zSt, σ1 = zup σ 7 v1.toNatClampNeg ((σ 7 v1.toNatClampNeg) ||| ((1 : Int32) <<< (v2 &&& 31))) → (vp_in v2 12 ∧ (vp_in v2 12 ∧ ∀ σ2 : zSt, σ2 = zup σ1 7 v2.toNatClampNeg ((σ1 7 v2.toNatClampNeg) ||| ((1 : Int32) <<< (v1 &&& 31))) → (vp_in (v1 * 12 + v2) 144 ∧ ∀ σ3 : zSt, σ3 = zup σ2 8 (v1 * 12 + v2).toNatClampNeg v3 → (vp_in (v2 * 12 + v1) 144 ∧ ∀ σ4 : zSt, σ4 = zup σ3 8 (v2 * 12 + v1).toNatClampNeg v3 → post none σ4))))))) ∧ ((zIn (σ 7 v1.toNatClampNeg) v2) = false → (∀ σ5 : zSt, σ5 = zup σ 2 1 ((σ 2 1) + (1 : Int32)) → (vp_in v1 12 ∧ (vp_in v1 12 ∧ ∀ σ6 : zSt, σ6 = zup σ5 7 v1.toNatClampNeg ((σ5 7 v1.toNatClampNeg) ||| ((1 : Int32) <<< (v2 &&& 31))) → (vp_in v2 12 ∧ (vp_in v2 12 ∧ ∀ σ7 : zSt, σ7 = zup σ6 7 v2.toNatClampNeg ((σ6 7 v2.toNatClampNeg) ||| ((1 : Int32) <<< (v1 &&& 31))) → (vp_in (v1 * 12 + v2) 144 ∧ ∀ σ8 : zSt, σ8 = zup σ7 8 (v1 * 12 + v2).toNatClampNeg v3 → (vp_in (v2 * 12 + v1) 144 ∧ ∀ σ9 : zSt, σ9 = zup σ8 8 (v2 * 12 + v1).toNatClampNeg v3 → post none σ9))))))))))) :
    zZ G M_Net_join 1 X post 0 [(0, zf G 2), (1, .int v1), (2, .int v2), (3, .int v3)] [] σ := by
  refine z_aload_n E 0 d_Net_join_0 rfl rfl ?_
  refine z_getR E f_Net_15 d_Net_join_1 ?_
  refine z_iload_n E 1 d_Net_join_4 rfl rfl ?_
  obtain ⟨h0, h⟩ := h
  refine z_iald E rfl d_Net_join_5 ⟨h0, ?_⟩
  refine z_iload_n E 2 d_Net_join_6 rfl rfl ?_
  refine z_callSBp [.int (σ 7 v1.toNatClampNeg), .int v2] [] E (p_P_isIn G σ (σ 7 v1.toNatClampNeg) v2) c_Net_34 st_P_isIn rfl zrm rfl (Nat.le_of_ble_eq_true rfl) d_Net_join_7 ?_
  refine z_ifz_ne E d_Net_join_10 (tgt := 23) (by decide) ⟨fun q => ?_, fun q => ?_⟩
  · replace h := h.1 q
    refine z_aload_n E 0 d_Net_join_23 rfl rfl ?_
    refine z_getR E f_Net_15 d_Net_join_24 ?_
    refine z_iload_n E 1 d_Net_join_27 rfl rfl ?_
    refine z_dup2 E d_Net_join_28 rfl rfl ?_
    obtain ⟨h0, h⟩ := h
    refine z_iald E rfl d_Net_join_29 ⟨h0, ?_⟩
    refine z_iconst E (v := 1) d_Net_join_30 (by decide) ?_
    refine z_iload_n E 2 d_Net_join_31 rfl rfl ?_
    refine z_ishl E d_Net_join_32 ?_
    refine z_ior E d_Net_join_33 ?_
    obtain ⟨h0, h⟩ := h
    refine z_iast E rfl d_Net_join_34 ⟨h0, fun σ1 e => ?_⟩
    replace h := h σ1 e
    refine z_aload_n E 0 d_Net_join_35 rfl rfl ?_
    refine z_getR E f_Net_15 d_Net_join_36 ?_
    refine z_iload_n E 2 d_Net_join_39 rfl rfl ?_
    refine z_dup2 E d_Net_join_40 rfl rfl ?_
    obtain ⟨h0, h⟩ := h
    refine z_iald E rfl d_Net_join_41 ⟨h0, ?_⟩
    refine z_iconst E (v := 1) d_Net_join_42 (by decide) ?_
    refine z_iload_n E 1 d_Net_join_43 rfl rfl ?_
    refine z_ishl E d_Net_join_44 ?_
    refine z_ior E d_Net_join_45 ?_
    obtain ⟨h0, h⟩ := h
    refine z_iast E rfl d_Net_join_46 ⟨h0, fun σ2 e => ?_⟩
    replace h := h σ2 e
    refine z_aload_n E 0 d_Net_join_47 rfl rfl ?_
    refine z_getR E f_Net_18 d_Net_join_48 ?_
    refine z_iload_n E 1 d_Net_join_51 rfl rfl ?_
    refine z_iload_n E 2 d_Net_join_52 rfl rfl ?_
    refine z_callSIp [.int v1, .int v2] [zf G 8] E (p_P_at G σ2 v1 v2) c_Net_38 st_P_at rfl zrm rfl (Nat.le_of_ble_eq_true rfl) d_Net_join_53 ?_
    refine z_iload_n E 3 d_Net_join_56 rfl rfl ?_
    obtain ⟨h0, h⟩ := h
    refine z_iast E rfl d_Net_join_57 ⟨h0, fun σ3 e => ?_⟩
    replace h := h σ3 e
    refine z_aload_n E 0 d_Net_join_58 rfl rfl ?_
    refine z_getR E f_Net_18 d_Net_join_59 ?_
    refine z_iload_n E 2 d_Net_join_62 rfl rfl ?_
    refine z_iload_n E 1 d_Net_join_63 rfl rfl ?_
    refine z_callSIp [.int v2, .int v1] [zf G 8] E (p_P_at G σ3 v2 v1) c_Net_38 st_P_at rfl zrm rfl (Nat.le_of_ble_eq_true rfl) d_Net_join_64 ?_
    refine z_iload_n E 3 d_Net_join_67 rfl rfl ?_
    obtain ⟨h0, h⟩ := h
    refine z_iast E rfl d_Net_join_68 ⟨h0, fun σ4 e => ?_⟩
    replace h := h σ4 e
    exact z_return E rfl d_Net_join_69 h
  · replace h := h.2 q
    refine z_aload_n E 0 d_Net_join_13 rfl rfl ?_
    refine z_dup E d_Net_join_14 rfl ?_
    refine z_getI E f_Net_25 d_Net_join_15 ?_
    refine z_iconst E (v := 1) d_Net_join_18 (by decide) ?_
    refine z_iadd E d_Net_join_19 ?_
    refine z_putI E w_Net_25 d_Net_join_20 (fun σ5 e => ?_)
    replace h := h σ5 e
    refine z_aload_n E 0 d_Net_join_23 rfl rfl ?_
    refine z_getR E f_Net_15 d_Net_join_24 ?_
    refine z_iload_n E 1 d_Net_join_27 rfl rfl ?_
    refine z_dup2 E d_Net_join_28 rfl rfl ?_
    obtain ⟨h0, h⟩ := h
    refine z_iald E rfl d_Net_join_29 ⟨h0, ?_⟩
    refine z_iconst E (v := 1) d_Net_join_30 (by decide) ?_
    refine z_iload_n E 2 d_Net_join_31 rfl rfl ?_
    refine z_ishl E d_Net_join_32 ?_
    refine z_ior E d_Net_join_33 ?_
    obtain ⟨h0, h⟩ := h
    refine z_iast E rfl d_Net_join_34 ⟨h0, fun σ6 e => ?_⟩
    replace h := h σ6 e
    refine z_aload_n E 0 d_Net_join_35 rfl rfl ?_
    refine z_getR E f_Net_15 d_Net_join_36 ?_
    refine z_iload_n E 2 d_Net_join_39 rfl rfl ?_
    refine z_dup2 E d_Net_join_40 rfl rfl ?_
    obtain ⟨h0, h⟩ := h
    refine z_iald E rfl d_Net_join_41 ⟨h0, ?_⟩
    refine z_iconst E (v := 1) d_Net_join_42 (by decide) ?_
    refine z_iload_n E 1 d_Net_join_43 rfl rfl ?_
    refine z_ishl E d_Net_join_44 ?_
    refine z_ior E d_Net_join_45 ?_
    obtain ⟨h0, h⟩ := h
    refine z_iast E rfl d_Net_join_46 ⟨h0, fun σ7 e => ?_⟩
    replace h := h σ7 e
    refine z_aload_n E 0 d_Net_join_47 rfl rfl ?_
    refine z_getR E f_Net_18 d_Net_join_48 ?_
    refine z_iload_n E 1 d_Net_join_51 rfl rfl ?_
    refine z_iload_n E 2 d_Net_join_52 rfl rfl ?_
    refine z_callSIp [.int v1, .int v2] [zf G 8] E (p_P_at G σ7 v1 v2) c_Net_38 st_P_at rfl zrm rfl (Nat.le_of_ble_eq_true rfl) d_Net_join_53 ?_
    refine z_iload_n E 3 d_Net_join_56 rfl rfl ?_
    obtain ⟨h0, h⟩ := h
    refine z_iast E rfl d_Net_join_57 ⟨h0, fun σ8 e => ?_⟩
    replace h := h σ8 e
    refine z_aload_n E 0 d_Net_join_58 rfl rfl ?_
    refine z_getR E f_Net_18 d_Net_join_59 ?_
    refine z_iload_n E 2 d_Net_join_62 rfl rfl ?_
    refine z_iload_n E 1 d_Net_join_63 rfl rfl ?_
    refine z_callSIp [.int v2, .int v1] [zf G 8] E (p_P_at G σ8 v2 v1) c_Net_38 st_P_at rfl zrm rfl (Nat.le_of_ble_eq_true rfl) d_Net_join_64 ?_
    refine z_iload_n E 3 d_Net_join_67 rfl rfl ?_
    obtain ⟨h0, h⟩ := h
    refine z_iast E rfl d_Net_join_68 ⟨h0, fun σ9 e => ?_⟩
    replace h := h σ9 e
    exact z_return E rfl d_Net_join_69 h

set_option maxRecDepth 20000 in
set_option maxHeartbeats 4000000 in
theorem b_Net_around_0 {G : zG} {X : zX} {post : Option Value → zSt → Prop} (E : zCtx G M_Net_around (zKm G 1 X post) X) (v1 : Int32) (σ : zSt)
    (h : zZ G M_Net_around 1 X post 4 [(0, zf G 2), (1, .int v1), (2, .int (0 : Int32)), (3, .int (0 : Int32))] [] σ) :
    zZ G M_Net_around 1 X post 0 [(0, zf G 2), (1, .int v1)] [] σ := by
  refine z_iconst E (v := 0) d_Net_around_0 (by decide) ?_
  refine z_istore_n E [1, 2, 0] (lv' := [(0, zf G 2), (1, .int v1), (2, .int (0 : Int32))]) d_Net_around_1 rfl (by decide) rfl ?_
  refine z_iconst E (v := 0) d_Net_around_2 (by decide) ?_
  refine z_istore_n E [1, 2, 3, 0] (lv' := [(0, zf G 2), (1, .int v1), (2, .int (0 : Int32)), (3, .int (0 : Int32))]) d_Net_around_3 rfl (by decide) rfl ?_
  exact h

set_option maxRecDepth 20000 in
set_option maxHeartbeats 4000000 in
theorem b_Net_around_4 {G : zG} {X : zX} {post : Option Value → zSt → Prop} (E : zCtx G M_Net_around (zKm G 1 X post) X) (v1 : Int32) (v2 : Int32) (v3 : Int32) (σ : zSt)
    (h : (((σ 2 0) ≤ v3 → post (some (.int v2)) σ) ∧ (¬ (σ 2 0) ≤ v3 → (((zIn v1 v3) = false → zZ G M_Net_around 1 X post 4 [(0, zf G 2), (1, .int v1), (2, .int v2), (3, .int (v3 + 1))] [] σ) ∧ ((zIn v1 v3) = true → (vp_in v3 12 ∧ zZ G M_Net_around 1 X post 4 [(0, zf G 2), (1, .int v1), (2, .int (v2 ||| (σ 7 v3.toNatClampNeg))), (3, .int (v3 + 1))] [] σ)))))) :
    zZ G M_Net_around 1 X post 4 [(0, zf G 2), (1, .int v1), (2, .int v2), (3, .int v3)] [] σ := by
  refine z_iload_n E 3 d_Net_around_4 rfl rfl ?_
  refine z_aload_n E 0 d_Net_around_5 rfl rfl ?_
  refine z_getI E f_Net_21 d_Net_around_6 ?_
  refine z_icmp_ge E d_Net_around_9 (tgt := 35) (by decide) ⟨fun q => ?_, fun q => ?_⟩
  · replace h := h.1 q
    refine z_iload_n E 2 d_Net_around_35 rfl rfl ?_
    exact z_ireturn E rfl d_Net_around_36 h
  · replace h := h.2 q
    refine z_iload_n E 1 d_Net_around_12 rfl rfl ?_
    refine z_iload_n E 3 d_Net_around_13 rfl rfl ?_
    refine z_callSBp [.int v1, .int v3] [] E (p_P_isIn G σ v1 v3) c_Net_34 st_P_isIn rfl zrm rfl (Nat.le_of_ble_eq_true rfl) d_Net_around_14 ?_
    refine z_ifz_eq E d_Net_around_17 (tgt := 29) (by decide) ⟨fun q => ?_, fun q => ?_⟩
    · replace h := h.1 q
      refine z_iinc E 3 [1, 2, 3, 0] (v := v3 + 1) (lv' := [(0, zf G 2), (1, .int v1), (2, .int v2), (3, .int (v3 + 1))]) d_Net_around_29 rfl rfl (by decide) rfl ?_
      refine z_goto E d_Net_around_32 (tgt := 4) (by decide) ?_
      exact h
    · replace h := h.2 q
      refine z_iload_n E 2 d_Net_around_20 rfl rfl ?_
      refine z_aload_n E 0 d_Net_around_21 rfl rfl ?_
      refine z_getR E f_Net_15 d_Net_around_22 ?_
      refine z_iload_n E 3 d_Net_around_25 rfl rfl ?_
      obtain ⟨h0, h⟩ := h
      refine z_iald E rfl d_Net_around_26 ⟨h0, ?_⟩
      refine z_ior E d_Net_around_27 ?_
      refine z_istore_n E [1, 2, 0, 3] (lv' := [(0, zf G 2), (1, .int v1), (2, .int (v2 ||| (σ 7 v3.toNatClampNeg))), (3, .int v3)]) d_Net_around_28 rfl (by decide) rfl ?_
      refine z_iinc E 3 [1, 2, 3, 0] (v := v3 + 1) (lv' := [(0, zf G 2), (1, .int v1), (2, .int (v2 ||| (σ 7 v3.toNatClampNeg))), (3, .int (v3 + 1))]) d_Net_around_29 rfl rfl (by decide) rfl ?_
      refine z_goto E d_Net_around_32 (tgt := 4) (by decide) ?_
      exact h

set_option maxRecDepth 20000 in
set_option maxHeartbeats 4000000 in
theorem b_Net_isConnected_0 {G : zG} {X : zX} {post : Option Value → zSt → Prop} (E : zCtx G M_Net_isConnected (zKm G 2 X post) X)  (σ : zSt)
    (h : zZ G M_Net_isConnected 2 X post 4 [(0, zf G 2), (1, .int (1 : Int32)), (2, .int (1 : Int32))] [] σ) :
    zZ G M_Net_isConnected 2 X post 0 [(0, zf G 2)] [] σ := by
  refine z_iconst E (v := 1) d_Net_isConnected_0 (by decide) ?_
  refine z_istore_n E [1, 0] (lv' := [(0, zf G 2), (1, .int (1 : Int32))]) d_Net_isConnected_1 rfl (by decide) rfl ?_
  refine z_iconst E (v := 1) d_Net_isConnected_2 (by decide) ?_
  refine z_istore_n E [1, 2, 0] (lv' := [(0, zf G 2), (1, .int (1 : Int32)), (2, .int (1 : Int32))]) d_Net_isConnected_3 rfl (by decide) rfl ?_
  exact h

set_option maxRecDepth 20000 in
set_option maxHeartbeats 4000000 in
theorem b_Net_isConnected_4 {G : zG} {X : zX} {post : Option Value → zSt → Prop} (E : zCtx G M_Net_isConnected (zKm G 2 X post) X) (v1 : Int32) (v2 : Int32) (σ : zSt)
    (h : (((σ 2 0) ≤ v2 → ((¬ v1 = (zAll (σ 2 0)) → post (some (.int (0 : Int32))) σ) ∧ (v1 = (zAll (σ 2 0)) → post (some (.int (1 : Int32))) σ))) ∧ (¬ (σ 2 0) ≤ v2 → (∃ P : Int32 → zSt → Prop, zI G 1 M_Net_around [zf G 2, .int v1] σ P ∧ ∀ (x2 : Int32) (σ1 : zSt), P x2 σ1 → zZ G M_Net_isConnected 2 X post 4 [(0, zf G 2), (1, .int (v1 ||| x2)), (2, .int (v2 + 1))] [] σ1)))) :
    zZ G M_Net_isConnected 2 X post 4 [(0, zf G 2), (1, .int v1), (2, .int v2)] [] σ := by
  refine z_iload_n E 2 d_Net_isConnected_4 rfl rfl ?_
  refine z_aload_n E 0 d_Net_isConnected_5 rfl rfl ?_
  refine z_getI E f_Net_21 d_Net_isConnected_6 ?_
  refine z_icmp_ge E d_Net_isConnected_9 (tgt := 26) (by decide) ⟨fun q => ?_, fun q => ?_⟩
  · replace h := h.1 q
    refine z_iload_n E 1 d_Net_isConnected_26 rfl rfl ?_
    refine z_aload_n E 0 d_Net_isConnected_27 rfl rfl ?_
    refine z_callVIp [] [.int v1] E (p_Net_everyNode G σ ) c_Net_46 r_Net_everyNode rfl zrm rfl (Nat.le_of_ble_eq_true rfl) d_Net_isConnected_28 ?_
    refine z_icmp_ne E d_Net_isConnected_31 (tgt := 38) (by decide) ⟨fun q => ?_, fun q => ?_⟩
    · replace h := h.1 q
      refine z_iconst E (v := 0) d_Net_isConnected_38 (by decide) ?_
      exact z_zreturn E rfl rfl d_Net_isConnected_39 h
    · replace h := h.2 q
      refine z_iconst E (v := 1) d_Net_isConnected_34 (by decide) ?_
      refine z_goto E d_Net_isConnected_35 (tgt := 39) (by decide) ?_
      exact z_zreturn E rfl rfl d_Net_isConnected_39 h
  · replace h := h.2 q
    refine z_iload_n E 1 d_Net_isConnected_12 rfl rfl ?_
    refine z_aload_n E 0 d_Net_isConnected_13 rfl rfl ?_
    refine z_iload_n E 1 d_Net_isConnected_14 rfl rfl ?_
    obtain ⟨P, hM, h⟩ := h
    refine z_callVI [.int v1] [.int v1] E hM c_Net_42 r_Net_around rfl zrm rfl (Nat.le_of_ble_eq_true rfl) d_Net_isConnected_15 (fun x2 σ1 hp => ?_)
    replace h := h x2 σ1 hp
    refine z_ior E d_Net_isConnected_18 ?_
    refine z_istore_n E [1, 0, 2] (lv' := [(0, zf G 2), (1, .int (v1 ||| x2)), (2, .int v2)]) d_Net_isConnected_19 rfl (by decide) rfl ?_
    refine z_iinc E 2 [1, 2, 0] (v := v2 + 1) (lv' := [(0, zf G 2), (1, .int (v1 ||| x2)), (2, .int (v2 + 1))]) d_Net_isConnected_20 rfl rfl (by decide) rfl ?_
    refine z_goto E d_Net_isConnected_23 (tgt := 4) (by decide) ?_
    exact h

set_option maxRecDepth 20000 in
set_option maxHeartbeats 4000000 in
theorem b_Play_reset_0 {G : zG} {X : zX} {post : Option Value → zSt → Prop} (E : zCtx G M_Play_reset (zKm G 1 X post) X) (v2 : Int32) (v3 : Int32) (σ : zSt)
    (h : (∀ σ1 : zSt, σ1 = zup σ 4 0 v2 → (∀ σ2 : zSt, σ2 = zup σ1 4 1 v3 → (∃ P : zSt → Prop, zV G 0 M_JArrays_fill [zf G 17, .int (-2 : Int32)] σ2 P ∧ ∀ σ3 : zSt, P σ3 → (∃ P : zSt → Prop, zV G 0 M_JArrays_fill [zf G 18, .int (-2 : Int32)] σ3 P ∧ ∀ σ4 : zSt, P σ4 → zZ G M_Play_reset 1 X post 31 [(0, zf G 4), (1, zf G 2), (4, .int (0 : Int32))] [] σ4))))) :
    zZ G M_Play_reset 1 X post 0 [(0, zf G 4), (1, zf G 2), (2, .int v2), (3, .int v3)] [] σ := by
  refine z_aload_n E 0 d_Play_reset_0 rfl rfl ?_
  refine z_iload_n E 2 d_Play_reset_1 rfl rfl ?_
  refine z_putI E w_Play_21 d_Play_reset_2 (fun σ1 e => ?_)
  replace h := h σ1 e
  refine z_aload_n E 0 d_Play_reset_5 rfl rfl ?_
  refine z_iload_n E 3 d_Play_reset_6 rfl rfl ?_
  refine z_putI E w_Play_25 d_Play_reset_7 (fun σ2 e => ?_)
  replace h := h σ2 e
  refine z_aload_n E 0 d_Play_reset_10 rfl rfl ?_
  refine z_getR E f_Play_15 d_Play_reset_11 ?_
  refine z_bipush E (v := -2) d_Play_reset_14 (by decide) ?_
  obtain ⟨P, hM, h⟩ := h
  refine z_callSV [zf G 17, .int (-2 : Int32)] [] E hM c_Play_28 st_JArrays_fill rfl zrm rfl (Nat.le_of_ble_eq_true rfl) d_Play_reset_16 (fun σ3 hp => ?_)
  replace h := h σ3 hp
  refine z_aload_n E 0 d_Play_reset_19 rfl rfl ?_
  refine z_getR E f_Play_18 d_Play_reset_20 ?_
  refine z_bipush E (v := -2) d_Play_reset_23 (by decide) ?_
  obtain ⟨P, hM, h⟩ := h
  refine z_callSV [zf G 18, .int (-2 : Int32)] [] E hM c_Play_28 st_JArrays_fill rfl zrm rfl (Nat.le_of_ble_eq_true rfl) d_Play_reset_25 (fun σ4 hp => ?_)
  replace h := h σ4 hp
  refine z_iconst E (v := 0) d_Play_reset_28 (by decide) ?_
  refine z_istore E [1, 2, 0] (lv' := [(0, zf G 4), (1, zf G 2), (4, .int (0 : Int32))]) d_Play_reset_29 (by decide) rfl ?_
  exact h

set_option maxRecDepth 20000 in
set_option maxHeartbeats 4000000 in
theorem b_Play_reset_31 {G : zG} {X : zX} {post : Option Value → zSt → Prop} (E : zCtx G M_Play_reset (zKm G 1 X post) X) (v4 : Int32) (σ : zSt)
    (h : (((12 : Int32) ≤ v4 → post none σ) ∧ (¬ (12 : Int32) ≤ v4 → (∃ P : Int32 → zSt → Prop, zI G 0 M_Play_firstValue [zf G 4, zf G 2, .int v4] σ P ∧ ∀ (x2 : Int32) (σ1 : zSt), P x2 σ1 → (vp_in v4 12 ∧ ∀ σ3 : zSt, σ3 = zup σ1 16 v4.toNatClampNeg x2 → zZ G M_Play_reset 1 X post 31 [(0, zf G 4), (1, zf G 2), (4, .int (v4 + 1))] [] σ3))))) :
    zZ G M_Play_reset 1 X post 31 [(0, zf G 4), (1, zf G 2), (4, .int v4)] [] σ := by
  refine z_iload E 2 d_Play_reset_31 rfl ?_
  refine z_bipush E (v := 12) d_Play_reset_33 (by decide) ?_
  refine z_icmp_ge E d_Play_reset_35 (tgt := 58) (by decide) ⟨fun q => ?_, fun q => ?_⟩
  · replace h := h.1 q
    exact z_return E rfl d_Play_reset_58 h
  · replace h := h.2 q
    refine z_aload_n E 0 d_Play_reset_38 rfl rfl ?_
    refine z_getR E f_Play_9 d_Play_reset_39 ?_
    refine z_iload E 2 d_Play_reset_42 rfl ?_
    refine z_aload_n E 0 d_Play_reset_44 rfl rfl ?_
    refine z_aload_n E 1 d_Play_reset_45 rfl rfl ?_
    refine z_iload E 2 d_Play_reset_46 rfl ?_
    obtain ⟨P, hM, h⟩ := h
    refine z_callVI [zf G 2, .int v4] [.int v4, zf G 16] E hM c_Play_34 r_Play_firstValue rfl zrm rfl (Nat.le_of_ble_eq_true rfl) d_Play_reset_48 (fun x2 σ1 hp => ?_)
    replace h := h x2 σ1 hp
    obtain ⟨h0, h⟩ := h
    refine z_iast E rfl d_Play_reset_51 ⟨h0, fun σ3 e => ?_⟩
    replace h := h σ3 e
    refine z_iinc E 2 [1, 2, 0] (v := v4 + 1) (lv' := [(0, zf G 4), (1, zf G 2), (4, .int (v4 + 1))]) d_Play_reset_52 rfl rfl (by decide) rfl ?_
    refine z_goto E d_Play_reset_55 (tgt := 31) (by decide) ?_
    exact h

set_option maxRecDepth 20000 in
set_option maxHeartbeats 4000000 in
theorem b_Play_firstValue_0 {G : zG} {X : zX} {post : Option Value → zSt → Prop} (E : zCtx G M_Play_firstValue (zKm G 0 X post) X) (v2 : Int32) (σ : zSt)
    (h : (((σ 4 0).toInt = 1 → (vp_in v2 12 ∧ post (some (.int (σ 6 v2.toNatClampNeg))) σ)) ∧ ((σ 4 0).toInt = 2 → post (some (.int (0 : Int32))) σ) ∧ (¬ (σ 4 0).toInt = 1 ∧ ¬ (σ 4 0).toInt = 2 → ((¬ v2 = (σ 4 1) → post (some (.int (-2 : Int32))) σ) ∧ (v2 = (σ 4 1) → post (some (.int (0 : Int32))) σ))))) :
    zZ G M_Play_firstValue 0 X post 0 [(0, zf G 4), (1, zf G 2), (2, .int v2)] [] σ := by
  refine z_aload_n E 0 d_Play_firstValue_0 rfl rfl ?_
  refine z_getI E f_Play_21 d_Play_firstValue_1 ?_
  refine z_lookup2 E d_Play_firstValue_4 (k1 := 1) (k2 := 2) (t1 := 32) (t2 := 39) (tO := 41) rfl (by decide) (by decide) (by decide) (by decide) ⟨fun q => ?_, fun q => ?_, fun q => ?_⟩
  · replace h := h.1 q
    refine z_aload_n E 1 d_Play_firstValue_32 rfl rfl ?_
    refine z_getR E f_Play_38 d_Play_firstValue_33 ?_
    refine z_iload_n E 2 d_Play_firstValue_36 rfl rfl ?_
    obtain ⟨h0, h⟩ := h
    refine z_iald E rfl d_Play_firstValue_37 ⟨h0, ?_⟩
    exact z_ireturn E rfl d_Play_firstValue_38 h
  · replace h := h.2.1 q
    refine z_iconst E (v := 0) d_Play_firstValue_39 (by decide) ?_
    exact z_ireturn E rfl d_Play_firstValue_40 h
  · replace h := h.2.2 q
    refine z_iload_n E 2 d_Play_firstValue_41 rfl rfl ?_
    refine z_aload_n E 0 d_Play_firstValue_42 rfl rfl ?_
    refine z_getI E f_Play_25 d_Play_firstValue_43 ?_
    refine z_icmp_ne E d_Play_firstValue_46 (tgt := 53) (by decide) ⟨fun q => ?_, fun q => ?_⟩
    · replace h := h.1 q
      refine z_bipush E (v := -2) d_Play_firstValue_53 (by decide) ?_
      exact z_ireturn E rfl d_Play_firstValue_55 h
    · replace h := h.2 q
      refine z_iconst E (v := 0) d_Play_firstValue_49 (by decide) ?_
      refine z_goto E d_Play_firstValue_50 (tgt := 55) (by decide) ?_
      exact z_ireturn E rfl d_Play_firstValue_55 h

set_option maxRecDepth 20000 in
set_option maxHeartbeats 4000000 in
theorem b_Play_keepNote_0 {G : zG} {X : zX} {post : Option Value → zSt → Prop} (E : zCtx G M_Play_keepNote (zKm G 1 X post) X) (v1 : Int32) (v2 : Int32) (v3 : Int32) (v4 : Int32) (σ : zSt)
    (h : (vp_in (((v3 &&& 1) * 144 + v2 * 12) + v1) 288 ∧ ∀ σ1 : zSt, σ1 = zup σ 18 (((v3 &&& 1) * 144 + v2 * 12) + v1).toNatClampNeg v4 → post none σ1)) :
    zZ G M_Play_keepNote 1 X post 0 [(0, zf G 4), (1, .int v1), (2, .int v2), (3, .int v3), (4, .int v4)] [] σ := by
  refine z_aload_n E 0 d_Play_keepNote_0 rfl rfl ?_
  refine z_getR E f_Play_18 d_Play_keepNote_1 ?_
  refine z_iload_n E 3 d_Play_keepNote_4 rfl rfl ?_
  refine z_iload_n E 2 d_Play_keepNote_5 rfl rfl ?_
  refine z_callSIp [.int v3, .int v2] [zf G 18] E (p_Play_noteRow G σ v3 v2) c_Play_43 st_Play_noteRow rfl zrm rfl (Nat.le_of_ble_eq_true rfl) d_Play_keepNote_6 ?_
  refine z_iload_n E 1 d_Play_keepNote_9 rfl rfl ?_
  refine z_iadd E d_Play_keepNote_10 ?_
  refine z_iload E 4 d_Play_keepNote_11 rfl ?_
  obtain ⟨h0, h⟩ := h
  refine z_iast E rfl d_Play_keepNote_13 ⟨h0, fun σ1 e => ?_⟩
  replace h := h σ1 e
  exact z_return E rfl d_Play_keepNote_14 h

set_option maxRecDepth 20000 in
set_option maxHeartbeats 4000000 in
theorem b_Play_doRound_0 {G : zG} {X : zX} {post : Option Value → zSt → Prop} (E : zCtx G M_Play_doRound (zKm G 3 X post) X) (v2 : Int32) (v3 : Int32) (σ : zSt)
    (h : ((¬ v3 = (1 : Int32) → (∃ P : Int32 → zSt → Prop, zI G 2 M_Play_laterNote [zf G 4, zf G 2, .int v2, .int v3, .int (((v3 - (1 : Int32)) &&& 1) * 144 + v2 * 12)] σ P ∧ ∀ (x2 : Int32) (σ1 : zSt), P x2 σ1 → zZ G M_Play_doRound 3 X post 37 [(0, zf G 4), (4, .int (((v3 - (1 : Int32)) &&& 1) * 144 + v2 * 12)), (5, .int x2), (6, .int (0 : Int32))] [] σ1)) ∧ (v3 = (1 : Int32) → (∃ P : Int32 → zSt → Prop, zI G 0 M_Play_firstNote [zf G 4, zf G 2, .int v2] σ P ∧ ∀ (x4 : Int32) (σ3 : zSt), P x4 σ3 → zZ G M_Play_doRound 3 X post 37 [(0, zf G 4), (4, .int (((v3 - (1 : Int32)) &&& 1) * 144 + v2 * 12)), (5, .int x4), (6, .int (0 : Int32))] [] σ3)))) :
    zZ G M_Play_doRound 3 X post 0 [(0, zf G 4), (1, zf G 2), (2, .int v2), (3, .int v3)] [] σ := by
  refine z_iload_n E 3 d_Play_doRound_0 rfl rfl ?_
  refine z_iconst E (v := 1) d_Play_doRound_1 (by decide) ?_
  refine z_isub E d_Play_doRound_2 ?_
  refine z_iload_n E 2 d_Play_doRound_3 rfl rfl ?_
  refine z_callSIp [.int (v3 - (1 : Int32)), .int v2] [] E (p_Play_noteRow G σ (v3 - (1 : Int32)) v2) c_Play_43 st_Play_noteRow rfl zrm rfl (Nat.le_of_ble_eq_true rfl) d_Play_doRound_4 ?_
  refine z_istore E [1, 2, 3, 4, 0] (lv' := [(0, zf G 4), (1, zf G 2), (2, .int v2), (3, .int v3), (4, .int (((v3 - (1 : Int32)) &&& 1) * 144 + v2 * 12))]) d_Play_doRound_7 (by decide) rfl ?_
  refine z_iload_n E 3 d_Play_doRound_9 rfl rfl ?_
  refine z_iconst E (v := 1) d_Play_doRound_10 (by decide) ?_
  refine z_icmp_ne E d_Play_doRound_11 (tgt := 23) (by decide) ⟨fun q => ?_, fun q => ?_⟩
  · replace h := h.1 q
    refine z_aload_n E 0 d_Play_doRound_23 rfl rfl ?_
    refine z_aload_n E 1 d_Play_doRound_24 rfl rfl ?_
    refine z_iload_n E 2 d_Play_doRound_25 rfl rfl ?_
    refine z_iload_n E 3 d_Play_doRound_26 rfl rfl ?_
    refine z_iload E 4 d_Play_doRound_27 rfl ?_
    obtain ⟨P, hM, h⟩ := h
    refine z_callVI [zf G 2, .int v2, .int v3, .int (((v3 - (1 : Int32)) &&& 1) * 144 + v2 * 12)] [] E hM c_Play_50 r_Play_laterNote rfl zrm rfl (Nat.le_of_ble_eq_true rfl) d_Play_doRound_29 (fun x2 σ1 hp => ?_)
    replace h := h x2 σ1 hp
    refine z_istore E [1, 5, 0] (lv' := [(0, zf G 4), (4, .int (((v3 - (1 : Int32)) &&& 1) * 144 + v2 * 12)), (5, .int x2)]) d_Play_doRound_32 (by decide) rfl ?_
    refine z_iconst E (v := 0) d_Play_doRound_34 (by decide) ?_
    refine z_istore E [1, 2, 3, 0] (lv' := [(0, zf G 4), (4, .int (((v3 - (1 : Int32)) &&& 1) * 144 + v2 * 12)), (5, .int x2), (6, .int (0 : Int32))]) d_Play_doRound_35 (by decide) rfl ?_
    exact h
  · replace h := h.2 q
    refine z_aload_n E 0 d_Play_doRound_14 rfl rfl ?_
    refine z_aload_n E 1 d_Play_doRound_15 rfl rfl ?_
    refine z_iload_n E 2 d_Play_doRound_16 rfl rfl ?_
    obtain ⟨P, hM, h⟩ := h
    refine z_callVI [zf G 2, .int v2] [] E hM c_Play_47 r_Play_firstNote rfl zrm rfl (Nat.le_of_ble_eq_true rfl) d_Play_doRound_17 (fun x4 σ3 hp => ?_)
    replace h := h x4 σ3 hp
    refine z_goto E d_Play_doRound_20 (tgt := 32) (by decide) ?_
    refine z_istore E [1, 5, 0] (lv' := [(0, zf G 4), (4, .int (((v3 - (1 : Int32)) &&& 1) * 144 + v2 * 12)), (5, .int x4)]) d_Play_doRound_32 (by decide) rfl ?_
    refine z_iconst E (v := 0) d_Play_doRound_34 (by decide) ?_
    refine z_istore E [1, 2, 3, 0] (lv' := [(0, zf G 4), (4, .int (((v3 - (1 : Int32)) &&& 1) * 144 + v2 * 12)), (5, .int x4), (6, .int (0 : Int32))]) d_Play_doRound_35 (by decide) rfl ?_
    exact h

set_option maxRecDepth 20000 in
set_option maxHeartbeats 4000000 in
theorem b_Play_doRound_37 {G : zG} {X : zX} {post : Option Value → zSt → Prop} (E : zCtx G M_Play_doRound (zKm G 3 X post) X) (v4 : Int32) (v5 : Int32) (v6 : Int32) (σ : zSt)
    (h : (((12 : Int32) ≤ v6 → post (some (.int v5)) σ) ∧ (¬ (12 : Int32) ≤ v6 → (vp_in (v4 + v6) 288 ∧ ∀ σ1 : zSt, σ1 = zup σ 18 (v4 + v6).toNatClampNeg (-2 : Int32) → zZ G M_Play_doRound 3 X post 37 [(0, zf G 4), (4, .int v4), (5, .int v5), (6, .int (v6 + 1))] [] σ1)))) :
    zZ G M_Play_doRound 3 X post 37 [(0, zf G 4), (4, .int v4), (5, .int v5), (6, .int v6)] [] σ := by
  refine z_iload E 3 d_Play_doRound_37 rfl ?_
  refine z_bipush E (v := 12) d_Play_doRound_39 (by decide) ?_
  refine z_icmp_ge E d_Play_doRound_41 (tgt := 62) (by decide) ⟨fun q => ?_, fun q => ?_⟩
  · replace h := h.1 q
    refine z_iload E 2 d_Play_doRound_62 rfl ?_
    exact z_ireturn E rfl d_Play_doRound_64 h
  · replace h := h.2 q
    refine z_aload_n E 0 d_Play_doRound_44 rfl rfl ?_
    refine z_getR E f_Play_18 d_Play_doRound_45 ?_
    refine z_iload E 1 d_Play_doRound_48 rfl ?_
    refine z_iload E 3 d_Play_doRound_50 rfl ?_
    refine z_iadd E d_Play_doRound_52 ?_
    refine z_bipush E (v := -2) d_Play_doRound_53 (by decide) ?_
    obtain ⟨h0, h⟩ := h
    refine z_iast E rfl d_Play_doRound_55 ⟨h0, fun σ1 e => ?_⟩
    replace h := h σ1 e
    refine z_iinc E 3 [1, 2, 3, 0] (v := v6 + 1) (lv' := [(0, zf G 4), (4, .int v4), (5, .int v5), (6, .int (v6 + 1))]) d_Play_doRound_56 rfl rfl (by decide) rfl ?_
    refine z_goto E d_Play_doRound_59 (tgt := 37) (by decide) ?_
    exact h

set_option maxRecDepth 20000 in
set_option maxHeartbeats 4000000 in
theorem b_Play_firstNote_0 {G : zG} {X : zX} {post : Option Value → zSt → Prop} (E : zCtx G M_Play_firstNote (zKm G 0 X post) X) (v2 : Int32) (σ : zSt)
    (h : (((σ 4 0).toInt = 0 → ((¬ v2 = (σ 4 1) → post (some (.int (-2 : Int32))) σ) ∧ (v2 = (σ 4 1) → post (some (.int (1 : Int32))) σ))) ∧ ((σ 4 0).toInt = 3 → ((¬ v2 = (σ 4 1) → post (some (.int (-2 : Int32))) σ) ∧ (v2 = (σ 4 1) → post (some (.int (0 : Int32))) σ))) ∧ (¬ (σ 4 0).toInt = 0 ∧ ¬ (σ 4 0).toInt = 3 → (vp_in v2 12 ∧ post (some (.int (σ 6 v2.toNatClampNeg))) σ)))) :
    zZ G M_Play_firstNote 0 X post 0 [(0, zf G 4), (1, zf G 2), (2, .int v2)] [] σ := by
  refine z_aload_n E 0 d_Play_firstNote_0 rfl rfl ?_
  refine z_getI E f_Play_21 d_Play_firstNote_1 ?_
  refine z_lookup2 E d_Play_firstNote_4 (k1 := 0) (k2 := 3) (t1 := 32) (t2 := 47) (tO := 62) rfl (by decide) (by decide) (by decide) (by decide) ⟨fun q => ?_, fun q => ?_, fun q => ?_⟩
  · replace h := h.1 q
    refine z_iload_n E 2 d_Play_firstNote_32 rfl rfl ?_
    refine z_aload_n E 0 d_Play_firstNote_33 rfl rfl ?_
    refine z_getI E f_Play_25 d_Play_firstNote_34 ?_
    refine z_icmp_ne E d_Play_firstNote_37 (tgt := 44) (by decide) ⟨fun q => ?_, fun q => ?_⟩
    · replace h := h.1 q
      refine z_bipush E (v := -2) d_Play_firstNote_44 (by decide) ?_
      exact z_ireturn E rfl d_Play_firstNote_46 h
    · replace h := h.2 q
      refine z_iconst E (v := 1) d_Play_firstNote_40 (by decide) ?_
      refine z_goto E d_Play_firstNote_41 (tgt := 46) (by decide) ?_
      exact z_ireturn E rfl d_Play_firstNote_46 h
  · replace h := h.2.1 q
    refine z_iload_n E 2 d_Play_firstNote_47 rfl rfl ?_
    refine z_aload_n E 0 d_Play_firstNote_48 rfl rfl ?_
    refine z_getI E f_Play_25 d_Play_firstNote_49 ?_
    refine z_icmp_ne E d_Play_firstNote_52 (tgt := 59) (by decide) ⟨fun q => ?_, fun q => ?_⟩
    · replace h := h.1 q
      refine z_bipush E (v := -2) d_Play_firstNote_59 (by decide) ?_
      exact z_ireturn E rfl d_Play_firstNote_61 h
    · replace h := h.2 q
      refine z_iconst E (v := 0) d_Play_firstNote_55 (by decide) ?_
      refine z_goto E d_Play_firstNote_56 (tgt := 61) (by decide) ?_
      exact z_ireturn E rfl d_Play_firstNote_61 h
  · replace h := h.2.2 q
    refine z_aload_n E 1 d_Play_firstNote_62 rfl rfl ?_
    refine z_getR E f_Play_38 d_Play_firstNote_63 ?_
    refine z_iload_n E 2 d_Play_firstNote_66 rfl rfl ?_
    obtain ⟨h0, h⟩ := h
    refine z_iald E rfl d_Play_firstNote_67 ⟨h0, ?_⟩
    exact z_ireturn E rfl d_Play_firstNote_68 h

set_option maxRecDepth 20000 in
set_option maxHeartbeats 4000000 in
theorem b_Play_laterNote_0 {G : zG} {X : zX} {post : Option Value → zSt → Prop} (E : zCtx G M_Play_laterNote (zKm G 2 X post) X) (v2 : Int32) (v3 : Int32) (v4 : Int32) (σ : zSt)
    (h : (((σ 4 0).toInt = 0 → (∃ P : Int32 → zSt → Prop, zI G 0 M_Play_takeWave [zf G 4, .int v2, .int v4] σ P ∧ ∀ (x2 : Int32) (σ1 : zSt), P x2 σ1 → post (some (.int x2)) σ1)) ∧ ((σ 4 0).toInt = 1 → (∃ P : Int32 → zSt → Prop, zI G 0 M_Play_takeGreatest [zf G 4, .int v2, .int v4] σ P ∧ ∀ (x4 : Int32) (σ3 : zSt), P x4 σ3 → post (some (.int x4)) σ3)) ∧ ((σ 4 0).toInt = 2 → ((¬ (v3 - v3 / (2 : Int32) * (2 : Int32)) = 0 → (∃ P : Int32 → zSt → Prop, zI G 0 M_Play_tryOut [zf G 4, zf G 2, .int v2, .int v4] σ P ∧ ∀ (x6 : Int32) (σ5 : zSt), P x6 σ5 → post (some (.int x6)) σ5)) ∧ ((v3 - v3 / (2 : Int32) * (2 : Int32)) = 0 → (∃ P : Int32 → zSt → Prop, zI G 0 M_Play_tryIn [zf G 4, zf G 2, .int v2, .int v4] σ P ∧ ∀ (x8 : Int32) (σ7 : zSt), P x8 σ7 → post (some (.int x8)) σ7)))) ∧ (((σ 4 0).toInt < 0 ∨ 2 < (σ 4 0).toInt) → (∃ P : Int32 → zSt → Prop, zI G 1 M_Play_takeLengths [zf G 4, zf G 2, .int v2, .int v4] σ P ∧ ∀ (x10 : Int32) (σ9 : zSt), P x10 σ9 → post (some (.int x10)) σ9)))) :
    zZ G M_Play_laterNote 2 X post 0 [(0, zf G 4), (1, zf G 2), (2, .int v2), (3, .int v3), (4, .int v4)] [] σ := by
  refine z_aload_n E 0 d_Play_laterNote_0 rfl rfl ?_
  refine z_getI E f_Play_21 d_Play_laterNote_1 ?_
  refine z_table E d_Play_laterNote_4 (tO := 74) (tgts := [32, 40, 48]) (by decide) (by decide) (by decide) ⟨z_tcons (fun q => ?_) (z_tcons (fun q => ?_) (z_tcons (fun q => ?_) (z_tnil))), fun q => ?_⟩
  · replace h := h.1 q
    show zZ G M_Play_laterNote 2 X post 32 [(0, zf G 4), (1, zf G 2), (2, .int v2), (3, .int v3), (4, .int v4)] [] σ
    refine z_aload_n E 0 d_Play_laterNote_32 rfl rfl ?_
    refine z_iload_n E 2 d_Play_laterNote_33 rfl rfl ?_
    refine z_iload E 4 d_Play_laterNote_34 rfl ?_
    obtain ⟨P, hM, h⟩ := h
    refine z_callVI [.int v2, .int v4] [] E hM c_Play_54 r_Play_takeWave rfl zrm rfl (Nat.le_of_ble_eq_true rfl) d_Play_laterNote_36 (fun x2 σ1 hp => ?_)
    replace h := h x2 σ1 hp
    exact z_ireturn E rfl d_Play_laterNote_39 h
  · replace h := h.2.1 q
    show zZ G M_Play_laterNote 2 X post 40 [(0, zf G 4), (1, zf G 2), (2, .int v2), (3, .int v3), (4, .int v4)] [] σ
    refine z_aload_n E 0 d_Play_laterNote_40 rfl rfl ?_
    refine z_iload_n E 2 d_Play_laterNote_41 rfl rfl ?_
    refine z_iload E 4 d_Play_laterNote_42 rfl ?_
    obtain ⟨P, hM, h⟩ := h
    refine z_callVI [.int v2, .int v4] [] E hM c_Play_57 r_Play_takeGreatest rfl zrm rfl (Nat.le_of_ble_eq_true rfl) d_Play_laterNote_44 (fun x4 σ3 hp => ?_)
    replace h := h x4 σ3 hp
    exact z_ireturn E rfl d_Play_laterNote_47 h
  · replace h := h.2.2.1 q
    show zZ G M_Play_laterNote 2 X post 48 [(0, zf G 4), (1, zf G 2), (2, .int v2), (3, .int v3), (4, .int v4)] [] σ
    refine z_iload_n E 3 d_Play_laterNote_48 rfl rfl ?_
    refine z_iconst E (v := 2) d_Play_laterNote_49 (by decide) ?_
    refine z_irem E d_Play_laterNote_50 (by decide) ?_
    refine z_if_ne E d_Play_laterNote_51 (tgt := 65) (by decide) ⟨fun q => ?_, fun q => ?_⟩
    · replace h := h.1 q
      refine z_aload_n E 0 d_Play_laterNote_65 rfl rfl ?_
      refine z_aload_n E 1 d_Play_laterNote_66 rfl rfl ?_
      refine z_iload_n E 2 d_Play_laterNote_67 rfl rfl ?_
      refine z_iload E 4 d_Play_laterNote_68 rfl ?_
      obtain ⟨P, hM, h⟩ := h
      refine z_callVI [zf G 2, .int v2, .int v4] [] E hM c_Play_64 r_Play_tryOut rfl zrm rfl (Nat.le_of_ble_eq_true rfl) d_Play_laterNote_70 (fun x6 σ5 hp => ?_)
      replace h := h x6 σ5 hp
      exact z_ireturn E rfl d_Play_laterNote_73 h
    · replace h := h.2 q
      refine z_aload_n E 0 d_Play_laterNote_54 rfl rfl ?_
      refine z_aload_n E 1 d_Play_laterNote_55 rfl rfl ?_
      refine z_iload_n E 2 d_Play_laterNote_56 rfl rfl ?_
      refine z_iload E 4 d_Play_laterNote_57 rfl ?_
      obtain ⟨P, hM, h⟩ := h
      refine z_callVI [zf G 2, .int v2, .int v4] [] E hM c_Play_60 r_Play_tryIn rfl zrm rfl (Nat.le_of_ble_eq_true rfl) d_Play_laterNote_59 (fun x8 σ7 hp => ?_)
      replace h := h x8 σ7 hp
      refine z_goto E d_Play_laterNote_62 (tgt := 73) (by decide) ?_
      exact z_ireturn E rfl d_Play_laterNote_73 h
  · replace h := h.2.2.2 q
    show zZ G M_Play_laterNote 2 X post 74 [(0, zf G 4), (1, zf G 2), (2, .int v2), (3, .int v3), (4, .int v4)] [] σ
    refine z_aload_n E 0 d_Play_laterNote_74 rfl rfl ?_
    refine z_aload_n E 1 d_Play_laterNote_75 rfl rfl ?_
    refine z_iload_n E 2 d_Play_laterNote_76 rfl rfl ?_
    refine z_iload E 4 d_Play_laterNote_77 rfl ?_
    obtain ⟨P, hM, h⟩ := h
    refine z_callVI [zf G 2, .int v2, .int v4] [] E hM c_Play_67 r_Play_takeLengths rfl zrm rfl (Nat.le_of_ble_eq_true rfl) d_Play_laterNote_79 (fun x10 σ9 hp => ?_)
    replace h := h x10 σ9 hp
    exact z_ireturn E rfl d_Play_laterNote_82 h

set_option maxRecDepth 20000 in
set_option maxHeartbeats 4000000 in
theorem b_Play_takeWave_0 {G : zG} {X : zX} {post : Option Value → zSt → Prop} (E : zCtx G M_Play_takeWave (zKm G 0 X post) X) (v1 : Int32) (v2 : Int32) (σ : zSt)
    (h : zZ G M_Play_takeWave 0 X post 2 [(0, zf G 4), (1, .int v1), (2, .int v2), (3, .int (0 : Int32))] [] σ) :
    zZ G M_Play_takeWave 0 X post 0 [(0, zf G 4), (1, .int v1), (2, .int v2)] [] σ := by
  refine z_iconst E (v := 0) d_Play_takeWave_0 (by decide) ?_
  refine z_istore_n E [1, 2, 3, 0] (lv' := [(0, zf G 4), (1, .int v1), (2, .int v2), (3, .int (0 : Int32))]) d_Play_takeWave_1 rfl (by decide) rfl ?_
  exact h

set_option maxRecDepth 20000 in
set_option maxHeartbeats 4000000 in
theorem b_Play_takeWave_2 {G : zG} {X : zX} {post : Option Value → zSt → Prop} (E : zCtx G M_Play_takeWave (zKm G 0 X post) X) (v1 : Int32) (v2 : Int32) (v3 : Int32) (σ : zSt)
    (h : (((12 : Int32) ≤ v3 → post (some (.int (-2 : Int32))) σ) ∧ (¬ (12 : Int32) ≤ v3 → (vp_in v1 12 ∧ ((¬ (σ 16 v1.toNatClampNeg) = (-2 : Int32) → post (some (.int (-2 : Int32))) σ) ∧ ((σ 16 v1.toNatClampNeg) = (-2 : Int32) → (vp_in (v2 + v3) 288 ∧ (((σ 18 (v2 + v3).toNatClampNeg) = (-2 : Int32) → zZ G M_Play_takeWave 0 X post 2 [(0, zf G 4), (1, .int v1), (2, .int v2), (3, .int (v3 + 1))] [] σ) ∧ (¬ (σ 18 (v2 + v3).toNatClampNeg) = (-2 : Int32) → (vp_in (v2 + v3) 288 ∧ (vp_in v1 12 ∧ ∀ σ1 : zSt, σ1 = zup σ 16 v1.toNatClampNeg (σ 18 (v2 + v3).toNatClampNeg) → (vp_in v1 12 ∧ ∀ σ2 : zSt, σ2 = zup σ1 17 v1.toNatClampNeg v3 → (vp_in v1 12 ∧ post (some (.int ((σ2 16 v1.toNatClampNeg) + (1 : Int32)))) σ2))))))))))))) :
    zZ G M_Play_takeWave 0 X post 2 [(0, zf G 4), (1, .int v1), (2, .int v2), (3, .int v3)] [] σ := by
  refine z_iload_n E 3 d_Play_takeWave_2 rfl rfl ?_
  refine z_bipush E (v := 12) d_Play_takeWave_3 (by decide) ?_
  refine z_icmp_ge E d_Play_takeWave_5 (tgt := 68) (by decide) ⟨fun q => ?_, fun q => ?_⟩
  · replace h := h.1 q
    refine z_bipush E (v := -2) d_Play_takeWave_68 (by decide) ?_
    exact z_ireturn E rfl d_Play_takeWave_70 h
  · replace h := h.2 q
    refine z_aload_n E 0 d_Play_takeWave_8 rfl rfl ?_
    refine z_getR E f_Play_9 d_Play_takeWave_9 ?_
    refine z_iload_n E 1 d_Play_takeWave_12 rfl rfl ?_
    obtain ⟨h0, h⟩ := h
    refine z_iald E rfl d_Play_takeWave_13 ⟨h0, ?_⟩
    refine z_bipush E (v := -2) d_Play_takeWave_14 (by decide) ?_
    refine z_icmp_ne E d_Play_takeWave_16 (tgt := 68) (by decide) ⟨fun q => ?_, fun q => ?_⟩
    · replace h := h.1 q
      refine z_bipush E (v := -2) d_Play_takeWave_68 (by decide) ?_
      exact z_ireturn E rfl d_Play_takeWave_70 h
    · replace h := h.2 q
      refine z_aload_n E 0 d_Play_takeWave_19 rfl rfl ?_
      refine z_getR E f_Play_18 d_Play_takeWave_20 ?_
      refine z_iload_n E 2 d_Play_takeWave_23 rfl rfl ?_
      refine z_iload_n E 3 d_Play_takeWave_24 rfl rfl ?_
      refine z_iadd E d_Play_takeWave_25 ?_
      obtain ⟨h0, h⟩ := h
      refine z_iald E rfl d_Play_takeWave_26 ⟨h0, ?_⟩
      refine z_bipush E (v := -2) d_Play_takeWave_27 (by decide) ?_
      refine z_icmp_eq E d_Play_takeWave_29 (tgt := 62) (by decide) ⟨fun q => ?_, fun q => ?_⟩
      · replace h := h.1 q
        refine z_iinc E 3 [1, 2, 3, 0] (v := v3 + 1) (lv' := [(0, zf G 4), (1, .int v1), (2, .int v2), (3, .int (v3 + 1))]) d_Play_takeWave_62 rfl rfl (by decide) rfl ?_
        refine z_goto E d_Play_takeWave_65 (tgt := 2) (by decide) ?_
        exact h
      · replace h := h.2 q
        refine z_aload_n E 0 d_Play_takeWave_32 rfl rfl ?_
        refine z_getR E f_Play_9 d_Play_takeWave_33 ?_
        refine z_iload_n E 1 d_Play_takeWave_36 rfl rfl ?_
        refine z_aload_n E 0 d_Play_takeWave_37 rfl rfl ?_
        refine z_getR E f_Play_18 d_Play_takeWave_38 ?_
        refine z_iload_n E 2 d_Play_takeWave_41 rfl rfl ?_
        refine z_iload_n E 3 d_Play_takeWave_42 rfl rfl ?_
        refine z_iadd E d_Play_takeWave_43 ?_
        obtain ⟨h0, h⟩ := h
        refine z_iald E rfl d_Play_takeWave_44 ⟨h0, ?_⟩
        obtain ⟨h0, h⟩ := h
        refine z_iast E rfl d_Play_takeWave_45 ⟨h0, fun σ1 e => ?_⟩
        replace h := h σ1 e
        refine z_aload_n E 0 d_Play_takeWave_46 rfl rfl ?_
        refine z_getR E f_Play_15 d_Play_takeWave_47 ?_
        refine z_iload_n E 1 d_Play_takeWave_50 rfl rfl ?_
        refine z_iload_n E 3 d_Play_takeWave_51 rfl rfl ?_
        obtain ⟨h0, h⟩ := h
        refine z_iast E rfl d_Play_takeWave_52 ⟨h0, fun σ2 e => ?_⟩
        replace h := h σ2 e
        refine z_aload_n E 0 d_Play_takeWave_53 rfl rfl ?_
        refine z_getR E f_Play_9 d_Play_takeWave_54 ?_
        refine z_iload_n E 1 d_Play_takeWave_57 rfl rfl ?_
        obtain ⟨h0, h⟩ := h
        refine z_iald E rfl d_Play_takeWave_58 ⟨h0, ?_⟩
        refine z_iconst E (v := 1) d_Play_takeWave_59 (by decide) ?_
        refine z_iadd E d_Play_takeWave_60 ?_
        exact z_ireturn E rfl d_Play_takeWave_61 h

set_option maxRecDepth 20000 in
set_option maxHeartbeats 4000000 in
theorem b_Play_takeGreatest_0 {G : zG} {X : zX} {post : Option Value → zSt → Prop} (E : zCtx G M_Play_takeGreatest (zKm G 0 X post) X) (v1 : Int32) (v2 : Int32) (σ : zSt)
    (h : (vp_in v1 12 ∧ zZ G M_Play_takeGreatest 0 X post 10 [(0, zf G 4), (1, .int v1), (2, .int v2), (3, .int (σ 16 v1.toNatClampNeg)), (4, .int (0 : Int32))] [] σ)) :
    zZ G M_Play_takeGreatest 0 X post 0 [(0, zf G 4), (1, .int v1), (2, .int v2)] [] σ := by
  refine z_aload_n E 0 d_Play_takeGreatest_0 rfl rfl ?_
  refine z_getR E f_Play_9 d_Play_takeGreatest_1 ?_
  refine z_iload_n E 1 d_Play_takeGreatest_4 rfl rfl ?_
  obtain ⟨h0, h⟩ := h
  refine z_iald E rfl d_Play_takeGreatest_5 ⟨h0, ?_⟩
  refine z_istore_n E [1, 2, 3, 0] (lv' := [(0, zf G 4), (1, .int v1), (2, .int v2), (3, .int (σ 16 v1.toNatClampNeg))]) d_Play_takeGreatest_6 rfl (by decide) rfl ?_
  refine z_iconst E (v := 0) d_Play_takeGreatest_7 (by decide) ?_
  refine z_istore E [1, 2, 3, 4, 0] (lv' := [(0, zf G 4), (1, .int v1), (2, .int v2), (3, .int (σ 16 v1.toNatClampNeg)), (4, .int (0 : Int32))]) d_Play_takeGreatest_8 (by decide) rfl ?_
  exact h

set_option maxRecDepth 20000 in
set_option maxHeartbeats 4000000 in
theorem b_Play_takeGreatest_10 {G : zG} {X : zX} {post : Option Value → zSt → Prop} (E : zCtx G M_Play_takeGreatest (zKm G 0 X post) X) (v1 : Int32) (v2 : Int32) (v3 : Int32) (v4 : Int32) (σ : zSt)
    (h : (((12 : Int32) ≤ v4 → (vp_in v1 12 ∧ ((¬ (σ 16 v1.toNatClampNeg) = v3 → (vp_in v1 12 ∧ post (some (.int (σ 16 v1.toNatClampNeg))) σ)) ∧ ((σ 16 v1.toNatClampNeg) = v3 → post (some (.int (-2 : Int32))) σ)))) ∧ (¬ (12 : Int32) ≤ v4 → (vp_in (v2 + v4) 288 ∧ (((σ 18 (v2 + v4).toNatClampNeg) = (-2 : Int32) → zZ G M_Play_takeGreatest 0 X post 10 [(0, zf G 4), (1, .int v1), (2, .int v2), (3, .int v3), (4, .int (v4 + 1))] [] σ) ∧ (¬ (σ 18 (v2 + v4).toNatClampNeg) = (-2 : Int32) → (vp_in (v2 + v4) 288 ∧ (vp_in v1 12 ∧ (((σ 18 (v2 + v4).toNatClampNeg) ≤ (σ 16 v1.toNatClampNeg) → zZ G M_Play_takeGreatest 0 X post 10 [(0, zf G 4), (1, .int v1), (2, .int v2), (3, .int v3), (4, .int (v4 + 1))] [] σ) ∧ (¬ (σ 18 (v2 + v4).toNatClampNeg) ≤ (σ 16 v1.toNatClampNeg) → (vp_in (v2 + v4) 288 ∧ (vp_in v1 12 ∧ ∀ σ1 : zSt, σ1 = zup σ 16 v1.toNatClampNeg (σ 18 (v2 + v4).toNatClampNeg) → (vp_in v1 12 ∧ ∀ σ2 : zSt, σ2 = zup σ1 17 v1.toNatClampNeg v4 → zZ G M_Play_takeGreatest 0 X post 10 [(0, zf G 4), (1, .int v1), (2, .int v2), (3, .int v3), (4, .int (v4 + 1))] [] σ2))))))))))))) :
    zZ G M_Play_takeGreatest 0 X post 10 [(0, zf G 4), (1, .int v1), (2, .int v2), (3, .int v3), (4, .int v4)] [] σ := by
  refine z_iload E 4 d_Play_takeGreatest_10 rfl ?_
  refine z_bipush E (v := 12) d_Play_takeGreatest_12 (by decide) ?_
  refine z_icmp_ge E d_Play_takeGreatest_14 (tgt := 78) (by decide) ⟨fun q => ?_, fun q => ?_⟩
  · replace h := h.1 q
    refine z_aload_n E 0 d_Play_takeGreatest_78 rfl rfl ?_
    refine z_getR E f_Play_9 d_Play_takeGreatest_79 ?_
    refine z_iload_n E 1 d_Play_takeGreatest_82 rfl rfl ?_
    obtain ⟨h0, h⟩ := h
    refine z_iald E rfl d_Play_takeGreatest_83 ⟨h0, ?_⟩
    refine z_iload_n E 3 d_Play_takeGreatest_84 rfl rfl ?_
    refine z_icmp_ne E d_Play_takeGreatest_85 (tgt := 93) (by decide) ⟨fun q => ?_, fun q => ?_⟩
    · replace h := h.1 q
      refine z_aload_n E 0 d_Play_takeGreatest_93 rfl rfl ?_
      refine z_getR E f_Play_9 d_Play_takeGreatest_94 ?_
      refine z_iload_n E 1 d_Play_takeGreatest_97 rfl rfl ?_
      obtain ⟨h0, h⟩ := h
      refine z_iald E rfl d_Play_takeGreatest_98 ⟨h0, ?_⟩
      exact z_ireturn E rfl d_Play_takeGreatest_99 h
    · replace h := h.2 q
      refine z_bipush E (v := -2) d_Play_takeGreatest_88 (by decide) ?_
      refine z_goto E d_Play_takeGreatest_90 (tgt := 99) (by decide) ?_
      exact z_ireturn E rfl d_Play_takeGreatest_99 h
  · replace h := h.2 q
    refine z_aload_n E 0 d_Play_takeGreatest_17 rfl rfl ?_
    refine z_getR E f_Play_18 d_Play_takeGreatest_18 ?_
    refine z_iload_n E 2 d_Play_takeGreatest_21 rfl rfl ?_
    refine z_iload E 4 d_Play_takeGreatest_22 rfl ?_
    refine z_iadd E d_Play_takeGreatest_24 ?_
    obtain ⟨h0, h⟩ := h
    refine z_iald E rfl d_Play_takeGreatest_25 ⟨h0, ?_⟩
    refine z_bipush E (v := -2) d_Play_takeGreatest_26 (by decide) ?_
    refine z_icmp_eq E d_Play_takeGreatest_28 (tgt := 72) (by decide) ⟨fun q => ?_, fun q => ?_⟩
    · replace h := h.1 q
      refine z_iinc E 4 [1, 2, 3, 4, 0] (v := v4 + 1) (lv' := [(0, zf G 4), (1, .int v1), (2, .int v2), (3, .int v3), (4, .int (v4 + 1))]) d_Play_takeGreatest_72 rfl rfl (by decide) rfl ?_
      refine z_goto E d_Play_takeGreatest_75 (tgt := 10) (by decide) ?_
      exact h
    · replace h := h.2 q
      refine z_aload_n E 0 d_Play_takeGreatest_31 rfl rfl ?_
      refine z_getR E f_Play_18 d_Play_takeGreatest_32 ?_
      refine z_iload_n E 2 d_Play_takeGreatest_35 rfl rfl ?_
      refine z_iload E 4 d_Play_takeGreatest_36 rfl ?_
      refine z_iadd E d_Play_takeGreatest_38 ?_
      obtain ⟨h0, h⟩ := h
      refine z_iald E rfl d_Play_takeGreatest_39 ⟨h0, ?_⟩
      refine z_aload_n E 0 d_Play_takeGreatest_40 rfl rfl ?_
      refine z_getR E f_Play_9 d_Play_takeGreatest_41 ?_
      refine z_iload_n E 1 d_Play_takeGreatest_44 rfl rfl ?_
      obtain ⟨h0, h⟩ := h
      refine z_iald E rfl d_Play_takeGreatest_45 ⟨h0, ?_⟩
      refine z_icmp_le E d_Play_takeGreatest_46 (tgt := 72) (by decide) ⟨fun q => ?_, fun q => ?_⟩
      · replace h := h.1 q
        refine z_iinc E 4 [1, 2, 3, 4, 0] (v := v4 + 1) (lv' := [(0, zf G 4), (1, .int v1), (2, .int v2), (3, .int v3), (4, .int (v4 + 1))]) d_Play_takeGreatest_72 rfl rfl (by decide) rfl ?_
        refine z_goto E d_Play_takeGreatest_75 (tgt := 10) (by decide) ?_
        exact h
      · replace h := h.2 q
        refine z_aload_n E 0 d_Play_takeGreatest_49 rfl rfl ?_
        refine z_getR E f_Play_9 d_Play_takeGreatest_50 ?_
        refine z_iload_n E 1 d_Play_takeGreatest_53 rfl rfl ?_
        refine z_aload_n E 0 d_Play_takeGreatest_54 rfl rfl ?_
        refine z_getR E f_Play_18 d_Play_takeGreatest_55 ?_
        refine z_iload_n E 2 d_Play_takeGreatest_58 rfl rfl ?_
        refine z_iload E 4 d_Play_takeGreatest_59 rfl ?_
        refine z_iadd E d_Play_takeGreatest_61 ?_
        obtain ⟨h0, h⟩ := h
        refine z_iald E rfl d_Play_takeGreatest_62 ⟨h0, ?_⟩
        obtain ⟨h0, h⟩ := h
        refine z_iast E rfl d_Play_takeGreatest_63 ⟨h0, fun σ1 e => ?_⟩
        replace h := h σ1 e
        refine z_aload_n E 0 d_Play_takeGreatest_64 rfl rfl ?_
        refine z_getR E f_Play_15 d_Play_takeGreatest_65 ?_
        refine z_iload_n E 1 d_Play_takeGreatest_68 rfl rfl ?_
        refine z_iload E 4 d_Play_takeGreatest_69 rfl ?_
        obtain ⟨h0, h⟩ := h
        refine z_iast E rfl d_Play_takeGreatest_71 ⟨h0, fun σ2 e => ?_⟩
        replace h := h σ2 e
        refine z_iinc E 4 [1, 2, 3, 4, 0] (v := v4 + 1) (lv' := [(0, zf G 4), (1, .int v1), (2, .int v2), (3, .int v3), (4, .int (v4 + 1))]) d_Play_takeGreatest_72 rfl rfl (by decide) rfl ?_
        refine z_goto E d_Play_takeGreatest_75 (tgt := 10) (by decide) ?_
        exact h

set_option maxRecDepth 20000 in
set_option maxHeartbeats 4000000 in
theorem b_Play_tryIn_0 {G : zG} {X : zX} {post : Option Value → zSt → Prop} (E : zCtx G M_Play_tryIn (zKm G 0 X post) X) (v2 : Int32) (v3 : Int32) (σ : zSt)
    (h : (vp_in v2 12 ∧ (((σ 16 v2.toNatClampNeg) = 0 → zZ G M_Play_tryIn 0 X post 15 [(0, zf G 4), (1, zf G 2), (2, .int v2), (3, .int v3), (4, .int (0 : Int32))] [] σ) ∧ (¬ (σ 16 v2.toNatClampNeg) = 0 → post (some (.int (-2 : Int32))) σ)))) :
    zZ G M_Play_tryIn 0 X post 0 [(0, zf G 4), (1, zf G 2), (2, .int v2), (3, .int v3)] [] σ := by
  refine z_aload_n E 0 d_Play_tryIn_0 rfl rfl ?_
  refine z_getR E f_Play_9 d_Play_tryIn_1 ?_
  refine z_iload_n E 2 d_Play_tryIn_4 rfl rfl ?_
  obtain ⟨h0, h⟩ := h
  refine z_iald E rfl d_Play_tryIn_5 ⟨h0, ?_⟩
  refine z_if_eq E d_Play_tryIn_6 (tgt := 12) (by decide) ⟨fun q => ?_, fun q => ?_⟩
  · replace h := h.1 q
    refine z_iconst E (v := 0) d_Play_tryIn_12 (by decide) ?_
    refine z_istore E [1, 2, 3, 4, 0] (lv' := [(0, zf G 4), (1, zf G 2), (2, .int v2), (3, .int v3), (4, .int (0 : Int32))]) d_Play_tryIn_13 (by decide) rfl ?_
    exact h
  · replace h := h.2 q
    refine z_bipush E (v := -2) d_Play_tryIn_9 (by decide) ?_
    exact z_ireturn E rfl d_Play_tryIn_11 h

set_option maxRecDepth 20000 in
set_option maxHeartbeats 4000000 in
theorem b_Play_tryIn_15 {G : zG} {X : zX} {post : Option Value → zSt → Prop} (E : zCtx G M_Play_tryIn (zKm G 0 X post) X) (v2 : Int32) (v3 : Int32) (v4 : Int32) (σ : zSt)
    (h : (((12 : Int32) ≤ v4 → (vp_in v2 12 ∧ ∀ σ1 : zSt, σ1 = zup σ 16 v2.toNatClampNeg (1 : Int32) → post (some (.int (-1 : Int32))) σ1)) ∧ (¬ (12 : Int32) ≤ v4 → (vp_in (v3 + v4) 288 ∧ (vp_in v2 12 ∧ ((¬ (σ 18 (v3 + v4).toNatClampNeg) = (σ 6 v2.toNatClampNeg) → (((σ 18 (v3 + v4).toNatClampNeg) = (-2 : Int32) → zZ G M_Play_tryIn 0 X post 15 [(0, zf G 4), (1, zf G 2), (2, .int v2), (3, .int v3), (4, .int (v4 + 1))] [] σ) ∧ (¬ (σ 18 (v3 + v4).toNatClampNeg) = (-2 : Int32) → (vp_in v2 12 ∧ (((σ 6 v2.toNatClampNeg) < (σ 18 (v3 + v4).toNatClampNeg) → post (some (.int (-2 : Int32))) σ) ∧ (¬ (σ 6 v2.toNatClampNeg) < (σ 18 (v3 + v4).toNatClampNeg) → zZ G M_Play_tryIn 0 X post 15 [(0, zf G 4), (1, zf G 2), (2, .int v2), (3, .int v3), (4, .int (v4 + 1))] [] σ)))))) ∧ ((σ 18 (v3 + v4).toNatClampNeg) = (σ 6 v2.toNatClampNeg) → ((v4 ≤ v2 → (((σ 18 (v3 + v4).toNatClampNeg) = (-2 : Int32) → zZ G M_Play_tryIn 0 X post 15 [(0, zf G 4), (1, zf G 2), (2, .int v2), (3, .int v3), (4, .int (v4 + 1))] [] σ) ∧ (¬ (σ 18 (v3 + v4).toNatClampNeg) = (-2 : Int32) → (vp_in v2 12 ∧ (((σ 6 v2.toNatClampNeg) < (σ 18 (v3 + v4).toNatClampNeg) → post (some (.int (-2 : Int32))) σ) ∧ (¬ (σ 6 v2.toNatClampNeg) < (σ 18 (v3 + v4).toNatClampNeg) → zZ G M_Play_tryIn 0 X post 15 [(0, zf G 4), (1, zf G 2), (2, .int v2), (3, .int v3), (4, .int (v4 + 1))] [] σ)))))) ∧ (¬ v4 ≤ v2 → (((σ 18 (v3 + v4).toNatClampNeg) = (-2 : Int32) → zZ G M_Play_tryIn 0 X post 15 [(0, zf G 4), (1, zf G 2), (2, .int v2), (3, .int v3), (4, .int (v4 + 1))] [] σ) ∧ (¬ (σ 18 (v3 + v4).toNatClampNeg) = (-2 : Int32) → (vp_in v2 12 ∧ (((σ 6 v2.toNatClampNeg) < (σ 18 (v3 + v4).toNatClampNeg) → post (some (.int (-2 : Int32))) σ) ∧ (¬ (σ 6 v2.toNatClampNeg) < (σ 18 (v3 + v4).toNatClampNeg) → post (some (.int (-2 : Int32))) σ)))))))))))))) :
    zZ G M_Play_tryIn 0 X post 15 [(0, zf G 4), (1, zf G 2), (2, .int v2), (3, .int v3), (4, .int v4)] [] σ := by
  refine z_iload E 4 d_Play_tryIn_15 rfl ?_
  refine z_bipush E (v := 12) d_Play_tryIn_17 (by decide) ?_
  refine z_icmp_ge E d_Play_tryIn_19 (tgt := 89) (by decide) ⟨fun q => ?_, fun q => ?_⟩
  · replace h := h.1 q
    refine z_aload_n E 0 d_Play_tryIn_89 rfl rfl ?_
    refine z_getR E f_Play_9 d_Play_tryIn_90 ?_
    refine z_iload_n E 2 d_Play_tryIn_93 rfl rfl ?_
    refine z_iconst E (v := 1) d_Play_tryIn_94 (by decide) ?_
    obtain ⟨h0, h⟩ := h
    refine z_iast E rfl d_Play_tryIn_95 ⟨h0, fun σ1 e => ?_⟩
    replace h := h σ1 e
    refine z_iconst E (v := -1) d_Play_tryIn_96 (by decide) ?_
    exact z_ireturn E rfl d_Play_tryIn_97 h
  · replace h := h.2 q
    refine z_aload_n E 0 d_Play_tryIn_22 rfl rfl ?_
    refine z_getR E f_Play_18 d_Play_tryIn_23 ?_
    refine z_iload_n E 3 d_Play_tryIn_26 rfl rfl ?_
    refine z_iload E 4 d_Play_tryIn_27 rfl ?_
    refine z_iadd E d_Play_tryIn_29 ?_
    obtain ⟨h0, h⟩ := h
    refine z_iald E rfl d_Play_tryIn_30 ⟨h0, ?_⟩
    refine z_istore E [1, 2, 3, 4, 5, 0] (lv' := [(0, zf G 4), (1, zf G 2), (2, .int v2), (3, .int v3), (4, .int v4), (5, .int (σ 18 (v3 + v4).toNatClampNeg))]) d_Play_tryIn_31 (by decide) rfl ?_
    refine z_iload E 5 d_Play_tryIn_33 rfl ?_
    refine z_aload_n E 1 d_Play_tryIn_35 rfl rfl ?_
    refine z_getR E f_Play_38 d_Play_tryIn_36 ?_
    refine z_iload_n E 2 d_Play_tryIn_39 rfl rfl ?_
    obtain ⟨h0, h⟩ := h
    refine z_iald E rfl d_Play_tryIn_40 ⟨h0, ?_⟩
    refine z_icmp_ne E d_Play_tryIn_41 (tgt := 54) (by decide) ⟨fun q => ?_, fun q => ?_⟩
    · replace h := h.1 q
      refine z_iconst E (v := 0) d_Play_tryIn_54 (by decide) ?_
      refine z_istore E [1, 2, 3, 4, 5, 6, 0] (lv' := [(0, zf G 4), (1, zf G 2), (2, .int v2), (3, .int v3), (4, .int v4), (5, .int (σ 18 (v3 + v4).toNatClampNeg)), (6, .int (0 : Int32))]) d_Play_tryIn_55 (by decide) rfl ?_
      refine z_iload E 5 d_Play_tryIn_57 rfl ?_
      refine z_bipush E (v := -2) d_Play_tryIn_59 (by decide) ?_
      refine z_icmp_eq E d_Play_tryIn_61 (tgt := 83) (by decide) ⟨fun q => ?_, fun q => ?_⟩
      · replace h := h.1 q
        refine z_iinc E 4 [1, 2, 3, 4, 0, 5, 6] (v := v4 + 1) (lv' := [(0, zf G 4), (1, zf G 2), (2, .int v2), (3, .int v3), (4, .int (v4 + 1)), (5, .int (σ 18 (v3 + v4).toNatClampNeg)), (6, .int (0 : Int32))]) d_Play_tryIn_83 rfl rfl (by decide) rfl ?_
        refine z_goto E d_Play_tryIn_86 (tgt := 15) (by decide) ?_
        refine zZ.sub [0, 1, 2, 3, 4] (lv' := [(0, zf G 4), (1, zf G 2), (2, .int v2), (3, .int v3), (4, .int (v4 + 1))]) rfl ?_
        exact h
      · replace h := h.2 q
        refine z_iload E 5 d_Play_tryIn_64 rfl ?_
        refine z_aload_n E 1 d_Play_tryIn_66 rfl rfl ?_
        refine z_getR E f_Play_38 d_Play_tryIn_67 ?_
        refine z_iload_n E 2 d_Play_tryIn_70 rfl rfl ?_
        obtain ⟨h0, h⟩ := h
        refine z_iald E rfl d_Play_tryIn_71 ⟨h0, ?_⟩
        refine z_icmp_gt E d_Play_tryIn_72 (tgt := 80) (by decide) ⟨fun q => ?_, fun q => ?_⟩
        · replace h := h.1 q
          refine z_bipush E (v := -2) d_Play_tryIn_80 (by decide) ?_
          exact z_ireturn E rfl d_Play_tryIn_82 h
        · replace h := h.2 q
          refine z_iload E 6 d_Play_tryIn_75 rfl ?_
          refine z_if_eq E d_Play_tryIn_77 (tgt := 83) (by decide) ⟨fun _ => ?_, fun q => absurd q (by decide)⟩
          refine z_iinc E 4 [1, 2, 3, 4, 0, 5, 6] (v := v4 + 1) (lv' := [(0, zf G 4), (1, zf G 2), (2, .int v2), (3, .int v3), (4, .int (v4 + 1)), (5, .int (σ 18 (v3 + v4).toNatClampNeg)), (6, .int (0 : Int32))]) d_Play_tryIn_83 rfl rfl (by decide) rfl ?_
          refine z_goto E d_Play_tryIn_86 (tgt := 15) (by decide) ?_
          refine zZ.sub [0, 1, 2, 3, 4] (lv' := [(0, zf G 4), (1, zf G 2), (2, .int v2), (3, .int v3), (4, .int (v4 + 1))]) rfl ?_
          exact h
    · replace h := h.2 q
      refine z_iload E 4 d_Play_tryIn_44 rfl ?_
      refine z_iload_n E 2 d_Play_tryIn_46 rfl rfl ?_
      refine z_icmp_le E d_Play_tryIn_47 (tgt := 54) (by decide) ⟨fun q => ?_, fun q => ?_⟩
      · replace h := h.1 q
        refine z_iconst E (v := 0) d_Play_tryIn_54 (by decide) ?_
        refine z_istore E [1, 2, 3, 4, 5, 6, 0] (lv' := [(0, zf G 4), (1, zf G 2), (2, .int v2), (3, .int v3), (4, .int v4), (5, .int (σ 18 (v3 + v4).toNatClampNeg)), (6, .int (0 : Int32))]) d_Play_tryIn_55 (by decide) rfl ?_
        refine z_iload E 5 d_Play_tryIn_57 rfl ?_
        refine z_bipush E (v := -2) d_Play_tryIn_59 (by decide) ?_
        refine z_icmp_eq E d_Play_tryIn_61 (tgt := 83) (by decide) ⟨fun q => ?_, fun q => ?_⟩
        · replace h := h.1 q
          refine z_iinc E 4 [1, 2, 3, 4, 0, 5, 6] (v := v4 + 1) (lv' := [(0, zf G 4), (1, zf G 2), (2, .int v2), (3, .int v3), (4, .int (v4 + 1)), (5, .int (σ 18 (v3 + v4).toNatClampNeg)), (6, .int (0 : Int32))]) d_Play_tryIn_83 rfl rfl (by decide) rfl ?_
          refine z_goto E d_Play_tryIn_86 (tgt := 15) (by decide) ?_
          refine zZ.sub [0, 1, 2, 3, 4] (lv' := [(0, zf G 4), (1, zf G 2), (2, .int v2), (3, .int v3), (4, .int (v4 + 1))]) rfl ?_
          exact h
        · replace h := h.2 q
          refine z_iload E 5 d_Play_tryIn_64 rfl ?_
          refine z_aload_n E 1 d_Play_tryIn_66 rfl rfl ?_
          refine z_getR E f_Play_38 d_Play_tryIn_67 ?_
          refine z_iload_n E 2 d_Play_tryIn_70 rfl rfl ?_
          obtain ⟨h0, h⟩ := h
          refine z_iald E rfl d_Play_tryIn_71 ⟨h0, ?_⟩
          refine z_icmp_gt E d_Play_tryIn_72 (tgt := 80) (by decide) ⟨fun q => ?_, fun q => ?_⟩
          · replace h := h.1 q
            refine z_bipush E (v := -2) d_Play_tryIn_80 (by decide) ?_
            exact z_ireturn E rfl d_Play_tryIn_82 h
          · replace h := h.2 q
            refine z_iload E 6 d_Play_tryIn_75 rfl ?_
            refine z_if_eq E d_Play_tryIn_77 (tgt := 83) (by decide) ⟨fun _ => ?_, fun q => absurd q (by decide)⟩
            refine z_iinc E 4 [1, 2, 3, 4, 0, 5, 6] (v := v4 + 1) (lv' := [(0, zf G 4), (1, zf G 2), (2, .int v2), (3, .int v3), (4, .int (v4 + 1)), (5, .int (σ 18 (v3 + v4).toNatClampNeg)), (6, .int (0 : Int32))]) d_Play_tryIn_83 rfl rfl (by decide) rfl ?_
            refine z_goto E d_Play_tryIn_86 (tgt := 15) (by decide) ?_
            refine zZ.sub [0, 1, 2, 3, 4] (lv' := [(0, zf G 4), (1, zf G 2), (2, .int v2), (3, .int v3), (4, .int (v4 + 1))]) rfl ?_
            exact h
      · replace h := h.2 q
        refine z_iconst E (v := 1) d_Play_tryIn_50 (by decide) ?_
        refine z_goto E d_Play_tryIn_51 (tgt := 55) (by decide) ?_
        refine z_istore E [1, 2, 3, 4, 5, 6, 0] (lv' := [(0, zf G 4), (1, zf G 2), (2, .int v2), (3, .int v3), (4, .int v4), (5, .int (σ 18 (v3 + v4).toNatClampNeg)), (6, .int (1 : Int32))]) d_Play_tryIn_55 (by decide) rfl ?_
        refine z_iload E 5 d_Play_tryIn_57 rfl ?_
        refine z_bipush E (v := -2) d_Play_tryIn_59 (by decide) ?_
        refine z_icmp_eq E d_Play_tryIn_61 (tgt := 83) (by decide) ⟨fun q => ?_, fun q => ?_⟩
        · replace h := h.1 q
          refine z_iinc E 4 [1, 2, 3, 4, 0, 5, 6] (v := v4 + 1) (lv' := [(0, zf G 4), (1, zf G 2), (2, .int v2), (3, .int v3), (4, .int (v4 + 1)), (5, .int (σ 18 (v3 + v4).toNatClampNeg)), (6, .int (1 : Int32))]) d_Play_tryIn_83 rfl rfl (by decide) rfl ?_
          refine z_goto E d_Play_tryIn_86 (tgt := 15) (by decide) ?_
          refine zZ.sub [0, 1, 2, 3, 4] (lv' := [(0, zf G 4), (1, zf G 2), (2, .int v2), (3, .int v3), (4, .int (v4 + 1))]) rfl ?_
          exact h
        · replace h := h.2 q
          refine z_iload E 5 d_Play_tryIn_64 rfl ?_
          refine z_aload_n E 1 d_Play_tryIn_66 rfl rfl ?_
          refine z_getR E f_Play_38 d_Play_tryIn_67 ?_
          refine z_iload_n E 2 d_Play_tryIn_70 rfl rfl ?_
          obtain ⟨h0, h⟩ := h
          refine z_iald E rfl d_Play_tryIn_71 ⟨h0, ?_⟩
          refine z_icmp_gt E d_Play_tryIn_72 (tgt := 80) (by decide) ⟨fun q => ?_, fun q => ?_⟩
          · replace h := h.1 q
            refine z_bipush E (v := -2) d_Play_tryIn_80 (by decide) ?_
            exact z_ireturn E rfl d_Play_tryIn_82 h
          · replace h := h.2 q
            refine z_iload E 6 d_Play_tryIn_75 rfl ?_
            refine z_if_eq E d_Play_tryIn_77 (tgt := 83) (by decide) ⟨fun q => absurd q (by decide), fun _ => ?_⟩
            refine z_bipush E (v := -2) d_Play_tryIn_80 (by decide) ?_
            exact z_ireturn E rfl d_Play_tryIn_82 h

