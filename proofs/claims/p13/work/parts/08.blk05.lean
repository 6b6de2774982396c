set_option maxRecDepth 20000 in
set_option maxHeartbeats 4000000 in
theorem b_P_hasLetter_0 {G : zG} {X : zX} {post : Option Value → zSt → Prop} (E : zCtx G M_P_hasLetter (zKm G 0 X post) X) (v1 : Int32) (σ : zSt)
    (h : (((σ 0 1) = 0 → post (some (.int (0 : Int32))) σ) ∧ (¬ (σ 0 1) = 0 → ((v1 < 0 → post (some (.int (0 : Int32))) σ) ∧ (¬ v1 < 0 → (((σ 5 0) ≤ v1 → post (some (.int (0 : Int32))) σ) ∧ (¬ (σ 5 0) ≤ v1 → post (some (.int (1 : Int32))) σ))))))) :
    zZ G M_P_hasLetter 0 X post 0 [(0, zf G 0), (1, .int v1)] [] σ := by
  refine z_aload_n E 0 d_P_hasLetter_0 rfl rfl ?_
  refine z_getI E f_P_26 d_P_hasLetter_1 ?_
  refine z_if_eq E d_P_hasLetter_4 (tgt := 29) (by decide) ⟨fun q => ?_, fun q => ?_⟩
  · replace h := h.1 q
    refine z_iconst E (v := 0) d_P_hasLetter_29 (by decide) ?_
    exact z_zreturn E rfl rfl d_P_hasLetter_30 h
  · replace h := h.2 q
    refine z_iload_n E 1 d_P_hasLetter_7 rfl rfl ?_
    refine z_if_lt E d_P_hasLetter_8 (tgt := 29) (by decide) ⟨fun q => ?_, fun q => ?_⟩
    · replace h := h.1 q
      refine z_iconst E (v := 0) d_P_hasLetter_29 (by decide) ?_
      exact z_zreturn E rfl rfl d_P_hasLetter_30 h
    · replace h := h.2 q
      refine z_iload_n E 1 d_P_hasLetter_11 rfl rfl ?_
      refine z_aload_n E 0 d_P_hasLetter_12 rfl rfl ?_
      refine z_getR E f_P_10 d_P_hasLetter_13 ?_
      refine z_getR E f_P_64 d_P_hasLetter_16 ?_
      refine z_getI E f_P_68 d_P_hasLetter_19 ?_
      refine z_icmp_ge E d_P_hasLetter_22 (tgt := 29) (by decide) ⟨fun q => ?_, fun q => ?_⟩
      · replace h := h.1 q
        refine z_iconst E (v := 0) d_P_hasLetter_29 (by decide) ?_
        exact z_zreturn E rfl rfl d_P_hasLetter_30 h
      · replace h := h.2 q
        refine z_iconst E (v := 1) d_P_hasLetter_25 (by decide) ?_
        refine z_goto E d_P_hasLetter_26 (tgt := 30) (by decide) ?_
        exact z_zreturn E rfl rfl d_P_hasLetter_30 h

set_option maxRecDepth 20000 in
set_option maxHeartbeats 4000000 in
theorem b_P_hasRound_0 {G : zG} {X : zX} {post : Option Value → zSt → Prop} (E : zCtx G M_P_hasRound (zKm G 1 X post) X) (v1 : Int32) (v2 : Int32) (σ : zSt)
    (h : (((σ 0 1) = 0 → post (some (.int (0 : Int32))) σ) ∧ (¬ (σ 0 1) = 0 → (((zHas σ v1) = false → post (some (.int (0 : Int32))) σ) ∧ ((zHas σ v1) = true → ((v2 < 0 → post (some (.int (0 : Int32))) σ) ∧ (¬ v2 < 0 → (((σ 1 5) < v2 → post (some (.int (0 : Int32))) σ) ∧ (¬ (σ 1 5) < v2 → post (some (.int (1 : Int32))) σ))))))))) :
    zZ G M_P_hasRound 1 X post 0 [(0, zf G 0), (1, .int v1), (2, .int v2)] [] σ := by
  refine z_aload_n E 0 d_P_hasRound_0 rfl rfl ?_
  refine z_getI E f_P_26 d_P_hasRound_1 ?_
  refine z_if_eq E d_P_hasRound_4 (tgt := 40) (by decide) ⟨fun q => ?_, fun q => ?_⟩
  · replace h := h.1 q
    refine z_iconst E (v := 0) d_P_hasRound_40 (by decide) ?_
    exact z_zreturn E rfl rfl d_P_hasRound_41 h
  · replace h := h.2 q
    refine z_aload_n E 0 d_P_hasRound_7 rfl rfl ?_
    refine z_getR E f_P_10 d_P_hasRound_8 ?_
    refine z_getR E f_P_16 d_P_hasRound_11 ?_
    refine z_iload_n E 1 d_P_hasRound_14 rfl rfl ?_
    refine z_callVBp [.int v1] [] E (p_Net_hasNode G σ v1) c_P_30 r_Net_hasNode rfl zrm rfl (Nat.le_of_ble_eq_true rfl) d_P_hasRound_15 ?_
    refine z_ifz_eq E d_P_hasRound_18 (tgt := 40) (by decide) ⟨fun q => ?_, fun q => ?_⟩
    · replace h := h.1 q
      refine z_iconst E (v := 0) d_P_hasRound_40 (by decide) ?_
      exact z_zreturn E rfl rfl d_P_hasRound_41 h
    · replace h := h.2 q
      refine z_iload_n E 2 d_P_hasRound_21 rfl rfl ?_
      refine z_if_lt E d_P_hasRound_22 (tgt := 40) (by decide) ⟨fun q => ?_, fun q => ?_⟩
      · replace h := h.1 q
        refine z_iconst E (v := 0) d_P_hasRound_40 (by decide) ?_
        exact z_zreturn E rfl rfl d_P_hasRound_41 h
      · replace h := h.2 q
        refine z_iload_n E 2 d_P_hasRound_25 rfl rfl ?_
        refine z_aload_n E 0 d_P_hasRound_26 rfl rfl ?_
        refine z_getR E f_P_10 d_P_hasRound_27 ?_
        refine z_getI E f_P_176 d_P_hasRound_30 ?_
        refine z_icmp_gt E d_P_hasRound_33 (tgt := 40) (by decide) ⟨fun q => ?_, fun q => ?_⟩
        · replace h := h.1 q
          refine z_iconst E (v := 0) d_P_hasRound_40 (by decide) ?_
          exact z_zreturn E rfl rfl d_P_hasRound_41 h
        · replace h := h.2 q
          refine z_iconst E (v := 1) d_P_hasRound_36 (by decide) ?_
          refine z_goto E d_P_hasRound_37 (tgt := 41) (by decide) ?_
          exact z_zreturn E rfl rfl d_P_hasRound_41 h

set_option maxRecDepth 20000 in
set_option maxHeartbeats 4000000 in
theorem b_Mo_begin_0 {G : zG} {X : zX} {post : Option Value → zSt → Prop} (E : zCtx G M_Mo_begin (zKm G 0 X post) X) (v1 : Int32) (σ : zSt)
    (h : ((v1 < (1 : Int32) → post (some (.int (-1 : Int32))) σ) ∧ (¬ v1 < (1 : Int32) → ((v1 ≤ (12 : Int32) → (∀ σ1 : zSt, σ1 = zup σ 32 0 v1 → (∀ σ2 : zSt, σ2 = zup σ1 32 1 (0 : Int32) → (∀ σ3 : zSt, σ3 = zup σ2 32 4 (0 : Int32) → zZ G M_Mo_begin 0 X post 30 [(0, zf G 32), (2, .int (0 : Int32))] [] σ3)))) ∧ (¬ v1 ≤ (12 : Int32) → post (some (.int (-1 : Int32))) σ))))) :
    zZ G M_Mo_begin 0 X post 0 [(0, zf G 32), (1, .int v1)] [] σ := by
  refine z_iload_n E 1 d_Mo_begin_0 rfl rfl ?_
  refine z_iconst E (v := 1) d_Mo_begin_1 (by decide) ?_
  refine z_icmp_lt E d_Mo_begin_2 (tgt := 11) (by decide) ⟨fun q => ?_, fun q => ?_⟩
  · replace h := h.1 q
    refine z_iconst E (v := -1) d_Mo_begin_11 (by decide) ?_
    exact z_ireturn E rfl d_Mo_begin_12 h
  · replace h := h.2 q
    refine z_iload_n E 1 d_Mo_begin_5 rfl rfl ?_
    refine z_bipush E (v := 12) d_Mo_begin_6 (by decide) ?_
    refine z_icmp_le E d_Mo_begin_8 (tgt := 13) (by decide) ⟨fun q => ?_, fun q => ?_⟩
    · replace h := h.1 q
      refine z_aload_n E 0 d_Mo_begin_13 rfl rfl ?_
      refine z_iload_n E 1 d_Mo_begin_14 rfl rfl ?_
      refine z_putI E w_Mo_84 d_Mo_begin_15 (fun σ1 e => ?_)
      replace h := h σ1 e
      refine z_aload_n E 0 d_Mo_begin_18 rfl rfl ?_
      refine z_iconst E (v := 0) d_Mo_begin_19 (by decide) ?_
      refine z_putI E w_Mo_88 d_Mo_begin_20 (fun σ2 e => ?_)
      replace h := h σ2 e
      refine z_aload_n E 0 d_Mo_begin_23 rfl rfl ?_
      refine z_iconst E (v := 0) d_Mo_begin_24 (by decide) ?_
      refine z_putZ E w_Mo_91 ⟨rfl, rfl⟩ d_Mo_begin_25 (fun σ3 e => ?_)
      replace h := h σ3 e
      refine z_iconst E (v := 0) d_Mo_begin_28 (by decide) ?_
      refine z_istore_n E [1, 0] (lv' := [(0, zf G 32), (2, .int (0 : Int32))]) d_Mo_begin_29 rfl (by decide) rfl ?_
      exact h
    · replace h := h.2 q
      refine z_iconst E (v := -1) d_Mo_begin_11 (by decide) ?_
      exact z_ireturn E rfl d_Mo_begin_12 h

set_option maxRecDepth 20000 in
set_option maxHeartbeats 4000000 in
theorem b_Mo_begin_30 {G : zG} {X : zX} {post : Option Value → zSt → Prop} (E : zCtx G M_Mo_begin (zKm G 0 X post) X) (v2 : Int32) (σ : zSt)
    (h : (((144 : Int32) ≤ v2 → zZ G M_Mo_begin 0 X post 52 [(0, zf G 32), (2, .int (0 : Int32))] [] σ) ∧ (¬ (144 : Int32) ≤ v2 → (vp_in v2 144 ∧ ∀ σ1 : zSt, σ1 = zup σ 33 v2.toNatClampNeg (0 : Int32) → zZ G M_Mo_begin 0 X post 30 [(0, zf G 32), (2, .int (v2 + 1))] [] σ1)))) :
    zZ G M_Mo_begin 0 X post 30 [(0, zf G 32), (2, .int v2)] [] σ := by
  refine z_iload_n E 1 d_Mo_begin_30 rfl rfl ?_
  refine z_sipush E (v := 144) d_Mo_begin_31 (by decide) ?_
  refine z_icmp_ge E d_Mo_begin_34 (tgt := 50) (by decide) ⟨fun q => ?_, fun q => ?_⟩
  · replace h := h.1 q
    refine z_iconst E (v := 0) d_Mo_begin_50 (by decide) ?_
    refine z_istore_n E [1, 0] (lv' := [(0, zf G 32), (2, .int (0 : Int32))]) d_Mo_begin_51 rfl (by decide) rfl ?_
    exact h
  · replace h := h.2 q
    refine z_aload_n E 0 d_Mo_begin_37 rfl rfl ?_
    refine z_getR E f_Mo_7 d_Mo_begin_38 ?_
    refine z_iload_n E 1 d_Mo_begin_41 rfl rfl ?_
    refine z_iconst E (v := 0) d_Mo_begin_42 (by decide) ?_
    obtain ⟨h0, h⟩ := h
    refine z_iast E rfl d_Mo_begin_43 ⟨h0, fun σ1 e => ?_⟩
    replace h := h σ1 e
    refine z_iinc E 1 [1, 0] (v := v2 + 1) (lv' := [(0, zf G 32), (2, .int (v2 + 1))]) d_Mo_begin_44 rfl rfl (by decide) rfl ?_
    refine z_goto E d_Mo_begin_47 (tgt := 30) (by decide) ?_
    exact h

set_option maxRecDepth 20000 in
set_option maxHeartbeats 4000000 in
theorem b_Mo_begin_52 {G : zG} {X : zX} {post : Option Value → zSt → Prop} (E : zCtx G M_Mo_begin (zKm G 0 X post) X) (v2 : Int32) (σ : zSt)
    (h : (((12 : Int32) ≤ v2 → post (some (.int (0 : Int32))) σ) ∧ (¬ (12 : Int32) ≤ v2 → (vp_in v2 12 ∧ ∀ σ1 : zSt, σ1 = zup σ 34 v2.toNatClampNeg (0 : Int32) → zZ G M_Mo_begin 0 X post 52 [(0, zf G 32), (2, .int (v2 + 1))] [] σ1)))) :
    zZ G M_Mo_begin 0 X post 52 [(0, zf G 32), (2, .int v2)] [] σ := by
  refine z_iload_n E 1 d_Mo_begin_52 rfl rfl ?_
  refine z_bipush E (v := 12) d_Mo_begin_53 (by decide) ?_
  refine z_icmp_ge E d_Mo_begin_55 (tgt := 71) (by decide) ⟨fun q => ?_, fun q => ?_⟩
  · replace h := h.1 q
    refine z_iconst E (v := 0) d_Mo_begin_71 (by decide) ?_
    exact z_ireturn E rfl d_Mo_begin_72 h
  · replace h := h.2 q
    refine z_aload_n E 0 d_Mo_begin_58 rfl rfl ?_
    refine z_getR E f_Mo_13 d_Mo_begin_59 ?_
    refine z_iload_n E 1 d_Mo_begin_62 rfl rfl ?_
    refine z_iconst E (v := 0) d_Mo_begin_63 (by decide) ?_
    obtain ⟨h0, h⟩ := h
    refine z_iast E rfl d_Mo_begin_64 ⟨h0, fun σ1 e => ?_⟩
    replace h := h σ1 e
    refine z_iinc E 1 [1, 0] (v := v2 + 1) (lv' := [(0, zf G 32), (2, .int (v2 + 1))]) d_Mo_begin_65 rfl rfl (by decide) rfl ?_
    refine z_goto E d_Mo_begin_68 (tgt := 52) (by decide) ?_
    exact h

set_option maxRecDepth 20000 in
set_option maxHeartbeats 4000000 in
theorem b_Mo_link_0 {G : zG} {X : zX} {post : Option Value → zSt → Prop} (E : zCtx G M_Mo_link (zKm G 1 X post) X) (v1 : Int32) (v2 : Int32) (v3 : Int32) (σ : zSt)
    (h : (((zNo σ v1) = true → post (some (.int (-1 : Int32))) σ) ∧ ((zNo σ v1) = false → (((zNo σ v2) = true → post (some (.int (-1 : Int32))) σ) ∧ ((zNo σ v2) = false → ((v1 = v2 → post (some (.int (-1 : Int32))) σ) ∧ (¬ v1 = v2 → ((v3 < (1 : Int32) → post (some (.int (-1 : Int32))) σ) ∧ (¬ v3 < (1 : Int32) → ((v3 ≤ (9 : Int32) → (vp_in (12 * v1 + v2) 144 ∧ (((zLk σ v1 v2) = false → (∀ σ1 : zSt, σ1 = zup σ 32 1 ((σ 32 1) + (1 : Int32)) → (vp_in (((12 : Int32) * v1) + v2) 144 ∧ ∀ σ2 : zSt, σ2 = zup σ1 33 (((12 : Int32) * v1) + v2).toNatClampNeg v3 → (vp_in (((12 : Int32) * v2) + v1) 144 ∧ ∀ σ3 : zSt, σ3 = zup σ2 33 (((12 : Int32) * v2) + v1).toNatClampNeg v3 → (∀ σ4 : zSt, σ4 = zup σ3 32 4 (0 : Int32) → post (some (.int (σ4 32 1))) σ4))))) ∧ ((zLk σ v1 v2) = true → (∀ σ5 : zSt, σ5 = zup σ 32 1 ((σ 32 1) + (0 : Int32)) → (vp_in (((12 : Int32) * v1) + v2) 144 ∧ ∀ σ6 : zSt, σ6 = zup σ5 33 (((12 : Int32) * v1) + v2).toNatClampNeg v3 → (vp_in (((12 : Int32) * v2) + v1) 144 ∧ ∀ σ7 : zSt, σ7 = zup σ6 33 (((12 : Int32) * v2) + v1).toNatClampNeg v3 → (∀ σ8 : zSt, σ8 = zup σ7 32 4 (0 : Int32) → post (some (.int (σ8 32 1))) σ8)))))))) ∧ (¬ v3 ≤ (9 : Int32) → post (some (.int (-1 : Int32))) σ))))))))))) :
    zZ G M_Mo_link 1 X post 0 [(0, zf G 32), (1, .int v1), (2, .int v2), (3, .int v3)] [] σ := by
  refine z_aload_n E 0 d_Mo_link_0 rfl rfl ?_
  refine z_iload_n E 1 d_Mo_link_1 rfl rfl ?_
  refine z_callVBp [.int v1] [] E (p_Mo_noNode G σ v1) c_Mo_95 r_Mo_noNode rfl zrm rfl (Nat.le_of_ble_eq_true rfl) d_Mo_link_2 ?_
  refine z_ifz_ne E d_Mo_link_5 (tgt := 32) (by decide) ⟨fun q => ?_, fun q => ?_⟩
  · replace h := h.1 q
    refine z_iconst E (v := -1) d_Mo_link_32 (by decide) ?_
    exact z_ireturn E rfl d_Mo_link_33 h
  · replace h := h.2 q
    refine z_aload_n E 0 d_Mo_link_8 rfl rfl ?_
    refine z_iload_n E 2 d_Mo_link_9 rfl rfl ?_
    refine z_callVBp [.int v2] [] E (p_Mo_noNode G σ v2) c_Mo_95 r_Mo_noNode rfl zrm rfl (Nat.le_of_ble_eq_true rfl) d_Mo_link_10 ?_
    refine z_ifz_ne E d_Mo_link_13 (tgt := 32) (by decide) ⟨fun q => ?_, fun q => ?_⟩
    · replace h := h.1 q
      refine z_iconst E (v := -1) d_Mo_link_32 (by decide) ?_
      exact z_ireturn E rfl d_Mo_link_33 h
    · replace h := h.2 q
      refine z_iload_n E 1 d_Mo_link_16 rfl rfl ?_
      refine z_iload_n E 2 d_Mo_link_17 rfl rfl ?_
      refine z_icmp_eq E d_Mo_link_18 (tgt := 32) (by decide) ⟨fun q => ?_, fun q => ?_⟩
      · replace h := h.1 q
        refine z_iconst E (v := -1) d_Mo_link_32 (by decide) ?_
        exact z_ireturn E rfl d_Mo_link_33 h
      · replace h := h.2 q
        refine z_iload_n E 3 d_Mo_link_21 rfl rfl ?_
        refine z_iconst E (v := 1) d_Mo_link_22 (by decide) ?_
        refine z_icmp_lt E d_Mo_link_23 (tgt := 32) (by decide) ⟨fun q => ?_, fun q => ?_⟩
        · replace h := h.1 q
          refine z_iconst E (v := -1) d_Mo_link_32 (by decide) ?_
          exact z_ireturn E rfl d_Mo_link_33 h
        · replace h := h.2 q
          refine z_iload_n E 3 d_Mo_link_26 rfl rfl ?_
          refine z_bipush E (v := 9) d_Mo_link_27 (by decide) ?_
          refine z_icmp_le E d_Mo_link_29 (tgt := 34) (by decide) ⟨fun q => ?_, fun q => ?_⟩
          · replace h := h.1 q
            refine z_aload_n E 0 d_Mo_link_34 rfl rfl ?_
            refine z_dup E d_Mo_link_35 rfl ?_
            refine z_getI E f_Mo_88 d_Mo_link_36 ?_
            refine z_aload_n E 0 d_Mo_link_39 rfl rfl ?_
            refine z_iload_n E 1 d_Mo_link_40 rfl rfl ?_
            refine z_iload_n E 2 d_Mo_link_41 rfl rfl ?_
            obtain ⟨h0, h⟩ := h
            refine z_callVBp [.int v1, .int v2] [.int (σ 32 1), zf G 32] E (p_Mo_isLink G σ v1 v2 h0) c_Mo_99 r_Mo_isLink rfl zrm rfl (Nat.le_of_ble_eq_true rfl) d_Mo_link_42 ?_
            refine z_ifz_eq E d_Mo_link_45 (tgt := 52) (by decide) ⟨fun q => ?_, fun q => ?_⟩
            · replace h := h.1 q
              refine z_iconst E (v := 1) d_Mo_link_52 (by decide) ?_
              refine z_iadd E d_Mo_link_53 ?_
              refine z_putI E w_Mo_88 d_Mo_link_54 (fun σ1 e => ?_)
              replace h := h σ1 e
              refine z_aload_n E 0 d_Mo_link_57 rfl rfl ?_
              refine z_getR E f_Mo_7 d_Mo_link_58 ?_
              refine z_bipush E (v := 12) d_Mo_link_61 (by decide) ?_
              refine z_iload_n E 1 d_Mo_link_63 rfl rfl ?_
              refine z_imul E d_Mo_link_64 ?_
              refine z_iload_n E 2 d_Mo_link_65 rfl rfl ?_
              refine z_iadd E d_Mo_link_66 ?_
              refine z_iload_n E 3 d_Mo_link_67 rfl rfl ?_
              obtain ⟨h0, h⟩ := h
              refine z_iast E rfl d_Mo_link_68 ⟨h0, fun σ2 e => ?_⟩
              replace h := h σ2 e
              refine z_aload_n E 0 d_Mo_link_69 rfl rfl ?_
              refine z_getR E f_Mo_7 d_Mo_link_70 ?_
              refine z_bipush E (v := 12) d_Mo_link_73 (by decide) ?_
              refine z_iload_n E 2 d_Mo_link_75 rfl rfl ?_
              refine z_imul E d_Mo_link_76 ?_
              refine z_iload_n E 1 d_Mo_link_77 rfl rfl ?_
              refine z_iadd E d_Mo_link_78 ?_
              refine z_iload_n E 3 d_Mo_link_79 rfl rfl ?_
              obtain ⟨h0, h⟩ := h
              refine z_iast E rfl d_Mo_link_80 ⟨h0, fun σ3 e => ?_⟩
              replace h := h σ3 e
              refine z_aload_n E 0 d_Mo_link_81 rfl rfl ?_
              refine z_iconst E (v := 0) d_Mo_link_82 (by decide) ?_
              refine z_putZ E w_Mo_91 ⟨rfl, rfl⟩ d_Mo_link_83 (fun σ4 e => ?_)
              replace h := h σ4 e
              refine z_aload_n E 0 d_Mo_link_86 rfl rfl ?_
              refine z_getI E f_Mo_88 d_Mo_link_87 ?_
              exact z_ireturn E rfl d_Mo_link_90 h
            · replace h := h.2 q
              refine z_iconst E (v := 0) d_Mo_link_48 (by decide) ?_
              refine z_goto E d_Mo_link_49 (tgt := 53) (by decide) ?_
              refine z_iadd E d_Mo_link_53 ?_
              refine z_putI E w_Mo_88 d_Mo_link_54 (fun σ5 e => ?_)
              replace h := h σ5 e
              refine z_aload_n E 0 d_Mo_link_57 rfl rfl ?_
              refine z_getR E f_Mo_7 d_Mo_link_58 ?_
              refine z_bipush E (v := 12) d_Mo_link_61 (by decide) ?_
              refine z_iload_n E 1 d_Mo_link_63 rfl rfl ?_
              refine z_imul E d_Mo_link_64 ?_
              refine z_iload_n E 2 d_Mo_link_65 rfl rfl ?_
              refine z_iadd E d_Mo_link_66 ?_
              refine z_iload_n E 3 d_Mo_link_67 rfl rfl ?_
              obtain ⟨h0, h⟩ := h
              refine z_iast E rfl d_Mo_link_68 ⟨h0, fun σ6 e => ?_⟩
              replace h := h σ6 e
              refine z_aload_n E 0 d_Mo_link_69 rfl rfl ?_
              refine z_getR E f_Mo_7 d_Mo_link_70 ?_
              refine z_bipush E (v := 12) d_Mo_link_73 (by decide) ?_
              refine z_iload_n E 2 d_Mo_link_75 rfl rfl ?_
              refine z_imul E d_Mo_link_76 ?_
              refine z_iload_n E 1 d_Mo_link_77 rfl rfl ?_
              refine z_iadd E d_Mo_link_78 ?_
              refine z_iload_n E 3 d_Mo_link_79 rfl rfl ?_
              obtain ⟨h0, h⟩ := h
              refine z_iast E rfl d_Mo_link_80 ⟨h0, fun σ7 e => ?_⟩
              replace h := h σ7 e
              refine z_aload_n E 0 d_Mo_link_81 rfl rfl ?_
              refine z_iconst E (v := 0) d_Mo_link_82 (by decide) ?_
              refine z_putZ E w_Mo_91 ⟨rfl, rfl⟩ d_Mo_link_83 (fun σ8 e => ?_)
              replace h := h σ8 e
              refine z_aload_n E 0 d_Mo_link_86 rfl rfl ?_
              refine z_getI E f_Mo_88 d_Mo_link_87 ?_
              exact z_ireturn E rfl d_Mo_link_90 h
          · replace h := h.2 q
            refine z_iconst E (v := -1) d_Mo_link_32 (by decide) ?_
            exact z_ireturn E rfl d_Mo_link_33 h

set_option maxRecDepth 20000 in
set_option maxHeartbeats 4000000 in
theorem b_Mo_mark_0 {G : zG} {X : zX} {post : Option Value → zSt → Prop} (E : zCtx G M_Mo_mark (zKm G 1 X post) X) (v1 : Int32) (v2 : Int32) (σ : zSt)
    (h : (((zNo σ v1) = true → post (some (.int (-1 : Int32))) σ) ∧ ((zNo σ v1) = false → ((v2 < 0 → post (some (.int (-1 : Int32))) σ) ∧ (¬ v2 < 0 → ((v2 ≤ (99 : Int32) → (vp_in v1 12 ∧ (vp_in v1 12 ∧ ∀ σ1 : zSt, σ1 = zup σ 34 v1.toNatClampNeg v2 → (∀ σ2 : zSt, σ2 = zup σ1 32 4 (0 : Int32) → post (some (.int (σ 34 v1.toNatClampNeg))) σ2)))) ∧ (¬ v2 ≤ (99 : Int32) → post (some (.int (-1 : Int32))) σ))))))) :
    zZ G M_Mo_mark 1 X post 0 [(0, zf G 32), (1, .int v1), (2, .int v2)] [] σ := by
  refine z_aload_n E 0 d_Mo_mark_0 rfl rfl ?_
  refine z_iload_n E 1 d_Mo_mark_1 rfl rfl ?_
  refine z_callVBp [.int v1] [] E (p_Mo_noNode G σ v1) c_Mo_95 r_Mo_noNode rfl zrm rfl (Nat.le_of_ble_eq_true rfl) d_Mo_mark_2 ?_
  refine z_ifz_ne E d_Mo_mark_5 (tgt := 18) (by decide) ⟨fun q => ?_, fun q => ?_⟩
  · replace h := h.1 q
    refine z_iconst E (v := -1) d_Mo_mark_18 (by decide) ?_
    exact z_ireturn E rfl d_Mo_mark_19 h
  · replace h := h.2 q
    refine z_iload_n E 2 d_Mo_mark_8 rfl rfl ?_
    refine z_if_lt E d_Mo_mark_9 (tgt := 18) (by decide) ⟨fun q => ?_, fun q => ?_⟩
    · replace h := h.1 q
      refine z_iconst E (v := -1) d_Mo_mark_18 (by decide) ?_
      exact z_ireturn E rfl d_Mo_mark_19 h
    · replace h := h.2 q
      refine z_iload_n E 2 d_Mo_mark_12 rfl rfl ?_
      refine z_bipush E (v := 99) d_Mo_mark_13 (by decide) ?_
      refine z_icmp_le E d_Mo_mark_15 (tgt := 20) (by decide) ⟨fun q => ?_, fun q => ?_⟩
      · replace h := h.1 q
        refine z_aload_n E 0 d_Mo_mark_20 rfl rfl ?_
        refine z_getR E f_Mo_13 d_Mo_mark_21 ?_
        refine z_iload_n E 1 d_Mo_mark_24 rfl rfl ?_
        obtain ⟨h0, h⟩ := h
        refine z_iald E rfl d_Mo_mark_25 ⟨h0, ?_⟩
        refine z_istore_n E [1, 2, 3, 0] (lv' := [(0, zf G 32), (1, .int v1), (2, .int v2), (3, .int (σ 34 v1.toNatClampNeg))]) d_Mo_mark_26 rfl (by decide) rfl ?_
        refine z_aload_n E 0 d_Mo_mark_27 rfl rfl ?_
        refine z_getR E f_Mo_13 d_Mo_mark_28 ?_
        refine z_iload_n E 1 d_Mo_mark_31 rfl rfl ?_
        refine z_iload_n E 2 d_Mo_mark_32 rfl rfl ?_
        obtain ⟨h0, h⟩ := h
        refine z_iast E rfl d_Mo_mark_33 ⟨h0, fun σ1 e => ?_⟩
        replace h := h σ1 e
        refine z_aload_n E 0 d_Mo_mark_34 rfl rfl ?_
        refine z_iconst E (v := 0) d_Mo_mark_35 (by decide) ?_
        refine z_putZ E w_Mo_91 ⟨rfl, rfl⟩ d_Mo_mark_36 (fun σ2 e => ?_)
        replace h := h σ2 e
        refine z_iload_n E 3 d_Mo_mark_39 rfl rfl ?_
        exact z_ireturn E rfl d_Mo_mark_40 h
      · replace h := h.2 q
        refine z_iconst E (v := -1) d_Mo_mark_18 (by decide) ?_
        exact z_ireturn E rfl d_Mo_mark_19 h

set_option maxRecDepth 20000 in
set_option maxHeartbeats 4000000 in
theorem b_Mo_spread_0 {G : zG} {X : zX} {post : Option Value → zSt → Prop} (E : zCtx G M_Mo_spread (zKm G 1 X post) X) (v1 : Int32) (v2 : Int32) (σ : zSt)
    (h : zZ G M_Mo_spread 1 X post 5 [(0, zf G 32), (2, .int v2), (3, .int v1), (4, .int (1 : Int32))] [] σ) :
    zZ G M_Mo_spread 1 X post 0 [(0, zf G 32), (1, .int v1), (2, .int v2)] [] σ := by
  refine z_iload_n E 1 d_Mo_spread_0 rfl rfl ?_
  refine z_istore_n E [1, 3, 0] (lv' := [(0, zf G 32), (2, .int v2), (3, .int v1)]) d_Mo_spread_1 rfl (by decide) rfl ?_
  refine z_iconst E (v := 1) d_Mo_spread_2 (by decide) ?_
  refine z_istore E [1, 2, 3, 0] (lv' := [(0, zf G 32), (2, .int v2), (3, .int v1), (4, .int (1 : Int32))]) d_Mo_spread_3 (by decide) rfl ?_
  exact h

set_option maxRecDepth 20000 in
set_option maxHeartbeats 4000000 in
theorem b_Mo_spread_5 {G : zG} {X : zX} {post : Option Value → zSt → Prop} (E : zCtx G M_Mo_spread (zKm G 1 X post) X) (v2 : Int32) (v3 : Int32) (v4 : Int32) (σ : zSt)
    (h : ((v4 = 0 → post (some (.int v3)) σ) ∧ (¬ v4 = 0 → zZ G M_Mo_spread 1 X post 16 [(0, zf G 32), (2, .int v2), (3, .int v3), (4, .int (0 : Int32)), (5, .int (0 : Int32))] [] σ))) :
    zZ G M_Mo_spread 1 X post 5 [(0, zf G 32), (2, .int v2), (3, .int v3), (4, .int v4)] [] σ := by
  refine z_iload E 3 d_Mo_spread_5 rfl ?_
  refine z_if_eq E d_Mo_spread_7 (tgt := 102) (by decide) ⟨fun q => ?_, fun q => ?_⟩
  · replace h := h.1 q
    refine z_iload_n E 2 d_Mo_spread_102 rfl rfl ?_
    exact z_ireturn E rfl d_Mo_spread_103 h
  · replace h := h.2 q
    refine z_iconst E (v := 0) d_Mo_spread_10 (by decide) ?_
    refine z_istore E [1, 2, 3, 0] (lv' := [(0, zf G 32), (2, .int v2), (3, .int v3), (4, .int (0 : Int32))]) d_Mo_spread_11 (by decide) rfl ?_
    refine z_iconst E (v := 0) d_Mo_spread_13 (by decide) ?_
    refine z_istore E [1, 2, 3, 4, 0] (lv' := [(0, zf G 32), (2, .int v2), (3, .int v3), (4, .int (0 : Int32)), (5, .int (0 : Int32))]) d_Mo_spread_14 (by decide) rfl ?_
    exact h

set_option maxRecDepth 20000 in
set_option maxHeartbeats 4000000 in
theorem b_Mo_spread_16 {G : zG} {X : zX} {post : Option Value → zSt → Prop} (E : zCtx G M_Mo_spread (zKm G 1 X post) X) (v2 : Int32) (v3 : Int32) (v4 : Int32) (v5 : Int32) (σ : zSt)
    (h : (((σ 32 0) ≤ v5 → zZ G M_Mo_spread 1 X post 5 [(0, zf G 32), (2, .int v2), (3, .int v3), (4, .int v4)] [] σ) ∧ (¬ (σ 32 0) ≤ v5 → zZ G M_Mo_spread 1 X post 28 [(0, zf G 32), (2, .int v2), (3, .int v3), (4, .int v4), (5, .int v5), (6, .int (0 : Int32))] [] σ))) :
    zZ G M_Mo_spread 1 X post 16 [(0, zf G 32), (2, .int v2), (3, .int v3), (4, .int v4), (5, .int v5)] [] σ := by
  refine z_iload E 4 d_Mo_spread_16 rfl ?_
  refine z_aload_n E 0 d_Mo_spread_18 rfl rfl ?_
  refine z_getI E f_Mo_84 d_Mo_spread_19 ?_
  refine z_icmp_ge E d_Mo_spread_22 (tgt := 99) (by decide) ⟨fun q => ?_, fun q => ?_⟩
  · replace h := h.1 q
    refine z_goto E d_Mo_spread_99 (tgt := 5) (by decide) ?_
    refine zZ.sub [0, 1, 2, 3] (lv' := [(0, zf G 32), (2, .int v2), (3, .int v3), (4, .int v4)]) rfl ?_
    exact h
  · replace h := h.2 q
    refine z_iconst E (v := 0) d_Mo_spread_25 (by decide) ?_
    refine z_istore E [1, 2, 3, 4, 5, 0] (lv' := [(0, zf G 32), (2, .int v2), (3, .int v3), (4, .int v4), (5, .int v5), (6, .int (0 : Int32))]) d_Mo_spread_26 (by decide) rfl ?_
    exact h

set_option maxRecDepth 20000 in
set_option maxHeartbeats 4000000 in
theorem b_Mo_spread_28 {G : zG} {X : zX} {post : Option Value → zSt → Prop} (E : zCtx G M_Mo_spread (zKm G 1 X post) X) (v2 : Int32) (v3 : Int32) (v4 : Int32) (v5 : Int32) (v6 : Int32) (σ : zSt)
    (h : (((σ 32 0) ≤ v6 → zZ G M_Mo_spread 1 X post 16 [(0, zf G 32), (2, .int v2), (3, .int v3), (4, .int v4), (5, .int (v5 + 1))] [] σ) ∧ (¬ (σ 32 0) ≤ v6 → ((¬ ((v3 >>> (v5 &&& 31)) &&& (1 : Int32)) = (1 : Int32) → zZ G M_Mo_spread 1 X post 28 [(0, zf G 32), (2, .int v2), (3, .int v3), (4, .int v4), (5, .int v5), (6, .int (v6 + 1))] [] σ) ∧ (((v3 >>> (v5 &&& 31)) &&& (1 : Int32)) = (1 : Int32) → (vp_in (12 * v5 + v6) 144 ∧ (((zLk σ v5 v6) = false → zZ G M_Mo_spread 1 X post 28 [(0, zf G 32), (2, .int v2), (3, .int v3), (4, .int v4), (5, .int v5), (6, .int (v6 + 1))] [] σ) ∧ ((zLk σ v5 v6) = true → ((¬ ((v2 >>> (v6 &&& 31)) &&& (1 : Int32)) = (1 : Int32) → zZ G M_Mo_spread 1 X post 28 [(0, zf G 32), (2, .int v2), (3, .int v3), (4, .int v4), (5, .int v5), (6, .int (v6 + 1))] [] σ) ∧ (((v2 >>> (v6 &&& 31)) &&& (1 : Int32)) = (1 : Int32) → ((¬ ((v3 >>> (v6 &&& 31)) &&& (1 : Int32)) = 0 → zZ G M_Mo_spread 1 X post 28 [(0, zf G 32), (2, .int v2), (3, .int v3), (4, .int v4), (5, .int v5), (6, .int (v6 + 1))] [] σ) ∧ (((v3 >>> (v6 &&& 31)) &&& (1 : Int32)) = 0 → zZ G M_Mo_spread 1 X post 28 [(0, zf G 32), (2, .int v2), (3, .int (v3 ||| ((1 : Int32) <<< (v6 &&& 31)))), (4, .int (1 : Int32)), (5, .int v5), (6, .int (v6 + 1))] [] σ)))))))))))) :
    zZ G M_Mo_spread 1 X post 28 [(0, zf G 32), (2, .int v2), (3, .int v3), (4, .int v4), (5, .int v5), (6, .int v6)] [] σ := by
  refine z_iload E 5 d_Mo_spread_28 rfl ?_
  refine z_aload_n E 0 d_Mo_spread_30 rfl rfl ?_
  refine z_getI E f_Mo_84 d_Mo_spread_31 ?_
  refine z_icmp_ge E d_Mo_spread_34 (tgt := 93) (by decide) ⟨fun q => ?_, fun q => ?_⟩
  · replace h := h.1 q
    refine z_iinc E 4 [1, 2, 3, 4, 0, 5] (v := v5 + 1) (lv' := [(0, zf G 32), (2, .int v2), (3, .int v3), (4, .int v4), (5, .int (v5 + 1)), (6, .int v6)]) d_Mo_spread_93 rfl rfl (by decide) rfl ?_
    refine z_goto E d_Mo_spread_96 (tgt := 16) (by decide) ?_
    refine zZ.sub [0, 1, 2, 3, 4] (lv' := [(0, zf G 32), (2, .int v2), (3, .int v3), (4, .int v4), (5, .int (v5 + 1))]) rfl ?_
    exact h
  · replace h := h.2 q
    refine z_iload_n E 2 d_Mo_spread_37 rfl rfl ?_
    refine z_iload E 4 d_Mo_spread_38 rfl ?_
    refine z_ishr E d_Mo_spread_40 ?_
    refine z_iconst E (v := 1) d_Mo_spread_41 (by decide) ?_
    refine z_iand E d_Mo_spread_42 ?_
    refine z_iconst E (v := 1) d_Mo_spread_43 (by decide) ?_
    refine z_icmp_ne E d_Mo_spread_44 (tgt := 87) (by decide) ⟨fun q => ?_, fun q => ?_⟩
    · replace h := h.1 q
      refine z_iinc E 5 [1, 2, 3, 4, 5, 0] (v := v6 + 1) (lv' := [(0, zf G 32), (2, .int v2), (3, .int v3), (4, .int v4), (5, .int v5), (6, .int (v6 + 1))]) d_Mo_spread_87 rfl rfl (by decide) rfl ?_
      refine z_goto E d_Mo_spread_90 (tgt := 28) (by decide) ?_
      exact h
    · replace h := h.2 q
      refine z_aload_n E 0 d_Mo_spread_47 rfl rfl ?_
      refine z_iload E 4 d_Mo_spread_48 rfl ?_
      refine z_iload E 5 d_Mo_spread_50 rfl ?_
      obtain ⟨h0, h⟩ := h
      refine z_callVBp [.int v5, .int v6] [] E (p_Mo_isLink G σ v5 v6 h0) c_Mo_99 r_Mo_isLink rfl zrm rfl (Nat.le_of_ble_eq_true rfl) d_Mo_spread_52 ?_
      refine z_ifz_eq E d_Mo_spread_55 (tgt := 87) (by decide) ⟨fun q => ?_, fun q => ?_⟩
      · replace h := h.1 q
        refine z_iinc E 5 [1, 2, 3, 4, 5, 0] (v := v6 + 1) (lv' := [(0, zf G 32), (2, .int v2), (3, .int v3), (4, .int v4), (5, .int v5), (6, .int (v6 + 1))]) d_Mo_spread_87 rfl rfl (by decide) rfl ?_
        refine z_goto E d_Mo_spread_90 (tgt := 28) (by decide) ?_
        exact h
      · replace h := h.2 q
        refine z_iload_n E 1 d_Mo_spread_58 rfl rfl ?_
        refine z_iload E 5 d_Mo_spread_59 rfl ?_
        refine z_ishr E d_Mo_spread_61 ?_
        refine z_iconst E (v := 1) d_Mo_spread_62 (by decide) ?_
        refine z_iand E d_Mo_spread_63 ?_
        refine z_iconst E (v := 1) d_Mo_spread_64 (by decide) ?_
        refine z_icmp_ne E d_Mo_spread_65 (tgt := 87) (by decide) ⟨fun q => ?_, fun q => ?_⟩
        · replace h := h.1 q
          refine z_iinc E 5 [1, 2, 3, 4, 5, 0] (v := v6 + 1) (lv' := [(0, zf G 32), (2, .int v2), (3, .int v3), (4, .int v4), (5, .int v5), (6, .int (v6 + 1))]) d_Mo_spread_87 rfl rfl (by decide) rfl ?_
          refine z_goto E d_Mo_spread_90 (tgt := 28) (by decide) ?_
          exact h
        · replace h := h.2 q
          refine z_iload_n E 2 d_Mo_spread_68 rfl rfl ?_
          refine z_iload E 5 d_Mo_spread_69 rfl ?_
          refine z_ishr E d_Mo_spread_71 ?_
          refine z_iconst E (v := 1) d_Mo_spread_72 (by decide) ?_
          refine z_iand E d_Mo_spread_73 ?_
          refine z_if_ne E d_Mo_spread_74 (tgt := 87) (by decide) ⟨fun q => ?_, fun q => ?_⟩
          · replace h := h.1 q
            refine z_iinc E 5 [1, 2, 3, 4, 5, 0] (v := v6 + 1) (lv' := [(0, zf G 32), (2, .int v2), (3, .int v3), (4, .int v4), (5, .int v5), (6, .int (v6 + 1))]) d_Mo_spread_87 rfl rfl (by decide) rfl ?_
            refine z_goto E d_Mo_spread_90 (tgt := 28) (by decide) ?_
            exact h
          · replace h := h.2 q
            refine z_iload_n E 2 d_Mo_spread_77 rfl rfl ?_
            refine z_iconst E (v := 1) d_Mo_spread_78 (by decide) ?_
            refine z_iload E 5 d_Mo_spread_79 rfl ?_
            refine z_ishl E d_Mo_spread_81 ?_
            refine z_ior E d_Mo_spread_82 ?_
            refine z_istore_n E [1, 2, 0, 4, 5] (lv' := [(0, zf G 32), (2, .int v2), (3, .int (v3 ||| ((1 : Int32) <<< (v6 &&& 31)))), (5, .int v5), (6, .int v6)]) d_Mo_spread_83 rfl (by decide) rfl ?_
            refine z_iconst E (v := 1) d_Mo_spread_84 (by decide) ?_
            refine z_istore E [1, 2, 3, 0, 4, 5] (lv' := [(0, zf G 32), (2, .int v2), (3, .int (v3 ||| ((1 : Int32) <<< (v6 &&& 31)))), (4, .int (1 : Int32)), (5, .int v5), (6, .int v6)]) d_Mo_spread_85 (by decide) rfl ?_
            refine z_iinc E 5 [1, 2, 3, 4, 5, 0] (v := v6 + 1) (lv' := [(0, zf G 32), (2, .int v2), (3, .int (v3 ||| ((1 : Int32) <<< (v6 &&& 31)))), (4, .int (1 : Int32)), (5, .int v5), (6, .int (v6 + 1))]) d_Mo_spread_87 rfl rfl (by decide) rfl ?_
            refine z_goto E d_Mo_spread_90 (tgt := 28) (by decide) ?_
            exact h

set_option maxRecDepth 20000 in
set_option maxHeartbeats 4000000 in
theorem b_Mo_tree_0 {G : zG} {X : zX} {post : Option Value → zSt → Prop} (E : zCtx G M_Mo_tree (zKm G 1 X post) X) (v1 : Int32) (v2 : Int32) (σ : zSt)
    (h : zZ G M_Mo_tree 1 X post 2 [(0, zf G 32), (1, .int v1), (2, .int v2), (3, .int (0 : Int32))] [] σ) :
    zZ G M_Mo_tree 1 X post 0 [(0, zf G 32), (1, .int v1), (2, .int v2)] [] σ := by
  refine z_iconst E (v := 0) d_Mo_tree_0 (by decide) ?_
  refine z_istore_n E [1, 2, 3, 0] (lv' := [(0, zf G 32), (1, .int v1), (2, .int v2), (3, .int (0 : Int32))]) d_Mo_tree_1 rfl (by decide) rfl ?_
  exact h

set_option maxRecDepth 20000 in
set_option maxHeartbeats 4000000 in
theorem b_Mo_tree_2 {G : zG} {X : zX} {post : Option Value → zSt → Prop} (E : zCtx G M_Mo_tree (zKm G 1 X post) X) (v1 : Int32) (v2 : Int32) (v3 : Int32) (σ : zSt)
    (h : (((σ 32 0) ≤ v3 → zZ G M_Mo_tree 1 X post 59 [(0, zf G 32), (2, .int v2), (3, .int (0 : Int32))] [] σ) ∧ (¬ (σ 32 0) ≤ v3 → ((¬ ((v2 >>> (v3 &&& 31)) &&& (1 : Int32)) = (1 : Int32) → zZ G M_Mo_tree 1 X post 2 [(0, zf G 32), (1, .int v1), (2, .int v2), (3, .int (v3 + 1))] [] σ) ∧ (((v2 >>> (v3 &&& 31)) &&& (1 : Int32)) = (1 : Int32) → (vp_in v3 12 ∧ ∀ σ1 : zSt, σ1 = zup σ 42 v3.toNatClampNeg v1 → ((¬ v3 = v1 → (vp_in v3 12 ∧ ∀ σ2 : zSt, σ2 = zup σ1 43 v3.toNatClampNeg (99 : Int32) → (vp_in v3 12 ∧ ∀ σ3 : zSt, σ3 = zup σ2 41 v3.toNatClampNeg (-2 : Int32) → zZ G M_Mo_tree 1 X post 2 [(0, zf G 32), (1, .int v1), (2, .int v2), (3, .int (v3 + 1))] [] σ3))) ∧ (v3 = v1 → (vp_in v3 12 ∧ ∀ σ4 : zSt, σ4 = zup σ1 43 v3.toNatClampNeg (0 : Int32) → (vp_in v3 12 ∧ ∀ σ5 : zSt, σ5 = zup σ4 41 v3.toNatClampNeg (-2 : Int32) → zZ G M_Mo_tree 1 X post 2 [(0, zf G 32), (1, .int v1), (2, .int v2), (3, .int (v3 + 1))] [] σ5)))))))))) :
    zZ G M_Mo_tree 1 X post 2 [(0, zf G 32), (1, .int v1), (2, .int v2), (3, .int v3)] [] σ := by
  refine z_iload_n E 3 d_Mo_tree_2 rfl rfl ?_
  refine z_aload_n E 0 d_Mo_tree_3 rfl rfl ?_
  refine z_getI E f_Mo_84 d_Mo_tree_4 ?_
  refine z_icmp_ge E d_Mo_tree_7 (tgt := 57) (by decide) ⟨fun q => ?_, fun q => ?_⟩
  · replace h := h.1 q
    refine z_iconst E (v := 0) d_Mo_tree_57 (by decide) ?_
    refine z_istore_n E [1, 3, 0] (lv' := [(0, zf G 32), (2, .int v2), (3, .int (0 : Int32))]) d_Mo_tree_58 rfl (by decide) rfl ?_
    exact h
  · replace h := h.2 q
    refine z_iload_n E 2 d_Mo_tree_10 rfl rfl ?_
    refine z_iload_n E 3 d_Mo_tree_11 rfl rfl ?_
    refine z_ishr E d_Mo_tree_12 ?_
    refine z_iconst E (v := 1) d_Mo_tree_13 (by decide) ?_
    refine z_iand E d_Mo_tree_14 ?_
    refine z_iconst E (v := 1) d_Mo_tree_15 (by decide) ?_
    refine z_icmp_ne E d_Mo_tree_16 (tgt := 51) (by decide) ⟨fun q => ?_, fun q => ?_⟩
    · replace h := h.1 q
      refine z_iinc E 3 [1, 2, 3, 0] (v := v3 + 1) (lv' := [(0, zf G 32), (1, .int v1), (2, .int v2), (3, .int (v3 + 1))]) d_Mo_tree_51 rfl rfl (by decide) rfl ?_
      refine z_goto E d_Mo_tree_54 (tgt := 2) (by decide) ?_
      exact h
    · replace h := h.2 q
      refine z_aload_n E 0 d_Mo_tree_19 rfl rfl ?_
      refine z_getR E f_Mo_38 d_Mo_tree_20 ?_
      refine z_iload_n E 3 d_Mo_tree_23 rfl rfl ?_
      refine z_iload_n E 1 d_Mo_tree_24 rfl rfl ?_
      obtain ⟨h0, h⟩ := h
      refine z_iast E rfl d_Mo_tree_25 ⟨h0, fun σ1 e => ?_⟩
      replace h := h σ1 e
      refine z_aload_n E 0 d_Mo_tree_26 rfl rfl ?_
      refine z_getR E f_Mo_41 d_Mo_tree_27 ?_
      refine z_iload_n E 3 d_Mo_tree_30 rfl rfl ?_
      refine z_iload_n E 3 d_Mo_tree_31 rfl rfl ?_
      refine z_iload_n E 1 d_Mo_tree_32 rfl rfl ?_
      refine z_icmp_ne E d_Mo_tree_33 (tgt := 40) (by decide) ⟨fun q => ?_, fun q => ?_⟩
      · replace h := h.1 q
        refine z_bipush E (v := 99) d_Mo_tree_40 (by decide) ?_
        obtain ⟨h0, h⟩ := h
        refine z_iast E rfl d_Mo_tree_42 ⟨h0, fun σ2 e => ?_⟩
        replace h := h σ2 e
        refine z_aload_n E 0 d_Mo_tree_43 rfl rfl ?_
        refine z_getR E f_Mo_35 d_Mo_tree_44 ?_
        refine z_iload_n E 3 d_Mo_tree_47 rfl rfl ?_
        refine z_bipush E (v := -2) d_Mo_tree_48 (by decide) ?_
        obtain ⟨h0, h⟩ := h
        refine z_iast E rfl d_Mo_tree_50 ⟨h0, fun σ3 e => ?_⟩
        replace h := h σ3 e
        refine z_iinc E 3 [1, 2, 3, 0] (v := v3 + 1) (lv' := [(0, zf G 32), (1, .int v1), (2, .int v2), (3, .int (v3 + 1))]) d_Mo_tree_51 rfl rfl (by decide) rfl ?_
        refine z_goto E d_Mo_tree_54 (tgt := 2) (by decide) ?_
        exact h
      · replace h := h.2 q
        refine z_iconst E (v := 0) d_Mo_tree_36 (by decide) ?_
        refine z_goto E d_Mo_tree_37 (tgt := 42) (by decide) ?_
        obtain ⟨h0, h⟩ := h
        refine z_iast E rfl d_Mo_tree_42 ⟨h0, fun σ4 e => ?_⟩
        replace h := h σ4 e
        refine z_aload_n E 0 d_Mo_tree_43 rfl rfl ?_
        refine z_getR E f_Mo_35 d_Mo_tree_44 ?_
        refine z_iload_n E 3 d_Mo_tree_47 rfl rfl ?_
        refine z_bipush E (v := -2) d_Mo_tree_48 (by decide) ?_
        obtain ⟨h0, h⟩ := h
        refine z_iast E rfl d_Mo_tree_50 ⟨h0, fun σ5 e => ?_⟩
        replace h := h σ5 e
        refine z_iinc E 3 [1, 2, 3, 0] (v := v3 + 1) (lv' := [(0, zf G 32), (1, .int v1), (2, .int v2), (3, .int (v3 + 1))]) d_Mo_tree_51 rfl rfl (by decide) rfl ?_
        refine z_goto E d_Mo_tree_54 (tgt := 2) (by decide) ?_
        exact h

set_option maxRecDepth 20000 in
set_option maxHeartbeats 4000000 in
theorem b_Mo_tree_59 {G : zG} {X : zX} {post : Option Value → zSt → Prop} (E : zCtx G M_Mo_tree (zKm G 1 X post) X) (v2 : Int32) (v3 : Int32) (σ : zSt)
    (h : (((σ 32 0) ≤ v3 → post none σ) ∧ (¬ (σ 32 0) ≤ v3 → zZ G M_Mo_tree 1 X post 70 [(0, zf G 32), (2, .int v2), (3, .int v3), (4, .int (0 : Int32))] [] σ))) :
    zZ G M_Mo_tree 1 X post 59 [(0, zf G 32), (2, .int v2), (3, .int v3)] [] σ := by
  refine z_iload_n E 2 d_Mo_tree_59 rfl rfl ?_
  refine z_aload_n E 0 d_Mo_tree_60 rfl rfl ?_
  refine z_getI E f_Mo_84 d_Mo_tree_61 ?_
  refine z_icmp_ge E d_Mo_tree_64 (tgt := 217) (by decide) ⟨fun q => ?_, fun q => ?_⟩
  · replace h := h.1 q
    exact z_return E rfl d_Mo_tree_217 h
  · replace h := h.2 q
    refine z_iconst E (v := 0) d_Mo_tree_67 (by decide) ?_
    refine z_istore E [1, 2, 3, 0] (lv' := [(0, zf G 32), (2, .int v2), (3, .int v3), (4, .int (0 : Int32))]) d_Mo_tree_68 (by decide) rfl ?_
    exact h

set_option maxRecDepth 20000 in
set_option maxHeartbeats 4000000 in
theorem b_Mo_tree_70 {G : zG} {X : zX} {post : Option Value → zSt → Prop} (E : zCtx G M_Mo_tree (zKm G 1 X post) X) (v2 : Int32) (v3 : Int32) (v4 : Int32) (σ : zSt)
    (h : (((σ 32 0) ≤ v4 → zZ G M_Mo_tree 1 X post 59 [(0, zf G 32), (2, .int v2), (3, .int (v3 + 1))] [] σ) ∧ (¬ (σ 32 0) ≤ v4 → zZ G M_Mo_tree 1 X post 82 [(0, zf G 32), (2, .int v2), (3, .int v3), (4, .int v4), (5, .int (0 : Int32))] [] σ))) :
    zZ G M_Mo_tree 1 X post 70 [(0, zf G 32), (2, .int v2), (3, .int v3), (4, .int v4)] [] σ := by
  refine z_iload E 3 d_Mo_tree_70 rfl ?_
  refine z_aload_n E 0 d_Mo_tree_72 rfl rfl ?_
  refine z_getI E f_Mo_84 d_Mo_tree_73 ?_
  refine z_icmp_ge E d_Mo_tree_76 (tgt := 211) (by decide) ⟨fun q => ?_, fun q => ?_⟩
  · replace h := h.1 q
    refine z_iinc E 2 [1, 2, 0, 3] (v := v3 + 1) (lv' := [(0, zf G 32), (2, .int v2), (3, .int (v3 + 1)), (4, .int v4)]) d_Mo_tree_211 rfl rfl (by decide) rfl ?_
    refine z_goto E d_Mo_tree_214 (tgt := 59) (by decide) ?_
    refine zZ.sub [0, 1, 2] (lv' := [(0, zf G 32), (2, .int v2), (3, .int (v3 + 1))]) rfl ?_
    exact h
  · replace h := h.2 q
    refine z_iconst E (v := 0) d_Mo_tree_79 (by decide) ?_
    refine z_istore E [1, 2, 3, 4, 0] (lv' := [(0, zf G 32), (2, .int v2), (3, .int v3), (4, .int v4), (5, .int (0 : Int32))]) d_Mo_tree_80 (by decide) rfl ?_
    exact h

set_option maxRecDepth 20000 in
set_option maxHeartbeats 4000000 in
theorem b_Mo_tree_82 {G : zG} {X : zX} {post : Option Value → zSt → Prop} (E : zCtx G M_Mo_tree (zKm G 1 X post) X) (v2 : Int32) (v3 : Int32) (v4 : Int32) (v5 : Int32) (σ : zSt)
    (h : (((σ 32 0) ≤ v5 → zZ G M_Mo_tree 1 X post 70 [(0, zf G 32), (2, .int v2), (3, .int v3), (4, .int (v4 + 1))] [] σ) ∧ (¬ (σ 32 0) ≤ v5 → ((¬ ((v2 >>> (v4 &&& 31)) &&& (1 : Int32)) = (1 : Int32) → zZ G M_Mo_tree 1 X post 129 [(0, zf G 32), (2, .int v2), (3, .int v3), (4, .int v4), (5, .int v5), (6, .int (0 : Int32))] [] σ) ∧ (((v2 >>> (v4 &&& 31)) &&& (1 : Int32)) = (1 : Int32) → ((¬ ((v2 >>> (v5 &&& 31)) &&& (1 : Int32)) = (1 : Int32) → zZ G M_Mo_tree 1 X post 129 [(0, zf G 32), (2, .int v2), (3, .int v3), (4, .int v4), (5, .int v5), (6, .int (0 : Int32))] [] σ) ∧ (((v2 >>> (v5 &&& 31)) &&& (1 : Int32)) = (1 : Int32) → (vp_in (12 * v4 + v5) 144 ∧ (((zLk σ v4 v5) = false → zZ G M_Mo_tree 1 X post 129 [(0, zf G 32), (2, .int v2), (3, .int v3), (4, .int v4), (5, .int v5), (6, .int (0 : Int32))] [] σ) ∧ ((zLk σ v4 v5) = true → zZ G M_Mo_tree 1 X post 129 [(0, zf G 32), (2, .int v2), (3, .int v3), (4, .int v4), (5, .int v5), (6, .int (1 : Int32))] [] σ)))))))))) :
    zZ G M_Mo_tree 1 X post 82 [(0, zf G 32), (2, .int v2), (3, .int v3), (4, .int v4), (5, .int v5)] [] σ := by
  refine z_iload E 4 d_Mo_tree_82 rfl ?_
  refine z_aload_n E 0 d_Mo_tree_84 rfl rfl ?_
  refine z_getI E f_Mo_84 d_Mo_tree_85 ?_
  refine z_icmp_ge E d_Mo_tree_88 (tgt := 205) (by decide) ⟨fun q => ?_, fun q => ?_⟩
  · replace h := h.1 q
    refine z_iinc E 3 [1, 2, 3, 0, 4] (v := v4 + 1) (lv' := [(0, zf G 32), (2, .int v2), (3, .int v3), (4, .int (v4 + 1)), (5, .int v5)]) d_Mo_tree_205 rfl rfl (by decide) rfl ?_
    refine z_goto E d_Mo_tree_208 (tgt := 70) (by decide) ?_
    refine zZ.sub [0, 1, 2, 3] (lv' := [(0, zf G 32), (2, .int v2), (3, .int v3), (4, .int (v4 + 1))]) rfl ?_
    exact h
  · replace h := h.2 q
    refine z_iload_n E 1 d_Mo_tree_91 rfl rfl ?_
    refine z_iload E 3 d_Mo_tree_92 rfl ?_
    refine z_ishr E d_Mo_tree_94 ?_
    refine z_iconst E (v := 1) d_Mo_tree_95 (by decide) ?_
    refine z_iand E d_Mo_tree_96 ?_
    refine z_iconst E (v := 1) d_Mo_tree_97 (by decide) ?_
    refine z_icmp_ne E d_Mo_tree_98 (tgt := 126) (by decide) ⟨fun q => ?_, fun q => ?_⟩
    · replace h := h.1 q
      refine z_iconst E (v := 0) d_Mo_tree_126 (by decide) ?_
      refine z_istore E [1, 2, 3, 4, 5, 0] (lv' := [(0, zf G 32), (2, .int v2), (3, .int v3), (4, .int v4), (5, .int v5), (6, .int (0 : Int32))]) d_Mo_tree_127 (by decide) rfl ?_
      exact h
    · replace h := h.2 q
      refine z_iload_n E 1 d_Mo_tree_101 rfl rfl ?_
      refine z_iload E 4 d_Mo_tree_102 rfl ?_
      refine z_ishr E d_Mo_tree_104 ?_
      refine z_iconst E (v := 1) d_Mo_tree_105 (by decide) ?_
      refine z_iand E d_Mo_tree_106 ?_
      refine z_iconst E (v := 1) d_Mo_tree_107 (by decide) ?_
      refine z_icmp_ne E d_Mo_tree_108 (tgt := 126) (by decide) ⟨fun q => ?_, fun q => ?_⟩
      · replace h := h.1 q
        refine z_iconst E (v := 0) d_Mo_tree_126 (by decide) ?_
        refine z_istore E [1, 2, 3, 4, 5, 0] (lv' := [(0, zf G 32), (2, .int v2), (3, .int v3), (4, .int v4), (5, .int v5), (6, .int (0 : Int32))]) d_Mo_tree_127 (by decide) rfl ?_
        exact h
      · replace h := h.2 q
        refine z_aload_n E 0 d_Mo_tree_111 rfl rfl ?_
        refine z_iload E 3 d_Mo_tree_112 rfl ?_
        refine z_iload E 4 d_Mo_tree_114 rfl ?_
        obtain ⟨h0, h⟩ := h
        refine z_callVBp [.int v4, .int v5] [] E (p_Mo_isLink G σ v4 v5 h0) c_Mo_99 r_Mo_isLink rfl zrm rfl (Nat.le_of_ble_eq_true rfl) d_Mo_tree_116 ?_
        refine z_ifz_eq E d_Mo_tree_119 (tgt := 126) (by decide) ⟨fun q => ?_, fun q => ?_⟩
        · replace h := h.1 q
          refine z_iconst E (v := 0) d_Mo_tree_126 (by decide) ?_
          refine z_istore E [1, 2, 3, 4, 5, 0] (lv' := [(0, zf G 32), (2, .int v2), (3, .int v3), (4, .int v4), (5, .int v5), (6, .int (0 : Int32))]) d_Mo_tree_127 (by decide) rfl ?_
          exact h
        · replace h := h.2 q
          refine z_iconst E (v := 1) d_Mo_tree_122 (by decide) ?_
          refine z_goto E d_Mo_tree_123 (tgt := 127) (by decide) ?_
          refine z_istore E [1, 2, 3, 4, 5, 0] (lv' := [(0, zf G 32), (2, .int v2), (3, .int v3), (4, .int v4), (5, .int v5), (6, .int (1 : Int32))]) d_Mo_tree_127 (by decide) rfl ?_
          exact h

set_option maxRecDepth 20000 in
set_option maxHeartbeats 4000000 in
theorem b_Mo_tree_129 {G : zG} {X : zX} {post : Option Value → zSt → Prop} (E : zCtx G M_Mo_tree (zKm G 1 X post) X) (v2 : Int32) (v3 : Int32) (v4 : Int32) (v5 : Int32) (v6 : Int32) (σ : zSt)
    (h : ((v6 = 0 → zZ G M_Mo_tree 1 X post 82 [(0, zf G 32), (2, .int v2), (3, .int v3), (4, .int v4), (5, .int (v5 + 1))] [] σ) ∧ (¬ v6 = 0 → (vp_in v5 12 ∧ ((¬ (σ 43 v5.toNatClampNeg) = v3 → zZ G M_Mo_tree 1 X post 82 [(0, zf G 32), (2, .int v2), (3, .int v3), (4, .int v4), (5, .int (v5 + 1))] [] σ) ∧ ((σ 43 v5.toNatClampNeg) = v3 → (vp_in v4 12 ∧ (((σ 43 v4.toNatClampNeg) ≤ v3 → zZ G M_Mo_tree 1 X post 82 [(0, zf G 32), (2, .int v2), (3, .int v3), (4, .int v4), (5, .int (v5 + 1))] [] σ) ∧ (¬ (σ 43 v4.toNatClampNeg) ≤ v3 → (vp_in v4 12 ∧ (((σ 43 v4.toNatClampNeg) = (99 : Int32) → (vp_in v4 12 ∧ ∀ σ1 : zSt, σ1 = zup σ 43 v4.toNatClampNeg (v3 + (1 : Int32)) → (vp_in v4 12 ∧ ∀ σ2 : zSt, σ2 = zup σ1 41 v4.toNatClampNeg v5 → zZ G M_Mo_tree 1 X post 82 [(0, zf G 32), (2, .int v2), (3, .int v3), (4, .int v4), (5, .int (v5 + 1))] [] σ2))) ∧ (¬ (σ 43 v4.toNatClampNeg) = (99 : Int32) → (vp_in v4 12 ∧ (((σ 41 v4.toNatClampNeg) ≤ v5 → zZ G M_Mo_tree 1 X post 82 [(0, zf G 32), (2, .int v2), (3, .int v3), (4, .int v4), (5, .int (v5 + 1))] [] σ) ∧ (¬ (σ 41 v4.toNatClampNeg) ≤ v5 → (vp_in v4 12 ∧ ∀ σ3 : zSt, σ3 = zup σ 43 v4.toNatClampNeg (v3 + (1 : Int32)) → (vp_in v4 12 ∧ ∀ σ4 : zSt, σ4 = zup σ3 41 v4.toNatClampNeg v5 → zZ G M_Mo_tree 1 X post 82 [(0, zf G 32), (2, .int v2), (3, .int v3), (4, .int v4), (5, .int (v5 + 1))] [] σ4))))))))))))))))) :
    zZ G M_Mo_tree 1 X post 129 [(0, zf G 32), (2, .int v2), (3, .int v3), (4, .int v4), (5, .int v5), (6, .int v6)] [] σ := by
  refine z_iload E 5 d_Mo_tree_129 rfl ?_
  refine z_if_eq E d_Mo_tree_131 (tgt := 199) (by decide) ⟨fun q => ?_, fun q => ?_⟩
  · replace h := h.1 q
    refine z_iinc E 4 [1, 2, 3, 4, 0, 5] (v := v5 + 1) (lv' := [(0, zf G 32), (2, .int v2), (3, .int v3), (4, .int v4), (5, .int (v5 + 1)), (6, .int v6)]) d_Mo_tree_199 rfl rfl (by decide) rfl ?_
    refine z_goto E d_Mo_tree_202 (tgt := 82) (by decide) ?_
    refine zZ.sub [0, 1, 2, 3, 4] (lv' := [(0, zf G 32), (2, .int v2), (3, .int v3), (4, .int v4), (5, .int (v5 + 1))]) rfl ?_
    exact h
  · replace h := h.2 q
    refine z_aload_n E 0 d_Mo_tree_134 rfl rfl ?_
    refine z_getR E f_Mo_41 d_Mo_tree_135 ?_
    refine z_iload E 4 d_Mo_tree_138 rfl ?_
    obtain ⟨h0, h⟩ := h
    refine z_iald E rfl d_Mo_tree_140 ⟨h0, ?_⟩
    refine z_iload_n E 2 d_Mo_tree_141 rfl rfl ?_
    refine z_icmp_ne E d_Mo_tree_142 (tgt := 199) (by decide) ⟨fun q => ?_, fun q => ?_⟩
    · replace h := h.1 q
      refine z_iinc E 4 [1, 2, 3, 4, 0, 5] (v := v5 + 1) (lv' := [(0, zf G 32), (2, .int v2), (3, .int v3), (4, .int v4), (5, .int (v5 + 1)), (6, .int v6)]) d_Mo_tree_199 rfl rfl (by decide) rfl ?_
      refine z_goto E d_Mo_tree_202 (tgt := 82) (by decide) ?_
      refine zZ.sub [0, 1, 2, 3, 4] (lv' := [(0, zf G 32), (2, .int v2), (3, .int v3), (4, .int v4), (5, .int (v5 + 1))]) rfl ?_
      exact h
    · replace h := h.2 q
      refine z_aload_n E 0 d_Mo_tree_145 rfl rfl ?_
      refine z_getR E f_Mo_41 d_Mo_tree_146 ?_
      refine z_iload E 3 d_Mo_tree_149 rfl ?_
      obtain ⟨h0, h⟩ := h
      refine z_iald E rfl d_Mo_tree_151 ⟨h0, ?_⟩
      refine z_iload_n E 2 d_Mo_tree_152 rfl rfl ?_
      refine z_icmp_le E d_Mo_tree_153 (tgt := 199) (by decide) ⟨fun q => ?_, fun q => ?_⟩
      · replace h := h.1 q
        refine z_iinc E 4 [1, 2, 3, 4, 0, 5] (v := v5 + 1) (lv' := [(0, zf G 32), (2, .int v2), (3, .int v3), (4, .int v4), (5, .int (v5 + 1)), (6, .int v6)]) d_Mo_tree_199 rfl rfl (by decide) rfl ?_
        refine z_goto E d_Mo_tree_202 (tgt := 82) (by decide) ?_
        refine zZ.sub [0, 1, 2, 3, 4] (lv' := [(0, zf G 32), (2, .int v2), (3, .int v3), (4, .int v4), (5, .int (v5 + 1))]) rfl ?_
        exact h
      · replace h := h.2 q
        refine z_aload_n E 0 d_Mo_tree_156 rfl rfl ?_
        refine z_getR E f_Mo_41 d_Mo_tree_157 ?_
        refine z_iload E 3 d_Mo_tree_160 rfl ?_
        obtain ⟨h0, h⟩ := h
        refine z_iald E rfl d_Mo_tree_162 ⟨h0, ?_⟩
        refine z_bipush E (v := 99) d_Mo_tree_163 (by decide) ?_
        refine z_icmp_eq E d_Mo_tree_165 (tgt := 180) (by decide) ⟨fun q => ?_, fun q => ?_⟩
        · replace h := h.1 q
          refine z_aload_n E 0 d_Mo_tree_180 rfl rfl ?_
          refine z_getR E f_Mo_41 d_Mo_tree_181 ?_
          refine z_iload E 3 d_Mo_tree_184 rfl ?_
          refine z_iload_n E 2 d_Mo_tree_186 rfl rfl ?_
          refine z_iconst E (v := 1) d_Mo_tree_187 (by decide) ?_
          refine z_iadd E d_Mo_tree_188 ?_
          obtain ⟨h0, h⟩ := h
          refine z_iast E rfl d_Mo_tree_189 ⟨h0, fun σ1 e => ?_⟩
          replace h := h σ1 e
          refine z_aload_n E 0 d_Mo_tree_190 rfl rfl ?_
          refine z_getR E f_Mo_35 d_Mo_tree_191 ?_
          refine z_iload E 3 d_Mo_tree_194 rfl ?_
          refine z_iload E 4 d_Mo_tree_196 rfl ?_
          obtain ⟨h0, h⟩ := h
          refine z_iast E rfl d_Mo_tree_198 ⟨h0, fun σ2 e => ?_⟩
          replace h := h σ2 e
          refine z_iinc E 4 [1, 2, 3, 4, 0, 5] (v := v5 + 1) (lv' := [(0, zf G 32), (2, .int v2), (3, .int v3), (4, .int v4), (5, .int (v5 + 1)), (6, .int v6)]) d_Mo_tree_199 rfl rfl (by decide) rfl ?_
          refine z_goto E d_Mo_tree_202 (tgt := 82) (by decide) ?_
          refine zZ.sub [0, 1, 2, 3, 4] (lv' := [(0, zf G 32), (2, .int v2), (3, .int v3), (4, .int v4), (5, .int (v5 + 1))]) rfl ?_
          exact h
        · replace h := h.2 q
          refine z_aload_n E 0 d_Mo_tree_168 rfl rfl ?_
          refine z_getR E f_Mo_35 d_Mo_tree_169 ?_
          refine z_iload E 3 d_Mo_tree_172 rfl ?_
          obtain ⟨h0, h⟩ := h
          refine z_iald E rfl d_Mo_tree_174 ⟨h0, ?_⟩
          refine z_iload E 4 d_Mo_tree_175 rfl ?_
          refine z_icmp_le E d_Mo_tree_177 (tgt := 199) (by decide) ⟨fun q => ?_, fun q => ?_⟩
          · replace h := h.1 q
            refine z_iinc E 4 [1, 2, 3, 4, 0, 5] (v := v5 + 1) (lv' := [(0, zf G 32), (2, .int v2), (3, .int v3), (4, .int v4), (5, .int (v5 + 1)), (6, .int v6)]) d_Mo_tree_199 rfl rfl (by decide) rfl ?_
            refine z_goto E d_Mo_tree_202 (tgt := 82) (by decide) ?_
            refine zZ.sub [0, 1, 2, 3, 4] (lv' := [(0, zf G 32), (2, .int v2), (3, .int v3), (4, .int v4), (5, .int (v5 + 1))]) rfl ?_
            exact h
          · replace h := h.2 q
            refine z_aload_n E 0 d_Mo_tree_180 rfl rfl ?_
            refine z_getR E f_Mo_41 d_Mo_tree_181 ?_
            refine z_iload E 3 d_Mo_tree_184 rfl ?_
            refine z_iload_n E 2 d_Mo_tree_186 rfl rfl ?_
            refine z_iconst E (v := 1) d_Mo_tree_187 (by decide) ?_
            refine z_iadd E d_Mo_tree_188 ?_
            obtain ⟨h0, h⟩ := h
            refine z_iast E rfl d_Mo_tree_189 ⟨h0, fun σ3 e => ?_⟩
            replace h := h σ3 e
            refine z_aload_n E 0 d_Mo_tree_190 rfl rfl ?_
            refine z_getR E f_Mo_35 d_Mo_tree_191 ?_
            refine z_iload E 3 d_Mo_tree_194 rfl ?_
            refine z_iload E 4 d_Mo_tree_196 rfl ?_
            obtain ⟨h0, h⟩ := h
            refine z_iast E rfl d_Mo_tree_198 ⟨h0, fun σ4 e => ?_⟩
            replace h := h σ4 e
            refine z_iinc E 4 [1, 2, 3, 4, 0, 5] (v := v5 + 1) (lv' := [(0, zf G 32), (2, .int v2), (3, .int v3), (4, .int v4), (5, .int (v5 + 1)), (6, .int v6)]) d_Mo_tree_199 rfl rfl (by decide) rfl ?_
            refine z_goto E d_Mo_tree_202 (tgt := 82) (by decide) ?_
            refine zZ.sub [0, 1, 2, 3, 4] (lv' := [(0, zf G 32), (2, .int v2), (3, .int v3), (4, .int v4), (5, .int (v5 + 1))]) rfl ?_
            exact h

set_option maxRecDepth 20000 in
set_option maxHeartbeats 4000000 in
theorem b_Mo_bits_0 {G : zG} {X : zX} {post : Option Value → zSt → Prop} (E : zCtx G M_Mo_bits (zKm G 0 X post) X) (v1 : Int32) (σ : zSt)
    (h : zZ G M_Mo_bits 0 X post 4 [(0, zf G 32), (1, .int v1), (2, .int (0 : Int32)), (3, .int (0 : Int32))] [] σ) :
    zZ G M_Mo_bits 0 X post 0 [(0, zf G 32), (1, .int v1)] [] σ := by
  refine z_iconst E (v := 0) d_Mo_bits_0 (by decide) ?_
  refine z_istore_n E [1, 2, 0] (lv' := [(0, zf G 32), (1, .int v1), (2, .int (0 : Int32))]) d_Mo_bits_1 rfl (by decide) rfl ?_
  refine z_iconst E (v := 0) d_Mo_bits_2 (by decide) ?_
  refine z_istore_n E [1, 2, 3, 0] (lv' := [(0, zf G 32), (1, .int v1), (2, .int (0 : Int32)), (3, .int (0 : Int32))]) d_Mo_bits_3 rfl (by decide) rfl ?_
  exact h

set_option maxRecDepth 20000 in
set_option maxHeartbeats 4000000 in
theorem b_Mo_bits_4 {G : zG} {X : zX} {post : Option Value → zSt → Prop} (E : zCtx G M_Mo_bits (zKm G 0 X post) X) (v1 : Int32) (v2 : Int32) (v3 : Int32) (σ : zSt)
    (h : (((σ 32 0) ≤ v3 → post (some (.int v2)) σ) ∧ (¬ (σ 32 0) ≤ v3 → zZ G M_Mo_bits 0 X post 4 [(0, zf G 32), (1, .int v1), (2, .int (v2 + ((v1 >>> (v3 &&& 31)) &&& (1 : Int32)))), (3, .int (v3 + 1))] [] σ))) :
    zZ G M_Mo_bits 0 X post 4 [(0, zf G 32), (1, .int v1), (2, .int v2), (3, .int v3)] [] σ := by
  refine z_iload_n E 3 d_Mo_bits_4 rfl rfl ?_
  refine z_aload_n E 0 d_Mo_bits_5 rfl rfl ?_
  refine z_getI E f_Mo_84 d_Mo_bits_6 ?_
  refine z_icmp_ge E d_Mo_bits_9 (tgt := 26) (by decide) ⟨fun q => ?_, fun q => ?_⟩
  · replace h := h.1 q
    refine z_iload_n E 2 d_Mo_bits_26 rfl rfl ?_
    exact z_ireturn E rfl d_Mo_bits_27 h
  · replace h := h.2 q
    refine z_iload_n E 2 d_Mo_bits_12 rfl rfl ?_
    refine z_iload_n E 1 d_Mo_bits_13 rfl rfl ?_
    refine z_iload_n E 3 d_Mo_bits_14 rfl rfl ?_
    refine z_ishr E d_Mo_bits_15 ?_
    refine z_iconst E (v := 1) d_Mo_bits_16 (by decide) ?_
    refine z_iand E d_Mo_bits_17 ?_
    refine z_iadd E d_Mo_bits_18 ?_
    refine z_istore_n E [1, 2, 0, 3] (lv' := [(0, zf G 32), (1, .int v1), (2, .int (v2 + ((v1 >>> (v3 &&& 31)) &&& (1 : Int32)))), (3, .int v3)]) d_Mo_bits_19 rfl (by decide) rfl ?_
    refine z_iinc E 3 [1, 2, 3, 0] (v := v3 + 1) (lv' := [(0, zf G 32), (1, .int v1), (2, .int (v2 + ((v1 >>> (v3 &&& 31)) &&& (1 : Int32)))), (3, .int (v3 + 1))]) d_Mo_bits_20 rfl rfl (by decide) rfl ?_
    refine z_goto E d_Mo_bits_23 (tgt := 4) (by decide) ?_
    exact h

set_option maxRecDepth 20000 in
set_option maxHeartbeats 4000000 in
theorem b_Mo_around_0 {G : zG} {X : zX} {post : Option Value → zSt → Prop} (E : zCtx G M_Mo_around (zKm G 1 X post) X) (v1 : Int32) (v2 : Int32) (σ : zSt)
    (h : zZ G M_Mo_around 1 X post 5 [(0, zf G 32), (1, .int v1), (2, .int v2), (3, .int (0 : Int32)), (4, .int (0 : Int32))] [] σ) :
    zZ G M_Mo_around 1 X post 0 [(0, zf G 32), (1, .int v1), (2, .int v2)] [] σ := by
  refine z_iconst E (v := 0) d_Mo_around_0 (by decide) ?_
  refine z_istore_n E [1, 2, 3, 0] (lv' := [(0, zf G 32), (1, .int v1), (2, .int v2), (3, .int (0 : Int32))]) d_Mo_around_1 rfl (by decide) rfl ?_
  refine z_iconst E (v := 0) d_Mo_around_2 (by decide) ?_
  refine z_istore E [1, 2, 3, 4, 0] (lv' := [(0, zf G 32), (1, .int v1), (2, .int v2), (3, .int (0 : Int32)), (4, .int (0 : Int32))]) d_Mo_around_3 (by decide) rfl ?_
  exact h

set_option maxRecDepth 20000 in
set_option maxHeartbeats 4000000 in
theorem b_Mo_around_5 {G : zG} {X : zX} {post : Option Value → zSt → Prop} (E : zCtx G M_Mo_around (zKm G 1 X post) X) (v1 : Int32) (v2 : Int32) (v3 : Int32) (v4 : Int32) (σ : zSt)
    (h : (((σ 32 0) ≤ v4 → post (some (.int (v3 &&& v2))) σ) ∧ (¬ (σ 32 0) ≤ v4 → zZ G M_Mo_around 1 X post 17 [(0, zf G 32), (1, .int v1), (2, .int v2), (3, .int v3), (4, .int v4), (5, .int (0 : Int32))] [] σ))) :
    zZ G M_Mo_around 1 X post 5 [(0, zf G 32), (1, .int v1), (2, .int v2), (3, .int v3), (4, .int v4)] [] σ := by
  refine z_iload E 4 d_Mo_around_5 rfl ?_
  refine z_aload_n E 0 d_Mo_around_7 rfl rfl ?_
  refine z_getI E f_Mo_84 d_Mo_around_8 ?_
  refine z_icmp_ge E d_Mo_around_11 (tgt := 70) (by decide) ⟨fun q => ?_, fun q => ?_⟩
  · replace h := h.1 q
    refine z_iload_n E 3 d_Mo_around_70 rfl rfl ?_
    refine z_iload_n E 2 d_Mo_around_71 rfl rfl ?_
    refine z_iand E d_Mo_around_72 ?_
    exact z_ireturn E rfl d_Mo_around_73 h
  · replace h := h.2 q
    refine z_iconst E (v := 0) d_Mo_around_14 (by decide) ?_
    refine z_istore E [1, 2, 3, 4, 5, 0] (lv' := [(0, zf G 32), (1, .int v1), (2, .int v2), (3, .int v3), (4, .int v4), (5, .int (0 : Int32))]) d_Mo_around_15 (by decide) rfl ?_
    exact h

set_option maxRecDepth 20000 in
set_option maxHeartbeats 4000000 in
theorem b_Mo_around_17 {G : zG} {X : zX} {post : Option Value → zSt → Prop} (E : zCtx G M_Mo_around (zKm G 1 X post) X) (v1 : Int32) (v2 : Int32) (v3 : Int32) (v4 : Int32) (v5 : Int32) (σ : zSt)
    (h : (((σ 32 0) ≤ v5 → zZ G M_Mo_around 1 X post 5 [(0, zf G 32), (1, .int v1), (2, .int v2), (3, .int v3), (4, .int (v4 + 1))] [] σ) ∧ (¬ (σ 32 0) ≤ v5 → ((¬ ((v1 >>> (v4 &&& 31)) &&& (1 : Int32)) = (1 : Int32) → zZ G M_Mo_around 1 X post 17 [(0, zf G 32), (1, .int v1), (2, .int v2), (3, .int v3), (4, .int v4), (5, .int (v5 + 1))] [] σ) ∧ (((v1 >>> (v4 &&& 31)) &&& (1 : Int32)) = (1 : Int32) → (vp_in (12 * v4 + v5) 144 ∧ (((zLk σ v4 v5) = false → zZ G M_Mo_around 1 X post 17 [(0, zf G 32), (1, .int v1), (2, .int v2), (3, .int v3), (4, .int v4), (5, .int (v5 + 1))] [] σ) ∧ ((zLk σ v4 v5) = true → zZ G M_Mo_around 1 X post 17 [(0, zf G 32), (1, .int v1), (2, .int v2), (3, .int (v3 ||| ((1 : Int32) <<< (v5 &&& 31)))), (4, .int v4), (5, .int (v5 + 1))] [] σ)))))))) :
    zZ G M_Mo_around 1 X post 17 [(0, zf G 32), (1, .int v1), (2, .int v2), (3, .int v3), (4, .int v4), (5, .int v5)] [] σ := by
  refine z_iload E 5 d_Mo_around_17 rfl ?_
  refine z_aload_n E 0 d_Mo_around_19 rfl rfl ?_
  refine z_getI E f_Mo_84 d_Mo_around_20 ?_
  refine z_icmp_ge E d_Mo_around_23 (tgt := 64) (by decide) ⟨fun q => ?_, fun q => ?_⟩
  · replace h := h.1 q
    refine z_iinc E 4 [1, 2, 3, 4, 0, 5] (v := v4 + 1) (lv' := [(0, zf G 32), (1, .int v1), (2, .int v2), (3, .int v3), (4, .int (v4 + 1)), (5, .int v5)]) d_Mo_around_64 rfl rfl (by decide) rfl ?_
    refine z_goto E d_Mo_around_67 (tgt := 5) (by decide) ?_
    refine zZ.sub [0, 1, 2, 3, 4] (lv' := [(0, zf G 32), (1, .int v1), (2, .int v2), (3, .int v3), (4, .int (v4 + 1))]) rfl ?_
    exact h
  · replace h := h.2 q
    refine z_iload_n E 1 d_Mo_around_26 rfl rfl ?_
    refine z_iload E 4 d_Mo_around_27 rfl ?_
    refine z_ishr E d_Mo_around_29 ?_
    refine z_iconst E (v := 1) d_Mo_around_30 (by decide) ?_
    refine z_iand E d_Mo_around_31 ?_
    refine z_iconst E (v := 1) d_Mo_around_32 (by decide) ?_
    refine z_icmp_ne E d_Mo_around_33 (tgt := 56) (by decide) ⟨fun q => ?_, fun q => ?_⟩
    · replace h := h.1 q
      refine z_iload_n E 3 d_Mo_around_56 rfl rfl ?_
      refine z_istore_n E [1, 2, 3, 0, 4, 5] (lv' := [(0, zf G 32), (1, .int v1), (2, .int v2), (3, .int v3), (4, .int v4), (5, .int v5)]) d_Mo_around_57 rfl (by decide) rfl ?_
      refine z_iinc E 5 [1, 2, 3, 4, 5, 0] (v := v5 + 1) (lv' := [(0, zf G 32), (1, .int v1), (2, .int v2), (3, .int v3), (4, .int v4), (5, .int (v5 + 1))]) d_Mo_around_58 rfl rfl (by decide) rfl ?_
      refine z_goto E d_Mo_around_61 (tgt := 17) (by decide) ?_
      exact h
    · replace h := h.2 q
      refine z_aload_n E 0 d_Mo_around_36 rfl rfl ?_
      refine z_iload E 4 d_Mo_around_37 rfl ?_
      refine z_iload E 5 d_Mo_around_39 rfl ?_
      obtain ⟨h0, h⟩ := h
      refine z_callVBp [.int v4, .int v5] [] E (p_Mo_isLink G σ v4 v5 h0) c_Mo_99 r_Mo_isLink rfl zrm rfl (Nat.le_of_ble_eq_true rfl) d_Mo_around_41 ?_
      refine z_ifz_eq E d_Mo_around_44 (tgt := 56) (by decide) ⟨fun q => ?_, fun q => ?_⟩
      · replace h := h.1 q
        refine z_iload_n E 3 d_Mo_around_56 rfl rfl ?_
        refine z_istore_n E [1, 2, 3, 0, 4, 5] (lv' := [(0, zf G 32), (1, .int v1), (2, .int v2), (3, .int v3), (4, .int v4), (5, .int v5)]) d_Mo_around_57 rfl (by decide) rfl ?_
        refine z_iinc E 5 [1, 2, 3, 4, 5, 0] (v := v5 + 1) (lv' := [(0, zf G 32), (1, .int v1), (2, .int v2), (3, .int v3), (4, .int v4), (5, .int (v5 + 1))]) d_Mo_around_58 rfl rfl (by decide) rfl ?_
        refine z_goto E d_Mo_around_61 (tgt := 17) (by decide) ?_
        exact h
      · replace h := h.2 q
        refine z_iload_n E 3 d_Mo_around_47 rfl rfl ?_
        refine z_iconst E (v := 1) d_Mo_around_48 (by decide) ?_
        refine z_iload E 5 d_Mo_around_49 rfl ?_
        refine z_ishl E d_Mo_around_51 ?_
        refine z_ior E d_Mo_around_52 ?_
        refine z_goto E d_Mo_around_53 (tgt := 57) (by decide) ?_
        refine z_istore_n E [1, 2, 3, 0, 4, 5] (lv' := [(0, zf G 32), (1, .int v1), (2, .int v2), (3, .int (v3 ||| ((1 : Int32) <<< (v5 &&& 31)))), (4, .int v4), (5, .int v5)]) d_Mo_around_57 rfl (by decide) rfl ?_
        refine z_iinc E 5 [1, 2, 3, 4, 5, 0] (v := v5 + 1) (lv' := [(0, zf G 32), (1, .int v1), (2, .int v2), (3, .int (v3 ||| ((1 : Int32) <<< (v5 &&& 31)))), (4, .int v4), (5, .int (v5 + 1))]) d_Mo_around_58 rfl rfl (by decide) rfl ?_
        refine z_goto E d_Mo_around_61 (tgt := 17) (by decide) ?_
        exact h

set_option maxRecDepth 20000 in
set_option maxHeartbeats 4000000 in
theorem b_Mo_makeClusters_0 {G : zG} {X : zX} {post : Option Value → zSt → Prop} (E : zCtx G M_Mo_makeClusters (zKm G 2 X post) X) (v1 : Int32) (σ : zSt)
    (h : (∀ σ1 : zSt, σ1 = zup σ 32 19 (0 : Int32) → zZ G M_Mo_makeClusters 2 X post 14 [(0, zf G 32), (1, .int v1), (2, .int (((1 : Int32) <<< ((σ 32 0) &&& 31)) - (1 : Int32)))] [] σ1)) :
    zZ G M_Mo_makeClusters 2 X post 0 [(0, zf G 32), (1, .int v1)] [] σ := by
  refine z_iconst E (v := 1) d_Mo_makeClusters_0 (by decide) ?_
  refine z_aload_n E 0 d_Mo_makeClusters_1 rfl rfl ?_
  refine z_getI E f_Mo_84 d_Mo_makeClusters_2 ?_
  refine z_ishl E d_Mo_makeClusters_5 ?_
  refine z_iconst E (v := 1) d_Mo_makeClusters_6 (by decide) ?_
  refine z_isub E d_Mo_makeClusters_7 ?_
  refine z_istore_n E [1, 2, 0] (lv' := [(0, zf G 32), (1, .int v1), (2, .int (((1 : Int32) <<< ((σ 32 0) &&& 31)) - (1 : Int32)))]) d_Mo_makeClusters_8 rfl (by decide) rfl ?_
  refine z_aload_n E 0 d_Mo_makeClusters_9 rfl rfl ?_
  refine z_iconst E (v := 0) d_Mo_makeClusters_10 (by decide) ?_
  refine z_putI E w_Mo_103 d_Mo_makeClusters_11 (fun σ1 e => ?_)
  replace h := h σ1 e
  exact h

set_option maxRecDepth 20000 in
set_option maxHeartbeats 4000000 in
theorem b_Mo_makeClusters_14 {G : zG} {X : zX} {post : Option Value → zSt → Prop} (E : zCtx G M_Mo_makeClusters (zKm G 2 X post) X) (v1 : Int32) (v2 : Int32) (σ : zSt)
    (h : ((v2 = 0 → (∃ P : zSt → Prop, zV G 1 M_Mo_choose [zf G 32] σ P ∧ ∀ σ1 : zSt, P σ1 → post none σ1)) ∧ (¬ v2 = 0 → zZ G M_Mo_makeClusters 2 X post 20 [(0, zf G 32), (1, .int v1), (2, .int v2), (3, .int (0 : Int32))] [] σ))) :
    zZ G M_Mo_makeClusters 2 X post 14 [(0, zf G 32), (1, .int v1), (2, .int v2)] [] σ := by
  refine z_iload_n E 2 d_Mo_makeClusters_14 rfl rfl ?_
  refine z_if_eq E d_Mo_makeClusters_15 (tgt := 125) (by decide) ⟨fun q => ?_, fun q => ?_⟩
  · replace h := h.1 q
    refine z_aload_n E 0 d_Mo_makeClusters_125 rfl rfl ?_
    obtain ⟨P, hM, h⟩ := h
    refine z_callVV [] [] E hM c_Mo_117 r_Mo_choose rfl zrm rfl (Nat.le_of_ble_eq_true rfl) d_Mo_makeClusters_126 (fun σ1 hp => ?_)
    replace h := h σ1 hp
    exact z_return E rfl d_Mo_makeClusters_129 h
  · replace h := h.2 q
    refine z_iconst E (v := 0) d_Mo_makeClusters_18 (by decide) ?_
    refine z_istore_n E [1, 2, 3, 0] (lv' := [(0, zf G 32), (1, .int v1), (2, .int v2), (3, .int (0 : Int32))]) d_Mo_makeClusters_19 rfl (by decide) rfl ?_
    exact h

set_option maxRecDepth 20000 in
set_option maxHeartbeats 4000000 in
theorem b_Mo_makeClusters_20 {G : zG} {X : zX} {post : Option Value → zSt → Prop} (E : zCtx G M_Mo_makeClusters (zKm G 2 X post) X) (v1 : Int32) (v2 : Int32) (v3 : Int32) (σ : zSt)
    (h : ((¬ ((v2 >>> (v3 &&& 31)) &&& (1 : Int32)) = 0 → (∃ P : Int32 → zSt → Prop, zI G 1 M_Mo_around [zf G 32, .int ((1 : Int32) <<< (v3 &&& 31)), .int (v2 &&& (((1 : Int32) <<< (v3 &&& 31)) ^^^ (-1 : Int32)))] σ P ∧ ∀ (x2 : Int32) (σ1 : zSt), P x2 σ1 → zZ G M_Mo_makeClusters 2 X post 55 [(0, zf G 32), (1, .int v1), (2, .int (v2 &&& (((1 : Int32) <<< (v3 &&& 31)) ^^^ (-1 : Int32)))), (3, .int v3), (4, .int ((1 : Int32) <<< (v3 &&& 31))), (5, .int x2)] [] σ1)) ∧ (((v2 >>> (v3 &&& 31)) &&& (1 : Int32)) = 0 → zZ G M_Mo_makeClusters 2 X post 20 [(0, zf G 32), (1, .int v1), (2, .int v2), (3, .int (v3 + 1))] [] σ))) :
    zZ G M_Mo_makeClusters 2 X post 20 [(0, zf G 32), (1, .int v1), (2, .int v2), (3, .int v3)] [] σ := by
  refine z_iload_n E 2 d_Mo_makeClusters_20 rfl rfl ?_
  refine z_iload_n E 3 d_Mo_makeClusters_21 rfl rfl ?_
  refine z_ishr E d_Mo_makeClusters_22 ?_
  refine z_iconst E (v := 1) d_Mo_makeClusters_23 (by decide) ?_
  refine z_iand E d_Mo_makeClusters_24 ?_
  refine z_if_ne E d_Mo_makeClusters_25 (tgt := 34) (by decide) ⟨fun q => ?_, fun q => ?_⟩
  · replace h := h.1 q
    refine z_iconst E (v := 1) d_Mo_makeClusters_34 (by decide) ?_
    refine z_iload_n E 3 d_Mo_makeClusters_35 rfl rfl ?_
    refine z_ishl E d_Mo_makeClusters_36 ?_
    refine z_istore E [1, 2, 3, 4, 0] (lv' := [(0, zf G 32), (1, .int v1), (2, .int v2), (3, .int v3), (4, .int ((1 : Int32) <<< (v3 &&& 31)))]) d_Mo_makeClusters_37 (by decide) rfl ?_
    refine z_iload_n E 2 d_Mo_makeClusters_39 rfl rfl ?_
    refine z_iload E 4 d_Mo_makeClusters_40 rfl ?_
    refine z_iconst E (v := -1) d_Mo_makeClusters_42 (by decide) ?_
    refine z_ixor E d_Mo_makeClusters_43 ?_
    refine z_iand E d_Mo_makeClusters_44 ?_
    refine z_istore_n E [1, 2, 0, 3, 4] (lv' := [(0, zf G 32), (1, .int v1), (2, .int (v2 &&& (((1 : Int32) <<< (v3 &&& 31)) ^^^ (-1 : Int32)))), (3, .int v3), (4, .int ((1 : Int32) <<< (v3 &&& 31)))]) d_Mo_makeClusters_45 rfl (by decide) rfl ?_
    refine z_aload_n E 0 d_Mo_makeClusters_46 rfl rfl ?_
    refine z_iload E 4 d_Mo_makeClusters_47 rfl ?_
    refine z_iload_n E 2 d_Mo_makeClusters_49 rfl rfl ?_
    obtain ⟨P, hM, h⟩ := h
    refine z_callVI [.int ((1 : Int32) <<< (v3 &&& 31)), .int (v2 &&& (((1 : Int32) <<< (v3 &&& 31)) ^^^ (-1 : Int32)))] [] E hM c_Mo_106 r_Mo_around rfl zrm rfl (Nat.le_of_ble_eq_true rfl) d_Mo_makeClusters_50 (fun x2 σ1 hp => ?_)
    replace h := h x2 σ1 hp
    refine z_istore E [1, 2, 3, 4, 5, 0] (lv' := [(0, zf G 32), (1, .int v1), (2, .int (v2 &&& (((1 : Int32) <<< (v3 &&& 31)) ^^^ (-1 : Int32)))), (3, .int v3), (4, .int ((1 : Int32) <<< (v3 &&& 31))), (5, .int x2)]) d_Mo_makeClusters_53 (by decide) rfl ?_
    exact h
  · replace h := h.2 q
    refine z_iinc E 3 [1, 2, 3, 0] (v := v3 + 1) (lv' := [(0, zf G 32), (1, .int v1), (2, .int v2), (3, .int (v3 + 1))]) d_Mo_makeClusters_28 rfl rfl (by decide) rfl ?_
    refine z_goto E d_Mo_makeClusters_31 (tgt := 20) (by decide) ?_
    exact h

set_option maxRecDepth 20000 in
set_option maxHeartbeats 4000000 in
theorem b_Mo_makeClusters_55 {G : zG} {X : zX} {post : Option Value → zSt → Prop} (E : zCtx G M_Mo_makeClusters (zKm G 2 X post) X) (v1 : Int32) (v2 : Int32) (v3 : Int32) (v4 : Int32) (v5 : Int32) (σ : zSt)
    (h : ((v5 = 0 → (∃ P : zSt → Prop, zV G 1 M_Mo_tree [zf G 32, .int v3, .int v4] σ P ∧ ∀ σ1 : zSt, P σ1 → (∀ σ2 : zSt, σ2 = zup σ1 32 19 ((σ1 32 19) + (1 : Int32)) → zZ G M_Mo_makeClusters 2 X post 14 [(0, zf G 32), (1, .int v1), (2, .int v2)] [] σ2))) ∧ (¬ v5 = 0 → (∃ P : Int32 → zSt → Prop, zI G 0 M_Mo_bits [zf G 32, .int v5] σ P ∧ ∀ (x4 : Int32) (σ3 : zSt), P x4 σ3 → (∃ P : Int32 → zSt → Prop, zI G 0 M_Mo_bits [zf G 32, .int v4] σ3 P ∧ ∀ (x6 : Int32) (σ5 : zSt), P x6 σ5 → ((x4 < ((v1 - (1 : Int32)) * x6) → (∃ P : zSt → Prop, zV G 1 M_Mo_tree [zf G 32, .int v3, .int v4] σ5 P ∧ ∀ σ7 : zSt, P σ7 → (∀ σ8 : zSt, σ8 = zup σ7 32 19 ((σ7 32 19) + (1 : Int32)) → zZ G M_Mo_makeClusters 2 X post 14 [(0, zf G 32), (1, .int v1), (2, .int v2)] [] σ8))) ∧ (¬ x4 < ((v1 - (1 : Int32)) * x6) → (∃ P : Int32 → zSt → Prop, zI G 1 M_Mo_around [zf G 32, .int (v4 ||| v5), .int (v2 &&& (v5 ^^^ (-1 : Int32)))] σ5 P ∧ ∀ (x10 : Int32) (σ9 : zSt), P x10 σ9 → zZ G M_Mo_makeClusters 2 X post 55 [(0, zf G 32), (1, .int v1), (2, .int (v2 &&& (v5 ^^^ (-1 : Int32)))), (3, .int v3), (4, .int (v4 ||| v5)), (5, .int x10)] [] σ9)))))))) :
    zZ G M_Mo_makeClusters 2 X post 55 [(0, zf G 32), (1, .int v1), (2, .int v2), (3, .int v3), (4, .int v4), (5, .int v5)] [] σ := by
  refine z_iload E 5 d_Mo_makeClusters_55 rfl ?_
  refine z_if_eq E d_Mo_makeClusters_57 (tgt := 105) (by decide) ⟨fun q => ?_, fun q => ?_⟩
  · replace h := h.1 q
    refine z_aload_n E 0 d_Mo_makeClusters_105 rfl rfl ?_
    refine z_iload_n E 3 d_Mo_makeClusters_106 rfl rfl ?_
    refine z_iload E 4 d_Mo_makeClusters_107 rfl ?_
    obtain ⟨P, hM, h⟩ := h
    refine z_callVV [.int v3, .int v4] [] E hM c_Mo_113 r_Mo_tree rfl zrm rfl (Nat.le_of_ble_eq_true rfl) d_Mo_makeClusters_109 (fun σ1 hp => ?_)
    replace h := h σ1 hp
    refine z_aload_n E 0 d_Mo_makeClusters_112 rfl rfl ?_
    refine z_dup E d_Mo_makeClusters_113 rfl ?_
    refine z_getI E f_Mo_103 d_Mo_makeClusters_114 ?_
    refine z_iconst E (v := 1) d_Mo_makeClusters_117 (by decide) ?_
    refine z_iadd E d_Mo_makeClusters_118 ?_
    refine z_putI E w_Mo_103 d_Mo_makeClusters_119 (fun σ2 e => ?_)
    replace h := h σ2 e
    refine z_goto E d_Mo_makeClusters_122 (tgt := 14) (by decide) ?_
    refine zZ.sub [0, 1, 2] (lv' := [(0, zf G 32), (1, .int v1), (2, .int v2)]) rfl ?_
    exact h
  · replace h := h.2 q
    refine z_aload_n E 0 d_Mo_makeClusters_60 rfl rfl ?_
    refine z_iload E 5 d_Mo_makeClusters_61 rfl ?_
    obtain ⟨P, hM, h⟩ := h
    refine z_callVI [.int v5] [] E hM c_Mo_110 r_Mo_bits rfl zrm rfl (Nat.le_of_ble_eq_true rfl) d_Mo_makeClusters_63 (fun x4 σ3 hp => ?_)
    replace h := h x4 σ3 hp
    refine z_iload_n E 1 d_Mo_makeClusters_66 rfl rfl ?_
    refine z_iconst E (v := 1) d_Mo_makeClusters_67 (by decide) ?_
    refine z_isub E d_Mo_makeClusters_68 ?_
    refine z_aload_n E 0 d_Mo_makeClusters_69 rfl rfl ?_
    refine z_iload E 4 d_Mo_makeClusters_70 rfl ?_
    obtain ⟨P, hM, h⟩ := h
    refine z_callVI [.int v4] [.int (v1 - (1 : Int32)), .int x4] E hM c_Mo_110 r_Mo_bits rfl zrm rfl (Nat.le_of_ble_eq_true rfl) d_Mo_makeClusters_72 (fun x6 σ5 hp => ?_)
    replace h := h x6 σ5 hp
    refine z_imul E d_Mo_makeClusters_75 ?_
    refine z_icmp_lt E d_Mo_makeClusters_76 (tgt := 105) (by decide) ⟨fun q => ?_, fun q => ?_⟩
    · replace h := h.1 q
      refine z_aload_n E 0 d_Mo_makeClusters_105 rfl rfl ?_
      refine z_iload_n E 3 d_Mo_makeClusters_106 rfl rfl ?_
      refine z_iload E 4 d_Mo_makeClusters_107 rfl ?_
      obtain ⟨P, hM, h⟩ := h
      refine z_callVV [.int v3, .int v4] [] E hM c_Mo_113 r_Mo_tree rfl zrm rfl (Nat.le_of_ble_eq_true rfl) d_Mo_makeClusters_109 (fun σ7 hp => ?_)
      replace h := h σ7 hp
      refine z_aload_n E 0 d_Mo_makeClusters_112 rfl rfl ?_
      refine z_dup E d_Mo_makeClusters_113 rfl ?_
      refine z_getI E f_Mo_103 d_Mo_makeClusters_114 ?_
      refine z_iconst E (v := 1) d_Mo_makeClusters_117 (by decide) ?_
      refine z_iadd E d_Mo_makeClusters_118 ?_
      refine z_putI E w_Mo_103 d_Mo_makeClusters_119 (fun σ8 e => ?_)
      replace h := h σ8 e
      refine z_goto E d_Mo_makeClusters_122 (tgt := 14) (by decide) ?_
      refine zZ.sub [0, 1, 2] (lv' := [(0, zf G 32), (1, .int v1), (2, .int v2)]) rfl ?_
      exact h
    · replace h := h.2 q
      refine z_iload E 4 d_Mo_makeClusters_79 rfl ?_
      refine z_iload E 5 d_Mo_makeClusters_81 rfl ?_
      refine z_ior E d_Mo_makeClusters_83 ?_
      refine z_istore E [1, 2, 3, 4, 0, 5] (lv' := [(0, zf G 32), (1, .int v1), (2, .int v2), (3, .int v3), (4, .int (v4 ||| v5)), (5, .int v5)]) d_Mo_makeClusters_84 (by decide) rfl ?_
      refine z_iload_n E 2 d_Mo_makeClusters_86 rfl rfl ?_
      refine z_iload E 5 d_Mo_makeClusters_87 rfl ?_
      refine z_iconst E (v := -1) d_Mo_makeClusters_89 (by decide) ?_
      refine z_ixor E d_Mo_makeClusters_90 ?_
      refine z_iand E d_Mo_makeClusters_91 ?_
      refine z_istore_n E [1, 2, 0, 3, 4] (lv' := [(0, zf G 32), (1, .int v1), (2, .int (v2 &&& (v5 ^^^ (-1 : Int32)))), (3, .int v3), (4, .int (v4 ||| v5))]) d_Mo_makeClusters_92 rfl (by decide) rfl ?_
      refine z_aload_n E 0 d_Mo_makeClusters_93 rfl rfl ?_
      refine z_iload E 4 d_Mo_makeClusters_94 rfl ?_
      refine z_iload_n E 2 d_Mo_makeClusters_96 rfl rfl ?_
      obtain ⟨P, hM, h⟩ := h
      refine z_callVI [.int (v4 ||| v5), .int (v2 &&& (v5 ^^^ (-1 : Int32)))] [] E hM c_Mo_106 r_Mo_around rfl zrm rfl (Nat.le_of_ble_eq_true rfl) d_Mo_makeClusters_97 (fun x10 σ9 hp => ?_)
      replace h := h x10 σ9 hp
      refine z_istore E [1, 2, 3, 4, 5, 0] (lv' := [(0, zf G 32), (1, .int v1), (2, .int (v2 &&& (v5 ^^^ (-1 : Int32)))), (3, .int v3), (4, .int (v4 ||| v5)), (5, .int x10)]) d_Mo_makeClusters_100 (by decide) rfl ?_
      refine z_goto E d_Mo_makeClusters_102 (tgt := 55) (by decide) ?_
      exact h

