set_option maxRecDepth 20000 in
set_option maxHeartbeats 4000000 in
theorem b_Mo_past_0 {G : zG} {X : zX} {post : Option Value → zSt → Prop} (E : zCtx G M_Mo_past (zKm G 2 X post) X) (v1 : Int32) (v2 : Int32) (σ : zSt)
    (h : (∃ P : Bool → zSt → Prop, zB G 1 M_Mo_noPlace [zf G 32, .int v1, .int v2] σ P ∧ ∀ (b2 : Bool) (σ1 : zSt), P b2 σ1 → ((b2 = false → (vp_in v1 12 ∧ ((v2 ≤ (σ1 35 v1.toNatClampNeg) → (vp_in (((12 : Int32) * v2) + v1) 252 ∧ post (some (.int (σ1 49 (((12 : Int32) * v2) + v1).toNatClampNeg))) σ1)) ∧ (¬ v2 ≤ (σ1 35 v1.toNatClampNeg) → post (some (.int (-3 : Int32))) σ1)))) ∧ (b2 = true → post (some (.int (-1 : Int32))) σ1)))) :
    zZ G M_Mo_past 2 X post 0 [(0, zf G 32), (1, .int v1), (2, .int v2)] [] σ := by
  refine z_aload_n E 0 d_Mo_past_0 rfl rfl ?_
  refine z_iload_n E 1 d_Mo_past_1 rfl rfl ?_
  refine z_iload_n E 2 d_Mo_past_2 rfl rfl ?_
  obtain ⟨P, hM, h⟩ := h
  refine z_callVB [.int v1, .int v2] [] E hM c_Mo_200 r_Mo_noPlace rfl zrm rfl (Nat.le_of_ble_eq_true rfl) d_Mo_past_3 (fun b2 σ1 hp => ?_)
  replace h := h b2 σ1 hp
  refine z_ifz_eq E d_Mo_past_6 (tgt := 13) (by decide) ⟨fun q => ?_, fun q => ?_⟩
  · replace h := h.1 q
    refine z_iload_n E 2 d_Mo_past_13 rfl rfl ?_
    refine z_aload_n E 0 d_Mo_past_14 rfl rfl ?_
    refine z_getR E f_Mo_16 d_Mo_past_15 ?_
    refine z_iload_n E 1 d_Mo_past_18 rfl rfl ?_
    obtain ⟨h0, h⟩ := h
    refine z_iald E rfl d_Mo_past_19 ⟨h0, ?_⟩
    refine z_icmp_le E d_Mo_past_20 (tgt := 28) (by decide) ⟨fun q => ?_, fun q => ?_⟩
    · replace h := h.1 q
      refine z_aload_n E 0 d_Mo_past_28 rfl rfl ?_
      refine z_getR E f_Mo_59 d_Mo_past_29 ?_
      refine z_bipush E (v := 12) d_Mo_past_32 (by decide) ?_
      refine z_iload_n E 2 d_Mo_past_34 rfl rfl ?_
      refine z_imul E d_Mo_past_35 ?_
      refine z_iload_n E 1 d_Mo_past_36 rfl rfl ?_
      refine z_iadd E d_Mo_past_37 ?_
      obtain ⟨h0, h⟩ := h
      refine z_iald E rfl d_Mo_past_38 ⟨h0, ?_⟩
      exact z_ireturn E rfl d_Mo_past_39 h
    · replace h := h.2 q
      refine z_bipush E (v := -3) d_Mo_past_23 (by decide) ?_
      refine z_goto E d_Mo_past_25 (tgt := 39) (by decide) ?_
      exact z_ireturn E rfl d_Mo_past_39 h
  · replace h := h.2 q
    refine z_iconst E (v := -1) d_Mo_past_9 (by decide) ?_
    refine z_goto E d_Mo_past_10 (tgt := 39) (by decide) ?_
    exact z_ireturn E rfl d_Mo_past_39 h

set_option maxRecDepth 20000 in
set_option maxHeartbeats 4000000 in
theorem b_Mo_inStep_0 {G : zG} {X : zX} {post : Option Value → zSt → Prop} (E : zCtx G M_Mo_inStep (zKm G 2 X post) X) (v1 : Int32) (v2 : Int32) (σ : zSt)
    (h : (∃ P : Bool → zSt → Prop, zB G 1 M_Mo_noPlace [zf G 32, .int v1, .int v2] σ P ∧ ∀ (b2 : Bool) (σ1 : zSt), P b2 σ1 → ((b2 = false → (vp_in (((12 : Int32) * v2) + v1) 252 ∧ post (some (.int (σ1 50 (((12 : Int32) * v2) + v1).toNatClampNeg))) σ1)) ∧ (b2 = true → post (some (.int (-1 : Int32))) σ1)))) :
    zZ G M_Mo_inStep 2 X post 0 [(0, zf G 32), (1, .int v1), (2, .int v2)] [] σ := by
  refine z_aload_n E 0 d_Mo_inStep_0 rfl rfl ?_
  refine z_iload_n E 1 d_Mo_inStep_1 rfl rfl ?_
  refine z_iload_n E 2 d_Mo_inStep_2 rfl rfl ?_
  obtain ⟨P, hM, h⟩ := h
  refine z_callVB [.int v1, .int v2] [] E hM c_Mo_200 r_Mo_noPlace rfl zrm rfl (Nat.le_of_ble_eq_true rfl) d_Mo_inStep_3 (fun b2 σ1 hp => ?_)
  replace h := h b2 σ1 hp
  refine z_ifz_eq E d_Mo_inStep_6 (tgt := 13) (by decide) ⟨fun q => ?_, fun q => ?_⟩
  · replace h := h.1 q
    refine z_aload_n E 0 d_Mo_inStep_13 rfl rfl ?_
    refine z_getR E f_Mo_62 d_Mo_inStep_14 ?_
    refine z_bipush E (v := 12) d_Mo_inStep_17 (by decide) ?_
    refine z_iload_n E 2 d_Mo_inStep_19 rfl rfl ?_
    refine z_imul E d_Mo_inStep_20 ?_
    refine z_iload_n E 1 d_Mo_inStep_21 rfl rfl ?_
    refine z_iadd E d_Mo_inStep_22 ?_
    obtain ⟨h0, h⟩ := h
    refine z_iald E rfl d_Mo_inStep_23 ⟨h0, ?_⟩
    exact z_ireturn E rfl d_Mo_inStep_24 h
  · replace h := h.2 q
    refine z_iconst E (v := -1) d_Mo_inStep_9 (by decide) ?_
    refine z_goto E d_Mo_inStep_10 (tgt := 24) (by decide) ?_
    exact z_ireturn E rfl d_Mo_inStep_24 h

set_option maxRecDepth 20000 in
set_option maxHeartbeats 4000000 in
theorem b_Mo_differ_0 {G : zG} {X : zX} {post : Option Value → zSt → Prop} (E : zCtx G M_Mo_differ (zKm G 0 X post) X)  (σ : zSt)
    (h : zZ G M_Mo_differ 0 X post 4 [(0, zf G 32), (1, .int (0 : Int32)), (2, .int (0 : Int32))] [] σ) :
    zZ G M_Mo_differ 0 X post 0 [(0, zf G 32)] [] σ := by
  refine z_iconst E (v := 0) d_Mo_differ_0 (by decide) ?_
  refine z_istore_n E [1, 0] (lv' := [(0, zf G 32), (1, .int (0 : Int32))]) d_Mo_differ_1 rfl (by decide) rfl ?_
  refine z_iconst E (v := 0) d_Mo_differ_2 (by decide) ?_
  refine z_istore_n E [1, 2, 0] (lv' := [(0, zf G 32), (1, .int (0 : Int32)), (2, .int (0 : Int32))]) d_Mo_differ_3 rfl (by decide) rfl ?_
  exact h

set_option maxRecDepth 20000 in
set_option maxHeartbeats 4000000 in
theorem b_Mo_differ_4 {G : zG} {X : zX} {post : Option Value → zSt → Prop} (E : zCtx G M_Mo_differ (zKm G 0 X post) X) (v1 : Int32) (v2 : Int32) (σ : zSt)
    (h : (((σ 32 0) ≤ v2 → (((σ 32 4) = 0 → post (some (.int (-1 : Int32))) σ) ∧ (¬ (σ 32 4) = 0 → post (some (.int v1)) σ))) ∧ (¬ (σ 32 0) ≤ v2 → (((σ 32 4) = 0 → (((σ 32 4) = 0 → post (some (.int (-1 : Int32))) σ) ∧ (¬ (σ 32 4) = 0 → post (some (.int v1)) σ))) ∧ (¬ (σ 32 4) = 0 → zZ G M_Mo_differ 0 X post 21 [(0, zf G 32), (1, .int v1), (2, .int v2), (3, .int (0 : Int32))] [] σ))))) :
    zZ G M_Mo_differ 0 X post 4 [(0, zf G 32), (1, .int v1), (2, .int v2)] [] σ := by
  refine z_iload_n E 2 d_Mo_differ_4 rfl rfl ?_
  refine z_aload_n E 0 d_Mo_differ_5 rfl rfl ?_
  refine z_getI E f_Mo_84 d_Mo_differ_6 ?_
  refine z_icmp_ge E d_Mo_differ_9 (tgt := 76) (by decide) ⟨fun q => ?_, fun q => ?_⟩
  · replace h := h.1 q
    refine z_aload_n E 0 d_Mo_differ_76 rfl rfl ?_
    refine z_getI E f_Mo_91 d_Mo_differ_77 ?_
    refine z_if_eq E d_Mo_differ_80 (tgt := 87) (by decide) ⟨fun q => ?_, fun q => ?_⟩
    · replace h := h.1 q
      refine z_iconst E (v := -1) d_Mo_differ_87 (by decide) ?_
      exact z_ireturn E rfl d_Mo_differ_88 h
    · replace h := h.2 q
      refine z_iload_n E 1 d_Mo_differ_83 rfl rfl ?_
      refine z_goto E d_Mo_differ_84 (tgt := 88) (by decide) ?_
      exact z_ireturn E rfl d_Mo_differ_88 h
  · replace h := h.2 q
    refine z_aload_n E 0 d_Mo_differ_12 rfl rfl ?_
    refine z_getI E f_Mo_91 d_Mo_differ_13 ?_
    refine z_if_eq E d_Mo_differ_16 (tgt := 76) (by decide) ⟨fun q => ?_, fun q => ?_⟩
    · replace h := h.1 q
      refine z_aload_n E 0 d_Mo_differ_76 rfl rfl ?_
      refine z_getI E f_Mo_91 d_Mo_differ_77 ?_
      refine z_if_eq E d_Mo_differ_80 (tgt := 87) (by decide) ⟨fun q => ?_, fun q => ?_⟩
      · replace h := h.1 q
        refine z_iconst E (v := -1) d_Mo_differ_87 (by decide) ?_
        exact z_ireturn E rfl d_Mo_differ_88 h
      · replace h := h.2 q
        refine z_iload_n E 1 d_Mo_differ_83 rfl rfl ?_
        refine z_goto E d_Mo_differ_84 (tgt := 88) (by decide) ?_
        exact z_ireturn E rfl d_Mo_differ_88 h
    · replace h := h.2 q
      refine z_iconst E (v := 0) d_Mo_differ_19 (by decide) ?_
      refine z_istore_n E [1, 2, 3, 0] (lv' := [(0, zf G 32), (1, .int v1), (2, .int v2), (3, .int (0 : Int32))]) d_Mo_differ_20 rfl (by decide) rfl ?_
      exact h

set_option maxRecDepth 20000 in
set_option maxHeartbeats 4000000 in
theorem b_Mo_differ_21 {G : zG} {X : zX} {post : Option Value → zSt → Prop} (E : zCtx G M_Mo_differ (zKm G 0 X post) X) (v1 : Int32) (v2 : Int32) (v3 : Int32) (σ : zSt)
    (h : (vp_in v2 12 ∧ (((σ 35 v2.toNatClampNeg) < v3 → zZ G M_Mo_differ 0 X post 4 [(0, zf G 32), (1, .int v1), (2, .int (v2 + 1))] [] σ) ∧ (¬ (σ 35 v2.toNatClampNeg) < v3 → (vp_in (((12 : Int32) * v3) + v2) 252 ∧ (vp_in (((12 : Int32) * v3) + v2) 252 ∧ ((¬ (σ 49 (((12 : Int32) * v3) + v2).toNatClampNeg) = (σ 50 (((12 : Int32) * v3) + v2).toNatClampNeg) → zZ G M_Mo_differ 0 X post 21 [(0, zf G 32), (1, .int (v1 + (1 : Int32))), (2, .int v2), (3, .int (v3 + 1))] [] σ) ∧ ((σ 49 (((12 : Int32) * v3) + v2).toNatClampNeg) = (σ 50 (((12 : Int32) * v3) + v2).toNatClampNeg) → zZ G M_Mo_differ 0 X post 21 [(0, zf G 32), (1, .int (v1 + (0 : Int32))), (2, .int v2), (3, .int (v3 + 1))] [] σ)))))))) :
    zZ G M_Mo_differ 0 X post 21 [(0, zf G 32), (1, .int v1), (2, .int v2), (3, .int v3)] [] σ := by
  refine z_iload_n E 3 d_Mo_differ_21 rfl rfl ?_
  refine z_aload_n E 0 d_Mo_differ_22 rfl rfl ?_
  refine z_getR E f_Mo_16 d_Mo_differ_23 ?_
  refine z_iload_n E 2 d_Mo_differ_26 rfl rfl ?_
  obtain ⟨h0, h⟩ := h
  refine z_iald E rfl d_Mo_differ_27 ⟨h0, ?_⟩
  refine z_icmp_gt E d_Mo_differ_28 (tgt := 70) (by decide) ⟨fun q => ?_, fun q => ?_⟩
  · replace h := h.1 q
    refine z_iinc E 2 [1, 2, 0, 3] (v := v2 + 1) (lv' := [(0, zf G 32), (1, .int v1), (2, .int (v2 + 1)), (3, .int v3)]) d_Mo_differ_70 rfl rfl (by decide) rfl ?_
    refine z_goto E d_Mo_differ_73 (tgt := 4) (by decide) ?_
    refine zZ.sub [0, 1, 2] (lv' := [(0, zf G 32), (1, .int v1), (2, .int (v2 + 1))]) rfl ?_
    exact h
  · replace h := h.2 q
    refine z_iload_n E 1 d_Mo_differ_31 rfl rfl ?_
    refine z_aload_n E 0 d_Mo_differ_32 rfl rfl ?_
    refine z_getR E f_Mo_59 d_Mo_differ_33 ?_
    refine z_bipush E (v := 12) d_Mo_differ_36 (by decide) ?_
    refine z_iload_n E 3 d_Mo_differ_38 rfl rfl ?_
    refine z_imul E d_Mo_differ_39 ?_
    refine z_iload_n E 2 d_Mo_differ_40 rfl rfl ?_
    refine z_iadd E d_Mo_differ_41 ?_
    obtain ⟨h0, h⟩ := h
    refine z_iald E rfl d_Mo_differ_42 ⟨h0, ?_⟩
    refine z_aload_n E 0 d_Mo_differ_43 rfl rfl ?_
    refine z_getR E f_Mo_62 d_Mo_differ_44 ?_
    refine z_bipush E (v := 12) d_Mo_differ_47 (by decide) ?_
    refine z_iload_n E 3 d_Mo_differ_49 rfl rfl ?_
    refine z_imul E d_Mo_differ_50 ?_
    refine z_iload_n E 2 d_Mo_differ_51 rfl rfl ?_
    refine z_iadd E d_Mo_differ_52 ?_
    obtain ⟨h0, h⟩ := h
    refine z_iald E rfl d_Mo_differ_53 ⟨h0, ?_⟩
    refine z_icmp_ne E d_Mo_differ_54 (tgt := 61) (by decide) ⟨fun q => ?_, fun q => ?_⟩
    · replace h := h.1 q
      refine z_iconst E (v := 1) d_Mo_differ_61 (by decide) ?_
      refine z_iadd E d_Mo_differ_62 ?_
      refine z_istore_n E [1, 0, 2, 3] (lv' := [(0, zf G 32), (1, .int (v1 + (1 : Int32))), (2, .int v2), (3, .int v3)]) d_Mo_differ_63 rfl (by decide) rfl ?_
      refine z_iinc E 3 [1, 2, 3, 0] (v := v3 + 1) (lv' := [(0, zf G 32), (1, .int (v1 + (1 : Int32))), (2, .int v2), (3, .int (v3 + 1))]) d_Mo_differ_64 rfl rfl (by decide) rfl ?_
      refine z_goto E d_Mo_differ_67 (tgt := 21) (by decide) ?_
      exact h
    · replace h := h.2 q
      refine z_iconst E (v := 0) d_Mo_differ_57 (by decide) ?_
      refine z_goto E d_Mo_differ_58 (tgt := 62) (by decide) ?_
      refine z_iadd E d_Mo_differ_62 ?_
      refine z_istore_n E [1, 0, 2, 3] (lv' := [(0, zf G 32), (1, .int (v1 + (0 : Int32))), (2, .int v2), (3, .int v3)]) d_Mo_differ_63 rfl (by decide) rfl ?_
      refine z_iinc E 3 [1, 2, 3, 0] (v := v3 + 1) (lv' := [(0, zf G 32), (1, .int (v1 + (0 : Int32))), (2, .int v2), (3, .int (v3 + 1))]) d_Mo_differ_64 rfl rfl (by decide) rfl ?_
      refine z_goto E d_Mo_differ_67 (tgt := 21) (by decide) ?_
      exact h

set_option maxRecDepth 20000 in
set_option maxHeartbeats 4000000 in
theorem b_Mo_letter_0 {G : zG} {X : zX} {post : Option Value → zSt → Prop} (E : zCtx G M_Mo_letter (zKm G 0 X post) X) (v1 : Int32) (v2 : Int32) (σ : zSt)
    (h : (((σ 32 4) = 0 → post (some (.int (-1 : Int32))) σ) ∧ (¬ (σ 32 4) = 0 → ((v1 < 0 → post (some (.int (-1 : Int32))) σ) ∧ (¬ v1 < 0 → (((σ 32 27) ≤ v1 → post (some (.int (-1 : Int32))) σ) ∧ (¬ (σ 32 27) ≤ v1 → ((v2 < 0 → post (some (.int (-1 : Int32))) σ) ∧ (¬ v2 < 0 → ((v2 ≤ (4 : Int32) → (vp_in (((5 : Int32) * v1) + v2) 20000 ∧ post (some (.int (σ 51 (((5 : Int32) * v1) + v2).toNatClampNeg))) σ)) ∧ (¬ v2 ≤ (4 : Int32) → post (some (.int (-1 : Int32))) σ))))))))))) :
    zZ G M_Mo_letter 0 X post 0 [(0, zf G 32), (1, .int v1), (2, .int v2)] [] σ := by
  refine z_aload_n E 0 d_Mo_letter_0 rfl rfl ?_
  refine z_getI E f_Mo_91 d_Mo_letter_1 ?_
  refine z_if_eq E d_Mo_letter_4 (tgt := 28) (by decide) ⟨fun q => ?_, fun q => ?_⟩
  · replace h := h.1 q
    refine z_iconst E (v := -1) d_Mo_letter_28 (by decide) ?_
    refine z_goto E d_Mo_letter_29 (tgt := 42) (by decide) ?_
    exact z_ireturn E rfl d_Mo_letter_42 h
  · replace h := h.2 q
    refine z_iload_n E 1 d_Mo_letter_7 rfl rfl ?_
    refine z_if_lt E d_Mo_letter_8 (tgt := 28) (by decide) ⟨fun q => ?_, fun q => ?_⟩
    · replace h := h.1 q
      refine z_iconst E (v := -1) d_Mo_letter_28 (by decide) ?_
      refine z_goto E d_Mo_letter_29 (tgt := 42) (by decide) ?_
      exact z_ireturn E rfl d_Mo_letter_42 h
    · replace h := h.2 q
      refine z_iload_n E 1 d_Mo_letter_11 rfl rfl ?_
      refine z_aload_n E 0 d_Mo_letter_12 rfl rfl ?_
      refine z_getI E f_Mo_143 d_Mo_letter_13 ?_
      refine z_icmp_ge E d_Mo_letter_16 (tgt := 28) (by decide) ⟨fun q => ?_, fun q => ?_⟩
      · replace h := h.1 q
        refine z_iconst E (v := -1) d_Mo_letter_28 (by decide) ?_
        refine z_goto E d_Mo_letter_29 (tgt := 42) (by decide) ?_
        exact z_ireturn E rfl d_Mo_letter_42 h
      · replace h := h.2 q
        refine z_iload_n E 2 d_Mo_letter_19 rfl rfl ?_
        refine z_if_lt E d_Mo_letter_20 (tgt := 28) (by decide) ⟨fun q => ?_, fun q => ?_⟩
        · replace h := h.1 q
          refine z_iconst E (v := -1) d_Mo_letter_28 (by decide) ?_
          refine z_goto E d_Mo_letter_29 (tgt := 42) (by decide) ?_
          exact z_ireturn E rfl d_Mo_letter_42 h
        · replace h := h.2 q
          refine z_iload_n E 2 d_Mo_letter_23 rfl rfl ?_
          refine z_iconst E (v := 4) d_Mo_letter_24 (by decide) ?_
          refine z_icmp_le E d_Mo_letter_25 (tgt := 32) (by decide) ⟨fun q => ?_, fun q => ?_⟩
          · replace h := h.1 q
            refine z_aload_n E 0 d_Mo_letter_32 rfl rfl ?_
            refine z_getR E f_Mo_65 d_Mo_letter_33 ?_
            refine z_iconst E (v := 5) d_Mo_letter_36 (by decide) ?_
            refine z_iload_n E 1 d_Mo_letter_37 rfl rfl ?_
            refine z_imul E d_Mo_letter_38 ?_
            refine z_iload_n E 2 d_Mo_letter_39 rfl rfl ?_
            refine z_iadd E d_Mo_letter_40 ?_
            obtain ⟨h0, h⟩ := h
            refine z_iald E rfl d_Mo_letter_41 ⟨h0, ?_⟩
            exact z_ireturn E rfl d_Mo_letter_42 h
          · replace h := h.2 q
            refine z_iconst E (v := -1) d_Mo_letter_28 (by decide) ?_
            refine z_goto E d_Mo_letter_29 (tgt := 42) (by decide) ?_
            exact z_ireturn E rfl d_Mo_letter_42 h

set_option maxRecDepth 20000 in
set_option maxHeartbeats 4000000 in
theorem b_Mo_count_0 {G : zG} {X : zX} {post : Option Value → zSt → Prop} (E : zCtx G M_Mo_count (zKm G 0 X post) X) (v1 : Int32) (σ : zSt)
    (h : ((v1 < 0 → post (some (.int (-1 : Int32))) σ) ∧ (¬ v1 < 0 → (((9 : Int32) < v1 → post (some (.int (-1 : Int32))) σ) ∧ (¬ (9 : Int32) < v1 → ((v1 ≤ (1 : Int32) → zZ G M_Mo_count 0 X post 32 [(0, zf G 32), (1, .int v1), (2, .int (99 : Int32)), (3, .int (0 : Int32)), (4, .int (0 : Int32))] [] σ) ∧ (¬ v1 ≤ (1 : Int32) → ((¬ (σ 32 4) = 0 → zZ G M_Mo_count 0 X post 32 [(0, zf G 32), (1, .int v1), (2, .int (99 : Int32)), (3, .int (0 : Int32)), (4, .int (0 : Int32))] [] σ) ∧ ((σ 32 4) = 0 → post (some (.int (-1 : Int32))) σ))))))))) :
    zZ G M_Mo_count 0 X post 0 [(0, zf G 32), (1, .int v1)] [] σ := by
  refine z_iload_n E 1 d_Mo_count_0 rfl rfl ?_
  refine z_if_lt E d_Mo_count_1 (tgt := 22) (by decide) ⟨fun q => ?_, fun q => ?_⟩
  · replace h := h.1 q
    refine z_iconst E (v := -1) d_Mo_count_22 (by decide) ?_
    exact z_ireturn E rfl d_Mo_count_23 h
  · replace h := h.2 q
    refine z_iload_n E 1 d_Mo_count_4 rfl rfl ?_
    refine z_bipush E (v := 9) d_Mo_count_5 (by decide) ?_
    refine z_icmp_gt E d_Mo_count_7 (tgt := 22) (by decide) ⟨fun q => ?_, fun q => ?_⟩
    · replace h := h.1 q
      refine z_iconst E (v := -1) d_Mo_count_22 (by decide) ?_
      exact z_ireturn E rfl d_Mo_count_23 h
    · replace h := h.2 q
      refine z_iload_n E 1 d_Mo_count_10 rfl rfl ?_
      refine z_iconst E (v := 1) d_Mo_count_11 (by decide) ?_
      refine z_icmp_le E d_Mo_count_12 (tgt := 24) (by decide) ⟨fun q => ?_, fun q => ?_⟩
      · replace h := h.1 q
        refine z_bipush E (v := 99) d_Mo_count_24 (by decide) ?_
        refine z_istore_n E [1, 2, 0] (lv' := [(0, zf G 32), (1, .int v1), (2, .int (99 : Int32))]) d_Mo_count_26 rfl (by decide) rfl ?_
        refine z_iconst E (v := 0) d_Mo_count_27 (by decide) ?_
        refine z_istore_n E [1, 2, 3, 0] (lv' := [(0, zf G 32), (1, .int v1), (2, .int (99 : Int32)), (3, .int (0 : Int32))]) d_Mo_count_28 rfl (by decide) rfl ?_
        refine z_iconst E (v := 0) d_Mo_count_29 (by decide) ?_
        refine z_istore E [1, 2, 3, 4, 0] (lv' := [(0, zf G 32), (1, .int v1), (2, .int (99 : Int32)), (3, .int (0 : Int32)), (4, .int (0 : Int32))]) d_Mo_count_30 (by decide) rfl ?_
        exact h
      · replace h := h.2 q
        refine z_aload_n E 0 d_Mo_count_15 rfl rfl ?_
        refine z_getI E f_Mo_91 d_Mo_count_16 ?_
        refine z_if_ne E d_Mo_count_19 (tgt := 24) (by decide) ⟨fun q => ?_, fun q => ?_⟩
        · replace h := h.1 q
          refine z_bipush E (v := 99) d_Mo_count_24 (by decide) ?_
          refine z_istore_n E [1, 2, 0] (lv' := [(0, zf G 32), (1, .int v1), (2, .int (99 : Int32))]) d_Mo_count_26 rfl (by decide) rfl ?_
          refine z_iconst E (v := 0) d_Mo_count_27 (by decide) ?_
          refine z_istore_n E [1, 2, 3, 0] (lv' := [(0, zf G 32), (1, .int v1), (2, .int (99 : Int32)), (3, .int (0 : Int32))]) d_Mo_count_28 rfl (by decide) rfl ?_
          refine z_iconst E (v := 0) d_Mo_count_29 (by decide) ?_
          refine z_istore E [1, 2, 3, 4, 0] (lv' := [(0, zf G 32), (1, .int v1), (2, .int (99 : Int32)), (3, .int (0 : Int32)), (4, .int (0 : Int32))]) d_Mo_count_30 (by decide) rfl ?_
          exact h
        · replace h := h.2 q
          refine z_iconst E (v := -1) d_Mo_count_22 (by decide) ?_
          exact z_ireturn E rfl d_Mo_count_23 h

set_option maxRecDepth 20000 in
set_option maxHeartbeats 4000000 in
theorem b_Mo_count_32 {G : zG} {X : zX} {post : Option Value → zSt → Prop} (E : zCtx G M_Mo_count (zKm G 0 X post) X) (v1 : Int32) (v2 : Int32) (v3 : Int32) (v4 : Int32) (σ : zSt)
    (h : (((σ 32 0) ≤ v4 → ((v1.toInt = 0 → post (some (.int (σ 32 0))) σ) ∧ (v1.toInt = 1 → post (some (.int (σ 32 1))) σ) ∧ (v1.toInt = 2 → post (some (.int (σ 32 27))) σ) ∧ (v1.toInt = 3 → post (some (.int (σ 32 29))) σ) ∧ (v1.toInt = 4 → post (some (.int (σ 32 30))) σ) ∧ (v1.toInt = 5 → post (some (.int v2)) σ) ∧ (v1.toInt = 6 → post (some (.int v3)) σ) ∧ (v1.toInt = 7 → ((¬ v2 = (σ 32 8) → post (some (.int (0 : Int32))) σ) ∧ (v2 = (σ 32 8) → ((¬ (σ 32 27) = 0 → post (some (.int (0 : Int32))) σ) ∧ ((σ 32 27) = 0 → post (some (.int (1 : Int32))) σ))))) ∧ (v1.toInt = 8 → post (some (.int (σ 32 19))) σ) ∧ ((v1.toInt < 0 ∨ 8 < v1.toInt) → post (some (.int (σ 32 20))) σ))) ∧ (¬ (σ 32 0) ≤ v4 → (vp_in v4 12 ∧ ((v2 ≤ (σ 35 v4.toNatClampNeg) → (vp_in v4 12 ∧ (((σ 35 v4.toNatClampNeg) ≤ v3 → zZ G M_Mo_count 0 X post 32 [(0, zf G 32), (1, .int v1), (2, .int v2), (3, .int v3), (4, .int (v4 + 1))] [] σ) ∧ (¬ (σ 35 v4.toNatClampNeg) ≤ v3 → (vp_in v4 12 ∧ zZ G M_Mo_count 0 X post 32 [(0, zf G 32), (1, .int v1), (2, .int v2), (3, .int (σ 35 v4.toNatClampNeg)), (4, .int (v4 + 1))] [] σ))))) ∧ (¬ v2 ≤ (σ 35 v4.toNatClampNeg) → (vp_in v4 12 ∧ (vp_in v4 12 ∧ (((σ 35 v4.toNatClampNeg) ≤ v3 → zZ G M_Mo_count 0 X post 32 [(0, zf G 32), (1, .int v1), (2, .int (σ 35 v4.toNatClampNeg)), (3, .int v3), (4, .int (v4 + 1))] [] σ) ∧ (¬ (σ 35 v4.toNatClampNeg) ≤ v3 → (vp_in v4 12 ∧ zZ G M_Mo_count 0 X post 32 [(0, zf G 32), (1, .int v1), (2, .int (σ 35 v4.toNatClampNeg)), (3, .int (σ 35 v4.toNatClampNeg)), (4, .int (v4 + 1))] [] σ))))))))))) :
    zZ G M_Mo_count 0 X post 32 [(0, zf G 32), (1, .int v1), (2, .int v2), (3, .int v3), (4, .int v4)] [] σ := by
  refine z_iload E 4 d_Mo_count_32 rfl ?_
  refine z_aload_n E 0 d_Mo_count_34 rfl rfl ?_
  refine z_getI E f_Mo_84 d_Mo_count_35 ?_
  refine z_icmp_ge E d_Mo_count_38 (tgt := 93) (by decide) ⟨fun q => ?_, fun q => ?_⟩
  · replace h := h.1 q
    refine z_iload_n E 1 d_Mo_count_93 rfl rfl ?_
    refine z_table E d_Mo_count_94 (tO := 199) (tgts := [144, 149, 154, 159, 164, 169, 171, 173, 194]) (by decide) (by decide) (by decide) ⟨z_tcons (fun q => ?_) (z_tcons (fun q => ?_) (z_tcons (fun q => ?_) (z_tcons (fun q => ?_) (z_tcons (fun q => ?_) (z_tcons (fun q => ?_) (z_tcons (fun q => ?_) (z_tcons (fun q => ?_) (z_tcons (fun q => ?_) (z_tnil))))))))), fun q => ?_⟩
    · replace h := h.1 q
      show zZ G M_Mo_count 0 X post 144 [(0, zf G 32), (1, .int v1), (2, .int v2), (3, .int v3), (4, .int v4)] [] σ
      refine z_aload_n E 0 d_Mo_count_144 rfl rfl ?_
      refine z_getI E f_Mo_84 d_Mo_count_145 ?_
      exact z_ireturn E rfl d_Mo_count_148 h
    · replace h := h.2.1 q
      show zZ G M_Mo_count 0 X post 149 [(0, zf G 32), (1, .int v1), (2, .int v2), (3, .int v3), (4, .int v4)] [] σ
      refine z_aload_n E 0 d_Mo_count_149 rfl rfl ?_
      refine z_getI E f_Mo_88 d_Mo_count_150 ?_
      exact z_ireturn E rfl d_Mo_count_153 h
    · replace h := h.2.2.1 q
      show zZ G M_Mo_count 0 X post 154 [(0, zf G 32), (1, .int v1), (2, .int v2), (3, .int v3), (4, .int v4)] [] σ
      refine z_aload_n E 0 d_Mo_count_154 rfl rfl ?_
      refine z_getI E f_Mo_143 d_Mo_count_155 ?_
      exact z_ireturn E rfl d_Mo_count_158 h
    · replace h := h.2.2.2.1 q
      show zZ G M_Mo_count 0 X post 159 [(0, zf G 32), (1, .int v1), (2, .int v2), (3, .int v3), (4, .int v4)] [] σ
      refine z_aload_n E 0 d_Mo_count_159 rfl rfl ?_
      refine z_getI E f_Mo_146 d_Mo_count_160 ?_
      exact z_ireturn E rfl d_Mo_count_163 h
    · replace h := h.2.2.2.2.1 q
      show zZ G M_Mo_count 0 X post 164 [(0, zf G 32), (1, .int v1), (2, .int v2), (3, .int v3), (4, .int v4)] [] σ
      refine z_aload_n E 0 d_Mo_count_164 rfl rfl ?_
      refine z_getI E f_Mo_149 d_Mo_count_165 ?_
      exact z_ireturn E rfl d_Mo_count_168 h
    · replace h := h.2.2.2.2.2.1 q
      show zZ G M_Mo_count 0 X post 169 [(0, zf G 32), (1, .int v1), (2, .int v2), (3, .int v3), (4, .int v4)] [] σ
      refine z_iload_n E 2 d_Mo_count_169 rfl rfl ?_
      exact z_ireturn E rfl d_Mo_count_170 h
    · replace h := h.2.2.2.2.2.2.1 q
      show zZ G M_Mo_count 0 X post 171 [(0, zf G 32), (1, .int v1), (2, .int v2), (3, .int v3), (4, .int v4)] [] σ
      refine z_iload_n E 3 d_Mo_count_171 rfl rfl ?_
      exact z_ireturn E rfl d_Mo_count_172 h
    · replace h := h.2.2.2.2.2.2.2.1 q
      show zZ G M_Mo_count 0 X post 173 [(0, zf G 32), (1, .int v1), (2, .int v2), (3, .int v3), (4, .int v4)] [] σ
      refine z_iload_n E 2 d_Mo_count_173 rfl rfl ?_
      refine z_aload_n E 0 d_Mo_count_174 rfl rfl ?_
      refine z_getI E f_Mo_136 d_Mo_count_175 ?_
      refine z_icmp_ne E d_Mo_count_178 (tgt := 192) (by decide) ⟨fun q => ?_, fun q => ?_⟩
      · replace h := h.1 q
        refine z_iconst E (v := 0) d_Mo_count_192 (by decide) ?_
        exact z_ireturn E rfl d_Mo_count_193 h
      · replace h := h.2 q
        refine z_aload_n E 0 d_Mo_count_181 rfl rfl ?_
        refine z_getI E f_Mo_143 d_Mo_count_182 ?_
        refine z_if_ne E d_Mo_count_185 (tgt := 192) (by decide) ⟨fun q => ?_, fun q => ?_⟩
        · replace h := h.1 q
          refine z_iconst E (v := 0) d_Mo_count_192 (by decide) ?_
          exact z_ireturn E rfl d_Mo_count_193 h
        · replace h := h.2 q
          refine z_iconst E (v := 1) d_Mo_count_188 (by decide) ?_
          refine z_goto E d_Mo_count_189 (tgt := 193) (by decide) ?_
          exact z_ireturn E rfl d_Mo_count_193 h
    · replace h := h.2.2.2.2.2.2.2.2.1 q
      show zZ G M_Mo_count 0 X post 194 [(0, zf G 32), (1, .int v1), (2, .int v2), (3, .int v3), (4, .int v4)] [] σ
      refine z_aload_n E 0 d_Mo_count_194 rfl rfl ?_
      refine z_getI E f_Mo_103 d_Mo_count_195 ?_
      exact z_ireturn E rfl d_Mo_count_198 h
    · replace h := h.2.2.2.2.2.2.2.2.2 q
      show zZ G M_Mo_count 0 X post 199 [(0, zf G 32), (1, .int v1), (2, .int v2), (3, .int v3), (4, .int v4)] [] σ
      refine z_aload_n E 0 d_Mo_count_199 rfl rfl ?_
      refine z_getI E f_Mo_120 d_Mo_count_200 ?_
      exact z_ireturn E rfl d_Mo_count_203 h
  · replace h := h.2 q
    refine z_aload_n E 0 d_Mo_count_41 rfl rfl ?_
    refine z_getR E f_Mo_16 d_Mo_count_42 ?_
    refine z_iload E 4 d_Mo_count_45 rfl ?_
    obtain ⟨h0, h⟩ := h
    refine z_iald E rfl d_Mo_count_47 ⟨h0, ?_⟩
    refine z_iload_n E 2 d_Mo_count_48 rfl rfl ?_
    refine z_icmp_ge E d_Mo_count_49 (tgt := 62) (by decide) ⟨fun q => ?_, fun q => ?_⟩
    · replace h := h.1 q
      refine z_iload_n E 2 d_Mo_count_62 rfl rfl ?_
      refine z_istore_n E [1, 2, 0, 3, 4] (lv' := [(0, zf G 32), (1, .int v1), (2, .int v2), (3, .int v3), (4, .int v4)]) d_Mo_count_63 rfl (by decide) rfl ?_
      refine z_aload_n E 0 d_Mo_count_64 rfl rfl ?_
      refine z_getR E f_Mo_16 d_Mo_count_65 ?_
      refine z_iload E 4 d_Mo_count_68 rfl ?_
      obtain ⟨h0, h⟩ := h
      refine z_iald E rfl d_Mo_count_70 ⟨h0, ?_⟩
      refine z_iload_n E 3 d_Mo_count_71 rfl rfl ?_
      refine z_icmp_le E d_Mo_count_72 (tgt := 85) (by decide) ⟨fun q => ?_, fun q => ?_⟩
      · replace h := h.1 q
        refine z_iload_n E 3 d_Mo_count_85 rfl rfl ?_
        refine z_istore_n E [1, 2, 3, 0, 4] (lv' := [(0, zf G 32), (1, .int v1), (2, .int v2), (3, .int v3), (4, .int v4)]) d_Mo_count_86 rfl (by decide) rfl ?_
        refine z_iinc E 4 [1, 2, 3, 4, 0] (v := v4 + 1) (lv' := [(0, zf G 32), (1, .int v1), (2, .int v2), (3, .int v3), (4, .int (v4 + 1))]) d_Mo_count_87 rfl rfl (by decide) rfl ?_
        refine z_goto E d_Mo_count_90 (tgt := 32) (by decide) ?_
        exact h
      · replace h := h.2 q
        refine z_aload_n E 0 d_Mo_count_75 rfl rfl ?_
        refine z_getR E f_Mo_16 d_Mo_count_76 ?_
        refine z_iload E 4 d_Mo_count_79 rfl ?_
        obtain ⟨h0, h⟩ := h
        refine z_iald E rfl d_Mo_count_81 ⟨h0, ?_⟩
        refine z_goto E d_Mo_count_82 (tgt := 86) (by decide) ?_
        refine z_istore_n E [1, 2, 3, 0, 4] (lv' := [(0, zf G 32), (1, .int v1), (2, .int v2), (3, .int (σ 35 v4.toNatClampNeg)), (4, .int v4)]) d_Mo_count_86 rfl (by decide) rfl ?_
        refine z_iinc E 4 [1, 2, 3, 4, 0] (v := v4 + 1) (lv' := [(0, zf G 32), (1, .int v1), (2, .int v2), (3, .int (σ 35 v4.toNatClampNeg)), (4, .int (v4 + 1))]) d_Mo_count_87 rfl rfl (by decide) rfl ?_
        refine z_goto E d_Mo_count_90 (tgt := 32) (by decide) ?_
        exact h
    · replace h := h.2 q
      refine z_aload_n E 0 d_Mo_count_52 rfl rfl ?_
      refine z_getR E f_Mo_16 d_Mo_count_53 ?_
      refine z_iload E 4 d_Mo_count_56 rfl ?_
      obtain ⟨h0, h⟩ := h
      refine z_iald E rfl d_Mo_count_58 ⟨h0, ?_⟩
      refine z_goto E d_Mo_count_59 (tgt := 63) (by decide) ?_
      refine z_istore_n E [1, 2, 0, 3, 4] (lv' := [(0, zf G 32), (1, .int v1), (2, .int (σ 35 v4.toNatClampNeg)), (3, .int v3), (4, .int v4)]) d_Mo_count_63 rfl (by decide) rfl ?_
      refine z_aload_n E 0 d_Mo_count_64 rfl rfl ?_
      refine z_getR E f_Mo_16 d_Mo_count_65 ?_
      refine z_iload E 4 d_Mo_count_68 rfl ?_
      obtain ⟨h0, h⟩ := h
      refine z_iald E rfl d_Mo_count_70 ⟨h0, ?_⟩
      refine z_iload_n E 3 d_Mo_count_71 rfl rfl ?_
      refine z_icmp_le E d_Mo_count_72 (tgt := 85) (by decide) ⟨fun q => ?_, fun q => ?_⟩
      · replace h := h.1 q
        refine z_iload_n E 3 d_Mo_count_85 rfl rfl ?_
        refine z_istore_n E [1, 2, 3, 0, 4] (lv' := [(0, zf G 32), (1, .int v1), (2, .int (σ 35 v4.toNatClampNeg)), (3, .int v3), (4, .int v4)]) d_Mo_count_86 rfl (by decide) rfl ?_
        refine z_iinc E 4 [1, 2, 3, 4, 0] (v := v4 + 1) (lv' := [(0, zf G 32), (1, .int v1), (2, .int (σ 35 v4.toNatClampNeg)), (3, .int v3), (4, .int (v4 + 1))]) d_Mo_count_87 rfl rfl (by decide) rfl ?_
        refine z_goto E d_Mo_count_90 (tgt := 32) (by decide) ?_
        exact h
      · replace h := h.2 q
        refine z_aload_n E 0 d_Mo_count_75 rfl rfl ?_
        refine z_getR E f_Mo_16 d_Mo_count_76 ?_
        refine z_iload E 4 d_Mo_count_79 rfl ?_
        obtain ⟨h0, h⟩ := h
        refine z_iald E rfl d_Mo_count_81 ⟨h0, ?_⟩
        refine z_goto E d_Mo_count_82 (tgt := 86) (by decide) ?_
        refine z_istore_n E [1, 2, 3, 0, 4] (lv' := [(0, zf G 32), (1, .int v1), (2, .int (σ 35 v4.toNatClampNeg)), (3, .int (σ 35 v4.toNatClampNeg)), (4, .int v4)]) d_Mo_count_86 rfl (by decide) rfl ?_
        refine z_iinc E 4 [1, 2, 3, 4, 0] (v := v4 + 1) (lv' := [(0, zf G 32), (1, .int v1), (2, .int (σ 35 v4.toNatClampNeg)), (3, .int (σ 35 v4.toNatClampNeg)), (4, .int (v4 + 1))]) d_Mo_count_87 rfl rfl (by decide) rfl ?_
        refine z_goto E d_Mo_count_90 (tgt := 32) (by decide) ?_
        exact h

