set_option maxRecDepth 20000 in
set_option maxHeartbeats 4000000 in
theorem b_Play_tryOut_0 {G : zG} {X : zX} {post : Option Value → zSt → Prop} (E : zCtx G M_Play_tryOut (zKm G 0 X post) X) (v2 : Int32) (v3 : Int32) (σ : zSt)
    (h : (vp_in v2 12 ∧ (((σ 16 v2.toNatClampNeg) = 0 → zZ G M_Play_tryOut 0 X post 15 [(0, zf G 4), (1, zf G 2), (2, .int v2), (3, .int v3), (4, .int (0 : Int32))] [] σ) ∧ (¬ (σ 16 v2.toNatClampNeg) = 0 → post (some (.int (-2 : Int32))) σ)))) :
    zZ G M_Play_tryOut 0 X post 0 [(0, zf G 4), (1, zf G 2), (2, .int v2), (3, .int v3)] [] σ := by
  refine z_aload_n E 0 d_Play_tryOut_0 rfl rfl ?_
  refine z_getR E f_Play_9 d_Play_tryOut_1 ?_
  refine z_iload_n E 2 d_Play_tryOut_4 rfl rfl ?_
  obtain ⟨h0, h⟩ := h
  refine z_iald E rfl d_Play_tryOut_5 ⟨h0, ?_⟩
  refine z_if_eq E d_Play_tryOut_6 (tgt := 12) (by decide) ⟨fun q => ?_, fun q => ?_⟩
  · replace h := h.1 q
    refine z_iconst E (v := 0) d_Play_tryOut_12 (by decide) ?_
    refine z_istore E [1, 2, 3, 4, 0] (lv' := [(0, zf G 4), (1, zf G 2), (2, .int v2), (3, .int v3), (4, .int (0 : Int32))]) d_Play_tryOut_13 (by decide) rfl ?_
    exact h
  · replace h := h.2 q
    refine z_bipush E (v := -2) d_Play_tryOut_9 (by decide) ?_
    exact z_ireturn E rfl d_Play_tryOut_11 h

set_option maxRecDepth 20000 in
set_option maxHeartbeats 4000000 in
theorem b_Play_tryOut_15 {G : zG} {X : zX} {post : Option Value → zSt → Prop} (E : zCtx G M_Play_tryOut (zKm G 0 X post) X) (v2 : Int32) (v3 : Int32) (v4 : Int32) (σ : zSt)
    (h : (((12 : Int32) ≤ v4 → (vp_in v2 12 ∧ post (some (.int (σ 6 v2.toNatClampNeg))) σ)) ∧ (¬ (12 : Int32) ≤ v4 → (vp_in (v3 + v4) 288 ∧ ((¬ (σ 18 (v3 + v4).toNatClampNeg) = (-1 : Int32) → zZ G M_Play_tryOut 0 X post 15 [(0, zf G 4), (1, zf G 2), (2, .int v2), (3, .int v3), (4, .int (v4 + 1))] [] σ) ∧ ((σ 18 (v3 + v4).toNatClampNeg) = (-1 : Int32) → (vp_in v2 12 ∧ ∀ σ1 : zSt, σ1 = zup σ 16 v2.toNatClampNeg (2 : Int32) → (vp_in v2 12 ∧ ∀ σ2 : zSt, σ2 = zup σ1 17 v2.toNatClampNeg v4 → post (some (.int (-2 : Int32))) σ2)))))))) :
    zZ G M_Play_tryOut 0 X post 15 [(0, zf G 4), (1, zf G 2), (2, .int v2), (3, .int v3), (4, .int v4)] [] σ := by
  refine z_iload E 4 d_Play_tryOut_15 rfl ?_
  refine z_bipush E (v := 12) d_Play_tryOut_17 (by decide) ?_
  refine z_icmp_ge E d_Play_tryOut_19 (tgt := 59) (by decide) ⟨fun q => ?_, fun q => ?_⟩
  · replace h := h.1 q
    refine z_aload_n E 1 d_Play_tryOut_59 rfl rfl ?_
    refine z_getR E f_Play_38 d_Play_tryOut_60 ?_
    refine z_iload_n E 2 d_Play_tryOut_63 rfl rfl ?_
    obtain ⟨h0, h⟩ := h
    refine z_iald E rfl d_Play_tryOut_64 ⟨h0, ?_⟩
    exact z_ireturn E rfl d_Play_tryOut_65 h
  · replace h := h.2 q
    refine z_aload_n E 0 d_Play_tryOut_22 rfl rfl ?_
    refine z_getR E f_Play_18 d_Play_tryOut_23 ?_
    refine z_iload_n E 3 d_Play_tryOut_26 rfl rfl ?_
    refine z_iload E 4 d_Play_tryOut_27 rfl ?_
    refine z_iadd E d_Play_tryOut_29 ?_
    obtain ⟨h0, h⟩ := h
    refine z_iald E rfl d_Play_tryOut_30 ⟨h0, ?_⟩
    refine z_iconst E (v := -1) d_Play_tryOut_31 (by decide) ?_
    refine z_icmp_ne E d_Play_tryOut_32 (tgt := 53) (by decide) ⟨fun q => ?_, fun q => ?_⟩
    · replace h := h.1 q
      refine z_iinc E 4 [1, 2, 3, 4, 0] (v := v4 + 1) (lv' := [(0, zf G 4), (1, zf G 2), (2, .int v2), (3, .int v3), (4, .int (v4 + 1))]) d_Play_tryOut_53 rfl rfl (by decide) rfl ?_
      refine z_goto E d_Play_tryOut_56 (tgt := 15) (by decide) ?_
      exact h
    · replace h := h.2 q
      refine z_aload_n E 0 d_Play_tryOut_35 rfl rfl ?_
      refine z_getR E f_Play_9 d_Play_tryOut_36 ?_
      refine z_iload_n E 2 d_Play_tryOut_39 rfl rfl ?_
      refine z_iconst E (v := 2) d_Play_tryOut_40 (by decide) ?_
      obtain ⟨h0, h⟩ := h
      refine z_iast E rfl d_Play_tryOut_41 ⟨h0, fun σ1 e => ?_⟩
      replace h := h σ1 e
      refine z_aload_n E 0 d_Play_tryOut_42 rfl rfl ?_
      refine z_getR E f_Play_15 d_Play_tryOut_43 ?_
      refine z_iload_n E 2 d_Play_tryOut_46 rfl rfl ?_
      refine z_iload E 4 d_Play_tryOut_47 rfl ?_
      obtain ⟨h0, h⟩ := h
      refine z_iast E rfl d_Play_tryOut_49 ⟨h0, fun σ2 e => ?_⟩
      replace h := h σ2 e
      refine z_bipush E (v := -2) d_Play_tryOut_50 (by decide) ?_
      exact z_ireturn E rfl d_Play_tryOut_52 h

set_option maxRecDepth 20000 in
set_option maxHeartbeats 4000000 in
theorem b_Play_takeLengths_0 {G : zG} {X : zX} {post : Option Value → zSt → Prop} (E : zCtx G M_Play_takeLengths (zKm G 1 X post) X) (v2 : Int32) (v3 : Int32) (σ : zSt)
    (h : (vp_in v2 12 ∧ zZ G M_Play_takeLengths 1 X post 11 [(0, zf G 4), (1, zf G 2), (2, .int v2), (3, .int v3), (4, .int (σ 16 v2.toNatClampNeg)), (5, .int (0 : Int32))] [] σ)) :
    zZ G M_Play_takeLengths 1 X post 0 [(0, zf G 4), (1, zf G 2), (2, .int v2), (3, .int v3)] [] σ := by
  refine z_aload_n E 0 d_Play_takeLengths_0 rfl rfl ?_
  refine z_getR E f_Play_9 d_Play_takeLengths_1 ?_
  refine z_iload_n E 2 d_Play_takeLengths_4 rfl rfl ?_
  obtain ⟨h0, h⟩ := h
  refine z_iald E rfl d_Play_takeLengths_5 ⟨h0, ?_⟩
  refine z_istore E [1, 2, 3, 4, 0] (lv' := [(0, zf G 4), (1, zf G 2), (2, .int v2), (3, .int v3), (4, .int (σ 16 v2.toNatClampNeg))]) d_Play_takeLengths_6 (by decide) rfl ?_
  refine z_iconst E (v := 0) d_Play_takeLengths_8 (by decide) ?_
  refine z_istore E [1, 2, 3, 4, 5, 0] (lv' := [(0, zf G 4), (1, zf G 2), (2, .int v2), (3, .int v3), (4, .int (σ 16 v2.toNatClampNeg)), (5, .int (0 : Int32))]) d_Play_takeLengths_9 (by decide) rfl ?_
  exact h

set_option maxRecDepth 20000 in
set_option maxHeartbeats 4000000 in
theorem b_Play_takeLengths_11 {G : zG} {X : zX} {post : Option Value → zSt → Prop} (E : zCtx G M_Play_takeLengths (zKm G 1 X post) X) (v2 : Int32) (v3 : Int32) (v4 : Int32) (v5 : Int32) (σ : zSt)
    (h : (((12 : Int32) ≤ v5 → (vp_in v2 12 ∧ ((¬ (σ 16 v2.toNatClampNeg) = v4 → (vp_in v2 12 ∧ post (some (.int (σ 16 v2.toNatClampNeg))) σ)) ∧ ((σ 16 v2.toNatClampNeg) = v4 → post (some (.int (-2 : Int32))) σ)))) ∧ (¬ (12 : Int32) ≤ v5 → (vp_in (v3 + v5) 288 ∧ (vp_in (v2 * 12 + v5) 144 ∧ (vp_in v2 12 ∧ (((σ 16 v2.toNatClampNeg) = (-2 : Int32) → zZ G M_Play_takeLengths 1 X post 70 [(0, zf G 4), (1, zf G 2), (2, .int v2), (3, .int v3), (4, .int v4), (5, .int v5), (6, .int ((σ 18 (v3 + v5).toNatClampNeg) + (σ 8 (v2 * 12 + v5).toNatClampNeg))), (7, .int (1 : Int32))] [] σ) ∧ (¬ (σ 16 v2.toNatClampNeg) = (-2 : Int32) → (vp_in v2 12 ∧ (((σ 16 v2.toNatClampNeg) ≤ ((σ 18 (v3 + v5).toNatClampNeg) + (σ 8 (v2 * 12 + v5).toNatClampNeg)) → zZ G M_Play_takeLengths 1 X post 70 [(0, zf G 4), (1, zf G 2), (2, .int v2), (3, .int v3), (4, .int v4), (5, .int v5), (6, .int ((σ 18 (v3 + v5).toNatClampNeg) + (σ 8 (v2 * 12 + v5).toNatClampNeg))), (7, .int (0 : Int32))] [] σ) ∧ (¬ (σ 16 v2.toNatClampNeg) ≤ ((σ 18 (v3 + v5).toNatClampNeg) + (σ 8 (v2 * 12 + v5).toNatClampNeg)) → zZ G M_Play_takeLengths 1 X post 70 [(0, zf G 4), (1, zf G 2), (2, .int v2), (3, .int v3), (4, .int v4), (5, .int v5), (6, .int ((σ 18 (v3 + v5).toNatClampNeg) + (σ 8 (v2 * 12 + v5).toNatClampNeg))), (7, .int (1 : Int32))] [] σ))))))))))) :
    zZ G M_Play_takeLengths 1 X post 11 [(0, zf G 4), (1, zf G 2), (2, .int v2), (3, .int v3), (4, .int v4), (5, .int v5)] [] σ := by
  refine z_iload E 5 d_Play_takeLengths_11 rfl ?_
  refine z_bipush E (v := 12) d_Play_takeLengths_13 (by decide) ?_
  refine z_icmp_ge E d_Play_takeLengths_15 (tgt := 111) (by decide) ⟨fun q => ?_, fun q => ?_⟩
  · replace h := h.1 q
    refine z_aload_n E 0 d_Play_takeLengths_111 rfl rfl ?_
    refine z_getR E f_Play_9 d_Play_takeLengths_112 ?_
    refine z_iload_n E 2 d_Play_takeLengths_115 rfl rfl ?_
    obtain ⟨h0, h⟩ := h
    refine z_iald E rfl d_Play_takeLengths_116 ⟨h0, ?_⟩
    refine z_iload E 4 d_Play_takeLengths_117 rfl ?_
    refine z_icmp_ne E d_Play_takeLengths_119 (tgt := 127) (by decide) ⟨fun q => ?_, fun q => ?_⟩
    · replace h := h.1 q
      refine z_aload_n E 0 d_Play_takeLengths_127 rfl rfl ?_
      refine z_getR E f_Play_9 d_Play_takeLengths_128 ?_
      refine z_iload_n E 2 d_Play_takeLengths_131 rfl rfl ?_
      obtain ⟨h0, h⟩ := h
      refine z_iald E rfl d_Play_takeLengths_132 ⟨h0, ?_⟩
      exact z_ireturn E rfl d_Play_takeLengths_133 h
    · replace h := h.2 q
      refine z_bipush E (v := -2) d_Play_takeLengths_122 (by decide) ?_
      refine z_goto E d_Play_takeLengths_124 (tgt := 133) (by decide) ?_
      exact z_ireturn E rfl d_Play_takeLengths_133 h
  · replace h := h.2 q
    refine z_aload_n E 0 d_Play_takeLengths_18 rfl rfl ?_
    refine z_getR E f_Play_18 d_Play_takeLengths_19 ?_
    refine z_iload_n E 3 d_Play_takeLengths_22 rfl rfl ?_
    refine z_iload E 5 d_Play_takeLengths_23 rfl ?_
    refine z_iadd E d_Play_takeLengths_25 ?_
    obtain ⟨h0, h⟩ := h
    refine z_iald E rfl d_Play_takeLengths_26 ⟨h0, ?_⟩
    refine z_aload_n E 1 d_Play_takeLengths_27 rfl rfl ?_
    refine z_getR E f_Play_70 d_Play_takeLengths_28 ?_
    refine z_iload_n E 2 d_Play_takeLengths_31 rfl rfl ?_
    refine z_iload E 5 d_Play_takeLengths_32 rfl ?_
    refine z_callSIp [.int v2, .int v5] [zf G 8, .int (σ 18 (v3 + v5).toNatClampNeg)] E (p_P_at G σ v2 v5) c_Play_73 st_P_at rfl zrm rfl (Nat.le_of_ble_eq_true rfl) d_Play_takeLengths_34 ?_
    obtain ⟨h0, h⟩ := h
    refine z_iald E rfl d_Play_takeLengths_37 ⟨h0, ?_⟩
    refine z_iadd E d_Play_takeLengths_38 ?_
    refine z_istore E [1, 2, 3, 4, 5, 6, 0] (lv' := [(0, zf G 4), (1, zf G 2), (2, .int v2), (3, .int v3), (4, .int v4), (5, .int v5), (6, .int ((σ 18 (v3 + v5).toNatClampNeg) + (σ 8 (v2 * 12 + v5).toNatClampNeg)))]) d_Play_takeLengths_39 (by decide) rfl ?_
    refine z_aload_n E 0 d_Play_takeLengths_41 rfl rfl ?_
    refine z_getR E f_Play_9 d_Play_takeLengths_42 ?_
    refine z_iload_n E 2 d_Play_takeLengths_45 rfl rfl ?_
    obtain ⟨h0, h⟩ := h
    refine z_iald E rfl d_Play_takeLengths_46 ⟨h0, ?_⟩
    refine z_bipush E (v := -2) d_Play_takeLengths_47 (by decide) ?_
    refine z_icmp_eq E d_Play_takeLengths_49 (tgt := 63) (by decide) ⟨fun q => ?_, fun q => ?_⟩
    · replace h := h.1 q
      refine z_iconst E (v := 1) d_Play_takeLengths_63 (by decide) ?_
      refine z_goto E d_Play_takeLengths_64 (tgt := 68) (by decide) ?_
      refine z_istore E [1, 2, 3, 4, 5, 6, 7, 0] (lv' := [(0, zf G 4), (1, zf G 2), (2, .int v2), (3, .int v3), (4, .int v4), (5, .int v5), (6, .int ((σ 18 (v3 + v5).toNatClampNeg) + (σ 8 (v2 * 12 + v5).toNatClampNeg))), (7, .int (1 : Int32))]) d_Play_takeLengths_68 (by decide) rfl ?_
      exact h
    · replace h := h.2 q
      refine z_iload E 6 d_Play_takeLengths_52 rfl ?_
      refine z_aload_n E 0 d_Play_takeLengths_54 rfl rfl ?_
      refine z_getR E f_Play_9 d_Play_takeLengths_55 ?_
      refine z_iload_n E 2 d_Play_takeLengths_58 rfl rfl ?_
      obtain ⟨h0, h⟩ := h
      refine z_iald E rfl d_Play_takeLengths_59 ⟨h0, ?_⟩
      refine z_icmp_ge E d_Play_takeLengths_60 (tgt := 67) (by decide) ⟨fun q => ?_, fun q => ?_⟩
      · replace h := h.1 q
        refine z_iconst E (v := 0) d_Play_takeLengths_67 (by decide) ?_
        refine z_istore E [1, 2, 3, 4, 5, 6, 7, 0] (lv' := [(0, zf G 4), (1, zf G 2), (2, .int v2), (3, .int v3), (4, .int v4), (5, .int v5), (6, .int ((σ 18 (v3 + v5).toNatClampNeg) + (σ 8 (v2 * 12 + v5).toNatClampNeg))), (7, .int (0 : Int32))]) d_Play_takeLengths_68 (by decide) rfl ?_
        exact h
      · replace h := h.2 q
        refine z_iconst E (v := 1) d_Play_takeLengths_63 (by decide) ?_
        refine z_goto E d_Play_takeLengths_64 (tgt := 68) (by decide) ?_
        refine z_istore E [1, 2, 3, 4, 5, 6, 7, 0] (lv' := [(0, zf G 4), (1, zf G 2), (2, .int v2), (3, .int v3), (4, .int v4), (5, .int v5), (6, .int ((σ 18 (v3 + v5).toNatClampNeg) + (σ 8 (v2 * 12 + v5).toNatClampNeg))), (7, .int (1 : Int32))]) d_Play_takeLengths_68 (by decide) rfl ?_
        exact h

set_option maxRecDepth 20000 in
set_option maxHeartbeats 4000000 in
theorem b_Play_takeLengths_70 {G : zG} {X : zX} {post : Option Value → zSt → Prop} (E : zCtx G M_Play_takeLengths (zKm G 1 X post) X) (v2 : Int32) (v3 : Int32) (v4 : Int32) (v5 : Int32) (v6 : Int32) (v7 : Int32) (σ : zSt)
    (h : (vp_in (v3 + v5) 288 ∧ (((σ 18 (v3 + v5).toNatClampNeg) = (-2 : Int32) → zZ G M_Play_takeLengths 1 X post 11 [(0, zf G 4), (1, zf G 2), (2, .int v2), (3, .int v3), (4, .int v4), (5, .int (v5 + 1))] [] σ) ∧ (¬ (σ 18 (v3 + v5).toNatClampNeg) = (-2 : Int32) → ((v7 = 0 → zZ G M_Play_takeLengths 1 X post 11 [(0, zf G 4), (1, zf G 2), (2, .int v2), (3, .int v3), (4, .int v4), (5, .int (v5 + 1))] [] σ) ∧ (¬ v7 = 0 → (vp_in v2 12 ∧ ∀ σ1 : zSt, σ1 = zup σ 16 v2.toNatClampNeg v6 → (vp_in v2 12 ∧ ∀ σ2 : zSt, σ2 = zup σ1 17 v2.toNatClampNeg v5 → zZ G M_Play_takeLengths 1 X post 11 [(0, zf G 4), (1, zf G 2), (2, .int v2), (3, .int v3), (4, .int v4), (5, .int (v5 + 1))] [] σ2)))))))) :
    zZ G M_Play_takeLengths 1 X post 70 [(0, zf G 4), (1, zf G 2), (2, .int v2), (3, .int v3), (4, .int v4), (5, .int v5), (6, .int v6), (7, .int v7)] [] σ := by
  refine z_aload_n E 0 d_Play_takeLengths_70 rfl rfl ?_
  refine z_getR E f_Play_18 d_Play_takeLengths_71 ?_
  refine z_iload_n E 3 d_Play_takeLengths_74 rfl rfl ?_
  refine z_iload E 5 d_Play_takeLengths_75 rfl ?_
  refine z_iadd E d_Play_takeLengths_77 ?_
  obtain ⟨h0, h⟩ := h
  refine z_iald E rfl d_Play_takeLengths_78 ⟨h0, ?_⟩
  refine z_bipush E (v := -2) d_Play_takeLengths_79 (by decide) ?_
  refine z_icmp_eq E d_Play_takeLengths_81 (tgt := 105) (by decide) ⟨fun q => ?_, fun q => ?_⟩
  · replace h := h.1 q
    refine z_iinc E 5 [1, 2, 3, 4, 5, 0, 6, 7] (v := v5 + 1) (lv' := [(0, zf G 4), (1, zf G 2), (2, .int v2), (3, .int v3), (4, .int v4), (5, .int (v5 + 1)), (6, .int v6), (7, .int v7)]) d_Play_takeLengths_105 rfl rfl (by decide) rfl ?_
    refine z_goto E d_Play_takeLengths_108 (tgt := 11) (by decide) ?_
    refine zZ.sub [0, 1, 2, 3, 4, 5] (lv' := [(0, zf G 4), (1, zf G 2), (2, .int v2), (3, .int v3), (4, .int v4), (5, .int (v5 + 1))]) rfl ?_
    exact h
  · replace h := h.2 q
    refine z_iload E 7 d_Play_takeLengths_84 rfl ?_
    refine z_if_eq E d_Play_takeLengths_86 (tgt := 105) (by decide) ⟨fun q => ?_, fun q => ?_⟩
    · replace h := h.1 q
      refine z_iinc E 5 [1, 2, 3, 4, 5, 0, 6, 7] (v := v5 + 1) (lv' := [(0, zf G 4), (1, zf G 2), (2, .int v2), (3, .int v3), (4, .int v4), (5, .int (v5 + 1)), (6, .int v6), (7, .int v7)]) d_Play_takeLengths_105 rfl rfl (by decide) rfl ?_
      refine z_goto E d_Play_takeLengths_108 (tgt := 11) (by decide) ?_
      refine zZ.sub [0, 1, 2, 3, 4, 5] (lv' := [(0, zf G 4), (1, zf G 2), (2, .int v2), (3, .int v3), (4, .int v4), (5, .int (v5 + 1))]) rfl ?_
      exact h
    · replace h := h.2 q
      refine z_aload_n E 0 d_Play_takeLengths_89 rfl rfl ?_
      refine z_getR E f_Play_9 d_Play_takeLengths_90 ?_
      refine z_iload_n E 2 d_Play_takeLengths_93 rfl rfl ?_
      refine z_iload E 6 d_Play_takeLengths_94 rfl ?_
      obtain ⟨h0, h⟩ := h
      refine z_iast E rfl d_Play_takeLengths_96 ⟨h0, fun σ1 e => ?_⟩
      replace h := h σ1 e
      refine z_aload_n E 0 d_Play_takeLengths_97 rfl rfl ?_
      refine z_getR E f_Play_15 d_Play_takeLengths_98 ?_
      refine z_iload_n E 2 d_Play_takeLengths_101 rfl rfl ?_
      refine z_iload E 5 d_Play_takeLengths_102 rfl ?_
      obtain ⟨h0, h⟩ := h
      refine z_iast E rfl d_Play_takeLengths_104 ⟨h0, fun σ2 e => ?_⟩
      replace h := h σ2 e
      refine z_iinc E 5 [1, 2, 3, 4, 5, 0, 6, 7] (v := v5 + 1) (lv' := [(0, zf G 4), (1, zf G 2), (2, .int v2), (3, .int v3), (4, .int v4), (5, .int (v5 + 1)), (6, .int v6), (7, .int v7)]) d_Play_takeLengths_105 rfl rfl (by decide) rfl ?_
      refine z_goto E d_Play_takeLengths_108 (tgt := 11) (by decide) ?_
      refine zZ.sub [0, 1, 2, 3, 4, 5] (lv' := [(0, zf G 4), (1, zf G 2), (2, .int v2), (3, .int v3), (4, .int v4), (5, .int (v5 + 1))]) rfl ?_
      exact h

set_option maxRecDepth 20000 in
set_option maxHeartbeats 4000000 in
theorem b_Pool_add_0 {G : zG} {X : zX} {post : Option Value → zSt → Prop} (E : zCtx G M_Pool_add (zKm G 0 X post) X) (v1 : Int32) (v2 : Int32) (v3 : Int32) (v4 : Int32) (v5 : Int32) (σ : zSt)
    (h : (((σ 5 0) < (528 : Int32) → (vp_in (σ 5 0) 528 ∧ ∀ σ1 : zSt, σ1 = zup σ 19 (σ 5 0).toNatClampNeg v1 → (vp_in (σ1 5 0) 528 ∧ ∀ σ2 : zSt, σ2 = zup σ1 20 (σ1 5 0).toNatClampNeg v2 → (vp_in (σ2 5 0) 528 ∧ ∀ σ3 : zSt, σ3 = zup σ2 21 (σ2 5 0).toNatClampNeg v3 → (vp_in (σ3 5 0) 528 ∧ ∀ σ4 : zSt, σ4 = zup σ3 22 (σ3 5 0).toNatClampNeg v4 → (vp_in (σ4 5 0) 528 ∧ ∀ σ5 : zSt, σ5 = zup σ4 23 (σ4 5 0).toNatClampNeg v5 → (∀ σ6 : zSt, σ6 = zup σ5 5 0 ((σ5 5 0) + (1 : Int32)) → post none σ6))))))) ∧ (¬ (σ 5 0) < (528 : Int32) → post none σ))) :
    zZ G M_Pool_add 0 X post 0 [(0, zf G 5), (1, .int v1), (2, .int v2), (3, .int v3), (4, .int v4), (5, .int v5)] [] σ := by
  refine z_aload_n E 0 d_Pool_add_0 rfl rfl ?_
  refine z_getI E f_Pool_27 d_Pool_add_1 ?_
  refine z_sipush E (v := 528) d_Pool_add_4 (by decide) ?_
  refine z_icmp_lt E d_Pool_add_7 (tgt := 11) (by decide) ⟨fun q => ?_, fun q => ?_⟩
  · replace h := h.1 q
    refine z_aload_n E 0 d_Pool_add_11 rfl rfl ?_
    refine z_getR E f_Pool_11 d_Pool_add_12 ?_
    refine z_aload_n E 0 d_Pool_add_15 rfl rfl ?_
    refine z_getI E f_Pool_27 d_Pool_add_16 ?_
    refine z_iload_n E 1 d_Pool_add_19 rfl rfl ?_
    obtain ⟨h0, h⟩ := h
    refine z_iast E rfl d_Pool_add_20 ⟨h0, fun σ1 e => ?_⟩
    replace h := h σ1 e
    refine z_aload_n E 0 d_Pool_add_21 rfl rfl ?_
    refine z_getR E f_Pool_15 d_Pool_add_22 ?_
    refine z_aload_n E 0 d_Pool_add_25 rfl rfl ?_
    refine z_getI E f_Pool_27 d_Pool_add_26 ?_
    refine z_iload_n E 2 d_Pool_add_29 rfl rfl ?_
    obtain ⟨h0, h⟩ := h
    refine z_iast E rfl d_Pool_add_30 ⟨h0, fun σ2 e => ?_⟩
    replace h := h σ2 e
    refine z_aload_n E 0 d_Pool_add_31 rfl rfl ?_
    refine z_getR E f_Pool_18 d_Pool_add_32 ?_
    refine z_aload_n E 0 d_Pool_add_35 rfl rfl ?_
    refine z_getI E f_Pool_27 d_Pool_add_36 ?_
    refine z_iload_n E 3 d_Pool_add_39 rfl rfl ?_
    obtain ⟨h0, h⟩ := h
    refine z_iast E rfl d_Pool_add_40 ⟨h0, fun σ3 e => ?_⟩
    replace h := h σ3 e
    refine z_aload_n E 0 d_Pool_add_41 rfl rfl ?_
    refine z_getR E f_Pool_21 d_Pool_add_42 ?_
    refine z_aload_n E 0 d_Pool_add_45 rfl rfl ?_
    refine z_getI E f_Pool_27 d_Pool_add_46 ?_
    refine z_iload E 4 d_Pool_add_49 rfl ?_
    obtain ⟨h0, h⟩ := h
    refine z_iast E rfl d_Pool_add_51 ⟨h0, fun σ4 e => ?_⟩
    replace h := h σ4 e
    refine z_aload_n E 0 d_Pool_add_52 rfl rfl ?_
    refine z_getR E f_Pool_24 d_Pool_add_53 ?_
    refine z_aload_n E 0 d_Pool_add_56 rfl rfl ?_
    refine z_getI E f_Pool_27 d_Pool_add_57 ?_
    refine z_iload E 5 d_Pool_add_60 rfl ?_
    obtain ⟨h0, h⟩ := h
    refine z_iast E rfl d_Pool_add_62 ⟨h0, fun σ5 e => ?_⟩
    replace h := h σ5 e
    refine z_aload_n E 0 d_Pool_add_63 rfl rfl ?_
    refine z_dup E d_Pool_add_64 rfl ?_
    refine z_getI E f_Pool_27 d_Pool_add_65 ?_
    refine z_iconst E (v := 1) d_Pool_add_68 (by decide) ?_
    refine z_iadd E d_Pool_add_69 ?_
    refine z_putI E w_Pool_27 d_Pool_add_70 (fun σ6 e => ?_)
    replace h := h σ6 e
    exact z_return E rfl d_Pool_add_73 h
  · replace h := h.2 q
    exact z_return E rfl d_Pool_add_10 h

set_option maxRecDepth 20000 in
set_option maxHeartbeats 4000000 in
theorem b_Pool_remove_0 {G : zG} {X : zX} {post : Option Value → zSt → Prop} (E : zCtx G M_Pool_remove (zKm G 2 X post) X) (v1 : Int32) (σ : zSt)
    (h : ((v1 < 0 → post none σ) ∧ (¬ v1 < 0 → ((v1 < (σ 5 0) → (∀ σ1 : zSt, σ1 = zup σ 5 0 ((σ 5 0) - (1 : Int32)) → (∃ P : zSt → Prop, zV G 1 M_Pool_closeGap [zf G 5, zf G 19, .int v1] σ1 P ∧ ∀ σ2 : zSt, P σ2 → (∃ P : zSt → Prop, zV G 1 M_Pool_closeGap [zf G 5, zf G 20, .int v1] σ2 P ∧ ∀ σ3 : zSt, P σ3 → (∃ P : zSt → Prop, zV G 1 M_Pool_closeGap [zf G 5, zf G 21, .int v1] σ3 P ∧ ∀ σ4 : zSt, P σ4 → (∃ P : zSt → Prop, zV G 1 M_Pool_closeGap [zf G 5, zf G 22, .int v1] σ4 P ∧ ∀ σ5 : zSt, P σ5 → (∃ P : zSt → Prop, zV G 1 M_Pool_closeGap [zf G 5, zf G 23, .int v1] σ5 P ∧ ∀ σ6 : zSt, P σ6 → post none σ6))))))) ∧ (¬ v1 < (σ 5 0) → post none σ))))) :
    zZ G M_Pool_remove 2 X post 0 [(0, zf G 5), (1, .int v1)] [] σ := by
  refine z_iload_n E 1 d_Pool_remove_0 rfl rfl ?_
  refine z_if_lt E d_Pool_remove_1 (tgt := 12) (by decide) ⟨fun q => ?_, fun q => ?_⟩
  · replace h := h.1 q
    exact z_return E rfl d_Pool_remove_12 h
  · replace h := h.2 q
    refine z_iload_n E 1 d_Pool_remove_4 rfl rfl ?_
    refine z_aload_n E 0 d_Pool_remove_5 rfl rfl ?_
    refine z_getI E f_Pool_27 d_Pool_remove_6 ?_
    refine z_icmp_lt E d_Pool_remove_9 (tgt := 13) (by decide) ⟨fun q => ?_, fun q => ?_⟩
    · replace h := h.1 q
      refine z_aload_n E 0 d_Pool_remove_13 rfl rfl ?_
      refine z_dup E d_Pool_remove_14 rfl ?_
      refine z_getI E f_Pool_27 d_Pool_remove_15 ?_
      refine z_iconst E (v := 1) d_Pool_remove_18 (by decide) ?_
      refine z_isub E d_Pool_remove_19 ?_
      refine z_putI E w_Pool_27 d_Pool_remove_20 (fun σ1 e => ?_)
      replace h := h σ1 e
      refine z_aload_n E 0 d_Pool_remove_23 rfl rfl ?_
      refine z_aload_n E 0 d_Pool_remove_24 rfl rfl ?_
      refine z_getR E f_Pool_11 d_Pool_remove_25 ?_
      refine z_iload_n E 1 d_Pool_remove_28 rfl rfl ?_
      obtain ⟨P, hM, h⟩ := h
      refine z_callVV [zf G 19, .int v1] [] E hM c_Pool_31 r_Pool_closeGap rfl zrm rfl (Nat.le_of_ble_eq_true rfl) d_Pool_remove_29 (fun σ2 hp => ?_)
      replace h := h σ2 hp
      refine z_aload_n E 0 d_Pool_remove_32 rfl rfl ?_
      refine z_aload_n E 0 d_Pool_remove_33 rfl rfl ?_
      refine z_getR E f_Pool_15 d_Pool_remove_34 ?_
      refine z_iload_n E 1 d_Pool_remove_37 rfl rfl ?_
      obtain ⟨P, hM, h⟩ := h
      refine z_callVV [zf G 20, .int v1] [] E hM c_Pool_31 r_Pool_closeGap rfl zrm rfl (Nat.le_of_ble_eq_true rfl) d_Pool_remove_38 (fun σ3 hp => ?_)
      replace h := h σ3 hp
      refine z_aload_n E 0 d_Pool_remove_41 rfl rfl ?_
      refine z_aload_n E 0 d_Pool_remove_42 rfl rfl ?_
      refine z_getR E f_Pool_18 d_Pool_remove_43 ?_
      refine z_iload_n E 1 d_Pool_remove_46 rfl rfl ?_
      obtain ⟨P, hM, h⟩ := h
      refine z_callVV [zf G 21, .int v1] [] E hM c_Pool_31 r_Pool_closeGap rfl zrm rfl (Nat.le_of_ble_eq_true rfl) d_Pool_remove_47 (fun σ4 hp => ?_)
      replace h := h σ4 hp
      refine z_aload_n E 0 d_Pool_remove_50 rfl rfl ?_
      refine z_aload_n E 0 d_Pool_remove_51 rfl rfl ?_
      refine z_getR E f_Pool_21 d_Pool_remove_52 ?_
      refine z_iload_n E 1 d_Pool_remove_55 rfl rfl ?_
      obtain ⟨P, hM, h⟩ := h
      refine z_callVV [zf G 22, .int v1] [] E hM c_Pool_31 r_Pool_closeGap rfl zrm rfl (Nat.le_of_ble_eq_true rfl) d_Pool_remove_56 (fun σ5 hp => ?_)
      replace h := h σ5 hp
      refine z_aload_n E 0 d_Pool_remove_59 rfl rfl ?_
      refine z_aload_n E 0 d_Pool_remove_60 rfl rfl ?_
      refine z_getR E f_Pool_24 d_Pool_remove_61 ?_
      refine z_iload_n E 1 d_Pool_remove_64 rfl rfl ?_
      obtain ⟨P, hM, h⟩ := h
      refine z_callVV [zf G 23, .int v1] [] E hM c_Pool_31 r_Pool_closeGap rfl zrm rfl (Nat.le_of_ble_eq_true rfl) d_Pool_remove_65 (fun σ6 hp => ?_)
      replace h := h σ6 hp
      exact z_return E rfl d_Pool_remove_68 h
    · replace h := h.2 q
      exact z_return E rfl d_Pool_remove_12 h

set_option maxRecDepth 20000 in
set_option maxHeartbeats 4000000 in
theorem b_Pool_closeGap_0 {G : zG} {X : zX} {post : Option Value → zSt → Prop} (E : zCtx G M_Pool_closeGap (zKm G 1 X post) X) (v2 : Int32) (ck : Nat) (hck : zS[ck]? = some (.inl (.int, 528))) (σ : zSt)
    (h : ((¬ (v2 + (1 : Int32)) < 0 ∧ ¬ v2 < 0 ∧ ¬ ((σ 5 0) - v2) < 0 ∧ (v2 + (1 : Int32)).toNatClampNeg + ((σ 5 0) - v2).toNatClampNeg ≤ 528 ∧ v2.toNatClampNeg + ((σ 5 0) - v2).toNatClampNeg ≤ 528) ∧ ∀ σ1 : zSt, σ1 = zcpy σ ck (v2 + (1 : Int32)).toNatClampNeg v2.toNatClampNeg ((σ 5 0) - v2).toNatClampNeg → post none σ1)) :
    zZ G M_Pool_closeGap 1 X post 0 [(0, zf G 5), (1, zf G ck), (2, .int v2)] [] σ := by
  refine z_aload_n E 1 d_Pool_closeGap_0 rfl rfl ?_
  refine z_iload_n E 2 d_Pool_closeGap_1 rfl rfl ?_
  refine z_iconst E (v := 1) d_Pool_closeGap_2 (by decide) ?_
  refine z_iadd E d_Pool_closeGap_3 ?_
  refine z_aload_n E 1 d_Pool_closeGap_4 rfl rfl ?_
  refine z_iload_n E 2 d_Pool_closeGap_5 rfl rfl ?_
  refine z_aload_n E 0 d_Pool_closeGap_6 rfl rfl ?_
  refine z_getI E f_Pool_27 d_Pool_closeGap_7 ?_
  refine z_iload_n E 2 d_Pool_closeGap_10 rfl rfl ?_
  refine z_isub E d_Pool_closeGap_11 ?_
  obtain ⟨h0, h⟩ := h
  refine z_copy E m_Pool_35 hck zrm1 d_Pool_closeGap_12 ⟨h0, fun σ1 e => ?_⟩
  replace h := h σ1 e
  exact z_return E rfl d_Pool_closeGap_15 h

set_option maxRecDepth 20000 in
set_option maxHeartbeats 4000000 in
theorem b_P_begin_0 {G : zG} {X : zX} {post : Option Value → zSt → Prop} (E : zCtx G M_P_begin (zKm G 2 X post) X) (v1 : Int32) (σ : zSt)
    (h : ((v1 < (1 : Int32) → post (some (.int (-1 : Int32))) σ) ∧ (¬ v1 < (1 : Int32) → ((v1 ≤ (12 : Int32) → (∃ P : zSt → Prop, zV G 1 M_Net_clear [zf G 2, .int v1] σ P ∧ ∀ σ1 : zSt, P σ1 → (∀ σ2 : zSt, σ2 = zup σ1 0 1 (0 : Int32) → post (some (.int (0 : Int32))) σ2))) ∧ (¬ v1 ≤ (12 : Int32) → post (some (.int (-1 : Int32))) σ))))) :
    zZ G M_P_begin 2 X post 0 [(0, zf G 0), (1, .int v1)] [] σ := by
  refine z_iload_n E 1 d_P_begin_0 rfl rfl ?_
  refine z_iconst E (v := 1) d_P_begin_1 (by decide) ?_
  refine z_icmp_lt E d_P_begin_2 (tgt := 11) (by decide) ⟨fun q => ?_, fun q => ?_⟩
  · replace h := h.1 q
    refine z_iconst E (v := -1) d_P_begin_11 (by decide) ?_
    exact z_ireturn E rfl d_P_begin_12 h
  · replace h := h.2 q
    refine z_iload_n E 1 d_P_begin_5 rfl rfl ?_
    refine z_bipush E (v := 12) d_P_begin_6 (by decide) ?_
    refine z_icmp_le E d_P_begin_8 (tgt := 13) (by decide) ⟨fun q => ?_, fun q => ?_⟩
    · replace h := h.1 q
      refine z_aload_n E 0 d_P_begin_13 rfl rfl ?_
      refine z_getR E f_P_10 d_P_begin_14 ?_
      refine z_getR E f_P_16 d_P_begin_17 ?_
      refine z_iload_n E 1 d_P_begin_20 rfl rfl ?_
      obtain ⟨P, hM, h⟩ := h
      refine z_callVV [.int v1] [] E hM c_P_20 r_Net_clear rfl zrm rfl (Nat.le_of_ble_eq_true rfl) d_P_begin_21 (fun σ1 hp => ?_)
      replace h := h σ1 hp
      refine z_aload_n E 0 d_P_begin_24 rfl rfl ?_
      refine z_iconst E (v := 0) d_P_begin_25 (by decide) ?_
      refine z_putZ E w_P_26 ⟨rfl, rfl⟩ d_P_begin_26 (fun σ2 e => ?_)
      replace h := h σ2 e
      refine z_iconst E (v := 0) d_P_begin_29 (by decide) ?_
      exact z_ireturn E rfl d_P_begin_30 h
    · replace h := h.2 q
      refine z_iconst E (v := -1) d_P_begin_11 (by decide) ?_
      exact z_ireturn E rfl d_P_begin_12 h

set_option maxRecDepth 20000 in
set_option maxHeartbeats 4000000 in
theorem b_P_link_0 {G : zG} {X : zX} {post : Option Value → zSt → Prop} (E : zCtx G M_P_link (zKm G 2 X post) X) (v1 : Int32) (v2 : Int32) (v3 : Int32) (σ : zSt)
    (h : (((zHas σ v1) = false → post (some (.int (-1 : Int32))) σ) ∧ ((zHas σ v1) = true → (((zHas σ v2) = false → post (some (.int (-1 : Int32))) σ) ∧ ((zHas σ v2) = true → ((v1 = v2 → post (some (.int (-1 : Int32))) σ) ∧ (¬ v1 = v2 → ((v3 < (1 : Int32) → post (some (.int (-1 : Int32))) σ) ∧ (¬ v3 < (1 : Int32) → ((v3 ≤ (9 : Int32) → (∃ P : zSt → Prop, zV G 1 M_Net_join [zf G 2, .int v1, .int v2, .int v3] σ P ∧ ∀ σ1 : zSt, P σ1 → (∀ σ2 : zSt, σ2 = zup σ1 0 1 (0 : Int32) → post (some (.int (σ2 2 1))) σ2))) ∧ (¬ v3 ≤ (9 : Int32) → post (some (.int (-1 : Int32))) σ))))))))))) :
    zZ G M_P_link 2 X post 0 [(0, zf G 0), (1, .int v1), (2, .int v2), (3, .int v3)] [] σ := by
  refine z_aload_n E 0 d_P_link_0 rfl rfl ?_
  refine z_getR E f_P_10 d_P_link_1 ?_
  refine z_getR E f_P_16 d_P_link_4 ?_
  refine z_astore E [1, 2, 3, 4, 0] (lv' := [(0, zf G 0), (1, .int v1), (2, .int v2), (3, .int v3), (4, zf G 2)]) d_P_link_7 (by decide) rfl ?_
  refine z_aload E 4 d_P_link_9 rfl ?_
  refine z_iload_n E 1 d_P_link_11 rfl rfl ?_
  refine z_callVBp [.int v1] [] E (p_Net_hasNode G σ v1) c_P_30 r_Net_hasNode rfl zrm rfl (Nat.le_of_ble_eq_true rfl) d_P_link_12 ?_
  refine z_ifz_eq E d_P_link_15 (tgt := 43) (by decide) ⟨fun q => ?_, fun q => ?_⟩
  · replace h := h.1 q
    refine z_iconst E (v := -1) d_P_link_43 (by decide) ?_
    exact z_ireturn E rfl d_P_link_44 h
  · replace h := h.2 q
    refine z_aload E 4 d_P_link_18 rfl ?_
    refine z_iload_n E 2 d_P_link_20 rfl rfl ?_
    refine z_callVBp [.int v2] [] E (p_Net_hasNode G σ v2) c_P_30 r_Net_hasNode rfl zrm rfl (Nat.le_of_ble_eq_true rfl) d_P_link_21 ?_
    refine z_ifz_eq E d_P_link_24 (tgt := 43) (by decide) ⟨fun q => ?_, fun q => ?_⟩
    · replace h := h.1 q
      refine z_iconst E (v := -1) d_P_link_43 (by decide) ?_
      exact z_ireturn E rfl d_P_link_44 h
    · replace h := h.2 q
      refine z_iload_n E 1 d_P_link_27 rfl rfl ?_
      refine z_iload_n E 2 d_P_link_28 rfl rfl ?_
      refine z_icmp_eq E d_P_link_29 (tgt := 43) (by decide) ⟨fun q => ?_, fun q => ?_⟩
      · replace h := h.1 q
        refine z_iconst E (v := -1) d_P_link_43 (by decide) ?_
        exact z_ireturn E rfl d_P_link_44 h
      · replace h := h.2 q
        refine z_iload_n E 3 d_P_link_32 rfl rfl ?_
        refine z_iconst E (v := 1) d_P_link_33 (by decide) ?_
        refine z_icmp_lt E d_P_link_34 (tgt := 43) (by decide) ⟨fun q => ?_, fun q => ?_⟩
        · replace h := h.1 q
          refine z_iconst E (v := -1) d_P_link_43 (by decide) ?_
          exact z_ireturn E rfl d_P_link_44 h
        · replace h := h.2 q
          refine z_iload_n E 3 d_P_link_37 rfl rfl ?_
          refine z_bipush E (v := 9) d_P_link_38 (by decide) ?_
          refine z_icmp_le E d_P_link_40 (tgt := 45) (by decide) ⟨fun q => ?_, fun q => ?_⟩
          · replace h := h.1 q
            refine z_aload E 4 d_P_link_45 rfl ?_
            refine z_iload_n E 1 d_P_link_47 rfl rfl ?_
            refine z_iload_n E 2 d_P_link_48 rfl rfl ?_
            refine z_iload_n E 3 d_P_link_49 rfl rfl ?_
            obtain ⟨P, hM, h⟩ := h
            refine z_callVV [.int v1, .int v2, .int v3] [] E hM c_P_34 r_Net_join rfl zrm rfl (Nat.le_of_ble_eq_true rfl) d_P_link_50 (fun σ1 hp => ?_)
            replace h := h σ1 hp
            refine z_aload_n E 0 d_P_link_53 rfl rfl ?_
            refine z_iconst E (v := 0) d_P_link_54 (by decide) ?_
            refine z_putZ E w_P_26 ⟨rfl, rfl⟩ d_P_link_55 (fun σ2 e => ?_)
            replace h := h σ2 e
            refine z_aload E 4 d_P_link_58 rfl ?_
            refine z_getI E f_P_38 d_P_link_60 ?_
            exact z_ireturn E rfl d_P_link_63 h
          · replace h := h.2 q
            refine z_iconst E (v := -1) d_P_link_43 (by decide) ?_
            exact z_ireturn E rfl d_P_link_44 h

set_option maxRecDepth 20000 in
set_option maxHeartbeats 4000000 in
theorem b_P_mark_0 {G : zG} {X : zX} {post : Option Value → zSt → Prop} (E : zCtx G M_P_mark (zKm G 1 X post) X) (v1 : Int32) (v2 : Int32) (σ : zSt)
    (h : (((zHas σ v1) = false → post (some (.int (-1 : Int32))) σ) ∧ ((zHas σ v1) = true → ((v2 < 0 → post (some (.int (-1 : Int32))) σ) ∧ (¬ v2 < 0 → ((v2 ≤ (99 : Int32) → (vp_in v1 12 ∧ (vp_in v1 12 ∧ ∀ σ1 : zSt, σ1 = zup σ 6 v1.toNatClampNeg v2 → (∀ σ2 : zSt, σ2 = zup σ1 0 1 (0 : Int32) → post (some (.int (σ 6 v1.toNatClampNeg))) σ2)))) ∧ (¬ v2 ≤ (99 : Int32) → post (some (.int (-1 : Int32))) σ))))))) :
    zZ G M_P_mark 1 X post 0 [(0, zf G 0), (1, .int v1), (2, .int v2)] [] σ := by
  refine z_aload_n E 0 d_P_mark_0 rfl rfl ?_
  refine z_getR E f_P_10 d_P_mark_1 ?_
  refine z_getR E f_P_16 d_P_mark_4 ?_
  refine z_astore_n E [1, 2, 3, 0] (lv' := [(0, zf G 0), (1, .int v1), (2, .int v2), (3, zf G 2)]) d_P_mark_7 rfl (by decide) rfl ?_
  refine z_aload_n E 3 d_P_mark_8 rfl rfl ?_
  refine z_iload_n E 1 d_P_mark_9 rfl rfl ?_
  refine z_callVBp [.int v1] [] E (p_Net_hasNode G σ v1) c_P_30 r_Net_hasNode rfl zrm rfl (Nat.le_of_ble_eq_true rfl) d_P_mark_10 ?_
  refine z_ifz_eq E d_P_mark_13 (tgt := 26) (by decide) ⟨fun q => ?_, fun q => ?_⟩
  · replace h := h.1 q
    refine z_iconst E (v := -1) d_P_mark_26 (by decide) ?_
    exact z_ireturn E rfl d_P_mark_27 h
  · replace h := h.2 q
    refine z_iload_n E 2 d_P_mark_16 rfl rfl ?_
    refine z_if_lt E d_P_mark_17 (tgt := 26) (by decide) ⟨fun q => ?_, fun q => ?_⟩
    · replace h := h.1 q
      refine z_iconst E (v := -1) d_P_mark_26 (by decide) ?_
      exact z_ireturn E rfl d_P_mark_27 h
    · replace h := h.2 q
      refine z_iload_n E 2 d_P_mark_20 rfl rfl ?_
      refine z_bipush E (v := 99) d_P_mark_21 (by decide) ?_
      refine z_icmp_le E d_P_mark_23 (tgt := 28) (by decide) ⟨fun q => ?_, fun q => ?_⟩
      · replace h := h.1 q
        refine z_aload_n E 3 d_P_mark_28 rfl rfl ?_
        refine z_getR E f_P_42 d_P_mark_29 ?_
        refine z_iload_n E 1 d_P_mark_32 rfl rfl ?_
        obtain ⟨h0, h⟩ := h
        refine z_iald E rfl d_P_mark_33 ⟨h0, ?_⟩
        refine z_istore E [1, 2, 3, 4, 0] (lv' := [(0, zf G 0), (1, .int v1), (2, .int v2), (3, zf G 2), (4, .int (σ 6 v1.toNatClampNeg))]) d_P_mark_34 (by decide) rfl ?_
        refine z_aload_n E 3 d_P_mark_36 rfl rfl ?_
        refine z_getR E f_P_42 d_P_mark_37 ?_
        refine z_iload_n E 1 d_P_mark_40 rfl rfl ?_
        refine z_iload_n E 2 d_P_mark_41 rfl rfl ?_
        obtain ⟨h0, h⟩ := h
        refine z_iast E rfl d_P_mark_42 ⟨h0, fun σ1 e => ?_⟩
        replace h := h σ1 e
        refine z_aload_n E 0 d_P_mark_43 rfl rfl ?_
        refine z_iconst E (v := 0) d_P_mark_44 (by decide) ?_
        refine z_putZ E w_P_26 ⟨rfl, rfl⟩ d_P_mark_45 (fun σ2 e => ?_)
        replace h := h σ2 e
        refine z_iload E 4 d_P_mark_48 rfl ?_
        exact z_ireturn E rfl d_P_mark_50 h
      · replace h := h.2 q
        refine z_iconst E (v := -1) d_P_mark_26 (by decide) ?_
        exact z_ireturn E rfl d_P_mark_27 h

set_option maxRecDepth 20000 in
set_option maxHeartbeats 4000000 in
theorem b_P_start_0 {G : zG} {X : zX} {post : Option Value → zSt → Prop} (E : zCtx G M_P_start (zKm G 7 X post) X) (v1 : Int32) (v2 : Int32) (v3 : Int32) (v4 : Int32) (v5 : Int32) (σ : zSt)
    (h : ((v1 < 0 → post (some (.int (-1 : Int32))) σ) ∧ (¬ v1 < 0 → (((3 : Int32) < v1 → post (some (.int (-1 : Int32))) σ) ∧ (¬ (3 : Int32) < v1 → ((v2 < 0 → post (some (.int (-1 : Int32))) σ) ∧ (¬ v2 < 0 → ((v2 ≤ (2 : Int32) → (((zHas σ v3) = false → post (some (.int (-1 : Int32))) σ) ∧ ((zHas σ v3) = true → ((v5 < (1 : Int32) → post (some (.int (-1 : Int32))) σ) ∧ (¬ v5 < (1 : Int32) → ((v5 ≤ (20 : Int32) → ((¬ v2 = (2 : Int32) → zZ G M_P_start 7 X post 69 [(0, zf G 0), (1, .int v1), (2, .int v2), (3, .int v3), (4, .int v4), (5, .int v5)] [] σ) ∧ (v2 = (2 : Int32) → ((v4 < (2 : Int32) → post (some (.int (-1 : Int32))) σ) ∧ (¬ v4 < (2 : Int32) → ((v4 ≤ (8 : Int32) → zZ G M_P_start 7 X post 69 [(0, zf G 0), (1, .int v1), (2, .int v2), (3, .int v3), (4, .int v4), (5, .int v5)] [] σ) ∧ (¬ v4 ≤ (8 : Int32) → post (some (.int (-1 : Int32))) σ))))))) ∧ (¬ v5 ≤ (20 : Int32) → post (some (.int (-1 : Int32))) σ))))))) ∧ (¬ v2 ≤ (2 : Int32) → post (some (.int (-1 : Int32))) σ))))))))) :
    zZ G M_P_start 7 X post 0 [(0, zf G 0), (1, .int v1), (2, .int v2), (3, .int v3), (4, .int v4), (5, .int v5)] [] σ := by
  refine z_iload_n E 1 d_P_start_0 rfl rfl ?_
  refine z_if_lt E d_P_start_1 (tgt := 18) (by decide) ⟨fun q => ?_, fun q => ?_⟩
  · replace h := h.1 q
    refine z_iconst E (v := -1) d_P_start_18 (by decide) ?_
    exact z_ireturn E rfl d_P_start_19 h
  · replace h := h.2 q
    refine z_iload_n E 1 d_P_start_4 rfl rfl ?_
    refine z_iconst E (v := 3) d_P_start_5 (by decide) ?_
    refine z_icmp_gt E d_P_start_6 (tgt := 18) (by decide) ⟨fun q => ?_, fun q => ?_⟩
    · replace h := h.1 q
      refine z_iconst E (v := -1) d_P_start_18 (by decide) ?_
      exact z_ireturn E rfl d_P_start_19 h
    · replace h := h.2 q
      refine z_iload_n E 2 d_P_start_9 rfl rfl ?_
      refine z_if_lt E d_P_start_10 (tgt := 18) (by decide) ⟨fun q => ?_, fun q => ?_⟩
      · replace h := h.1 q
        refine z_iconst E (v := -1) d_P_start_18 (by decide) ?_
        exact z_ireturn E rfl d_P_start_19 h
      · replace h := h.2 q
        refine z_iload_n E 2 d_P_start_13 rfl rfl ?_
        refine z_iconst E (v := 2) d_P_start_14 (by decide) ?_
        refine z_icmp_le E d_P_start_15 (tgt := 20) (by decide) ⟨fun q => ?_, fun q => ?_⟩
        · replace h := h.1 q
          refine z_aload_n E 0 d_P_start_20 rfl rfl ?_
          refine z_getR E f_P_10 d_P_start_21 ?_
          refine z_getR E f_P_16 d_P_start_24 ?_
          refine z_iload_n E 3 d_P_start_27 rfl rfl ?_
          refine z_callVBp [.int v3] [] E (p_Net_hasNode G σ v3) c_P_30 r_Net_hasNode rfl zrm rfl (Nat.le_of_ble_eq_true rfl) d_P_start_28 ?_
          refine z_ifz_eq E d_P_start_31 (tgt := 47) (by decide) ⟨fun q => ?_, fun q => ?_⟩
          · replace h := h.1 q
            refine z_iconst E (v := -1) d_P_start_47 (by decide) ?_
            exact z_ireturn E rfl d_P_start_48 h
          · replace h := h.2 q
            refine z_iload E 5 d_P_start_34 rfl ?_
            refine z_iconst E (v := 1) d_P_start_36 (by decide) ?_
            refine z_icmp_lt E d_P_start_37 (tgt := 47) (by decide) ⟨fun q => ?_, fun q => ?_⟩
            · replace h := h.1 q
              refine z_iconst E (v := -1) d_P_start_47 (by decide) ?_
              exact z_ireturn E rfl d_P_start_48 h
            · replace h := h.2 q
              refine z_iload E 5 d_P_start_40 rfl ?_
              refine z_bipush E (v := 20) d_P_start_42 (by decide) ?_
              refine z_icmp_le E d_P_start_44 (tgt := 49) (by decide) ⟨fun q => ?_, fun q => ?_⟩
              · replace h := h.1 q
                refine z_iload_n E 2 d_P_start_49 rfl rfl ?_
                refine z_iconst E (v := 2) d_P_start_50 (by decide) ?_
                refine z_icmp_ne E d_P_start_51 (tgt := 69) (by decide) ⟨fun q => ?_, fun q => ?_⟩
                · replace h := h.1 q
                  exact h
                · replace h := h.2 q
                  refine z_iload E 4 d_P_start_54 rfl ?_
                  refine z_iconst E (v := 2) d_P_start_56 (by decide) ?_
                  refine z_icmp_lt E d_P_start_57 (tgt := 67) (by decide) ⟨fun q => ?_, fun q => ?_⟩
                  · replace h := h.1 q
                    refine z_iconst E (v := -1) d_P_start_67 (by decide) ?_
                    exact z_ireturn E rfl d_P_start_68 h
                  · replace h := h.2 q
                    refine z_iload E 4 d_P_start_60 rfl ?_
                    refine z_bipush E (v := 8) d_P_start_62 (by decide) ?_
                    refine z_icmp_le E d_P_start_64 (tgt := 69) (by decide) ⟨fun q => ?_, fun q => ?_⟩
                    · replace h := h.1 q
                      exact h
                    · replace h := h.2 q
                      refine z_iconst E (v := -1) d_P_start_67 (by decide) ?_
                      exact z_ireturn E rfl d_P_start_68 h
              · replace h := h.2 q
                refine z_iconst E (v := -1) d_P_start_47 (by decide) ?_
                exact z_ireturn E rfl d_P_start_48 h
        · replace h := h.2 q
          refine z_iconst E (v := -1) d_P_start_18 (by decide) ?_
          exact z_ireturn E rfl d_P_start_19 h

set_option maxRecDepth 20000 in
set_option maxHeartbeats 4000000 in
theorem b_P_start_69 {G : zG} {X : zX} {post : Option Value → zSt → Prop} (E : zCtx G M_P_start (zKm G 7 X post) X) (v1 : Int32) (v2 : Int32) (v3 : Int32) (v4 : Int32) (v5 : Int32) (σ : zSt)
    (h : (∃ P : Bool → zSt → Prop, zB G 2 M_Net_isConnected [zf G 2] σ P ∧ ∀ (b2 : Bool) (σ1 : zSt), P b2 σ1 → ((b2 = true → (∃ P : zSt → Prop, zV G 4 M_Frame_setUp [zf G 3, zf G 2, .int v2, .int v3, .int v4] σ1 P ∧ ∀ σ3 : zSt, P σ3 → (∃ P : zSt → Prop, zV G 6 M_Course_open [zf G 1, .int v1, .int v2, .int v3, .int v5] σ3 P ∧ ∀ σ4 : zSt, P σ4 → (∀ σ5 : zSt, σ5 = zup σ4 0 1 (1 : Int32) → post (some (.int (σ5 5 0))) σ5)))) ∧ (b2 = false → post (some (.int (-1 : Int32))) σ1)))) :
    zZ G M_P_start 7 X post 69 [(0, zf G 0), (1, .int v1), (2, .int v2), (3, .int v3), (4, .int v4), (5, .int v5)] [] σ := by
  refine z_aload_n E 0 d_P_start_69 rfl rfl ?_
  refine z_getR E f_P_10 d_P_start_70 ?_
  refine z_getR E f_P_16 d_P_start_73 ?_
  obtain ⟨P, hM, h⟩ := h
  refine z_callVB [] [] E hM c_P_46 r_Net_isConnected rfl zrm rfl (Nat.le_of_ble_eq_true rfl) d_P_start_76 (fun b2 σ1 hp => ?_)
  replace h := h b2 σ1 hp
  refine z_ifz_ne E d_P_start_79 (tgt := 84) (by decide) ⟨fun q => ?_, fun q => ?_⟩
  · replace h := h.1 q
    refine z_aload_n E 0 d_P_start_84 rfl rfl ?_
    refine z_getR E f_P_10 d_P_start_85 ?_
    refine z_getR E f_P_50 d_P_start_88 ?_
    refine z_aload_n E 0 d_P_start_91 rfl rfl ?_
    refine z_getR E f_P_10 d_P_start_92 ?_
    refine z_getR E f_P_16 d_P_start_95 ?_
    refine z_iload_n E 2 d_P_start_98 rfl rfl ?_
    refine z_iload_n E 3 d_P_start_99 rfl rfl ?_
    refine z_iload E 4 d_P_start_100 rfl ?_
    obtain ⟨P, hM, h⟩ := h
    refine z_callVV [zf G 2, .int v2, .int v3, .int v4] [] E hM c_P_54 r_Frame_setUp rfl zrm rfl (Nat.le_of_ble_eq_true rfl) d_P_start_102 (fun σ3 hp => ?_)
    replace h := h σ3 hp
    refine z_aload_n E 0 d_P_start_105 rfl rfl ?_
    refine z_getR E f_P_10 d_P_start_106 ?_
    refine z_iload_n E 1 d_P_start_109 rfl rfl ?_
    refine z_iload_n E 2 d_P_start_110 rfl rfl ?_
    refine z_iload_n E 3 d_P_start_111 rfl rfl ?_
    refine z_iload E 5 d_P_start_112 rfl ?_
    obtain ⟨P, hM, h⟩ := h
    refine z_callVV [.int v1, .int v2, .int v3, .int v5] [] E hM c_P_60 r_Course_open rfl zrm rfl (Nat.le_of_ble_eq_true rfl) d_P_start_114 (fun σ4 hp => ?_)
    replace h := h σ4 hp
    refine z_aload_n E 0 d_P_start_117 rfl rfl ?_
    refine z_iconst E (v := 1) d_P_start_118 (by decide) ?_
    refine z_putZ E w_P_26 ⟨rfl, rfl⟩ d_P_start_119 (fun σ5 e => ?_)
    replace h := h σ5 e
    refine z_aload_n E 0 d_P_start_122 rfl rfl ?_
    refine z_getR E f_P_10 d_P_start_123 ?_
    refine z_getR E f_P_64 d_P_start_126 ?_
    refine z_getI E f_P_68 d_P_start_129 ?_
    exact z_ireturn E rfl d_P_start_132 h
  · replace h := h.2 q
    refine z_iconst E (v := -1) d_P_start_82 (by decide) ?_
    exact z_ireturn E rfl d_P_start_83 h

set_option maxRecDepth 20000 in
set_option maxHeartbeats 4000000 in
theorem b_P_come_0 {G : zG} {X : zX} {post : Option Value → zSt → Prop} (E : zCtx G M_P_come (zKm G 7 X post) X) (v1 : Int32) (σ : zSt)
    (h : (∃ P : Bool → zSt → Prop, zB G 0 M_P_hasLetter [zf G 0, .int v1] σ P ∧ ∀ (b2 : Bool) (σ1 : zSt), P b2 σ1 → ((b2 = false → post (some (.int (-1 : Int32))) σ1) ∧ (b2 = true → (∃ P : Int32 → zSt → Prop, zI G 6 M_Course_bring [zf G 1, .int v1] σ1 P ∧ ∀ (x4 : Int32) (σ3 : zSt), P x4 σ3 → post (some (.int x4)) σ3))))) :
    zZ G M_P_come 7 X post 0 [(0, zf G 0), (1, .int v1)] [] σ := by
  refine z_aload_n E 0 d_P_come_0 rfl rfl ?_
  refine z_iload_n E 1 d_P_come_1 rfl rfl ?_
  obtain ⟨P, hM, h⟩ := h
  refine z_callVB [.int v1] [] E hM c_P_73 r_P_hasLetter rfl zrm rfl (Nat.le_of_ble_eq_true rfl) d_P_come_2 (fun b2 σ1 hp => ?_)
  replace h := h b2 σ1 hp
  refine z_ifz_eq E d_P_come_5 (tgt := 19) (by decide) ⟨fun q => ?_, fun q => ?_⟩
  · replace h := h.1 q
    refine z_iconst E (v := -1) d_P_come_19 (by decide) ?_
    exact z_ireturn E rfl d_P_come_20 h
  · replace h := h.2 q
    refine z_aload_n E 0 d_P_come_8 rfl rfl ?_
    refine z_getR E f_P_10 d_P_come_9 ?_
    refine z_iload_n E 1 d_P_come_12 rfl rfl ?_
    obtain ⟨P, hM, h⟩ := h
    refine z_callVI [.int v1] [] E hM c_P_76 r_Course_bring rfl zrm rfl (Nat.le_of_ble_eq_true rfl) d_P_come_13 (fun x4 σ3 hp => ?_)
    replace h := h x4 σ3 hp
    refine z_goto E d_P_come_16 (tgt := 20) (by decide) ?_
    exact z_ireturn E rfl d_P_come_20 h

set_option maxRecDepth 20000 in
set_option maxHeartbeats 4000000 in
theorem b_P_flow_0 {G : zG} {X : zX} {post : Option Value → zSt → Prop} (E : zCtx G M_P_flow (zKm G 7 X post) X) (v1 : Int32) (v2 : Int32) (σ : zSt)
    (h : ((v1 < 0 → post (some (.int (-1 : Int32))) σ) ∧ (¬ v1 < 0 → (((3000 : Int32) < v1 → post (some (.int (-1 : Int32))) σ) ∧ (¬ (3000 : Int32) < v1 → ((0 ≤ v2 → zZ G M_P_flow 7 X post 23 [(0, zf G 0), (1, .int v1), (3, .long v2.toInt64), (5, .int (0 : Int32))] [] σ) ∧ (¬ 0 ≤ v2 → post (some (.int (-1 : Int32))) σ))))))) :
    zZ G M_P_flow 7 X post 0 [(0, zf G 0), (1, .int v1), (2, .int v2)] [] σ := by
  refine z_iload_n E 1 d_P_flow_0 rfl rfl ?_
  refine z_if_lt E d_P_flow_1 (tgt := 15) (by decide) ⟨fun q => ?_, fun q => ?_⟩
  · replace h := h.1 q
    refine z_iconst E (v := -1) d_P_flow_15 (by decide) ?_
    exact z_ireturn E rfl d_P_flow_16 h
  · replace h := h.2 q
    refine z_iload_n E 1 d_P_flow_4 rfl rfl ?_
    refine z_sipush E (v := 3000) d_P_flow_5 (by decide) ?_
    refine z_icmp_gt E d_P_flow_8 (tgt := 15) (by decide) ⟨fun q => ?_, fun q => ?_⟩
    · replace h := h.1 q
      refine z_iconst E (v := -1) d_P_flow_15 (by decide) ?_
      exact z_ireturn E rfl d_P_flow_16 h
    · replace h := h.2 q
      refine z_iload_n E 2 d_P_flow_11 rfl rfl ?_
      refine z_if_ge E d_P_flow_12 (tgt := 17) (by decide) ⟨fun q => ?_, fun q => ?_⟩
      · replace h := h.1 q
        refine z_iload_n E 2 d_P_flow_17 rfl rfl ?_
        refine z_i2l E d_P_flow_18 ?_
        refine z_lstore_n E [1, 2, 0] (lv' := [(0, zf G 0), (1, .int v1), (3, .long v2.toInt64)]) d_P_flow_19 rfl (by decide) rfl ?_
        refine z_iconst E (v := 0) d_P_flow_20 (by decide) ?_
        refine z_istore E [1, 2, 3, 0] (lv' := [(0, zf G 0), (1, .int v1), (3, .long v2.toInt64), (5, .int (0 : Int32))]) d_P_flow_21 (by decide) rfl ?_
        exact h
      · replace h := h.2 q
        refine z_iconst E (v := -1) d_P_flow_15 (by decide) ?_
        exact z_ireturn E rfl d_P_flow_16 h

set_option maxRecDepth 20000 in
set_option maxHeartbeats 4000000 in
theorem b_P_flow_23 {G : zG} {X : zX} {post : Option Value → zSt → Prop} (E : zCtx G M_P_flow (zKm G 7 X post) X) (v1 : Int32) (v3 : Int64) (v5 : Int32) (σ : zSt)
    (h : ((v1 ≤ v5 → post (some (.int v5)) σ) ∧ (¬ v1 ≤ v5 → (((σ 0 1) = 0 → post (some (.int v5)) σ) ∧ (¬ (σ 0 1) = 0 → (((σ 5 0) ≤ 0 → post (some (.int v5)) σ) ∧ (¬ (σ 5 0) ≤ 0 → (¬ ((σ 5 0).toInt64) = 0 ∧ (∃ P : Int32 → zSt → Prop, zI G 6 M_Course_bring [zf G 1, .int ((v3 - v3 / ((σ 5 0).toInt64) * ((σ 5 0).toInt64)).toInt32)] σ P ∧ ∀ (x2 : Int32) (σ1 : zSt), P x2 σ1 → zZ G M_P_flow 7 X post 23 [(0, zf G 0), (1, .int v1), (3, .long ((((69069 : Int64) * v3) + (1 : Int64)) &&& (2147483647 : Int64))), (5, .int (v5 + 1))] [] σ1))))))))) :
    zZ G M_P_flow 7 X post 23 [(0, zf G 0), (1, .int v1), (3, .long v3), (5, .int v5)] [] σ := by
  refine z_iload E 3 d_P_flow_23 rfl ?_
  refine z_iload_n E 1 d_P_flow_25 rfl rfl ?_
  refine z_icmp_ge E d_P_flow_26 (tgt := 89) (by decide) ⟨fun q => ?_, fun q => ?_⟩
  · replace h := h.1 q
    refine z_iload E 3 d_P_flow_89 rfl ?_
    exact z_ireturn E rfl d_P_flow_91 h
  · replace h := h.2 q
    refine z_aload_n E 0 d_P_flow_29 rfl rfl ?_
    refine z_getI E f_P_26 d_P_flow_30 ?_
    refine z_if_eq E d_P_flow_33 (tgt := 89) (by decide) ⟨fun q => ?_, fun q => ?_⟩
    · replace h := h.1 q
      refine z_iload E 3 d_P_flow_89 rfl ?_
      exact z_ireturn E rfl d_P_flow_91 h
    · replace h := h.2 q
      refine z_aload_n E 0 d_P_flow_36 rfl rfl ?_
      refine z_getR E f_P_10 d_P_flow_37 ?_
      refine z_getR E f_P_64 d_P_flow_40 ?_
      refine z_getI E f_P_68 d_P_flow_43 ?_
      refine z_if_le E d_P_flow_46 (tgt := 89) (by decide) ⟨fun q => ?_, fun q => ?_⟩
      · replace h := h.1 q
        refine z_iload E 3 d_P_flow_89 rfl ?_
        exact z_ireturn E rfl d_P_flow_91 h
      · replace h := h.2 q
        refine z_aload_n E 0 d_P_flow_49 rfl rfl ?_
        refine z_getR E f_P_10 d_P_flow_50 ?_
        refine z_lload_n E 2 d_P_flow_53 rfl rfl ?_
        refine z_aload_n E 0 d_P_flow_54 rfl rfl ?_
        refine z_getR E f_P_10 d_P_flow_55 ?_
        refine z_getR E f_P_64 d_P_flow_58 ?_
        refine z_getI E f_P_68 d_P_flow_61 ?_
        refine z_i2l E d_P_flow_64 ?_
        obtain ⟨h0, h⟩ := h
        refine z_lrem E d_P_flow_65 h0 ?_
        refine z_l2i E d_P_flow_66 ?_
        obtain ⟨P, hM, h⟩ := h
        refine z_callVI [.int ((v3 - v3 / ((σ 5 0).toInt64) * ((σ 5 0).toInt64)).toInt32)] [] E hM c_P_76 r_Course_bring rfl zrm rfl (Nat.le_of_ble_eq_true rfl) d_P_flow_67 (fun x2 σ1 hp => ?_)
        replace h := h x2 σ1 hp
        refine z_pop E d_P_flow_70 rfl ?_
        refine z_ldc2 E (v := 69069) k_P_80 d_P_flow_71 ?_
        refine z_lload_n E 2 d_P_flow_74 rfl rfl ?_
        refine z_lmul E d_P_flow_75 ?_
        refine z_lconst E (v := 1) d_P_flow_76 (by decide) ?_
        refine z_ladd E d_P_flow_77 ?_
        refine z_ldc2 E (v := 2147483647) k_P_82 d_P_flow_78 ?_
        refine z_land E d_P_flow_81 ?_
        refine z_lstore_n E [1, 2, 0, 3] (lv' := [(0, zf G 0), (1, .int v1), (3, .long ((((69069 : Int64) * v3) + (1 : Int64)) &&& (2147483647 : Int64))), (5, .int v5)]) d_P_flow_82 rfl (by decide) rfl ?_
        refine z_iinc E 3 [1, 2, 3, 0] (v := v5 + 1) (lv' := [(0, zf G 0), (1, .int v1), (3, .long ((((69069 : Int64) * v3) + (1 : Int64)) &&& (2147483647 : Int64))), (5, .int (v5 + 1))]) d_P_flow_83 rfl rfl (by decide) rfl ?_
        refine z_goto E d_P_flow_86 (tgt := 23) (by decide) ?_
        exact h

set_option maxRecDepth 20000 in
set_option maxHeartbeats 4000000 in
theorem b_P_told_0 {G : zG} {X : zX} {post : Option Value → zSt → Prop} (E : zCtx G M_P_told (zKm G 1 X post) X) (v1 : Int32) (v2 : Int32) (σ : zSt)
    (h : (((zHas σ v1) = false → post (some (.int (-1 : Int32))) σ) ∧ ((zHas σ v1) = true → ((v2 < 0 → post (some (.int (-1 : Int32))) σ) ∧ (¬ v2 < 0 → ((v2 ≤ (7 : Int32) → ((¬ v2 = (7 : Int32) → ((¬ (σ 0 1) = 0 → ((v2.toInt = 0 → (vp_in v1 12 ∧ post (some (.int (σ 24 v1.toNatClampNeg))) σ)) ∧ (v2.toInt = 1 → (vp_in v1 12 ∧ post (some (.int (σ 16 v1.toNatClampNeg))) σ)) ∧ (v2.toInt = 2 → (vp_in v1 12 ∧ post (some (.int (σ 17 v1.toNatClampNeg))) σ)) ∧ (v2.toInt = 3 → (vp_in v1 12 ∧ post (some (.int (σ 26 v1.toNatClampNeg))) σ)) ∧ (v2.toInt = 4 → (vp_in v1 12 ∧ (((zSf σ v1) = false → post (some (.int (0 : Int32))) σ) ∧ ((zSf σ v1) = true → post (some (.int (1 : Int32))) σ)))) ∧ (v2.toInt = 5 → (vp_in v1 12 ∧ post (some (.int (σ 10 v1.toNatClampNeg))) σ)) ∧ ((v2.toInt < 0 ∨ 5 < v2.toInt) → (vp_in v1 12 ∧ post (some (.int (σ 9 v1.toNatClampNeg))) σ)))) ∧ ((σ 0 1) = 0 → post (some (.int (-1 : Int32))) σ))) ∧ (v2 = (7 : Int32) → (vp_in v1 12 ∧ post (some (.int (zBc (σ 7 v1.toNatClampNeg)))) σ)))) ∧ (¬ v2 ≤ (7 : Int32) → post (some (.int (-1 : Int32))) σ))))))) :
    zZ G M_P_told 1 X post 0 [(0, zf G 0), (1, .int v1), (2, .int v2)] [] σ := by
  refine z_aload_n E 0 d_P_told_0 rfl rfl ?_
  refine z_getR E f_P_10 d_P_told_1 ?_
  refine z_getR E f_P_16 d_P_told_4 ?_
  refine z_iload_n E 1 d_P_told_7 rfl rfl ?_
  refine z_callVBp [.int v1] [] E (p_Net_hasNode G σ v1) c_P_30 r_Net_hasNode rfl zrm rfl (Nat.le_of_ble_eq_true rfl) d_P_told_8 ?_
  refine z_ifz_eq E d_P_told_11 (tgt := 24) (by decide) ⟨fun q => ?_, fun q => ?_⟩
  · replace h := h.1 q
    refine z_iconst E (v := -1) d_P_told_24 (by decide) ?_
    exact z_ireturn E rfl d_P_told_25 h
  · replace h := h.2 q
    refine z_iload_n E 2 d_P_told_14 rfl rfl ?_
    refine z_if_lt E d_P_told_15 (tgt := 24) (by decide) ⟨fun q => ?_, fun q => ?_⟩
    · replace h := h.1 q
      refine z_iconst E (v := -1) d_P_told_24 (by decide) ?_
      exact z_ireturn E rfl d_P_told_25 h
    · replace h := h.2 q
      refine z_iload_n E 2 d_P_told_18 rfl rfl ?_
      refine z_bipush E (v := 7) d_P_told_19 (by decide) ?_
      refine z_icmp_le E d_P_told_21 (tgt := 26) (by decide) ⟨fun q => ?_, fun q => ?_⟩
      · replace h := h.1 q
        refine z_iload_n E 2 d_P_told_26 rfl rfl ?_
        refine z_bipush E (v := 7) d_P_told_27 (by decide) ?_
        refine z_icmp_ne E d_P_told_29 (tgt := 48) (by decide) ⟨fun q => ?_, fun q => ?_⟩
        · replace h := h.1 q
          refine z_aload_n E 0 d_P_told_48 rfl rfl ?_
          refine z_getI E f_P_26 d_P_told_49 ?_
          refine z_if_ne E d_P_told_52 (tgt := 57) (by decide) ⟨fun q => ?_, fun q => ?_⟩
          · replace h := h.1 q
            refine z_iload_n E 2 d_P_told_57 rfl rfl ?_
            refine z_table E d_P_told_58 (tO := 172) (tgts := [96, 106, 119, 132, 142, 159]) (by decide) (by decide) (by decide) ⟨z_tcons (fun q => ?_) (z_tcons (fun q => ?_) (z_tcons (fun q => ?_) (z_tcons (fun q => ?_) (z_tcons (fun q => ?_) (z_tcons (fun q => ?_) (z_tnil)))))), fun q => ?_⟩
            · replace h := h.1 q
              show zZ G M_P_told 1 X post 96 [(0, zf G 0), (1, .int v1), (2, .int v2)] [] σ
              refine z_aload_n E 0 d_P_told_96 rfl rfl ?_
              refine z_getR E f_P_10 d_P_told_97 ?_
              refine z_getR E f_P_92 d_P_told_100 ?_
              refine z_iload_n E 1 d_P_told_103 rfl rfl ?_
              obtain ⟨h0, h⟩ := h
              refine z_iald E rfl d_P_told_104 ⟨h0, ?_⟩
              exact z_ireturn E rfl d_P_told_105 h
            · replace h := h.2.1 q
              show zZ G M_P_told 1 X post 106 [(0, zf G 0), (1, .int v1), (2, .int v2)] [] σ
              refine z_aload_n E 0 d_P_told_106 rfl rfl ?_
              refine z_getR E f_P_10 d_P_told_107 ?_
              refine z_getR E f_P_95 d_P_told_110 ?_
              refine z_getR E f_P_99 d_P_told_113 ?_
              refine z_iload_n E 1 d_P_told_116 rfl rfl ?_
              obtain ⟨h0, h⟩ := h
              refine z_iald E rfl d_P_told_117 ⟨h0, ?_⟩
              exact z_ireturn E rfl d_P_told_118 h
            · replace h := h.2.2.1 q
              show zZ G M_P_told 1 X post 119 [(0, zf G 0), (1, .int v1), (2, .int v2)] [] σ
              refine z_aload_n E 0 d_P_told_119 rfl rfl ?_
              refine z_getR E f_P_10 d_P_told_120 ?_
              refine z_getR E f_P_95 d_P_told_123 ?_
              refine z_getR E f_P_104 d_P_told_126 ?_
              refine z_iload_n E 1 d_P_told_129 rfl rfl ?_
              obtain ⟨h0, h⟩ := h
              refine z_iald E rfl d_P_told_130 ⟨h0, ?_⟩
              exact z_ireturn E rfl d_P_told_131 h
            · replace h := h.2.2.2.1 q
              show zZ G M_P_told 1 X post 132 [(0, zf G 0), (1, .int v1), (2, .int v2)] [] σ
              refine z_aload_n E 0 d_P_told_132 rfl rfl ?_
              refine z_getR E f_P_10 d_P_told_133 ?_
              refine z_getR E f_P_107 d_P_told_136 ?_
              refine z_iload_n E 1 d_P_told_139 rfl rfl ?_
              obtain ⟨h0, h⟩ := h
              refine z_iald E rfl d_P_told_140 ⟨h0, ?_⟩
              exact z_ireturn E rfl d_P_told_141 h
            · replace h := h.2.2.2.2.1 q
              show zZ G M_P_told 1 X post 142 [(0, zf G 0), (1, .int v1), (2, .int v2)] [] σ
              refine z_aload_n E 0 d_P_told_142 rfl rfl ?_
              refine z_getR E f_P_10 d_P_told_143 ?_
              refine z_iload_n E 1 d_P_told_146 rfl rfl ?_
              obtain ⟨h0, h⟩ := h
              refine z_callVBp [.int v1] [] E (p_Course_isSafe G σ v1 h0) c_P_110 r_Course_isSafe rfl zrm rfl (Nat.le_of_ble_eq_true rfl) d_P_told_147 ?_
              refine z_ifz_eq E d_P_told_150 (tgt := 157) (by decide) ⟨fun q => ?_, fun q => ?_⟩
              · replace h := h.1 q
                refine z_iconst E (v := 0) d_P_told_157 (by decide) ?_
                exact z_ireturn E rfl d_P_told_158 h
              · replace h := h.2 q
                refine z_iconst E (v := 1) d_P_told_153 (by decide) ?_
                refine z_goto E d_P_told_154 (tgt := 158) (by decide) ?_
                exact z_ireturn E rfl d_P_told_158 h
            · replace h := h.2.2.2.2.2.1 q
              show zZ G M_P_told 1 X post 159 [(0, zf G 0), (1, .int v1), (2, .int v2)] [] σ
              refine z_aload_n E 0 d_P_told_159 rfl rfl ?_
              refine z_getR E f_P_10 d_P_told_160 ?_
              refine z_getR E f_P_50 d_P_told_163 ?_
              refine z_getR E f_P_113 d_P_told_166 ?_
              refine z_iload_n E 1 d_P_told_169 rfl rfl ?_
              obtain ⟨h0, h⟩ := h
              refine z_iald E rfl d_P_told_170 ⟨h0, ?_⟩
              exact z_ireturn E rfl d_P_told_171 h
            · replace h := h.2.2.2.2.2.2 q
              show zZ G M_P_told 1 X post 172 [(0, zf G 0), (1, .int v1), (2, .int v2)] [] σ
              refine z_aload_n E 0 d_P_told_172 rfl rfl ?_
              refine z_getR E f_P_10 d_P_told_173 ?_
              refine z_getR E f_P_50 d_P_told_176 ?_
              refine z_getR E f_P_116 d_P_told_179 ?_
              refine z_iload_n E 1 d_P_told_182 rfl rfl ?_
              obtain ⟨h0, h⟩ := h
              refine z_iald E rfl d_P_told_183 ⟨h0, ?_⟩
              exact z_ireturn E rfl d_P_told_184 h
          · replace h := h.2 q
            refine z_iconst E (v := -1) d_P_told_55 (by decide) ?_
            exact z_ireturn E rfl d_P_told_56 h
        · replace h := h.2 q
          refine z_aload_n E 0 d_P_told_32 rfl rfl ?_
          refine z_getR E f_P_10 d_P_told_33 ?_
          refine z_getR E f_P_16 d_P_told_36 ?_
          refine z_getR E f_P_84 d_P_told_39 ?_
          refine z_iload_n E 1 d_P_told_42 rfl rfl ?_
          obtain ⟨h0, h⟩ := h
          refine z_iald E rfl d_P_told_43 ⟨h0, ?_⟩
          refine z_callSIp [.int (σ 7 v1.toNatClampNeg)] [] E (p_JInteger_bitCount G σ (σ 7 v1.toNatClampNeg)) c_P_87 st_JInteger_bitCount rfl zrm rfl (Nat.le_of_ble_eq_true rfl) d_P_told_44 ?_
          exact z_ireturn E rfl d_P_told_47 h
      · replace h := h.2 q
        refine z_iconst E (v := -1) d_P_told_24 (by decide) ?_
        exact z_ireturn E rfl d_P_told_25 h

set_option maxRecDepth 20000 in
set_option maxHeartbeats 4000000 in
theorem b_P_past_0 {G : zG} {X : zX} {post : Option Value → zSt → Prop} (E : zCtx G M_P_past (zKm G 2 X post) X) (v1 : Int32) (v2 : Int32) (σ : zSt)
    (h : (∃ P : Bool → zSt → Prop, zB G 1 M_P_hasRound [zf G 0, .int v1, .int v2] σ P ∧ ∀ (b2 : Bool) (σ1 : zSt), P b2 σ1 → ((b2 = true → (vp_in v1 12 ∧ ((v2 ≤ (σ1 24 v1.toNatClampNeg) → (vp_in (v2 * 12 + v1) 252 ∧ post (some (.int (σ1 30 (v2 * 12 + v1).toNatClampNeg))) σ1)) ∧ (¬ v2 ≤ (σ1 24 v1.toNatClampNeg) → post (some (.int (-3 : Int32))) σ1)))) ∧ (b2 = false → post (some (.int (-1 : Int32))) σ1)))) :
    zZ G M_P_past 2 X post 0 [(0, zf G 0), (1, .int v1), (2, .int v2)] [] σ := by
  refine z_aload_n E 0 d_P_past_0 rfl rfl ?_
  refine z_iload_n E 1 d_P_past_1 rfl rfl ?_
  refine z_iload_n E 2 d_P_past_2 rfl rfl ?_
  obtain ⟨P, hM, h⟩ := h
  refine z_callVB [.int v1, .int v2] [] E hM c_P_119 r_P_hasRound rfl zrm rfl (Nat.le_of_ble_eq_true rfl) d_P_past_3 (fun b2 σ1 hp => ?_)
  replace h := h b2 σ1 hp
  refine z_ifz_ne E d_P_past_6 (tgt := 11) (by decide) ⟨fun q => ?_, fun q => ?_⟩
  · replace h := h.1 q
    refine z_iload_n E 2 d_P_past_11 rfl rfl ?_
    refine z_aload_n E 0 d_P_past_12 rfl rfl ?_
    refine z_getR E f_P_10 d_P_past_13 ?_
    refine z_getR E f_P_92 d_P_past_16 ?_
    refine z_iload_n E 1 d_P_past_19 rfl rfl ?_
    obtain ⟨h0, h⟩ := h
    refine z_iald E rfl d_P_past_20 ⟨h0, ?_⟩
    refine z_icmp_le E d_P_past_21 (tgt := 29) (by decide) ⟨fun q => ?_, fun q => ?_⟩
    · replace h := h.1 q
      refine z_aload_n E 0 d_P_past_29 rfl rfl ?_
      refine z_getR E f_P_10 d_P_past_30 ?_
      refine z_getR E f_P_123 d_P_past_33 ?_
      refine z_iload_n E 2 d_P_past_36 rfl rfl ?_
      refine z_iload_n E 1 d_P_past_37 rfl rfl ?_
      refine z_callSIp [.int v2, .int v1] [zf G 30] E (p_P_at G σ1 v2 v1) c_P_126 st_P_at rfl zrm rfl (Nat.le_of_ble_eq_true rfl) d_P_past_38 ?_
      obtain ⟨h0, h⟩ := h
      refine z_iald E rfl d_P_past_41 ⟨h0, ?_⟩
      exact z_ireturn E rfl d_P_past_42 h
    · replace h := h.2 q
      refine z_bipush E (v := -3) d_P_past_24 (by decide) ?_
      refine z_goto E d_P_past_26 (tgt := 42) (by decide) ?_
      exact z_ireturn E rfl d_P_past_42 h
  · replace h := h.2 q
    refine z_iconst E (v := -1) d_P_past_9 (by decide) ?_
    exact z_ireturn E rfl d_P_past_10 h

set_option maxRecDepth 20000 in
set_option maxHeartbeats 4000000 in
theorem b_P_inStep_0 {G : zG} {X : zX} {post : Option Value → zSt → Prop} (E : zCtx G M_P_inStep (zKm G 2 X post) X) (v1 : Int32) (v2 : Int32) (σ : zSt)
    (h : (∃ P : Bool → zSt → Prop, zB G 1 M_P_hasRound [zf G 0, .int v1, .int v2] σ P ∧ ∀ (b2 : Bool) (σ1 : zSt), P b2 σ1 → ((b2 = false → post (some (.int (-1 : Int32))) σ1) ∧ (b2 = true → (vp_in (v2 * 12 + v1) 252 ∧ post (some (.int (σ1 31 (v2 * 12 + v1).toNatClampNeg))) σ1))))) :
    zZ G M_P_inStep 2 X post 0 [(0, zf G 0), (1, .int v1), (2, .int v2)] [] σ := by
  refine z_aload_n E 0 d_P_inStep_0 rfl rfl ?_
  refine z_iload_n E 1 d_P_inStep_1 rfl rfl ?_
  refine z_iload_n E 2 d_P_inStep_2 rfl rfl ?_
  obtain ⟨P, hM, h⟩ := h
  refine z_callVB [.int v1, .int v2] [] E hM c_P_119 r_P_hasRound rfl zrm rfl (Nat.le_of_ble_eq_true rfl) d_P_inStep_3 (fun b2 σ1 hp => ?_)
  replace h := h b2 σ1 hp
  refine z_ifz_eq E d_P_inStep_6 (tgt := 25) (by decide) ⟨fun q => ?_, fun q => ?_⟩
  · replace h := h.1 q
    refine z_iconst E (v := -1) d_P_inStep_25 (by decide) ?_
    exact z_ireturn E rfl d_P_inStep_26 h
  · replace h := h.2 q
    refine z_aload_n E 0 d_P_inStep_9 rfl rfl ?_
    refine z_getR E f_P_10 d_P_inStep_10 ?_
    refine z_getR E f_P_130 d_P_inStep_13 ?_
    refine z_iload_n E 2 d_P_inStep_16 rfl rfl ?_
    refine z_iload_n E 1 d_P_inStep_17 rfl rfl ?_
    refine z_callSIp [.int v2, .int v1] [zf G 31] E (p_P_at G σ1 v2 v1) c_P_126 st_P_at rfl zrm rfl (Nat.le_of_ble_eq_true rfl) d_P_inStep_18 ?_
    obtain ⟨h0, h⟩ := h
    refine z_iald E rfl d_P_inStep_21 ⟨h0, ?_⟩
    refine z_goto E d_P_inStep_22 (tgt := 26) (by decide) ?_
    exact z_ireturn E rfl d_P_inStep_26 h

set_option maxRecDepth 20000 in
set_option maxHeartbeats 4000000 in
theorem b_P_differ_0 {G : zG} {X : zX} {post : Option Value → zSt → Prop} (E : zCtx G M_P_differ (zKm G 2 X post) X)  (σ : zSt)
    (h : (((σ 0 1) = 0 → post (some (.int (-1 : Int32))) σ) ∧ (¬ (σ 0 1) = 0 → (∃ P : Int32 → zSt → Prop, zI G 1 M_Course_countWrong [zf G 1] σ P ∧ ∀ (x2 : Int32) (σ1 : zSt), P x2 σ1 → post (some (.int x2)) σ1)))) :
    zZ G M_P_differ 2 X post 0 [(0, zf G 0)] [] σ := by
  refine z_aload_n E 0 d_P_differ_0 rfl rfl ?_
  refine z_getI E f_P_26 d_P_differ_1 ?_
  refine z_if_eq E d_P_differ_4 (tgt := 17) (by decide) ⟨fun q => ?_, fun q => ?_⟩
  · replace h := h.1 q
    refine z_iconst E (v := -1) d_P_differ_17 (by decide) ?_
    exact z_ireturn E rfl d_P_differ_18 h
  · replace h := h.2 q
    refine z_aload_n E 0 d_P_differ_7 rfl rfl ?_
    refine z_getR E f_P_10 d_P_differ_8 ?_
    obtain ⟨P, hM, h⟩ := h
    refine z_callVI [] [] E hM c_P_133 r_Course_countWrong rfl zrm rfl (Nat.le_of_ble_eq_true rfl) d_P_differ_11 (fun x2 σ1 hp => ?_)
    replace h := h x2 σ1 hp
    refine z_goto E d_P_differ_14 (tgt := 18) (by decide) ?_
    exact z_ireturn E rfl d_P_differ_18 h

set_option maxRecDepth 20000 in
set_option maxHeartbeats 4000000 in
theorem b_P_letter_0 {G : zG} {X : zX} {post : Option Value → zSt → Prop} (E : zCtx G M_P_letter (zKm G 1 X post) X) (v1 : Int32) (v2 : Int32) (σ : zSt)
    (h : (∃ P : Bool → zSt → Prop, zB G 0 M_P_hasLetter [zf G 0, .int v1] σ P ∧ ∀ (b2 : Bool) (σ1 : zSt), P b2 σ1 → ((b2 = true → ((v2.toInt = 0 → (vp_in v1 528 ∧ post (some (.int (σ1 19 v1.toNatClampNeg))) σ1)) ∧ (v2.toInt = 1 → (vp_in v1 528 ∧ post (some (.int (σ1 20 v1.toNatClampNeg))) σ1)) ∧ (v2.toInt = 2 → (vp_in v1 528 ∧ post (some (.int (σ1 21 v1.toNatClampNeg))) σ1)) ∧ (v2.toInt = 3 → (vp_in v1 528 ∧ post (some (.int (σ1 22 v1.toNatClampNeg))) σ1)) ∧ (v2.toInt = 4 → (vp_in v1 528 ∧ post (some (.int (σ1 23 v1.toNatClampNeg))) σ1)) ∧ ((v2.toInt < 0 ∨ 4 < v2.toInt) → post (some (.int (-1 : Int32))) σ1))) ∧ (b2 = false → post (some (.int (-1 : Int32))) σ1)))) :
    zZ G M_P_letter 1 X post 0 [(0, zf G 0), (1, .int v1), (2, .int v2)] [] σ := by
  refine z_aload_n E 0 d_P_letter_0 rfl rfl ?_
  refine z_iload_n E 1 d_P_letter_1 rfl rfl ?_
  obtain ⟨P, hM, h⟩ := h
  refine z_callVB [.int v1] [] E hM c_P_73 r_P_hasLetter rfl zrm rfl (Nat.le_of_ble_eq_true rfl) d_P_letter_2 (fun b2 σ1 hp => ?_)
  replace h := h b2 σ1 hp
  refine z_ifz_ne E d_P_letter_5 (tgt := 10) (by decide) ⟨fun q => ?_, fun q => ?_⟩
  · replace h := h.1 q
    refine z_iload_n E 2 d_P_letter_10 rfl rfl ?_
    refine z_table E d_P_letter_11 (tO := 109) (tgts := [44, 57, 70, 83, 96]) (by decide) (by decide) (by decide) ⟨z_tcons (fun q => ?_) (z_tcons (fun q => ?_) (z_tcons (fun q => ?_) (z_tcons (fun q => ?_) (z_tcons (fun q => ?_) (z_tnil))))), fun q => ?_⟩
    · replace h := h.1 q
      show zZ G M_P_letter 1 X post 44 [(0, zf G 0), (1, .int v1), (2, .int v2)] [] σ1
      refine z_aload_n E 0 d_P_letter_44 rfl rfl ?_
      refine z_getR E f_P_10 d_P_letter_45 ?_
      refine z_getR E f_P_64 d_P_letter_48 ?_
      refine z_getR E f_P_137 d_P_letter_51 ?_
      refine z_iload_n E 1 d_P_letter_54 rfl rfl ?_
      obtain ⟨h0, h⟩ := h
      refine z_iald E rfl d_P_letter_55 ⟨h0, ?_⟩
      exact z_ireturn E rfl d_P_letter_56 h
    · replace h := h.2.1 q
      show zZ G M_P_letter 1 X post 57 [(0, zf G 0), (1, .int v1), (2, .int v2)] [] σ1
      refine z_aload_n E 0 d_P_letter_57 rfl rfl ?_
      refine z_getR E f_P_10 d_P_letter_58 ?_
      refine z_getR E f_P_64 d_P_letter_61 ?_
      refine z_getR E f_P_140 d_P_letter_64 ?_
      refine z_iload_n E 1 d_P_letter_67 rfl rfl ?_
      obtain ⟨h0, h⟩ := h
      refine z_iald E rfl d_P_letter_68 ⟨h0, ?_⟩
      exact z_ireturn E rfl d_P_letter_69 h
    · replace h := h.2.2.1 q
      show zZ G M_P_letter 1 X post 70 [(0, zf G 0), (1, .int v1), (2, .int v2)] [] σ1
      refine z_aload_n E 0 d_P_letter_70 rfl rfl ?_
      refine z_getR E f_P_10 d_P_letter_71 ?_
      refine z_getR E f_P_64 d_P_letter_74 ?_
      refine z_getR E f_P_143 d_P_letter_77 ?_
      refine z_iload_n E 1 d_P_letter_80 rfl rfl ?_
      obtain ⟨h0, h⟩ := h
      refine z_iald E rfl d_P_letter_81 ⟨h0, ?_⟩
      exact z_ireturn E rfl d_P_letter_82 h
    · replace h := h.2.2.2.1 q
      show zZ G M_P_letter 1 X post 83 [(0, zf G 0), (1, .int v1), (2, .int v2)] [] σ1
      refine z_aload_n E 0 d_P_letter_83 rfl rfl ?_
      refine z_getR E f_P_10 d_P_letter_84 ?_
      refine z_getR E f_P_64 d_P_letter_87 ?_
      refine z_getR E f_P_146 d_P_letter_90 ?_
      refine z_iload_n E 1 d_P_letter_93 rfl rfl ?_
      obtain ⟨h0, h⟩ := h
      refine z_iald E rfl d_P_letter_94 ⟨h0, ?_⟩
      exact z_ireturn E rfl d_P_letter_95 h
    · replace h := h.2.2.2.2.1 q
      show zZ G M_P_letter 1 X post 96 [(0, zf G 0), (1, .int v1), (2, .int v2)] [] σ1
      refine z_aload_n E 0 d_P_letter_96 rfl rfl ?_
      refine z_getR E f_P_10 d_P_letter_97 ?_
      refine z_getR E f_P_64 d_P_letter_100 ?_
      refine z_getR E f_P_149 d_P_letter_103 ?_
      refine z_iload_n E 1 d_P_letter_106 rfl rfl ?_
      obtain ⟨h0, h⟩ := h
      refine z_iald E rfl d_P_letter_107 ⟨h0, ?_⟩
      exact z_ireturn E rfl d_P_letter_108 h
    · replace h := h.2.2.2.2.2 q
      show zZ G M_P_letter 1 X post 109 [(0, zf G 0), (1, .int v1), (2, .int v2)] [] σ1
      refine z_iconst E (v := -1) d_P_letter_109 (by decide) ?_
      exact z_ireturn E rfl d_P_letter_110 h
  · replace h := h.2 q
    refine z_iconst E (v := -1) d_P_letter_8 (by decide) ?_
    exact z_ireturn E rfl d_P_letter_9 h

set_option maxRecDepth 20000 in
set_option maxHeartbeats 4000000 in
theorem b_P_count_0 {G : zG} {X : zX} {post : Option Value → zSt → Prop} (E : zCtx G M_P_count (zKm G 3 X post) X) (v1 : Int32) (σ : zSt)
    (h : ((¬ v1 = 0 → ((¬ v1 = (1 : Int32) → ((¬ (σ 0 1) = 0 → ((v1.toInt = 2 → post (some (.int (σ 5 0))) σ) ∧ (v1.toInt = 3 → post (some (.int (σ 1 6))) σ) ∧ (v1.toInt = 4 → post (some (.int (σ 1 7))) σ) ∧ (v1.toInt = 5 → (∃ P : Int32 → zSt → Prop, zI G 1 M_Course_leastRound [zf G 1] σ P ∧ ∀ (x2 : Int32) (σ1 : zSt), P x2 σ1 → post (some (.int x2)) σ1)) ∧ (v1.toInt = 6 → (∃ P : Int32 → zSt → Prop, zI G 1 M_Course_greatestRound [zf G 1] σ P ∧ ∀ (x4 : Int32) (σ3 : zSt), P x4 σ3 → post (some (.int x4)) σ3)) ∧ (v1.toInt = 7 → (∃ P : Bool → zSt → Prop, zB G 2 M_Course_isOver [zf G 1] σ P ∧ ∀ (b6 : Bool) (σ5 : zSt), P b6 σ5 → ((b6 = false → post (some (.int (0 : Int32))) σ5) ∧ (b6 = true → post (some (.int (1 : Int32))) σ5)))) ∧ (v1.toInt = 8 → post (some (.int (σ 3 0))) σ) ∧ (v1.toInt = 9 → post (some (.int (σ 3 1))) σ) ∧ ((v1.toInt < 2 ∨ 9 < v1.toInt) → post (some (.int (-1 : Int32))) σ))) ∧ ((σ 0 1) = 0 → post (some (.int (-1 : Int32))) σ))) ∧ (v1 = (1 : Int32) → post (some (.int (σ 2 1))) σ))) ∧ (v1 = 0 → post (some (.int (σ 2 0))) σ))) :
    zZ G M_P_count 3 X post 0 [(0, zf G 0), (1, .int v1)] [] σ := by
  refine z_iload_n E 1 d_P_count_0 rfl rfl ?_
  refine z_if_ne E d_P_count_1 (tgt := 15) (by decide) ⟨fun q => ?_, fun q => ?_⟩
  · replace h := h.1 q
    refine z_iload_n E 1 d_P_count_15 rfl rfl ?_
    refine z_iconst E (v := 1) d_P_count_16 (by decide) ?_
    refine z_icmp_ne E d_P_count_17 (tgt := 31) (by decide) ⟨fun q => ?_, fun q => ?_⟩
    · replace h := h.1 q
      refine z_aload_n E 0 d_P_count_31 rfl rfl ?_
      refine z_getI E f_P_26 d_P_count_32 ?_
      refine z_if_ne E d_P_count_35 (tgt := 40) (by decide) ⟨fun q => ?_, fun q => ?_⟩
      · replace h := h.1 q
        refine z_iload_n E 1 d_P_count_40 rfl rfl ?_
        refine z_table E d_P_count_41 (tO := 169) (tgts := [88, 99, 107, 115, 123, 131, 147, 158]) (by decide) (by decide) (by decide) ⟨z_tcons (fun q => ?_) (z_tcons (fun q => ?_) (z_tcons (fun q => ?_) (z_tcons (fun q => ?_) (z_tcons (fun q => ?_) (z_tcons (fun q => ?_) (z_tcons (fun q => ?_) (z_tcons (fun q => ?_) (z_tnil)))))))), fun q => ?_⟩
        · replace h := h.1 q
          show zZ G M_P_count 3 X post 88 [(0, zf G 0), (1, .int v1)] [] σ
          refine z_aload_n E 0 d_P_count_88 rfl rfl ?_
          refine z_getR E f_P_10 d_P_count_89 ?_
          refine z_getR E f_P_64 d_P_count_92 ?_
          refine z_getI E f_P_68 d_P_count_95 ?_
          exact z_ireturn E rfl d_P_count_98 h
        · replace h := h.2.1 q
          show zZ G M_P_count 3 X post 99 [(0, zf G 0), (1, .int v1)] [] σ
          refine z_aload_n E 0 d_P_count_99 rfl rfl ?_
          refine z_getR E f_P_10 d_P_count_100 ?_
          refine z_getI E f_P_155 d_P_count_103 ?_
          exact z_ireturn E rfl d_P_count_106 h
        · replace h := h.2.2.1 q
          show zZ G M_P_count 3 X post 107 [(0, zf G 0), (1, .int v1)] [] σ
          refine z_aload_n E 0 d_P_count_107 rfl rfl ?_
          refine z_getR E f_P_10 d_P_count_108 ?_
          refine z_getI E f_P_158 d_P_count_111 ?_
          exact z_ireturn E rfl d_P_count_114 h
        · replace h := h.2.2.2.1 q
          show zZ G M_P_count 3 X post 115 [(0, zf G 0), (1, .int v1)] [] σ
          refine z_aload_n E 0 d_P_count_115 rfl rfl ?_
          refine z_getR E f_P_10 d_P_count_116 ?_
          obtain ⟨P, hM, h⟩ := h
          refine z_callVI [] [] E hM c_P_161 r_Course_leastRound rfl zrm rfl (Nat.le_of_ble_eq_true rfl) d_P_count_119 (fun x2 σ1 hp => ?_)
          replace h := h x2 σ1 hp
          exact z_ireturn E rfl d_P_count_122 h
        · replace h := h.2.2.2.2.1 q
          show zZ G M_P_count 3 X post 123 [(0, zf G 0), (1, .int v1)] [] σ
          refine z_aload_n E 0 d_P_count_123 rfl rfl ?_
          refine z_getR E f_P_10 d_P_count_124 ?_
          obtain ⟨P, hM, h⟩ := h
          refine z_callVI [] [] E hM c_P_164 r_Course_greatestRound rfl zrm rfl (Nat.le_of_ble_eq_true rfl) d_P_count_127 (fun x4 σ3 hp => ?_)
          replace h := h x4 σ3 hp
          exact z_ireturn E rfl d_P_count_130 h
        · replace h := h.2.2.2.2.2.1 q
          show zZ G M_P_count 3 X post 131 [(0, zf G 0), (1, .int v1)] [] σ
          refine z_aload_n E 0 d_P_count_131 rfl rfl ?_
          refine z_getR E f_P_10 d_P_count_132 ?_
          obtain ⟨P, hM, h⟩ := h
          refine z_callVB [] [] E hM c_P_167 r_Course_isOver rfl zrm rfl (Nat.le_of_ble_eq_true rfl) d_P_count_135 (fun b6 σ5 hp => ?_)
          replace h := h b6 σ5 hp
          refine z_ifz_eq E d_P_count_138 (tgt := 145) (by decide) ⟨fun q => ?_, fun q => ?_⟩
          · replace h := h.1 q
            refine z_iconst E (v := 0) d_P_count_145 (by decide) ?_
            exact z_ireturn E rfl d_P_count_146 h
          · replace h := h.2 q
            refine z_iconst E (v := 1) d_P_count_141 (by decide) ?_
            refine z_goto E d_P_count_142 (tgt := 146) (by decide) ?_
            exact z_ireturn E rfl d_P_count_146 h
        · replace h := h.2.2.2.2.2.2.1 q
          show zZ G M_P_count 3 X post 147 [(0, zf G 0), (1, .int v1)] [] σ
          refine z_aload_n E 0 d_P_count_147 rfl rfl ?_
          refine z_getR E f_P_10 d_P_count_148 ?_
          refine z_getR E f_P_50 d_P_count_151 ?_
          refine z_getI E f_P_170 d_P_count_154 ?_
          exact z_ireturn E rfl d_P_count_157 h
        · replace h := h.2.2.2.2.2.2.2.1 q
          show zZ G M_P_count 3 X post 158 [(0, zf G 0), (1, .int v1)] [] σ
          refine z_aload_n E 0 d_P_count_158 rfl rfl ?_
          refine z_getR E f_P_10 d_P_count_159 ?_
          refine z_getR E f_P_50 d_P_count_162 ?_
          refine z_getI E f_P_173 d_P_count_165 ?_
          exact z_ireturn E rfl d_P_count_168 h
        · replace h := h.2.2.2.2.2.2.2.2 q
          show zZ G M_P_count 3 X post 169 [(0, zf G 0), (1, .int v1)] [] σ
          refine z_iconst E (v := -1) d_P_count_169 (by decide) ?_
          exact z_ireturn E rfl d_P_count_170 h
      · replace h := h.2 q
        refine z_iconst E (v := -1) d_P_count_38 (by decide) ?_
        exact z_ireturn E rfl d_P_count_39 h
    · replace h := h.2 q
      refine z_aload_n E 0 d_P_count_20 rfl rfl ?_
      refine z_getR E f_P_10 d_P_count_21 ?_
      refine z_getR E f_P_16 d_P_count_24 ?_
      refine z_getI E f_P_38 d_P_count_27 ?_
      exact z_ireturn E rfl d_P_count_30 h
  · replace h := h.2 q
    refine z_aload_n E 0 d_P_count_4 rfl rfl ?_
    refine z_getR E f_P_10 d_P_count_5 ?_
    refine z_getR E f_P_16 d_P_count_8 ?_
    refine z_getI E f_P_152 d_P_count_11 ?_
    exact z_ireturn E rfl d_P_count_14 h

