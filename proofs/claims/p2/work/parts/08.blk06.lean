set_option maxRecDepth 20000 in
theorem b_Mo_writer_0 {G : zG} {X : zX} {post : Option Value → zSt → Prop} (E : zCtx G M_Mo_writer (zKm G 0 X post) X) (v1 : Int32) (v2 : Int32) (v3 : Int32) (σ : zSt)
    (h : zZ G M_Mo_writer 0 X post 3 [(0, zf G 32), (1, .int v1), (2, .int v2), (3, .int v3), (4, .int (0 : Int32))] [] σ) :
    zZ G M_Mo_writer 0 X post 0 [(0, zf G 32), (1, .int v1), (2, .int v2), (3, .int v3)] [] σ := by
  refine z_iconst E (v := 0) d_Mo_writer_0 (by decide) ?_
  refine z_istore E [1, 2, 3, 4, 0] d_Mo_writer_1 (by decide) rfl ?_
  exact h

set_option maxRecDepth 20000 in
theorem b_Mo_writer_3 {G : zG} {X : zX} {post : Option Value → zSt → Prop} (E : zCtx G M_Mo_writer (zKm G 0 X post) X) (v1 : Int32) (v2 : Int32) (v3 : Int32) (v4 : Int32) (σ : zSt)
    (h : (vp_in v4 12 ∧ (((σ 54 v4.toNatClampNeg) = 0 → zZ G M_Mo_writer 0 X post 3 [(0, zf G 32), (1, .int v1), (2, .int v2), (3, .int v3), (4, .int (v4 + 1))] [] σ) ∧ (¬ (σ 54 v4.toNatClampNeg) = 0 → (vp_in v4 12 ∧ ((v3 = 0 → ((((σ 55 v4.toNatClampNeg) + (0 : Int32)) = v2 → post (some (.int v4)) σ) ∧ (¬ ((σ 55 v4.toNatClampNeg) + (0 : Int32)) = v2 → zZ G M_Mo_writer 0 X post 3 [(0, zf G 32), (1, .int v1), (2, .int v2), (3, .int v3), (4, .int (v4 + 1))] [] σ))) ∧ (¬ v3 = 0 → (vp_in (((12 : Int32) * v4) + v1) 144 ∧ ((((σ 55 v4.toNatClampNeg) + (σ 33 (((12 : Int32) * v4) + v1).toNatClampNeg)) = v2 → post (some (.int v4)) σ) ∧ (¬ ((σ 55 v4.toNatClampNeg) + (σ 33 (((12 : Int32) * v4) + v1).toNatClampNeg)) = v2 → zZ G M_Mo_writer 0 X post 3 [(0, zf G 32), (1, .int v1), (2, .int v2), (3, .int v3), (4, .int (v4 + 1))] [] σ)))))))))) :
    zZ G M_Mo_writer 0 X post 3 [(0, zf G 32), (1, .int v1), (2, .int v2), (3, .int v3), (4, .int v4)] [] σ := by
  refine z_aload_n E 0 d_Mo_writer_3 rfl rfl ?_
  refine z_getR E f_Mo_74 d_Mo_writer_4 ?_
  refine z_iload E 4 d_Mo_writer_7 rfl ?_
  obtain ⟨h0, h⟩ := h
  refine z_zald E rfl d_Mo_writer_9 ⟨h0, ?_⟩
  refine z_if_eq E d_Mo_writer_10 (tgt := 45) (by decide) ⟨fun q => ?_, fun q => ?_⟩
  · have h := h.1 q
    refine z_iinc E 4 [1, 2, 3, 4, 0] (v := v4 + 1) d_Mo_writer_45 rfl rfl (by decide) rfl ?_
    refine z_goto E d_Mo_writer_48 (tgt := 3) (by decide) ?_
    exact h
  · have h := h.2 q
    refine z_aload_n E 0 d_Mo_writer_13 rfl rfl ?_
    refine z_getR E f_Mo_77 d_Mo_writer_14 ?_
    refine z_iload E 4 d_Mo_writer_17 rfl ?_
    obtain ⟨h0, h⟩ := h
    refine z_iald E rfl d_Mo_writer_19 ⟨h0, ?_⟩
    refine z_iload_n E 3 d_Mo_writer_20 rfl rfl ?_
    refine z_if_eq E d_Mo_writer_21 (tgt := 39) (by decide) ⟨fun q => ?_, fun q => ?_⟩
    · have h := h.1 q
      refine z_iconst E (v := 0) d_Mo_writer_39 (by decide) ?_
      refine z_iadd E d_Mo_writer_40 ?_
      refine z_iload_n E 2 d_Mo_writer_41 rfl rfl ?_
      refine z_icmp_eq E d_Mo_writer_42 (tgt := 51) (by decide) ⟨fun q => ?_, fun q => ?_⟩
      · have h := h.1 q
        refine z_iload E 4 d_Mo_writer_51 rfl ?_
        exact z_ireturn E rfl d_Mo_writer_53 h
      · have h := h.2 q
        refine z_iinc E 4 [1, 2, 3, 4, 0] (v := v4 + 1) d_Mo_writer_45 rfl rfl (by decide) rfl ?_
        refine z_goto E d_Mo_writer_48 (tgt := 3) (by decide) ?_
        exact h
    · have h := h.2 q
      refine z_aload_n E 0 d_Mo_writer_24 rfl rfl ?_
      refine z_getR E f_Mo_7 d_Mo_writer_25 ?_
      refine z_bipush E (v := 12) d_Mo_writer_28 (by decide) ?_
      refine z_iload E 4 d_Mo_writer_30 rfl ?_
      refine z_imul E d_Mo_writer_32 ?_
      refine z_iload_n E 1 d_Mo_writer_33 rfl rfl ?_
      refine z_iadd E d_Mo_writer_34 ?_
      obtain ⟨h0, h⟩ := h
      refine z_iald E rfl d_Mo_writer_35 ⟨h0, ?_⟩
      refine z_goto E d_Mo_writer_36 (tgt := 40) (by decide) ?_
      refine z_iadd E d_Mo_writer_40 ?_
      refine z_iload_n E 2 d_Mo_writer_41 rfl rfl ?_
      refine z_icmp_eq E d_Mo_writer_42 (tgt := 51) (by decide) ⟨fun q => ?_, fun q => ?_⟩
      · have h := h.1 q
        refine z_iload E 4 d_Mo_writer_51 rfl ?_
        exact z_ireturn E rfl d_Mo_writer_53 h
      · have h := h.2 q
        refine z_iinc E 4 [1, 2, 3, 4, 0] (v := v4 + 1) d_Mo_writer_45 rfl rfl (by decide) rfl ?_
        refine z_goto E d_Mo_writer_48 (tgt := 3) (by decide) ?_
        exact h

set_option maxRecDepth 20000 in
theorem b_Mo_act_0 {G : zG} {X : zX} {post : Option Value → zSt → Prop} (E : zCtx G M_Mo_act (zKm G 1 X post) X) (v1 : Int32) (v2 : Int32) (v3 : Int32) (σ : zSt)
    (h : ((¬ (σ 32 5) = (3 : Int32) → zZ G M_Mo_act 1 X post 31 [(0, zf G 32), (1, .int v1), (2, .int v2), (3, .int v3), (4, .int (0 : Int32)), (5, .int (2000 : Int32)), (6, .int (-2000 : Int32)), (7, .int (0 : Int32)), (8, .int (0 : Int32))] [] σ) ∧ ((σ 32 5) = (3 : Int32) → zZ G M_Mo_act 1 X post 31 [(0, zf G 32), (1, .int v1), (2, .int v2), (3, .int v3), (4, .int (1 : Int32)), (5, .int (2000 : Int32)), (6, .int (-2000 : Int32)), (7, .int (0 : Int32)), (8, .int (0 : Int32))] [] σ))) :
    zZ G M_Mo_act 1 X post 0 [(0, zf G 32), (1, .int v1), (2, .int v2), (3, .int v3)] [] σ := by
  refine z_aload_n E 0 d_Mo_act_0 rfl rfl ?_
  refine z_getI E f_Mo_123 d_Mo_act_1 ?_
  refine z_iconst E (v := 3) d_Mo_act_4 (by decide) ?_
  refine z_icmp_ne E d_Mo_act_5 (tgt := 12) (by decide) ⟨fun q => ?_, fun q => ?_⟩
  · have h := h.1 q
    refine z_iconst E (v := 0) d_Mo_act_12 (by decide) ?_
    refine z_istore E [1, 2, 3, 4, 0] d_Mo_act_13 (by decide) rfl ?_
    refine z_sipush E (v := 2000) d_Mo_act_15 (by decide) ?_
    refine z_istore E [1, 2, 3, 4, 5, 0] d_Mo_act_18 (by decide) rfl ?_
    refine z_sipush E (v := -2000) d_Mo_act_20 (by decide) ?_
    refine z_istore E [1, 2, 3, 4, 5, 6, 0] d_Mo_act_23 (by decide) rfl ?_
    refine z_iconst E (v := 0) d_Mo_act_25 (by decide) ?_
    refine z_istore E [1, 2, 3, 4, 5, 6, 7, 0] d_Mo_act_26 (by decide) rfl ?_
    refine z_iconst E (v := 0) d_Mo_act_28 (by decide) ?_
    refine z_istore E [1, 2, 3, 4, 5, 6, 7, 8, 0] d_Mo_act_29 (by decide) rfl ?_
    exact h
  · have h := h.2 q
    refine z_iconst E (v := 1) d_Mo_act_8 (by decide) ?_
    refine z_goto E d_Mo_act_9 (tgt := 13) (by decide) ?_
    refine z_istore E [1, 2, 3, 4, 0] d_Mo_act_13 (by decide) rfl ?_
    refine z_sipush E (v := 2000) d_Mo_act_15 (by decide) ?_
    refine z_istore E [1, 2, 3, 4, 5, 0] d_Mo_act_18 (by decide) rfl ?_
    refine z_sipush E (v := -2000) d_Mo_act_20 (by decide) ?_
    refine z_istore E [1, 2, 3, 4, 5, 6, 0] d_Mo_act_23 (by decide) rfl ?_
    refine z_iconst E (v := 0) d_Mo_act_25 (by decide) ?_
    refine z_istore E [1, 2, 3, 4, 5, 6, 7, 0] d_Mo_act_26 (by decide) rfl ?_
    refine z_iconst E (v := 0) d_Mo_act_28 (by decide) ?_
    refine z_istore E [1, 2, 3, 4, 5, 6, 7, 8, 0] d_Mo_act_29 (by decide) rfl ?_
    exact h

set_option maxRecDepth 20000 in
theorem b_Mo_act_31 {G : zG} {X : zX} {post : Option Value → zSt → Prop} (E : zCtx G M_Mo_act (zKm G 1 X post) X) (v1 : Int32) (v2 : Int32) (v3 : Int32) (v4 : Int32) (v5 : Int32) (v6 : Int32) (v7 : Int32) (v8 : Int32) (σ : zSt)
    (h : (((σ 32 0) ≤ v8 → ((v6 ≤ (-2000 : Int32) → zZ G M_Mo_act 1 X post 174 [(0, zf G 32), (1, .int v1), (2, .int v2), (3, .int v3), (4, .int v4), (5, .int v5), (6, .int v6), (7, .int v7), (8, .int (0 : Int32))] [] σ) ∧ (¬ v6 ≤ (-2000 : Int32) → zZ G M_Mo_act 1 X post 174 [(0, zf G 32), (1, .int v1), (2, .int v2), (3, .int v3), (4, .int v4), (5, .int v5), (6, .int v6), (7, .int v7), (8, .int (1 : Int32))] [] σ))) ∧ (¬ (σ 32 0) ≤ v8 → (vp_in v8 12 ∧ (((σ 54 v8.toNatClampNeg) = 0 → zZ G M_Mo_act 1 X post 31 [(0, zf G 32), (1, .int v1), (2, .int v2), (3, .int v3), (4, .int v4), (5, .int v5), (6, .int v6), (7, .int v7), (8, .int (v8 + 1))] [] σ) ∧ (¬ (σ 54 v8.toNatClampNeg) = 0 → (vp_in v8 12 ∧ ((v4 = 0 → ((v5 ≤ ((σ 55 v8.toNatClampNeg) + (0 : Int32)) → ((((σ 55 v8.toNatClampNeg) + (0 : Int32)) ≤ v6 → zZ G M_Mo_act 1 X post 113 [(0, zf G 32), (1, .int v1), (2, .int v2), (3, .int v3), (4, .int v4), (5, .int v5), (6, .int v6), (7, .int v7), (8, .int v8), (9, .int ((σ 55 v8.toNatClampNeg) + (0 : Int32)))] [] σ) ∧ (¬ ((σ 55 v8.toNatClampNeg) + (0 : Int32)) ≤ v6 → zZ G M_Mo_act 1 X post 113 [(0, zf G 32), (1, .int v1), (2, .int v2), (3, .int v3), (4, .int v4), (5, .int v5), (6, .int ((σ 55 v8.toNatClampNeg) + (0 : Int32))), (7, .int v7), (8, .int v8), (9, .int ((σ 55 v8.toNatClampNeg) + (0 : Int32)))] [] σ))) ∧ (¬ v5 ≤ ((σ 55 v8.toNatClampNeg) + (0 : Int32)) → ((((σ 55 v8.toNatClampNeg) + (0 : Int32)) ≤ v6 → zZ G M_Mo_act 1 X post 113 [(0, zf G 32), (1, .int v1), (2, .int v2), (3, .int v3), (4, .int v4), (5, .int ((σ 55 v8.toNatClampNeg) + (0 : Int32))), (6, .int v6), (7, .int v7), (8, .int v8), (9, .int ((σ 55 v8.toNatClampNeg) + (0 : Int32)))] [] σ) ∧ (¬ ((σ 55 v8.toNatClampNeg) + (0 : Int32)) ≤ v6 → zZ G M_Mo_act 1 X post 113 [(0, zf G 32), (1, .int v1), (2, .int v2), (3, .int v3), (4, .int v4), (5, .int ((σ 55 v8.toNatClampNeg) + (0 : Int32))), (6, .int ((σ 55 v8.toNatClampNeg) + (0 : Int32))), (7, .int v7), (8, .int v8), (9, .int ((σ 55 v8.toNatClampNeg) + (0 : Int32)))] [] σ))))) ∧ (¬ v4 = 0 → (vp_in (((12 : Int32) * v8) + v2) 144 ∧ ((v5 ≤ ((σ 55 v8.toNatClampNeg) + (σ 33 (((12 : Int32) * v8) + v2).toNatClampNeg)) → ((((σ 55 v8.toNatClampNeg) + (σ 33 (((12 : Int32) * v8) + v2).toNatClampNeg)) ≤ v6 → zZ G M_Mo_act 1 X post 113 [(0, zf G 32), (1, .int v1), (2, .int v2), (3, .int v3), (4, .int v4), (5, .int v5), (6, .int v6), (7, .int v7), (8, .int v8), (9, .int ((σ 55 v8.toNatClampNeg) + (σ 33 (((12 : Int32) * v8) + v2).toNatClampNeg)))] [] σ) ∧ (¬ ((σ 55 v8.toNatClampNeg) + (σ 33 (((12 : Int32) * v8) + v2).toNatClampNeg)) ≤ v6 → zZ G M_Mo_act 1 X post 113 [(0, zf G 32), (1, .int v1), (2, .int v2), (3, .int v3), (4, .int v4), (5, .int v5), (6, .int ((σ 55 v8.toNatClampNeg) + (σ 33 (((12 : Int32) * v8) + v2).toNatClampNeg))), (7, .int v7), (8, .int v8), (9, .int ((σ 55 v8.toNatClampNeg) + (σ 33 (((12 : Int32) * v8) + v2).toNatClampNeg)))] [] σ))) ∧ (¬ v5 ≤ ((σ 55 v8.toNatClampNeg) + (σ 33 (((12 : Int32) * v8) + v2).toNatClampNeg)) → ((((σ 55 v8.toNatClampNeg) + (σ 33 (((12 : Int32) * v8) + v2).toNatClampNeg)) ≤ v6 → zZ G M_Mo_act 1 X post 113 [(0, zf G 32), (1, .int v1), (2, .int v2), (3, .int v3), (4, .int v4), (5, .int ((σ 55 v8.toNatClampNeg) + (σ 33 (((12 : Int32) * v8) + v2).toNatClampNeg))), (6, .int v6), (7, .int v7), (8, .int v8), (9, .int ((σ 55 v8.toNatClampNeg) + (σ 33 (((12 : Int32) * v8) + v2).toNatClampNeg)))] [] σ) ∧ (¬ ((σ 55 v8.toNatClampNeg) + (σ 33 (((12 : Int32) * v8) + v2).toNatClampNeg)) ≤ v6 → zZ G M_Mo_act 1 X post 113 [(0, zf G 32), (1, .int v1), (2, .int v2), (3, .int v3), (4, .int v4), (5, .int ((σ 55 v8.toNatClampNeg) + (σ 33 (((12 : Int32) * v8) + v2).toNatClampNeg))), (6, .int ((σ 55 v8.toNatClampNeg) + (σ 33 (((12 : Int32) * v8) + v2).toNatClampNeg))), (7, .int v7), (8, .int v8), (9, .int ((σ 55 v8.toNatClampNeg) + (σ 33 (((12 : Int32) * v8) + v2).toNatClampNeg)))] [] σ)))))))))))))) :
    zZ G M_Mo_act 1 X post 31 [(0, zf G 32), (1, .int v1), (2, .int v2), (3, .int v3), (4, .int v4), (5, .int v5), (6, .int v6), (7, .int v7), (8, .int v8)] [] σ := by
  refine z_iload E 8 d_Mo_act_31 rfl ?_
  refine z_aload_n E 0 d_Mo_act_33 rfl rfl ?_
  refine z_getI E f_Mo_84 d_Mo_act_34 ?_
  refine z_icmp_ge E d_Mo_act_37 (tgt := 159) (by decide) ⟨fun q => ?_, fun q => ?_⟩
  · have h := h.1 q
    refine z_iload E 6 d_Mo_act_159 rfl ?_
    refine z_sipush E (v := -2000) d_Mo_act_161 (by decide) ?_
    refine z_icmp_le E d_Mo_act_164 (tgt := 171) (by decide) ⟨fun q => ?_, fun q => ?_⟩
    · have h := h.1 q
      refine z_iconst E (v := 0) d_Mo_act_171 (by decide) ?_
      refine z_istore E [1, 2, 3, 4, 5, 6, 7, 8, 0] d_Mo_act_172 (by decide) rfl ?_
      exact h
    · have h := h.2 q
      refine z_iconst E (v := 1) d_Mo_act_167 (by decide) ?_
      refine z_goto E d_Mo_act_168 (tgt := 172) (by decide) ?_
      refine z_istore E [1, 2, 3, 4, 5, 6, 7, 8, 0] d_Mo_act_172 (by decide) rfl ?_
      exact h
  · have h := h.2 q
    refine z_aload_n E 0 d_Mo_act_40 rfl rfl ?_
    refine z_getR E f_Mo_74 d_Mo_act_41 ?_
    refine z_iload E 8 d_Mo_act_44 rfl ?_
    obtain ⟨h0, h⟩ := h
    refine z_zald E rfl d_Mo_act_46 ⟨h0, ?_⟩
    refine z_if_eq E d_Mo_act_47 (tgt := 153) (by decide) ⟨fun q => ?_, fun q => ?_⟩
    · have h := h.1 q
      refine z_iinc E 8 [1, 2, 3, 4, 5, 6, 7, 8, 0] (v := v8 + 1) d_Mo_act_153 rfl rfl (by decide) rfl ?_
      refine z_goto E d_Mo_act_156 (tgt := 31) (by decide) ?_
      exact h
    · have h := h.2 q
      refine z_aload_n E 0 d_Mo_act_50 rfl rfl ?_
      refine z_getR E f_Mo_77 d_Mo_act_51 ?_
      refine z_iload E 8 d_Mo_act_54 rfl ?_
      obtain ⟨h0, h⟩ := h
      refine z_iald E rfl d_Mo_act_56 ⟨h0, ?_⟩
      refine z_iload E 4 d_Mo_act_57 rfl ?_
      refine z_if_eq E d_Mo_act_59 (tgt := 77) (by decide) ⟨fun q => ?_, fun q => ?_⟩
      · have h := h.1 q
        refine z_iconst E (v := 0) d_Mo_act_77 (by decide) ?_
        refine z_iadd E d_Mo_act_78 ?_
        refine z_istore E [1, 2, 3, 4, 5, 6, 7, 8, 9, 0] d_Mo_act_79 (by decide) rfl ?_
        refine z_iload E 9 d_Mo_act_81 rfl ?_
        refine z_iload E 5 d_Mo_act_83 rfl ?_
        refine z_icmp_ge E d_Mo_act_85 (tgt := 93) (by decide) ⟨fun q => ?_, fun q => ?_⟩
        · have h := h.1 q
          refine z_iload E 5 d_Mo_act_93 rfl ?_
          refine z_istore E [1, 2, 3, 4, 5, 0, 6, 7, 8, 9] d_Mo_act_95 (by decide) rfl ?_
          refine z_iload E 9 d_Mo_act_97 rfl ?_
          refine z_iload E 6 d_Mo_act_99 rfl ?_
          refine z_icmp_le E d_Mo_act_101 (tgt := 109) (by decide) ⟨fun q => ?_, fun q => ?_⟩
          · have h := h.1 q
            refine z_iload E 6 d_Mo_act_109 rfl ?_
            refine z_istore E [1, 2, 3, 4, 5, 6, 0, 7, 8, 9] d_Mo_act_111 (by decide) rfl ?_
            exact h
          · have h := h.2 q
            refine z_iload E 9 d_Mo_act_104 rfl ?_
            refine z_goto E d_Mo_act_106 (tgt := 111) (by decide) ?_
            refine z_istore E [1, 2, 3, 4, 5, 6, 0, 7, 8, 9] d_Mo_act_111 (by decide) rfl ?_
            exact h
        · have h := h.2 q
          refine z_iload E 9 d_Mo_act_88 rfl ?_
          refine z_goto E d_Mo_act_90 (tgt := 95) (by decide) ?_
          refine z_istore E [1, 2, 3, 4, 5, 0, 6, 7, 8, 9] d_Mo_act_95 (by decide) rfl ?_
          refine z_iload E 9 d_Mo_act_97 rfl ?_
          refine z_iload E 6 d_Mo_act_99 rfl ?_
          refine z_icmp_le E d_Mo_act_101 (tgt := 109) (by decide) ⟨fun q => ?_, fun q => ?_⟩
          · have h := h.1 q
            refine z_iload E 6 d_Mo_act_109 rfl ?_
            refine z_istore E [1, 2, 3, 4, 5, 6, 0, 7, 8, 9] d_Mo_act_111 (by decide) rfl ?_
            exact h
          · have h := h.2 q
            refine z_iload E 9 d_Mo_act_104 rfl ?_
            refine z_goto E d_Mo_act_106 (tgt := 111) (by decide) ?_
            refine z_istore E [1, 2, 3, 4, 5, 6, 0, 7, 8, 9] d_Mo_act_111 (by decide) rfl ?_
            exact h
      · have h := h.2 q
        refine z_aload_n E 0 d_Mo_act_62 rfl rfl ?_
        refine z_getR E f_Mo_7 d_Mo_act_63 ?_
        refine z_bipush E (v := 12) d_Mo_act_66 (by decide) ?_
        refine z_iload E 8 d_Mo_act_68 rfl ?_
        refine z_imul E d_Mo_act_70 ?_
        refine z_iload_n E 2 d_Mo_act_71 rfl rfl ?_
        refine z_iadd E d_Mo_act_72 ?_
        obtain ⟨h0, h⟩ := h
        refine z_iald E rfl d_Mo_act_73 ⟨h0, ?_⟩
        refine z_goto E d_Mo_act_74 (tgt := 78) (by decide) ?_
        refine z_iadd E d_Mo_act_78 ?_
        refine z_istore E [1, 2, 3, 4, 5, 6, 7, 8, 9, 0] d_Mo_act_79 (by decide) rfl ?_
        refine z_iload E 9 d_Mo_act_81 rfl ?_
        refine z_iload E 5 d_Mo_act_83 rfl ?_
        refine z_icmp_ge E d_Mo_act_85 (tgt := 93) (by decide) ⟨fun q => ?_, fun q => ?_⟩
        · have h := h.1 q
          refine z_iload E 5 d_Mo_act_93 rfl ?_
          refine z_istore E [1, 2, 3, 4, 5, 0, 6, 7, 8, 9] d_Mo_act_95 (by decide) rfl ?_
          refine z_iload E 9 d_Mo_act_97 rfl ?_
          refine z_iload E 6 d_Mo_act_99 rfl ?_
          refine z_icmp_le E d_Mo_act_101 (tgt := 109) (by decide) ⟨fun q => ?_, fun q => ?_⟩
          · have h := h.1 q
            refine z_iload E 6 d_Mo_act_109 rfl ?_
            refine z_istore E [1, 2, 3, 4, 5, 6, 0, 7, 8, 9] d_Mo_act_111 (by decide) rfl ?_
            exact h
          · have h := h.2 q
            refine z_iload E 9 d_Mo_act_104 rfl ?_
            refine z_goto E d_Mo_act_106 (tgt := 111) (by decide) ?_
            refine z_istore E [1, 2, 3, 4, 5, 6, 0, 7, 8, 9] d_Mo_act_111 (by decide) rfl ?_
            exact h
        · have h := h.2 q
          refine z_iload E 9 d_Mo_act_88 rfl ?_
          refine z_goto E d_Mo_act_90 (tgt := 95) (by decide) ?_
          refine z_istore E [1, 2, 3, 4, 5, 0, 6, 7, 8, 9] d_Mo_act_95 (by decide) rfl ?_
          refine z_iload E 9 d_Mo_act_97 rfl ?_
          refine z_iload E 6 d_Mo_act_99 rfl ?_
          refine z_icmp_le E d_Mo_act_101 (tgt := 109) (by decide) ⟨fun q => ?_, fun q => ?_⟩
          · have h := h.1 q
            refine z_iload E 6 d_Mo_act_109 rfl ?_
            refine z_istore E [1, 2, 3, 4, 5, 6, 0, 7, 8, 9] d_Mo_act_111 (by decide) rfl ?_
            exact h
          · have h := h.2 q
            refine z_iload E 9 d_Mo_act_104 rfl ?_
            refine z_goto E d_Mo_act_106 (tgt := 111) (by decide) ?_
            refine z_istore E [1, 2, 3, 4, 5, 6, 0, 7, 8, 9] d_Mo_act_111 (by decide) rfl ?_
            exact h

set_option maxRecDepth 20000 in
theorem b_Mo_act_113 {G : zG} {X : zX} {post : Option Value → zSt → Prop} (E : zCtx G M_Mo_act (zKm G 1 X post) X) (v1 : Int32) (v2 : Int32) (v3 : Int32) (v4 : Int32) (v5 : Int32) (v6 : Int32) (v7 : Int32) (v8 : Int32) (v9 : Int32) (σ : zSt)
    (h : ((¬ v7 = 0 → zZ G M_Mo_act 1 X post 31 [(0, zf G 32), (1, .int v1), (2, .int v2), (3, .int v3), (4, .int v4), (5, .int v5), (6, .int v6), (7, .int (1 : Int32)), (8, .int (v8 + 1))] [] σ) ∧ (v7 = 0 → (vp_in v2 12 ∧ (((σ 34 v2.toNatClampNeg) < v9 → zZ G M_Mo_act 1 X post 31 [(0, zf G 32), (1, .int v1), (2, .int v2), (3, .int v3), (4, .int v4), (5, .int v5), (6, .int v6), (7, .int (1 : Int32)), (8, .int (v8 + 1))] [] σ) ∧ (¬ (σ 34 v2.toNatClampNeg) < v9 → (vp_in v2 12 ∧ ((¬ v9 = (σ 34 v2.toNatClampNeg) → zZ G M_Mo_act 1 X post 31 [(0, zf G 32), (1, .int v1), (2, .int v2), (3, .int v3), (4, .int v4), (5, .int v5), (6, .int v6), (7, .int (0 : Int32)), (8, .int (v8 + 1))] [] σ) ∧ (v9 = (σ 34 v2.toNatClampNeg) → ((v8 ≤ v2 → zZ G M_Mo_act 1 X post 31 [(0, zf G 32), (1, .int v1), (2, .int v2), (3, .int v3), (4, .int v4), (5, .int v5), (6, .int v6), (7, .int (0 : Int32)), (8, .int (v8 + 1))] [] σ) ∧ (¬ v8 ≤ v2 → zZ G M_Mo_act 1 X post 31 [(0, zf G 32), (1, .int v1), (2, .int v2), (3, .int v3), (4, .int v4), (5, .int v5), (6, .int v6), (7, .int (1 : Int32)), (8, .int (v8 + 1))] [] σ))))))))))) :
    zZ G M_Mo_act 1 X post 113 [(0, zf G 32), (1, .int v1), (2, .int v2), (3, .int v3), (4, .int v4), (5, .int v5), (6, .int v6), (7, .int v7), (8, .int v8), (9, .int v9)] [] σ := by
  refine z_iload E 7 d_Mo_act_113 rfl ?_
  refine z_if_ne E d_Mo_act_115 (tgt := 146) (by decide) ⟨fun q => ?_, fun q => ?_⟩
  · have h := h.1 q
    refine z_iconst E (v := 1) d_Mo_act_146 (by decide) ?_
    refine z_goto E d_Mo_act_147 (tgt := 151) (by decide) ?_
    refine z_istore E [1, 2, 3, 4, 5, 6, 7, 0, 8] d_Mo_act_151 (by decide) rfl ?_
    refine z_iinc E 8 [1, 2, 3, 4, 5, 6, 7, 8, 0] (v := v8 + 1) d_Mo_act_153 rfl rfl (by decide) rfl ?_
    refine z_goto E d_Mo_act_156 (tgt := 31) (by decide) ?_
    exact h
  · have h := h.2 q
    refine z_iload E 9 d_Mo_act_118 rfl ?_
    refine z_aload_n E 0 d_Mo_act_120 rfl rfl ?_
    refine z_getR E f_Mo_13 d_Mo_act_121 ?_
    refine z_iload_n E 2 d_Mo_act_124 rfl rfl ?_
    obtain ⟨h0, h⟩ := h
    refine z_iald E rfl d_Mo_act_125 ⟨h0, ?_⟩
    refine z_icmp_gt E d_Mo_act_126 (tgt := 146) (by decide) ⟨fun q => ?_, fun q => ?_⟩
    · have h := h.1 q
      refine z_iconst E (v := 1) d_Mo_act_146 (by decide) ?_
      refine z_goto E d_Mo_act_147 (tgt := 151) (by decide) ?_
      refine z_istore E [1, 2, 3, 4, 5, 6, 7, 0, 8] d_Mo_act_151 (by decide) rfl ?_
      refine z_iinc E 8 [1, 2, 3, 4, 5, 6, 7, 8, 0] (v := v8 + 1) d_Mo_act_153 rfl rfl (by decide) rfl ?_
      refine z_goto E d_Mo_act_156 (tgt := 31) (by decide) ?_
      exact h
    · have h := h.2 q
      refine z_iload E 9 d_Mo_act_129 rfl ?_
      refine z_aload_n E 0 d_Mo_act_131 rfl rfl ?_
      refine z_getR E f_Mo_13 d_Mo_act_132 ?_
      refine z_iload_n E 2 d_Mo_act_135 rfl rfl ?_
      obtain ⟨h0, h⟩ := h
      refine z_iald E rfl d_Mo_act_136 ⟨h0, ?_⟩
      refine z_icmp_ne E d_Mo_act_137 (tgt := 150) (by decide) ⟨fun q => ?_, fun q => ?_⟩
      · have h := h.1 q
        refine z_iconst E (v := 0) d_Mo_act_150 (by decide) ?_
        refine z_istore E [1, 2, 3, 4, 5, 6, 7, 0, 8] d_Mo_act_151 (by decide) rfl ?_
        refine z_iinc E 8 [1, 2, 3, 4, 5, 6, 7, 8, 0] (v := v8 + 1) d_Mo_act_153 rfl rfl (by decide) rfl ?_
        refine z_goto E d_Mo_act_156 (tgt := 31) (by decide) ?_
        exact h
      · have h := h.2 q
        refine z_iload E 8 d_Mo_act_140 rfl ?_
        refine z_iload_n E 2 d_Mo_act_142 rfl rfl ?_
        refine z_icmp_le E d_Mo_act_143 (tgt := 150) (by decide) ⟨fun q => ?_, fun q => ?_⟩
        · have h := h.1 q
          refine z_iconst E (v := 0) d_Mo_act_150 (by decide) ?_
          refine z_istore E [1, 2, 3, 4, 5, 6, 7, 0, 8] d_Mo_act_151 (by decide) rfl ?_
          refine z_iinc E 8 [1, 2, 3, 4, 5, 6, 7, 8, 0] (v := v8 + 1) d_Mo_act_153 rfl rfl (by decide) rfl ?_
          refine z_goto E d_Mo_act_156 (tgt := 31) (by decide) ?_
          exact h
        · have h := h.2 q
          refine z_iconst E (v := 1) d_Mo_act_146 (by decide) ?_
          refine z_goto E d_Mo_act_147 (tgt := 151) (by decide) ?_
          refine z_istore E [1, 2, 3, 4, 5, 6, 7, 0, 8] d_Mo_act_151 (by decide) rfl ?_
          refine z_iinc E 8 [1, 2, 3, 4, 5, 6, 7, 8, 0] (v := v8 + 1) d_Mo_act_153 rfl rfl (by decide) rfl ?_
          refine z_goto E d_Mo_act_156 (tgt := 31) (by decide) ?_
          exact h

set_option maxRecDepth 20000 in
theorem b_Mo_act_174 {G : zG} {X : zX} {post : Option Value → zSt → Prop} (E : zCtx G M_Mo_act (zKm G 1 X post) X) (v1 : Int32) (v2 : Int32) (v3 : Int32) (v4 : Int32) (v5 : Int32) (v6 : Int32) (v7 : Int32) (v8 : Int32) (σ : zSt)
    (h : ((¬ (σ 32 5) = (2 : Int32) → ((¬ v3 = (1 : Int32) → ((v8 = 0 → zZ G M_Mo_act 1 X post 382 [(0, zf G 32), (1, .int v1), (2, .int v2), (4, .int v4), (5, .int v5), (6, .int v6), (9, .int (0 : Int32))] [] σ) ∧ (¬ v8 = 0 → ((¬ (σ 32 5) = (1 : Int32) → (vp_in v1 24 ∧ (((σ 47 v1.toNatClampNeg) = (-2 : Int32) → zZ G M_Mo_act 1 X post 382 [(0, zf G 32), (1, .int v1), (2, .int v2), (4, .int v4), (5, .int v5), (6, .int v6), (9, .int (1 : Int32))] [] σ) ∧ (¬ (σ 47 v1.toNatClampNeg) = (-2 : Int32) → ((v4 = 0 → zZ G M_Mo_act 1 X post 382 [(0, zf G 32), (1, .int v1), (2, .int v2), (4, .int v4), (5, .int v5), (6, .int v6), (9, .int (0 : Int32))] [] σ) ∧ (¬ v4 = 0 → (vp_in v1 24 ∧ (((σ 47 v1.toNatClampNeg) ≤ v5 → zZ G M_Mo_act 1 X post 382 [(0, zf G 32), (1, .int v1), (2, .int v2), (4, .int v4), (5, .int v5), (6, .int v6), (9, .int (0 : Int32))] [] σ) ∧ (¬ (σ 47 v1.toNatClampNeg) ≤ v5 → zZ G M_Mo_act 1 X post 382 [(0, zf G 32), (1, .int v1), (2, .int v2), (4, .int v4), (5, .int v5), (6, .int v6), (9, .int (1 : Int32))] [] σ))))))))) ∧ ((σ 32 5) = (1 : Int32) → (vp_in v1 24 ∧ ((v6 ≤ (σ 47 v1.toNatClampNeg) → zZ G M_Mo_act 1 X post 382 [(0, zf G 32), (1, .int v1), (2, .int v2), (4, .int v4), (5, .int v5), (6, .int v6), (9, .int (0 : Int32))] [] σ) ∧ (¬ v6 ≤ (σ 47 v1.toNatClampNeg) → zZ G M_Mo_act 1 X post 382 [(0, zf G 32), (1, .int v1), (2, .int v2), (4, .int v4), (5, .int v5), (6, .int v6), (9, .int (1 : Int32))] [] σ)))))))) ∧ (v3 = (1 : Int32) → ((¬ (σ 32 5) = (1 : Int32) → ((v2 = (σ 32 7) → ((¬ (σ 32 5) = 0 → post (some (.int (0 : Int32))) σ) ∧ ((σ 32 5) = 0 → post (some (.int (1 : Int32))) σ))) ∧ (¬ v2 = (σ 32 7) → post (some (.int (-1000 : Int32))) σ))) ∧ ((σ 32 5) = (1 : Int32) → (vp_in v1 24 ∧ post (some (.int (σ 47 v1.toNatClampNeg))) σ)))))) ∧ ((σ 32 5) = (2 : Int32) → (vp_in v1 24 ∧ (((σ 47 v1.toNatClampNeg) = 0 → ((¬ (v3 - v3 / (2 : Int32) * (2 : Int32)) = 0 → ((v8 = 0 → (vp_in v2 12 ∧ post (some (.int (σ 34 v2.toNatClampNeg))) σ)) ∧ (¬ v8 = 0 → ((¬ v5 = (-1 : Int32) → (vp_in v2 12 ∧ post (some (.int (σ 34 v2.toNatClampNeg))) σ)) ∧ (v5 = (-1 : Int32) → (vp_in v1 24 ∧ ∀ σ1 : zSt, σ1 = zup σ 47 v1.toNatClampNeg (2 : Int32) → (∃ P : Int32 → zSt → Prop, zI G 0 M_Mo_writer [zf G 32, .int v2, .int (-1 : Int32), .int (0 : Int32)] σ1 P ∧ ∀ (x3 : Int32) (σ2 : zSt), P x3 σ2 → (vp_in v1 24 ∧ ∀ σ4 : zSt, σ4 = zup σ2 48 v1.toNatClampNeg x3 → post (some (.int (-1000 : Int32))) σ4)))))))) ∧ ((v3 - v3 / (2 : Int32) * (2 : Int32)) = 0 → ((v7 = 0 → (vp_in v1 24 ∧ ∀ σ5 : zSt, σ5 = zup σ 47 v1.toNatClampNeg (1 : Int32) → ((v7 = 0 → post (some (.int (-1 : Int32))) σ5) ∧ (¬ v7 = 0 → post (some (.int (-1000 : Int32))) σ5)))) ∧ (¬ v7 = 0 → (vp_in v1 24 ∧ ∀ σ6 : zSt, σ6 = zup σ 47 v1.toNatClampNeg (0 : Int32) → ((v7 = 0 → post (some (.int (-1 : Int32))) σ6) ∧ (¬ v7 = 0 → post (some (.int (-1000 : Int32))) σ6)))))))) ∧ (¬ (σ 47 v1.toNatClampNeg) = 0 → post (some (.int (-1000 : Int32))) σ)))))) :
    zZ G M_Mo_act 1 X post 174 [(0, zf G 32), (1, .int v1), (2, .int v2), (3, .int v3), (4, .int v4), (5, .int v5), (6, .int v6), (7, .int v7), (8, .int v8)] [] σ := by
  refine z_aload_n E 0 d_Mo_act_174 rfl rfl ?_
  refine z_getI E f_Mo_123 d_Mo_act_175 ?_
  refine z_iconst E (v := 2) d_Mo_act_178 (by decide) ?_
  refine z_icmp_ne E d_Mo_act_179 (tgt := 272) (by decide) ⟨fun q => ?_, fun q => ?_⟩
  · have h := h.1 q
    refine z_iload_n E 3 d_Mo_act_272 rfl rfl ?_
    refine z_iconst E (v := 1) d_Mo_act_273 (by decide) ?_
    refine z_icmp_ne E d_Mo_act_274 (tgt := 321) (by decide) ⟨fun q => ?_, fun q => ?_⟩
    · have h := h.1 q
      refine z_iload E 8 d_Mo_act_321 rfl ?_
      refine z_if_eq E d_Mo_act_323 (tgt := 379) (by decide) ⟨fun q => ?_, fun q => ?_⟩
      · have h := h.1 q
        refine z_iconst E (v := 0) d_Mo_act_379 (by decide) ?_
        refine z_istore E [1, 2, 3, 5, 6, 7, 0] d_Mo_act_380 (by decide) rfl ?_
        exact h
      · have h := h.2 q
        refine z_aload_n E 0 d_Mo_act_326 rfl rfl ?_
        refine z_getI E f_Mo_123 d_Mo_act_327 ?_
        refine z_iconst E (v := 1) d_Mo_act_330 (by decide) ?_
        refine z_icmp_ne E d_Mo_act_331 (tgt := 348) (by decide) ⟨fun q => ?_, fun q => ?_⟩
        · have h := h.1 q
          refine z_aload_n E 0 d_Mo_act_348 rfl rfl ?_
          refine z_getR E f_Mo_53 d_Mo_act_349 ?_
          refine z_iload_n E 1 d_Mo_act_352 rfl rfl ?_
          obtain ⟨h0, h⟩ := h
          refine z_iald E rfl d_Mo_act_353 ⟨h0, ?_⟩
          refine z_bipush E (v := -2) d_Mo_act_354 (by decide) ?_
          refine z_icmp_eq E d_Mo_act_356 (tgt := 375) (by decide) ⟨fun q => ?_, fun q => ?_⟩
          · have h := h.1 q
            refine z_iconst E (v := 1) d_Mo_act_375 (by decide) ?_
            refine z_goto E d_Mo_act_376 (tgt := 380) (by decide) ?_
            refine z_istore E [1, 2, 3, 5, 6, 7, 0] d_Mo_act_380 (by decide) rfl ?_
            exact h
          · have h := h.2 q
            refine z_iload E 4 d_Mo_act_359 rfl ?_
            refine z_if_eq E d_Mo_act_361 (tgt := 379) (by decide) ⟨fun q => ?_, fun q => ?_⟩
            · have h := h.1 q
              refine z_iconst E (v := 0) d_Mo_act_379 (by decide) ?_
              refine z_istore E [1, 2, 3, 5, 6, 7, 0] d_Mo_act_380 (by decide) rfl ?_
              exact h
            · have h := h.2 q
              refine z_iload E 5 d_Mo_act_364 rfl ?_
              refine z_aload_n E 0 d_Mo_act_366 rfl rfl ?_
              refine z_getR E f_Mo_53 d_Mo_act_367 ?_
              refine z_iload_n E 1 d_Mo_act_370 rfl rfl ?_
              obtain ⟨h0, h⟩ := h
              refine z_iald E rfl d_Mo_act_371 ⟨h0, ?_⟩
              refine z_icmp_ge E d_Mo_act_372 (tgt := 379) (by decide) ⟨fun q => ?_, fun q => ?_⟩
              · have h := h.1 q
                refine z_iconst E (v := 0) d_Mo_act_379 (by decide) ?_
                refine z_istore E [1, 2, 3, 5, 6, 7, 0] d_Mo_act_380 (by decide) rfl ?_
                exact h
              · have h := h.2 q
                refine z_iconst E (v := 1) d_Mo_act_375 (by decide) ?_
                refine z_goto E d_Mo_act_376 (tgt := 380) (by decide) ?_
                refine z_istore E [1, 2, 3, 5, 6, 7, 0] d_Mo_act_380 (by decide) rfl ?_
                exact h
        · have h := h.2 q
          refine z_iload E 6 d_Mo_act_334 rfl ?_
          refine z_aload_n E 0 d_Mo_act_336 rfl rfl ?_
          refine z_getR E f_Mo_53 d_Mo_act_337 ?_
          refine z_iload_n E 1 d_Mo_act_340 rfl rfl ?_
          obtain ⟨h0, h⟩ := h
          refine z_iald E rfl d_Mo_act_341 ⟨h0, ?_⟩
          refine z_icmp_le E d_Mo_act_342 (tgt := 379) (by decide) ⟨fun q => ?_, fun q => ?_⟩
          · have h := h.1 q
            refine z_iconst E (v := 0) d_Mo_act_379 (by decide) ?_
            refine z_istore E [1, 2, 3, 5, 6, 7, 0] d_Mo_act_380 (by decide) rfl ?_
            exact h
          · have h := h.2 q
            refine z_goto E d_Mo_act_345 (tgt := 375) (by decide) ?_
            refine z_iconst E (v := 1) d_Mo_act_375 (by decide) ?_
            refine z_goto E d_Mo_act_376 (tgt := 380) (by decide) ?_
            refine z_istore E [1, 2, 3, 5, 6, 7, 0] d_Mo_act_380 (by decide) rfl ?_
            exact h
    · have h := h.2 q
      refine z_aload_n E 0 d_Mo_act_277 rfl rfl ?_
      refine z_getI E f_Mo_123 d_Mo_act_278 ?_
      refine z_iconst E (v := 1) d_Mo_act_281 (by decide) ?_
      refine z_icmp_ne E d_Mo_act_282 (tgt := 294) (by decide) ⟨fun q => ?_, fun q => ?_⟩
      · have h := h.1 q
        refine z_iload_n E 2 d_Mo_act_294 rfl rfl ?_
        refine z_aload_n E 0 d_Mo_act_295 rfl rfl ?_
        refine z_getI E f_Mo_126 d_Mo_act_296 ?_
        refine z_icmp_eq E d_Mo_act_299 (tgt := 308) (by decide) ⟨fun q => ?_, fun q => ?_⟩
        · have h := h.1 q
          refine z_aload_n E 0 d_Mo_act_308 rfl rfl ?_
          refine z_getI E f_Mo_123 d_Mo_act_309 ?_
          refine z_if_ne E d_Mo_act_312 (tgt := 319) (by decide) ⟨fun q => ?_, fun q => ?_⟩
          · have h := h.1 q
            refine z_iconst E (v := 0) d_Mo_act_319 (by decide) ?_
            exact z_ireturn E rfl d_Mo_act_320 h
          · have h := h.2 q
            refine z_iconst E (v := 1) d_Mo_act_315 (by decide) ?_
            refine z_goto E d_Mo_act_316 (tgt := 320) (by decide) ?_
            exact z_ireturn E rfl d_Mo_act_320 h
        · have h := h.2 q
          refine z_sipush E (v := -1000) d_Mo_act_302 (by decide) ?_
          refine z_goto E d_Mo_act_305 (tgt := 320) (by decide) ?_
          exact z_ireturn E rfl d_Mo_act_320 h
      · have h := h.2 q
        refine z_aload_n E 0 d_Mo_act_285 rfl rfl ?_
        refine z_getR E f_Mo_53 d_Mo_act_286 ?_
        refine z_iload_n E 1 d_Mo_act_289 rfl rfl ?_
        obtain ⟨h0, h⟩ := h
        refine z_iald E rfl d_Mo_act_290 ⟨h0, ?_⟩
        refine z_goto E d_Mo_act_291 (tgt := 320) (by decide) ?_
        exact z_ireturn E rfl d_Mo_act_320 h
  · have h := h.2 q
    refine z_aload_n E 0 d_Mo_act_182 rfl rfl ?_
    refine z_getR E f_Mo_53 d_Mo_act_183 ?_
    refine z_iload_n E 1 d_Mo_act_186 rfl rfl ?_
    obtain ⟨h0, h⟩ := h
    refine z_iald E rfl d_Mo_act_187 ⟨h0, ?_⟩
    refine z_if_eq E d_Mo_act_188 (tgt := 195) (by decide) ⟨fun q => ?_, fun q => ?_⟩
    · have h := h.1 q
      refine z_iload_n E 3 d_Mo_act_195 rfl rfl ?_
      refine z_iconst E (v := 2) d_Mo_act_196 (by decide) ?_
      refine z_irem E d_Mo_act_197 (by decide) ?_
      refine z_if_ne E d_Mo_act_198 (tgt := 230) (by decide) ⟨fun q => ?_, fun q => ?_⟩
      · have h := h.1 q
        refine z_iload E 8 d_Mo_act_230 rfl ?_
        refine z_if_eq E d_Mo_act_232 (tgt := 265) (by decide) ⟨fun q => ?_, fun q => ?_⟩
        · have h := h.1 q
          refine z_aload_n E 0 d_Mo_act_265 rfl rfl ?_
          refine z_getR E f_Mo_13 d_Mo_act_266 ?_
          refine z_iload_n E 2 d_Mo_act_269 rfl rfl ?_
          obtain ⟨h0, h⟩ := h
          refine z_iald E rfl d_Mo_act_270 ⟨h0, ?_⟩
          exact z_ireturn E rfl d_Mo_act_271 h
        · have h := h.2 q
          refine z_iload E 5 d_Mo_act_235 rfl ?_
          refine z_iconst E (v := -1) d_Mo_act_237 (by decide) ?_
          refine z_icmp_ne E d_Mo_act_238 (tgt := 265) (by decide) ⟨fun q => ?_, fun q => ?_⟩
          · have h := h.1 q
            refine z_aload_n E 0 d_Mo_act_265 rfl rfl ?_
            refine z_getR E f_Mo_13 d_Mo_act_266 ?_
            refine z_iload_n E 2 d_Mo_act_269 rfl rfl ?_
            obtain ⟨h0, h⟩ := h
            refine z_iald E rfl d_Mo_act_270 ⟨h0, ?_⟩
            exact z_ireturn E rfl d_Mo_act_271 h
          · have h := h.2 q
            refine z_aload_n E 0 d_Mo_act_241 rfl rfl ?_
            refine z_getR E f_Mo_53 d_Mo_act_242 ?_
            refine z_iload_n E 1 d_Mo_act_245 rfl rfl ?_
            refine z_iconst E (v := 2) d_Mo_act_246 (by decide) ?_
            obtain ⟨h0, h⟩ := h
            refine z_iast E rfl d_Mo_act_247 ⟨h0, ?_⟩
            have h := h _ rfl
            refine z_aload_n E 0 d_Mo_act_248 rfl rfl ?_
            refine z_getR E f_Mo_56 d_Mo_act_249 ?_
            refine z_iload_n E 1 d_Mo_act_252 rfl rfl ?_
            refine z_aload_n E 0 d_Mo_act_253 rfl rfl ?_
            refine z_iload_n E 2 d_Mo_act_254 rfl rfl ?_
            refine z_iconst E (v := -1) d_Mo_act_255 (by decide) ?_
            refine z_iconst E (v := 0) d_Mo_act_256 (by decide) ?_
            obtain ⟨P, hM, h⟩ := h
            refine z_callVI [.int v2, .int (-1 : Int32), .int (0 : Int32)] [.int v1, zf G 48] E hM c_Mo_129 r_Mo_writer rfl zrm rfl (Nat.le_of_ble_eq_true rfl) d_Mo_act_257 (fun x3 σ2 hp => ?_)
            have h := h x3 σ2 hp
            obtain ⟨h0, h⟩ := h
            refine z_iast E rfl d_Mo_act_260 ⟨h0, ?_⟩
            have h := h _ rfl
            refine z_sipush E (v := -1000) d_Mo_act_261 (by decide) ?_
            exact z_ireturn E rfl d_Mo_act_264 h
      · have h := h.2 q
        refine z_aload_n E 0 d_Mo_act_201 rfl rfl ?_
        refine z_getR E f_Mo_53 d_Mo_act_202 ?_
        refine z_iload_n E 1 d_Mo_act_205 rfl rfl ?_
        refine z_iload E 7 d_Mo_act_206 rfl ?_
        refine z_if_eq E d_Mo_act_208 (tgt := 215) (by decide) ⟨fun q => ?_, fun q => ?_⟩
        · have h := h.1 q
          refine z_iconst E (v := 1) d_Mo_act_215 (by decide) ?_
          obtain ⟨h0, h⟩ := h
          refine z_iast E rfl d_Mo_act_216 ⟨h0, ?_⟩
          have h := h _ rfl
          refine z_iload E 7 d_Mo_act_217 rfl ?_
          refine z_if_eq E d_Mo_act_219 (tgt := 228) (by decide) ⟨fun q => ?_, fun q => ?_⟩
          · have h := h.1 q
            refine z_iconst E (v := -1) d_Mo_act_228 (by decide) ?_
            exact z_ireturn E rfl d_Mo_act_229 h
          · have h := h.2 q
            refine z_sipush E (v := -1000) d_Mo_act_222 (by decide) ?_
            refine z_goto E d_Mo_act_225 (tgt := 229) (by decide) ?_
            exact z_ireturn E rfl d_Mo_act_229 h
        · have h := h.2 q
          refine z_iconst E (v := 0) d_Mo_act_211 (by decide) ?_
          refine z_goto E d_Mo_act_212 (tgt := 216) (by decide) ?_
          obtain ⟨h0, h⟩ := h
          refine z_iast E rfl d_Mo_act_216 ⟨h0, ?_⟩
          have h := h _ rfl
          refine z_iload E 7 d_Mo_act_217 rfl ?_
          refine z_if_eq E d_Mo_act_219 (tgt := 228) (by decide) ⟨fun q => ?_, fun q => ?_⟩
          · have h := h.1 q
            refine z_iconst E (v := -1) d_Mo_act_228 (by decide) ?_
            exact z_ireturn E rfl d_Mo_act_229 h
          · have h := h.2 q
            refine z_sipush E (v := -1000) d_Mo_act_222 (by decide) ?_
            refine z_goto E d_Mo_act_225 (tgt := 229) (by decide) ?_
            exact z_ireturn E rfl d_Mo_act_229 h
    · have h := h.2 q
      refine z_sipush E (v := -1000) d_Mo_act_191 (by decide) ?_
      exact z_ireturn E rfl d_Mo_act_194 h

set_option maxRecDepth 20000 in
theorem b_Mo_act_382 {G : zG} {X : zX} {post : Option Value → zSt → Prop} (E : zCtx G M_Mo_act (zKm G 1 X post) X) (v1 : Int32) (v2 : Int32) (v4 : Int32) (v5 : Int32) (v6 : Int32) (v9 : Int32) (σ : zSt)
    (h : ((¬ v9 = 0 → ((¬ (σ 32 5) = (1 : Int32) → (vp_in v1 24 ∧ ∀ σ1 : zSt, σ1 = zup σ 47 v1.toNatClampNeg v5 → (∃ P : Int32 → zSt → Prop, zI G 0 M_Mo_writer [zf G 32, .int v2, .int v5, .int v4] σ1 P ∧ ∀ (x3 : Int32) (σ2 : zSt), P x3 σ2 → (vp_in v1 24 ∧ ∀ σ4 : zSt, σ4 = zup σ2 48 v1.toNatClampNeg x3 → ((¬ (σ4 32 5) = 0 → post (some (.int v5)) σ4) ∧ ((σ4 32 5) = 0 → post (some (.int (v5 + (1 : Int32)))) σ4)))))) ∧ ((σ 32 5) = (1 : Int32) → (vp_in v1 24 ∧ ∀ σ5 : zSt, σ5 = zup σ 47 v1.toNatClampNeg v6 → (∃ P : Int32 → zSt → Prop, zI G 0 M_Mo_writer [zf G 32, .int v2, .int v6, .int v4] σ5 P ∧ ∀ (x7 : Int32) (σ6 : zSt), P x7 σ6 → (vp_in v1 24 ∧ ∀ σ8 : zSt, σ8 = zup σ6 48 v1.toNatClampNeg x7 → ((¬ (σ8 32 5) = 0 → post (some (.int v6)) σ8) ∧ ((σ8 32 5) = 0 → post (some (.int (v6 + (1 : Int32)))) σ8)))))))) ∧ (v9 = 0 → post (some (.int (-1000 : Int32))) σ))) :
    zZ G M_Mo_act 1 X post 382 [(0, zf G 32), (1, .int v1), (2, .int v2), (4, .int v4), (5, .int v5), (6, .int v6), (9, .int v9)] [] σ := by
  refine z_iload E 6 d_Mo_act_382 rfl ?_
  refine z_if_ne E d_Mo_act_384 (tgt := 391) (by decide) ⟨fun q => ?_, fun q => ?_⟩
  · have h := h.1 q
    refine z_aload_n E 0 d_Mo_act_391 rfl rfl ?_
    refine z_getI E f_Mo_123 d_Mo_act_392 ?_
    refine z_iconst E (v := 1) d_Mo_act_395 (by decide) ?_
    refine z_icmp_ne E d_Mo_act_396 (tgt := 404) (by decide) ⟨fun q => ?_, fun q => ?_⟩
    · have h := h.1 q
      refine z_iload E 4 d_Mo_act_404 rfl ?_
      refine z_istore E [1, 2, 3, 4, 0] d_Mo_act_406 (by decide) rfl ?_
      refine z_aload_n E 0 d_Mo_act_408 rfl rfl ?_
      refine z_getR E f_Mo_53 d_Mo_act_409 ?_
      refine z_iload_n E 1 d_Mo_act_412 rfl rfl ?_
      refine z_iload E 4 d_Mo_act_413 rfl ?_
      obtain ⟨h0, h⟩ := h
      refine z_iast E rfl d_Mo_act_415 ⟨h0, ?_⟩
      have h := h _ rfl
      refine z_aload_n E 0 d_Mo_act_416 rfl rfl ?_
      refine z_getR E f_Mo_56 d_Mo_act_417 ?_
      refine z_iload_n E 1 d_Mo_act_420 rfl rfl ?_
      refine z_aload_n E 0 d_Mo_act_421 rfl rfl ?_
      refine z_iload_n E 2 d_Mo_act_422 rfl rfl ?_
      refine z_iload E 4 d_Mo_act_423 rfl ?_
      refine z_iload E 3 d_Mo_act_425 rfl ?_
      obtain ⟨P, hM, h⟩ := h
      refine z_callVI [.int v2, .int v5, .int v4] [.int v1, zf G 48] E hM c_Mo_129 r_Mo_writer rfl zrm rfl (Nat.le_of_ble_eq_true rfl) d_Mo_act_427 (fun x3 σ2 hp => ?_)
      have h := h x3 σ2 hp
      obtain ⟨h0, h⟩ := h
      refine z_iast E rfl d_Mo_act_430 ⟨h0, ?_⟩
      have h := h _ rfl
      refine z_aload_n E 0 d_Mo_act_431 rfl rfl ?_
      refine z_getI E f_Mo_123 d_Mo_act_432 ?_
      refine z_if_ne E d_Mo_act_435 (tgt := 445) (by decide) ⟨fun q => ?_, fun q => ?_⟩
      · have h := h.1 q
        refine z_iload E 4 d_Mo_act_445 rfl ?_
        exact z_ireturn E rfl d_Mo_act_447 h
      · have h := h.2 q
        refine z_iload E 4 d_Mo_act_438 rfl ?_
        refine z_iconst E (v := 1) d_Mo_act_440 (by decide) ?_
        refine z_iadd E d_Mo_act_441 ?_
        refine z_goto E d_Mo_act_442 (tgt := 447) (by decide) ?_
        exact z_ireturn E rfl d_Mo_act_447 h
    · have h := h.2 q
      refine z_iload E 5 d_Mo_act_399 rfl ?_
      refine z_goto E d_Mo_act_401 (tgt := 406) (by decide) ?_
      refine z_istore E [1, 2, 3, 4, 0] d_Mo_act_406 (by decide) rfl ?_
      refine z_aload_n E 0 d_Mo_act_408 rfl rfl ?_
      refine z_getR E f_Mo_53 d_Mo_act_409 ?_
      refine z_iload_n E 1 d_Mo_act_412 rfl rfl ?_
      refine z_iload E 4 d_Mo_act_413 rfl ?_
      obtain ⟨h0, h⟩ := h
      refine z_iast E rfl d_Mo_act_415 ⟨h0, ?_⟩
      have h := h _ rfl
      refine z_aload_n E 0 d_Mo_act_416 rfl rfl ?_
      refine z_getR E f_Mo_56 d_Mo_act_417 ?_
      refine z_iload_n E 1 d_Mo_act_420 rfl rfl ?_
      refine z_aload_n E 0 d_Mo_act_421 rfl rfl ?_
      refine z_iload_n E 2 d_Mo_act_422 rfl rfl ?_
      refine z_iload E 4 d_Mo_act_423 rfl ?_
      refine z_iload E 3 d_Mo_act_425 rfl ?_
      obtain ⟨P, hM, h⟩ := h
      refine z_callVI [.int v2, .int v6, .int v4] [.int v1, zf G 48] E hM c_Mo_129 r_Mo_writer rfl zrm rfl (Nat.le_of_ble_eq_true rfl) d_Mo_act_427 (fun x7 σ6 hp => ?_)
      have h := h x7 σ6 hp
      obtain ⟨h0, h⟩ := h
      refine z_iast E rfl d_Mo_act_430 ⟨h0, ?_⟩
      have h := h _ rfl
      refine z_aload_n E 0 d_Mo_act_431 rfl rfl ?_
      refine z_getI E f_Mo_123 d_Mo_act_432 ?_
      refine z_if_ne E d_Mo_act_435 (tgt := 445) (by decide) ⟨fun q => ?_, fun q => ?_⟩
      · have h := h.1 q
        refine z_iload E 4 d_Mo_act_445 rfl ?_
        exact z_ireturn E rfl d_Mo_act_447 h
      · have h := h.2 q
        refine z_iload E 4 d_Mo_act_438 rfl ?_
        refine z_iconst E (v := 1) d_Mo_act_440 (by decide) ?_
        refine z_iadd E d_Mo_act_441 ?_
        refine z_goto E d_Mo_act_442 (tgt := 447) (by decide) ?_
        exact z_ireturn E rfl d_Mo_act_447 h
  · have h := h.2 q
    refine z_sipush E (v := -1000) d_Mo_act_387 (by decide) ?_
    exact z_ireturn E rfl d_Mo_act_390 h

set_option maxRecDepth 20000 in
theorem b_Mo_step_0 {G : zG} {X : zX} {post : Option Value → zSt → Prop} (E : zCtx G M_Mo_step (zKm G 2 X post) X)  (σ : zSt)
    (h : zZ G M_Mo_step 2 X post 2 [(0, zf G 32), (1, .int (0 : Int32))] [] σ) :
    zZ G M_Mo_step 2 X post 0 [(0, zf G 32)] [] σ := by
  refine z_iconst E (v := 0) d_Mo_step_0 (by decide) ?_
  refine z_istore_n E [1, 0] d_Mo_step_1 rfl (by decide) rfl ?_
  exact h

set_option maxRecDepth 20000 in
theorem b_Mo_step_2 {G : zG} {X : zX} {post : Option Value → zSt → Prop} (E : zCtx G M_Mo_step (zKm G 2 X post) X) (v1 : Int32) (σ : zSt)
    (h : (((σ 32 0) ≤ v1 → zZ G M_Mo_step 2 X post 51 [(0, zf G 32), (1, .int (1 : Int32))] [] σ) ∧ (¬ (σ 32 0) ≤ v1 → (∃ P : zSt → Prop, zV G 0 M_Mo_first [zf G 32, .int ((12 : Int32) + v1), .int v1] σ P ∧ ∀ σ1 : zSt, P σ1 → (vp_in ((12 : Int32) + v1) 24 ∧ (vp_in v1 252 ∧ ∀ σ2 : zSt, σ2 = zup σ1 50 v1.toNatClampNeg (σ1 47 ((12 : Int32) + v1).toNatClampNeg) → (vp_in v1 12 ∧ ∀ σ3 : zSt, σ3 = zup σ2 53 v1.toNatClampNeg (-1000 : Int32) → zZ G M_Mo_step 2 X post 2 [(0, zf G 32), (1, .int (v1 + 1))] [] σ3))))))) :
    zZ G M_Mo_step 2 X post 2 [(0, zf G 32), (1, .int v1)] [] σ := by
  refine z_iload_n E 1 d_Mo_step_2 rfl rfl ?_
  refine z_aload_n E 0 d_Mo_step_3 rfl rfl ?_
  refine z_getI E f_Mo_84 d_Mo_step_4 ?_
  refine z_icmp_ge E d_Mo_step_7 (tgt := 49) (by decide) ⟨fun q => ?_, fun q => ?_⟩
  · have h := h.1 q
    refine z_iconst E (v := 1) d_Mo_step_49 (by decide) ?_
    refine z_istore_n E [1, 0] d_Mo_step_50 rfl (by decide) rfl ?_
    exact h
  · have h := h.2 q
    refine z_aload_n E 0 d_Mo_step_10 rfl rfl ?_
    refine z_bipush E (v := 12) d_Mo_step_11 (by decide) ?_
    refine z_iload_n E 1 d_Mo_step_13 rfl rfl ?_
    refine z_iadd E d_Mo_step_14 ?_
    refine z_iload_n E 1 d_Mo_step_15 rfl rfl ?_
    obtain ⟨P, hM, h⟩ := h
    refine z_callVV [.int ((12 : Int32) + v1), .int v1] [] E hM c_Mo_133 r_Mo_first rfl zrm rfl (Nat.le_of_ble_eq_true rfl) d_Mo_step_16 (fun σ1 hp => ?_)
    have h := h σ1 hp
    refine z_aload_n E 0 d_Mo_step_19 rfl rfl ?_
    refine z_getR E f_Mo_62 d_Mo_step_20 ?_
    refine z_iload_n E 1 d_Mo_step_23 rfl rfl ?_
    refine z_aload_n E 0 d_Mo_step_24 rfl rfl ?_
    refine z_getR E f_Mo_53 d_Mo_step_25 ?_
    refine z_bipush E (v := 12) d_Mo_step_28 (by decide) ?_
    refine z_iload_n E 1 d_Mo_step_30 rfl rfl ?_
    refine z_iadd E d_Mo_step_31 ?_
    obtain ⟨h0, h⟩ := h
    refine z_iald E rfl d_Mo_step_32 ⟨h0, ?_⟩
    obtain ⟨h0, h⟩ := h
    refine z_iast E rfl d_Mo_step_33 ⟨h0, ?_⟩
    have h := h _ rfl
    refine z_aload_n E 0 d_Mo_step_34 rfl rfl ?_
    refine z_getR E f_Mo_71 d_Mo_step_35 ?_
    refine z_iload_n E 1 d_Mo_step_38 rfl rfl ?_
    refine z_sipush E (v := -1000) d_Mo_step_39 (by decide) ?_
    obtain ⟨h0, h⟩ := h
    refine z_iast E rfl d_Mo_step_42 ⟨h0, ?_⟩
    have h := h _ rfl
    refine z_iinc E 1 [1, 0] (v := v1 + 1) d_Mo_step_43 rfl rfl (by decide) rfl ?_
    refine z_goto E d_Mo_step_46 (tgt := 2) (by decide) ?_
    exact h

set_option maxRecDepth 20000 in
theorem b_Mo_step_51 {G : zG} {X : zX} {post : Option Value → zSt → Prop} (E : zCtx G M_Mo_step (zKm G 2 X post) X) (v1 : Int32) (σ : zSt)
    (h : (((σ 32 8) < v1 → post none σ) ∧ (¬ (σ 32 8) < v1 → zZ G M_Mo_step 2 X post 61 [(0, zf G 32), (1, .int v1), (2, .int (0 : Int32))] [] σ))) :
    zZ G M_Mo_step 2 X post 51 [(0, zf G 32), (1, .int v1)] [] σ := by
  refine z_iload_n E 1 d_Mo_step_51 rfl rfl ?_
  refine z_aload_n E 0 d_Mo_step_52 rfl rfl ?_
  refine z_getI E f_Mo_136 d_Mo_step_53 ?_
  refine z_icmp_gt E d_Mo_step_56 (tgt := 205) (by decide) ⟨fun q => ?_, fun q => ?_⟩
  · have h := h.1 q
    exact z_return E rfl d_Mo_step_205 h
  · have h := h.2 q
    refine z_iconst E (v := 0) d_Mo_step_59 (by decide) ?_
    refine z_istore_n E [1, 2, 0] d_Mo_step_60 rfl (by decide) rfl ?_
    exact h

set_option maxRecDepth 20000 in
theorem b_Mo_step_61 {G : zG} {X : zX} {post : Option Value → zSt → Prop} (E : zCtx G M_Mo_step (zKm G 2 X post) X) (v1 : Int32) (v2 : Int32) (σ : zSt)
    (h : (((σ 32 0) ≤ v2 → zZ G M_Mo_step 2 X post 89 [(0, zf G 32), (1, .int v1), (2, .int (0 : Int32))] [] σ) ∧ (¬ (σ 32 0) ≤ v2 → (vp_in v2 12 ∧ (vp_in v2 12 ∧ ∀ σ1 : zSt, σ1 = zup σ 52 v2.toNatClampNeg (σ 53 v2.toNatClampNeg) → zZ G M_Mo_step 2 X post 61 [(0, zf G 32), (1, .int v1), (2, .int (v2 + 1))] [] σ1))))) :
    zZ G M_Mo_step 2 X post 61 [(0, zf G 32), (1, .int v1), (2, .int v2)] [] σ := by
  refine z_iload_n E 2 d_Mo_step_61 rfl rfl ?_
  refine z_aload_n E 0 d_Mo_step_62 rfl rfl ?_
  refine z_getI E f_Mo_84 d_Mo_step_63 ?_
  refine z_icmp_ge E d_Mo_step_66 (tgt := 87) (by decide) ⟨fun q => ?_, fun q => ?_⟩
  · have h := h.1 q
    refine z_iconst E (v := 0) d_Mo_step_87 (by decide) ?_
    refine z_istore_n E [1, 2, 0] d_Mo_step_88 rfl (by decide) rfl ?_
    exact h
  · have h := h.2 q
    refine z_aload_n E 0 d_Mo_step_69 rfl rfl ?_
    refine z_getR E f_Mo_68 d_Mo_step_70 ?_
    refine z_iload_n E 2 d_Mo_step_73 rfl rfl ?_
    refine z_aload_n E 0 d_Mo_step_74 rfl rfl ?_
    refine z_getR E f_Mo_71 d_Mo_step_75 ?_
    refine z_iload_n E 2 d_Mo_step_78 rfl rfl ?_
    obtain ⟨h0, h⟩ := h
    refine z_iald E rfl d_Mo_step_79 ⟨h0, ?_⟩
    obtain ⟨h0, h⟩ := h
    refine z_iast E rfl d_Mo_step_80 ⟨h0, ?_⟩
    have h := h _ rfl
    refine z_iinc E 2 [1, 2, 0] (v := v2 + 1) d_Mo_step_81 rfl rfl (by decide) rfl ?_
    refine z_goto E d_Mo_step_84 (tgt := 61) (by decide) ?_
    exact h

set_option maxRecDepth 20000 in
theorem b_Mo_step_89 {G : zG} {X : zX} {post : Option Value → zSt → Prop} (E : zCtx G M_Mo_step (zKm G 2 X post) X) (v1 : Int32) (v2 : Int32) (σ : zSt)
    (h : (((σ 32 0) ≤ v2 → zZ G M_Mo_step 2 X post 51 [(0, zf G 32), (1, .int (v1 + 1))] [] σ) ∧ (¬ (σ 32 0) ≤ v2 → zZ G M_Mo_step 2 X post 99 [(0, zf G 32), (1, .int v1), (2, .int v2), (3, .int (0 : Int32))] [] σ))) :
    zZ G M_Mo_step 2 X post 89 [(0, zf G 32), (1, .int v1), (2, .int v2)] [] σ := by
  refine z_iload_n E 2 d_Mo_step_89 rfl rfl ?_
  refine z_aload_n E 0 d_Mo_step_90 rfl rfl ?_
  refine z_getI E f_Mo_84 d_Mo_step_91 ?_
  refine z_icmp_ge E d_Mo_step_94 (tgt := 199) (by decide) ⟨fun q => ?_, fun q => ?_⟩
  · have h := h.1 q
    refine z_iinc E 1 [1, 0, 2] (v := v1 + 1) d_Mo_step_199 rfl rfl (by decide) rfl ?_
    refine z_goto E d_Mo_step_202 (tgt := 51) (by decide) ?_
    refine zZ.sub [0, 1] rfl ?_
    exact h
  · have h := h.2 q
    refine z_iconst E (v := 0) d_Mo_step_97 (by decide) ?_
    refine z_istore_n E [1, 2, 3, 0] d_Mo_step_98 rfl (by decide) rfl ?_
    exact h

set_option maxRecDepth 20000 in
theorem b_Mo_step_99 {G : zG} {X : zX} {post : Option Value → zSt → Prop} (E : zCtx G M_Mo_step (zKm G 2 X post) X) (v1 : Int32) (v2 : Int32) (v3 : Int32) (σ : zSt)
    (h : (((σ 32 0) ≤ v3 → (∃ P : Int32 → zSt → Prop, zI G 1 M_Mo_act [zf G 32, .int ((12 : Int32) + v2), .int v2, .int v1] σ P ∧ ∀ (x2 : Int32) (σ1 : zSt), P x2 σ1 → (vp_in v2 12 ∧ ∀ σ3 : zSt, σ3 = zup σ1 53 v2.toNatClampNeg x2 → (vp_in ((12 : Int32) + v2) 24 ∧ (vp_in (((12 : Int32) * v1) + v2) 252 ∧ ∀ σ4 : zSt, σ4 = zup σ3 50 (((12 : Int32) * v1) + v2).toNatClampNeg (σ3 47 ((12 : Int32) + v2).toNatClampNeg) → zZ G M_Mo_step 2 X post 89 [(0, zf G 32), (1, .int v1), (2, .int (v2 + 1))] [] σ4))))) ∧ (¬ (σ 32 0) ≤ v3 → (vp_in (12 * v2 + v3) 144 ∧ (((zLk σ v2 v3) = false → (vp_in v3 12 ∧ ∀ σ5 : zSt, σ5 = zup σ 54 v3.toNatClampNeg (0 : Int32) → (vp_in v3 12 ∧ (vp_in v3 12 ∧ ∀ σ6 : zSt, σ6 = zup σ5 55 v3.toNatClampNeg (σ5 52 v3.toNatClampNeg) → zZ G M_Mo_step 2 X post 99 [(0, zf G 32), (1, .int v1), (2, .int v2), (3, .int (v3 + 1))] [] σ6)))) ∧ ((zLk σ v2 v3) = true → (vp_in v3 12 ∧ (((σ 52 v3.toNatClampNeg) = (-1000 : Int32) → (vp_in v3 12 ∧ ∀ σ7 : zSt, σ7 = zup σ 54 v3.toNatClampNeg (0 : Int32) → (vp_in v3 12 ∧ (vp_in v3 12 ∧ ∀ σ8 : zSt, σ8 = zup σ7 55 v3.toNatClampNeg (σ7 52 v3.toNatClampNeg) → zZ G M_Mo_step 2 X post 99 [(0, zf G 32), (1, .int v1), (2, .int v2), (3, .int (v3 + 1))] [] σ8)))) ∧ (¬ (σ 52 v3.toNatClampNeg) = (-1000 : Int32) → (vp_in v3 12 ∧ ∀ σ9 : zSt, σ9 = zup σ 54 v3.toNatClampNeg (1 : Int32) → (vp_in v3 12 ∧ (vp_in v3 12 ∧ ∀ σ10 : zSt, σ10 = zup σ9 55 v3.toNatClampNeg (σ9 52 v3.toNatClampNeg) → zZ G M_Mo_step 2 X post 99 [(0, zf G 32), (1, .int v1), (2, .int v2), (3, .int (v3 + 1))] [] σ10)))))))))))) :
    zZ G M_Mo_step 2 X post 99 [(0, zf G 32), (1, .int v1), (2, .int v2), (3, .int v3)] [] σ := by
  refine z_iload_n E 3 d_Mo_step_99 rfl rfl ?_
  refine z_aload_n E 0 d_Mo_step_100 rfl rfl ?_
  refine z_getI E f_Mo_84 d_Mo_step_101 ?_
  refine z_icmp_ge E d_Mo_step_104 (tgt := 157) (by decide) ⟨fun q => ?_, fun q => ?_⟩
  · have h := h.1 q
    refine z_aload_n E 0 d_Mo_step_157 rfl rfl ?_
    refine z_getR E f_Mo_71 d_Mo_step_158 ?_
    refine z_iload_n E 2 d_Mo_step_161 rfl rfl ?_
    refine z_aload_n E 0 d_Mo_step_162 rfl rfl ?_
    refine z_bipush E (v := 12) d_Mo_step_163 (by decide) ?_
    refine z_iload_n E 2 d_Mo_step_165 rfl rfl ?_
    refine z_iadd E d_Mo_step_166 ?_
    refine z_iload_n E 2 d_Mo_step_167 rfl rfl ?_
    refine z_iload_n E 1 d_Mo_step_168 rfl rfl ?_
    obtain ⟨P, hM, h⟩ := h
    refine z_callVI [.int ((12 : Int32) + v2), .int v2, .int v1] [.int v2, zf G 53] E hM c_Mo_139 r_Mo_act rfl zrm rfl (Nat.le_of_ble_eq_true rfl) d_Mo_step_169 (fun x2 σ1 hp => ?_)
    have h := h x2 σ1 hp
    obtain ⟨h0, h⟩ := h
    refine z_iast E rfl d_Mo_step_172 ⟨h0, ?_⟩
    have h := h _ rfl
    refine z_aload_n E 0 d_Mo_step_173 rfl rfl ?_
    refine z_getR E f_Mo_62 d_Mo_step_174 ?_
    refine z_bipush E (v := 12) d_Mo_step_177 (by decide) ?_
    refine z_iload_n E 1 d_Mo_step_179 rfl rfl ?_
    refine z_imul E d_Mo_step_180 ?_
    refine z_iload_n E 2 d_Mo_step_181 rfl rfl ?_
    refine z_iadd E d_Mo_step_182 ?_
    refine z_aload_n E 0 d_Mo_step_183 rfl rfl ?_
    refine z_getR E f_Mo_53 d_Mo_step_184 ?_
    refine z_bipush E (v := 12) d_Mo_step_187 (by decide) ?_
    refine z_iload_n E 2 d_Mo_step_189 rfl rfl ?_
    refine z_iadd E d_Mo_step_190 ?_
    obtain ⟨h0, h⟩ := h
    refine z_iald E rfl d_Mo_step_191 ⟨h0, ?_⟩
    obtain ⟨h0, h⟩ := h
    refine z_iast E rfl d_Mo_step_192 ⟨h0, ?_⟩
    have h := h _ rfl
    refine z_iinc E 2 [1, 2, 0, 3] (v := v2 + 1) d_Mo_step_193 rfl rfl (by decide) rfl ?_
    refine z_goto E d_Mo_step_196 (tgt := 89) (by decide) ?_
    refine zZ.sub [0, 1, 2] rfl ?_
    exact h
  · have h := h.2 q
    refine z_aload_n E 0 d_Mo_step_107 rfl rfl ?_
    refine z_getR E f_Mo_74 d_Mo_step_108 ?_
    refine z_iload_n E 3 d_Mo_step_111 rfl rfl ?_
    refine z_aload_n E 0 d_Mo_step_112 rfl rfl ?_
    refine z_iload_n E 2 d_Mo_step_113 rfl rfl ?_
    refine z_iload_n E 3 d_Mo_step_114 rfl rfl ?_
    obtain ⟨h0, h⟩ := h
    refine z_callVBp [.int v2, .int v3] [.int v3, zf G 54] E (p_Mo_isLink G σ v2 v3 h0) c_Mo_99 r_Mo_isLink rfl zrm rfl (Nat.le_of_ble_eq_true rfl) d_Mo_step_115 ?_
    refine z_ifz_eq E d_Mo_step_118 (tgt := 137) (by decide) ⟨fun q => ?_, fun q => ?_⟩
    · have h := h.1 q
      refine z_iconst E (v := 0) d_Mo_step_137 (by decide) ?_
      obtain ⟨h0, h⟩ := h
      refine z_zast E rfl d_Mo_step_138 (y := (0 : Int32)) rfl ⟨h0, ?_⟩
      have h := h _ rfl
      refine z_aload_n E 0 d_Mo_step_139 rfl rfl ?_
      refine z_getR E f_Mo_77 d_Mo_step_140 ?_
      refine z_iload_n E 3 d_Mo_step_143 rfl rfl ?_
      refine z_aload_n E 0 d_Mo_step_144 rfl rfl ?_
      refine z_getR E f_Mo_68 d_Mo_step_145 ?_
      refine z_iload_n E 3 d_Mo_step_148 rfl rfl ?_
      obtain ⟨h0, h⟩ := h
      refine z_iald E rfl d_Mo_step_149 ⟨h0, ?_⟩
      obtain ⟨h0, h⟩ := h
      refine z_iast E rfl d_Mo_step_150 ⟨h0, ?_⟩
      have h := h _ rfl
      refine z_iinc E 3 [1, 2, 3, 0] (v := v3 + 1) d_Mo_step_151 rfl rfl (by decide) rfl ?_
      refine z_goto E d_Mo_step_154 (tgt := 99) (by decide) ?_
      exact h
    · have h := h.2 q
      refine z_aload_n E 0 d_Mo_step_121 rfl rfl ?_
      refine z_getR E f_Mo_68 d_Mo_step_122 ?_
      refine z_iload_n E 3 d_Mo_step_125 rfl rfl ?_
      obtain ⟨h0, h⟩ := h
      refine z_iald E rfl d_Mo_step_126 ⟨h0, ?_⟩
      refine z_sipush E (v := -1000) d_Mo_step_127 (by decide) ?_
      refine z_icmp_eq E d_Mo_step_130 (tgt := 137) (by decide) ⟨fun q => ?_, fun q => ?_⟩
      · have h := h.1 q
        refine z_iconst E (v := 0) d_Mo_step_137 (by decide) ?_
        obtain ⟨h0, h⟩ := h
        refine z_zast E rfl d_Mo_step_138 (y := (0 : Int32)) rfl ⟨h0, ?_⟩
        have h := h _ rfl
        refine z_aload_n E 0 d_Mo_step_139 rfl rfl ?_
        refine z_getR E f_Mo_77 d_Mo_step_140 ?_
        refine z_iload_n E 3 d_Mo_step_143 rfl rfl ?_
        refine z_aload_n E 0 d_Mo_step_144 rfl rfl ?_
        refine z_getR E f_Mo_68 d_Mo_step_145 ?_
        refine z_iload_n E 3 d_Mo_step_148 rfl rfl ?_
        obtain ⟨h0, h⟩ := h
        refine z_iald E rfl d_Mo_step_149 ⟨h0, ?_⟩
        obtain ⟨h0, h⟩ := h
        refine z_iast E rfl d_Mo_step_150 ⟨h0, ?_⟩
        have h := h _ rfl
        refine z_iinc E 3 [1, 2, 3, 0] (v := v3 + 1) d_Mo_step_151 rfl rfl (by decide) rfl ?_
        refine z_goto E d_Mo_step_154 (tgt := 99) (by decide) ?_
        exact h
      · have h := h.2 q
        refine z_iconst E (v := 1) d_Mo_step_133 (by decide) ?_
        refine z_goto E d_Mo_step_134 (tgt := 138) (by decide) ?_
        obtain ⟨h0, h⟩ := h
        refine z_zast E rfl d_Mo_step_138 (y := (1 : Int32)) rfl ⟨h0, ?_⟩
        have h := h _ rfl
        refine z_aload_n E 0 d_Mo_step_139 rfl rfl ?_
        refine z_getR E f_Mo_77 d_Mo_step_140 ?_
        refine z_iload_n E 3 d_Mo_step_143 rfl rfl ?_
        refine z_aload_n E 0 d_Mo_step_144 rfl rfl ?_
        refine z_getR E f_Mo_68 d_Mo_step_145 ?_
        refine z_iload_n E 3 d_Mo_step_148 rfl rfl ?_
        obtain ⟨h0, h⟩ := h
        refine z_iald E rfl d_Mo_step_149 ⟨h0, ?_⟩
        obtain ⟨h0, h⟩ := h
        refine z_iast E rfl d_Mo_step_150 ⟨h0, ?_⟩
        have h := h _ rfl
        refine z_iinc E 3 [1, 2, 3, 0] (v := v3 + 1) d_Mo_step_151 rfl rfl (by decide) rfl ?_
        refine z_goto E d_Mo_step_154 (tgt := 99) (by decide) ?_
        exact h

set_option maxRecDepth 20000 in
theorem b_Mo_send_0 {G : zG} {X : zX} {post : Option Value → zSt → Prop} (E : zCtx G M_Mo_send (zKm G 0 X post) X) (v1 : Int32) (v2 : Int32) (v3 : Int32) (v4 : Int32) (v5 : Int32) (σ : zSt)
    (h : (vp_in ((5 : Int32) * (σ 32 27)) 20000 ∧ ∀ σ1 : zSt, σ1 = zup σ 51 ((5 : Int32) * (σ 32 27)).toNatClampNeg v1 → (vp_in (((5 : Int32) * (σ1 32 27)) + (1 : Int32)) 20000 ∧ ∀ σ2 : zSt, σ2 = zup σ1 51 (((5 : Int32) * (σ1 32 27)) + (1 : Int32)).toNatClampNeg v2 → (vp_in (((5 : Int32) * (σ2 32 27)) + (2 : Int32)) 20000 ∧ ∀ σ3 : zSt, σ3 = zup σ2 51 (((5 : Int32) * (σ2 32 27)) + (2 : Int32)).toNatClampNeg v3 → (vp_in (((5 : Int32) * (σ3 32 27)) + (3 : Int32)) 20000 ∧ ∀ σ4 : zSt, σ4 = zup σ3 51 (((5 : Int32) * (σ3 32 27)) + (3 : Int32)).toNatClampNeg v4 → (vp_in (((5 : Int32) * (σ4 32 27)) + (4 : Int32)) 20000 ∧ ∀ σ5 : zSt, σ5 = zup σ4 51 (((5 : Int32) * (σ4 32 27)) + (4 : Int32)).toNatClampNeg v5 → (∀ σ6 : zSt, σ6 = zup σ5 32 27 ((σ5 32 27) + (1 : Int32)) → ((¬ v1 = 0 → (∀ σ7 : zSt, σ7 = zup σ6 32 30 ((σ6 32 30) + (1 : Int32)) → post none σ7)) ∧ (v1 = 0 → (∀ σ8 : zSt, σ8 = zup σ6 32 29 ((σ6 32 29) + (1 : Int32)) → post none σ8)))))))))) :
    zZ G M_Mo_send 0 X post 0 [(0, zf G 32), (1, .int v1), (2, .int v2), (3, .int v3), (4, .int v4), (5, .int v5)] [] σ := by
  refine z_aload_n E 0 d_Mo_send_0 rfl rfl ?_
  refine z_getR E f_Mo_65 d_Mo_send_1 ?_
  refine z_iconst E (v := 5) d_Mo_send_4 (by decide) ?_
  refine z_aload_n E 0 d_Mo_send_5 rfl rfl ?_
  refine z_getI E f_Mo_143 d_Mo_send_6 ?_
  refine z_imul E d_Mo_send_9 ?_
  refine z_iload_n E 1 d_Mo_send_10 rfl rfl ?_
  obtain ⟨h0, h⟩ := h
  refine z_iast E rfl d_Mo_send_11 ⟨h0, ?_⟩
  have h := h _ rfl
  refine z_aload_n E 0 d_Mo_send_12 rfl rfl ?_
  refine z_getR E f_Mo_65 d_Mo_send_13 ?_
  refine z_iconst E (v := 5) d_Mo_send_16 (by decide) ?_
  refine z_aload_n E 0 d_Mo_send_17 rfl rfl ?_
  refine z_getI E f_Mo_143 d_Mo_send_18 ?_
  refine z_imul E d_Mo_send_21 ?_
  refine z_iconst E (v := 1) d_Mo_send_22 (by decide) ?_
  refine z_iadd E d_Mo_send_23 ?_
  refine z_iload_n E 2 d_Mo_send_24 rfl rfl ?_
  obtain ⟨h0, h⟩ := h
  refine z_iast E rfl d_Mo_send_25 ⟨h0, ?_⟩
  have h := h _ rfl
  refine z_aload_n E 0 d_Mo_send_26 rfl rfl ?_
  refine z_getR E f_Mo_65 d_Mo_send_27 ?_
  refine z_iconst E (v := 5) d_Mo_send_30 (by decide) ?_
  refine z_aload_n E 0 d_Mo_send_31 rfl rfl ?_
  refine z_getI E f_Mo_143 d_Mo_send_32 ?_
  refine z_imul E d_Mo_send_35 ?_
  refine z_iconst E (v := 2) d_Mo_send_36 (by decide) ?_
  refine z_iadd E d_Mo_send_37 ?_
  refine z_iload_n E 3 d_Mo_send_38 rfl rfl ?_
  obtain ⟨h0, h⟩ := h
  refine z_iast E rfl d_Mo_send_39 ⟨h0, ?_⟩
  have h := h _ rfl
  refine z_aload_n E 0 d_Mo_send_40 rfl rfl ?_
  refine z_getR E f_Mo_65 d_Mo_send_41 ?_
  refine z_iconst E (v := 5) d_Mo_send_44 (by decide) ?_
  refine z_aload_n E 0 d_Mo_send_45 rfl rfl ?_
  refine z_getI E f_Mo_143 d_Mo_send_46 ?_
  refine z_imul E d_Mo_send_49 ?_
  refine z_iconst E (v := 3) d_Mo_send_50 (by decide) ?_
  refine z_iadd E d_Mo_send_51 ?_
  refine z_iload E 4 d_Mo_send_52 rfl ?_
  obtain ⟨h0, h⟩ := h
  refine z_iast E rfl d_Mo_send_54 ⟨h0, ?_⟩
  have h := h _ rfl
  refine z_aload_n E 0 d_Mo_send_55 rfl rfl ?_
  refine z_getR E f_Mo_65 d_Mo_send_56 ?_
  refine z_iconst E (v := 5) d_Mo_send_59 (by decide) ?_
  refine z_aload_n E 0 d_Mo_send_60 rfl rfl ?_
  refine z_getI E f_Mo_143 d_Mo_send_61 ?_
  refine z_imul E d_Mo_send_64 ?_
  refine z_iconst E (v := 4) d_Mo_send_65 (by decide) ?_
  refine z_iadd E d_Mo_send_66 ?_
  refine z_iload E 5 d_Mo_send_67 rfl ?_
  obtain ⟨h0, h⟩ := h
  refine z_iast E rfl d_Mo_send_69 ⟨h0, ?_⟩
  have h := h _ rfl
  refine z_aload_n E 0 d_Mo_send_70 rfl rfl ?_
  refine z_dup E d_Mo_send_71 rfl ?_
  refine z_getI E f_Mo_143 d_Mo_send_72 ?_
  refine z_iconst E (v := 1) d_Mo_send_75 (by decide) ?_
  refine z_iadd E d_Mo_send_76 ?_
  refine z_putI E w_Mo_143 d_Mo_send_77 ?_
  have h := h _ rfl
  refine z_iload_n E 1 d_Mo_send_80 rfl rfl ?_
  refine z_if_ne E d_Mo_send_81 (tgt := 97) (by decide) ⟨fun q => ?_, fun q => ?_⟩
  · have h := h.1 q
    refine z_aload_n E 0 d_Mo_send_97 rfl rfl ?_
    refine z_dup E d_Mo_send_98 rfl ?_
    refine z_getI E f_Mo_149 d_Mo_send_99 ?_
    refine z_iconst E (v := 1) d_Mo_send_102 (by decide) ?_
    refine z_iadd E d_Mo_send_103 ?_
    refine z_putI E w_Mo_149 d_Mo_send_104 ?_
    have h := h _ rfl
    exact z_return E rfl d_Mo_send_107 h
  · have h := h.2 q
    refine z_aload_n E 0 d_Mo_send_84 rfl rfl ?_
    refine z_dup E d_Mo_send_85 rfl ?_
    refine z_getI E f_Mo_146 d_Mo_send_86 ?_
    refine z_iconst E (v := 1) d_Mo_send_89 (by decide) ?_
    refine z_iadd E d_Mo_send_90 ?_
    refine z_putI E w_Mo_146 d_Mo_send_91 ?_
    have h := h _ rfl
    refine z_goto E d_Mo_send_94 (tgt := 107) (by decide) ?_
    exact z_return E rfl d_Mo_send_107 h

set_option maxRecDepth 20000 in
theorem b_Mo_toLower_0 {G : zG} {X : zX} {post : Option Value → zSt → Prop} (E : zCtx G M_Mo_toLower (zKm G 1 X post) X) (v1 : Int32) (v2 : Int32) (v3 : Int32) (σ : zSt)
    (h : zZ G M_Mo_toLower 1 X post 3 [(0, zf G 32), (1, .int v1), (2, .int v2), (3, .int v3), (4, .int (0 : Int32))] [] σ) :
    zZ G M_Mo_toLower 1 X post 0 [(0, zf G 32), (1, .int v1), (2, .int v2), (3, .int v3)] [] σ := by
  refine z_iconst E (v := 0) d_Mo_toLower_0 (by decide) ?_
  refine z_istore E [1, 2, 3, 4, 0] d_Mo_toLower_1 (by decide) rfl ?_
  exact h

set_option maxRecDepth 20000 in
theorem b_Mo_toLower_3 {G : zG} {X : zX} {post : Option Value → zSt → Prop} (E : zCtx G M_Mo_toLower (zKm G 1 X post) X) (v1 : Int32) (v2 : Int32) (v3 : Int32) (v4 : Int32) (σ : zSt)
    (h : (((σ 32 0) ≤ v4 → post none σ) ∧ (¬ (σ 32 0) ≤ v4 → (((σ 32 6) ≤ 0 → zZ G M_Mo_toLower 1 X post 3 [(0, zf G 32), (1, .int v1), (2, .int v2), (3, .int v3), (4, .int (v4 + 1))] [] σ) ∧ (¬ (σ 32 6) ≤ 0 → (vp_in v4 12 ∧ (((zBe σ v4 v2) = false → zZ G M_Mo_toLower 1 X post 3 [(0, zf G 32), (1, .int v1), (2, .int v2), (3, .int v3), (4, .int (v4 + 1))] [] σ) ∧ ((zBe σ v4 v2) = true → (∃ P : zSt → Prop, zV G 0 M_Mo_send [zf G 32, .int v1, .int v2, .int v4, .int v3, .int (0 : Int32)] σ P ∧ ∀ σ1 : zSt, P σ1 → zZ G M_Mo_toLower 1 X post 3 [(0, zf G 32), (1, .int v1), (2, .int v2), (3, .int v3), (4, .int (v4 + 1))] [] σ1))))))))) :
    zZ G M_Mo_toLower 1 X post 3 [(0, zf G 32), (1, .int v1), (2, .int v2), (3, .int v3), (4, .int v4)] [] σ := by
  refine z_iload E 4 d_Mo_toLower_3 rfl ?_
  refine z_aload_n E 0 d_Mo_toLower_5 rfl rfl ?_
  refine z_getI E f_Mo_84 d_Mo_toLower_6 ?_
  refine z_icmp_ge E d_Mo_toLower_9 (tgt := 45) (by decide) ⟨fun q => ?_, fun q => ?_⟩
  · have h := h.1 q
    exact z_return E rfl d_Mo_toLower_45 h
  · have h := h.2 q
    refine z_aload_n E 0 d_Mo_toLower_12 rfl rfl ?_
    refine z_getI E f_Mo_152 d_Mo_toLower_13 ?_
    refine z_if_le E d_Mo_toLower_16 (tgt := 39) (by decide) ⟨fun q => ?_, fun q => ?_⟩
    · have h := h.1 q
      refine z_iinc E 4 [1, 2, 3, 4, 0] (v := v4 + 1) d_Mo_toLower_39 rfl rfl (by decide) rfl ?_
      refine z_goto E d_Mo_toLower_42 (tgt := 3) (by decide) ?_
      exact h
    · have h := h.2 q
      refine z_aload_n E 0 d_Mo_toLower_19 rfl rfl ?_
      refine z_iload E 4 d_Mo_toLower_20 rfl ?_
      refine z_iload_n E 2 d_Mo_toLower_22 rfl rfl ?_
      obtain ⟨h0, h⟩ := h
      refine z_callVBp [.int v4, .int v2] [] E (p_Mo_isBelow G σ v4 v2 h0) c_Mo_155 r_Mo_isBelow rfl zrm rfl (Nat.le_of_ble_eq_true rfl) d_Mo_toLower_23 ?_
      refine z_ifz_eq E d_Mo_toLower_26 (tgt := 39) (by decide) ⟨fun q => ?_, fun q => ?_⟩
      · have h := h.1 q
        refine z_iinc E 4 [1, 2, 3, 4, 0] (v := v4 + 1) d_Mo_toLower_39 rfl rfl (by decide) rfl ?_
        refine z_goto E d_Mo_toLower_42 (tgt := 3) (by decide) ?_
        exact h
      · have h := h.2 q
        refine z_aload_n E 0 d_Mo_toLower_29 rfl rfl ?_
        refine z_iload_n E 1 d_Mo_toLower_30 rfl rfl ?_
        refine z_iload_n E 2 d_Mo_toLower_31 rfl rfl ?_
        refine z_iload E 4 d_Mo_toLower_32 rfl ?_
        refine z_iload_n E 3 d_Mo_toLower_34 rfl rfl ?_
        refine z_iconst E (v := 0) d_Mo_toLower_35 (by decide) ?_
        obtain ⟨P, hM, h⟩ := h
        refine z_callVV [.int v1, .int v2, .int v4, .int v3, .int (0 : Int32)] [] E hM c_Mo_158 r_Mo_send rfl zrm rfl (Nat.le_of_ble_eq_true rfl) d_Mo_toLower_36 (fun σ1 hp => ?_)
        have h := h σ1 hp
        refine z_iinc E 4 [1, 2, 3, 4, 0] (v := v4 + 1) d_Mo_toLower_39 rfl rfl (by decide) rfl ?_
        refine z_goto E d_Mo_toLower_42 (tgt := 3) (by decide) ?_
        exact h

set_option maxRecDepth 20000 in
theorem b_Mo_hasAll_0 {G : zG} {X : zX} {post : Option Value → zSt → Prop} (E : zCtx G M_Mo_hasAll (zKm G 1 X post) X) (v1 : Int32) (v2 : Int32) (v3 : Int32) (σ : zSt)
    (h : zZ G M_Mo_hasAll 1 X post 3 [(0, zf G 32), (1, .int v1), (2, .int v2), (3, .int v3), (4, .int (0 : Int32))] [] σ) :
    zZ G M_Mo_hasAll 1 X post 0 [(0, zf G 32), (1, .int v1), (2, .int v2), (3, .int v3)] [] σ := by
  refine z_iconst E (v := 0) d_Mo_hasAll_0 (by decide) ?_
  refine z_istore E [1, 2, 3, 4, 0] d_Mo_hasAll_1 (by decide) rfl ?_
  exact h

set_option maxRecDepth 20000 in
theorem b_Mo_hasAll_3 {G : zG} {X : zX} {post : Option Value → zSt → Prop} (E : zCtx G M_Mo_hasAll (zKm G 1 X post) X) (v1 : Int32) (v2 : Int32) (v3 : Int32) (v4 : Int32) (σ : zSt)
    (h : (((σ 32 0) ≤ v4 → post (some (.int (1 : Int32))) σ) ∧ (¬ (σ 32 0) ≤ v4 → ((v3 = 0 → ((¬ (σ 32 6) = 0 → (vp_in (((12 : Int32) * v2) + v4) 144 ∧ (((σ 44 (((12 : Int32) * v2) + v4).toNatClampNeg) = 0 → zZ G M_Mo_hasAll 1 X post 3 [(0, zf G 32), (1, .int v1), (2, .int v2), (3, .int v3), (4, .int (v4 + 1))] [] σ) ∧ (¬ (σ 44 (((12 : Int32) * v2) + v4).toNatClampNeg) = 0 → (vp_in v2 12 ∧ (vp_in (((v1 * 12 + v2) * 12 + v4) * 22 + (σ 35 v2.toNatClampNeg)) 12672 ∧ ((¬ (σ 45 (((v1 * 12 + v2) * 12 + v4) * 22 + (σ 35 v2.toNatClampNeg)).toNatClampNeg) = 0 → zZ G M_Mo_hasAll 1 X post 3 [(0, zf G 32), (1, .int v1), (2, .int v2), (3, .int v3), (4, .int (v4 + 1))] [] σ) ∧ ((σ 45 (((v1 * 12 + v2) * 12 + v4) * 22 + (σ 35 v2.toNatClampNeg)).toNatClampNeg) = 0 → post (some (.int (0 : Int32))) σ)))))))) ∧ ((σ 32 6) = 0 → (vp_in (12 * v2 + v4) 144 ∧ (((zLk σ v2 v4) = false → zZ G M_Mo_hasAll 1 X post 3 [(0, zf G 32), (1, .int v1), (2, .int v2), (3, .int v3), (4, .int (v4 + 1))] [] σ) ∧ ((zLk σ v2 v4) = true → (vp_in v2 12 ∧ (vp_in (((v1 * 12 + v2) * 12 + v4) * 22 + (σ 35 v2.toNatClampNeg)) 12672 ∧ ((¬ (σ 45 (((v1 * 12 + v2) * 12 + v4) * 22 + (σ 35 v2.toNatClampNeg)).toNatClampNeg) = 0 → zZ G M_Mo_hasAll 1 X post 3 [(0, zf G 32), (1, .int v1), (2, .int v2), (3, .int v3), (4, .int (v4 + 1))] [] σ) ∧ ((σ 45 (((v1 * 12 + v2) * 12 + v4) * 22 + (σ 35 v2.toNatClampNeg)).toNatClampNeg) = 0 → post (some (.int (0 : Int32))) σ)))))))))) ∧ (¬ v3 = 0 → (vp_in v4 12 ∧ (((zBe σ v4 v2) = false → zZ G M_Mo_hasAll 1 X post 3 [(0, zf G 32), (1, .int v1), (2, .int v2), (3, .int v3), (4, .int (v4 + 1))] [] σ) ∧ ((zBe σ v4 v2) = true → (vp_in v2 12 ∧ (vp_in (((v1 * 12 + v2) * 12 + v4) * 22 + (σ 35 v2.toNatClampNeg)) 12672 ∧ ((¬ (σ 45 (((v1 * 12 + v2) * 12 + v4) * 22 + (σ 35 v2.toNatClampNeg)).toNatClampNeg) = 0 → zZ G M_Mo_hasAll 1 X post 3 [(0, zf G 32), (1, .int v1), (2, .int v2), (3, .int v3), (4, .int (v4 + 1))] [] σ) ∧ ((σ 45 (((v1 * 12 + v2) * 12 + v4) * 22 + (σ 35 v2.toNatClampNeg)).toNatClampNeg) = 0 → post (some (.int (0 : Int32))) σ)))))))))))) :
    zZ G M_Mo_hasAll 1 X post 3 [(0, zf G 32), (1, .int v1), (2, .int v2), (3, .int v3), (4, .int v4)] [] σ := by
  refine z_iload E 4 d_Mo_hasAll_3 rfl ?_
  refine z_aload_n E 0 d_Mo_hasAll_5 rfl rfl ?_
  refine z_getI E f_Mo_84 d_Mo_hasAll_6 ?_
  refine z_icmp_ge E d_Mo_hasAll_9 (tgt := 92) (by decide) ⟨fun q => ?_, fun q => ?_⟩
  · have h := h.1 q
    refine z_iconst E (v := 1) d_Mo_hasAll_92 (by decide) ?_
    exact z_zreturn E rfl rfl d_Mo_hasAll_93 h
  · have h := h.2 q
    refine z_iload_n E 3 d_Mo_hasAll_12 rfl rfl ?_
    refine z_if_eq E d_Mo_hasAll_13 (tgt := 26) (by decide) ⟨fun q => ?_, fun q => ?_⟩
    · have h := h.1 q
      refine z_aload_n E 0 d_Mo_hasAll_26 rfl rfl ?_
      refine z_getI E f_Mo_152 d_Mo_hasAll_27 ?_
      refine z_if_ne E d_Mo_hasAll_30 (tgt := 43) (by decide) ⟨fun q => ?_, fun q => ?_⟩
      · have h := h.1 q
        refine z_aload_n E 0 d_Mo_hasAll_43 rfl rfl ?_
        refine z_getR E f_Mo_44 d_Mo_hasAll_44 ?_
        refine z_bipush E (v := 12) d_Mo_hasAll_47 (by decide) ?_
        refine z_iload_n E 2 d_Mo_hasAll_49 rfl rfl ?_
        refine z_imul E d_Mo_hasAll_50 ?_
        refine z_iload E 4 d_Mo_hasAll_51 rfl ?_
        refine z_iadd E d_Mo_hasAll_53 ?_
        obtain ⟨h0, h⟩ := h
        refine z_zald E rfl d_Mo_hasAll_54 ⟨h0, ?_⟩
        refine z_istore E [1, 2, 3, 4, 5, 0] d_Mo_hasAll_55 (by decide) rfl ?_
        refine z_iload E 5 d_Mo_hasAll_57 rfl ?_
        refine z_if_eq E d_Mo_hasAll_59 (tgt := 86) (by decide) ⟨fun q => ?_, fun q => ?_⟩
        · have h := h.1 q
          refine z_iinc E 4 [1, 2, 3, 4, 0, 5] (v := v4 + 1) d_Mo_hasAll_86 rfl rfl (by decide) rfl ?_
          refine z_goto E d_Mo_hasAll_89 (tgt := 3) (by decide) ?_
          refine zZ.sub [0, 1, 2, 3, 4] rfl ?_
          exact h
        · have h := h.2 q
          refine z_aload_n E 0 d_Mo_hasAll_62 rfl rfl ?_
          refine z_getR E f_Mo_47 d_Mo_hasAll_63 ?_
          refine z_aload_n E 0 d_Mo_hasAll_66 rfl rfl ?_
          refine z_iload_n E 1 d_Mo_hasAll_67 rfl rfl ?_
          refine z_iload_n E 2 d_Mo_hasAll_68 rfl rfl ?_
          refine z_iload E 4 d_Mo_hasAll_69 rfl ?_
          refine z_aload_n E 0 d_Mo_hasAll_71 rfl rfl ?_
          refine z_getR E f_Mo_16 d_Mo_hasAll_72 ?_
          refine z_iload_n E 2 d_Mo_hasAll_75 rfl rfl ?_
          obtain ⟨h0, h⟩ := h
          refine z_iald E rfl d_Mo_hasAll_76 ⟨h0, ?_⟩
          refine z_callVIp [.int v1, .int v2, .int v4, .int (σ 35 v2.toNatClampNeg)] [zf G 45] E (p_Mo_place G σ v1 v2 v4 (σ 35 v2.toNatClampNeg)) c_Mo_162 r_Mo_place rfl zrm rfl (Nat.le_of_ble_eq_true rfl) d_Mo_hasAll_77 ?_
          obtain ⟨h0, h⟩ := h
          refine z_zald E rfl d_Mo_hasAll_80 ⟨h0, ?_⟩
          refine z_if_ne E d_Mo_hasAll_81 (tgt := 86) (by decide) ⟨fun q => ?_, fun q => ?_⟩
          · have h := h.1 q
            refine z_iinc E 4 [1, 2, 3, 4, 0, 5] (v := v4 + 1) d_Mo_hasAll_86 rfl rfl (by decide) rfl ?_
            refine z_goto E d_Mo_hasAll_89 (tgt := 3) (by decide) ?_
            refine zZ.sub [0, 1, 2, 3, 4] rfl ?_
            exact h
          · have h := h.2 q
            refine z_iconst E (v := 0) d_Mo_hasAll_84 (by decide) ?_
            exact z_zreturn E rfl rfl d_Mo_hasAll_85 h
      · have h := h.2 q
        refine z_aload_n E 0 d_Mo_hasAll_33 rfl rfl ?_
        refine z_iload_n E 2 d_Mo_hasAll_34 rfl rfl ?_
        refine z_iload E 4 d_Mo_hasAll_35 rfl ?_
        obtain ⟨h0, h⟩ := h
        refine z_callVBp [.int v2, .int v4] [] E (p_Mo_isLink G σ v2 v4 h0) c_Mo_99 r_Mo_isLink rfl zrm rfl (Nat.le_of_ble_eq_true rfl) d_Mo_hasAll_37 ?_
        refine z_goto E d_Mo_hasAll_40 (tgt := 55) (by decide) ?_
        refine z_istore E [1, 2, 3, 4, 5, 0] d_Mo_hasAll_55 (by decide) rfl ?_
        refine z_iload E 5 d_Mo_hasAll_57 rfl ?_
        refine z_ifz_eq E d_Mo_hasAll_59 (tgt := 86) (by decide) ⟨fun q => ?_, fun q => ?_⟩
        · have h := h.1 q
          refine z_iinc E 4 [1, 2, 3, 4, 0, 5] (v := v4 + 1) d_Mo_hasAll_86 rfl rfl (by decide) rfl ?_
          refine z_goto E d_Mo_hasAll_89 (tgt := 3) (by decide) ?_
          refine zZ.sub [0, 1, 2, 3, 4] rfl ?_
          exact h
        · have h := h.2 q
          refine z_aload_n E 0 d_Mo_hasAll_62 rfl rfl ?_
          refine z_getR E f_Mo_47 d_Mo_hasAll_63 ?_
          refine z_aload_n E 0 d_Mo_hasAll_66 rfl rfl ?_
          refine z_iload_n E 1 d_Mo_hasAll_67 rfl rfl ?_
          refine z_iload_n E 2 d_Mo_hasAll_68 rfl rfl ?_
          refine z_iload E 4 d_Mo_hasAll_69 rfl ?_
          refine z_aload_n E 0 d_Mo_hasAll_71 rfl rfl ?_
          refine z_getR E f_Mo_16 d_Mo_hasAll_72 ?_
          refine z_iload_n E 2 d_Mo_hasAll_75 rfl rfl ?_
          obtain ⟨h0, h⟩ := h
          refine z_iald E rfl d_Mo_hasAll_76 ⟨h0, ?_⟩
          refine z_callVIp [.int v1, .int v2, .int v4, .int (σ 35 v2.toNatClampNeg)] [zf G 45] E (p_Mo_place G σ v1 v2 v4 (σ 35 v2.toNatClampNeg)) c_Mo_162 r_Mo_place rfl zrm rfl (Nat.le_of_ble_eq_true rfl) d_Mo_hasAll_77 ?_
          obtain ⟨h0, h⟩ := h
          refine z_zald E rfl d_Mo_hasAll_80 ⟨h0, ?_⟩
          refine z_if_ne E d_Mo_hasAll_81 (tgt := 86) (by decide) ⟨fun q => ?_, fun q => ?_⟩
          · have h := h.1 q
            refine z_iinc E 4 [1, 2, 3, 4, 0, 5] (v := v4 + 1) d_Mo_hasAll_86 rfl rfl (by decide) rfl ?_
            refine z_goto E d_Mo_hasAll_89 (tgt := 3) (by decide) ?_
            refine zZ.sub [0, 1, 2, 3, 4] rfl ?_
            exact h
          · have h := h.2 q
            refine z_iconst E (v := 0) d_Mo_hasAll_84 (by decide) ?_
            exact z_zreturn E rfl rfl d_Mo_hasAll_85 h
    · have h := h.2 q
      refine z_aload_n E 0 d_Mo_hasAll_16 rfl rfl ?_
      refine z_iload E 4 d_Mo_hasAll_17 rfl ?_
      refine z_iload_n E 2 d_Mo_hasAll_19 rfl rfl ?_
      obtain ⟨h0, h⟩ := h
      refine z_callVBp [.int v4, .int v2] [] E (p_Mo_isBelow G σ v4 v2 h0) c_Mo_155 r_Mo_isBelow rfl zrm rfl (Nat.le_of_ble_eq_true rfl) d_Mo_hasAll_20 ?_
      refine z_goto E d_Mo_hasAll_23 (tgt := 55) (by decide) ?_
      refine z_istore E [1, 2, 3, 4, 5, 0] d_Mo_hasAll_55 (by decide) rfl ?_
      refine z_iload E 5 d_Mo_hasAll_57 rfl ?_
      refine z_ifz_eq E d_Mo_hasAll_59 (tgt := 86) (by decide) ⟨fun q => ?_, fun q => ?_⟩
      · have h := h.1 q
        refine z_iinc E 4 [1, 2, 3, 4, 0, 5] (v := v4 + 1) d_Mo_hasAll_86 rfl rfl (by decide) rfl ?_
        refine z_goto E d_Mo_hasAll_89 (tgt := 3) (by decide) ?_
        refine zZ.sub [0, 1, 2, 3, 4] rfl ?_
        exact h
      · have h := h.2 q
        refine z_aload_n E 0 d_Mo_hasAll_62 rfl rfl ?_
        refine z_getR E f_Mo_47 d_Mo_hasAll_63 ?_
        refine z_aload_n E 0 d_Mo_hasAll_66 rfl rfl ?_
        refine z_iload_n E 1 d_Mo_hasAll_67 rfl rfl ?_
        refine z_iload_n E 2 d_Mo_hasAll_68 rfl rfl ?_
        refine z_iload E 4 d_Mo_hasAll_69 rfl ?_
        refine z_aload_n E 0 d_Mo_hasAll_71 rfl rfl ?_
        refine z_getR E f_Mo_16 d_Mo_hasAll_72 ?_
        refine z_iload_n E 2 d_Mo_hasAll_75 rfl rfl ?_
        obtain ⟨h0, h⟩ := h
        refine z_iald E rfl d_Mo_hasAll_76 ⟨h0, ?_⟩
        refine z_callVIp [.int v1, .int v2, .int v4, .int (σ 35 v2.toNatClampNeg)] [zf G 45] E (p_Mo_place G σ v1 v2 v4 (σ 35 v2.toNatClampNeg)) c_Mo_162 r_Mo_place rfl zrm rfl (Nat.le_of_ble_eq_true rfl) d_Mo_hasAll_77 ?_
        obtain ⟨h0, h⟩ := h
        refine z_zald E rfl d_Mo_hasAll_80 ⟨h0, ?_⟩
        refine z_if_ne E d_Mo_hasAll_81 (tgt := 86) (by decide) ⟨fun q => ?_, fun q => ?_⟩
        · have h := h.1 q
          refine z_iinc E 4 [1, 2, 3, 4, 0, 5] (v := v4 + 1) d_Mo_hasAll_86 rfl rfl (by decide) rfl ?_
          refine z_goto E d_Mo_hasAll_89 (tgt := 3) (by decide) ?_
          refine zZ.sub [0, 1, 2, 3, 4] rfl ?_
          exact h
        · have h := h.2 q
          refine z_iconst E (v := 0) d_Mo_hasAll_84 (by decide) ?_
          exact z_zreturn E rfl rfl d_Mo_hasAll_85 h

