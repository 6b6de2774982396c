set_option maxRecDepth 20000 in
set_option maxHeartbeats 4000000 in
theorem b_Mo_start_0 {G : zG} {X : zX} {post : Option Value → zSt → Prop} (E : zCtx G M_Mo_start (zKm G 4 X post) X) (v1 : Int32) (v2 : Int32) (v3 : Int32) (v4 : Int32) (v5 : Int32) (σ : zSt)
    (h : ((v1 < 0 → zZ G M_Mo_start 4 X post 64 [(0, zf G 32), (1, .int v1), (2, .int v2), (3, .int v3), (4, .int v4), (5, .int v5), (6, .int (1 : Int32))] [] σ) ∧ (¬ v1 < 0 → (((3 : Int32) < v1 → zZ G M_Mo_start 4 X post 64 [(0, zf G 32), (1, .int v1), (2, .int v2), (3, .int v3), (4, .int v4), (5, .int v5), (6, .int (1 : Int32))] [] σ) ∧ (¬ (3 : Int32) < v1 → ((v2 < 0 → zZ G M_Mo_start 4 X post 64 [(0, zf G 32), (1, .int v1), (2, .int v2), (3, .int v3), (4, .int v4), (5, .int v5), (6, .int (1 : Int32))] [] σ) ∧ (¬ v2 < 0 → (((2 : Int32) < v2 → zZ G M_Mo_start 4 X post 64 [(0, zf G 32), (1, .int v1), (2, .int v2), (3, .int v3), (4, .int v4), (5, .int v5), (6, .int (1 : Int32))] [] σ) ∧ (¬ (2 : Int32) < v2 → (((zNo σ v3) = true → zZ G M_Mo_start 4 X post 64 [(0, zf G 32), (1, .int v1), (2, .int v2), (3, .int v3), (4, .int v4), (5, .int v5), (6, .int (1 : Int32))] [] σ) ∧ ((zNo σ v3) = false → ((¬ v2 = (2 : Int32) → ((v5 < (1 : Int32) → zZ G M_Mo_start 4 X post 64 [(0, zf G 32), (1, .int v1), (2, .int v2), (3, .int v3), (4, .int v4), (5, .int v5), (6, .int (1 : Int32))] [] σ) ∧ (¬ v5 < (1 : Int32) → ((v5 ≤ (20 : Int32) → zZ G M_Mo_start 4 X post 64 [(0, zf G 32), (1, .int v1), (2, .int v2), (3, .int v3), (4, .int v4), (5, .int v5), (6, .int (0 : Int32))] [] σ) ∧ (¬ v5 ≤ (20 : Int32) → zZ G M_Mo_start 4 X post 64 [(0, zf G 32), (1, .int v1), (2, .int v2), (3, .int v3), (4, .int v4), (5, .int v5), (6, .int (1 : Int32))] [] σ))))) ∧ (v2 = (2 : Int32) → ((v4 < (2 : Int32) → zZ G M_Mo_start 4 X post 64 [(0, zf G 32), (1, .int v1), (2, .int v2), (3, .int v3), (4, .int v4), (5, .int v5), (6, .int (1 : Int32))] [] σ) ∧ (¬ v4 < (2 : Int32) → (((8 : Int32) < v4 → zZ G M_Mo_start 4 X post 64 [(0, zf G 32), (1, .int v1), (2, .int v2), (3, .int v3), (4, .int v4), (5, .int v5), (6, .int (1 : Int32))] [] σ) ∧ (¬ (8 : Int32) < v4 → ((v5 < (1 : Int32) → zZ G M_Mo_start 4 X post 64 [(0, zf G 32), (1, .int v1), (2, .int v2), (3, .int v3), (4, .int v4), (5, .int v5), (6, .int (1 : Int32))] [] σ) ∧ (¬ v5 < (1 : Int32) → ((v5 ≤ (20 : Int32) → zZ G M_Mo_start 4 X post 64 [(0, zf G 32), (1, .int v1), (2, .int v2), (3, .int v3), (4, .int v4), (5, .int v5), (6, .int (0 : Int32))] [] σ) ∧ (¬ v5 ≤ (20 : Int32) → zZ G M_Mo_start 4 X post 64 [(0, zf G 32), (1, .int v1), (2, .int v2), (3, .int v3), (4, .int v4), (5, .int v5), (6, .int (1 : Int32))] [] σ))))))))))))))))))))) :
    zZ G M_Mo_start 4 X post 0 [(0, zf G 32), (1, .int v1), (2, .int v2), (3, .int v3), (4, .int v4), (5, .int v5)] [] σ := by
  refine z_iload_n E 1 d_Mo_start_0 rfl rfl ?_
  refine z_if_lt E d_Mo_start_1 (tgt := 57) (by decide) ⟨fun q => ?_, fun q => ?_⟩
  · replace h := h.1 q
    refine z_iconst E (v := 1) d_Mo_start_57 (by decide) ?_
    refine z_goto E d_Mo_start_58 (tgt := 62) (by decide) ?_
    refine z_istore E [1, 2, 3, 4, 5, 6, 0] (lv' := [(0, zf G 32), (1, .int v1), (2, .int v2), (3, .int v3), (4, .int v4), (5, .int v5), (6, .int (1 : Int32))]) d_Mo_start_62 (by decide) rfl ?_
    exact h
  · replace h := h.2 q
    refine z_iload_n E 1 d_Mo_start_4 rfl rfl ?_
    refine z_iconst E (v := 3) d_Mo_start_5 (by decide) ?_
    refine z_icmp_gt E d_Mo_start_6 (tgt := 57) (by decide) ⟨fun q => ?_, fun q => ?_⟩
    · replace h := h.1 q
      refine z_iconst E (v := 1) d_Mo_start_57 (by decide) ?_
      refine z_goto E d_Mo_start_58 (tgt := 62) (by decide) ?_
      refine z_istore E [1, 2, 3, 4, 5, 6, 0] (lv' := [(0, zf G 32), (1, .int v1), (2, .int v2), (3, .int v3), (4, .int v4), (5, .int v5), (6, .int (1 : Int32))]) d_Mo_start_62 (by decide) rfl ?_
      exact h
    · replace h := h.2 q
      refine z_iload_n E 2 d_Mo_start_9 rfl rfl ?_
      refine z_if_lt E d_Mo_start_10 (tgt := 57) (by decide) ⟨fun q => ?_, fun q => ?_⟩
      · replace h := h.1 q
        refine z_iconst E (v := 1) d_Mo_start_57 (by decide) ?_
        refine z_goto E d_Mo_start_58 (tgt := 62) (by decide) ?_
        refine z_istore E [1, 2, 3, 4, 5, 6, 0] (lv' := [(0, zf G 32), (1, .int v1), (2, .int v2), (3, .int v3), (4, .int v4), (5, .int v5), (6, .int (1 : Int32))]) d_Mo_start_62 (by decide) rfl ?_
        exact h
      · replace h := h.2 q
        refine z_iload_n E 2 d_Mo_start_13 rfl rfl ?_
        refine z_iconst E (v := 2) d_Mo_start_14 (by decide) ?_
        refine z_icmp_gt E d_Mo_start_15 (tgt := 57) (by decide) ⟨fun q => ?_, fun q => ?_⟩
        · replace h := h.1 q
          refine z_iconst E (v := 1) d_Mo_start_57 (by decide) ?_
          refine z_goto E d_Mo_start_58 (tgt := 62) (by decide) ?_
          refine z_istore E [1, 2, 3, 4, 5, 6, 0] (lv' := [(0, zf G 32), (1, .int v1), (2, .int v2), (3, .int v3), (4, .int v4), (5, .int v5), (6, .int (1 : Int32))]) d_Mo_start_62 (by decide) rfl ?_
          exact h
        · replace h := h.2 q
          refine z_aload_n E 0 d_Mo_start_18 rfl rfl ?_
          refine z_iload_n E 3 d_Mo_start_19 rfl rfl ?_
          refine z_callVBp [.int v3] [] E (p_Mo_noNode G σ v3) c_Mo_95 r_Mo_noNode rfl zrm rfl (Nat.le_of_ble_eq_true rfl) d_Mo_start_20 ?_
          refine z_ifz_ne E d_Mo_start_23 (tgt := 57) (by decide) ⟨fun q => ?_, fun q => ?_⟩
          · replace h := h.1 q
            refine z_iconst E (v := 1) d_Mo_start_57 (by decide) ?_
            refine z_goto E d_Mo_start_58 (tgt := 62) (by decide) ?_
            refine z_istore E [1, 2, 3, 4, 5, 6, 0] (lv' := [(0, zf G 32), (1, .int v1), (2, .int v2), (3, .int v3), (4, .int v4), (5, .int v5), (6, .int (1 : Int32))]) d_Mo_start_62 (by decide) rfl ?_
            exact h
          · replace h := h.2 q
            refine z_iload_n E 2 d_Mo_start_26 rfl rfl ?_
            refine z_iconst E (v := 2) d_Mo_start_27 (by decide) ?_
            refine z_icmp_ne E d_Mo_start_28 (tgt := 44) (by decide) ⟨fun q => ?_, fun q => ?_⟩
            · replace h := h.1 q
              refine z_iload E 5 d_Mo_start_44 rfl ?_
              refine z_iconst E (v := 1) d_Mo_start_46 (by decide) ?_
              refine z_icmp_lt E d_Mo_start_47 (tgt := 57) (by decide) ⟨fun q => ?_, fun q => ?_⟩
              · replace h := h.1 q
                refine z_iconst E (v := 1) d_Mo_start_57 (by decide) ?_
                refine z_goto E d_Mo_start_58 (tgt := 62) (by decide) ?_
                refine z_istore E [1, 2, 3, 4, 5, 6, 0] (lv' := [(0, zf G 32), (1, .int v1), (2, .int v2), (3, .int v3), (4, .int v4), (5, .int v5), (6, .int (1 : Int32))]) d_Mo_start_62 (by decide) rfl ?_
                exact h
              · replace h := h.2 q
                refine z_iload E 5 d_Mo_start_50 rfl ?_
                refine z_bipush E (v := 20) d_Mo_start_52 (by decide) ?_
                refine z_icmp_le E d_Mo_start_54 (tgt := 61) (by decide) ⟨fun q => ?_, fun q => ?_⟩
                · replace h := h.1 q
                  refine z_iconst E (v := 0) d_Mo_start_61 (by decide) ?_
                  refine z_istore E [1, 2, 3, 4, 5, 6, 0] (lv' := [(0, zf G 32), (1, .int v1), (2, .int v2), (3, .int v3), (4, .int v4), (5, .int v5), (6, .int (0 : Int32))]) d_Mo_start_62 (by decide) rfl ?_
                  exact h
                · replace h := h.2 q
                  refine z_iconst E (v := 1) d_Mo_start_57 (by decide) ?_
                  refine z_goto E d_Mo_start_58 (tgt := 62) (by decide) ?_
                  refine z_istore E [1, 2, 3, 4, 5, 6, 0] (lv' := [(0, zf G 32), (1, .int v1), (2, .int v2), (3, .int v3), (4, .int v4), (5, .int v5), (6, .int (1 : Int32))]) d_Mo_start_62 (by decide) rfl ?_
                  exact h
            · replace h := h.2 q
              refine z_iload E 4 d_Mo_start_31 rfl ?_
              refine z_iconst E (v := 2) d_Mo_start_33 (by decide) ?_
              refine z_icmp_lt E d_Mo_start_34 (tgt := 57) (by decide) ⟨fun q => ?_, fun q => ?_⟩
              · replace h := h.1 q
                refine z_iconst E (v := 1) d_Mo_start_57 (by decide) ?_
                refine z_goto E d_Mo_start_58 (tgt := 62) (by decide) ?_
                refine z_istore E [1, 2, 3, 4, 5, 6, 0] (lv' := [(0, zf G 32), (1, .int v1), (2, .int v2), (3, .int v3), (4, .int v4), (5, .int v5), (6, .int (1 : Int32))]) d_Mo_start_62 (by decide) rfl ?_
                exact h
              · replace h := h.2 q
                refine z_iload E 4 d_Mo_start_37 rfl ?_
                refine z_bipush E (v := 8) d_Mo_start_39 (by decide) ?_
                refine z_icmp_gt E d_Mo_start_41 (tgt := 57) (by decide) ⟨fun q => ?_, fun q => ?_⟩
                · replace h := h.1 q
                  refine z_iconst E (v := 1) d_Mo_start_57 (by decide) ?_
                  refine z_goto E d_Mo_start_58 (tgt := 62) (by decide) ?_
                  refine z_istore E [1, 2, 3, 4, 5, 6, 0] (lv' := [(0, zf G 32), (1, .int v1), (2, .int v2), (3, .int v3), (4, .int v4), (5, .int v5), (6, .int (1 : Int32))]) d_Mo_start_62 (by decide) rfl ?_
                  exact h
                · replace h := h.2 q
                  refine z_iload E 5 d_Mo_start_44 rfl ?_
                  refine z_iconst E (v := 1) d_Mo_start_46 (by decide) ?_
                  refine z_icmp_lt E d_Mo_start_47 (tgt := 57) (by decide) ⟨fun q => ?_, fun q => ?_⟩
                  · replace h := h.1 q
                    refine z_iconst E (v := 1) d_Mo_start_57 (by decide) ?_
                    refine z_goto E d_Mo_start_58 (tgt := 62) (by decide) ?_
                    refine z_istore E [1, 2, 3, 4, 5, 6, 0] (lv' := [(0, zf G 32), (1, .int v1), (2, .int v2), (3, .int v3), (4, .int v4), (5, .int v5), (6, .int (1 : Int32))]) d_Mo_start_62 (by decide) rfl ?_
                    exact h
                  · replace h := h.2 q
                    refine z_iload E 5 d_Mo_start_50 rfl ?_
                    refine z_bipush E (v := 20) d_Mo_start_52 (by decide) ?_
                    refine z_icmp_le E d_Mo_start_54 (tgt := 61) (by decide) ⟨fun q => ?_, fun q => ?_⟩
                    · replace h := h.1 q
                      refine z_iconst E (v := 0) d_Mo_start_61 (by decide) ?_
                      refine z_istore E [1, 2, 3, 4, 5, 6, 0] (lv' := [(0, zf G 32), (1, .int v1), (2, .int v2), (3, .int v3), (4, .int v4), (5, .int v5), (6, .int (0 : Int32))]) d_Mo_start_62 (by decide) rfl ?_
                      exact h
                    · replace h := h.2 q
                      refine z_iconst E (v := 1) d_Mo_start_57 (by decide) ?_
                      refine z_goto E d_Mo_start_58 (tgt := 62) (by decide) ?_
                      refine z_istore E [1, 2, 3, 4, 5, 6, 0] (lv' := [(0, zf G 32), (1, .int v1), (2, .int v2), (3, .int v3), (4, .int v4), (5, .int v5), (6, .int (1 : Int32))]) d_Mo_start_62 (by decide) rfl ?_
                      exact h

set_option maxRecDepth 20000 in
set_option maxHeartbeats 4000000 in
theorem b_Mo_start_64 {G : zG} {X : zX} {post : Option Value → zSt → Prop} (E : zCtx G M_Mo_start (zKm G 4 X post) X) (v1 : Int32) (v2 : Int32) (v3 : Int32) (v4 : Int32) (v5 : Int32) (v6 : Int32) (σ : zSt)
    (h : ((¬ v6 = 0 → post (some (.int (-1 : Int32))) σ) ∧ (v6 = 0 → (∃ P : Int32 → zSt → Prop, zI G 1 M_Mo_spread [zf G 32, .int (1 : Int32), .int (((1 : Int32) <<< ((σ 32 0) &&& 31)) - (1 : Int32))] σ P ∧ ∀ (x2 : Int32) (σ1 : zSt), P x2 σ1 → ((x2 = (((1 : Int32) <<< ((σ 32 0) &&& 31)) - (1 : Int32)) → (∀ σ3 : zSt, σ3 = zup σ1 32 5 v1 → (∀ σ4 : zSt, σ4 = zup σ3 32 6 v2 → (∀ σ5 : zSt, σ5 = zup σ4 32 7 v3 → (∀ σ6 : zSt, σ6 = zup σ5 32 8 v5 → (∀ σ7 : zSt, σ7 = zup σ6 32 4 (1 : Int32) → (∀ σ8 : zSt, σ8 = zup σ7 32 27 (0 : Int32) → (∀ σ9 : zSt, σ9 = zup σ8 32 29 (0 : Int32) → (∀ σ10 : zSt, σ10 = zup σ9 32 30 (0 : Int32) → (∀ σ11 : zSt, σ11 = zup σ10 32 19 (1 : Int32) → (∀ σ12 : zSt, σ12 = zup σ11 32 20 (0 : Int32) → zZ G M_Mo_start 4 X post 147 [(0, zf G 32), (4, .int v4), (7, .int (((1 : Int32) <<< ((σ 32 0) &&& 31)) - (1 : Int32))), (8, .int (0 : Int32))] [] σ12))))))))))) ∧ (¬ x2 = (((1 : Int32) <<< ((σ 32 0) &&& 31)) - (1 : Int32)) → post (some (.int (-1 : Int32))) σ1)))))) :
    zZ G M_Mo_start 4 X post 64 [(0, zf G 32), (1, .int v1), (2, .int v2), (3, .int v3), (4, .int v4), (5, .int v5), (6, .int v6)] [] σ := by
  refine z_iconst E (v := 1) d_Mo_start_64 (by decide) ?_
  refine z_aload_n E 0 d_Mo_start_65 rfl rfl ?_
  refine z_getI E f_Mo_84 d_Mo_start_66 ?_
  refine z_ishl E d_Mo_start_69 ?_
  refine z_iconst E (v := 1) d_Mo_start_70 (by decide) ?_
  refine z_isub E d_Mo_start_71 ?_
  refine z_istore E [1, 2, 3, 4, 5, 6, 7, 0] (lv' := [(0, zf G 32), (1, .int v1), (2, .int v2), (3, .int v3), (4, .int v4), (5, .int v5), (6, .int v6), (7, .int (((1 : Int32) <<< ((σ 32 0) &&& 31)) - (1 : Int32)))]) d_Mo_start_72 (by decide) rfl ?_
  refine z_iload E 6 d_Mo_start_74 rfl ?_
  refine z_if_ne E d_Mo_start_76 (tgt := 91) (by decide) ⟨fun q => ?_, fun q => ?_⟩
  · replace h := h.1 q
    refine z_iconst E (v := -1) d_Mo_start_91 (by decide) ?_
    exact z_ireturn E rfl d_Mo_start_92 h
  · replace h := h.2 q
    refine z_aload_n E 0 d_Mo_start_79 rfl rfl ?_
    refine z_iconst E (v := 1) d_Mo_start_80 (by decide) ?_
    refine z_iload E 7 d_Mo_start_81 rfl ?_
    obtain ⟨P, hM, h⟩ := h
    refine z_callVI [.int (1 : Int32), .int (((1 : Int32) <<< ((σ 32 0) &&& 31)) - (1 : Int32))] [] E hM c_Mo_181 r_Mo_spread rfl zrm rfl (Nat.le_of_ble_eq_true rfl) d_Mo_start_83 (fun x2 σ1 hp => ?_)
    replace h := h x2 σ1 hp
    refine z_iload E 7 d_Mo_start_86 rfl ?_
    refine z_icmp_eq E d_Mo_start_88 (tgt := 93) (by decide) ⟨fun q => ?_, fun q => ?_⟩
    · replace h := h.1 q
      refine z_aload_n E 0 d_Mo_start_93 rfl rfl ?_
      refine z_iload_n E 1 d_Mo_start_94 rfl rfl ?_
      refine z_putI E w_Mo_123 d_Mo_start_95 (fun σ3 e => ?_)
      replace h := h σ3 e
      refine z_aload_n E 0 d_Mo_start_98 rfl rfl ?_
      refine z_iload_n E 2 d_Mo_start_99 rfl rfl ?_
      refine z_putI E w_Mo_152 d_Mo_start_100 (fun σ4 e => ?_)
      replace h := h σ4 e
      refine z_aload_n E 0 d_Mo_start_103 rfl rfl ?_
      refine z_iload_n E 3 d_Mo_start_104 rfl rfl ?_
      refine z_putI E w_Mo_126 d_Mo_start_105 (fun σ5 e => ?_)
      replace h := h σ5 e
      refine z_aload_n E 0 d_Mo_start_108 rfl rfl ?_
      refine z_iload E 5 d_Mo_start_109 rfl ?_
      refine z_putI E w_Mo_136 d_Mo_start_111 (fun σ6 e => ?_)
      replace h := h σ6 e
      refine z_aload_n E 0 d_Mo_start_114 rfl rfl ?_
      refine z_iconst E (v := 1) d_Mo_start_115 (by decide) ?_
      refine z_putZ E w_Mo_91 ⟨rfl, rfl⟩ d_Mo_start_116 (fun σ7 e => ?_)
      replace h := h σ7 e
      refine z_aload_n E 0 d_Mo_start_119 rfl rfl ?_
      refine z_iconst E (v := 0) d_Mo_start_120 (by decide) ?_
      refine z_putI E w_Mo_143 d_Mo_start_121 (fun σ8 e => ?_)
      replace h := h σ8 e
      refine z_aload_n E 0 d_Mo_start_124 rfl rfl ?_
      refine z_iconst E (v := 0) d_Mo_start_125 (by decide) ?_
      refine z_putI E w_Mo_146 d_Mo_start_126 (fun σ9 e => ?_)
      replace h := h σ9 e
      refine z_aload_n E 0 d_Mo_start_129 rfl rfl ?_
      refine z_iconst E (v := 0) d_Mo_start_130 (by decide) ?_
      refine z_putI E w_Mo_149 d_Mo_start_131 (fun σ10 e => ?_)
      replace h := h σ10 e
      refine z_aload_n E 0 d_Mo_start_134 rfl rfl ?_
      refine z_iconst E (v := 1) d_Mo_start_135 (by decide) ?_
      refine z_putI E w_Mo_103 d_Mo_start_136 (fun σ11 e => ?_)
      replace h := h σ11 e
      refine z_aload_n E 0 d_Mo_start_139 rfl rfl ?_
      refine z_iconst E (v := 0) d_Mo_start_140 (by decide) ?_
      refine z_putI E w_Mo_120 d_Mo_start_141 (fun σ12 e => ?_)
      replace h := h σ12 e
      refine z_iconst E (v := 0) d_Mo_start_144 (by decide) ?_
      refine z_istore E [1, 5, 8, 0] (lv' := [(0, zf G 32), (4, .int v4), (7, .int (((1 : Int32) <<< ((σ 32 0) &&& 31)) - (1 : Int32))), (8, .int (0 : Int32))]) d_Mo_start_145 (by decide) rfl ?_
      exact h
    · replace h := h.2 q
      refine z_iconst E (v := -1) d_Mo_start_91 (by decide) ?_
      exact z_ireturn E rfl d_Mo_start_92 h

set_option maxRecDepth 20000 in
set_option maxHeartbeats 4000000 in
theorem b_Mo_start_147 {G : zG} {X : zX} {post : Option Value → zSt → Prop} (E : zCtx G M_Mo_start (zKm G 4 X post) X) (v4 : Int32) (v7 : Int32) (v8 : Int32) (σ : zSt)
    (h : (((12672 : Int32) ≤ v8 → zZ G M_Mo_start 4 X post 172 [(0, zf G 32), (4, .int v4), (7, .int v7), (8, .int (0 : Int32))] [] σ) ∧ (¬ (12672 : Int32) ≤ v8 → (vp_in v8 12672 ∧ ∀ σ1 : zSt, σ1 = zup σ 45 v8.toNatClampNeg (0 : Int32) → zZ G M_Mo_start 4 X post 147 [(0, zf G 32), (4, .int v4), (7, .int v7), (8, .int (v8 + 1))] [] σ1)))) :
    zZ G M_Mo_start 4 X post 147 [(0, zf G 32), (4, .int v4), (7, .int v7), (8, .int v8)] [] σ := by
  refine z_iload E 3 d_Mo_start_147 rfl ?_
  refine z_sipush E (v := 12672) d_Mo_start_149 (by decide) ?_
  refine z_icmp_ge E d_Mo_start_152 (tgt := 169) (by decide) ⟨fun q => ?_, fun q => ?_⟩
  · replace h := h.1 q
    refine z_iconst E (v := 0) d_Mo_start_169 (by decide) ?_
    refine z_istore E [1, 2, 3, 0] (lv' := [(0, zf G 32), (4, .int v4), (7, .int v7), (8, .int (0 : Int32))]) d_Mo_start_170 (by decide) rfl ?_
    exact h
  · replace h := h.2 q
    refine z_aload_n E 0 d_Mo_start_155 rfl rfl ?_
    refine z_getR E f_Mo_47 d_Mo_start_156 ?_
    refine z_iload E 3 d_Mo_start_159 rfl ?_
    refine z_iconst E (v := 0) d_Mo_start_161 (by decide) ?_
    obtain ⟨h0, h⟩ := h
    refine z_zast E rfl d_Mo_start_162 (y := (0 : Int32)) rfl ⟨h0, fun σ1 e => ?_⟩
    replace h := h σ1 e
    refine z_iinc E 3 [1, 2, 3, 0] (v := v8 + 1) (lv' := [(0, zf G 32), (4, .int v4), (7, .int v7), (8, .int (v8 + 1))]) d_Mo_start_163 rfl rfl (by decide) rfl ?_
    refine z_goto E d_Mo_start_166 (tgt := 147) (by decide) ?_
    exact h

set_option maxRecDepth 20000 in
set_option maxHeartbeats 4000000 in
theorem b_Mo_start_172 {G : zG} {X : zX} {post : Option Value → zSt → Prop} (E : zCtx G M_Mo_start (zKm G 4 X post) X) (v4 : Int32) (v7 : Int32) (v8 : Int32) (σ : zSt)
    (h : (((144 : Int32) ≤ v8 → zZ G M_Mo_start 4 X post 197 [(0, zf G 32), (4, .int v4), (7, .int v7), (8, .int (0 : Int32))] [] σ) ∧ (¬ (144 : Int32) ≤ v8 → (vp_in v8 144 ∧ ∀ σ1 : zSt, σ1 = zup σ 44 v8.toNatClampNeg (0 : Int32) → zZ G M_Mo_start 4 X post 172 [(0, zf G 32), (4, .int v4), (7, .int v7), (8, .int (v8 + 1))] [] σ1)))) :
    zZ G M_Mo_start 4 X post 172 [(0, zf G 32), (4, .int v4), (7, .int v7), (8, .int v8)] [] σ := by
  refine z_iload E 3 d_Mo_start_172 rfl ?_
  refine z_sipush E (v := 144) d_Mo_start_174 (by decide) ?_
  refine z_icmp_ge E d_Mo_start_177 (tgt := 194) (by decide) ⟨fun q => ?_, fun q => ?_⟩
  · replace h := h.1 q
    refine z_iconst E (v := 0) d_Mo_start_194 (by decide) ?_
    refine z_istore E [1, 2, 3, 0] (lv' := [(0, zf G 32), (4, .int v4), (7, .int v7), (8, .int (0 : Int32))]) d_Mo_start_195 (by decide) rfl ?_
    exact h
  · replace h := h.2 q
    refine z_aload_n E 0 d_Mo_start_180 rfl rfl ?_
    refine z_getR E f_Mo_44 d_Mo_start_181 ?_
    refine z_iload E 3 d_Mo_start_184 rfl ?_
    refine z_iconst E (v := 0) d_Mo_start_186 (by decide) ?_
    obtain ⟨h0, h⟩ := h
    refine z_zast E rfl d_Mo_start_187 (y := (0 : Int32)) rfl ⟨h0, fun σ1 e => ?_⟩
    replace h := h σ1 e
    refine z_iinc E 3 [1, 2, 3, 0] (v := v8 + 1) (lv' := [(0, zf G 32), (4, .int v4), (7, .int v7), (8, .int (v8 + 1))]) d_Mo_start_188 rfl rfl (by decide) rfl ?_
    refine z_goto E d_Mo_start_191 (tgt := 172) (by decide) ?_
    exact h

set_option maxRecDepth 20000 in
set_option maxHeartbeats 4000000 in
theorem b_Mo_start_197 {G : zG} {X : zX} {post : Option Value → zSt → Prop} (E : zCtx G M_Mo_start (zKm G 4 X post) X) (v4 : Int32) (v7 : Int32) (v8 : Int32) (σ : zSt)
    (h : (((σ 32 0) ≤ v8 → ((¬ (σ 32 6) = (1 : Int32) → ((¬ (σ 32 6) = (2 : Int32) → (∃ P : zSt → Prop, zV G 2 M_Mo_step [zf G 32] σ P ∧ ∀ σ1 : zSt, P σ1 → zZ G M_Mo_start 4 X post 302 [(0, zf G 32), (8, .int (0 : Int32))] [] σ1)) ∧ ((σ 32 6) = (2 : Int32) → (∃ P : zSt → Prop, zV G 2 M_Mo_makeClusters [zf G 32, .int v4] σ P ∧ ∀ σ2 : zSt, P σ2 → (∃ P : zSt → Prop, zV G 2 M_Mo_step [zf G 32] σ2 P ∧ ∀ σ3 : zSt, P σ3 → zZ G M_Mo_start 4 X post 302 [(0, zf G 32), (8, .int (0 : Int32))] [] σ3))))) ∧ ((σ 32 6) = (1 : Int32) → (∃ P : zSt → Prop, zV G 1 M_Mo_tree [zf G 32, .int (σ 32 7), .int v7] σ P ∧ ∀ σ4 : zSt, P σ4 → (∃ P : zSt → Prop, zV G 2 M_Mo_step [zf G 32] σ4 P ∧ ∀ σ5 : zSt, P σ5 → zZ G M_Mo_start 4 X post 302 [(0, zf G 32), (8, .int (0 : Int32))] [] σ5))))) ∧ (¬ (σ 32 0) ≤ v8 → (vp_in v8 12 ∧ ∀ σ6 : zSt, σ6 = zup σ 41 v8.toNatClampNeg (-2 : Int32) → (vp_in v8 12 ∧ ∀ σ7 : zSt, σ7 = zup σ6 42 v8.toNatClampNeg v8 → (∃ P : zSt → Prop, zV G 0 M_Mo_first [zf G 32, .int v8, .int v8] σ7 P ∧ ∀ σ8 : zSt, P σ8 → (vp_in v8 24 ∧ (vp_in v8 252 ∧ ∀ σ9 : zSt, σ9 = zup σ8 49 v8.toNatClampNeg (σ8 47 v8.toNatClampNeg) → (vp_in v8 12 ∧ ∀ σ10 : zSt, σ10 = zup σ9 35 v8.toNatClampNeg (0 : Int32) → zZ G M_Mo_start 4 X post 197 [(0, zf G 32), (4, .int v4), (7, .int v7), (8, .int (v8 + 1))] [] σ10))))))))) :
    zZ G M_Mo_start 4 X post 197 [(0, zf G 32), (4, .int v4), (7, .int v7), (8, .int v8)] [] σ := by
  refine z_iload E 3 d_Mo_start_197 rfl ?_
  refine z_aload_n E 0 d_Mo_start_199 rfl rfl ?_
  refine z_getI E f_Mo_84 d_Mo_start_200 ?_
  refine z_icmp_ge E d_Mo_start_203 (tgt := 260) (by decide) ⟨fun q => ?_, fun q => ?_⟩
  · replace h := h.1 q
    refine z_aload_n E 0 d_Mo_start_260 rfl rfl ?_
    refine z_getI E f_Mo_152 d_Mo_start_261 ?_
    refine z_iconst E (v := 1) d_Mo_start_264 (by decide) ?_
    refine z_icmp_ne E d_Mo_start_265 (tgt := 281) (by decide) ⟨fun q => ?_, fun q => ?_⟩
    · replace h := h.1 q
      refine z_aload_n E 0 d_Mo_start_281 rfl rfl ?_
      refine z_getI E f_Mo_152 d_Mo_start_282 ?_
      refine z_iconst E (v := 2) d_Mo_start_285 (by decide) ?_
      refine z_icmp_ne E d_Mo_start_286 (tgt := 295) (by decide) ⟨fun q => ?_, fun q => ?_⟩
      · replace h := h.1 q
        refine z_aload_n E 0 d_Mo_start_295 rfl rfl ?_
        obtain ⟨P, hM, h⟩ := h
        refine z_callVV [] [] E hM c_Mo_187 r_Mo_step rfl zrm rfl (Nat.le_of_ble_eq_true rfl) d_Mo_start_296 (fun σ1 hp => ?_)
        replace h := h σ1 hp
        refine z_iconst E (v := 0) d_Mo_start_299 (by decide) ?_
        refine z_istore E [1, 0] (lv' := [(0, zf G 32), (8, .int (0 : Int32))]) d_Mo_start_300 (by decide) rfl ?_
        exact h
      · replace h := h.2 q
        refine z_aload_n E 0 d_Mo_start_289 rfl rfl ?_
        refine z_iload E 1 d_Mo_start_290 rfl ?_
        obtain ⟨P, hM, h⟩ := h
        refine z_callVV [.int v4] [] E hM c_Mo_184 r_Mo_makeClusters rfl zrm rfl (Nat.le_of_ble_eq_true rfl) d_Mo_start_292 (fun σ2 hp => ?_)
        replace h := h σ2 hp
        refine z_aload_n E 0 d_Mo_start_295 rfl rfl ?_
        obtain ⟨P, hM, h⟩ := h
        refine z_callVV [] [] E hM c_Mo_187 r_Mo_step rfl zrm rfl (Nat.le_of_ble_eq_true rfl) d_Mo_start_296 (fun σ3 hp => ?_)
        replace h := h σ3 hp
        refine z_iconst E (v := 0) d_Mo_start_299 (by decide) ?_
        refine z_istore E [1, 0] (lv' := [(0, zf G 32), (8, .int (0 : Int32))]) d_Mo_start_300 (by decide) rfl ?_
        exact h
    · replace h := h.2 q
      refine z_aload_n E 0 d_Mo_start_268 rfl rfl ?_
      refine z_aload_n E 0 d_Mo_start_269 rfl rfl ?_
      refine z_getI E f_Mo_126 d_Mo_start_270 ?_
      refine z_iload E 2 d_Mo_start_273 rfl ?_
      obtain ⟨P, hM, h⟩ := h
      refine z_callVV [.int (σ 32 7), .int v7] [] E hM c_Mo_113 r_Mo_tree rfl zrm rfl (Nat.le_of_ble_eq_true rfl) d_Mo_start_275 (fun σ4 hp => ?_)
      replace h := h σ4 hp
      refine z_goto E d_Mo_start_278 (tgt := 295) (by decide) ?_
      refine z_aload_n E 0 d_Mo_start_295 rfl rfl ?_
      obtain ⟨P, hM, h⟩ := h
      refine z_callVV [] [] E hM c_Mo_187 r_Mo_step rfl zrm rfl (Nat.le_of_ble_eq_true rfl) d_Mo_start_296 (fun σ5 hp => ?_)
      replace h := h σ5 hp
      refine z_iconst E (v := 0) d_Mo_start_299 (by decide) ?_
      refine z_istore E [1, 0] (lv' := [(0, zf G 32), (8, .int (0 : Int32))]) d_Mo_start_300 (by decide) rfl ?_
      exact h
  · replace h := h.2 q
    refine z_aload_n E 0 d_Mo_start_206 rfl rfl ?_
    refine z_getR E f_Mo_35 d_Mo_start_207 ?_
    refine z_iload E 3 d_Mo_start_210 rfl ?_
    refine z_bipush E (v := -2) d_Mo_start_212 (by decide) ?_
    obtain ⟨h0, h⟩ := h
    refine z_iast E rfl d_Mo_start_214 ⟨h0, fun σ6 e => ?_⟩
    replace h := h σ6 e
    refine z_aload_n E 0 d_Mo_start_215 rfl rfl ?_
    refine z_getR E f_Mo_38 d_Mo_start_216 ?_
    refine z_iload E 3 d_Mo_start_219 rfl ?_
    refine z_iload E 3 d_Mo_start_221 rfl ?_
    obtain ⟨h0, h⟩ := h
    refine z_iast E rfl d_Mo_start_223 ⟨h0, fun σ7 e => ?_⟩
    replace h := h σ7 e
    refine z_aload_n E 0 d_Mo_start_224 rfl rfl ?_
    refine z_iload E 3 d_Mo_start_225 rfl ?_
    refine z_iload E 3 d_Mo_start_227 rfl ?_
    obtain ⟨P, hM, h⟩ := h
    refine z_callVV [.int v8, .int v8] [] E hM c_Mo_133 r_Mo_first rfl zrm rfl (Nat.le_of_ble_eq_true rfl) d_Mo_start_229 (fun σ8 hp => ?_)
    replace h := h σ8 hp
    refine z_aload_n E 0 d_Mo_start_232 rfl rfl ?_
    refine z_getR E f_Mo_59 d_Mo_start_233 ?_
    refine z_iload E 3 d_Mo_start_236 rfl ?_
    refine z_aload_n E 0 d_Mo_start_238 rfl rfl ?_
    refine z_getR E f_Mo_53 d_Mo_start_239 ?_
    refine z_iload E 3 d_Mo_start_242 rfl ?_
    obtain ⟨h0, h⟩ := h
    refine z_iald E rfl d_Mo_start_244 ⟨h0, ?_⟩
    obtain ⟨h0, h⟩ := h
    refine z_iast E rfl d_Mo_start_245 ⟨h0, fun σ9 e => ?_⟩
    replace h := h σ9 e
    refine z_aload_n E 0 d_Mo_start_246 rfl rfl ?_
    refine z_getR E f_Mo_16 d_Mo_start_247 ?_
    refine z_iload E 3 d_Mo_start_250 rfl ?_
    refine z_iconst E (v := 0) d_Mo_start_252 (by decide) ?_
    obtain ⟨h0, h⟩ := h
    refine z_iast E rfl d_Mo_start_253 ⟨h0, fun σ10 e => ?_⟩
    replace h := h σ10 e
    refine z_iinc E 3 [1, 2, 3, 0] (v := v8 + 1) (lv' := [(0, zf G 32), (4, .int v4), (7, .int v7), (8, .int (v8 + 1))]) d_Mo_start_254 rfl rfl (by decide) rfl ?_
    refine z_goto E d_Mo_start_257 (tgt := 197) (by decide) ?_
    exact h

set_option maxRecDepth 20000 in
set_option maxHeartbeats 4000000 in
theorem b_Mo_start_302 {G : zG} {X : zX} {post : Option Value → zSt → Prop} (E : zCtx G M_Mo_start (zKm G 4 X post) X) (v8 : Int32) (σ : zSt)
    (h : (((σ 32 0) ≤ v8 → post (some (.int (σ 32 27))) σ) ∧ (¬ (σ 32 0) ≤ v8 → (∃ P : zSt → Prop, zV G 2 M_Mo_beginRound [zf G 32, .int v8, .int (1 : Int32)] σ P ∧ ∀ σ1 : zSt, P σ1 → (∃ P : zSt → Prop, zV G 3 M_Mo_goOn [zf G 32, .int v8] σ1 P ∧ ∀ σ2 : zSt, P σ2 → zZ G M_Mo_start 4 X post 302 [(0, zf G 32), (8, .int (v8 + 1))] [] σ2))))) :
    zZ G M_Mo_start 4 X post 302 [(0, zf G 32), (8, .int v8)] [] σ := by
  refine z_iload E 1 d_Mo_start_302 rfl ?_
  refine z_aload_n E 0 d_Mo_start_304 rfl rfl ?_
  refine z_getI E f_Mo_84 d_Mo_start_305 ?_
  refine z_icmp_ge E d_Mo_start_308 (tgt := 330) (by decide) ⟨fun q => ?_, fun q => ?_⟩
  · replace h := h.1 q
    refine z_aload_n E 0 d_Mo_start_330 rfl rfl ?_
    refine z_getI E f_Mo_143 d_Mo_start_331 ?_
    exact z_ireturn E rfl d_Mo_start_334 h
  · replace h := h.2 q
    refine z_aload_n E 0 d_Mo_start_311 rfl rfl ?_
    refine z_iload E 1 d_Mo_start_312 rfl ?_
    refine z_iconst E (v := 1) d_Mo_start_314 (by decide) ?_
    obtain ⟨P, hM, h⟩ := h
    refine z_callVV [.int v8, .int (1 : Int32)] [] E hM c_Mo_178 r_Mo_beginRound rfl zrm rfl (Nat.le_of_ble_eq_true rfl) d_Mo_start_315 (fun σ1 hp => ?_)
    replace h := h σ1 hp
    refine z_aload_n E 0 d_Mo_start_318 rfl rfl ?_
    refine z_iload E 1 d_Mo_start_319 rfl ?_
    obtain ⟨P, hM, h⟩ := h
    refine z_callVV [.int v8] [] E hM c_Mo_190 r_Mo_goOn rfl zrm rfl (Nat.le_of_ble_eq_true rfl) d_Mo_start_321 (fun σ2 hp => ?_)
    replace h := h σ2 hp
    refine z_iinc E 1 [1, 0] (v := v8 + 1) (lv' := [(0, zf G 32), (8, .int (v8 + 1))]) d_Mo_start_324 rfl rfl (by decide) rfl ?_
    refine z_goto E d_Mo_start_327 (tgt := 302) (by decide) ?_
    exact h

set_option maxRecDepth 20000 in
set_option maxHeartbeats 4000000 in
theorem b_Mo_handle_0 {G : zG} {X : zX} {post : Option Value → zSt → Prop} (E : zCtx G M_Mo_handle (zKm G 4 X post) X) (v1 : Int32) (σ : zSt)
    (h : (vp_in ((5 : Int32) * v1) 20000 ∧ (vp_in (((5 : Int32) * v1) + (1 : Int32)) 20000 ∧ (vp_in (((5 : Int32) * v1) + (2 : Int32)) 20000 ∧ (vp_in (((5 : Int32) * v1) + (3 : Int32)) 20000 ∧ (vp_in (((5 : Int32) * v1) + (4 : Int32)) 20000 ∧ zZ G M_Mo_handle 4 X post 61 [(0, zf G 32), (2, .int (σ 51 ((5 : Int32) * v1).toNatClampNeg)), (3, .int (σ 51 (((5 : Int32) * v1) + (1 : Int32)).toNatClampNeg)), (4, .int (σ 51 (((5 : Int32) * v1) + (2 : Int32)).toNatClampNeg)), (5, .int (σ 51 (((5 : Int32) * v1) + (3 : Int32)).toNatClampNeg)), (6, .int (σ 51 (((5 : Int32) * v1) + (4 : Int32)).toNatClampNeg)), (7, .int ((5 : Int32) * v1))] [] σ)))))) :
    zZ G M_Mo_handle 4 X post 0 [(0, zf G 32), (1, .int v1)] [] σ := by
  refine z_aload_n E 0 d_Mo_handle_0 rfl rfl ?_
  refine z_getR E f_Mo_65 d_Mo_handle_1 ?_
  refine z_iconst E (v := 5) d_Mo_handle_4 (by decide) ?_
  refine z_iload_n E 1 d_Mo_handle_5 rfl rfl ?_
  refine z_imul E d_Mo_handle_6 ?_
  obtain ⟨h0, h⟩ := h
  refine z_iald E rfl d_Mo_handle_7 ⟨h0, ?_⟩
  refine z_istore_n E [1, 2, 0] (lv' := [(0, zf G 32), (1, .int v1), (2, .int (σ 51 ((5 : Int32) * v1).toNatClampNeg))]) d_Mo_handle_8 rfl (by decide) rfl ?_
  refine z_aload_n E 0 d_Mo_handle_9 rfl rfl ?_
  refine z_getR E f_Mo_65 d_Mo_handle_10 ?_
  refine z_iconst E (v := 5) d_Mo_handle_13 (by decide) ?_
  refine z_iload_n E 1 d_Mo_handle_14 rfl rfl ?_
  refine z_imul E d_Mo_handle_15 ?_
  refine z_iconst E (v := 1) d_Mo_handle_16 (by decide) ?_
  refine z_iadd E d_Mo_handle_17 ?_
  obtain ⟨h0, h⟩ := h
  refine z_iald E rfl d_Mo_handle_18 ⟨h0, ?_⟩
  refine z_istore_n E [1, 2, 3, 0] (lv' := [(0, zf G 32), (1, .int v1), (2, .int (σ 51 ((5 : Int32) * v1).toNatClampNeg)), (3, .int (σ 51 (((5 : Int32) * v1) + (1 : Int32)).toNatClampNeg))]) d_Mo_handle_19 rfl (by decide) rfl ?_
  refine z_aload_n E 0 d_Mo_handle_20 rfl rfl ?_
  refine z_getR E f_Mo_65 d_Mo_handle_21 ?_
  refine z_iconst E (v := 5) d_Mo_handle_24 (by decide) ?_
  refine z_iload_n E 1 d_Mo_handle_25 rfl rfl ?_
  refine z_imul E d_Mo_handle_26 ?_
  refine z_iconst E (v := 2) d_Mo_handle_27 (by decide) ?_
  refine z_iadd E d_Mo_handle_28 ?_
  obtain ⟨h0, h⟩ := h
  refine z_iald E rfl d_Mo_handle_29 ⟨h0, ?_⟩
  refine z_istore E [1, 2, 3, 4, 0] (lv' := [(0, zf G 32), (1, .int v1), (2, .int (σ 51 ((5 : Int32) * v1).toNatClampNeg)), (3, .int (σ 51 (((5 : Int32) * v1) + (1 : Int32)).toNatClampNeg)), (4, .int (σ 51 (((5 : Int32) * v1) + (2 : Int32)).toNatClampNeg))]) d_Mo_handle_30 (by decide) rfl ?_
  refine z_aload_n E 0 d_Mo_handle_32 rfl rfl ?_
  refine z_getR E f_Mo_65 d_Mo_handle_33 ?_
  refine z_iconst E (v := 5) d_Mo_handle_36 (by decide) ?_
  refine z_iload_n E 1 d_Mo_handle_37 rfl rfl ?_
  refine z_imul E d_Mo_handle_38 ?_
  refine z_iconst E (v := 3) d_Mo_handle_39 (by decide) ?_
  refine z_iadd E d_Mo_handle_40 ?_
  obtain ⟨h0, h⟩ := h
  refine z_iald E rfl d_Mo_handle_41 ⟨h0, ?_⟩
  refine z_istore E [1, 2, 3, 4, 5, 0] (lv' := [(0, zf G 32), (1, .int v1), (2, .int (σ 51 ((5 : Int32) * v1).toNatClampNeg)), (3, .int (σ 51 (((5 : Int32) * v1) + (1 : Int32)).toNatClampNeg)), (4, .int (σ 51 (((5 : Int32) * v1) + (2 : Int32)).toNatClampNeg)), (5, .int (σ 51 (((5 : Int32) * v1) + (3 : Int32)).toNatClampNeg))]) d_Mo_handle_42 (by decide) rfl ?_
  refine z_aload_n E 0 d_Mo_handle_44 rfl rfl ?_
  refine z_getR E f_Mo_65 d_Mo_handle_45 ?_
  refine z_iconst E (v := 5) d_Mo_handle_48 (by decide) ?_
  refine z_iload_n E 1 d_Mo_handle_49 rfl rfl ?_
  refine z_imul E d_Mo_handle_50 ?_
  refine z_iconst E (v := 4) d_Mo_handle_51 (by decide) ?_
  refine z_iadd E d_Mo_handle_52 ?_
  obtain ⟨h0, h⟩ := h
  refine z_iald E rfl d_Mo_handle_53 ⟨h0, ?_⟩
  refine z_istore E [1, 2, 3, 4, 5, 6, 0] (lv' := [(0, zf G 32), (1, .int v1), (2, .int (σ 51 ((5 : Int32) * v1).toNatClampNeg)), (3, .int (σ 51 (((5 : Int32) * v1) + (1 : Int32)).toNatClampNeg)), (4, .int (σ 51 (((5 : Int32) * v1) + (2 : Int32)).toNatClampNeg)), (5, .int (σ 51 (((5 : Int32) * v1) + (3 : Int32)).toNatClampNeg)), (6, .int (σ 51 (((5 : Int32) * v1) + (4 : Int32)).toNatClampNeg))]) d_Mo_handle_54 (by decide) rfl ?_
  refine z_iconst E (v := 5) d_Mo_handle_56 (by decide) ?_
  refine z_iload_n E 1 d_Mo_handle_57 rfl rfl ?_
  refine z_imul E d_Mo_handle_58 ?_
  refine z_istore E [1, 3, 4, 5, 6, 7, 0] (lv' := [(0, zf G 32), (2, .int (σ 51 ((5 : Int32) * v1).toNatClampNeg)), (3, .int (σ 51 (((5 : Int32) * v1) + (1 : Int32)).toNatClampNeg)), (4, .int (σ 51 (((5 : Int32) * v1) + (2 : Int32)).toNatClampNeg)), (5, .int (σ 51 (((5 : Int32) * v1) + (3 : Int32)).toNatClampNeg)), (6, .int (σ 51 (((5 : Int32) * v1) + (4 : Int32)).toNatClampNeg)), (7, .int ((5 : Int32) * v1))]) d_Mo_handle_59 (by decide) rfl ?_
  exact h

set_option maxRecDepth 20000 in
set_option maxHeartbeats 4000000 in
theorem b_Mo_handle_61 {G : zG} {X : zX} {post : Option Value → zSt → Prop} (E : zCtx G M_Mo_handle (zKm G 4 X post) X) (v2 : Int32) (v3 : Int32) (v4 : Int32) (v5 : Int32) (v6 : Int32) (v7 : Int32) (σ : zSt)
    (h : ((((5 : Int32) * (σ 32 27)) ≤ (v7 + (5 : Int32)) → (∀ σ1 : zSt, σ1 = zup σ 32 27 ((σ 32 27) - (1 : Int32)) → ((v2.toInt = 0 → (vp_in ((((0 : Int32) * 12 + v4) * 12 + v3) * 22 + v5) 12672 ∧ ∀ σ2 : zSt, σ2 = zup σ1 45 ((((0 : Int32) * 12 + v4) * 12 + v3) * 22 + v5).toNatClampNeg (1 : Int32) → (vp_in ((((0 : Int32) * 12 + v4) * 12 + v3) * 22 + v5) 3168 ∧ ∀ σ3 : zSt, σ3 = zup σ2 46 ((((0 : Int32) * 12 + v4) * 12 + v3) * 22 + v5).toNatClampNeg v6 → (∃ P : zSt → Prop, zV G 0 M_Mo_send [zf G 32, .int (1 : Int32), .int v4, .int v3, .int v5, .int (0 : Int32)] σ3 P ∧ ∀ σ4 : zSt, P σ4 → post (some (.int v2)) σ4)))) ∧ (v2.toInt = 1 → (vp_in v4 12 ∧ (vp_in v4 12 ∧ ∀ σ5 : zSt, σ5 = zup σ1 36 v4.toNatClampNeg ((σ1 36 v4.toNatClampNeg) - (1 : Int32)) → (∃ P : zSt → Prop, zV G 3 M_Mo_goOn [zf G 32, .int v4] σ5 P ∧ ∀ σ6 : zSt, P σ6 → post (some (.int v2)) σ6)))) ∧ (v2.toInt = 2 → zZ G M_Mo_handle 4 X post 224 [(0, zf G 32), (2, .int v2), (3, .int v3), (4, .int v4), (5, .int v5)] [] σ1) ∧ (v2.toInt = 3 → zZ G M_Mo_handle 4 X post 224 [(0, zf G 32), (2, .int v2), (3, .int v3), (4, .int v4), (5, .int v5)] [] σ1) ∧ (v2.toInt = 4 → (∃ P : zSt → Prop, zV G 2 M_Mo_beginRound [zf G 32, .int v4, .int v5] σ1 P ∧ ∀ σ7 : zSt, P σ7 → (∃ P : zSt → Prop, zV G 3 M_Mo_goOn [zf G 32, .int v4] σ7 P ∧ ∀ σ8 : zSt, P σ8 → post (some (.int v2)) σ8))) ∧ (v2.toInt = 5 → (∃ P : zSt → Prop, zV G 2 M_Mo_becomeFirm [zf G 32, .int v4] σ1 P ∧ ∀ σ9 : zSt, P σ9 → (∃ P : zSt → Prop, zV G 3 M_Mo_goOn [zf G 32, .int v4] σ9 P ∧ ∀ σ10 : zSt, P σ10 → post (some (.int v2)) σ10))) ∧ ((v2.toInt < 0 ∨ 5 < v2.toInt) → zZ G M_Mo_handle 4 X post 224 [(0, zf G 32), (2, .int v2), (3, .int v3), (4, .int v4), (5, .int v5)] [] σ1)))) ∧ (¬ ((5 : Int32) * (σ 32 27)) ≤ (v7 + (5 : Int32)) → (vp_in (v7 + (5 : Int32)) 20000 ∧ (vp_in v7 20000 ∧ ∀ σ11 : zSt, σ11 = zup σ 51 v7.toNatClampNeg (σ 51 (v7 + (5 : Int32)).toNatClampNeg) → zZ G M_Mo_handle 4 X post 61 [(0, zf G 32), (2, .int v2), (3, .int v3), (4, .int v4), (5, .int v5), (6, .int v6), (7, .int (v7 + 1))] [] σ11))))) :
    zZ G M_Mo_handle 4 X post 61 [(0, zf G 32), (2, .int v2), (3, .int v3), (4, .int v4), (5, .int v5), (6, .int v6), (7, .int v7)] [] σ := by
  refine z_iload E 6 d_Mo_handle_61 rfl ?_
  refine z_iconst E (v := 5) d_Mo_handle_63 (by decide) ?_
  refine z_iadd E d_Mo_handle_64 ?_
  refine z_iconst E (v := 5) d_Mo_handle_65 (by decide) ?_
  refine z_aload_n E 0 d_Mo_handle_66 rfl rfl ?_
  refine z_getI E f_Mo_143 d_Mo_handle_67 ?_
  refine z_imul E d_Mo_handle_70 ?_
  refine z_icmp_ge E d_Mo_handle_71 (tgt := 96) (by decide) ⟨fun q => ?_, fun q => ?_⟩
  · replace h := h.1 q
    refine z_aload_n E 0 d_Mo_handle_96 rfl rfl ?_
    refine z_dup E d_Mo_handle_97 rfl ?_
    refine z_getI E f_Mo_143 d_Mo_handle_98 ?_
    refine z_iconst E (v := 1) d_Mo_handle_101 (by decide) ?_
    refine z_isub E d_Mo_handle_102 ?_
    refine z_putI E w_Mo_143 d_Mo_handle_103 (fun σ1 e => ?_)
    replace h := h σ1 e
    refine z_iload_n E 1 d_Mo_handle_106 rfl rfl ?_
    refine z_table E d_Mo_handle_107 (tO := 224) (tgts := [144, 190, 224, 224, 204, 215]) (by decide) (by decide) (by decide) ⟨z_tcons (fun q => ?_) (z_tcons (fun q => ?_) (z_tcons (fun q => ?_) (z_tcons (fun q => ?_) (z_tcons (fun q => ?_) (z_tcons (fun q => ?_) (z_tnil)))))), fun q => ?_⟩
    · replace h := h.1 q
      show zZ G M_Mo_handle 4 X post 144 [(0, zf G 32), (2, .int v2), (3, .int v3), (4, .int v4), (5, .int v5), (6, .int v6), (7, .int v7)] [] σ1
      refine z_aload_n E 0 d_Mo_handle_144 rfl rfl ?_
      refine z_getR E f_Mo_47 d_Mo_handle_145 ?_
      refine z_aload_n E 0 d_Mo_handle_148 rfl rfl ?_
      refine z_iconst E (v := 0) d_Mo_handle_149 (by decide) ?_
      refine z_iload E 3 d_Mo_handle_150 rfl ?_
      refine z_iload_n E 2 d_Mo_handle_152 rfl rfl ?_
      refine z_iload E 4 d_Mo_handle_153 rfl ?_
      refine z_callVIp [.int (0 : Int32), .int v4, .int v3, .int v5] [zf G 45] E (p_Mo_place G σ1 (0 : Int32) v4 v3 v5) c_Mo_162 r_Mo_place rfl zrm rfl (Nat.le_of_ble_eq_true rfl) d_Mo_handle_155 ?_
      refine z_iconst E (v := 1) d_Mo_handle_158 (by decide) ?_
      obtain ⟨h0, h⟩ := h
      refine z_zast E rfl d_Mo_handle_159 (y := (1 : Int32)) rfl ⟨h0, fun σ2 e => ?_⟩
      replace h := h σ2 e
      refine z_aload_n E 0 d_Mo_handle_160 rfl rfl ?_
      refine z_getR E f_Mo_50 d_Mo_handle_161 ?_
      refine z_aload_n E 0 d_Mo_handle_164 rfl rfl ?_
      refine z_iconst E (v := 0) d_Mo_handle_165 (by decide) ?_
      refine z_iload E 3 d_Mo_handle_166 rfl ?_
      refine z_iload_n E 2 d_Mo_handle_168 rfl rfl ?_
      refine z_iload E 4 d_Mo_handle_169 rfl ?_
      refine z_callVIp [.int (0 : Int32), .int v4, .int v3, .int v5] [zf G 46] E (p_Mo_place G σ2 (0 : Int32) v4 v3 v5) c_Mo_162 r_Mo_place rfl zrm rfl (Nat.le_of_ble_eq_true rfl) d_Mo_handle_171 ?_
      refine z_iload E 5 d_Mo_handle_174 rfl ?_
      obtain ⟨h0, h⟩ := h
      refine z_iast E rfl d_Mo_handle_176 ⟨h0, fun σ3 e => ?_⟩
      replace h := h σ3 e
      refine z_aload_n E 0 d_Mo_handle_177 rfl rfl ?_
      refine z_iconst E (v := 1) d_Mo_handle_178 (by decide) ?_
      refine z_iload E 3 d_Mo_handle_179 rfl ?_
      refine z_iload_n E 2 d_Mo_handle_181 rfl rfl ?_
      refine z_iload E 4 d_Mo_handle_182 rfl ?_
      refine z_iconst E (v := 0) d_Mo_handle_184 (by decide) ?_
      obtain ⟨P, hM, h⟩ := h
      refine z_callVV [.int (1 : Int32), .int v4, .int v3, .int v5, .int (0 : Int32)] [] E hM c_Mo_158 r_Mo_send rfl zrm rfl (Nat.le_of_ble_eq_true rfl) d_Mo_handle_185 (fun σ4 hp => ?_)
      replace h := h σ4 hp
      refine z_iload_n E 1 d_Mo_handle_188 rfl rfl ?_
      exact z_ireturn E rfl d_Mo_handle_189 h
    · replace h := h.2.1 q
      show zZ G M_Mo_handle 4 X post 190 [(0, zf G 32), (2, .int v2), (3, .int v3), (4, .int v4), (5, .int v5), (6, .int v6), (7, .int v7)] [] σ1
      refine z_aload_n E 0 d_Mo_handle_190 rfl rfl ?_
      refine z_getR E f_Mo_19 d_Mo_handle_191 ?_
      refine z_iload E 3 d_Mo_handle_194 rfl ?_
      refine z_dup2 E d_Mo_handle_196 rfl rfl ?_
      obtain ⟨h0, h⟩ := h
      refine z_iald E rfl d_Mo_handle_197 ⟨h0, ?_⟩
      refine z_iconst E (v := 1) d_Mo_handle_198 (by decide) ?_
      refine z_isub E d_Mo_handle_199 ?_
      obtain ⟨h0, h⟩ := h
      refine z_iast E rfl d_Mo_handle_200 ⟨h0, fun σ5 e => ?_⟩
      replace h := h σ5 e
      refine z_goto E d_Mo_handle_201 (tgt := 258) (by decide) ?_
      refine z_aload_n E 0 d_Mo_handle_258 rfl rfl ?_
      refine z_iload E 3 d_Mo_handle_259 rfl ?_
      obtain ⟨P, hM, h⟩ := h
      refine z_callVV [.int v4] [] E hM c_Mo_190 r_Mo_goOn rfl zrm rfl (Nat.le_of_ble_eq_true rfl) d_Mo_handle_261 (fun σ6 hp => ?_)
      replace h := h σ6 hp
      refine z_iload_n E 1 d_Mo_handle_264 rfl rfl ?_
      exact z_ireturn E rfl d_Mo_handle_265 h
    · replace h := h.2.2.1 q
      show zZ G M_Mo_handle 4 X post 224 [(0, zf G 32), (2, .int v2), (3, .int v3), (4, .int v4), (5, .int v5), (6, .int v6), (7, .int v7)] [] σ1
      refine zZ.sub [0, 1, 2, 3, 4] (lv' := [(0, zf G 32), (2, .int v2), (3, .int v3), (4, .int v4), (5, .int v5)]) rfl ?_
      exact h
    · replace h := h.2.2.2.1 q
      show zZ G M_Mo_handle 4 X post 224 [(0, zf G 32), (2, .int v2), (3, .int v3), (4, .int v4), (5, .int v5), (6, .int v6), (7, .int v7)] [] σ1
      refine zZ.sub [0, 1, 2, 3, 4] (lv' := [(0, zf G 32), (2, .int v2), (3, .int v3), (4, .int v4), (5, .int v5)]) rfl ?_
      exact h
    · replace h := h.2.2.2.2.1 q
      show zZ G M_Mo_handle 4 X post 204 [(0, zf G 32), (2, .int v2), (3, .int v3), (4, .int v4), (5, .int v5), (6, .int v6), (7, .int v7)] [] σ1
      refine z_aload_n E 0 d_Mo_handle_204 rfl rfl ?_
      refine z_iload E 3 d_Mo_handle_205 rfl ?_
      refine z_iload E 4 d_Mo_handle_207 rfl ?_
      obtain ⟨P, hM, h⟩ := h
      refine z_callVV [.int v4, .int v5] [] E hM c_Mo_178 r_Mo_beginRound rfl zrm rfl (Nat.le_of_ble_eq_true rfl) d_Mo_handle_209 (fun σ7 hp => ?_)
      replace h := h σ7 hp
      refine z_goto E d_Mo_handle_212 (tgt := 258) (by decide) ?_
      refine z_aload_n E 0 d_Mo_handle_258 rfl rfl ?_
      refine z_iload E 3 d_Mo_handle_259 rfl ?_
      obtain ⟨P, hM, h⟩ := h
      refine z_callVV [.int v4] [] E hM c_Mo_190 r_Mo_goOn rfl zrm rfl (Nat.le_of_ble_eq_true rfl) d_Mo_handle_261 (fun σ8 hp => ?_)
      replace h := h σ8 hp
      refine z_iload_n E 1 d_Mo_handle_264 rfl rfl ?_
      exact z_ireturn E rfl d_Mo_handle_265 h
    · replace h := h.2.2.2.2.2.1 q
      show zZ G M_Mo_handle 4 X post 215 [(0, zf G 32), (2, .int v2), (3, .int v3), (4, .int v4), (5, .int v5), (6, .int v6), (7, .int v7)] [] σ1
      refine z_aload_n E 0 d_Mo_handle_215 rfl rfl ?_
      refine z_iload E 3 d_Mo_handle_216 rfl ?_
      obtain ⟨P, hM, h⟩ := h
      refine z_callVV [.int v4] [] E hM c_Mo_174 r_Mo_becomeFirm rfl zrm rfl (Nat.le_of_ble_eq_true rfl) d_Mo_handle_218 (fun σ9 hp => ?_)
      replace h := h σ9 hp
      refine z_goto E d_Mo_handle_221 (tgt := 258) (by decide) ?_
      refine z_aload_n E 0 d_Mo_handle_258 rfl rfl ?_
      refine z_iload E 3 d_Mo_handle_259 rfl ?_
      obtain ⟨P, hM, h⟩ := h
      refine z_callVV [.int v4] [] E hM c_Mo_190 r_Mo_goOn rfl zrm rfl (Nat.le_of_ble_eq_true rfl) d_Mo_handle_261 (fun σ10 hp => ?_)
      replace h := h σ10 hp
      refine z_iload_n E 1 d_Mo_handle_264 rfl rfl ?_
      exact z_ireturn E rfl d_Mo_handle_265 h
    · replace h := h.2.2.2.2.2.2 q
      show zZ G M_Mo_handle 4 X post 224 [(0, zf G 32), (2, .int v2), (3, .int v3), (4, .int v4), (5, .int v5), (6, .int v6), (7, .int v7)] [] σ1
      refine zZ.sub [0, 1, 2, 3, 4] (lv' := [(0, zf G 32), (2, .int v2), (3, .int v3), (4, .int v4), (5, .int v5)]) rfl ?_
      exact h
  · replace h := h.2 q
    refine z_aload_n E 0 d_Mo_handle_74 rfl rfl ?_
    refine z_getR E f_Mo_65 d_Mo_handle_75 ?_
    refine z_iload E 6 d_Mo_handle_78 rfl ?_
    refine z_aload_n E 0 d_Mo_handle_80 rfl rfl ?_
    refine z_getR E f_Mo_65 d_Mo_handle_81 ?_
    refine z_iload E 6 d_Mo_handle_84 rfl ?_
    refine z_iconst E (v := 5) d_Mo_handle_86 (by decide) ?_
    refine z_iadd E d_Mo_handle_87 ?_
    obtain ⟨h0, h⟩ := h
    refine z_iald E rfl d_Mo_handle_88 ⟨h0, ?_⟩
    obtain ⟨h0, h⟩ := h
    refine z_iast E rfl d_Mo_handle_89 ⟨h0, fun σ11 e => ?_⟩
    replace h := h σ11 e
    refine z_iinc E 6 [1, 2, 3, 4, 5, 6, 0] (v := v7 + 1) (lv' := [(0, zf G 32), (2, .int v2), (3, .int v3), (4, .int v4), (5, .int v5), (6, .int v6), (7, .int (v7 + 1))]) d_Mo_handle_90 rfl rfl (by decide) rfl ?_
    refine z_goto E d_Mo_handle_93 (tgt := 61) (by decide) ?_
    exact h

set_option maxRecDepth 20000 in
set_option maxHeartbeats 4000000 in
theorem b_Mo_handle_224 {G : zG} {X : zX} {post : Option Value → zSt → Prop} (E : zCtx G M_Mo_handle (zKm G 4 X post) X) (v2 : Int32) (v3 : Int32) (v4 : Int32) (v5 : Int32) (v6 : Int32) (v7 : Int32) (σ : zSt)
    (h : ((¬ v2 = (2 : Int32) → ((¬ v2 = (3 : Int32) → (vp_in ((((3 : Int32) * 12 + v4) * 12 + v3) * 22 + v5) 12672 ∧ ∀ σ1 : zSt, σ1 = zup σ 45 ((((3 : Int32) * 12 + v4) * 12 + v3) * 22 + v5).toNatClampNeg (1 : Int32) → (∃ P : zSt → Prop, zV G 3 M_Mo_goOn [zf G 32, .int v4] σ1 P ∧ ∀ σ2 : zSt, P σ2 → post (some (.int v2)) σ2))) ∧ (v2 = (3 : Int32) → (vp_in ((((2 : Int32) * 12 + v4) * 12 + v3) * 22 + v5) 12672 ∧ ∀ σ3 : zSt, σ3 = zup σ 45 ((((2 : Int32) * 12 + v4) * 12 + v3) * 22 + v5).toNatClampNeg (1 : Int32) → (∃ P : zSt → Prop, zV G 3 M_Mo_goOn [zf G 32, .int v4] σ3 P ∧ ∀ σ4 : zSt, P σ4 → post (some (.int v2)) σ4))))) ∧ (v2 = (2 : Int32) → (vp_in ((((1 : Int32) * 12 + v4) * 12 + v3) * 22 + v5) 12672 ∧ ∀ σ5 : zSt, σ5 = zup σ 45 ((((1 : Int32) * 12 + v4) * 12 + v3) * 22 + v5).toNatClampNeg (1 : Int32) → (∃ P : zSt → Prop, zV G 3 M_Mo_goOn [zf G 32, .int v4] σ5 P ∧ ∀ σ6 : zSt, P σ6 → post (some (.int v2)) σ6))))) :
    zZ G M_Mo_handle 4 X post 224 [(0, zf G 32), (2, .int v2), (3, .int v3), (4, .int v4), (5, .int v5), (6, .int v6), (7, .int v7)] [] σ := by
  refine z_aload_n E 0 d_Mo_handle_224 rfl rfl ?_
  refine z_getR E f_Mo_47 d_Mo_handle_225 ?_
  refine z_aload_n E 0 d_Mo_handle_228 rfl rfl ?_
  refine z_iload_n E 1 d_Mo_handle_229 rfl rfl ?_
  refine z_iconst E (v := 2) d_Mo_handle_230 (by decide) ?_
  refine z_icmp_ne E d_Mo_handle_231 (tgt := 238) (by decide) ⟨fun q => ?_, fun q => ?_⟩
  · replace h := h.1 q
    refine z_iload_n E 1 d_Mo_handle_238 rfl rfl ?_
    refine z_iconst E (v := 3) d_Mo_handle_239 (by decide) ?_
    refine z_icmp_ne E d_Mo_handle_240 (tgt := 247) (by decide) ⟨fun q => ?_, fun q => ?_⟩
    · replace h := h.1 q
      refine z_iconst E (v := 3) d_Mo_handle_247 (by decide) ?_
      refine z_iload E 3 d_Mo_handle_248 rfl ?_
      refine z_iload_n E 2 d_Mo_handle_250 rfl rfl ?_
      refine z_iload E 4 d_Mo_handle_251 rfl ?_
      refine z_callVIp [.int (3 : Int32), .int v4, .int v3, .int v5] [zf G 45] E (p_Mo_place G σ (3 : Int32) v4 v3 v5) c_Mo_162 r_Mo_place rfl zrm rfl (Nat.le_of_ble_eq_true rfl) d_Mo_handle_253 ?_
      refine z_iconst E (v := 1) d_Mo_handle_256 (by decide) ?_
      obtain ⟨h0, h⟩ := h
      refine z_zast E rfl d_Mo_handle_257 (y := (1 : Int32)) rfl ⟨h0, fun σ1 e => ?_⟩
      replace h := h σ1 e
      refine z_aload_n E 0 d_Mo_handle_258 rfl rfl ?_
      refine z_iload E 3 d_Mo_handle_259 rfl ?_
      obtain ⟨P, hM, h⟩ := h
      refine z_callVV [.int v4] [] E hM c_Mo_190 r_Mo_goOn rfl zrm rfl (Nat.le_of_ble_eq_true rfl) d_Mo_handle_261 (fun σ2 hp => ?_)
      replace h := h σ2 hp
      refine z_iload_n E 1 d_Mo_handle_264 rfl rfl ?_
      exact z_ireturn E rfl d_Mo_handle_265 h
    · replace h := h.2 q
      refine z_iconst E (v := 2) d_Mo_handle_243 (by decide) ?_
      refine z_goto E d_Mo_handle_244 (tgt := 248) (by decide) ?_
      refine z_iload E 3 d_Mo_handle_248 rfl ?_
      refine z_iload_n E 2 d_Mo_handle_250 rfl rfl ?_
      refine z_iload E 4 d_Mo_handle_251 rfl ?_
      refine z_callVIp [.int (2 : Int32), .int v4, .int v3, .int v5] [zf G 45] E (p_Mo_place G σ (2 : Int32) v4 v3 v5) c_Mo_162 r_Mo_place rfl zrm rfl (Nat.le_of_ble_eq_true rfl) d_Mo_handle_253 ?_
      refine z_iconst E (v := 1) d_Mo_handle_256 (by decide) ?_
      obtain ⟨h0, h⟩ := h
      refine z_zast E rfl d_Mo_handle_257 (y := (1 : Int32)) rfl ⟨h0, fun σ3 e => ?_⟩
      replace h := h σ3 e
      refine z_aload_n E 0 d_Mo_handle_258 rfl rfl ?_
      refine z_iload E 3 d_Mo_handle_259 rfl ?_
      obtain ⟨P, hM, h⟩ := h
      refine z_callVV [.int v4] [] E hM c_Mo_190 r_Mo_goOn rfl zrm rfl (Nat.le_of_ble_eq_true rfl) d_Mo_handle_261 (fun σ4 hp => ?_)
      replace h := h σ4 hp
      refine z_iload_n E 1 d_Mo_handle_264 rfl rfl ?_
      exact z_ireturn E rfl d_Mo_handle_265 h
  · replace h := h.2 q
    refine z_iconst E (v := 1) d_Mo_handle_234 (by decide) ?_
    refine z_goto E d_Mo_handle_235 (tgt := 248) (by decide) ?_
    refine z_iload E 3 d_Mo_handle_248 rfl ?_
    refine z_iload_n E 2 d_Mo_handle_250 rfl rfl ?_
    refine z_iload E 4 d_Mo_handle_251 rfl ?_
    refine z_callVIp [.int (1 : Int32), .int v4, .int v3, .int v5] [zf G 45] E (p_Mo_place G σ (1 : Int32) v4 v3 v5) c_Mo_162 r_Mo_place rfl zrm rfl (Nat.le_of_ble_eq_true rfl) d_Mo_handle_253 ?_
    refine z_iconst E (v := 1) d_Mo_handle_256 (by decide) ?_
    obtain ⟨h0, h⟩ := h
    refine z_zast E rfl d_Mo_handle_257 (y := (1 : Int32)) rfl ⟨h0, fun σ5 e => ?_⟩
    replace h := h σ5 e
    refine z_aload_n E 0 d_Mo_handle_258 rfl rfl ?_
    refine z_iload E 3 d_Mo_handle_259 rfl ?_
    obtain ⟨P, hM, h⟩ := h
    refine z_callVV [.int v4] [] E hM c_Mo_190 r_Mo_goOn rfl zrm rfl (Nat.le_of_ble_eq_true rfl) d_Mo_handle_261 (fun σ6 hp => ?_)
    replace h := h σ6 hp
    refine z_iload_n E 1 d_Mo_handle_264 rfl rfl ?_
    exact z_ireturn E rfl d_Mo_handle_265 h

set_option maxRecDepth 20000 in
set_option maxHeartbeats 4000000 in
theorem b_Mo_come_0 {G : zG} {X : zX} {post : Option Value → zSt → Prop} (E : zCtx G M_Mo_come (zKm G 5 X post) X) (v1 : Int32) (σ : zSt)
    (h : (((σ 32 4) = 0 → post (some (.int (-1 : Int32))) σ) ∧ (¬ (σ 32 4) = 0 → ((v1 < 0 → post (some (.int (-1 : Int32))) σ) ∧ (¬ v1 < 0 → ((v1 < (σ 32 27) → (∃ P : Int32 → zSt → Prop, zI G 4 M_Mo_handle [zf G 32, .int v1] σ P ∧ ∀ (x2 : Int32) (σ1 : zSt), P x2 σ1 → post (some (.int x2)) σ1)) ∧ (¬ v1 < (σ 32 27) → post (some (.int (-1 : Int32))) σ))))))) :
    zZ G M_Mo_come 5 X post 0 [(0, zf G 32), (1, .int v1)] [] σ := by
  refine z_aload_n E 0 d_Mo_come_0 rfl rfl ?_
  refine z_getI E f_Mo_91 d_Mo_come_1 ?_
  refine z_if_eq E d_Mo_come_4 (tgt := 19) (by decide) ⟨fun q => ?_, fun q => ?_⟩
  · replace h := h.1 q
    refine z_iconst E (v := -1) d_Mo_come_19 (by decide) ?_
    refine z_goto E d_Mo_come_20 (tgt := 28) (by decide) ?_
    exact z_ireturn E rfl d_Mo_come_28 h
  · replace h := h.2 q
    refine z_iload_n E 1 d_Mo_come_7 rfl rfl ?_
    refine z_if_lt E d_Mo_come_8 (tgt := 19) (by decide) ⟨fun q => ?_, fun q => ?_⟩
    · replace h := h.1 q
      refine z_iconst E (v := -1) d_Mo_come_19 (by decide) ?_
      refine z_goto E d_Mo_come_20 (tgt := 28) (by decide) ?_
      exact z_ireturn E rfl d_Mo_come_28 h
    · replace h := h.2 q
      refine z_iload_n E 1 d_Mo_come_11 rfl rfl ?_
      refine z_aload_n E 0 d_Mo_come_12 rfl rfl ?_
      refine z_getI E f_Mo_143 d_Mo_come_13 ?_
      refine z_icmp_lt E d_Mo_come_16 (tgt := 23) (by decide) ⟨fun q => ?_, fun q => ?_⟩
      · replace h := h.1 q
        refine z_aload_n E 0 d_Mo_come_23 rfl rfl ?_
        refine z_iload_n E 1 d_Mo_come_24 rfl rfl ?_
        obtain ⟨P, hM, h⟩ := h
        refine z_callVI [.int v1] [] E hM c_Mo_193 r_Mo_handle rfl zrm rfl (Nat.le_of_ble_eq_true rfl) d_Mo_come_25 (fun x2 σ1 hp => ?_)
        replace h := h x2 σ1 hp
        exact z_ireturn E rfl d_Mo_come_28 h
      · replace h := h.2 q
        refine z_iconst E (v := -1) d_Mo_come_19 (by decide) ?_
        refine z_goto E d_Mo_come_20 (tgt := 28) (by decide) ?_
        exact z_ireturn E rfl d_Mo_come_28 h

set_option maxRecDepth 20000 in
set_option maxHeartbeats 4000000 in
theorem b_Mo_flow_0 {G : zG} {X : zX} {post : Option Value → zSt → Prop} (E : zCtx G M_Mo_flow (zKm G 5 X post) X) (v1 : Int32) (v2 : Int32) (σ : zSt)
    (h : (((σ 32 4) = 0 → post (some (.int (-1 : Int32))) σ) ∧ (¬ (σ 32 4) = 0 → ((v1 < 0 → post (some (.int (-1 : Int32))) σ) ∧ (¬ v1 < 0 → (((3000 : Int32) < v1 → post (some (.int (-1 : Int32))) σ) ∧ (¬ (3000 : Int32) < v1 → ((0 ≤ v2 → zZ G M_Mo_flow 5 X post 30 [(0, zf G 32), (1, .int v1), (3, .long v2.toInt64), (5, .int (0 : Int32))] [] σ) ∧ (¬ 0 ≤ v2 → post (some (.int (-1 : Int32))) σ))))))))) :
    zZ G M_Mo_flow 5 X post 0 [(0, zf G 32), (1, .int v1), (2, .int v2)] [] σ := by
  refine z_aload_n E 0 d_Mo_flow_0 rfl rfl ?_
  refine z_getI E f_Mo_91 d_Mo_flow_1 ?_
  refine z_if_eq E d_Mo_flow_4 (tgt := 22) (by decide) ⟨fun q => ?_, fun q => ?_⟩
  · replace h := h.1 q
    refine z_iconst E (v := -1) d_Mo_flow_22 (by decide) ?_
    exact z_ireturn E rfl d_Mo_flow_23 h
  · replace h := h.2 q
    refine z_iload_n E 1 d_Mo_flow_7 rfl rfl ?_
    refine z_if_lt E d_Mo_flow_8 (tgt := 22) (by decide) ⟨fun q => ?_, fun q => ?_⟩
    · replace h := h.1 q
      refine z_iconst E (v := -1) d_Mo_flow_22 (by decide) ?_
      exact z_ireturn E rfl d_Mo_flow_23 h
    · replace h := h.2 q
      refine z_iload_n E 1 d_Mo_flow_11 rfl rfl ?_
      refine z_sipush E (v := 3000) d_Mo_flow_12 (by decide) ?_
      refine z_icmp_gt E d_Mo_flow_15 (tgt := 22) (by decide) ⟨fun q => ?_, fun q => ?_⟩
      · replace h := h.1 q
        refine z_iconst E (v := -1) d_Mo_flow_22 (by decide) ?_
        exact z_ireturn E rfl d_Mo_flow_23 h
      · replace h := h.2 q
        refine z_iload_n E 2 d_Mo_flow_18 rfl rfl ?_
        refine z_if_ge E d_Mo_flow_19 (tgt := 24) (by decide) ⟨fun q => ?_, fun q => ?_⟩
        · replace h := h.1 q
          refine z_iload_n E 2 d_Mo_flow_24 rfl rfl ?_
          refine z_i2l E d_Mo_flow_25 ?_
          refine z_lstore_n E [1, 2, 0] (lv' := [(0, zf G 32), (1, .int v1), (3, .long v2.toInt64)]) d_Mo_flow_26 rfl (by decide) rfl ?_
          refine z_iconst E (v := 0) d_Mo_flow_27 (by decide) ?_
          refine z_istore E [1, 2, 3, 0] (lv' := [(0, zf G 32), (1, .int v1), (3, .long v2.toInt64), (5, .int (0 : Int32))]) d_Mo_flow_28 (by decide) rfl ?_
          exact h
        · replace h := h.2 q
          refine z_iconst E (v := -1) d_Mo_flow_22 (by decide) ?_
          exact z_ireturn E rfl d_Mo_flow_23 h

set_option maxRecDepth 20000 in
set_option maxHeartbeats 4000000 in
theorem b_Mo_flow_30 {G : zG} {X : zX} {post : Option Value → zSt → Prop} (E : zCtx G M_Mo_flow (zKm G 5 X post) X) (v1 : Int32) (v3 : Int64) (v5 : Int32) (σ : zSt)
    (h : ((v1 ≤ v5 → post (some (.int v5)) σ) ∧ (¬ v1 ≤ v5 → (((σ 32 27) ≤ 0 → post (some (.int v5)) σ) ∧ (¬ (σ 32 27) ≤ 0 → (¬ ((σ 32 27).toInt64) = 0 ∧ (∃ P : Int32 → zSt → Prop, zI G 4 M_Mo_handle [zf G 32, .int ((v3 - v3 / ((σ 32 27).toInt64) * ((σ 32 27).toInt64)).toInt32)] σ P ∧ ∀ (x2 : Int32) (σ1 : zSt), P x2 σ1 → zZ G M_Mo_flow 5 X post 30 [(0, zf G 32), (1, .int v1), (3, .long ((((69069 : Int64) * v3) + (1 : Int64)) - (((69069 : Int64) * v3) + (1 : Int64)) / (2147483648 : Int64) * (2147483648 : Int64))), (5, .int (v5 + 1))] [] σ1))))))) :
    zZ G M_Mo_flow 5 X post 30 [(0, zf G 32), (1, .int v1), (3, .long v3), (5, .int v5)] [] σ := by
  refine z_iload E 3 d_Mo_flow_30 rfl ?_
  refine z_iload_n E 1 d_Mo_flow_32 rfl rfl ?_
  refine z_icmp_ge E d_Mo_flow_33 (tgt := 75) (by decide) ⟨fun q => ?_, fun q => ?_⟩
  · replace h := h.1 q
    refine z_iload E 3 d_Mo_flow_75 rfl ?_
    exact z_ireturn E rfl d_Mo_flow_77 h
  · replace h := h.2 q
    refine z_aload_n E 0 d_Mo_flow_36 rfl rfl ?_
    refine z_getI E f_Mo_143 d_Mo_flow_37 ?_
    refine z_if_le E d_Mo_flow_40 (tgt := 75) (by decide) ⟨fun q => ?_, fun q => ?_⟩
    · replace h := h.1 q
      refine z_iload E 3 d_Mo_flow_75 rfl ?_
      exact z_ireturn E rfl d_Mo_flow_77 h
    · replace h := h.2 q
      refine z_aload_n E 0 d_Mo_flow_43 rfl rfl ?_
      refine z_lload_n E 2 d_Mo_flow_44 rfl rfl ?_
      refine z_aload_n E 0 d_Mo_flow_45 rfl rfl ?_
      refine z_getI E f_Mo_143 d_Mo_flow_46 ?_
      refine z_i2l E d_Mo_flow_49 ?_
      obtain ⟨h0, h⟩ := h
      refine z_lrem E d_Mo_flow_50 h0 ?_
      refine z_l2i E d_Mo_flow_51 ?_
      obtain ⟨P, hM, h⟩ := h
      refine z_callVI [.int ((v3 - v3 / ((σ 32 27).toInt64) * ((σ 32 27).toInt64)).toInt32)] [] E hM c_Mo_193 r_Mo_handle rfl zrm rfl (Nat.le_of_ble_eq_true rfl) d_Mo_flow_52 (fun x2 σ1 hp => ?_)
      replace h := h x2 σ1 hp
      refine z_istore E [1, 2, 3, 4] (lv' := [(0, zf G 32), (1, .int v1), (3, .long v3), (5, .int v5)]) d_Mo_flow_55 (by decide) rfl ?_
      refine z_ldc2 E (v := 69069) k_Mo_196 d_Mo_flow_57 ?_
      refine z_lload_n E 2 d_Mo_flow_60 rfl rfl ?_
      refine z_lmul E d_Mo_flow_61 ?_
      refine z_lconst E (v := 1) d_Mo_flow_62 (by decide) ?_
      refine z_ladd E d_Mo_flow_63 ?_
      refine z_ldc2 E (v := 2147483648) k_Mo_198 d_Mo_flow_64 ?_
      refine z_lrem E d_Mo_flow_67 (by decide) ?_
      refine z_lstore_n E [1, 2, 0, 3] (lv' := [(0, zf G 32), (1, .int v1), (3, .long ((((69069 : Int64) * v3) + (1 : Int64)) - (((69069 : Int64) * v3) + (1 : Int64)) / (2147483648 : Int64) * (2147483648 : Int64))), (5, .int v5)]) d_Mo_flow_68 rfl (by decide) rfl ?_
      refine z_iinc E 3 [1, 2, 3, 0] (v := v5 + 1) (lv' := [(0, zf G 32), (1, .int v1), (3, .long ((((69069 : Int64) * v3) + (1 : Int64)) - (((69069 : Int64) * v3) + (1 : Int64)) / (2147483648 : Int64) * (2147483648 : Int64))), (5, .int (v5 + 1))]) d_Mo_flow_69 rfl rfl (by decide) rfl ?_
      refine z_goto E d_Mo_flow_72 (tgt := 30) (by decide) ?_
      exact h

set_option maxRecDepth 20000 in
set_option maxHeartbeats 4000000 in
theorem b_Mo_told_0 {G : zG} {X : zX} {post : Option Value → zSt → Prop} (E : zCtx G M_Mo_told (zKm G 1 X post) X) (v1 : Int32) (v2 : Int32) (σ : zSt)
    (h : (((zNo σ v1) = true → post (some (.int (-1 : Int32))) σ) ∧ ((zNo σ v1) = false → ((v2 < 0 → post (some (.int (-1 : Int32))) σ) ∧ (¬ v2 < 0 → (((7 : Int32) < v2 → post (some (.int (-1 : Int32))) σ) ∧ (¬ (7 : Int32) < v2 → ((¬ (σ 32 4) = 0 → zZ G M_Mo_told 1 X post 38 [(0, zf G 32), (1, .int v1), (2, .int v2), (3, .int (0 : Int32)), (4, .int (0 : Int32))] [] σ) ∧ ((σ 32 4) = 0 → (((7 : Int32) ≤ v2 → zZ G M_Mo_told 1 X post 38 [(0, zf G 32), (1, .int v1), (2, .int v2), (3, .int (0 : Int32)), (4, .int (0 : Int32))] [] σ) ∧ (¬ (7 : Int32) ≤ v2 → post (some (.int (-1 : Int32))) σ))))))))))) :
    zZ G M_Mo_told 1 X post 0 [(0, zf G 32), (1, .int v1), (2, .int v2)] [] σ := by
  refine z_aload_n E 0 d_Mo_told_0 rfl rfl ?_
  refine z_iload_n E 1 d_Mo_told_1 rfl rfl ?_
  refine z_callVBp [.int v1] [] E (p_Mo_noNode G σ v1) c_Mo_95 r_Mo_noNode rfl zrm rfl (Nat.le_of_ble_eq_true rfl) d_Mo_told_2 ?_
  refine z_ifz_ne E d_Mo_told_5 (tgt := 31) (by decide) ⟨fun q => ?_, fun q => ?_⟩
  · replace h := h.1 q
    refine z_iconst E (v := -1) d_Mo_told_31 (by decide) ?_
    exact z_ireturn E rfl d_Mo_told_32 h
  · replace h := h.2 q
    refine z_iload_n E 2 d_Mo_told_8 rfl rfl ?_
    refine z_if_lt E d_Mo_told_9 (tgt := 31) (by decide) ⟨fun q => ?_, fun q => ?_⟩
    · replace h := h.1 q
      refine z_iconst E (v := -1) d_Mo_told_31 (by decide) ?_
      exact z_ireturn E rfl d_Mo_told_32 h
    · replace h := h.2 q
      refine z_iload_n E 2 d_Mo_told_12 rfl rfl ?_
      refine z_bipush E (v := 7) d_Mo_told_13 (by decide) ?_
      refine z_icmp_gt E d_Mo_told_15 (tgt := 31) (by decide) ⟨fun q => ?_, fun q => ?_⟩
      · replace h := h.1 q
        refine z_iconst E (v := -1) d_Mo_told_31 (by decide) ?_
        exact z_ireturn E rfl d_Mo_told_32 h
      · replace h := h.2 q
        refine z_aload_n E 0 d_Mo_told_18 rfl rfl ?_
        refine z_getI E f_Mo_91 d_Mo_told_19 ?_
        refine z_if_ne E d_Mo_told_22 (tgt := 33) (by decide) ⟨fun q => ?_, fun q => ?_⟩
        · replace h := h.1 q
          refine z_iconst E (v := 0) d_Mo_told_33 (by decide) ?_
          refine z_istore_n E [1, 2, 3, 0] (lv' := [(0, zf G 32), (1, .int v1), (2, .int v2), (3, .int (0 : Int32))]) d_Mo_told_34 rfl (by decide) rfl ?_
          refine z_iconst E (v := 0) d_Mo_told_35 (by decide) ?_
          refine z_istore E [1, 2, 3, 4, 0] (lv' := [(0, zf G 32), (1, .int v1), (2, .int v2), (3, .int (0 : Int32)), (4, .int (0 : Int32))]) d_Mo_told_36 (by decide) rfl ?_
          exact h
        · replace h := h.2 q
          refine z_iload_n E 2 d_Mo_told_25 rfl rfl ?_
          refine z_bipush E (v := 7) d_Mo_told_26 (by decide) ?_
          refine z_icmp_ge E d_Mo_told_28 (tgt := 33) (by decide) ⟨fun q => ?_, fun q => ?_⟩
          · replace h := h.1 q
            refine z_iconst E (v := 0) d_Mo_told_33 (by decide) ?_
            refine z_istore_n E [1, 2, 3, 0] (lv' := [(0, zf G 32), (1, .int v1), (2, .int v2), (3, .int (0 : Int32))]) d_Mo_told_34 rfl (by decide) rfl ?_
            refine z_iconst E (v := 0) d_Mo_told_35 (by decide) ?_
            refine z_istore E [1, 2, 3, 4, 0] (lv' := [(0, zf G 32), (1, .int v1), (2, .int v2), (3, .int (0 : Int32)), (4, .int (0 : Int32))]) d_Mo_told_36 (by decide) rfl ?_
            exact h
          · replace h := h.2 q
            refine z_iconst E (v := -1) d_Mo_told_31 (by decide) ?_
            exact z_ireturn E rfl d_Mo_told_32 h

set_option maxRecDepth 20000 in
set_option maxHeartbeats 4000000 in
theorem b_Mo_told_38 {G : zG} {X : zX} {post : Option Value → zSt → Prop} (E : zCtx G M_Mo_told (zKm G 1 X post) X) (v1 : Int32) (v2 : Int32) (v3 : Int32) (v4 : Int32) (σ : zSt)
    (h : (((σ 32 0) ≤ v4 → ((v2.toInt = 0 → (vp_in v1 12 ∧ post (some (.int (σ 35 v1.toNatClampNeg))) σ)) ∧ (v2.toInt = 1 → (vp_in v1 24 ∧ post (some (.int (σ 47 v1.toNatClampNeg))) σ)) ∧ (v2.toInt = 2 → (vp_in v1 24 ∧ post (some (.int (σ 48 v1.toNatClampNeg))) σ)) ∧ (v2.toInt = 3 → (vp_in v1 12 ∧ post (some (.int (σ 36 v1.toNatClampNeg))) σ)) ∧ (v2.toInt = 4 → (vp_in v1 12 ∧ (((σ 37 v1.toNatClampNeg) = 0 → post (some (.int (0 : Int32))) σ) ∧ (¬ (σ 37 v1.toNatClampNeg) = 0 → post (some (.int (1 : Int32))) σ)))) ∧ (v2.toInt = 5 → (vp_in v1 12 ∧ post (some (.int (σ 41 v1.toNatClampNeg))) σ)) ∧ (v2.toInt = 6 → (vp_in v1 12 ∧ post (some (.int (σ 42 v1.toNatClampNeg))) σ)) ∧ ((v2.toInt < 0 ∨ 6 < v2.toInt) → post (some (.int v3)) σ))) ∧ (¬ (σ 32 0) ≤ v4 → (vp_in (12 * v1 + v4) 144 ∧ (((zLk σ v1 v4) = false → zZ G M_Mo_told 1 X post 38 [(0, zf G 32), (1, .int v1), (2, .int v2), (3, .int (v3 + (0 : Int32))), (4, .int (v4 + 1))] [] σ) ∧ ((zLk σ v1 v4) = true → zZ G M_Mo_told 1 X post 38 [(0, zf G 32), (1, .int v1), (2, .int v2), (3, .int (v3 + (1 : Int32))), (4, .int (v4 + 1))] [] σ)))))) :
    zZ G M_Mo_told 1 X post 38 [(0, zf G 32), (1, .int v1), (2, .int v2), (3, .int v3), (4, .int v4)] [] σ := by
  refine z_iload E 4 d_Mo_told_38 rfl ?_
  refine z_aload_n E 0 d_Mo_told_40 rfl rfl ?_
  refine z_getI E f_Mo_84 d_Mo_told_41 ?_
  refine z_icmp_ge E d_Mo_told_44 (tgt := 71) (by decide) ⟨fun q => ?_, fun q => ?_⟩
  · replace h := h.1 q
    refine z_iload_n E 2 d_Mo_told_71 rfl rfl ?_
    refine z_table E d_Mo_told_72 (tO := 173) (tgts := [116, 123, 130, 137, 144, 159, 166]) (by decide) (by decide) (by decide) ⟨z_tcons (fun q => ?_) (z_tcons (fun q => ?_) (z_tcons (fun q => ?_) (z_tcons (fun q => ?_) (z_tcons (fun q => ?_) (z_tcons (fun q => ?_) (z_tcons (fun q => ?_) (z_tnil))))))), fun q => ?_⟩
    · replace h := h.1 q
      show zZ G M_Mo_told 1 X post 116 [(0, zf G 32), (1, .int v1), (2, .int v2), (3, .int v3), (4, .int v4)] [] σ
      refine z_aload_n E 0 d_Mo_told_116 rfl rfl ?_
      refine z_getR E f_Mo_16 d_Mo_told_117 ?_
      refine z_iload_n E 1 d_Mo_told_120 rfl rfl ?_
      obtain ⟨h0, h⟩ := h
      refine z_iald E rfl d_Mo_told_121 ⟨h0, ?_⟩
      exact z_ireturn E rfl d_Mo_told_122 h
    · replace h := h.2.1 q
      show zZ G M_Mo_told 1 X post 123 [(0, zf G 32), (1, .int v1), (2, .int v2), (3, .int v3), (4, .int v4)] [] σ
      refine z_aload_n E 0 d_Mo_told_123 rfl rfl ?_
      refine z_getR E f_Mo_53 d_Mo_told_124 ?_
      refine z_iload_n E 1 d_Mo_told_127 rfl rfl ?_
      obtain ⟨h0, h⟩ := h
      refine z_iald E rfl d_Mo_told_128 ⟨h0, ?_⟩
      exact z_ireturn E rfl d_Mo_told_129 h
    · replace h := h.2.2.1 q
      show zZ G M_Mo_told 1 X post 130 [(0, zf G 32), (1, .int v1), (2, .int v2), (3, .int v3), (4, .int v4)] [] σ
      refine z_aload_n E 0 d_Mo_told_130 rfl rfl ?_
      refine z_getR E f_Mo_56 d_Mo_told_131 ?_
      refine z_iload_n E 1 d_Mo_told_134 rfl rfl ?_
      obtain ⟨h0, h⟩ := h
      refine z_iald E rfl d_Mo_told_135 ⟨h0, ?_⟩
      exact z_ireturn E rfl d_Mo_told_136 h
    · replace h := h.2.2.2.1 q
      show zZ G M_Mo_told 1 X post 137 [(0, zf G 32), (1, .int v1), (2, .int v2), (3, .int v3), (4, .int v4)] [] σ
      refine z_aload_n E 0 d_Mo_told_137 rfl rfl ?_
      refine z_getR E f_Mo_19 d_Mo_told_138 ?_
      refine z_iload_n E 1 d_Mo_told_141 rfl rfl ?_
      obtain ⟨h0, h⟩ := h
      refine z_iald E rfl d_Mo_told_142 ⟨h0, ?_⟩
      exact z_ireturn E rfl d_Mo_told_143 h
    · replace h := h.2.2.2.2.1 q
      show zZ G M_Mo_told 1 X post 144 [(0, zf G 32), (1, .int v1), (2, .int v2), (3, .int v3), (4, .int v4)] [] σ
      refine z_aload_n E 0 d_Mo_told_144 rfl rfl ?_
      refine z_getR E f_Mo_22 d_Mo_told_145 ?_
      refine z_iload_n E 1 d_Mo_told_148 rfl rfl ?_
      obtain ⟨h0, h⟩ := h
      refine z_zald E rfl d_Mo_told_149 ⟨h0, ?_⟩
      refine z_if_eq E d_Mo_told_150 (tgt := 157) (by decide) ⟨fun q => ?_, fun q => ?_⟩
      · replace h := h.1 q
        refine z_iconst E (v := 0) d_Mo_told_157 (by decide) ?_
        exact z_ireturn E rfl d_Mo_told_158 h
      · replace h := h.2 q
        refine z_iconst E (v := 1) d_Mo_told_153 (by decide) ?_
        refine z_goto E d_Mo_told_154 (tgt := 158) (by decide) ?_
        exact z_ireturn E rfl d_Mo_told_158 h
    · replace h := h.2.2.2.2.2.1 q
      show zZ G M_Mo_told 1 X post 159 [(0, zf G 32), (1, .int v1), (2, .int v2), (3, .int v3), (4, .int v4)] [] σ
      refine z_aload_n E 0 d_Mo_told_159 rfl rfl ?_
      refine z_getR E f_Mo_35 d_Mo_told_160 ?_
      refine z_iload_n E 1 d_Mo_told_163 rfl rfl ?_
      obtain ⟨h0, h⟩ := h
      refine z_iald E rfl d_Mo_told_164 ⟨h0, ?_⟩
      exact z_ireturn E rfl d_Mo_told_165 h
    · replace h := h.2.2.2.2.2.2.1 q
      show zZ G M_Mo_told 1 X post 166 [(0, zf G 32), (1, .int v1), (2, .int v2), (3, .int v3), (4, .int v4)] [] σ
      refine z_aload_n E 0 d_Mo_told_166 rfl rfl ?_
      refine z_getR E f_Mo_38 d_Mo_told_167 ?_
      refine z_iload_n E 1 d_Mo_told_170 rfl rfl ?_
      obtain ⟨h0, h⟩ := h
      refine z_iald E rfl d_Mo_told_171 ⟨h0, ?_⟩
      exact z_ireturn E rfl d_Mo_told_172 h
    · replace h := h.2.2.2.2.2.2.2 q
      show zZ G M_Mo_told 1 X post 173 [(0, zf G 32), (1, .int v1), (2, .int v2), (3, .int v3), (4, .int v4)] [] σ
      refine z_iload_n E 3 d_Mo_told_173 rfl rfl ?_
      exact z_ireturn E rfl d_Mo_told_174 h
  · replace h := h.2 q
    refine z_iload_n E 3 d_Mo_told_47 rfl rfl ?_
    refine z_aload_n E 0 d_Mo_told_48 rfl rfl ?_
    refine z_iload_n E 1 d_Mo_told_49 rfl rfl ?_
    refine z_iload E 4 d_Mo_told_50 rfl ?_
    obtain ⟨h0, h⟩ := h
    refine z_callVBp [.int v1, .int v4] [.int v3] E (p_Mo_isLink G σ v1 v4 h0) c_Mo_99 r_Mo_isLink rfl zrm rfl (Nat.le_of_ble_eq_true rfl) d_Mo_told_52 ?_
    refine z_ifz_eq E d_Mo_told_55 (tgt := 62) (by decide) ⟨fun q => ?_, fun q => ?_⟩
    · replace h := h.1 q
      refine z_iconst E (v := 0) d_Mo_told_62 (by decide) ?_
      refine z_iadd E d_Mo_told_63 ?_
      refine z_istore_n E [1, 2, 3, 0, 4] (lv' := [(0, zf G 32), (1, .int v1), (2, .int v2), (3, .int (v3 + (0 : Int32))), (4, .int v4)]) d_Mo_told_64 rfl (by decide) rfl ?_
      refine z_iinc E 4 [1, 2, 3, 4, 0] (v := v4 + 1) (lv' := [(0, zf G 32), (1, .int v1), (2, .int v2), (3, .int (v3 + (0 : Int32))), (4, .int (v4 + 1))]) d_Mo_told_65 rfl rfl (by decide) rfl ?_
      refine z_goto E d_Mo_told_68 (tgt := 38) (by decide) ?_
      exact h
    · replace h := h.2 q
      refine z_iconst E (v := 1) d_Mo_told_58 (by decide) ?_
      refine z_goto E d_Mo_told_59 (tgt := 63) (by decide) ?_
      refine z_iadd E d_Mo_told_63 ?_
      refine z_istore_n E [1, 2, 3, 0, 4] (lv' := [(0, zf G 32), (1, .int v1), (2, .int v2), (3, .int (v3 + (1 : Int32))), (4, .int v4)]) d_Mo_told_64 rfl (by decide) rfl ?_
      refine z_iinc E 4 [1, 2, 3, 4, 0] (v := v4 + 1) (lv' := [(0, zf G 32), (1, .int v1), (2, .int v2), (3, .int (v3 + (1 : Int32))), (4, .int (v4 + 1))]) d_Mo_told_65 rfl rfl (by decide) rfl ?_
      refine z_goto E d_Mo_told_68 (tgt := 38) (by decide) ?_
      exact h

set_option maxRecDepth 20000 in
set_option maxHeartbeats 4000000 in
theorem b_Mo_noPlace_0 {G : zG} {X : zX} {post : Option Value → zSt → Prop} (E : zCtx G M_Mo_noPlace (zKm G 1 X post) X) (v1 : Int32) (v2 : Int32) (σ : zSt)
    (h : (((σ 32 4) = 0 → post (some (.int (1 : Int32))) σ) ∧ (¬ (σ 32 4) = 0 → (((zNo σ v1) = true → post (some (.int (1 : Int32))) σ) ∧ ((zNo σ v1) = false → ((v2 < 0 → post (some (.int (1 : Int32))) σ) ∧ (¬ v2 < 0 → ((v2 ≤ (σ 32 8) → post (some (.int (0 : Int32))) σ) ∧ (¬ v2 ≤ (σ 32 8) → post (some (.int (1 : Int32))) σ))))))))) :
    zZ G M_Mo_noPlace 1 X post 0 [(0, zf G 32), (1, .int v1), (2, .int v2)] [] σ := by
  refine z_aload_n E 0 d_Mo_noPlace_0 rfl rfl ?_
  refine z_getI E f_Mo_91 d_Mo_noPlace_1 ?_
  refine z_if_eq E d_Mo_noPlace_4 (tgt := 27) (by decide) ⟨fun q => ?_, fun q => ?_⟩
  · replace h := h.1 q
    refine z_iconst E (v := 1) d_Mo_noPlace_27 (by decide) ?_
    refine z_goto E d_Mo_noPlace_28 (tgt := 32) (by decide) ?_
    exact z_zreturn E rfl rfl d_Mo_noPlace_32 h
  · replace h := h.2 q
    refine z_aload_n E 0 d_Mo_noPlace_7 rfl rfl ?_
    refine z_iload_n E 1 d_Mo_noPlace_8 rfl rfl ?_
    refine z_callVBp [.int v1] [] E (p_Mo_noNode G σ v1) c_Mo_95 r_Mo_noNode rfl zrm rfl (Nat.le_of_ble_eq_true rfl) d_Mo_noPlace_9 ?_
    refine z_ifz_ne E d_Mo_noPlace_12 (tgt := 27) (by decide) ⟨fun q => ?_, fun q => ?_⟩
    · replace h := h.1 q
      refine z_iconst E (v := 1) d_Mo_noPlace_27 (by decide) ?_
      refine z_goto E d_Mo_noPlace_28 (tgt := 32) (by decide) ?_
      exact z_zreturn E rfl rfl d_Mo_noPlace_32 h
    · replace h := h.2 q
      refine z_iload_n E 2 d_Mo_noPlace_15 rfl rfl ?_
      refine z_if_lt E d_Mo_noPlace_16 (tgt := 27) (by decide) ⟨fun q => ?_, fun q => ?_⟩
      · replace h := h.1 q
        refine z_iconst E (v := 1) d_Mo_noPlace_27 (by decide) ?_
        refine z_goto E d_Mo_noPlace_28 (tgt := 32) (by decide) ?_
        exact z_zreturn E rfl rfl d_Mo_noPlace_32 h
      · replace h := h.2 q
        refine z_iload_n E 2 d_Mo_noPlace_19 rfl rfl ?_
        refine z_aload_n E 0 d_Mo_noPlace_20 rfl rfl ?_
        refine z_getI E f_Mo_136 d_Mo_noPlace_21 ?_
        refine z_icmp_le E d_Mo_noPlace_24 (tgt := 31) (by decide) ⟨fun q => ?_, fun q => ?_⟩
        · replace h := h.1 q
          refine z_iconst E (v := 0) d_Mo_noPlace_31 (by decide) ?_
          exact z_zreturn E rfl rfl d_Mo_noPlace_32 h
        · replace h := h.2 q
          refine z_iconst E (v := 1) d_Mo_noPlace_27 (by decide) ?_
          refine z_goto E d_Mo_noPlace_28 (tgt := 32) (by decide) ?_
          exact z_zreturn E rfl rfl d_Mo_noPlace_32 h

