set_option maxRecDepth 20000 in
theorem b_Mo_beginRound_0 {G : zG} {X : zX} {post : Option Value → zSt → Prop} (E : zCtx G M_Mo_beginRound (zKm G 2 X post) X) (v1 : Int32) (v2 : Int32) (σ : zSt)
    (h : ((v2 ≤ (1 : Int32) → (vp_in v1 12 ∧ ∀ σ1 : zSt, σ1 = zup σ 35 v1.toNatClampNeg v2 → (vp_in v1 12 ∧ ∀ σ2 : zSt, σ2 = zup σ1 37 v1.toNatClampNeg (0 : Int32) → (vp_in v1 12 ∧ ∀ σ3 : zSt, σ3 = zup σ2 38 v1.toNatClampNeg (0 : Int32) → (vp_in v1 12 ∧ ∀ σ4 : zSt, σ4 = zup σ3 39 v1.toNatClampNeg (0 : Int32) → (vp_in v1 12 ∧ ∀ σ5 : zSt, σ5 = zup σ4 40 v1.toNatClampNeg (0 : Int32) → (vp_in v1 12 ∧ ∀ σ6 : zSt, σ6 = zup σ5 36 v1.toNatClampNeg (0 : Int32) → zZ G M_Mo_beginRound 2 X post 56 [(0, zf G 32), (1, .int v1), (2, .int v2), (3, .int (0 : Int32))] [] σ6))))))) ∧ (¬ v2 ≤ (1 : Int32) → (∃ P : zSt → Prop, zV G 1 M_Mo_toLower [zf G 32, .int (4 : Int32), .int v1, .int v2] σ P ∧ ∀ σ7 : zSt, P σ7 → (vp_in v1 12 ∧ ∀ σ8 : zSt, σ8 = zup σ7 35 v1.toNatClampNeg v2 → (vp_in v1 12 ∧ ∀ σ9 : zSt, σ9 = zup σ8 37 v1.toNatClampNeg (0 : Int32) → (vp_in v1 12 ∧ ∀ σ10 : zSt, σ10 = zup σ9 38 v1.toNatClampNeg (0 : Int32) → (vp_in v1 12 ∧ ∀ σ11 : zSt, σ11 = zup σ10 39 v1.toNatClampNeg (0 : Int32) → (vp_in v1 12 ∧ ∀ σ12 : zSt, σ12 = zup σ11 40 v1.toNatClampNeg (0 : Int32) → (vp_in v1 12 ∧ ∀ σ13 : zSt, σ13 = zup σ12 36 v1.toNatClampNeg (0 : Int32) → zZ G M_Mo_beginRound 2 X post 56 [(0, zf G 32), (1, .int v1), (2, .int v2), (3, .int (0 : Int32))] [] σ13)))))))))) :
    zZ G M_Mo_beginRound 2 X post 0 [(0, zf G 32), (1, .int v1), (2, .int v2)] [] σ := by
  refine z_iload_n E 2 d_Mo_beginRound_0 rfl rfl ?_
  refine z_iconst E (v := 1) d_Mo_beginRound_1 (by decide) ?_
  refine z_icmp_le E d_Mo_beginRound_2 (tgt := 12) (by decide) ⟨fun q => ?_, fun q => ?_⟩
  · have h := h.1 q
    refine z_aload_n E 0 d_Mo_beginRound_12 rfl rfl ?_
    refine z_getR E f_Mo_16 d_Mo_beginRound_13 ?_
    refine z_iload_n E 1 d_Mo_beginRound_16 rfl rfl ?_
    refine z_iload_n E 2 d_Mo_beginRound_17 rfl rfl ?_
    obtain ⟨h0, h⟩ := h
    refine z_iast E rfl d_Mo_beginRound_18 ⟨h0, ?_⟩
    have h := h _ rfl
    refine z_aload_n E 0 d_Mo_beginRound_19 rfl rfl ?_
    refine z_getR E f_Mo_22 d_Mo_beginRound_20 ?_
    refine z_iload_n E 1 d_Mo_beginRound_23 rfl rfl ?_
    refine z_iconst E (v := 0) d_Mo_beginRound_24 (by decide) ?_
    obtain ⟨h0, h⟩ := h
    refine z_zast E rfl d_Mo_beginRound_25 (y := (0 : Int32)) rfl ⟨h0, ?_⟩
    have h := h _ rfl
    refine z_aload_n E 0 d_Mo_beginRound_26 rfl rfl ?_
    refine z_getR E f_Mo_26 d_Mo_beginRound_27 ?_
    refine z_iload_n E 1 d_Mo_beginRound_30 rfl rfl ?_
    refine z_iconst E (v := 0) d_Mo_beginRound_31 (by decide) ?_
    obtain ⟨h0, h⟩ := h
    refine z_zast E rfl d_Mo_beginRound_32 (y := (0 : Int32)) rfl ⟨h0, ?_⟩
    have h := h _ rfl
    refine z_aload_n E 0 d_Mo_beginRound_33 rfl rfl ?_
    refine z_getR E f_Mo_29 d_Mo_beginRound_34 ?_
    refine z_iload_n E 1 d_Mo_beginRound_37 rfl rfl ?_
    refine z_iconst E (v := 0) d_Mo_beginRound_38 (by decide) ?_
    obtain ⟨h0, h⟩ := h
    refine z_zast E rfl d_Mo_beginRound_39 (y := (0 : Int32)) rfl ⟨h0, ?_⟩
    have h := h _ rfl
    refine z_aload_n E 0 d_Mo_beginRound_40 rfl rfl ?_
    refine z_getR E f_Mo_32 d_Mo_beginRound_41 ?_
    refine z_iload_n E 1 d_Mo_beginRound_44 rfl rfl ?_
    refine z_iconst E (v := 0) d_Mo_beginRound_45 (by decide) ?_
    obtain ⟨h0, h⟩ := h
    refine z_zast E rfl d_Mo_beginRound_46 (y := (0 : Int32)) rfl ⟨h0, ?_⟩
    have h := h _ rfl
    refine z_aload_n E 0 d_Mo_beginRound_47 rfl rfl ?_
    refine z_getR E f_Mo_19 d_Mo_beginRound_48 ?_
    refine z_iload_n E 1 d_Mo_beginRound_51 rfl rfl ?_
    refine z_iconst E (v := 0) d_Mo_beginRound_52 (by decide) ?_
    obtain ⟨h0, h⟩ := h
    refine z_iast E rfl d_Mo_beginRound_53 ⟨h0, ?_⟩
    have h := h _ rfl
    refine z_iconst E (v := 0) d_Mo_beginRound_54 (by decide) ?_
    refine z_istore_n E [1, 2, 3, 0] d_Mo_beginRound_55 rfl (by decide) rfl ?_
    exact h
  · have h := h.2 q
    refine z_aload_n E 0 d_Mo_beginRound_5 rfl rfl ?_
    refine z_iconst E (v := 4) d_Mo_beginRound_6 (by decide) ?_
    refine z_iload_n E 1 d_Mo_beginRound_7 rfl rfl ?_
    refine z_iload_n E 2 d_Mo_beginRound_8 rfl rfl ?_
    obtain ⟨P, hM, h⟩ := h
    refine z_callVV [.int (4 : Int32), .int v1, .int v2] [] E hM c_Mo_166 r_Mo_toLower rfl zrm rfl (Nat.le_of_ble_eq_true rfl) d_Mo_beginRound_9 (fun σ7 hp => ?_)
    have h := h σ7 hp
    refine z_aload_n E 0 d_Mo_beginRound_12 rfl rfl ?_
    refine z_getR E f_Mo_16 d_Mo_beginRound_13 ?_
    refine z_iload_n E 1 d_Mo_beginRound_16 rfl rfl ?_
    refine z_iload_n E 2 d_Mo_beginRound_17 rfl rfl ?_
    obtain ⟨h0, h⟩ := h
    refine z_iast E rfl d_Mo_beginRound_18 ⟨h0, ?_⟩
    have h := h _ rfl
    refine z_aload_n E 0 d_Mo_beginRound_19 rfl rfl ?_
    refine z_getR E f_Mo_22 d_Mo_beginRound_20 ?_
    refine z_iload_n E 1 d_Mo_beginRound_23 rfl rfl ?_
    refine z_iconst E (v := 0) d_Mo_beginRound_24 (by decide) ?_
    obtain ⟨h0, h⟩ := h
    refine z_zast E rfl d_Mo_beginRound_25 (y := (0 : Int32)) rfl ⟨h0, ?_⟩
    have h := h _ rfl
    refine z_aload_n E 0 d_Mo_beginRound_26 rfl rfl ?_
    refine z_getR E f_Mo_26 d_Mo_beginRound_27 ?_
    refine z_iload_n E 1 d_Mo_beginRound_30 rfl rfl ?_
    refine z_iconst E (v := 0) d_Mo_beginRound_31 (by decide) ?_
    obtain ⟨h0, h⟩ := h
    refine z_zast E rfl d_Mo_beginRound_32 (y := (0 : Int32)) rfl ⟨h0, ?_⟩
    have h := h _ rfl
    refine z_aload_n E 0 d_Mo_beginRound_33 rfl rfl ?_
    refine z_getR E f_Mo_29 d_Mo_beginRound_34 ?_
    refine z_iload_n E 1 d_Mo_beginRound_37 rfl rfl ?_
    refine z_iconst E (v := 0) d_Mo_beginRound_38 (by decide) ?_
    obtain ⟨h0, h⟩ := h
    refine z_zast E rfl d_Mo_beginRound_39 (y := (0 : Int32)) rfl ⟨h0, ?_⟩
    have h := h _ rfl
    refine z_aload_n E 0 d_Mo_beginRound_40 rfl rfl ?_
    refine z_getR E f_Mo_32 d_Mo_beginRound_41 ?_
    refine z_iload_n E 1 d_Mo_beginRound_44 rfl rfl ?_
    refine z_iconst E (v := 0) d_Mo_beginRound_45 (by decide) ?_
    obtain ⟨h0, h⟩ := h
    refine z_zast E rfl d_Mo_beginRound_46 (y := (0 : Int32)) rfl ⟨h0, ?_⟩
    have h := h _ rfl
    refine z_aload_n E 0 d_Mo_beginRound_47 rfl rfl ?_
    refine z_getR E f_Mo_19 d_Mo_beginRound_48 ?_
    refine z_iload_n E 1 d_Mo_beginRound_51 rfl rfl ?_
    refine z_iconst E (v := 0) d_Mo_beginRound_52 (by decide) ?_
    obtain ⟨h0, h⟩ := h
    refine z_iast E rfl d_Mo_beginRound_53 ⟨h0, ?_⟩
    have h := h _ rfl
    refine z_iconst E (v := 0) d_Mo_beginRound_54 (by decide) ?_
    refine z_istore_n E [1, 2, 3, 0] d_Mo_beginRound_55 rfl (by decide) rfl ?_
    exact h

set_option maxRecDepth 20000 in
theorem b_Mo_beginRound_56 {G : zG} {X : zX} {post : Option Value → zSt → Prop} (E : zCtx G M_Mo_beginRound (zKm G 2 X post) X) (v1 : Int32) (v2 : Int32) (v3 : Int32) (σ : zSt)
    (h : (((σ 32 0) ≤ v3 → (∃ P : Int32 → zSt → Prop, zI G 1 M_Mo_act [zf G 32, .int v1, .int v1, .int v2] σ P ∧ ∀ (x2 : Int32) (σ1 : zSt), P x2 σ1 → (vp_in v1 24 ∧ (vp_in (((12 : Int32) * v2) + v1) 252 ∧ ∀ σ3 : zSt, σ3 = zup σ1 49 (((12 : Int32) * v2) + v1).toNatClampNeg (σ1 47 v1.toNatClampNeg) → zZ G M_Mo_beginRound 2 X post 166 [(0, zf G 32), (1, .int v1), (2, .int v2), (3, .int x2), (4, .int (0 : Int32))] [] σ3)))) ∧ (¬ (σ 32 0) ≤ v3 → ((v2 ≤ (1 : Int32) → (vp_in v3 12 ∧ ∀ σ4 : zSt, σ4 = zup σ 54 v3.toNatClampNeg (0 : Int32) → zZ G M_Mo_beginRound 2 X post 98 [(0, zf G 32), (1, .int v1), (2, .int v2), (3, .int v3)] [] σ4)) ∧ (¬ v2 ≤ (1 : Int32) → (vp_in ((((0 : Int32) * 12 + v1) * 12 + v3) * 22 + (v2 - (1 : Int32))) 12672 ∧ (((σ 45 ((((0 : Int32) * 12 + v1) * 12 + v3) * 22 + (v2 - (1 : Int32))).toNatClampNeg) = 0 → (vp_in v3 12 ∧ ∀ σ5 : zSt, σ5 = zup σ 54 v3.toNatClampNeg (0 : Int32) → zZ G M_Mo_beginRound 2 X post 98 [(0, zf G 32), (1, .int v1), (2, .int v2), (3, .int v3)] [] σ5)) ∧ (¬ (σ 45 ((((0 : Int32) * 12 + v1) * 12 + v3) * 22 + (v2 - (1 : Int32))).toNatClampNeg) = 0 → (vp_in v3 12 ∧ ∀ σ6 : zSt, σ6 = zup σ 54 v3.toNatClampNeg (1 : Int32) → zZ G M_Mo_beginRound 2 X post 98 [(0, zf G 32), (1, .int v1), (2, .int v2), (3, .int v3)] [] σ6))))))))) :
    zZ G M_Mo_beginRound 2 X post 56 [(0, zf G 32), (1, .int v1), (2, .int v2), (3, .int v3)] [] σ := by
  refine z_iload_n E 3 d_Mo_beginRound_56 rfl rfl ?_
  refine z_aload_n E 0 d_Mo_beginRound_57 rfl rfl ?_
  refine z_getI E f_Mo_84 d_Mo_beginRound_58 ?_
  refine z_icmp_ge E d_Mo_beginRound_61 (tgt := 138) (by decide) ⟨fun q => ?_, fun q => ?_⟩
  · have h := h.1 q
    refine z_aload_n E 0 d_Mo_beginRound_138 rfl rfl ?_
    refine z_iload_n E 1 d_Mo_beginRound_139 rfl rfl ?_
    refine z_iload_n E 1 d_Mo_beginRound_140 rfl rfl ?_
    refine z_iload_n E 2 d_Mo_beginRound_141 rfl rfl ?_
    obtain ⟨P, hM, h⟩ := h
    refine z_callVI [.int v1, .int v1, .int v2] [] E hM c_Mo_139 r_Mo_act rfl zrm rfl (Nat.le_of_ble_eq_true rfl) d_Mo_beginRound_142 (fun x2 σ1 hp => ?_)
    have h := h x2 σ1 hp
    refine z_istore_n E [1, 2, 3, 0] d_Mo_beginRound_145 rfl (by decide) rfl ?_
    refine z_aload_n E 0 d_Mo_beginRound_146 rfl rfl ?_
    refine z_getR E f_Mo_59 d_Mo_beginRound_147 ?_
    refine z_bipush E (v := 12) d_Mo_beginRound_150 (by decide) ?_
    refine z_iload_n E 2 d_Mo_beginRound_152 rfl rfl ?_
    refine z_imul E d_Mo_beginRound_153 ?_
    refine z_iload_n E 1 d_Mo_beginRound_154 rfl rfl ?_
    refine z_iadd E d_Mo_beginRound_155 ?_
    refine z_aload_n E 0 d_Mo_beginRound_156 rfl rfl ?_
    refine z_getR E f_Mo_53 d_Mo_beginRound_157 ?_
    refine z_iload_n E 1 d_Mo_beginRound_160 rfl rfl ?_
    obtain ⟨h0, h⟩ := h
    refine z_iald E rfl d_Mo_beginRound_161 ⟨h0, ?_⟩
    obtain ⟨h0, h⟩ := h
    refine z_iast E rfl d_Mo_beginRound_162 ⟨h0, ?_⟩
    have h := h _ rfl
    refine z_iconst E (v := 0) d_Mo_beginRound_163 (by decide) ?_
    refine z_istore E [1, 2, 3, 4, 0] d_Mo_beginRound_164 (by decide) rfl ?_
    exact h
  · have h := h.2 q
    refine z_aload_n E 0 d_Mo_beginRound_64 rfl rfl ?_
    refine z_getR E f_Mo_74 d_Mo_beginRound_65 ?_
    refine z_iload_n E 3 d_Mo_beginRound_68 rfl rfl ?_
    refine z_iload_n E 2 d_Mo_beginRound_69 rfl rfl ?_
    refine z_iconst E (v := 1) d_Mo_beginRound_70 (by decide) ?_
    refine z_icmp_le E d_Mo_beginRound_71 (tgt := 96) (by decide) ⟨fun q => ?_, fun q => ?_⟩
    · have h := h.1 q
      refine z_iconst E (v := 0) d_Mo_beginRound_96 (by decide) ?_
      obtain ⟨h0, h⟩ := h
      refine z_zast E rfl d_Mo_beginRound_97 (y := (0 : Int32)) rfl ⟨h0, ?_⟩
      have h := h _ rfl
      exact h
    · have h := h.2 q
      refine z_aload_n E 0 d_Mo_beginRound_74 rfl rfl ?_
      refine z_getR E f_Mo_47 d_Mo_beginRound_75 ?_
      refine z_aload_n E 0 d_Mo_beginRound_78 rfl rfl ?_
      refine z_iconst E (v := 0) d_Mo_beginRound_79 (by decide) ?_
      refine z_iload_n E 1 d_Mo_beginRound_80 rfl rfl ?_
      refine z_iload_n E 3 d_Mo_beginRound_81 rfl rfl ?_
      refine z_iload_n E 2 d_Mo_beginRound_82 rfl rfl ?_
      refine z_iconst E (v := 1) d_Mo_beginRound_83 (by decide) ?_
      refine z_isub E d_Mo_beginRound_84 ?_
      refine z_callVIp [.int (0 : Int32), .int v1, .int v3, .int (v2 - (1 : Int32))] [zf G 45, .int v3, zf G 54] E (p_Mo_place G σ (0 : Int32) v1 v3 (v2 - (1 : Int32))) c_Mo_162 r_Mo_place rfl zrm rfl (Nat.le_of_ble_eq_true rfl) d_Mo_beginRound_85 ?_
      obtain ⟨h0, h⟩ := h
      refine z_zald E rfl d_Mo_beginRound_88 ⟨h0, ?_⟩
      refine z_if_eq E d_Mo_beginRound_89 (tgt := 96) (by decide) ⟨fun q => ?_, fun q => ?_⟩
      · have h := h.1 q
        refine z_iconst E (v := 0) d_Mo_beginRound_96 (by decide) ?_
        obtain ⟨h0, h⟩ := h
        refine z_zast E rfl d_Mo_beginRound_97 (y := (0 : Int32)) rfl ⟨h0, ?_⟩
        have h := h _ rfl
        exact h
      · have h := h.2 q
        refine z_iconst E (v := 1) d_Mo_beginRound_92 (by decide) ?_
        refine z_goto E d_Mo_beginRound_93 (tgt := 97) (by decide) ?_
        obtain ⟨h0, h⟩ := h
        refine z_zast E rfl d_Mo_beginRound_97 (y := (1 : Int32)) rfl ⟨h0, ?_⟩
        have h := h _ rfl
        exact h

set_option maxRecDepth 20000 in
theorem b_Mo_beginRound_98 {G : zG} {X : zX} {post : Option Value → zSt → Prop} (E : zCtx G M_Mo_beginRound (zKm G 2 X post) X) (v1 : Int32) (v2 : Int32) (v3 : Int32) (σ : zSt)
    (h : (vp_in v3 12 ∧ (((σ 54 v3.toNatClampNeg) = 0 → (vp_in v3 12 ∧ ∀ σ1 : zSt, σ1 = zup σ 55 v3.toNatClampNeg (0 : Int32) → zZ G M_Mo_beginRound 2 X post 56 [(0, zf G 32), (1, .int v1), (2, .int v2), (3, .int (v3 + 1))] [] σ1)) ∧ (¬ (σ 54 v3.toNatClampNeg) = 0 → (vp_in ((((0 : Int32) * 12 + v1) * 12 + v3) * 22 + (v2 - (1 : Int32))) 3168 ∧ (vp_in v3 12 ∧ ∀ σ2 : zSt, σ2 = zup σ 55 v3.toNatClampNeg (σ 46 ((((0 : Int32) * 12 + v1) * 12 + v3) * 22 + (v2 - (1 : Int32))).toNatClampNeg) → zZ G M_Mo_beginRound 2 X post 56 [(0, zf G 32), (1, .int v1), (2, .int v2), (3, .int (v3 + 1))] [] σ2)))))) :
    zZ G M_Mo_beginRound 2 X post 98 [(0, zf G 32), (1, .int v1), (2, .int v2), (3, .int v3)] [] σ := by
  refine z_aload_n E 0 d_Mo_beginRound_98 rfl rfl ?_
  refine z_getR E f_Mo_77 d_Mo_beginRound_99 ?_
  refine z_iload_n E 3 d_Mo_beginRound_102 rfl rfl ?_
  refine z_aload_n E 0 d_Mo_beginRound_103 rfl rfl ?_
  refine z_getR E f_Mo_74 d_Mo_beginRound_104 ?_
  refine z_iload_n E 3 d_Mo_beginRound_107 rfl rfl ?_
  obtain ⟨h0, h⟩ := h
  refine z_zald E rfl d_Mo_beginRound_108 ⟨h0, ?_⟩
  refine z_if_eq E d_Mo_beginRound_109 (tgt := 130) (by decide) ⟨fun q => ?_, fun q => ?_⟩
  · have h := h.1 q
    refine z_iconst E (v := 0) d_Mo_beginRound_130 (by decide) ?_
    obtain ⟨h0, h⟩ := h
    refine z_iast E rfl d_Mo_beginRound_131 ⟨h0, ?_⟩
    have h := h _ rfl
    refine z_iinc E 3 [1, 2, 3, 0] (v := v3 + 1) d_Mo_beginRound_132 rfl rfl (by decide) rfl ?_
    refine z_goto E d_Mo_beginRound_135 (tgt := 56) (by decide) ?_
    exact h
  · have h := h.2 q
    refine z_aload_n E 0 d_Mo_beginRound_112 rfl rfl ?_
    refine z_getR E f_Mo_50 d_Mo_beginRound_113 ?_
    refine z_aload_n E 0 d_Mo_beginRound_116 rfl rfl ?_
    refine z_iconst E (v := 0) d_Mo_beginRound_117 (by decide) ?_
    refine z_iload_n E 1 d_Mo_beginRound_118 rfl rfl ?_
    refine z_iload_n E 3 d_Mo_beginRound_119 rfl rfl ?_
    refine z_iload_n E 2 d_Mo_beginRound_120 rfl rfl ?_
    refine z_iconst E (v := 1) d_Mo_beginRound_121 (by decide) ?_
    refine z_isub E d_Mo_beginRound_122 ?_
    refine z_callVIp [.int (0 : Int32), .int v1, .int v3, .int (v2 - (1 : Int32))] [zf G 46, .int v3, zf G 55] E (p_Mo_place G σ (0 : Int32) v1 v3 (v2 - (1 : Int32))) c_Mo_162 r_Mo_place rfl zrm rfl (Nat.le_of_ble_eq_true rfl) d_Mo_beginRound_123 ?_
    obtain ⟨h0, h⟩ := h
    refine z_iald E rfl d_Mo_beginRound_126 ⟨h0, ?_⟩
    refine z_goto E d_Mo_beginRound_127 (tgt := 131) (by decide) ?_
    obtain ⟨h0, h⟩ := h
    refine z_iast E rfl d_Mo_beginRound_131 ⟨h0, ?_⟩
    have h := h _ rfl
    refine z_iinc E 3 [1, 2, 3, 0] (v := v3 + 1) d_Mo_beginRound_132 rfl rfl (by decide) rfl ?_
    refine z_goto E d_Mo_beginRound_135 (tgt := 56) (by decide) ?_
    exact h

set_option maxRecDepth 20000 in
theorem b_Mo_beginRound_166 {G : zG} {X : zX} {post : Option Value → zSt → Prop} (E : zCtx G M_Mo_beginRound (zKm G 2 X post) X) (v1 : Int32) (v2 : Int32) (v3 : Int32) (v4 : Int32) (σ : zSt)
    (h : (((σ 32 0) ≤ v4 → post none σ) ∧ (¬ (σ 32 0) ≤ v4 → ((v3 = (-1000 : Int32) → post none σ) ∧ (¬ v3 = (-1000 : Int32) → (vp_in (12 * v1 + v4) 144 ∧ (((zLk σ v1 v4) = false → zZ G M_Mo_beginRound 2 X post 166 [(0, zf G 32), (1, .int v1), (2, .int v2), (3, .int v3), (4, .int (v4 + 1))] [] σ) ∧ ((zLk σ v1 v4) = true → (∃ P : zSt → Prop, zV G 0 M_Mo_send [zf G 32, .int (0 : Int32), .int v1, .int v4, .int v2, .int v3] σ P ∧ ∀ σ1 : zSt, P σ1 → (vp_in v1 12 ∧ (vp_in v1 12 ∧ ∀ σ2 : zSt, σ2 = zup σ1 36 v1.toNatClampNeg ((σ1 36 v1.toNatClampNeg) + (1 : Int32)) → zZ G M_Mo_beginRound 2 X post 166 [(0, zf G 32), (1, .int v1), (2, .int v2), (3, .int v3), (4, .int (v4 + 1))] [] σ2))))))))))) :
    zZ G M_Mo_beginRound 2 X post 166 [(0, zf G 32), (1, .int v1), (2, .int v2), (3, .int v3), (4, .int v4)] [] σ := by
  refine z_iload E 4 d_Mo_beginRound_166 rfl ?_
  refine z_aload_n E 0 d_Mo_beginRound_168 rfl rfl ?_
  refine z_getI E f_Mo_84 d_Mo_beginRound_169 ?_
  refine z_icmp_ge E d_Mo_beginRound_172 (tgt := 218) (by decide) ⟨fun q => ?_, fun q => ?_⟩
  · have h := h.1 q
    exact z_return E rfl d_Mo_beginRound_218 h
  · have h := h.2 q
    refine z_iload_n E 3 d_Mo_beginRound_175 rfl rfl ?_
    refine z_sipush E (v := -1000) d_Mo_beginRound_176 (by decide) ?_
    refine z_icmp_eq E d_Mo_beginRound_179 (tgt := 218) (by decide) ⟨fun q => ?_, fun q => ?_⟩
    · have h := h.1 q
      exact z_return E rfl d_Mo_beginRound_218 h
    · have h := h.2 q
      refine z_aload_n E 0 d_Mo_beginRound_182 rfl rfl ?_
      refine z_iload_n E 1 d_Mo_beginRound_183 rfl rfl ?_
      refine z_iload E 4 d_Mo_beginRound_184 rfl ?_
      obtain ⟨h0, h⟩ := h
      refine z_callVBp [.int v1, .int v4] [] E (p_Mo_isLink G σ v1 v4 h0) c_Mo_99 r_Mo_isLink rfl zrm rfl (Nat.le_of_ble_eq_true rfl) d_Mo_beginRound_186 ?_
      refine z_ifz_eq E d_Mo_beginRound_189 (tgt := 212) (by decide) ⟨fun q => ?_, fun q => ?_⟩
      · have h := h.1 q
        refine z_iinc E 4 [1, 2, 3, 4, 0] (v := v4 + 1) d_Mo_beginRound_212 rfl rfl (by decide) rfl ?_
        refine z_goto E d_Mo_beginRound_215 (tgt := 166) (by decide) ?_
        exact h
      · have h := h.2 q
        refine z_aload_n E 0 d_Mo_beginRound_192 rfl rfl ?_
        refine z_iconst E (v := 0) d_Mo_beginRound_193 (by decide) ?_
        refine z_iload_n E 1 d_Mo_beginRound_194 rfl rfl ?_
        refine z_iload E 4 d_Mo_beginRound_195 rfl ?_
        refine z_iload_n E 2 d_Mo_beginRound_197 rfl rfl ?_
        refine z_iload_n E 3 d_Mo_beginRound_198 rfl rfl ?_
        obtain ⟨P, hM, h⟩ := h
        refine z_callVV [.int (0 : Int32), .int v1, .int v4, .int v2, .int v3] [] E hM c_Mo_158 r_Mo_send rfl zrm rfl (Nat.le_of_ble_eq_true rfl) d_Mo_beginRound_199 (fun σ1 hp => ?_)
        have h := h σ1 hp
        refine z_aload_n E 0 d_Mo_beginRound_202 rfl rfl ?_
        refine z_getR E f_Mo_19 d_Mo_beginRound_203 ?_
        refine z_iload_n E 1 d_Mo_beginRound_206 rfl rfl ?_
        refine z_dup2 E d_Mo_beginRound_207 rfl rfl ?_
        obtain ⟨h0, h⟩ := h
        refine z_iald E rfl d_Mo_beginRound_208 ⟨h0, ?_⟩
        refine z_iconst E (v := 1) d_Mo_beginRound_209 (by decide) ?_
        refine z_iadd E d_Mo_beginRound_210 ?_
        obtain ⟨h0, h⟩ := h
        refine z_iast E rfl d_Mo_beginRound_211 ⟨h0, ?_⟩
        have h := h _ rfl
        refine z_iinc E 4 [1, 2, 3, 4, 0] (v := v4 + 1) d_Mo_beginRound_212 rfl rfl (by decide) rfl ?_
        refine z_goto E d_Mo_beginRound_215 (tgt := 166) (by decide) ?_
        exact h

set_option maxRecDepth 20000 in
theorem b_Mo_becomeFirm_0 {G : zG} {X : zX} {post : Option Value → zSt → Prop} (E : zCtx G M_Mo_becomeFirm (zKm G 2 X post) X) (v1 : Int32) (σ : zSt)
    (h : (vp_in v1 12 ∧ ∀ σ1 : zSt, σ1 = zup σ 39 v1.toNatClampNeg (1 : Int32) → (vp_in v1 12 ∧ (∃ P : zSt → Prop, zV G 1 M_Mo_toLower [zf G 32, .int (5 : Int32), .int v1, .int (σ1 35 v1.toNatClampNeg)] σ1 P ∧ ∀ σ2 : zSt, P σ2 → zZ G M_Mo_becomeFirm 2 X post 21 [(0, zf G 32), (1, .int v1), (2, .int (0 : Int32))] [] σ2)))) :
    zZ G M_Mo_becomeFirm 2 X post 0 [(0, zf G 32), (1, .int v1)] [] σ := by
  refine z_aload_n E 0 d_Mo_becomeFirm_0 rfl rfl ?_
  refine z_getR E f_Mo_29 d_Mo_becomeFirm_1 ?_
  refine z_iload_n E 1 d_Mo_becomeFirm_4 rfl rfl ?_
  refine z_iconst E (v := 1) d_Mo_becomeFirm_5 (by decide) ?_
  obtain ⟨h0, h⟩ := h
  refine z_zast E rfl d_Mo_becomeFirm_6 (y := (1 : Int32)) rfl ⟨h0, ?_⟩
  have h := h _ rfl
  refine z_aload_n E 0 d_Mo_becomeFirm_7 rfl rfl ?_
  refine z_iconst E (v := 5) d_Mo_becomeFirm_8 (by decide) ?_
  refine z_iload_n E 1 d_Mo_becomeFirm_9 rfl rfl ?_
  refine z_aload_n E 0 d_Mo_becomeFirm_10 rfl rfl ?_
  refine z_getR E f_Mo_16 d_Mo_becomeFirm_11 ?_
  refine z_iload_n E 1 d_Mo_becomeFirm_14 rfl rfl ?_
  obtain ⟨h0, h⟩ := h
  refine z_iald E rfl d_Mo_becomeFirm_15 ⟨h0, ?_⟩
  obtain ⟨P, hM, h⟩ := h
  refine z_callVV [.int (5 : Int32), .int v1, .int (σ1 35 v1.toNatClampNeg)] [] E hM c_Mo_166 r_Mo_toLower rfl zrm rfl (Nat.le_of_ble_eq_true rfl) d_Mo_becomeFirm_16 (fun σ2 hp => ?_)
  have h := h σ2 hp
  refine z_iconst E (v := 0) d_Mo_becomeFirm_19 (by decide) ?_
  refine z_istore_n E [1, 2, 0] d_Mo_becomeFirm_20 rfl (by decide) rfl ?_
  exact h

set_option maxRecDepth 20000 in
theorem b_Mo_becomeFirm_21 {G : zG} {X : zX} {post : Option Value → zSt → Prop} (E : zCtx G M_Mo_becomeFirm (zKm G 2 X post) X) (v1 : Int32) (v2 : Int32) (σ : zSt)
    (h : (((σ 32 0) ≤ v2 → post none σ) ∧ (¬ (σ 32 0) ≤ v2 → (vp_in (((12 : Int32) * v1) + v2) 144 ∧ (((σ 44 (((12 : Int32) * v1) + v2).toNatClampNeg) = 0 → zZ G M_Mo_becomeFirm 2 X post 21 [(0, zf G 32), (1, .int v1), (2, .int (v2 + 1))] [] σ) ∧ (¬ (σ 44 (((12 : Int32) * v1) + v2).toNatClampNeg) = 0 → (vp_in v1 12 ∧ (∃ P : zSt → Prop, zV G 0 M_Mo_send [zf G 32, .int (2 : Int32), .int v1, .int v2, .int (σ 35 v1.toNatClampNeg), .int (0 : Int32)] σ P ∧ ∀ σ1 : zSt, P σ1 → zZ G M_Mo_becomeFirm 2 X post 21 [(0, zf G 32), (1, .int v1), (2, .int (v2 + 1))] [] σ1)))))))) :
    zZ G M_Mo_becomeFirm 2 X post 21 [(0, zf G 32), (1, .int v1), (2, .int v2)] [] σ := by
  refine z_iload_n E 2 d_Mo_becomeFirm_21 rfl rfl ?_
  refine z_aload_n E 0 d_Mo_becomeFirm_22 rfl rfl ?_
  refine z_getI E f_Mo_84 d_Mo_becomeFirm_23 ?_
  refine z_icmp_ge E d_Mo_becomeFirm_26 (tgt := 63) (by decide) ⟨fun q => ?_, fun q => ?_⟩
  · have h := h.1 q
    exact z_return E rfl d_Mo_becomeFirm_63 h
  · have h := h.2 q
    refine z_aload_n E 0 d_Mo_becomeFirm_29 rfl rfl ?_
    refine z_getR E f_Mo_44 d_Mo_becomeFirm_30 ?_
    refine z_bipush E (v := 12) d_Mo_becomeFirm_33 (by decide) ?_
    refine z_iload_n E 1 d_Mo_becomeFirm_35 rfl rfl ?_
    refine z_imul E d_Mo_becomeFirm_36 ?_
    refine z_iload_n E 2 d_Mo_becomeFirm_37 rfl rfl ?_
    refine z_iadd E d_Mo_becomeFirm_38 ?_
    obtain ⟨h0, h⟩ := h
    refine z_zald E rfl d_Mo_becomeFirm_39 ⟨h0, ?_⟩
    refine z_if_eq E d_Mo_becomeFirm_40 (tgt := 57) (by decide) ⟨fun q => ?_, fun q => ?_⟩
    · have h := h.1 q
      refine z_iinc E 2 [1, 2, 0] (v := v2 + 1) d_Mo_becomeFirm_57 rfl rfl (by decide) rfl ?_
      refine z_goto E d_Mo_becomeFirm_60 (tgt := 21) (by decide) ?_
      exact h
    · have h := h.2 q
      refine z_aload_n E 0 d_Mo_becomeFirm_43 rfl rfl ?_
      refine z_iconst E (v := 2) d_Mo_becomeFirm_44 (by decide) ?_
      refine z_iload_n E 1 d_Mo_becomeFirm_45 rfl rfl ?_
      refine z_iload_n E 2 d_Mo_becomeFirm_46 rfl rfl ?_
      refine z_aload_n E 0 d_Mo_becomeFirm_47 rfl rfl ?_
      refine z_getR E f_Mo_16 d_Mo_becomeFirm_48 ?_
      refine z_iload_n E 1 d_Mo_becomeFirm_51 rfl rfl ?_
      obtain ⟨h0, h⟩ := h
      refine z_iald E rfl d_Mo_becomeFirm_52 ⟨h0, ?_⟩
      refine z_iconst E (v := 0) d_Mo_becomeFirm_53 (by decide) ?_
      obtain ⟨P, hM, h⟩ := h
      refine z_callVV [.int (2 : Int32), .int v1, .int v2, .int (σ 35 v1.toNatClampNeg), .int (0 : Int32)] [] E hM c_Mo_158 r_Mo_send rfl zrm rfl (Nat.le_of_ble_eq_true rfl) d_Mo_becomeFirm_54 (fun σ1 hp => ?_)
      have h := h σ1 hp
      refine z_iinc E 2 [1, 2, 0] (v := v2 + 1) d_Mo_becomeFirm_57 rfl rfl (by decide) rfl ?_
      refine z_goto E d_Mo_becomeFirm_60 (tgt := 21) (by decide) ?_
      exact h

set_option maxRecDepth 20000 in
theorem b_Mo_goOn_0 {G : zG} {X : zX} {post : Option Value → zSt → Prop} (E : zCtx G M_Mo_goOn (zKm G 3 X post) X) (v1 : Int32) (σ : zSt)
    (h : zZ G M_Mo_goOn 3 X post 2 [(0, zf G 32), (1, .int v1), (2, .int (1 : Int32))] [] σ) :
    zZ G M_Mo_goOn 3 X post 0 [(0, zf G 32), (1, .int v1)] [] σ := by
  refine z_iconst E (v := 1) d_Mo_goOn_0 (by decide) ?_
  refine z_istore_n E [1, 2, 0] d_Mo_goOn_1 rfl (by decide) rfl ?_
  exact h

set_option maxRecDepth 20000 in
theorem b_Mo_goOn_2 {G : zG} {X : zX} {post : Option Value → zSt → Prop} (E : zCtx G M_Mo_goOn (zKm G 3 X post) X) (v1 : Int32) (v2 : Int32) (σ : zSt)
    (h : ((v2 = 0 → post none σ) ∧ (¬ v2 = 0 → (vp_in v1 12 ∧ ((¬ (σ 37 v1.toNatClampNeg) = 0 → zZ G M_Mo_goOn 3 X post 79 [(0, zf G 32), (1, .int v1), (2, .int (0 : Int32))] [] σ) ∧ ((σ 37 v1.toNatClampNeg) = 0 → (vp_in v1 12 ∧ ((¬ (σ 36 v1.toNatClampNeg) = 0 → zZ G M_Mo_goOn 3 X post 79 [(0, zf G 32), (1, .int v1), (2, .int (0 : Int32))] [] σ) ∧ ((σ 36 v1.toNatClampNeg) = 0 → (vp_in v1 12 ∧ ∀ σ1 : zSt, σ1 = zup σ 37 v1.toNatClampNeg (1 : Int32) → zZ G M_Mo_goOn 3 X post 35 [(0, zf G 32), (1, .int v1), (2, .int (0 : Int32)), (3, .int (0 : Int32))] [] σ1)))))))))) :
    zZ G M_Mo_goOn 3 X post 2 [(0, zf G 32), (1, .int v1), (2, .int v2)] [] σ := by
  refine z_iload_n E 2 d_Mo_goOn_2 rfl rfl ?_
  refine z_if_eq E d_Mo_goOn_3 (tgt := 326) (by decide) ⟨fun q => ?_, fun q => ?_⟩
  · have h := h.1 q
    exact z_return E rfl d_Mo_goOn_326 h
  · have h := h.2 q
    refine z_iconst E (v := 0) d_Mo_goOn_6 (by decide) ?_
    refine z_istore_n E [1, 2, 0] d_Mo_goOn_7 rfl (by decide) rfl ?_
    refine z_aload_n E 0 d_Mo_goOn_8 rfl rfl ?_
    refine z_getR E f_Mo_22 d_Mo_goOn_9 ?_
    refine z_iload_n E 1 d_Mo_goOn_12 rfl rfl ?_
    obtain ⟨h0, h⟩ := h
    refine z_zald E rfl d_Mo_goOn_13 ⟨h0, ?_⟩
    refine z_if_ne E d_Mo_goOn_14 (tgt := 79) (by decide) ⟨fun q => ?_, fun q => ?_⟩
    · have h := h.1 q
      exact h
    · have h := h.2 q
      refine z_aload_n E 0 d_Mo_goOn_17 rfl rfl ?_
      refine z_getR E f_Mo_19 d_Mo_goOn_18 ?_
      refine z_iload_n E 1 d_Mo_goOn_21 rfl rfl ?_
      obtain ⟨h0, h⟩ := h
      refine z_iald E rfl d_Mo_goOn_22 ⟨h0, ?_⟩
      refine z_if_ne E d_Mo_goOn_23 (tgt := 79) (by decide) ⟨fun q => ?_, fun q => ?_⟩
      · have h := h.1 q
        exact h
      · have h := h.2 q
        refine z_aload_n E 0 d_Mo_goOn_26 rfl rfl ?_
        refine z_getR E f_Mo_22 d_Mo_goOn_27 ?_
        refine z_iload_n E 1 d_Mo_goOn_30 rfl rfl ?_
        refine z_iconst E (v := 1) d_Mo_goOn_31 (by decide) ?_
        obtain ⟨h0, h⟩ := h
        refine z_zast E rfl d_Mo_goOn_32 (y := (1 : Int32)) rfl ⟨h0, ?_⟩
        have h := h _ rfl
        refine z_iconst E (v := 0) d_Mo_goOn_33 (by decide) ?_
        refine z_istore_n E [1, 2, 3, 0] d_Mo_goOn_34 rfl (by decide) rfl ?_
        exact h

set_option maxRecDepth 20000 in
theorem b_Mo_goOn_35 {G : zG} {X : zX} {post : Option Value → zSt → Prop} (E : zCtx G M_Mo_goOn (zKm G 3 X post) X) (v1 : Int32) (v2 : Int32) (v3 : Int32) (σ : zSt)
    (h : (((σ 32 0) ≤ v3 → zZ G M_Mo_goOn 3 X post 79 [(0, zf G 32), (1, .int v1), (2, .int v2)] [] σ) ∧ (¬ (σ 32 0) ≤ v3 → ((¬ (σ 32 6) = 0 → zZ G M_Mo_goOn 3 X post 35 [(0, zf G 32), (1, .int v1), (2, .int v2), (3, .int (v3 + 1))] [] σ) ∧ ((σ 32 6) = 0 → (vp_in (12 * v1 + v3) 144 ∧ (((zLk σ v1 v3) = false → zZ G M_Mo_goOn 3 X post 35 [(0, zf G 32), (1, .int v1), (2, .int v2), (3, .int (v3 + 1))] [] σ) ∧ ((zLk σ v1 v3) = true → (vp_in v1 12 ∧ (∃ P : zSt → Prop, zV G 0 M_Mo_send [zf G 32, .int (2 : Int32), .int v1, .int v3, .int (σ 35 v1.toNatClampNeg), .int (0 : Int32)] σ P ∧ ∀ σ1 : zSt, P σ1 → zZ G M_Mo_goOn 3 X post 35 [(0, zf G 32), (1, .int v1), (2, .int v2), (3, .int (v3 + 1))] [] σ1)))))))))) :
    zZ G M_Mo_goOn 3 X post 35 [(0, zf G 32), (1, .int v1), (2, .int v2), (3, .int v3)] [] σ := by
  refine z_iload_n E 3 d_Mo_goOn_35 rfl rfl ?_
  refine z_aload_n E 0 d_Mo_goOn_36 rfl rfl ?_
  refine z_getI E f_Mo_84 d_Mo_goOn_37 ?_
  refine z_icmp_ge E d_Mo_goOn_40 (tgt := 79) (by decide) ⟨fun q => ?_, fun q => ?_⟩
  · have h := h.1 q
    refine zZ.sub [0, 1, 2] rfl ?_
    exact h
  · have h := h.2 q
    refine z_aload_n E 0 d_Mo_goOn_43 rfl rfl ?_
    refine z_getI E f_Mo_152 d_Mo_goOn_44 ?_
    refine z_if_ne E d_Mo_goOn_47 (tgt := 73) (by decide) ⟨fun q => ?_, fun q => ?_⟩
    · have h := h.1 q
      refine z_iinc E 3 [1, 2, 3, 0] (v := v3 + 1) d_Mo_goOn_73 rfl rfl (by decide) rfl ?_
      refine z_goto E d_Mo_goOn_76 (tgt := 35) (by decide) ?_
      exact h
    · have h := h.2 q
      refine z_aload_n E 0 d_Mo_goOn_50 rfl rfl ?_
      refine z_iload_n E 1 d_Mo_goOn_51 rfl rfl ?_
      refine z_iload_n E 3 d_Mo_goOn_52 rfl rfl ?_
      obtain ⟨h0, h⟩ := h
      refine z_callVBp [.int v1, .int v3] [] E (p_Mo_isLink G σ v1 v3 h0) c_Mo_99 r_Mo_isLink rfl zrm rfl (Nat.le_of_ble_eq_true rfl) d_Mo_goOn_53 ?_
      refine z_ifz_eq E d_Mo_goOn_56 (tgt := 73) (by decide) ⟨fun q => ?_, fun q => ?_⟩
      · have h := h.1 q
        refine z_iinc E 3 [1, 2, 3, 0] (v := v3 + 1) d_Mo_goOn_73 rfl rfl (by decide) rfl ?_
        refine z_goto E d_Mo_goOn_76 (tgt := 35) (by decide) ?_
        exact h
      · have h := h.2 q
        refine z_aload_n E 0 d_Mo_goOn_59 rfl rfl ?_
        refine z_iconst E (v := 2) d_Mo_goOn_60 (by decide) ?_
        refine z_iload_n E 1 d_Mo_goOn_61 rfl rfl ?_
        refine z_iload_n E 3 d_Mo_goOn_62 rfl rfl ?_
        refine z_aload_n E 0 d_Mo_goOn_63 rfl rfl ?_
        refine z_getR E f_Mo_16 d_Mo_goOn_64 ?_
        refine z_iload_n E 1 d_Mo_goOn_67 rfl rfl ?_
        obtain ⟨h0, h⟩ := h
        refine z_iald E rfl d_Mo_goOn_68 ⟨h0, ?_⟩
        refine z_iconst E (v := 0) d_Mo_goOn_69 (by decide) ?_
        obtain ⟨P, hM, h⟩ := h
        refine z_callVV [.int (2 : Int32), .int v1, .int v3, .int (σ 35 v1.toNatClampNeg), .int (0 : Int32)] [] E hM c_Mo_158 r_Mo_send rfl zrm rfl (Nat.le_of_ble_eq_true rfl) d_Mo_goOn_70 (fun σ1 hp => ?_)
        have h := h σ1 hp
        refine z_iinc E 3 [1, 2, 3, 0] (v := v3 + 1) d_Mo_goOn_73 rfl rfl (by decide) rfl ?_
        refine z_goto E d_Mo_goOn_76 (tgt := 35) (by decide) ?_
        exact h

set_option maxRecDepth 20000 in
theorem b_Mo_goOn_79 {G : zG} {X : zX} {post : Option Value → zSt → Prop} (E : zCtx G M_Mo_goOn (zKm G 3 X post) X) (v1 : Int32) (v2 : Int32) (σ : zSt)
    (h : ((¬ (σ 32 6) = 0 → (vp_in v1 12 ∧ (((σ 37 v1.toNatClampNeg) = 0 → zZ G M_Mo_goOn 3 X post 202 [(0, zf G 32), (1, .int v1), (2, .int v2), (3, .int (0 : Int32))] [] σ) ∧ (¬ (σ 37 v1.toNatClampNeg) = 0 → (vp_in v1 12 ∧ ((¬ (σ 38 v1.toNatClampNeg) = 0 → zZ G M_Mo_goOn 3 X post 202 [(0, zf G 32), (1, .int v1), (2, .int v2), (3, .int (0 : Int32))] [] σ) ∧ ((σ 38 v1.toNatClampNeg) = 0 → (∃ P : Bool → zSt → Prop, zB G 1 M_Mo_hasAll [zf G 32, .int (2 : Int32), .int v1, .int (1 : Int32)] σ P ∧ ∀ (b2 : Bool) (σ1 : zSt), P b2 σ1 → ((b2 = false → zZ G M_Mo_goOn 3 X post 202 [(0, zf G 32), (1, .int v1), (2, .int v2), (3, .int (0 : Int32))] [] σ1) ∧ (b2 = true → (vp_in v1 12 ∧ ∀ σ3 : zSt, σ3 = zup σ1 38 v1.toNatClampNeg (1 : Int32) → (vp_in v1 12 ∧ (((σ3 41 v1.toNatClampNeg) = (-2 : Int32) → ((¬ (σ3 32 6) = (1 : Int32) → (∃ P : zSt → Prop, zV G 2 M_Mo_becomeFirm [zf G 32, .int v1] σ3 P ∧ ∀ σ4 : zSt, P σ4 → zZ G M_Mo_goOn 3 X post 202 [(0, zf G 32), (1, .int v1), (2, .int v2), (3, .int (0 : Int32))] [] σ4)) ∧ ((σ3 32 6) = (1 : Int32) → zZ G M_Mo_goOn 3 X post 202 [(0, zf G 32), (1, .int v1), (2, .int v2), (3, .int (1 : Int32))] [] σ3))) ∧ (¬ (σ3 41 v1.toNatClampNeg) = (-2 : Int32) → (vp_in v1 12 ∧ (vp_in v1 12 ∧ (∃ P : zSt → Prop, zV G 0 M_Mo_send [zf G 32, .int (3 : Int32), .int v1, .int (σ3 41 v1.toNatClampNeg), .int (σ3 35 v1.toNatClampNeg), .int (0 : Int32)] σ3 P ∧ ∀ σ5 : zSt, P σ5 → zZ G M_Mo_goOn 3 X post 202 [(0, zf G 32), (1, .int v1), (2, .int v2), (3, .int (0 : Int32))] [] σ5))))))))))))))))) ∧ ((σ 32 6) = 0 → (vp_in v1 12 ∧ (((σ 37 v1.toNatClampNeg) = 0 → zZ G M_Mo_goOn 3 X post 202 [(0, zf G 32), (1, .int v1), (2, .int v2), (3, .int (0 : Int32))] [] σ) ∧ (¬ (σ 37 v1.toNatClampNeg) = 0 → (∃ P : Bool → zSt → Prop, zB G 1 M_Mo_hasAll [zf G 32, .int (1 : Int32), .int v1, .int (0 : Int32)] σ P ∧ ∀ (b7 : Bool) (σ6 : zSt), P b7 σ6 → ((b7 = false → zZ G M_Mo_goOn 3 X post 202 [(0, zf G 32), (1, .int v1), (2, .int v2), (3, .int (0 : Int32))] [] σ6) ∧ (b7 = true → zZ G M_Mo_goOn 3 X post 202 [(0, zf G 32), (1, .int v1), (2, .int v2), (3, .int (1 : Int32))] [] σ6))))))))) :
    zZ G M_Mo_goOn 3 X post 79 [(0, zf G 32), (1, .int v1), (2, .int v2)] [] σ := by
  refine z_iconst E (v := 0) d_Mo_goOn_79 (by decide) ?_
  refine z_istore_n E [1, 2, 3, 0] d_Mo_goOn_80 rfl (by decide) rfl ?_
  refine z_aload_n E 0 d_Mo_goOn_81 rfl rfl ?_
  refine z_getI E f_Mo_152 d_Mo_goOn_82 ?_
  refine z_if_ne E d_Mo_goOn_85 (tgt := 116) (by decide) ⟨fun q => ?_, fun q => ?_⟩
  · have h := h.1 q
    refine z_aload_n E 0 d_Mo_goOn_116 rfl rfl ?_
    refine z_getR E f_Mo_22 d_Mo_goOn_117 ?_
    refine z_iload_n E 1 d_Mo_goOn_120 rfl rfl ?_
    obtain ⟨h0, h⟩ := h
    refine z_zald E rfl d_Mo_goOn_121 ⟨h0, ?_⟩
    refine z_if_eq E d_Mo_goOn_122 (tgt := 202) (by decide) ⟨fun q => ?_, fun q => ?_⟩
    · have h := h.1 q
      exact h
    · have h := h.2 q
      refine z_aload_n E 0 d_Mo_goOn_125 rfl rfl ?_
      refine z_getR E f_Mo_26 d_Mo_goOn_126 ?_
      refine z_iload_n E 1 d_Mo_goOn_129 rfl rfl ?_
      obtain ⟨h0, h⟩ := h
      refine z_zald E rfl d_Mo_goOn_130 ⟨h0, ?_⟩
      refine z_if_ne E d_Mo_goOn_131 (tgt := 202) (by decide) ⟨fun q => ?_, fun q => ?_⟩
      · have h := h.1 q
        exact h
      · have h := h.2 q
        refine z_aload_n E 0 d_Mo_goOn_134 rfl rfl ?_
        refine z_iconst E (v := 2) d_Mo_goOn_135 (by decide) ?_
        refine z_iload_n E 1 d_Mo_goOn_136 rfl rfl ?_
        refine z_iconst E (v := 1) d_Mo_goOn_137 (by decide) ?_
        obtain ⟨P, hM, h⟩ := h
        refine z_callVB [.int (2 : Int32), .int v1, .int (1 : Int32)] [] E hM c_Mo_170 r_Mo_hasAll rfl zrm rfl (Nat.le_of_ble_eq_true rfl) d_Mo_goOn_138 (fun b2 σ1 hp => ?_)
        have h := h b2 σ1 hp
        refine z_ifz_eq E d_Mo_goOn_141 (tgt := 202) (by decide) ⟨fun q => ?_, fun q => ?_⟩
        · have h := h.1 q
          exact h
        · have h := h.2 q
          refine z_aload_n E 0 d_Mo_goOn_144 rfl rfl ?_
          refine z_getR E f_Mo_26 d_Mo_goOn_145 ?_
          refine z_iload_n E 1 d_Mo_goOn_148 rfl rfl ?_
          refine z_iconst E (v := 1) d_Mo_goOn_149 (by decide) ?_
          obtain ⟨h0, h⟩ := h
          refine z_zast E rfl d_Mo_goOn_150 (y := (1 : Int32)) rfl ⟨h0, ?_⟩
          have h := h _ rfl
          refine z_aload_n E 0 d_Mo_goOn_151 rfl rfl ?_
          refine z_getR E f_Mo_35 d_Mo_goOn_152 ?_
          refine z_iload_n E 1 d_Mo_goOn_155 rfl rfl ?_
          obtain ⟨h0, h⟩ := h
          refine z_iald E rfl d_Mo_goOn_156 ⟨h0, ?_⟩
          refine z_bipush E (v := -2) d_Mo_goOn_157 (by decide) ?_
          refine z_icmp_eq E d_Mo_goOn_159 (tgt := 184) (by decide) ⟨fun q => ?_, fun q => ?_⟩
          · have h := h.1 q
            refine z_aload_n E 0 d_Mo_goOn_184 rfl rfl ?_
            refine z_getI E f_Mo_152 d_Mo_goOn_185 ?_
            refine z_iconst E (v := 1) d_Mo_goOn_188 (by decide) ?_
            refine z_icmp_ne E d_Mo_goOn_189 (tgt := 197) (by decide) ⟨fun q => ?_, fun q => ?_⟩
            · have h := h.1 q
              refine z_aload_n E 0 d_Mo_goOn_197 rfl rfl ?_
              refine z_iload_n E 1 d_Mo_goOn_198 rfl rfl ?_
              obtain ⟨P, hM, h⟩ := h
              refine z_callVV [.int v1] [] E hM c_Mo_174 r_Mo_becomeFirm rfl zrm rfl (Nat.le_of_ble_eq_true rfl) d_Mo_goOn_199 (fun σ4 hp => ?_)
              have h := h σ4 hp
              exact h
            · have h := h.2 q
              refine z_iconst E (v := 1) d_Mo_goOn_192 (by decide) ?_
              refine z_istore_n E [1, 2, 3, 0] d_Mo_goOn_193 rfl (by decide) rfl ?_
              refine z_goto E d_Mo_goOn_194 (tgt := 202) (by decide) ?_
              exact h
          · have h := h.2 q
            refine z_aload_n E 0 d_Mo_goOn_162 rfl rfl ?_
            refine z_iconst E (v := 3) d_Mo_goOn_163 (by decide) ?_
            refine z_iload_n E 1 d_Mo_goOn_164 rfl rfl ?_
            refine z_aload_n E 0 d_Mo_goOn_165 rfl rfl ?_
            refine z_getR E f_Mo_35 d_Mo_goOn_166 ?_
            refine z_iload_n E 1 d_Mo_goOn_169 rfl rfl ?_
            obtain ⟨h0, h⟩ := h
            refine z_iald E rfl d_Mo_goOn_170 ⟨h0, ?_⟩
            refine z_aload_n E 0 d_Mo_goOn_171 rfl rfl ?_
            refine z_getR E f_Mo_16 d_Mo_goOn_172 ?_
            refine z_iload_n E 1 d_Mo_goOn_175 rfl rfl ?_
            obtain ⟨h0, h⟩ := h
            refine z_iald E rfl d_Mo_goOn_176 ⟨h0, ?_⟩
            refine z_iconst E (v := 0) d_Mo_goOn_177 (by decide) ?_
            obtain ⟨P, hM, h⟩ := h
            refine z_callVV [.int (3 : Int32), .int v1, .int (σ3 41 v1.toNatClampNeg), .int (σ3 35 v1.toNatClampNeg), .int (0 : Int32)] [] E hM c_Mo_158 r_Mo_send rfl zrm rfl (Nat.le_of_ble_eq_true rfl) d_Mo_goOn_178 (fun σ5 hp => ?_)
            have h := h σ5 hp
            refine z_goto E d_Mo_goOn_181 (tgt := 202) (by decide) ?_
            exact h
  · have h := h.2 q
    refine z_aload_n E 0 d_Mo_goOn_88 rfl rfl ?_
    refine z_getR E f_Mo_22 d_Mo_goOn_89 ?_
    refine z_iload_n E 1 d_Mo_goOn_92 rfl rfl ?_
    obtain ⟨h0, h⟩ := h
    refine z_zald E rfl d_Mo_goOn_93 ⟨h0, ?_⟩
    refine z_if_eq E d_Mo_goOn_94 (tgt := 111) (by decide) ⟨fun q => ?_, fun q => ?_⟩
    · have h := h.1 q
      refine z_iconst E (v := 0) d_Mo_goOn_111 (by decide) ?_
      refine z_istore_n E [1, 2, 3, 0] d_Mo_goOn_112 rfl (by decide) rfl ?_
      refine z_goto E d_Mo_goOn_113 (tgt := 202) (by decide) ?_
      exact h
    · have h := h.2 q
      refine z_aload_n E 0 d_Mo_goOn_97 rfl rfl ?_
      refine z_iconst E (v := 1) d_Mo_goOn_98 (by decide) ?_
      refine z_iload_n E 1 d_Mo_goOn_99 rfl rfl ?_
      refine z_iconst E (v := 0) d_Mo_goOn_100 (by decide) ?_
      obtain ⟨P, hM, h⟩ := h
      refine z_callVB [.int (1 : Int32), .int v1, .int (0 : Int32)] [] E hM c_Mo_170 r_Mo_hasAll rfl zrm rfl (Nat.le_of_ble_eq_true rfl) d_Mo_goOn_101 (fun b7 σ6 hp => ?_)
      have h := h b7 σ6 hp
      refine z_ifz_eq E d_Mo_goOn_104 (tgt := 111) (by decide) ⟨fun q => ?_, fun q => ?_⟩
      · have h := h.1 q
        refine z_iconst E (v := 0) d_Mo_goOn_111 (by decide) ?_
        refine z_istore_n E [1, 2, 3, 0] d_Mo_goOn_112 rfl (by decide) rfl ?_
        refine z_goto E d_Mo_goOn_113 (tgt := 202) (by decide) ?_
        exact h
      · have h := h.2 q
        refine z_iconst E (v := 1) d_Mo_goOn_107 (by decide) ?_
        refine z_goto E d_Mo_goOn_108 (tgt := 112) (by decide) ?_
        refine z_istore_n E [1, 2, 3, 0] d_Mo_goOn_112 rfl (by decide) rfl ?_
        refine z_goto E d_Mo_goOn_113 (tgt := 202) (by decide) ?_
        exact h

set_option maxRecDepth 20000 in
theorem b_Mo_goOn_202 {G : zG} {X : zX} {post : Option Value → zSt → Prop} (E : zCtx G M_Mo_goOn (zKm G 3 X post) X) (v1 : Int32) (v2 : Int32) (v3 : Int32) (σ : zSt)
    (h : ((¬ (σ 32 6) = (2 : Int32) → zZ G M_Mo_goOn 3 X post 291 [(0, zf G 32), (1, .int v1), (2, .int v2), (3, .int v3)] [] σ) ∧ ((σ 32 6) = (2 : Int32) → (vp_in v1 12 ∧ (((σ 39 v1.toNatClampNeg) = 0 → zZ G M_Mo_goOn 3 X post 291 [(0, zf G 32), (1, .int v1), (2, .int v2), (3, .int v3)] [] σ) ∧ (¬ (σ 39 v1.toNatClampNeg) = 0 → (vp_in v1 12 ∧ ((¬ (σ 40 v1.toNatClampNeg) = 0 → zZ G M_Mo_goOn 3 X post 291 [(0, zf G 32), (1, .int v1), (2, .int v2), (3, .int v3)] [] σ) ∧ ((σ 40 v1.toNatClampNeg) = 0 → (∃ P : Bool → zSt → Prop, zB G 1 M_Mo_hasAll [zf G 32, .int (1 : Int32), .int v1, .int (0 : Int32)] σ P ∧ ∀ (b2 : Bool) (σ1 : zSt), P b2 σ1 → ((b2 = false → zZ G M_Mo_goOn 3 X post 291 [(0, zf G 32), (1, .int v1), (2, .int v2), (3, .int v3)] [] σ1) ∧ (b2 = true → (∃ P : Bool → zSt → Prop, zB G 1 M_Mo_hasAll [zf G 32, .int (3 : Int32), .int v1, .int (1 : Int32)] σ1 P ∧ ∀ (b4 : Bool) (σ3 : zSt), P b4 σ3 → ((b4 = false → zZ G M_Mo_goOn 3 X post 291 [(0, zf G 32), (1, .int v1), (2, .int v2), (3, .int v3)] [] σ3) ∧ (b4 = true → (vp_in v1 12 ∧ ∀ σ5 : zSt, σ5 = zup σ3 40 v1.toNatClampNeg (1 : Int32) → (vp_in v1 12 ∧ (((σ5 41 v1.toNatClampNeg) = (-2 : Int32) → zZ G M_Mo_goOn 3 X post 291 [(0, zf G 32), (1, .int v1), (2, .int v2), (3, .int (1 : Int32))] [] σ5) ∧ (¬ (σ5 41 v1.toNatClampNeg) = (-2 : Int32) → (vp_in v1 12 ∧ (vp_in v1 12 ∧ (∃ P : zSt → Prop, zV G 0 M_Mo_send [zf G 32, .int (6 : Int32), .int v1, .int (σ5 41 v1.toNatClampNeg), .int (σ5 35 v1.toNatClampNeg), .int (0 : Int32)] σ5 P ∧ ∀ σ6 : zSt, P σ6 → zZ G M_Mo_goOn 3 X post 291 [(0, zf G 32), (1, .int v1), (2, .int v2), (3, .int v3)] [] σ6)))))))))))))))))))))) :
    zZ G M_Mo_goOn 3 X post 202 [(0, zf G 32), (1, .int v1), (2, .int v2), (3, .int v3)] [] σ := by
  refine z_aload_n E 0 d_Mo_goOn_202 rfl rfl ?_
  refine z_getI E f_Mo_152 d_Mo_goOn_203 ?_
  refine z_iconst E (v := 2) d_Mo_goOn_206 (by decide) ?_
  refine z_icmp_ne E d_Mo_goOn_207 (tgt := 291) (by decide) ⟨fun q => ?_, fun q => ?_⟩
  · have h := h.1 q
    exact h
  · have h := h.2 q
    refine z_aload_n E 0 d_Mo_goOn_210 rfl rfl ?_
    refine z_getR E f_Mo_29 d_Mo_goOn_211 ?_
    refine z_iload_n E 1 d_Mo_goOn_214 rfl rfl ?_
    obtain ⟨h0, h⟩ := h
    refine z_zald E rfl d_Mo_goOn_215 ⟨h0, ?_⟩
    refine z_if_eq E d_Mo_goOn_216 (tgt := 291) (by decide) ⟨fun q => ?_, fun q => ?_⟩
    · have h := h.1 q
      exact h
    · have h := h.2 q
      refine z_aload_n E 0 d_Mo_goOn_219 rfl rfl ?_
      refine z_getR E f_Mo_32 d_Mo_goOn_220 ?_
      refine z_iload_n E 1 d_Mo_goOn_223 rfl rfl ?_
      obtain ⟨h0, h⟩ := h
      refine z_zald E rfl d_Mo_goOn_224 ⟨h0, ?_⟩
      refine z_if_ne E d_Mo_goOn_225 (tgt := 291) (by decide) ⟨fun q => ?_, fun q => ?_⟩
      · have h := h.1 q
        exact h
      · have h := h.2 q
        refine z_aload_n E 0 d_Mo_goOn_228 rfl rfl ?_
        refine z_iconst E (v := 1) d_Mo_goOn_229 (by decide) ?_
        refine z_iload_n E 1 d_Mo_goOn_230 rfl rfl ?_
        refine z_iconst E (v := 0) d_Mo_goOn_231 (by decide) ?_
        obtain ⟨P, hM, h⟩ := h
        refine z_callVB [.int (1 : Int32), .int v1, .int (0 : Int32)] [] E hM c_Mo_170 r_Mo_hasAll rfl zrm rfl (Nat.le_of_ble_eq_true rfl) d_Mo_goOn_232 (fun b2 σ1 hp => ?_)
        have h := h b2 σ1 hp
        refine z_ifz_eq E d_Mo_goOn_235 (tgt := 291) (by decide) ⟨fun q => ?_, fun q => ?_⟩
        · have h := h.1 q
          exact h
        · have h := h.2 q
          refine z_aload_n E 0 d_Mo_goOn_238 rfl rfl ?_
          refine z_iconst E (v := 3) d_Mo_goOn_239 (by decide) ?_
          refine z_iload_n E 1 d_Mo_goOn_240 rfl rfl ?_
          refine z_iconst E (v := 1) d_Mo_goOn_241 (by decide) ?_
          obtain ⟨P, hM, h⟩ := h
          refine z_callVB [.int (3 : Int32), .int v1, .int (1 : Int32)] [] E hM c_Mo_170 r_Mo_hasAll rfl zrm rfl (Nat.le_of_ble_eq_true rfl) d_Mo_goOn_242 (fun b4 σ3 hp => ?_)
          have h := h b4 σ3 hp
          refine z_ifz_eq E d_Mo_goOn_245 (tgt := 291) (by decide) ⟨fun q => ?_, fun q => ?_⟩
          · have h := h.1 q
            exact h
          · have h := h.2 q
            refine z_aload_n E 0 d_Mo_goOn_248 rfl rfl ?_
            refine z_getR E f_Mo_32 d_Mo_goOn_249 ?_
            refine z_iload_n E 1 d_Mo_goOn_252 rfl rfl ?_
            refine z_iconst E (v := 1) d_Mo_goOn_253 (by decide) ?_
            obtain ⟨h0, h⟩ := h
            refine z_zast E rfl d_Mo_goOn_254 (y := (1 : Int32)) rfl ⟨h0, ?_⟩
            have h := h _ rfl
            refine z_aload_n E 0 d_Mo_goOn_255 rfl rfl ?_
            refine z_getR E f_Mo_35 d_Mo_goOn_256 ?_
            refine z_iload_n E 1 d_Mo_goOn_259 rfl rfl ?_
            obtain ⟨h0, h⟩ := h
            refine z_iald E rfl d_Mo_goOn_260 ⟨h0, ?_⟩
            refine z_bipush E (v := -2) d_Mo_goOn_261 (by decide) ?_
            refine z_icmp_eq E d_Mo_goOn_263 (tgt := 289) (by decide) ⟨fun q => ?_, fun q => ?_⟩
            · have h := h.1 q
              refine z_iconst E (v := 1) d_Mo_goOn_289 (by decide) ?_
              refine z_istore_n E [1, 2, 3, 0] d_Mo_goOn_290 rfl (by decide) rfl ?_
              exact h
            · have h := h.2 q
              refine z_aload_n E 0 d_Mo_goOn_266 rfl rfl ?_
              refine z_bipush E (v := 6) d_Mo_goOn_267 (by decide) ?_
              refine z_iload_n E 1 d_Mo_goOn_269 rfl rfl ?_
              refine z_aload_n E 0 d_Mo_goOn_270 rfl rfl ?_
              refine z_getR E f_Mo_35 d_Mo_goOn_271 ?_
              refine z_iload_n E 1 d_Mo_goOn_274 rfl rfl ?_
              obtain ⟨h0, h⟩ := h
              refine z_iald E rfl d_Mo_goOn_275 ⟨h0, ?_⟩
              refine z_aload_n E 0 d_Mo_goOn_276 rfl rfl ?_
              refine z_getR E f_Mo_16 d_Mo_goOn_277 ?_
              refine z_iload_n E 1 d_Mo_goOn_280 rfl rfl ?_
              obtain ⟨h0, h⟩ := h
              refine z_iald E rfl d_Mo_goOn_281 ⟨h0, ?_⟩
              refine z_iconst E (v := 0) d_Mo_goOn_282 (by decide) ?_
              obtain ⟨P, hM, h⟩ := h
              refine z_callVV [.int (6 : Int32), .int v1, .int (σ5 41 v1.toNatClampNeg), .int (σ5 35 v1.toNatClampNeg), .int (0 : Int32)] [] E hM c_Mo_158 r_Mo_send rfl zrm rfl (Nat.le_of_ble_eq_true rfl) d_Mo_goOn_283 (fun σ6 hp => ?_)
              have h := h σ6 hp
              refine z_goto E d_Mo_goOn_286 (tgt := 291) (by decide) ?_
              exact h

set_option maxRecDepth 20000 in
theorem b_Mo_goOn_291 {G : zG} {X : zX} {post : Option Value → zSt → Prop} (E : zCtx G M_Mo_goOn (zKm G 3 X post) X) (v1 : Int32) (v2 : Int32) (v3 : Int32) (σ : zSt)
    (h : ((v3 = 0 → zZ G M_Mo_goOn 3 X post 2 [(0, zf G 32), (1, .int v1), (2, .int v2)] [] σ) ∧ (¬ v3 = 0 → (vp_in v1 12 ∧ (((σ 32 8) ≤ (σ 35 v1.toNatClampNeg) → zZ G M_Mo_goOn 3 X post 2 [(0, zf G 32), (1, .int v1), (2, .int v2)] [] σ) ∧ (¬ (σ 32 8) ≤ (σ 35 v1.toNatClampNeg) → (vp_in v1 12 ∧ (∃ P : zSt → Prop, zV G 2 M_Mo_beginRound [zf G 32, .int v1, .int ((σ 35 v1.toNatClampNeg) + (1 : Int32))] σ P ∧ ∀ σ1 : zSt, P σ1 → zZ G M_Mo_goOn 3 X post 2 [(0, zf G 32), (1, .int v1), (2, .int (1 : Int32))] [] σ1)))))))) :
    zZ G M_Mo_goOn 3 X post 291 [(0, zf G 32), (1, .int v1), (2, .int v2), (3, .int v3)] [] σ := by
  refine z_iload_n E 3 d_Mo_goOn_291 rfl rfl ?_
  refine z_if_eq E d_Mo_goOn_292 (tgt := 323) (by decide) ⟨fun q => ?_, fun q => ?_⟩
  · have h := h.1 q
    refine z_goto E d_Mo_goOn_323 (tgt := 2) (by decide) ?_
    refine zZ.sub [0, 1, 2] rfl ?_
    exact h
  · have h := h.2 q
    refine z_aload_n E 0 d_Mo_goOn_295 rfl rfl ?_
    refine z_getR E f_Mo_16 d_Mo_goOn_296 ?_
    refine z_iload_n E 1 d_Mo_goOn_299 rfl rfl ?_
    obtain ⟨h0, h⟩ := h
    refine z_iald E rfl d_Mo_goOn_300 ⟨h0, ?_⟩
    refine z_aload_n E 0 d_Mo_goOn_301 rfl rfl ?_
    refine z_getI E f_Mo_136 d_Mo_goOn_302 ?_
    refine z_icmp_ge E d_Mo_goOn_305 (tgt := 323) (by decide) ⟨fun q => ?_, fun q => ?_⟩
    · have h := h.1 q
      refine z_goto E d_Mo_goOn_323 (tgt := 2) (by decide) ?_
      refine zZ.sub [0, 1, 2] rfl ?_
      exact h
    · have h := h.2 q
      refine z_aload_n E 0 d_Mo_goOn_308 rfl rfl ?_
      refine z_iload_n E 1 d_Mo_goOn_309 rfl rfl ?_
      refine z_aload_n E 0 d_Mo_goOn_310 rfl rfl ?_
      refine z_getR E f_Mo_16 d_Mo_goOn_311 ?_
      refine z_iload_n E 1 d_Mo_goOn_314 rfl rfl ?_
      obtain ⟨h0, h⟩ := h
      refine z_iald E rfl d_Mo_goOn_315 ⟨h0, ?_⟩
      refine z_iconst E (v := 1) d_Mo_goOn_316 (by decide) ?_
      refine z_iadd E d_Mo_goOn_317 ?_
      obtain ⟨P, hM, h⟩ := h
      refine z_callVV [.int v1, .int ((σ 35 v1.toNatClampNeg) + (1 : Int32))] [] E hM c_Mo_178 r_Mo_beginRound rfl zrm rfl (Nat.le_of_ble_eq_true rfl) d_Mo_goOn_318 (fun σ1 hp => ?_)
      have h := h σ1 hp
      refine z_iconst E (v := 1) d_Mo_goOn_321 (by decide) ?_
      refine z_istore_n E [1, 2, 0] d_Mo_goOn_322 rfl (by decide) rfl ?_
      refine z_goto E d_Mo_goOn_323 (tgt := 2) (by decide) ?_
      exact h

set_option maxRecDepth 20000 in
theorem b_Mo_start_0 {G : zG} {X : zX} {post : Option Value → zSt → Prop} (E : zCtx G M_Mo_start (zKm G 4 X post) X) (v1 : Int32) (v2 : Int32) (v3 : Int32) (v4 : Int32) (v5 : Int32) (σ : zSt)
    (h : ((v1 < 0 → zZ G M_Mo_start 4 X post 64 [(0, zf G 32), (1, .int v1), (2, .int v2), (3, .int v3), (4, .int v4), (5, .int v5), (6, .int (1 : Int32))] [] σ) ∧ (¬ v1 < 0 → (((3 : Int32) < v1 → zZ G M_Mo_start 4 X post 64 [(0, zf G 32), (1, .int v1), (2, .int v2), (3, .int v3), (4, .int v4), (5, .int v5), (6, .int (1 : Int32))] [] σ) ∧ (¬ (3 : Int32) < v1 → ((v2 < 0 → zZ G M_Mo_start 4 X post 64 [(0, zf G 32), (1, .int v1), (2, .int v2), (3, .int v3), (4, .int v4), (5, .int v5), (6, .int (1 : Int32))] [] σ) ∧ (¬ v2 < 0 → (((2 : Int32) < v2 → zZ G M_Mo_start 4 X post 64 [(0, zf G 32), (1, .int v1), (2, .int v2), (3, .int v3), (4, .int v4), (5, .int v5), (6, .int (1 : Int32))] [] σ) ∧ (¬ (2 : Int32) < v2 → (((zNo σ v3) = true → zZ G M_Mo_start 4 X post 64 [(0, zf G 32), (1, .int v1), (2, .int v2), (3, .int v3), (4, .int v4), (5, .int v5), (6, .int (1 : Int32))] [] σ) ∧ ((zNo σ v3) = false → ((¬ v2 = (2 : Int32) → ((v5 < (1 : Int32) → zZ G M_Mo_start 4 X post 64 [(0, zf G 32), (1, .int v1), (2, .int v2), (3, .int v3), (4, .int v4), (5, .int v5), (6, .int (1 : Int32))] [] σ) ∧ (¬ v5 < (1 : Int32) → ((v5 ≤ (20 : Int32) → zZ G M_Mo_start 4 X post 64 [(0, zf G 32), (1, .int v1), (2, .int v2), (3, .int v3), (4, .int v4), (5, .int v5), (6, .int (0 : Int32))] [] σ) ∧ (¬ v5 ≤ (20 : Int32) → zZ G M_Mo_start 4 X post 64 [(0, zf G 32), (1, .int v1), (2, .int v2), (3, .int v3), (4, .int v4), (5, .int v5), (6, .int (1 : Int32))] [] σ))))) ∧ (v2 = (2 : Int32) → ((v4 < (2 : Int32) → zZ G M_Mo_start 4 X post 64 [(0, zf G 32), (1, .int v1), (2, .int v2), (3, .int v3), (4, .int v4), (5, .int v5), (6, .int (1 : Int32))] [] σ) ∧ (¬ v4 < (2 : Int32) → (((8 : Int32) < v4 → zZ G M_Mo_start 4 X post 64 [(0, zf G 32), (1, .int v1), (2, .int v2), (3, .int v3), (4, .int v4), (5, .int v5), (6, .int (1 : Int32))] [] σ) ∧ (¬ (8 : Int32) < v4 → ((v5 < (1 : Int32) → zZ G M_Mo_start 4 X post 64 [(0, zf G 32), (1, .int v1), (2, .int v2), (3, .int v3), (4, .int v4), (5, .int v5), (6, .int (1 : Int32))] [] σ) ∧ (¬ v5 < (1 : Int32) → ((v5 ≤ (20 : Int32) → zZ G M_Mo_start 4 X post 64 [(0, zf G 32), (1, .int v1), (2, .int v2), (3, .int v3), (4, .int v4), (5, .int v5), (6, .int (0 : Int32))] [] σ) ∧ (¬ v5 ≤ (20 : Int32) → zZ G M_Mo_start 4 X post 64 [(0, zf G 32), (1, .int v1), (2, .int v2), (3, .int v3), (4, .int v4), (5, .int v5), (6, .int (1 : Int32))] [] σ))))))))))))))))))))) :
    zZ G M_Mo_start 4 X post 0 [(0, zf G 32), (1, .int v1), (2, .int v2), (3, .int v3), (4, .int v4), (5, .int v5)] [] σ := by
  refine z_iload_n E 1 d_Mo_start_0 rfl rfl ?_
  refine z_if_lt E d_Mo_start_1 (tgt := 57) (by decide) ⟨fun q => ?_, fun q => ?_⟩
  · have h := h.1 q
    refine z_iconst E (v := 1) d_Mo_start_57 (by decide) ?_
    refine z_goto E d_Mo_start_58 (tgt := 62) (by decide) ?_
    refine z_istore E [1, 2, 3, 4, 5, 6, 0] d_Mo_start_62 (by decide) rfl ?_
    exact h
  · have h := h.2 q
    refine z_iload_n E 1 d_Mo_start_4 rfl rfl ?_
    refine z_iconst E (v := 3) d_Mo_start_5 (by decide) ?_
    refine z_icmp_gt E d_Mo_start_6 (tgt := 57) (by decide) ⟨fun q => ?_, fun q => ?_⟩
    · have h := h.1 q
      refine z_iconst E (v := 1) d_Mo_start_57 (by decide) ?_
      refine z_goto E d_Mo_start_58 (tgt := 62) (by decide) ?_
      refine z_istore E [1, 2, 3, 4, 5, 6, 0] d_Mo_start_62 (by decide) rfl ?_
      exact h
    · have h := h.2 q
      refine z_iload_n E 2 d_Mo_start_9 rfl rfl ?_
      refine z_if_lt E d_Mo_start_10 (tgt := 57) (by decide) ⟨fun q => ?_, fun q => ?_⟩
      · have h := h.1 q
        refine z_iconst E (v := 1) d_Mo_start_57 (by decide) ?_
        refine z_goto E d_Mo_start_58 (tgt := 62) (by decide) ?_
        refine z_istore E [1, 2, 3, 4, 5, 6, 0] d_Mo_start_62 (by decide) rfl ?_
        exact h
      · have h := h.2 q
        refine z_iload_n E 2 d_Mo_start_13 rfl rfl ?_
        refine z_iconst E (v := 2) d_Mo_start_14 (by decide) ?_
        refine z_icmp_gt E d_Mo_start_15 (tgt := 57) (by decide) ⟨fun q => ?_, fun q => ?_⟩
        · have h := h.1 q
          refine z_iconst E (v := 1) d_Mo_start_57 (by decide) ?_
          refine z_goto E d_Mo_start_58 (tgt := 62) (by decide) ?_
          refine z_istore E [1, 2, 3, 4, 5, 6, 0] d_Mo_start_62 (by decide) rfl ?_
          exact h
        · have h := h.2 q
          refine z_aload_n E 0 d_Mo_start_18 rfl rfl ?_
          refine z_iload_n E 3 d_Mo_start_19 rfl rfl ?_
          refine z_callVBp [.int v3] [] E (p_Mo_noNode G σ v3) c_Mo_95 r_Mo_noNode rfl zrm rfl (Nat.le_of_ble_eq_true rfl) d_Mo_start_20 ?_
          refine z_ifz_ne E d_Mo_start_23 (tgt := 57) (by decide) ⟨fun q => ?_, fun q => ?_⟩
          · have h := h.1 q
            refine z_iconst E (v := 1) d_Mo_start_57 (by decide) ?_
            refine z_goto E d_Mo_start_58 (tgt := 62) (by decide) ?_
            refine z_istore E [1, 2, 3, 4, 5, 6, 0] d_Mo_start_62 (by decide) rfl ?_
            exact h
          · have h := h.2 q
            refine z_iload_n E 2 d_Mo_start_26 rfl rfl ?_
            refine z_iconst E (v := 2) d_Mo_start_27 (by decide) ?_
            refine z_icmp_ne E d_Mo_start_28 (tgt := 44) (by decide) ⟨fun q => ?_, fun q => ?_⟩
            · have h := h.1 q
              refine z_iload E 5 d_Mo_start_44 rfl ?_
              refine z_iconst E (v := 1) d_Mo_start_46 (by decide) ?_
              refine z_icmp_lt E d_Mo_start_47 (tgt := 57) (by decide) ⟨fun q => ?_, fun q => ?_⟩
              · have h := h.1 q
                refine z_iconst E (v := 1) d_Mo_start_57 (by decide) ?_
                refine z_goto E d_Mo_start_58 (tgt := 62) (by decide) ?_
                refine z_istore E [1, 2, 3, 4, 5, 6, 0] d_Mo_start_62 (by decide) rfl ?_
                exact h
              · have h := h.2 q
                refine z_iload E 5 d_Mo_start_50 rfl ?_
                refine z_bipush E (v := 20) d_Mo_start_52 (by decide) ?_
                refine z_icmp_le E d_Mo_start_54 (tgt := 61) (by decide) ⟨fun q => ?_, fun q => ?_⟩
                · have h := h.1 q
                  refine z_iconst E (v := 0) d_Mo_start_61 (by decide) ?_
                  refine z_istore E [1, 2, 3, 4, 5, 6, 0] d_Mo_start_62 (by decide) rfl ?_
                  exact h
                · have h := h.2 q
                  refine z_iconst E (v := 1) d_Mo_start_57 (by decide) ?_
                  refine z_goto E d_Mo_start_58 (tgt := 62) (by decide) ?_
                  refine z_istore E [1, 2, 3, 4, 5, 6, 0] d_Mo_start_62 (by decide) rfl ?_
                  exact h
            · have h := h.2 q
              refine z_iload E 4 d_Mo_start_31 rfl ?_
              refine z_iconst E (v := 2) d_Mo_start_33 (by decide) ?_
              refine z_icmp_lt E d_Mo_start_34 (tgt := 57) (by decide) ⟨fun q => ?_, fun q => ?_⟩
              · have h := h.1 q
                refine z_iconst E (v := 1) d_Mo_start_57 (by decide) ?_
                refine z_goto E d_Mo_start_58 (tgt := 62) (by decide) ?_
                refine z_istore E [1, 2, 3, 4, 5, 6, 0] d_Mo_start_62 (by decide) rfl ?_
                exact h
              · have h := h.2 q
                refine z_iload E 4 d_Mo_start_37 rfl ?_
                refine z_bipush E (v := 8) d_Mo_start_39 (by decide) ?_
                refine z_icmp_gt E d_Mo_start_41 (tgt := 57) (by decide) ⟨fun q => ?_, fun q => ?_⟩
                · have h := h.1 q
                  refine z_iconst E (v := 1) d_Mo_start_57 (by decide) ?_
                  refine z_goto E d_Mo_start_58 (tgt := 62) (by decide) ?_
                  refine z_istore E [1, 2, 3, 4, 5, 6, 0] d_Mo_start_62 (by decide) rfl ?_
                  exact h
                · have h := h.2 q
                  refine z_iload E 5 d_Mo_start_44 rfl ?_
                  refine z_iconst E (v := 1) d_Mo_start_46 (by decide) ?_
                  refine z_icmp_lt E d_Mo_start_47 (tgt := 57) (by decide) ⟨fun q => ?_, fun q => ?_⟩
                  · have h := h.1 q
                    refine z_iconst E (v := 1) d_Mo_start_57 (by decide) ?_
                    refine z_goto E d_Mo_start_58 (tgt := 62) (by decide) ?_
                    refine z_istore E [1, 2, 3, 4, 5, 6, 0] d_Mo_start_62 (by decide) rfl ?_
                    exact h
                  · have h := h.2 q
                    refine z_iload E 5 d_Mo_start_50 rfl ?_
                    refine z_bipush E (v := 20) d_Mo_start_52 (by decide) ?_
                    refine z_icmp_le E d_Mo_start_54 (tgt := 61) (by decide) ⟨fun q => ?_, fun q => ?_⟩
                    · have h := h.1 q
                      refine z_iconst E (v := 0) d_Mo_start_61 (by decide) ?_
                      refine z_istore E [1, 2, 3, 4, 5, 6, 0] d_Mo_start_62 (by decide) rfl ?_
                      exact h
                    · have h := h.2 q
                      refine z_iconst E (v := 1) d_Mo_start_57 (by decide) ?_
                      refine z_goto E d_Mo_start_58 (tgt := 62) (by decide) ?_
                      refine z_istore E [1, 2, 3, 4, 5, 6, 0] d_Mo_start_62 (by decide) rfl ?_
                      exact h

set_option maxRecDepth 20000 in
theorem b_Mo_start_64 {G : zG} {X : zX} {post : Option Value → zSt → Prop} (E : zCtx G M_Mo_start (zKm G 4 X post) X) (v1 : Int32) (v2 : Int32) (v3 : Int32) (v4 : Int32) (v5 : Int32) (v6 : Int32) (σ : zSt)
    (h : ((¬ v6 = 0 → post (some (.int (-1 : Int32))) σ) ∧ (v6 = 0 → (∃ P : Int32 → zSt → Prop, zI G 1 M_Mo_spread [zf G 32, .int (1 : Int32), .int (((1 : Int32) <<< ((σ 32 0) &&& 31)) - (1 : Int32))] σ P ∧ ∀ (x2 : Int32) (σ1 : zSt), P x2 σ1 → ((x2 = (((1 : Int32) <<< ((σ 32 0) &&& 31)) - (1 : Int32)) → (∀ σ3 : zSt, σ3 = zup σ1 32 5 v1 → (∀ σ4 : zSt, σ4 = zup σ3 32 6 v2 → (∀ σ5 : zSt, σ5 = zup σ4 32 7 v3 → (∀ σ6 : zSt, σ6 = zup σ5 32 8 v5 → (∀ σ7 : zSt, σ7 = zup σ6 32 4 (1 : Int32) → (∀ σ8 : zSt, σ8 = zup σ7 32 27 (0 : Int32) → (∀ σ9 : zSt, σ9 = zup σ8 32 29 (0 : Int32) → (∀ σ10 : zSt, σ10 = zup σ9 32 30 (0 : Int32) → (∀ σ11 : zSt, σ11 = zup σ10 32 19 (1 : Int32) → (∀ σ12 : zSt, σ12 = zup σ11 32 20 (0 : Int32) → zZ G M_Mo_start 4 X post 147 [(0, zf G 32), (4, .int v4), (7, .int (((1 : Int32) <<< ((σ 32 0) &&& 31)) - (1 : Int32))), (8, .int (0 : Int32))] [] σ12))))))))))) ∧ (¬ x2 = (((1 : Int32) <<< ((σ 32 0) &&& 31)) - (1 : Int32)) → post (some (.int (-1 : Int32))) σ1)))))) :
    zZ G M_Mo_start 4 X post 64 [(0, zf G 32), (1, .int v1), (2, .int v2), (3, .int v3), (4, .int v4), (5, .int v5), (6, .int v6)] [] σ := by
  refine z_iconst E (v := 1) d_Mo_start_64 (by decide) ?_
  refine z_aload_n E 0 d_Mo_start_65 rfl rfl ?_
  refine z_getI E f_Mo_84 d_Mo_start_66 ?_
  refine z_ishl E d_Mo_start_69 ?_
  refine z_iconst E (v := 1) d_Mo_start_70 (by decide) ?_
  refine z_isub E d_Mo_start_71 ?_
  refine z_istore E [1, 2, 3, 4, 5, 6, 7, 0] d_Mo_start_72 (by decide) rfl ?_
  refine z_iload E 6 d_Mo_start_74 rfl ?_
  refine z_if_ne E d_Mo_start_76 (tgt := 91) (by decide) ⟨fun q => ?_, fun q => ?_⟩
  · have h := h.1 q
    refine z_iconst E (v := -1) d_Mo_start_91 (by decide) ?_
    exact z_ireturn E rfl d_Mo_start_92 h
  · have h := h.2 q
    refine z_aload_n E 0 d_Mo_start_79 rfl rfl ?_
    refine z_iconst E (v := 1) d_Mo_start_80 (by decide) ?_
    refine z_iload E 7 d_Mo_start_81 rfl ?_
    obtain ⟨P, hM, h⟩ := h
    refine z_callVI [.int (1 : Int32), .int (((1 : Int32) <<< ((σ 32 0) &&& 31)) - (1 : Int32))] [] E hM c_Mo_181 r_Mo_spread rfl zrm rfl (Nat.le_of_ble_eq_true rfl) d_Mo_start_83 (fun x2 σ1 hp => ?_)
    have h := h x2 σ1 hp
    refine z_iload E 7 d_Mo_start_86 rfl ?_
    refine z_icmp_eq E d_Mo_start_88 (tgt := 93) (by decide) ⟨fun q => ?_, fun q => ?_⟩
    · have h := h.1 q
      refine z_aload_n E 0 d_Mo_start_93 rfl rfl ?_
      refine z_iload_n E 1 d_Mo_start_94 rfl rfl ?_
      refine z_putI E w_Mo_123 d_Mo_start_95 ?_
      have h := h _ rfl
      refine z_aload_n E 0 d_Mo_start_98 rfl rfl ?_
      refine z_iload_n E 2 d_Mo_start_99 rfl rfl ?_
      refine z_putI E w_Mo_152 d_Mo_start_100 ?_
      have h := h _ rfl
      refine z_aload_n E 0 d_Mo_start_103 rfl rfl ?_
      refine z_iload_n E 3 d_Mo_start_104 rfl rfl ?_
      refine z_putI E w_Mo_126 d_Mo_start_105 ?_
      have h := h _ rfl
      refine z_aload_n E 0 d_Mo_start_108 rfl rfl ?_
      refine z_iload E 5 d_Mo_start_109 rfl ?_
      refine z_putI E w_Mo_136 d_Mo_start_111 ?_
      have h := h _ rfl
      refine z_aload_n E 0 d_Mo_start_114 rfl rfl ?_
      refine z_iconst E (v := 1) d_Mo_start_115 (by decide) ?_
      refine z_putZ E w_Mo_91 ⟨rfl, rfl⟩ d_Mo_start_116 ?_
      have h := h _ rfl
      refine z_aload_n E 0 d_Mo_start_119 rfl rfl ?_
      refine z_iconst E (v := 0) d_Mo_start_120 (by decide) ?_
      refine z_putI E w_Mo_143 d_Mo_start_121 ?_
      have h := h _ rfl
      refine z_aload_n E 0 d_Mo_start_124 rfl rfl ?_
      refine z_iconst E (v := 0) d_Mo_start_125 (by decide) ?_
      refine z_putI E w_Mo_146 d_Mo_start_126 ?_
      have h := h _ rfl
      refine z_aload_n E 0 d_Mo_start_129 rfl rfl ?_
      refine z_iconst E (v := 0) d_Mo_start_130 (by decide) ?_
      refine z_putI E w_Mo_149 d_Mo_start_131 ?_
      have h := h _ rfl
      refine z_aload_n E 0 d_Mo_start_134 rfl rfl ?_
      refine z_iconst E (v := 1) d_Mo_start_135 (by decide) ?_
      refine z_putI E w_Mo_103 d_Mo_start_136 ?_
      have h := h _ rfl
      refine z_aload_n E 0 d_Mo_start_139 rfl rfl ?_
      refine z_iconst E (v := 0) d_Mo_start_140 (by decide) ?_
      refine z_putI E w_Mo_120 d_Mo_start_141 ?_
      have h := h _ rfl
      refine z_iconst E (v := 0) d_Mo_start_144 (by decide) ?_
      refine z_istore E [1, 5, 8, 0] d_Mo_start_145 (by decide) rfl ?_
      exact h
    · have h := h.2 q
      refine z_iconst E (v := -1) d_Mo_start_91 (by decide) ?_
      exact z_ireturn E rfl d_Mo_start_92 h

set_option maxRecDepth 20000 in
theorem b_Mo_start_147 {G : zG} {X : zX} {post : Option Value → zSt → Prop} (E : zCtx G M_Mo_start (zKm G 4 X post) X) (v4 : Int32) (v7 : Int32) (v8 : Int32) (σ : zSt)
    (h : (((12672 : Int32) ≤ v8 → zZ G M_Mo_start 4 X post 172 [(0, zf G 32), (4, .int v4), (7, .int v7), (8, .int (0 : Int32))] [] σ) ∧ (¬ (12672 : Int32) ≤ v8 → (vp_in v8 12672 ∧ ∀ σ1 : zSt, σ1 = zup σ 45 v8.toNatClampNeg (0 : Int32) → zZ G M_Mo_start 4 X post 147 [(0, zf G 32), (4, .int v4), (7, .int v7), (8, .int (v8 + 1))] [] σ1)))) :
    zZ G M_Mo_start 4 X post 147 [(0, zf G 32), (4, .int v4), (7, .int v7), (8, .int v8)] [] σ := by
  refine z_iload E 3 d_Mo_start_147 rfl ?_
  refine z_sipush E (v := 12672) d_Mo_start_149 (by decide) ?_
  refine z_icmp_ge E d_Mo_start_152 (tgt := 169) (by decide) ⟨fun q => ?_, fun q => ?_⟩
  · have h := h.1 q
    refine z_iconst E (v := 0) d_Mo_start_169 (by decide) ?_
    refine z_istore E [1, 2, 3, 0] d_Mo_start_170 (by decide) rfl ?_
    exact h
  · have h := h.2 q
    refine z_aload_n E 0 d_Mo_start_155 rfl rfl ?_
    refine z_getR E f_Mo_47 d_Mo_start_156 ?_
    refine z_iload E 3 d_Mo_start_159 rfl ?_
    refine z_iconst E (v := 0) d_Mo_start_161 (by decide) ?_
    obtain ⟨h0, h⟩ := h
    refine z_zast E rfl d_Mo_start_162 (y := (0 : Int32)) rfl ⟨h0, ?_⟩
    have h := h _ rfl
    refine z_iinc E 3 [1, 2, 3, 0] (v := v8 + 1) d_Mo_start_163 rfl rfl (by decide) rfl ?_
    refine z_goto E d_Mo_start_166 (tgt := 147) (by decide) ?_
    exact h

set_option maxRecDepth 20000 in
theorem b_Mo_start_172 {G : zG} {X : zX} {post : Option Value → zSt → Prop} (E : zCtx G M_Mo_start (zKm G 4 X post) X) (v4 : Int32) (v7 : Int32) (v8 : Int32) (σ : zSt)
    (h : (((144 : Int32) ≤ v8 → zZ G M_Mo_start 4 X post 197 [(0, zf G 32), (4, .int v4), (7, .int v7), (8, .int (0 : Int32))] [] σ) ∧ (¬ (144 : Int32) ≤ v8 → (vp_in v8 144 ∧ ∀ σ1 : zSt, σ1 = zup σ 44 v8.toNatClampNeg (0 : Int32) → zZ G M_Mo_start 4 X post 172 [(0, zf G 32), (4, .int v4), (7, .int v7), (8, .int (v8 + 1))] [] σ1)))) :
    zZ G M_Mo_start 4 X post 172 [(0, zf G 32), (4, .int v4), (7, .int v7), (8, .int v8)] [] σ := by
  refine z_iload E 3 d_Mo_start_172 rfl ?_
  refine z_sipush E (v := 144) d_Mo_start_174 (by decide) ?_
  refine z_icmp_ge E d_Mo_start_177 (tgt := 194) (by decide) ⟨fun q => ?_, fun q => ?_⟩
  · have h := h.1 q
    refine z_iconst E (v := 0) d_Mo_start_194 (by decide) ?_
    refine z_istore E [1, 2, 3, 0] d_Mo_start_195 (by decide) rfl ?_
    exact h
  · have h := h.2 q
    refine z_aload_n E 0 d_Mo_start_180 rfl rfl ?_
    refine z_getR E f_Mo_44 d_Mo_start_181 ?_
    refine z_iload E 3 d_Mo_start_184 rfl ?_
    refine z_iconst E (v := 0) d_Mo_start_186 (by decide) ?_
    obtain ⟨h0, h⟩ := h
    refine z_zast E rfl d_Mo_start_187 (y := (0 : Int32)) rfl ⟨h0, ?_⟩
    have h := h _ rfl
    refine z_iinc E 3 [1, 2, 3, 0] (v := v8 + 1) d_Mo_start_188 rfl rfl (by decide) rfl ?_
    refine z_goto E d_Mo_start_191 (tgt := 172) (by decide) ?_
    exact h

set_option maxRecDepth 20000 in
theorem b_Mo_start_197 {G : zG} {X : zX} {post : Option Value → zSt → Prop} (E : zCtx G M_Mo_start (zKm G 4 X post) X) (v4 : Int32) (v7 : Int32) (v8 : Int32) (σ : zSt)
    (h : (((σ 32 0) ≤ v8 → ((¬ (σ 32 6) = (1 : Int32) → ((¬ (σ 32 6) = (2 : Int32) → (∃ P : zSt → Prop, zV G 2 M_Mo_step [zf G 32] σ P ∧ ∀ σ1 : zSt, P σ1 → zZ G M_Mo_start 4 X post 302 [(0, zf G 32), (8, .int (0 : Int32))] [] σ1)) ∧ ((σ 32 6) = (2 : Int32) → (∃ P : zSt → Prop, zV G 2 M_Mo_makeClusters [zf G 32, .int v4] σ P ∧ ∀ σ2 : zSt, P σ2 → (∃ P : zSt → Prop, zV G 2 M_Mo_step [zf G 32] σ2 P ∧ ∀ σ3 : zSt, P σ3 → zZ G M_Mo_start 4 X post 302 [(0, zf G 32), (8, .int (0 : Int32))] [] σ3))))) ∧ ((σ 32 6) = (1 : Int32) → (∃ P : zSt → Prop, zV G 1 M_Mo_tree [zf G 32, .int (σ 32 7), .int v7] σ P ∧ ∀ σ4 : zSt, P σ4 → (∃ P : zSt → Prop, zV G 2 M_Mo_step [zf G 32] σ4 P ∧ ∀ σ5 : zSt, P σ5 → zZ G M_Mo_start 4 X post 302 [(0, zf G 32), (8, .int (0 : Int32))] [] σ5))))) ∧ (¬ (σ 32 0) ≤ v8 → (vp_in v8 12 ∧ ∀ σ6 : zSt, σ6 = zup σ 41 v8.toNatClampNeg (-2 : Int32) → (vp_in v8 12 ∧ ∀ σ7 : zSt, σ7 = zup σ6 42 v8.toNatClampNeg v8 → (∃ P : zSt → Prop, zV G 0 M_Mo_first [zf G 32, .int v8, .int v8] σ7 P ∧ ∀ σ8 : zSt, P σ8 → (vp_in v8 24 ∧ (vp_in v8 252 ∧ ∀ σ9 : zSt, σ9 = zup σ8 49 v8.toNatClampNeg (σ8 47 v8.toNatClampNeg) → (vp_in v8 12 ∧ ∀ σ10 : zSt, σ10 = zup σ9 35 v8.toNatClampNeg (0 : Int32) → zZ G M_Mo_start 4 X post 197 [(0, zf G 32), (4, .int v4), (7, .int v7), (8, .int (v8 + 1))] [] σ10))))))))) :
    zZ G M_Mo_start 4 X post 197 [(0, zf G 32), (4, .int v4), (7, .int v7), (8, .int v8)] [] σ := by
  refine z_iload E 3 d_Mo_start_197 rfl ?_
  refine z_aload_n E 0 d_Mo_start_199 rfl rfl ?_
  refine z_getI E f_Mo_84 d_Mo_start_200 ?_
  refine z_icmp_ge E d_Mo_start_203 (tgt := 260) (by decide) ⟨fun q => ?_, fun q => ?_⟩
  · have h := h.1 q
    refine z_aload_n E 0 d_Mo_start_260 rfl rfl ?_
    refine z_getI E f_Mo_152 d_Mo_start_261 ?_
    refine z_iconst E (v := 1) d_Mo_start_264 (by decide) ?_
    refine z_icmp_ne E d_Mo_start_265 (tgt := 281) (by decide) ⟨fun q => ?_, fun q => ?_⟩
    · have h := h.1 q
      refine z_aload_n E 0 d_Mo_start_281 rfl rfl ?_
      refine z_getI E f_Mo_152 d_Mo_start_282 ?_
      refine z_iconst E (v := 2) d_Mo_start_285 (by decide) ?_
      refine z_icmp_ne E d_Mo_start_286 (tgt := 295) (by decide) ⟨fun q => ?_, fun q => ?_⟩
      · have h := h.1 q
        refine z_aload_n E 0 d_Mo_start_295 rfl rfl ?_
        obtain ⟨P, hM, h⟩ := h
        refine z_callVV [] [] E hM c_Mo_187 r_Mo_step rfl zrm rfl (Nat.le_of_ble_eq_true rfl) d_Mo_start_296 (fun σ1 hp => ?_)
        have h := h σ1 hp
        refine z_iconst E (v := 0) d_Mo_start_299 (by decide) ?_
        refine z_istore E [1, 0] d_Mo_start_300 (by decide) rfl ?_
        exact h
      · have h := h.2 q
        refine z_aload_n E 0 d_Mo_start_289 rfl rfl ?_
        refine z_iload E 1 d_Mo_start_290 rfl ?_
        obtain ⟨P, hM, h⟩ := h
        refine z_callVV [.int v4] [] E hM c_Mo_184 r_Mo_makeClusters rfl zrm rfl (Nat.le_of_ble_eq_true rfl) d_Mo_start_292 (fun σ2 hp => ?_)
        have h := h σ2 hp
        refine z_aload_n E 0 d_Mo_start_295 rfl rfl ?_
        obtain ⟨P, hM, h⟩ := h
        refine z_callVV [] [] E hM c_Mo_187 r_Mo_step rfl zrm rfl (Nat.le_of_ble_eq_true rfl) d_Mo_start_296 (fun σ3 hp => ?_)
        have h := h σ3 hp
        refine z_iconst E (v := 0) d_Mo_start_299 (by decide) ?_
        refine z_istore E [1, 0] d_Mo_start_300 (by decide) rfl ?_
        exact h
    · have h := h.2 q
      refine z_aload_n E 0 d_Mo_start_268 rfl rfl ?_
      refine z_aload_n E 0 d_Mo_start_269 rfl rfl ?_
      refine z_getI E f_Mo_126 d_Mo_start_270 ?_
      refine z_iload E 2 d_Mo_start_273 rfl ?_
      obtain ⟨P, hM, h⟩ := h
      refine z_callVV [.int (σ 32 7), .int v7] [] E hM c_Mo_113 r_Mo_tree rfl zrm rfl (Nat.le_of_ble_eq_true rfl) d_Mo_start_275 (fun σ4 hp => ?_)
      have h := h σ4 hp
      refine z_goto E d_Mo_start_278 (tgt := 295) (by decide) ?_
      refine z_aload_n E 0 d_Mo_start_295 rfl rfl ?_
      obtain ⟨P, hM, h⟩ := h
      refine z_callVV [] [] E hM c_Mo_187 r_Mo_step rfl zrm rfl (Nat.le_of_ble_eq_true rfl) d_Mo_start_296 (fun σ5 hp => ?_)
      have h := h σ5 hp
      refine z_iconst E (v := 0) d_Mo_start_299 (by decide) ?_
      refine z_istore E [1, 0] d_Mo_start_300 (by decide) rfl ?_
      exact h
  · have h := h.2 q
    refine z_aload_n E 0 d_Mo_start_206 rfl rfl ?_
    refine z_getR E f_Mo_35 d_Mo_start_207 ?_
    refine z_iload E 3 d_Mo_start_210 rfl ?_
    refine z_bipush E (v := -2) d_Mo_start_212 (by decide) ?_
    obtain ⟨h0, h⟩ := h
    refine z_iast E rfl d_Mo_start_214 ⟨h0, ?_⟩
    have h := h _ rfl
    refine z_aload_n E 0 d_Mo_start_215 rfl rfl ?_
    refine z_getR E f_Mo_38 d_Mo_start_216 ?_
    refine z_iload E 3 d_Mo_start_219 rfl ?_
    refine z_iload E 3 d_Mo_start_221 rfl ?_
    obtain ⟨h0, h⟩ := h
    refine z_iast E rfl d_Mo_start_223 ⟨h0, ?_⟩
    have h := h _ rfl
    refine z_aload_n E 0 d_Mo_start_224 rfl rfl ?_
    refine z_iload E 3 d_Mo_start_225 rfl ?_
    refine z_iload E 3 d_Mo_start_227 rfl ?_
    obtain ⟨P, hM, h⟩ := h
    refine z_callVV [.int v8, .int v8] [] E hM c_Mo_133 r_Mo_first rfl zrm rfl (Nat.le_of_ble_eq_true rfl) d_Mo_start_229 (fun σ8 hp => ?_)
    have h := h σ8 hp
    refine z_aload_n E 0 d_Mo_start_232 rfl rfl ?_
    refine z_getR E f_Mo_59 d_Mo_start_233 ?_
    refine z_iload E 3 d_Mo_start_236 rfl ?_
    refine z_aload_n E 0 d_Mo_start_238 rfl rfl ?_
    refine z_getR E f_Mo_53 d_Mo_start_239 ?_
    refine z_iload E 3 d_Mo_start_242 rfl ?_
    obtain ⟨h0, h⟩ := h
    refine z_iald E rfl d_Mo_start_244 ⟨h0, ?_⟩
    obtain ⟨h0, h⟩ := h
    refine z_iast E rfl d_Mo_start_245 ⟨h0, ?_⟩
    have h := h _ rfl
    refine z_aload_n E 0 d_Mo_start_246 rfl rfl ?_
    refine z_getR E f_Mo_16 d_Mo_start_247 ?_
    refine z_iload E 3 d_Mo_start_250 rfl ?_
    refine z_iconst E (v := 0) d_Mo_start_252 (by decide) ?_
    obtain ⟨h0, h⟩ := h
    refine z_iast E rfl d_Mo_start_253 ⟨h0, ?_⟩
    have h := h _ rfl
    refine z_iinc E 3 [1, 2, 3, 0] (v := v8 + 1) d_Mo_start_254 rfl rfl (by decide) rfl ?_
    refine z_goto E d_Mo_start_257 (tgt := 197) (by decide) ?_
    exact h

set_option maxRecDepth 20000 in
theorem b_Mo_start_302 {G : zG} {X : zX} {post : Option Value → zSt → Prop} (E : zCtx G M_Mo_start (zKm G 4 X post) X) (v8 : Int32) (σ : zSt)
    (h : (((σ 32 0) ≤ v8 → post (some (.int (σ 32 27))) σ) ∧ (¬ (σ 32 0) ≤ v8 → (∃ P : zSt → Prop, zV G 2 M_Mo_beginRound [zf G 32, .int v8, .int (1 : Int32)] σ P ∧ ∀ σ1 : zSt, P σ1 → (∃ P : zSt → Prop, zV G 3 M_Mo_goOn [zf G 32, .int v8] σ1 P ∧ ∀ σ2 : zSt, P σ2 → zZ G M_Mo_start 4 X post 302 [(0, zf G 32), (8, .int (v8 + 1))] [] σ2))))) :
    zZ G M_Mo_start 4 X post 302 [(0, zf G 32), (8, .int v8)] [] σ := by
  refine z_iload E 1 d_Mo_start_302 rfl ?_
  refine z_aload_n E 0 d_Mo_start_304 rfl rfl ?_
  refine z_getI E f_Mo_84 d_Mo_start_305 ?_
  refine z_icmp_ge E d_Mo_start_308 (tgt := 330) (by decide) ⟨fun q => ?_, fun q => ?_⟩
  · have h := h.1 q
    refine z_aload_n E 0 d_Mo_start_330 rfl rfl ?_
    refine z_getI E f_Mo_143 d_Mo_start_331 ?_
    exact z_ireturn E rfl d_Mo_start_334 h
  · have h := h.2 q
    refine z_aload_n E 0 d_Mo_start_311 rfl rfl ?_
    refine z_iload E 1 d_Mo_start_312 rfl ?_
    refine z_iconst E (v := 1) d_Mo_start_314 (by decide) ?_
    obtain ⟨P, hM, h⟩ := h
    refine z_callVV [.int v8, .int (1 : Int32)] [] E hM c_Mo_178 r_Mo_beginRound rfl zrm rfl (Nat.le_of_ble_eq_true rfl) d_Mo_start_315 (fun σ1 hp => ?_)
    have h := h σ1 hp
    refine z_aload_n E 0 d_Mo_start_318 rfl rfl ?_
    refine z_iload E 1 d_Mo_start_319 rfl ?_
    obtain ⟨P, hM, h⟩ := h
    refine z_callVV [.int v8] [] E hM c_Mo_190 r_Mo_goOn rfl zrm rfl (Nat.le_of_ble_eq_true rfl) d_Mo_start_321 (fun σ2 hp => ?_)
    have h := h σ2 hp
    refine z_iinc E 1 [1, 0] (v := v8 + 1) d_Mo_start_324 rfl rfl (by decide) rfl ?_
    refine z_goto E d_Mo_start_327 (tgt := 302) (by decide) ?_
    exact h

