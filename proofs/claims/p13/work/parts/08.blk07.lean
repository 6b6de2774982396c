set_option maxRecDepth 20000 in
set_option maxHeartbeats 4000000 in
theorem b_Mo_step_0 {G : zG} {X : zX} {post : Option Value → zSt → Prop} (E : zCtx G M_Mo_step (zKm G 2 X post) X)  (σ : zSt)
    (h : zZ G M_Mo_step 2 X post 2 [(0, zf G 32), (1, .int (0 : Int32))] [] σ) :
    zZ G M_Mo_step 2 X post 0 [(0, zf G 32)] [] σ := by
  refine z_iconst E (v := 0) d_Mo_step_0 (by decide) ?_
  refine z_istore_n E [1, 0] (lv' := [(0, zf G 32), (1, .int (0 : Int32))]) d_Mo_step_1 rfl (by decide) rfl ?_
  exact h

set_option maxRecDepth 20000 in
set_option maxHeartbeats 4000000 in
theorem b_Mo_step_2 {G : zG} {X : zX} {post : Option Value → zSt → Prop} (E : zCtx G M_Mo_step (zKm G 2 X post) X) (v1 : Int32) (σ : zSt)
    (h : (((σ 32 0) ≤ v1 → zZ G M_Mo_step 2 X post 51 [(0, zf G 32), (1, .int (1 : Int32))] [] σ) ∧ (¬ (σ 32 0) ≤ v1 → (∃ P : zSt → Prop, zV G 0 M_Mo_first [zf G 32, .int ((12 : Int32) + v1), .int v1] σ P ∧ ∀ σ1 : zSt, P σ1 → (vp_in ((12 : Int32) + v1) 24 ∧ (vp_in v1 252 ∧ ∀ σ2 : zSt, σ2 = zup σ1 50 v1.toNatClampNeg (σ1 47 ((12 : Int32) + v1).toNatClampNeg) → (vp_in v1 12 ∧ ∀ σ3 : zSt, σ3 = zup σ2 53 v1.toNatClampNeg (-1000 : Int32) → zZ G M_Mo_step 2 X post 2 [(0, zf G 32), (1, .int (v1 + 1))] [] σ3))))))) :
    zZ G M_Mo_step 2 X post 2 [(0, zf G 32), (1, .int v1)] [] σ := by
  refine z_iload_n E 1 d_Mo_step_2 rfl rfl ?_
  refine z_aload_n E 0 d_Mo_step_3 rfl rfl ?_
  refine z_getI E f_Mo_84 d_Mo_step_4 ?_
  refine z_icmp_ge E d_Mo_step_7 (tgt := 49) (by decide) ⟨fun q => ?_, fun q => ?_⟩
  · replace h := h.1 q
    refine z_iconst E (v := 1) d_Mo_step_49 (by decide) ?_
    refine z_istore_n E [1, 0] (lv' := [(0, zf G 32), (1, .int (1 : Int32))]) d_Mo_step_50 rfl (by decide) rfl ?_
    exact h
  · replace h := h.2 q
    refine z_aload_n E 0 d_Mo_step_10 rfl rfl ?_
    refine z_bipush E (v := 12) d_Mo_step_11 (by decide) ?_
    refine z_iload_n E 1 d_Mo_step_13 rfl rfl ?_
    refine z_iadd E d_Mo_step_14 ?_
    refine z_iload_n E 1 d_Mo_step_15 rfl rfl ?_
    obtain ⟨P, hM, h⟩ := h
    refine z_callVV [.int ((12 : Int32) + v1), .int v1] [] E hM c_Mo_133 r_Mo_first rfl zrm rfl (Nat.le_of_ble_eq_true rfl) d_Mo_step_16 (fun σ1 hp => ?_)
    replace h := h σ1 hp
    refine z_aload_n E 0 d_Mo_step_19 rfl rfl ?_
    refine z_getR E f_Mo_62 d_Mo_step_20 ?_
    refine z_iload_n E 1 d_Mo_step_23 rfl rfl ?_
    refine z_aload_n E 0 d_Mo_step_24 rfl rfl ?_
    refine z_getR E f_Mo_53 d_Mo_step_25 ?_
    refine z_bipush E (v := 12) d_Mo_step_28 (by decide) ?_
    refine z_iload_n E 1 d_Mo_step_30 rfl rfl ?_
    refine z_iadd E d_Mo_step_31 ?_
    obtain ⟨h0, h⟩ := h
    refine z_iald E rfl d_Mo_step_32 ⟨h0, ?_⟩
    obtain ⟨h0, h⟩ := h
    refine z_iast E rfl d_Mo_step_33 ⟨h0, fun σ2 e => ?_⟩
    replace h := h σ2 e
    refine z_aload_n E 0 d_Mo_step_34 rfl rfl ?_
    refine z_getR E f_Mo_71 d_Mo_step_35 ?_
    refine z_iload_n E 1 d_Mo_step_38 rfl rfl ?_
    refine z_sipush E (v := -1000) d_Mo_step_39 (by decide) ?_
    obtain ⟨h0, h⟩ := h
    refine z_iast E rfl d_Mo_step_42 ⟨h0, fun σ3 e => ?_⟩
    replace h := h σ3 e
    refine z_iinc E 1 [1, 0] (v := v1 + 1) (lv' := [(0, zf G 32), (1, .int (v1 + 1))]) d_Mo_step_43 rfl rfl (by decide) rfl ?_
    refine z_goto E d_Mo_step_46 (tgt := 2) (by decide) ?_
    exact h

set_option maxRecDepth 20000 in
set_option maxHeartbeats 4000000 in
theorem b_Mo_step_51 {G : zG} {X : zX} {post : Option Value → zSt → Prop} (E : zCtx G M_Mo_step (zKm G 2 X post) X) (v1 : Int32) (σ : zSt)
    (h : (((σ 32 8) < v1 → post none σ) ∧ (¬ (σ 32 8) < v1 → zZ G M_Mo_step 2 X post 61 [(0, zf G 32), (1, .int v1), (2, .int (0 : Int32))] [] σ))) :
    zZ G M_Mo_step 2 X post 51 [(0, zf G 32), (1, .int v1)] [] σ := by
  refine z_iload_n E 1 d_Mo_step_51 rfl rfl ?_
  refine z_aload_n E 0 d_Mo_step_52 rfl rfl ?_
  refine z_getI E f_Mo_136 d_Mo_step_53 ?_
  refine z_icmp_gt E d_Mo_step_56 (tgt := 205) (by decide) ⟨fun q => ?_, fun q => ?_⟩
  · replace h := h.1 q
    exact z_return E rfl d_Mo_step_205 h
  · replace h := h.2 q
    refine z_iconst E (v := 0) d_Mo_step_59 (by decide) ?_
    refine z_istore_n E [1, 2, 0] (lv' := [(0, zf G 32), (1, .int v1), (2, .int (0 : Int32))]) d_Mo_step_60 rfl (by decide) rfl ?_
    exact h

set_option maxRecDepth 20000 in
set_option maxHeartbeats 4000000 in
theorem b_Mo_step_61 {G : zG} {X : zX} {post : Option Value → zSt → Prop} (E : zCtx G M_Mo_step (zKm G 2 X post) X) (v1 : Int32) (v2 : Int32) (σ : zSt)
    (h : (((σ 32 0) ≤ v2 → zZ G M_Mo_step 2 X post 89 [(0, zf G 32), (1, .int v1), (2, .int (0 : Int32))] [] σ) ∧ (¬ (σ 32 0) ≤ v2 → (vp_in v2 12 ∧ (vp_in v2 12 ∧ ∀ σ1 : zSt, σ1 = zup σ 52 v2.toNatClampNeg (σ 53 v2.toNatClampNeg) → zZ G M_Mo_step 2 X post 61 [(0, zf G 32), (1, .int v1), (2, .int (v2 + 1))] [] σ1))))) :
    zZ G M_Mo_step 2 X post 61 [(0, zf G 32), (1, .int v1), (2, .int v2)] [] σ := by
  refine z_iload_n E 2 d_Mo_step_61 rfl rfl ?_
  refine z_aload_n E 0 d_Mo_step_62 rfl rfl ?_
  refine z_getI E f_Mo_84 d_Mo_step_63 ?_
  refine z_icmp_ge E d_Mo_step_66 (tgt := 87) (by decide) ⟨fun q => ?_, fun q => ?_⟩
  · replace h := h.1 q
    refine z_iconst E (v := 0) d_Mo_step_87 (by decide) ?_
    refine z_istore_n E [1, 2, 0] (lv' := [(0, zf G 32), (1, .int v1), (2, .int (0 : Int32))]) d_Mo_step_88 rfl (by decide) rfl ?_
    exact h
  · replace h := h.2 q
    refine z_aload_n E 0 d_Mo_step_69 rfl rfl ?_
    refine z_getR E f_Mo_68 d_Mo_step_70 ?_
    refine z_iload_n E 2 d_Mo_step_73 rfl rfl ?_
    refine z_aload_n E 0 d_Mo_step_74 rfl rfl ?_
    refine z_getR E f_Mo_71 d_Mo_step_75 ?_
    refine z_iload_n E 2 d_Mo_step_78 rfl rfl ?_
    obtain ⟨h0, h⟩ := h
    refine z_iald E rfl d_Mo_step_79 ⟨h0, ?_⟩
    obtain ⟨h0, h⟩ := h
    refine z_iast E rfl d_Mo_step_80 ⟨h0, fun σ1 e => ?_⟩
    replace h := h σ1 e
    refine z_iinc E 2 [1, 2, 0] (v := v2 + 1) (lv' := [(0, zf G 32), (1, .int v1), (2, .int (v2 + 1))]) d_Mo_step_81 rfl rfl (by decide) rfl ?_
    refine z_goto E d_Mo_step_84 (tgt := 61) (by decide) ?_
    exact h

set_option maxRecDepth 20000 in
set_option maxHeartbeats 4000000 in
theorem b_Mo_step_89 {G : zG} {X : zX} {post : Option Value → zSt → Prop} (E : zCtx G M_Mo_step (zKm G 2 X post) X) (v1 : Int32) (v2 : Int32) (σ : zSt)
    (h : (((σ 32 0) ≤ v2 → zZ G M_Mo_step 2 X post 51 [(0, zf G 32), (1, .int (v1 + 1))] [] σ) ∧ (¬ (σ 32 0) ≤ v2 → zZ G M_Mo_step 2 X post 99 [(0, zf G 32), (1, .int v1), (2, .int v2), (3, .int (0 : Int32))] [] σ))) :
    zZ G M_Mo_step 2 X post 89 [(0, zf G 32), (1, .int v1), (2, .int v2)] [] σ := by
  refine z_iload_n E 2 d_Mo_step_89 rfl rfl ?_
  refine z_aload_n E 0 d_Mo_step_90 rfl rfl ?_
  refine z_getI E f_Mo_84 d_Mo_step_91 ?_
  refine z_icmp_ge E d_Mo_step_94 (tgt := 199) (by decide) ⟨fun q => ?_, fun q => ?_⟩
  · replace h := h.1 q
    refine z_iinc E 1 [1, 0, 2] (v := v1 + 1) (lv' := [(0, zf G 32), (1, .int (v1 + 1)), (2, .int v2)]) d_Mo_step_199 rfl rfl (by decide) rfl ?_
    refine z_goto E d_Mo_step_202 (tgt := 51) (by decide) ?_
    refine zZ.sub [0, 1] (lv' := [(0, zf G 32), (1, .int (v1 + 1))]) rfl ?_
    exact h
  · replace h := h.2 q
    refine z_iconst E (v := 0) d_Mo_step_97 (by decide) ?_
    refine z_istore_n E [1, 2, 3, 0] (lv' := [(0, zf G 32), (1, .int v1), (2, .int v2), (3, .int (0 : Int32))]) d_Mo_step_98 rfl (by decide) rfl ?_
    exact h

set_option maxRecDepth 20000 in
set_option maxHeartbeats 4000000 in
theorem b_Mo_step_99 {G : zG} {X : zX} {post : Option Value → zSt → Prop} (E : zCtx G M_Mo_step (zKm G 2 X post) X) (v1 : Int32) (v2 : Int32) (v3 : Int32) (σ : zSt)
    (h : (((σ 32 0) ≤ v3 → (∃ P : Int32 → zSt → Prop, zI G 1 M_Mo_act [zf G 32, .int ((12 : Int32) + v2), .int v2, .int v1] σ P ∧ ∀ (x2 : Int32) (σ1 : zSt), P x2 σ1 → (vp_in v2 12 ∧ ∀ σ3 : zSt, σ3 = zup σ1 53 v2.toNatClampNeg x2 → (vp_in ((12 : Int32) + v2) 24 ∧ (vp_in (((12 : Int32) * v1) + v2) 252 ∧ ∀ σ4 : zSt, σ4 = zup σ3 50 (((12 : Int32) * v1) + v2).toNatClampNeg (σ3 47 ((12 : Int32) + v2).toNatClampNeg) → zZ G M_Mo_step 2 X post 89 [(0, zf G 32), (1, .int v1), (2, .int (v2 + 1))] [] σ4))))) ∧ (¬ (σ 32 0) ≤ v3 → (vp_in (12 * v2 + v3) 144 ∧ (((zLk σ v2 v3) = false → (vp_in v3 12 ∧ ∀ σ5 : zSt, σ5 = zup σ 54 v3.toNatClampNeg (0 : Int32) → (vp_in v3 12 ∧ (vp_in v3 12 ∧ ∀ σ6 : zSt, σ6 = zup σ5 55 v3.toNatClampNeg (σ5 52 v3.toNatClampNeg) → zZ G M_Mo_step 2 X post 99 [(0, zf G 32), (1, .int v1), (2, .int v2), (3, .int (v3 + 1))] [] σ6)))) ∧ ((zLk σ v2 v3) = true → (vp_in v3 12 ∧ (((σ 52 v3.toNatClampNeg) = (-1000 : Int32) → (vp_in v3 12 ∧ ∀ σ7 : zSt, σ7 = zup σ 54 v3.toNatClampNeg (0 : Int32) → (vp_in v3 12 ∧ (vp_in v3 12 ∧ ∀ σ8 : zSt, σ8 = zup σ7 55 v3.toNatClampNeg (σ7 52 v3.toNatClampNeg) → zZ G M_Mo_step 2 X post 99 [(0, zf G 32), (1, .int v1), (2, .int v2), (3, .int (v3 + 1))] [] σ8)))) ∧ (¬ (σ 52 v3.toNatClampNeg) = (-1000 : Int32) → (vp_in v3 12 ∧ ∀ σ9 : zSt, σ9 = zup σ 54 v3.toNatClampNeg (1 : Int32) → (vp_in v3 12 ∧ (vp_in v3 12 ∧ ∀ σ10 : zSt, σ10 = zup σ9 55 v3.toNatClampNeg (σ9 52 v3.toNatClampNeg) → zZ G M_Mo_step 2 X post 99 [(0, zf G 32), (1, .int v1), (2, .int v2), (3, .int (v3 + 1))] [] σ10)))))))))))) :
    zZ G M_Mo_step 2 X post 99 [(0, zf G 32), (1, .int v1), (2, .int v2), (3, .int v3)] [] σ := by
  refine z_iload_n E 3 d_Mo_step_99 rfl rfl ?_
  refine z_aload_n E 0 d_Mo_step_100 rfl rfl ?_
  refine z_getI E f_Mo_84 d_Mo_step_101 ?_
  refine z_icmp_ge E d_Mo_step_104 (tgt := 157) (by decide) ⟨fun q => ?_, fun q => ?_⟩
  · replace h := h.1 q
    refine z_aload_n E 0 d_Mo_step_157 rfl rfl ?_
    refine z_getR E f_Mo_71 d_Mo_step_158 ?_
    refine z_iload_n E 2 d_Mo_step_161 rfl rfl ?_
    refine z_aload_n E 0 d_Mo_step_162 rfl rfl ?_
    refine z_bipush E (v := 12) d_Mo_step_163 (by decide) ?_
    refine z_iload_n E 2 d_Mo_step_165 rfl rfl ?_
    refine z_iadd E d_Mo_step_166 ?_
    refine z_iload_n E 2 d_Mo_step_167 rfl rfl ?_
    refine z_iload_n E 1 d_Mo_step_168 rfl rfl ?_
    obtain ⟨P, hM, h⟩ := h
    refine z_callVI [.int ((12 : Int32) + v2), .int v2, .int v1] [.int v2, zf G 53] E hM c_Mo_139 r_Mo_act rfl zrm rfl (Nat.le_of_ble_eq_true rfl) d_Mo_step_169 (fun x2 σ1 hp => ?_)
    replace h := h x2 σ1 hp
    obtain ⟨h0, h⟩ := h
    refine z_iast E rfl d_Mo_step_172 ⟨h0, fun σ3 e => ?_⟩
    replace h := h σ3 e
    refine z_aload_n E 0 d_Mo_step_173 rfl rfl ?_
    refine z_getR E f_Mo_62 d_Mo_step_174 ?_
    refine z_bipush E (v := 12) d_Mo_step_177 (by decide) ?_
    refine z_iload_n E 1 d_Mo_step_179 rfl rfl ?_
    refine z_imul E d_Mo_step_180 ?_
    refine z_iload_n E 2 d_Mo_step_181 rfl rfl ?_
    refine z_iadd E d_Mo_step_182 ?_
    refine z_aload_n E 0 d_Mo_step_183 rfl rfl ?_
    refine z_getR E f_Mo_53 d_Mo_step_184 ?_
    refine z_bipush E (v := 12) d_Mo_step_187 (by decide) ?_
    refine z_iload_n E 2 d_Mo_step_189 rfl rfl ?_
    refine z_iadd E d_Mo_step_190 ?_
    obtain ⟨h0, h⟩ := h
    refine z_iald E rfl d_Mo_step_191 ⟨h0, ?_⟩
    obtain ⟨h0, h⟩ := h
    refine z_iast E rfl d_Mo_step_192 ⟨h0, fun σ4 e => ?_⟩
    replace h := h σ4 e
    refine z_iinc E 2 [1, 2, 0, 3] (v := v2 + 1) (lv' := [(0, zf G 32), (1, .int v1), (2, .int (v2 + 1)), (3, .int v3)]) d_Mo_step_193 rfl rfl (by decide) rfl ?_
    refine z_goto E d_Mo_step_196 (tgt := 89) (by decide) ?_
    refine zZ.sub [0, 1, 2] (lv' := [(0, zf G 32), (1, .int v1), (2, .int (v2 + 1))]) rfl ?_
    exact h
  · replace h := h.2 q
    refine z_aload_n E 0 d_Mo_step_107 rfl rfl ?_
    refine z_getR E f_Mo_74 d_Mo_step_108 ?_
    refine z_iload_n E 3 d_Mo_step_111 rfl rfl ?_
    refine z_aload_n E 0 d_Mo_step_112 rfl rfl ?_
    refine z_iload_n E 2 d_Mo_step_113 rfl rfl ?_
    refine z_iload_n E 3 d_Mo_step_114 rfl rfl ?_
    obtain ⟨h0, h⟩ := h
    refine z_callVBp [.int v2, .int v3] [.int v3, zf G 54] E (p_Mo_isLink G σ v2 v3 h0) c_Mo_99 r_Mo_isLink rfl zrm rfl (Nat.le_of_ble_eq_true rfl) d_Mo_step_115 ?_
    refine z_ifz_eq E d_Mo_step_118 (tgt := 137) (by decide) ⟨fun q => ?_, fun q => ?_⟩
    · replace h := h.1 q
      refine z_iconst E (v := 0) d_Mo_step_137 (by decide) ?_
      obtain ⟨h0, h⟩ := h
      refine z_zast E rfl d_Mo_step_138 (y := (0 : Int32)) rfl ⟨h0, fun σ5 e => ?_⟩
      replace h := h σ5 e
      refine z_aload_n E 0 d_Mo_step_139 rfl rfl ?_
      refine z_getR E f_Mo_77 d_Mo_step_140 ?_
      refine z_iload_n E 3 d_Mo_step_143 rfl rfl ?_
      refine z_aload_n E 0 d_Mo_step_144 rfl rfl ?_
      refine z_getR E f_Mo_68 d_Mo_step_145 ?_
      refine z_iload_n E 3 d_Mo_step_148 rfl rfl ?_
      obtain ⟨h0, h⟩ := h
      refine z_iald E rfl d_Mo_step_149 ⟨h0, ?_⟩
      obtain ⟨h0, h⟩ := h
      refine z_iast E rfl d_Mo_step_150 ⟨h0, fun σ6 e => ?_⟩
      replace h := h σ6 e
      refine z_iinc E 3 [1, 2, 3, 0] (v := v3 + 1) (lv' := [(0, zf G 32), (1, .int v1), (2, .int v2), (3, .int (v3 + 1))]) d_Mo_step_151 rfl rfl (by decide) rfl ?_
      refine z_goto E d_Mo_step_154 (tgt := 99) (by decide) ?_
      exact h
    · replace h := h.2 q
      refine z_aload_n E 0 d_Mo_step_121 rfl rfl ?_
      refine z_getR E f_Mo_68 d_Mo_step_122 ?_
      refine z_iload_n E 3 d_Mo_step_125 rfl rfl ?_
      obtain ⟨h0, h⟩ := h
      refine z_iald E rfl d_Mo_step_126 ⟨h0, ?_⟩
      refine z_sipush E (v := -1000) d_Mo_step_127 (by decide) ?_
      refine z_icmp_eq E d_Mo_step_130 (tgt := 137) (by decide) ⟨fun q => ?_, fun q => ?_⟩
      · replace h := h.1 q
        refine z_iconst E (v := 0) d_Mo_step_137 (by decide) ?_
        obtain ⟨h0, h⟩ := h
        refine z_zast E rfl d_Mo_step_138 (y := (0 : Int32)) rfl ⟨h0, fun σ7 e => ?_⟩
        replace h := h σ7 e
        refine z_aload_n E 0 d_Mo_step_139 rfl rfl ?_
        refine z_getR E f_Mo_77 d_Mo_step_140 ?_
        refine z_iload_n E 3 d_Mo_step_143 rfl rfl ?_
        refine z_aload_n E 0 d_Mo_step_144 rfl rfl ?_
        refine z_getR E f_Mo_68 d_Mo_step_145 ?_
        refine z_iload_n E 3 d_Mo_step_148 rfl rfl ?_
        obtain ⟨h0, h⟩ := h
        refine z_iald E rfl d_Mo_step_149 ⟨h0, ?_⟩
        obtain ⟨h0, h⟩ := h
        refine z_iast E rfl d_Mo_step_150 ⟨h0, fun σ8 e => ?_⟩
        replace h := h σ8 e
        refine z_iinc E 3 [1, 2, 3, 0] (v := v3 + 1) (lv' := [(0, zf G 32), (1, .int v1), (2, .int v2), (3, .int (v3 + 1))]) d_Mo_step_151 rfl rfl (by decide) rfl ?_
        refine z_goto E d_Mo_step_154 (tgt := 99) (by decide) ?_
        exact h
      · replace h := h.2 q
        refine z_iconst E (v := 1) d_Mo_step_133 (by decide) ?_
        refine z_goto E d_Mo_step_134 (tgt := 138) (by decide) ?_
        obtain ⟨h0, h⟩ := h
        refine z_zast E rfl d_Mo_step_138 (y := (1 : Int32)) rfl ⟨h0, fun σ9 e => ?_⟩
        replace h := h σ9 e
        refine z_aload_n E 0 d_Mo_step_139 rfl rfl ?_
        refine z_getR E f_Mo_77 d_Mo_step_140 ?_
        refine z_iload_n E 3 d_Mo_step_143 rfl rfl ?_
        refine z_aload_n E 0 d_Mo_step_144 rfl rfl ?_
        refine z_getR E f_Mo_68 d_Mo_step_145 ?_
        refine z_iload_n E 3 d_Mo_step_148 rfl rfl ?_
        obtain ⟨h0, h⟩ := h
        refine z_iald E rfl d_Mo_step_149 ⟨h0, ?_⟩
        obtain ⟨h0, h⟩ := h
        refine z_iast E rfl d_Mo_step_150 ⟨h0, fun σ10 e => ?_⟩
        replace h := h σ10 e
        refine z_iinc E 3 [1, 2, 3, 0] (v := v3 + 1) (lv' := [(0, zf G 32), (1, .int v1), (2, .int v2), (3, .int (v3 + 1))]) d_Mo_step_151 rfl rfl (by decide) rfl ?_
        refine z_goto E d_Mo_step_154 (tgt := 99) (by decide) ?_
        exact h

set_option maxRecDepth 20000 in
set_option maxHeartbeats 4000000 in
theorem b_Mo_send_0 {G : zG} {X : zX} {post : Option Value → zSt → Prop} (E : zCtx G M_Mo_send (zKm G 0 X post) X) (v1 : Int32) (v2 : Int32) (v3 : Int32) (v4 : Int32) (v5 : Int32) (σ : zSt)
    (h : (vp_in ((5 : Int32) * (σ 32 27)) 20000 ∧ ∀ σ1 : zSt, σ1 = zup σ 51 ((5 : Int32) * (σ 32 27)).toNatClampNeg v1 → (vp_in (((5 : Int32) * (σ1 32 27)) + (1 : Int32)) 20000 ∧ ∀ σ2 : zSt, σ2 = zup σ1 51 (((5 : Int32) * (σ1 32 27)) + (1 : Int32)).toNatClampNeg v2 → (vp_in (((5 : Int32) * (σ2 32 27)) + (2 : Int32)) 20000 ∧ ∀ σ3 : zSt, σ3 = zup σ2 51 (((5 : Int32) * (σ2 32 27)) + (2 : Int32)).toNatClampNeg v3 → (vp_in (((5 : Int32) * (σ3 32 27)) + (3 : Int32)) 20000 ∧ ∀ σ4 : zSt, σ4 = zup σ3 51 (((5 : Int32) * (σ3 32 27)) + (3 : Int32)).toNatClampNeg v4 → (vp_in (((5 : Int32) * (σ4 32 27)) + (4 : Int32)) 20000 ∧ ∀ σ5 : zSt, σ5 = zup σ4 51 (((5 : Int32) * (σ4 32 27)) + (4 : Int32)).toNatClampNeg v5 → (∀ σ6 : zSt, σ6 = zup σ5 32 27 ((σ5 32 27) + (1 : Int32)) → ((¬ v1 = 0 → (∀ σ7 : zSt, σ7 = zup σ6 32 30 ((σ6 32 30) + (1 : Int32)) → post none σ7)) ∧ (v1 = 0 → (∀ σ8 : zSt, σ8 = zup σ6 32 29 ((σ6 32 29) + (1 : Int32)) → post none σ8)))))))))) :
    zZ G M_Mo_send 0 X post 0 [(0, zf G 32), (1, .int v1), (2, .int v2), (3, .int v3), (4, .int v4), (5, .int v5)] [] σ := by
  refine z_aload_n E 0 d_Mo_send_0 rfl rfl ?_
  refine z_getR E f_Mo_65 d_Mo_send_1 ?_
  refine z_iconst E (v := 5) d_Mo_send_4 (by decide) ?_
  refine z_aload_n E 0 d_Mo_send_5 rfl rfl ?_
  refine z_getI E f_Mo_143 d_Mo_send_6 ?_
  refine z_imul E d_Mo_send_9 ?_
  refine z_iload_n E 1 d_Mo_send_10 rfl rfl ?_
  obtain ⟨h0, h⟩ := h
  refine z_iast E rfl d_Mo_send_11 ⟨h0, fun σ1 e => ?_⟩
  replace h := h σ1 e
  refine z_aload_n E 0 d_Mo_send_12 rfl rfl ?_
  refine z_getR E f_Mo_65 d_Mo_send_13 ?_
  refine z_iconst E (v := 5) d_Mo_send_16 (by decide) ?_
  refine z_aload_n E 0 d_Mo_send_17 rfl rfl ?_
  refine z_getI E f_Mo_143 d_Mo_send_18 ?_
  refine z_imul E d_Mo_send_21 ?_
  refine z_iconst E (v := 1) d_Mo_send_22 (by decide) ?_
  refine z_iadd E d_Mo_send_23 ?_
  refine z_iload_n E 2 d_Mo_send_24 rfl rfl ?_
  obtain ⟨h0, h⟩ := h
  refine z_iast E rfl d_Mo_send_25 ⟨h0, fun σ2 e => ?_⟩
  replace h := h σ2 e
  refine z_aload_n E 0 d_Mo_send_26 rfl rfl ?_
  refine z_getR E f_Mo_65 d_Mo_send_27 ?_
  refine z_iconst E (v := 5) d_Mo_send_30 (by decide) ?_
  refine z_aload_n E 0 d_Mo_send_31 rfl rfl ?_
  refine z_getI E f_Mo_143 d_Mo_send_32 ?_
  refine z_imul E d_Mo_send_35 ?_
  refine z_iconst E (v := 2) d_Mo_send_36 (by decide) ?_
  refine z_iadd E d_Mo_send_37 ?_
  refine z_iload_n E 3 d_Mo_send_38 rfl rfl ?_
  obtain ⟨h0, h⟩ := h
  refine z_iast E rfl d_Mo_send_39 ⟨h0, fun σ3 e => ?_⟩
  replace h := h σ3 e
  refine z_aload_n E 0 d_Mo_send_40 rfl rfl ?_
  refine z_getR E f_Mo_65 d_Mo_send_41 ?_
  refine z_iconst E (v := 5) d_Mo_send_44 (by decide) ?_
  refine z_aload_n E 0 d_Mo_send_45 rfl rfl ?_
  refine z_getI E f_Mo_143 d_Mo_send_46 ?_
  refine z_imul E d_Mo_send_49 ?_
  refine z_iconst E (v := 3) d_Mo_send_50 (by decide) ?_
  refine z_iadd E d_Mo_send_51 ?_
  refine z_iload E 4 d_Mo_send_52 rfl ?_
  obtain ⟨h0, h⟩ := h
  refine z_iast E rfl d_Mo_send_54 ⟨h0, fun σ4 e => ?_⟩
  replace h := h σ4 e
  refine z_aload_n E 0 d_Mo_send_55 rfl rfl ?_
  refine z_getR E f_Mo_65 d_Mo_send_56 ?_
  refine z_iconst E (v := 5) d_Mo_send_59 (by decide) ?_
  refine z_aload_n E 0 d_Mo_send_60 rfl rfl ?_
  refine z_getI E f_Mo_143 d_Mo_send_61 ?_
  refine z_imul E d_Mo_send_64 ?_
  refine z_iconst E (v := 4) d_Mo_send_65 (by decide) ?_
  refine z_iadd E d_Mo_send_66 ?_
  refine z_iload E 5 d_Mo_send_67 rfl ?_
  obtain ⟨h0, h⟩ := h
  refine z_iast E rfl d_Mo_send_69 ⟨h0, fun σ5 e => ?_⟩
  replace h := h σ5 e
  refine z_aload_n E 0 d_Mo_send_70 rfl rfl ?_
  refine z_dup E d_Mo_send_71 rfl ?_
  refine z_getI E f_Mo_143 d_Mo_send_72 ?_
  refine z_iconst E (v := 1) d_Mo_send_75 (by decide) ?_
  refine z_iadd E d_Mo_send_76 ?_
  refine z_putI E w_Mo_143 d_Mo_send_77 (fun σ6 e => ?_)
  replace h := h σ6 e
  refine z_iload_n E 1 d_Mo_send_80 rfl rfl ?_
  refine z_if_ne E d_Mo_send_81 (tgt := 97) (by decide) ⟨fun q => ?_, fun q => ?_⟩
  · replace h := h.1 q
    refine z_aload_n E 0 d_Mo_send_97 rfl rfl ?_
    refine z_dup E d_Mo_send_98 rfl ?_
    refine z_getI E f_Mo_149 d_Mo_send_99 ?_
    refine z_iconst E (v := 1) d_Mo_send_102 (by decide) ?_
    refine z_iadd E d_Mo_send_103 ?_
    refine z_putI E w_Mo_149 d_Mo_send_104 (fun σ7 e => ?_)
    replace h := h σ7 e
    exact z_return E rfl d_Mo_send_107 h
  · replace h := h.2 q
    refine z_aload_n E 0 d_Mo_send_84 rfl rfl ?_
    refine z_dup E d_Mo_send_85 rfl ?_
    refine z_getI E f_Mo_146 d_Mo_send_86 ?_
    refine z_iconst E (v := 1) d_Mo_send_89 (by decide) ?_
    refine z_iadd E d_Mo_send_90 ?_
    refine z_putI E w_Mo_146 d_Mo_send_91 (fun σ8 e => ?_)
    replace h := h σ8 e
    refine z_goto E d_Mo_send_94 (tgt := 107) (by decide) ?_
    exact z_return E rfl d_Mo_send_107 h

set_option maxRecDepth 20000 in
set_option maxHeartbeats 4000000 in
theorem b_Mo_toLower_0 {G : zG} {X : zX} {post : Option Value → zSt → Prop} (E : zCtx G M_Mo_toLower (zKm G 1 X post) X) (v1 : Int32) (v2 : Int32) (v3 : Int32) (σ : zSt)
    (h : zZ G M_Mo_toLower 1 X post 3 [(0, zf G 32), (1, .int v1), (2, .int v2), (3, .int v3), (4, .int (0 : Int32))] [] σ) :
    zZ G M_Mo_toLower 1 X post 0 [(0, zf G 32), (1, .int v1), (2, .int v2), (3, .int v3)] [] σ := by
  refine z_iconst E (v := 0) d_Mo_toLower_0 (by decide) ?_
  refine z_istore E [1, 2, 3, 4, 0] (lv' := [(0, zf G 32), (1, .int v1), (2, .int v2), (3, .int v3), (4, .int (0 : Int32))]) d_Mo_toLower_1 (by decide) rfl ?_
  exact h

set_option maxRecDepth 20000 in
set_option maxHeartbeats 4000000 in
theorem b_Mo_toLower_3 {G : zG} {X : zX} {post : Option Value → zSt → Prop} (E : zCtx G M_Mo_toLower (zKm G 1 X post) X) (v1 : Int32) (v2 : Int32) (v3 : Int32) (v4 : Int32) (σ : zSt)
    (h : (((σ 32 0) ≤ v4 → post none σ) ∧ (¬ (σ 32 0) ≤ v4 → (((σ 32 6) ≤ 0 → zZ G M_Mo_toLower 1 X post 3 [(0, zf G 32), (1, .int v1), (2, .int v2), (3, .int v3), (4, .int (v4 + 1))] [] σ) ∧ (¬ (σ 32 6) ≤ 0 → (vp_in v4 12 ∧ (((zBe σ v4 v2) = false → zZ G M_Mo_toLower 1 X post 3 [(0, zf G 32), (1, .int v1), (2, .int v2), (3, .int v3), (4, .int (v4 + 1))] [] σ) ∧ ((zBe σ v4 v2) = true → (∃ P : zSt → Prop, zV G 0 M_Mo_send [zf G 32, .int v1, .int v2, .int v4, .int v3, .int (0 : Int32)] σ P ∧ ∀ σ1 : zSt, P σ1 → zZ G M_Mo_toLower 1 X post 3 [(0, zf G 32), (1, .int v1), (2, .int v2), (3, .int v3), (4, .int (v4 + 1))] [] σ1))))))))) :
    zZ G M_Mo_toLower 1 X post 3 [(0, zf G 32), (1, .int v1), (2, .int v2), (3, .int v3), (4, .int v4)] [] σ := by
  refine z_iload E 4 d_Mo_toLower_3 rfl ?_
  refine z_aload_n E 0 d_Mo_toLower_5 rfl rfl ?_
  refine z_getI E f_Mo_84 d_Mo_toLower_6 ?_
  refine z_icmp_ge E d_Mo_toLower_9 (tgt := 45) (by decide) ⟨fun q => ?_, fun q => ?_⟩
  · replace h := h.1 q
    exact z_return E rfl d_Mo_toLower_45 h
  · replace h := h.2 q
    refine z_aload_n E 0 d_Mo_toLower_12 rfl rfl ?_
    refine z_getI E f_Mo_152 d_Mo_toLower_13 ?_
    refine z_if_le E d_Mo_toLower_16 (tgt := 39) (by decide) ⟨fun q => ?_, fun q => ?_⟩
    · replace h := h.1 q
      refine z_iinc E 4 [1, 2, 3, 4, 0] (v := v4 + 1) (lv' := [(0, zf G 32), (1, .int v1), (2, .int v2), (3, .int v3), (4, .int (v4 + 1))]) d_Mo_toLower_39 rfl rfl (by decide) rfl ?_
      refine z_goto E d_Mo_toLower_42 (tgt := 3) (by decide) ?_
      exact h
    · replace h := h.2 q
      refine z_aload_n E 0 d_Mo_toLower_19 rfl rfl ?_
      refine z_iload E 4 d_Mo_toLower_20 rfl ?_
      refine z_iload_n E 2 d_Mo_toLower_22 rfl rfl ?_
      obtain ⟨h0, h⟩ := h
      refine z_callVBp [.int v4, .int v2] [] E (p_Mo_isBelow G σ v4 v2 h0) c_Mo_155 r_Mo_isBelow rfl zrm rfl (Nat.le_of_ble_eq_true rfl) d_Mo_toLower_23 ?_
      refine z_ifz_eq E d_Mo_toLower_26 (tgt := 39) (by decide) ⟨fun q => ?_, fun q => ?_⟩
      · replace h := h.1 q
        refine z_iinc E 4 [1, 2, 3, 4, 0] (v := v4 + 1) (lv' := [(0, zf G 32), (1, .int v1), (2, .int v2), (3, .int v3), (4, .int (v4 + 1))]) d_Mo_toLower_39 rfl rfl (by decide) rfl ?_
        refine z_goto E d_Mo_toLower_42 (tgt := 3) (by decide) ?_
        exact h
      · replace h := h.2 q
        refine z_aload_n E 0 d_Mo_toLower_29 rfl rfl ?_
        refine z_iload_n E 1 d_Mo_toLower_30 rfl rfl ?_
        refine z_iload_n E 2 d_Mo_toLower_31 rfl rfl ?_
        refine z_iload E 4 d_Mo_toLower_32 rfl ?_
        refine z_iload_n E 3 d_Mo_toLower_34 rfl rfl ?_
        refine z_iconst E (v := 0) d_Mo_toLower_35 (by decide) ?_
        obtain ⟨P, hM, h⟩ := h
        refine z_callVV [.int v1, .int v2, .int v4, .int v3, .int (0 : Int32)] [] E hM c_Mo_158 r_Mo_send rfl zrm rfl (Nat.le_of_ble_eq_true rfl) d_Mo_toLower_36 (fun σ1 hp => ?_)
        replace h := h σ1 hp
        refine z_iinc E 4 [1, 2, 3, 4, 0] (v := v4 + 1) (lv' := [(0, zf G 32), (1, .int v1), (2, .int v2), (3, .int v3), (4, .int (v4 + 1))]) d_Mo_toLower_39 rfl rfl (by decide) rfl ?_
        refine z_goto E d_Mo_toLower_42 (tgt := 3) (by decide) ?_
        exact h

set_option maxRecDepth 20000 in
set_option maxHeartbeats 4000000 in
theorem b_Mo_hasAll_0 {G : zG} {X : zX} {post : Option Value → zSt → Prop} (E : zCtx G M_Mo_hasAll (zKm G 1 X post) X) (v1 : Int32) (v2 : Int32) (v3 : Int32) (σ : zSt)
    (h : zZ G M_Mo_hasAll 1 X post 3 [(0, zf G 32), (1, .int v1), (2, .int v2), (3, .int v3), (4, .int (0 : Int32))] [] σ) :
    zZ G M_Mo_hasAll 1 X post 0 [(0, zf G 32), (1, .int v1), (2, .int v2), (3, .int v3)] [] σ := by
  refine z_iconst E (v := 0) d_Mo_hasAll_0 (by decide) ?_
  refine z_istore E [1, 2, 3, 4, 0] (lv' := [(0, zf G 32), (1, .int v1), (2, .int v2), (3, .int v3), (4, .int (0 : Int32))]) d_Mo_hasAll_1 (by decide) rfl ?_
  exact h

set_option maxRecDepth 20000 in
set_option maxHeartbeats 4000000 in
theorem b_Mo_hasAll_3 {G : zG} {X : zX} {post : Option Value → zSt → Prop} (E : zCtx G M_Mo_hasAll (zKm G 1 X post) X) (v1 : Int32) (v2 : Int32) (v3 : Int32) (v4 : Int32) (σ : zSt)
    (h : (((σ 32 0) ≤ v4 → post (some (.int (1 : Int32))) σ) ∧ (¬ (σ 32 0) ≤ v4 → ((v3 = 0 → ((¬ (σ 32 6) = 0 → (vp_in (((12 : Int32) * v2) + v4) 144 ∧ (((σ 44 (((12 : Int32) * v2) + v4).toNatClampNeg) = 0 → zZ G M_Mo_hasAll 1 X post 3 [(0, zf G 32), (1, .int v1), (2, .int v2), (3, .int v3), (4, .int (v4 + 1))] [] σ) ∧ (¬ (σ 44 (((12 : Int32) * v2) + v4).toNatClampNeg) = 0 → (vp_in v2 12 ∧ (vp_in (((v1 * 12 + v2) * 12 + v4) * 22 + (σ 35 v2.toNatClampNeg)) 12672 ∧ ((¬ (σ 45 (((v1 * 12 + v2) * 12 + v4) * 22 + (σ 35 v2.toNatClampNeg)).toNatClampNeg) = 0 → zZ G M_Mo_hasAll 1 X post 3 [(0, zf G 32), (1, .int v1), (2, .int v2), (3, .int v3), (4, .int (v4 + 1))] [] σ) ∧ ((σ 45 (((v1 * 12 + v2) * 12 + v4) * 22 + (σ 35 v2.toNatClampNeg)).toNatClampNeg) = 0 → post (some (.int (0 : Int32))) σ)))))))) ∧ ((σ 32 6) = 0 → (vp_in (12 * v2 + v4) 144 ∧ (((zLk σ v2 v4) = false → zZ G M_Mo_hasAll 1 X post 3 [(0, zf G 32), (1, .int v1), (2, .int v2), (3, .int v3), (4, .int (v4 + 1))] [] σ) ∧ ((zLk σ v2 v4) = true → (vp_in v2 12 ∧ (vp_in (((v1 * 12 + v2) * 12 + v4) * 22 + (σ 35 v2.toNatClampNeg)) 12672 ∧ ((¬ (σ 45 (((v1 * 12 + v2) * 12 + v4) * 22 + (σ 35 v2.toNatClampNeg)).toNatClampNeg) = 0 → zZ G M_Mo_hasAll 1 X post 3 [(0, zf G 32), (1, .int v1), (2, .int v2), (3, .int v3), (4, .int (v4 + 1))] [] σ) ∧ ((σ 45 (((v1 * 12 + v2) * 12 + v4) * 22 + (σ 35 v2.toNatClampNeg)).toNatClampNeg) = 0 → post (some (.int (0 : Int32))) σ)))))))))) ∧ (¬ v3 = 0 → (vp_in v4 12 ∧ (((zBe σ v4 v2) = false → zZ G M_Mo_hasAll 1 X post 3 [(0, zf G 32), (1, .int v1), (2, .int v2), (3, .int v3), (4, .int (v4 + 1))] [] σ) ∧ ((zBe σ v4 v2) = true → (vp_in v2 12 ∧ (vp_in (((v1 * 12 + v2) * 12 + v4) * 22 + (σ 35 v2.toNatClampNeg)) 12672 ∧ ((¬ (σ 45 (((v1 * 12 + v2) * 12 + v4) * 22 + (σ 35 v2.toNatClampNeg)).toNatClampNeg) = 0 → zZ G M_Mo_hasAll 1 X post 3 [(0, zf G 32), (1, .int v1), (2, .int v2), (3, .int v3), (4, .int (v4 + 1))] [] σ) ∧ ((σ 45 (((v1 * 12 + v2) * 12 + v4) * 22 + (σ 35 v2.toNatClampNeg)).toNatClampNeg) = 0 → post (some (.int (0 : Int32))) σ)))))))))))) :
    zZ G M_Mo_hasAll 1 X post 3 [(0, zf G 32), (1, .int v1), (2, .int v2), (3, .int v3), (4, .int v4)] [] σ := by
  refine z_iload E 4 d_Mo_hasAll_3 rfl ?_
  refine z_aload_n E 0 d_Mo_hasAll_5 rfl rfl ?_
  refine z_getI E f_Mo_84 d_Mo_hasAll_6 ?_
  refine z_icmp_ge E d_Mo_hasAll_9 (tgt := 92) (by decide) ⟨fun q => ?_, fun q => ?_⟩
  · replace h := h.1 q
    refine z_iconst E (v := 1) d_Mo_hasAll_92 (by decide) ?_
    exact z_zreturn E rfl rfl d_Mo_hasAll_93 h
  · replace h := h.2 q
    refine z_iload_n E 3 d_Mo_hasAll_12 rfl rfl ?_
    refine z_if_eq E d_Mo_hasAll_13 (tgt := 26) (by decide) ⟨fun q => ?_, fun q => ?_⟩
    · replace h := h.1 q
      refine z_aload_n E 0 d_Mo_hasAll_26 rfl rfl ?_
      refine z_getI E f_Mo_152 d_Mo_hasAll_27 ?_
      refine z_if_ne E d_Mo_hasAll_30 (tgt := 43) (by decide) ⟨fun q => ?_, fun q => ?_⟩
      · replace h := h.1 q
        refine z_aload_n E 0 d_Mo_hasAll_43 rfl rfl ?_
        refine z_getR E f_Mo_44 d_Mo_hasAll_44 ?_
        refine z_bipush E (v := 12) d_Mo_hasAll_47 (by decide) ?_
        refine z_iload_n E 2 d_Mo_hasAll_49 rfl rfl ?_
        refine z_imul E d_Mo_hasAll_50 ?_
        refine z_iload E 4 d_Mo_hasAll_51 rfl ?_
        refine z_iadd E d_Mo_hasAll_53 ?_
        obtain ⟨h0, h⟩ := h
        refine z_zald E rfl d_Mo_hasAll_54 ⟨h0, ?_⟩
        refine z_istore E [1, 2, 3, 4, 5, 0] (lv' := [(0, zf G 32), (1, .int v1), (2, .int v2), (3, .int v3), (4, .int v4), (5, .int (σ 44 (((12 : Int32) * v2) + v4).toNatClampNeg))]) d_Mo_hasAll_55 (by decide) rfl ?_
        refine z_iload E 5 d_Mo_hasAll_57 rfl ?_
        refine z_if_eq E d_Mo_hasAll_59 (tgt := 86) (by decide) ⟨fun q => ?_, fun q => ?_⟩
        · replace h := h.1 q
          refine z_iinc E 4 [1, 2, 3, 4, 0, 5] (v := v4 + 1) (lv' := [(0, zf G 32), (1, .int v1), (2, .int v2), (3, .int v3), (4, .int (v4 + 1)), (5, .int (σ 44 (((12 : Int32) * v2) + v4).toNatClampNeg))]) d_Mo_hasAll_86 rfl rfl (by decide) rfl ?_
          refine z_goto E d_Mo_hasAll_89 (tgt := 3) (by decide) ?_
          refine zZ.sub [0, 1, 2, 3, 4] (lv' := [(0, zf G 32), (1, .int v1), (2, .int v2), (3, .int v3), (4, .int (v4 + 1))]) rfl ?_
          exact h
        · replace h := h.2 q
          refine z_aload_n E 0 d_Mo_hasAll_62 rfl rfl ?_
          refine z_getR E f_Mo_47 d_Mo_hasAll_63 ?_
          refine z_aload_n E 0 d_Mo_hasAll_66 rfl rfl ?_
          refine z_iload_n E 1 d_Mo_hasAll_67 rfl rfl ?_
          refine z_iload_n E 2 d_Mo_hasAll_68 rfl rfl ?_
          refine z_iload E 4 d_Mo_hasAll_69 rfl ?_
          refine z_aload_n E 0 d_Mo_hasAll_71 rfl rfl ?_
          refine z_getR E f_Mo_16 d_Mo_hasAll_72 ?_
          refine z_iload_n E 2 d_Mo_hasAll_75 rfl rfl ?_
          obtain ⟨h0, h⟩ := h
          refine z_iald E rfl d_Mo_hasAll_76 ⟨h0, ?_⟩
          refine z_callVIp [.int v1, .int v2, .int v4, .int (σ 35 v2.toNatClampNeg)] [zf G 45] E (p_Mo_place G σ v1 v2 v4 (σ 35 v2.toNatClampNeg)) c_Mo_162 r_Mo_place rfl zrm rfl (Nat.le_of_ble_eq_true rfl) d_Mo_hasAll_77 ?_
          obtain ⟨h0, h⟩ := h
          refine z_zald E rfl d_Mo_hasAll_80 ⟨h0, ?_⟩
          refine z_if_ne E d_Mo_hasAll_81 (tgt := 86) (by decide) ⟨fun q => ?_, fun q => ?_⟩
          · replace h := h.1 q
            refine z_iinc E 4 [1, 2, 3, 4, 0, 5] (v := v4 + 1) (lv' := [(0, zf G 32), (1, .int v1), (2, .int v2), (3, .int v3), (4, .int (v4 + 1)), (5, .int (σ 44 (((12 : Int32) * v2) + v4).toNatClampNeg))]) d_Mo_hasAll_86 rfl rfl (by decide) rfl ?_
            refine z_goto E d_Mo_hasAll_89 (tgt := 3) (by decide) ?_
            refine zZ.sub [0, 1, 2, 3, 4] (lv' := [(0, zf G 32), (1, .int v1), (2, .int v2), (3, .int v3), (4, .int (v4 + 1))]) rfl ?_
            exact h
          · replace h := h.2 q
            refine z_iconst E (v := 0) d_Mo_hasAll_84 (by decide) ?_
            exact z_zreturn E rfl rfl d_Mo_hasAll_85 h
      · replace h := h.2 q
        refine z_aload_n E 0 d_Mo_hasAll_33 rfl rfl ?_
        refine z_iload_n E 2 d_Mo_hasAll_34 rfl rfl ?_
        refine z_iload E 4 d_Mo_hasAll_35 rfl ?_
        obtain ⟨h0, h⟩ := h
        refine z_callVBp [.int v2, .int v4] [] E (p_Mo_isLink G σ v2 v4 h0) c_Mo_99 r_Mo_isLink rfl zrm rfl (Nat.le_of_ble_eq_true rfl) d_Mo_hasAll_37 ?_
        refine z_goto E d_Mo_hasAll_40 (tgt := 55) (by decide) ?_
        refine z_istore E [1, 2, 3, 4, 5, 0] (lv' := [(0, zf G 32), (1, .int v1), (2, .int v2), (3, .int v3), (4, .int v4), (5, .int (zb (zLk σ v2 v4)))]) d_Mo_hasAll_55 (by decide) rfl ?_
        refine z_iload E 5 d_Mo_hasAll_57 rfl ?_
        refine z_ifz_eq E d_Mo_hasAll_59 (tgt := 86) (by decide) ⟨fun q => ?_, fun q => ?_⟩
        · replace h := h.1 q
          refine z_iinc E 4 [1, 2, 3, 4, 0, 5] (v := v4 + 1) (lv' := [(0, zf G 32), (1, .int v1), (2, .int v2), (3, .int v3), (4, .int (v4 + 1)), (5, .int (zb (zLk σ v2 v4)))]) d_Mo_hasAll_86 rfl rfl (by decide) rfl ?_
          refine z_goto E d_Mo_hasAll_89 (tgt := 3) (by decide) ?_
          refine zZ.sub [0, 1, 2, 3, 4] (lv' := [(0, zf G 32), (1, .int v1), (2, .int v2), (3, .int v3), (4, .int (v4 + 1))]) rfl ?_
          exact h
        · replace h := h.2 q
          refine z_aload_n E 0 d_Mo_hasAll_62 rfl rfl ?_
          refine z_getR E f_Mo_47 d_Mo_hasAll_63 ?_
          refine z_aload_n E 0 d_Mo_hasAll_66 rfl rfl ?_
          refine z_iload_n E 1 d_Mo_hasAll_67 rfl rfl ?_
          refine z_iload_n E 2 d_Mo_hasAll_68 rfl rfl ?_
          refine z_iload E 4 d_Mo_hasAll_69 rfl ?_
          refine z_aload_n E 0 d_Mo_hasAll_71 rfl rfl ?_
          refine z_getR E f_Mo_16 d_Mo_hasAll_72 ?_
          refine z_iload_n E 2 d_Mo_hasAll_75 rfl rfl ?_
          obtain ⟨h0, h⟩ := h
          refine z_iald E rfl d_Mo_hasAll_76 ⟨h0, ?_⟩
          refine z_callVIp [.int v1, .int v2, .int v4, .int (σ 35 v2.toNatClampNeg)] [zf G 45] E (p_Mo_place G σ v1 v2 v4 (σ 35 v2.toNatClampNeg)) c_Mo_162 r_Mo_place rfl zrm rfl (Nat.le_of_ble_eq_true rfl) d_Mo_hasAll_77 ?_
          obtain ⟨h0, h⟩ := h
          refine z_zald E rfl d_Mo_hasAll_80 ⟨h0, ?_⟩
          refine z_if_ne E d_Mo_hasAll_81 (tgt := 86) (by decide) ⟨fun q => ?_, fun q => ?_⟩
          · replace h := h.1 q
            refine z_iinc E 4 [1, 2, 3, 4, 0, 5] (v := v4 + 1) (lv' := [(0, zf G 32), (1, .int v1), (2, .int v2), (3, .int v3), (4, .int (v4 + 1)), (5, .int (zb (zLk σ v2 v4)))]) d_Mo_hasAll_86 rfl rfl (by decide) rfl ?_
            refine z_goto E d_Mo_hasAll_89 (tgt := 3) (by decide) ?_
            refine zZ.sub [0, 1, 2, 3, 4] (lv' := [(0, zf G 32), (1, .int v1), (2, .int v2), (3, .int v3), (4, .int (v4 + 1))]) rfl ?_
            exact h
          · replace h := h.2 q
            refine z_iconst E (v := 0) d_Mo_hasAll_84 (by decide) ?_
            exact z_zreturn E rfl rfl d_Mo_hasAll_85 h
    · replace h := h.2 q
      refine z_aload_n E 0 d_Mo_hasAll_16 rfl rfl ?_
      refine z_iload E 4 d_Mo_hasAll_17 rfl ?_
      refine z_iload_n E 2 d_Mo_hasAll_19 rfl rfl ?_
      obtain ⟨h0, h⟩ := h
      refine z_callVBp [.int v4, .int v2] [] E (p_Mo_isBelow G σ v4 v2 h0) c_Mo_155 r_Mo_isBelow rfl zrm rfl (Nat.le_of_ble_eq_true rfl) d_Mo_hasAll_20 ?_
      refine z_goto E d_Mo_hasAll_23 (tgt := 55) (by decide) ?_
      refine z_istore E [1, 2, 3, 4, 5, 0] (lv' := [(0, zf G 32), (1, .int v1), (2, .int v2), (3, .int v3), (4, .int v4), (5, .int (zb (zBe σ v4 v2)))]) d_Mo_hasAll_55 (by decide) rfl ?_
      refine z_iload E 5 d_Mo_hasAll_57 rfl ?_
      refine z_ifz_eq E d_Mo_hasAll_59 (tgt := 86) (by decide) ⟨fun q => ?_, fun q => ?_⟩
      · replace h := h.1 q
        refine z_iinc E 4 [1, 2, 3, 4, 0, 5] (v := v4 + 1) (lv' := [(0, zf G 32), (1, .int v1), (2, .int v2), (3, .int v3), (4, .int (v4 + 1)), (5, .int (zb (zBe σ v4 v2)))]) d_Mo_hasAll_86 rfl rfl (by decide) rfl ?_
        refine z_goto E d_Mo_hasAll_89 (tgt := 3) (by decide) ?_
        refine zZ.sub [0, 1, 2, 3, 4] (lv' := [(0, zf G 32), (1, .int v1), (2, .int v2), (3, .int v3), (4, .int (v4 + 1))]) rfl ?_
        exact h
      · replace h := h.2 q
        refine z_aload_n E 0 d_Mo_hasAll_62 rfl rfl ?_
        refine z_getR E f_Mo_47 d_Mo_hasAll_63 ?_
        refine z_aload_n E 0 d_Mo_hasAll_66 rfl rfl ?_
        refine z_iload_n E 1 d_Mo_hasAll_67 rfl rfl ?_
        refine z_iload_n E 2 d_Mo_hasAll_68 rfl rfl ?_
        refine z_iload E 4 d_Mo_hasAll_69 rfl ?_
        refine z_aload_n E 0 d_Mo_hasAll_71 rfl rfl ?_
        refine z_getR E f_Mo_16 d_Mo_hasAll_72 ?_
        refine z_iload_n E 2 d_Mo_hasAll_75 rfl rfl ?_
        obtain ⟨h0, h⟩ := h
        refine z_iald E rfl d_Mo_hasAll_76 ⟨h0, ?_⟩
        refine z_callVIp [.int v1, .int v2, .int v4, .int (σ 35 v2.toNatClampNeg)] [zf G 45] E (p_Mo_place G σ v1 v2 v4 (σ 35 v2.toNatClampNeg)) c_Mo_162 r_Mo_place rfl zrm rfl (Nat.le_of_ble_eq_true rfl) d_Mo_hasAll_77 ?_
        obtain ⟨h0, h⟩ := h
        refine z_zald E rfl d_Mo_hasAll_80 ⟨h0, ?_⟩
        refine z_if_ne E d_Mo_hasAll_81 (tgt := 86) (by decide) ⟨fun q => ?_, fun q => ?_⟩
        · replace h := h.1 q
          refine z_iinc E 4 [1, 2, 3, 4, 0, 5] (v := v4 + 1) (lv' := [(0, zf G 32), (1, .int v1), (2, .int v2), (3, .int v3), (4, .int (v4 + 1)), (5, .int (zb (zBe σ v4 v2)))]) d_Mo_hasAll_86 rfl rfl (by decide) rfl ?_
          refine z_goto E d_Mo_hasAll_89 (tgt := 3) (by decide) ?_
          refine zZ.sub [0, 1, 2, 3, 4] (lv' := [(0, zf G 32), (1, .int v1), (2, .int v2), (3, .int v3), (4, .int (v4 + 1))]) rfl ?_
          exact h
        · replace h := h.2 q
          refine z_iconst E (v := 0) d_Mo_hasAll_84 (by decide) ?_
          exact z_zreturn E rfl rfl d_Mo_hasAll_85 h

set_option maxRecDepth 20000 in
set_option maxHeartbeats 4000000 in
theorem b_Mo_beginRound_0 {G : zG} {X : zX} {post : Option Value → zSt → Prop} (E : zCtx G M_Mo_beginRound (zKm G 2 X post) X) (v1 : Int32) (v2 : Int32) (σ : zSt)
    (h : ((v2 ≤ (1 : Int32) → (vp_in v1 12 ∧ ∀ σ1 : zSt, σ1 = zup σ 35 v1.toNatClampNeg v2 → (vp_in v1 12 ∧ ∀ σ2 : zSt, σ2 = zup σ1 37 v1.toNatClampNeg (0 : Int32) → (vp_in v1 12 ∧ ∀ σ3 : zSt, σ3 = zup σ2 38 v1.toNatClampNeg (0 : Int32) → (vp_in v1 12 ∧ ∀ σ4 : zSt, σ4 = zup σ3 39 v1.toNatClampNeg (0 : Int32) → (vp_in v1 12 ∧ ∀ σ5 : zSt, σ5 = zup σ4 40 v1.toNatClampNeg (0 : Int32) → (vp_in v1 12 ∧ ∀ σ6 : zSt, σ6 = zup σ5 36 v1.toNatClampNeg (0 : Int32) → zZ G M_Mo_beginRound 2 X post 56 [(0, zf G 32), (1, .int v1), (2, .int v2), (3, .int (0 : Int32))] [] σ6))))))) ∧ (¬ v2 ≤ (1 : Int32) → (∃ P : zSt → Prop, zV G 1 M_Mo_toLower [zf G 32, .int (4 : Int32), .int v1, .int v2] σ P ∧ ∀ σ7 : zSt, P σ7 → (vp_in v1 12 ∧ ∀ σ8 : zSt, σ8 = zup σ7 35 v1.toNatClampNeg v2 → (vp_in v1 12 ∧ ∀ σ9 : zSt, σ9 = zup σ8 37 v1.toNatClampNeg (0 : Int32) → (vp_in v1 12 ∧ ∀ σ10 : zSt, σ10 = zup σ9 38 v1.toNatClampNeg (0 : Int32) → (vp_in v1 12 ∧ ∀ σ11 : zSt, σ11 = zup σ10 39 v1.toNatClampNeg (0 : Int32) → (vp_in v1 12 ∧ ∀ σ12 : zSt, σ12 = zup σ11 40 v1.toNatClampNeg (0 : Int32) → (vp_in v1 12 ∧ ∀ σ13 : zSt, σ13 = zup σ12 36 v1.toNatClampNeg (0 : Int32) → zZ G M_Mo_beginRound 2 X post 56 [(0, zf G 32), (1, .int v1), (2, .int v2), (3, .int (0 : Int32))] [] σ13)))))))))) :
    zZ G M_Mo_beginRound 2 X post 0 [(0, zf G 32), (1, .int v1), (2, .int v2)] [] σ := by
  refine z_iload_n E 2 d_Mo_beginRound_0 rfl rfl ?_
  refine z_iconst E (v := 1) d_Mo_beginRound_1 (by decide) ?_
  refine z_icmp_le E d_Mo_beginRound_2 (tgt := 12) (by decide) ⟨fun q => ?_, fun q => ?_⟩
  · replace h := h.1 q
    refine z_aload_n E 0 d_Mo_beginRound_12 rfl rfl ?_
    refine z_getR E f_Mo_16 d_Mo_beginRound_13 ?_
    refine z_iload_n E 1 d_Mo_beginRound_16 rfl rfl ?_
    refine z_iload_n E 2 d_Mo_beginRound_17 rfl rfl ?_
    obtain ⟨h0, h⟩ := h
    refine z_iast E rfl d_Mo_beginRound_18 ⟨h0, fun σ1 e => ?_⟩
    replace h := h σ1 e
    refine z_aload_n E 0 d_Mo_beginRound_19 rfl rfl ?_
    refine z_getR E f_Mo_22 d_Mo_beginRound_20 ?_
    refine z_iload_n E 1 d_Mo_beginRound_23 rfl rfl ?_
    refine z_iconst E (v := 0) d_Mo_beginRound_24 (by decide) ?_
    obtain ⟨h0, h⟩ := h
    refine z_zast E rfl d_Mo_beginRound_25 (y := (0 : Int32)) rfl ⟨h0, fun σ2 e => ?_⟩
    replace h := h σ2 e
    refine z_aload_n E 0 d_Mo_beginRound_26 rfl rfl ?_
    refine z_getR E f_Mo_26 d_Mo_beginRound_27 ?_
    refine z_iload_n E 1 d_Mo_beginRound_30 rfl rfl ?_
    refine z_iconst E (v := 0) d_Mo_beginRound_31 (by decide) ?_
    obtain ⟨h0, h⟩ := h
    refine z_zast E rfl d_Mo_beginRound_32 (y := (0 : Int32)) rfl ⟨h0, fun σ3 e => ?_⟩
    replace h := h σ3 e
    refine z_aload_n E 0 d_Mo_beginRound_33 rfl rfl ?_
    refine z_getR E f_Mo_29 d_Mo_beginRound_34 ?_
    refine z_iload_n E 1 d_Mo_beginRound_37 rfl rfl ?_
    refine z_iconst E (v := 0) d_Mo_beginRound_38 (by decide) ?_
    obtain ⟨h0, h⟩ := h
    refine z_zast E rfl d_Mo_beginRound_39 (y := (0 : Int32)) rfl ⟨h0, fun σ4 e => ?_⟩
    replace h := h σ4 e
    refine z_aload_n E 0 d_Mo_beginRound_40 rfl rfl ?_
    refine z_getR E f_Mo_32 d_Mo_beginRound_41 ?_
    refine z_iload_n E 1 d_Mo_beginRound_44 rfl rfl ?_
    refine z_iconst E (v := 0) d_Mo_beginRound_45 (by decide) ?_
    obtain ⟨h0, h⟩ := h
    refine z_zast E rfl d_Mo_beginRound_46 (y := (0 : Int32)) rfl ⟨h0, fun σ5 e => ?_⟩
    replace h := h σ5 e
    refine z_aload_n E 0 d_Mo_beginRound_47 rfl rfl ?_
    refine z_getR E f_Mo_19 d_Mo_beginRound_48 ?_
    refine z_iload_n E 1 d_Mo_beginRound_51 rfl rfl ?_
    refine z_iconst E (v := 0) d_Mo_beginRound_52 (by decide) ?_
    obtain ⟨h0, h⟩ := h
    refine z_iast E rfl d_Mo_beginRound_53 ⟨h0, fun σ6 e => ?_⟩
    replace h := h σ6 e
    refine z_iconst E (v := 0) d_Mo_beginRound_54 (by decide) ?_
    refine z_istore_n E [1, 2, 3, 0] (lv' := [(0, zf G 32), (1, .int v1), (2, .int v2), (3, .int (0 : Int32))]) d_Mo_beginRound_55 rfl (by decide) rfl ?_
    exact h
  · replace h := h.2 q
    refine z_aload_n E 0 d_Mo_beginRound_5 rfl rfl ?_
    refine z_iconst E (v := 4) d_Mo_beginRound_6 (by decide) ?_
    refine z_iload_n E 1 d_Mo_beginRound_7 rfl rfl ?_
    refine z_iload_n E 2 d_Mo_beginRound_8 rfl rfl ?_
    obtain ⟨P, hM, h⟩ := h
    refine z_callVV [.int (4 : Int32), .int v1, .int v2] [] E hM c_Mo_166 r_Mo_toLower rfl zrm rfl (Nat.le_of_ble_eq_true rfl) d_Mo_beginRound_9 (fun σ7 hp => ?_)
    replace h := h σ7 hp
    refine z_aload_n E 0 d_Mo_beginRound_12 rfl rfl ?_
    refine z_getR E f_Mo_16 d_Mo_beginRound_13 ?_
    refine z_iload_n E 1 d_Mo_beginRound_16 rfl rfl ?_
    refine z_iload_n E 2 d_Mo_beginRound_17 rfl rfl ?_
    obtain ⟨h0, h⟩ := h
    refine z_iast E rfl d_Mo_beginRound_18 ⟨h0, fun σ8 e => ?_⟩
    replace h := h σ8 e
    refine z_aload_n E 0 d_Mo_beginRound_19 rfl rfl ?_
    refine z_getR E f_Mo_22 d_Mo_beginRound_20 ?_
    refine z_iload_n E 1 d_Mo_beginRound_23 rfl rfl ?_
    refine z_iconst E (v := 0) d_Mo_beginRound_24 (by decide) ?_
    obtain ⟨h0, h⟩ := h
    refine z_zast E rfl d_Mo_beginRound_25 (y := (0 : Int32)) rfl ⟨h0, fun σ9 e => ?_⟩
    replace h := h σ9 e
    refine z_aload_n E 0 d_Mo_beginRound_26 rfl rfl ?_
    refine z_getR E f_Mo_26 d_Mo_beginRound_27 ?_
    refine z_iload_n E 1 d_Mo_beginRound_30 rfl rfl ?_
    refine z_iconst E (v := 0) d_Mo_beginRound_31 (by decide) ?_
    obtain ⟨h0, h⟩ := h
    refine z_zast E rfl d_Mo_beginRound_32 (y := (0 : Int32)) rfl ⟨h0, fun σ10 e => ?_⟩
    replace h := h σ10 e
    refine z_aload_n E 0 d_Mo_beginRound_33 rfl rfl ?_
    refine z_getR E f_Mo_29 d_Mo_beginRound_34 ?_
    refine z_iload_n E 1 d_Mo_beginRound_37 rfl rfl ?_
    refine z_iconst E (v := 0) d_Mo_beginRound_38 (by decide) ?_
    obtain ⟨h0, h⟩ := h
    refine z_zast E rfl d_Mo_beginRound_39 (y := (0 : Int32)) rfl ⟨h0, fun σ11 e => ?_⟩
    replace h := h σ11 e
    refine z_aload_n E 0 d_Mo_beginRound_40 rfl rfl ?_
    refine z_getR E f_Mo_32 d_Mo_beginRound_41 ?_
    refine z_iload_n E 1 d_Mo_beginRound_44 rfl rfl ?_
    refine z_iconst E (v := 0) d_Mo_beginRound_45 (by decide) ?_
    obtain ⟨h0, h⟩ := h
    refine z_zast E rfl d_Mo_beginRound_46 (y := (0 : Int32)) rfl ⟨h0, fun σ12 e => ?_⟩
    replace h := h σ12 e
    refine z_aload_n E 0 d_Mo_beginRound_47 rfl rfl ?_
    refine z_getR E f_Mo_19 d_Mo_beginRound_48 ?_
    refine z_iload_n E 1 d_Mo_beginRound_51 rfl rfl ?_
    refine z_iconst E (v := 0) d_Mo_beginRound_52 (by decide) ?_
    obtain ⟨h0, h⟩ := h
    refine z_iast E rfl d_Mo_beginRound_53 ⟨h0, fun σ13 e => ?_⟩
    replace h := h σ13 e
    refine z_iconst E (v := 0) d_Mo_beginRound_54 (by decide) ?_
    refine z_istore_n E [1, 2, 3, 0] (lv' := [(0, zf G 32), (1, .int v1), (2, .int v2), (3, .int (0 : Int32))]) d_Mo_beginRound_55 rfl (by decide) rfl ?_
    exact h

set_option maxRecDepth 20000 in
set_option maxHeartbeats 4000000 in
theorem b_Mo_beginRound_56 {G : zG} {X : zX} {post : Option Value → zSt → Prop} (E : zCtx G M_Mo_beginRound (zKm G 2 X post) X) (v1 : Int32) (v2 : Int32) (v3 : Int32) (σ : zSt)
    (h : (((σ 32 0) ≤ v3 → (∃ P : Int32 → zSt → Prop, zI G 1 M_Mo_act [zf G 32, .int v1, .int v1, .int v2] σ P ∧ ∀ (x2 : Int32) (σ1 : zSt), P x2 σ1 → (vp_in v1 24 ∧ (vp_in (((12 : Int32) * v2) + v1) 252 ∧ ∀ σ3 : zSt, σ3 = zup σ1 49 (((12 : Int32) * v2) + v1).toNatClampNeg (σ1 47 v1.toNatClampNeg) → zZ G M_Mo_beginRound 2 X post 166 [(0, zf G 32), (1, .int v1), (2, .int v2), (3, .int x2), (4, .int (0 : Int32))] [] σ3)))) ∧ (¬ (σ 32 0) ≤ v3 → ((v2 ≤ (1 : Int32) → (vp_in v3 12 ∧ ∀ σ4 : zSt, σ4 = zup σ 54 v3.toNatClampNeg (0 : Int32) → zZ G M_Mo_beginRound 2 X post 98 [(0, zf G 32), (1, .int v1), (2, .int v2), (3, .int v3)] [] σ4)) ∧ (¬ v2 ≤ (1 : Int32) → (vp_in ((((0 : Int32) * 12 + v1) * 12 + v3) * 22 + (v2 - (1 : Int32))) 12672 ∧ (((σ 45 ((((0 : Int32) * 12 + v1) * 12 + v3) * 22 + (v2 - (1 : Int32))).toNatClampNeg) = 0 → (vp_in v3 12 ∧ ∀ σ5 : zSt, σ5 = zup σ 54 v3.toNatClampNeg (0 : Int32) → zZ G M_Mo_beginRound 2 X post 98 [(0, zf G 32), (1, .int v1), (2, .int v2), (3, .int v3)] [] σ5)) ∧ (¬ (σ 45 ((((0 : Int32) * 12 + v1) * 12 + v3) * 22 + (v2 - (1 : Int32))).toNatClampNeg) = 0 → (vp_in v3 12 ∧ ∀ σ6 : zSt, σ6 = zup σ 54 v3.toNatClampNeg (1 : Int32) → zZ G M_Mo_beginRound 2 X post 98 [(0, zf G 32), (1, .int v1), (2, .int v2), (3, .int v3)] [] σ6))))))))) :
    zZ G M_Mo_beginRound 2 X post 56 [(0, zf G 32), (1, .int v1), (2, .int v2), (3, .int v3)] [] σ := by
  refine z_iload_n E 3 d_Mo_beginRound_56 rfl rfl ?_
  refine z_aload_n E 0 d_Mo_beginRound_57 rfl rfl ?_
  refine z_getI E f_Mo_84 d_Mo_beginRound_58 ?_
  refine z_icmp_ge E d_Mo_beginRound_61 (tgt := 138) (by decide) ⟨fun q => ?_, fun q => ?_⟩
  · replace h := h.1 q
    refine z_aload_n E 0 d_Mo_beginRound_138 rfl rfl ?_
    refine z_iload_n E 1 d_Mo_beginRound_139 rfl rfl ?_
    refine z_iload_n E 1 d_Mo_beginRound_140 rfl rfl ?_
    refine z_iload_n E 2 d_Mo_beginRound_141 rfl rfl ?_
    obtain ⟨P, hM, h⟩ := h
    refine z_callVI [.int v1, .int v1, .int v2] [] E hM c_Mo_139 r_Mo_act rfl zrm rfl (Nat.le_of_ble_eq_true rfl) d_Mo_beginRound_142 (fun x2 σ1 hp => ?_)
    replace h := h x2 σ1 hp
    refine z_istore_n E [1, 2, 3, 0] (lv' := [(0, zf G 32), (1, .int v1), (2, .int v2), (3, .int x2)]) d_Mo_beginRound_145 rfl (by decide) rfl ?_
    refine z_aload_n E 0 d_Mo_beginRound_146 rfl rfl ?_
    refine z_getR E f_Mo_59 d_Mo_beginRound_147 ?_
    refine z_bipush E (v := 12) d_Mo_beginRound_150 (by decide) ?_
    refine z_iload_n E 2 d_Mo_beginRound_152 rfl rfl ?_
    refine z_imul E d_Mo_beginRound_153 ?_
    refine z_iload_n E 1 d_Mo_beginRound_154 rfl rfl ?_
    refine z_iadd E d_Mo_beginRound_155 ?_
    refine z_aload_n E 0 d_Mo_beginRound_156 rfl rfl ?_
    refine z_getR E f_Mo_53 d_Mo_beginRound_157 ?_
    refine z_iload_n E 1 d_Mo_beginRound_160 rfl rfl ?_
    obtain ⟨h0, h⟩ := h
    refine z_iald E rfl d_Mo_beginRound_161 ⟨h0, ?_⟩
    obtain ⟨h0, h⟩ := h
    refine z_iast E rfl d_Mo_beginRound_162 ⟨h0, fun σ3 e => ?_⟩
    replace h := h σ3 e
    refine z_iconst E (v := 0) d_Mo_beginRound_163 (by decide) ?_
    refine z_istore E [1, 2, 3, 4, 0] (lv' := [(0, zf G 32), (1, .int v1), (2, .int v2), (3, .int x2), (4, .int (0 : Int32))]) d_Mo_beginRound_164 (by decide) rfl ?_
    exact h
  · replace h := h.2 q
    refine z_aload_n E 0 d_Mo_beginRound_64 rfl rfl ?_
    refine z_getR E f_Mo_74 d_Mo_beginRound_65 ?_
    refine z_iload_n E 3 d_Mo_beginRound_68 rfl rfl ?_
    refine z_iload_n E 2 d_Mo_beginRound_69 rfl rfl ?_
    refine z_iconst E (v := 1) d_Mo_beginRound_70 (by decide) ?_
    refine z_icmp_le E d_Mo_beginRound_71 (tgt := 96) (by decide) ⟨fun q => ?_, fun q => ?_⟩
    · replace h := h.1 q
      refine z_iconst E (v := 0) d_Mo_beginRound_96 (by decide) ?_
      obtain ⟨h0, h⟩ := h
      refine z_zast E rfl d_Mo_beginRound_97 (y := (0 : Int32)) rfl ⟨h0, fun σ4 e => ?_⟩
      replace h := h σ4 e
      exact h
    · replace h := h.2 q
      refine z_aload_n E 0 d_Mo_beginRound_74 rfl rfl ?_
      refine z_getR E f_Mo_47 d_Mo_beginRound_75 ?_
      refine z_aload_n E 0 d_Mo_beginRound_78 rfl rfl ?_
      refine z_iconst E (v := 0) d_Mo_beginRound_79 (by decide) ?_
      refine z_iload_n E 1 d_Mo_beginRound_80 rfl rfl ?_
      refine z_iload_n E 3 d_Mo_beginRound_81 rfl rfl ?_
      refine z_iload_n E 2 d_Mo_beginRound_82 rfl rfl ?_
      refine z_iconst E (v := 1) d_Mo_beginRound_83 (by decide) ?_
      refine z_isub E d_Mo_beginRound_84 ?_
      refine z_callVIp [.int (0 : Int32), .int v1, .int v3, .int (v2 - (1 : Int32))] [zf G 45, .int v3, zf G 54] E (p_Mo_place G σ (0 : Int32) v1 v3 (v2 - (1 : Int32))) c_Mo_162 r_Mo_place rfl zrm rfl (Nat.le_of_ble_eq_true rfl) d_Mo_beginRound_85 ?_
      obtain ⟨h0, h⟩ := h
      refine z_zald E rfl d_Mo_beginRound_88 ⟨h0, ?_⟩
      refine z_if_eq E d_Mo_beginRound_89 (tgt := 96) (by decide) ⟨fun q => ?_, fun q => ?_⟩
      · replace h := h.1 q
        refine z_iconst E (v := 0) d_Mo_beginRound_96 (by decide) ?_
        obtain ⟨h0, h⟩ := h
        refine z_zast E rfl d_Mo_beginRound_97 (y := (0 : Int32)) rfl ⟨h0, fun σ5 e => ?_⟩
        replace h := h σ5 e
        exact h
      · replace h := h.2 q
        refine z_iconst E (v := 1) d_Mo_beginRound_92 (by decide) ?_
        refine z_goto E d_Mo_beginRound_93 (tgt := 97) (by decide) ?_
        obtain ⟨h0, h⟩ := h
        refine z_zast E rfl d_Mo_beginRound_97 (y := (1 : Int32)) rfl ⟨h0, fun σ6 e => ?_⟩
        replace h := h σ6 e
        exact h

set_option maxRecDepth 20000 in
set_option maxHeartbeats 4000000 in
theorem b_Mo_beginRound_98 {G : zG} {X : zX} {post : Option Value → zSt → Prop} (E : zCtx G M_Mo_beginRound (zKm G 2 X post) X) (v1 : Int32) (v2 : Int32) (v3 : Int32) (σ : zSt)
    (h : (vp_in v3 12 ∧ (((σ 54 v3.toNatClampNeg) = 0 → (vp_in v3 12 ∧ ∀ σ1 : zSt, σ1 = zup σ 55 v3.toNatClampNeg (0 : Int32) → zZ G M_Mo_beginRound 2 X post 56 [(0, zf G 32), (1, .int v1), (2, .int v2), (3, .int (v3 + 1))] [] σ1)) ∧ (¬ (σ 54 v3.toNatClampNeg) = 0 → (vp_in ((((0 : Int32) * 12 + v1) * 12 + v3) * 22 + (v2 - (1 : Int32))) 3168 ∧ (vp_in v3 12 ∧ ∀ σ2 : zSt, σ2 = zup σ 55 v3.toNatClampNeg (σ 46 ((((0 : Int32) * 12 + v1) * 12 + v3) * 22 + (v2 - (1 : Int32))).toNatClampNeg) → zZ G M_Mo_beginRound 2 X post 56 [(0, zf G 32), (1, .int v1), (2, .int v2), (3, .int (v3 + 1))] [] σ2)))))) :
    zZ G M_Mo_beginRound 2 X post 98 [(0, zf G 32), (1, .int v1), (2, .int v2), (3, .int v3)] [] σ := by
  refine z_aload_n E 0 d_Mo_beginRound_98 rfl rfl ?_
  refine z_getR E f_Mo_77 d_Mo_beginRound_99 ?_
  refine z_iload_n E 3 d_Mo_beginRound_102 rfl rfl ?_
  refine z_aload_n E 0 d_Mo_beginRound_103 rfl rfl ?_
  refine z_getR E f_Mo_74 d_Mo_beginRound_104 ?_
  refine z_iload_n E 3 d_Mo_beginRound_107 rfl rfl ?_
  obtain ⟨h0, h⟩ := h
  refine z_zald E rfl d_Mo_beginRound_108 ⟨h0, ?_⟩
  refine z_if_eq E d_Mo_beginRound_109 (tgt := 130) (by decide) ⟨fun q => ?_, fun q => ?_⟩
  · replace h := h.1 q
    refine z_iconst E (v := 0) d_Mo_beginRound_130 (by decide) ?_
    obtain ⟨h0, h⟩ := h
    refine z_iast E rfl d_Mo_beginRound_131 ⟨h0, fun σ1 e => ?_⟩
    replace h := h σ1 e
    refine z_iinc E 3 [1, 2, 3, 0] (v := v3 + 1) (lv' := [(0, zf G 32), (1, .int v1), (2, .int v2), (3, .int (v3 + 1))]) d_Mo_beginRound_132 rfl rfl (by decide) rfl ?_
    refine z_goto E d_Mo_beginRound_135 (tgt := 56) (by decide) ?_
    exact h
  · replace h := h.2 q
    refine z_aload_n E 0 d_Mo_beginRound_112 rfl rfl ?_
    refine z_getR E f_Mo_50 d_Mo_beginRound_113 ?_
    refine z_aload_n E 0 d_Mo_beginRound_116 rfl rfl ?_
    refine z_iconst E (v := 0) d_Mo_beginRound_117 (by decide) ?_
    refine z_iload_n E 1 d_Mo_beginRound_118 rfl rfl ?_
    refine z_iload_n E 3 d_Mo_beginRound_119 rfl rfl ?_
    refine z_iload_n E 2 d_Mo_beginRound_120 rfl rfl ?_
    refine z_iconst E (v := 1) d_Mo_beginRound_121 (by decide) ?_
    refine z_isub E d_Mo_beginRound_122 ?_
    refine z_callVIp [.int (0 : Int32), .int v1, .int v3, .int (v2 - (1 : Int32))] [zf G 46, .int v3, zf G 55] E (p_Mo_place G σ (0 : Int32) v1 v3 (v2 - (1 : Int32))) c_Mo_162 r_Mo_place rfl zrm rfl (Nat.le_of_ble_eq_true rfl) d_Mo_beginRound_123 ?_
    obtain ⟨h0, h⟩ := h
    refine z_iald E rfl d_Mo_beginRound_126 ⟨h0, ?_⟩
    refine z_goto E d_Mo_beginRound_127 (tgt := 131) (by decide) ?_
    obtain ⟨h0, h⟩ := h
    refine z_iast E rfl d_Mo_beginRound_131 ⟨h0, fun σ2 e => ?_⟩
    replace h := h σ2 e
    refine z_iinc E 3 [1, 2, 3, 0] (v := v3 + 1) (lv' := [(0, zf G 32), (1, .int v1), (2, .int v2), (3, .int (v3 + 1))]) d_Mo_beginRound_132 rfl rfl (by decide) rfl ?_
    refine z_goto E d_Mo_beginRound_135 (tgt := 56) (by decide) ?_
    exact h

set_option maxRecDepth 20000 in
set_option maxHeartbeats 4000000 in
theorem b_Mo_beginRound_166 {G : zG} {X : zX} {post : Option Value → zSt → Prop} (E : zCtx G M_Mo_beginRound (zKm G 2 X post) X) (v1 : Int32) (v2 : Int32) (v3 : Int32) (v4 : Int32) (σ : zSt)
    (h : (((σ 32 0) ≤ v4 → post none σ) ∧ (¬ (σ 32 0) ≤ v4 → ((v3 = (-1000 : Int32) → post none σ) ∧ (¬ v3 = (-1000 : Int32) → (vp_in (12 * v1 + v4) 144 ∧ (((zLk σ v1 v4) = false → zZ G M_Mo_beginRound 2 X post 166 [(0, zf G 32), (1, .int v1), (2, .int v2), (3, .int v3), (4, .int (v4 + 1))] [] σ) ∧ ((zLk σ v1 v4) = true → (∃ P : zSt → Prop, zV G 0 M_Mo_send [zf G 32, .int (0 : Int32), .int v1, .int v4, .int v2, .int v3] σ P ∧ ∀ σ1 : zSt, P σ1 → (vp_in v1 12 ∧ (vp_in v1 12 ∧ ∀ σ2 : zSt, σ2 = zup σ1 36 v1.toNatClampNeg ((σ1 36 v1.toNatClampNeg) + (1 : Int32)) → zZ G M_Mo_beginRound 2 X post 166 [(0, zf G 32), (1, .int v1), (2, .int v2), (3, .int v3), (4, .int (v4 + 1))] [] σ2))))))))))) :
    zZ G M_Mo_beginRound 2 X post 166 [(0, zf G 32), (1, .int v1), (2, .int v2), (3, .int v3), (4, .int v4)] [] σ := by
  refine z_iload E 4 d_Mo_beginRound_166 rfl ?_
  refine z_aload_n E 0 d_Mo_beginRound_168 rfl rfl ?_
  refine z_getI E f_Mo_84 d_Mo_beginRound_169 ?_
  refine z_icmp_ge E d_Mo_beginRound_172 (tgt := 218) (by decide) ⟨fun q => ?_, fun q => ?_⟩
  · replace h := h.1 q
    exact z_return E rfl d_Mo_beginRound_218 h
  · replace h := h.2 q
    refine z_iload_n E 3 d_Mo_beginRound_175 rfl rfl ?_
    refine z_sipush E (v := -1000) d_Mo_beginRound_176 (by decide) ?_
    refine z_icmp_eq E d_Mo_beginRound_179 (tgt := 218) (by decide) ⟨fun q => ?_, fun q => ?_⟩
    · replace h := h.1 q
      exact z_return E rfl d_Mo_beginRound_218 h
    · replace h := h.2 q
      refine z_aload_n E 0 d_Mo_beginRound_182 rfl rfl ?_
      refine z_iload_n E 1 d_Mo_beginRound_183 rfl rfl ?_
      refine z_iload E 4 d_Mo_beginRound_184 rfl ?_
      obtain ⟨h0, h⟩ := h
      refine z_callVBp [.int v1, .int v4] [] E (p_Mo_isLink G σ v1 v4 h0) c_Mo_99 r_Mo_isLink rfl zrm rfl (Nat.le_of_ble_eq_true rfl) d_Mo_beginRound_186 ?_
      refine z_ifz_eq E d_Mo_beginRound_189 (tgt := 212) (by decide) ⟨fun q => ?_, fun q => ?_⟩
      · replace h := h.1 q
        refine z_iinc E 4 [1, 2, 3, 4, 0] (v := v4 + 1) (lv' := [(0, zf G 32), (1, .int v1), (2, .int v2), (3, .int v3), (4, .int (v4 + 1))]) d_Mo_beginRound_212 rfl rfl (by decide) rfl ?_
        refine z_goto E d_Mo_beginRound_215 (tgt := 166) (by decide) ?_
        exact h
      · replace h := h.2 q
        refine z_aload_n E 0 d_Mo_beginRound_192 rfl rfl ?_
        refine z_iconst E (v := 0) d_Mo_beginRound_193 (by decide) ?_
        refine z_iload_n E 1 d_Mo_beginRound_194 rfl rfl ?_
        refine z_iload E 4 d_Mo_beginRound_195 rfl ?_
        refine z_iload_n E 2 d_Mo_beginRound_197 rfl rfl ?_
        refine z_iload_n E 3 d_Mo_beginRound_198 rfl rfl ?_
        obtain ⟨P, hM, h⟩ := h
        refine z_callVV [.int (0 : Int32), .int v1, .int v4, .int v2, .int v3] [] E hM c_Mo_158 r_Mo_send rfl zrm rfl (Nat.le_of_ble_eq_true rfl) d_Mo_beginRound_199 (fun σ1 hp => ?_)
        replace h := h σ1 hp
        refine z_aload_n E 0 d_Mo_beginRound_202 rfl rfl ?_
        refine z_getR E f_Mo_19 d_Mo_beginRound_203 ?_
        refine z_iload_n E 1 d_Mo_beginRound_206 rfl rfl ?_
        refine z_dup2 E d_Mo_beginRound_207 rfl rfl ?_
        obtain ⟨h0, h⟩ := h
        refine z_iald E rfl d_Mo_beginRound_208 ⟨h0, ?_⟩
        refine z_iconst E (v := 1) d_Mo_beginRound_209 (by decide) ?_
        refine z_iadd E d_Mo_beginRound_210 ?_
        obtain ⟨h0, h⟩ := h
        refine z_iast E rfl d_Mo_beginRound_211 ⟨h0, fun σ2 e => ?_⟩
        replace h := h σ2 e
        refine z_iinc E 4 [1, 2, 3, 4, 0] (v := v4 + 1) (lv' := [(0, zf G 32), (1, .int v1), (2, .int v2), (3, .int v3), (4, .int (v4 + 1))]) d_Mo_beginRound_212 rfl rfl (by decide) rfl ?_
        refine z_goto E d_Mo_beginRound_215 (tgt := 166) (by decide) ?_
        exact h

set_option maxRecDepth 20000 in
set_option maxHeartbeats 4000000 in
theorem b_Mo_becomeFirm_0 {G : zG} {X : zX} {post : Option Value → zSt → Prop} (E : zCtx G M_Mo_becomeFirm (zKm G 2 X post) X) (v1 : Int32) (σ : zSt)
    (h : (vp_in v1 12 ∧ ∀ σ1 : zSt, σ1 = zup σ 39 v1.toNatClampNeg (1 : Int32) → (vp_in v1 12 ∧ (∃ P : zSt → Prop, zV G 1 M_Mo_toLower [zf G 32, .int (5 : Int32), .int v1, .int (σ1 35 v1.toNatClampNeg)] σ1 P ∧ ∀ σ2 : zSt, P σ2 → zZ G M_Mo_becomeFirm 2 X post 21 [(0, zf G 32), (1, .int v1), (2, .int (0 : Int32))] [] σ2)))) :
    zZ G M_Mo_becomeFirm 2 X post 0 [(0, zf G 32), (1, .int v1)] [] σ := by
  refine z_aload_n E 0 d_Mo_becomeFirm_0 rfl rfl ?_
  refine z_getR E f_Mo_29 d_Mo_becomeFirm_1 ?_
  refine z_iload_n E 1 d_Mo_becomeFirm_4 rfl rfl ?_
  refine z_iconst E (v := 1) d_Mo_becomeFirm_5 (by decide) ?_
  obtain ⟨h0, h⟩ := h
  refine z_zast E rfl d_Mo_becomeFirm_6 (y := (1 : Int32)) rfl ⟨h0, fun σ1 e => ?_⟩
  replace h := h σ1 e
  refine z_aload_n E 0 d_Mo_becomeFirm_7 rfl rfl ?_
  refine z_iconst E (v := 5) d_Mo_becomeFirm_8 (by decide) ?_
  refine z_iload_n E 1 d_Mo_becomeFirm_9 rfl rfl ?_
  refine z_aload_n E 0 d_Mo_becomeFirm_10 rfl rfl ?_
  refine z_getR E f_Mo_16 d_Mo_becomeFirm_11 ?_
  refine z_iload_n E 1 d_Mo_becomeFirm_14 rfl rfl ?_
  obtain ⟨h0, h⟩ := h
  refine z_iald E rfl d_Mo_becomeFirm_15 ⟨h0, ?_⟩
  obtain ⟨P, hM, h⟩ := h
  refine z_callVV [.int (5 : Int32), .int v1, .int (σ1 35 v1.toNatClampNeg)] [] E hM c_Mo_166 r_Mo_toLower rfl zrm rfl (Nat.le_of_ble_eq_true rfl) d_Mo_becomeFirm_16 (fun σ2 hp => ?_)
  replace h := h σ2 hp
  refine z_iconst E (v := 0) d_Mo_becomeFirm_19 (by decide) ?_
  refine z_istore_n E [1, 2, 0] (lv' := [(0, zf G 32), (1, .int v1), (2, .int (0 : Int32))]) d_Mo_becomeFirm_20 rfl (by decide) rfl ?_
  exact h

set_option maxRecDepth 20000 in
set_option maxHeartbeats 4000000 in
theorem b_Mo_becomeFirm_21 {G : zG} {X : zX} {post : Option Value → zSt → Prop} (E : zCtx G M_Mo_becomeFirm (zKm G 2 X post) X) (v1 : Int32) (v2 : Int32) (σ : zSt)
    (h : (((σ 32 0) ≤ v2 → post none σ) ∧ (¬ (σ 32 0) ≤ v2 → (vp_in (((12 : Int32) * v1) + v2) 144 ∧ (((σ 44 (((12 : Int32) * v1) + v2).toNatClampNeg) = 0 → zZ G M_Mo_becomeFirm 2 X post 21 [(0, zf G 32), (1, .int v1), (2, .int (v2 + 1))] [] σ) ∧ (¬ (σ 44 (((12 : Int32) * v1) + v2).toNatClampNeg) = 0 → (vp_in v1 12 ∧ (∃ P : zSt → Prop, zV G 0 M_Mo_send [zf G 32, .int (2 : Int32), .int v1, .int v2, .int (σ 35 v1.toNatClampNeg), .int (0 : Int32)] σ P ∧ ∀ σ1 : zSt, P σ1 → zZ G M_Mo_becomeFirm 2 X post 21 [(0, zf G 32), (1, .int v1), (2, .int (v2 + 1))] [] σ1)))))))) :
    zZ G M_Mo_becomeFirm 2 X post 21 [(0, zf G 32), (1, .int v1), (2, .int v2)] [] σ := by
  refine z_iload_n E 2 d_Mo_becomeFirm_21 rfl rfl ?_
  refine z_aload_n E 0 d_Mo_becomeFirm_22 rfl rfl ?_
  refine z_getI E f_Mo_84 d_Mo_becomeFirm_23 ?_
  refine z_icmp_ge E d_Mo_becomeFirm_26 (tgt := 63) (by decide) ⟨fun q => ?_, fun q => ?_⟩
  · replace h := h.1 q
    exact z_return E rfl d_Mo_becomeFirm_63 h
  · replace h := h.2 q
    refine z_aload_n E 0 d_Mo_becomeFirm_29 rfl rfl ?_
    refine z_getR E f_Mo_44 d_Mo_becomeFirm_30 ?_
    refine z_bipush E (v := 12) d_Mo_becomeFirm_33 (by decide) ?_
    refine z_iload_n E 1 d_Mo_becomeFirm_35 rfl rfl ?_
    refine z_imul E d_Mo_becomeFirm_36 ?_
    refine z_iload_n E 2 d_Mo_becomeFirm_37 rfl rfl ?_
    refine z_iadd E d_Mo_becomeFirm_38 ?_
    obtain ⟨h0, h⟩ := h
    refine z_zald E rfl d_Mo_becomeFirm_39 ⟨h0, ?_⟩
    refine z_if_eq E d_Mo_becomeFirm_40 (tgt := 57) (by decide) ⟨fun q => ?_, fun q => ?_⟩
    · replace h := h.1 q
      refine z_iinc E 2 [1, 2, 0] (v := v2 + 1) (lv' := [(0, zf G 32), (1, .int v1), (2, .int (v2 + 1))]) d_Mo_becomeFirm_57 rfl rfl (by decide) rfl ?_
      refine z_goto E d_Mo_becomeFirm_60 (tgt := 21) (by decide) ?_
      exact h
    · replace h := h.2 q
      refine z_aload_n E 0 d_Mo_becomeFirm_43 rfl rfl ?_
      refine z_iconst E (v := 2) d_Mo_becomeFirm_44 (by decide) ?_
      refine z_iload_n E 1 d_Mo_becomeFirm_45 rfl rfl ?_
      refine z_iload_n E 2 d_Mo_becomeFirm_46 rfl rfl ?_
      refine z_aload_n E 0 d_Mo_becomeFirm_47 rfl rfl ?_
      refine z_getR E f_Mo_16 d_Mo_becomeFirm_48 ?_
      refine z_iload_n E 1 d_Mo_becomeFirm_51 rfl rfl ?_
      obtain ⟨h0, h⟩ := h
      refine z_iald E rfl d_Mo_becomeFirm_52 ⟨h0, ?_⟩
      refine z_iconst E (v := 0) d_Mo_becomeFirm_53 (by decide) ?_
      obtain ⟨P, hM, h⟩ := h
      refine z_callVV [.int (2 : Int32), .int v1, .int v2, .int (σ 35 v1.toNatClampNeg), .int (0 : Int32)] [] E hM c_Mo_158 r_Mo_send rfl zrm rfl (Nat.le_of_ble_eq_true rfl) d_Mo_becomeFirm_54 (fun σ1 hp => ?_)
      replace h := h σ1 hp
      refine z_iinc E 2 [1, 2, 0] (v := v2 + 1) (lv' := [(0, zf G 32), (1, .int v1), (2, .int (v2 + 1))]) d_Mo_becomeFirm_57 rfl rfl (by decide) rfl ?_
      refine z_goto E d_Mo_becomeFirm_60 (tgt := 21) (by decide) ?_
      exact h

set_option maxRecDepth 20000 in
set_option maxHeartbeats 4000000 in
theorem b_Mo_goOn_0 {G : zG} {X : zX} {post : Option Value → zSt → Prop} (E : zCtx G M_Mo_goOn (zKm G 3 X post) X) (v1 : Int32) (σ : zSt)
    (h : zZ G M_Mo_goOn 3 X post 2 [(0, zf G 32), (1, .int v1), (2, .int (1 : Int32))] [] σ) :
    zZ G M_Mo_goOn 3 X post 0 [(0, zf G 32), (1, .int v1)] [] σ := by
  refine z_iconst E (v := 1) d_Mo_goOn_0 (by decide) ?_
  refine z_istore_n E [1, 2, 0] (lv' := [(0, zf G 32), (1, .int v1), (2, .int (1 : Int32))]) d_Mo_goOn_1 rfl (by decide) rfl ?_
  exact h

set_option maxRecDepth 20000 in
set_option maxHeartbeats 4000000 in
theorem b_Mo_goOn_2 {G : zG} {X : zX} {post : Option Value → zSt → Prop} (E : zCtx G M_Mo_goOn (zKm G 3 X post) X) (v1 : Int32) (v2 : Int32) (σ : zSt)
    (h : ((v2 = 0 → post none σ) ∧ (¬ v2 = 0 → (vp_in v1 12 ∧ ((¬ (σ 37 v1.toNatClampNeg) = 0 → zZ G M_Mo_goOn 3 X post 79 [(0, zf G 32), (1, .int v1), (2, .int (0 : Int32))] [] σ) ∧ ((σ 37 v1.toNatClampNeg) = 0 → (vp_in v1 12 ∧ ((¬ (σ 36 v1.toNatClampNeg) = 0 → zZ G M_Mo_goOn 3 X post 79 [(0, zf G 32), (1, .int v1), (2, .int (0 : Int32))] [] σ) ∧ ((σ 36 v1.toNatClampNeg) = 0 → (vp_in v1 12 ∧ ∀ σ1 : zSt, σ1 = zup σ 37 v1.toNatClampNeg (1 : Int32) → zZ G M_Mo_goOn 3 X post 35 [(0, zf G 32), (1, .int v1), (2, .int (0 : Int32)), (3, .int (0 : Int32))] [] σ1)))))))))) :
    zZ G M_Mo_goOn 3 X post 2 [(0, zf G 32), (1, .int v1), (2, .int v2)] [] σ := by
  refine z_iload_n E 2 d_Mo_goOn_2 rfl rfl ?_
  refine z_if_eq E d_Mo_goOn_3 (tgt := 326) (by decide) ⟨fun q => ?_, fun q => ?_⟩
  · replace h := h.1 q
    exact z_return E rfl d_Mo_goOn_326 h
  · replace h := h.2 q
    refine z_iconst E (v := 0) d_Mo_goOn_6 (by decide) ?_
    refine z_istore_n E [1, 2, 0] (lv' := [(0, zf G 32), (1, .int v1), (2, .int (0 : Int32))]) d_Mo_goOn_7 rfl (by decide) rfl ?_
    refine z_aload_n E 0 d_Mo_goOn_8 rfl rfl ?_
    refine z_getR E f_Mo_22 d_Mo_goOn_9 ?_
    refine z_iload_n E 1 d_Mo_goOn_12 rfl rfl ?_
    obtain ⟨h0, h⟩ := h
    refine z_zald E rfl d_Mo_goOn_13 ⟨h0, ?_⟩
    refine z_if_ne E d_Mo_goOn_14 (tgt := 79) (by decide) ⟨fun q => ?_, fun q => ?_⟩
    · replace h := h.1 q
      exact h
    · replace h := h.2 q
      refine z_aload_n E 0 d_Mo_goOn_17 rfl rfl ?_
      refine z_getR E f_Mo_19 d_Mo_goOn_18 ?_
      refine z_iload_n E 1 d_Mo_goOn_21 rfl rfl ?_
      obtain ⟨h0, h⟩ := h
      refine z_iald E rfl d_Mo_goOn_22 ⟨h0, ?_⟩
      refine z_if_ne E d_Mo_goOn_23 (tgt := 79) (by decide) ⟨fun q => ?_, fun q => ?_⟩
      · replace h := h.1 q
        exact h
      · replace h := h.2 q
        refine z_aload_n E 0 d_Mo_goOn_26 rfl rfl ?_
        refine z_getR E f_Mo_22 d_Mo_goOn_27 ?_
        refine z_iload_n E 1 d_Mo_goOn_30 rfl rfl ?_
        refine z_iconst E (v := 1) d_Mo_goOn_31 (by decide) ?_
        obtain ⟨h0, h⟩ := h
        refine z_zast E rfl d_Mo_goOn_32 (y := (1 : Int32)) rfl ⟨h0, fun σ1 e => ?_⟩
        replace h := h σ1 e
        refine z_iconst E (v := 0) d_Mo_goOn_33 (by decide) ?_
        refine z_istore_n E [1, 2, 3, 0] (lv' := [(0, zf G 32), (1, .int v1), (2, .int (0 : Int32)), (3, .int (0 : Int32))]) d_Mo_goOn_34 rfl (by decide) rfl ?_
        exact h

set_option maxRecDepth 20000 in
set_option maxHeartbeats 4000000 in
theorem b_Mo_goOn_35 {G : zG} {X : zX} {post : Option Value → zSt → Prop} (E : zCtx G M_Mo_goOn (zKm G 3 X post) X) (v1 : Int32) (v2 : Int32) (v3 : Int32) (σ : zSt)
    (h : (((σ 32 0) ≤ v3 → zZ G M_Mo_goOn 3 X post 79 [(0, zf G 32), (1, .int v1), (2, .int v2)] [] σ) ∧ (¬ (σ 32 0) ≤ v3 → ((¬ (σ 32 6) = 0 → zZ G M_Mo_goOn 3 X post 35 [(0, zf G 32), (1, .int v1), (2, .int v2), (3, .int (v3 + 1))] [] σ) ∧ ((σ 32 6) = 0 → (vp_in (12 * v1 + v3) 144 ∧ (((zLk σ v1 v3) = false → zZ G M_Mo_goOn 3 X post 35 [(0, zf G 32), (1, .int v1), (2, .int v2), (3, .int (v3 + 1))] [] σ) ∧ ((zLk σ v1 v3) = true → (vp_in v1 12 ∧ (∃ P : zSt → Prop, zV G 0 M_Mo_send [zf G 32, .int (2 : Int32), .int v1, .int v3, .int (σ 35 v1.toNatClampNeg), .int (0 : Int32)] σ P ∧ ∀ σ1 : zSt, P σ1 → zZ G M_Mo_goOn 3 X post 35 [(0, zf G 32), (1, .int v1), (2, .int v2), (3, .int (v3 + 1))] [] σ1)))))))))) :
    zZ G M_Mo_goOn 3 X post 35 [(0, zf G 32), (1, .int v1), (2, .int v2), (3, .int v3)] [] σ := by
  refine z_iload_n E 3 d_Mo_goOn_35 rfl rfl ?_
  refine z_aload_n E 0 d_Mo_goOn_36 rfl rfl ?_
  refine z_getI E f_Mo_84 d_Mo_goOn_37 ?_
  refine z_icmp_ge E d_Mo_goOn_40 (tgt := 79) (by decide) ⟨fun q => ?_, fun q => ?_⟩
  · replace h := h.1 q
    refine zZ.sub [0, 1, 2] (lv' := [(0, zf G 32), (1, .int v1), (2, .int v2)]) rfl ?_
    exact h
  · replace h := h.2 q
    refine z_aload_n E 0 d_Mo_goOn_43 rfl rfl ?_
    refine z_getI E f_Mo_152 d_Mo_goOn_44 ?_
    refine z_if_ne E d_Mo_goOn_47 (tgt := 73) (by decide) ⟨fun q => ?_, fun q => ?_⟩
    · replace h := h.1 q
      refine z_iinc E 3 [1, 2, 3, 0] (v := v3 + 1) (lv' := [(0, zf G 32), (1, .int v1), (2, .int v2), (3, .int (v3 + 1))]) d_Mo_goOn_73 rfl rfl (by decide) rfl ?_
      refine z_goto E d_Mo_goOn_76 (tgt := 35) (by decide) ?_
      exact h
    · replace h := h.2 q
      refine z_aload_n E 0 d_Mo_goOn_50 rfl rfl ?_
      refine z_iload_n E 1 d_Mo_goOn_51 rfl rfl ?_
      refine z_iload_n E 3 d_Mo_goOn_52 rfl rfl ?_
      obtain ⟨h0, h⟩ := h
      refine z_callVBp [.int v1, .int v3] [] E (p_Mo_isLink G σ v1 v3 h0) c_Mo_99 r_Mo_isLink rfl zrm rfl (Nat.le_of_ble_eq_true rfl) d_Mo_goOn_53 ?_
      refine z_ifz_eq E d_Mo_goOn_56 (tgt := 73) (by decide) ⟨fun q => ?_, fun q => ?_⟩
      · replace h := h.1 q
        refine z_iinc E 3 [1, 2, 3, 0] (v := v3 + 1) (lv' := [(0, zf G 32), (1, .int v1), (2, .int v2), (3, .int (v3 + 1))]) d_Mo_goOn_73 rfl rfl (by decide) rfl ?_
        refine z_goto E d_Mo_goOn_76 (tgt := 35) (by decide) ?_
        exact h
      · replace h := h.2 q
        refine z_aload_n E 0 d_Mo_goOn_59 rfl rfl ?_
        refine z_iconst E (v := 2) d_Mo_goOn_60 (by decide) ?_
        refine z_iload_n E 1 d_Mo_goOn_61 rfl rfl ?_
        refine z_iload_n E 3 d_Mo_goOn_62 rfl rfl ?_
        refine z_aload_n E 0 d_Mo_goOn_63 rfl rfl ?_
        refine z_getR E f_Mo_16 d_Mo_goOn_64 ?_
        refine z_iload_n E 1 d_Mo_goOn_67 rfl rfl ?_
        obtain ⟨h0, h⟩ := h
        refine z_iald E rfl d_Mo_goOn_68 ⟨h0, ?_⟩
        refine z_iconst E (v := 0) d_Mo_goOn_69 (by decide) ?_
        obtain ⟨P, hM, h⟩ := h
        refine z_callVV [.int (2 : Int32), .int v1, .int v3, .int (σ 35 v1.toNatClampNeg), .int (0 : Int32)] [] E hM c_Mo_158 r_Mo_send rfl zrm rfl (Nat.le_of_ble_eq_true rfl) d_Mo_goOn_70 (fun σ1 hp => ?_)
        replace h := h σ1 hp
        refine z_iinc E 3 [1, 2, 3, 0] (v := v3 + 1) (lv' := [(0, zf G 32), (1, .int v1), (2, .int v2), (3, .int (v3 + 1))]) d_Mo_goOn_73 rfl rfl (by decide) rfl ?_
        refine z_goto E d_Mo_goOn_76 (tgt := 35) (by decide) ?_
        exact h

set_option maxRecDepth 20000 in
set_option maxHeartbeats 4000000 in
theorem b_Mo_goOn_79 {G : zG} {X : zX} {post : Option Value → zSt → Prop} (E : zCtx G M_Mo_goOn (zKm G 3 X post) X) (v1 : Int32) (v2 : Int32) (σ : zSt)
    (h : ((¬ (σ 32 6) = 0 → (vp_in v1 12 ∧ (((σ 37 v1.toNatClampNeg) = 0 → zZ G M_Mo_goOn 3 X post 202 [(0, zf G 32), (1, .int v1), (2, .int v2), (3, .int (0 : Int32))] [] σ) ∧ (¬ (σ 37 v1.toNatClampNeg) = 0 → (vp_in v1 12 ∧ ((¬ (σ 38 v1.toNatClampNeg) = 0 → zZ G M_Mo_goOn 3 X post 202 [(0, zf G 32), (1, .int v1), (2, .int v2), (3, .int (0 : Int32))] [] σ) ∧ ((σ 38 v1.toNatClampNeg) = 0 → (∃ P : Bool → zSt → Prop, zB G 1 M_Mo_hasAll [zf G 32, .int (2 : Int32), .int v1, .int (1 : Int32)] σ P ∧ ∀ (b2 : Bool) (σ1 : zSt), P b2 σ1 → ((b2 = false → zZ G M_Mo_goOn 3 X post 202 [(0, zf G 32), (1, .int v1), (2, .int v2), (3, .int (0 : Int32))] [] σ1) ∧ (b2 = true → (vp_in v1 12 ∧ ∀ σ3 : zSt, σ3 = zup σ1 38 v1.toNatClampNeg (1 : Int32) → (vp_in v1 12 ∧ (((σ3 41 v1.toNatClampNeg) = (-2 : Int32) → ((¬ (σ3 32 6) = (1 : Int32) → (∃ P : zSt → Prop, zV G 2 M_Mo_becomeFirm [zf G 32, .int v1] σ3 P ∧ ∀ σ4 : zSt, P σ4 → zZ G M_Mo_goOn 3 X post 202 [(0, zf G 32), (1, .int v1), (2, .int v2), (3, .int (0 : Int32))] [] σ4)) ∧ ((σ3 32 6) = (1 : Int32) → zZ G M_Mo_goOn 3 X post 202 [(0, zf G 32), (1, .int v1), (2, .int v2), (3, .int (1 : Int32))] [] σ3))) ∧ (¬ (σ3 41 v1.toNatClampNeg) = (-2 : Int32) → (vp_in v1 12 ∧ (vp_in v1 12 ∧ (∃ P : zSt → Prop, zV G 0 M_Mo_send [zf G 32, .int (3 : Int32), .int v1, .int (σ3 41 v1.toNatClampNeg), .int (σ3 35 v1.toNatClampNeg), .int (0 : Int32)] σ3 P ∧ ∀ σ5 : zSt, P σ5 → zZ G M_Mo_goOn 3 X post 202 [(0, zf G 32), (1, .int v1), (2, .int v2), (3, .int (0 : Int32))] [] σ5))))))))))))))))) ∧ ((σ 32 6) = 0 → (vp_in v1 12 ∧ (((σ 37 v1.toNatClampNeg) = 0 → zZ G M_Mo_goOn 3 X post 202 [(0, zf G 32), (1, .int v1), (2, .int v2), (3, .int (0 : Int32))] [] σ) ∧ (¬ (σ 37 v1.toNatClampNeg) = 0 → (∃ P : Bool → zSt → Prop, zB G 1 M_Mo_hasAll [zf G 32, .int (1 : Int32), .int v1, .int (0 : Int32)] σ P ∧ ∀ (b7 : Bool) (σ6 : zSt), P b7 σ6 → ((b7 = false → zZ G M_Mo_goOn 3 X post 202 [(0, zf G 32), (1, .int v1), (2, .int v2), (3, .int (0 : Int32))] [] σ6) ∧ (b7 = true → zZ G M_Mo_goOn 3 X post 202 [(0, zf G 32), (1, .int v1), (2, .int v2), (3, .int (1 : Int32))] [] σ6))))))))) :
    zZ G M_Mo_goOn 3 X post 79 [(0, zf G 32), (1, .int v1), (2, .int v2)] [] σ := by
  refine z_iconst E (v := 0) d_Mo_goOn_79 (by decide) ?_
  refine z_istore_n E [1, 2, 3, 0] (lv' := [(0, zf G 32), (1, .int v1), (2, .int v2), (3, .int (0 : Int32))]) d_Mo_goOn_80 rfl (by decide) rfl ?_
  refine z_aload_n E 0 d_Mo_goOn_81 rfl rfl ?_
  refine z_getI E f_Mo_152 d_Mo_goOn_82 ?_
  refine z_if_ne E d_Mo_goOn_85 (tgt := 116) (by decide) ⟨fun q => ?_, fun q => ?_⟩
  · replace h := h.1 q
    refine z_aload_n E 0 d_Mo_goOn_116 rfl rfl ?_
    refine z_getR E f_Mo_22 d_Mo_goOn_117 ?_
    refine z_iload_n E 1 d_Mo_goOn_120 rfl rfl ?_
    obtain ⟨h0, h⟩ := h
    refine z_zald E rfl d_Mo_goOn_121 ⟨h0, ?_⟩
    refine z_if_eq E d_Mo_goOn_122 (tgt := 202) (by decide) ⟨fun q => ?_, fun q => ?_⟩
    · replace h := h.1 q
      exact h
    · replace h := h.2 q
      refine z_aload_n E 0 d_Mo_goOn_125 rfl rfl ?_
      refine z_getR E f_Mo_26 d_Mo_goOn_126 ?_
      refine z_iload_n E 1 d_Mo_goOn_129 rfl rfl ?_
      obtain ⟨h0, h⟩ := h
      refine z_zald E rfl d_Mo_goOn_130 ⟨h0, ?_⟩
      refine z_if_ne E d_Mo_goOn_131 (tgt := 202) (by decide) ⟨fun q => ?_, fun q => ?_⟩
      · replace h := h.1 q
        exact h
      · replace h := h.2 q
        refine z_aload_n E 0 d_Mo_goOn_134 rfl rfl ?_
        refine z_iconst E (v := 2) d_Mo_goOn_135 (by decide) ?_
        refine z_iload_n E 1 d_Mo_goOn_136 rfl rfl ?_
        refine z_iconst E (v := 1) d_Mo_goOn_137 (by decide) ?_
        obtain ⟨P, hM, h⟩ := h
        refine z_callVB [.int (2 : Int32), .int v1, .int (1 : Int32)] [] E hM c_Mo_170 r_Mo_hasAll rfl zrm rfl (Nat.le_of_ble_eq_true rfl) d_Mo_goOn_138 (fun b2 σ1 hp => ?_)
        replace h := h b2 σ1 hp
        refine z_ifz_eq E d_Mo_goOn_141 (tgt := 202) (by decide) ⟨fun q => ?_, fun q => ?_⟩
        · replace h := h.1 q
          exact h
        · replace h := h.2 q
          refine z_aload_n E 0 d_Mo_goOn_144 rfl rfl ?_
          refine z_getR E f_Mo_26 d_Mo_goOn_145 ?_
          refine z_iload_n E 1 d_Mo_goOn_148 rfl rfl ?_
          refine z_iconst E (v := 1) d_Mo_goOn_149 (by decide) ?_
          obtain ⟨h0, h⟩ := h
          refine z_zast E rfl d_Mo_goOn_150 (y := (1 : Int32)) rfl ⟨h0, fun σ3 e => ?_⟩
          replace h := h σ3 e
          refine z_aload_n E 0 d_Mo_goOn_151 rfl rfl ?_
          refine z_getR E f_Mo_35 d_Mo_goOn_152 ?_
          refine z_iload_n E 1 d_Mo_goOn_155 rfl rfl ?_
          obtain ⟨h0, h⟩ := h
          refine z_iald E rfl d_Mo_goOn_156 ⟨h0, ?_⟩
          refine z_bipush E (v := -2) d_Mo_goOn_157 (by decide) ?_
          refine z_icmp_eq E d_Mo_goOn_159 (tgt := 184) (by decide) ⟨fun q => ?_, fun q => ?_⟩
          · replace h := h.1 q
            refine z_aload_n E 0 d_Mo_goOn_184 rfl rfl ?_
            refine z_getI E f_Mo_152 d_Mo_goOn_185 ?_
            refine z_iconst E (v := 1) d_Mo_goOn_188 (by decide) ?_
            refine z_icmp_ne E d_Mo_goOn_189 (tgt := 197) (by decide) ⟨fun q => ?_, fun q => ?_⟩
            · replace h := h.1 q
              refine z_aload_n E 0 d_Mo_goOn_197 rfl rfl ?_
              refine z_iload_n E 1 d_Mo_goOn_198 rfl rfl ?_
              obtain ⟨P, hM, h⟩ := h
              refine z_callVV [.int v1] [] E hM c_Mo_174 r_Mo_becomeFirm rfl zrm rfl (Nat.le_of_ble_eq_true rfl) d_Mo_goOn_199 (fun σ4 hp => ?_)
              replace h := h σ4 hp
              exact h
            · replace h := h.2 q
              refine z_iconst E (v := 1) d_Mo_goOn_192 (by decide) ?_
              refine z_istore_n E [1, 2, 3, 0] (lv' := [(0, zf G 32), (1, .int v1), (2, .int v2), (3, .int (1 : Int32))]) d_Mo_goOn_193 rfl (by decide) rfl ?_
              refine z_goto E d_Mo_goOn_194 (tgt := 202) (by decide) ?_
              exact h
          · replace h := h.2 q
            refine z_aload_n E 0 d_Mo_goOn_162 rfl rfl ?_
            refine z_iconst E (v := 3) d_Mo_goOn_163 (by decide) ?_
            refine z_iload_n E 1 d_Mo_goOn_164 rfl rfl ?_
            refine z_aload_n E 0 d_Mo_goOn_165 rfl rfl ?_
            refine z_getR E f_Mo_35 d_Mo_goOn_166 ?_
            refine z_iload_n E 1 d_Mo_goOn_169 rfl rfl ?_
            obtain ⟨h0, h⟩ := h
            refine z_iald E rfl d_Mo_goOn_170 ⟨h0, ?_⟩
            refine z_aload_n E 0 d_Mo_goOn_171 rfl rfl ?_
            refine z_getR E f_Mo_16 d_Mo_goOn_172 ?_
            refine z_iload_n E 1 d_Mo_goOn_175 rfl rfl ?_
            obtain ⟨h0, h⟩ := h
            refine z_iald E rfl d_Mo_goOn_176 ⟨h0, ?_⟩
            refine z_iconst E (v := 0) d_Mo_goOn_177 (by decide) ?_
            obtain ⟨P, hM, h⟩ := h
            refine z_callVV [.int (3 : Int32), .int v1, .int (σ3 41 v1.toNatClampNeg), .int (σ3 35 v1.toNatClampNeg), .int (0 : Int32)] [] E hM c_Mo_158 r_Mo_send rfl zrm rfl (Nat.le_of_ble_eq_true rfl) d_Mo_goOn_178 (fun σ5 hp => ?_)
            replace h := h σ5 hp
            refine z_goto E d_Mo_goOn_181 (tgt := 202) (by decide) ?_
            exact h
  · replace h := h.2 q
    refine z_aload_n E 0 d_Mo_goOn_88 rfl rfl ?_
    refine z_getR E f_Mo_22 d_Mo_goOn_89 ?_
    refine z_iload_n E 1 d_Mo_goOn_92 rfl rfl ?_
    obtain ⟨h0, h⟩ := h
    refine z_zald E rfl d_Mo_goOn_93 ⟨h0, ?_⟩
    refine z_if_eq E d_Mo_goOn_94 (tgt := 111) (by decide) ⟨fun q => ?_, fun q => ?_⟩
    · replace h := h.1 q
      refine z_iconst E (v := 0) d_Mo_goOn_111 (by decide) ?_
      refine z_istore_n E [1, 2, 3, 0] (lv' := [(0, zf G 32), (1, .int v1), (2, .int v2), (3, .int (0 : Int32))]) d_Mo_goOn_112 rfl (by decide) rfl ?_
      refine z_goto E d_Mo_goOn_113 (tgt := 202) (by decide) ?_
      exact h
    · replace h := h.2 q
      refine z_aload_n E 0 d_Mo_goOn_97 rfl rfl ?_
      refine z_iconst E (v := 1) d_Mo_goOn_98 (by decide) ?_
      refine z_iload_n E 1 d_Mo_goOn_99 rfl rfl ?_
      refine z_iconst E (v := 0) d_Mo_goOn_100 (by decide) ?_
      obtain ⟨P, hM, h⟩ := h
      refine z_callVB [.int (1 : Int32), .int v1, .int (0 : Int32)] [] E hM c_Mo_170 r_Mo_hasAll rfl zrm rfl (Nat.le_of_ble_eq_true rfl) d_Mo_goOn_101 (fun b7 σ6 hp => ?_)
      replace h := h b7 σ6 hp
      refine z_ifz_eq E d_Mo_goOn_104 (tgt := 111) (by decide) ⟨fun q => ?_, fun q => ?_⟩
      · replace h := h.1 q
        refine z_iconst E (v := 0) d_Mo_goOn_111 (by decide) ?_
        refine z_istore_n E [1, 2, 3, 0] (lv' := [(0, zf G 32), (1, .int v1), (2, .int v2), (3, .int (0 : Int32))]) d_Mo_goOn_112 rfl (by decide) rfl ?_
        refine z_goto E d_Mo_goOn_113 (tgt := 202) (by decide) ?_
        exact h
      · replace h := h.2 q
        refine z_iconst E (v := 1) d_Mo_goOn_107 (by decide) ?_
        refine z_goto E d_Mo_goOn_108 (tgt := 112) (by decide) ?_
        refine z_istore_n E [1, 2, 3, 0] (lv' := [(0, zf G 32), (1, .int v1), (2, .int v2), (3, .int (1 : Int32))]) d_Mo_goOn_112 rfl (by decide) rfl ?_
        refine z_goto E d_Mo_goOn_113 (tgt := 202) (by decide) ?_
        exact h

set_option maxRecDepth 20000 in
set_option maxHeartbeats 4000000 in
theorem b_Mo_goOn_202 {G : zG} {X : zX} {post : Option Value → zSt → Prop} (E : zCtx G M_Mo_goOn (zKm G 3 X post) X) (v1 : Int32) (v2 : Int32) (v3 : Int32) (σ : zSt)
    (h : ((¬ (σ 32 6) = (2 : Int32) → zZ G M_Mo_goOn 3 X post 291 [(0, zf G 32), (1, .int v1), (2, .int v2), (3, .int v3)] [] σ) ∧ ((σ 32 6) = (2 : Int32) → (vp_in v1 12 ∧ (((σ 39 v1.toNatClampNeg) = 0 → zZ G M_Mo_goOn 3 X post 291 [(0, zf G 32), (1, .int v1), (2, .int v2), (3, .int v3)] [] σ) ∧ (¬ (σ 39 v1.toNatClampNeg) = 0 → (vp_in v1 12 ∧ ((¬ (σ 40 v1.toNatClampNeg) = 0 → zZ G M_Mo_goOn 3 X post 291 [(0, zf G 32), (1, .int v1), (2, .int v2), (3, .int v3)] [] σ) ∧ ((σ 40 v1.toNatClampNeg) = 0 → (∃ P : Bool → zSt → Prop, zB G 1 M_Mo_hasAll [zf G 32, .int (1 : Int32), .int v1, .int (0 : Int32)] σ P ∧ ∀ (b2 : Bool) (σ1 : zSt), P b2 σ1 → ((b2 = false → zZ G M_Mo_goOn 3 X post 291 [(0, zf G 32), (1, .int v1), (2, .int v2), (3, .int v3)] [] σ1) ∧ (b2 = true → (∃ P : Bool → zSt → Prop, zB G 1 M_Mo_hasAll [zf G 32, .int (3 : Int32), .int v1, .int (1 : Int32)] σ1 P ∧ ∀ (b4 : Bool) (σ3 : zSt), P b4 σ3 → ((b4 = false → zZ G M_Mo_goOn 3 X post 291 [(0, zf G 32), (1, .int v1), (2, .int v2), (3, .int v3)] [] σ3) ∧ (b4 = true → (vp_in v1 12 ∧ ∀ σ5 : zSt, σ5 = zup σ3 40 v1.toNatClampNeg (1 : Int32) → (vp_in v1 12 ∧ (((σ5 41 v1.toNatClampNeg) = (-2 : Int32) → zZ G M_Mo_goOn 3 X post 291 [(0, zf G 32), (1, .int v1), (2, .int v2), (3, .int (1 : Int32))] [] σ5) ∧ (¬ (σ5 41 v1.toNatClampNeg) = (-2 : Int32) → (vp_in v1 12 ∧ (vp_in v1 12 ∧ (∃ P : zSt → Prop, zV G 0 M_Mo_send [zf G 32, .int (6 : Int32), .int v1, .int (σ5 41 v1.toNatClampNeg), .int (σ5 35 v1.toNatClampNeg), .int (0 : Int32)] σ5 P ∧ ∀ σ6 : zSt, P σ6 → zZ G M_Mo_goOn 3 X post 291 [(0, zf G 32), (1, .int v1), (2, .int v2), (3, .int v3)] [] σ6)))))))))))))))))))))) :
    zZ G M_Mo_goOn 3 X post 202 [(0, zf G 32), (1, .int v1), (2, .int v2), (3, .int v3)] [] σ := by
  refine z_aload_n E 0 d_Mo_goOn_202 rfl rfl ?_
  refine z_getI E f_Mo_152 d_Mo_goOn_203 ?_
  refine z_iconst E (v := 2) d_Mo_goOn_206 (by decide) ?_
  refine z_icmp_ne E d_Mo_goOn_207 (tgt := 291) (by decide) ⟨fun q => ?_, fun q => ?_⟩
  · replace h := h.1 q
    exact h
  · replace h := h.2 q
    refine z_aload_n E 0 d_Mo_goOn_210 rfl rfl ?_
    refine z_getR E f_Mo_29 d_Mo_goOn_211 ?_
    refine z_iload_n E 1 d_Mo_goOn_214 rfl rfl ?_
    obtain ⟨h0, h⟩ := h
    refine z_zald E rfl d_Mo_goOn_215 ⟨h0, ?_⟩
    refine z_if_eq E d_Mo_goOn_216 (tgt := 291) (by decide) ⟨fun q => ?_, fun q => ?_⟩
    · replace h := h.1 q
      exact h
    · replace h := h.2 q
      refine z_aload_n E 0 d_Mo_goOn_219 rfl rfl ?_
      refine z_getR E f_Mo_32 d_Mo_goOn_220 ?_
      refine z_iload_n E 1 d_Mo_goOn_223 rfl rfl ?_
      obtain ⟨h0, h⟩ := h
      refine z_zald E rfl d_Mo_goOn_224 ⟨h0, ?_⟩
      refine z_if_ne E d_Mo_goOn_225 (tgt := 291) (by decide) ⟨fun q => ?_, fun q => ?_⟩
      · replace h := h.1 q
        exact h
      · replace h := h.2 q
        refine z_aload_n E 0 d_Mo_goOn_228 rfl rfl ?_
        refine z_iconst E (v := 1) d_Mo_goOn_229 (by decide) ?_
        refine z_iload_n E 1 d_Mo_goOn_230 rfl rfl ?_
        refine z_iconst E (v := 0) d_Mo_goOn_231 (by decide) ?_
        obtain ⟨P, hM, h⟩ := h
        refine z_callVB [.int (1 : Int32), .int v1, .int (0 : Int32)] [] E hM c_Mo_170 r_Mo_hasAll rfl zrm rfl (Nat.le_of_ble_eq_true rfl) d_Mo_goOn_232 (fun b2 σ1 hp => ?_)
        replace h := h b2 σ1 hp
        refine z_ifz_eq E d_Mo_goOn_235 (tgt := 291) (by decide) ⟨fun q => ?_, fun q => ?_⟩
        · replace h := h.1 q
          exact h
        · replace h := h.2 q
          refine z_aload_n E 0 d_Mo_goOn_238 rfl rfl ?_
          refine z_iconst E (v := 3) d_Mo_goOn_239 (by decide) ?_
          refine z_iload_n E 1 d_Mo_goOn_240 rfl rfl ?_
          refine z_iconst E (v := 1) d_Mo_goOn_241 (by decide) ?_
          obtain ⟨P, hM, h⟩ := h
          refine z_callVB [.int (3 : Int32), .int v1, .int (1 : Int32)] [] E hM c_Mo_170 r_Mo_hasAll rfl zrm rfl (Nat.le_of_ble_eq_true rfl) d_Mo_goOn_242 (fun b4 σ3 hp => ?_)
          replace h := h b4 σ3 hp
          refine z_ifz_eq E d_Mo_goOn_245 (tgt := 291) (by decide) ⟨fun q => ?_, fun q => ?_⟩
          · replace h := h.1 q
            exact h
          · replace h := h.2 q
            refine z_aload_n E 0 d_Mo_goOn_248 rfl rfl ?_
            refine z_getR E f_Mo_32 d_Mo_goOn_249 ?_
            refine z_iload_n E 1 d_Mo_goOn_252 rfl rfl ?_
            refine z_iconst E (v := 1) d_Mo_goOn_253 (by decide) ?_
            obtain ⟨h0, h⟩ := h
            refine z_zast E rfl d_Mo_goOn_254 (y := (1 : Int32)) rfl ⟨h0, fun σ5 e => ?_⟩
            replace h := h σ5 e
            refine z_aload_n E 0 d_Mo_goOn_255 rfl rfl ?_
            refine z_getR E f_Mo_35 d_Mo_goOn_256 ?_
            refine z_iload_n E 1 d_Mo_goOn_259 rfl rfl ?_
            obtain ⟨h0, h⟩ := h
            refine z_iald E rfl d_Mo_goOn_260 ⟨h0, ?_⟩
            refine z_bipush E (v := -2) d_Mo_goOn_261 (by decide) ?_
            refine z_icmp_eq E d_Mo_goOn_263 (tgt := 289) (by decide) ⟨fun q => ?_, fun q => ?_⟩
            · replace h := h.1 q
              refine z_iconst E (v := 1) d_Mo_goOn_289 (by decide) ?_
              refine z_istore_n E [1, 2, 3, 0] (lv' := [(0, zf G 32), (1, .int v1), (2, .int v2), (3, .int (1 : Int32))]) d_Mo_goOn_290 rfl (by decide) rfl ?_
              exact h
            · replace h := h.2 q
              refine z_aload_n E 0 d_Mo_goOn_266 rfl rfl ?_
              refine z_bipush E (v := 6) d_Mo_goOn_267 (by decide) ?_
              refine z_iload_n E 1 d_Mo_goOn_269 rfl rfl ?_
              refine z_aload_n E 0 d_Mo_goOn_270 rfl rfl ?_
              refine z_getR E f_Mo_35 d_Mo_goOn_271 ?_
              refine z_iload_n E 1 d_Mo_goOn_274 rfl rfl ?_
              obtain ⟨h0, h⟩ := h
              refine z_iald E rfl d_Mo_goOn_275 ⟨h0, ?_⟩
              refine z_aload_n E 0 d_Mo_goOn_276 rfl rfl ?_
              refine z_getR E f_Mo_16 d_Mo_goOn_277 ?_
              refine z_iload_n E 1 d_Mo_goOn_280 rfl rfl ?_
              obtain ⟨h0, h⟩ := h
              refine z_iald E rfl d_Mo_goOn_281 ⟨h0, ?_⟩
              refine z_iconst E (v := 0) d_Mo_goOn_282 (by decide) ?_
              obtain ⟨P, hM, h⟩ := h
              refine z_callVV [.int (6 : Int32), .int v1, .int (σ5 41 v1.toNatClampNeg), .int (σ5 35 v1.toNatClampNeg), .int (0 : Int32)] [] E hM c_Mo_158 r_Mo_send rfl zrm rfl (Nat.le_of_ble_eq_true rfl) d_Mo_goOn_283 (fun σ6 hp => ?_)
              replace h := h σ6 hp
              refine z_goto E d_Mo_goOn_286 (tgt := 291) (by decide) ?_
              exact h

set_option maxRecDepth 20000 in
set_option maxHeartbeats 4000000 in
theorem b_Mo_goOn_291 {G : zG} {X : zX} {post : Option Value → zSt → Prop} (E : zCtx G M_Mo_goOn (zKm G 3 X post) X) (v1 : Int32) (v2 : Int32) (v3 : Int32) (σ : zSt)
    (h : ((v3 = 0 → zZ G M_Mo_goOn 3 X post 2 [(0, zf G 32), (1, .int v1), (2, .int v2)] [] σ) ∧ (¬ v3 = 0 → (vp_in v1 12 ∧ (((σ 32 8) ≤ (σ 35 v1.toNatClampNeg) → zZ G M_Mo_goOn 3 X post 2 [(0, zf G 32), (1, .int v1), (2, .int v2)] [] σ) ∧ (¬ (σ 32 8) ≤ (σ 35 v1.toNatClampNeg) → (vp_in v1 12 ∧ (∃ P : zSt → Prop, zV G 2 M_Mo_beginRound [zf G 32, .int v1, .int ((σ 35 v1.toNatClampNeg) + (1 : Int32))] σ P ∧ ∀ σ1 : zSt, P σ1 → zZ G M_Mo_goOn 3 X post 2 [(0, zf G 32), (1, .int v1), (2, .int (1 : Int32))] [] σ1)))))))) :
    zZ G M_Mo_goOn 3 X post 291 [(0, zf G 32), (1, .int v1), (2, .int v2), (3, .int v3)] [] σ := by
  refine z_iload_n E 3 d_Mo_goOn_291 rfl rfl ?_
  refine z_if_eq E d_Mo_goOn_292 (tgt := 323) (by decide) ⟨fun q => ?_, fun q => ?_⟩
  · replace h := h.1 q
    refine z_goto E d_Mo_goOn_323 (tgt := 2) (by decide) ?_
    refine zZ.sub [0, 1, 2] (lv' := [(0, zf G 32), (1, .int v1), (2, .int v2)]) rfl ?_
    exact h
  · replace h := h.2 q
    refine z_aload_n E 0 d_Mo_goOn_295 rfl rfl ?_
    refine z_getR E f_Mo_16 d_Mo_goOn_296 ?_
    refine z_iload_n E 1 d_Mo_goOn_299 rfl rfl ?_
    obtain ⟨h0, h⟩ := h
    refine z_iald E rfl d_Mo_goOn_300 ⟨h0, ?_⟩
    refine z_aload_n E 0 d_Mo_goOn_301 rfl rfl ?_
    refine z_getI E f_Mo_136 d_Mo_goOn_302 ?_
    refine z_icmp_ge E d_Mo_goOn_305 (tgt := 323) (by decide) ⟨fun q => ?_, fun q => ?_⟩
    · replace h := h.1 q
      refine z_goto E d_Mo_goOn_323 (tgt := 2) (by decide) ?_
      refine zZ.sub [0, 1, 2] (lv' := [(0, zf G 32), (1, .int v1), (2, .int v2)]) rfl ?_
      exact h
    · replace h := h.2 q
      refine z_aload_n E 0 d_Mo_goOn_308 rfl rfl ?_
      refine z_iload_n E 1 d_Mo_goOn_309 rfl rfl ?_
      refine z_aload_n E 0 d_Mo_goOn_310 rfl rfl ?_
      refine z_getR E f_Mo_16 d_Mo_goOn_311 ?_
      refine z_iload_n E 1 d_Mo_goOn_314 rfl rfl ?_
      obtain ⟨h0, h⟩ := h
      refine z_iald E rfl d_Mo_goOn_315 ⟨h0, ?_⟩
      refine z_iconst E (v := 1) d_Mo_goOn_316 (by decide) ?_
      refine z_iadd E d_Mo_goOn_317 ?_
      obtain ⟨P, hM, h⟩ := h
      refine z_callVV [.int v1, .int ((σ 35 v1.toNatClampNeg) + (1 : Int32))] [] E hM c_Mo_178 r_Mo_beginRound rfl zrm rfl (Nat.le_of_ble_eq_true rfl) d_Mo_goOn_318 (fun σ1 hp => ?_)
      replace h := h σ1 hp
      refine z_iconst E (v := 1) d_Mo_goOn_321 (by decide) ?_
      refine z_istore_n E [1, 2, 0] (lv' := [(0, zf G 32), (1, .int v1), (2, .int (1 : Int32))]) d_Mo_goOn_322 rfl (by decide) rfl ?_
      refine z_goto E d_Mo_goOn_323 (tgt := 2) (by decide) ?_
      exact h

