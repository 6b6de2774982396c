set_option maxRecDepth 20000 in
theorem b_Mo_handle_0 {G : zG} {X : zX} {post : Option Value → zSt → Prop} (E : zCtx G M_Mo_handle (zKm G 4 X post) X) (v1 : Int32) (σ : zSt)
    (h : (vp_in ((5 : Int32) * v1) 20000 ∧ (vp_in (((5 : Int32) * v1) + (1 : Int32)) 20000 ∧ (vp_in (((5 : Int32) * v1) + (2 : Int32)) 20000 ∧ (vp_in (((5 : Int32) * v1) + (3 : Int32)) 20000 ∧ (vp_in (((5 : Int32) * v1) + (4 : Int32)) 20000 ∧ zZ G M_Mo_handle 4 X post 61 [(0, zf G 32), (2, .int (σ 51 ((5 : Int32) * v1).toNatClampNeg)), (3, .int (σ 51 (((5 : Int32) * v1) + (1 : Int32)).toNatClampNeg)), (4, .int (σ 51 (((5 : Int32) * v1) + (2 : Int32)).toNatClampNeg)), (5, .int (σ 51 (((5 : Int32) * v1) + (3 : Int32)).toNatClampNeg)), (6, .int (σ 51 (((5 : Int32) * v1) + (4 : Int32)).toNatClampNeg)), (7, .int ((5 : Int32) * v1))] [] σ)))))) :
    zZ G M_Mo_handle 4 X post 0 [(0, zf G 32), (1, .int v1)] [] σ := by
  refine z_aload_n E 0 d_Mo_handle_0 rfl rfl ?_
  refine z_getR E f_Mo_65 d_Mo_handle_1 ?_
  refine z_iconst E (v := 5) d_Mo_handle_4 (by decide) ?_
  refine z_iload_n E 1 d_Mo_handle_5 rfl rfl ?_
  refine z_imul E d_Mo_handle_6 ?_
  obtain ⟨h0, h⟩ := h
  refine z_iald E rfl d_Mo_handle_7 ⟨h0, ?_⟩
  refine z_istore_n E [1, 2, 0] d_Mo_handle_8 rfl (by decide) rfl ?_
  refine z_aload_n E 0 d_Mo_handle_9 rfl rfl ?_
  refine z_getR E f_Mo_65 d_Mo_handle_10 ?_
  refine z_iconst E (v := 5) d_Mo_handle_13 (by decide) ?_
  refine z_iload_n E 1 d_Mo_handle_14 rfl rfl ?_
  refine z_imul E d_Mo_handle_15 ?_
  refine z_iconst E (v := 1) d_Mo_handle_16 (by decide) ?_
  refine z_iadd E d_Mo_handle_17 ?_
  obtain ⟨h0, h⟩ := h
  refine z_iald E rfl d_Mo_handle_18 ⟨h0, ?_⟩
  refine z_istore_n E [1, 2, 3, 0] d_Mo_handle_19 rfl (by decide) rfl ?_
  refine z_aload_n E 0 d_Mo_handle_20 rfl rfl ?_
  refine z_getR E f_Mo_65 d_Mo_handle_21 ?_
  refine z_iconst E (v := 5) d_Mo_handle_24 (by decide) ?_
  refine z_iload_n E 1 d_Mo_handle_25 rfl rfl ?_
  refine z_imul E d_Mo_handle_26 ?_
  refine z_iconst E (v := 2) d_Mo_handle_27 (by decide) ?_
  refine z_iadd E d_Mo_handle_28 ?_
  obtain ⟨h0, h⟩ := h
  refine z_iald E rfl d_Mo_handle_29 ⟨h0, ?_⟩
  refine z_istore E [1, 2, 3, 4, 0] d_Mo_handle_30 (by decide) rfl ?_
  refine z_aload_n E 0 d_Mo_handle_32 rfl rfl ?_
  refine z_getR E f_Mo_65 d_Mo_handle_33 ?_
  refine z_iconst E (v := 5) d_Mo_handle_36 (by decide) ?_
  refine z_iload_n E 1 d_Mo_handle_37 rfl rfl ?_
  refine z_imul E d_Mo_handle_38 ?_
  refine z_iconst E (v := 3) d_Mo_handle_39 (by decide) ?_
  refine z_iadd E d_Mo_handle_40 ?_
  obtain ⟨h0, h⟩ := h
  refine z_iald E rfl d_Mo_handle_41 ⟨h0, ?_⟩
  refine z_istore E [1, 2, 3, 4, 5, 0] d_Mo_handle_42 (by decide) rfl ?_
  refine z_aload_n E 0 d_Mo_handle_44 rfl rfl ?_
  refine z_getR E f_Mo_65 d_Mo_handle_45 ?_
  refine z_iconst E (v := 5) d_Mo_handle_48 (by decide) ?_
  refine z_iload_n E 1 d_Mo_handle_49 rfl rfl ?_
  refine z_imul E d_Mo_handle_50 ?_
  refine z_iconst E (v := 4) d_Mo_handle_51 (by decide) ?_
  refine z_iadd E d_Mo_handle_52 ?_
  obtain ⟨h0, h⟩ := h
  refine z_iald E rfl d_Mo_handle_53 ⟨h0, ?_⟩
  refine z_istore E [1, 2, 3, 4, 5, 6, 0] d_Mo_handle_54 (by decide) rfl ?_
  refine z_iconst E (v := 5) d_Mo_handle_56 (by decide) ?_
  refine z_iload_n E 1 d_Mo_handle_57 rfl rfl ?_
  refine z_imul E d_Mo_handle_58 ?_
  refine z_istore E [1, 3, 4, 5, 6, 7, 0] d_Mo_handle_59 (by decide) rfl ?_
  exact h

set_option maxRecDepth 20000 in
theorem b_Mo_handle_61 {G : zG} {X : zX} {post : Option Value → zSt → Prop} (E : zCtx G M_Mo_handle (zKm G 4 X post) X) (v2 : Int32) (v3 : Int32) (v4 : Int32) (v5 : Int32) (v6 : Int32) (v7 : Int32) (σ : zSt)
    (h : ((((5 : Int32) * (σ 32 27)) ≤ (v7 + (5 : Int32)) → (∀ σ1 : zSt, σ1 = zup σ 32 27 ((σ 32 27) - (1 : Int32)) → ((v2.toInt = 0 → (vp_in ((((0 : Int32) * 12 + v4) * 12 + v3) * 22 + v5) 12672 ∧ ∀ σ2 : zSt, σ2 = zup σ1 45 ((((0 : Int32) * 12 + v4) * 12 + v3) * 22 + v5).toNatClampNeg (1 : Int32) → (vp_in ((((0 : Int32) * 12 + v4) * 12 + v3) * 22 + v5) 3168 ∧ ∀ σ3 : zSt, σ3 = zup σ2 46 ((((0 : Int32) * 12 + v4) * 12 + v3) * 22 + v5).toNatClampNeg v6 → (∃ P : zSt → Prop, zV G 0 M_Mo_send [zf G 32, .int (1 : Int32), .int v4, .int v3, .int v5, .int (0 : Int32)] σ3 P ∧ ∀ σ4 : zSt, P σ4 → post (some (.int v2)) σ4)))) ∧ (v2.toInt = 1 → (vp_in v4 12 ∧ (vp_in v4 12 ∧ ∀ σ5 : zSt, σ5 = zup σ1 36 v4.toNatClampNeg ((σ1 36 v4.toNatClampNeg) - (1 : Int32)) → (∃ P : zSt → Prop, zV G 3 M_Mo_goOn [zf G 32, .int v4] σ5 P ∧ ∀ σ6 : zSt, P σ6 → post (some (.int v2)) σ6)))) ∧ (v2.toInt = 2 → zZ G M_Mo_handle 4 X post 224 [(0, zf G 32), (2, .int v2), (3, .int v3), (4, .int v4), (5, .int v5)] [] σ1) ∧ (v2.toInt = 3 → zZ G M_Mo_handle 4 X post 224 [(0, zf G 32), (2, .int v2), (3, .int v3), (4, .int v4), (5, .int v5)] [] σ1) ∧ (v2.toInt = 4 → (∃ P : zSt → Prop, zV G 2 M_Mo_beginRound [zf G 32, .int v4, .int v5] σ1 P ∧ ∀ σ7 : zSt, P σ7 → (∃ P : zSt → Prop, zV G 3 M_Mo_goOn [zf G 32, .int v4] σ7 P ∧ ∀ σ8 : zSt, P σ8 → post (some (.int v2)) σ8))) ∧ (v2.toInt = 5 → (∃ P : zSt → Prop, zV G 2 M_Mo_becomeFirm [zf G 32, .int v4] σ1 P ∧ ∀ σ9 : zSt, P σ9 → (∃ P : zSt → Prop, zV G 3 M_Mo_goOn [zf G 32, .int v4] σ9 P ∧ ∀ σ10 : zSt, P σ10 → post (some (.int v2)) σ10))) ∧ ((v2.toInt < 0 ∨ 5 < v2.toInt) → zZ G M_Mo_handle 4 X post 224 [(0, zf G 32), (2, .int v2), (3, .int v3), (4, .int v4), (5, .int v5)] [] σ1)))) ∧ (¬ ((5 : Int32) * (σ 32 27)) ≤ (v7 + (5 : Int32)) → (vp_in (v7 + (5 : Int32)) 20000 ∧ (vp_in v7 20000 ∧ ∀ σ11 : zSt, σ11 = zup σ 51 v7.toNatClampNeg (σ 51 (v7 + (5 : Int32)).toNatClampNeg) → zZ G M_Mo_handle 4 X post 61 [(0, zf G 32), (2, .int v2), (3, .int v3), (4, .int v4), (5, .int v5), (6, .int v6), (7, .int (v7 + 1))] [] σ11))))) :
    zZ G M_Mo_handle 4 X post 61 [(0, zf G 32), (2, .int v2), (3, .int v3), (4, .int v4), (5, .int v5), (6, .int v6), (7, .int v7)] [] σ := by
  refine z_iload E 6 d_Mo_handle_61 rfl ?_
  refine z_iconst E (v := 5) d_Mo_handle_63 (by decide) ?_
  refine z_iadd E d_Mo_handle_64 ?_
  refine z_iconst E (v := 5) d_Mo_handle_65 (by decide) ?_
  refine z_aload_n E 0 d_Mo_handle_66 rfl rfl ?_
  refine z_getI E f_Mo_143 d_Mo_handle_67 ?_
  refine z_imul E d_Mo_handle_70 ?_
  refine z_icmp_ge E d_Mo_handle_71 (tgt := 96) (by decide) ⟨fun q => ?_, fun q => ?_⟩
  · have h := h.1 q
    refine z_aload_n E 0 d_Mo_handle_96 rfl rfl ?_
    refine z_dup E d_Mo_handle_97 rfl ?_
    refine z_getI E f_Mo_143 d_Mo_handle_98 ?_
    refine z_iconst E (v := 1) d_Mo_handle_101 (by decide) ?_
    refine z_isub E d_Mo_handle_102 ?_
    refine z_putI E w_Mo_143 d_Mo_handle_103 ?_
    have h := h _ rfl
    refine z_iload_n E 1 d_Mo_handle_106 rfl rfl ?_
    refine z_table E d_Mo_handle_107 (tO := 224) (tgts := [144, 190, 224, 224, 204, 215]) (by decide) (by decide) (by decide) ⟨z_tcons (fun q => ?_) (z_tcons (fun q => ?_) (z_tcons (fun q => ?_) (z_tcons (fun q => ?_) (z_tcons (fun q => ?_) (z_tcons (fun q => ?_) (z_tnil)))))), fun q => ?_⟩
    · have h := h.1 (by omega)
      refine z_aload_n E 0 d_Mo_handle_144 rfl rfl ?_
      refine z_getR E f_Mo_47 d_Mo_handle_145 ?_
      refine z_aload_n E 0 d_Mo_handle_148 rfl rfl ?_
      refine z_iconst E (v := 0) d_Mo_handle_149 (by decide) ?_
      refine z_iload E 3 d_Mo_handle_150 rfl ?_
      refine z_iload_n E 2 d_Mo_handle_152 rfl rfl ?_
      refine z_iload E 4 d_Mo_handle_153 rfl ?_
      refine z_callVIp [.int (0 : Int32), .int v4, .int v3, .int v5] [zf G 45] E (p_Mo_place G σ1 (0 : Int32) v4 v3 v5) c_Mo_162 r_Mo_place rfl zrm rfl (Nat.le_of_ble_eq_true rfl) d_Mo_handle_155 ?_
      refine z_iconst E (v := 1) d_Mo_handle_158 (by decide) ?_
      obtain ⟨h0, h⟩ := h
      refine z_zast E rfl d_Mo_handle_159 (y := (1 : Int32)) rfl ⟨h0, ?_⟩
      have h := h _ rfl
      refine z_aload_n E 0 d_Mo_handle_160 rfl rfl ?_
      refine z_getR E f_Mo_50 d_Mo_handle_161 ?_
      refine z_aload_n E 0 d_Mo_handle_164 rfl rfl ?_
      refine z_iconst E (v := 0) d_Mo_handle_165 (by decide) ?_
      refine z_iload E 3 d_Mo_handle_166 rfl ?_
      refine z_iload_n E 2 d_Mo_handle_168 rfl rfl ?_
      refine z_iload E 4 d_Mo_handle_169 rfl ?_
      refine z_callVIp [.int (0 : Int32), .int v4, .int v3, .int v5] [zf G 46] E (p_Mo_place G σ2 (0 : Int32) v4 v3 v5) c_Mo_162 r_Mo_place rfl zrm rfl (Nat.le_of_ble_eq_true rfl) d_Mo_handle_171 ?_
      refine z_iload E 5 d_Mo_handle_174 rfl ?_
      obtain ⟨h0, h⟩ := h
      refine z_iast E rfl d_Mo_handle_176 ⟨h0, ?_⟩
      have h := h _ rfl
      refine z_aload_n E 0 d_Mo_handle_177 rfl rfl ?_
      refine z_iconst E (v := 1) d_Mo_handle_178 (by decide) ?_
      refine z_iload E 3 d_Mo_handle_179 rfl ?_
      refine z_iload_n E 2 d_Mo_handle_181 rfl rfl ?_
      refine z_iload E 4 d_Mo_handle_182 rfl ?_
      refine z_iconst E (v := 0) d_Mo_handle_184 (by decide) ?_
      obtain ⟨P, hM, h⟩ := h
      refine z_callVV [.int (1 : Int32), .int v4, .int v3, .int v5, .int (0 : Int32)] [] E hM c_Mo_158 r_Mo_send rfl zrm rfl (Nat.le_of_ble_eq_true rfl) d_Mo_handle_185 (fun σ4 hp => ?_)
      have h := h σ4 hp
      refine z_iload_n E 1 d_Mo_handle_188 rfl rfl ?_
      exact z_ireturn E rfl d_Mo_handle_189 h
    · have h := h.2.1 (by omega)
      refine z_aload_n E 0 d_Mo_handle_190 rfl rfl ?_
      refine z_getR E f_Mo_19 d_Mo_handle_191 ?_
      refine z_iload E 3 d_Mo_handle_194 rfl ?_
      refine z_dup2 E d_Mo_handle_196 rfl rfl ?_
      obtain ⟨h0, h⟩ := h
      refine z_iald E rfl d_Mo_handle_197 ⟨h0, ?_⟩
      refine z_iconst E (v := 1) d_Mo_handle_198 (by decide) ?_
      refine z_isub E d_Mo_handle_199 ?_
      obtain ⟨h0, h⟩ := h
      refine z_iast E rfl d_Mo_handle_200 ⟨h0, ?_⟩
      have h := h _ rfl
      refine z_goto E d_Mo_handle_201 (tgt := 258) (by decide) ?_
      refine z_aload_n E 0 d_Mo_handle_258 rfl rfl ?_
      refine z_iload E 3 d_Mo_handle_259 rfl ?_
      obtain ⟨P, hM, h⟩ := h
      refine z_callVV [.int v4] [] E hM c_Mo_190 r_Mo_goOn rfl zrm rfl (Nat.le_of_ble_eq_true rfl) d_Mo_handle_261 (fun σ6 hp => ?_)
      have h := h σ6 hp
      refine z_iload_n E 1 d_Mo_handle_264 rfl rfl ?_
      exact z_ireturn E rfl d_Mo_handle_265 h
    · have h := h.2.2.1 (by omega)
      refine zZ.sub [0, 1, 2, 3, 4] rfl ?_
      exact h
    · have h := h.2.2.2.1 (by omega)
      refine zZ.sub [0, 1, 2, 3, 4] rfl ?_
      exact h
    · have h := h.2.2.2.2.1 (by omega)
      refine z_aload_n E 0 d_Mo_handle_204 rfl rfl ?_
      refine z_iload E 3 d_Mo_handle_205 rfl ?_
      refine z_iload E 4 d_Mo_handle_207 rfl ?_
      obtain ⟨P, hM, h⟩ := h
      refine z_callVV [.int v4, .int v5] [] E hM c_Mo_178 r_Mo_beginRound rfl zrm rfl (Nat.le_of_ble_eq_true rfl) d_Mo_handle_209 (fun σ7 hp => ?_)
      have h := h σ7 hp
      refine z_goto E d_Mo_handle_212 (tgt := 258) (by decide) ?_
      refine z_aload_n E 0 d_Mo_handle_258 rfl rfl ?_
      refine z_iload E 3 d_Mo_handle_259 rfl ?_
      obtain ⟨P, hM, h⟩ := h
      refine z_callVV [.int v4] [] E hM c_Mo_190 r_Mo_goOn rfl zrm rfl (Nat.le_of_ble_eq_true rfl) d_Mo_handle_261 (fun σ8 hp => ?_)
      have h := h σ8 hp
      refine z_iload_n E 1 d_Mo_handle_264 rfl rfl ?_
      exact z_ireturn E rfl d_Mo_handle_265 h
    · have h := h.2.2.2.2.2.1 (by omega)
      refine z_aload_n E 0 d_Mo_handle_215 rfl rfl ?_
      refine z_iload E 3 d_Mo_handle_216 rfl ?_
      obtain ⟨P, hM, h⟩ := h
      refine z_callVV [.int v4] [] E hM c_Mo_174 r_Mo_becomeFirm rfl zrm rfl (Nat.le_of_ble_eq_true rfl) d_Mo_handle_218 (fun σ9 hp => ?_)
      have h := h σ9 hp
      refine z_goto E d_Mo_handle_221 (tgt := 258) (by decide) ?_
      refine z_aload_n E 0 d_Mo_handle_258 rfl rfl ?_
      refine z_iload E 3 d_Mo_handle_259 rfl ?_
      obtain ⟨P, hM, h⟩ := h
      refine z_callVV [.int v4] [] E hM c_Mo_190 r_Mo_goOn rfl zrm rfl (Nat.le_of_ble_eq_true rfl) d_Mo_handle_261 (fun σ10 hp => ?_)
      have h := h σ10 hp
      refine z_iload_n E 1 d_Mo_handle_264 rfl rfl ?_
      exact z_ireturn E rfl d_Mo_handle_265 h
    · have h := h.2.2.2.2.2.2 (by omega)
      refine zZ.sub [0, 1, 2, 3, 4] rfl ?_
      exact h
  · have h := h.2 q
    refine z_aload_n E 0 d_Mo_handle_74 rfl rfl ?_
    refine z_getR E f_Mo_65 d_Mo_handle_75 ?_
    refine z_iload E 6 d_Mo_handle_78 rfl ?_
    refine z_aload_n E 0 d_Mo_handle_80 rfl rfl ?_
    refine z_getR E f_Mo_65 d_Mo_handle_81 ?_
    refine z_iload E 6 d_Mo_handle_84 rfl ?_
    refine z_iconst E (v := 5) d_Mo_handle_86 (by decide) ?_
    refine z_iadd E d_Mo_handle_87 ?_
    obtain ⟨h0, h⟩ := h
    refine z_iald E rfl d_Mo_handle_88 ⟨h0, ?_⟩
    obtain ⟨h0, h⟩ := h
    refine z_iast E rfl d_Mo_handle_89 ⟨h0, ?_⟩
    have h := h _ rfl
    refine z_iinc E 6 [1, 2, 3, 4, 5, 6, 0] (v := v7 + 1) d_Mo_handle_90 rfl rfl (by decide) rfl ?_
    refine z_goto E d_Mo_handle_93 (tgt := 61) (by decide) ?_
    exact h

set_option maxRecDepth 20000 in
theorem b_Mo_handle_224 {G : zG} {X : zX} {post : Option Value → zSt → Prop} (E : zCtx G M_Mo_handle (zKm G 4 X post) X) (v2 : Int32) (v3 : Int32) (v4 : Int32) (v5 : Int32) (σ : zSt)
    (h : ((¬ v2 = (2 : Int32) → ((¬ v2 = (3 : Int32) → (vp_in ((((3 : Int32) * 12 + v4) * 12 + v3) * 22 + v5) 12672 ∧ ∀ σ1 : zSt, σ1 = zup σ 45 ((((3 : Int32) * 12 + v4) * 12 + v3) * 22 + v5).toNatClampNeg (1 : Int32) → (∃ P : zSt → Prop, zV G 3 M_Mo_goOn [zf G 32, .int v4] σ1 P ∧ ∀ σ2 : zSt, P σ2 → post (some (.int v2)) σ2))) ∧ (v2 = (3 : Int32) → (vp_in ((((2 : Int32) * 12 + v4) * 12 + v3) * 22 + v5) 12672 ∧ ∀ σ3 : zSt, σ3 = zup σ 45 ((((2 : Int32) * 12 + v4) * 12 + v3) * 22 + v5).toNatClampNeg (1 : Int32) → (∃ P : zSt → Prop, zV G 3 M_Mo_goOn [zf G 32, .int v4] σ3 P ∧ ∀ σ4 : zSt, P σ4 → post (some (.int v2)) σ4))))) ∧ (v2 = (2 : Int32) → (vp_in ((((1 : Int32) * 12 + v4) * 12 + v3) * 22 + v5) 12672 ∧ ∀ σ5 : zSt, σ5 = zup σ 45 ((((1 : Int32) * 12 + v4) * 12 + v3) * 22 + v5).toNatClampNeg (1 : Int32) → (∃ P : zSt → Prop, zV G 3 M_Mo_goOn [zf G 32, .int v4] σ5 P ∧ ∀ σ6 : zSt, P σ6 → post (some (.int v2)) σ6))))) :
    zZ G M_Mo_handle 4 X post 224 [(0, zf G 32), (2, .int v2), (3, .int v3), (4, .int v4), (5, .int v5)] [] σ := by
  refine z_aload_n E 0 d_Mo_handle_224 rfl rfl ?_
  refine z_getR E f_Mo_47 d_Mo_handle_225 ?_
  refine z_aload_n E 0 d_Mo_handle_228 rfl rfl ?_
  refine z_iload_n E 1 d_Mo_handle_229 rfl rfl ?_
  refine z_iconst E (v := 2) d_Mo_handle_230 (by decide) ?_
  refine z_icmp_ne E d_Mo_handle_231 (tgt := 238) (by decide) ⟨fun q => ?_, fun q => ?_⟩
  · have h := h.1 q
    refine z_iload_n E 1 d_Mo_handle_238 rfl rfl ?_
    refine z_iconst E (v := 3) d_Mo_handle_239 (by decide) ?_
    refine z_icmp_ne E d_Mo_handle_240 (tgt := 247) (by decide) ⟨fun q => ?_, fun q => ?_⟩
    · have h := h.1 q
      refine z_iconst E (v := 3) d_Mo_handle_247 (by decide) ?_
      refine z_iload E 3 d_Mo_handle_248 rfl ?_
      refine z_iload_n E 2 d_Mo_handle_250 rfl rfl ?_
      refine z_iload E 4 d_Mo_handle_251 rfl ?_
      refine z_callVIp [.int (3 : Int32), .int v4, .int v3, .int v5] [zf G 45] E (p_Mo_place G σ (3 : Int32) v4 v3 v5) c_Mo_162 r_Mo_place rfl zrm rfl (Nat.le_of_ble_eq_true rfl) d_Mo_handle_253 ?_
      refine z_iconst E (v := 1) d_Mo_handle_256 (by decide) ?_
      obtain ⟨h0, h⟩ := h
      refine z_zast E rfl d_Mo_handle_257 (y := (1 : Int32)) rfl ⟨h0, ?_⟩
      have h := h _ rfl
      refine z_aload_n E 0 d_Mo_handle_258 rfl rfl ?_
      refine z_iload E 3 d_Mo_handle_259 rfl ?_
      obtain ⟨P, hM, h⟩ := h
      refine z_callVV [.int v4] [] E hM c_Mo_190 r_Mo_goOn rfl zrm rfl (Nat.le_of_ble_eq_true rfl) d_Mo_handle_261 (fun σ2 hp => ?_)
      have h := h σ2 hp
      refine z_iload_n E 1 d_Mo_handle_264 rfl rfl ?_
      exact z_ireturn E rfl d_Mo_handle_265 h
    · have h := h.2 q
      refine z_iconst E (v := 2) d_Mo_handle_243 (by decide) ?_
      refine z_goto E d_Mo_handle_244 (tgt := 248) (by decide) ?_
      refine z_iload E 3 d_Mo_handle_248 rfl ?_
      refine z_iload_n E 2 d_Mo_handle_250 rfl rfl ?_
      refine z_iload E 4 d_Mo_handle_251 rfl ?_
      refine z_callVIp [.int (2 : Int32), .int v4, .int v3, .int v5] [zf G 45] E (p_Mo_place G σ (2 : Int32) v4 v3 v5) c_Mo_162 r_Mo_place rfl zrm rfl (Nat.le_of_ble_eq_true rfl) d_Mo_handle_253 ?_
      refine z_iconst E (v := 1) d_Mo_handle_256 (by decide) ?_
      obtain ⟨h0, h⟩ := h
      refine z_zast E rfl d_Mo_handle_257 (y := (1 : Int32)) rfl ⟨h0, ?_⟩
      have h := h _ rfl
      refine z_aload_n E 0 d_Mo_handle_258 rfl rfl ?_
      refine z_iload E 3 d_Mo_handle_259 rfl ?_
      obtain ⟨P, hM, h⟩ := h
      refine z_callVV [.int v4] [] E hM c_Mo_190 r_Mo_goOn rfl zrm rfl (Nat.le_of_ble_eq_true rfl) d_Mo_handle_261 (fun σ4 hp => ?_)
      have h := h σ4 hp
      refine z_iload_n E 1 d_Mo_handle_264 rfl rfl ?_
      exact z_ireturn E rfl d_Mo_handle_265 h
  · have h := h.2 q
    refine z_iconst E (v := 1) d_Mo_handle_234 (by decide) ?_
    refine z_goto E d_Mo_handle_235 (tgt := 248) (by decide) ?_
    refine z_iload E 3 d_Mo_handle_248 rfl ?_
    refine z_iload_n E 2 d_Mo_handle_250 rfl rfl ?_
    refine z_iload E 4 d_Mo_handle_251 rfl ?_
    refine z_callVIp [.int (1 : Int32), .int v4, .int v3, .int v5] [zf G 45] E (p_Mo_place G σ (1 : Int32) v4 v3 v5) c_Mo_162 r_Mo_place rfl zrm rfl (Nat.le_of_ble_eq_true rfl) d_Mo_handle_253 ?_
    refine z_iconst E (v := 1) d_Mo_handle_256 (by decide) ?_
    obtain ⟨h0, h⟩ := h
    refine z_zast E rfl d_Mo_handle_257 (y := (1 : Int32)) rfl ⟨h0, ?_⟩
    have h := h _ rfl
    refine z_aload_n E 0 d_Mo_handle_258 rfl rfl ?_
    refine z_iload E 3 d_Mo_handle_259 rfl ?_
    obtain ⟨P, hM, h⟩ := h
    refine z_callVV [.int v4] [] E hM c_Mo_190 r_Mo_goOn rfl zrm rfl (Nat.le_of_ble_eq_true rfl) d_Mo_handle_261 (fun σ6 hp => ?_)
    have h := h σ6 hp
    refine z_iload_n E 1 d_Mo_handle_264 rfl rfl ?_
    exact z_ireturn E rfl d_Mo_handle_265 h

set_option maxRecDepth 20000 in
theorem b_Mo_come_0 {G : zG} {X : zX} {post : Option Value → zSt → Prop} (E : zCtx G M_Mo_come (zKm G 5 X post) X) (v1 : Int32) (σ : zSt)
    (h : (((σ 32 4) = 0 → post (some (.int (-1 : Int32))) σ) ∧ (¬ (σ 32 4) = 0 → ((v1 < 0 → post (some (.int (-1 : Int32))) σ) ∧ (¬ v1 < 0 → ((v1 < (σ 32 27) → (∃ P : Int32 → zSt → Prop, zI G 4 M_Mo_handle [zf G 32, .int v1] σ P ∧ ∀ (x2 : Int32) (σ1 : zSt), P x2 σ1 → post (some (.int x2)) σ1)) ∧ (¬ v1 < (σ 32 27) → post (some (.int (-1 : Int32))) σ))))))) :
    zZ G M_Mo_come 5 X post 0 [(0, zf G 32), (1, .int v1)] [] σ := by
  refine z_aload_n E 0 d_Mo_come_0 rfl rfl ?_
  refine z_getI E f_Mo_91 d_Mo_come_1 ?_
  refine z_if_eq E d_Mo_come_4 (tgt := 19) (by decide) ⟨fun q => ?_, fun q => ?_⟩
  · have h := h.1 q
    refine z_iconst E (v := -1) d_Mo_come_19 (by decide) ?_
    refine z_goto E d_Mo_come_20 (tgt := 28) (by decide) ?_
    exact z_ireturn E rfl d_Mo_come_28 h
  · have h := h.2 q
    refine z_iload_n E 1 d_Mo_come_7 rfl rfl ?_
    refine z_if_lt E d_Mo_come_8 (tgt := 19) (by decide) ⟨fun q => ?_, fun q => ?_⟩
    · have h := h.1 q
      refine z_iconst E (v := -1) d_Mo_come_19 (by decide) ?_
      refine z_goto E d_Mo_come_20 (tgt := 28) (by decide) ?_
      exact z_ireturn E rfl d_Mo_come_28 h
    · have h := h.2 q
      refine z_iload_n E 1 d_Mo_come_11 rfl rfl ?_
      refine z_aload_n E 0 d_Mo_come_12 rfl rfl ?_
      refine z_getI E f_Mo_143 d_Mo_come_13 ?_
      refine z_icmp_lt E d_Mo_come_16 (tgt := 23) (by decide) ⟨fun q => ?_, fun q => ?_⟩
      · have h := h.1 q
        refine z_aload_n E 0 d_Mo_come_23 rfl rfl ?_
        refine z_iload_n E 1 d_Mo_come_24 rfl rfl ?_
        obtain ⟨P, hM, h⟩ := h
        refine z_callVI [.int v1] [] E hM c_Mo_193 r_Mo_handle rfl zrm rfl (Nat.le_of_ble_eq_true rfl) d_Mo_come_25 (fun x2 σ1 hp => ?_)
        have h := h x2 σ1 hp
        exact z_ireturn E rfl d_Mo_come_28 h
      · have h := h.2 q
        refine z_iconst E (v := -1) d_Mo_come_19 (by decide) ?_
        refine z_goto E d_Mo_come_20 (tgt := 28) (by decide) ?_
        exact z_ireturn E rfl d_Mo_come_28 h

set_option maxRecDepth 20000 in
theorem b_Mo_flow_0 {G : zG} {X : zX} {post : Option Value → zSt → Prop} (E : zCtx G M_Mo_flow (zKm G 5 X post) X) (v1 : Int32) (v2 : Int32) (σ : zSt)
    (h : (((σ 32 4) = 0 → post (some (.int (-1 : Int32))) σ) ∧ (¬ (σ 32 4) = 0 → ((v1 < 0 → post (some (.int (-1 : Int32))) σ) ∧ (¬ v1 < 0 → (((3000 : Int32) < v1 → post (some (.int (-1 : Int32))) σ) ∧ (¬ (3000 : Int32) < v1 → ((0 ≤ v2 → zZ G M_Mo_flow 5 X post 30 [(0, zf G 32), (1, .int v1), (3, .long v2.toInt64), (5, .int (0 : Int32))] [] σ) ∧ (¬ 0 ≤ v2 → post (some (.int (-1 : Int32))) σ))))))))) :
    zZ G M_Mo_flow 5 X post 0 [(0, zf G 32), (1, .int v1), (2, .int v2)] [] σ := by
  refine z_aload_n E 0 d_Mo_flow_0 rfl rfl ?_
  refine z_getI E f_Mo_91 d_Mo_flow_1 ?_
  refine z_if_eq E d_Mo_flow_4 (tgt := 22) (by decide) ⟨fun q => ?_, fun q => ?_⟩
  · have h := h.1 q
    refine z_iconst E (v := -1) d_Mo_flow_22 (by decide) ?_
    exact z_ireturn E rfl d_Mo_flow_23 h
  · have h := h.2 q
    refine z_iload_n E 1 d_Mo_flow_7 rfl rfl ?_
    refine z_if_lt E d_Mo_flow_8 (tgt := 22) (by decide) ⟨fun q => ?_, fun q => ?_⟩
    · have h := h.1 q
      refine z_iconst E (v := -1) d_Mo_flow_22 (by decide) ?_
      exact z_ireturn E rfl d_Mo_flow_23 h
    · have h := h.2 q
      refine z_iload_n E 1 d_Mo_flow_11 rfl rfl ?_
      refine z_sipush E (v := 3000) d_Mo_flow_12 (by decide) ?_
      refine z_icmp_gt E d_Mo_flow_15 (tgt := 22) (by decide) ⟨fun q => ?_, fun q => ?_⟩
      · have h := h.1 q
        refine z_iconst E (v := -1) d_Mo_flow_22 (by decide) ?_
        exact z_ireturn E rfl d_Mo_flow_23 h
      · have h := h.2 q
        refine z_iload_n E 2 d_Mo_flow_18 rfl rfl ?_
        refine z_if_ge E d_Mo_flow_19 (tgt := 24) (by decide) ⟨fun q => ?_, fun q => ?_⟩
        · have h := h.1 q
          refine z_iload_n E 2 d_Mo_flow_24 rfl rfl ?_
          refine z_i2l E d_Mo_flow_25 ?_
          refine z_lstore_n E [1, 2, 0] d_Mo_flow_26 rfl (by decide) rfl ?_
          refine z_iconst E (v := 0) d_Mo_flow_27 (by decide) ?_
          refine z_istore E [1, 2, 3, 0] d_Mo_flow_28 (by decide) rfl ?_
          exact h
        · have h := h.2 q
          refine z_iconst E (v := -1) d_Mo_flow_22 (by decide) ?_
          exact z_ireturn E rfl d_Mo_flow_23 h

set_option maxRecDepth 20000 in
theorem b_Mo_flow_30 {G : zG} {X : zX} {post : Option Value → zSt → Prop} (E : zCtx G M_Mo_flow (zKm G 5 X post) X) (v1 : Int32) (v3 : Int64) (v5 : Int32) (σ : zSt)
    (h : ((v1 ≤ v5 → post (some (.int v5)) σ) ∧ (¬ v1 ≤ v5 → (((σ 32 27) ≤ 0 → post (some (.int v5)) σ) ∧ (¬ (σ 32 27) ≤ 0 → (¬ ((σ 32 27).toInt64) = 0 ∧ (∃ P : Int32 → zSt → Prop, zI G 4 M_Mo_handle [zf G 32, .int ((v3 - v3 / ((σ 32 27).toInt64) * ((σ 32 27).toInt64)).toInt32)] σ P ∧ ∀ (x2 : Int32) (σ1 : zSt), P x2 σ1 → zZ G M_Mo_flow 5 X post 30 [(0, zf G 32), (1, .int v1), (3, .long ((((69069 : Int64) * v3) + (1 : Int64)) - (((69069 : Int64) * v3) + (1 : Int64)) / (2147483648 : Int64) * (2147483648 : Int64))), (5, .int (v5 + 1))] [] σ1))))))) :
    zZ G M_Mo_flow 5 X post 30 [(0, zf G 32), (1, .int v1), (3, .long v3), (5, .int v5)] [] σ := by
  refine z_iload E 3 d_Mo_flow_30 rfl ?_
  refine z_iload_n E 1 d_Mo_flow_32 rfl rfl ?_
  refine z_icmp_ge E d_Mo_flow_33 (tgt := 75) (by decide) ⟨fun q => ?_, fun q => ?_⟩
  · have h := h.1 q
    refine z_iload E 3 d_Mo_flow_75 rfl ?_
    exact z_ireturn E rfl d_Mo_flow_77 h
  · have h := h.2 q
    refine z_aload_n E 0 d_Mo_flow_36 rfl rfl ?_
    refine z_getI E f_Mo_143 d_Mo_flow_37 ?_
    refine z_if_le E d_Mo_flow_40 (tgt := 75) (by decide) ⟨fun q => ?_, fun q => ?_⟩
    · have h := h.1 q
      refine z_iload E 3 d_Mo_flow_75 rfl ?_
      exact z_ireturn E rfl d_Mo_flow_77 h
    · have h := h.2 q
      refine z_aload_n E 0 d_Mo_flow_43 rfl rfl ?_
      refine z_lload_n E 2 d_Mo_flow_44 rfl rfl ?_
      refine z_aload_n E 0 d_Mo_flow_45 rfl rfl ?_
      refine z_getI E f_Mo_143 d_Mo_flow_46 ?_
      refine z_i2l E d_Mo_flow_49 ?_
      obtain ⟨h0, h⟩ := h
      refine z_lrem E d_Mo_flow_50 h0 ?_
      refine z_l2i E d_Mo_flow_51 ?_
      obtain ⟨P, hM, h⟩ := h
      refine z_callVI [.int ((v3 - v3 / ((σ 32 27).toInt64) * ((σ 32 27).toInt64)).toInt32)] [] E hM c_Mo_193 r_Mo_handle rfl zrm rfl (Nat.le_of_ble_eq_true rfl) d_Mo_flow_52 (fun x2 σ1 hp => ?_)
      have h := h x2 σ1 hp
      refine z_istore E [1, 2, 3, 4] d_Mo_flow_55 (by decide) rfl ?_
      refine z_ldc2 E (v := 69069) k_Mo_196 d_Mo_flow_57 ?_
      refine z_lload_n E 2 d_Mo_flow_60 rfl rfl ?_
      refine z_lmul E d_Mo_flow_61 ?_
      refine z_lconst E (v := 1) d_Mo_flow_62 (by decide) ?_
      refine z_ladd E d_Mo_flow_63 ?_
      refine z_ldc2 E (v := 2147483648) k_Mo_198 d_Mo_flow_64 ?_
      refine z_lrem E d_Mo_flow_67 (by decide) ?_
      refine z_lstore_n E [1, 2, 0, 3] d_Mo_flow_68 rfl (by decide) rfl ?_
      refine z_iinc E 3 [1, 2, 3, 0] (v := v5 + 1) d_Mo_flow_69 rfl rfl (by decide) rfl ?_
      refine z_goto E d_Mo_flow_72 (tgt := 30) (by decide) ?_
      exact h

set_option maxRecDepth 20000 in
theorem b_Mo_told_0 {G : zG} {X : zX} {post : Option Value → zSt → Prop} (E : zCtx G M_Mo_told (zKm G 1 X post) X) (v1 : Int32) (v2 : Int32) (σ : zSt)
    (h : (((zNo σ v1) = true → post (some (.int (-1 : Int32))) σ) ∧ ((zNo σ v1) = false → ((v2 < 0 → post (some (.int (-1 : Int32))) σ) ∧ (¬ v2 < 0 → (((7 : Int32) < v2 → post (some (.int (-1 : Int32))) σ) ∧ (¬ (7 : Int32) < v2 → ((¬ (σ 32 4) = 0 → zZ G M_Mo_told 1 X post 38 [(0, zf G 32), (1, .int v1), (2, .int v2), (3, .int (0 : Int32)), (4, .int (0 : Int32))] [] σ) ∧ ((σ 32 4) = 0 → (((7 : Int32) ≤ v2 → zZ G M_Mo_told 1 X post 38 [(0, zf G 32), (1, .int v1), (2, .int v2), (3, .int (0 : Int32)), (4, .int (0 : Int32))] [] σ) ∧ (¬ (7 : Int32) ≤ v2 → post (some (.int (-1 : Int32))) σ))))))))))) :
    zZ G M_Mo_told 1 X post 0 [(0, zf G 32), (1, .int v1), (2, .int v2)] [] σ := by
  refine z_aload_n E 0 d_Mo_told_0 rfl rfl ?_
  refine z_iload_n E 1 d_Mo_told_1 rfl rfl ?_
  refine z_callVBp [.int v1] [] E (p_Mo_noNode G σ v1) c_Mo_95 r_Mo_noNode rfl zrm rfl (Nat.le_of_ble_eq_true rfl) d_Mo_told_2 ?_
  refine z_ifz_ne E d_Mo_told_5 (tgt := 31) (by decide) ⟨fun q => ?_, fun q => ?_⟩
  · have h := h.1 q
    refine z_iconst E (v := -1) d_Mo_told_31 (by decide) ?_
    exact z_ireturn E rfl d_Mo_told_32 h
  · have h := h.2 q
    refine z_iload_n E 2 d_Mo_told_8 rfl rfl ?_
    refine z_if_lt E d_Mo_told_9 (tgt := 31) (by decide) ⟨fun q => ?_, fun q => ?_⟩
    · have h := h.1 q
      refine z_iconst E (v := -1) d_Mo_told_31 (by decide) ?_
      exact z_ireturn E rfl d_Mo_told_32 h
    · have h := h.2 q
      refine z_iload_n E 2 d_Mo_told_12 rfl rfl ?_
      refine z_bipush E (v := 7) d_Mo_told_13 (by decide) ?_
      refine z_icmp_gt E d_Mo_told_15 (tgt := 31) (by decide) ⟨fun q => ?_, fun q => ?_⟩
      · have h := h.1 q
        refine z_iconst E (v := -1) d_Mo_told_31 (by decide) ?_
        exact z_ireturn E rfl d_Mo_told_32 h
      · have h := h.2 q
        refine z_aload_n E 0 d_Mo_told_18 rfl rfl ?_
        refine z_getI E f_Mo_91 d_Mo_told_19 ?_
        refine z_if_ne E d_Mo_told_22 (tgt := 33) (by decide) ⟨fun q => ?_, fun q => ?_⟩
        · have h := h.1 q
          refine z_iconst E (v := 0) d_Mo_told_33 (by decide) ?_
          refine z_istore_n E [1, 2, 3, 0] d_Mo_told_34 rfl (by decide) rfl ?_
          refine z_iconst E (v := 0) d_Mo_told_35 (by decide) ?_
          refine z_istore E [1, 2, 3, 4, 0] d_Mo_told_36 (by decide) rfl ?_
          exact h
        · have h := h.2 q
          refine z_iload_n E 2 d_Mo_told_25 rfl rfl ?_
          refine z_bipush E (v := 7) d_Mo_told_26 (by decide) ?_
          refine z_icmp_ge E d_Mo_told_28 (tgt := 33) (by decide) ⟨fun q => ?_, fun q => ?_⟩
          · have h := h.1 q
            refine z_iconst E (v := 0) d_Mo_told_33 (by decide) ?_
            refine z_istore_n E [1, 2, 3, 0] d_Mo_told_34 rfl (by decide) rfl ?_
            refine z_iconst E (v := 0) d_Mo_told_35 (by decide) ?_
            refine z_istore E [1, 2, 3, 4, 0] d_Mo_told_36 (by decide) rfl ?_
            exact h
          · have h := h.2 q
            refine z_iconst E (v := -1) d_Mo_told_31 (by decide) ?_
            exact z_ireturn E rfl d_Mo_told_32 h

set_option maxRecDepth 20000 in
theorem b_Mo_told_38 {G : zG} {X : zX} {post : Option Value → zSt → Prop} (E : zCtx G M_Mo_told (zKm G 1 X post) X) (v1 : Int32) (v2 : Int32) (v3 : Int32) (v4 : Int32) (σ : zSt)
    (h : (((σ 32 0) ≤ v4 → ((v2.toInt = 0 → (vp_in v1 12 ∧ post (some (.int (σ 35 v1.toNatClampNeg))) σ)) ∧ (v2.toInt = 1 → (vp_in v1 24 ∧ post (some (.int (σ 47 v1.toNatClampNeg))) σ)) ∧ (v2.toInt = 2 → (vp_in v1 24 ∧ post (some (.int (σ 48 v1.toNatClampNeg))) σ)) ∧ (v2.toInt = 3 → (vp_in v1 12 ∧ post (some (.int (σ 36 v1.toNatClampNeg))) σ)) ∧ (v2.toInt = 4 → (vp_in v1 12 ∧ (((σ 37 v1.toNatClampNeg) = 0 → post (some (.int (0 : Int32))) σ) ∧ (¬ (σ 37 v1.toNatClampNeg) = 0 → post (some (.int (1 : Int32))) σ)))) ∧ (v2.toInt = 5 → (vp_in v1 12 ∧ post (some (.int (σ 41 v1.toNatClampNeg))) σ)) ∧ (v2.toInt = 6 → (vp_in v1 12 ∧ post (some (.int (σ 42 v1.toNatClampNeg))) σ)) ∧ ((v2.toInt < 0 ∨ 6 < v2.toInt) → post (some (.int v3)) σ))) ∧ (¬ (σ 32 0) ≤ v4 → (vp_in (12 * v1 + v4) 144 ∧ (((zLk σ v1 v4) = false → zZ G M_Mo_told 1 X post 38 [(0, zf G 32), (1, .int v1), (2, .int v2), (3, .int (v3 + (0 : Int32))), (4, .int (v4 + 1))] [] σ) ∧ ((zLk σ v1 v4) = true → zZ G M_Mo_told 1 X post 38 [(0, zf G 32), (1, .int v1), (2, .int v2), (3, .int (v3 + (1 : Int32))), (4, .int (v4 + 1))] [] σ)))))) :
    zZ G M_Mo_told 1 X post 38 [(0, zf G 32), (1, .int v1), (2, .int v2), (3, .int v3), (4, .int v4)] [] σ := by
  refine z_iload E 4 d_Mo_told_38 rfl ?_
  refine z_aload_n E 0 d_Mo_told_40 rfl rfl ?_
  refine z_getI E f_Mo_84 d_Mo_told_41 ?_
  refine z_icmp_ge E d_Mo_told_44 (tgt := 71) (by decide) ⟨fun q => ?_, fun q => ?_⟩
  · have h := h.1 q
    refine z_iload_n E 2 d_Mo_told_71 rfl rfl ?_
    refine z_table E d_Mo_told_72 (tO := 173) (tgts := [116, 123, 130, 137, 144, 159, 166]) (by decide) (by decide) (by decide) ⟨z_tcons (fun q => ?_) (z_tcons (fun q => ?_) (z_tcons (fun q => ?_) (z_tcons (fun q => ?_) (z_tcons (fun q => ?_) (z_tcons (fun q => ?_) (z_tcons (fun q => ?_) (z_tnil))))))), fun q => ?_⟩
    · have h := h.1 (by omega)
      refine z_aload_n E 0 d_Mo_told_116 rfl rfl ?_
      refine z_getR E f_Mo_16 d_Mo_told_117 ?_
      refine z_iload_n E 1 d_Mo_told_120 rfl rfl ?_
      obtain ⟨h0, h⟩ := h
      refine z_iald E rfl d_Mo_told_121 ⟨h0, ?_⟩
      exact z_ireturn E rfl d_Mo_told_122 h
    · have h := h.2.1 (by omega)
      refine z_aload_n E 0 d_Mo_told_123 rfl rfl ?_
      refine z_getR E f_Mo_53 d_Mo_told_124 ?_
      refine z_iload_n E 1 d_Mo_told_127 rfl rfl ?_
      obtain ⟨h0, h⟩ := h
      refine z_iald E rfl d_Mo_told_128 ⟨h0, ?_⟩
      exact z_ireturn E rfl d_Mo_told_129 h
    · have h := h.2.2.1 (by omega)
      refine z_aload_n E 0 d_Mo_told_130 rfl rfl ?_
      refine z_getR E f_Mo_56 d_Mo_told_131 ?_
      refine z_iload_n E 1 d_Mo_told_134 rfl rfl ?_
      obtain ⟨h0, h⟩ := h
      refine z_iald E rfl d_Mo_told_135 ⟨h0, ?_⟩
      exact z_ireturn E rfl d_Mo_told_136 h
    · have h := h.2.2.2.1 (by omega)
      refine z_aload_n E 0 d_Mo_told_137 rfl rfl ?_
      refine z_getR E f_Mo_19 d_Mo_told_138 ?_
      refine z_iload_n E 1 d_Mo_told_141 rfl rfl ?_
      obtain ⟨h0, h⟩ := h
      refine z_iald E rfl d_Mo_told_142 ⟨h0, ?_⟩
      exact z_ireturn E rfl d_Mo_told_143 h
    · have h := h.2.2.2.2.1 (by omega)
      refine z_aload_n E 0 d_Mo_told_144 rfl rfl ?_
      refine z_getR E f_Mo_22 d_Mo_told_145 ?_
      refine z_iload_n E 1 d_Mo_told_148 rfl rfl ?_
      obtain ⟨h0, h⟩ := h
      refine z_zald E rfl d_Mo_told_149 ⟨h0, ?_⟩
      refine z_if_eq E d_Mo_told_150 (tgt := 157) (by decide) ⟨fun q => ?_, fun q => ?_⟩
      · have h := h.1 q
        refine z_iconst E (v := 0) d_Mo_told_157 (by decide) ?_
        exact z_ireturn E rfl d_Mo_told_158 h
      · have h := h.2 q
        refine z_iconst E (v := 1) d_Mo_told_153 (by decide) ?_
        refine z_goto E d_Mo_told_154 (tgt := 158) (by decide) ?_
        exact z_ireturn E rfl d_Mo_told_158 h
    · have h := h.2.2.2.2.2.1 (by omega)
      refine z_aload_n E 0 d_Mo_told_159 rfl rfl ?_
      refine z_getR E f_Mo_35 d_Mo_told_160 ?_
      refine z_iload_n E 1 d_Mo_told_163 rfl rfl ?_
      obtain ⟨h0, h⟩ := h
      refine z_iald E rfl d_Mo_told_164 ⟨h0, ?_⟩
      exact z_ireturn E rfl d_Mo_told_165 h
    · have h := h.2.2.2.2.2.2.1 (by omega)
      refine z_aload_n E 0 d_Mo_told_166 rfl rfl ?_
      refine z_getR E f_Mo_38 d_Mo_told_167 ?_
      refine z_iload_n E 1 d_Mo_told_170 rfl rfl ?_
      obtain ⟨h0, h⟩ := h
      refine z_iald E rfl d_Mo_told_171 ⟨h0, ?_⟩
      exact z_ireturn E rfl d_Mo_told_172 h
    · have h := h.2.2.2.2.2.2.2 (by omega)
      refine z_iload_n E 3 d_Mo_told_173 rfl rfl ?_
      exact z_ireturn E rfl d_Mo_told_174 h
  · have h := h.2 q
    refine z_iload_n E 3 d_Mo_told_47 rfl rfl ?_
    refine z_aload_n E 0 d_Mo_told_48 rfl rfl ?_
    refine z_iload_n E 1 d_Mo_told_49 rfl rfl ?_
    refine z_iload E 4 d_Mo_told_50 rfl ?_
    obtain ⟨h0, h⟩ := h
    refine z_callVBp [.int v1, .int v4] [.int v3] E (p_Mo_isLink G σ v1 v4 h0) c_Mo_99 r_Mo_isLink rfl zrm rfl (Nat.le_of_ble_eq_true rfl) d_Mo_told_52 ?_
    refine z_ifz_eq E d_Mo_told_55 (tgt := 62) (by decide) ⟨fun q => ?_, fun q => ?_⟩
    · have h := h.1 q
      refine z_iconst E (v := 0) d_Mo_told_62 (by decide) ?_
      refine z_iadd E d_Mo_told_63 ?_
      refine z_istore_n E [1, 2, 3, 0, 4] d_Mo_told_64 rfl (by decide) rfl ?_
      refine z_iinc E 4 [1, 2, 3, 4, 0] (v := v4 + 1) d_Mo_told_65 rfl rfl (by decide) rfl ?_
      refine z_goto E d_Mo_told_68 (tgt := 38) (by decide) ?_
      exact h
    · have h := h.2 q
      refine z_iconst E (v := 1) d_Mo_told_58 (by decide) ?_
      refine z_goto E d_Mo_told_59 (tgt := 63) (by decide) ?_
      refine z_iadd E d_Mo_told_63 ?_
      refine z_istore_n E [1, 2, 3, 0, 4] d_Mo_told_64 rfl (by decide) rfl ?_
      refine z_iinc E 4 [1, 2, 3, 4, 0] (v := v4 + 1) d_Mo_told_65 rfl rfl (by decide) rfl ?_
      refine z_goto E d_Mo_told_68 (tgt := 38) (by decide) ?_
      exact h

set_option maxRecDepth 20000 in
theorem b_Mo_noPlace_0 {G : zG} {X : zX} {post : Option Value → zSt → Prop} (E : zCtx G M_Mo_noPlace (zKm G 1 X post) X) (v1 : Int32) (v2 : Int32) (σ : zSt)
    (h : (((σ 32 4) = 0 → post (some (.int (1 : Int32))) σ) ∧ (¬ (σ 32 4) = 0 → (((zNo σ v1) = true → post (some (.int (1 : Int32))) σ) ∧ ((zNo σ v1) = false → ((v2 < 0 → post (some (.int (1 : Int32))) σ) ∧ (¬ v2 < 0 → ((v2 ≤ (σ 32 8) → post (some (.int (0 : Int32))) σ) ∧ (¬ v2 ≤ (σ 32 8) → post (some (.int (1 : Int32))) σ))))))))) :
    zZ G M_Mo_noPlace 1 X post 0 [(0, zf G 32), (1, .int v1), (2, .int v2)] [] σ := by
  refine z_aload_n E 0 d_Mo_noPlace_0 rfl rfl ?_
  refine z_getI E f_Mo_91 d_Mo_noPlace_1 ?_
  refine z_if_eq E d_Mo_noPlace_4 (tgt := 27) (by decide) ⟨fun q => ?_, fun q => ?_⟩
  · have h := h.1 q
    refine z_iconst E (v := 1) d_Mo_noPlace_27 (by decide) ?_
    refine z_goto E d_Mo_noPlace_28 (tgt := 32) (by decide) ?_
    exact z_zreturn E rfl rfl d_Mo_noPlace_32 h
  · have h := h.2 q
    refine z_aload_n E 0 d_Mo_noPlace_7 rfl rfl ?_
    refine z_iload_n E 1 d_Mo_noPlace_8 rfl rfl ?_
    refine z_callVBp [.int v1] [] E (p_Mo_noNode G σ v1) c_Mo_95 r_Mo_noNode rfl zrm rfl (Nat.le_of_ble_eq_true rfl) d_Mo_noPlace_9 ?_
    refine z_ifz_ne E d_Mo_noPlace_12 (tgt := 27) (by decide) ⟨fun q => ?_, fun q => ?_⟩
    · have h := h.1 q
      refine z_iconst E (v := 1) d_Mo_noPlace_27 (by decide) ?_
      refine z_goto E d_Mo_noPlace_28 (tgt := 32) (by decide) ?_
      exact z_zreturn E rfl rfl d_Mo_noPlace_32 h
    · have h := h.2 q
      refine z_iload_n E 2 d_Mo_noPlace_15 rfl rfl ?_
      refine z_if_lt E d_Mo_noPlace_16 (tgt := 27) (by decide) ⟨fun q => ?_, fun q => ?_⟩
      · have h := h.1 q
        refine z_iconst E (v := 1) d_Mo_noPlace_27 (by decide) ?_
        refine z_goto E d_Mo_noPlace_28 (tgt := 32) (by decide) ?_
        exact z_zreturn E rfl rfl d_Mo_noPlace_32 h
      · have h := h.2 q
        refine z_iload_n E 2 d_Mo_noPlace_19 rfl rfl ?_
        refine z_aload_n E 0 d_Mo_noPlace_20 rfl rfl ?_
        refine z_getI E f_Mo_136 d_Mo_noPlace_21 ?_
        refine z_icmp_le E d_Mo_noPlace_24 (tgt := 31) (by decide) ⟨fun q => ?_, fun q => ?_⟩
        · have h := h.1 q
          refine z_iconst E (v := 0) d_Mo_noPlace_31 (by decide) ?_
          exact z_zreturn E rfl rfl d_Mo_noPlace_32 h
        · have h := h.2 q
          refine z_iconst E (v := 1) d_Mo_noPlace_27 (by decide) ?_
          refine z_goto E d_Mo_noPlace_28 (tgt := 32) (by decide) ?_
          exact z_zreturn E rfl rfl d_Mo_noPlace_32 h

set_option maxRecDepth 20000 in
theorem b_Mo_past_0 {G : zG} {X : zX} {post : Option Value → zSt → Prop} (E : zCtx G M_Mo_past (zKm G 2 X post) X) (v1 : Int32) (v2 : Int32) (σ : zSt)
    (h : (∃ P : Bool → zSt → Prop, zB G 1 M_Mo_noPlace [zf G 32, .int v1, .int v2] σ P ∧ ∀ (b2 : Bool) (σ1 : zSt), P b2 σ1 → ((b2 = false → (vp_in v1 12 ∧ ((v2 ≤ (σ1 35 v1.toNatClampNeg) → (vp_in (((12 : Int32) * v2) + v1) 252 ∧ post (some (.int (σ1 49 (((12 : Int32) * v2) + v1).toNatClampNeg))) σ1)) ∧ (¬ v2 ≤ (σ1 35 v1.toNatClampNeg) → post (some (.int (-3 : Int32))) σ1)))) ∧ (b2 = true → post (some (.int (-1 : Int32))) σ1)))) :
    zZ G M_Mo_past 2 X post 0 [(0, zf G 32), (1, .int v1), (2, .int v2)] [] σ := by
  refine z_aload_n E 0 d_Mo_past_0 rfl rfl ?_
  refine z_iload_n E 1 d_Mo_past_1 rfl rfl ?_
  refine z_iload_n E 2 d_Mo_past_2 rfl rfl ?_
  obtain ⟨P, hM, h⟩ := h
  refine z_callVB [.int v1, .int v2] [] E hM c_Mo_200 r_Mo_noPlace rfl zrm rfl (Nat.le_of_ble_eq_true rfl) d_Mo_past_3 (fun b2 σ1 hp => ?_)
  have h := h b2 σ1 hp
  refine z_ifz_eq E d_Mo_past_6 (tgt := 13) (by decide) ⟨fun q => ?_, fun q => ?_⟩
  · have h := h.1 q
    refine z_iload_n E 2 d_Mo_past_13 rfl rfl ?_
    refine z_aload_n E 0 d_Mo_past_14 rfl rfl ?_
    refine z_getR E f_Mo_16 d_Mo_past_15 ?_
    refine z_iload_n E 1 d_Mo_past_18 rfl rfl ?_
    obtain ⟨h0, h⟩ := h
    refine z_iald E rfl d_Mo_past_19 ⟨h0, ?_⟩
    refine z_icmp_le E d_Mo_past_20 (tgt := 28) (by decide) ⟨fun q => ?_, fun q => ?_⟩
    · have h := h.1 q
      refine z_aload_n E 0 d_Mo_past_28 rfl rfl ?_
      refine z_getR E f_Mo_59 d_Mo_past_29 ?_
      refine z_bipush E (v := 12) d_Mo_past_32 (by decide) ?_
      refine z_iload_n E 2 d_Mo_past_34 rfl rfl ?_
      refine z_imul E d_Mo_past_35 ?_
      refine z_iload_n E 1 d_Mo_past_36 rfl rfl ?_
      refine z_iadd E d_Mo_past_37 ?_
      obtain ⟨h0, h⟩ := h
      refine z_iald E rfl d_Mo_past_38 ⟨h0, ?_⟩
      exact z_ireturn E rfl d_Mo_past_39 h
    · have h := h.2 q
      refine z_bipush E (v := -3) d_Mo_past_23 (by decide) ?_
      refine z_goto E d_Mo_past_25 (tgt := 39) (by decide) ?_
      exact z_ireturn E rfl d_Mo_past_39 h
  · have h := h.2 q
    refine z_iconst E (v := -1) d_Mo_past_9 (by decide) ?_
    refine z_goto E d_Mo_past_10 (tgt := 39) (by decide) ?_
    exact z_ireturn E rfl d_Mo_past_39 h

set_option maxRecDepth 20000 in
theorem b_Mo_inStep_0 {G : zG} {X : zX} {post : Option Value → zSt → Prop} (E : zCtx G M_Mo_inStep (zKm G 2 X post) X) (v1 : Int32) (v2 : Int32) (σ : zSt)
    (h : (∃ P : Bool → zSt → Prop, zB G 1 M_Mo_noPlace [zf G 32, .int v1, .int v2] σ P ∧ ∀ (b2 : Bool) (σ1 : zSt), P b2 σ1 → ((b2 = false → (vp_in (((12 : Int32) * v2) + v1) 252 ∧ post (some (.int (σ1 50 (((12 : Int32) * v2) + v1).toNatClampNeg))) σ1)) ∧ (b2 = true → post (some (.int (-1 : Int32))) σ1)))) :
    zZ G M_Mo_inStep 2 X post 0 [(0, zf G 32), (1, .int v1), (2, .int v2)] [] σ := by
  refine z_aload_n E 0 d_Mo_inStep_0 rfl rfl ?_
  refine z_iload_n E 1 d_Mo_inStep_1 rfl rfl ?_
  refine z_iload_n E 2 d_Mo_inStep_2 rfl rfl ?_
  obtain ⟨P, hM, h⟩ := h
  refine z_callVB [.int v1, .int v2] [] E hM c_Mo_200 r_Mo_noPlace rfl zrm rfl (Nat.le_of_ble_eq_true rfl) d_Mo_inStep_3 (fun b2 σ1 hp => ?_)
  have h := h b2 σ1 hp
  refine z_ifz_eq E d_Mo_inStep_6 (tgt := 13) (by decide) ⟨fun q => ?_, fun q => ?_⟩
  · have h := h.1 q
    refine z_aload_n E 0 d_Mo_inStep_13 rfl rfl ?_
    refine z_getR E f_Mo_62 d_Mo_inStep_14 ?_
    refine z_bipush E (v := 12) d_Mo_inStep_17 (by decide) ?_
    refine z_iload_n E 2 d_Mo_inStep_19 rfl rfl ?_
    refine z_imul E d_Mo_inStep_20 ?_
    refine z_iload_n E 1 d_Mo_inStep_21 rfl rfl ?_
    refine z_iadd E d_Mo_inStep_22 ?_
    obtain ⟨h0, h⟩ := h
    refine z_iald E rfl d_Mo_inStep_23 ⟨h0, ?_⟩
    exact z_ireturn E rfl d_Mo_inStep_24 h
  · have h := h.2 q
    refine z_iconst E (v := -1) d_Mo_inStep_9 (by decide) ?_
    refine z_goto E d_Mo_inStep_10 (tgt := 24) (by decide) ?_
    exact z_ireturn E rfl d_Mo_inStep_24 h

set_option maxRecDepth 20000 in
theorem b_Mo_differ_0 {G : zG} {X : zX} {post : Option Value → zSt → Prop} (E : zCtx G M_Mo_differ (zKm G 0 X post) X)  (σ : zSt)
    (h : zZ G M_Mo_differ 0 X post 4 [(0, zf G 32), (1, .int (0 : Int32)), (2, .int (0 : Int32))] [] σ) :
    zZ G M_Mo_differ 0 X post 0 [(0, zf G 32)] [] σ := by
  refine z_iconst E (v := 0) d_Mo_differ_0 (by decide) ?_
  refine z_istore_n E [1, 0] d_Mo_differ_1 rfl (by decide) rfl ?_
  refine z_iconst E (v := 0) d_Mo_differ_2 (by decide) ?_
  refine z_istore_n E [1, 2, 0] d_Mo_differ_3 rfl (by decide) rfl ?_
  exact h

set_option maxRecDepth 20000 in
theorem b_Mo_differ_4 {G : zG} {X : zX} {post : Option Value → zSt → Prop} (E : zCtx G M_Mo_differ (zKm G 0 X post) X) (v1 : Int32) (v2 : Int32) (σ : zSt)
    (h : (((σ 32 0) ≤ v2 → (((σ 32 4) = 0 → post (some (.int (-1 : Int32))) σ) ∧ (¬ (σ 32 4) = 0 → post (some (.int v1)) σ))) ∧ (¬ (σ 32 0) ≤ v2 → (((σ 32 4) = 0 → (((σ 32 4) = 0 → post (some (.int (-1 : Int32))) σ) ∧ (¬ (σ 32 4) = 0 → post (some (.int v1)) σ))) ∧ (¬ (σ 32 4) = 0 → zZ G M_Mo_differ 0 X post 21 [(0, zf G 32), (1, .int v1), (2, .int v2), (3, .int (0 : Int32))] [] σ))))) :
    zZ G M_Mo_differ 0 X post 4 [(0, zf G 32), (1, .int v1), (2, .int v2)] [] σ := by
  refine z_iload_n E 2 d_Mo_differ_4 rfl rfl ?_
  refine z_aload_n E 0 d_Mo_differ_5 rfl rfl ?_
  refine z_getI E f_Mo_84 d_Mo_differ_6 ?_
  refine z_icmp_ge E d_Mo_differ_9 (tgt := 76) (by decide) ⟨fun q => ?_, fun q => ?_⟩
  · have h := h.1 q
    refine z_aload_n E 0 d_Mo_differ_76 rfl rfl ?_
    refine z_getI E f_Mo_91 d_Mo_differ_77 ?_
    refine z_if_eq E d_Mo_differ_80 (tgt := 87) (by decide) ⟨fun q => ?_, fun q => ?_⟩
    · have h := h.1 q
      refine z_iconst E (v := -1) d_Mo_differ_87 (by decide) ?_
      exact z_ireturn E rfl d_Mo_differ_88 h
    · have h := h.2 q
      refine z_iload_n E 1 d_Mo_differ_83 rfl rfl ?_
      refine z_goto E d_Mo_differ_84 (tgt := 88) (by decide) ?_
      exact z_ireturn E rfl d_Mo_differ_88 h
  · have h := h.2 q
    refine z_aload_n E 0 d_Mo_differ_12 rfl rfl ?_
    refine z_getI E f_Mo_91 d_Mo_differ_13 ?_
    refine z_if_eq E d_Mo_differ_16 (tgt := 76) (by decide) ⟨fun q => ?_, fun q => ?_⟩
    · have h := h.1 q
      refine z_aload_n E 0 d_Mo_differ_76 rfl rfl ?_
      refine z_getI E f_Mo_91 d_Mo_differ_77 ?_
      refine z_if_eq E d_Mo_differ_80 (tgt := 87) (by decide) ⟨fun q => ?_, fun q => ?_⟩
      · have h := h.1 q
        refine z_iconst E (v := -1) d_Mo_differ_87 (by decide) ?_
        exact z_ireturn E rfl d_Mo_differ_88 h
      · have h := h.2 q
        refine z_iload_n E 1 d_Mo_differ_83 rfl rfl ?_
        refine z_goto E d_Mo_differ_84 (tgt := 88) (by decide) ?_
        exact z_ireturn E rfl d_Mo_differ_88 h
    · have h := h.2 q
      refine z_iconst E (v := 0) d_Mo_differ_19 (by decide) ?_
      refine z_istore_n E [1, 2, 3, 0] d_Mo_differ_20 rfl (by decide) rfl ?_
      exact h

set_option maxRecDepth 20000 in
theorem b_Mo_differ_21 {G : zG} {X : zX} {post : Option Value → zSt → Prop} (E : zCtx G M_Mo_differ (zKm G 0 X post) X) (v1 : Int32) (v2 : Int32) (v3 : Int32) (σ : zSt)
    (h : (vp_in v2 12 ∧ (((σ 35 v2.toNatClampNeg) < v3 → zZ G M_Mo_differ 0 X post 4 [(0, zf G 32), (1, .int v1), (2, .int (v2 + 1))] [] σ) ∧ (¬ (σ 35 v2.toNatClampNeg) < v3 → (vp_in (((12 : Int32) * v3) + v2) 252 ∧ (vp_in (((12 : Int32) * v3) + v2) 252 ∧ ((¬ (σ 49 (((12 : Int32) * v3) + v2).toNatClampNeg) = (σ 50 (((12 : Int32) * v3) + v2).toNatClampNeg) → zZ G M_Mo_differ 0 X post 21 [(0, zf G 32), (1, .int (v1 + (1 : Int32))), (2, .int v2), (3, .int (v3 + 1))] [] σ) ∧ ((σ 49 (((12 : Int32) * v3) + v2).toNatClampNeg) = (σ 50 (((12 : Int32) * v3) + v2).toNatClampNeg) → zZ G M_Mo_differ 0 X post 21 [(0, zf G 32), (1, .int (v1 + (0 : Int32))), (2, .int v2), (3, .int (v3 + 1))] [] σ)))))))) :
    zZ G M_Mo_differ 0 X post 21 [(0, zf G 32), (1, .int v1), (2, .int v2), (3, .int v3)] [] σ := by
  refine z_iload_n E 3 d_Mo_differ_21 rfl rfl ?_
  refine z_aload_n E 0 d_Mo_differ_22 rfl rfl ?_
  refine z_getR E f_Mo_16 d_Mo_differ_23 ?_
  refine z_iload_n E 2 d_Mo_differ_26 rfl rfl ?_
  obtain ⟨h0, h⟩ := h
  refine z_iald E rfl d_Mo_differ_27 ⟨h0, ?_⟩
  refine z_icmp_gt E d_Mo_differ_28 (tgt := 70) (by decide) ⟨fun q => ?_, fun q => ?_⟩
  · have h := h.1 q
    refine z_iinc E 2 [1, 2, 0, 3] (v := v2 + 1) d_Mo_differ_70 rfl rfl (by decide) rfl ?_
    refine z_goto E d_Mo_differ_73 (tgt := 4) (by decide) ?_
    refine zZ.sub [0, 1, 2] rfl ?_
    exact h
  · have h := h.2 q
    refine z_iload_n E 1 d_Mo_differ_31 rfl rfl ?_
    refine z_aload_n E 0 d_Mo_differ_32 rfl rfl ?_
    refine z_getR E f_Mo_59 d_Mo_differ_33 ?_
    refine z_bipush E (v := 12) d_Mo_differ_36 (by decide) ?_
    refine z_iload_n E 3 d_Mo_differ_38 rfl rfl ?_
    refine z_imul E d_Mo_differ_39 ?_
    refine z_iload_n E 2 d_Mo_differ_40 rfl rfl ?_
    refine z_iadd E d_Mo_differ_41 ?_
    obtain ⟨h0, h⟩ := h
    refine z_iald E rfl d_Mo_differ_42 ⟨h0, ?_⟩
    refine z_aload_n E 0 d_Mo_differ_43 rfl rfl ?_
    refine z_getR E f_Mo_62 d_Mo_differ_44 ?_
    refine z_bipush E (v := 12) d_Mo_differ_47 (by decide) ?_
    refine z_iload_n E 3 d_Mo_differ_49 rfl rfl ?_
    refine z_imul E d_Mo_differ_50 ?_
    refine z_iload_n E 2 d_Mo_differ_51 rfl rfl ?_
    refine z_iadd E d_Mo_differ_52 ?_
    obtain ⟨h0, h⟩ := h
    refine z_iald E rfl d_Mo_differ_53 ⟨h0, ?_⟩
    refine z_icmp_ne E d_Mo_differ_54 (tgt := 61) (by decide) ⟨fun q => ?_, fun q => ?_⟩
    · have h := h.1 q
      refine z_iconst E (v := 1) d_Mo_differ_61 (by decide) ?_
      refine z_iadd E d_Mo_differ_62 ?_
      refine z_istore_n E [1, 0, 2, 3] d_Mo_differ_63 rfl (by decide) rfl ?_
      refine z_iinc E 3 [1, 2, 3, 0] (v := v3 + 1) d_Mo_differ_64 rfl rfl (by decide) rfl ?_
      refine z_goto E d_Mo_differ_67 (tgt := 21) (by decide) ?_
      exact h
    · have h := h.2 q
      refine z_iconst E (v := 0) d_Mo_differ_57 (by decide) ?_
      refine z_goto E d_Mo_differ_58 (tgt := 62) (by decide) ?_
      refine z_iadd E d_Mo_differ_62 ?_
      refine z_istore_n E [1, 0, 2, 3] d_Mo_differ_63 rfl (by decide) rfl ?_
      refine z_iinc E 3 [1, 2, 3, 0] (v := v3 + 1) d_Mo_differ_64 rfl rfl (by decide) rfl ?_
      refine z_goto E d_Mo_differ_67 (tgt := 21) (by decide) ?_
      exact h

set_option maxRecDepth 20000 in
theorem b_Mo_letter_0 {G : zG} {X : zX} {post : Option Value → zSt → Prop} (E : zCtx G M_Mo_letter (zKm G 0 X post) X) (v1 : Int32) (v2 : Int32) (σ : zSt)
    (h : (((σ 32 4) = 0 → post (some (.int (-1 : Int32))) σ) ∧ (¬ (σ 32 4) = 0 → ((v1 < 0 → post (some (.int (-1 : Int32))) σ) ∧ (¬ v1 < 0 → (((σ 32 27) ≤ v1 → post (some (.int (-1 : Int32))) σ) ∧ (¬ (σ 32 27) ≤ v1 → ((v2 < 0 → post (some (.int (-1 : Int32))) σ) ∧ (¬ v2 < 0 → ((v2 ≤ (4 : Int32) → (vp_in (((5 : Int32) * v1) + v2) 20000 ∧ post (some (.int (σ 51 (((5 : Int32) * v1) + v2).toNatClampNeg))) σ)) ∧ (¬ v2 ≤ (4 : Int32) → post (some (.int (-1 : Int32))) σ))))))))))) :
    zZ G M_Mo_letter 0 X post 0 [(0, zf G 32), (1, .int v1), (2, .int v2)] [] σ := by
  refine z_aload_n E 0 d_Mo_letter_0 rfl rfl ?_
  refine z_getI E f_Mo_91 d_Mo_letter_1 ?_
  refine z_if_eq E d_Mo_letter_4 (tgt := 28) (by decide) ⟨fun q => ?_, fun q => ?_⟩
  · have h := h.1 q
    refine z_iconst E (v := -1) d_Mo_letter_28 (by decide) ?_
    refine z_goto E d_Mo_letter_29 (tgt := 42) (by decide) ?_
    exact z_ireturn E rfl d_Mo_letter_42 h
  · have h := h.2 q
    refine z_iload_n E 1 d_Mo_letter_7 rfl rfl ?_
    refine z_if_lt E d_Mo_letter_8 (tgt := 28) (by decide) ⟨fun q => ?_, fun q => ?_⟩
    · have h := h.1 q
      refine z_iconst E (v := -1) d_Mo_letter_28 (by decide) ?_
      refine z_goto E d_Mo_letter_29 (tgt := 42) (by decide) ?_
      exact z_ireturn E rfl d_Mo_letter_42 h
    · have h := h.2 q
      refine z_iload_n E 1 d_Mo_letter_11 rfl rfl ?_
      refine z_aload_n E 0 d_Mo_letter_12 rfl rfl ?_
      refine z_getI E f_Mo_143 d_Mo_letter_13 ?_
      refine z_icmp_ge E d_Mo_letter_16 (tgt := 28) (by decide) ⟨fun q => ?_, fun q => ?_⟩
      · have h := h.1 q
        refine z_iconst E (v := -1) d_Mo_letter_28 (by decide) ?_
        refine z_goto E d_Mo_letter_29 (tgt := 42) (by decide) ?_
        exact z_ireturn E rfl d_Mo_letter_42 h
      · have h := h.2 q
        refine z_iload_n E 2 d_Mo_letter_19 rfl rfl ?_
        refine z_if_lt E d_Mo_letter_20 (tgt := 28) (by decide) ⟨fun q => ?_, fun q => ?_⟩
        · have h := h.1 q
          refine z_iconst E (v := -1) d_Mo_letter_28 (by decide) ?_
          refine z_goto E d_Mo_letter_29 (tgt := 42) (by decide) ?_
          exact z_ireturn E rfl d_Mo_letter_42 h
        · have h := h.2 q
          refine z_iload_n E 2 d_Mo_letter_23 rfl rfl ?_
          refine z_iconst E (v := 4) d_Mo_letter_24 (by decide) ?_
          refine z_icmp_le E d_Mo_letter_25 (tgt := 32) (by decide) ⟨fun q => ?_, fun q => ?_⟩
          · have h := h.1 q
            refine z_aload_n E 0 d_Mo_letter_32 rfl rfl ?_
            refine z_getR E f_Mo_65 d_Mo_letter_33 ?_
            refine z_iconst E (v := 5) d_Mo_letter_36 (by decide) ?_
            refine z_iload_n E 1 d_Mo_letter_37 rfl rfl ?_
            refine z_imul E d_Mo_letter_38 ?_
            refine z_iload_n E 2 d_Mo_letter_39 rfl rfl ?_
            refine z_iadd E d_Mo_letter_40 ?_
            obtain ⟨h0, h⟩ := h
            refine z_iald E rfl d_Mo_letter_41 ⟨h0, ?_⟩
            exact z_ireturn E rfl d_Mo_letter_42 h
          · have h := h.2 q
            refine z_iconst E (v := -1) d_Mo_letter_28 (by decide) ?_
            refine z_goto E d_Mo_letter_29 (tgt := 42) (by decide) ?_
            exact z_ireturn E rfl d_Mo_letter_42 h

set_option maxRecDepth 20000 in
theorem b_Mo_count_0 {G : zG} {X : zX} {post : Option Value → zSt → Prop} (E : zCtx G M_Mo_count (zKm G 0 X post) X) (v1 : Int32) (σ : zSt)
    (h : ((v1 < 0 → post (some (.int (-1 : Int32))) σ) ∧ (¬ v1 < 0 → (((9 : Int32) < v1 → post (some (.int (-1 : Int32))) σ) ∧ (¬ (9 : Int32) < v1 → ((v1 ≤ (1 : Int32) → zZ G M_Mo_count 0 X post 32 [(0, zf G 32), (1, .int v1), (2, .int (99 : Int32)), (3, .int (0 : Int32)), (4, .int (0 : Int32))] [] σ) ∧ (¬ v1 ≤ (1 : Int32) → ((¬ (σ 32 4) = 0 → zZ G M_Mo_count 0 X post 32 [(0, zf G 32), (1, .int v1), (2, .int (99 : Int32)), (3, .int (0 : Int32)), (4, .int (0 : Int32))] [] σ) ∧ ((σ 32 4) = 0 → post (some (.int (-1 : Int32))) σ))))))))) :
    zZ G M_Mo_count 0 X post 0 [(0, zf G 32), (1, .int v1)] [] σ := by
  refine z_iload_n E 1 d_Mo_count_0 rfl rfl ?_
  refine z_if_lt E d_Mo_count_1 (tgt := 22) (by decide) ⟨fun q => ?_, fun q => ?_⟩
  · have h := h.1 q
    refine z_iconst E (v := -1) d_Mo_count_22 (by decide) ?_
    exact z_ireturn E rfl d_Mo_count_23 h
  · have h := h.2 q
    refine z_iload_n E 1 d_Mo_count_4 rfl rfl ?_
    refine z_bipush E (v := 9) d_Mo_count_5 (by decide) ?_
    refine z_icmp_gt E d_Mo_count_7 (tgt := 22) (by decide) ⟨fun q => ?_, fun q => ?_⟩
    · have h := h.1 q
      refine z_iconst E (v := -1) d_Mo_count_22 (by decide) ?_
      exact z_ireturn E rfl d_Mo_count_23 h
    · have h := h.2 q
      refine z_iload_n E 1 d_Mo_count_10 rfl rfl ?_
      refine z_iconst E (v := 1) d_Mo_count_11 (by decide) ?_
      refine z_icmp_le E d_Mo_count_12 (tgt := 24) (by decide) ⟨fun q => ?_, fun q => ?_⟩
      · have h := h.1 q
        refine z_bipush E (v := 99) d_Mo_count_24 (by decide) ?_
        refine z_istore_n E [1, 2, 0] d_Mo_count_26 rfl (by decide) rfl ?_
        refine z_iconst E (v := 0) d_Mo_count_27 (by decide) ?_
        refine z_istore_n E [1, 2, 3, 0] d_Mo_count_28 rfl (by decide) rfl ?_
        refine z_iconst E (v := 0) d_Mo_count_29 (by decide) ?_
        refine z_istore E [1, 2, 3, 4, 0] d_Mo_count_30 (by decide) rfl ?_
        exact h
      · have h := h.2 q
        refine z_aload_n E 0 d_Mo_count_15 rfl rfl ?_
        refine z_getI E f_Mo_91 d_Mo_count_16 ?_
        refine z_if_ne E d_Mo_count_19 (tgt := 24) (by decide) ⟨fun q => ?_, fun q => ?_⟩
        · have h := h.1 q
          refine z_bipush E (v := 99) d_Mo_count_24 (by decide) ?_
          refine z_istore_n E [1, 2, 0] d_Mo_count_26 rfl (by decide) rfl ?_
          refine z_iconst E (v := 0) d_Mo_count_27 (by decide) ?_
          refine z_istore_n E [1, 2, 3, 0] d_Mo_count_28 rfl (by decide) rfl ?_
          refine z_iconst E (v := 0) d_Mo_count_29 (by decide) ?_
          refine z_istore E [1, 2, 3, 4, 0] d_Mo_count_30 (by decide) rfl ?_
          exact h
        · have h := h.2 q
          refine z_iconst E (v := -1) d_Mo_count_22 (by decide) ?_
          exact z_ireturn E rfl d_Mo_count_23 h

set_option maxRecDepth 20000 in
theorem b_Mo_count_32 {G : zG} {X : zX} {post : Option Value → zSt → Prop} (E : zCtx G M_Mo_count (zKm G 0 X post) X) (v1 : Int32) (v2 : Int32) (v3 : Int32) (v4 : Int32) (σ : zSt)
    (h : (((σ 32 0) ≤ v4 → ((v1.toInt = 0 → post (some (.int (σ 32 0))) σ) ∧ (v1.toInt = 1 → post (some (.int (σ 32 1))) σ) ∧ (v1.toInt = 2 → post (some (.int (σ 32 27))) σ) ∧ (v1.toInt = 3 → post (some (.int (σ 32 29))) σ) ∧ (v1.toInt = 4 → post (some (.int (σ 32 30))) σ) ∧ (v1.toInt = 5 → post (some (.int v2)) σ) ∧ (v1.toInt = 6 → post (some (.int v3)) σ) ∧ (v1.toInt = 7 → ((¬ v2 = (σ 32 8) → post (some (.int (0 : Int32))) σ) ∧ (v2 = (σ 32 8) → ((¬ (σ 32 27) = 0 → post (some (.int (0 : Int32))) σ) ∧ ((σ 32 27) = 0 → post (some (.int (1 : Int32))) σ))))) ∧ (v1.toInt = 8 → post (some (.int (σ 32 19))) σ) ∧ ((v1.toInt < 0 ∨ 8 < v1.toInt) → post (some (.int (σ 32 20))) σ))) ∧ (¬ (σ 32 0) ≤ v4 → (vp_in v4 12 ∧ ((v2 ≤ (σ 35 v4.toNatClampNeg) → (vp_in v4 12 ∧ (((σ 35 v4.toNatClampNeg) ≤ v3 → zZ G M_Mo_count 0 X post 32 [(0, zf G 32), (1, .int v1), (2, .int v2), (3, .int v3), (4, .int (v4 + 1))] [] σ) ∧ (¬ (σ 35 v4.toNatClampNeg) ≤ v3 → (vp_in v4 12 ∧ zZ G M_Mo_count 0 X post 32 [(0, zf G 32), (1, .int v1), (2, .int v2), (3, .int (σ 35 v4.toNatClampNeg)), (4, .int (v4 + 1))] [] σ))))) ∧ (¬ v2 ≤ (σ 35 v4.toNatClampNeg) → (vp_in v4 12 ∧ (vp_in v4 12 ∧ (((σ 35 v4.toNatClampNeg) ≤ v3 → zZ G M_Mo_count 0 X post 32 [(0, zf G 32), (1, .int v1), (2, .int (σ 35 v4.toNatClampNeg)), (3, .int v3), (4, .int (v4 + 1))] [] σ) ∧ (¬ (σ 35 v4.toNatClampNeg) ≤ v3 → (vp_in v4 12 ∧ zZ G M_Mo_count 0 X post 32 [(0, zf G 32), (1, .int v1), (2, .int (σ 35 v4.toNatClampNeg)), (3, .int (σ 35 v4.toNatClampNeg)), (4, .int (v4 + 1))] [] σ))))))))))) :
    zZ G M_Mo_count 0 X post 32 [(0, zf G 32), (1, .int v1), (2, .int v2), (3, .int v3), (4, .int v4)] [] σ := by
  refine z_iload E 4 d_Mo_count_32 rfl ?_
  refine z_aload_n E 0 d_Mo_count_34 rfl rfl ?_
  refine z_getI E f_Mo_84 d_Mo_count_35 ?_
  refine z_icmp_ge E d_Mo_count_38 (tgt := 93) (by decide) ⟨fun q => ?_, fun q => ?_⟩
  · have h := h.1 q
    refine z_iload_n E 1 d_Mo_count_93 rfl rfl ?_
    refine z_table E d_Mo_count_94 (tO := 199) (tgts := [144, 149, 154, 159, 164, 169, 171, 173, 194]) (by decide) (by decide) (by decide) ⟨z_tcons (fun q => ?_) (z_tcons (fun q => ?_) (z_tcons (fun q => ?_) (z_tcons (fun q => ?_) (z_tcons (fun q => ?_) (z_tcons (fun q => ?_) (z_tcons (fun q => ?_) (z_tcons (fun q => ?_) (z_tcons (fun q => ?_) (z_tnil))))))))), fun q => ?_⟩
    · have h := h.1 (by omega)
      refine z_aload_n E 0 d_Mo_count_144 rfl rfl ?_
      refine z_getI E f_Mo_84 d_Mo_count_145 ?_
      exact z_ireturn E rfl d_Mo_count_148 h
    · have h := h.2.1 (by omega)
      refine z_aload_n E 0 d_Mo_count_149 rfl rfl ?_
      refine z_getI E f_Mo_88 d_Mo_count_150 ?_
      exact z_ireturn E rfl d_Mo_count_153 h
    · have h := h.2.2.1 (by omega)
      refine z_aload_n E 0 d_Mo_count_154 rfl rfl ?_
      refine z_getI E f_Mo_143 d_Mo_count_155 ?_
      exact z_ireturn E rfl d_Mo_count_158 h
    · have h := h.2.2.2.1 (by omega)
      refine z_aload_n E 0 d_Mo_count_159 rfl rfl ?_
      refine z_getI E f_Mo_146 d_Mo_count_160 ?_
      exact z_ireturn E rfl d_Mo_count_163 h
    · have h := h.2.2.2.2.1 (by omega)
      refine z_aload_n E 0 d_Mo_count_164 rfl rfl ?_
      refine z_getI E f_Mo_149 d_Mo_count_165 ?_
      exact z_ireturn E rfl d_Mo_count_168 h
    · have h := h.2.2.2.2.2.1 (by omega)
      refine z_iload_n E 2 d_Mo_count_169 rfl rfl ?_
      exact z_ireturn E rfl d_Mo_count_170 h
    · have h := h.2.2.2.2.2.2.1 (by omega)
      refine z_iload_n E 3 d_Mo_count_171 rfl rfl ?_
      exact z_ireturn E rfl d_Mo_count_172 h
    · have h := h.2.2.2.2.2.2.2.1 (by omega)
      refine z_iload_n E 2 d_Mo_count_173 rfl rfl ?_
      refine z_aload_n E 0 d_Mo_count_174 rfl rfl ?_
      refine z_getI E f_Mo_136 d_Mo_count_175 ?_
      refine z_icmp_ne E d_Mo_count_178 (tgt := 192) (by decide) ⟨fun q => ?_, fun q => ?_⟩
      · have h := h.1 q
        refine z_iconst E (v := 0) d_Mo_count_192 (by decide) ?_
        exact z_ireturn E rfl d_Mo_count_193 h
      · have h := h.2 q
        refine z_aload_n E 0 d_Mo_count_181 rfl rfl ?_
        refine z_getI E f_Mo_143 d_Mo_count_182 ?_
        refine z_if_ne E d_Mo_count_185 (tgt := 192) (by decide) ⟨fun q => ?_, fun q => ?_⟩
        · have h := h.1 q
          refine z_iconst E (v := 0) d_Mo_count_192 (by decide) ?_
          exact z_ireturn E rfl d_Mo_count_193 h
        · have h := h.2 q
          refine z_iconst E (v := 1) d_Mo_count_188 (by decide) ?_
          refine z_goto E d_Mo_count_189 (tgt := 193) (by decide) ?_
          exact z_ireturn E rfl d_Mo_count_193 h
    · have h := h.2.2.2.2.2.2.2.2.1 (by omega)
      refine z_aload_n E 0 d_Mo_count_194 rfl rfl ?_
      refine z_getI E f_Mo_103 d_Mo_count_195 ?_
      exact z_ireturn E rfl d_Mo_count_198 h
    · have h := h.2.2.2.2.2.2.2.2.2 (by omega)
      refine z_aload_n E 0 d_Mo_count_199 rfl rfl ?_
      refine z_getI E f_Mo_120 d_Mo_count_200 ?_
      exact z_ireturn E rfl d_Mo_count_203 h
  · have h := h.2 q
    refine z_aload_n E 0 d_Mo_count_41 rfl rfl ?_
    refine z_getR E f_Mo_16 d_Mo_count_42 ?_
    refine z_iload E 4 d_Mo_count_45 rfl ?_
    obtain ⟨h0, h⟩ := h
    refine z_iald E rfl d_Mo_count_47 ⟨h0, ?_⟩
    refine z_iload_n E 2 d_Mo_count_48 rfl rfl ?_
    refine z_icmp_ge E d_Mo_count_49 (tgt := 62) (by decide) ⟨fun q => ?_, fun q => ?_⟩
    · have h := h.1 q
      refine z_iload_n E 2 d_Mo_count_62 rfl rfl ?_
      refine z_istore_n E [1, 2, 0, 3, 4] d_Mo_count_63 rfl (by decide) rfl ?_
      refine z_aload_n E 0 d_Mo_count_64 rfl rfl ?_
      refine z_getR E f_Mo_16 d_Mo_count_65 ?_
      refine z_iload E 4 d_Mo_count_68 rfl ?_
      obtain ⟨h0, h⟩ := h
      refine z_iald E rfl d_Mo_count_70 ⟨h0, ?_⟩
      refine z_iload_n E 3 d_Mo_count_71 rfl rfl ?_
      refine z_icmp_le E d_Mo_count_72 (tgt := 85) (by decide) ⟨fun q => ?_, fun q => ?_⟩
      · have h := h.1 q
        refine z_iload_n E 3 d_Mo_count_85 rfl rfl ?_
        refine z_istore_n E [1, 2, 3, 0, 4] d_Mo_count_86 rfl (by decide) rfl ?_
        refine z_iinc E 4 [1, 2, 3, 4, 0] (v := v4 + 1) d_Mo_count_87 rfl rfl (by decide) rfl ?_
        refine z_goto E d_Mo_count_90 (tgt := 32) (by decide) ?_
        exact h
      · have h := h.2 q
        refine z_aload_n E 0 d_Mo_count_75 rfl rfl ?_
        refine z_getR E f_Mo_16 d_Mo_count_76 ?_
        refine z_iload E 4 d_Mo_count_79 rfl ?_
        obtain ⟨h0, h⟩ := h
        refine z_iald E rfl d_Mo_count_81 ⟨h0, ?_⟩
        refine z_goto E d_Mo_count_82 (tgt := 86) (by decide) ?_
        refine z_istore_n E [1, 2, 3, 0, 4] d_Mo_count_86 rfl (by decide) rfl ?_
        refine z_iinc E 4 [1, 2, 3, 4, 0] (v := v4 + 1) d_Mo_count_87 rfl rfl (by decide) rfl ?_
        refine z_goto E d_Mo_count_90 (tgt := 32) (by decide) ?_
        exact h
    · have h := h.2 q
      refine z_aload_n E 0 d_Mo_count_52 rfl rfl ?_
      refine z_getR E f_Mo_16 d_Mo_count_53 ?_
      refine z_iload E 4 d_Mo_count_56 rfl ?_
      obtain ⟨h0, h⟩ := h
      refine z_iald E rfl d_Mo_count_58 ⟨h0, ?_⟩
      refine z_goto E d_Mo_count_59 (tgt := 63) (by decide) ?_
      refine z_istore_n E [1, 2, 0, 3, 4] d_Mo_count_63 rfl (by decide) rfl ?_
      refine z_aload_n E 0 d_Mo_count_64 rfl rfl ?_
      refine z_getR E f_Mo_16 d_Mo_count_65 ?_
      refine z_iload E 4 d_Mo_count_68 rfl ?_
      obtain ⟨h0, h⟩ := h
      refine z_iald E rfl d_Mo_count_70 ⟨h0, ?_⟩
      refine z_iload_n E 3 d_Mo_count_71 rfl rfl ?_
      refine z_icmp_le E d_Mo_count_72 (tgt := 85) (by decide) ⟨fun q => ?_, fun q => ?_⟩
      · have h := h.1 q
        refine z_iload_n E 3 d_Mo_count_85 rfl rfl ?_
        refine z_istore_n E [1, 2, 3, 0, 4] d_Mo_count_86 rfl (by decide) rfl ?_
        refine z_iinc E 4 [1, 2, 3, 4, 0] (v := v4 + 1) d_Mo_count_87 rfl rfl (by decide) rfl ?_
        refine z_goto E d_Mo_count_90 (tgt := 32) (by decide) ?_
        exact h
      · have h := h.2 q
        refine z_aload_n E 0 d_Mo_count_75 rfl rfl ?_
        refine z_getR E f_Mo_16 d_Mo_count_76 ?_
        refine z_iload E 4 d_Mo_count_79 rfl ?_
        obtain ⟨h0, h⟩ := h
        refine z_iald E rfl d_Mo_count_81 ⟨h0, ?_⟩
        refine z_goto E d_Mo_count_82 (tgt := 86) (by decide) ?_
        refine z_istore_n E [1, 2, 3, 0, 4] d_Mo_count_86 rfl (by decide) rfl ?_
        refine z_iinc E 4 [1, 2, 3, 4, 0] (v := v4 + 1) d_Mo_count_87 rfl rfl (by decide) rfl ?_
        refine z_goto E d_Mo_count_90 (tgt := 32) (by decide) ?_
        exact h

