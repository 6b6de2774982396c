set_option maxRecDepth 20000 in
set_option maxHeartbeats 4000000 in
theorem b_Mo_choose_0 {G : zG} {X : zX} {post : Option Value → zSt → Prop} (E : zCtx G M_Mo_choose (zKm G 1 X post) X)  (σ : zSt)
    (h : zZ G M_Mo_choose 1 X post 2 [(0, zf G 32), (1, .int (0 : Int32))] [] σ) :
    zZ G M_Mo_choose 1 X post 0 [(0, zf G 32)] [] σ := by
  refine z_iconst E (v := 0) d_Mo_choose_0 (by decide) ?_
  refine z_istore_n E [1, 0] (lv' := [(0, zf G 32), (1, .int (0 : Int32))]) d_Mo_choose_1 rfl (by decide) rfl ?_
  exact h

set_option maxRecDepth 20000 in
set_option maxHeartbeats 4000000 in
theorem b_Mo_choose_2 {G : zG} {X : zX} {post : Option Value → zSt → Prop} (E : zCtx G M_Mo_choose (zKm G 1 X post) X) (v1 : Int32) (σ : zSt)
    (h : (((σ 32 0) ≤ v1 → post none σ) ∧ (¬ (σ 32 0) ≤ v1 → zZ G M_Mo_choose 1 X post 14 [(0, zf G 32), (1, .int v1), (2, .int (v1 + (1 : Int32)))] [] σ))) :
    zZ G M_Mo_choose 1 X post 2 [(0, zf G 32), (1, .int v1)] [] σ := by
  refine z_iload_n E 1 d_Mo_choose_2 rfl rfl ?_
  refine z_aload_n E 0 d_Mo_choose_3 rfl rfl ?_
  refine z_getI E f_Mo_84 d_Mo_choose_4 ?_
  refine z_icmp_ge E d_Mo_choose_7 (tgt := 264) (by decide) ⟨fun q => ?_, fun q => ?_⟩
  · replace h := h.1 q
    exact z_return E rfl d_Mo_choose_264 h
  · replace h := h.2 q
    refine z_iload_n E 1 d_Mo_choose_10 rfl rfl ?_
    refine z_iconst E (v := 1) d_Mo_choose_11 (by decide) ?_
    refine z_iadd E d_Mo_choose_12 ?_
    refine z_istore_n E [1, 2, 0] (lv' := [(0, zf G 32), (1, .int v1), (2, .int (v1 + (1 : Int32)))]) d_Mo_choose_13 rfl (by decide) rfl ?_
    exact h

set_option maxRecDepth 20000 in
set_option maxHeartbeats 4000000 in
theorem b_Mo_choose_14 {G : zG} {X : zX} {post : Option Value → zSt → Prop} (E : zCtx G M_Mo_choose (zKm G 1 X post) X) (v1 : Int32) (v2 : Int32) (σ : zSt)
    (h : (((σ 32 0) ≤ v2 → zZ G M_Mo_choose 1 X post 2 [(0, zf G 32), (1, .int (v1 + 1))] [] σ) ∧ (¬ (σ 32 0) ≤ v2 → (vp_in (12 * v1 + v2) 144 ∧ (((zLk σ v1 v2) = false → zZ G M_Mo_choose 1 X post 55 [(0, zf G 32), (1, .int v1), (2, .int v2), (3, .int (0 : Int32)), (4, .int (0 : Int32))] [] σ) ∧ ((zLk σ v1 v2) = true → (vp_in v1 12 ∧ (vp_in v2 12 ∧ (((σ 42 v1.toNatClampNeg) = (σ 42 v2.toNatClampNeg) → zZ G M_Mo_choose 1 X post 55 [(0, zf G 32), (1, .int v1), (2, .int v2), (3, .int (0 : Int32)), (4, .int (0 : Int32))] [] σ) ∧ (¬ (σ 42 v1.toNatClampNeg) = (σ 42 v2.toNatClampNeg) → zZ G M_Mo_choose 1 X post 55 [(0, zf G 32), (1, .int v1), (2, .int v2), (3, .int (1 : Int32)), (4, .int (0 : Int32))] [] σ)))))))))) :
    zZ G M_Mo_choose 1 X post 14 [(0, zf G 32), (1, .int v1), (2, .int v2)] [] σ := by
  refine z_iload_n E 2 d_Mo_choose_14 rfl rfl ?_
  refine z_aload_n E 0 d_Mo_choose_15 rfl rfl ?_
  refine z_getI E f_Mo_84 d_Mo_choose_16 ?_
  refine z_icmp_ge E d_Mo_choose_19 (tgt := 258) (by decide) ⟨fun q => ?_, fun q => ?_⟩
  · replace h := h.1 q
    refine z_iinc E 1 [1, 0, 2] (v := v1 + 1) (lv' := [(0, zf G 32), (1, .int (v1 + 1)), (2, .int v2)]) d_Mo_choose_258 rfl rfl (by decide) rfl ?_
    refine z_goto E d_Mo_choose_261 (tgt := 2) (by decide) ?_
    refine zZ.sub [0, 1] (lv' := [(0, zf G 32), (1, .int (v1 + 1))]) rfl ?_
    exact h
  · replace h := h.2 q
    refine z_aload_n E 0 d_Mo_choose_22 rfl rfl ?_
    refine z_iload_n E 1 d_Mo_choose_23 rfl rfl ?_
    refine z_iload_n E 2 d_Mo_choose_24 rfl rfl ?_
    obtain ⟨h0, h⟩ := h
    refine z_callVBp [.int v1, .int v2] [] E (p_Mo_isLink G σ v1 v2 h0) c_Mo_99 r_Mo_isLink rfl zrm rfl (Nat.le_of_ble_eq_true rfl) d_Mo_choose_25 ?_
    refine z_ifz_eq E d_Mo_choose_28 (tgt := 50) (by decide) ⟨fun q => ?_, fun q => ?_⟩
    · replace h := h.1 q
      refine z_iconst E (v := 0) d_Mo_choose_50 (by decide) ?_
      refine z_istore_n E [1, 2, 3, 0] (lv' := [(0, zf G 32), (1, .int v1), (2, .int v2), (3, .int (0 : Int32))]) d_Mo_choose_51 rfl (by decide) rfl ?_
      refine z_iconst E (v := 0) d_Mo_choose_52 (by decide) ?_
      refine z_istore E [1, 2, 3, 4, 0] (lv' := [(0, zf G 32), (1, .int v1), (2, .int v2), (3, .int (0 : Int32)), (4, .int (0 : Int32))]) d_Mo_choose_53 (by decide) rfl ?_
      exact h
    · replace h := h.2 q
      refine z_aload_n E 0 d_Mo_choose_31 rfl rfl ?_
      refine z_getR E f_Mo_38 d_Mo_choose_32 ?_
      refine z_iload_n E 1 d_Mo_choose_35 rfl rfl ?_
      obtain ⟨h0, h⟩ := h
      refine z_iald E rfl d_Mo_choose_36 ⟨h0, ?_⟩
      refine z_aload_n E 0 d_Mo_choose_37 rfl rfl ?_
      refine z_getR E f_Mo_38 d_Mo_choose_38 ?_
      refine z_iload_n E 2 d_Mo_choose_41 rfl rfl ?_
      obtain ⟨h0, h⟩ := h
      refine z_iald E rfl d_Mo_choose_42 ⟨h0, ?_⟩
      refine z_icmp_eq E d_Mo_choose_43 (tgt := 50) (by decide) ⟨fun q => ?_, fun q => ?_⟩
      · replace h := h.1 q
        refine z_iconst E (v := 0) d_Mo_choose_50 (by decide) ?_
        refine z_istore_n E [1, 2, 3, 0] (lv' := [(0, zf G 32), (1, .int v1), (2, .int v2), (3, .int (0 : Int32))]) d_Mo_choose_51 rfl (by decide) rfl ?_
        refine z_iconst E (v := 0) d_Mo_choose_52 (by decide) ?_
        refine z_istore E [1, 2, 3, 4, 0] (lv' := [(0, zf G 32), (1, .int v1), (2, .int v2), (3, .int (0 : Int32)), (4, .int (0 : Int32))]) d_Mo_choose_53 (by decide) rfl ?_
        exact h
      · replace h := h.2 q
        refine z_iconst E (v := 1) d_Mo_choose_46 (by decide) ?_
        refine z_goto E d_Mo_choose_47 (tgt := 51) (by decide) ?_
        refine z_istore_n E [1, 2, 3, 0] (lv' := [(0, zf G 32), (1, .int v1), (2, .int v2), (3, .int (1 : Int32))]) d_Mo_choose_51 rfl (by decide) rfl ?_
        refine z_iconst E (v := 0) d_Mo_choose_52 (by decide) ?_
        refine z_istore E [1, 2, 3, 4, 0] (lv' := [(0, zf G 32), (1, .int v1), (2, .int v2), (3, .int (1 : Int32)), (4, .int (0 : Int32))]) d_Mo_choose_53 (by decide) rfl ?_
        exact h

set_option maxRecDepth 20000 in
set_option maxHeartbeats 4000000 in
theorem b_Mo_choose_55 {G : zG} {X : zX} {post : Option Value → zSt → Prop} (E : zCtx G M_Mo_choose (zKm G 1 X post) X) (v1 : Int32) (v2 : Int32) (v3 : Int32) (v4 : Int32) (σ : zSt)
    (h : (((σ 32 0) ≤ v4 → (vp_in (((12 : Int32) * v1) + v2) 144 ∧ ∀ σ1 : zSt, σ1 = zup σ 44 (((12 : Int32) * v1) + v2).toNatClampNeg (vp_nar .boolean v3) → (vp_in (((12 : Int32) * v2) + v1) 144 ∧ ∀ σ2 : zSt, σ2 = zup σ1 44 (((12 : Int32) * v2) + v1).toNatClampNeg (vp_nar .boolean v3) → ((v3 = 0 → (∀ σ3 : zSt, σ3 = zup σ2 32 20 ((σ2 32 20) + (0 : Int32)) → zZ G M_Mo_choose 1 X post 14 [(0, zf G 32), (1, .int v1), (2, .int (v2 + 1))] [] σ3)) ∧ (¬ v3 = 0 → (∀ σ4 : zSt, σ4 = zup σ2 32 20 ((σ2 32 20) + (1 : Int32)) → zZ G M_Mo_choose 1 X post 14 [(0, zf G 32), (1, .int v1), (2, .int (v2 + 1))] [] σ4)))))) ∧ (¬ (σ 32 0) ≤ v4 → ((v3 = 0 → (vp_in (((12 : Int32) * v1) + v2) 144 ∧ ∀ σ5 : zSt, σ5 = zup σ 44 (((12 : Int32) * v1) + v2).toNatClampNeg (vp_nar .boolean v3) → (vp_in (((12 : Int32) * v2) + v1) 144 ∧ ∀ σ6 : zSt, σ6 = zup σ5 44 (((12 : Int32) * v2) + v1).toNatClampNeg (vp_nar .boolean v3) → ((v3 = 0 → (∀ σ7 : zSt, σ7 = zup σ6 32 20 ((σ6 32 20) + (0 : Int32)) → zZ G M_Mo_choose 1 X post 14 [(0, zf G 32), (1, .int v1), (2, .int (v2 + 1))] [] σ7)) ∧ (¬ v3 = 0 → (∀ σ8 : zSt, σ8 = zup σ6 32 20 ((σ6 32 20) + (1 : Int32)) → zZ G M_Mo_choose 1 X post 14 [(0, zf G 32), (1, .int v1), (2, .int (v2 + 1))] [] σ8)))))) ∧ (¬ v3 = 0 → zZ G M_Mo_choose 1 X post 74 [(0, zf G 32), (1, .int v1), (2, .int v2), (3, .int v3), (4, .int v4), (5, .int (v4 + (1 : Int32)))] [] σ))))) :
    zZ G M_Mo_choose 1 X post 55 [(0, zf G 32), (1, .int v1), (2, .int v2), (3, .int v3), (4, .int v4)] [] σ := by
  refine z_iload E 4 d_Mo_choose_55 rfl ?_
  refine z_aload_n E 0 d_Mo_choose_57 rfl rfl ?_
  refine z_getI E f_Mo_84 d_Mo_choose_58 ?_
  refine z_icmp_ge E d_Mo_choose_61 (tgt := 210) (by decide) ⟨fun q => ?_, fun q => ?_⟩
  · replace h := h.1 q
    refine z_aload_n E 0 d_Mo_choose_210 rfl rfl ?_
    refine z_getR E f_Mo_44 d_Mo_choose_211 ?_
    refine z_bipush E (v := 12) d_Mo_choose_214 (by decide) ?_
    refine z_iload_n E 1 d_Mo_choose_216 rfl rfl ?_
    refine z_imul E d_Mo_choose_217 ?_
    refine z_iload_n E 2 d_Mo_choose_218 rfl rfl ?_
    refine z_iadd E d_Mo_choose_219 ?_
    refine z_iload_n E 3 d_Mo_choose_220 rfl rfl ?_
    obtain ⟨h0, h⟩ := h
    refine z_zast E rfl d_Mo_choose_221 (y := vp_nar .boolean v3) rfl ⟨h0, fun σ1 e => ?_⟩
    replace h := h σ1 e
    refine z_aload_n E 0 d_Mo_choose_222 rfl rfl ?_
    refine z_getR E f_Mo_44 d_Mo_choose_223 ?_
    refine z_bipush E (v := 12) d_Mo_choose_226 (by decide) ?_
    refine z_iload_n E 2 d_Mo_choose_228 rfl rfl ?_
    refine z_imul E d_Mo_choose_229 ?_
    refine z_iload_n E 1 d_Mo_choose_230 rfl rfl ?_
    refine z_iadd E d_Mo_choose_231 ?_
    refine z_iload_n E 3 d_Mo_choose_232 rfl rfl ?_
    obtain ⟨h0, h⟩ := h
    refine z_zast E rfl d_Mo_choose_233 (y := vp_nar .boolean v3) rfl ⟨h0, fun σ2 e => ?_⟩
    replace h := h σ2 e
    refine z_aload_n E 0 d_Mo_choose_234 rfl rfl ?_
    refine z_dup E d_Mo_choose_235 rfl ?_
    refine z_getI E f_Mo_120 d_Mo_choose_236 ?_
    refine z_iload_n E 3 d_Mo_choose_239 rfl rfl ?_
    refine z_if_eq E d_Mo_choose_240 (tgt := 247) (by decide) ⟨fun q => ?_, fun q => ?_⟩
    · replace h := h.1 q
      refine z_iconst E (v := 0) d_Mo_choose_247 (by decide) ?_
      refine z_iadd E d_Mo_choose_248 ?_
      refine z_putI E w_Mo_120 d_Mo_choose_249 (fun σ3 e => ?_)
      replace h := h σ3 e
      refine z_iinc E 2 [1, 2, 0, 3, 4] (v := v2 + 1) (lv' := [(0, zf G 32), (1, .int v1), (2, .int (v2 + 1)), (3, .int v3), (4, .int v4)]) d_Mo_choose_252 rfl rfl (by decide) rfl ?_
      refine z_goto E d_Mo_choose_255 (tgt := 14) (by decide) ?_
      refine zZ.sub [0, 1, 2] (lv' := [(0, zf G 32), (1, .int v1), (2, .int (v2 + 1))]) rfl ?_
      exact h
    · replace h := h.2 q
      refine z_iconst E (v := 1) d_Mo_choose_243 (by decide) ?_
      refine z_goto E d_Mo_choose_244 (tgt := 248) (by decide) ?_
      refine z_iadd E d_Mo_choose_248 ?_
      refine z_putI E w_Mo_120 d_Mo_choose_249 (fun σ4 e => ?_)
      replace h := h σ4 e
      refine z_iinc E 2 [1, 2, 0, 3, 4] (v := v2 + 1) (lv' := [(0, zf G 32), (1, .int v1), (2, .int (v2 + 1)), (3, .int v3), (4, .int v4)]) d_Mo_choose_252 rfl rfl (by decide) rfl ?_
      refine z_goto E d_Mo_choose_255 (tgt := 14) (by decide) ?_
      refine zZ.sub [0, 1, 2] (lv' := [(0, zf G 32), (1, .int v1), (2, .int (v2 + 1))]) rfl ?_
      exact h
  · replace h := h.2 q
    refine z_iload_n E 3 d_Mo_choose_64 rfl rfl ?_
    refine z_if_eq E d_Mo_choose_65 (tgt := 210) (by decide) ⟨fun q => ?_, fun q => ?_⟩
    · replace h := h.1 q
      refine z_aload_n E 0 d_Mo_choose_210 rfl rfl ?_
      refine z_getR E f_Mo_44 d_Mo_choose_211 ?_
      refine z_bipush E (v := 12) d_Mo_choose_214 (by decide) ?_
      refine z_iload_n E 1 d_Mo_choose_216 rfl rfl ?_
      refine z_imul E d_Mo_choose_217 ?_
      refine z_iload_n E 2 d_Mo_choose_218 rfl rfl ?_
      refine z_iadd E d_Mo_choose_219 ?_
      refine z_iload_n E 3 d_Mo_choose_220 rfl rfl ?_
      obtain ⟨h0, h⟩ := h
      refine z_zast E rfl d_Mo_choose_221 (y := vp_nar .boolean v3) rfl ⟨h0, fun σ5 e => ?_⟩
      replace h := h σ5 e
      refine z_aload_n E 0 d_Mo_choose_222 rfl rfl ?_
      refine z_getR E f_Mo_44 d_Mo_choose_223 ?_
      refine z_bipush E (v := 12) d_Mo_choose_226 (by decide) ?_
      refine z_iload_n E 2 d_Mo_choose_228 rfl rfl ?_
      refine z_imul E d_Mo_choose_229 ?_
      refine z_iload_n E 1 d_Mo_choose_230 rfl rfl ?_
      refine z_iadd E d_Mo_choose_231 ?_
      refine z_iload_n E 3 d_Mo_choose_232 rfl rfl ?_
      obtain ⟨h0, h⟩ := h
      refine z_zast E rfl d_Mo_choose_233 (y := vp_nar .boolean v3) rfl ⟨h0, fun σ6 e => ?_⟩
      replace h := h σ6 e
      refine z_aload_n E 0 d_Mo_choose_234 rfl rfl ?_
      refine z_dup E d_Mo_choose_235 rfl ?_
      refine z_getI E f_Mo_120 d_Mo_choose_236 ?_
      refine z_iload_n E 3 d_Mo_choose_239 rfl rfl ?_
      refine z_if_eq E d_Mo_choose_240 (tgt := 247) (by decide) ⟨fun q => ?_, fun q => ?_⟩
      · replace h := h.1 q
        refine z_iconst E (v := 0) d_Mo_choose_247 (by decide) ?_
        refine z_iadd E d_Mo_choose_248 ?_
        refine z_putI E w_Mo_120 d_Mo_choose_249 (fun σ7 e => ?_)
        replace h := h σ7 e
        refine z_iinc E 2 [1, 2, 0, 3, 4] (v := v2 + 1) (lv' := [(0, zf G 32), (1, .int v1), (2, .int (v2 + 1)), (3, .int v3), (4, .int v4)]) d_Mo_choose_252 rfl rfl (by decide) rfl ?_
        refine z_goto E d_Mo_choose_255 (tgt := 14) (by decide) ?_
        refine zZ.sub [0, 1, 2] (lv' := [(0, zf G 32), (1, .int v1), (2, .int (v2 + 1))]) rfl ?_
        exact h
      · replace h := h.2 q
        refine z_iconst E (v := 1) d_Mo_choose_243 (by decide) ?_
        refine z_goto E d_Mo_choose_244 (tgt := 248) (by decide) ?_
        refine z_iadd E d_Mo_choose_248 ?_
        refine z_putI E w_Mo_120 d_Mo_choose_249 (fun σ8 e => ?_)
        replace h := h σ8 e
        refine z_iinc E 2 [1, 2, 0, 3, 4] (v := v2 + 1) (lv' := [(0, zf G 32), (1, .int v1), (2, .int (v2 + 1)), (3, .int v3), (4, .int v4)]) d_Mo_choose_252 rfl rfl (by decide) rfl ?_
        refine z_goto E d_Mo_choose_255 (tgt := 14) (by decide) ?_
        refine zZ.sub [0, 1, 2] (lv' := [(0, zf G 32), (1, .int v1), (2, .int (v2 + 1))]) rfl ?_
        exact h
    · replace h := h.2 q
      refine z_iload E 4 d_Mo_choose_68 rfl ?_
      refine z_iconst E (v := 1) d_Mo_choose_70 (by decide) ?_
      refine z_iadd E d_Mo_choose_71 ?_
      refine z_istore E [1, 2, 3, 4, 5, 0] (lv' := [(0, zf G 32), (1, .int v1), (2, .int v2), (3, .int v3), (4, .int v4), (5, .int (v4 + (1 : Int32)))]) d_Mo_choose_72 (by decide) rfl ?_
      exact h

set_option maxRecDepth 20000 in
set_option maxHeartbeats 4000000 in
theorem b_Mo_choose_74 {G : zG} {X : zX} {post : Option Value → zSt → Prop} (E : zCtx G M_Mo_choose (zKm G 1 X post) X) (v1 : Int32) (v2 : Int32) (v3 : Int32) (v4 : Int32) (v5 : Int32) (σ : zSt)
    (h : (((σ 32 0) ≤ v5 → zZ G M_Mo_choose 1 X post 55 [(0, zf G 32), (1, .int v1), (2, .int v2), (3, .int v3), (4, .int (v4 + 1))] [] σ) ∧ (¬ (σ 32 0) ≤ v5 → (vp_in v4 12 ∧ (vp_in v1 12 ∧ ((¬ (σ 42 v4.toNatClampNeg) = (σ 42 v1.toNatClampNeg) → (vp_in v4 12 ∧ (vp_in v2 12 ∧ ((¬ (σ 42 v4.toNatClampNeg) = (σ 42 v2.toNatClampNeg) → zZ G M_Mo_choose 1 X post 154 [(0, zf G 32), (1, .int v1), (2, .int v2), (3, .int v3), (4, .int v4), (5, .int v5), (6, .int (0 : Int32))] [] σ) ∧ ((σ 42 v4.toNatClampNeg) = (σ 42 v2.toNatClampNeg) → (vp_in v5 12 ∧ (vp_in v1 12 ∧ ((¬ (σ 42 v5.toNatClampNeg) = (σ 42 v1.toNatClampNeg) → zZ G M_Mo_choose 1 X post 154 [(0, zf G 32), (1, .int v1), (2, .int v2), (3, .int v3), (4, .int v4), (5, .int v5), (6, .int (0 : Int32))] [] σ) ∧ ((σ 42 v5.toNatClampNeg) = (σ 42 v1.toNatClampNeg) → zZ G M_Mo_choose 1 X post 154 [(0, zf G 32), (1, .int v1), (2, .int v2), (3, .int v3), (4, .int v4), (5, .int v5), (6, .int (1 : Int32))] [] σ))))))))) ∧ ((σ 42 v4.toNatClampNeg) = (σ 42 v1.toNatClampNeg) → (vp_in v5 12 ∧ (vp_in v2 12 ∧ (((σ 42 v5.toNatClampNeg) = (σ 42 v2.toNatClampNeg) → zZ G M_Mo_choose 1 X post 154 [(0, zf G 32), (1, .int v1), (2, .int v2), (3, .int v3), (4, .int v4), (5, .int v5), (6, .int (1 : Int32))] [] σ) ∧ (¬ (σ 42 v5.toNatClampNeg) = (σ 42 v2.toNatClampNeg) → (vp_in v4 12 ∧ (vp_in v2 12 ∧ ((¬ (σ 42 v4.toNatClampNeg) = (σ 42 v2.toNatClampNeg) → zZ G M_Mo_choose 1 X post 154 [(0, zf G 32), (1, .int v1), (2, .int v2), (3, .int v3), (4, .int v4), (5, .int v5), (6, .int (0 : Int32))] [] σ) ∧ ((σ 42 v4.toNatClampNeg) = (σ 42 v2.toNatClampNeg) → (vp_in v5 12 ∧ (vp_in v1 12 ∧ ((¬ (σ 42 v5.toNatClampNeg) = (σ 42 v1.toNatClampNeg) → zZ G M_Mo_choose 1 X post 154 [(0, zf G 32), (1, .int v1), (2, .int v2), (3, .int v3), (4, .int v4), (5, .int v5), (6, .int (0 : Int32))] [] σ) ∧ ((σ 42 v5.toNatClampNeg) = (σ 42 v1.toNatClampNeg) → zZ G M_Mo_choose 1 X post 154 [(0, zf G 32), (1, .int v1), (2, .int v2), (3, .int v3), (4, .int v4), (5, .int v5), (6, .int (1 : Int32))] [] σ))))))))))))))))))) :
    zZ G M_Mo_choose 1 X post 74 [(0, zf G 32), (1, .int v1), (2, .int v2), (3, .int v3), (4, .int v4), (5, .int v5)] [] σ := by
  refine z_iload E 5 d_Mo_choose_74 rfl ?_
  refine z_aload_n E 0 d_Mo_choose_76 rfl rfl ?_
  refine z_getI E f_Mo_84 d_Mo_choose_77 ?_
  refine z_icmp_ge E d_Mo_choose_80 (tgt := 204) (by decide) ⟨fun q => ?_, fun q => ?_⟩
  · replace h := h.1 q
    refine z_iinc E 4 [1, 2, 3, 4, 0, 5] (v := v4 + 1) (lv' := [(0, zf G 32), (1, .int v1), (2, .int v2), (3, .int v3), (4, .int (v4 + 1)), (5, .int v5)]) d_Mo_choose_204 rfl rfl (by decide) rfl ?_
    refine z_goto E d_Mo_choose_207 (tgt := 55) (by decide) ?_
    refine zZ.sub [0, 1, 2, 3, 4] (lv' := [(0, zf G 32), (1, .int v1), (2, .int v2), (3, .int v3), (4, .int (v4 + 1))]) rfl ?_
    exact h
  · replace h := h.2 q
    refine z_aload_n E 0 d_Mo_choose_83 rfl rfl ?_
    refine z_getR E f_Mo_38 d_Mo_choose_84 ?_
    refine z_iload E 4 d_Mo_choose_87 rfl ?_
    obtain ⟨h0, h⟩ := h
    refine z_iald E rfl d_Mo_choose_89 ⟨h0, ?_⟩
    refine z_aload_n E 0 d_Mo_choose_90 rfl rfl ?_
    refine z_getR E f_Mo_38 d_Mo_choose_91 ?_
    refine z_iload_n E 1 d_Mo_choose_94 rfl rfl ?_
    obtain ⟨h0, h⟩ := h
    refine z_iald E rfl d_Mo_choose_95 ⟨h0, ?_⟩
    refine z_icmp_ne E d_Mo_choose_96 (tgt := 115) (by decide) ⟨fun q => ?_, fun q => ?_⟩
    · replace h := h.1 q
      refine z_aload_n E 0 d_Mo_choose_115 rfl rfl ?_
      refine z_getR E f_Mo_38 d_Mo_choose_116 ?_
      refine z_iload E 4 d_Mo_choose_119 rfl ?_
      obtain ⟨h0, h⟩ := h
      refine z_iald E rfl d_Mo_choose_121 ⟨h0, ?_⟩
      refine z_aload_n E 0 d_Mo_choose_122 rfl rfl ?_
      refine z_getR E f_Mo_38 d_Mo_choose_123 ?_
      refine z_iload_n E 2 d_Mo_choose_126 rfl rfl ?_
      obtain ⟨h0, h⟩ := h
      refine z_iald E rfl d_Mo_choose_127 ⟨h0, ?_⟩
      refine z_icmp_ne E d_Mo_choose_128 (tgt := 151) (by decide) ⟨fun q => ?_, fun q => ?_⟩
      · replace h := h.1 q
        refine z_iconst E (v := 0) d_Mo_choose_151 (by decide) ?_
        refine z_istore E [1, 2, 3, 4, 5, 6, 0] (lv' := [(0, zf G 32), (1, .int v1), (2, .int v2), (3, .int v3), (4, .int v4), (5, .int v5), (6, .int (0 : Int32))]) d_Mo_choose_152 (by decide) rfl ?_
        exact h
      · replace h := h.2 q
        refine z_aload_n E 0 d_Mo_choose_131 rfl rfl ?_
        refine z_getR E f_Mo_38 d_Mo_choose_132 ?_
        refine z_iload E 5 d_Mo_choose_135 rfl ?_
        obtain ⟨h0, h⟩ := h
        refine z_iald E rfl d_Mo_choose_137 ⟨h0, ?_⟩
        refine z_aload_n E 0 d_Mo_choose_138 rfl rfl ?_
        refine z_getR E f_Mo_38 d_Mo_choose_139 ?_
        refine z_iload_n E 1 d_Mo_choose_142 rfl rfl ?_
        obtain ⟨h0, h⟩ := h
        refine z_iald E rfl d_Mo_choose_143 ⟨h0, ?_⟩
        refine z_icmp_ne E d_Mo_choose_144 (tgt := 151) (by decide) ⟨fun q => ?_, fun q => ?_⟩
        · replace h := h.1 q
          refine z_iconst E (v := 0) d_Mo_choose_151 (by decide) ?_
          refine z_istore E [1, 2, 3, 4, 5, 6, 0] (lv' := [(0, zf G 32), (1, .int v1), (2, .int v2), (3, .int v3), (4, .int v4), (5, .int v5), (6, .int (0 : Int32))]) d_Mo_choose_152 (by decide) rfl ?_
          exact h
        · replace h := h.2 q
          refine z_iconst E (v := 1) d_Mo_choose_147 (by decide) ?_
          refine z_goto E d_Mo_choose_148 (tgt := 152) (by decide) ?_
          refine z_istore E [1, 2, 3, 4, 5, 6, 0] (lv' := [(0, zf G 32), (1, .int v1), (2, .int v2), (3, .int v3), (4, .int v4), (5, .int v5), (6, .int (1 : Int32))]) d_Mo_choose_152 (by decide) rfl ?_
          exact h
    · replace h := h.2 q
      refine z_aload_n E 0 d_Mo_choose_99 rfl rfl ?_
      refine z_getR E f_Mo_38 d_Mo_choose_100 ?_
      refine z_iload E 5 d_Mo_choose_103 rfl ?_
      obtain ⟨h0, h⟩ := h
      refine z_iald E rfl d_Mo_choose_105 ⟨h0, ?_⟩
      refine z_aload_n E 0 d_Mo_choose_106 rfl rfl ?_
      refine z_getR E f_Mo_38 d_Mo_choose_107 ?_
      refine z_iload_n E 2 d_Mo_choose_110 rfl rfl ?_
      obtain ⟨h0, h⟩ := h
      refine z_iald E rfl d_Mo_choose_111 ⟨h0, ?_⟩
      refine z_icmp_eq E d_Mo_choose_112 (tgt := 147) (by decide) ⟨fun q => ?_, fun q => ?_⟩
      · replace h := h.1 q
        refine z_iconst E (v := 1) d_Mo_choose_147 (by decide) ?_
        refine z_goto E d_Mo_choose_148 (tgt := 152) (by decide) ?_
        refine z_istore E [1, 2, 3, 4, 5, 6, 0] (lv' := [(0, zf G 32), (1, .int v1), (2, .int v2), (3, .int v3), (4, .int v4), (5, .int v5), (6, .int (1 : Int32))]) d_Mo_choose_152 (by decide) rfl ?_
        exact h
      · replace h := h.2 q
        refine z_aload_n E 0 d_Mo_choose_115 rfl rfl ?_
        refine z_getR E f_Mo_38 d_Mo_choose_116 ?_
        refine z_iload E 4 d_Mo_choose_119 rfl ?_
        obtain ⟨h0, h⟩ := h
        refine z_iald E rfl d_Mo_choose_121 ⟨h0, ?_⟩
        refine z_aload_n E 0 d_Mo_choose_122 rfl rfl ?_
        refine z_getR E f_Mo_38 d_Mo_choose_123 ?_
        refine z_iload_n E 2 d_Mo_choose_126 rfl rfl ?_
        obtain ⟨h0, h⟩ := h
        refine z_iald E rfl d_Mo_choose_127 ⟨h0, ?_⟩
        refine z_icmp_ne E d_Mo_choose_128 (tgt := 151) (by decide) ⟨fun q => ?_, fun q => ?_⟩
        · replace h := h.1 q
          refine z_iconst E (v := 0) d_Mo_choose_151 (by decide) ?_
          refine z_istore E [1, 2, 3, 4, 5, 6, 0] (lv' := [(0, zf G 32), (1, .int v1), (2, .int v2), (3, .int v3), (4, .int v4), (5, .int v5), (6, .int (0 : Int32))]) d_Mo_choose_152 (by decide) rfl ?_
          exact h
        · replace h := h.2 q
          refine z_aload_n E 0 d_Mo_choose_131 rfl rfl ?_
          refine z_getR E f_Mo_38 d_Mo_choose_132 ?_
          refine z_iload E 5 d_Mo_choose_135 rfl ?_
          obtain ⟨h0, h⟩ := h
          refine z_iald E rfl d_Mo_choose_137 ⟨h0, ?_⟩
          refine z_aload_n E 0 d_Mo_choose_138 rfl rfl ?_
          refine z_getR E f_Mo_38 d_Mo_choose_139 ?_
          refine z_iload_n E 1 d_Mo_choose_142 rfl rfl ?_
          obtain ⟨h0, h⟩ := h
          refine z_iald E rfl d_Mo_choose_143 ⟨h0, ?_⟩
          refine z_icmp_ne E d_Mo_choose_144 (tgt := 151) (by decide) ⟨fun q => ?_, fun q => ?_⟩
          · replace h := h.1 q
            refine z_iconst E (v := 0) d_Mo_choose_151 (by decide) ?_
            refine z_istore E [1, 2, 3, 4, 5, 6, 0] (lv' := [(0, zf G 32), (1, .int v1), (2, .int v2), (3, .int v3), (4, .int v4), (5, .int v5), (6, .int (0 : Int32))]) d_Mo_choose_152 (by decide) rfl ?_
            exact h
          · replace h := h.2 q
            refine z_iconst E (v := 1) d_Mo_choose_147 (by decide) ?_
            refine z_goto E d_Mo_choose_148 (tgt := 152) (by decide) ?_
            refine z_istore E [1, 2, 3, 4, 5, 6, 0] (lv' := [(0, zf G 32), (1, .int v1), (2, .int v2), (3, .int v3), (4, .int v4), (5, .int v5), (6, .int (1 : Int32))]) d_Mo_choose_152 (by decide) rfl ?_
            exact h

set_option maxRecDepth 20000 in
set_option maxHeartbeats 4000000 in
theorem b_Mo_choose_154 {G : zG} {X : zX} {post : Option Value → zSt → Prop} (E : zCtx G M_Mo_choose (zKm G 1 X post) X) (v1 : Int32) (v2 : Int32) (v3 : Int32) (v4 : Int32) (v5 : Int32) (v6 : Int32) (σ : zSt)
    (h : ((v3 = 0 → zZ G M_Mo_choose 1 X post 74 [(0, zf G 32), (1, .int v1), (2, .int v2), (3, .int (0 : Int32)), (4, .int v4), (5, .int (v5 + 1))] [] σ) ∧ (¬ v3 = 0 → (vp_in (12 * v4 + v5) 144 ∧ (((zLk σ v4 v5) = false → zZ G M_Mo_choose 1 X post 74 [(0, zf G 32), (1, .int v1), (2, .int v2), (3, .int (1 : Int32)), (4, .int v4), (5, .int (v5 + 1))] [] σ) ∧ ((zLk σ v4 v5) = true → ((v6 = 0 → zZ G M_Mo_choose 1 X post 74 [(0, zf G 32), (1, .int v1), (2, .int v2), (3, .int (1 : Int32)), (4, .int v4), (5, .int (v5 + 1))] [] σ) ∧ (¬ v6 = 0 → ((v4 < v1 → zZ G M_Mo_choose 1 X post 74 [(0, zf G 32), (1, .int v1), (2, .int v2), (3, .int (0 : Int32)), (4, .int v4), (5, .int (v5 + 1))] [] σ) ∧ (¬ v4 < v1 → ((¬ v4 = v1 → zZ G M_Mo_choose 1 X post 74 [(0, zf G 32), (1, .int v1), (2, .int v2), (3, .int (1 : Int32)), (4, .int v4), (5, .int (v5 + 1))] [] σ) ∧ (v4 = v1 → ((v5 < v2 → zZ G M_Mo_choose 1 X post 74 [(0, zf G 32), (1, .int v1), (2, .int v2), (3, .int (0 : Int32)), (4, .int v4), (5, .int (v5 + 1))] [] σ) ∧ (¬ v5 < v2 → zZ G M_Mo_choose 1 X post 74 [(0, zf G 32), (1, .int v1), (2, .int v2), (3, .int (1 : Int32)), (4, .int v4), (5, .int (v5 + 1))] [] σ)))))))))))))) :
    zZ G M_Mo_choose 1 X post 154 [(0, zf G 32), (1, .int v1), (2, .int v2), (3, .int v3), (4, .int v4), (5, .int v5), (6, .int v6)] [] σ := by
  refine z_iload_n E 3 d_Mo_choose_154 rfl rfl ?_
  refine z_if_eq E d_Mo_choose_155 (tgt := 196) (by decide) ⟨fun q => ?_, fun q => ?_⟩
  · replace h := h.1 q
    refine z_iconst E (v := 0) d_Mo_choose_196 (by decide) ?_
    refine z_istore_n E [1, 2, 3, 0, 4, 5] (lv' := [(0, zf G 32), (1, .int v1), (2, .int v2), (3, .int (0 : Int32)), (4, .int v4), (5, .int v5)]) d_Mo_choose_197 rfl (by decide) rfl ?_
    refine z_iinc E 5 [1, 2, 3, 4, 5, 0] (v := v5 + 1) (lv' := [(0, zf G 32), (1, .int v1), (2, .int v2), (3, .int (0 : Int32)), (4, .int v4), (5, .int (v5 + 1))]) d_Mo_choose_198 rfl rfl (by decide) rfl ?_
    refine z_goto E d_Mo_choose_201 (tgt := 74) (by decide) ?_
    exact h
  · replace h := h.2 q
    refine z_aload_n E 0 d_Mo_choose_158 rfl rfl ?_
    refine z_iload E 4 d_Mo_choose_159 rfl ?_
    refine z_iload E 5 d_Mo_choose_161 rfl ?_
    obtain ⟨h0, h⟩ := h
    refine z_callVBp [.int v4, .int v5] [] E (p_Mo_isLink G σ v4 v5 h0) c_Mo_99 r_Mo_isLink rfl zrm rfl (Nat.le_of_ble_eq_true rfl) d_Mo_choose_163 ?_
    refine z_ifz_eq E d_Mo_choose_166 (tgt := 192) (by decide) ⟨fun q => ?_, fun q => ?_⟩
    · replace h := h.1 q
      refine z_iconst E (v := 1) d_Mo_choose_192 (by decide) ?_
      refine z_goto E d_Mo_choose_193 (tgt := 197) (by decide) ?_
      refine z_istore_n E [1, 2, 3, 0, 4, 5] (lv' := [(0, zf G 32), (1, .int v1), (2, .int v2), (3, .int (1 : Int32)), (4, .int v4), (5, .int v5)]) d_Mo_choose_197 rfl (by decide) rfl ?_
      refine z_iinc E 5 [1, 2, 3, 4, 5, 0] (v := v5 + 1) (lv' := [(0, zf G 32), (1, .int v1), (2, .int v2), (3, .int (1 : Int32)), (4, .int v4), (5, .int (v5 + 1))]) d_Mo_choose_198 rfl rfl (by decide) rfl ?_
      refine z_goto E d_Mo_choose_201 (tgt := 74) (by decide) ?_
      exact h
    · replace h := h.2 q
      refine z_iload E 6 d_Mo_choose_169 rfl ?_
      refine z_if_eq E d_Mo_choose_171 (tgt := 192) (by decide) ⟨fun q => ?_, fun q => ?_⟩
      · replace h := h.1 q
        refine z_iconst E (v := 1) d_Mo_choose_192 (by decide) ?_
        refine z_goto E d_Mo_choose_193 (tgt := 197) (by decide) ?_
        refine z_istore_n E [1, 2, 3, 0, 4, 5] (lv' := [(0, zf G 32), (1, .int v1), (2, .int v2), (3, .int (1 : Int32)), (4, .int v4), (5, .int v5)]) d_Mo_choose_197 rfl (by decide) rfl ?_
        refine z_iinc E 5 [1, 2, 3, 4, 5, 0] (v := v5 + 1) (lv' := [(0, zf G 32), (1, .int v1), (2, .int v2), (3, .int (1 : Int32)), (4, .int v4), (5, .int (v5 + 1))]) d_Mo_choose_198 rfl rfl (by decide) rfl ?_
        refine z_goto E d_Mo_choose_201 (tgt := 74) (by decide) ?_
        exact h
      · replace h := h.2 q
        refine z_iload E 4 d_Mo_choose_174 rfl ?_
        refine z_iload_n E 1 d_Mo_choose_176 rfl rfl ?_
        refine z_icmp_lt E d_Mo_choose_177 (tgt := 196) (by decide) ⟨fun q => ?_, fun q => ?_⟩
        · replace h := h.1 q
          refine z_iconst E (v := 0) d_Mo_choose_196 (by decide) ?_
          refine z_istore_n E [1, 2, 3, 0, 4, 5] (lv' := [(0, zf G 32), (1, .int v1), (2, .int v2), (3, .int (0 : Int32)), (4, .int v4), (5, .int v5)]) d_Mo_choose_197 rfl (by decide) rfl ?_
          refine z_iinc E 5 [1, 2, 3, 4, 5, 0] (v := v5 + 1) (lv' := [(0, zf G 32), (1, .int v1), (2, .int v2), (3, .int (0 : Int32)), (4, .int v4), (5, .int (v5 + 1))]) d_Mo_choose_198 rfl rfl (by decide) rfl ?_
          refine z_goto E d_Mo_choose_201 (tgt := 74) (by decide) ?_
          exact h
        · replace h := h.2 q
          refine z_iload E 4 d_Mo_choose_180 rfl ?_
          refine z_iload_n E 1 d_Mo_choose_182 rfl rfl ?_
          refine z_icmp_ne E d_Mo_choose_183 (tgt := 192) (by decide) ⟨fun q => ?_, fun q => ?_⟩
          · replace h := h.1 q
            refine z_iconst E (v := 1) d_Mo_choose_192 (by decide) ?_
            refine z_goto E d_Mo_choose_193 (tgt := 197) (by decide) ?_
            refine z_istore_n E [1, 2, 3, 0, 4, 5] (lv' := [(0, zf G 32), (1, .int v1), (2, .int v2), (3, .int (1 : Int32)), (4, .int v4), (5, .int v5)]) d_Mo_choose_197 rfl (by decide) rfl ?_
            refine z_iinc E 5 [1, 2, 3, 4, 5, 0] (v := v5 + 1) (lv' := [(0, zf G 32), (1, .int v1), (2, .int v2), (3, .int (1 : Int32)), (4, .int v4), (5, .int (v5 + 1))]) d_Mo_choose_198 rfl rfl (by decide) rfl ?_
            refine z_goto E d_Mo_choose_201 (tgt := 74) (by decide) ?_
            exact h
          · replace h := h.2 q
            refine z_iload E 5 d_Mo_choose_186 rfl ?_
            refine z_iload_n E 2 d_Mo_choose_188 rfl rfl ?_
            refine z_icmp_lt E d_Mo_choose_189 (tgt := 196) (by decide) ⟨fun q => ?_, fun q => ?_⟩
            · replace h := h.1 q
              refine z_iconst E (v := 0) d_Mo_choose_196 (by decide) ?_
              refine z_istore_n E [1, 2, 3, 0, 4, 5] (lv' := [(0, zf G 32), (1, .int v1), (2, .int v2), (3, .int (0 : Int32)), (4, .int v4), (5, .int v5)]) d_Mo_choose_197 rfl (by decide) rfl ?_
              refine z_iinc E 5 [1, 2, 3, 4, 5, 0] (v := v5 + 1) (lv' := [(0, zf G 32), (1, .int v1), (2, .int v2), (3, .int (0 : Int32)), (4, .int v4), (5, .int (v5 + 1))]) d_Mo_choose_198 rfl rfl (by decide) rfl ?_
              refine z_goto E d_Mo_choose_201 (tgt := 74) (by decide) ?_
              exact h
            · replace h := h.2 q
              refine z_iconst E (v := 1) d_Mo_choose_192 (by decide) ?_
              refine z_goto E d_Mo_choose_193 (tgt := 197) (by decide) ?_
              refine z_istore_n E [1, 2, 3, 0, 4, 5] (lv' := [(0, zf G 32), (1, .int v1), (2, .int v2), (3, .int (1 : Int32)), (4, .int v4), (5, .int v5)]) d_Mo_choose_197 rfl (by decide) rfl ?_
              refine z_iinc E 5 [1, 2, 3, 4, 5, 0] (v := v5 + 1) (lv' := [(0, zf G 32), (1, .int v1), (2, .int v2), (3, .int (1 : Int32)), (4, .int v4), (5, .int (v5 + 1))]) d_Mo_choose_198 rfl rfl (by decide) rfl ?_
              refine z_goto E d_Mo_choose_201 (tgt := 74) (by decide) ?_
              exact h

set_option maxRecDepth 20000 in
set_option maxHeartbeats 4000000 in
theorem b_Mo_first_0 {G : zG} {X : zX} {post : Option Value → zSt → Prop} (E : zCtx G M_Mo_first (zKm G 0 X post) X) (v1 : Int32) (v2 : Int32) (σ : zSt)
    (h : ((¬ (σ 32 5) = (1 : Int32) → ((¬ (σ 32 5) = (2 : Int32) → ((¬ v2 = (σ 32 7) → (vp_in v1 24 ∧ ∀ σ1 : zSt, σ1 = zup σ 47 v1.toNatClampNeg (-2 : Int32) → (vp_in v1 24 ∧ ∀ σ2 : zSt, σ2 = zup σ1 48 v1.toNatClampNeg (-2 : Int32) → post none σ2))) ∧ (v2 = (σ 32 7) → (vp_in v1 24 ∧ ∀ σ3 : zSt, σ3 = zup σ 47 v1.toNatClampNeg (0 : Int32) → (vp_in v1 24 ∧ ∀ σ4 : zSt, σ4 = zup σ3 48 v1.toNatClampNeg (-2 : Int32) → post none σ4))))) ∧ ((σ 32 5) = (2 : Int32) → (vp_in v1 24 ∧ ∀ σ5 : zSt, σ5 = zup σ 47 v1.toNatClampNeg (0 : Int32) → (vp_in v1 24 ∧ ∀ σ6 : zSt, σ6 = zup σ5 48 v1.toNatClampNeg (-2 : Int32) → post none σ6))))) ∧ ((σ 32 5) = (1 : Int32) → (vp_in v2 12 ∧ (vp_in v1 24 ∧ ∀ σ7 : zSt, σ7 = zup σ 47 v1.toNatClampNeg (σ 34 v2.toNatClampNeg) → (vp_in v1 24 ∧ ∀ σ8 : zSt, σ8 = zup σ7 48 v1.toNatClampNeg (-2 : Int32) → post none σ8)))))) :
    zZ G M_Mo_first 0 X post 0 [(0, zf G 32), (1, .int v1), (2, .int v2)] [] σ := by
  refine z_aload_n E 0 d_Mo_first_0 rfl rfl ?_
  refine z_getR E f_Mo_53 d_Mo_first_1 ?_
  refine z_iload_n E 1 d_Mo_first_4 rfl rfl ?_
  refine z_aload_n E 0 d_Mo_first_5 rfl rfl ?_
  refine z_getI E f_Mo_123 d_Mo_first_6 ?_
  refine z_iconst E (v := 1) d_Mo_first_9 (by decide) ?_
  refine z_icmp_ne E d_Mo_first_10 (tgt := 22) (by decide) ⟨fun q => ?_, fun q => ?_⟩
  · replace h := h.1 q
    refine z_aload_n E 0 d_Mo_first_22 rfl rfl ?_
    refine z_getI E f_Mo_123 d_Mo_first_23 ?_
    refine z_iconst E (v := 2) d_Mo_first_26 (by decide) ?_
    refine z_icmp_ne E d_Mo_first_27 (tgt := 34) (by decide) ⟨fun q => ?_, fun q => ?_⟩
    · replace h := h.1 q
      refine z_iload_n E 2 d_Mo_first_34 rfl rfl ?_
      refine z_aload_n E 0 d_Mo_first_35 rfl rfl ?_
      refine z_getI E f_Mo_126 d_Mo_first_36 ?_
      refine z_icmp_ne E d_Mo_first_39 (tgt := 46) (by decide) ⟨fun q => ?_, fun q => ?_⟩
      · replace h := h.1 q
        refine z_bipush E (v := -2) d_Mo_first_46 (by decide) ?_
        obtain ⟨h0, h⟩ := h
        refine z_iast E rfl d_Mo_first_48 ⟨h0, fun σ1 e => ?_⟩
        replace h := h σ1 e
        refine z_aload_n E 0 d_Mo_first_49 rfl rfl ?_
        refine z_getR E f_Mo_56 d_Mo_first_50 ?_
        refine z_iload_n E 1 d_Mo_first_53 rfl rfl ?_
        refine z_bipush E (v := -2) d_Mo_first_54 (by decide) ?_
        obtain ⟨h0, h⟩ := h
        refine z_iast E rfl d_Mo_first_56 ⟨h0, fun σ2 e => ?_⟩
        replace h := h σ2 e
        exact z_return E rfl d_Mo_first_57 h
      · replace h := h.2 q
        refine z_iconst E (v := 0) d_Mo_first_42 (by decide) ?_
        refine z_goto E d_Mo_first_43 (tgt := 48) (by decide) ?_
        obtain ⟨h0, h⟩ := h
        refine z_iast E rfl d_Mo_first_48 ⟨h0, fun σ3 e => ?_⟩
        replace h := h σ3 e
        refine z_aload_n E 0 d_Mo_first_49 rfl rfl ?_
        refine z_getR E f_Mo_56 d_Mo_first_50 ?_
        refine z_iload_n E 1 d_Mo_first_53 rfl rfl ?_
        refine z_bipush E (v := -2) d_Mo_first_54 (by decide) ?_
        obtain ⟨h0, h⟩ := h
        refine z_iast E rfl d_Mo_first_56 ⟨h0, fun σ4 e => ?_⟩
        replace h := h σ4 e
        exact z_return E rfl d_Mo_first_57 h
    · replace h := h.2 q
      refine z_iconst E (v := 0) d_Mo_first_30 (by decide) ?_
      refine z_goto E d_Mo_first_31 (tgt := 48) (by decide) ?_
      obtain ⟨h0, h⟩ := h
      refine z_iast E rfl d_Mo_first_48 ⟨h0, fun σ5 e => ?_⟩
      replace h := h σ5 e
      refine z_aload_n E 0 d_Mo_first_49 rfl rfl ?_
      refine z_getR E f_Mo_56 d_Mo_first_50 ?_
      refine z_iload_n E 1 d_Mo_first_53 rfl rfl ?_
      refine z_bipush E (v := -2) d_Mo_first_54 (by decide) ?_
      obtain ⟨h0, h⟩ := h
      refine z_iast E rfl d_Mo_first_56 ⟨h0, fun σ6 e => ?_⟩
      replace h := h σ6 e
      exact z_return E rfl d_Mo_first_57 h
  · replace h := h.2 q
    refine z_aload_n E 0 d_Mo_first_13 rfl rfl ?_
    refine z_getR E f_Mo_13 d_Mo_first_14 ?_
    refine z_iload_n E 2 d_Mo_first_17 rfl rfl ?_
    obtain ⟨h0, h⟩ := h
    refine z_iald E rfl d_Mo_first_18 ⟨h0, ?_⟩
    refine z_goto E d_Mo_first_19 (tgt := 48) (by decide) ?_
    obtain ⟨h0, h⟩ := h
    refine z_iast E rfl d_Mo_first_48 ⟨h0, fun σ7 e => ?_⟩
    replace h := h σ7 e
    refine z_aload_n E 0 d_Mo_first_49 rfl rfl ?_
    refine z_getR E f_Mo_56 d_Mo_first_50 ?_
    refine z_iload_n E 1 d_Mo_first_53 rfl rfl ?_
    refine z_bipush E (v := -2) d_Mo_first_54 (by decide) ?_
    obtain ⟨h0, h⟩ := h
    refine z_iast E rfl d_Mo_first_56 ⟨h0, fun σ8 e => ?_⟩
    replace h := h σ8 e
    exact z_return E rfl d_Mo_first_57 h

set_option maxRecDepth 20000 in
set_option maxHeartbeats 4000000 in
theorem b_Mo_writer_0 {G : zG} {X : zX} {post : Option Value → zSt → Prop} (E : zCtx G M_Mo_writer (zKm G 0 X post) X) (v1 : Int32) (v2 : Int32) (v3 : Int32) (σ : zSt)
    (h : zZ G M_Mo_writer 0 X post 3 [(0, zf G 32), (1, .int v1), (2, .int v2), (3, .int v3), (4, .int (0 : Int32))] [] σ) :
    zZ G M_Mo_writer 0 X post 0 [(0, zf G 32), (1, .int v1), (2, .int v2), (3, .int v3)] [] σ := by
  refine z_iconst E (v := 0) d_Mo_writer_0 (by decide) ?_
  refine z_istore E [1, 2, 3, 4, 0] (lv' := [(0, zf G 32), (1, .int v1), (2, .int v2), (3, .int v3), (4, .int (0 : Int32))]) d_Mo_writer_1 (by decide) rfl ?_
  exact h

set_option maxRecDepth 20000 in
set_option maxHeartbeats 4000000 in
theorem b_Mo_writer_3 {G : zG} {X : zX} {post : Option Value → zSt → Prop} (E : zCtx G M_Mo_writer (zKm G 0 X post) X) (v1 : Int32) (v2 : Int32) (v3 : Int32) (v4 : Int32) (σ : zSt)
    (h : (vp_in v4 12 ∧ (((σ 54 v4.toNatClampNeg) = 0 → zZ G M_Mo_writer 0 X post 3 [(0, zf G 32), (1, .int v1), (2, .int v2), (3, .int v3), (4, .int (v4 + 1))] [] σ) ∧ (¬ (σ 54 v4.toNatClampNeg) = 0 → (vp_in v4 12 ∧ ((v3 = 0 → ((((σ 55 v4.toNatClampNeg) + (0 : Int32)) = v2 → post (some (.int v4)) σ) ∧ (¬ ((σ 55 v4.toNatClampNeg) + (0 : Int32)) = v2 → zZ G M_Mo_writer 0 X post 3 [(0, zf G 32), (1, .int v1), (2, .int v2), (3, .int v3), (4, .int (v4 + 1))] [] σ))) ∧ (¬ v3 = 0 → (vp_in (((12 : Int32) * v4) + v1) 144 ∧ ((((σ 55 v4.toNatClampNeg) + (σ 33 (((12 : Int32) * v4) + v1).toNatClampNeg)) = v2 → post (some (.int v4)) σ) ∧ (¬ ((σ 55 v4.toNatClampNeg) + (σ 33 (((12 : Int32) * v4) + v1).toNatClampNeg)) = v2 → zZ G M_Mo_writer 0 X post 3 [(0, zf G 32), (1, .int v1), (2, .int v2), (3, .int v3), (4, .int (v4 + 1))] [] σ)))))))))) :
    zZ G M_Mo_writer 0 X post 3 [(0, zf G 32), (1, .int v1), (2, .int v2), (3, .int v3), (4, .int v4)] [] σ := by
  refine z_aload_n E 0 d_Mo_writer_3 rfl rfl ?_
  refine z_getR E f_Mo_74 d_Mo_writer_4 ?_
  refine z_iload E 4 d_Mo_writer_7 rfl ?_
  obtain ⟨h0, h⟩ := h
  refine z_zald E rfl d_Mo_writer_9 ⟨h0, ?_⟩
  refine z_if_eq E d_Mo_writer_10 (tgt := 45) (by decide) ⟨fun q => ?_, fun q => ?_⟩
  · replace h := h.1 q
    refine z_iinc E 4 [1, 2, 3, 4, 0] (v := v4 + 1) (lv' := [(0, zf G 32), (1, .int v1), (2, .int v2), (3, .int v3), (4, .int (v4 + 1))]) d_Mo_writer_45 rfl rfl (by decide) rfl ?_
    refine z_goto E d_Mo_writer_48 (tgt := 3) (by decide) ?_
    exact h
  · replace h := h.2 q
    refine z_aload_n E 0 d_Mo_writer_13 rfl rfl ?_
    refine z_getR E f_Mo_77 d_Mo_writer_14 ?_
    refine z_iload E 4 d_Mo_writer_17 rfl ?_
    obtain ⟨h0, h⟩ := h
    refine z_iald E rfl d_Mo_writer_19 ⟨h0, ?_⟩
    refine z_iload_n E 3 d_Mo_writer_20 rfl rfl ?_
    refine z_if_eq E d_Mo_writer_21 (tgt := 39) (by decide) ⟨fun q => ?_, fun q => ?_⟩
    · replace h := h.1 q
      refine z_iconst E (v := 0) d_Mo_writer_39 (by decide) ?_
      refine z_iadd E d_Mo_writer_40 ?_
      refine z_iload_n E 2 d_Mo_writer_41 rfl rfl ?_
      refine z_icmp_eq E d_Mo_writer_42 (tgt := 51) (by decide) ⟨fun q => ?_, fun q => ?_⟩
      · replace h := h.1 q
        refine z_iload E 4 d_Mo_writer_51 rfl ?_
        exact z_ireturn E rfl d_Mo_writer_53 h
      · replace h := h.2 q
        refine z_iinc E 4 [1, 2, 3, 4, 0] (v := v4 + 1) (lv' := [(0, zf G 32), (1, .int v1), (2, .int v2), (3, .int v3), (4, .int (v4 + 1))]) d_Mo_writer_45 rfl rfl (by decide) rfl ?_
        refine z_goto E d_Mo_writer_48 (tgt := 3) (by decide) ?_
        exact h
    · replace h := h.2 q
      refine z_aload_n E 0 d_Mo_writer_24 rfl rfl ?_
      refine z_getR E f_Mo_7 d_Mo_writer_25 ?_
      refine z_bipush E (v := 12) d_Mo_writer_28 (by decide) ?_
      refine z_iload E 4 d_Mo_writer_30 rfl ?_
      refine z_imul E d_Mo_writer_32 ?_
      refine z_iload_n E 1 d_Mo_writer_33 rfl rfl ?_
      refine z_iadd E d_Mo_writer_34 ?_
      obtain ⟨h0, h⟩ := h
      refine z_iald E rfl d_Mo_writer_35 ⟨h0, ?_⟩
      refine z_goto E d_Mo_writer_36 (tgt := 40) (by decide) ?_
      refine z_iadd E d_Mo_writer_40 ?_
      refine z_iload_n E 2 d_Mo_writer_41 rfl rfl ?_
      refine z_icmp_eq E d_Mo_writer_42 (tgt := 51) (by decide) ⟨fun q => ?_, fun q => ?_⟩
      · replace h := h.1 q
        refine z_iload E 4 d_Mo_writer_51 rfl ?_
        exact z_ireturn E rfl d_Mo_writer_53 h
      · replace h := h.2 q
        refine z_iinc E 4 [1, 2, 3, 4, 0] (v := v4 + 1) (lv' := [(0, zf G 32), (1, .int v1), (2, .int v2), (3, .int v3), (4, .int (v4 + 1))]) d_Mo_writer_45 rfl rfl (by decide) rfl ?_
        refine z_goto E d_Mo_writer_48 (tgt := 3) (by decide) ?_
        exact h

set_option maxRecDepth 20000 in
set_option maxHeartbeats 4000000 in
theorem b_Mo_act_0 {G : zG} {X : zX} {post : Option Value → zSt → Prop} (E : zCtx G M_Mo_act (zKm G 1 X post) X) (v1 : Int32) (v2 : Int32) (v3 : Int32) (σ : zSt)
    (h : ((¬ (σ 32 5) = (3 : Int32) → zZ G M_Mo_act 1 X post 31 [(0, zf G 32), (1, .int v1), (2, .int v2), (3, .int v3), (4, .int (0 : Int32)), (5, .int (2000 : Int32)), (6, .int (-2000 : Int32)), (7, .int (0 : Int32)), (8, .int (0 : Int32))] [] σ) ∧ ((σ 32 5) = (3 : Int32) → zZ G M_Mo_act 1 X post 31 [(0, zf G 32), (1, .int v1), (2, .int v2), (3, .int v3), (4, .int (1 : Int32)), (5, .int (2000 : Int32)), (6, .int (-2000 : Int32)), (7, .int (0 : Int32)), (8, .int (0 : Int32))] [] σ))) :
    zZ G M_Mo_act 1 X post 0 [(0, zf G 32), (1, .int v1), (2, .int v2), (3, .int v3)] [] σ := by
  refine z_aload_n E 0 d_Mo_act_0 rfl rfl ?_
  refine z_getI E f_Mo_123 d_Mo_act_1 ?_
  refine z_iconst E (v := 3) d_Mo_act_4 (by decide) ?_
  refine z_icmp_ne E d_Mo_act_5 (tgt := 12) (by decide) ⟨fun q => ?_, fun q => ?_⟩
  · replace h := h.1 q
    refine z_iconst E (v := 0) d_Mo_act_12 (by decide) ?_
    refine z_istore E [1, 2, 3, 4, 0] (lv' := [(0, zf G 32), (1, .int v1), (2, .int v2), (3, .int v3), (4, .int (0 : Int32))]) d_Mo_act_13 (by decide) rfl ?_
    refine z_sipush E (v := 2000) d_Mo_act_15 (by decide) ?_
    refine z_istore E [1, 2, 3, 4, 5, 0] (lv' := [(0, zf G 32), (1, .int v1), (2, .int v2), (3, .int v3), (4, .int (0 : Int32)), (5, .int (2000 : Int32))]) d_Mo_act_18 (by decide) rfl ?_
    refine z_sipush E (v := -2000) d_Mo_act_20 (by decide) ?_
    refine z_istore E [1, 2, 3, 4, 5, 6, 0] (lv' := [(0, zf G 32), (1, .int v1), (2, .int v2), (3, .int v3), (4, .int (0 : Int32)), (5, .int (2000 : Int32)), (6, .int (-2000 : Int32))]) d_Mo_act_23 (by decide) rfl ?_
    refine z_iconst E (v := 0) d_Mo_act_25 (by decide) ?_
    refine z_istore E [1, 2, 3, 4, 5, 6, 7, 0] (lv' := [(0, zf G 32), (1, .int v1), (2, .int v2), (3, .int v3), (4, .int (0 : Int32)), (5, .int (2000 : Int32)), (6, .int (-2000 : Int32)), (7, .int (0 : Int32))]) d_Mo_act_26 (by decide) rfl ?_
    refine z_iconst E (v := 0) d_Mo_act_28 (by decide) ?_
    refine z_istore E [1, 2, 3, 4, 5, 6, 7, 8, 0] (lv' := [(0, zf G 32), (1, .int v1), (2, .int v2), (3, .int v3), (4, .int (0 : Int32)), (5, .int (2000 : Int32)), (6, .int (-2000 : Int32)), (7, .int (0 : Int32)), (8, .int (0 : Int32))]) d_Mo_act_29 (by decide) rfl ?_
    exact h
  · replace h := h.2 q
    refine z_iconst E (v := 1) d_Mo_act_8 (by decide) ?_
    refine z_goto E d_Mo_act_9 (tgt := 13) (by decide) ?_
    refine z_istore E [1, 2, 3, 4, 0] (lv' := [(0, zf G 32), (1, .int v1), (2, .int v2), (3, .int v3), (4, .int (1 : Int32))]) d_Mo_act_13 (by decide) rfl ?_
    refine z_sipush E (v := 2000) d_Mo_act_15 (by decide) ?_
    refine z_istore E [1, 2, 3, 4, 5, 0] (lv' := [(0, zf G 32), (1, .int v1), (2, .int v2), (3, .int v3), (4, .int (1 : Int32)), (5, .int (2000 : Int32))]) d_Mo_act_18 (by decide) rfl ?_
    refine z_sipush E (v := -2000) d_Mo_act_20 (by decide) ?_
    refine z_istore E [1, 2, 3, 4, 5, 6, 0] (lv' := [(0, zf G 32), (1, .int v1), (2, .int v2), (3, .int v3), (4, .int (1 : Int32)), (5, .int (2000 : Int32)), (6, .int (-2000 : Int32))]) d_Mo_act_23 (by decide) rfl ?_
    refine z_iconst E (v := 0) d_Mo_act_25 (by decide) ?_
    refine z_istore E [1, 2, 3, 4, 5, 6, 7, 0] (lv' := [(0, zf G 32), (1, .int v1), (2, .int v2), (3, .int v3), (4, .int (1 : Int32)), (5, .int (2000 : Int32)), (6, .int (-2000 : Int32)), (7, .int (0 : Int32))]) d_Mo_act_26 (by decide) rfl ?_
    refine z_iconst E (v := 0) d_Mo_act_28 (by decide) ?_
    refine z_istore E [1, 2, 3, 4, 5, 6, 7, 8, 0] (lv' := [(0, zf G 32), (1, .int v1), (2, .int v2), (3, .int v3), (4, .int (1 : Int32)), (5, .int (2000 : Int32)), (6, .int (-2000 : Int32)), (7, .int (0 : Int32)), (8, .int (0 : Int32))]) d_Mo_act_29 (by decide) rfl ?_
    exact h

set_option maxRecDepth 20000 in
set_option maxHeartbeats 4000000 in
theorem b_Mo_act_31 {G : zG} {X : zX} {post : Option Value → zSt → Prop} (E : zCtx G M_Mo_act (zKm G 1 X post) X) (v1 : Int32) (v2 : Int32) (v3 : Int32) (v4 : Int32) (v5 : Int32) (v6 : Int32) (v7 : Int32) (v8 : Int32) (σ : zSt)
    (h : (((σ 32 0) ≤ v8 → ((v6 ≤ (-2000 : Int32) → zZ G M_Mo_act 1 X post 174 [(0, zf G 32), (1, .int v1), (2, .int v2), (3, .int v3), (4, .int v4), (5, .int v5), (6, .int v6), (7, .int v7), (8, .int (0 : Int32))] [] σ) ∧ (¬ v6 ≤ (-2000 : Int32) → zZ G M_Mo_act 1 X post 174 [(0, zf G 32), (1, .int v1), (2, .int v2), (3, .int v3), (4, .int v4), (5, .int v5), (6, .int v6), (7, .int v7), (8, .int (1 : Int32))] [] σ))) ∧ (¬ (σ 32 0) ≤ v8 → (vp_in v8 12 ∧ (((σ 54 v8.toNatClampNeg) = 0 → zZ G M_Mo_act 1 X post 31 [(0, zf G 32), (1, .int v1), (2, .int v2), (3, .int v3), (4, .int v4), (5, .int v5), (6, .int v6), (7, .int v7), (8, .int (v8 + 1))] [] σ) ∧ (¬ (σ 54 v8.toNatClampNeg) = 0 → (vp_in v8 12 ∧ ((v4 = 0 → ((v5 ≤ ((σ 55 v8.toNatClampNeg) + (0 : Int32)) → ((((σ 55 v8.toNatClampNeg) + (0 : Int32)) ≤ v6 → zZ G M_Mo_act 1 X post 113 [(0, zf G 32), (1, .int v1), (2, .int v2), (3, .int v3), (4, .int v4), (5, .int v5), (6, .int v6), (7, .int v7), (8, .int v8), (9, .int ((σ 55 v8.toNatClampNeg) + (0 : Int32)))] [] σ) ∧ (¬ ((σ 55 v8.toNatClampNeg) + (0 : Int32)) ≤ v6 → zZ G M_Mo_act 1 X post 113 [(0, zf G 32), (1, .int v1), (2, .int v2), (3, .int v3), (4, .int v4), (5, .int v5), (6, .int ((σ 55 v8.toNatClampNeg) + (0 : Int32))), (7, .int v7), (8, .int v8), (9, .int ((σ 55 v8.toNatClampNeg) + (0 : Int32)))] [] σ))) ∧ (¬ v5 ≤ ((σ 55 v8.toNatClampNeg) + (0 : Int32)) → ((((σ 55 v8.toNatClampNeg) + (0 : Int32)) ≤ v6 → zZ G M_Mo_act 1 X post 113 [(0, zf G 32), (1, .int v1), (2, .int v2), (3, .int v3), (4, .int v4), (5, .int ((σ 55 v8.toNatClampNeg) + (0 : Int32))), (6, .int v6), (7, .int v7), (8, .int v8), (9, .int ((σ 55 v8.toNatClampNeg) + (0 : Int32)))] [] σ) ∧ (¬ ((σ 55 v8.toNatClampNeg) + (0 : Int32)) ≤ v6 → zZ G M_Mo_act 1 X post 113 [(0, zf G 32), (1, .int v1), (2, .int v2), (3, .int v3), (4, .int v4), (5, .int ((σ 55 v8.toNatClampNeg) + (0 : Int32))), (6, .int ((σ 55 v8.toNatClampNeg) + (0 : Int32))), (7, .int v7), (8, .int v8), (9, .int ((σ 55 v8.toNatClampNeg) + (0 : Int32)))] [] σ))))) ∧ (¬ v4 = 0 → (vp_in (((12 : Int32) * v8) + v2) 144 ∧ ((v5 ≤ ((σ 55 v8.toNatClampNeg) + (σ 33 (((12 : Int32) * v8) + v2).toNatClampNeg)) → ((((σ 55 v8.toNatClampNeg) + (σ 33 (((12 : Int32) * v8) + v2).toNatClampNeg)) ≤ v6 → zZ G M_Mo_act 1 X post 113 [(0, zf G 32), (1, .int v1), (2, .int v2), (3, .int v3), (4, .int v4), (5, .int v5), (6, .int v6), (7, .int v7), (8, .int v8), (9, .int ((σ 55 v8.toNatClampNeg) + (σ 33 (((12 : Int32) * v8) + v2).toNatClampNeg)))] [] σ) ∧ (¬ ((σ 55 v8.toNatClampNeg) + (σ 33 (((12 : Int32) * v8) + v2).toNatClampNeg)) ≤ v6 → zZ G M_Mo_act 1 X post 113 [(0, zf G 32), (1, .int v1), (2, .int v2), (3, .int v3), (4, .int v4), (5, .int v5), (6, .int ((σ 55 v8.toNatClampNeg) + (σ 33 (((12 : Int32) * v8) + v2).toNatClampNeg))), (7, .int v7), (8, .int v8), (9, .int ((σ 55 v8.toNatClampNeg) + (σ 33 (((12 : Int32) * v8) + v2).toNatClampNeg)))] [] σ))) ∧ (¬ v5 ≤ ((σ 55 v8.toNatClampNeg) + (σ 33 (((12 : Int32) * v8) + v2).toNatClampNeg)) → ((((σ 55 v8.toNatClampNeg) + (σ 33 (((12 : Int32) * v8) + v2).toNatClampNeg)) ≤ v6 → zZ G M_Mo_act 1 X post 113 [(0, zf G 32), (1, .int v1), (2, .int v2), (3, .int v3), (4, .int v4), (5, .int ((σ 55 v8.toNatClampNeg) + (σ 33 (((12 : Int32) * v8) + v2).toNatClampNeg))), (6, .int v6), (7, .int v7), (8, .int v8), (9, .int ((σ 55 v8.toNatClampNeg) + (σ 33 (((12 : Int32) * v8) + v2).toNatClampNeg)))] [] σ) ∧ (¬ ((σ 55 v8.toNatClampNeg) + (σ 33 (((12 : Int32) * v8) + v2).toNatClampNeg)) ≤ v6 → zZ G M_Mo_act 1 X post 113 [(0, zf G 32), (1, .int v1), (2, .int v2), (3, .int v3), (4, .int v4), (5, .int ((σ 55 v8.toNatClampNeg) + (σ 33 (((12 : Int32) * v8) + v2).toNatClampNeg))), (6, .int ((σ 55 v8.toNatClampNeg) + (σ 33 (((12 : Int32) * v8) + v2).toNatClampNeg))), (7, .int v7), (8, .int v8), (9, .int ((σ 55 v8.toNatClampNeg) + (σ 33 (((12 : Int32) * v8) + v2).toNatClampNeg)))] [] σ)))))))))))))) :
    zZ G M_Mo_act 1 X post 31 [(0, zf G 32), (1, .int v1), (2, .int v2), (3, .int v3), (4, .int v4), (5, .int v5), (6, .int v6), (7, .int v7), (8, .int v8)] [] σ := by
  refine z_iload E 8 d_Mo_act_31 rfl ?_
  refine z_aload_n E 0 d_Mo_act_33 rfl rfl ?_
  refine z_getI E f_Mo_84 d_Mo_act_34 ?_
  refine z_icmp_ge E d_Mo_act_37 (tgt := 159) (by decide) ⟨fun q => ?_, fun q => ?_⟩
  · replace h := h.1 q
    refine z_iload E 6 d_Mo_act_159 rfl ?_
    refine z_sipush E (v := -2000) d_Mo_act_161 (by decide) ?_
    refine z_icmp_le E d_Mo_act_164 (tgt := 171) (by decide) ⟨fun q => ?_, fun q => ?_⟩
    · replace h := h.1 q
      refine z_iconst E (v := 0) d_Mo_act_171 (by decide) ?_
      refine z_istore E [1, 2, 3, 4, 5, 6, 7, 8, 0] (lv' := [(0, zf G 32), (1, .int v1), (2, .int v2), (3, .int v3), (4, .int v4), (5, .int v5), (6, .int v6), (7, .int v7), (8, .int (0 : Int32))]) d_Mo_act_172 (by decide) rfl ?_
      exact h
    · replace h := h.2 q
      refine z_iconst E (v := 1) d_Mo_act_167 (by decide) ?_
      refine z_goto E d_Mo_act_168 (tgt := 172) (by decide) ?_
      refine z_istore E [1, 2, 3, 4, 5, 6, 7, 8, 0] (lv' := [(0, zf G 32), (1, .int v1), (2, .int v2), (3, .int v3), (4, .int v4), (5, .int v5), (6, .int v6), (7, .int v7), (8, .int (1 : Int32))]) d_Mo_act_172 (by decide) rfl ?_
      exact h
  · replace h := h.2 q
    refine z_aload_n E 0 d_Mo_act_40 rfl rfl ?_
    refine z_getR E f_Mo_74 d_Mo_act_41 ?_
    refine z_iload E 8 d_Mo_act_44 rfl ?_
    obtain ⟨h0, h⟩ := h
    refine z_zald E rfl d_Mo_act_46 ⟨h0, ?_⟩
    refine z_if_eq E d_Mo_act_47 (tgt := 153) (by decide) ⟨fun q => ?_, fun q => ?_⟩
    · replace h := h.1 q
      refine z_iinc E 8 [1, 2, 3, 4, 5, 6, 7, 8, 0] (v := v8 + 1) (lv' := [(0, zf G 32), (1, .int v1), (2, .int v2), (3, .int v3), (4, .int v4), (5, .int v5), (6, .int v6), (7, .int v7), (8, .int (v8 + 1))]) d_Mo_act_153 rfl rfl (by decide) rfl ?_
      refine z_goto E d_Mo_act_156 (tgt := 31) (by decide) ?_
      exact h
    · replace h := h.2 q
      refine z_aload_n E 0 d_Mo_act_50 rfl rfl ?_
      refine z_getR E f_Mo_77 d_Mo_act_51 ?_
      refine z_iload E 8 d_Mo_act_54 rfl ?_
      obtain ⟨h0, h⟩ := h
      refine z_iald E rfl d_Mo_act_56 ⟨h0, ?_⟩
      refine z_iload E 4 d_Mo_act_57 rfl ?_
      refine z_if_eq E d_Mo_act_59 (tgt := 77) (by decide) ⟨fun q => ?_, fun q => ?_⟩
      · replace h := h.1 q
        refine z_iconst E (v := 0) d_Mo_act_77 (by decide) ?_
        refine z_iadd E d_Mo_act_78 ?_
        refine z_istore E [1, 2, 3, 4, 5, 6, 7, 8, 9, 0] (lv' := [(0, zf G 32), (1, .int v1), (2, .int v2), (3, .int v3), (4, .int v4), (5, .int v5), (6, .int v6), (7, .int v7), (8, .int v8), (9, .int ((σ 55 v8.toNatClampNeg) + (0 : Int32)))]) d_Mo_act_79 (by decide) rfl ?_
        refine z_iload E 9 d_Mo_act_81 rfl ?_
        refine z_iload E 5 d_Mo_act_83 rfl ?_
        refine z_icmp_ge E d_Mo_act_85 (tgt := 93) (by decide) ⟨fun q => ?_, fun q => ?_⟩
        · replace h := h.1 q
          refine z_iload E 5 d_Mo_act_93 rfl ?_
          refine z_istore E [1, 2, 3, 4, 5, 0, 6, 7, 8, 9] (lv' := [(0, zf G 32), (1, .int v1), (2, .int v2), (3, .int v3), (4, .int v4), (5, .int v5), (6, .int v6), (7, .int v7), (8, .int v8), (9, .int ((σ 55 v8.toNatClampNeg) + (0 : Int32)))]) d_Mo_act_95 (by decide) rfl ?_
          refine z_iload E 9 d_Mo_act_97 rfl ?_
          refine z_iload E 6 d_Mo_act_99 rfl ?_
          refine z_icmp_le E d_Mo_act_101 (tgt := 109) (by decide) ⟨fun q => ?_, fun q => ?_⟩
          · replace h := h.1 q
            refine z_iload E 6 d_Mo_act_109 rfl ?_
            refine z_istore E [1, 2, 3, 4, 5, 6, 0, 7, 8, 9] (lv' := [(0, zf G 32), (1, .int v1), (2, .int v2), (3, .int v3), (4, .int v4), (5, .int v5), (6, .int v6), (7, .int v7), (8, .int v8), (9, .int ((σ 55 v8.toNatClampNeg) + (0 : Int32)))]) d_Mo_act_111 (by decide) rfl ?_
            exact h
          · replace h := h.2 q
            refine z_iload E 9 d_Mo_act_104 rfl ?_
            refine z_goto E d_Mo_act_106 (tgt := 111) (by decide) ?_
            refine z_istore E [1, 2, 3, 4, 5, 6, 0, 7, 8, 9] (lv' := [(0, zf G 32), (1, .int v1), (2, .int v2), (3, .int v3), (4, .int v4), (5, .int v5), (6, .int ((σ 55 v8.toNatClampNeg) + (0 : Int32))), (7, .int v7), (8, .int v8), (9, .int ((σ 55 v8.toNatClampNeg) + (0 : Int32)))]) d_Mo_act_111 (by decide) rfl ?_
            exact h
        · replace h := h.2 q
          refine z_iload E 9 d_Mo_act_88 rfl ?_
          refine z_goto E d_Mo_act_90 (tgt := 95) (by decide) ?_
          refine z_istore E [1, 2, 3, 4, 5, 0, 6, 7, 8, 9] (lv' := [(0, zf G 32), (1, .int v1), (2, .int v2), (3, .int v3), (4, .int v4), (5, .int ((σ 55 v8.toNatClampNeg) + (0 : Int32))), (6, .int v6), (7, .int v7), (8, .int v8), (9, .int ((σ 55 v8.toNatClampNeg) + (0 : Int32)))]) d_Mo_act_95 (by decide) rfl ?_
          refine z_iload E 9 d_Mo_act_97 rfl ?_
          refine z_iload E 6 d_Mo_act_99 rfl ?_
          refine z_icmp_le E d_Mo_act_101 (tgt := 109) (by decide) ⟨fun q => ?_, fun q => ?_⟩
          · replace h := h.1 q
            refine z_iload E 6 d_Mo_act_109 rfl ?_
            refine z_istore E [1, 2, 3, 4, 5, 6, 0, 7, 8, 9] (lv' := [(0, zf G 32), (1, .int v1), (2, .int v2), (3, .int v3), (4, .int v4), (5, .int ((σ 55 v8.toNatClampNeg) + (0 : Int32))), (6, .int v6), (7, .int v7), (8, .int v8), (9, .int ((σ 55 v8.toNatClampNeg) + (0 : Int32)))]) d_Mo_act_111 (by decide) rfl ?_
            exact h
          · replace h := h.2 q
            refine z_iload E 9 d_Mo_act_104 rfl ?_
            refine z_goto E d_Mo_act_106 (tgt := 111) (by decide) ?_
            refine z_istore E [1, 2, 3, 4, 5, 6, 0, 7, 8, 9] (lv' := [(0, zf G 32), (1, .int v1), (2, .int v2), (3, .int v3), (4, .int v4), (5, .int ((σ 55 v8.toNatClampNeg) + (0 : Int32))), (6, .int ((σ 55 v8.toNatClampNeg) + (0 : Int32))), (7, .int v7), (8, .int v8), (9, .int ((σ 55 v8.toNatClampNeg) + (0 : Int32)))]) d_Mo_act_111 (by decide) rfl ?_
            exact h
      · replace h := h.2 q
        refine z_aload_n E 0 d_Mo_act_62 rfl rfl ?_
        refine z_getR E f_Mo_7 d_Mo_act_63 ?_
        refine z_bipush E (v := 12) d_Mo_act_66 (by decide) ?_
        refine z_iload E 8 d_Mo_act_68 rfl ?_
        refine z_imul E d_Mo_act_70 ?_
        refine z_iload_n E 2 d_Mo_act_71 rfl rfl ?_
        refine z_iadd E d_Mo_act_72 ?_
        obtain ⟨h0, h⟩ := h
        refine z_iald E rfl d_Mo_act_73 ⟨h0, ?_⟩
        refine z_goto E d_Mo_act_74 (tgt := 78) (by decide) ?_
        refine z_iadd E d_Mo_act_78 ?_
        refine z_istore E [1, 2, 3, 4, 5, 6, 7, 8, 9, 0] (lv' := [(0, zf G 32), (1, .int v1), (2, .int v2), (3, .int v3), (4, .int v4), (5, .int v5), (6, .int v6), (7, .int v7), (8, .int v8), (9, .int ((σ 55 v8.toNatClampNeg) + (σ 33 (((12 : Int32) * v8) + v2).toNatClampNeg)))]) d_Mo_act_79 (by decide) rfl ?_
        refine z_iload E 9 d_Mo_act_81 rfl ?_
        refine z_iload E 5 d_Mo_act_83 rfl ?_
        refine z_icmp_ge E d_Mo_act_85 (tgt := 93) (by decide) ⟨fun q => ?_, fun q => ?_⟩
        · replace h := h.1 q
          refine z_iload E 5 d_Mo_act_93 rfl ?_
          refine z_istore E [1, 2, 3, 4, 5, 0, 6, 7, 8, 9] (lv' := [(0, zf G 32), (1, .int v1), (2, .int v2), (3, .int v3), (4, .int v4), (5, .int v5), (6, .int v6), (7, .int v7), (8, .int v8), (9, .int ((σ 55 v8.toNatClampNeg) + (σ 33 (((12 : Int32) * v8) + v2).toNatClampNeg)))]) d_Mo_act_95 (by decide) rfl ?_
          refine z_iload E 9 d_Mo_act_97 rfl ?_
          refine z_iload E 6 d_Mo_act_99 rfl ?_
          refine z_icmp_le E d_Mo_act_101 (tgt := 109) (by decide) ⟨fun q => ?_, fun q => ?_⟩
          · replace h := h.1 q
            refine z_iload E 6 d_Mo_act_109 rfl ?_
            refine z_istore E [1, 2, 3, 4, 5, 6, 0, 7, 8, 9] (lv' := [(0, zf G 32), (1, .int v1), (2, .int v2), (3, .int v3), (4, .int v4), (5, .int v5), (6, .int v6), (7, .int v7), (8, .int v8), (9, .int ((σ 55 v8.toNatClampNeg) + (σ 33 (((12 : Int32) * v8) + v2).toNatClampNeg)))]) d_Mo_act_111 (by decide) rfl ?_
            exact h
          · replace h := h.2 q
            refine z_iload E 9 d_Mo_act_104 rfl ?_
            refine z_goto E d_Mo_act_106 (tgt := 111) (by decide) ?_
            refine z_istore E [1, 2, 3, 4, 5, 6, 0, 7, 8, 9] (lv' := [(0, zf G 32), (1, .int v1), (2, .int v2), (3, .int v3), (4, .int v4), (5, .int v5), (6, .int ((σ 55 v8.toNatClampNeg) + (σ 33 (((12 : Int32) * v8) + v2).toNatClampNeg))), (7, .int v7), (8, .int v8), (9, .int ((σ 55 v8.toNatClampNeg) + (σ 33 (((12 : Int32) * v8) + v2).toNatClampNeg)))]) d_Mo_act_111 (by decide) rfl ?_
            exact h
        · replace h := h.2 q
          refine z_iload E 9 d_Mo_act_88 rfl ?_
          refine z_goto E d_Mo_act_90 (tgt := 95) (by decide) ?_
          refine z_istore E [1, 2, 3, 4, 5, 0, 6, 7, 8, 9] (lv' := [(0, zf G 32), (1, .int v1), (2, .int v2), (3, .int v3), (4, .int v4), (5, .int ((σ 55 v8.toNatClampNeg) + (σ 33 (((12 : Int32) * v8) + v2).toNatClampNeg))), (6, .int v6), (7, .int v7), (8, .int v8), (9, .int ((σ 55 v8.toNatClampNeg) + (σ 33 (((12 : Int32) * v8) + v2).toNatClampNeg)))]) d_Mo_act_95 (by decide) rfl ?_
          refine z_iload E 9 d_Mo_act_97 rfl ?_
          refine z_iload E 6 d_Mo_act_99 rfl ?_
          refine z_icmp_le E d_Mo_act_101 (tgt := 109) (by decide) ⟨fun q => ?_, fun q => ?_⟩
          · replace h := h.1 q
            refine z_iload E 6 d_Mo_act_109 rfl ?_
            refine z_istore E [1, 2, 3, 4, 5, 6, 0, 7, 8, 9] (lv' := [(0, zf G 32), (1, .int v1), (2, .int v2), (3, .int v3), (4, .int v4), (5, .int ((σ 55 v8.toNatClampNeg) + (σ 33 (((12 : Int32) * v8) + v2).toNatClampNeg))), (6, .int v6), (7, .int v7), (8, .int v8), (9, .int ((σ 55 v8.toNatClampNeg) + (σ 33 (((12 : Int32) * v8) + v2).toNatClampNeg)))]) d_Mo_act_111 (by decide) rfl ?_
            exact h
          · replace h := h.2 q
            refine z_iload E 9 d_Mo_act_104 rfl ?_
            refine z_goto E d_Mo_act_106 (tgt := 111) (by decide) ?_
            refine z_istore E [1, 2, 3, 4, 5, 6, 0, 7, 8, 9] (lv' := [(0, zf G 32), (1, .int v1), (2, .int v2), (3, .int v3), (4, .int v4), (5, .int ((σ 55 v8.toNatClampNeg) + (σ 33 (((12 : Int32) * v8) + v2).toNatClampNeg))), (6, .int ((σ 55 v8.toNatClampNeg) + (σ 33 (((12 : Int32) * v8) + v2).toNatClampNeg))), (7, .int v7), (8, .int v8), (9, .int ((σ 55 v8.toNatClampNeg) + (σ 33 (((12 : Int32) * v8) + v2).toNatClampNeg)))]) d_Mo_act_111 (by decide) rfl ?_
            exact h

set_option maxRecDepth 20000 in
set_option maxHeartbeats 4000000 in
theorem b_Mo_act_113 {G : zG} {X : zX} {post : Option Value → zSt → Prop} (E : zCtx G M_Mo_act (zKm G 1 X post) X) (v1 : Int32) (v2 : Int32) (v3 : Int32) (v4 : Int32) (v5 : Int32) (v6 : Int32) (v7 : Int32) (v8 : Int32) (v9 : Int32) (σ : zSt)
    (h : ((¬ v7 = 0 → zZ G M_Mo_act 1 X post 31 [(0, zf G 32), (1, .int v1), (2, .int v2), (3, .int v3), (4, .int v4), (5, .int v5), (6, .int v6), (7, .int (1 : Int32)), (8, .int (v8 + 1))] [] σ) ∧ (v7 = 0 → (vp_in v2 12 ∧ (((σ 34 v2.toNatClampNeg) < v9 → zZ G M_Mo_act 1 X post 31 [(0, zf G 32), (1, .int v1), (2, .int v2), (3, .int v3), (4, .int v4), (5, .int v5), (6, .int v6), (7, .int (1 : Int32)), (8, .int (v8 + 1))] [] σ) ∧ (¬ (σ 34 v2.toNatClampNeg) < v9 → (vp_in v2 12 ∧ ((¬ v9 = (σ 34 v2.toNatClampNeg) → zZ G M_Mo_act 1 X post 31 [(0, zf G 32), (1, .int v1), (2, .int v2), (3, .int v3), (4, .int v4), (5, .int v5), (6, .int v6), (7, .int (0 : Int32)), (8, .int (v8 + 1))] [] σ) ∧ (v9 = (σ 34 v2.toNatClampNeg) → ((v8 ≤ v2 → zZ G M_Mo_act 1 X post 31 [(0, zf G 32), (1, .int v1), (2, .int v2), (3, .int v3), (4, .int v4), (5, .int v5), (6, .int v6), (7, .int (0 : Int32)), (8, .int (v8 + 1))] [] σ) ∧ (¬ v8 ≤ v2 → zZ G M_Mo_act 1 X post 31 [(0, zf G 32), (1, .int v1), (2, .int v2), (3, .int v3), (4, .int v4), (5, .int v5), (6, .int v6), (7, .int (1 : Int32)), (8, .int (v8 + 1))] [] σ))))))))))) :
    zZ G M_Mo_act 1 X post 113 [(0, zf G 32), (1, .int v1), (2, .int v2), (3, .int v3), (4, .int v4), (5, .int v5), (6, .int v6), (7, .int v7), (8, .int v8), (9, .int v9)] [] σ := by
  refine z_iload E 7 d_Mo_act_113 rfl ?_
  refine z_if_ne E d_Mo_act_115 (tgt := 146) (by decide) ⟨fun q => ?_, fun q => ?_⟩
  · replace h := h.1 q
    refine z_iconst E (v := 1) d_Mo_act_146 (by decide) ?_
    refine z_goto E d_Mo_act_147 (tgt := 151) (by decide) ?_
    refine z_istore E [1, 2, 3, 4, 5, 6, 7, 0, 8] (lv' := [(0, zf G 32), (1, .int v1), (2, .int v2), (3, .int v3), (4, .int v4), (5, .int v5), (6, .int v6), (7, .int (1 : Int32)), (8, .int v8)]) d_Mo_act_151 (by decide) rfl ?_
    refine z_iinc E 8 [1, 2, 3, 4, 5, 6, 7, 8, 0] (v := v8 + 1) (lv' := [(0, zf G 32), (1, .int v1), (2, .int v2), (3, .int v3), (4, .int v4), (5, .int v5), (6, .int v6), (7, .int (1 : Int32)), (8, .int (v8 + 1))]) d_Mo_act_153 rfl rfl (by decide) rfl ?_
    refine z_goto E d_Mo_act_156 (tgt := 31) (by decide) ?_
    exact h
  · replace h := h.2 q
    refine z_iload E 9 d_Mo_act_118 rfl ?_
    refine z_aload_n E 0 d_Mo_act_120 rfl rfl ?_
    refine z_getR E f_Mo_13 d_Mo_act_121 ?_
    refine z_iload_n E 2 d_Mo_act_124 rfl rfl ?_
    obtain ⟨h0, h⟩ := h
    refine z_iald E rfl d_Mo_act_125 ⟨h0, ?_⟩
    refine z_icmp_gt E d_Mo_act_126 (tgt := 146) (by decide) ⟨fun q => ?_, fun q => ?_⟩
    · replace h := h.1 q
      refine z_iconst E (v := 1) d_Mo_act_146 (by decide) ?_
      refine z_goto E d_Mo_act_147 (tgt := 151) (by decide) ?_
      refine z_istore E [1, 2, 3, 4, 5, 6, 7, 0, 8] (lv' := [(0, zf G 32), (1, .int v1), (2, .int v2), (3, .int v3), (4, .int v4), (5, .int v5), (6, .int v6), (7, .int (1 : Int32)), (8, .int v8)]) d_Mo_act_151 (by decide) rfl ?_
      refine z_iinc E 8 [1, 2, 3, 4, 5, 6, 7, 8, 0] (v := v8 + 1) (lv' := [(0, zf G 32), (1, .int v1), (2, .int v2), (3, .int v3), (4, .int v4), (5, .int v5), (6, .int v6), (7, .int (1 : Int32)), (8, .int (v8 + 1))]) d_Mo_act_153 rfl rfl (by decide) rfl ?_
      refine z_goto E d_Mo_act_156 (tgt := 31) (by decide) ?_
      exact h
    · replace h := h.2 q
      refine z_iload E 9 d_Mo_act_129 rfl ?_
      refine z_aload_n E 0 d_Mo_act_131 rfl rfl ?_
      refine z_getR E f_Mo_13 d_Mo_act_132 ?_
      refine z_iload_n E 2 d_Mo_act_135 rfl rfl ?_
      obtain ⟨h0, h⟩ := h
      refine z_iald E rfl d_Mo_act_136 ⟨h0, ?_⟩
      refine z_icmp_ne E d_Mo_act_137 (tgt := 150) (by decide) ⟨fun q => ?_, fun q => ?_⟩
      · replace h := h.1 q
        refine z_iconst E (v := 0) d_Mo_act_150 (by decide) ?_
        refine z_istore E [1, 2, 3, 4, 5, 6, 7, 0, 8] (lv' := [(0, zf G 32), (1, .int v1), (2, .int v2), (3, .int v3), (4, .int v4), (5, .int v5), (6, .int v6), (7, .int (0 : Int32)), (8, .int v8)]) d_Mo_act_151 (by decide) rfl ?_
        refine z_iinc E 8 [1, 2, 3, 4, 5, 6, 7, 8, 0] (v := v8 + 1) (lv' := [(0, zf G 32), (1, .int v1), (2, .int v2), (3, .int v3), (4, .int v4), (5, .int v5), (6, .int v6), (7, .int (0 : Int32)), (8, .int (v8 + 1))]) d_Mo_act_153 rfl rfl (by decide) rfl ?_
        refine z_goto E d_Mo_act_156 (tgt := 31) (by decide) ?_
        exact h
      · replace h := h.2 q
        refine z_iload E 8 d_Mo_act_140 rfl ?_
        refine z_iload_n E 2 d_Mo_act_142 rfl rfl ?_
        refine z_icmp_le E d_Mo_act_143 (tgt := 150) (by decide) ⟨fun q => ?_, fun q => ?_⟩
        · replace h := h.1 q
          refine z_iconst E (v := 0) d_Mo_act_150 (by decide) ?_
          refine z_istore E [1, 2, 3, 4, 5, 6, 7, 0, 8] (lv' := [(0, zf G 32), (1, .int v1), (2, .int v2), (3, .int v3), (4, .int v4), (5, .int v5), (6, .int v6), (7, .int (0 : Int32)), (8, .int v8)]) d_Mo_act_151 (by decide) rfl ?_
          refine z_iinc E 8 [1, 2, 3, 4, 5, 6, 7, 8, 0] (v := v8 + 1) (lv' := [(0, zf G 32), (1, .int v1), (2, .int v2), (3, .int v3), (4, .int v4), (5, .int v5), (6, .int v6), (7, .int (0 : Int32)), (8, .int (v8 + 1))]) d_Mo_act_153 rfl rfl (by decide) rfl ?_
          refine z_goto E d_Mo_act_156 (tgt := 31) (by decide) ?_
          exact h
        · replace h := h.2 q
          refine z_iconst E (v := 1) d_Mo_act_146 (by decide) ?_
          refine z_goto E d_Mo_act_147 (tgt := 151) (by decide) ?_
          refine z_istore E [1, 2, 3, 4, 5, 6, 7, 0, 8] (lv' := [(0, zf G 32), (1, .int v1), (2, .int v2), (3, .int v3), (4, .int v4), (5, .int v5), (6, .int v6), (7, .int (1 : Int32)), (8, .int v8)]) d_Mo_act_151 (by decide) rfl ?_
          refine z_iinc E 8 [1, 2, 3, 4, 5, 6, 7, 8, 0] (v := v8 + 1) (lv' := [(0, zf G 32), (1, .int v1), (2, .int v2), (3, .int v3), (4, .int v4), (5, .int v5), (6, .int v6), (7, .int (1 : Int32)), (8, .int (v8 + 1))]) d_Mo_act_153 rfl rfl (by decide) rfl ?_
          refine z_goto E d_Mo_act_156 (tgt := 31) (by decide) ?_
          exact h

set_option maxRecDepth 20000 in
set_option maxHeartbeats 4000000 in
theorem b_Mo_act_174 {G : zG} {X : zX} {post : Option Value → zSt → Prop} (E : zCtx G M_Mo_act (zKm G 1 X post) X) (v1 : Int32) (v2 : Int32) (v3 : Int32) (v4 : Int32) (v5 : Int32) (v6 : Int32) (v7 : Int32) (v8 : Int32) (σ : zSt)
    (h : ((¬ (σ 32 5) = (2 : Int32) → ((¬ v3 = (1 : Int32) → ((v8 = 0 → zZ G M_Mo_act 1 X post 382 [(0, zf G 32), (1, .int v1), (2, .int v2), (4, .int v4), (5, .int v5), (6, .int v6), (9, .int (0 : Int32))] [] σ) ∧ (¬ v8 = 0 → ((¬ (σ 32 5) = (1 : Int32) → (vp_in v1 24 ∧ (((σ 47 v1.toNatClampNeg) = (-2 : Int32) → zZ G M_Mo_act 1 X post 382 [(0, zf G 32), (1, .int v1), (2, .int v2), (4, .int v4), (5, .int v5), (6, .int v6), (9, .int (1 : Int32))] [] σ) ∧ (¬ (σ 47 v1.toNatClampNeg) = (-2 : Int32) → ((v4 = 0 → zZ G M_Mo_act 1 X post 382 [(0, zf G 32), (1, .int v1), (2, .int v2), (4, .int v4), (5, .int v5), (6, .int v6), (9, .int (0 : Int32))] [] σ) ∧ (¬ v4 = 0 → (vp_in v1 24 ∧ (((σ 47 v1.toNatClampNeg) ≤ v5 → zZ G M_Mo_act 1 X post 382 [(0, zf G 32), (1, .int v1), (2, .int v2), (4, .int v4), (5, .int v5), (6, .int v6), (9, .int (0 : Int32))] [] σ) ∧ (¬ (σ 47 v1.toNatClampNeg) ≤ v5 → zZ G M_Mo_act 1 X post 382 [(0, zf G 32), (1, .int v1), (2, .int v2), (4, .int v4), (5, .int v5), (6, .int v6), (9, .int (1 : Int32))] [] σ))))))))) ∧ ((σ 32 5) = (1 : Int32) → (vp_in v1 24 ∧ ((v6 ≤ (σ 47 v1.toNatClampNeg) → zZ G M_Mo_act 1 X post 382 [(0, zf G 32), (1, .int v1), (2, .int v2), (4, .int v4), (5, .int v5), (6, .int v6), (9, .int (0 : Int32))] [] σ) ∧ (¬ v6 ≤ (σ 47 v1.toNatClampNeg) → zZ G M_Mo_act 1 X post 382 [(0, zf G 32), (1, .int v1), (2, .int v2), (4, .int v4), (5, .int v5), (6, .int v6), (9, .int (1 : Int32))] [] σ)))))))) ∧ (v3 = (1 : Int32) → ((¬ (σ 32 5) = (1 : Int32) → ((v2 = (σ 32 7) → ((¬ (σ 32 5) = 0 → post (some (.int (0 : Int32))) σ) ∧ ((σ 32 5) = 0 → post (some (.int (1 : Int32))) σ))) ∧ (¬ v2 = (σ 32 7) → post (some (.int (-1000 : Int32))) σ))) ∧ ((σ 32 5) = (1 : Int32) → (vp_in v1 24 ∧ post (some (.int (σ 47 v1.toNatClampNeg))) σ)))))) ∧ ((σ 32 5) = (2 : Int32) → (vp_in v1 24 ∧ (((σ 47 v1.toNatClampNeg) = 0 → ((¬ (v3 - v3 / (2 : Int32) * (2 : Int32)) = 0 → ((v8 = 0 → (vp_in v2 12 ∧ post (some (.int (σ 34 v2.toNatClampNeg))) σ)) ∧ (¬ v8 = 0 → ((¬ v5 = (-1 : Int32) → (vp_in v2 12 ∧ post (some (.int (σ 34 v2.toNatClampNeg))) σ)) ∧ (v5 = (-1 : Int32) → (vp_in v1 24 ∧ ∀ σ1 : zSt, σ1 = zup σ 47 v1.toNatClampNeg (2 : Int32) → (∃ P : Int32 → zSt → Prop, zI G 0 M_Mo_writer [zf G 32, .int v2, .int (-1 : Int32), .int (0 : Int32)] σ1 P ∧ ∀ (x3 : Int32) (σ2 : zSt), P x3 σ2 → (vp_in v1 24 ∧ ∀ σ4 : zSt, σ4 = zup σ2 48 v1.toNatClampNeg x3 → post (some (.int (-1000 : Int32))) σ4)))))))) ∧ ((v3 - v3 / (2 : Int32) * (2 : Int32)) = 0 → ((v7 = 0 → (vp_in v1 24 ∧ ∀ σ5 : zSt, σ5 = zup σ 47 v1.toNatClampNeg (1 : Int32) → ((v7 = 0 → post (some (.int (-1 : Int32))) σ5) ∧ (¬ v7 = 0 → post (some (.int (-1000 : Int32))) σ5)))) ∧ (¬ v7 = 0 → (vp_in v1 24 ∧ ∀ σ6 : zSt, σ6 = zup σ 47 v1.toNatClampNeg (0 : Int32) → ((v7 = 0 → post (some (.int (-1 : Int32))) σ6) ∧ (¬ v7 = 0 → post (some (.int (-1000 : Int32))) σ6)))))))) ∧ (¬ (σ 47 v1.toNatClampNeg) = 0 → post (some (.int (-1000 : Int32))) σ)))))) :
    zZ G M_Mo_act 1 X post 174 [(0, zf G 32), (1, .int v1), (2, .int v2), (3, .int v3), (4, .int v4), (5, .int v5), (6, .int v6), (7, .int v7), (8, .int v8)] [] σ := by
  refine z_aload_n E 0 d_Mo_act_174 rfl rfl ?_
  refine z_getI E f_Mo_123 d_Mo_act_175 ?_
  refine z_iconst E (v := 2) d_Mo_act_178 (by decide) ?_
  refine z_icmp_ne E d_Mo_act_179 (tgt := 272) (by decide) ⟨fun q => ?_, fun q => ?_⟩
  · replace h := h.1 q
    refine z_iload_n E 3 d_Mo_act_272 rfl rfl ?_
    refine z_iconst E (v := 1) d_Mo_act_273 (by decide) ?_
    refine z_icmp_ne E d_Mo_act_274 (tgt := 321) (by decide) ⟨fun q => ?_, fun q => ?_⟩
    · replace h := h.1 q
      refine z_iload E 8 d_Mo_act_321 rfl ?_
      refine z_if_eq E d_Mo_act_323 (tgt := 379) (by decide) ⟨fun q => ?_, fun q => ?_⟩
      · replace h := h.1 q
        refine z_iconst E (v := 0) d_Mo_act_379 (by decide) ?_
        refine z_istore E [1, 2, 3, 5, 6, 7, 0] (lv' := [(0, zf G 32), (1, .int v1), (2, .int v2), (4, .int v4), (5, .int v5), (6, .int v6), (9, .int (0 : Int32))]) d_Mo_act_380 (by decide) rfl ?_
        exact h
      · replace h := h.2 q
        refine z_aload_n E 0 d_Mo_act_326 rfl rfl ?_
        refine z_getI E f_Mo_123 d_Mo_act_327 ?_
        refine z_iconst E (v := 1) d_Mo_act_330 (by decide) ?_
        refine z_icmp_ne E d_Mo_act_331 (tgt := 348) (by decide) ⟨fun q => ?_, fun q => ?_⟩
        · replace h := h.1 q
          refine z_aload_n E 0 d_Mo_act_348 rfl rfl ?_
          refine z_getR E f_Mo_53 d_Mo_act_349 ?_
          refine z_iload_n E 1 d_Mo_act_352 rfl rfl ?_
          obtain ⟨h0, h⟩ := h
          refine z_iald E rfl d_Mo_act_353 ⟨h0, ?_⟩
          refine z_bipush E (v := -2) d_Mo_act_354 (by decide) ?_
          refine z_icmp_eq E d_Mo_act_356 (tgt := 375) (by decide) ⟨fun q => ?_, fun q => ?_⟩
          · replace h := h.1 q
            refine z_iconst E (v := 1) d_Mo_act_375 (by decide) ?_
            refine z_goto E d_Mo_act_376 (tgt := 380) (by decide) ?_
            refine z_istore E [1, 2, 3, 5, 6, 7, 0] (lv' := [(0, zf G 32), (1, .int v1), (2, .int v2), (4, .int v4), (5, .int v5), (6, .int v6), (9, .int (1 : Int32))]) d_Mo_act_380 (by decide) rfl ?_
            exact h
          · replace h := h.2 q
            refine z_iload E 4 d_Mo_act_359 rfl ?_
            refine z_if_eq E d_Mo_act_361 (tgt := 379) (by decide) ⟨fun q => ?_, fun q => ?_⟩
            · replace h := h.1 q
              refine z_iconst E (v := 0) d_Mo_act_379 (by decide) ?_
              refine z_istore E [1, 2, 3, 5, 6, 7, 0] (lv' := [(0, zf G 32), (1, .int v1), (2, .int v2), (4, .int v4), (5, .int v5), (6, .int v6), (9, .int (0 : Int32))]) d_Mo_act_380 (by decide) rfl ?_
              exact h
            · replace h := h.2 q
              refine z_iload E 5 d_Mo_act_364 rfl ?_
              refine z_aload_n E 0 d_Mo_act_366 rfl rfl ?_
              refine z_getR E f_Mo_53 d_Mo_act_367 ?_
              refine z_iload_n E 1 d_Mo_act_370 rfl rfl ?_
              obtain ⟨h0, h⟩ := h
              refine z_iald E rfl d_Mo_act_371 ⟨h0, ?_⟩
              refine z_icmp_ge E d_Mo_act_372 (tgt := 379) (by decide) ⟨fun q => ?_, fun q => ?_⟩
              · replace h := h.1 q
                refine z_iconst E (v := 0) d_Mo_act_379 (by decide) ?_
                refine z_istore E [1, 2, 3, 5, 6, 7, 0] (lv' := [(0, zf G 32), (1, .int v1), (2, .int v2), (4, .int v4), (5, .int v5), (6, .int v6), (9, .int (0 : Int32))]) d_Mo_act_380 (by decide) rfl ?_
                exact h
              · replace h := h.2 q
                refine z_iconst E (v := 1) d_Mo_act_375 (by decide) ?_
                refine z_goto E d_Mo_act_376 (tgt := 380) (by decide) ?_
                refine z_istore E [1, 2, 3, 5, 6, 7, 0] (lv' := [(0, zf G 32), (1, .int v1), (2, .int v2), (4, .int v4), (5, .int v5), (6, .int v6), (9, .int (1 : Int32))]) d_Mo_act_380 (by decide) rfl ?_
                exact h
        · replace h := h.2 q
          refine z_iload E 6 d_Mo_act_334 rfl ?_
          refine z_aload_n E 0 d_Mo_act_336 rfl rfl ?_
          refine z_getR E f_Mo_53 d_Mo_act_337 ?_
          refine z_iload_n E 1 d_Mo_act_340 rfl rfl ?_
          obtain ⟨h0, h⟩ := h
          refine z_iald E rfl d_Mo_act_341 ⟨h0, ?_⟩
          refine z_icmp_le E d_Mo_act_342 (tgt := 379) (by decide) ⟨fun q => ?_, fun q => ?_⟩
          · replace h := h.1 q
            refine z_iconst E (v := 0) d_Mo_act_379 (by decide) ?_
            refine z_istore E [1, 2, 3, 5, 6, 7, 0] (lv' := [(0, zf G 32), (1, .int v1), (2, .int v2), (4, .int v4), (5, .int v5), (6, .int v6), (9, .int (0 : Int32))]) d_Mo_act_380 (by decide) rfl ?_
            exact h
          · replace h := h.2 q
            refine z_goto E d_Mo_act_345 (tgt := 375) (by decide) ?_
            refine z_iconst E (v := 1) d_Mo_act_375 (by decide) ?_
            refine z_goto E d_Mo_act_376 (tgt := 380) (by decide) ?_
            refine z_istore E [1, 2, 3, 5, 6, 7, 0] (lv' := [(0, zf G 32), (1, .int v1), (2, .int v2), (4, .int v4), (5, .int v5), (6, .int v6), (9, .int (1 : Int32))]) d_Mo_act_380 (by decide) rfl ?_
            exact h
    · replace h := h.2 q
      refine z_aload_n E 0 d_Mo_act_277 rfl rfl ?_
      refine z_getI E f_Mo_123 d_Mo_act_278 ?_
      refine z_iconst E (v := 1) d_Mo_act_281 (by decide) ?_
      refine z_icmp_ne E d_Mo_act_282 (tgt := 294) (by decide) ⟨fun q => ?_, fun q => ?_⟩
      · replace h := h.1 q
        refine z_iload_n E 2 d_Mo_act_294 rfl rfl ?_
        refine z_aload_n E 0 d_Mo_act_295 rfl rfl ?_
        refine z_getI E f_Mo_126 d_Mo_act_296 ?_
        refine z_icmp_eq E d_Mo_act_299 (tgt := 308) (by decide) ⟨fun q => ?_, fun q => ?_⟩
        · replace h := h.1 q
          refine z_aload_n E 0 d_Mo_act_308 rfl rfl ?_
          refine z_getI E f_Mo_123 d_Mo_act_309 ?_
          refine z_if_ne E d_Mo_act_312 (tgt := 319) (by decide) ⟨fun q => ?_, fun q => ?_⟩
          · replace h := h.1 q
            refine z_iconst E (v := 0) d_Mo_act_319 (by decide) ?_
            exact z_ireturn E rfl d_Mo_act_320 h
          · replace h := h.2 q
            refine z_iconst E (v := 1) d_Mo_act_315 (by decide) ?_
            refine z_goto E d_Mo_act_316 (tgt := 320) (by decide) ?_
            exact z_ireturn E rfl d_Mo_act_320 h
        · replace h := h.2 q
          refine z_sipush E (v := -1000) d_Mo_act_302 (by decide) ?_
          refine z_goto E d_Mo_act_305 (tgt := 320) (by decide) ?_
          exact z_ireturn E rfl d_Mo_act_320 h
      · replace h := h.2 q
        refine z_aload_n E 0 d_Mo_act_285 rfl rfl ?_
        refine z_getR E f_Mo_53 d_Mo_act_286 ?_
        refine z_iload_n E 1 d_Mo_act_289 rfl rfl ?_
        obtain ⟨h0, h⟩ := h
        refine z_iald E rfl d_Mo_act_290 ⟨h0, ?_⟩
        refine z_goto E d_Mo_act_291 (tgt := 320) (by decide) ?_
        exact z_ireturn E rfl d_Mo_act_320 h
  · replace h := h.2 q
    refine z_aload_n E 0 d_Mo_act_182 rfl rfl ?_
    refine z_getR E f_Mo_53 d_Mo_act_183 ?_
    refine z_iload_n E 1 d_Mo_act_186 rfl rfl ?_
    obtain ⟨h0, h⟩ := h
    refine z_iald E rfl d_Mo_act_187 ⟨h0, ?_⟩
    refine z_if_eq E d_Mo_act_188 (tgt := 195) (by decide) ⟨fun q => ?_, fun q => ?_⟩
    · replace h := h.1 q
      refine z_iload_n E 3 d_Mo_act_195 rfl rfl ?_
      refine z_iconst E (v := 2) d_Mo_act_196 (by decide) ?_
      refine z_irem E d_Mo_act_197 (by decide) ?_
      refine z_if_ne E d_Mo_act_198 (tgt := 230) (by decide) ⟨fun q => ?_, fun q => ?_⟩
      · replace h := h.1 q
        refine z_iload E 8 d_Mo_act_230 rfl ?_
        refine z_if_eq E d_Mo_act_232 (tgt := 265) (by decide) ⟨fun q => ?_, fun q => ?_⟩
        · replace h := h.1 q
          refine z_aload_n E 0 d_Mo_act_265 rfl rfl ?_
          refine z_getR E f_Mo_13 d_Mo_act_266 ?_
          refine z_iload_n E 2 d_Mo_act_269 rfl rfl ?_
          obtain ⟨h0, h⟩ := h
          refine z_iald E rfl d_Mo_act_270 ⟨h0, ?_⟩
          exact z_ireturn E rfl d_Mo_act_271 h
        · replace h := h.2 q
          refine z_iload E 5 d_Mo_act_235 rfl ?_
          refine z_iconst E (v := -1) d_Mo_act_237 (by decide) ?_
          refine z_icmp_ne E d_Mo_act_238 (tgt := 265) (by decide) ⟨fun q => ?_, fun q => ?_⟩
          · replace h := h.1 q
            refine z_aload_n E 0 d_Mo_act_265 rfl rfl ?_
            refine z_getR E f_Mo_13 d_Mo_act_266 ?_
            refine z_iload_n E 2 d_Mo_act_269 rfl rfl ?_
            obtain ⟨h0, h⟩ := h
            refine z_iald E rfl d_Mo_act_270 ⟨h0, ?_⟩
            exact z_ireturn E rfl d_Mo_act_271 h
          · replace h := h.2 q
            refine z_aload_n E 0 d_Mo_act_241 rfl rfl ?_
            refine z_getR E f_Mo_53 d_Mo_act_242 ?_
            refine z_iload_n E 1 d_Mo_act_245 rfl rfl ?_
            refine z_iconst E (v := 2) d_Mo_act_246 (by decide) ?_
            obtain ⟨h0, h⟩ := h
            refine z_iast E rfl d_Mo_act_247 ⟨h0, fun σ1 e => ?_⟩
            replace h := h σ1 e
            refine z_aload_n E 0 d_Mo_act_248 rfl rfl ?_
            refine z_getR E f_Mo_56 d_Mo_act_249 ?_
            refine z_iload_n E 1 d_Mo_act_252 rfl rfl ?_
            refine z_aload_n E 0 d_Mo_act_253 rfl rfl ?_
            refine z_iload_n E 2 d_Mo_act_254 rfl rfl ?_
            refine z_iconst E (v := -1) d_Mo_act_255 (by decide) ?_
            refine z_iconst E (v := 0) d_Mo_act_256 (by decide) ?_
            obtain ⟨P, hM, h⟩ := h
            refine z_callVI [.int v2, .int (-1 : Int32), .int (0 : Int32)] [.int v1, zf G 48] E hM c_Mo_129 r_Mo_writer rfl zrm rfl (Nat.le_of_ble_eq_true rfl) d_Mo_act_257 (fun x3 σ2 hp => ?_)
            replace h := h x3 σ2 hp
            obtain ⟨h0, h⟩ := h
            refine z_iast E rfl d_Mo_act_260 ⟨h0, fun σ4 e => ?_⟩
            replace h := h σ4 e
            refine z_sipush E (v := -1000) d_Mo_act_261 (by decide) ?_
            exact z_ireturn E rfl d_Mo_act_264 h
      · replace h := h.2 q
        refine z_aload_n E 0 d_Mo_act_201 rfl rfl ?_
        refine z_getR E f_Mo_53 d_Mo_act_202 ?_
        refine z_iload_n E 1 d_Mo_act_205 rfl rfl ?_
        refine z_iload E 7 d_Mo_act_206 rfl ?_
        refine z_if_eq E d_Mo_act_208 (tgt := 215) (by decide) ⟨fun q => ?_, fun q => ?_⟩
        · replace h := h.1 q
          refine z_iconst E (v := 1) d_Mo_act_215 (by decide) ?_
          obtain ⟨h0, h⟩ := h
          refine z_iast E rfl d_Mo_act_216 ⟨h0, fun σ5 e => ?_⟩
          replace h := h σ5 e
          refine z_iload E 7 d_Mo_act_217 rfl ?_
          refine z_if_eq E d_Mo_act_219 (tgt := 228) (by decide) ⟨fun q => ?_, fun q => ?_⟩
          · replace h := h.1 q
            refine z_iconst E (v := -1) d_Mo_act_228 (by decide) ?_
            exact z_ireturn E rfl d_Mo_act_229 h
          · replace h := h.2 q
            refine z_sipush E (v := -1000) d_Mo_act_222 (by decide) ?_
            refine z_goto E d_Mo_act_225 (tgt := 229) (by decide) ?_
            exact z_ireturn E rfl d_Mo_act_229 h
        · replace h := h.2 q
          refine z_iconst E (v := 0) d_Mo_act_211 (by decide) ?_
          refine z_goto E d_Mo_act_212 (tgt := 216) (by decide) ?_
          obtain ⟨h0, h⟩ := h
          refine z_iast E rfl d_Mo_act_216 ⟨h0, fun σ6 e => ?_⟩
          replace h := h σ6 e
          refine z_iload E 7 d_Mo_act_217 rfl ?_
          refine z_if_eq E d_Mo_act_219 (tgt := 228) (by decide) ⟨fun q => ?_, fun q => ?_⟩
          · replace h := h.1 q
            refine z_iconst E (v := -1) d_Mo_act_228 (by decide) ?_
            exact z_ireturn E rfl d_Mo_act_229 h
          · replace h := h.2 q
            refine z_sipush E (v := -1000) d_Mo_act_222 (by decide) ?_
            refine z_goto E d_Mo_act_225 (tgt := 229) (by decide) ?_
            exact z_ireturn E rfl d_Mo_act_229 h
    · replace h := h.2 q
      refine z_sipush E (v := -1000) d_Mo_act_191 (by decide) ?_
      exact z_ireturn E rfl d_Mo_act_194 h

set_option maxRecDepth 20000 in
set_option maxHeartbeats 4000000 in
theorem b_Mo_act_382 {G : zG} {X : zX} {post : Option Value → zSt → Prop} (E : zCtx G M_Mo_act (zKm G 1 X post) X) (v1 : Int32) (v2 : Int32) (v4 : Int32) (v5 : Int32) (v6 : Int32) (v9 : Int32) (σ : zSt)
    (h : ((¬ v9 = 0 → ((¬ (σ 32 5) = (1 : Int32) → (vp_in v1 24 ∧ ∀ σ1 : zSt, σ1 = zup σ 47 v1.toNatClampNeg v5 → (∃ P : Int32 → zSt → Prop, zI G 0 M_Mo_writer [zf G 32, .int v2, .int v5, .int v4] σ1 P ∧ ∀ (x3 : Int32) (σ2 : zSt), P x3 σ2 → (vp_in v1 24 ∧ ∀ σ4 : zSt, σ4 = zup σ2 48 v1.toNatClampNeg x3 → ((¬ (σ4 32 5) = 0 → post (some (.int v5)) σ4) ∧ ((σ4 32 5) = 0 → post (some (.int (v5 + (1 : Int32)))) σ4)))))) ∧ ((σ 32 5) = (1 : Int32) → (vp_in v1 24 ∧ ∀ σ5 : zSt, σ5 = zup σ 47 v1.toNatClampNeg v6 → (∃ P : Int32 → zSt → Prop, zI G 0 M_Mo_writer [zf G 32, .int v2, .int v6, .int v4] σ5 P ∧ ∀ (x7 : Int32) (σ6 : zSt), P x7 σ6 → (vp_in v1 24 ∧ ∀ σ8 : zSt, σ8 = zup σ6 48 v1.toNatClampNeg x7 → ((¬ (σ8 32 5) = 0 → post (some (.int v6)) σ8) ∧ ((σ8 32 5) = 0 → post (some (.int (v6 + (1 : Int32)))) σ8)))))))) ∧ (v9 = 0 → post (some (.int (-1000 : Int32))) σ))) :
    zZ G M_Mo_act 1 X post 382 [(0, zf G 32), (1, .int v1), (2, .int v2), (4, .int v4), (5, .int v5), (6, .int v6), (9, .int v9)] [] σ := by
  refine z_iload E 6 d_Mo_act_382 rfl ?_
  refine z_if_ne E d_Mo_act_384 (tgt := 391) (by decide) ⟨fun q => ?_, fun q => ?_⟩
  · replace h := h.1 q
    refine z_aload_n E 0 d_Mo_act_391 rfl rfl ?_
    refine z_getI E f_Mo_123 d_Mo_act_392 ?_
    refine z_iconst E (v := 1) d_Mo_act_395 (by decide) ?_
    refine z_icmp_ne E d_Mo_act_396 (tgt := 404) (by decide) ⟨fun q => ?_, fun q => ?_⟩
    · replace h := h.1 q
      refine z_iload E 4 d_Mo_act_404 rfl ?_
      refine z_istore E [1, 2, 3, 4, 0] (lv' := [(0, zf G 32), (1, .int v1), (2, .int v2), (4, .int v4), (10, .int v5)]) d_Mo_act_406 (by decide) rfl ?_
      refine z_aload_n E 0 d_Mo_act_408 rfl rfl ?_
      refine z_getR E f_Mo_53 d_Mo_act_409 ?_
      refine z_iload_n E 1 d_Mo_act_412 rfl rfl ?_
      refine z_iload E 4 d_Mo_act_413 rfl ?_
      obtain ⟨h0, h⟩ := h
      refine z_iast E rfl d_Mo_act_415 ⟨h0, fun σ1 e => ?_⟩
      replace h := h σ1 e
      refine z_aload_n E 0 d_Mo_act_416 rfl rfl ?_
      refine z_getR E f_Mo_56 d_Mo_act_417 ?_
      refine z_iload_n E 1 d_Mo_act_420 rfl rfl ?_
      refine z_aload_n E 0 d_Mo_act_421 rfl rfl ?_
      refine z_iload_n E 2 d_Mo_act_422 rfl rfl ?_
      refine z_iload E 4 d_Mo_act_423 rfl ?_
      refine z_iload E 3 d_Mo_act_425 rfl ?_
      obtain ⟨P, hM, h⟩ := h
      refine z_callVI [.int v2, .int v5, .int v4] [.int v1, zf G 48] E hM c_Mo_129 r_Mo_writer rfl zrm rfl (Nat.le_of_ble_eq_true rfl) d_Mo_act_427 (fun x3 σ2 hp => ?_)
      replace h := h x3 σ2 hp
      obtain ⟨h0, h⟩ := h
      refine z_iast E rfl d_Mo_act_430 ⟨h0, fun σ4 e => ?_⟩
      replace h := h σ4 e
      refine z_aload_n E 0 d_Mo_act_431 rfl rfl ?_
      refine z_getI E f_Mo_123 d_Mo_act_432 ?_
      refine z_if_ne E d_Mo_act_435 (tgt := 445) (by decide) ⟨fun q => ?_, fun q => ?_⟩
      · replace h := h.1 q
        refine z_iload E 4 d_Mo_act_445 rfl ?_
        exact z_ireturn E rfl d_Mo_act_447 h
      · replace h := h.2 q
        refine z_iload E 4 d_Mo_act_438 rfl ?_
        refine z_iconst E (v := 1) d_Mo_act_440 (by decide) ?_
        refine z_iadd E d_Mo_act_441 ?_
        refine z_goto E d_Mo_act_442 (tgt := 447) (by decide) ?_
        exact z_ireturn E rfl d_Mo_act_447 h
    · replace h := h.2 q
      refine z_iload E 5 d_Mo_act_399 rfl ?_
      refine z_goto E d_Mo_act_401 (tgt := 406) (by decide) ?_
      refine z_istore E [1, 2, 3, 4, 0] (lv' := [(0, zf G 32), (1, .int v1), (2, .int v2), (4, .int v4), (10, .int v6)]) d_Mo_act_406 (by decide) rfl ?_
      refine z_aload_n E 0 d_Mo_act_408 rfl rfl ?_
      refine z_getR E f_Mo_53 d_Mo_act_409 ?_
      refine z_iload_n E 1 d_Mo_act_412 rfl rfl ?_
      refine z_iload E 4 d_Mo_act_413 rfl ?_
      obtain ⟨h0, h⟩ := h
      refine z_iast E rfl d_Mo_act_415 ⟨h0, fun σ5 e => ?_⟩
      replace h := h σ5 e
      refine z_aload_n E 0 d_Mo_act_416 rfl rfl ?_
      refine z_getR E f_Mo_56 d_Mo_act_417 ?_
      refine z_iload_n E 1 d_Mo_act_420 rfl rfl ?_
      refine z_aload_n E 0 d_Mo_act_421 rfl rfl ?_
      refine z_iload_n E 2 d_Mo_act_422 rfl rfl ?_
      refine z_iload E 4 d_Mo_act_423 rfl ?_
      refine z_iload E 3 d_Mo_act_425 rfl ?_
      obtain ⟨P, hM, h⟩ := h
      refine z_callVI [.int v2, .int v6, .int v4] [.int v1, zf G 48] E hM c_Mo_129 r_Mo_writer rfl zrm rfl (Nat.le_of_ble_eq_true rfl) d_Mo_act_427 (fun x7 σ6 hp => ?_)
      replace h := h x7 σ6 hp
      obtain ⟨h0, h⟩ := h
      refine z_iast E rfl d_Mo_act_430 ⟨h0, fun σ8 e => ?_⟩
      replace h := h σ8 e
      refine z_aload_n E 0 d_Mo_act_431 rfl rfl ?_
      refine z_getI E f_Mo_123 d_Mo_act_432 ?_
      refine z_if_ne E d_Mo_act_435 (tgt := 445) (by decide) ⟨fun q => ?_, fun q => ?_⟩
      · replace h := h.1 q
        refine z_iload E 4 d_Mo_act_445 rfl ?_
        exact z_ireturn E rfl d_Mo_act_447 h
      · replace h := h.2 q
        refine z_iload E 4 d_Mo_act_438 rfl ?_
        refine z_iconst E (v := 1) d_Mo_act_440 (by decide) ?_
        refine z_iadd E d_Mo_act_441 ?_
        refine z_goto E d_Mo_act_442 (tgt := 447) (by decide) ?_
        exact z_ireturn E rfl d_Mo_act_447 h
  · replace h := h.2 q
    refine z_sipush E (v := -1000) d_Mo_act_387 (by decide) ?_
    exact z_ireturn E rfl d_Mo_act_390 h

