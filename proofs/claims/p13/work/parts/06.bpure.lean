set_option maxRecDepth 20000 in
set_option maxHeartbeats 4000000 in
theorem b_JInteger_bitCount_0 {G : zG} {X : zX} {post : Option Value → zSt → Prop} (E : zCtx G M_JInteger_bitCount (zKm G 0 X post) X) (v0 : Int32) (σ : zSt)
    (h : post (some (.int ((((((((v0 - (((v0.toUInt32 >>> ((1 : Int32).toUInt32 &&& Int32.toUInt32 31)).toInt32) &&& (1431655765 : Int32))) &&& (858993459 : Int32)) + ((((v0 - (((v0.toUInt32 >>> ((1 : Int32).toUInt32 &&& Int32.toUInt32 31)).toInt32) &&& (1431655765 : Int32))).toUInt32 >>> ((2 : Int32).toUInt32 &&& Int32.toUInt32 31)).toInt32) &&& (858993459 : Int32))) + (((((v0 - (((v0.toUInt32 >>> ((1 : Int32).toUInt32 &&& Int32.toUInt32 31)).toInt32) &&& (1431655765 : Int32))) &&& (858993459 : Int32)) + ((((v0 - (((v0.toUInt32 >>> ((1 : Int32).toUInt32 &&& Int32.toUInt32 31)).toInt32) &&& (1431655765 : Int32))).toUInt32 >>> ((2 : Int32).toUInt32 &&& Int32.toUInt32 31)).toInt32) &&& (858993459 : Int32))).toUInt32 >>> ((4 : Int32).toUInt32 &&& Int32.toUInt32 31)).toInt32)) &&& (252645135 : Int32)) + (((((((v0 - (((v0.toUInt32 >>> ((1 : Int32).toUInt32 &&& Int32.toUInt32 31)).toInt32) &&& (1431655765 : Int32))) &&& (858993459 : Int32)) + ((((v0 - (((v0.toUInt32 >>> ((1 : Int32).toUInt32 &&& Int32.toUInt32 31)).toInt32) &&& (1431655765 : Int32))).toUInt32 >>> ((2 : Int32).toUInt32 &&& Int32.toUInt32 31)).toInt32) &&& (858993459 : Int32))) + (((((v0 - (((v0.toUInt32 >>> ((1 : Int32).toUInt32 &&& Int32.toUInt32 31)).toInt32) &&& (1431655765 : Int32))) &&& (858993459 : Int32)) + ((((v0 - (((v0.toUInt32 >>> ((1 : Int32).toUInt32 &&& Int32.toUInt32 31)).toInt32) &&& (1431655765 : Int32))).toUInt32 >>> ((2 : Int32).toUInt32 &&& Int32.toUInt32 31)).toInt32) &&& (858993459 : Int32))).toUInt32 >>> ((4 : Int32).toUInt32 &&& Int32.toUInt32 31)).toInt32)) &&& (252645135 : Int32)).toUInt32 >>> ((8 : Int32).toUInt32 &&& Int32.toUInt32 31)).toInt32)) + ((((((((v0 - (((v0.toUInt32 >>> ((1 : Int32).toUInt32 &&& Int32.toUInt32 31)).toInt32) &&& (1431655765 : Int32))) &&& (858993459 : Int32)) + ((((v0 - (((v0.toUInt32 >>> ((1 : Int32).toUInt32 &&& Int32.toUInt32 31)).toInt32) &&& (1431655765 : Int32))).toUInt32 >>> ((2 : Int32).toUInt32 &&& Int32.toUInt32 31)).toInt32) &&& (858993459 : Int32))) + (((((v0 - (((v0.toUInt32 >>> ((1 : Int32).toUInt32 &&& Int32.toUInt32 31)).toInt32) &&& (1431655765 : Int32))) &&& (858993459 : Int32)) + ((((v0 - (((v0.toUInt32 >>> ((1 : Int32).toUInt32 &&& Int32.toUInt32 31)).toInt32) &&& (1431655765 : Int32))).toUInt32 >>> ((2 : Int32).toUInt32 &&& Int32.toUInt32 31)).toInt32) &&& (858993459 : Int32))).toUInt32 >>> ((4 : Int32).toUInt32 &&& Int32.toUInt32 31)).toInt32)) &&& (252645135 : Int32)) + (((((((v0 - (((v0.toUInt32 >>> ((1 : Int32).toUInt32 &&& Int32.toUInt32 31)).toInt32) &&& (1431655765 : Int32))) &&& (858993459 : Int32)) + ((((v0 - (((v0.toUInt32 >>> ((1 : Int32).toUInt32 &&& Int32.toUInt32 31)).toInt32) &&& (1431655765 : Int32))).toUInt32 >>> ((2 : Int32).toUInt32 &&& Int32.toUInt32 31)).toInt32) &&& (858993459 : Int32))) + (((((v0 - (((v0.toUInt32 >>> ((1 : Int32).toUInt32 &&& Int32.toUInt32 31)).toInt32) &&& (1431655765 : Int32))) &&& (858993459 : Int32)) + ((((v0 - (((v0.toUInt32 >>> ((1 : Int32).toUInt32 &&& Int32.toUInt32 31)).toInt32) &&& (1431655765 : Int32))).toUInt32 >>> ((2 : Int32).toUInt32 &&& Int32.toUInt32 31)).toInt32) &&& (858993459 : Int32))).toUInt32 >>> ((4 : Int32).toUInt32 &&& Int32.toUInt32 31)).toInt32)) &&& (252645135 : Int32)).toUInt32 >>> ((8 : Int32).toUInt32 &&& Int32.toUInt32 31)).toInt32)).toUInt32 >>> ((16 : Int32).toUInt32 &&& Int32.toUInt32 31)).toInt32)) &&& (63 : Int32)))) σ) :
    zZ G M_JInteger_bitCount 0 X post 0 [(0, .int v0)] [] σ := by
  refine z_iload_n E 0 d_JInteger_bitCount_0 rfl rfl ?_
  refine z_iload_n E 0 d_JInteger_bitCount_1 rfl rfl ?_
  refine z_iconst E (v := 1) d_JInteger_bitCount_2 (by decide) ?_
  refine z_iushr E d_JInteger_bitCount_3 rfl ?_
  refine z_ldcw E (v := 1431655765) k_J_265 d_JInteger_bitCount_4 ?_
  refine z_iand E d_JInteger_bitCount_7 ?_
  refine z_isub E d_JInteger_bitCount_8 ?_
  refine z_istore_n E [0] (lv' := [(0, .int (v0 - (((v0.toUInt32 >>> ((1 : Int32).toUInt32 &&& Int32.toUInt32 31)).toInt32) &&& (1431655765 : Int32))))]) d_JInteger_bitCount_9 rfl (by decide) rfl ?_
  refine z_iload_n E 0 d_JInteger_bitCount_10 rfl rfl ?_
  refine z_ldcw E (v := 858993459) k_J_266 d_JInteger_bitCount_11 ?_
  refine z_iand E d_JInteger_bitCount_14 ?_
  refine z_iload_n E 0 d_JInteger_bitCount_15 rfl rfl ?_
  refine z_iconst E (v := 2) d_JInteger_bitCount_16 (by decide) ?_
  refine z_iushr E d_JInteger_bitCount_17 rfl ?_
  refine z_ldcw E (v := 858993459) k_J_266 d_JInteger_bitCount_18 ?_
  refine z_iand E d_JInteger_bitCount_21 ?_
  refine z_iadd E d_JInteger_bitCount_22 ?_
  refine z_istore_n E [0] (lv' := [(0, .int (((v0 - (((v0.toUInt32 >>> ((1 : Int32).toUInt32 &&& Int32.toUInt32 31)).toInt32) &&& (1431655765 : Int32))) &&& (858993459 : Int32)) + ((((v0 - (((v0.toUInt32 >>> ((1 : Int32).toUInt32 &&& Int32.toUInt32 31)).toInt32) &&& (1431655765 : Int32))).toUInt32 >>> ((2 : Int32).toUInt32 &&& Int32.toUInt32 31)).toInt32) &&& (858993459 : Int32))))]) d_JInteger_bitCount_23 rfl (by decide) rfl ?_
  refine z_iload_n E 0 d_JInteger_bitCount_24 rfl rfl ?_
  refine z_iload_n E 0 d_JInteger_bitCount_25 rfl rfl ?_
  refine z_iconst E (v := 4) d_JInteger_bitCount_26 (by decide) ?_
  refine z_iushr E d_JInteger_bitCount_27 rfl ?_
  refine z_iadd E d_JInteger_bitCount_28 ?_
  refine z_ldcw E (v := 252645135) k_J_267 d_JInteger_bitCount_29 ?_
  refine z_iand E d_JInteger_bitCount_32 ?_
  refine z_istore_n E [0] (lv' := [(0, .int (((((v0 - (((v0.toUInt32 >>> ((1 : Int32).toUInt32 &&& Int32.toUInt32 31)).toInt32) &&& (1431655765 : Int32))) &&& (858993459 : Int32)) + ((((v0 - (((v0.toUInt32 >>> ((1 : Int32).toUInt32 &&& Int32.toUInt32 31)).toInt32) &&& (1431655765 : Int32))).toUInt32 >>> ((2 : Int32).toUInt32 &&& Int32.toUInt32 31)).toInt32) &&& (858993459 : Int32))) + (((((v0 - (((v0.toUInt32 >>> ((1 : Int32).toUInt32 &&& Int32.toUInt32 31)).toInt32) &&& (1431655765 : Int32))) &&& (858993459 : Int32)) + ((((v0 - (((v0.toUInt32 >>> ((1 : Int32).toUInt32 &&& Int32.toUInt32 31)).toInt32) &&& (1431655765 : Int32))).toUInt32 >>> ((2 : Int32).toUInt32 &&& Int32.toUInt32 31)).toInt32) &&& (858993459 : Int32))).toUInt32 >>> ((4 : Int32).toUInt32 &&& Int32.toUInt32 31)).toInt32)) &&& (252645135 : Int32)))]) d_JInteger_bitCount_33 rfl (by decide) rfl ?_
  refine z_iload_n E 0 d_JInteger_bitCount_34 rfl rfl ?_
  refine z_iload_n E 0 d_JInteger_bitCount_35 rfl rfl ?_
  refine z_bipush E (v := 8) d_JInteger_bitCount_36 (by decide) ?_
  refine z_iushr E d_JInteger_bitCount_38 rfl ?_
  refine z_iadd E d_JInteger_bitCount_39 ?_
  refine z_istore_n E [0] (lv' := [(0, .int ((((((v0 - (((v0.toUInt32 >>> ((1 : Int32).toUInt32 &&& Int32.toUInt32 31)).toInt32) &&& (1431655765 : Int32))) &&& (858993459 : Int32)) + ((((v0 - (((v0.toUInt32 >>> ((1 : Int32).toUInt32 &&& Int32.toUInt32 31)).toInt32) &&& (1431655765 : Int32))).toUInt32 >>> ((2 : Int32).toUInt32 &&& Int32.toUInt32 31)).toInt32) &&& (858993459 : Int32))) + (((((v0 - (((v0.toUInt32 >>> ((1 : Int32).toUInt32 &&& Int32.toUInt32 31)).toInt32) &&& (1431655765 : Int32))) &&& (858993459 : Int32)) + ((((v0 - (((v0.toUInt32 >>> ((1 : Int32).toUInt32 &&& Int32.toUInt32 31)).toInt32) &&& (1431655765 : Int32))).toUInt32 >>> ((2 : Int32).toUInt32 &&& Int32.toUInt32 31)).toInt32) &&& (858993459 : Int32))).toUInt32 >>> ((4 : Int32).toUInt32 &&& Int32.toUInt32 31)).toInt32)) &&& (252645135 : Int32)) + (((((((v0 - (((v0.toUInt32 >>> ((1 : Int32).toUInt32 &&& Int32.toUInt32 31)).toInt32) &&& (1431655765 : Int32))) &&& (858993459 : Int32)) + ((((v0 - (((v0.toUInt32 >>> ((1 : Int32).toUInt32 &&& Int32.toUInt32 31)).toInt32) &&& (1431655765 : Int32))).toUInt32 >>> ((2 : Int32).toUInt32 &&& Int32.toUInt32 31)).toInt32) &&& (858993459 : Int32))) + (((((v0 - (((v0.toUInt32 >>> ((1 : Int32).toUInt32 &&& Int32.toUInt32 31)).toInt32) &&& (1431655765 : Int32))) &&& (858993459 : Int32)) + ((((v0 - (((v0.toUInt32 >>> ((1 : Int32).toUInt32 &&& Int32.toUInt32 31)).toInt32) &&& (1431655765 : Int32))).toUInt32 >>> ((2 : Int32).toUInt32 &&& Int32.toUInt32 31)).toInt32) &&& (858993459 : Int32))).toUInt32 >>> ((4 : Int32).toUInt32 &&& Int32.toUInt32 31)).toInt32)) &&& (252645135 : Int32)).toUInt32 >>> ((8 : Int32).toUInt32 &&& Int32.toUInt32 31)).toInt32)))]) d_JInteger_bitCount_40 rfl (by decide) rfl ?_
  refine z_iload_n E 0 d_JInteger_bitCount_41 rfl rfl ?_
  refine z_iload_n E 0 d_JInteger_bitCount_42 rfl rfl ?_
  refine z_bipush E (v := 16) d_JInteger_bitCount_43 (by decide) ?_
  refine z_iushr E d_JInteger_bitCount_45 rfl ?_
  refine z_iadd E d_JInteger_bitCount_46 ?_
  refine z_istore_n E [0] (lv' := [(0, .int (((((((v0 - (((v0.toUInt32 >>> ((1 : Int32).toUInt32 &&& Int32.toUInt32 31)).toInt32) &&& (1431655765 : Int32))) &&& (858993459 : Int32)) + ((((v0 - (((v0.toUInt32 >>> ((1 : Int32).toUInt32 &&& Int32.toUInt32 31)).toInt32) &&& (1431655765 : Int32))).toUInt32 >>> ((2 : Int32).toUInt32 &&& Int32.toUInt32 31)).toInt32) &&& (858993459 : Int32))) + (((((v0 - (((v0.toUInt32 >>> ((1 : Int32).toUInt32 &&& Int32.toUInt32 31)).toInt32) &&& (1431655765 : Int32))) &&& (858993459 : Int32)) + ((((v0 - (((v0.toUInt32 >>> ((1 : Int32).toUInt32 &&& Int32.toUInt32 31)).toInt32) &&& (1431655765 : Int32))).toUInt32 >>> ((2 : Int32).toUInt32 &&& Int32.toUInt32 31)).toInt32) &&& (858993459 : Int32))).toUInt32 >>> ((4 : Int32).toUInt32 &&& Int32.toUInt32 31)).toInt32)) &&& (252645135 : Int32)) + (((((((v0 - (((v0.toUInt32 >>> ((1 : Int32).toUInt32 &&& Int32.toUInt32 31)).toInt32) &&& (1431655765 : Int32))) &&& (858993459 : Int32)) + ((((v0 - (((v0.toUInt32 >>> ((1 : Int32).toUInt32 &&& Int32.toUInt32 31)).toInt32) &&& (1431655765 : Int32))).toUInt32 >>> ((2 : Int32).toUInt32 &&& Int32.toUInt32 31)).toInt32) &&& (858993459 : Int32))) + (((((v0 - (((v0.toUInt32 >>> ((1 : Int32).toUInt32 &&& Int32.toUInt32 31)).toInt32) &&& (1431655765 : Int32))) &&& (858993459 : Int32)) + ((((v0 - (((v0.toUInt32 >>> ((1 : Int32).toUInt32 &&& Int32.toUInt32 31)).toInt32) &&& (1431655765 : Int32))).toUInt32 >>> ((2 : Int32).toUInt32 &&& Int32.toUInt32 31)).toInt32) &&& (858993459 : Int32))).toUInt32 >>> ((4 : Int32).toUInt32 &&& Int32.toUInt32 31)).toInt32)) &&& (252645135 : Int32)).toUInt32 >>> ((8 : Int32).toUInt32 &&& Int32.toUInt32 31)).toInt32)) + ((((((((v0 - (((v0.toUInt32 >>> ((1 : Int32).toUInt32 &&& Int32.toUInt32 31)).toInt32) &&& (1431655765 : Int32))) &&& (858993459 : Int32)) + ((((v0 - (((v0.toUInt32 >>> ((1 : Int32).toUInt32 &&& Int32.toUInt32 31)).toInt32) &&& (1431655765 : Int32))).toUInt32 >>> ((2 : Int32).toUInt32 &&& Int32.toUInt32 31)).toInt32) &&& (858993459 : Int32))) + (((((v0 - (((v0.toUInt32 >>> ((1 : Int32).toUInt32 &&& Int32.toUInt32 31)).toInt32) &&& (1431655765 : Int32))) &&& (858993459 : Int32)) + ((((v0 - (((v0.toUInt32 >>> ((1 : Int32).toUInt32 &&& Int32.toUInt32 31)).toInt32) &&& (1431655765 : Int32))).toUInt32 >>> ((2 : Int32).toUInt32 &&& Int32.toUInt32 31)).toInt32) &&& (858993459 : Int32))).toUInt32 >>> ((4 : Int32).toUInt32 &&& Int32.toUInt32 31)).toInt32)) &&& (252645135 : Int32)) + (((((((v0 - (((v0.toUInt32 >>> ((1 : Int32).toUInt32 &&& Int32.toUInt32 31)).toInt32) &&& (1431655765 : Int32))) &&& (858993459 : Int32)) + ((((v0 - (((v0.toUInt32 >>> ((1 : Int32).toUInt32 &&& Int32.toUInt32 31)).toInt32) &&& (1431655765 : Int32))).toUInt32 >>> ((2 : Int32).toUInt32 &&& Int32.toUInt32 31)).toInt32) &&& (858993459 : Int32))) + (((((v0 - (((v0.toUInt32 >>> ((1 : Int32).toUInt32 &&& Int32.toUInt32 31)).toInt32) &&& (1431655765 : Int32))) &&& (858993459 : Int32)) + ((((v0 - (((v0.toUInt32 >>> ((1 : Int32).toUInt32 &&& Int32.toUInt32 31)).toInt32) &&& (1431655765 : Int32))).toUInt32 >>> ((2 : Int32).toUInt32 &&& Int32.toUInt32 31)).toInt32) &&& (858993459 : Int32))).toUInt32 >>> ((4 : Int32).toUInt32 &&& Int32.toUInt32 31)).toInt32)) &&& (252645135 : Int32)).toUInt32 >>> ((8 : Int32).toUInt32 &&& Int32.toUInt32 31)).toInt32)).toUInt32 >>> ((16 : Int32).toUInt32 &&& Int32.toUInt32 31)).toInt32)))]) d_JInteger_bitCount_47 rfl (by decide) rfl ?_
  refine z_iload_n E 0 d_JInteger_bitCount_48 rfl rfl ?_
  refine z_bipush E (v := 63) d_JInteger_bitCount_49 (by decide) ?_
  refine z_iand E d_JInteger_bitCount_51 ?_
  exact z_ireturn E rfl d_JInteger_bitCount_52 h

set_option maxRecDepth 20000 in
set_option maxHeartbeats 4000000 in
theorem b_Course_isSafe_0 {G : zG} {X : zX} {post : Option Value → zSt → Prop} (E : zCtx G M_Course_isSafe (zKm G 0 X post) X) (v1 : Int32) (σ : zSt)
    (h : (vp_in v1 12 ∧ ((¬ (σ 26 v1.toNatClampNeg) = 0 → post (some (.int (0 : Int32))) σ) ∧ ((σ 26 v1.toNatClampNeg) = 0 → post (some (.int (1 : Int32))) σ)))) :
    zZ G M_Course_isSafe 0 X post 0 [(0, zf G 1), (1, .int v1)] [] σ := by
  refine z_aload_n E 0 d_Course_isSafe_0 rfl rfl ?_
  refine z_getR E f_Course_46 d_Course_isSafe_1 ?_
  refine z_iload_n E 1 d_Course_isSafe_4 rfl rfl ?_
  obtain ⟨h0, h⟩ := h
  refine z_iald E rfl d_Course_isSafe_5 ⟨h0, ?_⟩
  refine z_if_ne E d_Course_isSafe_6 (tgt := 13) (by decide) ⟨fun q => ?_, fun q => ?_⟩
  · replace h := h.1 q
    refine z_iconst E (v := 0) d_Course_isSafe_13 (by decide) ?_
    exact z_zreturn E rfl rfl d_Course_isSafe_14 h
  · replace h := h.2 q
    refine z_iconst E (v := 1) d_Course_isSafe_9 (by decide) ?_
    refine z_goto E d_Course_isSafe_10 (tgt := 14) (by decide) ?_
    exact z_zreturn E rfl rfl d_Course_isSafe_14 h

set_option maxRecDepth 20000 in
set_option maxHeartbeats 4000000 in
theorem b_Course_isLeader_0 {G : zG} {X : zX} {post : Option Value → zSt → Prop} (E : zCtx G M_Course_isLeader (zKm G 0 X post) X) (v1 : Int32) (σ : zSt)
    (h : (vp_in v1 12 ∧ ((¬ (σ 9 v1.toNatClampNeg) = v1 → post (some (.int (0 : Int32))) σ) ∧ ((σ 9 v1.toNatClampNeg) = v1 → post (some (.int (1 : Int32))) σ)))) :
    zZ G M_Course_isLeader 0 X post 0 [(0, zf G 1), (1, .int v1)] [] σ := by
  refine z_aload_n E 0 d_Course_isLeader_0 rfl rfl ?_
  refine z_getR E f_Course_21 d_Course_isLeader_1 ?_
  refine z_getR E f_Course_181 d_Course_isLeader_4 ?_
  refine z_iload_n E 1 d_Course_isLeader_7 rfl rfl ?_
  obtain ⟨h0, h⟩ := h
  refine z_iald E rfl d_Course_isLeader_8 ⟨h0, ?_⟩
  refine z_iload_n E 1 d_Course_isLeader_9 rfl rfl ?_
  refine z_icmp_ne E d_Course_isLeader_10 (tgt := 17) (by decide) ⟨fun q => ?_, fun q => ?_⟩
  · replace h := h.1 q
    refine z_iconst E (v := 0) d_Course_isLeader_17 (by decide) ?_
    exact z_zreturn E rfl rfl d_Course_isLeader_18 h
  · replace h := h.2 q
    refine z_iconst E (v := 1) d_Course_isLeader_13 (by decide) ?_
    refine z_goto E d_Course_isLeader_14 (tgt := 18) (by decide) ?_
    exact z_zreturn E rfl rfl d_Course_isLeader_18 h

set_option maxRecDepth 20000 in
set_option maxHeartbeats 4000000 in
theorem b_Net_hasNode_0 {G : zG} {X : zX} {post : Option Value → zSt → Prop} (E : zCtx G M_Net_hasNode (zKm G 0 X post) X) (v1 : Int32) (σ : zSt)
    (h : ((v1 < 0 → post (some (.int (0 : Int32))) σ) ∧ (¬ v1 < 0 → (((σ 2 0) ≤ v1 → post (some (.int (0 : Int32))) σ) ∧ (¬ (σ 2 0) ≤ v1 → post (some (.int (1 : Int32))) σ))))) :
    zZ G M_Net_hasNode 0 X post 0 [(0, zf G 2), (1, .int v1)] [] σ := by
  refine z_iload_n E 1 d_Net_hasNode_0 rfl rfl ?_
  refine z_if_lt E d_Net_hasNode_1 (tgt := 16) (by decide) ⟨fun q => ?_, fun q => ?_⟩
  · replace h := h.1 q
    refine z_iconst E (v := 0) d_Net_hasNode_16 (by decide) ?_
    exact z_zreturn E rfl rfl d_Net_hasNode_17 h
  · replace h := h.2 q
    refine z_iload_n E 1 d_Net_hasNode_4 rfl rfl ?_
    refine z_aload_n E 0 d_Net_hasNode_5 rfl rfl ?_
    refine z_getI E f_Net_21 d_Net_hasNode_6 ?_
    refine z_icmp_ge E d_Net_hasNode_9 (tgt := 16) (by decide) ⟨fun q => ?_, fun q => ?_⟩
    · replace h := h.1 q
      refine z_iconst E (v := 0) d_Net_hasNode_16 (by decide) ?_
      exact z_zreturn E rfl rfl d_Net_hasNode_17 h
    · replace h := h.2 q
      refine z_iconst E (v := 1) d_Net_hasNode_12 (by decide) ?_
      refine z_goto E d_Net_hasNode_13 (tgt := 17) (by decide) ?_
      exact z_zreturn E rfl rfl d_Net_hasNode_17 h

set_option maxRecDepth 20000 in
set_option maxHeartbeats 4000000 in
theorem b_Net_everyNode_0 {G : zG} {X : zX} {post : Option Value → zSt → Prop} (E : zCtx G M_Net_everyNode (zKm G 0 X post) X)  (σ : zSt)
    (h : post (some (.int (((1 : Int32) <<< ((σ 2 0) &&& 31)) - (1 : Int32)))) σ) :
    zZ G M_Net_everyNode 0 X post 0 [(0, zf G 2)] [] σ := by
  refine z_iconst E (v := 1) d_Net_everyNode_0 (by decide) ?_
  refine z_aload_n E 0 d_Net_everyNode_1 rfl rfl ?_
  refine z_getI E f_Net_21 d_Net_everyNode_2 ?_
  refine z_ishl E d_Net_everyNode_5 ?_
  refine z_iconst E (v := 1) d_Net_everyNode_6 (by decide) ?_
  refine z_isub E d_Net_everyNode_7 ?_
  exact z_ireturn E rfl d_Net_everyNode_8 h

set_option maxRecDepth 20000 in
set_option maxHeartbeats 4000000 in
theorem b_Play_noteRow_0 {G : zG} {X : zX} {post : Option Value → zSt → Prop} (E : zCtx G M_Play_noteRow (zKm G 0 X post) X) (v0 : Int32) (v1 : Int32) (σ : zSt)
    (h : post (some (.int (((v0 &&& (1 : Int32)) * (144 : Int32)) + (v1 * (12 : Int32))))) σ) :
    zZ G M_Play_noteRow 0 X post 0 [(0, .int v0), (1, .int v1)] [] σ := by
  refine z_iload_n E 0 d_Play_noteRow_0 rfl rfl ?_
  refine z_iconst E (v := 1) d_Play_noteRow_1 (by decide) ?_
  refine z_iand E d_Play_noteRow_2 ?_
  refine z_sipush E (v := 144) d_Play_noteRow_3 (by decide) ?_
  refine z_imul E d_Play_noteRow_6 ?_
  refine z_iload_n E 1 d_Play_noteRow_7 rfl rfl ?_
  refine z_bipush E (v := 12) d_Play_noteRow_8 (by decide) ?_
  refine z_imul E d_Play_noteRow_10 ?_
  refine z_iadd E d_Play_noteRow_11 ?_
  exact z_ireturn E rfl d_Play_noteRow_12 h

set_option maxRecDepth 20000 in
set_option maxHeartbeats 4000000 in
theorem b_P_at_0 {G : zG} {X : zX} {post : Option Value → zSt → Prop} (E : zCtx G M_P_at (zKm G 0 X post) X) (v0 : Int32) (v1 : Int32) (σ : zSt)
    (h : post (some (.int ((v0 * (12 : Int32)) + v1))) σ) :
    zZ G M_P_at 0 X post 0 [(0, .int v0), (1, .int v1)] [] σ := by
  refine z_iload_n E 0 d_P_at_0 rfl rfl ?_
  refine z_bipush E (v := 12) d_P_at_1 (by decide) ?_
  refine z_imul E d_P_at_3 ?_
  refine z_iload_n E 1 d_P_at_4 rfl rfl ?_
  refine z_iadd E d_P_at_5 ?_
  exact z_ireturn E rfl d_P_at_6 h

set_option maxRecDepth 20000 in
set_option maxHeartbeats 4000000 in
theorem b_P_isIn_0 {G : zG} {X : zX} {post : Option Value → zSt → Prop} (E : zCtx G M_P_isIn (zKm G 0 X post) X) (v0 : Int32) (v1 : Int32) (σ : zSt)
    (h : ((((v0 >>> (v1 &&& 31)) &&& (1 : Int32)) = 0 → post (some (.int (0 : Int32))) σ) ∧ (¬ ((v0 >>> (v1 &&& 31)) &&& (1 : Int32)) = 0 → post (some (.int (1 : Int32))) σ))) :
    zZ G M_P_isIn 0 X post 0 [(0, .int v0), (1, .int v1)] [] σ := by
  refine z_iload_n E 0 d_P_isIn_0 rfl rfl ?_
  refine z_iload_n E 1 d_P_isIn_1 rfl rfl ?_
  refine z_ishr E d_P_isIn_2 ?_
  refine z_iconst E (v := 1) d_P_isIn_3 (by decide) ?_
  refine z_iand E d_P_isIn_4 ?_
  refine z_if_eq E d_P_isIn_5 (tgt := 12) (by decide) ⟨fun q => ?_, fun q => ?_⟩
  · replace h := h.1 q
    refine z_iconst E (v := 0) d_P_isIn_12 (by decide) ?_
    exact z_zreturn E rfl rfl d_P_isIn_13 h
  · replace h := h.2 q
    refine z_iconst E (v := 1) d_P_isIn_8 (by decide) ?_
    refine z_goto E d_P_isIn_9 (tgt := 13) (by decide) ?_
    exact z_zreturn E rfl rfl d_P_isIn_13 h

set_option maxRecDepth 20000 in
set_option maxHeartbeats 4000000 in
theorem b_Mo_noNode_0 {G : zG} {X : zX} {post : Option Value → zSt → Prop} (E : zCtx G M_Mo_noNode (zKm G 0 X post) X) (v1 : Int32) (σ : zSt)
    (h : ((v1 < 0 → post (some (.int (1 : Int32))) σ) ∧ (¬ v1 < 0 → ((v1 < (σ 32 0) → post (some (.int (0 : Int32))) σ) ∧ (¬ v1 < (σ 32 0) → post (some (.int (1 : Int32))) σ))))) :
    zZ G M_Mo_noNode 0 X post 0 [(0, zf G 32), (1, .int v1)] [] σ := by
  refine z_iload_n E 1 d_Mo_noNode_0 rfl rfl ?_
  refine z_if_lt E d_Mo_noNode_1 (tgt := 12) (by decide) ⟨fun q => ?_, fun q => ?_⟩
  · replace h := h.1 q
    refine z_iconst E (v := 1) d_Mo_noNode_12 (by decide) ?_
    refine z_goto E d_Mo_noNode_13 (tgt := 17) (by decide) ?_
    exact z_zreturn E rfl rfl d_Mo_noNode_17 h
  · replace h := h.2 q
    refine z_iload_n E 1 d_Mo_noNode_4 rfl rfl ?_
    refine z_aload_n E 0 d_Mo_noNode_5 rfl rfl ?_
    refine z_getI E f_Mo_84 d_Mo_noNode_6 ?_
    refine z_icmp_lt E d_Mo_noNode_9 (tgt := 16) (by decide) ⟨fun q => ?_, fun q => ?_⟩
    · replace h := h.1 q
      refine z_iconst E (v := 0) d_Mo_noNode_16 (by decide) ?_
      exact z_zreturn E rfl rfl d_Mo_noNode_17 h
    · replace h := h.2 q
      refine z_iconst E (v := 1) d_Mo_noNode_12 (by decide) ?_
      refine z_goto E d_Mo_noNode_13 (tgt := 17) (by decide) ?_
      exact z_zreturn E rfl rfl d_Mo_noNode_17 h

set_option maxRecDepth 20000 in
set_option maxHeartbeats 4000000 in
theorem b_Mo_isLink_0 {G : zG} {X : zX} {post : Option Value → zSt → Prop} (E : zCtx G M_Mo_isLink (zKm G 0 X post) X) (v1 : Int32) (v2 : Int32) (σ : zSt)
    (h : (vp_in (((12 : Int32) * v1) + v2) 144 ∧ (((σ 33 (((12 : Int32) * v1) + v2).toNatClampNeg) ≤ 0 → post (some (.int (0 : Int32))) σ) ∧ (¬ (σ 33 (((12 : Int32) * v1) + v2).toNatClampNeg) ≤ 0 → post (some (.int (1 : Int32))) σ)))) :
    zZ G M_Mo_isLink 0 X post 0 [(0, zf G 32), (1, .int v1), (2, .int v2)] [] σ := by
  refine z_aload_n E 0 d_Mo_isLink_0 rfl rfl ?_
  refine z_getR E f_Mo_7 d_Mo_isLink_1 ?_
  refine z_bipush E (v := 12) d_Mo_isLink_4 (by decide) ?_
  refine z_iload_n E 1 d_Mo_isLink_6 rfl rfl ?_
  refine z_imul E d_Mo_isLink_7 ?_
  refine z_iload_n E 2 d_Mo_isLink_8 rfl rfl ?_
  refine z_iadd E d_Mo_isLink_9 ?_
  obtain ⟨h0, h⟩ := h
  refine z_iald E rfl d_Mo_isLink_10 ⟨h0, ?_⟩
  refine z_if_le E d_Mo_isLink_11 (tgt := 18) (by decide) ⟨fun q => ?_, fun q => ?_⟩
  · replace h := h.1 q
    refine z_iconst E (v := 0) d_Mo_isLink_18 (by decide) ?_
    exact z_zreturn E rfl rfl d_Mo_isLink_19 h
  · replace h := h.2 q
    refine z_iconst E (v := 1) d_Mo_isLink_14 (by decide) ?_
    refine z_goto E d_Mo_isLink_15 (tgt := 19) (by decide) ?_
    exact z_zreturn E rfl rfl d_Mo_isLink_19 h

set_option maxRecDepth 20000 in
set_option maxHeartbeats 4000000 in
theorem b_Mo_place_0 {G : zG} {X : zX} {post : Option Value → zSt → Prop} (E : zCtx G M_Mo_place (zKm G 0 X post) X) (v1 : Int32) (v2 : Int32) (v3 : Int32) (v4 : Int32) (σ : zSt)
    (h : post (some (.int ((((((v1 * (12 : Int32)) + v2) * (12 : Int32)) + v3) * (22 : Int32)) + v4))) σ) :
    zZ G M_Mo_place 0 X post 0 [(0, zf G 32), (1, .int v1), (2, .int v2), (3, .int v3), (4, .int v4)] [] σ := by
  refine z_iload_n E 1 d_Mo_place_0 rfl rfl ?_
  refine z_bipush E (v := 12) d_Mo_place_1 (by decide) ?_
  refine z_imul E d_Mo_place_3 ?_
  refine z_iload_n E 2 d_Mo_place_4 rfl rfl ?_
  refine z_iadd E d_Mo_place_5 ?_
  refine z_bipush E (v := 12) d_Mo_place_6 (by decide) ?_
  refine z_imul E d_Mo_place_8 ?_
  refine z_iload_n E 3 d_Mo_place_9 rfl rfl ?_
  refine z_iadd E d_Mo_place_10 ?_
  refine z_bipush E (v := 22) d_Mo_place_11 (by decide) ?_
  refine z_imul E d_Mo_place_13 ?_
  refine z_iload E 4 d_Mo_place_14 rfl ?_
  refine z_iadd E d_Mo_place_16 ?_
  exact z_ireturn E rfl d_Mo_place_17 h

set_option maxRecDepth 20000 in
set_option maxHeartbeats 4000000 in
theorem b_Mo_isBelow_0 {G : zG} {X : zX} {post : Option Value → zSt → Prop} (E : zCtx G M_Mo_isBelow (zKm G 0 X post) X) (v1 : Int32) (v2 : Int32) (σ : zSt)
    (h : (vp_in v1 12 ∧ ((¬ (σ 41 v1.toNatClampNeg) = v2 → post (some (.int (0 : Int32))) σ) ∧ ((σ 41 v1.toNatClampNeg) = v2 → ((v1 = v2 → post (some (.int (0 : Int32))) σ) ∧ (¬ v1 = v2 → post (some (.int (1 : Int32))) σ)))))) :
    zZ G M_Mo_isBelow 0 X post 0 [(0, zf G 32), (1, .int v1), (2, .int v2)] [] σ := by
  refine z_aload_n E 0 d_Mo_isBelow_0 rfl rfl ?_
  refine z_getR E f_Mo_35 d_Mo_isBelow_1 ?_
  refine z_iload_n E 1 d_Mo_isBelow_4 rfl rfl ?_
  obtain ⟨h0, h⟩ := h
  refine z_iald E rfl d_Mo_isBelow_5 ⟨h0, ?_⟩
  refine z_iload_n E 2 d_Mo_isBelow_6 rfl rfl ?_
  refine z_icmp_ne E d_Mo_isBelow_7 (tgt := 19) (by decide) ⟨fun q => ?_, fun q => ?_⟩
  · replace h := h.1 q
    refine z_iconst E (v := 0) d_Mo_isBelow_19 (by decide) ?_
    exact z_zreturn E rfl rfl d_Mo_isBelow_20 h
  · replace h := h.2 q
    refine z_iload_n E 1 d_Mo_isBelow_10 rfl rfl ?_
    refine z_iload_n E 2 d_Mo_isBelow_11 rfl rfl ?_
    refine z_icmp_eq E d_Mo_isBelow_12 (tgt := 19) (by decide) ⟨fun q => ?_, fun q => ?_⟩
    · replace h := h.1 q
      refine z_iconst E (v := 0) d_Mo_isBelow_19 (by decide) ?_
      exact z_zreturn E rfl rfl d_Mo_isBelow_20 h
    · replace h := h.2 q
      refine z_iconst E (v := 1) d_Mo_isBelow_15 (by decide) ?_
      refine z_goto E d_Mo_isBelow_16 (tgt := 20) (by decide) ?_
      exact z_zreturn E rfl rfl d_Mo_isBelow_20 h
