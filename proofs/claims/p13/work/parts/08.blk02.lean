set_option maxRecDepth 20000 in
set_option maxHeartbeats 4000000 in
theorem b_Course_keepWithAll_0 {G : zG} {X : zX} {post : Option Value → zSt → Prop} (E : zCtx G M_Course_keepWithAll (zKm G 2 X post) X) (v1 : Int32) (σ : zSt)
    (h : (vp_in v1 12 ∧ (((zSf σ v1) = true → (vp_in v1 12 ∧ ((¬ (σ 25 v1.toNatClampNeg) = 0 → (∃ P : Bool → zSt → Prop, zB G 1 M_Course_hasAllSafes [zf G 1, .int v1] σ P ∧ ∀ (b2 : Bool) (σ1 : zSt), P b2 σ1 → post (some (.int (zb b2))) σ1)) ∧ ((σ 25 v1.toNatClampNeg) = 0 → (vp_in v1 12 ∧ ∀ σ3 : zSt, σ3 = zup σ 25 v1.toNatClampNeg (1 : Int32) → (vp_in v1 12 ∧ (vp_in v1 12 ∧ (∃ P : zSt → Prop, zV G 1 M_Course_send [zf G 1, .int (2 : Int32), .int v1, .int (σ3 14 v1.toNatClampNeg), .int (σ3 24 v1.toNatClampNeg), .int (0 : Int32)] σ3 P ∧ ∀ σ4 : zSt, P σ4 → (∃ P : Bool → zSt → Prop, zB G 1 M_Course_hasAllSafes [zf G 1, .int v1] σ4 P ∧ ∀ (b6 : Bool) (σ5 : zSt), P b6 σ5 → post (some (.int (zb b6))) σ5))))))))) ∧ ((zSf σ v1) = false → post (some (.int (0 : Int32))) σ)))) :
    zZ G M_Course_keepWithAll 2 X post 0 [(0, zf G 1), (1, .int v1)] [] σ := by
  refine z_aload_n E 0 d_Course_keepWithAll_0 rfl rfl ?_
  refine z_iload_n E 1 d_Course_keepWithAll_1 rfl rfl ?_
  obtain ⟨h0, h⟩ := h
  refine z_callVBp [.int v1] [] E (p_Course_isSafe G σ v1 h0) c_Course_184 r_Course_isSafe rfl zrm rfl (Nat.le_of_ble_eq_true rfl) d_Course_keepWithAll_2 ?_
  refine z_ifz_ne E d_Course_keepWithAll_5 (tgt := 10) (by decide) ⟨fun q => ?_, fun q => ?_⟩
  · replace h := h.1 q
    refine z_aload_n E 0 d_Course_keepWithAll_10 rfl rfl ?_
    refine z_getR E f_Course_43 d_Course_keepWithAll_11 ?_
    refine z_iload_n E 1 d_Course_keepWithAll_14 rfl rfl ?_
    obtain ⟨h0, h⟩ := h
    refine z_iald E rfl d_Course_keepWithAll_15 ⟨h0, ?_⟩
    refine z_if_ne E d_Course_keepWithAll_16 (tgt := 48) (by decide) ⟨fun q => ?_, fun q => ?_⟩
    · replace h := h.1 q
      refine z_aload_n E 0 d_Course_keepWithAll_48 rfl rfl ?_
      refine z_iload_n E 1 d_Course_keepWithAll_49 rfl rfl ?_
      obtain ⟨P, hM, h⟩ := h
      refine z_callVB [.int v1] [] E hM c_Course_187 r_Course_hasAllSafes rfl zrm rfl (Nat.le_of_ble_eq_true rfl) d_Course_keepWithAll_50 (fun b2 σ1 hp => ?_)
      replace h := h b2 σ1 hp
      exact z_zreturn E rfl (zb_nar _) d_Course_keepWithAll_53 h
    · replace h := h.2 q
      refine z_aload_n E 0 d_Course_keepWithAll_19 rfl rfl ?_
      refine z_getR E f_Course_43 d_Course_keepWithAll_20 ?_
      refine z_iload_n E 1 d_Course_keepWithAll_23 rfl rfl ?_
      refine z_iconst E (v := 1) d_Course_keepWithAll_24 (by decide) ?_
      obtain ⟨h0, h⟩ := h
      refine z_iast E rfl d_Course_keepWithAll_25 ⟨h0, fun σ3 e => ?_⟩
      replace h := h σ3 e
      refine z_aload_n E 0 d_Course_keepWithAll_26 rfl rfl ?_
      refine z_iconst E (v := 2) d_Course_keepWithAll_27 (by decide) ?_
      refine z_iload_n E 1 d_Course_keepWithAll_28 rfl rfl ?_
      refine z_aload_n E 0 d_Course_keepWithAll_29 rfl rfl ?_
      refine z_getR E f_Course_21 d_Course_keepWithAll_30 ?_
      refine z_getR E f_Course_178 d_Course_keepWithAll_33 ?_
      refine z_iload_n E 1 d_Course_keepWithAll_36 rfl rfl ?_
      obtain ⟨h0, h⟩ := h
      refine z_iald E rfl d_Course_keepWithAll_37 ⟨h0, ?_⟩
      refine z_aload_n E 0 d_Course_keepWithAll_38 rfl rfl ?_
      refine z_getR E f_Course_39 d_Course_keepWithAll_39 ?_
      refine z_iload_n E 1 d_Course_keepWithAll_42 rfl rfl ?_
      obtain ⟨h0, h⟩ := h
      refine z_iald E rfl d_Course_keepWithAll_43 ⟨h0, ?_⟩
      refine z_iconst E (v := 0) d_Course_keepWithAll_44 (by decide) ?_
      obtain ⟨P, hM, h⟩ := h
      refine z_callVV [.int (2 : Int32), .int v1, .int (σ3 14 v1.toNatClampNeg), .int (σ3 24 v1.toNatClampNeg), .int (0 : Int32)] [] E hM c_Course_149 r_Course_send rfl zrm rfl (Nat.le_of_ble_eq_true rfl) d_Course_keepWithAll_45 (fun σ4 hp => ?_)
      replace h := h σ4 hp
      refine z_aload_n E 0 d_Course_keepWithAll_48 rfl rfl ?_
      refine z_iload_n E 1 d_Course_keepWithAll_49 rfl rfl ?_
      obtain ⟨P, hM, h⟩ := h
      refine z_callVB [.int v1] [] E hM c_Course_187 r_Course_hasAllSafes rfl zrm rfl (Nat.le_of_ble_eq_true rfl) d_Course_keepWithAll_50 (fun b6 σ5 hp => ?_)
      replace h := h b6 σ5 hp
      exact z_zreturn E rfl (zb_nar _) d_Course_keepWithAll_53 h
  · replace h := h.2 q
    refine z_iconst E (v := 0) d_Course_keepWithAll_8 (by decide) ?_
    exact z_zreturn E rfl rfl d_Course_keepWithAll_9 h

set_option maxRecDepth 20000 in
set_option maxHeartbeats 4000000 in
theorem b_Course_keepInTree_0 {G : zG} {X : zX} {post : Option Value → zSt → Prop} (E : zCtx G M_Course_keepInTree (zKm G 2 X post) X) (v1 : Int32) (σ : zSt)
    (h : (vp_in v1 12 ∧ ((¬ (σ 25 v1.toNatClampNeg) = 0 → post (some (.int (0 : Int32))) σ) ∧ ((σ 25 v1.toNatClampNeg) = 0 → (vp_in v1 12 ∧ (((zSf σ v1) = false → post (some (.int (0 : Int32))) σ) ∧ ((zSf σ v1) = true → (∃ P : Bool → zSt → Prop, zB G 1 M_Course_hasAllBelow [zf G 1, zf G 27, .int v1] σ P ∧ ∀ (b2 : Bool) (σ1 : zSt), P b2 σ1 → ((b2 = true → (vp_in v1 12 ∧ ∀ σ3 : zSt, σ3 = zup σ1 25 v1.toNatClampNeg (1 : Int32) → (vp_in v1 12 ∧ (vp_in v1 12 ∧ (∃ P : zSt → Prop, zV G 1 M_Course_send [zf G 1, .int (3 : Int32), .int v1, .int (σ3 12 v1.toNatClampNeg), .int (σ3 24 v1.toNatClampNeg), .int (0 : Int32)] σ3 P ∧ ∀ σ4 : zSt, P σ4 → (vp_in v1 12 ∧ post (some (.int (zb (zLd σ4 v1)))) σ4)))))) ∧ (b2 = false → post (some (.int (0 : Int32))) σ1)))))))))) :
    zZ G M_Course_keepInTree 2 X post 0 [(0, zf G 1), (1, .int v1)] [] σ := by
  refine z_aload_n E 0 d_Course_keepInTree_0 rfl rfl ?_
  refine z_getR E f_Course_43 d_Course_keepInTree_1 ?_
  refine z_iload_n E 1 d_Course_keepInTree_4 rfl rfl ?_
  obtain ⟨h0, h⟩ := h
  refine z_iald E rfl d_Course_keepInTree_5 ⟨h0, ?_⟩
  refine z_if_ne E d_Course_keepInTree_6 (tgt := 29) (by decide) ⟨fun q => ?_, fun q => ?_⟩
  · replace h := h.1 q
    refine z_iconst E (v := 0) d_Course_keepInTree_29 (by decide) ?_
    exact z_zreturn E rfl rfl d_Course_keepInTree_30 h
  · replace h := h.2 q
    refine z_aload_n E 0 d_Course_keepInTree_9 rfl rfl ?_
    refine z_iload_n E 1 d_Course_keepInTree_10 rfl rfl ?_
    obtain ⟨h0, h⟩ := h
    refine z_callVBp [.int v1] [] E (p_Course_isSafe G σ v1 h0) c_Course_184 r_Course_isSafe rfl zrm rfl (Nat.le_of_ble_eq_true rfl) d_Course_keepInTree_11 ?_
    refine z_ifz_eq E d_Course_keepInTree_14 (tgt := 29) (by decide) ⟨fun q => ?_, fun q => ?_⟩
    · replace h := h.1 q
      refine z_iconst E (v := 0) d_Course_keepInTree_29 (by decide) ?_
      exact z_zreturn E rfl rfl d_Course_keepInTree_30 h
    · replace h := h.2 q
      refine z_aload_n E 0 d_Course_keepInTree_17 rfl rfl ?_
      refine z_aload_n E 0 d_Course_keepInTree_18 rfl rfl ?_
      refine z_getR E f_Course_49 d_Course_keepInTree_19 ?_
      refine z_iload_n E 1 d_Course_keepInTree_22 rfl rfl ?_
      obtain ⟨P, hM, h⟩ := h
      refine z_callVB [zf G 27, .int v1] [] E hM c_Course_190 r_Course_hasAllBelow rfl zrm rfl (Nat.le_of_ble_eq_true rfl) d_Course_keepInTree_23 (fun b2 σ1 hp => ?_)
      replace h := h b2 σ1 hp
      refine z_ifz_ne E d_Course_keepInTree_26 (tgt := 31) (by decide) ⟨fun q => ?_, fun q => ?_⟩
      · replace h := h.1 q
        refine z_aload_n E 0 d_Course_keepInTree_31 rfl rfl ?_
        refine z_getR E f_Course_43 d_Course_keepInTree_32 ?_
        refine z_iload_n E 1 d_Course_keepInTree_35 rfl rfl ?_
        refine z_iconst E (v := 1) d_Course_keepInTree_36 (by decide) ?_
        obtain ⟨h0, h⟩ := h
        refine z_iast E rfl d_Course_keepInTree_37 ⟨h0, fun σ3 e => ?_⟩
        replace h := h σ3 e
        refine z_aload_n E 0 d_Course_keepInTree_38 rfl rfl ?_
        refine z_iconst E (v := 3) d_Course_keepInTree_39 (by decide) ?_
        refine z_iload_n E 1 d_Course_keepInTree_40 rfl rfl ?_
        refine z_aload_n E 0 d_Course_keepInTree_41 rfl rfl ?_
        refine z_getR E f_Course_21 d_Course_keepInTree_42 ?_
        refine z_getR E f_Course_194 d_Course_keepInTree_45 ?_
        refine z_iload_n E 1 d_Course_keepInTree_48 rfl rfl ?_
        obtain ⟨h0, h⟩ := h
        refine z_iald E rfl d_Course_keepInTree_49 ⟨h0, ?_⟩
        refine z_aload_n E 0 d_Course_keepInTree_50 rfl rfl ?_
        refine z_getR E f_Course_39 d_Course_keepInTree_51 ?_
        refine z_iload_n E 1 d_Course_keepInTree_54 rfl rfl ?_
        obtain ⟨h0, h⟩ := h
        refine z_iald E rfl d_Course_keepInTree_55 ⟨h0, ?_⟩
        refine z_iconst E (v := 0) d_Course_keepInTree_56 (by decide) ?_
        obtain ⟨P, hM, h⟩ := h
        refine z_callVV [.int (3 : Int32), .int v1, .int (σ3 12 v1.toNatClampNeg), .int (σ3 24 v1.toNatClampNeg), .int (0 : Int32)] [] E hM c_Course_149 r_Course_send rfl zrm rfl (Nat.le_of_ble_eq_true rfl) d_Course_keepInTree_57 (fun σ4 hp => ?_)
        replace h := h σ4 hp
        refine z_aload_n E 0 d_Course_keepInTree_60 rfl rfl ?_
        refine z_iload_n E 1 d_Course_keepInTree_61 rfl rfl ?_
        obtain ⟨h0, h⟩ := h
        refine z_callVBp [.int v1] [] E (p_Course_isLeader G σ4 v1 h0) c_Course_197 r_Course_isLeader rfl zrm rfl (Nat.le_of_ble_eq_true rfl) d_Course_keepInTree_62 ?_
        exact z_zreturn E rfl (zb_nar _) d_Course_keepInTree_65 h
      · replace h := h.2 q
        refine z_iconst E (v := 0) d_Course_keepInTree_29 (by decide) ?_
        exact z_zreturn E rfl rfl d_Course_keepInTree_30 h

set_option maxRecDepth 20000 in
set_option maxHeartbeats 4000000 in
theorem b_Course_keepInClusters_0 {G : zG} {X : zX} {post : Option Value → zSt → Prop} (E : zCtx G M_Course_keepInClusters (zKm G 3 X post) X) (v1 : Int32) (σ : zSt)
    (h : (∃ P : Bool → zSt → Prop, zB G 2 M_Course_keepInTree [zf G 1, .int v1] σ P ∧ ∀ (b2 : Bool) (σ1 : zSt), P b2 σ1 → ((b2 = false → (vp_in v1 12 ∧ ((¬ (σ1 25 v1.toNatClampNeg) = (2 : Int32) → post (some (.int (0 : Int32))) σ1) ∧ ((σ1 25 v1.toNatClampNeg) = (2 : Int32) → (∃ P : Bool → zSt → Prop, zB G 1 M_Course_hasAllSafes [zf G 1, .int v1] σ1 P ∧ ∀ (b4 : Bool) (σ3 : zSt), P b4 σ3 → ((b4 = false → post (some (.int (0 : Int32))) σ3) ∧ (b4 = true → (∃ P : Bool → zSt → Prop, zB G 1 M_Course_hasAllBelow [zf G 1, zf G 28, .int v1] σ3 P ∧ ∀ (b6 : Bool) (σ5 : zSt), P b6 σ5 → ((b6 = true → (vp_in v1 12 ∧ ∀ σ7 : zSt, σ7 = zup σ5 25 v1.toNatClampNeg (3 : Int32) → (vp_in v1 12 ∧ (vp_in v1 12 ∧ (∃ P : zSt → Prop, zV G 1 M_Course_send [zf G 1, .int (6 : Int32), .int v1, .int (σ7 12 v1.toNatClampNeg), .int (σ7 24 v1.toNatClampNeg), .int (0 : Int32)] σ7 P ∧ ∀ σ8 : zSt, P σ8 → (vp_in v1 12 ∧ post (some (.int (zb (zLd σ8 v1)))) σ8)))))) ∧ (b6 = false → post (some (.int (0 : Int32))) σ5)))))))))) ∧ (b2 = true → (∃ P : zSt → Prop, zV G 2 M_Course_spreadFirm [zf G 1, .int v1] σ1 P ∧ ∀ σ9 : zSt, P σ9 → (vp_in v1 12 ∧ ((¬ (σ9 25 v1.toNatClampNeg) = (2 : Int32) → post (some (.int (0 : Int32))) σ9) ∧ ((σ9 25 v1.toNatClampNeg) = (2 : Int32) → (∃ P : Bool → zSt → Prop, zB G 1 M_Course_hasAllSafes [zf G 1, .int v1] σ9 P ∧ ∀ (b11 : Bool) (σ10 : zSt), P b11 σ10 → ((b11 = false → post (some (.int (0 : Int32))) σ10) ∧ (b11 = true → (∃ P : Bool → zSt → Prop, zB G 1 M_Course_hasAllBelow [zf G 1, zf G 28, .int v1] σ10 P ∧ ∀ (b13 : Bool) (σ12 : zSt), P b13 σ12 → ((b13 = true → (vp_in v1 12 ∧ ∀ σ14 : zSt, σ14 = zup σ12 25 v1.toNatClampNeg (3 : Int32) → (vp_in v1 12 ∧ (vp_in v1 12 ∧ (∃ P : zSt → Prop, zV G 1 M_Course_send [zf G 1, .int (6 : Int32), .int v1, .int (σ14 12 v1.toNatClampNeg), .int (σ14 24 v1.toNatClampNeg), .int (0 : Int32)] σ14 P ∧ ∀ σ15 : zSt, P σ15 → (vp_in v1 12 ∧ post (some (.int (zb (zLd σ15 v1)))) σ15)))))) ∧ (b13 = false → post (some (.int (0 : Int32))) σ12)))))))))))))) :
    zZ G M_Course_keepInClusters 3 X post 0 [(0, zf G 1), (1, .int v1)] [] σ := by
  refine z_aload_n E 0 d_Course_keepInClusters_0 rfl rfl ?_
  refine z_iload_n E 1 d_Course_keepInClusters_1 rfl rfl ?_
  obtain ⟨P, hM, h⟩ := h
  refine z_callVB [.int v1] [] E hM c_Course_163 r_Course_keepInTree rfl zrm rfl (Nat.le_of_ble_eq_true rfl) d_Course_keepInClusters_2 (fun b2 σ1 hp => ?_)
  replace h := h b2 σ1 hp
  refine z_ifz_eq E d_Course_keepInClusters_5 (tgt := 13) (by decide) ⟨fun q => ?_, fun q => ?_⟩
  · replace h := h.1 q
    refine z_aload_n E 0 d_Course_keepInClusters_13 rfl rfl ?_
    refine z_getR E f_Course_43 d_Course_keepInClusters_14 ?_
    refine z_iload_n E 1 d_Course_keepInClusters_17 rfl rfl ?_
    obtain ⟨h0, h⟩ := h
    refine z_iald E rfl d_Course_keepInClusters_18 ⟨h0, ?_⟩
    refine z_iconst E (v := 2) d_Course_keepInClusters_19 (by decide) ?_
    refine z_icmp_ne E d_Course_keepInClusters_20 (tgt := 43) (by decide) ⟨fun q => ?_, fun q => ?_⟩
    · replace h := h.1 q
      refine z_iconst E (v := 0) d_Course_keepInClusters_43 (by decide) ?_
      exact z_zreturn E rfl rfl d_Course_keepInClusters_44 h
    · replace h := h.2 q
      refine z_aload_n E 0 d_Course_keepInClusters_23 rfl rfl ?_
      refine z_iload_n E 1 d_Course_keepInClusters_24 rfl rfl ?_
      obtain ⟨P, hM, h⟩ := h
      refine z_callVB [.int v1] [] E hM c_Course_187 r_Course_hasAllSafes rfl zrm rfl (Nat.le_of_ble_eq_true rfl) d_Course_keepInClusters_25 (fun b4 σ3 hp => ?_)
      replace h := h b4 σ3 hp
      refine z_ifz_eq E d_Course_keepInClusters_28 (tgt := 43) (by decide) ⟨fun q => ?_, fun q => ?_⟩
      · replace h := h.1 q
        refine z_iconst E (v := 0) d_Course_keepInClusters_43 (by decide) ?_
        exact z_zreturn E rfl rfl d_Course_keepInClusters_44 h
      · replace h := h.2 q
        refine z_aload_n E 0 d_Course_keepInClusters_31 rfl rfl ?_
        refine z_aload_n E 0 d_Course_keepInClusters_32 rfl rfl ?_
        refine z_getR E f_Course_52 d_Course_keepInClusters_33 ?_
        refine z_iload_n E 1 d_Course_keepInClusters_36 rfl rfl ?_
        obtain ⟨P, hM, h⟩ := h
        refine z_callVB [zf G 28, .int v1] [] E hM c_Course_190 r_Course_hasAllBelow rfl zrm rfl (Nat.le_of_ble_eq_true rfl) d_Course_keepInClusters_37 (fun b6 σ5 hp => ?_)
        replace h := h b6 σ5 hp
        refine z_ifz_ne E d_Course_keepInClusters_40 (tgt := 45) (by decide) ⟨fun q => ?_, fun q => ?_⟩
        · replace h := h.1 q
          refine z_aload_n E 0 d_Course_keepInClusters_45 rfl rfl ?_
          refine z_getR E f_Course_43 d_Course_keepInClusters_46 ?_
          refine z_iload_n E 1 d_Course_keepInClusters_49 rfl rfl ?_
          refine z_iconst E (v := 3) d_Course_keepInClusters_50 (by decide) ?_
          obtain ⟨h0, h⟩ := h
          refine z_iast E rfl d_Course_keepInClusters_51 ⟨h0, fun σ7 e => ?_⟩
          replace h := h σ7 e
          refine z_aload_n E 0 d_Course_keepInClusters_52 rfl rfl ?_
          refine z_bipush E (v := 6) d_Course_keepInClusters_53 (by decide) ?_
          refine z_iload_n E 1 d_Course_keepInClusters_55 rfl rfl ?_
          refine z_aload_n E 0 d_Course_keepInClusters_56 rfl rfl ?_
          refine z_getR E f_Course_21 d_Course_keepInClusters_57 ?_
          refine z_getR E f_Course_194 d_Course_keepInClusters_60 ?_
          refine z_iload_n E 1 d_Course_keepInClusters_63 rfl rfl ?_
          obtain ⟨h0, h⟩ := h
          refine z_iald E rfl d_Course_keepInClusters_64 ⟨h0, ?_⟩
          refine z_aload_n E 0 d_Course_keepInClusters_65 rfl rfl ?_
          refine z_getR E f_Course_39 d_Course_keepInClusters_66 ?_
          refine z_iload_n E 1 d_Course_keepInClusters_69 rfl rfl ?_
          obtain ⟨h0, h⟩ := h
          refine z_iald E rfl d_Course_keepInClusters_70 ⟨h0, ?_⟩
          refine z_iconst E (v := 0) d_Course_keepInClusters_71 (by decide) ?_
          obtain ⟨P, hM, h⟩ := h
          refine z_callVV [.int (6 : Int32), .int v1, .int (σ7 12 v1.toNatClampNeg), .int (σ7 24 v1.toNatClampNeg), .int (0 : Int32)] [] E hM c_Course_149 r_Course_send rfl zrm rfl (Nat.le_of_ble_eq_true rfl) d_Course_keepInClusters_72 (fun σ8 hp => ?_)
          replace h := h σ8 hp
          refine z_aload_n E 0 d_Course_keepInClusters_75 rfl rfl ?_
          refine z_iload_n E 1 d_Course_keepInClusters_76 rfl rfl ?_
          obtain ⟨h0, h⟩ := h
          refine z_callVBp [.int v1] [] E (p_Course_isLeader G σ8 v1 h0) c_Course_197 r_Course_isLeader rfl zrm rfl (Nat.le_of_ble_eq_true rfl) d_Course_keepInClusters_77 ?_
          exact z_zreturn E rfl (zb_nar _) d_Course_keepInClusters_80 h
        · replace h := h.2 q
          refine z_iconst E (v := 0) d_Course_keepInClusters_43 (by decide) ?_
          exact z_zreturn E rfl rfl d_Course_keepInClusters_44 h
  · replace h := h.2 q
    refine z_aload_n E 0 d_Course_keepInClusters_8 rfl rfl ?_
    refine z_iload_n E 1 d_Course_keepInClusters_9 rfl rfl ?_
    obtain ⟨P, hM, h⟩ := h
    refine z_callVV [.int v1] [] E hM c_Course_153 r_Course_spreadFirm rfl zrm rfl (Nat.le_of_ble_eq_true rfl) d_Course_keepInClusters_10 (fun σ9 hp => ?_)
    replace h := h σ9 hp
    refine z_aload_n E 0 d_Course_keepInClusters_13 rfl rfl ?_
    refine z_getR E f_Course_43 d_Course_keepInClusters_14 ?_
    refine z_iload_n E 1 d_Course_keepInClusters_17 rfl rfl ?_
    obtain ⟨h0, h⟩ := h
    refine z_iald E rfl d_Course_keepInClusters_18 ⟨h0, ?_⟩
    refine z_iconst E (v := 2) d_Course_keepInClusters_19 (by decide) ?_
    refine z_icmp_ne E d_Course_keepInClusters_20 (tgt := 43) (by decide) ⟨fun q => ?_, fun q => ?_⟩
    · replace h := h.1 q
      refine z_iconst E (v := 0) d_Course_keepInClusters_43 (by decide) ?_
      exact z_zreturn E rfl rfl d_Course_keepInClusters_44 h
    · replace h := h.2 q
      refine z_aload_n E 0 d_Course_keepInClusters_23 rfl rfl ?_
      refine z_iload_n E 1 d_Course_keepInClusters_24 rfl rfl ?_
      obtain ⟨P, hM, h⟩ := h
      refine z_callVB [.int v1] [] E hM c_Course_187 r_Course_hasAllSafes rfl zrm rfl (Nat.le_of_ble_eq_true rfl) d_Course_keepInClusters_25 (fun b11 σ10 hp => ?_)
      replace h := h b11 σ10 hp
      refine z_ifz_eq E d_Course_keepInClusters_28 (tgt := 43) (by decide) ⟨fun q => ?_, fun q => ?_⟩
      · replace h := h.1 q
        refine z_iconst E (v := 0) d_Course_keepInClusters_43 (by decide) ?_
        exact z_zreturn E rfl rfl d_Course_keepInClusters_44 h
      · replace h := h.2 q
        refine z_aload_n E 0 d_Course_keepInClusters_31 rfl rfl ?_
        refine z_aload_n E 0 d_Course_keepInClusters_32 rfl rfl ?_
        refine z_getR E f_Course_52 d_Course_keepInClusters_33 ?_
        refine z_iload_n E 1 d_Course_keepInClusters_36 rfl rfl ?_
        obtain ⟨P, hM, h⟩ := h
        refine z_callVB [zf G 28, .int v1] [] E hM c_Course_190 r_Course_hasAllBelow rfl zrm rfl (Nat.le_of_ble_eq_true rfl) d_Course_keepInClusters_37 (fun b13 σ12 hp => ?_)
        replace h := h b13 σ12 hp
        refine z_ifz_ne E d_Course_keepInClusters_40 (tgt := 45) (by decide) ⟨fun q => ?_, fun q => ?_⟩
        · replace h := h.1 q
          refine z_aload_n E 0 d_Course_keepInClusters_45 rfl rfl ?_
          refine z_getR E f_Course_43 d_Course_keepInClusters_46 ?_
          refine z_iload_n E 1 d_Course_keepInClusters_49 rfl rfl ?_
          refine z_iconst E (v := 3) d_Course_keepInClusters_50 (by decide) ?_
          obtain ⟨h0, h⟩ := h
          refine z_iast E rfl d_Course_keepInClusters_51 ⟨h0, fun σ14 e => ?_⟩
          replace h := h σ14 e
          refine z_aload_n E 0 d_Course_keepInClusters_52 rfl rfl ?_
          refine z_bipush E (v := 6) d_Course_keepInClusters_53 (by decide) ?_
          refine z_iload_n E 1 d_Course_keepInClusters_55 rfl rfl ?_
          refine z_aload_n E 0 d_Course_keepInClusters_56 rfl rfl ?_
          refine z_getR E f_Course_21 d_Course_keepInClusters_57 ?_
          refine z_getR E f_Course_194 d_Course_keepInClusters_60 ?_
          refine z_iload_n E 1 d_Course_keepInClusters_63 rfl rfl ?_
          obtain ⟨h0, h⟩ := h
          refine z_iald E rfl d_Course_keepInClusters_64 ⟨h0, ?_⟩
          refine z_aload_n E 0 d_Course_keepInClusters_65 rfl rfl ?_
          refine z_getR E f_Course_39 d_Course_keepInClusters_66 ?_
          refine z_iload_n E 1 d_Course_keepInClusters_69 rfl rfl ?_
          obtain ⟨h0, h⟩ := h
          refine z_iald E rfl d_Course_keepInClusters_70 ⟨h0, ?_⟩
          refine z_iconst E (v := 0) d_Course_keepInClusters_71 (by decide) ?_
          obtain ⟨P, hM, h⟩ := h
          refine z_callVV [.int (6 : Int32), .int v1, .int (σ14 12 v1.toNatClampNeg), .int (σ14 24 v1.toNatClampNeg), .int (0 : Int32)] [] E hM c_Course_149 r_Course_send rfl zrm rfl (Nat.le_of_ble_eq_true rfl) d_Course_keepInClusters_72 (fun σ15 hp => ?_)
          replace h := h σ15 hp
          refine z_aload_n E 0 d_Course_keepInClusters_75 rfl rfl ?_
          refine z_iload_n E 1 d_Course_keepInClusters_76 rfl rfl ?_
          obtain ⟨h0, h⟩ := h
          refine z_callVBp [.int v1] [] E (p_Course_isLeader G σ15 v1 h0) c_Course_197 r_Course_isLeader rfl zrm rfl (Nat.le_of_ble_eq_true rfl) d_Course_keepInClusters_77 ?_
          exact z_zreturn E rfl (zb_nar _) d_Course_keepInClusters_80 h
        · replace h := h.2 q
          refine z_iconst E (v := 0) d_Course_keepInClusters_43 (by decide) ?_
          exact z_zreturn E rfl rfl d_Course_keepInClusters_44 h

set_option maxRecDepth 20000 in
set_option maxHeartbeats 4000000 in
theorem b_Course_spreadFirm_0 {G : zG} {X : zX} {post : Option Value → zSt → Prop} (E : zCtx G M_Course_spreadFirm (zKm G 2 X post) X) (v1 : Int32) (σ : zSt)
    (h : (vp_in v1 12 ∧ ∀ σ1 : zSt, σ1 = zup σ 25 v1.toNatClampNeg (2 : Int32) → (vp_in v1 12 ∧ (vp_in v1 12 ∧ (∃ P : zSt → Prop, zV G 1 M_Course_send [zf G 1, .int (5 : Int32), .int v1, .int (σ1 13 v1.toNatClampNeg), .int (σ1 24 v1.toNatClampNeg), .int (0 : Int32)] σ1 P ∧ ∀ σ2 : zSt, P σ2 → (vp_in v1 12 ∧ (vp_in v1 12 ∧ (∃ P : zSt → Prop, zV G 1 M_Course_send [zf G 1, .int (2 : Int32), .int v1, .int (σ2 14 v1.toNatClampNeg), .int (σ2 24 v1.toNatClampNeg), .int (0 : Int32)] σ2 P ∧ ∀ σ3 : zSt, P σ3 → post none σ3)))))))) :
    zZ G M_Course_spreadFirm 2 X post 0 [(0, zf G 1), (1, .int v1)] [] σ := by
  refine z_aload_n E 0 d_Course_spreadFirm_0 rfl rfl ?_
  refine z_getR E f_Course_43 d_Course_spreadFirm_1 ?_
  refine z_iload_n E 1 d_Course_spreadFirm_4 rfl rfl ?_
  refine z_iconst E (v := 2) d_Course_spreadFirm_5 (by decide) ?_
  obtain ⟨h0, h⟩ := h
  refine z_iast E rfl d_Course_spreadFirm_6 ⟨h0, fun σ1 e => ?_⟩
  replace h := h σ1 e
  refine z_aload_n E 0 d_Course_spreadFirm_7 rfl rfl ?_
  refine z_iconst E (v := 5) d_Course_spreadFirm_8 (by decide) ?_
  refine z_iload_n E 1 d_Course_spreadFirm_9 rfl rfl ?_
  refine z_aload_n E 0 d_Course_spreadFirm_10 rfl rfl ?_
  refine z_getR E f_Course_21 d_Course_spreadFirm_11 ?_
  refine z_getR E f_Course_169 d_Course_spreadFirm_14 ?_
  refine z_iload_n E 1 d_Course_spreadFirm_17 rfl rfl ?_
  obtain ⟨h0, h⟩ := h
  refine z_iald E rfl d_Course_spreadFirm_18 ⟨h0, ?_⟩
  refine z_aload_n E 0 d_Course_spreadFirm_19 rfl rfl ?_
  refine z_getR E f_Course_39 d_Course_spreadFirm_20 ?_
  refine z_iload_n E 1 d_Course_spreadFirm_23 rfl rfl ?_
  obtain ⟨h0, h⟩ := h
  refine z_iald E rfl d_Course_spreadFirm_24 ⟨h0, ?_⟩
  refine z_iconst E (v := 0) d_Course_spreadFirm_25 (by decide) ?_
  obtain ⟨P, hM, h⟩ := h
  refine z_callVV [.int (5 : Int32), .int v1, .int (σ1 13 v1.toNatClampNeg), .int (σ1 24 v1.toNatClampNeg), .int (0 : Int32)] [] E hM c_Course_149 r_Course_send rfl zrm rfl (Nat.le_of_ble_eq_true rfl) d_Course_spreadFirm_26 (fun σ2 hp => ?_)
  replace h := h σ2 hp
  refine z_aload_n E 0 d_Course_spreadFirm_29 rfl rfl ?_
  refine z_iconst E (v := 2) d_Course_spreadFirm_30 (by decide) ?_
  refine z_iload_n E 1 d_Course_spreadFirm_31 rfl rfl ?_
  refine z_aload_n E 0 d_Course_spreadFirm_32 rfl rfl ?_
  refine z_getR E f_Course_21 d_Course_spreadFirm_33 ?_
  refine z_getR E f_Course_178 d_Course_spreadFirm_36 ?_
  refine z_iload_n E 1 d_Course_spreadFirm_39 rfl rfl ?_
  obtain ⟨h0, h⟩ := h
  refine z_iald E rfl d_Course_spreadFirm_40 ⟨h0, ?_⟩
  refine z_aload_n E 0 d_Course_spreadFirm_41 rfl rfl ?_
  refine z_getR E f_Course_39 d_Course_spreadFirm_42 ?_
  refine z_iload_n E 1 d_Course_spreadFirm_45 rfl rfl ?_
  obtain ⟨h0, h⟩ := h
  refine z_iald E rfl d_Course_spreadFirm_46 ⟨h0, ?_⟩
  refine z_iconst E (v := 0) d_Course_spreadFirm_47 (by decide) ?_
  obtain ⟨P, hM, h⟩ := h
  refine z_callVV [.int (2 : Int32), .int v1, .int (σ2 14 v1.toNatClampNeg), .int (σ2 24 v1.toNatClampNeg), .int (0 : Int32)] [] E hM c_Course_149 r_Course_send rfl zrm rfl (Nat.le_of_ble_eq_true rfl) d_Course_spreadFirm_48 (fun σ3 hp => ?_)
  replace h := h σ3 hp
  exact z_return E rfl d_Course_spreadFirm_51 h

set_option maxRecDepth 20000 in
set_option maxHeartbeats 4000000 in
theorem b_Course_leastRound_0 {G : zG} {X : zX} {post : Option Value → zSt → Prop} (E : zCtx G M_Course_leastRound (zKm G 1 X post) X)  (σ : zSt)
    (h : zZ G M_Course_leastRound 1 X post 7 [(0, zf G 1), (1, .int (σ 1 5)), (2, .int (0 : Int32))] [] σ) :
    zZ G M_Course_leastRound 1 X post 0 [(0, zf G 1)] [] σ := by
  refine z_aload_n E 0 d_Course_leastRound_0 rfl rfl ?_
  refine z_getI E f_Course_68 d_Course_leastRound_1 ?_
  refine z_istore_n E [1, 0] (lv' := [(0, zf G 1), (1, .int (σ 1 5))]) d_Course_leastRound_4 rfl (by decide) rfl ?_
  refine z_iconst E (v := 0) d_Course_leastRound_5 (by decide) ?_
  refine z_istore_n E [1, 2, 0] (lv' := [(0, zf G 1), (1, .int (σ 1 5)), (2, .int (0 : Int32))]) d_Course_leastRound_6 rfl (by decide) rfl ?_
  exact h

set_option maxRecDepth 20000 in
set_option maxHeartbeats 4000000 in
theorem b_Course_leastRound_7 {G : zG} {X : zX} {post : Option Value → zSt → Prop} (E : zCtx G M_Course_leastRound (zKm G 1 X post) X) (v1 : Int32) (v2 : Int32) (σ : zSt)
    (h : (((σ 2 0) ≤ v2 → post (some (.int v1)) σ) ∧ (¬ (σ 2 0) ≤ v2 → (vp_in v2 12 ∧ zZ G M_Course_leastRound 1 X post 7 [(0, zf G 1), (1, .int (if (σ 24 v2.toNatClampNeg) < v1 then (σ 24 v2.toNatClampNeg) else v1)), (2, .int (v2 + 1))] [] σ)))) :
    zZ G M_Course_leastRound 1 X post 7 [(0, zf G 1), (1, .int v1), (2, .int v2)] [] σ := by
  refine z_iload_n E 2 d_Course_leastRound_7 rfl rfl ?_
  refine z_aload_n E 0 d_Course_leastRound_8 rfl rfl ?_
  refine z_getR E f_Course_12 d_Course_leastRound_9 ?_
  refine z_getI E f_Course_81 d_Course_leastRound_12 ?_
  refine z_icmp_ge E d_Course_leastRound_15 (tgt := 35) (by decide) ⟨fun q => ?_, fun q => ?_⟩
  · replace h := h.1 q
    refine z_iload_n E 1 d_Course_leastRound_35 rfl rfl ?_
    exact z_ireturn E rfl d_Course_leastRound_36 h
  · replace h := h.2 q
    refine z_iload_n E 1 d_Course_leastRound_18 rfl rfl ?_
    refine z_aload_n E 0 d_Course_leastRound_19 rfl rfl ?_
    refine z_getR E f_Course_39 d_Course_leastRound_20 ?_
    refine z_iload_n E 2 d_Course_leastRound_23 rfl rfl ?_
    obtain ⟨h0, h⟩ := h
    refine z_iald E rfl d_Course_leastRound_24 ⟨h0, ?_⟩
    refine z_mmin E m_Course_200 zrm1 (Nat.le_of_ble_eq_true rfl) d_Course_leastRound_25 ?_
    refine z_istore_n E [1, 0, 2] (lv' := [(0, zf G 1), (1, .int (if (σ 24 v2.toNatClampNeg) < v1 then (σ 24 v2.toNatClampNeg) else v1)), (2, .int v2)]) d_Course_leastRound_28 rfl (by decide) rfl ?_
    refine z_iinc E 2 [1, 2, 0] (v := v2 + 1) (lv' := [(0, zf G 1), (1, .int (if (σ 24 v2.toNatClampNeg) < v1 then (σ 24 v2.toNatClampNeg) else v1)), (2, .int (v2 + 1))]) d_Course_leastRound_29 rfl rfl (by decide) rfl ?_
    refine z_goto E d_Course_leastRound_32 (tgt := 7) (by decide) ?_
    exact h

set_option maxRecDepth 20000 in
set_option maxHeartbeats 4000000 in
theorem b_Course_greatestRound_0 {G : zG} {X : zX} {post : Option Value → zSt → Prop} (E : zCtx G M_Course_greatestRound (zKm G 1 X post) X)  (σ : zSt)
    (h : zZ G M_Course_greatestRound 1 X post 4 [(0, zf G 1), (1, .int (0 : Int32)), (2, .int (0 : Int32))] [] σ) :
    zZ G M_Course_greatestRound 1 X post 0 [(0, zf G 1)] [] σ := by
  refine z_iconst E (v := 0) d_Course_greatestRound_0 (by decide) ?_
  refine z_istore_n E [1, 0] (lv' := [(0, zf G 1), (1, .int (0 : Int32))]) d_Course_greatestRound_1 rfl (by decide) rfl ?_
  refine z_iconst E (v := 0) d_Course_greatestRound_2 (by decide) ?_
  refine z_istore_n E [1, 2, 0] (lv' := [(0, zf G 1), (1, .int (0 : Int32)), (2, .int (0 : Int32))]) d_Course_greatestRound_3 rfl (by decide) rfl ?_
  exact h

set_option maxRecDepth 20000 in
set_option maxHeartbeats 4000000 in
theorem b_Course_greatestRound_4 {G : zG} {X : zX} {post : Option Value → zSt → Prop} (E : zCtx G M_Course_greatestRound (zKm G 1 X post) X) (v1 : Int32) (v2 : Int32) (σ : zSt)
    (h : (((σ 2 0) ≤ v2 → post (some (.int v1)) σ) ∧ (¬ (σ 2 0) ≤ v2 → (vp_in v2 12 ∧ zZ G M_Course_greatestRound 1 X post 4 [(0, zf G 1), (1, .int (if v1 < (σ 24 v2.toNatClampNeg) then (σ 24 v2.toNatClampNeg) else v1)), (2, .int (v2 + 1))] [] σ)))) :
    zZ G M_Course_greatestRound 1 X post 4 [(0, zf G 1), (1, .int v1), (2, .int v2)] [] σ := by
  refine z_iload_n E 2 d_Course_greatestRound_4 rfl rfl ?_
  refine z_aload_n E 0 d_Course_greatestRound_5 rfl rfl ?_
  refine z_getR E f_Course_12 d_Course_greatestRound_6 ?_
  refine z_getI E f_Course_81 d_Course_greatestRound_9 ?_
  refine z_icmp_ge E d_Course_greatestRound_12 (tgt := 32) (by decide) ⟨fun q => ?_, fun q => ?_⟩
  · replace h := h.1 q
    refine z_iload_n E 1 d_Course_greatestRound_32 rfl rfl ?_
    exact z_ireturn E rfl d_Course_greatestRound_33 h
  · replace h := h.2 q
    refine z_iload_n E 1 d_Course_greatestRound_15 rfl rfl ?_
    refine z_aload_n E 0 d_Course_greatestRound_16 rfl rfl ?_
    refine z_getR E f_Course_39 d_Course_greatestRound_17 ?_
    refine z_iload_n E 2 d_Course_greatestRound_20 rfl rfl ?_
    obtain ⟨h0, h⟩ := h
    refine z_iald E rfl d_Course_greatestRound_21 ⟨h0, ?_⟩
    refine z_mmax E m_Course_205 zrm1 (Nat.le_of_ble_eq_true rfl) d_Course_greatestRound_22 ?_
    refine z_istore_n E [1, 0, 2] (lv' := [(0, zf G 1), (1, .int (if v1 < (σ 24 v2.toNatClampNeg) then (σ 24 v2.toNatClampNeg) else v1)), (2, .int v2)]) d_Course_greatestRound_25 rfl (by decide) rfl ?_
    refine z_iinc E 2 [1, 2, 0] (v := v2 + 1) (lv' := [(0, zf G 1), (1, .int (if v1 < (σ 24 v2.toNatClampNeg) then (σ 24 v2.toNatClampNeg) else v1)), (2, .int (v2 + 1))]) d_Course_greatestRound_26 rfl rfl (by decide) rfl ?_
    refine z_goto E d_Course_greatestRound_29 (tgt := 4) (by decide) ?_
    exact h

set_option maxRecDepth 20000 in
set_option maxHeartbeats 4000000 in
theorem b_Course_isOver_0 {G : zG} {X : zX} {post : Option Value → zSt → Prop} (E : zCtx G M_Course_isOver (zKm G 2 X post) X)  (σ : zSt)
    (h : ((¬ (σ 5 0) = 0 → post (some (.int (0 : Int32))) σ) ∧ ((σ 5 0) = 0 → (∃ P : Int32 → zSt → Prop, zI G 1 M_Course_leastRound [zf G 1] σ P ∧ ∀ (x2 : Int32) (σ1 : zSt), P x2 σ1 → ((¬ x2 = (σ1 1 5) → post (some (.int (0 : Int32))) σ1) ∧ (x2 = (σ1 1 5) → post (some (.int (1 : Int32))) σ1)))))) :
    zZ G M_Course_isOver 2 X post 0 [(0, zf G 1)] [] σ := by
  refine z_aload_n E 0 d_Course_isOver_0 rfl rfl ?_
  refine z_getR E f_Course_35 d_Course_isOver_1 ?_
  refine z_getI E f_Course_98 d_Course_isOver_4 ?_
  refine z_if_ne E d_Course_isOver_7 (tgt := 25) (by decide) ⟨fun q => ?_, fun q => ?_⟩
  · replace h := h.1 q
    refine z_iconst E (v := 0) d_Course_isOver_25 (by decide) ?_
    exact z_zreturn E rfl rfl d_Course_isOver_26 h
  · replace h := h.2 q
    refine z_aload_n E 0 d_Course_isOver_10 rfl rfl ?_
    obtain ⟨P, hM, h⟩ := h
    refine z_callVI [] [] E hM c_Course_208 r_Course_leastRound rfl zrm rfl (Nat.le_of_ble_eq_true rfl) d_Course_isOver_11 (fun x2 σ1 hp => ?_)
    replace h := h x2 σ1 hp
    refine z_aload_n E 0 d_Course_isOver_14 rfl rfl ?_
    refine z_getI E f_Course_68 d_Course_isOver_15 ?_
    refine z_icmp_ne E d_Course_isOver_18 (tgt := 25) (by decide) ⟨fun q => ?_, fun q => ?_⟩
    · replace h := h.1 q
      refine z_iconst E (v := 0) d_Course_isOver_25 (by decide) ?_
      exact z_zreturn E rfl rfl d_Course_isOver_26 h
    · replace h := h.2 q
      refine z_iconst E (v := 1) d_Course_isOver_21 (by decide) ?_
      refine z_goto E d_Course_isOver_22 (tgt := 26) (by decide) ?_
      exact z_zreturn E rfl rfl d_Course_isOver_26 h

set_option maxRecDepth 20000 in
set_option maxHeartbeats 4000000 in
theorem b_Course_countWrong_0 {G : zG} {X : zX} {post : Option Value → zSt → Prop} (E : zCtx G M_Course_countWrong (zKm G 1 X post) X)  (σ : zSt)
    (h : zZ G M_Course_countWrong 1 X post 4 [(0, zf G 1), (1, .int (0 : Int32)), (2, .int (0 : Int32))] [] σ) :
    zZ G M_Course_countWrong 1 X post 0 [(0, zf G 1)] [] σ := by
  refine z_iconst E (v := 0) d_Course_countWrong_0 (by decide) ?_
  refine z_istore_n E [1, 0] (lv' := [(0, zf G 1), (1, .int (0 : Int32))]) d_Course_countWrong_1 rfl (by decide) rfl ?_
  refine z_iconst E (v := 0) d_Course_countWrong_2 (by decide) ?_
  refine z_istore_n E [1, 2, 0] (lv' := [(0, zf G 1), (1, .int (0 : Int32)), (2, .int (0 : Int32))]) d_Course_countWrong_3 rfl (by decide) rfl ?_
  exact h

set_option maxRecDepth 20000 in
set_option maxHeartbeats 4000000 in
theorem b_Course_countWrong_4 {G : zG} {X : zX} {post : Option Value → zSt → Prop} (E : zCtx G M_Course_countWrong (zKm G 1 X post) X) (v1 : Int32) (v2 : Int32) (σ : zSt)
    (h : (((σ 2 0) ≤ v2 → post (some (.int v1)) σ) ∧ (¬ (σ 2 0) ≤ v2 → zZ G M_Course_countWrong 1 X post 17 [(0, zf G 1), (1, .int v1), (2, .int v2), (3, .int (0 : Int32))] [] σ))) :
    zZ G M_Course_countWrong 1 X post 4 [(0, zf G 1), (1, .int v1), (2, .int v2)] [] σ := by
  refine z_iload_n E 2 d_Course_countWrong_4 rfl rfl ?_
  refine z_aload_n E 0 d_Course_countWrong_5 rfl rfl ?_
  refine z_getR E f_Course_12 d_Course_countWrong_6 ?_
  refine z_getI E f_Course_81 d_Course_countWrong_9 ?_
  refine z_icmp_ge E d_Course_countWrong_12 (tgt := 70) (by decide) ⟨fun q => ?_, fun q => ?_⟩
  · replace h := h.1 q
    refine z_iload_n E 1 d_Course_countWrong_70 rfl rfl ?_
    exact z_ireturn E rfl d_Course_countWrong_71 h
  · replace h := h.2 q
    refine z_iconst E (v := 0) d_Course_countWrong_15 (by decide) ?_
    refine z_istore_n E [1, 2, 3, 0] (lv' := [(0, zf G 1), (1, .int v1), (2, .int v2), (3, .int (0 : Int32))]) d_Course_countWrong_16 rfl (by decide) rfl ?_
    exact h

set_option maxRecDepth 20000 in
set_option maxHeartbeats 4000000 in
theorem b_Course_countWrong_17 {G : zG} {X : zX} {post : Option Value → zSt → Prop} (E : zCtx G M_Course_countWrong (zKm G 1 X post) X) (v1 : Int32) (v2 : Int32) (v3 : Int32) (σ : zSt)
    (h : (vp_in v2 12 ∧ (((σ 24 v2.toNatClampNeg) < v3 → zZ G M_Course_countWrong 1 X post 4 [(0, zf G 1), (1, .int v1), (2, .int (v2 + 1))] [] σ) ∧ (¬ (σ 24 v2.toNatClampNeg) < v3 → (vp_in (v3 * 12 + v2) 252 ∧ (vp_in (v3 * 12 + v2) 252 ∧ ((¬ (σ 30 (v3 * 12 + v2).toNatClampNeg) = (σ 31 (v3 * 12 + v2).toNatClampNeg) → zZ G M_Course_countWrong 1 X post 17 [(0, zf G 1), (1, .int (v1 + (1 : Int32))), (2, .int v2), (3, .int (v3 + 1))] [] σ) ∧ ((σ 30 (v3 * 12 + v2).toNatClampNeg) = (σ 31 (v3 * 12 + v2).toNatClampNeg) → zZ G M_Course_countWrong 1 X post 17 [(0, zf G 1), (1, .int (v1 + (0 : Int32))), (2, .int v2), (3, .int (v3 + 1))] [] σ)))))))) :
    zZ G M_Course_countWrong 1 X post 17 [(0, zf G 1), (1, .int v1), (2, .int v2), (3, .int v3)] [] σ := by
  refine z_iload_n E 3 d_Course_countWrong_17 rfl rfl ?_
  refine z_aload_n E 0 d_Course_countWrong_18 rfl rfl ?_
  refine z_getR E f_Course_39 d_Course_countWrong_19 ?_
  refine z_iload_n E 2 d_Course_countWrong_22 rfl rfl ?_
  obtain ⟨h0, h⟩ := h
  refine z_iald E rfl d_Course_countWrong_23 ⟨h0, ?_⟩
  refine z_icmp_gt E d_Course_countWrong_24 (tgt := 64) (by decide) ⟨fun q => ?_, fun q => ?_⟩
  · replace h := h.1 q
    refine z_iinc E 2 [1, 2, 0, 3] (v := v2 + 1) (lv' := [(0, zf G 1), (1, .int v1), (2, .int (v2 + 1)), (3, .int v3)]) d_Course_countWrong_64 rfl rfl (by decide) rfl ?_
    refine z_goto E d_Course_countWrong_67 (tgt := 4) (by decide) ?_
    refine zZ.sub [0, 1, 2] (lv' := [(0, zf G 1), (1, .int v1), (2, .int (v2 + 1))]) rfl ?_
    exact h
  · replace h := h.2 q
    refine z_iload_n E 1 d_Course_countWrong_27 rfl rfl ?_
    refine z_aload_n E 0 d_Course_countWrong_28 rfl rfl ?_
    refine z_getR E f_Course_58 d_Course_countWrong_29 ?_
    refine z_iload_n E 3 d_Course_countWrong_32 rfl rfl ?_
    refine z_iload_n E 2 d_Course_countWrong_33 rfl rfl ?_
    refine z_callSIp [.int v3, .int v2] [zf G 30, .int v1] E (p_P_at G σ v3 v2) c_Course_84 st_P_at rfl zrm rfl (Nat.le_of_ble_eq_true rfl) d_Course_countWrong_34 ?_
    obtain ⟨h0, h⟩ := h
    refine z_iald E rfl d_Course_countWrong_37 ⟨h0, ?_⟩
    refine z_aload_n E 0 d_Course_countWrong_38 rfl rfl ?_
    refine z_getR E f_Course_61 d_Course_countWrong_39 ?_
    refine z_iload_n E 3 d_Course_countWrong_42 rfl rfl ?_
    refine z_iload_n E 2 d_Course_countWrong_43 rfl rfl ?_
    refine z_callSIp [.int v3, .int v2] [zf G 31, .int (σ 30 (v3 * 12 + v2).toNatClampNeg), .int v1] E (p_P_at G σ v3 v2) c_Course_84 st_P_at rfl zrm rfl (Nat.le_of_ble_eq_true rfl) d_Course_countWrong_44 ?_
    obtain ⟨h0, h⟩ := h
    refine z_iald E rfl d_Course_countWrong_47 ⟨h0, ?_⟩
    refine z_icmp_ne E d_Course_countWrong_48 (tgt := 55) (by decide) ⟨fun q => ?_, fun q => ?_⟩
    · replace h := h.1 q
      refine z_iconst E (v := 1) d_Course_countWrong_55 (by decide) ?_
      refine z_iadd E d_Course_countWrong_56 ?_
      refine z_istore_n E [1, 0, 2, 3] (lv' := [(0, zf G 1), (1, .int (v1 + (1 : Int32))), (2, .int v2), (3, .int v3)]) d_Course_countWrong_57 rfl (by decide) rfl ?_
      refine z_iinc E 3 [1, 2, 3, 0] (v := v3 + 1) (lv' := [(0, zf G 1), (1, .int (v1 + (1 : Int32))), (2, .int v2), (3, .int (v3 + 1))]) d_Course_countWrong_58 rfl rfl (by decide) rfl ?_
      refine z_goto E d_Course_countWrong_61 (tgt := 17) (by decide) ?_
      exact h
    · replace h := h.2 q
      refine z_iconst E (v := 0) d_Course_countWrong_51 (by decide) ?_
      refine z_goto E d_Course_countWrong_52 (tgt := 56) (by decide) ?_
      refine z_iadd E d_Course_countWrong_56 ?_
      refine z_istore_n E [1, 0, 2, 3] (lv' := [(0, zf G 1), (1, .int (v1 + (0 : Int32))), (2, .int v2), (3, .int v3)]) d_Course_countWrong_57 rfl (by decide) rfl ?_
      refine z_iinc E 3 [1, 2, 3, 0] (v := v3 + 1) (lv' := [(0, zf G 1), (1, .int (v1 + (0 : Int32))), (2, .int v2), (3, .int (v3 + 1))]) d_Course_countWrong_58 rfl rfl (by decide) rfl ?_
      refine z_goto E d_Course_countWrong_61 (tgt := 17) (by decide) ?_
      exact h

set_option maxRecDepth 20000 in
set_option maxHeartbeats 4000000 in
theorem b_Frame_setUp_0 {G : zG} {X : zX} {post : Option Value → zSt → Prop} (E : zCtx G M_Frame_setUp (zKm G 4 X post) X) (v2 : Int32) (v3 : Int32) (v4 : Int32) (σ : zSt)
    (h : (∃ P : zSt → Prop, zV G 1 M_Frame_clear [zf G 3] σ P ∧ ∀ σ1 : zSt, P σ1 → ((¬ v2 = 0 → ((¬ v2 = (1 : Int32) → (∃ P : zSt → Prop, zV G 3 M_Frame_makeClusters [zf G 3, zf G 2, .int v4] σ1 P ∧ ∀ σ2 : zSt, P σ2 → (∃ P : zSt → Prop, zV G 1 M_Frame_chooseLinks [zf G 3, zf G 2] σ2 P ∧ ∀ σ3 : zSt, P σ3 → post none σ3))) ∧ (v2 = (1 : Int32) → (∃ P : zSt → Prop, zV G 2 M_Frame_growTree [zf G 3, zf G 2, .int (zAll (σ1 2 0)), .int v3] σ1 P ∧ ∀ σ4 : zSt, P σ4 → post none σ4)))) ∧ (v2 = 0 → (∃ P : zSt → Prop, zV G 0 M_Frame_standAlone [zf G 3, zf G 2] σ1 P ∧ ∀ σ5 : zSt, P σ5 → post none σ5))))) :
    zZ G M_Frame_setUp 4 X post 0 [(0, zf G 3), (1, zf G 2), (2, .int v2), (3, .int v3), (4, .int v4)] [] σ := by
  refine z_aload_n E 0 d_Frame_setUp_0 rfl rfl ?_
  obtain ⟨P, hM, h⟩ := h
  refine z_callVV [] [] E hM c_Frame_33 r_Frame_clear rfl zrm rfl (Nat.le_of_ble_eq_true rfl) d_Frame_setUp_1 (fun σ1 hp => ?_)
  replace h := h σ1 hp
  refine z_iload_n E 2 d_Frame_setUp_4 rfl rfl ?_
  refine z_if_ne E d_Frame_setUp_5 (tgt := 16) (by decide) ⟨fun q => ?_, fun q => ?_⟩
  · replace h := h.1 q
    refine z_iload_n E 2 d_Frame_setUp_16 rfl rfl ?_
    refine z_iconst E (v := 1) d_Frame_setUp_17 (by decide) ?_
    refine z_icmp_ne E d_Frame_setUp_18 (tgt := 34) (by decide) ⟨fun q => ?_, fun q => ?_⟩
    · replace h := h.1 q
      refine z_aload_n E 0 d_Frame_setUp_34 rfl rfl ?_
      refine z_aload_n E 1 d_Frame_setUp_35 rfl rfl ?_
      refine z_iload E 4 d_Frame_setUp_36 rfl ?_
      obtain ⟨P, hM, h⟩ := h
      refine z_callVV [zf G 2, .int v4] [] E hM c_Frame_50 r_Frame_makeClusters rfl zrm rfl (Nat.le_of_ble_eq_true rfl) d_Frame_setUp_38 (fun σ2 hp => ?_)
      replace h := h σ2 hp
      refine z_aload_n E 0 d_Frame_setUp_41 rfl rfl ?_
      refine z_aload_n E 1 d_Frame_setUp_42 rfl rfl ?_
      obtain ⟨P, hM, h⟩ := h
      refine z_callVV [zf G 2] [] E hM c_Frame_54 r_Frame_chooseLinks rfl zrm rfl (Nat.le_of_ble_eq_true rfl) d_Frame_setUp_43 (fun σ3 hp => ?_)
      replace h := h σ3 hp
      exact z_return E rfl d_Frame_setUp_46 h
    · replace h := h.2 q
      refine z_aload_n E 0 d_Frame_setUp_21 rfl rfl ?_
      refine z_aload_n E 1 d_Frame_setUp_22 rfl rfl ?_
      refine z_aload_n E 1 d_Frame_setUp_23 rfl rfl ?_
      refine z_callVIp [] [zf G 2, zf G 3] E (p_Net_everyNode G σ1 ) c_Frame_40 r_Net_everyNode rfl zrm rfl (Nat.le_of_ble_eq_true rfl) d_Frame_setUp_24 ?_
      refine z_iload_n E 3 d_Frame_setUp_27 rfl rfl ?_
      obtain ⟨P, hM, h⟩ := h
      refine z_callVV [zf G 2, .int (zAll (σ1 2 0)), .int v3] [] E hM c_Frame_46 r_Frame_growTree rfl zrm rfl (Nat.le_of_ble_eq_true rfl) d_Frame_setUp_28 (fun σ4 hp => ?_)
      replace h := h σ4 hp
      refine z_goto E d_Frame_setUp_31 (tgt := 46) (by decide) ?_
      exact z_return E rfl d_Frame_setUp_46 h
  · replace h := h.2 q
    refine z_aload_n E 0 d_Frame_setUp_8 rfl rfl ?_
    refine z_aload_n E 1 d_Frame_setUp_9 rfl rfl ?_
    obtain ⟨P, hM, h⟩ := h
    refine z_callVV [zf G 2] [] E hM c_Frame_36 r_Frame_standAlone rfl zrm rfl (Nat.le_of_ble_eq_true rfl) d_Frame_setUp_10 (fun σ5 hp => ?_)
    replace h := h σ5 hp
    refine z_goto E d_Frame_setUp_13 (tgt := 46) (by decide) ?_
    exact z_return E rfl d_Frame_setUp_46 h

set_option maxRecDepth 20000 in
set_option maxHeartbeats 4000000 in
theorem b_Frame_clear_0 {G : zG} {X : zX} {post : Option Value → zSt → Prop} (E : zCtx G M_Frame_clear (zKm G 1 X post) X)  (σ : zSt)
    (h : (∀ σ1 : zSt, σ1 = zup σ 3 0 (1 : Int32) → (∀ σ2 : zSt, σ2 = zup σ1 3 1 (0 : Int32) → (∃ P : zSt → Prop, zV G 0 M_JArrays_fill [zf G 9, .int (-2 : Int32)] σ2 P ∧ ∀ σ3 : zSt, P σ3 → (∃ P : zSt → Prop, zV G 0 M_JArrays_fill [zf G 10, .int (-2 : Int32)] σ3 P ∧ ∀ σ4 : zSt, P σ4 → (∃ P : zSt → Prop, zV G 0 M_JArrays_fill [zf G 11, .int (-2 : Int32)] σ4 P ∧ ∀ σ5 : zSt, P σ5 → (∃ P : zSt → Prop, zV G 0 M_JArrays_fill [zf G 12, .int (0 : Int32)] σ5 P ∧ ∀ σ6 : zSt, P σ6 → (∃ P : zSt → Prop, zV G 0 M_JArrays_fill [zf G 13, .int (0 : Int32)] σ6 P ∧ ∀ σ7 : zSt, P σ7 → (∃ P : zSt → Prop, zV G 0 M_JArrays_fill [zf G 14, .int (0 : Int32)] σ7 P ∧ ∀ σ8 : zSt, P σ8 → (∃ P : zSt → Prop, zV G 0 M_JArrays_fill [zf G 15, .int (0 : Int32)] σ8 P ∧ ∀ σ9 : zSt, P σ9 → post none σ9)))))))))) :
    zZ G M_Frame_clear 1 X post 0 [(0, zf G 3)] [] σ := by
  refine z_aload_n E 0 d_Frame_clear_0 rfl rfl ?_
  refine z_iconst E (v := 1) d_Frame_clear_1 (by decide) ?_
  refine z_putI E w_Frame_57 d_Frame_clear_2 (fun σ1 e => ?_)
  replace h := h σ1 e
  refine z_aload_n E 0 d_Frame_clear_5 rfl rfl ?_
  refine z_iconst E (v := 0) d_Frame_clear_6 (by decide) ?_
  refine z_putI E w_Frame_61 d_Frame_clear_7 (fun σ2 e => ?_)
  replace h := h σ2 e
  refine z_aload_n E 0 d_Frame_clear_10 rfl rfl ?_
  refine z_getR E f_Frame_9 d_Frame_clear_11 ?_
  refine z_bipush E (v := -2) d_Frame_clear_14 (by decide) ?_
  obtain ⟨P, hM, h⟩ := h
  refine z_callSV [zf G 9, .int (-2 : Int32)] [] E hM c_Frame_64 st_JArrays_fill rfl zrm rfl (Nat.le_of_ble_eq_true rfl) d_Frame_clear_16 (fun σ3 hp => ?_)
  replace h := h σ3 hp
  refine z_aload_n E 0 d_Frame_clear_19 rfl rfl ?_
  refine z_getR E f_Frame_15 d_Frame_clear_20 ?_
  refine z_bipush E (v := -2) d_Frame_clear_23 (by decide) ?_
  obtain ⟨P, hM, h⟩ := h
  refine z_callSV [zf G 10, .int (-2 : Int32)] [] E hM c_Frame_64 st_JArrays_fill rfl zrm rfl (Nat.le_of_ble_eq_true rfl) d_Frame_clear_25 (fun σ4 hp => ?_)
  replace h := h σ4 hp
  refine z_aload_n E 0 d_Frame_clear_28 rfl rfl ?_
  refine z_getR E f_Frame_18 d_Frame_clear_29 ?_
  refine z_bipush E (v := -2) d_Frame_clear_32 (by decide) ?_
  obtain ⟨P, hM, h⟩ := h
  refine z_callSV [zf G 11, .int (-2 : Int32)] [] E hM c_Frame_64 st_JArrays_fill rfl zrm rfl (Nat.le_of_ble_eq_true rfl) d_Frame_clear_34 (fun σ5 hp => ?_)
  replace h := h σ5 hp
  refine z_aload_n E 0 d_Frame_clear_37 rfl rfl ?_
  refine z_getR E f_Frame_21 d_Frame_clear_38 ?_
  refine z_iconst E (v := 0) d_Frame_clear_41 (by decide) ?_
  obtain ⟨P, hM, h⟩ := h
  refine z_callSV [zf G 12, .int (0 : Int32)] [] E hM c_Frame_64 st_JArrays_fill rfl zrm rfl (Nat.le_of_ble_eq_true rfl) d_Frame_clear_42 (fun σ6 hp => ?_)
  replace h := h σ6 hp
  refine z_aload_n E 0 d_Frame_clear_45 rfl rfl ?_
  refine z_getR E f_Frame_24 d_Frame_clear_46 ?_
  refine z_iconst E (v := 0) d_Frame_clear_49 (by decide) ?_
  obtain ⟨P, hM, h⟩ := h
  refine z_callSV [zf G 13, .int (0 : Int32)] [] E hM c_Frame_64 st_JArrays_fill rfl zrm rfl (Nat.le_of_ble_eq_true rfl) d_Frame_clear_50 (fun σ7 hp => ?_)
  replace h := h σ7 hp
  refine z_aload_n E 0 d_Frame_clear_53 rfl rfl ?_
  refine z_getR E f_Frame_27 d_Frame_clear_54 ?_
  refine z_iconst E (v := 0) d_Frame_clear_57 (by decide) ?_
  obtain ⟨P, hM, h⟩ := h
  refine z_callSV [zf G 14, .int (0 : Int32)] [] E hM c_Frame_64 st_JArrays_fill rfl zrm rfl (Nat.le_of_ble_eq_true rfl) d_Frame_clear_58 (fun σ8 hp => ?_)
  replace h := h σ8 hp
  refine z_aload_n E 0 d_Frame_clear_61 rfl rfl ?_
  refine z_getR E f_Frame_30 d_Frame_clear_62 ?_
  refine z_iconst E (v := 0) d_Frame_clear_65 (by decide) ?_
  obtain ⟨P, hM, h⟩ := h
  refine z_callSV [zf G 15, .int (0 : Int32)] [] E hM c_Frame_64 st_JArrays_fill rfl zrm rfl (Nat.le_of_ble_eq_true rfl) d_Frame_clear_66 (fun σ9 hp => ?_)
  replace h := h σ9 hp
  exact z_return E rfl d_Frame_clear_69 h

set_option maxRecDepth 20000 in
set_option maxHeartbeats 4000000 in
theorem b_Frame_standAlone_0 {G : zG} {X : zX} {post : Option Value → zSt → Prop} (E : zCtx G M_Frame_standAlone (zKm G 0 X post) X)  (σ : zSt)
    (h : zZ G M_Frame_standAlone 0 X post 2 [(0, zf G 3), (1, zf G 2), (2, .int (0 : Int32))] [] σ) :
    zZ G M_Frame_standAlone 0 X post 0 [(0, zf G 3), (1, zf G 2)] [] σ := by
  refine z_iconst E (v := 0) d_Frame_standAlone_0 (by decide) ?_
  refine z_istore_n E [1, 2, 0] (lv' := [(0, zf G 3), (1, zf G 2), (2, .int (0 : Int32))]) d_Frame_standAlone_1 rfl (by decide) rfl ?_
  exact h

set_option maxRecDepth 20000 in
set_option maxHeartbeats 4000000 in
theorem b_Frame_standAlone_2 {G : zG} {X : zX} {post : Option Value → zSt → Prop} (E : zCtx G M_Frame_standAlone (zKm G 0 X post) X) (v2 : Int32) (σ : zSt)
    (h : (((σ 2 0) ≤ v2 → post none σ) ∧ (¬ (σ 2 0) ≤ v2 → (vp_in v2 12 ∧ ∀ σ1 : zSt, σ1 = zup σ 9 v2.toNatClampNeg v2 → (vp_in v2 12 ∧ (vp_in v2 12 ∧ ∀ σ2 : zSt, σ2 = zup σ1 14 v2.toNatClampNeg (σ1 7 v2.toNatClampNeg) → zZ G M_Frame_standAlone 0 X post 2 [(0, zf G 3), (1, zf G 2), (2, .int (v2 + 1))] [] σ2)))))) :
    zZ G M_Frame_standAlone 0 X post 2 [(0, zf G 3), (1, zf G 2), (2, .int v2)] [] σ := by
  refine z_iload_n E 2 d_Frame_standAlone_2 rfl rfl ?_
  refine z_aload_n E 1 d_Frame_standAlone_3 rfl rfl ?_
  refine z_getI E f_Frame_70 d_Frame_standAlone_4 ?_
  refine z_icmp_ge E d_Frame_standAlone_7 (tgt := 35) (by decide) ⟨fun q => ?_, fun q => ?_⟩
  · replace h := h.1 q
    exact z_return E rfl d_Frame_standAlone_35 h
  · replace h := h.2 q
    refine z_aload_n E 0 d_Frame_standAlone_10 rfl rfl ?_
    refine z_getR E f_Frame_9 d_Frame_standAlone_11 ?_
    refine z_iload_n E 2 d_Frame_standAlone_14 rfl rfl ?_
    refine z_iload_n E 2 d_Frame_standAlone_15 rfl rfl ?_
    obtain ⟨h0, h⟩ := h
    refine z_iast E rfl d_Frame_standAlone_16 ⟨h0, fun σ1 e => ?_⟩
    replace h := h σ1 e
    refine z_aload_n E 0 d_Frame_standAlone_17 rfl rfl ?_
    refine z_getR E f_Frame_27 d_Frame_standAlone_18 ?_
    refine z_iload_n E 2 d_Frame_standAlone_21 rfl rfl ?_
    refine z_aload_n E 1 d_Frame_standAlone_22 rfl rfl ?_
    refine z_getR E f_Frame_73 d_Frame_standAlone_23 ?_
    refine z_iload_n E 2 d_Frame_standAlone_26 rfl rfl ?_
    obtain ⟨h0, h⟩ := h
    refine z_iald E rfl d_Frame_standAlone_27 ⟨h0, ?_⟩
    obtain ⟨h0, h⟩ := h
    refine z_iast E rfl d_Frame_standAlone_28 ⟨h0, fun σ2 e => ?_⟩
    replace h := h σ2 e
    refine z_iinc E 2 [1, 2, 0] (v := v2 + 1) (lv' := [(0, zf G 3), (1, zf G 2), (2, .int (v2 + 1))]) d_Frame_standAlone_29 rfl rfl (by decide) rfl ?_
    refine z_goto E d_Frame_standAlone_32 (tgt := 2) (by decide) ?_
    exact h

set_option maxRecDepth 20000 in
set_option maxHeartbeats 4000000 in
theorem b_Frame_growTree_0 {G : zG} {X : zX} {post : Option Value → zSt → Prop} (E : zCtx G M_Frame_growTree (zKm G 2 X post) X) (v2 : Int32) (v3 : Int32) (σ : zSt)
    (h : (vp_in v3 12 ∧ ∀ σ1 : zSt, σ1 = zup σ 11 v3.toNatClampNeg (0 : Int32) → (vp_in v3 12 ∧ ∀ σ2 : zSt, σ2 = zup σ1 9 v3.toNatClampNeg v3 → zZ G M_Frame_growTree 2 X post 17 [(0, zf G 3), (1, zf G 2), (2, .int v2), (3, .int v3), (4, .int (0 : Int32))] [] σ2))) :
    zZ G M_Frame_growTree 2 X post 0 [(0, zf G 3), (1, zf G 2), (2, .int v2), (3, .int v3)] [] σ := by
  refine z_aload_n E 0 d_Frame_growTree_0 rfl rfl ?_
  refine z_getR E f_Frame_18 d_Frame_growTree_1 ?_
  refine z_iload_n E 3 d_Frame_growTree_4 rfl rfl ?_
  refine z_iconst E (v := 0) d_Frame_growTree_5 (by decide) ?_
  obtain ⟨h0, h⟩ := h
  refine z_iast E rfl d_Frame_growTree_6 ⟨h0, fun σ1 e => ?_⟩
  replace h := h σ1 e
  refine z_aload_n E 0 d_Frame_growTree_7 rfl rfl ?_
  refine z_getR E f_Frame_9 d_Frame_growTree_8 ?_
  refine z_iload_n E 3 d_Frame_growTree_11 rfl rfl ?_
  refine z_iload_n E 3 d_Frame_growTree_12 rfl rfl ?_
  obtain ⟨h0, h⟩ := h
  refine z_iast E rfl d_Frame_growTree_13 ⟨h0, fun σ2 e => ?_⟩
  replace h := h σ2 e
  refine z_iconst E (v := 0) d_Frame_growTree_14 (by decide) ?_
  refine z_istore E [1, 2, 3, 4, 0] (lv' := [(0, zf G 3), (1, zf G 2), (2, .int v2), (3, .int v3), (4, .int (0 : Int32))]) d_Frame_growTree_15 (by decide) rfl ?_
  exact h

set_option maxRecDepth 20000 in
set_option maxHeartbeats 4000000 in
theorem b_Frame_growTree_17 {G : zG} {X : zX} {post : Option Value → zSt → Prop} (E : zCtx G M_Frame_growTree (zKm G 2 X post) X) (v2 : Int32) (v3 : Int32) (v4 : Int32) (σ : zSt)
    (h : (((σ 2 0) ≤ v4 → zZ G M_Frame_growTree 2 X post 84 [(0, zf G 3), (1, zf G 2), (2, .int v2), (3, .int v3), (4, .int (0 : Int32))] [] σ) ∧ (¬ (σ 2 0) ≤ v4 → zZ G M_Frame_growTree 2 X post 29 [(0, zf G 3), (1, zf G 2), (2, .int v2), (3, .int v3), (4, .int v4), (5, .int (0 : Int32))] [] σ))) :
    zZ G M_Frame_growTree 2 X post 17 [(0, zf G 3), (1, zf G 2), (2, .int v2), (3, .int v3), (4, .int v4)] [] σ := by
  refine z_iload E 4 d_Frame_growTree_17 rfl ?_
  refine z_aload_n E 1 d_Frame_growTree_19 rfl rfl ?_
  refine z_getI E f_Frame_70 d_Frame_growTree_20 ?_
  refine z_icmp_ge E d_Frame_growTree_23 (tgt := 81) (by decide) ⟨fun q => ?_, fun q => ?_⟩
  · replace h := h.1 q
    refine z_iconst E (v := 0) d_Frame_growTree_81 (by decide) ?_
    refine z_istore E [1, 2, 3, 4, 0] (lv' := [(0, zf G 3), (1, zf G 2), (2, .int v2), (3, .int v3), (4, .int (0 : Int32))]) d_Frame_growTree_82 (by decide) rfl ?_
    exact h
  · replace h := h.2 q
    refine z_iconst E (v := 0) d_Frame_growTree_26 (by decide) ?_
    refine z_istore E [1, 2, 3, 4, 5, 0] (lv' := [(0, zf G 3), (1, zf G 2), (2, .int v2), (3, .int v3), (4, .int v4), (5, .int (0 : Int32))]) d_Frame_growTree_27 (by decide) rfl ?_
    exact h

set_option maxRecDepth 20000 in
set_option maxHeartbeats 4000000 in
theorem b_Frame_growTree_29 {G : zG} {X : zX} {post : Option Value → zSt → Prop} (E : zCtx G M_Frame_growTree (zKm G 2 X post) X) (v2 : Int32) (v3 : Int32) (v4 : Int32) (v5 : Int32) (σ : zSt)
    (h : (((σ 2 0) ≤ v5 → zZ G M_Frame_growTree 2 X post 17 [(0, zf G 3), (1, zf G 2), (2, .int v2), (3, .int v3), (4, .int (v4 + 1))] [] σ) ∧ (¬ (σ 2 0) ≤ v5 → (((zIn v2 v5) = false → zZ G M_Frame_growTree 2 X post 29 [(0, zf G 3), (1, zf G 2), (2, .int v2), (3, .int v3), (4, .int v4), (5, .int (v5 + 1))] [] σ) ∧ ((zIn v2 v5) = true → (vp_in v5 12 ∧ ((¬ (σ 11 v5.toNatClampNeg) = (-2 : Int32) → zZ G M_Frame_growTree 2 X post 29 [(0, zf G 3), (1, zf G 2), (2, .int v2), (3, .int v3), (4, .int v4), (5, .int (v5 + 1))] [] σ) ∧ ((σ 11 v5.toNatClampNeg) = (-2 : Int32) → (∃ P : zSt → Prop, zV G 1 M_Frame_hang [zf G 3, zf G 2, .int v5, .int v2, .int v4] σ P ∧ ∀ σ1 : zSt, P σ1 → zZ G M_Frame_growTree 2 X post 29 [(0, zf G 3), (1, zf G 2), (2, .int v2), (3, .int v3), (4, .int v4), (5, .int (v5 + 1))] [] σ1))))))))) :
    zZ G M_Frame_growTree 2 X post 29 [(0, zf G 3), (1, zf G 2), (2, .int v2), (3, .int v3), (4, .int v4), (5, .int v5)] [] σ := by
  refine z_iload E 5 d_Frame_growTree_29 rfl ?_
  refine z_aload_n E 1 d_Frame_growTree_31 rfl rfl ?_
  refine z_getI E f_Frame_70 d_Frame_growTree_32 ?_
  refine z_icmp_ge E d_Frame_growTree_35 (tgt := 75) (by decide) ⟨fun q => ?_, fun q => ?_⟩
  · replace h := h.1 q
    refine z_iinc E 4 [1, 2, 3, 4, 0, 5] (v := v4 + 1) (lv' := [(0, zf G 3), (1, zf G 2), (2, .int v2), (3, .int v3), (4, .int (v4 + 1)), (5, .int v5)]) d_Frame_growTree_75 rfl rfl (by decide) rfl ?_
    refine z_goto E d_Frame_growTree_78 (tgt := 17) (by decide) ?_
    refine zZ.sub [0, 1, 2, 3, 4] (lv' := [(0, zf G 3), (1, zf G 2), (2, .int v2), (3, .int v3), (4, .int (v4 + 1))]) rfl ?_
    exact h
  · replace h := h.2 q
    refine z_iload_n E 2 d_Frame_growTree_38 rfl rfl ?_
    refine z_iload E 5 d_Frame_growTree_39 rfl ?_
    refine z_callSBp [.int v2, .int v5] [] E (p_P_isIn G σ v2 v5) c_Frame_76 st_P_isIn rfl zrm rfl (Nat.le_of_ble_eq_true rfl) d_Frame_growTree_41 ?_
    refine z_ifz_eq E d_Frame_growTree_44 (tgt := 69) (by decide) ⟨fun q => ?_, fun q => ?_⟩
    · replace h := h.1 q
      refine z_iinc E 5 [1, 2, 3, 4, 5, 0] (v := v5 + 1) (lv' := [(0, zf G 3), (1, zf G 2), (2, .int v2), (3, .int v3), (4, .int v4), (5, .int (v5 + 1))]) d_Frame_growTree_69 rfl rfl (by decide) rfl ?_
      refine z_goto E d_Frame_growTree_72 (tgt := 29) (by decide) ?_
      exact h
    · replace h := h.2 q
      refine z_aload_n E 0 d_Frame_growTree_47 rfl rfl ?_
      refine z_getR E f_Frame_18 d_Frame_growTree_48 ?_
      refine z_iload E 5 d_Frame_growTree_51 rfl ?_
      obtain ⟨h0, h⟩ := h
      refine z_iald E rfl d_Frame_growTree_53 ⟨h0, ?_⟩
      refine z_bipush E (v := -2) d_Frame_growTree_54 (by decide) ?_
      refine z_icmp_ne E d_Frame_growTree_56 (tgt := 69) (by decide) ⟨fun q => ?_, fun q => ?_⟩
      · replace h := h.1 q
        refine z_iinc E 5 [1, 2, 3, 4, 5, 0] (v := v5 + 1) (lv' := [(0, zf G 3), (1, zf G 2), (2, .int v2), (3, .int v3), (4, .int v4), (5, .int (v5 + 1))]) d_Frame_growTree_69 rfl rfl (by decide) rfl ?_
        refine z_goto E d_Frame_growTree_72 (tgt := 29) (by decide) ?_
        exact h
      · replace h := h.2 q
        refine z_aload_n E 0 d_Frame_growTree_59 rfl rfl ?_
        refine z_aload_n E 1 d_Frame_growTree_60 rfl rfl ?_
        refine z_iload E 5 d_Frame_growTree_61 rfl ?_
        refine z_iload_n E 2 d_Frame_growTree_63 rfl rfl ?_
        refine z_iload E 4 d_Frame_growTree_64 rfl ?_
        obtain ⟨P, hM, h⟩ := h
        refine z_callVV [zf G 2, .int v5, .int v2, .int v4] [] E hM c_Frame_80 r_Frame_hang rfl zrm rfl (Nat.le_of_ble_eq_true rfl) d_Frame_growTree_66 (fun σ1 hp => ?_)
        replace h := h σ1 hp
        refine z_iinc E 5 [1, 2, 3, 4, 5, 0] (v := v5 + 1) (lv' := [(0, zf G 3), (1, zf G 2), (2, .int v2), (3, .int v3), (4, .int v4), (5, .int (v5 + 1))]) d_Frame_growTree_69 rfl rfl (by decide) rfl ?_
        refine z_goto E d_Frame_growTree_72 (tgt := 29) (by decide) ?_
        exact h

set_option maxRecDepth 20000 in
set_option maxHeartbeats 4000000 in
theorem b_Frame_growTree_84 {G : zG} {X : zX} {post : Option Value → zSt → Prop} (E : zCtx G M_Frame_growTree (zKm G 2 X post) X) (v2 : Int32) (v3 : Int32) (v4 : Int32) (σ : zSt)
    (h : (((σ 2 0) ≤ v4 → post none σ) ∧ (¬ (σ 2 0) ≤ v4 → (((zIn v2 v4) = false → zZ G M_Frame_growTree 2 X post 84 [(0, zf G 3), (1, zf G 2), (2, .int v2), (3, .int v3), (4, .int (v4 + 1))] [] σ) ∧ ((zIn v2 v4) = true → (vp_in v4 12 ∧ ∀ σ1 : zSt, σ1 = zup σ 9 v4.toNatClampNeg v3 → zZ G M_Frame_growTree 2 X post 84 [(0, zf G 3), (1, zf G 2), (2, .int v2), (3, .int v3), (4, .int (v4 + 1))] [] σ1)))))) :
    zZ G M_Frame_growTree 2 X post 84 [(0, zf G 3), (1, zf G 2), (2, .int v2), (3, .int v3), (4, .int v4)] [] σ := by
  refine z_iload E 4 d_Frame_growTree_84 rfl ?_
  refine z_aload_n E 1 d_Frame_growTree_86 rfl rfl ?_
  refine z_getI E f_Frame_70 d_Frame_growTree_87 ?_
  refine z_icmp_ge E d_Frame_growTree_90 (tgt := 116) (by decide) ⟨fun q => ?_, fun q => ?_⟩
  · replace h := h.1 q
    exact z_return E rfl d_Frame_growTree_116 h
  · replace h := h.2 q
    refine z_iload_n E 2 d_Frame_growTree_93 rfl rfl ?_
    refine z_iload E 4 d_Frame_growTree_94 rfl ?_
    refine z_callSBp [.int v2, .int v4] [] E (p_P_isIn G σ v2 v4) c_Frame_76 st_P_isIn rfl zrm rfl (Nat.le_of_ble_eq_true rfl) d_Frame_growTree_96 ?_
    refine z_ifz_eq E d_Frame_growTree_99 (tgt := 110) (by decide) ⟨fun q => ?_, fun q => ?_⟩
    · replace h := h.1 q
      refine z_iinc E 4 [1, 2, 3, 4, 0] (v := v4 + 1) (lv' := [(0, zf G 3), (1, zf G 2), (2, .int v2), (3, .int v3), (4, .int (v4 + 1))]) d_Frame_growTree_110 rfl rfl (by decide) rfl ?_
      refine z_goto E d_Frame_growTree_113 (tgt := 84) (by decide) ?_
      exact h
    · replace h := h.2 q
      refine z_aload_n E 0 d_Frame_growTree_102 rfl rfl ?_
      refine z_getR E f_Frame_9 d_Frame_growTree_103 ?_
      refine z_iload E 4 d_Frame_growTree_106 rfl ?_
      refine z_iload_n E 3 d_Frame_growTree_108 rfl rfl ?_
      obtain ⟨h0, h⟩ := h
      refine z_iast E rfl d_Frame_growTree_109 ⟨h0, fun σ1 e => ?_⟩
      replace h := h σ1 e
      refine z_iinc E 4 [1, 2, 3, 4, 0] (v := v4 + 1) (lv' := [(0, zf G 3), (1, zf G 2), (2, .int v2), (3, .int v3), (4, .int (v4 + 1))]) d_Frame_growTree_110 rfl rfl (by decide) rfl ?_
      refine z_goto E d_Frame_growTree_113 (tgt := 84) (by decide) ?_
      exact h

set_option maxRecDepth 20000 in
set_option maxHeartbeats 4000000 in
theorem b_Frame_hang_0 {G : zG} {X : zX} {post : Option Value → zSt → Prop} (E : zCtx G M_Frame_hang (zKm G 1 X post) X) (v2 : Int32) (v3 : Int32) (v4 : Int32) (σ : zSt)
    (h : (vp_in v2 12 ∧ zZ G M_Frame_hang 1 X post 13 [(0, zf G 3), (1, zf G 2), (2, .int v2), (4, .int v4), (5, .int ((σ 7 v2.toNatClampNeg) &&& v3)), (6, .int (0 : Int32))] [] σ)) :
    zZ G M_Frame_hang 1 X post 0 [(0, zf G 3), (1, zf G 2), (2, .int v2), (3, .int v3), (4, .int v4)] [] σ := by
  refine z_aload_n E 1 d_Frame_hang_0 rfl rfl ?_
  refine z_getR E f_Frame_73 d_Frame_hang_1 ?_
  refine z_iload_n E 2 d_Frame_hang_4 rfl rfl ?_
  obtain ⟨h0, h⟩ := h
  refine z_iald E rfl d_Frame_hang_5 ⟨h0, ?_⟩
  refine z_iload_n E 3 d_Frame_hang_6 rfl rfl ?_
  refine z_iand E d_Frame_hang_7 ?_
  refine z_istore E [1, 2, 3, 5, 0] (lv' := [(0, zf G 3), (1, zf G 2), (2, .int v2), (4, .int v4), (5, .int ((σ 7 v2.toNatClampNeg) &&& v3))]) d_Frame_hang_8 (by decide) rfl ?_
  refine z_iconst E (v := 0) d_Frame_hang_10 (by decide) ?_
  refine z_istore E [1, 2, 3, 4, 5, 0] (lv' := [(0, zf G 3), (1, zf G 2), (2, .int v2), (4, .int v4), (5, .int ((σ 7 v2.toNatClampNeg) &&& v3)), (6, .int (0 : Int32))]) d_Frame_hang_11 (by decide) rfl ?_
  exact h

set_option maxRecDepth 20000 in
set_option maxHeartbeats 4000000 in
theorem b_Frame_hang_13 {G : zG} {X : zX} {post : Option Value → zSt → Prop} (E : zCtx G M_Frame_hang (zKm G 1 X post) X) (v2 : Int32) (v4 : Int32) (v5 : Int32) (v6 : Int32) (σ : zSt)
    (h : (((σ 2 0) ≤ v6 → post none σ) ∧ (¬ (σ 2 0) ≤ v6 → (((zIn v5 v6) = false → zZ G M_Frame_hang 1 X post 13 [(0, zf G 3), (1, zf G 2), (2, .int v2), (4, .int v4), (5, .int v5), (6, .int (v6 + 1))] [] σ) ∧ ((zIn v5 v6) = true → (vp_in v6 12 ∧ ((¬ (σ 11 v6.toNatClampNeg) = v4 → zZ G M_Frame_hang 1 X post 13 [(0, zf G 3), (1, zf G 2), (2, .int v2), (4, .int v4), (5, .int v5), (6, .int (v6 + 1))] [] σ) ∧ ((σ 11 v6.toNatClampNeg) = v4 → (vp_in v2 12 ∧ ∀ σ1 : zSt, σ1 = zup σ 11 v2.toNatClampNeg (v4 + (1 : Int32)) → (vp_in v2 12 ∧ ∀ σ2 : zSt, σ2 = zup σ1 10 v2.toNatClampNeg v6 → (vp_in v2 12 ∧ ∀ σ3 : zSt, σ3 = zup σ2 12 v2.toNatClampNeg ((1 : Int32) <<< (v6 &&& 31)) → (vp_in v6 12 ∧ (vp_in v6 12 ∧ ∀ σ4 : zSt, σ4 = zup σ3 13 v6.toNatClampNeg ((σ3 13 v6.toNatClampNeg) ||| ((1 : Int32) <<< (v2 &&& 31))) → post none σ4))))))))))))) :
    zZ G M_Frame_hang 1 X post 13 [(0, zf G 3), (1, zf G 2), (2, .int v2), (4, .int v4), (5, .int v5), (6, .int v6)] [] σ := by
  refine z_iload E 5 d_Frame_hang_13 rfl ?_
  refine z_aload_n E 1 d_Frame_hang_15 rfl rfl ?_
  refine z_getI E f_Frame_70 d_Frame_hang_16 ?_
  refine z_icmp_ge E d_Frame_hang_19 (tgt := 92) (by decide) ⟨fun q => ?_, fun q => ?_⟩
  · replace h := h.1 q
    exact z_return E rfl d_Frame_hang_92 h
  · replace h := h.2 q
    refine z_iload E 4 d_Frame_hang_22 rfl ?_
    refine z_iload E 5 d_Frame_hang_24 rfl ?_
    refine z_callSBp [.int v5, .int v6] [] E (p_P_isIn G σ v5 v6) c_Frame_76 st_P_isIn rfl zrm rfl (Nat.le_of_ble_eq_true rfl) d_Frame_hang_26 ?_
    refine z_ifz_eq E d_Frame_hang_29 (tgt := 86) (by decide) ⟨fun q => ?_, fun q => ?_⟩
    · replace h := h.1 q
      refine z_iinc E 5 [1, 2, 3, 4, 5, 0] (v := v6 + 1) (lv' := [(0, zf G 3), (1, zf G 2), (2, .int v2), (4, .int v4), (5, .int v5), (6, .int (v6 + 1))]) d_Frame_hang_86 rfl rfl (by decide) rfl ?_
      refine z_goto E d_Frame_hang_89 (tgt := 13) (by decide) ?_
      exact h
    · replace h := h.2 q
      refine z_aload_n E 0 d_Frame_hang_32 rfl rfl ?_
      refine z_getR E f_Frame_18 d_Frame_hang_33 ?_
      refine z_iload E 5 d_Frame_hang_36 rfl ?_
      obtain ⟨h0, h⟩ := h
      refine z_iald E rfl d_Frame_hang_38 ⟨h0, ?_⟩
      refine z_iload E 3 d_Frame_hang_39 rfl ?_
      refine z_icmp_ne E d_Frame_hang_41 (tgt := 86) (by decide) ⟨fun q => ?_, fun q => ?_⟩
      · replace h := h.1 q
        refine z_iinc E 5 [1, 2, 3, 4, 5, 0] (v := v6 + 1) (lv' := [(0, zf G 3), (1, zf G 2), (2, .int v2), (4, .int v4), (5, .int v5), (6, .int (v6 + 1))]) d_Frame_hang_86 rfl rfl (by decide) rfl ?_
        refine z_goto E d_Frame_hang_89 (tgt := 13) (by decide) ?_
        exact h
      · replace h := h.2 q
        refine z_aload_n E 0 d_Frame_hang_44 rfl rfl ?_
        refine z_getR E f_Frame_18 d_Frame_hang_45 ?_
        refine z_iload_n E 2 d_Frame_hang_48 rfl rfl ?_
        refine z_iload E 3 d_Frame_hang_49 rfl ?_
        refine z_iconst E (v := 1) d_Frame_hang_51 (by decide) ?_
        refine z_iadd E d_Frame_hang_52 ?_
        obtain ⟨h0, h⟩ := h
        refine z_iast E rfl d_Frame_hang_53 ⟨h0, fun σ1 e => ?_⟩
        replace h := h σ1 e
        refine z_aload_n E 0 d_Frame_hang_54 rfl rfl ?_
        refine z_getR E f_Frame_15 d_Frame_hang_55 ?_
        refine z_iload_n E 2 d_Frame_hang_58 rfl rfl ?_
        refine z_iload E 5 d_Frame_hang_59 rfl ?_
        obtain ⟨h0, h⟩ := h
        refine z_iast E rfl d_Frame_hang_61 ⟨h0, fun σ2 e => ?_⟩
        replace h := h σ2 e
        refine z_aload_n E 0 d_Frame_hang_62 rfl rfl ?_
        refine z_getR E f_Frame_21 d_Frame_hang_63 ?_
        refine z_iload_n E 2 d_Frame_hang_66 rfl rfl ?_
        refine z_iconst E (v := 1) d_Frame_hang_67 (by decide) ?_
        refine z_iload E 5 d_Frame_hang_68 rfl ?_
        refine z_ishl E d_Frame_hang_70 ?_
        obtain ⟨h0, h⟩ := h
        refine z_iast E rfl d_Frame_hang_71 ⟨h0, fun σ3 e => ?_⟩
        replace h := h σ3 e
        refine z_aload_n E 0 d_Frame_hang_72 rfl rfl ?_
        refine z_getR E f_Frame_24 d_Frame_hang_73 ?_
        refine z_iload E 5 d_Frame_hang_76 rfl ?_
        refine z_dup2 E d_Frame_hang_78 rfl rfl ?_
        obtain ⟨h0, h⟩ := h
        refine z_iald E rfl d_Frame_hang_79 ⟨h0, ?_⟩
        refine z_iconst E (v := 1) d_Frame_hang_80 (by decide) ?_
        refine z_iload_n E 2 d_Frame_hang_81 rfl rfl ?_
        refine z_ishl E d_Frame_hang_82 ?_
        refine z_ior E d_Frame_hang_83 ?_
        obtain ⟨h0, h⟩ := h
        refine z_iast E rfl d_Frame_hang_84 ⟨h0, fun σ4 e => ?_⟩
        replace h := h σ4 e
        exact z_return E rfl d_Frame_hang_85 h

set_option maxRecDepth 20000 in
set_option maxHeartbeats 4000000 in
theorem b_Frame_makeClusters_0 {G : zG} {X : zX} {post : Option Value → zSt → Prop} (E : zCtx G M_Frame_makeClusters (zKm G 3 X post) X) (v2 : Int32) (σ : zSt)
    (h : (∀ σ1 : zSt, σ1 = zup σ 3 0 (0 : Int32) → zZ G M_Frame_makeClusters 3 X post 13 [(0, zf G 3), (1, zf G 2), (2, .int v2), (3, .int (zAll (σ 2 0))), (4, .int (0 : Int32))] [] σ1)) :
    zZ G M_Frame_makeClusters 3 X post 0 [(0, zf G 3), (1, zf G 2), (2, .int v2)] [] σ := by
  refine z_aload_n E 1 d_Frame_makeClusters_0 rfl rfl ?_
  refine z_callVIp [] [] E (p_Net_everyNode G σ ) c_Frame_40 r_Net_everyNode rfl zrm rfl (Nat.le_of_ble_eq_true rfl) d_Frame_makeClusters_1 ?_
  refine z_istore_n E [1, 2, 3, 0] (lv' := [(0, zf G 3), (1, zf G 2), (2, .int v2), (3, .int (zAll (σ 2 0)))]) d_Frame_makeClusters_4 rfl (by decide) rfl ?_
  refine z_aload_n E 0 d_Frame_makeClusters_5 rfl rfl ?_
  refine z_iconst E (v := 0) d_Frame_makeClusters_6 (by decide) ?_
  refine z_putI E w_Frame_57 d_Frame_makeClusters_7 (fun σ1 e => ?_)
  replace h := h σ1 e
  refine z_iconst E (v := 0) d_Frame_makeClusters_10 (by decide) ?_
  refine z_istore E [1, 2, 3, 4, 0] (lv' := [(0, zf G 3), (1, zf G 2), (2, .int v2), (3, .int (zAll (σ 2 0))), (4, .int (0 : Int32))]) d_Frame_makeClusters_11 (by decide) rfl ?_
  exact h

set_option maxRecDepth 20000 in
set_option maxHeartbeats 4000000 in
theorem b_Frame_makeClusters_13 {G : zG} {X : zX} {post : Option Value → zSt → Prop} (E : zCtx G M_Frame_makeClusters (zKm G 3 X post) X) (v2 : Int32) (v3 : Int32) (v4 : Int32) (σ : zSt)
    (h : (((σ 2 0) ≤ v4 → post none σ) ∧ (¬ (σ 2 0) ≤ v4 → (((zIn v3 v4) = false → zZ G M_Frame_makeClusters 3 X post 13 [(0, zf G 3), (1, zf G 2), (2, .int v2), (3, .int v3), (4, .int (v4 + 1))] [] σ) ∧ ((zIn v3 v4) = true → (∃ P : Int32 → zSt → Prop, zI G 2 M_Frame_clusterOf [zf G 2, .int v4, .int v3, .int v2] σ P ∧ ∀ (x2 : Int32) (σ1 : zSt), P x2 σ1 → (∀ σ3 : zSt, σ3 = zup σ1 3 0 ((σ1 3 0) + (1 : Int32)) → (∃ P : zSt → Prop, zV G 2 M_Frame_growTree [zf G 3, zf G 2, .int x2, .int v4] σ3 P ∧ ∀ σ4 : zSt, P σ4 → zZ G M_Frame_makeClusters 3 X post 13 [(0, zf G 3), (1, zf G 2), (2, .int v2), (3, .int (v3 &&& (x2 ^^^ (-1 : Int32)))), (4, .int (v4 + 1))] [] σ4)))))))) :
    zZ G M_Frame_makeClusters 3 X post 13 [(0, zf G 3), (1, zf G 2), (2, .int v2), (3, .int v3), (4, .int v4)] [] σ := by
  refine z_iload E 4 d_Frame_makeClusters_13 rfl ?_
  refine z_aload_n E 1 d_Frame_makeClusters_15 rfl rfl ?_
  refine z_getI E f_Frame_70 d_Frame_makeClusters_16 ?_
  refine z_icmp_ge E d_Frame_makeClusters_19 (tgt := 73) (by decide) ⟨fun q => ?_, fun q => ?_⟩
  · replace h := h.1 q
    exact z_return E rfl d_Frame_makeClusters_73 h
  · replace h := h.2 q
    refine z_iload_n E 3 d_Frame_makeClusters_22 rfl rfl ?_
    refine z_iload E 4 d_Frame_makeClusters_23 rfl ?_
    refine z_callSBp [.int v3, .int v4] [] E (p_P_isIn G σ v3 v4) c_Frame_76 st_P_isIn rfl zrm rfl (Nat.le_of_ble_eq_true rfl) d_Frame_makeClusters_25 ?_
    refine z_ifz_eq E d_Frame_makeClusters_28 (tgt := 67) (by decide) ⟨fun q => ?_, fun q => ?_⟩
    · replace h := h.1 q
      refine z_iinc E 4 [1, 2, 3, 4, 0] (v := v4 + 1) (lv' := [(0, zf G 3), (1, zf G 2), (2, .int v2), (3, .int v3), (4, .int (v4 + 1))]) d_Frame_makeClusters_67 rfl rfl (by decide) rfl ?_
      refine z_goto E d_Frame_makeClusters_70 (tgt := 13) (by decide) ?_
      exact h
    · replace h := h.2 q
      refine z_aload_n E 1 d_Frame_makeClusters_31 rfl rfl ?_
      refine z_iload E 4 d_Frame_makeClusters_32 rfl ?_
      refine z_iload_n E 3 d_Frame_makeClusters_34 rfl rfl ?_
      refine z_iload_n E 2 d_Frame_makeClusters_35 rfl rfl ?_
      obtain ⟨P, hM, h⟩ := h
      refine z_callSI [zf G 2, .int v4, .int v3, .int v2] [] E hM c_Frame_84 st_Frame_clusterOf rfl zrm rfl (Nat.le_of_ble_eq_true rfl) d_Frame_makeClusters_36 (fun x2 σ1 hp => ?_)
      replace h := h x2 σ1 hp
      refine z_istore E [1, 2, 3, 4, 5, 0] (lv' := [(0, zf G 3), (1, zf G 2), (2, .int v2), (3, .int v3), (4, .int v4), (5, .int x2)]) d_Frame_makeClusters_39 (by decide) rfl ?_
      refine z_iload_n E 3 d_Frame_makeClusters_41 rfl rfl ?_
      refine z_iload E 5 d_Frame_makeClusters_42 rfl ?_
      refine z_iconst E (v := -1) d_Frame_makeClusters_44 (by decide) ?_
      refine z_ixor E d_Frame_makeClusters_45 ?_
      refine z_iand E d_Frame_makeClusters_46 ?_
      refine z_istore_n E [1, 2, 3, 0, 4, 5] (lv' := [(0, zf G 3), (1, zf G 2), (2, .int v2), (3, .int (v3 &&& (x2 ^^^ (-1 : Int32)))), (4, .int v4), (5, .int x2)]) d_Frame_makeClusters_47 rfl (by decide) rfl ?_
      refine z_aload_n E 0 d_Frame_makeClusters_48 rfl rfl ?_
      refine z_dup E d_Frame_makeClusters_49 rfl ?_
      refine z_getI E f_Frame_57 d_Frame_makeClusters_50 ?_
      refine z_iconst E (v := 1) d_Frame_makeClusters_53 (by decide) ?_
      refine z_iadd E d_Frame_makeClusters_54 ?_
      refine z_putI E w_Frame_57 d_Frame_makeClusters_55 (fun σ3 e => ?_)
      replace h := h σ3 e
      refine z_aload_n E 0 d_Frame_makeClusters_58 rfl rfl ?_
      refine z_aload_n E 1 d_Frame_makeClusters_59 rfl rfl ?_
      refine z_iload E 5 d_Frame_makeClusters_60 rfl ?_
      refine z_iload E 4 d_Frame_makeClusters_62 rfl ?_
      obtain ⟨P, hM, h⟩ := h
      refine z_callVV [zf G 2, .int x2, .int v4] [] E hM c_Frame_46 r_Frame_growTree rfl zrm rfl (Nat.le_of_ble_eq_true rfl) d_Frame_makeClusters_64 (fun σ4 hp => ?_)
      replace h := h σ4 hp
      refine z_iinc E 4 [1, 2, 3, 4, 0, 5] (v := v4 + 1) (lv' := [(0, zf G 3), (1, zf G 2), (2, .int v2), (3, .int (v3 &&& (x2 ^^^ (-1 : Int32)))), (4, .int (v4 + 1)), (5, .int x2)]) d_Frame_makeClusters_67 rfl rfl (by decide) rfl ?_
      refine z_goto E d_Frame_makeClusters_70 (tgt := 13) (by decide) ?_
      refine zZ.sub [0, 1, 2, 3, 4] (lv' := [(0, zf G 3), (1, zf G 2), (2, .int v2), (3, .int (v3 &&& (x2 ^^^ (-1 : Int32)))), (4, .int (v4 + 1))]) rfl ?_
      exact h

set_option maxRecDepth 20000 in
set_option maxHeartbeats 4000000 in
theorem b_Frame_clusterOf_0 {G : zG} {X : zX} {post : Option Value → zSt → Prop} (E : zCtx G M_Frame_clusterOf (zKm G 2 X post) X) (v1 : Int32) (v2 : Int32) (v3 : Int32) (σ : zSt)
    (h : zZ G M_Frame_clusterOf 2 X post 8 [(0, zf G 2), (2, .int v2), (3, .int v3), (4, .int ((1 : Int32) <<< (v1 &&& 31))), (5, .int (0 : Int32))] [] σ) :
    zZ G M_Frame_clusterOf 2 X post 0 [(0, zf G 2), (1, .int v1), (2, .int v2), (3, .int v3)] [] σ := by
  refine z_iconst E (v := 1) d_Frame_clusterOf_0 (by decide) ?_
  refine z_iload_n E 1 d_Frame_clusterOf_1 rfl rfl ?_
  refine z_ishl E d_Frame_clusterOf_2 ?_
  refine z_istore E [1, 3, 4, 0] (lv' := [(0, zf G 2), (2, .int v2), (3, .int v3), (4, .int ((1 : Int32) <<< (v1 &&& 31)))]) d_Frame_clusterOf_3 (by decide) rfl ?_
  refine z_iconst E (v := 0) d_Frame_clusterOf_5 (by decide) ?_
  refine z_istore E [1, 2, 3, 4, 0] (lv' := [(0, zf G 2), (2, .int v2), (3, .int v3), (4, .int ((1 : Int32) <<< (v1 &&& 31))), (5, .int (0 : Int32))]) d_Frame_clusterOf_6 (by decide) rfl ?_
  exact h

set_option maxRecDepth 20000 in
set_option maxHeartbeats 4000000 in
theorem b_Frame_clusterOf_8 {G : zG} {X : zX} {post : Option Value → zSt → Prop} (E : zCtx G M_Frame_clusterOf (zKm G 2 X post) X) (v2 : Int32) (v3 : Int32) (v4 : Int32) (v5 : Int32) (σ : zSt)
    (h : (((σ 2 0) ≤ v5 → post (some (.int v4)) σ) ∧ (¬ (σ 2 0) ≤ v5 → (∃ P : Int32 → zSt → Prop, zI G 1 M_Net_around [zf G 2, .int v4] σ P ∧ ∀ (x2 : Int32) (σ1 : zSt), P x2 σ1 → ((((v3 - (1 : Int32)) * (zBc v4)) ≤ (zBc ((x2 &&& v2) &&& (v4 ^^^ (-1 : Int32)))) → zZ G M_Frame_clusterOf 2 X post 8 [(0, zf G 2), (2, .int v2), (3, .int v3), (4, .int (v4 ||| ((x2 &&& v2) &&& (v4 ^^^ (-1 : Int32))))), (5, .int (v5 + 1))] [] σ1) ∧ (¬ ((v3 - (1 : Int32)) * (zBc v4)) ≤ (zBc ((x2 &&& v2) &&& (v4 ^^^ (-1 : Int32)))) → post (some (.int v4)) σ1)))))) :
    zZ G M_Frame_clusterOf 2 X post 8 [(0, zf G 2), (2, .int v2), (3, .int v3), (4, .int v4), (5, .int v5)] [] σ := by
  refine z_iload E 4 d_Frame_clusterOf_8 rfl ?_
  refine z_aload_n E 0 d_Frame_clusterOf_10 rfl rfl ?_
  refine z_getI E f_Frame_70 d_Frame_clusterOf_11 ?_
  refine z_icmp_ge E d_Frame_clusterOf_14 (tgt := 65) (by decide) ⟨fun q => ?_, fun q => ?_⟩
  · replace h := h.1 q
    refine z_iload E 3 d_Frame_clusterOf_65 rfl ?_
    exact z_ireturn E rfl d_Frame_clusterOf_67 h
  · replace h := h.2 q
    refine z_aload_n E 0 d_Frame_clusterOf_17 rfl rfl ?_
    refine z_iload E 3 d_Frame_clusterOf_18 rfl ?_
    obtain ⟨P, hM, h⟩ := h
    refine z_callVI [.int v4] [] E hM c_Frame_88 r_Net_around rfl zrm rfl (Nat.le_of_ble_eq_true rfl) d_Frame_clusterOf_20 (fun x2 σ1 hp => ?_)
    replace h := h x2 σ1 hp
    refine z_iload_n E 1 d_Frame_clusterOf_23 rfl rfl ?_
    refine z_iand E d_Frame_clusterOf_24 ?_
    refine z_iload E 3 d_Frame_clusterOf_25 rfl ?_
    refine z_iconst E (v := -1) d_Frame_clusterOf_27 (by decide) ?_
    refine z_ixor E d_Frame_clusterOf_28 ?_
    refine z_iand E d_Frame_clusterOf_29 ?_
    refine z_istore E [1, 2, 3, 4, 5, 0] (lv' := [(0, zf G 2), (2, .int v2), (3, .int v3), (4, .int v4), (5, .int v5), (6, .int ((x2 &&& v2) &&& (v4 ^^^ (-1 : Int32))))]) d_Frame_clusterOf_30 (by decide) rfl ?_
    refine z_iload E 5 d_Frame_clusterOf_32 rfl ?_
    refine z_callSIp [.int ((x2 &&& v2) &&& (v4 ^^^ (-1 : Int32)))] [] E (p_JInteger_bitCount G σ1 ((x2 &&& v2) &&& (v4 ^^^ (-1 : Int32)))) c_Frame_92 st_JInteger_bitCount rfl zrm rfl (Nat.le_of_ble_eq_true rfl) d_Frame_clusterOf_34 ?_
    refine z_iload_n E 2 d_Frame_clusterOf_37 rfl rfl ?_
    refine z_iconst E (v := 1) d_Frame_clusterOf_38 (by decide) ?_
    refine z_isub E d_Frame_clusterOf_39 ?_
    refine z_iload E 3 d_Frame_clusterOf_40 rfl ?_
    refine z_callSIp [.int v4] [.int (v3 - (1 : Int32)), .int (zBc ((x2 &&& v2) &&& (v4 ^^^ (-1 : Int32))))] E (p_JInteger_bitCount G σ1 v4) c_Frame_92 st_JInteger_bitCount rfl zrm rfl (Nat.le_of_ble_eq_true rfl) d_Frame_clusterOf_42 ?_
    refine z_imul E d_Frame_clusterOf_45 ?_
    refine z_icmp_ge E d_Frame_clusterOf_46 (tgt := 52) (by decide) ⟨fun q => ?_, fun q => ?_⟩
    · replace h := h.1 q
      refine z_iload E 3 d_Frame_clusterOf_52 rfl ?_
      refine z_iload E 5 d_Frame_clusterOf_54 rfl ?_
      refine z_ior E d_Frame_clusterOf_56 ?_
      refine z_istore E [1, 2, 3, 0, 4] (lv' := [(0, zf G 2), (2, .int v2), (3, .int v3), (4, .int (v4 ||| ((x2 &&& v2) &&& (v4 ^^^ (-1 : Int32))))), (5, .int v5)]) d_Frame_clusterOf_57 (by decide) rfl ?_
      refine z_iinc E 4 [1, 2, 3, 4, 0] (v := v5 + 1) (lv' := [(0, zf G 2), (2, .int v2), (3, .int v3), (4, .int (v4 ||| ((x2 &&& v2) &&& (v4 ^^^ (-1 : Int32))))), (5, .int (v5 + 1))]) d_Frame_clusterOf_59 rfl rfl (by decide) rfl ?_
      refine z_goto E d_Frame_clusterOf_62 (tgt := 8) (by decide) ?_
      exact h
    · replace h := h.2 q
      refine z_iload E 3 d_Frame_clusterOf_49 rfl ?_
      exact z_ireturn E rfl d_Frame_clusterOf_51 h

