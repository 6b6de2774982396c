-- Net.clear(1) on a new Net; the constructors of PulseNet and PulseNetModel (written by kinit.py)
theorem s_clear1 (G : zG) (h0 q1 q2 q3 : Nat) : kSpec G 1 M_Net_clear [.ref h0, .int 1] [(h0, .inr (2, [.int 0, .int 0, .ref q1, .ref q2, .ref q3])), (q1, .inl (zcA G .int, 12, .inl kZ)), (q2, .inl (zcA G .int, 12, .inl kZ)), (q3, .inl (zcA G .int, 144, .inl kZ))] 0 0 (fun w => w = [(h0, .inr (2, [.int 1, .int 0, .ref q1, .ref q2, .ref q3])), (q1, .inl (zcA G .int, 12, .inl kZ)), (q2, .inl (zcA G .int, 12, .inl kZ)), (q3, .inl (zcA G .int, 144, .inl kZ))]) := by
  refine kSpec.of (by decide) (Nat.le_of_ble_eq_true rfl) rfl (fun X E => ?_)
  refine k_aload E 0 d_Net_clear_0 rfl rfl ?_
  refine k_iload E 1 d_Net_clear_1 rfl rfl ?_
  refine k_put (q0 := 0) (ci := 2) (j := 0) (ty := .int) E rfl in_Net ty_Net_ok nm_Net (zTbl_in (List.mem_append_right _ (List.mem_of_getElem? (i := 32) (by decide +kernel))) rfl) rfl (by decide) (by decide +kernel) rfl rfl rfl (Nat.le_of_ble_eq_true rfl) d_Net_clear_2 ?_
  refine k_aload E 0 d_Net_clear_5 rfl rfl ?_
  refine k_iconst (v := 0) E d_Net_clear_6 (by decide) ?_
  refine k_put (q0 := 0) (ci := 2) (j := 1) (ty := .int) E rfl in_Net ty_Net_ok nm_Net (zTbl_in (List.mem_append_right _ (List.mem_of_getElem? (i := 36) (by decide +kernel))) rfl) rfl (by decide) (by decide +kernel) rfl rfl rfl (Nat.le_of_ble_eq_true rfl) d_Net_clear_7 ?_
  refine k_aload E 0 d_Net_clear_10 rfl rfl ?_
  refine k_get (q0 := 0) (ci := 2) (j := 2) (v := .ref q1) E rfl in_Net (zTbl_in (List.mem_append_right _ (List.mem_of_getElem? (i := 38) (by decide +kernel))) rfl) (by decide) rfl rfl d_Net_clear_11 ?_
  refine k_iconst (v := 0) E d_Net_clear_14 (by decide) ?_
  refine k_callS [.ref q1, .int 0] [] (wr := [(h0, .inr (2, [.int 1, .int 0, .ref q1, .ref q2, .ref q3])), (q2, .inl (zcA G .int, 12, .inl kZ)), (q3, .inl (zcA G .int, 144, .inl kZ))]) E (s_fill0 G q1 12 (by decide)) c_Net_28 st_JArrays_fill rfl ⟨(Nat.le_of_ble_eq_true rfl), (Nat.le_of_ble_eq_true rfl), (Nat.le_of_ble_eq_true rfl), (Nat.le_of_ble_eq_true rfl)⟩ [1] [0, 2, 3] rfl rfl rfl rfl (by decide) rfl (Nat.le_of_ble_eq_true rfl) d_Net_clear_15 (fun w1 e1 => ?_)
  subst e1
  refine k_aload E 0 d_Net_clear_18 rfl rfl ?_
  refine k_get (q0 := 0) (ci := 2) (j := 3) (v := .ref q2) E rfl in_Net (zTbl_in (List.mem_append_right _ (List.mem_of_getElem? (i := 41) (by decide +kernel))) rfl) (by decide) rfl rfl d_Net_clear_19 ?_
  refine k_iconst (v := 0) E d_Net_clear_22 (by decide) ?_
  refine k_callS [.ref q2, .int 0] [] (wr := [(h0, .inr (2, [.int 1, .int 0, .ref q1, .ref q2, .ref q3])), (q3, .inl (zcA G .int, 144, .inl kZ)), (q1, .inl (zcA G .int, 12, .inl kZ))]) E (s_fill0 G q2 12 (by decide)) c_Net_28 st_JArrays_fill rfl ⟨(Nat.le_of_ble_eq_true rfl), (Nat.le_of_ble_eq_true rfl), (Nat.le_of_ble_eq_true rfl), (Nat.le_of_ble_eq_true rfl)⟩ [1] [0, 2, 3] rfl rfl rfl rfl (by decide) rfl (Nat.le_of_ble_eq_true rfl) d_Net_clear_23 (fun w1 e1 => ?_)
  subst e1
  refine k_aload E 0 d_Net_clear_26 rfl rfl ?_
  refine k_get (q0 := 0) (ci := 2) (j := 4) (v := .ref q3) E rfl in_Net (zTbl_in (List.mem_append_right _ (List.mem_of_getElem? (i := 45) (by decide +kernel))) rfl) (by decide) rfl rfl d_Net_clear_27 ?_
  refine k_iconst (v := 0) E d_Net_clear_30 (by decide) ?_
  refine k_callS [.ref q3, .int 0] [] (wr := [(h0, .inr (2, [.int 1, .int 0, .ref q1, .ref q2, .ref q3])), (q1, .inl (zcA G .int, 12, .inl kZ)), (q2, .inl (zcA G .int, 12, .inl kZ))]) E (s_fill0 G q3 144 (by decide)) c_Net_28 st_JArrays_fill rfl ⟨(Nat.le_of_ble_eq_true rfl), (Nat.le_of_ble_eq_true rfl), (Nat.le_of_ble_eq_true rfl), (Nat.le_of_ble_eq_true rfl)⟩ [1] [0, 2, 3] rfl rfl rfl rfl (by decide) rfl (Nat.le_of_ble_eq_true rfl) d_Net_clear_31 (fun w1 e1 => ?_)
  subst e1
  exact k_ret E rfl d_Net_clear_34 rfl
/-- the state behind the constructors: one node, all else nothing -/
def s0 : zSt := fun c => if c = 2 then (fun j => if j = 0 then 1 else 0) else kZ
/-- the cells of a new PulseNet -/
def wP (cA : FieldType → ClassId) (p : Nat → Nat) : va_W := (zS.take 32).mapIdx (fun k sh => (p k, zE cA p s0 k sh))
set_option maxRecDepth 100000 in
set_option maxHeartbeats 4000000 in
theorem s_P_init (G : zG) (h0 : Nat) : kSpec G 3 M_P_init [.ref h0] [(h0, .inr (0, [.null, .int 0]))] 31 3833 (fun w => ∃ p : Nat → Nat, p 0 = h0 ∧ w = wP (zcA G) p) := by
  refine kSpec.of (by decide) (Nat.le_of_ble_eq_true rfl) rfl (fun X E => ?_)
  refine k_aload E 0 d_P_init_0 rfl rfl ?_
  refine k_obj E (zTbl_in (List.mem_append_right _ (List.mem_of_getElem? (i := 17) (by decide +kernel))) rfl) kw_oi kw_oc ⟨(Nat.le_of_ble_eq_true rfl), (Nat.le_of_ble_eq_true rfl)⟩ d_P_init_1 ?_
  refine k_aload E 0 d_P_init_4 rfl rfl ?_
  refine k_new (ci := 1) (fs := [.null, .null, .null, .null, .int 0, .int 0, .int 0, .int 0, .null, .null, .null, .null, .null, .null, .null, .null]) E rfl in_Course ty_Course_ok (zTbl_in (List.mem_append_right _ (List.mem_of_getElem? (i := 20) (by decide +kernel))) rfl) (zTbl_in (List.mem_append_right _ (List.mem_of_getElem? (i := 21) (by decide +kernel))) rfl) (zTbl_in (List.mem_append_right _ (List.mem_of_getElem? (i := 2) (by decide +kernel))) rfl) kd_Course (Nat.le_of_ble_eq_true rfl) (Nat.le_of_ble_eq_true rfl) d_P_init_5 (fun q1 => ?_)
  refine k_dup E d_P_init_8 rfl ?_
  refine k_callI (wr := [(h0, .inr (0, [.null, .int 0]))]) E (s_Course_init G q1) kc_Course ki_Course ⟨(Nat.le_of_ble_eq_true rfl), (Nat.le_of_ble_eq_true rfl), (Nat.le_of_ble_eq_true rfl), (Nat.le_of_ble_eq_true rfl)⟩ [1] [0] rfl rfl rfl rfl (by decide) (Nat.le_of_ble_eq_true rfl) d_P_init_9 (fun w1 e1 => ?_)
  obtain ⟨q2, q3, q4, q5, q6, q7, q8, q9, q10, q11, q12, q13, q14, q15, q16, q17, q18, q19, q20, q21, q22, q23, q24, q25, q26, q27, q28, q29, q30, q31, rfl⟩ := e1
  refine k_putF (q0 := 0) (ci := 0) (j := 0) (ty := .object "PulseNet$Course") E rfl in_P ty_P_ok nm_P (zTbl_in (List.mem_append_right _ (List.mem_of_getElem? (i := 230) (by decide +kernel))) rfl) rfl rfl rfl (by decide) (by decide +kernel) rfl rfl rfl (Nat.le_of_ble_eq_true rfl) d_P_init_12 ?_
  refine k_aload E 0 d_P_init_15 rfl rfl ?_
  refine k_get (q0 := 0) (ci := 0) (j := 0) (v := .ref q1) E rfl in_P (zTbl_in (List.mem_append_right _ (List.mem_of_getElem? (i := 230) (by decide +kernel))) rfl) (by decide) rfl rfl d_P_init_16 ?_
  refine k_get (q0 := 1) (ci := 1) (j := 0) (v := .ref q2) E rfl in_Course (zTbl_in (List.mem_append_right _ (List.mem_of_getElem? (i := 164) (by decide +kernel))) rfl) (by decide) rfl rfl d_P_init_19 ?_
  refine k_iconst (v := 1) E d_P_init_22 (by decide) ?_
  refine k_callV [.int 1] [] (ci := 2) (wr := [(h0, .inr (0, [.ref q1, .int 0])), (q1, .inr (1, [.ref q2, .ref q6, .ref q14, .ref q18, .int 0, .int 0, .int 0, .int 0, .ref q24, .ref q25, .ref q26, .ref q27, .ref q28, .ref q29, .ref q30, .ref q31])), (q6, .inr (3, [.int 0, .int 0, .ref q7, .ref q8, .ref q9, .ref q10, .ref q11, .ref q12, .ref q13])), (q7, .inl (zcA G .int, 12, .inl kZ)), (q8, .inl (zcA G .int, 12, .inl kZ)), (q9, .inl (zcA G .int, 12, .inl kZ)), (q10, .inl (zcA G .int, 12, .inl kZ)), (q11, .inl (zcA G .int, 12, .inl kZ)), (q12, .inl (zcA G .int, 12, .inl kZ)), (q13, .inl (zcA G .int, 12, .inl kZ)), (q14, .inr (4, [.int 0, .int 0, .ref q15, .ref q16, .ref q17])), (q15, .inl (zcA G .int, 12, .inl kZ)), (q16, .inl (zcA G .int, 12, .inl kZ)), (q17, .inl (zcA G .int, 288, .inl kZ)), (q18, .inr (5, [.int 0, .ref q19, .ref q20, .ref q21, .ref q22, .ref q23])), (q19, .inl (zcA G .int, 528, .inl kZ)), (q20, .inl (zcA G .int, 528, .inl kZ)), (q21, .inl (zcA G .int, 528, .inl kZ)), (q22, .inl (zcA G .int, 528, .inl kZ)), (q23, .inl (zcA G .int, 528, .inl kZ)), (q24, .inl (zcA G .int, 12, .inl kZ)), (q25, .inl (zcA G .int, 12, .inl kZ)), (q26, .inl (zcA G .int, 12, .inl kZ)), (q27, .inl (zcA G .int, 12, .inl kZ)), (q28, .inl (zcA G .int, 12, .inl kZ)), (q29, .inl (zcA G .int, 24, .inl kZ)), (q30, .inl (zcA G .int, 252, .inl kZ)), (q31, .inl (zcA G .int, 252, .inl kZ))]) E (s_clear1 G q2 q3 q4 q5) c_P_20 r_Net_clear.2 rfl rfl rfl ⟨(Nat.le_of_ble_eq_true rfl), (Nat.le_of_ble_eq_true rfl), (Nat.le_of_ble_eq_true rfl), (Nat.le_of_ble_eq_true rfl)⟩ [2, 3, 4, 5] [0, 1, 6, 7, 8, 9, 10, 11, 12, 13, 14, 15, 16, 17, 18, 19, 20, 21, 22, 23, 24, 25, 26, 27, 28, 29, 30, 31] rfl rfl rfl rfl (by decide) rfl (Nat.le_of_ble_eq_true rfl) d_P_init_23 (fun w1 e1 => ?_)
  subst e1
  refine k_aload E 0 d_P_init_26 rfl rfl ?_
  refine k_iconst (v := 0) E d_P_init_27 (by decide) ?_
  refine k_put (q0 := 0) (ci := 0) (j := 1) (ty := .boolean) E rfl in_P ty_P_ok nm_P (zTbl_in (List.mem_append_right _ (List.mem_of_getElem? (i := 231) (by decide +kernel))) rfl) rfl (by decide) (by decide +kernel) rfl rfl rfl (Nat.le_of_ble_eq_true rfl) d_P_init_28 ?_
  refine k_perm (ws' := wP (zcA G) (fun k => [h0, q1, q2, q6, q14, q18, q3, q4, q5, q7, q8, q9, q10, q11, q12, q13, q15, q16, q17, q19, q20, q21, q22, q23, q24, q25, q26, q27, q28, q29, q30, q31].getD k 0)) [0, 1, 28, 2, 10, 14, 29, 30, 31, 3, 4, 5, 6, 7, 8, 9, 11, 12, 13, 15, 16, 17, 18, 19, 20, 21, 22, 23, 24, 25, 26, 27] rfl rfl ?_
  exact k_ret E rfl d_P_init_31 ⟨_, rfl, rfl⟩
