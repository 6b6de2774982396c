-- Net.clear(1) on a new Net; worlds in another order; from layer K to layer Z
section KCLEAR
variable {G : zG} {M : zM} {K : kK} {X : zX} {cells slots pc : Nat} {lv : List (Nat × Value)} {st : List Value} {ws : va_W}
theorem k_istore (E : kCtx G M K X) (ks : List Nat) {j : Fin 4} {i : Nat} {x : Int32} {lv' : List (Nat × Value)} (hd : decode M.2.1 pc = .ok (.istore_n j, 1)) (hi : (j : Nat) = i) (hn : i < M.2.2.1) (hl : lv_pick ((i, Value.int x) :: lv.filter (fun q => !(q.1 == i) && !(q.1 + 1 == i && q.2.category == 2))) ks = lv') (kk : kY G M K X cells slots (pc + 1) lv' st ws) : kY G M K X cells slots pc lv (.int x :: st) ws := fun ls H locs h hP hD hS => lv_istore_n E.1 E.2.1 hd hi h hn rfl (fun ls' h' => kk ls' H locs (lv_sub h' ks hl) hP hD hS)
theorem k_iinc (E : kCtx G M K X) (q : Nat) (ks : List Nat) {i : Nat} {n : Int} {x v : Int32} {lv' : List (Nat × Value)} (hd : decode M.2.1 pc = .ok (.iinc i n, 3)) (hq : lv[q]? = some (i, .int x)) (hv : x + Int32.ofInt n = v) (hn : i < M.2.2.1) (hl : lv_pick ((i, Value.int v) :: lv.filter (fun q => !(q.1 == i) && !(q.1 + 1 == i && q.2.category == 2))) ks = lv') (kk : kY G M K X cells slots (pc + 3) lv' st ws) : kY G M K X cells slots pc lv st ws := fun ls H locs h hP hD hS => lv_iinc E.1 E.2.1 hd h hq hv hn rfl (fun ls' h' => kk ls' H locs (lv_sub h' ks hl) hP hD hS)
theorem k_icmp_ge (E : kCtx G M K X) {x y : Int32} {off : Int} {tgt : Nat} (hd : decode M.2.1 pc = .ok (.if_icmp .ge off, 3)) (ht : (pc : Int) + off = (tgt : Int)) (kk : (y ≤ x → kY G M K X cells slots tgt lv st ws) ∧ (¬ y ≤ x → kY G M K X cells slots (pc + 3) lv st ws)) : kY G M K X cells slots pc lv (.int y :: .int x :: st) ws := fun ls H locs h hP hD hS => lv_icmp_ge E.1 E.2.1 hd ht (fun q => kk.1 q ls H locs h hP hD hS) (fun q => kk.2 q ls H locs h hP hD hS)
theorem k_goto (E : kCtx G M K X) {off : Int} {tgt : Nat} (hd : decode M.2.1 pc = .ok (.goto off, 3)) (ht : (pc : Int) + off = (tgt : Int)) (kk : kY G M K X cells slots tgt lv st ws) : kY G M K X cells slots pc lv st ws := fun ls H locs h hP hD hS => lv_goto E.1 E.2.1 hd ht (kk ls H locs h hP hD hS)
theorem k_alen (E : kCtx G M K X) {a n q0 : Nat} {f : Nat → Int32} (ha : ws[q0]? = some (a, .inl (zcA G .int, n, .inl f))) {v : Int32} (hv : Int32.ofNat n = v) (hd : decode M.2.1 pc = .ok (.arraylength, 1)) (kk : kY G M K X cells slots (pc + 1) lv (.int v :: st) ws) : kY G M K X cells slots pc lv (.ref a :: st) ws := fun ls H locs h hP hD hS => va_alen (D := zD G) (cl := zCl) E.1 E.2.1 E.2.2.2.2.2.2.1 hP q0 0 ha rfl hv hd (kk ls H locs h hP hD hS)
theorem k_iast (E : kCtx G M K X) {a n q0 : Nat} {f : Nat → Int32} {i x : Int32} (ha : ws[q0]? = some (a, .inl (zcA G .int, n, .inl f))) (hin : vp_in i n) (hd : decode M.2.1 pc = .ok (.iastore, 1)) (kk : kY G M K X cells slots (pc + 1) lv st (ws.set q0 (a, .inl (zcA G .int, n, .inl (upd f i.toNatClampNeg x))))) : kY G M K X cells slots pc lv (.int x :: .int i :: .ref a :: st) ws := fun ls H locs h hP hD hS => va_iast (D := zD G) (cl := zCl) E.1 E.2.1 E.2.2.2.2.2.2.1 hP hD hS q0 0 ha rfl hin hd (fun H1 locs1 p1 p2 p3 => kk ls H1 locs1 h p1 p2 p3)
theorem k_perm {ws' : va_W} (is : List Nat) (hs : is.map (fun i => ws[i]?) = ws'.map some) (hn : va_nd is = true) (kk : kY G M K X cells slots pc lv st ws') : kY G M K X cells slots pc lv st ws := fun ls H locs h hP hD hS => kk ls H locs h (hP.sub is (fm_of hs)) (hD.sub is hn hs) hS
end KCLEAR
theorem upd_kZ (i : Nat) : upd kZ i 0 = kZ := by
  funext j
  unfold upd kZ
  split <;> rfl
theorem s_fill0 (G : zG) (q n : Nat) (hn : n < 2 ^ 31) : kSpec G 0 M_JArrays_fill [.ref q, .int 0] [(q, .inl (zcA G .int, n, .inl kZ))] 0 0 (fun w => w = [(q, .inl (zcA G .int, n, .inl kZ))]) := by
  refine kSpec.of (by decide) (Nat.le_of_ble_eq_true rfl) rfl (fun X E => ?_)
  refine k_iconst (v := 0) E d_JArrays_fill_0 (by decide) ?_
  refine k_istore E [0, 1, 2] (lv' := [(2, .int 0), (0, .ref q), (1, .int 0)]) d_JArrays_fill_1 rfl (by decide) rfl ?_
  refine k_aload E 1 d_JArrays_fill_2 rfl rfl ?_
  refine k_alen (q0 := 0) (n := n) (f := kZ) (v := nI n) E rfl rfl d_JArrays_fill_3 ?_
  refine k_istore E [2, 3, 1, 0] (lv' := [(0, .ref q), (1, .int 0), (2, .int 0), (3, .int (nI n))]) d_JArrays_fill_4 rfl (by decide) rfl ?_
  refine z_for n (fun i (_ : Unit) => kY G M_JArrays_fill (kKm G 0 X [(q, .inl (zcA G .int, n, .inl kZ))] 0 0 (fun w => w = [(q, .inl (zcA G .int, n, .inl kZ))])) X 0 0 5 [(0, .ref q), (1, .int 0), (2, .int (nI i)), (3, .int (nI n))] [] [(q, .inl (zcA G .int, n, .inl kZ))]) (fun _ _ => True) ?_ ?_ 0 () (Nat.zero_le _) trivial
  · intro i _ hi _ ih
    refine k_iload E 2 d_JArrays_fill_5 rfl rfl ?_
    refine k_iload E 3 d_JArrays_fill_6 rfl rfl ?_
    refine k_icmp_ge (tgt := 20) E d_JArrays_fill_7 rfl ⟨fun h => absurd h (nI_ge hi hn), fun _ => ?_⟩
    refine k_aload E 0 d_JArrays_fill_10 rfl rfl ?_
    refine k_iload E 2 d_JArrays_fill_11 rfl rfl ?_
    refine k_iload E 1 d_JArrays_fill_12 rfl rfl ?_
    refine k_iast (q0 := 0) (n := n) (f := kZ) E rfl (vp_in_nI hi hn) d_JArrays_fill_13 ?_
    rw [upd_kZ]
    refine k_iinc E 2 [1, 2, 0, 3] (v := nI i + 1) (lv' := [(0, .ref q), (1, .int 0), (2, .int (nI i + 1)), (3, .int (nI n))]) d_JArrays_fill_14 rfl rfl (by decide) rfl ?_
    rw [nI_1]
    exact k_goto (tgt := 5) E d_JArrays_fill_17 rfl (ih () trivial)
  · intro _ _
    refine k_iload E 2 d_JArrays_fill_5 rfl rfl ?_
    refine k_iload E 3 d_JArrays_fill_6 rfl rfl ?_
    exact k_icmp_ge (tgt := 20) E d_JArrays_fill_7 rfl ⟨fun _ => k_ret E rfl d_JArrays_fill_20 rfl, fun h => absurd (nI_le (Nat.le_refl n) hn) h⟩
