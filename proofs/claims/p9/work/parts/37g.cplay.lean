-- The class's rounds, exactly
theorem upd_upd {f : Nat → Int32} {i : Nat} {x y : Int32} : upd (upd f i x) i y = upd f i y := by
  funext j
  unfold upd
  by_cases h : j = i
  · rw [if_pos h, if_pos h]
  · rw [if_neg h, if_neg h, if_neg h]
theorem upd_eq {f : Nat → Int32} {i : Nat} {x : Int32} : upd f i x i = x := by unfold upd; rw [if_pos rfl]
theorem upd_ne {f : Nat → Int32} {i j : Nat} {x : Int32} (h : j ≠ i) : upd f i x j = f j := by unfold upd; rw [if_neg h]
/-- what a round leaves: the value and the parent of a, and what is written -/
def CR (σ τ : zSt) (a : Nat) (w : Int32 × Int32 × Int32) (x : Int32) : Prop := zFr [16, 17] σ τ ∧ τ 16 = upd (σ 16) a w.1 ∧ τ 17 = upd (σ 17) a w.2.1 ∧ x = w.2.2
theorem CR0 {σ : zSt} {a : Nat} {w : Int32 × Int32 × Int32} {x : Int32} (hw : w = (σ 16 a, σ 17 a, x)) : CR σ σ a w x := by
  rw [hw]; exact ⟨zFr.rf, upd_same.symm, upd_same.symm, rfl⟩
theorem CR1 {σ τ : zSt} {a : Nat} {w : Int32 × Int32 × Int32} {x v : Int32} (e : τ = zup σ 16 a v) (hw : w = (v, σ 17 a, x)) : CR σ τ a w x := by
  rw [hw, e]
  exact ⟨zFr.rf.up (by decide), by rw [zup_self], by rw [zup_ne (by decide)]; exact upd_same.symm, rfl⟩
theorem CR2 {σ τ υ : zSt} {a : Nat} {w : Int32 × Int32 × Int32} {x v q : Int32} (e : τ = zup σ 16 a v) (e2 : υ = zup τ 17 a q) (hw : w = (v, q, x)) : CR σ υ a w x := by
  rw [hw, e2, e]
  exact ⟨(zFr.rf.up (by decide)).up (by decide), by rw [zup_ne (by decide), zup_self], by rw [zup_self, zup_ne (by decide)], rfl⟩
theorem s_Play_takeWave2 (G : zG) (σ : zSt) (a w : Nat) (ha : a < 12) (hw : w + 12 ≤ 288) : zI G 0 M_Play_takeWave [zf G 4, .int (nI a), .int (nI w)] σ (fun x τ => CR σ τ a (wAct (fun b => σ 18 (w + b)) (σ 16 a) (σ 17 a)) x) := by
  have ia : vp_in (nI a) 12 := vp_in_nI ha (by decide)
  have ca : (nI a).toNatClampNeg = a := nI_clamp (by omega)
  generalize hW : wAct (fun b => σ 18 (w + b)) (σ 16 a) (σ 17 a) = W
  refine zSpec.of (by decide) (Nat.le_of_ble_eq_true rfl) rfl (fun X E => ?_)
  refine b_Play_takeWave_0 E (nI a) (nI w) σ ?_
  refine z_for 12 (fun i (_ : Unit) => zZ G M_Play_takeWave 0 X (fun r τ => ∃ x : Int32, r = some (.int x) ∧ CR σ τ a W x) 2 [(0, zf G 4), (1, .int (nI a)), (2, .int (nI w)), (3, .int (nI i))] [] σ) (fun i _ => ∀ c, c < i → σ 18 (w + c) = -2) ?_ ?_ 0 () (Nat.zero_le _) (fun c hc => absurd hc (Nat.not_lt_zero c))
  · intro i _ hi hI ih
    have ii := ix288 hw hi
    have ci : (nI w + nI i).toNatClampNeg = w + i := by rw [nI_add]; exact nI_clamp (by omega)
    refine b_Play_takeWave_2 E (nI a) (nI w) (nI i) σ ⟨fun q => absurd q (nI_ge hi (by decide)), fun _ => ⟨ia, fun hv => ⟨_, rfl, CR0 ?_⟩, fun hv => ⟨ii, fun h18 => ?_, fun h18 => ⟨ii, ia, fun σ1 e1 => ⟨ia, fun σ2 e2 => ⟨ia, _, rfl, CR2 (τ := σ1) (v := σ 18 (w + i)) (q := nI i) (by rw [ca, ci] at e1; exact e1) (by rw [ca] at e2; exact e2) ?_⟩⟩⟩⟩⟩⟩
    · rw [ca] at hv
      rw [← hW]; exact wAct_0 (Or.inl hv)
    · rw [ci] at h18
      rw [nI_1]
      refine ih () (fun c hc => ?_)
      by_cases e : c = i
      · rw [e]; exact h18
      · exact hI c (by omega)
    · rw [ca] at hv e1 e2 ⊢
      rw [ci] at h18 e1
      have e16 : σ2 16 a = σ 18 (w + i) := by rw [e2, zup_ne (by decide), e1, zup_self, upd_eq]
      rw [e16, ← hW]
      unfold wAct
      rw [if_pos hv, fi_at (b := i) hi (by simp [h18]) (fun c hc => by simp [hI c hc])]
  · intro _ hI
    exact b_Play_takeWave_2 E (nI a) (nI w) (nI 12) σ ⟨fun _ => ⟨_, rfl, CR0 (by rw [← hW]; exact wAct_0 (Or.inr hI))⟩, fun q => absurd (by decide) q⟩
theorem s_Play_takeGreatest2 (G : zG) (σ : zSt) (a w : Nat) (ha : a < 12) (hw : w + 12 ≤ 288) : zI G 0 M_Play_takeGreatest [zf G 4, .int (nI a), .int (nI w)] σ (fun x τ => CR σ τ a (gAct (fun b => σ 18 (w + b)) (σ 16 a) (σ 17 a)) x) := by
  have ia : vp_in (nI a) 12 := vp_in_nI ha (by decide)
  have ca : (nI a).toNatClampNeg = a := nI_clamp (by omega)
  generalize hm : (fun b => σ 18 (w + b)) = m
  generalize hW : gAct m (σ 16 a) (σ 17 a) = W
  refine zSpec.of (by decide) (Nat.le_of_ble_eq_true rfl) rfl (fun X E => ?_)
  refine b_Play_takeGreatest_0 E (nI a) (nI w) σ ⟨ia, ?_⟩
  rw [ca]
  refine z_for 12 (fun i τ => zZ G M_Play_takeGreatest 0 X (fun r τ => ∃ x : Int32, r = some (.int x) ∧ CR σ τ a W x) 10 [(0, zf G 4), (1, .int (nI a)), (2, .int (nI w)), (3, .int (σ 16 a)), (4, .int (nI i))] [] τ) (fun i τ => zFr [16, 17] σ τ ∧ τ 16 = upd (σ 16) a (gScan m (σ 16 a) (σ 17 a) i).1 ∧ τ 17 = upd (σ 17) a (gScan m (σ 16 a) (σ 17 a) i).2) ?_ ?_ 0 σ (Nat.zero_le _) ⟨zFr.rf, upd_same.symm, upd_same.symm⟩
  · intro i τ hi ⟨hF, h16, h17⟩ ih
    have ii := ix288 hw hi
    have ci : (nI w + nI i).toNatClampNeg = w + i := by rw [nI_add]; exact nI_clamp (by omega)
    have v16 : τ 16 a = (gScan m (σ 16 a) (σ 17 a) i).1 := by rw [h16, upd_eq]
    have v18 : τ 18 (w + i) = m i := by rw [hF 18 (by decide), ← hm]
    have same : gScan m (σ 16 a) (σ 17 a) (i + 1) = gScan m (σ 16 a) (σ 17 a) i → zZ G M_Play_takeGreatest 0 X (fun r τ => ∃ x : Int32, r = some (.int x) ∧ CR σ τ a W x) 10 [(0, zf G 4), (1, .int (nI a)), (2, .int (nI w)), (3, .int (σ 16 a)), (4, .int (nI i + 1))] [] τ := fun e => by
      rw [nI_1]
      exact ih τ ⟨hF, by rw [e]; exact h16, by rw [e]; exact h17⟩
    refine b_Play_takeGreatest_10 E (nI a) (nI w) (σ 16 a) (nI i) τ ⟨fun q => absurd q (nI_ge hi (by decide)), fun _ => ⟨ii, fun h1 => same ?_, fun h1 => ⟨ii, ia, fun h2 => same ?_, fun h2 => ⟨ii, ia, fun σ1 e1 => ⟨ia, fun σ2 e2 => ?_⟩⟩⟩⟩⟩
    · rw [ci, v18] at h1
      show (if _ then _ else _) = _
      rw [if_neg (fun q => q.1 h1)]
    · rw [ca, ci, v18, v16] at h2
      show (if _ then _ else _) = _
      rw [if_neg (fun q => absurd q.2 (Int32.not_lt.mpr h2))]
    · rw [ca, ci, v18] at e1
      rw [ca] at e2
      rw [ci, v18] at h1
      rw [ca, ci, v18, v16] at h2
      have e : gScan m (σ 16 a) (σ 17 a) (i + 1) = (m i, nI i) := by
        show (if _ then _ else _) = _
        rw [if_pos ⟨h1, Int32.not_le.mp h2⟩]
      rw [nI_1]
      refine ih σ2 ⟨?_, ?_, ?_⟩
      · rw [e2, e1]; exact (hF.up (by decide)).up (by decide)
      · rw [e, e2, zup_ne (by decide), e1, zup_self, h16, upd_upd]
      · rw [e, e2, zup_self, e1, zup_ne (by decide), h17, upd_upd]
  · intro τ ⟨hF, h16, h17⟩
    have v16 : τ 16 a = (gScan m (σ 16 a) (σ 17 a) 12).1 := by rw [h16, upd_eq]
    refine b_Play_takeGreatest_10 E (nI a) (nI w) (σ 16 a) (nI 12) τ ⟨fun _ => ⟨ia, fun hne => ⟨ia, _, rfl, ?_⟩, fun he => ⟨_, rfl, ?_⟩⟩, fun q => absurd (by decide) q⟩
    · rw [ca, v16] at hne ⊢
      rw [← hW]
      refine ⟨hF, h16, h17, ?_⟩
      show _ = (if _ then _ else _)
      rw [if_neg hne]
    · rw [ca, v16] at he
      rw [← hW]
      refine ⟨hF, h16, h17, ?_⟩
      show _ = (if _ then _ else _)
      rw [if_pos he]
theorem s_Play_tryIn2 (G : zG) (σ : zSt) (a w : Nat) (ha : a < 12) (hw : w + 12 ≤ 288) : zI G 0 M_Play_tryIn [zf G 4, zf G 2, .int (nI a), .int (nI w)] σ (fun x τ => CR σ τ a (iAct (fun b => σ 18 (w + b)) (σ 6 a) a (σ 16 a) (σ 17 a)) x) := by
  have ia : vp_in (nI a) 12 := vp_in_nI ha (by decide)
  have ca : (nI a).toNatClampNeg = a := nI_clamp (by omega)
  generalize hm : (fun b => σ 18 (w + b)) = m
  generalize hW : iAct m (σ 6 a) a (σ 16 a) (σ 17 a) = W
  refine zSpec.of (by decide) (Nat.le_of_ble_eq_true rfl) rfl (fun X E => ?_)
  refine b_Play_tryIn_0 E (nI a) (nI w) σ ⟨ia, fun hv => ?_, fun hv => ⟨_, rfl, CR0 (by rw [ca] at hv; rw [← hW]; exact iAct_0 hv)⟩⟩
  rw [ca] at hv
  refine z_for 12 (fun i (_ : Unit) => zZ G M_Play_tryIn 0 X (fun r τ => ∃ x : Int32, r = some (.int x) ∧ CR σ τ a W x) 15 [(0, zf G 4), (1, zf G 2), (2, .int (nI a)), (3, .int (nI w)), (4, .int (nI i))] [] σ) (fun i _ => ∀ c, c < i → rv m (σ 6 a) a c = false) ?_ ?_ 0 () (Nat.zero_le _) (fun c hc => absurd hc (Nat.not_lt_zero c))
  · intro i _ hi hI ih
    have ii := ix288 hw hi
    have ci : (nI w + nI i).toNatClampNeg = w + i := by rw [nI_add]; exact nI_clamp (by omega)
    have v18 : σ 18 (w + i) = m i := by rw [← hm]
    have nx : rv m (σ 6 a) a i = false → zZ G M_Play_tryIn 0 X (fun r τ => ∃ x : Int32, r = some (.int x) ∧ CR σ τ a W x) 15 [(0, zf G 4), (1, zf G 2), (2, .int (nI a)), (3, .int (nI w)), (4, .int (nI i + 1))] [] σ := fun h => by
      rw [nI_1]
      refine ih () (fun c hc => ?_)
      by_cases e : c = i
      · rw [e]; exact h
      · exact hI c (by omega)
    have en : rv m (σ 6 a) a i = true → ∃ y : Int32, some (Value.int (-2 : Int32)) = some (Value.int y) ∧ CR σ σ a W y := fun h => ⟨_, rfl, CR0 (by
      rw [← hW]
      refine iAct_2 hv (fun q => ?_)
      rw [fi_none q i hi] at h
      exact absurd h (by decide))⟩
    refine b_Play_tryIn_15 E (nI a) (nI w) (nI i) σ ?_
    rw [ca, ci, v18, nI_leI (a := i) (b := a) (by omega) (by omega)]
    refine ⟨fun q => absurd q (nI_ge hi (by decide)), fun _ => ⟨ii, ia, fun h1 => ⟨fun h2 => nx (decide_eq_false (fun q => q.1 h2)), fun h2 => ⟨ia, fun h3 => en (decide_eq_true ⟨h2, Or.inl h3⟩), fun h3 => nx (decide_eq_false (fun q => q.2.elim h3 (fun q => h1 q.1)))⟩⟩, fun h1 => ⟨fun h4 => ⟨fun h2 => nx (decide_eq_false (fun q => q.1 h2)), fun h2 => ⟨ia, fun h3 => en (decide_eq_true ⟨h2, Or.inl h3⟩), fun h3 => nx (decide_eq_false (fun q => q.2.elim h3 (fun q => absurd q.2 (by omega))))⟩⟩, fun h4 => ⟨fun h2 => nx (decide_eq_false (fun q => q.1 h2)), fun h2 => ⟨ia, fun h3 => en (decide_eq_true ⟨h2, Or.inl h3⟩), fun h3 => en (decide_eq_true ⟨h2, Or.inr ⟨h1, by omega⟩⟩)⟩⟩⟩⟩⟩
  · intro _ hI
    refine b_Play_tryIn_15 E (nI a) (nI w) (nI 12) σ ⟨fun _ => ⟨ia, fun σ1 e1 => ⟨_, rfl, CR1 (v := 1) (by rw [ca] at e1; exact e1) ?_⟩⟩, fun q => absurd (by decide) q⟩
    rw [← hW]
    exact iAct_1 hv (fi_all hI)
theorem s_Play_tryOut2 (G : zG) (σ : zSt) (a w : Nat) (ha : a < 12) (hw : w + 12 ≤ 288) : zI G 0 M_Play_tryOut [zf G 4, zf G 2, .int (nI a), .int (nI w)] σ (fun x τ => CR σ τ a (oAct (fun b => σ 18 (w + b)) (σ 6 a) (σ 16 a) (σ 17 a)) x) := by
  have ia : vp_in (nI a) 12 := vp_in_nI ha (by decide)
  have ca : (nI a).toNatClampNeg = a := nI_clamp (by omega)
  generalize hm : (fun b => σ 18 (w + b)) = m
  generalize hW : oAct m (σ 6 a) (σ 16 a) (σ 17 a) = W
  refine zSpec.of (by decide) (Nat.le_of_ble_eq_true rfl) rfl (fun X E => ?_)
  refine b_Play_tryOut_0 E (nI a) (nI w) σ ⟨ia, fun hv => ?_, fun hv => ⟨_, rfl, CR0 (by rw [ca] at hv; rw [← hW]; exact oAct_0 hv)⟩⟩
  rw [ca] at hv
  refine z_for 12 (fun i (_ : Unit) => zZ G M_Play_tryOut 0 X (fun r τ => ∃ x : Int32, r = some (.int x) ∧ CR σ τ a W x) 15 [(0, zf G 4), (1, zf G 2), (2, .int (nI a)), (3, .int (nI w)), (4, .int (nI i))] [] σ) (fun i _ => ∀ c, c < i → ¬ m c = -1) ?_ ?_ 0 () (Nat.zero_le _) (fun c hc => absurd hc (Nat.not_lt_zero c))
  · intro i _ hi hI ih
    have ii := ix288 hw hi
    have ci : (nI w + nI i).toNatClampNeg = w + i := by rw [nI_add]; exact nI_clamp (by omega)
    have v18 : σ 18 (w + i) = m i := by rw [← hm]
    refine b_Play_tryOut_15 E (nI a) (nI w) (nI i) σ ?_
    rw [ca, ci, v18]
    refine ⟨fun q => absurd q (nI_ge hi (by decide)), fun _ => ⟨ii, fun h1 => ?_, fun h1 => ⟨ia, fun σ1 e1 => ⟨ia, fun σ2 e2 => ⟨_, rfl, CR2 (v := 2) (q := nI i) e1 e2 ?_⟩⟩⟩⟩⟩
    · rw [nI_1]
      refine ih () (fun c hc => ?_)
      by_cases e : c = i
      · rw [e]; exact h1
      · exact hI c (by omega)
    · rw [← hW]
      unfold oAct
      rw [if_pos hv, fi_at (b := i) hi (by simp [h1]) (fun c hc => by simp [hI c hc])]
  · intro _ hI
    refine b_Play_tryOut_15 E (nI a) (nI w) (nI 12) σ ⟨fun _ => ⟨ia, _, rfl, CR0 ?_⟩, fun q => absurd (by decide) q⟩
    rw [ca, ← hW]
    exact oAct_1 hv hI
theorem s_Play_takeLengths2 (G : zG) (σ : zSt) (a w : Nat) (ha : a < 12) (hw : w + 12 ≤ 288) : zI G 1 M_Play_takeLengths [zf G 4, zf G 2, .int (nI a), .int (nI w)] σ (fun x τ => CR σ τ a (lAct (fun b => σ 18 (w + b)) (fun b => σ 8 (a * 12 + b)) (σ 16 a) (σ 17 a)) x) := by
  have ia : vp_in (nI a) 12 := vp_in_nI ha (by decide)
  have ca : (nI a).toNatClampNeg = a := nI_clamp (by omega)
  generalize hm : (fun b => σ 18 (w + b)) = m
  generalize hl : (fun b => σ 8 (a * 12 + b)) = len
  generalize hW : lAct m len (σ 16 a) (σ 17 a) = W
  refine zSpec.of (by decide) (Nat.le_of_ble_eq_true rfl) rfl (fun X E => ?_)
  refine b_Play_takeLengths_0 E (nI a) (nI w) σ ⟨ia, ?_⟩
  rw [ca]
  refine z_for 12 (fun i τ => zZ G M_Play_takeLengths 1 X (fun r τ => ∃ x : Int32, r = some (.int x) ∧ CR σ τ a W x) 11 [(0, zf G 4), (1, zf G 2), (2, .int (nI a)), (3, .int (nI w)), (4, .int (σ 16 a)), (5, .int (nI i))] [] τ) (fun i τ => zFr [16, 17] σ τ ∧ τ 16 = upd (σ 16) a (lScan m len (σ 16 a) (σ 17 a) i).1 ∧ τ 17 = upd (σ 17) a (lScan m len (σ 16 a) (σ 17 a) i).2) ?_ ?_ 0 σ (Nat.zero_le _) ⟨zFr.rf, upd_same.symm, upd_same.symm⟩
  · intro i τ hi ⟨hF, h16, h17⟩ ih
    have ii := ix288 hw hi
    have ci : (nI w + nI i).toNatClampNeg = w + i := by rw [nI_add]; exact nI_clamp (by omega)
    have c8 : (nI a * 12 + nI i).toNatClampNeg = a * 12 + i := by rw [zi12]; exact nI_clamp (by omega)
    have v16 : τ 16 a = (lScan m len (σ 16 a) (σ 17 a) i).1 := by rw [h16, upd_eq]
    have v18 : τ 18 (w + i) = m i := by rw [hF 18 (by decide), ← hm]
    have v8 : τ 8 (a * 12 + i) = len i := by rw [hF 8 (by decide), ← hl]
    have same : lScan m len (σ 16 a) (σ 17 a) (i + 1) = lScan m len (σ 16 a) (σ 17 a) i → zZ G M_Play_takeLengths 1 X (fun r τ => ∃ x : Int32, r = some (.int x) ∧ CR σ τ a W x) 11 [(0, zf G 4), (1, zf G 2), (2, .int (nI a)), (3, .int (nI w)), (4, .int (σ 16 a)), (5, .int (nI i + 1))] [] τ := fun e => by
      rw [nI_1]
      exact ih τ ⟨hF, by rw [e]; exact h16, by rw [e]; exact h17⟩
    have tail : ∀ y : Int32, (y = 0 ↔ ¬ ((lScan m len (σ 16 a) (σ 17 a) i).1 = -2 ∨ m i + len i < (lScan m len (σ 16 a) (σ 17 a) i).1)) → zZ G M_Play_takeLengths 1 X (fun r τ => ∃ x : Int32, r = some (.int x) ∧ CR σ τ a W x) 70 [(0, zf G 4), (1, zf G 2), (2, .int (nI a)), (3, .int (nI w)), (4, .int (σ 16 a)), (5, .int (nI i)), (6, .int (m i + len i)), (7, .int y)] [] τ := by
      intro y hy
      refine b_Play_takeLengths_70 E (nI a) (nI w) (σ 16 a) (nI i) (m i + len i) y τ ⟨ii, fun h1 => same ?_, fun h1 => ⟨fun h2 => same ?_, fun h2 => ⟨ia, fun σ1 e1 => ⟨ia, fun σ2 e2 => ?_⟩⟩⟩⟩
      · rw [ci, v18] at h1
        show (if _ then _ else _) = _
        rw [if_neg (fun q => q.1 h1)]
      · show (if _ then _ else _) = _
        rw [if_neg (fun q => (hy.mp h2) q.2)]
      · rw [ca] at e1 e2
        rw [ci, v18] at h1
        have e : lScan m len (σ 16 a) (σ 17 a) (i + 1) = (m i + len i, nI i) := by
          show (if _ then _ else _) = _
          rw [if_pos ⟨h1, Decidable.byContradiction (fun q => h2 (hy.mpr q))⟩]
        rw [nI_1]
        refine ih σ2 ⟨?_, ?_, ?_⟩
        · rw [e2, e1]; exact (hF.up (by decide)).up (by decide)
        · rw [e, e2, zup_ne (by decide), e1, zup_self, h16, upd_upd]
        · rw [e, e2, zup_self, e1, zup_ne (by decide), h17, upd_upd]
    refine b_Play_takeLengths_11 E (nI a) (nI w) (σ 16 a) (nI i) τ ?_
    rw [ca, ci, c8, v16, v18, v8]
    refine ⟨fun q => absurd q (nI_ge hi (by decide)), fun _ => ⟨ii, ix144 ha hi, ia, fun h1 => tail _ ⟨fun q => absurd q (by decide), fun q => absurd (Or.inl h1) q⟩, fun h1 => ⟨ia, fun h2 => tail _ ⟨fun _ q => q.elim h1 (fun q => absurd q (Int32.not_lt.mpr h2)), fun _ => rfl⟩, fun h2 => tail _ ⟨fun q => absurd q (by decide), fun q => absurd (Or.inr (Int32.not_le.mp h2)) q⟩⟩⟩⟩
  · intro τ ⟨hF, h16, h17⟩
    have v16 : τ 16 a = (lScan m len (σ 16 a) (σ 17 a) 12).1 := by rw [h16, upd_eq]
    refine b_Play_takeLengths_11 E (nI a) (nI w) (σ 16 a) (nI 12) τ ⟨fun _ => ⟨ia, fun hne => ⟨ia, _, rfl, ?_⟩, fun he => ⟨_, rfl, ?_⟩⟩, fun q => absurd (by decide) q⟩
    · rw [ca, v16] at hne ⊢
      rw [← hW]
      refine ⟨hF, h16, h17, ?_⟩
      show _ = (if _ then _ else _)
      rw [if_neg hne]
    · rw [ca, v16] at he
      rw [← hW]
      refine ⟨hF, h16, h17, ?_⟩
      show _ = (if _ then _ else _)
      rw [if_pos he]
theorem s_Play_firstNote2 (G : zG) (σ : zSt) (a p : Nat) (ha : a < 12) (hp : σ 4 0 = nI p) (hp3 : p ≤ 3) : zI G 0 M_Play_firstNote [zf G 4, zf G 2, .int (nI a)] σ (fun x τ => τ = σ ∧ x = note1 p (decide (nI a = σ 4 1)) (σ 6 a)) := by
  refine zSpec.of (by decide) (Nat.le_of_ble_eq_true rfl) rfl (fun X E => ?_)
  have ia : vp_in (nI a) 12 := vp_in_nI ha (by decide)
  have ca : (nI a).toNatClampNeg = a := nI_clamp (by omega)
  refine b_Play_firstNote_0 E (nI a) σ ?_
  rw [hp, nI_toInt (by omega), ca]
  refine ⟨fun h => ⟨fun h2 => ⟨_, rfl, rfl, ?_⟩, fun h2 => ⟨_, rfl, rfl, ?_⟩⟩, fun h => ⟨fun h2 => ⟨_, rfl, rfl, ?_⟩, fun h2 => ⟨_, rfl, rfl, ?_⟩⟩, fun h => ⟨ia, _, rfl, rfl, ?_⟩⟩
  · unfold note1; rw [if_pos (by omega), decide_eq_false h2]; rfl
  · unfold note1; rw [if_pos (by omega), decide_eq_true h2]; rfl
  · unfold note1; rw [if_neg (by omega), if_pos (by omega), decide_eq_false h2]; rfl
  · unfold note1; rw [if_neg (by omega), if_pos (by omega), decide_eq_true h2]; rfl
  · unfold note1; rw [if_neg (by omega), if_neg (by omega)]
theorem s_Play_firstValue2 (G : zG) (σ : zSt) (a p : Nat) (ha : a < 12) (hp : σ 4 0 = nI p) (hp3 : p ≤ 3) : zI G 0 M_Play_firstValue [zf G 4, zf G 2, .int (nI a)] σ (fun x τ => τ = σ ∧ x = first0 p (decide (nI a = σ 4 1)) (σ 6 a)) := by
  refine zSpec.of (by decide) (Nat.le_of_ble_eq_true rfl) rfl (fun X E => ?_)
  have ia : vp_in (nI a) 12 := vp_in_nI ha (by decide)
  have ca : (nI a).toNatClampNeg = a := nI_clamp (by omega)
  refine b_Play_firstValue_0 E (nI a) σ ?_
  rw [hp, nI_toInt (by omega), ca]
  refine ⟨fun h => ⟨ia, _, rfl, rfl, ?_⟩, fun h => ⟨_, rfl, rfl, ?_⟩, fun h => ⟨fun h2 => ⟨_, rfl, rfl, ?_⟩, fun h2 => ⟨_, rfl, rfl, ?_⟩⟩⟩
  · unfold first0; rw [if_pos (by omega)]
  · unfold first0; rw [if_neg (by omega), if_pos (by omega)]
  · unfold first0; rw [if_neg (by omega), if_neg (by omega), decide_eq_false h2]; rfl
  · unfold first0; rw [if_neg (by omega), if_neg (by omega), decide_eq_true h2]; rfl
theorem s_Play_laterNote2 (G : zG) (σ : zSt) (a w r p : Nat) (ha : a < 12) (hw : w + 12 ≤ 288) (hr : ¬ r = 1) (hr2 : r ≤ 20) (hp : σ 4 0 = nI p) (hp3 : p ≤ 3) (me : Bool) : zI G 2 M_Play_laterNote [zf G 4, zf G 2, .int (nI a), .int (nI r), .int (nI w)] σ (fun x τ => CR σ τ a (pAct p r a me (σ 6 a) (fun b => σ 8 (a * 12 + b)) (fun b => σ 18 (w + b)) (σ 16 a) (σ 17 a)) x) := by
  refine zSpec.of (by decide) (Nat.le_of_ble_eq_true rfl) rfl (fun X E => ?_)
  have rm := rem2 r (by omega)
  refine b_Play_laterNote_0 E (nI a) (nI r) (nI w) σ ?_
  rw [hp, nI_toInt (by omega)]
  refine ⟨fun h => ⟨_, s_Play_takeWave2 G σ a w ha hw, fun x τ g => ⟨_, rfl, ?_⟩⟩, fun h => ⟨_, s_Play_takeGreatest2 G σ a w ha hw, fun x τ g => ⟨_, rfl, ?_⟩⟩, fun h => ⟨fun h2 => ⟨_, s_Play_tryOut2 G σ a w ha hw, fun x τ g => ⟨_, rfl, ?_⟩⟩, fun h2 => ⟨_, s_Play_tryIn2 G σ a w ha hw, fun x τ g => ⟨_, rfl, ?_⟩⟩⟩, fun h => ⟨_, s_Play_takeLengths2 G σ a w ha hw, fun x τ g => ⟨_, rfl, ?_⟩⟩⟩
  · rw [pAct_w hr (by omega)]; exact g
  · rw [pAct_g hr (by omega)]; exact g
  · rw [pAct_o hr (by omega) (fun q => h2 (rm.mpr q))]; exact g
  · rw [pAct_i hr (by omega) (rm.mp h2)]; exact g
  · rw [pAct_l hr (by omega)]; exact g
theorem pand1 : ∀ r, r < 22 → (nI r &&& 1) = nI (r % 2) := by decide +kernel
theorem row_ix {r a : Nat} (hr : r < 22) : (nI r &&& 1) * 144 + nI a * 12 = nI (r % 2 * 144 + a * 12) := by
  rw [pand1 r hr, show (144 : Int32) = nI 144 from rfl, show (12 : Int32) = nI 12 from rfl, pk_mul, pk_mul, nI_add]
theorem s_Play_keepNote2 (G : zG) (σ : zSt) (a b r : Nat) (v : Int32) (ha : a < 12) (hb : b < 12) (hr : r < 22) : zV G 1 M_Play_keepNote [zf G 4, .int (nI a), .int (nI b), .int (nI r), .int v] σ (fun τ => τ = zup σ 18 (r % 2 * 144 + b * 12 + a) v) := by
  refine zSpec.of (by decide) (Nat.le_of_ble_eq_true rfl) rfl (fun X E => ?_)
  refine b_Play_keepNote_0 E (nI a) (nI b) (nI r) v σ ?_
  rw [row_ix hr, nI_add]
  refine ⟨vp_in_nI (by omega) (by decide), fun σ1 e1 => ⟨rfl, ?_⟩⟩
  rw [e1, nI_clamp (by omega)]
/-- behind a round of a: value, parent, the notes of the row w taken -/
def DR (σ τ : zSt) (a w : Nat) (W : Int32 × Int32 × Int32) (x : Int32) : Prop := zFr [16, 17, 18] σ τ ∧ τ 16 = upd (σ 16) a W.1 ∧ τ 17 = upd (σ 17) a W.2.1 ∧ (∀ k, τ 18 k = if w ≤ k ∧ k < w + 12 then -2 else σ 18 k) ∧ x = W.2.2
theorem s_Play_doRound2 (G : zG) (σ : zSt) (a r p : Nat) (ha : a < 12) (hr1 : 1 ≤ r) (hr2 : r ≤ 20) (hp : σ 4 0 = nI p) (hp3 : p ≤ 3) : zI G 3 M_Play_doRound [zf G 4, zf G 2, .int (nI a), .int (nI r)] σ (fun x τ => DR σ τ a ((r - 1) % 2 * 144 + a * 12) (pAct p r a (decide (nI a = σ 4 1)) (σ 6 a) (fun b => σ 8 (a * 12 + b)) (fun b => σ 18 ((r - 1) % 2 * 144 + a * 12 + b)) (σ 16 a) (σ 17 a)) x) := by
  have hrow : (nI r - (1 : Int32) &&& 1) * 144 + nI a * 12 = nI ((r - 1) % 2 * 144 + a * 12) := by
    obtain ⟨k, rfl⟩ : ∃ k, r = k + 1 := ⟨r - 1, by omega⟩
    rw [nI_pred]
    exact row_ix (by omega)
  generalize hW : pAct p r a (decide (nI a = σ 4 1)) (σ 6 a) (fun b => σ 8 (a * 12 + b)) (fun b => σ 18 ((r - 1) % 2 * 144 + a * 12 + b)) (σ 16 a) (σ 17 a) = W
  have hw : (r - 1) % 2 * 144 + a * 12 + 12 ≤ 288 := by omega
  generalize hwe : (r - 1) % 2 * 144 + a * 12 = w at hrow hW hw ⊢
  refine zSpec.of (by decide) (Nat.le_of_ble_eq_true rfl) rfl (fun X E => ?_)
  have tail : ∀ (x : Int32) (υ : zSt), CR σ υ a W x → zZ G M_Play_doRound 3 X (fun r τ => ∃ x : Int32, r = some (.int x) ∧ DR σ τ a w W x) 37 [(0, zf G 4), (4, .int (nI w)), (5, .int x), (6, .int (0 : Int32))] [] υ := by
    intro x υ ⟨hF, h16, h17, hx⟩
    refine z_for 12 (fun i τ => zZ G M_Play_doRound 3 X (fun r τ => ∃ x : Int32, r = some (.int x) ∧ DR σ τ a w W x) 37 [(0, zf G 4), (4, .int (nI w)), (5, .int x), (6, .int (nI i))] [] τ) (fun i τ => zFr [16, 17, 18] σ τ ∧ τ 16 = upd (σ 16) a W.1 ∧ τ 17 = upd (σ 17) a W.2.1 ∧ (∀ k, τ 18 k = if w ≤ k ∧ k < w + i then -2 else σ 18 k)) ?_ ?_ 0 υ (Nat.zero_le _) ⟨hF.mono (by decide), h16, h17, fun k => by rw [if_neg (by omega), hF 18 (by decide)]⟩
    · intro i τ hi ⟨g1, g2, g3, g4⟩ ih
      have ci : (nI w + nI i).toNatClampNeg = w + i := by rw [nI_add]; exact nI_clamp (by omega)
      refine b_Play_doRound_37 E (nI w) x (nI i) τ ⟨fun q => absurd q (nI_ge hi (by decide)), fun _ => ⟨ix288 hw hi, fun σ1 e1 => ?_⟩⟩
      rw [ci] at e1
      rw [nI_1]
      refine ih σ1 ⟨by rw [e1]; exact g1.up (by decide), by rw [e1, zup_ne (by decide)]; exact g2, by rw [e1, zup_ne (by decide)]; exact g3, fun k => ?_⟩
      rw [e1, zup_self]
      by_cases hk : k = w + i
      · rw [hk, upd_eq, if_pos (by omega)]
      · rw [upd_ne hk, g4 k]
        by_cases h : w ≤ k ∧ k < w + i
        · rw [if_pos h, if_pos (by omega)]
        · rw [if_neg h, if_neg (by omega)]
    · intro τ ⟨g1, g2, g3, g4⟩
      exact b_Play_doRound_37 E (nI w) x (nI 12) τ ⟨fun _ => ⟨_, rfl, g1, g2, g3, g4, hx⟩, fun q => absurd (by decide) q⟩
  refine b_Play_doRound_0 E (nI a) (nI r) σ ?_
  rw [hrow]
  refine ⟨fun h => ⟨_, s_Play_laterNote2 G σ a w r p ha hw (fun q => h (by rw [q]; rfl)) hr2 hp hp3 (decide (nI a = σ 4 1)), fun x τ g => tail x τ (by rw [← hW]; exact g)⟩, fun h => ⟨_, s_Play_firstNote2 G σ a p ha hp hp3, fun x τ ⟨e, g⟩ => ?_⟩⟩
  rw [e]
  refine tail x σ (CR0 ?_)
  rw [← hW, pAct_1 ((nI_eq (a := r) (b := 1) (by omega) (by decide)).mp h), g]
theorem s_Play_reset2 (G : zG) (σ : zSt) (p : Nat) (s : Int32) (hp3 : p ≤ 3) : zV G 1 M_Play_reset [zf G 4, zf G 2, .int (nI p), .int s] σ (fun τ => zFr [4, 16, 17, 18] σ τ ∧ τ 4 0 = nI p ∧ τ 4 1 = s ∧ (∀ b, b < 12 → τ 16 b = first0 p (decide (nI b = s)) (σ 6 b)) ∧ (∀ b, b < 12 → τ 17 b = -2) ∧ ∀ k, k < 288 → τ 18 k = -2) := by
  refine zSpec.of (by decide) (Nat.le_of_ble_eq_true rfl) rfl (fun X E => ?_)
  refine b_Play_reset_0 E (nI p) s σ (fun σ1 e1 σ2 e2 => ?_)
  refine ⟨_, s_fill G 17 12 rfl (by decide) _ _, fun σ3 e3 => ⟨_, s_fill G 18 288 rfl (by decide) _ _, fun σ4 e4 => ?_⟩⟩
  have f4 : zFr [4, 16, 17, 18] σ σ4 := by rw [e4, e3, e2, e1]; exact (((zFr.rf.up (by decide)).up (by decide)).fill (by decide)).fill (by decide)
  have p4 : σ4 4 0 = nI p := by rw [e4, zfill_ne (by decide), e3, zfill_ne (by decide), e2, zup_self, upd_ne (by decide), e1, zup_self, upd_eq]
  have s4 : σ4 4 1 = s := by rw [e4, zfill_ne (by decide), e3, zfill_ne (by decide), e2, zup_self, upd_eq]
  have q4 : ∀ b, b < 12 → σ4 17 b = -2 := fun b hb => by rw [e4, zfill_ne (by decide), e3]; simp [zfill, hb]
  have n4 : ∀ k, k < 288 → σ4 18 k = -2 := fun k hk => by rw [e4]; simp [zfill, hk]
  refine z_for 12 (fun i τ => zZ G M_Play_reset 1 X (fun r τ => r = none ∧ zFr [4, 16, 17, 18] σ τ ∧ τ 4 0 = nI p ∧ τ 4 1 = s ∧ (∀ b, b < 12 → τ 16 b = first0 p (decide (nI b = s)) (σ 6 b)) ∧ (∀ b, b < 12 → τ 17 b = -2) ∧ ∀ k, k < 288 → τ 18 k = -2) 31 [(0, zf G 4), (1, zf G 2), (4, .int (nI i))] [] τ) (fun i τ => zFr [16] σ4 τ ∧ ∀ b, b < i → τ 16 b = first0 p (decide (nI b = s)) (σ 6 b)) ?_ ?_ 0 σ4 (Nat.zero_le _) ⟨zFr.rf, fun b hb => absurd hb (Nat.not_lt_zero b)⟩
  · intro i τ hi ⟨hF, hv⟩ ih
    refine b_Play_reset_31 E (nI i) τ ⟨fun q => absurd q (nI_ge hi (by decide)), fun _ => ⟨_, s_Play_firstValue2 G τ i p hi (by rw [hF 4 (by decide)]; exact p4) hp3, fun x σ5 ⟨e5, g5⟩ => ⟨vp_in_nI hi (by decide), fun σ6 e6 => ?_⟩⟩⟩
    rw [nI_clamp (by omega), e5] at e6
    rw [nI_1]
    refine ih σ6 ⟨by rw [e6]; exact hF.up (by decide), fun b hb => ?_⟩
    rw [e6, zup_self]
    by_cases e : b = i
    · rw [e, upd_eq, g5, hF 4 (by decide), s4, hF 6 (by decide), f4 6 (by decide)]
    · rw [upd_ne e]; exact hv b (by omega)
  · intro τ ⟨hF, hv⟩
    exact b_Play_reset_31 E (nI 12) τ ⟨fun _ => ⟨rfl, f4.tr (hF.mono (by decide)), by rw [hF 4 (by decide)]; exact p4, by rw [hF 4 (by decide)]; exact s4, hv, fun b hb => by rw [hF 17 (by decide)]; exact q4 b hb, fun k hk => by rw [hF 18 (by decide)]; exact n4 k hk⟩, fun q => absurd (by decide) q⟩
