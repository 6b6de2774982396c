-- The readers on both sides, as expressions of the cells
def tell (no off : Bool) (w c0 c1 c2 c3 c4 c5 c6 c7 : Int32) : Int32 := if no = true ∨ w.toInt < 0 ∨ 7 < w.toInt then -1 else if w.toInt = 7 then c7 else if off = true then -1 else if w.toInt = 0 then c0 else if w.toInt = 1 then c1 else if w.toInt = 2 then c2 else if w.toInt = 3 then c3 else if w.toInt = 4 then c4 else if w.toInt = 5 then c5 else c6
def lett (off : Bool) (len v w c0 c1 c2 c3 c4 : Int32) : Int32 := if off = true ∨ v < 0 ∨ len ≤ v ∨ w.toInt < 0 ∨ 4 < w.toInt then -1 else if w.toInt = 0 then c0 else if w.toInt = 1 then c1 else if w.toInt = 2 then c2 else if w.toInt = 3 then c3 else c4
def cntW (off : Bool) (w c0 c1 c2 c3 c4 c5 c6 c7 c8 c9 : Int32) : Int32 := if w.toInt = 0 then c0 else if w.toInt = 1 then c1 else if off = true ∨ w.toInt < 0 ∨ 9 < w.toInt then -1 else if w.toInt = 2 then c2 else if w.toInt = 3 then c3 else if w.toInt = 4 then c4 else if w.toInt = 5 then c5 else if w.toInt = 6 then c6 else if w.toInt = 7 then c7 else if w.toInt = 8 then c8 else c9
def pst (bad : Bool) (r rd c : Int32) : Int32 := if bad = true then -1 else if r ≤ rd then c else -3
def lstI (f : Nat → Int32) (k : Int32) : Nat → Int32
  | 0 => k
  | i + 1 => if f i < lstI f k i then f i else lstI f k i
def gstI (f : Nat → Int32) : Nat → Int32
  | 0 => 0
  | i + 1 => if gstI f i < f i then f i else gstI f i
def dR (P : Nat → Nat → Bool) (a : Nat) : Nat → Nat
  | 0 => 0
  | k + 1 => dR P a k + (if P k a = true then 0 else 1)
def dA (P : Nat → Nat → Bool) (rd : Nat → Nat) : Nat → Nat
  | 0 => 0
  | i + 1 => dA P rd i + dR P i (rd i + 1)
section TELL
variable {no off : Bool} {w c0 c1 c2 c3 c4 c5 c6 c7 : Int32}
theorem tell_bad (h : no = true ∨ w.toInt < 0 ∨ 7 < w.toInt) : tell no off w c0 c1 c2 c3 c4 c5 c6 c7 = -1 := if_pos h
theorem tell_7 (h : no = false) (hw : w.toInt = 7) : tell no off w c0 c1 c2 c3 c4 c5 c6 c7 = c7 := by unfold tell; rw [hw, h]; simp
theorem tell_off (h : no = false) (h0 : ¬ w.toInt < 0) (h7 : ¬ 7 < w.toInt) (hw : ¬ w.toInt = 7) (ho : off = true) : tell no off w c0 c1 c2 c3 c4 c5 c6 c7 = -1 := by
  unfold tell; rw [if_neg (fun q => by rcases q with q | q | q; · rw [h] at q; exact absurd q (by decide)
                                       · exact h0 q
                                       · exact h7 q), if_neg hw, if_pos ho]
theorem tell_0 (h : no = false) (ho : off = false) (hw : w.toInt = 0) : tell no off w c0 c1 c2 c3 c4 c5 c6 c7 = c0 := by unfold tell; rw [hw, h, ho]; simp
theorem tell_1 (h : no = false) (ho : off = false) (hw : w.toInt = 1) : tell no off w c0 c1 c2 c3 c4 c5 c6 c7 = c1 := by unfold tell; rw [hw, h, ho]; simp
theorem tell_2 (h : no = false) (ho : off = false) (hw : w.toInt = 2) : tell no off w c0 c1 c2 c3 c4 c5 c6 c7 = c2 := by unfold tell; rw [hw, h, ho]; simp
theorem tell_3 (h : no = false) (ho : off = false) (hw : w.toInt = 3) : tell no off w c0 c1 c2 c3 c4 c5 c6 c7 = c3 := by unfold tell; rw [hw, h, ho]; simp
theorem tell_4 (h : no = false) (ho : off = false) (hw : w.toInt = 4) : tell no off w c0 c1 c2 c3 c4 c5 c6 c7 = c4 := by unfold tell; rw [hw, h, ho]; simp
theorem tell_5 (h : no = false) (ho : off = false) (hw : w.toInt = 5) : tell no off w c0 c1 c2 c3 c4 c5 c6 c7 = c5 := by unfold tell; rw [hw, h, ho]; simp
theorem tell_6 (h : no = false) (ho : off = false) (hw : w.toInt = 6) : tell no off w c0 c1 c2 c3 c4 c5 c6 c7 = c6 := by unfold tell; rw [hw, h, ho]; simp
theorem tell_same {d0 d1 d2 d3 d4 d5 d6 : Int32} : tell no true w c0 c1 c2 c3 c4 c5 c6 c7 = tell no true w d0 d1 d2 d3 d4 d5 d6 c7 := by unfold tell; simp
end TELL
theorem i0 : (0 : Int32).toInt = 0 := by decide
theorem ilt0 {w : Int32} : w < 0 ↔ w.toInt < 0 := by rw [i32_lt, i0]
theorem s_P_told5 (G : zG) (σ : zSt) (n : Nat) (a w : Int32) (hn : σ 2 0 = nI n) (hle : n ≤ 12) : zI G 1 M_P_told [zf G 0, .int a, .int w] σ (fun x τ => τ = σ ∧ x = tell (!zHas σ a) (decide (σ 0 1 = 0)) w (σ 24 a.toNatClampNeg) (σ 16 a.toNatClampNeg) (σ 17 a.toNatClampNeg) (σ 26 a.toNatClampNeg) (if zSf σ a = true then 1 else 0) (σ 10 a.toNatClampNeg) (σ 9 a.toNatClampNeg) (zBc (σ 7 a.toNatClampNeg))) := by
  refine zSpec.of (by decide) (Nat.le_of_ble_eq_true rfl) rfl (fun X E => ?_)
  have z7 : (7 : Int32).toInt = 7 := by decide
  refine b_P_told_0 E a w σ ⟨fun q => ⟨_, rfl, rfl, (tell_bad (Or.inl (by rw [q]; rfl))).symm⟩, fun ha => ⟨fun q => ⟨_, rfl, rfl, (tell_bad (Or.inr (Or.inl (ilt0.mp q)))).symm⟩, fun h0 => ⟨fun h7 => ?_, fun q => ⟨_, rfl, rfl, (tell_bad (Or.inr (Or.inr (by have := i32_lt.mp (Int32.not_le.mp q); rw [z7] at this; exact this)))).symm⟩⟩⟩⟩
  obtain ⟨j, hj, ej⟩ := zHas_of ha hn hle
  have ij : vp_in a 12 := by rw [ej]; exact vp_in_nI (by omega) (by decide)
  have no : (!zHas σ a) = false := by rw [ha]; rfl
  have w0 : ¬ w.toInt < 0 := fun q => h0 (ilt0.mpr q)
  have w7 : w.toInt ≤ 7 := by have := i32_le.mp h7; rw [z7] at this; exact this
  refine ⟨fun hw => ?_, fun hw => ⟨ij, _, rfl, rfl, (tell_7 no (by rw [hw]; exact z7)).symm⟩⟩
  have w7' : ¬ w.toInt = 7 := fun q => hw (Int32.toInt_inj.mp (by rw [q, z7]))
  refine ⟨fun hs => ?_, fun hs => ⟨_, rfl, rfl, (tell_off no w0 (by omega) w7' (decide_eq_true hs)).symm⟩⟩
  have of : decide (σ 0 1 = 0) = false := decide_eq_false hs
  refine ⟨fun q => ⟨ij, _, rfl, rfl, (tell_0 no of q).symm⟩, fun q => ⟨ij, _, rfl, rfl, (tell_1 no of q).symm⟩, fun q => ⟨ij, _, rfl, rfl, (tell_2 no of q).symm⟩, fun q => ⟨ij, _, rfl, rfl, (tell_3 no of q).symm⟩, fun q => ⟨ij, fun z => ⟨_, rfl, rfl, ?_⟩, fun z => ⟨_, rfl, rfl, ?_⟩⟩, fun q => ⟨ij, _, rfl, rfl, (tell_5 no of q).symm⟩, fun q => ⟨ij, _, rfl, rfl, (tell_6 no of (by omega)).symm⟩⟩
  · rw [tell_4 no of q, z]; rfl
  · rw [tell_4 no of q, z]; rfl
theorem s_Mo_told5 (G : zG) (σ : zSt) (n : Nat) (a w : Int32) (hn : σ 32 0 = nI n) (hle : n ≤ 12) : zI G 1 M_Mo_told [zf G 32, .int a, .int w] σ (fun x τ => τ = σ ∧ x = tell (zNo σ a) (decide (σ 32 4 = 0)) w (σ 35 a.toNatClampNeg) (σ 47 a.toNatClampNeg) (σ 48 a.toNatClampNeg) (σ 36 a.toNatClampNeg) (if σ 37 a.toNatClampNeg = 0 then 0 else 1) (σ 41 a.toNatClampNeg) (σ 42 a.toNatClampNeg) (nI (selL (fun b => zLk σ a (nI b)) n).length)) := by
  refine zSpec.of (by decide) (Nat.le_of_ble_eq_true rfl) rfl (fun X E => ?_)
  have z7 : (7 : Int32).toInt = 7 := by decide
  have loop : zNo σ a = false → ¬ w.toInt < 0 → ¬ 7 < w.toInt → (¬ σ 32 4 = 0 ∨ w.toInt = 7) → zZ G M_Mo_told 1 X (fun r τ => ∃ x : Int32, r = some (.int x) ∧ τ = σ ∧ x = tell (zNo σ a) (decide (σ 32 4 = 0)) w (σ 35 a.toNatClampNeg) (σ 47 a.toNatClampNeg) (σ 48 a.toNatClampNeg) (σ 36 a.toNatClampNeg) (if σ 37 a.toNatClampNeg = 0 then 0 else 1) (σ 41 a.toNatClampNeg) (σ 42 a.toNatClampNeg) (nI (selL (fun b => zLk σ a (nI b)) n).length)) 38 [(0, zf G 32), (1, .int a), (2, .int w), (3, .int (0 : Int32)), (4, .int (0 : Int32))] [] σ := by
    intro no w0 w7 hs
    obtain ⟨j, hj, ej⟩ := zNo_of no hn hle
    have ij : vp_in a 12 := by rw [ej]; exact vp_in_nI (by omega) (by decide)
    have ij2 : vp_in a 24 := by rw [ej]; exact vp_in_nI (by omega) (by decide)
    refine z_for n (fun i τ => zZ G M_Mo_told 1 X (fun r τ => ∃ x : Int32, r = some (.int x) ∧ τ = σ ∧ x = tell (zNo σ a) (decide (σ 32 4 = 0)) w (σ 35 a.toNatClampNeg) (σ 47 a.toNatClampNeg) (σ 48 a.toNatClampNeg) (σ 36 a.toNatClampNeg) (if σ 37 a.toNatClampNeg = 0 then 0 else 1) (σ 41 a.toNatClampNeg) (σ 42 a.toNatClampNeg) (nI (selL (fun b => zLk σ a (nI b)) n).length)) 38 [(0, zf G 32), (1, .int a), (2, .int w), (3, .int (nI (selL (fun b => zLk σ a (nI b)) i).length)), (4, .int (nI i))] [] τ) (fun _ τ => τ = σ) ?_ ?_ 0 σ (Nat.zero_le _) rfl
    · intro i τ hi e ih
      rw [e]
      refine b_Mo_told_38 E a w _ (nI i) σ ⟨fun q => absurd q (by rw [hn]; exact nI_ge hi (by omega)), fun _ => ⟨by rw [ej, zi12']; exact vp_in_nI (by omega) (by decide), fun q => ?_, fun q => ?_⟩⟩
      · have e1 : (selL (fun b => zLk σ a (nI b)) (i + 1)).length = (selL (fun b => zLk σ a (nI b)) i).length := by
          show (selL (fun b => zLk σ a (nI b)) i ++ (if zLk σ a (nI i) = true then [i] else [])).length = _
          rw [if_neg (by rw [q]; decide), List.append_nil]
        have := ih σ rfl
        rw [e1] at this
        rw [Int32.add_zero, nI_1]; exact this
      · have e1 : (selL (fun b => zLk σ a (nI b)) (i + 1)).length = (selL (fun b => zLk σ a (nI b)) i).length + 1 := by
          show (selL (fun b => zLk σ a (nI b)) i ++ (if zLk σ a (nI i) = true then [i] else [])).length = _
          rw [if_pos q, List.length_append]; rfl
        have := ih σ rfl
        rw [e1] at this
        rw [nI_1, nI_1]; exact this
    · intro τ e
      rw [e]
      refine b_Mo_told_38 E a w _ (nI n) σ ⟨fun _ => ?_, fun q => absurd (by rw [hn]; exact nI_le (Nat.le_refl n) (by omega)) q⟩
      have off : ¬ w.toInt = 7 → decide (σ 32 4 = 0) = false := fun q => decide_eq_false (hs.elim id (fun z => absurd z q))
      refine ⟨fun q => ⟨ij, _, rfl, rfl, (tell_0 no (off (by omega)) q).symm⟩, fun q => ⟨ij2, _, rfl, rfl, (tell_1 no (off (by omega)) q).symm⟩, fun q => ⟨ij2, _, rfl, rfl, (tell_2 no (off (by omega)) q).symm⟩, fun q => ⟨ij, _, rfl, rfl, (tell_3 no (off (by omega)) q).symm⟩, fun q => ⟨ij, fun z => ⟨_, rfl, rfl, ?_⟩, fun z => ⟨_, rfl, rfl, ?_⟩⟩, fun q => ⟨ij, _, rfl, rfl, (tell_5 no (off (by omega)) q).symm⟩, fun q => ⟨ij, _, rfl, rfl, (tell_6 no (off (by omega)) q).symm⟩, fun q => ⟨_, rfl, rfl, (tell_7 no (by omega)).symm⟩⟩
      · rw [tell_4 no (off (by omega)) q, if_pos z]
      · rw [tell_4 no (off (by omega)) q, if_neg z]
  refine b_Mo_told_0 E a w σ ⟨fun q => ⟨_, rfl, rfl, (tell_bad (Or.inl q)).symm⟩, fun no => ⟨fun q => ⟨_, rfl, rfl, (tell_bad (Or.inr (Or.inl (ilt0.mp q)))).symm⟩, fun h0 => ⟨fun q => ⟨_, rfl, rfl, (tell_bad (Or.inr (Or.inr (by have := i32_lt.mp q; rw [z7] at this; exact this)))).symm⟩, fun h7 => ?_⟩⟩⟩
  have w0 : ¬ w.toInt < 0 := fun q => h0 (ilt0.mpr q)
  have w7 : ¬ 7 < w.toInt := fun q => h7 (i32_lt.mpr (by rw [z7]; exact q))
  refine ⟨fun hs => loop no w0 w7 (Or.inl hs), fun hs => ⟨fun q => loop no w0 w7 (Or.inr ?_), fun q => ⟨_, rfl, rfl, (tell_off no w0 w7 (fun e => q (i32_le.mpr (by rw [z7, e]; exact Int.le_refl _))) (decide_eq_true hs)).symm⟩⟩⟩
  have := i32_le.mp q
  rw [z7] at this
  omega
theorem s_Mo_noPlace5 (G : zG) (σ : zSt) (a r : Int32) : zB G 1 M_Mo_noPlace [zf G 32, .int a, .int r] σ (fun b τ => τ = σ ∧ b = decide (σ 32 4 = 0 ∨ zNo σ a = true ∨ r < 0 ∨ ¬ r ≤ σ 32 8)) := by
  refine zSpec.of (by decide) (Nat.le_of_ble_eq_true rfl) rfl (fun X E => ?_)
  refine b_Mo_noPlace_0 E a r σ ⟨fun q => ⟨true, rfl, rfl, (decide_eq_true (Or.inl q)).symm⟩, fun h4 => ⟨fun q => ⟨true, rfl, rfl, (decide_eq_true (Or.inr (Or.inl q))).symm⟩, fun hno => ⟨fun q => ⟨true, rfl, rfl, (decide_eq_true (Or.inr (Or.inr (Or.inl q)))).symm⟩, fun h0 => ⟨fun hle => ⟨false, rfl, rfl, (decide_eq_false ?_).symm⟩, fun q => ⟨true, rfl, rfl, (decide_eq_true (Or.inr (Or.inr (Or.inr q)))).symm⟩⟩⟩⟩⟩
  rintro (q | q | q | q)
  · exact h4 q
  · rw [hno] at q; exact absurd q (by decide)
  · exact h0 q
  · exact q hle
/-- whether there is such a node and such a round -/
def hasP (σ : zSt) (a r : Int32) : Bool := decide (¬ σ 0 1 = 0 ∧ zHas σ a = true ∧ ¬ r < 0 ∧ ¬ σ 1 5 < r)
def noM (σ : zSt) (a r : Int32) : Bool := decide (σ 32 4 = 0 ∨ zNo σ a = true ∨ r < 0 ∨ ¬ r ≤ σ 32 8)
theorem s_P_past5 (G : zG) (σ : zSt) (a r : Int32) (hb : hasP σ a r = true → ∃ i j, i < 12 ∧ j ≤ 20 ∧ a = nI i ∧ r = nI j) : zI G 2 M_P_past [zf G 0, .int a, .int r] σ (fun x τ => τ = σ ∧ x = pst (!hasP σ a r) r (σ 24 a.toNatClampNeg) (σ 30 (r * 12 + a).toNatClampNeg)) := by
  refine zSpec.of (by decide) (Nat.le_of_ble_eq_true rfl) rfl (fun X E => ?_)
  refine b_P_past_0 E a r σ ⟨_, s_P_hasRound G σ a r, ?_⟩
  rintro b τ ⟨e, eτ⟩
  have e : b = hasP σ a r := e
  rw [eτ]
  refine ⟨fun ht => ?_, fun hf => ⟨_, rfl, rfl, ?_⟩⟩
  · have ht := e.symm.trans ht
    obtain ⟨i, j, hi, hj, ea, er⟩ := hb ht
    refine ⟨by rw [ea]; exact vp_in_nI hi (by decide), fun q => ⟨by rw [ea, er, zi12]; exact vp_in_nI (by omega) (by decide), _, rfl, rfl, ?_⟩, fun q => ⟨_, rfl, rfl, ?_⟩⟩
    · unfold pst; rw [if_neg (by rw [ht]; decide), if_pos q]
    · unfold pst; rw [if_neg (by rw [ht]; decide), if_neg q]
  · unfold pst; rw [if_pos (by rw [← e, hf]; rfl)]
theorem s_Mo_past5 (G : zG) (σ : zSt) (a r : Int32) (hb : noM σ a r = false → ∃ i j, i < 12 ∧ j ≤ 20 ∧ a = nI i ∧ r = nI j) : zI G 2 M_Mo_past [zf G 32, .int a, .int r] σ (fun x τ => τ = σ ∧ x = pst (noM σ a r) r (σ 35 a.toNatClampNeg) (σ 49 (12 * r + a).toNatClampNeg)) := by
  refine zSpec.of (by decide) (Nat.le_of_ble_eq_true rfl) rfl (fun X E => ?_)
  refine b_Mo_past_0 E a r σ ⟨_, s_Mo_noPlace5 G σ a r, ?_⟩
  rintro b τ ⟨eτ, e⟩
  have e : b = noM σ a r := e
  rw [eτ]
  refine ⟨fun ht => ?_, fun hf => ⟨_, rfl, rfl, ?_⟩⟩
  · have ht := e.symm.trans ht
    obtain ⟨i, j, hi, hj, ea, er⟩ := hb ht
    refine ⟨by rw [ea]; exact vp_in_nI hi (by decide), fun q => ⟨by rw [ea, er, zi12']; exact vp_in_nI (by omega) (by decide), _, rfl, rfl, ?_⟩, fun q => ⟨_, rfl, rfl, ?_⟩⟩
    · unfold pst; rw [if_neg (by rw [ht]; decide), if_pos q]
    · unfold pst; rw [if_neg (by rw [ht]; decide), if_neg q]
  · unfold pst; rw [if_pos (by rw [← e, hf])]
theorem s_P_inStep5 (G : zG) (σ : zSt) (a r : Int32) (hb : hasP σ a r = true → ∃ i j, i < 12 ∧ j ≤ 20 ∧ a = nI i ∧ r = nI j) : zI G 2 M_P_inStep [zf G 0, .int a, .int r] σ (fun x τ => τ = σ ∧ x = pst (!hasP σ a r) 0 0 (σ 31 (r * 12 + a).toNatClampNeg)) := by
  refine zSpec.of (by decide) (Nat.le_of_ble_eq_true rfl) rfl (fun X E => ?_)
  refine b_P_inStep_0 E a r σ ⟨_, s_P_hasRound G σ a r, ?_⟩
  rintro b τ ⟨e, eτ⟩
  have e : b = hasP σ a r := e
  rw [eτ]
  refine ⟨fun hf => ⟨_, rfl, rfl, ?_⟩, fun ht => ?_⟩
  · unfold pst; rw [if_pos (by rw [← e, hf]; rfl)]
  · have ht := e.symm.trans ht
    obtain ⟨i, j, hi, hj, ea, er⟩ := hb ht
    refine ⟨by rw [ea, er, zi12]; exact vp_in_nI (by omega) (by decide), _, rfl, rfl, ?_⟩
    unfold pst; rw [if_neg (by rw [ht]; decide), if_pos (by decide)]
theorem s_Mo_inStep5 (G : zG) (σ : zSt) (a r : Int32) (hb : noM σ a r = false → ∃ i j, i < 12 ∧ j ≤ 20 ∧ a = nI i ∧ r = nI j) : zI G 2 M_Mo_inStep [zf G 32, .int a, .int r] σ (fun x τ => τ = σ ∧ x = pst (noM σ a r) 0 0 (σ 50 (12 * r + a).toNatClampNeg)) := by
  refine zSpec.of (by decide) (Nat.le_of_ble_eq_true rfl) rfl (fun X E => ?_)
  refine b_Mo_inStep_0 E a r σ ⟨_, s_Mo_noPlace5 G σ a r, ?_⟩
  rintro b τ ⟨eτ, e⟩
  have e : b = noM σ a r := e
  rw [eτ]
  refine ⟨fun ht => ?_, fun hf => ⟨_, rfl, rfl, ?_⟩⟩
  · have ht := e.symm.trans ht
    obtain ⟨i, j, hi, hj, ea, er⟩ := hb ht
    refine ⟨by rw [ea, er, zi12']; exact vp_in_nI (by omega) (by decide), _, rfl, rfl, ?_⟩
    unfold pst; rw [if_neg (by rw [ht]; decide), if_pos (by decide)]
  · unfold pst; rw [if_pos (by rw [← e, hf])]
section LETT
variable {off : Bool} {len v w c0 c1 c2 c3 c4 : Int32}
theorem lett_bad (h : off = true ∨ v < 0 ∨ len ≤ v ∨ w.toInt < 0 ∨ 4 < w.toInt) : lett off len v w c0 c1 c2 c3 c4 = -1 := if_pos h
theorem lett_0 (h : off = false) (h1 : ¬ v < 0) (h2 : ¬ len ≤ v) (hw : w.toInt = 0) : lett off len v w c0 c1 c2 c3 c4 = c0 := by unfold lett; rw [hw]; simp [h, h1, h2]
theorem lett_1 (h : off = false) (h1 : ¬ v < 0) (h2 : ¬ len ≤ v) (hw : w.toInt = 1) : lett off len v w c0 c1 c2 c3 c4 = c1 := by unfold lett; rw [hw]; simp [h, h1, h2]
theorem lett_2 (h : off = false) (h1 : ¬ v < 0) (h2 : ¬ len ≤ v) (hw : w.toInt = 2) : lett off len v w c0 c1 c2 c3 c4 = c2 := by unfold lett; rw [hw]; simp [h, h1, h2]
theorem lett_3 (h : off = false) (h1 : ¬ v < 0) (h2 : ¬ len ≤ v) (hw : w.toInt = 3) : lett off len v w c0 c1 c2 c3 c4 = c3 := by unfold lett; rw [hw]; simp [h, h1, h2]
theorem lett_4 (h : off = false) (h1 : ¬ v < 0) (h2 : ¬ len ≤ v) (hw : w.toInt = 4) : lett off len v w c0 c1 c2 c3 c4 = c4 := by unfold lett; rw [hw]; simp [h, h1, h2]
end LETT
theorem s_P_letter5 (G : zG) (σ : zSt) (v w : Int32) (hl : ¬ σ 0 1 = 0 → ∃ l, PV σ l) : zI G 1 M_P_letter [zf G 0, .int v, .int w] σ (fun x τ => τ = σ ∧ x = lett (decide (σ 0 1 = 0)) (σ 5 0) v w (σ 19 v.toNatClampNeg) (σ 20 v.toNatClampNeg) (σ 21 v.toNatClampNeg) (σ 22 v.toNatClampNeg) (σ 23 v.toNatClampNeg)) := by
  refine zSpec.of (by decide) (Nat.le_of_ble_eq_true rfl) rfl (fun X E => ?_)
  refine b_P_letter_0 E v w σ ⟨_, s_P_hasLetter G σ v, ?_⟩
  rintro b τ ⟨hb, eτ⟩
  rw [eτ]
  refine ⟨fun ht => ?_, fun hf => ⟨_, rfl, rfl, (lett_bad ?_).symm⟩⟩
  · rw [hb] at ht
    obtain ⟨h0, h1, h2⟩ := of_decide_eq_true ht
    obtain ⟨l, hP⟩ := hl h0
    obtain ⟨i, hi, ei⟩ := letter_of ht hP
    have ii : vp_in v 528 := by rw [ei]; exact vp_in_nI (by have := hP.2.1; omega) (by decide)
    have of : decide (σ 0 1 = 0) = false := decide_eq_false h0
    exact ⟨fun q => ⟨ii, _, rfl, rfl, (lett_0 of h1 h2 q).symm⟩, fun q => ⟨ii, _, rfl, rfl, (lett_1 of h1 h2 q).symm⟩, fun q => ⟨ii, _, rfl, rfl, (lett_2 of h1 h2 q).symm⟩, fun q => ⟨ii, _, rfl, rfl, (lett_3 of h1 h2 q).symm⟩, fun q => ⟨ii, _, rfl, rfl, (lett_4 of h1 h2 q).symm⟩, fun q => ⟨_, rfl, rfl, (lett_bad (Or.inr (Or.inr (Or.inr q)))).symm⟩⟩
  · have hf := of_decide_eq_false (hb.symm.trans hf)
    by_cases q1 : σ 0 1 = 0
    · exact Or.inl (decide_eq_true q1)
    · by_cases q2 : v < 0
      · exact Or.inr (Or.inl q2)
      · by_cases q3 : σ 5 0 ≤ v
        · exact Or.inr (Or.inr (Or.inl q3))
        · exact absurd ⟨q1, q2, q3⟩ hf
theorem s_Mo_letter5 (G : zG) (σ : zSt) (v w : Int32) (hl : ¬ σ 32 4 = 0 → ∃ l, ML σ l) : zI G 0 M_Mo_letter [zf G 32, .int v, .int w] σ (fun x τ => τ = σ ∧ x = lett (decide (σ 32 4 = 0)) (σ 32 27) v w (σ 51 (5 * v.toNatClampNeg)) (σ 51 (5 * v.toNatClampNeg + 1)) (σ 51 (5 * v.toNatClampNeg + 2)) (σ 51 (5 * v.toNatClampNeg + 3)) (σ 51 (5 * v.toNatClampNeg + 4))) := by
  refine zSpec.of (by decide) (Nat.le_of_ble_eq_true rfl) rfl (fun X E => ?_)
  have z4 : (4 : Int32).toInt = 4 := by decide
  refine b_Mo_letter_0 E v w σ ⟨fun q => ⟨_, rfl, rfl, (lett_bad (Or.inl (decide_eq_true q))).symm⟩, fun h4 => ⟨fun q => ⟨_, rfl, rfl, (lett_bad (Or.inr (Or.inl q))).symm⟩, fun h0 => ⟨fun q => ⟨_, rfl, rfl, (lett_bad (Or.inr (Or.inr (Or.inl q)))).symm⟩, fun hlt => ⟨fun q => ⟨_, rfl, rfl, (lett_bad (Or.inr (Or.inr (Or.inr (Or.inl (ilt0.mp q)))))).symm⟩, fun hw0 => ⟨fun hw4 => ?_, fun q => ⟨_, rfl, rfl, (lett_bad (Or.inr (Or.inr (Or.inr (Or.inr (by have := i32_lt.mp (Int32.not_le.mp q); rw [z4] at this; exact this)))))).symm⟩⟩⟩⟩⟩⟩
  obtain ⟨l, hL⟩ := hl h4
  have hl4 := hL.2.1
  have hlt' := hlt
  rw [hL.1] at hlt'
  have of : decide (σ 32 4 = 0) = false := decide_eq_false h4
  have w0 : ¬ w.toInt < 0 := fun q => hw0 (ilt0.mpr q)
  have w4 : w.toInt ≤ 4 := by have := i32_le.mp hw4; rw [z4] at this; exact this
  rcases pk_ix v (n := l.length) (by omega) with q | q | ⟨i, hi, ei⟩
  · exact absurd q h0
  · exact absurd q hlt'
  have ci : v.toNatClampNeg = i := by rw [ei]; exact nI_clamp (by omega)
  have ew : w = nI w.toInt.toNat := i32_of (by omega) (by omega)
  have ix : ((5 : Int32) * v) + w = nI (5 * i + w.toInt.toNat) := by
    rw [ei, show (5 : Int32) = nI 5 from rfl, pk_mul]
    conv => lhs; rw [ew]
    rw [nI_add]
  rw [ix, nI_clamp (by omega)]
  refine ⟨vp_in_nI (by omega) (by decide), _, rfl, rfl, ?_⟩
  rw [ci]
  have hc : w.toInt = 0 ∨ w.toInt = 1 ∨ w.toInt = 2 ∨ w.toInt = 3 ∨ w.toInt = 4 := by omega
  rcases hc with q | q | q | q | q
  · rw [lett_0 of h0 hlt q, q]; rfl
  · rw [lett_1 of h0 hlt q, q]; rfl
  · rw [lett_2 of h0 hlt q, q]; rfl
  · rw [lett_3 of h0 hlt q, q]; rfl
  · rw [lett_4 of h0 hlt q, q]; rfl
section CNTW
variable {off : Bool} {w c0 c1 c2 c3 c4 c5 c6 c7 c8 c9 : Int32}
theorem cntW_0 (hw : w.toInt = 0) : cntW off w c0 c1 c2 c3 c4 c5 c6 c7 c8 c9 = c0 := if_pos hw
theorem cntW_1 (hw : w.toInt = 1) : cntW off w c0 c1 c2 c3 c4 c5 c6 c7 c8 c9 = c1 := by unfold cntW; rw [hw]; simp
theorem cntW_bad (h0 : ¬ w.toInt = 0) (h1 : ¬ w.toInt = 1) (h : off = true ∨ w.toInt < 0 ∨ 9 < w.toInt) : cntW off w c0 c1 c2 c3 c4 c5 c6 c7 c8 c9 = -1 := by unfold cntW; rw [if_neg h0, if_neg h1, if_pos h]
theorem cntW_2 (h : off = false) (hw : w.toInt = 2) : cntW off w c0 c1 c2 c3 c4 c5 c6 c7 c8 c9 = c2 := by unfold cntW; rw [hw]; simp [h]
theorem cntW_3 (h : off = false) (hw : w.toInt = 3) : cntW off w c0 c1 c2 c3 c4 c5 c6 c7 c8 c9 = c3 := by unfold cntW; rw [hw]; simp [h]
theorem cntW_4 (h : off = false) (hw : w.toInt = 4) : cntW off w c0 c1 c2 c3 c4 c5 c6 c7 c8 c9 = c4 := by unfold cntW; rw [hw]; simp [h]
theorem cntW_5 (h : off = false) (hw : w.toInt = 5) : cntW off w c0 c1 c2 c3 c4 c5 c6 c7 c8 c9 = c5 := by unfold cntW; rw [hw]; simp [h]
theorem cntW_6 (h : off = false) (hw : w.toInt = 6) : cntW off w c0 c1 c2 c3 c4 c5 c6 c7 c8 c9 = c6 := by unfold cntW; rw [hw]; simp [h]
theorem cntW_7 (h : off = false) (hw : w.toInt = 7) : cntW off w c0 c1 c2 c3 c4 c5 c6 c7 c8 c9 = c7 := by unfold cntW; rw [hw]; simp [h]
theorem cntW_8 (h : off = false) (hw : w.toInt = 8) : cntW off w c0 c1 c2 c3 c4 c5 c6 c7 c8 c9 = c8 := by unfold cntW; rw [hw]; simp [h]
theorem cntW_9 (h : off = false) (hw : w.toInt = 9) : cntW off w c0 c1 c2 c3 c4 c5 c6 c7 c8 c9 = c9 := by unfold cntW; rw [hw]; simp [h]
theorem cntW_same {d2 d3 d4 d5 d6 d7 d8 d9 : Int32} : cntW true w c0 c1 c2 c3 c4 c5 c6 c7 c8 c9 = cntW true w c0 c1 d2 d3 d4 d5 d6 d7 d8 d9 := by unfold cntW; simp
end CNTW
theorem s_Course_leastRound5 (G : zG) (σ : zSt) (n : Nat) (hn : σ 2 0 = nI n) (hle : n ≤ 12) : zI G 1 M_Course_leastRound [zf G 1] σ (fun x τ => τ = σ ∧ x = lstI (σ 24) (σ 1 5) n) := by
  refine zSpec.of (by decide) (Nat.le_of_ble_eq_true rfl) rfl (fun X E => ?_)
  refine b_Course_leastRound_0 E σ ?_
  refine z_for n (fun i τ => zZ G M_Course_leastRound 1 X (fun r τ => ∃ x : Int32, r = some (.int x) ∧ τ = σ ∧ x = lstI (σ 24) (σ 1 5) n) 7 [(0, zf G 1), (1, .int (lstI (σ 24) (σ 1 5) i)), (2, .int (nI i))] [] τ) (fun _ τ => τ = σ) ?_ ?_ 0 σ (Nat.zero_le _) rfl
  · intro i τ hi e ih
    rw [e]
    refine b_Course_leastRound_7 E _ (nI i) σ ⟨fun q => absurd q (by rw [hn]; exact nI_ge hi (by omega)), fun _ => ⟨vp_in_nI (by omega) (by decide), ?_⟩⟩
    rw [nI_1, nI_clamp (by omega)]
    exact ih σ rfl
  · intro τ e
    rw [e]
    exact b_Course_leastRound_7 E _ (nI n) σ ⟨fun _ => ⟨_, rfl, rfl, rfl⟩, fun q => absurd (by rw [hn]; exact nI_le (Nat.le_refl n) (by omega)) q⟩
theorem s_Course_greatestRound5 (G : zG) (σ : zSt) (n : Nat) (hn : σ 2 0 = nI n) (hle : n ≤ 12) : zI G 1 M_Course_greatestRound [zf G 1] σ (fun x τ => τ = σ ∧ x = gstI (σ 24) n) := by
  refine zSpec.of (by decide) (Nat.le_of_ble_eq_true rfl) rfl (fun X E => ?_)
  refine b_Course_greatestRound_0 E σ ?_
  refine z_for n (fun i τ => zZ G M_Course_greatestRound 1 X (fun r τ => ∃ x : Int32, r = some (.int x) ∧ τ = σ ∧ x = gstI (σ 24) n) 4 [(0, zf G 1), (1, .int (gstI (σ 24) i)), (2, .int (nI i))] [] τ) (fun _ τ => τ = σ) ?_ ?_ 0 σ (Nat.zero_le _) rfl
  · intro i τ hi e ih
    rw [e]
    refine b_Course_greatestRound_4 E _ (nI i) σ ⟨fun q => absurd q (by rw [hn]; exact nI_ge hi (by omega)), fun _ => ⟨vp_in_nI (by omega) (by decide), ?_⟩⟩
    rw [nI_1, nI_clamp (by omega)]
    exact ih σ rfl
  · intro τ e
    rw [e]
    exact b_Course_greatestRound_4 E _ (nI n) σ ⟨fun _ => ⟨_, rfl, rfl, rfl⟩, fun q => absurd (by rw [hn]; exact nI_le (Nat.le_refl n) (by omega)) q⟩
theorem s_Course_isOver5 (G : zG) (σ : zSt) (n : Nat) (hn : σ 2 0 = nI n) (hle : n ≤ 12) : zB G 2 M_Course_isOver [zf G 1] σ (fun b τ => τ = σ ∧ b = decide (σ 5 0 = 0 ∧ lstI (σ 24) (σ 1 5) n = σ 1 5)) := by
  refine zSpec.of (by decide) (Nat.le_of_ble_eq_true rfl) rfl (fun X E => ?_)
  refine b_Course_isOver_0 E σ ⟨fun q => ⟨false, rfl, rfl, (decide_eq_false (fun z => q z.1)).symm⟩, fun h0 => ⟨_, s_Course_leastRound5 G σ n hn hle, fun x τ ⟨e, ex⟩ => ?_⟩⟩
  rw [e, ex]
  exact ⟨fun q => ⟨false, rfl, rfl, (decide_eq_false (fun z => q z.2)).symm⟩, fun q => ⟨true, rfl, rfl, (decide_eq_true ⟨h0, q⟩).symm⟩⟩
theorem s_P_count5 (G : zG) (σ : zSt) (n : Nat) (w : Int32) (hn : σ 2 0 = nI n) (hle : n ≤ 12) : zI G 3 M_P_count [zf G 0, .int w] σ (fun x τ => τ = σ ∧ x = cntW (decide (σ 0 1 = 0)) w (σ 2 0) (σ 2 1) (σ 5 0) (σ 1 6) (σ 1 7) (lstI (σ 24) (σ 1 5) n) (gstI (σ 24) n) (if σ 5 0 = 0 ∧ lstI (σ 24) (σ 1 5) n = σ 1 5 then 1 else 0) (σ 3 0) (σ 3 1)) := by
  refine zSpec.of (by decide) (Nat.le_of_ble_eq_true rfl) rfl (fun X E => ?_)
  have z1 : (1 : Int32).toInt = 1 := by decide
  refine b_P_count_0 E w σ ⟨fun h0 => ⟨fun h1 => ?_, fun h1 => ⟨_, rfl, rfl, (cntW_1 (by rw [h1]; exact z1)).symm⟩⟩, fun h0 => ⟨_, rfl, rfl, (cntW_0 (by rw [h0]; exact i0)).symm⟩⟩
  have w0 : ¬ w.toInt = 0 := fun q => h0 (Int32.toInt_inj.mp (by rw [q, i0]))
  have w1 : ¬ w.toInt = 1 := fun q => h1 (Int32.toInt_inj.mp (by rw [q, z1]))
  refine ⟨fun hs => ?_, fun hs => ⟨_, rfl, rfl, (cntW_bad w0 w1 (Or.inl (decide_eq_true hs))).symm⟩⟩
  have of : decide (σ 0 1 = 0) = false := decide_eq_false hs
  refine ⟨fun q => ⟨_, rfl, rfl, (cntW_2 of q).symm⟩, fun q => ⟨_, rfl, rfl, (cntW_3 of q).symm⟩, fun q => ⟨_, rfl, rfl, (cntW_4 of q).symm⟩, fun q => ⟨_, s_Course_leastRound5 G σ n hn hle, fun x τ ⟨e, ex⟩ => ⟨_, rfl, e, by rw [cntW_5 of q]; exact ex⟩⟩, fun q => ⟨_, s_Course_greatestRound5 G σ n hn hle, fun x τ ⟨e, ex⟩ => ⟨_, rfl, e, by rw [cntW_6 of q]; exact ex⟩⟩, fun q => ⟨_, s_Course_isOver5 G σ n hn hle, fun b τ ⟨e, eb⟩ => ⟨fun z => ⟨_, rfl, e, ?_⟩, fun z => ⟨_, rfl, e, ?_⟩⟩⟩, fun q => ⟨_, rfl, rfl, (cntW_8 of q).symm⟩, fun q => ⟨_, rfl, rfl, (cntW_9 of q).symm⟩, fun q => ⟨_, rfl, rfl, (cntW_bad w0 w1 (Or.inr (by omega))).symm⟩⟩
  · rw [cntW_7 of q, if_neg (of_decide_eq_false (eb.symm.trans z))]
  · rw [cntW_7 of q, if_pos (of_decide_eq_true (eb.symm.trans z))]
theorem s_Mo_count5 (G : zG) (σ : zSt) (n : Nat) (w : Int32) (hn : σ 32 0 = nI n) (hle : n ≤ 12) : zI G 0 M_Mo_count [zf G 32, .int w] σ (fun x τ => τ = σ ∧ x = cntW (decide (σ 32 4 = 0)) w (σ 32 0) (σ 32 1) (σ 32 27) (σ 32 29) (σ 32 30) (lstI (σ 35) 99 n) (gstI (σ 35) n) (if σ 32 27 = 0 ∧ lstI (σ 35) 99 n = σ 32 8 then 1 else 0) (σ 32 19) (σ 32 20)) := by
  refine zSpec.of (by decide) (Nat.le_of_ble_eq_true rfl) rfl (fun X E => ?_)
  have z1 : (1 : Int32).toInt = 1 := by decide
  have z9 : (9 : Int32).toInt = 9 := by decide
  have loop : ¬ w.toInt < 0 → ¬ 9 < w.toInt → (¬ σ 32 4 = 0 ∨ w.toInt ≤ 1) → zZ G M_Mo_count 0 X (fun r τ => ∃ x : Int32, r = some (.int x) ∧ τ = σ ∧ x = cntW (decide (σ 32 4 = 0)) w (σ 32 0) (σ 32 1) (σ 32 27) (σ 32 29) (σ 32 30) (lstI (σ 35) 99 n) (gstI (σ 35) n) (if σ 32 27 = 0 ∧ lstI (σ 35) 99 n = σ 32 8 then 1 else 0) (σ 32 19) (σ 32 20)) 32 [(0, zf G 32), (1, .int w), (2, .int (99 : Int32)), (3, .int (0 : Int32)), (4, .int (0 : Int32))] [] σ := by
    intro w0 w9 hs
    refine z_for n (fun i τ => zZ G M_Mo_count 0 X (fun r τ => ∃ x : Int32, r = some (.int x) ∧ τ = σ ∧ x = cntW (decide (σ 32 4 = 0)) w (σ 32 0) (σ 32 1) (σ 32 27) (σ 32 29) (σ 32 30) (lstI (σ 35) 99 n) (gstI (σ 35) n) (if σ 32 27 = 0 ∧ lstI (σ 35) 99 n = σ 32 8 then 1 else 0) (σ 32 19) (σ 32 20)) 32 [(0, zf G 32), (1, .int w), (2, .int (lstI (σ 35) 99 i)), (3, .int (gstI (σ 35) i)), (4, .int (nI i))] [] τ) (fun _ τ => τ = σ) ?_ ?_ 0 σ (Nat.zero_le _) rfl
    · intro i τ hi e ih
      rw [e]
      have ii : vp_in (nI i) 12 := vp_in_nI (by omega) (by decide)
      have ci : (nI i).toNatClampNeg = i := nI_clamp (by omega)
      have l1 : lstI (σ 35) 99 i ≤ σ 35 i → lstI (σ 35) 99 (i + 1) = lstI (σ 35) 99 i := fun q => if_neg (Int32.not_lt.mpr q)
      have l2 : ¬ lstI (σ 35) 99 i ≤ σ 35 i → lstI (σ 35) 99 (i + 1) = σ 35 i := fun q => if_pos (Int32.not_le.mp q)
      have m1 : σ 35 i ≤ gstI (σ 35) i → gstI (σ 35) (i + 1) = gstI (σ 35) i := fun q => if_neg (Int32.not_lt.mpr q)
      have m2 : ¬ σ 35 i ≤ gstI (σ 35) i → gstI (σ 35) (i + 1) = σ 35 i := fun q => if_pos (Int32.not_le.mp q)
      have nx := ih σ rfl
      refine b_Mo_count_32 E w _ _ (nI i) σ ⟨fun q => absurd q (by rw [hn]; exact nI_ge hi (by omega)), fun _ => ⟨ii, ?_⟩⟩
      rw [ci, nI_1]
      refine ⟨fun q1 => ⟨ii, fun q2 => ?_, fun q2 => ⟨ii, ?_⟩⟩, fun q1 => ⟨ii, ii, fun q2 => ?_, fun q2 => ⟨ii, ?_⟩⟩⟩
      · rw [l1 q1, m1 q2] at nx; exact nx
      · rw [l1 q1, m2 q2] at nx; exact nx
      · rw [l2 q1, m1 q2] at nx; exact nx
      · rw [l2 q1, m2 q2] at nx; exact nx
    · intro τ e
      rw [e]
      refine b_Mo_count_32 E w _ _ (nI n) σ ⟨fun _ => ?_, fun q => absurd (by rw [hn]; exact nI_le (Nat.le_refl n) (by omega)) q⟩
      have off : ¬ w.toInt ≤ 1 → decide (σ 32 4 = 0) = false := fun q => decide_eq_false (hs.elim id (fun z => absurd z q))
      refine ⟨fun q => ⟨_, rfl, rfl, (cntW_0 q).symm⟩, fun q => ⟨_, rfl, rfl, (cntW_1 q).symm⟩, fun q => ⟨_, rfl, rfl, (cntW_2 (off (by omega)) q).symm⟩, fun q => ⟨_, rfl, rfl, (cntW_3 (off (by omega)) q).symm⟩, fun q => ⟨_, rfl, rfl, (cntW_4 (off (by omega)) q).symm⟩, fun q => ⟨_, rfl, rfl, (cntW_5 (off (by omega)) q).symm⟩, fun q => ⟨_, rfl, rfl, (cntW_6 (off (by omega)) q).symm⟩, fun q => ⟨fun z => ⟨_, rfl, rfl, ?_⟩, fun z => ⟨fun z2 => ⟨_, rfl, rfl, ?_⟩, fun z2 => ⟨_, rfl, rfl, ?_⟩⟩⟩, fun q => ⟨_, rfl, rfl, (cntW_8 (off (by omega)) q).symm⟩, fun q => ⟨_, rfl, rfl, (cntW_9 (off (by omega)) (by omega)).symm⟩⟩
      · rw [cntW_7 (off (by omega)) q, if_neg (fun y => z y.2)]
      · rw [cntW_7 (off (by omega)) q, if_neg (fun y => z2 y.1)]
      · rw [cntW_7 (off (by omega)) q, if_pos ⟨z2, z⟩]
  refine b_Mo_count_0 E w σ ⟨fun q => ⟨_, rfl, rfl, ?_⟩, fun h0 => ⟨fun q => ⟨_, rfl, rfl, ?_⟩, fun h9 => ?_⟩⟩
  · have := ilt0.mp q
    exact (cntW_bad (by omega) (by omega) (Or.inr (Or.inl this))).symm
  · have := i32_lt.mp q
    rw [z9] at this
    exact (cntW_bad (by omega) (by omega) (Or.inr (Or.inr this))).symm
  have w0 : ¬ w.toInt < 0 := fun q => h0 (ilt0.mpr q)
  have w9 : ¬ 9 < w.toInt := fun q => h9 (i32_lt.mpr (by rw [z9]; exact q))
  refine ⟨fun q => loop w0 w9 (Or.inr (by have := i32_le.mp q; rw [z1] at this; exact this)), fun q => ⟨fun hs => loop w0 w9 (Or.inl hs), fun hs => ⟨_, rfl, rfl, ?_⟩⟩⟩
  have : ¬ w.toInt ≤ 1 := fun z => q (i32_le.mpr (by rw [z1]; exact z))
  exact (cntW_bad (by omega) (by omega) (Or.inl (decide_eq_true hs))).symm
theorem dR_s {P : Nat → Nat → Bool} {a k : Nat} : dR P a (k + 1) = dR P a k + (if P k a = true then 0 else 1) := rfl
theorem s_Course_countWrong5 (G : zG) (σ : zSt) (n : Nat) (rd : Nat → Nat) (hn : σ 2 0 = nI n) (hle : n ≤ 12) (hrd : ∀ a, a < n → σ 24 a = nI (rd a) ∧ rd a ≤ 20) : zI G 1 M_Course_countWrong [zf G 1] σ (fun x τ => τ = σ ∧ x = nI (dA (fun r a => decide (σ 30 (r * 12 + a) = σ 31 (r * 12 + a))) rd n)) := by
  generalize hP : (fun r a => decide (σ 30 (r * 12 + a) = σ 31 (r * 12 + a))) = P
  refine zSpec.of (by decide) (Nat.le_of_ble_eq_true rfl) rfl (fun X E => ?_)
  have eP : ∀ r a, P r a = decide (σ 30 (r * 12 + a) = σ 31 (r * 12 + a)) := fun r a => by rw [← hP]
  refine b_Course_countWrong_0 E σ ?_
  refine z_for n (fun i τ => zZ G M_Course_countWrong 1 X (fun r τ => ∃ x : Int32, r = some (.int x) ∧ τ = σ ∧ x = nI (dA P rd n)) 4 [(0, zf G 1), (1, .int (nI (dA P rd i))), (2, .int (nI i))] [] τ) (fun _ τ => τ = σ) ?_ ?_ 0 σ (Nat.zero_le _) rfl
  · intro a τ ha e ih
    rw [e]
    refine b_Course_countWrong_4 E _ (nI a) σ ⟨fun q => absurd q (by rw [hn]; exact nI_ge ha (by omega)), fun _ => ?_⟩
    obtain ⟨r1, r2⟩ := hrd a ha
    have ia : vp_in (nI a) 12 := vp_in_nI (by omega) (by decide)
    have ca : (nI a).toNatClampNeg = a := nI_clamp (by omega)
    refine z_for (rd a + 1) (fun i τ => zZ G M_Course_countWrong 1 X (fun r τ => ∃ x : Int32, r = some (.int x) ∧ τ = σ ∧ x = nI (dA P rd n)) 17 [(0, zf G 1), (1, .int (nI (dA P rd a + dR P a i))), (2, .int (nI a)), (3, .int (nI i))] [] τ) (fun _ τ => τ = σ) ?_ ?_ 0 σ (Nat.zero_le _) rfl
    · intro i τ hi e2 ih2
      rw [e2]
      have nx := ih2 σ rfl
      rw [dR_s] at nx
      have iz : vp_in (nI i * 12 + nI a) 252 := by rw [zi12]; exact vp_in_nI (by omega) (by decide)
      refine b_Course_countWrong_17 E _ (nI a) (nI i) σ ⟨ia, fun q => absurd q ?_, fun _ => ⟨iz, iz, ?_⟩⟩
      · rw [ca, r1]
        exact fun q => by
          have := i32_lt.mp q
          rw [nI_toInt (by omega), nI_toInt (by omega)] at this
          omega
      · rw [zi12, nI_clamp (by omega), nI_1, nI_1]
        refine ⟨fun q => ?_, fun q => ?_⟩
        · rw [if_neg (by rw [eP, decide_eq_false q]; decide), ← Nat.add_assoc] at nx
          exact nx
        · rw [if_pos (by rw [eP, decide_eq_true q]), Nat.add_zero] at nx
          rw [Int32.add_zero]; exact nx
    · intro τ e2
      rw [e2]
      refine b_Course_countWrong_17 E _ (nI a) (nI (rd a + 1)) σ ⟨ia, fun _ => ?_, fun q => absurd ?_ q⟩
      · rw [nI_1]; exact ih σ rfl
      · rw [ca, r1]; exact nI_lt (by omega) (by omega)
  · intro τ e
    rw [e]
    exact b_Course_countWrong_4 E _ (nI n) σ ⟨fun _ => ⟨_, rfl, rfl, rfl⟩, fun q => absurd (by rw [hn]; exact nI_le (Nat.le_refl n) (by omega)) q⟩
theorem s_P_differ5 (G : zG) (σ : zSt) (n : Nat) (rd : Nat → Nat) (hn : σ 2 0 = nI n) (hle : n ≤ 12) (hrd : ¬ σ 0 1 = 0 → ∀ a, a < n → σ 24 a = nI (rd a) ∧ rd a ≤ 20) : zI G 2 M_P_differ [zf G 0] σ (fun x τ => τ = σ ∧ x = if σ 0 1 = 0 then -1 else nI (dA (fun r a => decide (σ 30 (r * 12 + a) = σ 31 (r * 12 + a))) rd n)) := by
  refine zSpec.of (by decide) (Nat.le_of_ble_eq_true rfl) rfl (fun X E => ?_)
  refine b_P_differ_0 E σ ⟨fun hs => ⟨_, rfl, rfl, (if_pos hs).symm⟩, fun hs => ⟨_, s_Course_countWrong5 G σ n rd hn hle (hrd hs), fun x τ ⟨e, ex⟩ => ⟨_, rfl, e, ?_⟩⟩⟩
  rw [if_neg hs]; exact ex
theorem s_Mo_differ5 (G : zG) (σ : zSt) (n : Nat) (rd : Nat → Nat) (hn : σ 32 0 = nI n) (h1 : 1 ≤ n) (hle : n ≤ 12) (hrd : ¬ σ 32 4 = 0 → ∀ a, a < n → σ 35 a = nI (rd a) ∧ rd a ≤ 20) : zI G 0 M_Mo_differ [zf G 32] σ (fun x τ => τ = σ ∧ x = if σ 32 4 = 0 then -1 else nI (dA (fun r a => decide (σ 49 (12 * r + a) = σ 50 (12 * r + a))) rd n)) := by
  generalize hP : (fun r a => decide (σ 49 (12 * r + a) = σ 50 (12 * r + a))) = P
  have eP : ∀ r a, P r a = decide (σ 49 (12 * r + a) = σ 50 (12 * r + a)) := fun r a => by rw [← hP]
  by_cases hs : σ 32 4 = 0
  · rw [if_pos hs]
    refine zSpec.of (by decide) (Nat.le_of_ble_eq_true rfl) rfl (fun X E => ?_)
    refine b_Mo_differ_0 E σ ?_
    exact b_Mo_differ_4 E 0 0 σ ⟨fun _ => ⟨fun _ => ⟨_, rfl, rfl, rfl⟩, fun q => absurd hs q⟩, fun _ => ⟨fun _ => ⟨fun _ => ⟨_, rfl, rfl, rfl⟩, fun q => absurd hs q⟩, fun q => absurd hs q⟩⟩
  rw [if_neg hs]
  refine zSpec.of (by decide) (Nat.le_of_ble_eq_true rfl) rfl (fun X E => ?_)
  refine b_Mo_differ_0 E σ ?_
  have hrd := hrd hs
  refine z_for n (fun i τ => zZ G M_Mo_differ 0 X (fun r τ => ∃ x : Int32, r = some (.int x) ∧ τ = σ ∧ x = nI (dA P rd n)) 4 [(0, zf G 32), (1, .int (nI (dA P rd i))), (2, .int (nI i))] [] τ) (fun _ τ => τ = σ) ?_ ?_ 0 σ (Nat.zero_le _) rfl
  · intro a τ ha e ih
    rw [e]
    refine b_Mo_differ_4 E _ (nI a) σ ⟨fun q => absurd q (by rw [hn]; exact nI_ge ha (by omega)), fun _ => ⟨fun q => absurd q hs, fun _ => ?_⟩⟩
    obtain ⟨r1, r2⟩ := hrd a ha
    have ia : vp_in (nI a) 12 := vp_in_nI (by omega) (by decide)
    have ca : (nI a).toNatClampNeg = a := nI_clamp (by omega)
    refine z_for (rd a + 1) (fun i τ => zZ G M_Mo_differ 0 X (fun r τ => ∃ x : Int32, r = some (.int x) ∧ τ = σ ∧ x = nI (dA P rd n)) 21 [(0, zf G 32), (1, .int (nI (dA P rd a + dR P a i))), (2, .int (nI a)), (3, .int (nI i))] [] τ) (fun _ τ => τ = σ) ?_ ?_ 0 σ (Nat.zero_le _) rfl
    · intro i τ hi e2 ih2
      rw [e2]
      have nx := ih2 σ rfl
      rw [dR_s] at nx
      have iz : vp_in (((12 : Int32) * nI i) + nI a) 252 := by rw [zi12']; exact vp_in_nI (by omega) (by decide)
      refine b_Mo_differ_21 E _ (nI a) (nI i) σ ⟨ia, fun q => absurd q ?_, fun _ => ⟨iz, iz, ?_⟩⟩
      · rw [ca, r1]
        exact fun q => by
          have := i32_lt.mp q
          rw [nI_toInt (by omega), nI_toInt (by omega)] at this
          omega
      · rw [zi12', nI_clamp (by omega), nI_1, nI_1]
        refine ⟨fun q => ?_, fun q => ?_⟩
        · rw [if_neg (by rw [eP, decide_eq_false q]; decide), ← Nat.add_assoc] at nx
          exact nx
        · rw [if_pos (by rw [eP, decide_eq_true q]), Nat.add_zero] at nx
          rw [Int32.add_zero]; exact nx
    · intro τ e2
      rw [e2]
      refine b_Mo_differ_21 E _ (nI a) (nI (rd a + 1)) σ ⟨ia, fun _ => ?_, fun q => absurd ?_ q⟩
      · rw [nI_1]; exact ih σ rfl
      · rw [ca, r1]; exact nI_lt (by omega) (by omega)
  · intro τ e
    rw [e]
    exact b_Mo_differ_4 E _ (nI n) σ ⟨fun _ => ⟨fun q => absurd q hs, fun _ => ⟨_, rfl, rfl, rfl⟩⟩, fun q => absurd (by rw [hn]; exact nI_le (Nat.le_refl n) (by omega)) q⟩
