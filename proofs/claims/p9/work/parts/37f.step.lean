-- The program in step: pure
def first0 (p : Nat) (me : Bool) (mk : Int32) : Int32 := if p = 1 then mk else if p = 2 then 0 else if me = true then 0 else -2
def sV (p : Nat) (src : Int32) (n : Nat) (mk : Nat → Int32) (len : Nat → Nat → Int32) (lk : Nat → Nat → Bool) : Nat → Nat → Int32 × Int32 × Int32
  | 0, a => (first0 p (decide (nI a = src)) (mk a), -2, -2)
  | r + 1, a => pAct p (r + 1) a (decide (nI a = src)) (mk a) (len a) (fun b => if b < n ∧ lk a b = true then (sV p src n mk len lk r b).2.2 else -2) (sV p src n mk len lk r a).1 (sV p src n mk len lk r a).2.1
theorem fi_congr {P Q : Nat → Bool} : ∀ {i : Nat}, (∀ c, c < i → P c = Q c) → fi P i = fi Q i := by
  intro i
  induction i with
  | zero => intro _; rfl
  | succ i ih =>
    intro h
    unfold fi
    rw [ih (fun c hc => h c (by omega)), h i (by omega)]
theorem gScan_congr {m m' : Nat → Int32} {v q : Int32} : ∀ {i : Nat}, (∀ c, c < i → m c = m' c) → gScan m v q i = gScan m' v q i := by
  intro i
  induction i with
  | zero => intro _; rfl
  | succ i ih =>
    intro h
    unfold gScan
    rw [ih (fun c hc => h c (by omega)), h i (by omega)]
theorem lScan_congr {m m' len len' : Nat → Int32} {v q : Int32} : ∀ {i : Nat}, (∀ c, c < i → m c = m' c) → (∀ c, c < i → len c = len' c) → lScan m len v q i = lScan m' len' v q i := by
  intro i
  induction i with
  | zero => intro _ _; rfl
  | succ i ih =>
    intro h h2
    unfold lScan
    rw [ih (fun c hc => h c (by omega)) (fun c hc => h2 c (by omega)), h i (by omega), h2 i (by omega)]
theorem fi_some {P : Nat → Bool} {b : Nat} : ∀ {i : Nat}, fi P i = some b → b < i ∧ P b = true := by
  intro i
  induction i with
  | zero => intro h; exact absurd h (by simp [fi])
  | succ i ih =>
    intro h
    unfold fi at h
    cases hf : fi P i with
    | some c =>
      rw [hf] at h
      have e : c = b := Option.some.inj h
      rw [e] at hf
      have := ih hf
      exact ⟨by omega, this.2⟩
    | none =>
      rw [hf] at h
      by_cases hp : P i = true
      · rw [if_pos hp] at h
        have e : i = b := Option.some.inj h
        rw [← e]; exact ⟨by omega, hp⟩
      · rw [if_neg hp] at h
        exact absurd h (by simp)
theorem pAct_congr {p r a : Nat} {me : Bool} {mk : Int32} {len len' m m' : Nat → Int32} {v q : Int32} (hm : ∀ b, b < 12 → m b = m' b) (hl : ∀ b, b < 12 → len b = len' b) : pAct p r a me mk len m v q = pAct p r a me mk len' m' v q := by
  have e1 : wAct m v q = wAct m' v q := by
    unfold wAct
    rw [fi_congr (Q := fun b => decide (¬ m' b = -2)) (fun c hc => by rw [hm c hc])]
    cases hf : fi (fun b => decide (¬ m' b = -2)) 12 with
    | none => rfl
    | some b =>
      dsimp only
      rw [hm b (fi_some hf).1]
  have e2 : gAct m v q = gAct m' v q := by unfold gAct; rw [gScan_congr hm]
  have e3 : iAct m mk a v q = iAct m' mk a v q := by
    unfold iAct
    rw [fi_congr (Q := rv m' mk a) (fun c hc => by unfold rv; rw [hm c hc])]
  have e4 : oAct m mk v q = oAct m' mk v q := by
    unfold oAct
    rw [fi_congr (Q := fun b => decide (m' b = -1)) (fun c hc => by rw [hm c hc])]
  have e5 : lAct m len v q = lAct m' len' v q := by unfold lAct; rw [lScan_congr hm hl]
  unfold pAct
  rw [e1, e2, e3, e4, e5]
theorem gScan_of {m : Nat → Int32} {v q : Int32} : ∀ {i : Nat}, (gScan m v q i).1 = v ∨ ∃ b, b < i ∧ ¬ m b = -2 ∧ (gScan m v q i).1 = m b := by
  intro i
  induction i with
  | zero => exact Or.inl rfl
  | succ i ih =>
    unfold gScan
    split
    · rename_i h; exact Or.inr ⟨i, by omega, h.1, rfl⟩
    · rcases ih with h | ⟨b, hb, h⟩
      · exact Or.inl h
      · exact Or.inr ⟨b, by omega, h⟩
theorem lScan_of {m len : Nat → Int32} {v q : Int32} : ∀ {i : Nat}, (lScan m len v q i).1 = v ∨ ∃ b, b < i ∧ ¬ m b = -2 ∧ (lScan m len v q i).1 = m b + len b := by
  intro i
  induction i with
  | zero => exact Or.inl rfl
  | succ i ih =>
    unfold lScan
    split
    · rename_i h; exact Or.inr ⟨i, by omega, h.1, rfl⟩
    · rcases ih with h | ⟨b, hb, h⟩
      · exact Or.inl h
      · exact Or.inr ⟨b, by omega, h⟩
/-- what may be written in round r -/
def WB (r : Nat) (w : Int32) : Prop := w = -2 ∨ (-1 ≤ w.toInt ∧ w.toInt ≤ 100 + 10 * (r : Int))
theorem pAct_bd {p r a : Nat} {me : Bool} {mk : Int32} {len m : Nat → Int32} {v q : Int32} (hr : 1 ≤ r) (hr2 : r ≤ 100) (hk : 0 ≤ mk.toInt ∧ mk.toInt ≤ 99) (hl : ∀ b, b < 12 → 0 ≤ (len b).toInt ∧ (len b).toInt ≤ 9) (hm : ∀ b, b < 12 → WB (r - 1) (m b)) : WB r (pAct p r a me mk len m v q).2.2 := by
  have z0 : (0 : Int32).toInt = 0 := by decide
  have z1 : (1 : Int32).toInt = 1 := by decide
  have zm1 : (-1 : Int32).toInt = -1 := by decide
  have hmk : WB r mk := Or.inr (by omega)
  have hnn : WB r (-2) := Or.inl rfl
  unfold pAct
  split
  · show WB r (note1 p me mk)
    unfold note1
    split
    · split
      · exact Or.inr (by rw [z1]; omega)
      · exact hnn
    · split
      · split
        · exact Or.inr (by rw [z0]; omega)
        · exact hnn
      · exact hmk
  · split
    · unfold wAct
      split
      · cases hf : fi (fun b => decide (¬ m b = -2)) 12 with
        | none => exact hnn
        | some b =>
          obtain ⟨hb, h2⟩ := fi_some hf
          have h2 := of_decide_eq_true h2
          show WB r (m b + 1)
          rcases hm b hb with h | h
          · exact absurd h h2
          · refine Or.inr ?_
            rw [i32_add (by omega) (by rw [z1]; decide), z1]
            omega
      · exact hnn
    · split
      · show WB r (if (gScan m v q 12).1 = v then -2 else (gScan m v q 12).1)
        split
        · exact hnn
        · rename_i hne
          rcases gScan_of (m := m) (v := v) (q := q) (i := 12) with h | ⟨b, hb, h1, h2⟩
          · exact absurd h hne
          · rw [h2]
            rcases hm b hb with h | h
            · exact absurd h h1
            · exact Or.inr (by omega)
      · split
        · split
          · unfold iAct
            split
            · split
              · exact Or.inr (by show -1 ≤ (-1 : Int32).toInt ∧ (-1 : Int32).toInt ≤ _; rw [zm1]; omega)
              · exact hnn
            · exact hnn
          · unfold oAct
            split
            · cases hf : fi (fun b => decide (m b = -1)) 12 with
              | none => exact hmk
              | some b => exact hnn
            · exact hnn
        · show WB r (if (lScan m len v q 12).1 = v then -2 else (lScan m len v q 12).1)
          split
          · exact hnn
          · rename_i hne
            rcases lScan_of (m := m) (len := len) (v := v) (q := q) (i := 12) with h | ⟨b, hb, h1, h2⟩
            · exact absurd h hne
            · rw [h2]
              rcases hm b hb with h | h
              · exact absurd h h1
              · have := hl b hb
                refine Or.inr ?_
                rw [i32_add (by omega) (by omega)]
                omega
section SV
variable {p n : Nat} {src : Int32} {mk : Nat → Int32} {len : Nat → Nat → Int32} {lk : Nat → Nat → Bool}
theorem sV_bd (hk : ∀ a, a < 12 → 0 ≤ (mk a).toInt ∧ (mk a).toInt ≤ 99) (hl : ∀ a b, a < 12 → b < 12 → 0 ≤ (len a b).toInt ∧ (len a b).toInt ≤ 9) : ∀ r a, r ≤ 100 → a < 12 → WB r (sV p src n mk len lk r a).2.2 := by
  intro r
  induction r with
  | zero => intro a _ _; exact Or.inl rfl
  | succ r ih =>
    intro a hr ha
    unfold sV
    refine pAct_bd (by omega) hr (hk a ha) (fun b hb => hl a b ha hb) (fun b hb => ?_)
    by_cases h : b < n ∧ lk a b = true
    · rw [if_pos h]; exact ih b (by omega) hb
    · rw [if_neg h]; exact Or.inl rfl
/-- WAVES: every note of round r is r -/
theorem sV_wave (hp : p = 0) : ∀ r a, (sV p src n mk len lk r a).2.2 = -2 ∨ (sV p src n mk len lk r a).2.2 = nI r := by
  intro r
  induction r with
  | zero => intro a; exact Or.inl rfl
  | succ r ih =>
    intro a
    unfold sV pAct
    split
    · rename_i h1
      have : r = 0 := by omega
      subst this
      show note1 p _ _ = -2 ∨ note1 p _ _ = nI 1
      unfold note1
      rw [if_pos hp]
      split
      · exact Or.inr rfl
      · exact Or.inl rfl
    · unfold wAct
      split
      · split
        · rename_i b hf
          obtain ⟨hb, h2⟩ := fi_some hf
          have h2 := of_decide_eq_true h2
          dsimp only at h2
          by_cases h : b < n ∧ lk a b = true
          · rw [if_pos h] at h2
            refine Or.inr ?_
            show (if b < n ∧ lk a b = true then (sV p src n mk len lk r b).2.2 else -2) + 1 = nI (r + 1)
            rw [if_pos h]
            rcases ih b with h3 | h3
            · exact absurd h3 h2
            · rw [h3]; exact nI_1 r
          · rw [if_neg h] at h2; exact absurd rfl h2
        · exact Or.inl rfl
      · exact Or.inl rfl
end SV
