-- What a node does in a round, as both sides do it: pure
def fi (P : Nat → Bool) : Nat → Option Nat
  | 0 => none
  | i + 1 => match fi P i with
    | some b => some b
    | none => if P i = true then some i else none
theorem fi_none {P : Nat → Bool} : ∀ {i : Nat}, fi P i = none → ∀ c, c < i → P c = false := by
  intro i
  induction i with
  | zero => intro _ c hc; exact absurd hc (Nat.not_lt_zero c)
  | succ i ih =>
    intro h c hc
    unfold fi at h
    cases hf : fi P i with
    | some b => rw [hf] at h; exact absurd h (by simp)
    | none =>
      rw [hf] at h
      by_cases hp : P i = true
      · simp [hp] at h
      · by_cases hci : c = i
        · rw [hci]; exact Bool.eq_false_iff.mpr hp
        · exact ih hf c (by omega)
theorem fi_all {P : Nat → Bool} : ∀ {i : Nat}, (∀ c, c < i → P c = false) → fi P i = none := by
  intro i
  induction i with
  | zero => intro _; rfl
  | succ i ih =>
    intro h
    unfold fi
    rw [ih (fun c hc => h c (by omega))]
    simp [h i (by omega)]
theorem fi_at {P : Nat → Bool} {b : Nat} : ∀ {i : Nat}, b < i → P b = true → (∀ c, c < b → P c = false) → fi P i = some b := by
  intro i
  induction i with
  | zero => intro h; exact absurd h (Nat.not_lt_zero b)
  | succ i ih =>
    intro h hp hc
    unfold fi
    by_cases hbi : b = i
    · rw [fi_all (fun c h => hc c (by omega))]
      subst hbi
      simp [hp]
    · rw [ih (by omega) hp hc]
def gScan (m : Nat → Int32) (v q : Int32) : Nat → Int32 × Int32
  | 0 => (v, q)
  | i + 1 => if ¬ m i = -2 ∧ (gScan m v q i).1 < m i then (m i, nI i) else gScan m v q i
theorem gScan_no {m : Nat → Int32} {v q : Int32} : ∀ {i : Nat}, (∀ b, b < i → m b = -2 ∨ m b ≤ v) → gScan m v q i = (v, q) := by
  intro i
  induction i with
  | zero => intro _; rfl
  | succ i ih =>
    intro h
    unfold gScan
    rw [ih (fun b hb => h b (by omega)), if_neg]
    rintro ⟨h1, h2⟩
    rcases h i (by omega) with h3 | h3
    · exact h1 h3
    · exact absurd h2 (Int32.not_lt.mpr h3)
theorem gScan_lt {m : Nat → Int32} {v q x : Int32} (hv : v < x) : ∀ {i : Nat}, (∀ b, b < i → m b = -2 ∨ m b < x) → (gScan m v q i).1 < x := by
  intro i
  induction i with
  | zero => intro _; exact hv
  | succ i ih =>
    intro h
    unfold gScan
    split
    · rename_i h2
      rcases h i (by omega) with h3 | h3
      · exact absurd h3 h2.1
      · exact h3
    · exact ih (fun b hb => h b (by omega))
theorem gScan_yes {m : Nat → Int32} {v q : Int32} {b : Nat} (h0 : ¬ m b = -2) (hv : v < m b) (hl : ∀ c, c < b → m c = -2 ∨ m c < m b) : ∀ {i : Nat}, b < i → (∀ c, c < i → m c = -2 ∨ m c ≤ m b) → gScan m v q i = (m b, nI b) := by
  intro i
  induction i with
  | zero => intro h; exact absurd h (Nat.not_lt_zero b)
  | succ i ih =>
    intro hb h
    unfold gScan
    by_cases hbi : b = i
    · subst hbi
      rw [if_pos ⟨h0, gScan_lt hv hl⟩]
    · rw [ih (by omega) (fun c hc => h c (by omega)), if_neg]
      rintro ⟨h1, h2⟩
      rcases h i (by omega) with h3 | h3
      · exact h1 h3
      · exact absurd h2 (Int32.not_lt.mpr h3)
def lScan (m len : Nat → Int32) (v q : Int32) : Nat → Int32 × Int32
  | 0 => (v, q)
  | i + 1 => if ¬ m i = -2 ∧ ((lScan m len v q i).1 = -2 ∨ m i + len i < (lScan m len v q i).1) then (m i + len i, nI i) else lScan m len v q i
theorem lScan_no {m len : Nat → Int32} {v q : Int32} : ∀ {i : Nat}, (∀ b, b < i → m b = -2 ∨ (¬ v = -2 ∧ v ≤ m b + len b)) → lScan m len v q i = (v, q) := by
  intro i
  induction i with
  | zero => intro _; rfl
  | succ i ih =>
    intro h
    unfold lScan
    rw [ih (fun b hb => h b (by omega)), if_neg]
    rintro ⟨h1, h2⟩
    rcases h i (by omega) with h3 | ⟨h3, h4⟩
    · exact h1 h3
    · rcases h2 with h2 | h2
      · exact h3 h2
      · exact absurd h2 (Int32.not_lt.mpr h4)
theorem lScan_lt {m len : Nat → Int32} {v q x : Int32} (hv : v = -2 ∨ x < v) : ∀ {i : Nat}, (∀ b, b < i → m b = -2 ∨ x < m b + len b) → (lScan m len v q i).1 = -2 ∨ x < (lScan m len v q i).1 := by
  intro i
  induction i with
  | zero => intro _; exact hv
  | succ i ih =>
    intro h
    unfold lScan
    split
    · rename_i h2
      rcases h i (by omega) with h3 | h3
      · exact absurd h3 h2.1
      · exact Or.inr h3
    · exact ih (fun b hb => h b (by omega))
theorem lScan_yes {m len : Nat → Int32} {v q : Int32} {b : Nat} (h0 : ¬ m b = -2) (h2 : ¬ m b + len b = -2) (hv : v = -2 ∨ m b + len b < v) (hl : ∀ c, c < b → m c = -2 ∨ m b + len b < m c + len c) : ∀ {i : Nat}, b < i → (∀ c, c < i → m c = -2 ∨ m b + len b ≤ m c + len c) → lScan m len v q i = (m b + len b, nI b) := by
  intro i
  induction i with
  | zero => intro h; exact absurd h (Nat.not_lt_zero b)
  | succ i ih =>
    intro hb h
    unfold lScan
    by_cases hbi : b = i
    · subst hbi
      rw [if_pos ⟨h0, lScan_lt hv hl⟩]
    · rw [ih (by omega) (fun c hc => h c (by omega)), if_neg]
      rintro ⟨h1, h3⟩
      rcases h3 with h3 | h3
      · exact h2 h3
      · rcases h i (by omega) with h4 | h4
        · exact h1 h4
        · exact absurd h3 (Int32.not_lt.mpr h4)
/-- value, parent and what is written (-2: nothing), of WAVES, CHOICE in even and in odd rounds -/
def wAct (m : Nat → Int32) (v q : Int32) : Int32 × Int32 × Int32 :=
  if v = -2 then (match fi (fun b => decide (¬ m b = -2)) 12 with
    | some b => (m b, nI b, m b + 1)
    | none => (v, q, -2)) else (v, q, -2)
def rv (m : Nat → Int32) (mk : Int32) (a b : Nat) : Bool := decide (¬ m b = -2 ∧ (mk < m b ∨ (m b = mk ∧ a < b)))
def iAct (m : Nat → Int32) (mk : Int32) (a : Nat) (v q : Int32) : Int32 × Int32 × Int32 :=
  if v = 0 then (if fi (rv m mk a) 12 = none then (1, q, -1) else (v, q, -2)) else (v, q, -2)
def oAct (m : Nat → Int32) (mk v q : Int32) : Int32 × Int32 × Int32 :=
  if v = 0 then (match fi (fun b => decide (m b = -1)) 12 with
    | some b => (2, nI b, -2)
    | none => (v, q, mk)) else (v, q, -2)
def gAct (m : Nat → Int32) (v q : Int32) : Int32 × Int32 × Int32 := ((gScan m v q 12).1, (gScan m v q 12).2, if (gScan m v q 12).1 = v then -2 else (gScan m v q 12).1)
def lAct (m len : Nat → Int32) (v q : Int32) : Int32 × Int32 × Int32 := ((lScan m len v q 12).1, (lScan m len v q 12).2, if (lScan m len v q 12).1 = v then -2 else (lScan m len v q 12).1)
/-- what is written in round 1 -/
def note1 (p : Nat) (me : Bool) (mk : Int32) : Int32 := if p = 0 then (if me = true then 1 else -2) else if p = 3 then (if me = true then 0 else -2) else mk
/-- round r of node a in program p -/
def pAct (p r a : Nat) (me : Bool) (mk : Int32) (len m : Nat → Int32) (v q : Int32) : Int32 × Int32 × Int32 :=
  if r = 1 then (v, q, note1 p me mk)
  else if p = 0 then wAct m v q
  else if p = 1 then gAct m v q
  else if p = 2 then (if r % 2 = 0 then iAct m mk a v q else oAct m mk v q)
  else lAct m len v q
