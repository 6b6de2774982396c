-- The chosen links: pure
section CHO
variable (n : Nat) (lk : Nat → Nat → Bool) (L : Nat → Nat)
/-- c, d is a link before a, b between the same two clusters -/
def eqP (a b c d : Nat) : Bool := lk c d && decide (c < d ∧ (c < a ∨ (c = a ∧ d < b)) ∧ ((L c = L a ∧ L d = L b) ∨ (L c = L b ∧ L d = L a)))
def chE (a b : Nat) : Bool := (fi (fun c => (fi (fun d => eqP lk L a b c d) n).isSome) n).isSome
def ch1 (a b : Nat) : Bool := lk a b && (decide (¬ L a = L b) && !(chE n lk L a b))
def chB (a b : Nat) : Bool := if a < b then ch1 n lk L a b else if b < a then ch1 n lk L b a else false
/-- how many of a row before b, of all rows before a -/
def cR (a : Nat) : Nat → Nat
  | 0 => 0
  | b + 1 => cR a b + (if a < b ∧ ch1 n lk L a b = true then 1 else 0)
def cA : Nat → Nat
  | 0 => 0
  | a + 1 => cA a + cR n lk L a n
end CHO
section CHO2
variable {n : Nat} {lk : Nat → Nat → Bool} {L : Nat → Nat}
theorem chE_iff {a b : Nat} : chE n lk L a b = true ↔ ∃ c d, c < n ∧ d < n ∧ eqP lk L a b c d = true := by
  unfold chE
  rw [fi_ex]
  constructor
  · rintro ⟨c, hc, h⟩
    obtain ⟨d, hd, h2⟩ := fi_ex.mp h
    exact ⟨c, d, hc, hd, h2⟩
  · rintro ⟨c, d, hc, hd, h⟩
    exact ⟨c, hc, fi_ex.mpr ⟨d, hd, h⟩⟩
theorem eqP_iff {a b c d : Nat} : eqP lk L a b c d = true ↔ lk c d = true ∧ c < d ∧ (c < a ∨ (c = a ∧ d < b)) ∧ ((L c = L a ∧ L d = L b) ∨ (L c = L b ∧ L d = L a)) := by
  unfold eqP
  rw [Bool.and_eq_true, decide_eq_true_eq]
theorem ch1_iff {a b : Nat} : ch1 n lk L a b = true ↔ lk a b = true ∧ ¬ L a = L b ∧ chE n lk L a b = false := by
  unfold ch1
  rw [Bool.and_eq_true, Bool.and_eq_true, decide_eq_true_eq, Bool.not_eq_true']
theorem cR_0 {a : Nat} : ∀ b, b ≤ a + 1 → cR n lk L a b = 0 := by
  intro b
  induction b with
  | zero => intro _; rfl
  | succ b ih =>
    intro h
    unfold cR
    rw [ih (by omega), if_neg (fun q => by omega)]
theorem cR_le {a : Nat} (b : Nat) : cR n lk L a b ≤ b := by
  induction b with
  | zero => exact Nat.le_refl _
  | succ b ih => unfold cR; split <;> omega
theorem cA_le (a : Nat) : cA n lk L a ≤ a * n := by
  induction a with
  | zero => simp [cA]
  | succ a ih =>
    have := cR_le (n := n) (lk := lk) (L := L) (a := a) n
    unfold cA
    rw [Nat.succ_mul]
    omega
/-- a link between x's and y's clusters before a, b -/
def jnd (n : Nat) (lk : Nat → Nat → Bool) (L : Nat → Nat) (a b x y : Nat) : Prop := ∃ c d, c < n ∧ d < n ∧ lk c d = true ∧ c < d ∧ (c < a ∨ (c = a ∧ d < b)) ∧ ¬ L c = L d ∧ ((L c = x ∧ L d = y) ∨ (L c = y ∧ L d = x))
theorem jnd_E {a b : Nat} (h : ¬ L a = L b) : jnd n lk L a b (L a) (L b) ↔ chE n lk L a b = true := by
  rw [chE_iff]
  constructor
  · rintro ⟨c, d, hc, hd, h1, h2, h3, _, h5⟩
    exact ⟨c, d, hc, hd, eqP_iff.mpr ⟨h1, h2, h3, h5⟩⟩
  · rintro ⟨c, d, hc, hd, q⟩
    obtain ⟨h1, h2, h3, h5⟩ := eqP_iff.mp q
    refine ⟨c, d, hc, hd, h1, h2, h3, fun e => h ?_, h5⟩
    rcases h5 with ⟨p1, p2⟩ | ⟨p1, p2⟩
    · rw [← p1, ← p2, e]
    · rw [← p1, ← p2, e]
/-- one pair further -/
theorem jnd_s {a b x y : Nat} (ha : a < n) (hb : b < n) (hab : a < b) : jnd n lk L a (b + 1) x y ↔ jnd n lk L a b x y ∨ (lk a b = true ∧ ¬ L a = L b ∧ ((L a = x ∧ L b = y) ∨ (L a = y ∧ L b = x))) := by
  constructor
  · rintro ⟨c, d, hc, hd, h1, h2, h3, h4, h5⟩
    by_cases e : c = a ∧ d = b
    · obtain ⟨e1, e2⟩ := e
      rw [e1, e2] at h1 h4 h5
      exact Or.inr ⟨h1, h4, h5⟩
    · exact Or.inl ⟨c, d, hc, hd, h1, h2, by omega, h4, h5⟩
  · rintro (⟨c, d, hc, hd, h1, h2, h3, h4, h5⟩ | ⟨h1, h4, h5⟩)
    · exact ⟨c, d, hc, hd, h1, h2, by omega, h4, h5⟩
    · exact ⟨a, b, ha, hb, h1, hab, by omega, h4, h5⟩
theorem jnd_r {a x y : Nat} : jnd n lk L a n x y ↔ jnd n lk L (a + 1) (a + 2) x y := by
  constructor
  · rintro ⟨c, d, hc, hd, h1, h2, h3, h4, h5⟩
    exact ⟨c, d, hc, hd, h1, h2, by omega, h4, h5⟩
  · rintro ⟨c, d, hc, hd, h1, h2, h3, h4, h5⟩
    exact ⟨c, d, hc, hd, h1, h2, by omega, h4, h5⟩
theorem jnd_0 {x y : Nat} : ¬ jnd n lk L 0 1 x y := by
  rintro ⟨c, d, hc, hd, h1, h2, h3, h4, h5⟩
  omega
/-- chosen, and looked at before a, b -/
def chP (n : Nat) (lk : Nat → Nat → Bool) (L : Nat → Nat) (a b x y : Nat) : Prop := chB n lk L x y = true ∧ ((x < y ∧ (x < a ∨ (x = a ∧ y < b))) ∨ (y < x ∧ (y < a ∨ (y = a ∧ x < b))))
theorem chP_s {a b x y : Nat} (hab : a < b) : chP n lk L a (b + 1) x y ↔ chP n lk L a b x y ∨ (ch1 n lk L a b = true ∧ ((x = a ∧ y = b) ∨ (x = b ∧ y = a))) := by
  unfold chP
  constructor
  · rintro ⟨h, h2⟩
    by_cases e1 : x = a ∧ y = b
    · refine Or.inr ⟨?_, Or.inl e1⟩
      unfold chB at h
      rw [e1.1, e1.2, if_pos hab] at h
      exact h
    · by_cases e2 : x = b ∧ y = a
      · refine Or.inr ⟨?_, Or.inr e2⟩
        unfold chB at h
        rw [e2.1, e2.2, if_neg (by omega), if_pos hab] at h
        exact h
      · exact Or.inl ⟨h, by omega⟩
  · rintro (⟨h, h2⟩ | ⟨h, e | e⟩)
    · exact ⟨h, by omega⟩
    · refine ⟨?_, by omega⟩
      unfold chB
      rw [e.1, e.2, if_pos hab]; exact h
    · refine ⟨?_, by omega⟩
      unfold chB
      rw [e.1, e.2, if_neg (by omega), if_pos hab]; exact h
theorem chP_r {a x y : Nat} (hx : x < n) (hy : y < n) : chP n lk L a n x y ↔ chP n lk L (a + 1) (a + 2) x y := by
  unfold chP
  constructor
  · rintro ⟨h, h2⟩; exact ⟨h, by omega⟩
  · rintro ⟨h, h2⟩; exact ⟨h, by omega⟩
theorem chP_0 {x y : Nat} : ¬ chP n lk L 0 1 x y := by
  rintro ⟨_, h⟩
  omega
theorem chP_n {x y : Nat} (hx : x < n) (hy : y < n) : chP n lk L n (n + 1) x y ↔ chB n lk L x y = true := by
  unfold chP
  constructor
  · rintro ⟨h, _⟩; exact h
  · intro h
    refine ⟨h, ?_⟩
    by_cases e : x = y
    · exfalso
      unfold chB at h
      rw [if_neg (by omega), if_neg (by omega)] at h
      exact absurd h (by decide)
    · omega
end CHO2
