section
-- What a node does in a round, as both sides do it: pure
def fi (P : Nat → Bool) : Nat → Option Nat
  | 0 => none
  | i + 1 => match fi P i with
    | some b => some b
    | none => if P i = true then some i else none
theorem fi_none {P : Nat → Bool} : ∀ {i : Nat}, fi P i = none → ∀ c, c < i → P c = false := by
  intro i
  induction i with
  | zero => intro _ c hc; exact absurd hc (Nat.not_lt_zero c)
  | succ i ih =>
    intro h c hc
    unfold fi at h
    cases hf : fi P i with
    | some b => rw [hf] at h; exact absurd h (by simp)
    | none =>
      rw [hf] at h
      by_cases hp : P i = true
      · simp [hp] at h
      · by_cases hci : c = i
        · rw [hci]; exact Bool.eq_false_iff.mpr hp
        · exact ih hf c (by omega)
theorem fi_all {P : Nat → Bool} : ∀ {i : Nat}, (∀ c, c < i → P c = false) → fi P i = none := by
  intro i
  induction i with
  | zero => intro _; rfl
  | succ i ih =>
    intro h
    unfold fi
    rw [ih (fun c hc => h c (by omega))]
    simp [h i (by omega)]
theorem fi_at {P : Nat → Bool} {b : Nat} : ∀ {i : Nat}, b < i → P b = true → (∀ c, c < b → P c = false) → fi P i = some b := by
  intro i
  induction i with
  | zero => intro h; exact absurd h (Nat.not_lt_zero b)
  | succ i ih =>
    intro h hp hc
    unfold fi
    by_cases hbi : b = i
    · rw [fi_all (fun c h => hc c (by omega))]
      subst hbi
      simp [hp]
    · rw [ih (by omega) hp hc]
def gScan (m : Nat → Int32) (v q : Int32) : Nat → Int32 × Int32
  | 0 => (v, q)
  | i + 1 => if ¬ m i = -2 ∧ (gScan m v q i).1 < m i then (m i, nI i) else gScan m v q i
theorem gScan_no {m : Nat → Int32} {v q : Int32} : ∀ {i : Nat}, (∀ b, b < i → m b = -2 ∨ m b ≤ v) → gScan m v q i = (v, q) := by
  intro i
  induction i with
  | zero => intro _; rfl
  | succ i ih =>
    intro h
    unfold gScan
    rw [ih (fun b hb => h b (by omega)), if_neg]
    rintro ⟨h1, h2⟩
    rcases h i (by omega) with h3 | h3
    · exact h1 h3
    · exact absurd h2 (Int32.not_lt.mpr h3)
theorem gScan_lt {m : Nat → Int32} {v q x : Int32} (hv : v < x) : ∀ {i : Nat}, (∀ b, b < i → m b = -2 ∨ m b < x) → (gScan m v q i).1 < x := by
  intro i
  induction i with
  | zero => intro _; exact hv
  | succ i ih =>
    intro h
    unfold gScan
    split
    · rename_i h2
      rcases h i (by omega) with h3 | h3
      · exact absurd h3 h2.1
      · exact h3
    · exact ih (fun b hb => h b (by omega))
theorem gScan_yes {m : Nat → Int32} {v q : Int32} {b : Nat} (h0 : ¬ m b = -2) (hv : v < m b) (hl : ∀ c, c < b → m c = -2 ∨ m c < m b) : ∀ {i : Nat}, b < i → (∀ c, c < i → m c = -2 ∨ m c ≤ m b) → gScan m v q i = (m b, nI b) := by
  intro i
  induction i with
  | zero => intro h; exact absurd h (Nat.not_lt_zero b)
  | succ i ih =>
    intro hb h
    unfold gScan
    by_cases hbi : b = i
    · subst hbi
      rw [if_pos ⟨h0, gScan_lt hv hl⟩]
    · rw [ih (by omega) (fun c hc => h c (by omega)), if_neg]
      rintro ⟨h1, h2⟩
      rcases h i (by omega) with h3 | h3
      · exact h1 h3
      · exact absurd h2 (Int32.not_lt.mpr h3)
def lScan (m len : Nat → Int32) (v q : Int32) : Nat → Int32 × Int32
  | 0 => (v, q)
  | i + 1 => if ¬ m i = -2 ∧ ((lScan m len v q i).1 = -2 ∨ m i + len i < (lScan m len v q i).1) then (m i + len i, nI i) else lScan m len v q i
theorem lScan_no {m len : Nat → Int32} {v q : Int32} : ∀ {i : Nat}, (∀ b, b < i → m b = -2 ∨ (¬ v = -2 ∧ v ≤ m b + len b)) → lScan m len v q i = (v, q) := by
  intro i
  induction i with
  | zero => intro _; rfl
  | succ i ih =>
    intro h
    unfold lScan
    rw [ih (fun b hb => h b (by omega)), if_neg]
    rintro ⟨h1, h2⟩
    rcases h i (by omega) with h3 | ⟨h3, h4⟩
    · exact h1 h3
    · rcases h2 with h2 | h2
      · exact h3 h2
      · exact absurd h2 (Int32.not_lt.mpr h4)
theorem lScan_lt {m len : Nat → Int32} {v q x : Int32} (hv : v = -2 ∨ x < v) : ∀ {i : Nat}, (∀ b, b < i → m b = -2 ∨ x < m b + len b) → (lScan m len v q i).1 = -2 ∨ x < (lScan m len v q i).1 := by
  intro i
  induction i with
  | zero => intro _; exact hv
  | succ i ih =>
    intro h
    unfold lScan
    split
    · rename_i h2
      rcases h i (by omega) with h3 | h3
      · exact absurd h3 h2.1
      · exact Or.inr h3
    · exact ih (fun b hb => h b (by omega))
theorem lScan_yes {m len : Nat → Int32} {v q : Int32} {b : Nat} (h0 : ¬ m b = -2) (h2 : ¬ m b + len b = -2) (hv : v = -2 ∨ m b + len b < v) (hl : ∀ c, c < b → m c = -2 ∨ m b + len b < m c + len c) : ∀ {i : Nat}, b < i → (∀ c, c < i → m c = -2 ∨ m b + len b ≤ m c + len c) → lScan m len v q i = (m b + len b, nI b) := by
  intro i
  induction i with
  | zero => intro h; exact absurd h (Nat.not_lt_zero b)
  | succ i ih =>
    intro hb h
    unfold lScan
    by_cases hbi : b = i
    · subst hbi
      rw [if_pos ⟨h0, lScan_lt hv hl⟩]
    · rw [ih (by omega) (fun c hc => h c (by omega)), if_neg]
      rintro ⟨h1, h3⟩
      rcases h3 with h3 | h3
      · exact h2 h3
      · rcases h i (by omega) with h4 | h4
        · exact h1 h4
        · exact absurd h3 (Int32.not_lt.mpr h4)
/-- value, parent and what is written (-2: nothing), of WAVES, CHOICE in even and in odd rounds -/
def wAct (m : Nat → Int32) (v q : Int32) : Int32 × Int32 × Int32 :=
  if v = -2 then (match fi (fun b => decide (¬ m b = -2)) 12 with
    | some b => (m b, nI b, m b + 1)
    | none => (v, q, -2)) else (v, q, -2)
def rv (m : Nat → Int32) (mk : Int32) (a b : Nat) : Bool := decide (¬ m b = -2 ∧ (mk < m b ∨ (m b = mk ∧ a < b)))
def iAct (m : Nat → Int32) (mk : Int32) (a : Nat) (v q : Int32) : Int32 × Int32 × Int32 :=
  if v = 0 then (if fi (rv m mk a) 12 = none then (1, q, -1) else (v, q, -2)) else (v, q, -2)
def oAct (m : Nat → Int32) (mk v q : Int32) : Int32 × Int32 × Int32 :=
  if v = 0 then (match fi (fun b => decide (m b = -1)) 12 with
    | some b => (2, nI b, -2)
    | none => (v, q, mk)) else (v, q, -2)
def gAct (m : Nat → Int32) (v q : Int32) : Int32 × Int32 × Int32 := ((gScan m v q 12).1, (gScan m v q 12).2, if (gScan m v q 12).1 = v then -2 else (gScan m v q 12).1)
def lAct (m len : Nat → Int32) (v q : Int32) : Int32 × Int32 × Int32 := ((lScan m len v q 12).1, (lScan m len v q 12).2, if (lScan m len v q 12).1 = v then -2 else (lScan m len v q 12).1)
/-- what is written in round 1 -/
def note1 (p : Nat) (me : Bool) (mk : Int32) : Int32 := if p = 0 then (if me = true then 1 else -2) else if p = 3 then (if me = true then 0 else -2) else mk
/-- round r of node a in program p -/
def pAct (p r a : Nat) (me : Bool) (mk : Int32) (len m : Nat → Int32) (v q : Int32) : Int32 × Int32 × Int32 :=
  if r = 1 then (v, q, note1 p me mk)
  else if p = 0 then wAct m v q
  else if p = 1 then gAct m v q
  else if p = 2 then (if r % 2 = 0 then iAct m mk a v q else oAct m mk v q)
  else lAct m len v q
end
section
-- The reference's way to do a round is pAct: pure
def enc (w : Int32) : Int32 := if w = -2 then -1000 else w
/-- the notes that a node takes: t, tn as the reference has them, m with -2 for none -/
def NT (n : Nat) (B : Int) (t tn m : Nat → Int32) : Prop := ∀ b, b < 12 → (b < n ∧ ¬ t b = 0 → m b = tn b ∧ -1 ≤ (tn b).toInt ∧ (tn b).toInt ≤ B) ∧ (¬ (b < n ∧ ¬ t b = 0) → m b = -2)
theorem m2I : (-2 : Int32).toInt = -2 := by decide
theorem ne_m2 {x : Int32} (h : -1 ≤ x.toInt) : ¬ x = -2 := fun e => by rw [e, m2I] at h; omega
theorem NT.ne {n : Nat} {B : Int} {t tn m : Nat → Int32} (h : NT n B t tn m) {b : Nat} (hb : b < 12) : ¬ m b = -2 ↔ (b < n ∧ ¬ t b = 0) := by
  obtain ⟨h1, h2⟩ := h b hb
  constructor
  · intro q
    by_cases hc : b < n ∧ ¬ t b = 0
    · exact hc
    · exact absurd (h2 hc) q
  · intro hc
    obtain ⟨e, g, _⟩ := h1 hc
    rw [e]; exact ne_m2 g
/-- least, greatest and rival behind the first n notes -/
def LMR (n : Nat) (t u : Nat → Int32) (mk : Int32) (a : Nat) (le mo ri : Int32) : Prop :=
  (((∀ b, b < n → t b = 0) ∧ le = 2000 ∧ mo = -2000) ∨ ((∃ b, b < n ∧ ¬ t b = 0 ∧ u b = le) ∧ (∃ b, b < n ∧ ¬ t b = 0 ∧ u b = mo)))
  ∧ (∀ b, b < n → ¬ t b = 0 → le ≤ u b ∧ u b ≤ mo)
  ∧ (¬ ri = 0 ↔ ∃ b, b < n ∧ ¬ t b = 0 ∧ (mk < u b ∨ (u b = mk ∧ a < b)))
theorem LMR_0 {t u : Nat → Int32} {mk : Int32} {a : Nat} : LMR 0 t u mk a 2000 (-2000) 0 := ⟨Or.inl ⟨fun b hb => absurd hb (Nat.not_lt_zero b), rfl, rfl⟩, fun b hb => absurd hb (Nat.not_lt_zero b), ⟨fun h => absurd rfl h, fun ⟨b, hb, _⟩ => absurd hb (Nat.not_lt_zero b)⟩⟩
theorem LMR_skip {i : Nat} {t u : Nat → Int32} {mk : Int32} {a : Nat} {le mo ri : Int32} (h : LMR i t u mk a le mo ri) (ht : t i = 0) : LMR (i + 1) t u mk a le mo ri := by
  obtain ⟨h1, h2, h3⟩ := h
  refine ⟨?_, fun b hb hn => ?_, h3.trans ⟨fun ⟨b, hb, q⟩ => ⟨b, by omega, q⟩, fun ⟨b, hb, q⟩ => ?_⟩⟩
  · rcases h1 with ⟨g1, g2⟩ | ⟨⟨b, hb, q⟩, ⟨c, hc, q2⟩⟩
    · refine Or.inl ⟨fun b hb => ?_, g2⟩
      by_cases e : b = i
      · rw [e]; exact ht
      · exact g1 b (by omega)
    · exact Or.inr ⟨⟨b, by omega, q⟩, ⟨c, by omega, q2⟩⟩
  · by_cases e : b = i
    · rw [e] at hn; exact absurd ht hn
    · exact h2 b (by omega) hn
  · by_cases e : b = i
    · rw [e] at q; exact absurd ht q.1
    · exact ⟨b, by omega, q⟩
theorem LMR_take {i : Nat} {t u : Nat → Int32} {mk : Int32} {a : Nat} {le mo ri le' mo' ri' : Int32} (h : LMR i t u mk a le mo ri) (ht : ¬ t i = 0) (hu : -2000 < (u i).toInt ∧ (u i).toInt < 2000)
    (hl : (le' = u i ∧ ¬ le ≤ u i) ∨ (le' = le ∧ le ≤ u i)) (hm : (mo' = u i ∧ ¬ u i ≤ mo) ∨ (mo' = mo ∧ u i ≤ mo)) (hr : ¬ ri' = 0 ↔ (¬ ri = 0 ∨ mk < u i ∨ (u i = mk ∧ a < i))) : LMR (i + 1) t u mk a le' mo' ri' := by
  obtain ⟨h1, h2, h3⟩ := h
  have e2000 : (2000 : Int32).toInt = 2000 := by decide
  have em2000 : (-2000 : Int32).toInt = -2000 := by decide
  refine ⟨Or.inr ⟨?_, ?_⟩, fun b hb hn => ?_, hr.trans ⟨fun q => ?_, fun ⟨b, hb, q⟩ => ?_⟩⟩
  · rcases hl with ⟨e, _⟩ | ⟨e, g⟩
    · exact ⟨i, by omega, ht, e.symm⟩
    · rcases h1 with ⟨_, g2, _⟩ | ⟨⟨b, hb, q⟩, _⟩
      · rw [g2, i32_le, e2000] at g; omega
      · exact ⟨b, by omega, q.1, by rw [e]; exact q.2⟩
  · rcases hm with ⟨e, _⟩ | ⟨e, g⟩
    · exact ⟨i, by omega, ht, e.symm⟩
    · rcases h1 with ⟨_, _, g2⟩ | ⟨_, ⟨b, hb, q⟩⟩
      · rw [g2, i32_le, em2000] at g; omega
      · exact ⟨b, by omega, q.1, by rw [e]; exact q.2⟩
  · by_cases e : b = i
    · rw [e]
      constructor
      · rcases hl with ⟨g, _⟩ | ⟨g, g2⟩
        · rw [g]; exact Int32.le_refl _
        · rw [g]; exact g2
      · rcases hm with ⟨g, _⟩ | ⟨g, g2⟩
        · rw [g]; exact Int32.le_refl _
        · rw [g]; exact g2
    · obtain ⟨g1, g2⟩ := h2 b (by omega) hn
      constructor
      · rcases hl with ⟨g, k⟩ | ⟨g, _⟩
        · rw [g]; exact Int32.le_trans (Int32.le_of_lt (Int32.not_le.mp k)) g1
        · rw [g]; exact g1
      · rcases hm with ⟨g, k⟩ | ⟨g, _⟩
        · rw [g]; exact Int32.le_trans g2 (Int32.le_of_lt (Int32.not_le.mp k))
        · rw [g]; exact g2
  · rcases q with q | q
    · obtain ⟨b, hb, q2⟩ := h3.mp q
      exact ⟨b, by omega, q2⟩
    · exact ⟨i, by omega, ht, q⟩
  · by_cases e : b = i
    · rw [e] at q; exact Or.inr q.2
    · exact Or.inl (h3.mpr ⟨b, by omega, q⟩)
/-- b is the least one that wrote x -/
def WR (n : Nat) (t u : Nat → Int32) (x : Int32) (b : Nat) : Prop := b < n ∧ ¬ t b = 0 ∧ u b = x ∧ ∀ c, c < b → ¬ t c = 0 → ¬ u c = x
section ACTP
variable {n : Nat} {B : Int} {t tn m u len : Nat → Int32} {mk : Int32} {a : Nat} {le mo ri v q : Int32}
theorem some_of (hL : LMR n t u mk a le mo ri) (hs : ¬ mo ≤ -2000) : (∃ b, b < n ∧ ¬ t b = 0 ∧ u b = le) ∧ (∃ b, b < n ∧ ¬ t b = 0 ∧ u b = mo) := by
  rcases hL.1 with ⟨_, _, e⟩ | h
  · rw [e] at hs; exact absurd (Int32.le_refl _) hs
  · exact h
theorem none_of (hL : LMR n t u mk a le mo ri) (hu : ∀ b, b < n → ¬ t b = 0 → -2000 < (u b).toInt) (hs : mo ≤ -2000) : ∀ b, b < n → t b = 0 := by
  rcases hL.1 with ⟨h, _, _⟩ | ⟨_, ⟨b, hb, h1, h2⟩⟩
  · exact h
  · have := hu b hb h1
    rw [h2] at this
    have e : (-2000 : Int32).toInt = -2000 := by decide
    rw [i32_le, e] at hs
    omega
theorem m_none (hN : NT n B t tn m) (h : ∀ b, b < n → t b = 0) : ∀ b, b < 12 → m b = -2 := fun b hb => (hN b hb).2 (fun q => q.2 (h b q.1))
theorem gAct_0 (h : ∀ b, b < 12 → m b = -2 ∨ m b ≤ v) : gAct m v q = (v, q, -2) := by
  unfold gAct
  rw [gScan_no h]
  simp
theorem gAct_1 (hn : n ≤ 12) (hN : NT n B t tn m) (hu : ∀ b, u b = tn b) (hL : LMR n t u mk a le mo ri) {b : Nat} (hw : WR n t u mo b) (hv : ¬ mo ≤ v) : gAct m v q = (mo, nI b, mo) := by
  obtain ⟨w1, w2, w3, w4⟩ := hw
  obtain ⟨n1, n2, _⟩ := (hN b (by omega)).1 ⟨w1, w2⟩
  have hmb : m b = mo := by rw [n1, ← hu]; exact w3
  have key : gScan m v q 12 = (m b, nI b) := by
    refine gScan_yes (by rw [n1]; exact ne_m2 n2) (by rw [hmb]; exact Int32.not_le.mp hv) (fun c hc => ?_) (by omega) (fun c hc => ?_)
    · by_cases hcc : c < n ∧ ¬ t c = 0
      · obtain ⟨k1, _⟩ := (hN c (by omega)).1 hcc
        refine Or.inr (Int32.lt_of_le_of_ne ?_ ?_)
        · rw [k1, ← hu, hmb]; exact (hL.2.1 c hcc.1 hcc.2).2
        · rw [k1, ← hu, hmb]; exact w4 c hc hcc.2
      · exact Or.inl ((hN c (by omega)).2 hcc)
    · by_cases hcc : c < n ∧ ¬ t c = 0
      · obtain ⟨k1, _⟩ := (hN c hc).1 hcc
        refine Or.inr ?_
        rw [k1, ← hu, hmb]; exact (hL.2.1 c hcc.1 hcc.2).2
      · exact Or.inl ((hN c hc).2 hcc)
  unfold gAct
  rw [key, hmb]
  rw [if_neg (fun e => hv (by rw [show mo = v from e]; exact Int32.le_refl _))]
theorem lAct_0 (h : ∀ b, b < 12 → m b = -2 ∨ (¬ v = -2 ∧ v ≤ m b + len b)) : lAct m len v q = (v, q, -2) := by
  unfold lAct
  rw [lScan_no h]
  simp
theorem lAct_1 (hn : n ≤ 12) (hN : NT n B t tn m) (hu : ∀ b, b < n → u b = tn b + len b) (hL : LMR n t u mk a le mo ri) {b : Nat} (hw : WR n t u le b) (hle : ¬ le = -2) (hv : v = -2 ∨ ¬ v ≤ le) : lAct m len v q = (le, nI b, le) := by
  obtain ⟨w1, w2, w3, w4⟩ := hw
  obtain ⟨n1, n2, _⟩ := (hN b (by omega)).1 ⟨w1, w2⟩
  have hmb : m b + len b = le := by rw [n1, ← hu b w1]; exact w3
  have key : lScan m len v q 12 = (m b + len b, nI b) := by
    refine lScan_yes (by rw [n1]; exact ne_m2 n2) (by rw [hmb]; exact hle) (by rw [hmb]; exact hv.imp id (fun h => Int32.not_le.mp h)) (fun c hc => ?_) (by omega) (fun c hc => ?_)
    · by_cases hcc : c < n ∧ ¬ t c = 0
      · obtain ⟨k1, _⟩ := (hN c (by omega)).1 hcc
        refine Or.inr (Int32.lt_of_le_of_ne ?_ ?_)
        · rw [k1, ← hu c hcc.1, hmb]; exact (hL.2.1 c hcc.1 hcc.2).1
        · rw [k1, ← hu c hcc.1, hmb]; exact fun e => w4 c hc hcc.2 e.symm
      · exact Or.inl ((hN c (by omega)).2 hcc)
    · by_cases hcc : c < n ∧ ¬ t c = 0
      · obtain ⟨k1, _⟩ := (hN c hc).1 hcc
        refine Or.inr ?_
        rw [k1, ← hu c hcc.1, hmb]; exact (hL.2.1 c hcc.1 hcc.2).1
      · exact Or.inl ((hN c hc).2 hcc)
  unfold lAct
  rw [key, hmb]
  rw [if_neg]
  intro e
  rcases hv with h | h
  · exact hle (e.trans h)
  · exact h (by rw [show le = v from e]; exact Int32.le_refl _)
theorem lAct_2 (hN : NT n B t tn m) (hu : ∀ b, b < n → u b = tn b + len b) (hL : LMR n t u mk a le mo ri) (hv : ¬ v = -2) (hle : v ≤ le) : lAct m len v q = (v, q, -2) := by
  refine lAct_0 (fun c hc => ?_)
  by_cases hcc : c < n ∧ ¬ t c = 0
  · obtain ⟨k1, _⟩ := (hN c hc).1 hcc
    refine Or.inr ⟨hv, Int32.le_trans hle ?_⟩
    rw [k1, ← hu c hcc.1]; exact (hL.2.1 c hcc.1 hcc.2).1
  · exact Or.inl ((hN c hc).2 hcc)
theorem wAct_0 (h : ¬ v = -2 ∨ ∀ b, b < 12 → m b = -2) : wAct m v q = (v, q, -2) := by
  unfold wAct
  by_cases hv : v = -2
  · rw [if_pos hv]
    rcases h with h | h
    · exact absurd hv h
    · rw [fi_all (fun c hc => by simp [h c hc])]
  · rw [if_neg hv]
theorem wAct_1 (hn : n ≤ 12) (hN : NT n B t tn m) (hu : ∀ b, u b = tn b) (hq : ∀ b c, b < 12 → c < 12 → ¬ m b = -2 → ¬ m c = -2 → m b = m c) {b : Nat} (hw : WR n t u le b) (hv : v = -2) : wAct m v q = (le, nI b, le + 1) := by
  obtain ⟨w1, w2, w3, w4⟩ := hw
  obtain ⟨n1, n2, _⟩ := (hN b (by omega)).1 ⟨w1, w2⟩
  have hmb : m b = le := by rw [n1, ← hu]; exact w3
  have hb2 : ¬ m b = -2 := by rw [n1]; exact ne_m2 n2
  unfold wAct
  rw [if_pos hv, fi_at (b := b) (by omega) (by simp [hb2]) (fun c hc => ?_)]
  · show (m b, nI b, m b + 1) = _
    rw [hmb]
  · by_cases hc2 : m c = -2
    · simp [hc2]
    · exfalso
      have hcc := (hN.ne (by omega)).mp hc2
      obtain ⟨k1, _⟩ := (hN c (by omega)).1 hcc
      refine w4 c hc hcc.2 ?_
      rw [hu, ← k1, hq c b (by omega) (by omega) hc2 hb2, hmb]
theorem rv_iff (hN : NT n B t tn m) (hu : ∀ b, u b = tn b) (hn : n ≤ 12) (hL : LMR n t u mk a le mo ri) : ri = 0 ↔ fi (rv m mk a) 12 = none := by
  constructor
  · intro h
    refine fi_all (fun c hc => ?_)
    cases hr : rv m mk a c with
    | false => rfl
    | true =>
      exfalso
      obtain ⟨h1, h2⟩ := of_decide_eq_true hr
      have hcc := (hN.ne hc).mp h1
      obtain ⟨k1, _⟩ := (hN c hc).1 hcc
      refine hL.2.2.mpr ⟨c, hcc.1, hcc.2, ?_⟩ h
      rw [hu, ← k1]; exact h2
  · intro h
    by_cases hz : ri = 0
    · exact hz
    · exfalso
      obtain ⟨b, hb, h1, h2⟩ := hL.2.2.mp hz
      have h3 := fi_none h b (by omega)
      obtain ⟨k1, k2, _⟩ := (hN b (by omega)).1 ⟨hb, h1⟩
      have : rv m mk a b = true := by
        unfold rv
        refine decide_eq_true ⟨by rw [k1]; exact ne_m2 k2, ?_⟩
        rw [k1, ← hu]; exact h2
      rw [this] at h3
      exact absurd h3 (by decide)
theorem iAct_0 (hv : ¬ v = 0) : iAct m mk a v q = (v, q, -2) := by unfold iAct; rw [if_neg hv]
theorem iAct_1 (hv : v = 0) (h : fi (rv m mk a) 12 = none) : iAct m mk a v q = (1, q, -1) := by unfold iAct; rw [if_pos hv, if_pos h]
theorem iAct_2 (hv : v = 0) (h : ¬ fi (rv m mk a) 12 = none) : iAct m mk a v q = (v, q, -2) := by unfold iAct; rw [if_pos hv, if_neg h]
theorem oAct_0 (hv : ¬ v = 0) : oAct m mk v q = (v, q, -2) := by unfold oAct; rw [if_neg hv]
theorem oAct_1 (hv : v = 0) (h : ∀ b, b < 12 → ¬ m b = -1) : oAct m mk v q = (v, q, mk) := by
  unfold oAct
  rw [if_pos hv, fi_all (fun c hc => by simp [h c hc])]
theorem oAct_2 (hn : n ≤ 12) (hN : NT n B t tn m) (hu : ∀ b, u b = tn b) (hv : v = 0) {b : Nat} (hw : WR n t u (-1) b) : oAct m mk v q = (2, nI b, -2) := by
  obtain ⟨w1, w2, w3, w4⟩ := hw
  obtain ⟨n1, n2, _⟩ := (hN b (by omega)).1 ⟨w1, w2⟩
  have hmb : m b = -1 := by rw [n1, ← hu]; exact w3
  unfold oAct
  rw [if_pos hv, fi_at (b := b) (by omega) (by simp [hmb]) (fun c hc => ?_)]
  by_cases hc2 : m c = -1
  · exfalso
    have hcc := (hN.ne (by omega)).mp (show ¬ m c = -2 by rw [hc2]; decide)
    obtain ⟨k1, _⟩ := (hN c (by omega)).1 hcc
    exact w4 c hc hcc.2 (by rw [hu, ← k1, hc2])
  · simp [hc2]
theorem no_m1 (hN : NT n B t tn m) (hu : ∀ b, u b = tn b) (hL : LMR n t u mk a le mo ri) (h : (∀ b, b < n → t b = 0) ∨ ¬ le = -1) (hs : (∀ b, b < n → t b = 0) ∨ ∃ b, b < n ∧ ¬ t b = 0 ∧ u b = le) (hn : n ≤ 12) : ∀ b, b < 12 → ¬ m b = -1 := by
  intro b hb e
  have hcc := (hN.ne hb).mp (show ¬ m b = -2 by rw [e]; decide)
  obtain ⟨k1, _⟩ := (hN b hb).1 hcc
  rcases h with h | h
  · exact hcc.2 (h b hcc.1)
  · rcases hs with h2 | ⟨c, hc, h3, h4⟩
    · exact hcc.2 (h2 b hcc.1)
    · obtain ⟨j1, j2, _⟩ := (hN c (by omega)).1 ⟨hc, h3⟩
      have h5 := (hL.2.1 b hcc.1 hcc.2).1
      rw [hu, ← k1, e, i32_le] at h5
      rw [← hu, h4] at j2
      have em1 : (-1 : Int32).toInt = -1 := by decide
      rw [em1] at h5
      refine h (Int32.toInt_inj.mp ?_)
      rw [em1]; omega
end ACTP
end
section
-- The reference's act, exactly
theorem upd_same {f : Nat → Int32} {i : Nat} : upd f i (f i) = f := by
  funext j
  unfold upd
  by_cases h : j = i
  · rw [if_pos h, h]
  · rw [if_neg h]
theorem s_Mo_writer2 (G : zG) (σ : zSt) (n a : Nat) (x far : Int32) (hle : n ≤ 12) (ha : a < 12) (hx : AT σ far a n x) : zI G 0 M_Mo_writer [zf G 32, .int (nI a), .int x, .int far] σ (fun y τ => τ = σ ∧ ∃ b, y = nI b ∧ WR n (σ 54) (vb σ far a) x b) := by
  refine zSpec.of (by decide) (Nat.le_of_ble_eq_true rfl) rfl (fun X E => ?_)
  obtain ⟨b0, hb0, ht0, hv0⟩ := hx
  refine b_Mo_writer_0 E (nI a) x far σ ?_
  have body : ∀ i, i ≤ b0 → (∀ c, c < i → ¬ σ 54 c = 0 → ¬ vb σ far a c = x) → ((¬ σ 54 i = 0 → ¬ vb σ far a i = x) → zZ G M_Mo_writer 0 X (fun r τ => ∃ y : Int32, r = some (.int y) ∧ τ = σ ∧ ∃ b, y = nI b ∧ WR n (σ 54) (vb σ far a) x b) 3 [(0, zf G 32), (1, .int (nI a)), (2, .int x), (3, .int far), (4, .int (nI i + 1))] [] σ) → zZ G M_Mo_writer 0 X (fun r τ => ∃ y : Int32, r = some (.int y) ∧ τ = σ ∧ ∃ b, y = nI b ∧ WR n (σ 54) (vb σ far a) x b) 3 [(0, zf G 32), (1, .int (nI a)), (2, .int x), (3, .int far), (4, .int (nI i))] [] σ := by
    intro i hi hI nx
    have ii : vp_in (nI i) 12 := vp_in_nI (by omega) (by decide)
    have ci : (nI i).toNatClampNeg = i := nI_clamp (by omega)
    have cia : (((12 : Int32) * nI i) + nI a).toNatClampNeg = 12 * i + a := by rw [zi12']; exact nI_clamp (by omega)
    have fin : ¬ σ 54 i = 0 → vb σ far a i = x → ∃ y : Int32, some (Value.int (nI i)) = some (Value.int y) ∧ σ = σ ∧ ∃ b, y = nI b ∧ WR n (σ 54) (vb σ far a) x b := fun ht hv => ⟨_, rfl, rfl, i, rfl, by omega, ht, hv, hI⟩
    refine b_Mo_writer_3 E (nI a) x far (nI i) σ ⟨ii, fun h => nx (fun q => absurd (by rw [ci] at h; exact h) q), fun ht => ⟨ii, fun hf => ⟨fun h => fin (by rw [ci] at ht; exact ht) ?_, fun h => nx (fun _ => ?_)⟩, fun hf => ⟨by rw [zi12']; exact vp_in_nI (by omega) (by decide), fun h => fin (by rw [ci] at ht; exact ht) ?_, fun h => nx (fun _ => ?_)⟩⟩⟩
    · rw [ci] at h; unfold vb; rw [if_pos hf]; exact h
    · rw [ci] at h; unfold vb; rw [if_pos hf]; exact h
    · rw [ci, cia] at h; unfold vb; rw [if_neg hf]; exact h
    · rw [ci, cia] at h; unfold vb; rw [if_neg hf]; exact h
  refine z_for b0 (fun i (_ : Unit) => zZ G M_Mo_writer 0 X (fun r τ => ∃ y : Int32, r = some (.int y) ∧ τ = σ ∧ ∃ b, y = nI b ∧ WR n (σ 54) (vb σ far a) x b) 3 [(0, zf G 32), (1, .int (nI a)), (2, .int x), (3, .int far), (4, .int (nI i))] [] σ) (fun i _ => ∀ c, c < i → ¬ σ 54 c = 0 → ¬ vb σ far a c = x) ?_ ?_ 0 () (Nat.zero_le _) (fun c hc => absurd hc (Nat.not_lt_zero c))
  · intro i _ hi hI ih
    refine body i (by omega) hI (fun h => ?_)
    rw [nI_1]
    refine ih () (fun c hc => ?_)
    by_cases e : c = i
    · rw [e]; exact h
    · exact hI c (by omega)
  · intro _ hI
    exact body b0 (Nat.le_refl b0) hI (fun h => absurd hv0.symm (h ht0))
/-- what act leaves: the value and the parent at at_, and the answer -/
def AR (σ τ : zSt) (at_ : Nat) (w : Int32 × Int32 × Int32) (x : Int32) : Prop := zFr [47, 48] σ τ ∧ τ 47 = upd (σ 47) at_ w.1 ∧ τ 48 = upd (σ 48) at_ w.2.1 ∧ x = enc w.2.2
theorem AR0 {σ : zSt} {at_ : Nat} {w : Int32 × Int32 × Int32} {x y : Int32} (hw : w = (σ 47 at_, σ 48 at_, y)) (hx : x = enc y) : AR σ σ at_ w x := by
  rw [hw]; exact ⟨zFr.rf, upd_same.symm, upd_same.symm, hx⟩
theorem AR1 {σ τ : zSt} {at_ : Nat} {w : Int32 × Int32 × Int32} {x y v : Int32} (e : τ = zup σ 47 at_ v) (hw : w = (v, σ 48 at_, y)) (hx : x = enc y) : AR σ τ at_ w x := by
  rw [hw, e]
  exact ⟨zFr.rf.up (by decide), by rw [zup_self], by rw [zup_ne (by decide)]; exact upd_same.symm, hx⟩
theorem AR2 {σ τ υ : zSt} {at_ : Nat} {w : Int32 × Int32 × Int32} {x y v q : Int32} (e : τ = zup σ 47 at_ v) (e2 : υ = zup τ 48 at_ q) (hw : w = (v, q, y)) (hx : x = enc y) : AR σ υ at_ w x := by
  rw [hw, e2, e]
  exact ⟨(zFr.rf.up (by decide)).up (by decide), by rw [zup_ne (by decide), zup_self], by rw [zup_self, zup_ne (by decide)], hx⟩
theorem enc_of {x : Int32} (h : -1 ≤ x.toInt) : x = enc x := by unfold enc; rw [if_neg (ne_m2 h)]
section PACT
variable {p r a : Nat} {me : Bool} {mk : Int32} {len m : Nat → Int32} {v q : Int32}
theorem pAct_1 (h : r = 1) : pAct p r a me mk len m v q = (v, q, note1 p me mk) := by unfold pAct; rw [if_pos h]
theorem pAct_w (h : ¬ r = 1) (hp : p = 0) : pAct p r a me mk len m v q = wAct m v q := by unfold pAct; rw [if_neg h, if_pos hp]
theorem pAct_g (h : ¬ r = 1) (hp : p = 1) : pAct p r a me mk len m v q = gAct m v q := by unfold pAct; rw [if_neg h, if_neg (by omega), if_pos hp]
theorem pAct_i (h : ¬ r = 1) (hp : p = 2) (h2 : r % 2 = 0) : pAct p r a me mk len m v q = iAct m mk a v q := by unfold pAct; rw [if_neg h, if_neg (by omega), if_neg (by omega), if_pos hp, if_pos h2]
theorem pAct_o (h : ¬ r = 1) (hp : p = 2) (h2 : ¬ r % 2 = 0) : pAct p r a me mk len m v q = oAct m mk v q := by unfold pAct; rw [if_neg h, if_neg (by omega), if_neg (by omega), if_pos hp, if_neg h2]
theorem pAct_l (h : ¬ r = 1) (hp : p = 3) : pAct p r a me mk len m v q = lAct m len v q := by unfold pAct; rw [if_neg h, if_neg (by omega), if_neg (by omega), if_neg (by omega)]
end PACT
theorem rem2 : ∀ r, r < 21 → ((nI r - nI r / (2 : Int32) * (2 : Int32) = 0) ↔ r % 2 = 0) := by decide +kernel
set_option maxHeartbeats 1000000 in
theorem s_Mo_act2 (G : zG) (σ : zSt) (n at_ a r p : Nat) (m len : Nat → Int32) (hn : σ 32 0 = nI n) (hle : n ≤ 12) (hat : at_ < 24) (ha : a < 12) (hr1 : 1 ≤ r) (hr2 : r ≤ 20) (hM : LM σ) (hp : σ 32 5 = nI p) (hp3 : p ≤ 3) (hT : NT n (100 + 10 * ((r - 1 : Nat) : Int)) (σ 54) (σ 55) m) (hl : ∀ b, b < n → len b = σ 33 (12 * b + a)) (h1 : r = 1 → (∀ b, b < n → σ 54 b = 0) ∧ (p = 1 → σ 47 at_ = σ 34 a) ∧ (p = 2 → σ 47 at_ = 0)) (hq : p = 0 → ∀ b c, b < 12 → c < 12 → ¬ m b = -2 → ¬ m c = -2 → m b = m c) :
    zI G 1 M_Mo_act [zf G 32, .int (nI at_), .int (nI a), .int (nI r)] σ (fun x τ => AR σ τ at_ (pAct p r a (decide (nI a = σ 32 7)) (σ 34 a) len m (σ 47 at_) (σ 48 at_)) x) := by
  have i1 : vp_in (nI at_) 24 := vp_in_nI hat (by decide)
  have ia : vp_in (nI a) 12 := vp_in_nI ha (by decide)
  have c1 : (nI at_).toNatClampNeg = at_ := nI_clamp (by omega)
  have ca : (nI a).toNatClampNeg = a := nI_clamp (by omega)
  have hma := hM.2 a ha
  have z0 : (0 : Int32).toInt = 0 := by decide
  have z1 : (1 : Int32).toInt = 1 := by decide
  have zm1 : (-1 : Int32).toInt = -1 := by decide
  have pz : ∀ k : Nat, k < 4 → (σ 32 5 = nI k ↔ p = k) := fun k hk => by rw [hp]; exact nI_eq (by omega) (by omega)
  have p0 : σ 32 5 = 0 ↔ p = 0 := pz 0 (by decide)
  have p1 : σ 32 5 = 1 ↔ p = 1 := pz 1 (by decide)
  have p2 : σ 32 5 = 2 ↔ p = 2 := pz 2 (by decide)
  have p3 : σ 32 5 = 3 ↔ p = 3 := pz 3 (by decide)
  have hr : nI r = 1 ↔ r = 1 := nI_eq (a := r) (b := 1) (by omega) (by decide)
  have rm := rem2 r (by omega)
  generalize hW : pAct p r a (decide (nI a = σ 32 7)) (σ 34 a) len m (σ 47 at_) (σ 48 at_) = W
  refine zSpec.of (by decide) (Nat.le_of_ble_eq_true rfl) rfl (fun X E => ?_)
  have encmk : σ 34 a = enc (σ 34 a) := enc_of (by omega)
  have enc2 : (-1000 : Int32) = enc (-2) := rfl
  -- what a note is worth is small
  have hvb : ∀ far b, b < n → ¬ σ 54 b = 0 → -1 ≤ (vb σ far a b).toInt ∧ (vb σ far a b).toInt ≤ 99 + 10 * (r : Int) := by
    intro far b hb ht
    obtain ⟨_, g1, g2⟩ := (hT b (by omega)).1 ⟨hb, ht⟩
    have h3 := hM.1 (12 * b + a) (by omega)
    unfold vb
    by_cases hf : far = 0
    · rw [if_pos hf, i32_add (by omega) (by rw [z0]; decide), z0]
      omega
    · rw [if_neg hf, i32_add (by omega) (by omega)]
      omega
  have wr : ∀ (far x v : Int32) (σ1 : zSt), σ1 = zup σ 47 at_ v → (∃ b, b < n ∧ ¬ σ 54 b = 0 ∧ vb σ far a b = x) → AT σ1 far a n x := by
    rintro far x v σ1 e1 ⟨b, hb, h1, h2⟩
    refine ⟨b, hb, by rw [e1, zup_ne (by decide)]; exact h1, ?_⟩
    rw [← h2]; unfold vb; rw [e1, zup_ne (by decide), zup_ne (by decide)]
  have wr2 : ∀ (far x v : Int32) (σ1 : zSt) (b : Nat), σ1 = zup σ 47 at_ v → WR n (σ1 54) (vb σ1 far a) x b → WR n (σ 54) (vb σ far a) x b := by
    intro far x v σ1 b e1 h
    have q1 : σ1 54 = σ 54 := by rw [e1, zup_ne (by decide)]
    have q2 : vb σ1 far a = vb σ far a := by funext c; unfold vb; rw [e1, zup_ne (by decide), zup_ne (by decide)]
    rw [q1, q2] at h; exact h
  -- behind the loop
  have last : ∀ (far le mo ri : Int32) (sm : Int32), LMR n (σ 54) (vb σ far a) (σ 34 a) a le mo ri → ((sm = 0 → mo ≤ -2000) ∧ (¬ sm = 0 → ¬ mo ≤ -2000)) → (p = 3 → ¬ far = 0) → (¬ p = 3 → far = 0) →
      zZ G M_Mo_act 1 X (fun rr τ => ∃ x : Int32, rr = some (.int x) ∧ AR σ τ at_ W x) 174 [(0, zf G 32), (1, .int (nI at_)), (2, .int (nI a)), (3, .int (nI r)), (4, .int far), (5, .int le), (6, .int mo), (7, .int ri), (8, .int sm)] [] σ := by
    intro far le mo ri sm hL hsm hf3 hf0
    have hu0 : ¬ p = 3 → ∀ b, vb σ far a b = σ 55 b := fun h b => by unfold vb; rw [if_pos (hf0 h), Int32.add_zero]
    have hu3 : p = 3 → ∀ b, b < n → vb σ far a b = σ 55 b + len b := fun h b hb => by unfold vb; rw [if_neg (hf3 h), hl b hb]
    have hub : ∀ b, b < n → ¬ σ 54 b = 0 → -2000 < (vb σ far a b).toInt := fun b hb ht => by have := hvb far b hb ht; omega
    have some_ : ¬ sm = 0 → (∃ b, b < n ∧ ¬ σ 54 b = 0 ∧ vb σ far a b = le) ∧ (∃ b, b < n ∧ ¬ σ 54 b = 0 ∧ vb σ far a b = mo) := fun h => some_of hL (hsm.2 h)
    have none_ : sm = 0 → ∀ b, b < n → σ 54 b = 0 := fun h => none_of hL hub (hsm.1 h)
    have bd : ∀ x, (∃ b, b < n ∧ ¬ σ 54 b = 0 ∧ vb σ far a b = x) → -1 ≤ x.toInt ∧ x.toInt ≤ 99 + 10 * (r : Int) := by
      rintro x ⟨b, hb, h1, rfl⟩
      exact hvb far b hb h1
    have take0 : W = (σ 47 at_, σ 48 at_, -2) → zZ G M_Mo_act 1 X (fun rr τ => ∃ x : Int32, rr = some (.int x) ∧ AR σ τ at_ W x) 382 [(0, zf G 32), (1, .int (nI at_)), (2, .int (nI a)), (4, .int far), (5, .int le), (6, .int mo), (9, .int (0 : Int32))] [] σ := fun h => b_Mo_act_382 E (nI at_) (nI a) far le mo 0 σ ⟨fun q => absurd rfl q, fun _ => ⟨_, rfl, AR0 h enc2⟩⟩
    have take1 : ¬ r = 1 → ¬ p = 2 → ¬ sm = 0 → (p = 1 → ¬ mo ≤ σ 47 at_) → (p = 0 → σ 47 at_ = -2) → (p = 3 → σ 47 at_ = -2 ∨ ¬ σ 47 at_ ≤ le) → zZ G M_Mo_act 1 X (fun rr τ => ∃ x : Int32, rr = some (.int x) ∧ AR σ τ at_ W x) 382 [(0, zf G 32), (1, .int (nI at_)), (2, .int (nI a)), (4, .int far), (5, .int le), (6, .int mo), (9, .int (1 : Int32))] [] σ := by
      intro hr1 hp2 hs k1 k0 k3
      obtain ⟨s1, s2⟩ := some_ hs
      refine b_Mo_act_382 E (nI at_) (nI a) far le mo 1 σ ⟨fun _ => ⟨fun hne => ⟨i1, fun σ1 e1 => ?_⟩, fun he => ⟨i1, fun σ1 e1 => ?_⟩⟩, fun h => absurd h (by decide)⟩
      · rw [c1] at e1
        refine ⟨_, s_Mo_writer2 G σ1 n a le far hle ha (wr far le _ σ1 e1 s1), ?_⟩
        rintro x3 σ2 ⟨e2, b, rfl, hw⟩
        have hw := wr2 far le _ σ1 b e1 hw
        refine ⟨i1, fun σ4 e4 => ?_⟩
        rw [c1, e2] at e4
        have e45 : σ4 32 5 = σ 32 5 := by rw [e4, zup_ne (by decide), e1, zup_ne (by decide)]
        rw [e45]
        have hb := bd le s1
        refine ⟨fun hz => ⟨_, rfl, AR2 e1 e4 (y := le) ?_ (enc_of hb.1)⟩, fun hz => ⟨_, rfl, AR2 e1 e4 (y := le + 1) ?_ (enc_of ?_)⟩⟩
        · have q1 : ¬ p = 1 := fun h => hne (p1.mpr h)
          have q0 : ¬ p = 0 := fun h => hz (p0.mpr h)
          have q3 : p = 3 := by omega
          rw [← hW, pAct_l hr1 q3]
          exact lAct_1 hle hT (hu3 q3) hL hw (ne_m2 hb.1) (k3 q3)
        · have q0 := p0.mp hz
          rw [← hW, pAct_w hr1 q0]
          exact wAct_1 hle hT (hu0 (by omega)) (hq q0) hw (k0 q0)
        · rw [i32_add (by omega) (by rw [z1]; decide), z1]; omega
      · rw [c1] at e1
        refine ⟨_, s_Mo_writer2 G σ1 n a mo far hle ha (wr far mo _ σ1 e1 s2), ?_⟩
        rintro x3 σ2 ⟨e2, b, rfl, hw⟩
        have hw := wr2 far mo _ σ1 b e1 hw
        refine ⟨i1, fun σ4 e4 => ?_⟩
        rw [c1, e2] at e4
        have e45 : σ4 32 5 = σ 32 5 := by rw [e4, zup_ne (by decide), e1, zup_ne (by decide)]
        rw [e45]
        have hb := bd mo s2
        have q1 := p1.mp he
        refine ⟨fun hz => ⟨_, rfl, AR2 e1 e4 (y := mo) ?_ (enc_of hb.1)⟩, fun hz => absurd (p0.mp hz) (by omega)⟩
        rw [← hW, pAct_g hr1 q1]
        exact gAct_1 hle hT (hu0 (by omega)) hL hw (k1 q1)
    have no : ¬ r = 1 → ¬ p = 2 → sm = 0 → W = (σ 47 at_, σ 48 at_, -2) := by
      intro hr1 hp2 hs
      have hm := m_none hT (none_ hs)
      rw [← hW]
      rcases (show p = 0 ∨ p = 1 ∨ p = 3 by omega) with h | h | h
      · rw [pAct_w hr1 h]; exact wAct_0 (Or.inr hm)
      · rw [pAct_g hr1 h]; exact gAct_0 (fun b hb => Or.inl (hm b hb))
      · rw [pAct_l hr1 h]; exact lAct_0 (fun b hb => Or.inl (hm b hb))
    refine b_Mo_act_174 E (nI at_) (nI a) (nI r) far le mo ri sm σ ⟨fun hp2 => ⟨fun hr1 => ⟨fun hs => take0 (no (fun h => hr1 (hr.mpr h)) (fun h => hp2 (p2.mpr h)) hs), fun hs => ⟨fun hne => ⟨i1, fun hv => ?_, fun hv => ⟨fun hf => ?_, fun hf => ⟨i1, fun hv2 => ?_, fun hv2 => ?_⟩⟩⟩, fun he => ⟨i1, fun hv => ?_, fun hv => ?_⟩⟩⟩, fun hr1 => ⟨fun hne => ⟨fun hsrc => ⟨fun hz => ⟨_, rfl, AR0 (y := 0) ?_ rfl⟩, fun hz => ⟨_, rfl, AR0 (y := 1) ?_ rfl⟩⟩, fun hsrc => ⟨_, rfl, AR0 ?_ enc2⟩⟩, fun he => ⟨i1, _, rfl, AR0 (y := σ 34 a) ?_ ?_⟩⟩⟩, fun hp2 => ⟨i1, fun hv => ⟨fun hodd => ⟨fun hs => ⟨ia, _, rfl, AR0 (y := σ 34 a) ?_ (by rw [ca]; exact encmk)⟩, fun hs => ⟨fun hm1 => ⟨ia, _, rfl, AR0 (y := σ 34 a) ?_ (by rw [ca]; exact encmk)⟩, fun hm1 => ⟨i1, fun σ1 e1 => ?_⟩⟩⟩, fun hev => ⟨fun hri => ⟨i1, fun σ5 e5 => ⟨fun _ => ⟨_, rfl, AR1 (v := 1) (y := -1) (by rw [c1] at e5; exact e5) ?_ rfl⟩, fun q => absurd hri q⟩⟩, fun hri => ⟨i1, fun σ6 e6 => ⟨fun q => absurd q hri, fun _ => ⟨_, rfl, AR1 (v := 0) (by rw [c1] at e6; exact e6) ?_ enc2⟩⟩⟩⟩⟩, fun hv => ⟨_, rfl, AR0 ?_ enc2⟩⟩⟩
    · -- value NONE: takes
      rw [c1] at hv
      exact take1 (fun h => hr1 (hr.mpr h)) (fun h => hp2 (p2.mpr h)) hs (fun h => absurd (p1.mpr h) hne) (fun _ => hv) (fun _ => Or.inl hv)
    · -- not far
      rw [c1] at hv
      refine take0 ?_
      have hr1 : ¬ r = 1 := fun h => hr1 (hr.mpr h)
      have q2 : ¬ p = 2 := fun h => hp2 (p2.mpr h)
      have q1 : ¬ p = 1 := fun h => hne (p1.mpr h)
      have q3 : ¬ p = 3 := fun h => hf3 h hf
      rw [← hW, pAct_w hr1 (by omega)]
      exact wAct_0 (Or.inl hv)
    · rw [c1] at hv hv2
      refine take0 ?_
      have hr1 : ¬ r = 1 := fun h => hr1 (hr.mpr h)
      have q3 : p = 3 := by
        by_cases h : p = 3
        · exact h
        · exact absurd (hf0 h) hf
      rw [← hW, pAct_l hr1 q3]
      exact lAct_2 hT (hu3 q3) hL hv hv2
    · rw [c1] at hv hv2
      have q3 : p = 3 := by
        by_cases h : p = 3
        · exact h
        · exact absurd (hf0 h) hf
      exact take1 (fun h => hr1 (hr.mpr h)) (by omega) hs (fun h => by omega) (fun h => by omega) (fun _ => Or.inr hv2)
    · rw [c1] at hv
      refine take0 ?_
      have hr1 : ¬ r = 1 := fun h => hr1 (hr.mpr h)
      have q1 := p1.mp he
      rw [← hW, pAct_g hr1 q1]
      refine gAct_0 (fun b hb => ?_)
      by_cases hcc : b < n ∧ ¬ σ 54 b = 0
      · obtain ⟨k1, _⟩ := (hT b hb).1 hcc
        refine Or.inr (Int32.le_trans ?_ hv)
        rw [k1, ← hu0 (by omega) b]
        exact (hL.2.1 b hcc.1 hcc.2).2
      · exact Or.inl ((hT b hb).2 hcc)
    · rw [c1] at hv
      exact take1 (fun h => hr1 (hr.mpr h)) (fun h => hp2 (p2.mpr h)) hs (fun _ => hv) (fun h => absurd (p1.mp he) (by omega)) (fun h => absurd (p1.mp he) (by omega))
    · -- round 1
      have q0 : ¬ p = 0 := fun h => hz (p0.mpr h)
      have q1 : ¬ p = 1 := fun h => hne (p1.mpr h)
      have q2 : ¬ p = 2 := fun h => hp2 (p2.mpr h)
      rw [← hW, pAct_1 (hr.mp hr1)]
      unfold note1
      rw [if_neg q0, if_pos (by omega), if_pos (decide_eq_true hsrc)]
    · rw [← hW, pAct_1 (hr.mp hr1)]
      unfold note1
      rw [if_pos (p0.mp hz), if_pos (decide_eq_true hsrc)]
    · have q1 : ¬ p = 1 := fun h => hne (p1.mpr h)
      have q2 : ¬ p = 2 := fun h => hp2 (p2.mpr h)
      rw [← hW, pAct_1 (hr.mp hr1)]
      unfold note1
      rw [decide_eq_false hsrc]
      by_cases q0 : p = 0
      · rw [if_pos q0]; rfl
      · rw [if_neg q0, if_pos (by omega)]; rfl
    · have q1 := p1.mp he
      rw [← hW, pAct_1 (hr.mp hr1)]
      unfold note1
      rw [if_neg (by omega), if_neg (by omega)]
    · rw [c1, (h1 (hr.mp hr1)).2.1 (p1.mp he)]; exact encmk
    · -- CHOICE, odd, no notes
      have q2 := p2.mp hp2
      rw [c1] at hv
      rw [← hW]
      by_cases hr1 : r = 1
      · rw [pAct_1 hr1]
        unfold note1
        rw [if_neg (by omega), if_neg (by omega)]
      · rw [pAct_o hr1 q2 (fun h => hodd (rm.mpr h))]
        refine oAct_1 hv (fun b hb => ?_)
        rw [m_none hT (none_ hs) b hb]; decide
    · have q2 := p2.mp hp2
      rw [c1] at hv
      rw [← hW]
      by_cases hr1 : r = 1
      · rw [pAct_1 hr1]
        unfold note1
        rw [if_neg (by omega), if_neg (by omega)]
      · rw [pAct_o hr1 q2 (fun h => hodd (rm.mpr h))]
        exact oAct_1 hv (no_m1 hT (hu0 (by omega)) hL (Or.inr hm1) (Or.inr (some_ hs).1) hle)
    · have q2 := p2.mp hp2
      rw [c1] at hv e1
      have hfar := hf0 (by omega)
      have s1 := (some_ hs).1
      rw [hm1, hfar] at s1
      refine ⟨_, s_Mo_writer2 G σ1 n a (-1) 0 hle ha (wr 0 (-1) _ σ1 e1 s1), ?_⟩
      rintro x3 σ2 ⟨e2, b, rfl, hw⟩
      have hw := wr2 0 (-1) _ σ1 b e1 hw
      refine ⟨i1, fun σ4 e4 => ⟨_, rfl, AR2 (v := 2) e1 (by rw [c1, e2] at e4; exact e4) ?_ enc2⟩⟩
      have hr1 : ¬ r = 1 := fun h => by
        obtain ⟨b, hb, h2, _⟩ := s1
        exact h2 ((h1 h).1 b hb)
      rw [← hW, pAct_o hr1 q2 (fun h => hodd (rm.mpr h))]
      exact oAct_2 hle hT (u := vb σ 0 a) (fun b => by unfold vb; rw [if_pos rfl, Int32.add_zero]) hv hw
    · have q2 := p2.mp hp2
      rw [c1] at hv
      have hev := rm.mp hev
      rw [← hW, pAct_i (by omega) q2 hev]
      exact iAct_1 hv ((rv_iff hT (hu0 (by omega)) hle hL).mp hri)
    · have q2 := p2.mp hp2
      rw [c1] at hv
      have hev := rm.mp hev
      rw [← hW, pAct_i (by omega) q2 hev, iAct_2 hv (fun h => hri ((rv_iff hT (hu0 (by omega)) hle hL).mpr h)), hv]
    · have q2 := p2.mp hp2
      rw [c1] at hv
      have hr1 : ¬ r = 1 := fun h => hv ((h1 h).2.2 q2)
      rw [← hW]
      by_cases h2 : r % 2 = 0
      · rw [pAct_i hr1 q2 h2]; exact iAct_0 hv
      · rw [pAct_o hr1 q2 h2]; exact oAct_0 hv
  -- the loop
  have loop : ∀ far : Int32, (p = 3 → ¬ far = 0) → (¬ p = 3 → far = 0) → zZ G M_Mo_act 1 X (fun rr τ => ∃ x : Int32, rr = some (.int x) ∧ AR σ τ at_ W x) 31 [(0, zf G 32), (1, .int (nI at_)), (2, .int (nI a)), (3, .int (nI r)), (4, .int far), (5, .int (2000 : Int32)), (6, .int (-2000 : Int32)), (7, .int (0 : Int32)), (8, .int (0 : Int32))] [] σ := by
    intro far hf3 hf0
    refine z_for n (fun i (q : Int32 × Int32 × Int32) => zZ G M_Mo_act 1 X (fun rr τ => ∃ x : Int32, rr = some (.int x) ∧ AR σ τ at_ W x) 31 [(0, zf G 32), (1, .int (nI at_)), (2, .int (nI a)), (3, .int (nI r)), (4, .int far), (5, .int q.1), (6, .int q.2.1), (7, .int q.2.2), (8, .int (nI i))] [] σ) (fun i q => LMR i (σ 54) (vb σ far a) (σ 34 a) a q.1 q.2.1 q.2.2) ?_ ?_ 0 (2000, -2000, 0) (Nat.zero_le _) LMR_0
    · intro i ⟨le, mo, ri⟩ hi hI ih
      dsimp only at hI ih ⊢
      have ii : vp_in (nI i) 12 := vp_in_nI (by omega) (by decide)
      have ci : (nI i).toNatClampNeg = i := nI_clamp (by omega)
      have cia : (((12 : Int32) * nI i) + nI a).toNatClampNeg = 12 * i + a := by rw [zi12']; exact nI_clamp (by omega)
      -- the note of node i is looked at
      have see : ∀ v : Int32, ¬ σ 54 i = 0 → v = vb σ far a i → ∀ le' mo' : Int32, ((le' = v ∧ ¬ le ≤ v) ∨ (le' = le ∧ le ≤ v)) → ((mo' = v ∧ ¬ v ≤ mo) ∨ (mo' = mo ∧ v ≤ mo)) → zZ G M_Mo_act 1 X (fun rr τ => ∃ x : Int32, rr = some (.int x) ∧ AR σ τ at_ W x) 113 [(0, zf G 32), (1, .int (nI at_)), (2, .int (nI a)), (3, .int (nI r)), (4, .int far), (5, .int le'), (6, .int mo'), (7, .int ri), (8, .int (nI i)), (9, .int v)] [] σ := by
        intro v ht hv le' mo' hl hm
        have hb := hvb far i hi ht
        have nx : ∀ g : Int32, (¬ g = 0 ↔ (¬ ri = 0 ∨ σ 34 a < v ∨ (v = σ 34 a ∧ a < i))) → zZ G M_Mo_act 1 X (fun rr τ => ∃ x : Int32, rr = some (.int x) ∧ AR σ τ at_ W x) 31 [(0, zf G 32), (1, .int (nI at_)), (2, .int (nI a)), (3, .int (nI r)), (4, .int far), (5, .int le'), (6, .int mo'), (7, .int g), (8, .int (nI i + 1))] [] σ := by
          intro g hg
          rw [nI_1]
          rw [hv] at hl hm hg
          exact ih (le', mo', g) (LMR_take hI ht (by omega) hl hm hg)
        have one : ∀ h : (¬ ri = 0 ∨ σ 34 a < v ∨ (v = σ 34 a ∧ a < i)), (¬ (1 : Int32) = 0 ↔ (¬ ri = 0 ∨ σ 34 a < v ∨ (v = σ 34 a ∧ a < i))) := fun h => ⟨fun _ => h, fun _ => by decide⟩
        have zero : ∀ h : ¬ (¬ ri = 0 ∨ σ 34 a < v ∨ (v = σ 34 a ∧ a < i)), (¬ (0 : Int32) = 0 ↔ (¬ ri = 0 ∨ σ 34 a < v ∨ (v = σ 34 a ∧ a < i))) := fun h => ⟨fun q => absurd rfl q, fun q => absurd q h⟩
        refine b_Mo_act_113 E (nI at_) (nI a) (nI r) far le' mo' ri (nI i) v σ ?_
        rw [ca, nI_leI (a := i) (b := a) (by omega) (by omega)]
        refine ⟨fun h7 => nx 1 (one (Or.inl h7)), fun h7 => ⟨ia, fun h => nx 1 (one (Or.inr (Or.inl h))), fun h => ⟨ia, fun h2 => nx 0 (zero ?_), fun h2 => ⟨fun h3 => nx 0 (zero ?_), fun h3 => nx 1 (one (Or.inr (Or.inr ⟨h2, by omega⟩)))⟩⟩⟩⟩
        · rintro (q | q | q)
          · exact q h7
          · exact h q
          · exact h2 q.1
        · rintro (q | q | q)
          · exact q h7
          · exact h q
          · omega
      refine b_Mo_act_31 E (nI at_) (nI a) (nI r) far le mo ri (nI i) σ ⟨fun q => absurd q (by rw [hn]; exact nI_ge hi (by omega)), fun _ => ⟨ii, fun h54 => ?_, fun ht => ⟨ii, fun hf => ?_, fun hf => ⟨by rw [zi12']; exact vp_in_nI (by omega) (by decide), ?_⟩⟩⟩⟩
      · rw [nI_1]
        exact ih (le, mo, ri) (LMR_skip hI (by rw [ci] at h54; exact h54))
      · rw [ci] at ht ⊢
        have hv : σ 55 i + (0 : Int32) = vb σ far a i := by unfold vb; rw [if_pos hf]
        exact ⟨fun h1 => ⟨fun h2 => see _ ht hv _ _ (Or.inr ⟨rfl, h1⟩) (Or.inr ⟨rfl, h2⟩), fun h2 => see _ ht hv _ _ (Or.inr ⟨rfl, h1⟩) (Or.inl ⟨rfl, h2⟩)⟩, fun h1 => ⟨fun h2 => see _ ht hv _ _ (Or.inl ⟨rfl, h1⟩) (Or.inr ⟨rfl, h2⟩), fun h2 => see _ ht hv _ _ (Or.inl ⟨rfl, h1⟩) (Or.inl ⟨rfl, h2⟩)⟩⟩
      · rw [ci] at ht ⊢
        rw [cia]
        have hv : σ 55 i + σ 33 (12 * i + a) = vb σ far a i := by unfold vb; rw [if_neg hf]
        exact ⟨fun h1 => ⟨fun h2 => see _ ht hv _ _ (Or.inr ⟨rfl, h1⟩) (Or.inr ⟨rfl, h2⟩), fun h2 => see _ ht hv _ _ (Or.inr ⟨rfl, h1⟩) (Or.inl ⟨rfl, h2⟩)⟩, fun h1 => ⟨fun h2 => see _ ht hv _ _ (Or.inl ⟨rfl, h1⟩) (Or.inr ⟨rfl, h2⟩), fun h2 => see _ ht hv _ _ (Or.inl ⟨rfl, h1⟩) (Or.inl ⟨rfl, h2⟩)⟩⟩
    · intro ⟨le, mo, ri⟩ hI
      dsimp only at hI ⊢
      exact b_Mo_act_31 E (nI at_) (nI a) (nI r) far le mo ri (nI n) σ ⟨fun _ => ⟨fun hmo => last far le mo ri 0 hI ⟨fun _ => hmo, fun q => absurd rfl q⟩ hf3 hf0, fun hmo => last far le mo ri 1 hI ⟨fun q => absurd q (by decide), fun _ => hmo⟩ hf3 hf0⟩, fun q => absurd (by rw [hn]; exact nI_le (Nat.le_refl n) (by omega)) q⟩
  exact b_Mo_act_0 E (nI at_) (nI a) (nI r) σ ⟨fun h3 => loop 0 (fun h => absurd (p3.mpr h) h3) (fun _ => rfl), fun h3 => loop 1 (fun _ => by decide) (fun h => absurd (p3.mp h3) h)⟩
end
section
-- The program in step: pure
def first0 (p : Nat) (me : Bool) (mk : Int32) : Int32 := if p = 1 then mk else if p = 2 then 0 else if me = true then 0 else -2
def sV (p : Nat) (src : Int32) (n : Nat) (mk : Nat → Int32) (len : Nat → Nat → Int32) (lk : Nat → Nat → Bool) : Nat → Nat → Int32 × Int32 × Int32
  | 0, a => (first0 p (decide (nI a = src)) (mk a), -2, -2)
  | r + 1, a => pAct p (r + 1) a (decide (nI a = src)) (mk a) (len a) (fun b => if b < n ∧ lk a b = true then (sV p src n mk len lk r b).2.2 else -2) (sV p src n mk len lk r a).1 (sV p src n mk len lk r a).2.1
theorem fi_congr {P Q : Nat → Bool} : ∀ {i : Nat}, (∀ c, c < i → P c = Q c) → fi P i = fi Q i := by
  intro i
  induction i with
  | zero => intro _; rfl
  | succ i ih =>
    intro h
    unfold fi
    rw [ih (fun c hc => h c (by omega)), h i (by omega)]
theorem gScan_congr {m m' : Nat → Int32} {v q : Int32} : ∀ {i : Nat}, (∀ c, c < i → m c = m' c) → gScan m v q i = gScan m' v q i := by
  intro i
  induction i with
  | zero => intro _; rfl
  | succ i ih =>
    intro h
    unfold gScan
    rw [ih (fun c hc => h c (by omega)), h i (by omega)]
theorem lScan_congr {m m' len len' : Nat → Int32} {v q : Int32} : ∀ {i : Nat}, (∀ c, c < i → m c = m' c) → (∀ c, c < i → len c = len' c) → lScan m len v q i = lScan m' len' v q i := by
  intro i
  induction i with
  | zero => intro _ _; rfl
  | succ i ih =>
    intro h h2
    unfold lScan
    rw [ih (fun c hc => h c (by omega)) (fun c hc => h2 c (by omega)), h i (by omega), h2 i (by omega)]
theorem fi_some {P : Nat → Bool} {b : Nat} : ∀ {i : Nat}, fi P i = some b → b < i ∧ P b = true := by
  intro i
  induction i with
  | zero => intro h; exact absurd h (by simp [fi])
  | succ i ih =>
    intro h
    unfold fi at h
    cases hf : fi P i with
    | some c =>
      rw [hf] at h
      have e : c = b := Option.some.inj h
      rw [e] at hf
      have := ih hf
      exact ⟨by omega, this.2⟩
    | none =>
      rw [hf] at h
      by_cases hp : P i = true
      · rw [if_pos hp] at h
        have e : i = b := Option.some.inj h
        rw [← e]; exact ⟨by omega, hp⟩
      · rw [if_neg hp] at h
        exact absurd h (by simp)
theorem pAct_congr {p r a : Nat} {me : Bool} {mk : Int32} {len len' m m' : Nat → Int32} {v q : Int32} (hm : ∀ b, b < 12 → m b = m' b) (hl : ∀ b, b < 12 → len b = len' b) : pAct p r a me mk len m v q = pAct p r a me mk len' m' v q := by
  have e1 : wAct m v q = wAct m' v q := by
    unfold wAct
    rw [fi_congr (Q := fun b => decide (¬ m' b = -2)) (fun c hc => by rw [hm c hc])]
    cases hf : fi (fun b => decide (¬ m' b = -2)) 12 with
    | none => rfl
    | some b =>
      dsimp only
      rw [hm b (fi_some hf).1]
  have e2 : gAct m v q = gAct m' v q := by unfold gAct; rw [gScan_congr hm]
  have e3 : iAct m mk a v q = iAct m' mk a v q := by
    unfold iAct
    rw [fi_congr (Q := rv m' mk a) (fun c hc => by unfold rv; rw [hm c hc])]
  have e4 : oAct m mk v q = oAct m' mk v q := by
    unfold oAct
    rw [fi_congr (Q := fun b => decide (m' b = -1)) (fun c hc => by rw [hm c hc])]
  have e5 : lAct m len v q = lAct m' len' v q := by unfold lAct; rw [lScan_congr hm hl]
  unfold pAct
  rw [e1, e2, e3, e4, e5]
theorem gScan_of {m : Nat → Int32} {v q : Int32} : ∀ {i : Nat}, (gScan m v q i).1 = v ∨ ∃ b, b < i ∧ ¬ m b = -2 ∧ (gScan m v q i).1 = m b := by
  intro i
  induction i with
  | zero => exact Or.inl rfl
  | succ i ih =>
    unfold gScan
    split
    · rename_i h; exact Or.inr ⟨i, by omega, h.1, rfl⟩
    · rcases ih with h | ⟨b, hb, h⟩
      · exact Or.inl h
      · exact Or.inr ⟨b, by omega, h⟩
theorem lScan_of {m len : Nat → Int32} {v q : Int32} : ∀ {i : Nat}, (lScan m len v q i).1 = v ∨ ∃ b, b < i ∧ ¬ m b = -2 ∧ (lScan m len v q i).1 = m b + len b := by
  intro i
  induction i with
  | zero => exact Or.inl rfl
  | succ i ih =>
    unfold lScan
    split
    · rename_i h; exact Or.inr ⟨i, by omega, h.1, rfl⟩
    · rcases ih with h | ⟨b, hb, h⟩
      · exact Or.inl h
      · exact Or.inr ⟨b, by omega, h⟩
/-- what may be written in round r -/
def WB (r : Nat) (w : Int32) : Prop := w = -2 ∨ (-1 ≤ w.toInt ∧ w.toInt ≤ 100 + 10 * (r : Int))
theorem pAct_bd {p r a : Nat} {me : Bool} {mk : Int32} {len m : Nat → Int32} {v q : Int32} (hr : 1 ≤ r) (hr2 : r ≤ 100) (hk : 0 ≤ mk.toInt ∧ mk.toInt ≤ 99) (hl : ∀ b, b < 12 → 0 ≤ (len b).toInt ∧ (len b).toInt ≤ 9) (hm : ∀ b, b < 12 → WB (r - 1) (m b)) : WB r (pAct p r a me mk len m v q).2.2 := by
  have z0 : (0 : Int32).toInt = 0 := by decide
  have z1 : (1 : Int32).toInt = 1 := by decide
  have zm1 : (-1 : Int32).toInt = -1 := by decide
  have hmk : WB r mk := Or.inr (by omega)
  have hnn : WB r (-2) := Or.inl rfl
  unfold pAct
  split
  · show WB r (note1 p me mk)
    unfold note1
    split
    · split
      · exact Or.inr (by rw [z1]; omega)
      · exact hnn
    · split
      · split
        · exact Or.inr (by rw [z0]; omega)
        · exact hnn
      · exact hmk
  · split
    · unfold wAct
      split
      · cases hf : fi (fun b => decide (¬ m b = -2)) 12 with
        | none => exact hnn
        | some b =>
          obtain ⟨hb, h2⟩ := fi_some hf
          have h2 := of_decide_eq_true h2
          show WB r (m b + 1)
          rcases hm b hb with h | h
          · exact absurd h h2
          · refine Or.inr ?_
            rw [i32_add (by omega) (by rw [z1]; decide), z1]
            omega
      · exact hnn
    · split
      · show WB r (if (gScan m v q 12).1 = v then -2 else (gScan m v q 12).1)
        split
        · exact hnn
        · rename_i hne
          rcases gScan_of (m := m) (v := v) (q := q) (i := 12) with h | ⟨b, hb, h1, h2⟩
          · exact absurd h hne
          · rw [h2]
            rcases hm b hb with h | h
            · exact absurd h h1
            · exact Or.inr (by omega)
      · split
        · split
          · unfold iAct
            split
            · split
              · exact Or.inr (by show -1 ≤ (-1 : Int32).toInt ∧ (-1 : Int32).toInt ≤ _; rw [zm1]; omega)
              · exact hnn
            · exact hnn
          · unfold oAct
            split
            · cases hf : fi (fun b => decide (m b = -1)) 12 with
              | none => exact hmk
              | some b => exact hnn
            · exact hnn
        · show WB r (if (lScan m len v q 12).1 = v then -2 else (lScan m len v q 12).1)
          split
          · exact hnn
          · rename_i hne
            rcases lScan_of (m := m) (len := len) (v := v) (q := q) (i := 12) with h | ⟨b, hb, h1, h2⟩
            · exact absurd h hne
            · rw [h2]
              rcases hm b hb with h | h
              · exact absurd h h1
              · have := hl b hb
                refine Or.inr ?_
                rw [i32_add (by omega) (by omega)]
                omega
section SV
variable {p n : Nat} {src : Int32} {mk : Nat → Int32} {len : Nat → Nat → Int32} {lk : Nat → Nat → Bool}
theorem sV_bd (hk : ∀ a, a < 12 → 0 ≤ (mk a).toInt ∧ (mk a).toInt ≤ 99) (hl : ∀ a b, a < 12 → b < 12 → 0 ≤ (len a b).toInt ∧ (len a b).toInt ≤ 9) : ∀ r a, r ≤ 100 → a < 12 → WB r (sV p src n mk len lk r a).2.2 := by
  intro r
  induction r with
  | zero => intro a _ _; exact Or.inl rfl
  | succ r ih =>
    intro a hr ha
    unfold sV
    refine pAct_bd (by omega) hr (hk a ha) (fun b hb => hl a b ha hb) (fun b hb => ?_)
    by_cases h : b < n ∧ lk a b = true
    · rw [if_pos h]; exact ih b (by omega) hb
    · rw [if_neg h]; exact Or.inl rfl
/-- WAVES: every note of round r is r -/
theorem sV_wave (hp : p = 0) : ∀ r a, (sV p src n mk len lk r a).2.2 = -2 ∨ (sV p src n mk len lk r a).2.2 = nI r := by
  intro r
  induction r with
  | zero => intro a; exact Or.inl rfl
  | succ r ih =>
    intro a
    unfold sV pAct
    split
    · rename_i h1
      have : r = 0 := by omega
      subst this
      show note1 p _ _ = -2 ∨ note1 p _ _ = nI 1
      unfold note1
      rw [if_pos hp]
      split
      · exact Or.inr rfl
      · exact Or.inl rfl
    · unfold wAct
      split
      · split
        · rename_i b hf
          obtain ⟨hb, h2⟩ := fi_some hf
          have h2 := of_decide_eq_true h2
          dsimp only at h2
          by_cases h : b < n ∧ lk a b = true
          · rw [if_pos h] at h2
            refine Or.inr ?_
            show (if b < n ∧ lk a b = true then (sV p src n mk len lk r b).2.2 else -2) + 1 = nI (r + 1)
            rw [if_pos h]
            rcases ih b with h3 | h3
            · exact absurd h3 h2
            · rw [h3]; exact nI_1 r
          · rw [if_neg h] at h2; exact absurd rfl h2
        · exact Or.inl rfl
      · exact Or.inl rfl
end SV
end
section
-- The class's rounds, exactly
theorem upd_upd {f : Nat → Int32} {i : Nat} {x y : Int32} : upd (upd f i x) i y = upd f i y := by
  funext j
  unfold upd
  by_cases h : j = i
  · rw [if_pos h, if_pos h]
  · rw [if_neg h, if_neg h, if_neg h]
theorem upd_eq {f : Nat → Int32} {i : Nat} {x : Int32} : upd f i x i = x := by unfold upd; rw [if_pos rfl]
theorem upd_ne {f : Nat → Int32} {i j : Nat} {x : Int32} (h : j ≠ i) : upd f i x j = f j := by unfold upd; rw [if_neg h]
/-- what a round leaves: the value and the parent of a, and what is written -/
def CR (σ τ : zSt) (a : Nat) (w : Int32 × Int32 × Int32) (x : Int32) : Prop := zFr [16, 17] σ τ ∧ τ 16 = upd (σ 16) a w.1 ∧ τ 17 = upd (σ 17) a w.2.1 ∧ x = w.2.2
theorem CR0 {σ : zSt} {a : Nat} {w : Int32 × Int32 × Int32} {x : Int32} (hw : w = (σ 16 a, σ 17 a, x)) : CR σ σ a w x := by
  rw [hw]; exact ⟨zFr.rf, upd_same.symm, upd_same.symm, rfl⟩
theorem CR1 {σ τ : zSt} {a : Nat} {w : Int32 × Int32 × Int32} {x v : Int32} (e : τ = zup σ 16 a v) (hw : w = (v, σ 17 a, x)) : CR σ τ a w x := by
  rw [hw, e]
  exact ⟨zFr.rf.up (by decide), by rw [zup_self], by rw [zup_ne (by decide)]; exact upd_same.symm, rfl⟩
theorem CR2 {σ τ υ : zSt} {a : Nat} {w : Int32 × Int32 × Int32} {x v q : Int32} (e : τ = zup σ 16 a v) (e2 : υ = zup τ 17 a q) (hw : w = (v, q, x)) : CR σ υ a w x := by
  rw [hw, e2, e]
  exact ⟨(zFr.rf.up (by decide)).up (by decide), by rw [zup_ne (by decide), zup_self], by rw [zup_self, zup_ne (by decide)], rfl⟩
theorem s_Play_takeWave2 (G : zG) (σ : zSt) (a w : Nat) (ha : a < 12) (hw : w + 12 ≤ 288) : zI G 0 M_Play_takeWave [zf G 4, .int (nI a), .int (nI w)] σ (fun x τ => CR σ τ a (wAct (fun b => σ 18 (w + b)) (σ 16 a) (σ 17 a)) x) := by
  have ia : vp_in (nI a) 12 := vp_in_nI ha (by decide)
  have ca : (nI a).toNatClampNeg = a := nI_clamp (by omega)
  generalize hW : wAct (fun b => σ 18 (w + b)) (σ 16 a) (σ 17 a) = W
  refine zSpec.of (by decide) (Nat.le_of_ble_eq_true rfl) rfl (fun X E => ?_)
  refine b_Play_takeWave_0 E (nI a) (nI w) σ ?_
  refine z_for 12 (fun i (_ : Unit) => zZ G M_Play_takeWave 0 X (fun r τ => ∃ x : Int32, r = some (.int x) ∧ CR σ τ a W x) 2 [(0, zf G 4), (1, .int (nI a)), (2, .int (nI w)), (3, .int (nI i))] [] σ) (fun i _ => ∀ c, c < i → σ 18 (w + c) = -2) ?_ ?_ 0 () (Nat.zero_le _) (fun c hc => absurd hc (Nat.not_lt_zero c))
  · intro i _ hi hI ih
    have ii := ix288 hw hi
    have ci : (nI w + nI i).toNatClampNeg = w + i := by rw [nI_add]; exact nI_clamp (by omega)
    refine b_Play_takeWave_2 E (nI a) (nI w) (nI i) σ ⟨fun q => absurd q (nI_ge hi (by decide)), fun _ => ⟨ia, fun hv => ⟨_, rfl, CR0 ?_⟩, fun hv => ⟨ii, fun h18 => ?_, fun h18 => ⟨ii, ia, fun σ1 e1 => ⟨ia, fun σ2 e2 => ⟨ia, _, rfl, CR2 (τ := σ1) (v := σ 18 (w + i)) (q := nI i) (by rw [ca, ci] at e1; exact e1) (by rw [ca] at e2; exact e2) ?_⟩⟩⟩⟩⟩⟩
    · rw [ca] at hv
      rw [← hW]; exact wAct_0 (Or.inl hv)
    · rw [ci] at h18
      rw [nI_1]
      refine ih () (fun c hc => ?_)
      by_cases e : c = i
      · rw [e]; exact h18
      · exact hI c (by omega)
    · rw [ca] at hv e1 e2 ⊢
      rw [ci] at h18 e1
      have e16 : σ2 16 a = σ 18 (w + i) := by rw [e2, zup_ne (by decide), e1, zup_self, upd_eq]
      rw [e16, ← hW]
      unfold wAct
      rw [if_pos hv, fi_at (b := i) hi (by simp [h18]) (fun c hc => by simp [hI c hc])]
  · intro _ hI
    exact b_Play_takeWave_2 E (nI a) (nI w) (nI 12) σ ⟨fun _ => ⟨_, rfl, CR0 (by rw [← hW]; exact wAct_0 (Or.inr hI))⟩, fun q => absurd (by decide) q⟩
theorem s_Play_takeGreatest2 (G : zG) (σ : zSt) (a w : Nat) (ha : a < 12) (hw : w + 12 ≤ 288) : zI G 0 M_Play_takeGreatest [zf G 4, .int (nI a), .int (nI w)] σ (fun x τ => CR σ τ a (gAct (fun b => σ 18 (w + b)) (σ 16 a) (σ 17 a)) x) := by
  have ia : vp_in (nI a) 12 := vp_in_nI ha (by decide)
  have ca : (nI a).toNatClampNeg = a := nI_clamp (by omega)
  generalize hm : (fun b => σ 18 (w + b)) = m
  generalize hW : gAct m (σ 16 a) (σ 17 a) = W
  refine zSpec.of (by decide) (Nat.le_of_ble_eq_true rfl) rfl (fun X E => ?_)
  refine b_Play_takeGreatest_0 E (nI a) (nI w) σ ⟨ia, ?_⟩
  rw [ca]
  refine z_for 12 (fun i τ => zZ G M_Play_takeGreatest 0 X (fun r τ => ∃ x : Int32, r = some (.int x) ∧ CR σ τ a W x) 10 [(0, zf G 4), (1, .int (nI a)), (2, .int (nI w)), (3, .int (σ 16 a)), (4, .int (nI i))] [] τ) (fun i τ => zFr [16, 17] σ τ ∧ τ 16 = upd (σ 16) a (gScan m (σ 16 a) (σ 17 a) i).1 ∧ τ 17 = upd (σ 17) a (gScan m (σ 16 a) (σ 17 a) i).2) ?_ ?_ 0 σ (Nat.zero_le _) ⟨zFr.rf, upd_same.symm, upd_same.symm⟩
  · intro i τ hi ⟨hF, h16, h17⟩ ih
    have ii := ix288 hw hi
    have ci : (nI w + nI i).toNatClampNeg = w + i := by rw [nI_add]; exact nI_clamp (by omega)
    have v16 : τ 16 a = (gScan m (σ 16 a) (σ 17 a) i).1 := by rw [h16, upd_eq]
    have v18 : τ 18 (w + i) = m i := by rw [hF 18 (by decide), ← hm]
    have same : gScan m (σ 16 a) (σ 17 a) (i + 1) = gScan m (σ 16 a) (σ 17 a) i → zZ G M_Play_takeGreatest 0 X (fun r τ => ∃ x : Int32, r = some (.int x) ∧ CR σ τ a W x) 10 [(0, zf G 4), (1, .int (nI a)), (2, .int (nI w)), (3, .int (σ 16 a)), (4, .int (nI i + 1))] [] τ := fun e => by
      rw [nI_1]
      exact ih τ ⟨hF, by rw [e]; exact h16, by rw [e]; exact h17⟩
    refine b_Play_takeGreatest_10 E (nI a) (nI w) (σ 16 a) (nI i) τ ⟨fun q => absurd q (nI_ge hi (by decide)), fun _ => ⟨ii, fun h1 => same ?_, fun h1 => ⟨ii, ia, fun h2 => same ?_, fun h2 => ⟨ii, ia, fun σ1 e1 => ⟨ia, fun σ2 e2 => ?_⟩⟩⟩⟩⟩
    · rw [ci, v18] at h1
      show (if _ then _ else _) = _
      rw [if_neg (fun q => q.1 h1)]
    · rw [ca, ci, v18, v16] at h2
      show (if _ then _ else _) = _
      rw [if_neg (fun q => absurd q.2 (Int32.not_lt.mpr h2))]
    · rw [ca, ci, v18] at e1
      rw [ca] at e2
      rw [ci, v18] at h1
      rw [ca, ci, v18, v16] at h2
      have e : gScan m (σ 16 a) (σ 17 a) (i + 1) = (m i, nI i) := by
        show (if _ then _ else _) = _
        rw [if_pos ⟨h1, Int32.not_le.mp h2⟩]
      rw [nI_1]
      refine ih σ2 ⟨?_, ?_, ?_⟩
      · rw [e2, e1]; exact (hF.up (by decide)).up (by decide)
      · rw [e, e2, zup_ne (by decide), e1, zup_self, h16, upd_upd]
      · rw [e, e2, zup_self, e1, zup_ne (by decide), h17, upd_upd]
  · intro τ ⟨hF, h16, h17⟩
    have v16 : τ 16 a = (gScan m (σ 16 a) (σ 17 a) 12).1 := by rw [h16, upd_eq]
    refine b_Play_takeGreatest_10 E (nI a) (nI w) (σ 16 a) (nI 12) τ ⟨fun _ => ⟨ia, fun hne => ⟨ia, _, rfl, ?_⟩, fun he => ⟨_, rfl, ?_⟩⟩, fun q => absurd (by decide) q⟩
    · rw [ca, v16] at hne ⊢
      rw [← hW]
      refine ⟨hF, h16, h17, ?_⟩
      show _ = (if _ then _ else _)
      rw [if_neg hne]
    · rw [ca, v16] at he
      rw [← hW]
      refine ⟨hF, h16, h17, ?_⟩
      show _ = (if _ then _ else _)
      rw [if_pos he]
theorem s_Play_tryIn2 (G : zG) (σ : zSt) (a w : Nat) (ha : a < 12) (hw : w + 12 ≤ 288) : zI G 0 M_Play_tryIn [zf G 4, zf G 2, .int (nI a), .int (nI w)] σ (fun x τ => CR σ τ a (iAct (fun b => σ 18 (w + b)) (σ 6 a) a (σ 16 a) (σ 17 a)) x) := by
  have ia : vp_in (nI a) 12 := vp_in_nI ha (by decide)
  have ca : (nI a).toNatClampNeg = a := nI_clamp (by omega)
  generalize hm : (fun b => σ 18 (w + b)) = m
  generalize hW : iAct m (σ 6 a) a (σ 16 a) (σ 17 a) = W
  refine zSpec.of (by decide) (Nat.le_of_ble_eq_true rfl) rfl (fun X E => ?_)
  refine b_Play_tryIn_0 E (nI a) (nI w) σ ⟨ia, fun hv => ?_, fun hv => ⟨_, rfl, CR0 (by rw [ca] at hv; rw [← hW]; exact iAct_0 hv)⟩⟩
  rw [ca] at hv
  refine z_for 12 (fun i (_ : Unit) => zZ G M_Play_tryIn 0 X (fun r τ => ∃ x : Int32, r = some (.int x) ∧ CR σ τ a W x) 15 [(0, zf G 4), (1, zf G 2), (2, .int (nI a)), (3, .int (nI w)), (4, .int (nI i))] [] σ) (fun i _ => ∀ c, c < i → rv m (σ 6 a) a c = false) ?_ ?_ 0 () (Nat.zero_le _) (fun c hc => absurd hc (Nat.not_lt_zero c))
  · intro i _ hi hI ih
    have ii := ix288 hw hi
    have ci : (nI w + nI i).toNatClampNeg = w + i := by rw [nI_add]; exact nI_clamp (by omega)
    have v18 : σ 18 (w + i) = m i := by rw [← hm]
    have nx : rv m (σ 6 a) a i = false → zZ G M_Play_tryIn 0 X (fun r τ => ∃ x : Int32, r = some (.int x) ∧ CR σ τ a W x) 15 [(0, zf G 4), (1, zf G 2), (2, .int (nI a)), (3, .int (nI w)), (4, .int (nI i + 1))] [] σ := fun h => by
      rw [nI_1]
      refine ih () (fun c hc => ?_)
      by_cases e : c = i
      · rw [e]; exact h
      · exact hI c (by omega)
    have en : rv m (σ 6 a) a i = true → ∃ y : Int32, some (Value.int (-2 : Int32)) = some (Value.int y) ∧ CR σ σ a W y := fun h => ⟨_, rfl, CR0 (by
      rw [← hW]
      refine iAct_2 hv (fun q => ?_)
      rw [fi_none q i hi] at h
      exact absurd h (by decide))⟩
    refine b_Play_tryIn_15 E (nI a) (nI w) (nI i) σ ?_
    rw [ca, ci, v18, nI_leI (a := i) (b := a) (by omega) (by omega)]
    refine ⟨fun q => absurd q (nI_ge hi (by decide)), fun _ => ⟨ii, ia, fun h1 => ⟨fun h2 => nx (decide_eq_false (fun q => q.1 h2)), fun h2 => ⟨ia, fun h3 => en (decide_eq_true ⟨h2, Or.inl h3⟩), fun h3 => nx (decide_eq_false (fun q => q.2.elim h3 (fun q => h1 q.1)))⟩⟩, fun h1 => ⟨fun h4 => ⟨fun h2 => nx (decide_eq_false (fun q => q.1 h2)), fun h2 => ⟨ia, fun h3 => en (decide_eq_true ⟨h2, Or.inl h3⟩), fun h3 => nx (decide_eq_false (fun q => q.2.elim h3 (fun q => absurd q.2 (by omega))))⟩⟩, fun h4 => ⟨fun h2 => nx (decide_eq_false (fun q => q.1 h2)), fun h2 => ⟨ia, fun h3 => en (decide_eq_true ⟨h2, Or.inl h3⟩), fun h3 => en (decide_eq_true ⟨h2, Or.inr ⟨h1, by omega⟩⟩)⟩⟩⟩⟩⟩
  · intro _ hI
    refine b_Play_tryIn_15 E (nI a) (nI w) (nI 12) σ ⟨fun _ => ⟨ia, fun σ1 e1 => ⟨_, rfl, CR1 (v := 1) (by rw [ca] at e1; exact e1) ?_⟩⟩, fun q => absurd (by decide) q⟩
    rw [← hW]
    exact iAct_1 hv (fi_all hI)
theorem s_Play_tryOut2 (G : zG) (σ : zSt) (a w : Nat) (ha : a < 12) (hw : w + 12 ≤ 288) : zI G 0 M_Play_tryOut [zf G 4, zf G 2, .int (nI a), .int (nI w)] σ (fun x τ => CR σ τ a (oAct (fun b => σ 18 (w + b)) (σ 6 a) (σ 16 a) (σ 17 a)) x) := by
  have ia : vp_in (nI a) 12 := vp_in_nI ha (by decide)
  have ca : (nI a).toNatClampNeg = a := nI_clamp (by omega)
  generalize hm : (fun b => σ 18 (w + b)) = m
  generalize hW : oAct m (σ 6 a) (σ 16 a) (σ 17 a) = W
  refine zSpec.of (by decide) (Nat.le_of_ble_eq_true rfl) rfl (fun X E => ?_)
  refine b_Play_tryOut_0 E (nI a) (nI w) σ ⟨ia, fun hv => ?_, fun hv => ⟨_, rfl, CR0 (by rw [ca] at hv; rw [← hW]; exact oAct_0 hv)⟩⟩
  rw [ca] at hv
  refine z_for 12 (fun i (_ : Unit) => zZ G M_Play_tryOut 0 X (fun r τ => ∃ x : Int32, r = some (.int x) ∧ CR σ τ a W x) 15 [(0, zf G 4), (1, zf G 2), (2, .int (nI a)), (3, .int (nI w)), (4, .int (nI i))] [] σ) (fun i _ => ∀ c, c < i → ¬ m c = -1) ?_ ?_ 0 () (Nat.zero_le _) (fun c hc => absurd hc (Nat.not_lt_zero c))
  · intro i _ hi hI ih
    have ii := ix288 hw hi
    have ci : (nI w + nI i).toNatClampNeg = w + i := by rw [nI_add]; exact nI_clamp (by omega)
    have v18 : σ 18 (w + i) = m i := by rw [← hm]
    refine b_Play_tryOut_15 E (nI a) (nI w) (nI i) σ ?_
    rw [ca, ci, v18]
    refine ⟨fun q => absurd q (nI_ge hi (by decide)), fun _ => ⟨ii, fun h1 => ?_, fun h1 => ⟨ia, fun σ1 e1 => ⟨ia, fun σ2 e2 => ⟨_, rfl, CR2 (v := 2) (q := nI i) e1 e2 ?_⟩⟩⟩⟩⟩
    · rw [nI_1]
      refine ih () (fun c hc => ?_)
      by_cases e : c = i
      · rw [e]; exact h1
      · exact hI c (by omega)
    · rw [← hW]
      unfold oAct
      rw [if_pos hv, fi_at (b := i) hi (by simp [h1]) (fun c hc => by simp [hI c hc])]
  · intro _ hI
    refine b_Play_tryOut_15 E (nI a) (nI w) (nI 12) σ ⟨fun _ => ⟨ia, _, rfl, CR0 ?_⟩, fun q => absurd (by decide) q⟩
    rw [ca, ← hW]
    exact oAct_1 hv hI
theorem s_Play_takeLengths2 (G : zG) (σ : zSt) (a w : Nat) (ha : a < 12) (hw : w + 12 ≤ 288) : zI G 1 M_Play_takeLengths [zf G 4, zf G 2, .int (nI a), .int (nI w)] σ (fun x τ => CR σ τ a (lAct (fun b => σ 18 (w + b)) (fun b => σ 8 (a * 12 + b)) (σ 16 a) (σ 17 a)) x) := by
  have ia : vp_in (nI a) 12 := vp_in_nI ha (by decide)
  have ca : (nI a).toNatClampNeg = a := nI_clamp (by omega)
  generalize hm : (fun b => σ 18 (w + b)) = m
  generalize hl : (fun b => σ 8 (a * 12 + b)) = len
  generalize hW : lAct m len (σ 16 a) (σ 17 a) = W
  refine zSpec.of (by decide) (Nat.le_of_ble_eq_true rfl) rfl (fun X E => ?_)
  refine b_Play_takeLengths_0 E (nI a) (nI w) σ ⟨ia, ?_⟩
  rw [ca]
  refine z_for 12 (fun i τ => zZ G M_Play_takeLengths 1 X (fun r τ => ∃ x : Int32, r = some (.int x) ∧ CR σ τ a W x) 11 [(0, zf G 4), (1, zf G 2), (2, .int (nI a)), (3, .int (nI w)), (4, .int (σ 16 a)), (5, .int (nI i))] [] τ) (fun i τ => zFr [16, 17] σ τ ∧ τ 16 = upd (σ 16) a (lScan m len (σ 16 a) (σ 17 a) i).1 ∧ τ 17 = upd (σ 17) a (lScan m len (σ 16 a) (σ 17 a) i).2) ?_ ?_ 0 σ (Nat.zero_le _) ⟨zFr.rf, upd_same.symm, upd_same.symm⟩
  · intro i τ hi ⟨hF, h16, h17⟩ ih
    have ii := ix288 hw hi
    have ci : (nI w + nI i).toNatClampNeg = w + i := by rw [nI_add]; exact nI_clamp (by omega)
    have c8 : (nI a * 12 + nI i).toNatClampNeg = a * 12 + i := by rw [zi12]; exact nI_clamp (by omega)
    have v16 : τ 16 a = (lScan m len (σ 16 a) (σ 17 a) i).1 := by rw [h16, upd_eq]
    have v18 : τ 18 (w + i) = m i := by rw [hF 18 (by decide), ← hm]
    have v8 : τ 8 (a * 12 + i) = len i := by rw [hF 8 (by decide), ← hl]
    have same : lScan m len (σ 16 a) (σ 17 a) (i + 1) = lScan m len (σ 16 a) (σ 17 a) i → zZ G M_Play_takeLengths 1 X (fun r τ => ∃ x : Int32, r = some (.int x) ∧ CR σ τ a W x) 11 [(0, zf G 4), (1, zf G 2), (2, .int (nI a)), (3, .int (nI w)), (4, .int (σ 16 a)), (5, .int (nI i + 1))] [] τ := fun e => by
      rw [nI_1]
      exact ih τ ⟨hF, by rw [e]; exact h16, by rw [e]; exact h17⟩
    have tail : ∀ y : Int32, (y = 0 ↔ ¬ ((lScan m len (σ 16 a) (σ 17 a) i).1 = -2 ∨ m i + len i < (lScan m len (σ 16 a) (σ 17 a) i).1)) → zZ G M_Play_takeLengths 1 X (fun r τ => ∃ x : Int32, r = some (.int x) ∧ CR σ τ a W x) 70 [(0, zf G 4), (1, zf G 2), (2, .int (nI a)), (3, .int (nI w)), (4, .int (σ 16 a)), (5, .int (nI i)), (6, .int (m i + len i)), (7, .int y)] [] τ := by
      intro y hy
      refine b_Play_takeLengths_70 E (nI a) (nI w) (σ 16 a) (nI i) (m i + len i) y τ ⟨ii, fun h1 => same ?_, fun h1 => ⟨fun h2 => same ?_, fun h2 => ⟨ia, fun σ1 e1 => ⟨ia, fun σ2 e2 => ?_⟩⟩⟩⟩
      · rw [ci, v18] at h1
        show (if _ then _ else _) = _
        rw [if_neg (fun q => q.1 h1)]
      · show (if _ then _ else _) = _
        rw [if_neg (fun q => (hy.mp h2) q.2)]
      · rw [ca] at e1 e2
        rw [ci, v18] at h1
        have e : lScan m len (σ 16 a) (σ 17 a) (i + 1) = (m i + len i, nI i) := by
          show (if _ then _ else _) = _
          rw [if_pos ⟨h1, Decidable.byContradiction (fun q => h2 (hy.mpr q))⟩]
        rw [nI_1]
        refine ih σ2 ⟨?_, ?_, ?_⟩
        · rw [e2, e1]; exact (hF.up (by decide)).up (by decide)
        · rw [e, e2, zup_ne (by decide), e1, zup_self, h16, upd_upd]
        · rw [e, e2, zup_self, e1, zup_ne (by decide), h17, upd_upd]
    refine b_Play_takeLengths_11 E (nI a) (nI w) (σ 16 a) (nI i) τ ?_
    rw [ca, ci, c8, v16, v18, v8]
    refine ⟨fun q => absurd q (nI_ge hi (by decide)), fun _ => ⟨ii, ix144 ha hi, ia, fun h1 => tail _ ⟨fun q => absurd q (by decide), fun q => absurd (Or.inl h1) q⟩, fun h1 => ⟨ia, fun h2 => tail _ ⟨fun _ q => q.elim h1 (fun q => absurd q (Int32.not_lt.mpr h2)), fun _ => rfl⟩, fun h2 => tail _ ⟨fun q => absurd q (by decide), fun q => absurd (Or.inr (Int32.not_le.mp h2)) q⟩⟩⟩⟩
  · intro τ ⟨hF, h16, h17⟩
    have v16 : τ 16 a = (lScan m len (σ 16 a) (σ 17 a) 12).1 := by rw [h16, upd_eq]
    refine b_Play_takeLengths_11 E (nI a) (nI w) (σ 16 a) (nI 12) τ ⟨fun _ => ⟨ia, fun hne => ⟨ia, _, rfl, ?_⟩, fun he => ⟨_, rfl, ?_⟩⟩, fun q => absurd (by decide) q⟩
    · rw [ca, v16] at hne ⊢
      rw [← hW]
      refine ⟨hF, h16, h17, ?_⟩
      show _ = (if _ then _ else _)
      rw [if_neg hne]
    · rw [ca, v16] at he
      rw [← hW]
      refine ⟨hF, h16, h17, ?_⟩
      show _ = (if _ then _ else _)
      rw [if_pos he]
theorem s_Play_firstNote2 (G : zG) (σ : zSt) (a p : Nat) (ha : a < 12) (hp : σ 4 0 = nI p) (hp3 : p ≤ 3) : zI G 0 M_Play_firstNote [zf G 4, zf G 2, .int (nI a)] σ (fun x τ => τ = σ ∧ x = note1 p (decide (nI a = σ 4 1)) (σ 6 a)) := by
  refine zSpec.of (by decide) (Nat.le_of_ble_eq_true rfl) rfl (fun X E => ?_)
  have ia : vp_in (nI a) 12 := vp_in_nI ha (by decide)
  have ca : (nI a).toNatClampNeg = a := nI_clamp (by omega)
  refine b_Play_firstNote_0 E (nI a) σ ?_
  rw [hp, nI_toInt (by omega), ca]
  refine ⟨fun h => ⟨fun h2 => ⟨_, rfl, rfl, ?_⟩, fun h2 => ⟨_, rfl, rfl, ?_⟩⟩, fun h => ⟨fun h2 => ⟨_, rfl, rfl, ?_⟩, fun h2 => ⟨_, rfl, rfl, ?_⟩⟩, fun h => ⟨ia, _, rfl, rfl, ?_⟩⟩
  · unfold note1; rw [if_pos (by omega), decide_eq_false h2]; rfl
  · unfold note1; rw [if_pos (by omega), decide_eq_true h2]; rfl
  · unfold note1; rw [if_neg (by omega), if_pos (by omega), decide_eq_false h2]; rfl
  · unfold note1; rw [if_neg (by omega), if_pos (by omega), decide_eq_true h2]; rfl
  · unfold note1; rw [if_neg (by omega), if_neg (by omega)]
theorem s_Play_firstValue2 (G : zG) (σ : zSt) (a p : Nat) (ha : a < 12) (hp : σ 4 0 = nI p) (hp3 : p ≤ 3) : zI G 0 M_Play_firstValue [zf G 4, zf G 2, .int (nI a)] σ (fun x τ => τ = σ ∧ x = first0 p (decide (nI a = σ 4 1)) (σ 6 a)) := by
  refine zSpec.of (by decide) (Nat.le_of_ble_eq_true rfl) rfl (fun X E => ?_)
  have ia : vp_in (nI a) 12 := vp_in_nI ha (by decide)
  have ca : (nI a).toNatClampNeg = a := nI_clamp (by omega)
  refine b_Play_firstValue_0 E (nI a) σ ?_
  rw [hp, nI_toInt (by omega), ca]
  refine ⟨fun h => ⟨ia, _, rfl, rfl, ?_⟩, fun h => ⟨_, rfl, rfl, ?_⟩, fun h => ⟨fun h2 => ⟨_, rfl, rfl, ?_⟩, fun h2 => ⟨_, rfl, rfl, ?_⟩⟩⟩
  · unfold first0; rw [if_pos (by omega)]
  · unfold first0; rw [if_neg (by omega), if_pos (by omega)]
  · unfold first0; rw [if_neg (by omega), if_neg (by omega), decide_eq_false h2]; rfl
  · unfold first0; rw [if_neg (by omega), if_neg (by omega), decide_eq_true h2]; rfl
theorem s_Play_laterNote2 (G : zG) (σ : zSt) (a w r p : Nat) (ha : a < 12) (hw : w + 12 ≤ 288) (hr : ¬ r = 1) (hr2 : r ≤ 20) (hp : σ 4 0 = nI p) (hp3 : p ≤ 3) (me : Bool) : zI G 2 M_Play_laterNote [zf G 4, zf G 2, .int (nI a), .int (nI r), .int (nI w)] σ (fun x τ => CR σ τ a (pAct p r a me (σ 6 a) (fun b => σ 8 (a * 12 + b)) (fun b => σ 18 (w + b)) (σ 16 a) (σ 17 a)) x) := by
  refine zSpec.of (by decide) (Nat.le_of_ble_eq_true rfl) rfl (fun X E => ?_)
  have rm := rem2 r (by omega)
  refine b_Play_laterNote_0 E (nI a) (nI r) (nI w) σ ?_
  rw [hp, nI_toInt (by omega)]
  refine ⟨fun h => ⟨_, s_Play_takeWave2 G σ a w ha hw, fun x τ g => ⟨_, rfl, ?_⟩⟩, fun h => ⟨_, s_Play_takeGreatest2 G σ a w ha hw, fun x τ g => ⟨_, rfl, ?_⟩⟩, fun h => ⟨fun h2 => ⟨_, s_Play_tryOut2 G σ a w ha hw, fun x τ g => ⟨_, rfl, ?_⟩⟩, fun h2 => ⟨_, s_Play_tryIn2 G σ a w ha hw, fun x τ g => ⟨_, rfl, ?_⟩⟩⟩, fun h => ⟨_, s_Play_takeLengths2 G σ a w ha hw, fun x τ g => ⟨_, rfl, ?_⟩⟩⟩
  · rw [pAct_w hr (by omega)]; exact g
  · rw [pAct_g hr (by omega)]; exact g
  · rw [pAct_o hr (by omega) (fun q => h2 (rm.mpr q))]; exact g
  · rw [pAct_i hr (by omega) (rm.mp h2)]; exact g
  · rw [pAct_l hr (by omega)]; exact g
theorem pand1 : ∀ r, r < 22 → (nI r &&& 1) = nI (r % 2) := by decide +kernel
theorem row_ix {r a : Nat} (hr : r < 22) : (nI r &&& 1) * 144 + nI a * 12 = nI (r % 2 * 144 + a * 12) := by
  rw [pand1 r hr, show (144 : Int32) = nI 144 from rfl, show (12 : Int32) = nI 12 from rfl, pk_mul, pk_mul, nI_add]
theorem s_Play_keepNote2 (G : zG) (σ : zSt) (a b r : Nat) (v : Int32) (ha : a < 12) (hb : b < 12) (hr : r < 22) : zV G 1 M_Play_keepNote [zf G 4, .int (nI a), .int (nI b), .int (nI r), .int v] σ (fun τ => τ = zup σ 18 (r % 2 * 144 + b * 12 + a) v) := by
  refine zSpec.of (by decide) (Nat.le_of_ble_eq_true rfl) rfl (fun X E => ?_)
  refine b_Play_keepNote_0 E (nI a) (nI b) (nI r) v σ ?_
  rw [row_ix hr, nI_add]
  refine ⟨vp_in_nI (by omega) (by decide), fun σ1 e1 => ⟨rfl, ?_⟩⟩
  rw [e1, nI_clamp (by omega)]
/-- behind a round of a: value, parent, the notes of the row w taken -/
def DR (σ τ : zSt) (a w : Nat) (W : Int32 × Int32 × Int32) (x : Int32) : Prop := zFr [16, 17, 18] σ τ ∧ τ 16 = upd (σ 16) a W.1 ∧ τ 17 = upd (σ 17) a W.2.1 ∧ (∀ k, τ 18 k = if w ≤ k ∧ k < w + 12 then -2 else σ 18 k) ∧ x = W.2.2
theorem s_Play_doRound2 (G : zG) (σ : zSt) (a r p : Nat) (ha : a < 12) (hr1 : 1 ≤ r) (hr2 : r ≤ 20) (hp : σ 4 0 = nI p) (hp3 : p ≤ 3) : zI G 3 M_Play_doRound [zf G 4, zf G 2, .int (nI a), .int (nI r)] σ (fun x τ => DR σ τ a ((r - 1) % 2 * 144 + a * 12) (pAct p r a (decide (nI a = σ 4 1)) (σ 6 a) (fun b => σ 8 (a * 12 + b)) (fun b => σ 18 ((r - 1) % 2 * 144 + a * 12 + b)) (σ 16 a) (σ 17 a)) x) := by
  have hrow : (nI r - (1 : Int32) &&& 1) * 144 + nI a * 12 = nI ((r - 1) % 2 * 144 + a * 12) := by
    obtain ⟨k, rfl⟩ : ∃ k, r = k + 1 := ⟨r - 1, by omega⟩
    rw [nI_pred]
    exact row_ix (by omega)
  generalize hW : pAct p r a (decide (nI a = σ 4 1)) (σ 6 a) (fun b => σ 8 (a * 12 + b)) (fun b => σ 18 ((r - 1) % 2 * 144 + a * 12 + b)) (σ 16 a) (σ 17 a) = W
  have hw : (r - 1) % 2 * 144 + a * 12 + 12 ≤ 288 := by omega
  generalize hwe : (r - 1) % 2 * 144 + a * 12 = w at hrow hW hw ⊢
  refine zSpec.of (by decide) (Nat.le_of_ble_eq_true rfl) rfl (fun X E => ?_)
  have tail : ∀ (x : Int32) (υ : zSt), CR σ υ a W x → zZ G M_Play_doRound 3 X (fun r τ => ∃ x : Int32, r = some (.int x) ∧ DR σ τ a w W x) 37 [(0, zf G 4), (4, .int (nI w)), (5, .int x), (6, .int (0 : Int32))] [] υ := by
    intro x υ ⟨hF, h16, h17, hx⟩
    refine z_for 12 (fun i τ => zZ G M_Play_doRound 3 X (fun r τ => ∃ x : Int32, r = some (.int x) ∧ DR σ τ a w W x) 37 [(0, zf G 4), (4, .int (nI w)), (5, .int x), (6, .int (nI i))] [] τ) (fun i τ => zFr [16, 17, 18] σ τ ∧ τ 16 = upd (σ 16) a W.1 ∧ τ 17 = upd (σ 17) a W.2.1 ∧ (∀ k, τ 18 k = if w ≤ k ∧ k < w + i then -2 else σ 18 k)) ?_ ?_ 0 υ (Nat.zero_le _) ⟨hF.mono (by decide), h16, h17, fun k => by rw [if_neg (by omega), hF 18 (by decide)]⟩
    · intro i τ hi ⟨g1, g2, g3, g4⟩ ih
      have ci : (nI w + nI i).toNatClampNeg = w + i := by rw [nI_add]; exact nI_clamp (by omega)
      refine b_Play_doRound_37 E (nI w) x (nI i) τ ⟨fun q => absurd q (nI_ge hi (by decide)), fun _ => ⟨ix288 hw hi, fun σ1 e1 => ?_⟩⟩
      rw [ci] at e1
      rw [nI_1]
      refine ih σ1 ⟨by rw [e1]; exact g1.up (by decide), by rw [e1, zup_ne (by decide)]; exact g2, by rw [e1, zup_ne (by decide)]; exact g3, fun k => ?_⟩
      rw [e1, zup_self]
      by_cases hk : k = w + i
      · rw [hk, upd_eq, if_pos (by omega)]
      · rw [upd_ne hk, g4 k]
        by_cases h : w ≤ k ∧ k < w + i
        · rw [if_pos h, if_pos (by omega)]
        · rw [if_neg h, if_neg (by omega)]
    · intro τ ⟨g1, g2, g3, g4⟩
      exact b_Play_doRound_37 E (nI w) x (nI 12) τ ⟨fun _ => ⟨_, rfl, g1, g2, g3, g4, hx⟩, fun q => absurd (by decide) q⟩
  refine b_Play_doRound_0 E (nI a) (nI r) σ ?_
  rw [hrow]
  refine ⟨fun h => ⟨_, s_Play_laterNote2 G σ a w r p ha hw (fun q => h (by rw [q]; rfl)) hr2 hp hp3 (decide (nI a = σ 4 1)), fun x τ g => tail x τ (by rw [← hW]; exact g)⟩, fun h => ⟨_, s_Play_firstNote2 G σ a p ha hp hp3, fun x τ ⟨e, g⟩ => ?_⟩⟩
  rw [e]
  refine tail x σ (CR0 ?_)
  rw [← hW, pAct_1 ((nI_eq (a := r) (b := 1) (by omega) (by decide)).mp h), g]
theorem s_Play_reset2 (G : zG) (σ : zSt) (p : Nat) (s : Int32) (hp3 : p ≤ 3) : zV G 1 M_Play_reset [zf G 4, zf G 2, .int (nI p), .int s] σ (fun τ => zFr [4, 16, 17, 18] σ τ ∧ τ 4 0 = nI p ∧ τ 4 1 = s ∧ (∀ b, b < 12 → τ 16 b = first0 p (decide (nI b = s)) (σ 6 b)) ∧ (∀ b, b < 12 → τ 17 b = -2) ∧ ∀ k, k < 288 → τ 18 k = -2) := by
  refine zSpec.of (by decide) (Nat.le_of_ble_eq_true rfl) rfl (fun X E => ?_)
  refine b_Play_reset_0 E (nI p) s σ (fun σ1 e1 σ2 e2 => ?_)
  refine ⟨_, s_fill G 17 12 rfl (by decide) _ _, fun σ3 e3 => ⟨_, s_fill G 18 288 rfl (by decide) _ _, fun σ4 e4 => ?_⟩⟩
  have f4 : zFr [4, 16, 17, 18] σ σ4 := by rw [e4, e3, e2, e1]; exact (((zFr.rf.up (by decide)).up (by decide)).fill (by decide)).fill (by decide)
  have p4 : σ4 4 0 = nI p := by rw [e4, zfill_ne (by decide), e3, zfill_ne (by decide), e2, zup_self, upd_ne (by decide), e1, zup_self, upd_eq]
  have s4 : σ4 4 1 = s := by rw [e4, zfill_ne (by decide), e3, zfill_ne (by decide), e2, zup_self, upd_eq]
  have q4 : ∀ b, b < 12 → σ4 17 b = -2 := fun b hb => by rw [e4, zfill_ne (by decide), e3]; simp [zfill, hb]
  have n4 : ∀ k, k < 288 → σ4 18 k = -2 := fun k hk => by rw [e4]; simp [zfill, hk]
  refine z_for 12 (fun i τ => zZ G M_Play_reset 1 X (fun r τ => r = none ∧ zFr [4, 16, 17, 18] σ τ ∧ τ 4 0 = nI p ∧ τ 4 1 = s ∧ (∀ b, b < 12 → τ 16 b = first0 p (decide (nI b = s)) (σ 6 b)) ∧ (∀ b, b < 12 → τ 17 b = -2) ∧ ∀ k, k < 288 → τ 18 k = -2) 31 [(0, zf G 4), (1, zf G 2), (4, .int (nI i))] [] τ) (fun i τ => zFr [16] σ4 τ ∧ ∀ b, b < i → τ 16 b = first0 p (decide (nI b = s)) (σ 6 b)) ?_ ?_ 0 σ4 (Nat.zero_le _) ⟨zFr.rf, fun b hb => absurd hb (Nat.not_lt_zero b)⟩
  · intro i τ hi ⟨hF, hv⟩ ih
    refine b_Play_reset_31 E (nI i) τ ⟨fun q => absurd q (nI_ge hi (by decide)), fun _ => ⟨_, s_Play_firstValue2 G τ i p hi (by rw [hF 4 (by decide)]; exact p4) hp3, fun x σ5 ⟨e5, g5⟩ => ⟨vp_in_nI hi (by decide), fun σ6 e6 => ?_⟩⟩⟩
    rw [nI_clamp (by omega), e5] at e6
    rw [nI_1]
    refine ih σ6 ⟨by rw [e6]; exact hF.up (by decide), fun b hb => ?_⟩
    rw [e6, zup_self]
    by_cases e : b = i
    · rw [e, upd_eq, g5, hF 4 (by decide), s4, hF 6 (by decide), f4 6 (by decide)]
    · rw [upd_ne e]; exact hv b (by omega)
  · intro τ ⟨hF, hv⟩
    exact b_Play_reset_31 E (nI 12) τ ⟨fun _ => ⟨rfl, f4.tr (hF.mono (by decide)), by rw [hF 4 (by decide)]; exact p4, by rw [hF 4 (by decide)]; exact s4, hv, fun b hb => by rw [hF 17 (by decide)]; exact q4 b hb, fun k hk => by rw [hF 18 (by decide)]; exact n4 k hk⟩, fun q => absurd (by decide) q⟩
end
section
-- The class goes in step, exactly
theorem s_Course_handOut2 (G : zG) (σ : zSt) (n a r : Nat) (v : Int32) (hn : σ 2 0 = nI n) (hle : n ≤ 12) (ha : a < 12) (hr : r < 22) : zV G 2 M_Course_handOut [zf G 1, .int (nI a), .int (nI r), .int v] σ (fun τ => zFr [18] σ τ ∧ ∀ q t b, q < 2 → t < 12 → b < 12 → τ 18 (q * 144 + t * 12 + b) = if ¬ v = -2 ∧ q = r % 2 ∧ b = a ∧ t < n ∧ zIn (σ 7 a) (nI t) = true then v else σ 18 (q * 144 + t * 12 + b)) := by
  refine zSpec.of (by decide) (Nat.le_of_ble_eq_true rfl) rfl (fun X E => ?_)
  have ia : vp_in (nI a) 12 := vp_in_nI ha (by decide)
  have ca : (nI a).toNatClampNeg = a := nI_clamp (by omega)
  refine b_Course_handOut_0 E (nI a) (nI r) v σ ?_
  refine z_for n (fun i τ => zZ G M_Course_handOut 2 X (fun rr τ => rr = none ∧ zFr [18] σ τ ∧ ∀ q t b, q < 2 → t < 12 → b < 12 → τ 18 (q * 144 + t * 12 + b) = if ¬ v = -2 ∧ q = r % 2 ∧ b = a ∧ t < n ∧ zIn (σ 7 a) (nI t) = true then v else σ 18 (q * 144 + t * 12 + b)) 3 [(0, zf G 1), (1, .int (nI a)), (2, .int (nI r)), (3, .int v), (4, .int (nI i))] [] τ) (fun i τ => zFr [18] σ τ ∧ ∀ q t b, q < 2 → t < 12 → b < 12 → τ 18 (q * 144 + t * 12 + b) = if ¬ v = -2 ∧ q = r % 2 ∧ b = a ∧ t < i ∧ zIn (σ 7 a) (nI t) = true then v else σ 18 (q * 144 + t * 12 + b)) ?_ ?_ 0 σ (Nat.zero_le _) ⟨zFr.rf, fun q t b _ _ _ => by rw [if_neg (fun h => absurd h.2.2.2.1 (Nat.not_lt_zero t))]⟩
  · intro i τ hi ⟨hF, hI⟩ ih
    refine b_Course_handOut_3 E (nI a) (nI r) v (nI i) τ ⟨fun q => absurd q (by rw [hF 2 (by decide), hn]; exact nI_ge hi (by omega)), fun _ => ⟨fun hv => ⟨rfl, hF, fun q t b hq ht hb => ?_⟩, fun hv => ⟨ia, fun hz => ?_, fun hz => ⟨_, s_Play_keepNote2 G τ a i r v ha (by omega) hr, fun σ1 e1 => ?_⟩⟩⟩⟩
    · rw [hI q t b hq ht hb, if_neg (fun h => h.1 hv), if_neg (fun h => h.1 hv)]
    · rw [ca, hF 7 (by decide)] at hz
      rw [nI_1]
      refine ih τ ⟨hF, fun q t b hq ht hb => ?_⟩
      rw [hI q t b hq ht hb]
      by_cases h : ¬ v = -2 ∧ q = r % 2 ∧ b = a ∧ t < i ∧ zIn (σ 7 a) (nI t) = true
      · rw [if_pos h, if_pos ⟨h.1, h.2.1, h.2.2.1, by omega, h.2.2.2.2⟩]
      · rw [if_neg h, if_neg]
        rintro ⟨k1, k2, k3, k4, k5⟩
        by_cases e : t = i
        · rw [e, hz] at k5; exact absurd k5 (by decide)
        · exact h ⟨k1, k2, k3, by omega, k5⟩
    · rw [ca, hF 7 (by decide)] at hz
      rw [nI_1]
      refine ih σ1 ⟨by rw [e1]; exact hF.up (by decide), fun q t b hq ht hb => ?_⟩
      rw [e1, zup_self]
      by_cases hk : q * 144 + t * 12 + b = r % 2 * 144 + i * 12 + a
      · have k1 : q = r % 2 := by omega
        have k2 : t = i := by omega
        have k3 : b = a := by omega
        rw [hk, upd_eq, if_pos ⟨hv, k1, k3, by omega, by rw [k2]; exact hz⟩]
      · rw [upd_ne hk, hI q t b hq ht hb]
        by_cases h : ¬ v = -2 ∧ q = r % 2 ∧ b = a ∧ t < i ∧ zIn (σ 7 a) (nI t) = true
        · rw [if_pos h, if_pos ⟨h.1, h.2.1, h.2.2.1, by omega, h.2.2.2.2⟩]
        · rw [if_neg h, if_neg]
          rintro ⟨k1, k2, k3, k4, k5⟩
          by_cases e : t = i
          · exact hk (by rw [k2, k3, e])
          · exact h ⟨k1, k2, k3, by omega, k5⟩
  · intro τ ⟨hF, hI⟩
    exact b_Course_handOut_3 E (nI a) (nI r) v (nI n) τ ⟨fun _ => ⟨rfl, hF, hI⟩, fun q => absurd (by rw [hF 2 (by decide), hn]; exact nI_le (Nat.le_refl n) (by omega)) q⟩
/-- nodes below i did round k + 1, the others round k -/
def GS (σ : zSt) (n : Nat) (lk : Nat → Nat → Bool) (S : Nat → Nat → Int32 × Int32 × Int32) (k i : Nat) (τ : zSt) : Prop :=
  zFr [16, 17, 18, 31] σ τ
  ∧ (∀ b, b < n → τ 16 b = (S (if b < i then k + 1 else k) b).1 ∧ τ 17 b = (S (if b < i then k + 1 else k) b).2.1)
  ∧ (∀ t b, t < n → b < 12 → τ 18 ((k + 1) % 2 * 144 + t * 12 + b) = if b < i ∧ lk t b = true then (S (k + 1) b).2.2 else -2)
  ∧ (∀ t b, t < n → b < 12 → τ 18 (k % 2 * 144 + t * 12 + b) = if ¬ t < i ∧ b < n ∧ lk t b = true then (S k b).2.2 else -2)
  ∧ (∀ q b, b < n → (q ≤ k ∨ (q = k + 1 ∧ b < i)) → τ 31 (q * 12 + b) = (S q b).1)
theorem GS_next {σ τ : zSt} {n k : Nat} {lk : Nat → Nat → Bool} {S : Nat → Nat → Int32 × Int32 × Int32} (h : GS σ n lk S k n τ) : GS σ n lk S (k + 1) 0 τ := by
  obtain ⟨h1, h2, h3, h4, h5⟩ := h
  refine ⟨h1, fun b hb => ?_, fun t b ht hb => ?_, fun t b ht hb => ?_, fun q b hb hq => ?_⟩
  · rw [if_neg (Nat.not_lt_zero b)]
    have := h2 b hb
    rw [if_pos hb] at this
    exact this
  · rw [if_neg (fun q => absurd q.1 (Nat.not_lt_zero b))]
    have e : (k + 1 + 1) % 2 = k % 2 := by omega
    rw [e, h4 t b ht hb, if_neg (fun q => q.1 ht)]
  · rw [h3 t b ht hb]
    by_cases h : b < n ∧ lk t b = true
    · rw [if_pos h, if_pos ⟨Nat.not_lt_zero t, h⟩]
    · rw [if_neg h, if_neg (fun q => h q.2)]
  · refine h5 q b hb ?_
    rcases hq with hq | hq
    · by_cases e : q = k + 1
      · exact Or.inr ⟨e, hb⟩
      · exact Or.inl (by omega)
    · exact absurd hq.2 (Nat.not_lt_zero b)
section SV2
variable {p n : Nat} {src : Int32} {mk : Nat → Int32} {len : Nat → Nat → Int32} {lk : Nat → Nat → Bool}
theorem sV_0 (a : Nat) : sV p src n mk len lk 0 a = (first0 p (decide (nI a = src)) (mk a), -2, -2) := by rw [sV]
theorem sV_s (r a : Nat) : sV p src n mk len lk (r + 1) a = pAct p (r + 1) a (decide (nI a = src)) (mk a) (len a) (fun b => if b < n ∧ lk a b = true then (sV p src n mk len lk r b).2.2 else -2) (sV p src n mk len lk r a).1 (sV p src n mk len lk r a).2.1 := by rw [sV]
end SV2
set_option maxHeartbeats 1000000 in
theorem s_Course_goInStep2 (G : zG) (σ : zSt) (n R p : Nat) (mk : Nat → Int32) (len : Nat → Nat → Int32) (lk : Nat → Nat → Bool) (hn : σ 2 0 = nI n) (hle : n ≤ 12) (hR : σ 1 5 = nI R) (hR2 : R ≤ 20) (hp : σ 4 0 = nI p) (hp3 : p ≤ 3) (hmk : ∀ a, a < 12 → σ 6 a = mk a) (hlen : ∀ a b, a < 12 → b < 12 → σ 8 (a * 12 + b) = len a b) (hlk : ∀ a b, a < 12 → b < 12 → zIn (σ 7 b) (nI a) = lk a b) (h16 : ∀ b, b < 12 → σ 16 b = first0 p (decide (nI b = σ 4 1)) (mk b)) (h17 : ∀ b, b < 12 → σ 17 b = -2) (h18 : ∀ k, k < 288 → σ 18 k = -2) : zV G 4 M_Course_goInStep [zf G 1] σ (fun τ => zFr [16, 17, 18, 31] σ τ ∧ ∀ q b, q ≤ R → b < n → τ 31 (q * 12 + b) = (sV p (σ 4 1) n mk len lk q b).1) := by
  have S0 := @sV_0 p n (σ 4 1) mk len lk
  have S1 := @sV_s p n (σ 4 1) mk len lk
  generalize sV p (σ 4 1) n mk len lk = S at S0 S1
  refine zSpec.of (by decide) (Nat.le_of_ble_eq_true rfl) rfl (fun X E => ?_)
  refine b_Course_goInStep_0 E σ ?_
  have two : ∀ υ, GS σ n lk S 0 0 υ → zZ G M_Course_goInStep 4 X (fun r τ => r = none ∧ zFr [16, 17, 18, 31] σ τ ∧ ∀ q b, q ≤ R → b < n → τ 31 (q * 12 + b) = (S q b).1) 40 [(0, zf G 1), (1, .int (1 : Int32))] [] υ := by
    intro υ hυ
    refine z_for (R + 1) (fun i τ => zZ G M_Course_goInStep 4 X (fun r τ => r = none ∧ zFr [16, 17, 18, 31] σ τ ∧ ∀ q b, q ≤ R → b < n → τ 31 (q * 12 + b) = (S q b).1) 40 [(0, zf G 1), (1, .int (nI i))] [] τ) (fun i τ => ∃ k, i = k + 1 ∧ GS σ n lk S k 0 τ) ?_ ?_ 1 υ (by omega) ⟨0, rfl, hυ⟩
    · intro r τ hr ⟨k, hk, hI⟩ ihr
      subst hk
      refine b_Course_goInStep_40 E (nI (k + 1)) τ ⟨fun q => absurd q (by rw [hI.1 1 (by decide), hR]; exact nI_nlt (by omega) (by omega)), fun _ => ?_⟩
      refine z_for n (fun i τ => zZ G M_Course_goInStep 4 X (fun r τ => r = none ∧ zFr [16, 17, 18, 31] σ τ ∧ ∀ q b, q ≤ R → b < n → τ 31 (q * 12 + b) = (S q b).1) 50 [(0, zf G 1), (1, .int (nI (k + 1))), (2, .int (nI i))] [] τ) (fun i τ => GS σ n lk S k i τ) ?_ ?_ 0 τ (Nat.zero_le _) hI
      · intro i τ hi ⟨f1, f2, f3, f4, f5⟩ ih
        have hi12 : i < 12 := by omega
        have ci : (nI i).toNatClampNeg = i := nI_clamp (by omega)
        have cx : (nI (k + 1) * 12 + nI i).toNatClampNeg = (k + 1) * 12 + i := by rw [zi12]; exact nI_clamp (by omega)
        refine b_Course_goInStep_50 E (nI (k + 1)) (nI i) τ ⟨fun q => absurd q (by rw [f1 2 (by decide), hn]; exact nI_ge hi (by omega)), fun _ => ⟨_, s_Play_doRound2 G τ i (k + 1) p hi12 (by omega) (by omega) (by rw [f1 4 (by decide)]; exact hp) hp3, fun x σ1 ⟨g1, g2, g3, g4, g5⟩ => ?_⟩⟩
        have hW : pAct p (k + 1) i (decide (nI i = τ 4 1)) (τ 6 i) (fun b => τ 8 (i * 12 + b)) (fun b => τ 18 ((k + 1 - 1) % 2 * 144 + i * 12 + b)) (τ 16 i) (τ 17 i) = S (k + 1) i := by
          have q2 := f2 i hi
          rw [if_neg (Nat.lt_irrefl i)] at q2
          rw [S1 k i, f1 4 (by decide), f1 6 (by decide), hmk i hi12, q2.1, q2.2]
          refine pAct_congr (fun b hb => ?_) (fun b hb => ?_)
          · show τ 18 ((k + 1 - 1) % 2 * 144 + i * 12 + b) = _
            rw [Nat.add_sub_cancel, f4 i b hi hb]
            by_cases h : b < n ∧ lk i b = true
            · rw [if_pos h, if_pos ⟨Nat.lt_irrefl i, h⟩]
            · rw [if_neg h, if_neg (fun q => h q.2)]
          · show τ 8 (i * 12 + b) = _
            rw [f1 8 (by decide)]; exact hlen i b hi12 hb
        rw [hW] at g2 g3 g5
        rw [Nat.add_sub_cancel] at g4
        refine ⟨_, s_Course_handOut2 G σ1 n i (k + 1) x (by rw [g1 2 (by decide), f1 2 (by decide)]; exact hn) hle hi12 (by omega), fun σ3 ⟨k1, k2⟩ => ⟨vp_in_nI hi12 (by decide), by rw [zi12]; exact vp_in_nI (by omega) (by decide), fun σ4 e4 => ?_⟩⟩
        rw [cx, ci] at e4
        rw [nI_1]
        have e16 : σ3 16 = upd (τ 16) i (S (k + 1) i).1 := by rw [k1 16 (by decide)]; exact g2
        have e17 : σ3 17 = upd (τ 17) i (S (k + 1) i).2.1 := by rw [k1 17 (by decide)]; exact g3
        refine ih σ4 ⟨?_, fun b hb => ?_, fun t b ht hb => ?_, fun t b ht hb => ?_, fun q b hb hq => ?_⟩
        · rw [e4]
          exact ((f1.tr (g1.mono (by decide))).tr (k1.mono (by decide))).up (by decide)
        · rw [e4, zup_ne (by decide), zup_ne (by decide), e16, e17]
          by_cases e : b = i
          · rw [e, upd_eq, upd_eq, if_pos (by omega)]; exact ⟨rfl, rfl⟩
          · rw [upd_ne e, upd_ne e]
            have q2 := f2 b hb
            by_cases h : b < i
            · rw [if_pos h] at q2; rw [if_pos (by omega)]; exact q2
            · rw [if_neg h] at q2; rw [if_neg (by omega)]; exact q2
        · rw [e4, zup_ne (by decide), k2 ((k + 1) % 2) t b (by omega) (by omega) hb, g4, if_neg (show ¬ (k % 2 * 144 + i * 12 ≤ (k + 1) % 2 * 144 + t * 12 + b ∧ (k + 1) % 2 * 144 + t * 12 + b < k % 2 * 144 + i * 12 + 12) by omega), f3 t b ht hb]
          rw [g1 7 (by decide), f1 7 (by decide), hlk t i (by omega) hi12, g5]
          by_cases e : b = i
          · rw [e]
            have n1 : ¬ (i < i ∧ lk t i = true) := fun q => Nat.lt_irrefl i q.1
            rw [if_neg n1]
            by_cases h : lk t i = true
            · have n2 : i < i + 1 ∧ lk t i = true := ⟨Nat.lt_succ_self i, h⟩
              rw [if_pos n2]
              by_cases hx : (S (k + 1) i).2.2 = -2
              · have n3 : ¬ (¬ (S (k + 1) i).2.2 = -2 ∧ (k + 1) % 2 = (k + 1) % 2 ∧ i = i ∧ t < n ∧ lk t i = true) := fun q => q.1 hx
                rw [if_neg n3, hx]
              · have n3 : ¬ (S (k + 1) i).2.2 = -2 ∧ (k + 1) % 2 = (k + 1) % 2 ∧ i = i ∧ t < n ∧ lk t i = true := ⟨hx, rfl, rfl, ht, h⟩
                rw [if_pos n3]
            · have n3 : ¬ (¬ (S (k + 1) i).2.2 = -2 ∧ (k + 1) % 2 = (k + 1) % 2 ∧ i = i ∧ t < n ∧ lk t i = true) := fun q => h q.2.2.2.2
              have n2 : ¬ (i < i + 1 ∧ lk t i = true) := fun q => h q.2
              rw [if_neg n3, if_neg n2]
          · have n3 : ¬ (¬ (S (k + 1) i).2.2 = -2 ∧ (k + 1) % 2 = (k + 1) % 2 ∧ b = i ∧ t < n ∧ lk t i = true) := fun q => e q.2.2.1
            rw [if_neg n3]
            by_cases h : b < i ∧ lk t b = true
            · rw [if_pos h, if_pos ⟨by omega, h.2⟩]
            · rw [if_neg h, if_neg (fun q => h ⟨by omega, q.2⟩)]
        · rw [e4, zup_ne (by decide), k2 (k % 2) t b (by omega) (by omega) hb, if_neg (fun q => by have := q.2.1; omega), g4]
          by_cases e : t = i
          · rw [e, if_pos (by omega), if_neg (fun q => q.1 (Nat.lt_succ_self i))]
          · rw [if_neg (by omega), f4 t b ht hb]
            by_cases h : ¬ t < i ∧ b < n ∧ lk t b = true
            · rw [if_pos h, if_pos ⟨by omega, h.2⟩]
            · rw [if_neg h, if_neg (fun q => h ⟨by omega, q.2⟩)]
        · rw [e4, zup_self]
          by_cases e : q * 12 + b = (k + 1) * 12 + i
          · have k3 : q = k + 1 := by omega
            have k4 : b = i := by omega
            rw [e, upd_eq, e16, upd_eq, k3, k4]
          · rw [upd_ne e, k1 31 (by decide), g1 31 (by decide)]
            refine f5 q b hb ?_
            rcases hq with hq | hq
            · exact Or.inl hq
            · refine Or.inr ⟨hq.1, ?_⟩
              by_cases e2 : b = i
              · exact absurd (by rw [hq.1, e2]) e
              · omega
      · intro τ hI
        exact b_Course_goInStep_50 E (nI (k + 1)) (nI n) τ ⟨fun _ => by rw [nI_1]; exact ihr τ ⟨k + 1, rfl, GS_next hI⟩, fun q => absurd (by rw [hI.1 2 (by decide), hn]; exact nI_le (Nat.le_refl n) (by omega)) q⟩
    · intro τ ⟨k, hk, hI⟩
      have hk : R = k := by omega
      exact b_Course_goInStep_40 E (nI (R + 1)) τ ⟨fun _ => ⟨rfl, hI.1, fun q b hq hb => hI.2.2.2.2 q b hb (Or.inl (by omega))⟩, fun q => absurd (by rw [hI.1 1 (by decide), hR]; exact nI_lt (by omega) (by omega)) q⟩
  refine z_for n (fun i τ => zZ G M_Course_goInStep 4 X (fun r τ => r = none ∧ zFr [16, 17, 18, 31] σ τ ∧ ∀ q b, q ≤ R → b < n → τ 31 (q * 12 + b) = (S q b).1) 2 [(0, zf G 1), (1, .int (nI i))] [] τ) (fun i τ => zFr [31] σ τ ∧ ∀ b, b < i → τ 31 b = σ 16 b) ?_ ?_ 0 σ (Nat.zero_le _) ⟨zFr.rf, fun b hb => absurd hb (Nat.not_lt_zero b)⟩
  · intro i τ hi ⟨hF, hI⟩ ih
    have ci : (nI i).toNatClampNeg = i := nI_clamp (by omega)
    have c0 : ((0 : Int32) * 12 + nI i).toNatClampNeg = i := by rw [show (0 : Int32) = nI 0 from rfl, zi12, Nat.zero_mul, Nat.zero_add]; exact ci
    refine b_Course_goInStep_2 E (nI i) τ ⟨fun q => absurd q (by rw [hF 2 (by decide), hn]; exact nI_ge hi (by omega)), fun _ => ⟨vp_in_nI (by omega) (by decide), by rw [show (0 : Int32) = nI 0 from rfl, zi12]; exact vp_in_nI (by omega) (by decide), fun σ1 e1 => ?_⟩⟩
    rw [c0, ci] at e1
    rw [nI_1]
    refine ih σ1 ⟨by rw [e1]; exact hF.up (by decide), fun b hb => ?_⟩
    rw [e1, zup_self]
    by_cases e : b = i
    · rw [e, upd_eq, hF 16 (by decide)]
    · rw [upd_ne e]; exact hI b (by omega)
  · intro τ ⟨hF, hI⟩
    refine b_Course_goInStep_2 E (nI n) τ ⟨fun _ => two τ ⟨hF.mono (by decide), fun b hb => ?_, fun t b ht hb => ?_, fun t b ht hb => ?_, fun q b hb hq => ?_⟩, fun q => absurd (by rw [hF 2 (by decide), hn]; exact nI_le (Nat.le_refl n) (by omega)) q⟩
    · rw [if_neg (Nat.not_lt_zero b), S0 b, hF 16 (by decide), hF 17 (by decide)]
      exact ⟨h16 b (by omega), h17 b (by omega)⟩
    · rw [if_neg (fun q => absurd q.1 (Nat.not_lt_zero b)), hF 18 (by decide)]
      exact h18 _ (by omega)
    · rw [hF 18 (by decide), h18 _ (by omega), S0 b]
      split <;> rfl
    · rcases hq with hq | hq
      · have e : q = 0 := by omega
        rw [e, Nat.zero_mul, Nat.zero_add, hI b hb, S0 b]
        exact h16 b (by omega)
      · exact absurd hq.2 (Nat.not_lt_zero b)
end
