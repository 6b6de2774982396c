-- The reference's way to do a round is pAct: pure
def enc (w : Int32) : Int32 := if w = -2 then -1000 else w
/-- the notes that a node takes: t, tn as the reference has them, m with -2 for none -/
def NT (n : Nat) (B : Int) (t tn m : Nat → Int32) : Prop := ∀ b, b < 12 → (b < n ∧ ¬ t b = 0 → m b = tn b ∧ -1 ≤ (tn b).toInt ∧ (tn b).toInt ≤ B) ∧ (¬ (b < n ∧ ¬ t b = 0) → m b = -2)
theorem m2I : (-2 : Int32).toInt = -2 := by decide
theorem ne_m2 {x : Int32} (h : -1 ≤ x.toInt) : ¬ x = -2 := fun e => by rw [e, m2I] at h; omega
theorem NT.ne {n : Nat} {B : Int} {t tn m : Nat → Int32} (h : NT n B t tn m) {b : Nat} (hb : b < 12) : ¬ m b = -2 ↔ (b < n ∧ ¬ t b = 0) := by
  obtain ⟨h1, h2⟩ := h b hb
  constructor
  · intro q
    by_cases hc : b < n ∧ ¬ t b = 0
    · exact hc
    · exact absurd (h2 hc) q
  · intro hc
    obtain ⟨e, g, _⟩ := h1 hc
    rw [e]; exact ne_m2 g
/-- least, greatest and rival behind the first n notes -/
def LMR (n : Nat) (t u : Nat → Int32) (mk : Int32) (a : Nat) (le mo ri : Int32) : Prop :=
  (((∀ b, b < n → t b = 0) ∧ le = 2000 ∧ mo = -2000) ∨ ((∃ b, b < n ∧ ¬ t b = 0 ∧ u b = le) ∧ (∃ b, b < n ∧ ¬ t b = 0 ∧ u b = mo)))
  ∧ (∀ b, b < n → ¬ t b = 0 → le ≤ u b ∧ u b ≤ mo)
  ∧ (¬ ri = 0 ↔ ∃ b, b < n ∧ ¬ t b = 0 ∧ (mk < u b ∨ (u b = mk ∧ a < b)))
theorem LMR_0 {t u : Nat → Int32} {mk : Int32} {a : Nat} : LMR 0 t u mk a 2000 (-2000) 0 := ⟨Or.inl ⟨fun b hb => absurd hb (Nat.not_lt_zero b), rfl, rfl⟩, fun b hb => absurd hb (Nat.not_lt_zero b), ⟨fun h => absurd rfl h, fun ⟨b, hb, _⟩ => absurd hb (Nat.not_lt_zero b)⟩⟩
theorem LMR_skip {i : Nat} {t u : Nat → Int32} {mk : Int32} {a : Nat} {le mo ri : Int32} (h : LMR i t u mk a le mo ri) (ht : t i = 0) : LMR (i + 1) t u mk a le mo ri := by
  obtain ⟨h1, h2, h3⟩ := h
  refine ⟨?_, fun b hb hn => ?_, h3.trans ⟨fun ⟨b, hb, q⟩ => ⟨b, by omega, q⟩, fun ⟨b, hb, q⟩ => ?_⟩⟩
  · rcases h1 with ⟨g1, g2⟩ | ⟨⟨b, hb, q⟩, ⟨c, hc, q2⟩⟩
    · refine Or.inl ⟨fun b hb => ?_, g2⟩
      by_cases e : b = i
      · rw [e]; exact ht
      · exact g1 b (by omega)
    · exact Or.inr ⟨⟨b, by omega, q⟩, ⟨c, by omega, q2⟩⟩
  · by_cases e : b = i
    · rw [e] at hn; exact absurd ht hn
    · exact h2 b (by omega) hn
  · by_cases e : b = i
    · rw [e] at q; exact absurd ht q.1
    · exact ⟨b, by omega, q⟩
theorem LMR_take {i : Nat} {t u : Nat → Int32} {mk : Int32} {a : Nat} {le mo ri le' mo' ri' : Int32} (h : LMR i t u mk a le mo ri) (ht : ¬ t i = 0) (hu : -2000 < (u i).toInt ∧ (u i).toInt < 2000)
    (hl : (le' = u i ∧ ¬ le ≤ u i) ∨ (le' = le ∧ le ≤ u i)) (hm : (mo' = u i ∧ ¬ u i ≤ mo) ∨ (mo' = mo ∧ u i ≤ mo)) (hr : ¬ ri' = 0 ↔ (¬ ri = 0 ∨ mk < u i ∨ (u i = mk ∧ a < i))) : LMR (i + 1) t u mk a le' mo' ri' := by
  obtain ⟨h1, h2, h3⟩ := h
  have e2000 : (2000 : Int32).toInt = 2000 := by decide
  have em2000 : (-2000 : Int32).toInt = -2000 := by decide
  refine ⟨Or.inr ⟨?_, ?_⟩, fun b hb hn => ?_, hr.trans ⟨fun q => ?_, fun ⟨b, hb, q⟩ => ?_⟩⟩
  · rcases hl with ⟨e, _⟩ | ⟨e, g⟩
    · exact ⟨i, by omega, ht, e.symm⟩
    · rcases h1 with ⟨_, g2, _⟩ | ⟨⟨b, hb, q⟩, _⟩
      · rw [g2, i32_le, e2000] at g; omega
      · exact ⟨b, by omega, q.1, by rw [e]; exact q.2⟩
  · rcases hm with ⟨e, _⟩ | ⟨e, g⟩
    · exact ⟨i, by omega, ht, e.symm⟩
    · rcases h1 with ⟨_, _, g2⟩ | ⟨_, ⟨b, hb, q⟩⟩
      · rw [g2, i32_le, em2000] at g; omega
      · exact ⟨b, by omega, q.1, by rw [e]; exact q.2⟩
  · by_cases e : b = i
    · rw [e]
      constructor
      · rcases hl with ⟨g, _⟩ | ⟨g, g2⟩
        · rw [g]; exact Int32.le_refl _
        · rw [g]; exact g2
      · rcases hm with ⟨g, _⟩ | ⟨g, g2⟩
        · rw [g]; exact Int32.le_refl _
        · rw [g]; exact g2
    · obtain ⟨g1, g2⟩ := h2 b (by omega) hn
      constructor
      · rcases hl with ⟨g, k⟩ | ⟨g, _⟩
        · rw [g]; exact Int32.le_trans (Int32.le_of_lt (Int32.not_le.mp k)) g1
        · rw [g]; exact g1
      · rcases hm with ⟨g, k⟩ | ⟨g, _⟩
        · rw [g]; exact Int32.le_trans g2 (Int32.le_of_lt (Int32.not_le.mp k))
        · rw [g]; exact g2
  · rcases q with q | q
    · obtain ⟨b, hb, q2⟩ := h3.mp q
      exact ⟨b, by omega, q2⟩
    · exact ⟨i, by omega, ht, q⟩
  · by_cases e : b = i
    · rw [e] at q; exact Or.inr q.2
    · exact Or.inl (h3.mpr ⟨b, by omega, q⟩)
/-- b is the least one that wrote x -/
def WR (n : Nat) (t u : Nat → Int32) (x : Int32) (b : Nat) : Prop := b < n ∧ ¬ t b = 0 ∧ u b = x ∧ ∀ c, c < b → ¬ t c = 0 → ¬ u c = x
section ACTP
variable {n : Nat} {B : Int} {t tn m u len : Nat → Int32} {mk : Int32} {a : Nat} {le mo ri v q : Int32}
theorem some_of (hL : LMR n t u mk a le mo ri) (hs : ¬ mo ≤ -2000) : (∃ b, b < n ∧ ¬ t b = 0 ∧ u b = le) ∧ (∃ b, b < n ∧ ¬ t b = 0 ∧ u b = mo) := by
  rcases hL.1 with ⟨_, _, e⟩ | h
  · rw [e] at hs; exact absurd (Int32.le_refl _) hs
  · exact h
theorem none_of (hL : LMR n t u mk a le mo ri) (hu : ∀ b, b < n → ¬ t b = 0 → -2000 < (u b).toInt) (hs : mo ≤ -2000) : ∀ b, b < n → t b = 0 := by
  rcases hL.1 with ⟨h, _, _⟩ | ⟨_, ⟨b, hb, h1, h2⟩⟩
  · exact h
  · have := hu b hb h1
    rw [h2] at this
    have e : (-2000 : Int32).toInt = -2000 := by decide
    rw [i32_le, e] at hs
    omega
theorem m_none (hN : NT n B t tn m) (h : ∀ b, b < n → t b = 0) : ∀ b, b < 12 → m b = -2 := fun b hb => (hN b hb).2 (fun q => q.2 (h b q.1))
theorem gAct_0 (h : ∀ b, b < 12 → m b = -2 ∨ m b ≤ v) : gAct m v q = (v, q, -2) := by
  unfold gAct
  rw [gScan_no h]
  simp
theorem gAct_1 (hn : n ≤ 12) (hN : NT n B t tn m) (hu : ∀ b, u b = tn b) (hL : LMR n t u mk a le mo ri) {b : Nat} (hw : WR n t u mo b) (hv : ¬ mo ≤ v) : gAct m v q = (mo, nI b, mo) := by
  obtain ⟨w1, w2, w3, w4⟩ := hw
  obtain ⟨n1, n2, _⟩ := (hN b (by omega)).1 ⟨w1, w2⟩
  have hmb : m b = mo := by rw [n1, ← hu]; exact w3
  have key : gScan m v q 12 = (m b, nI b) := by
    refine gScan_yes (by rw [n1]; exact ne_m2 n2) (by rw [hmb]; exact Int32.not_le.mp hv) (fun c hc => ?_) (by omega) (fun c hc => ?_)
    · by_cases hcc : c < n ∧ ¬ t c = 0
      · obtain ⟨k1, _⟩ := (hN c (by omega)).1 hcc
        refine Or.inr (Int32.lt_of_le_of_ne ?_ ?_)
        · rw [k1, ← hu, hmb]; exact (hL.2.1 c hcc.1 hcc.2).2
        · rw [k1, ← hu, hmb]; exact w4 c hc hcc.2
      · exact Or.inl ((hN c (by omega)).2 hcc)
    · by_cases hcc : c < n ∧ ¬ t c = 0
      · obtain ⟨k1, _⟩ := (hN c hc).1 hcc
        refine Or.inr ?_
        rw [k1, ← hu, hmb]; exact (hL.2.1 c hcc.1 hcc.2).2
      · exact Or.inl ((hN c hc).2 hcc)
  unfold gAct
  rw [key, hmb]
  rw [if_neg (fun e => hv (by rw [show mo = v from e]; exact Int32.le_refl _))]
theorem lAct_0 (h : ∀ b, b < 12 → m b = -2 ∨ (¬ v = -2 ∧ v ≤ m b + len b)) : lAct m len v q = (v, q, -2) := by
  unfold lAct
  rw [lScan_no h]
  simp
theorem lAct_1 (hn : n ≤ 12) (hN : NT n B t tn m) (hu : ∀ b, b < n → u b = tn b + len b) (hL : LMR n t u mk a le mo ri) {b : Nat} (hw : WR n t u le b) (hle : ¬ le = -2) (hv : v = -2 ∨ ¬ v ≤ le) : lAct m len v q = (le, nI b, le) := by
  obtain ⟨w1, w2, w3, w4⟩ := hw
  obtain ⟨n1, n2, _⟩ := (hN b (by omega)).1 ⟨w1, w2⟩
  have hmb : m b + len b = le := by rw [n1, ← hu b w1]; exact w3
  have key : lScan m len v q 12 = (m b + len b, nI b) := by
    refine lScan_yes (by rw [n1]; exact ne_m2 n2) (by rw [hmb]; exact hle) (by rw [hmb]; exact hv.imp id (fun h => Int32.not_le.mp h)) (fun c hc => ?_) (by omega) (fun c hc => ?_)
    · by_cases hcc : c < n ∧ ¬ t c = 0
      · obtain ⟨k1, _⟩ := (hN c (by omega)).1 hcc
        refine Or.inr (Int32.lt_of_le_of_ne ?_ ?_)
        · rw [k1, ← hu c hcc.1, hmb]; exact (hL.2.1 c hcc.1 hcc.2).1
        · rw [k1, ← hu c hcc.1, hmb]; exact fun e => w4 c hc hcc.2 e.symm
      · exact Or.inl ((hN c (by omega)).2 hcc)
    · by_cases hcc : c < n ∧ ¬ t c = 0
      · obtain ⟨k1, _⟩ := (hN c hc).1 hcc
        refine Or.inr ?_
        rw [k1, ← hu c hcc.1, hmb]; exact (hL.2.1 c hcc.1 hcc.2).1
      · exact Or.inl ((hN c hc).2 hcc)
  unfold lAct
  rw [key, hmb]
  rw [if_neg]
  intro e
  rcases hv with h | h
  · exact hle (e.trans h)
  · exact h (by rw [show le = v from e]; exact Int32.le_refl _)
theorem lAct_2 (hN : NT n B t tn m) (hu : ∀ b, b < n → u b = tn b + len b) (hL : LMR n t u mk a le mo ri) (hv : ¬ v = -2) (hle : v ≤ le) : lAct m len v q = (v, q, -2) := by
  refine lAct_0 (fun c hc => ?_)
  by_cases hcc : c < n ∧ ¬ t c = 0
  · obtain ⟨k1, _⟩ := (hN c hc).1 hcc
    refine Or.inr ⟨hv, Int32.le_trans hle ?_⟩
    rw [k1, ← hu c hcc.1]; exact (hL.2.1 c hcc.1 hcc.2).1
  · exact Or.inl ((hN c hc).2 hcc)
theorem wAct_0 (h : ¬ v = -2 ∨ ∀ b, b < 12 → m b = -2) : wAct m v q = (v, q, -2) := by
  unfold wAct
  by_cases hv : v = -2
  · rw [if_pos hv]
    rcases h with h | h
    · exact absurd hv h
    · rw [fi_all (fun c hc => by simp [h c hc])]
  · rw [if_neg hv]
theorem wAct_1 (hn : n ≤ 12) (hN : NT n B t tn m) (hu : ∀ b, u b = tn b) (hq : ∀ b c, b < 12 → c < 12 → ¬ m b = -2 → ¬ m c = -2 → m b = m c) {b : Nat} (hw : WR n t u le b) (hv : v = -2) : wAct m v q = (le, nI b, le + 1) := by
  obtain ⟨w1, w2, w3, w4⟩ := hw
  obtain ⟨n1, n2, _⟩ := (hN b (by omega)).1 ⟨w1, w2⟩
  have hmb : m b = le := by rw [n1, ← hu]; exact w3
  have hb2 : ¬ m b = -2 := by rw [n1]; exact ne_m2 n2
  unfold wAct
  rw [if_pos hv, fi_at (b := b) (by omega) (by simp [hb2]) (fun c hc => ?_)]
  · show (m b, nI b, m b + 1) = _
    rw [hmb]
  · by_cases hc2 : m c = -2
    · simp [hc2]
    · exfalso
      have hcc := (hN.ne (by omega)).mp hc2
      obtain ⟨k1, _⟩ := (hN c (by omega)).1 hcc
      refine w4 c hc hcc.2 ?_
      rw [hu, ← k1, hq c b (by omega) (by omega) hc2 hb2, hmb]
theorem rv_iff (hN : NT n B t tn m) (hu : ∀ b, u b = tn b) (hn : n ≤ 12) (hL : LMR n t u mk a le mo ri) : ri = 0 ↔ fi (rv m mk a) 12 = none := by
  constructor
  · intro h
    refine fi_all (fun c hc => ?_)
    cases hr : rv m mk a c with
    | false => rfl
    | true =>
      exfalso
      obtain ⟨h1, h2⟩ := of_decide_eq_true hr
      have hcc := (hN.ne hc).mp h1
      obtain ⟨k1, _⟩ := (hN c hc).1 hcc
      refine hL.2.2.mpr ⟨c, hcc.1, hcc.2, ?_⟩ h
      rw [hu, ← k1]; exact h2
  · intro h
    by_cases hz : ri = 0
    · exact hz
    · exfalso
      obtain ⟨b, hb, h1, h2⟩ := hL.2.2.mp hz
      have h3 := fi_none h b (by omega)
      obtain ⟨k1, k2, _⟩ := (hN b (by omega)).1 ⟨hb, h1⟩
      have : rv m mk a b = true := by
        unfold rv
        refine decide_eq_true ⟨by rw [k1]; exact ne_m2 k2, ?_⟩
        rw [k1, ← hu]; exact h2
      rw [this] at h3
      exact absurd h3 (by decide)
theorem iAct_0 (hv : ¬ v = 0) : iAct m mk a v q = (v, q, -2) := by unfold iAct; rw [if_neg hv]
theorem iAct_1 (hv : v = 0) (h : fi (rv m mk a) 12 = none) : iAct m mk a v q = (1, q, -1) := by unfold iAct; rw [if_pos hv, if_pos h]
theorem iAct_2 (hv : v = 0) (h : ¬ fi (rv m mk a) 12 = none) : iAct m mk a v q = (v, q, -2) := by unfold iAct; rw [if_pos hv, if_neg h]
theorem oAct_0 (hv : ¬ v = 0) : oAct m mk v q = (v, q, -2) := by unfold oAct; rw [if_neg hv]
theorem oAct_1 (hv : v = 0) (h : ∀ b, b < 12 → ¬ m b = -1) : oAct m mk v q = (v, q, mk) := by
  unfold oAct
  rw [if_pos hv, fi_all (fun c hc => by simp [h c hc])]
theorem oAct_2 (hn : n ≤ 12) (hN : NT n B t tn m) (hu : ∀ b, u b = tn b) (hv : v = 0) {b : Nat} (hw : WR n t u (-1) b) : oAct m mk v q = (2, nI b, -2) := by
  obtain ⟨w1, w2, w3, w4⟩ := hw
  obtain ⟨n1, n2, _⟩ := (hN b (by omega)).1 ⟨w1, w2⟩
  have hmb : m b = -1 := by rw [n1, ← hu]; exact w3
  unfold oAct
  rw [if_pos hv, fi_at (b := b) (by omega) (by simp [hmb]) (fun c hc => ?_)]
  by_cases hc2 : m c = -1
  · exfalso
    have hcc := (hN.ne (by omega)).mp (show ¬ m c = -2 by rw [hc2]; decide)
    obtain ⟨k1, _⟩ := (hN c (by omega)).1 hcc
    exact w4 c hc hcc.2 (by rw [hu, ← k1, hc2])
  · simp [hc2]
theorem no_m1 (hN : NT n B t tn m) (hu : ∀ b, u b = tn b) (hL : LMR n t u mk a le mo ri) (h : (∀ b, b < n → t b = 0) ∨ ¬ le = -1) (hs : (∀ b, b < n → t b = 0) ∨ ∃ b, b < n ∧ ¬ t b = 0 ∧ u b = le) (hn : n ≤ 12) : ∀ b, b < 12 → ¬ m b = -1 := by
  intro b hb e
  have hcc := (hN.ne hb).mp (show ¬ m b = -2 by rw [e]; decide)
  obtain ⟨k1, _⟩ := (hN b hb).1 hcc
  rcases h with h | h
  · exact hcc.2 (h b hcc.1)
  · rcases hs with h2 | ⟨c, hc, h3, h4⟩
    · exact hcc.2 (h2 b hcc.1)
    · obtain ⟨j1, j2, _⟩ := (hN c (by omega)).1 ⟨hc, h3⟩
      have h5 := (hL.2.1 b hcc.1 hcc.2).1
      rw [hu, ← k1, e, i32_le] at h5
      rw [← hu, h4] at j2
      have em1 : (-1 : Int32).toInt = -1 := by decide
      rw [em1] at h5
      refine h (Int32.toInt_inj.mp ?_)
      rw [em1]; omega
end ACTP
