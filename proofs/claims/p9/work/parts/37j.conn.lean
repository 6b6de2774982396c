-- Is the net connected: both sides say the same
theorem zIn_t {s : Int32} {c : Nat} (h : ((s >>> (nI c &&& 31)) &&& (1 : Int32)) = 1) : zIn s (nI c) = true := by
  unfold zIn
  rw [h]; decide
theorem zIn_nt {s : Int32} {c : Nat} (h : ¬ ((s >>> (nI c &&& 31)) &&& (1 : Int32)) = 1) : zIn s (nI c) = false := by
  obtain ⟨j, hj, e⟩ := pk_andE (s >>> (nI c &&& 31)) (m := 1) 1 (by decide)
  have hj : j = 0 ∨ j = 1 := by omega
  rcases hj with rfl | rfl
  · exact zIn_f e
  · exact absurd e h
theorem zIn_nf {s : Int32} {c : Nat} (h : ¬ ((s >>> (nI c &&& 31)) &&& (1 : Int32)) = 0) : zIn s (nI c) = true := by simp [zIn, h]
theorem zAll_in : ∀ n, n < 13 → ∀ c, c < 32 → bt (zAll (nI n)) c = decide (c < n) := by decide +kernel
theorem eq_all {s : Int32} {n : Nat} (hn : n ≤ 12) (h1 : ∀ c, c < n → zIn s (nI c) = true) (h2 : ∀ c, n ≤ c → c < 32 → zIn s (nI c) = false) : s = zAll (nI n) := by
  apply b_ext
  intro c hc
  rw [zAll_in n (by omega) c hc, ← zIn_bt s hc]
  by_cases h : c < n
  · rw [h1 c h, decide_eq_true h]
  · rw [h2 c (by omega) hc, decide_eq_false h]
theorem all_in {n c : Nat} (hn : n ≤ 12) (hc : c < n) : zIn (zAll (nI n)) (nI c) = true := by
  rw [zIn_bt _ (by omega), zAll_in n (by omega) c (by omega), decide_eq_true hc]
/-- the set goes along all links -/
def Cl (n : Nat) (lk : Nat → Nat → Bool) (T : Int32) : Prop := ∀ a b, a < n → b < n → zIn T (nI a) = true → lk a b = true → zIn T (nI b) = true
/-- what spread answers -/
def SPR (n : Nat) (lk : Nat → Nat → Bool) (x : Int32) : Prop := zIn x (nI 0) = true ∧ Cl n lk x ∧ (∀ T, zIn T (nI 0) = true → Cl n lk T → ∀ b, b < n → zIn x (nI b) = true → zIn T (nI b) = true) ∧ ∀ c, n ≤ c → c < 32 → zIn x (nI c) = false
theorem zAr_in {σ : zSt} {set : Int32} {c : Nat} (hc : c < 32) : ∀ n, n ≤ 32 → (zIn (zAr σ set n) (nI c) = true ↔ ∃ a, a < n ∧ zIn set (nI a) = true ∧ zIn (σ 7 a) (nI c) = true) := by
  intro n
  induction n with
  | zero =>
    intro _
    unfold zAr
    rw [zIn_0 hc]
    exact ⟨fun h => absurd h (by decide), fun ⟨a, ha, _⟩ => absurd ha (Nat.not_lt_zero a)⟩
  | succ k ih =>
    intro hk
    have ih := ih (by omega)
    unfold zAr
    by_cases h : zIn set (nI k) = true
    · rw [if_pos h, zIn_or _ _ hc, Bool.or_eq_true]
      constructor
      · rintro (q | q)
        · obtain ⟨a, ha, q⟩ := ih.mp q
          exact ⟨a, by omega, q⟩
        · exact ⟨k, by omega, h, q⟩
      · rintro ⟨a, ha, q1, q2⟩
        by_cases e : a = k
        · rw [e] at q2; exact Or.inr q2
        · exact Or.inl (ih.mpr ⟨a, by omega, q1, q2⟩)
    · rw [if_neg h]
      constructor
      · intro q
        obtain ⟨a, ha, q⟩ := ih.mp q
        exact ⟨a, by omega, q⟩
      · rintro ⟨a, ha, q1, q2⟩
        by_cases e : a = k
        · rw [e] at q1; exact absurd q1 h
        · exact ih.mpr ⟨a, by omega, q1, q2⟩
section CONN
variable {σ : zSt} {n : Nat} {lk : Nat → Nat → Bool}
theorem zRe_in {k c : Nat} (hc : c < 32) (hn : n ≤ 12) : zIn (zRe σ n (k + 1)) (nI c) = true ↔ (zIn (zRe σ n k) (nI c) = true ∨ ∃ a, a < n ∧ zIn (zRe σ n k) (nI a) = true ∧ zIn (σ 7 a) (nI c) = true) := by
  show zIn (zRe σ n k ||| zAr σ (zRe σ n k) n) (nI c) = true ↔ _
  rw [zIn_or _ _ hc, Bool.or_eq_true, zAr_in hc n (by omega)]
theorem zRe_0 (k : Nat) (hn : n ≤ 12) : zIn (zRe σ n k) (nI 0) = true := by
  induction k with
  | zero => show zIn 1 (nI 0) = true; decide +kernel
  | succ k ih => exact (zRe_in (by decide) hn).mpr (Or.inl ih)
theorem zRe_sub {T : Int32} (hn : n ≤ 12) (hlk : ∀ a b, a < n → b < n → zIn (σ 7 a) (nI b) = lk a b) (h0 : zIn T (nI 0) = true) (hC : Cl n lk T) : ∀ k b, b < n → zIn (zRe σ n k) (nI b) = true → zIn T (nI b) = true := by
  intro k
  induction k with
  | zero =>
    intro b hb h
    have e : b = 0 := by
      have h : zIn 1 (nI b) = true := h
      rw [zIn_bt _ (by omega), b_one] at h
      exact of_decide_eq_true h
    rw [e]; exact h0
  | succ k ih =>
    intro b hb h
    rcases (zRe_in (by omega) hn).mp h with h | ⟨a, ha, h1, h2⟩
    · exact ih b hb h
    · exact hC a b ha hb (ih a ha h1) (by rw [← hlk a b ha hb]; exact h2)
theorem zRe_hi (hn : n ≤ 12) (h1 : 1 ≤ n) (hhi : ∀ a c, a < n → n ≤ c → c < 32 → zIn (σ 7 a) (nI c) = false) : ∀ k c, n ≤ c → c < 32 → zIn (zRe σ n k) (nI c) = false := by
  intro k
  induction k with
  | zero =>
    intro c hc hc2
    show zIn 1 (nI c) = false
    rw [zIn_bt _ hc2, b_one]
    exact decide_eq_false (by omega)
  | succ k ih =>
    intro c hc hc2
    cases hz : zIn (zRe σ n (k + 1)) (nI c) with
    | false => rfl
    | true =>
      exfalso
      rcases (zRe_in hc2 hn).mp hz with h | ⟨a, ha, _, h⟩
      · rw [ih c hc hc2] at h; exact absurd h (by decide)
      · rw [hhi a c ha hc hc2] at h; exact absurd h (by decide)
theorem zRe_fix (hn : n ≤ 12) (hlk : ∀ a b, a < n → b < n → zIn (σ 7 a) (nI b) = lk a b) {k : Nat} (hC : Cl n lk (zRe σ n k)) : Cl n lk (zRe σ n (k + 1)) := by
  have back : ∀ b, b < n → zIn (zRe σ n (k + 1)) (nI b) = true → zIn (zRe σ n k) (nI b) = true := by
    intro b hb h
    rcases (zRe_in (by omega) hn).mp h with h | ⟨a, ha, h1, h2⟩
    · exact h
    · exact hC a b ha hb h1 (by rw [← hlk a b ha hb]; exact h2)
  intro a b ha hb h1 h2
  exact (zRe_in (by omega) hn).mpr (Or.inl (hC a b ha hb (back a ha h1) h2))
theorem cz_0 {s : Int32} : ∀ {n : Nat}, cz s n = 0 → ∀ c, c < n → zIn s (nI c) = true := by
  intro n
  induction n with
  | zero => intro _ c hc; exact absurd hc (Nat.not_lt_zero c)
  | succ k ih =>
    intro h c hc
    unfold cz at h
    by_cases e : c = k
    · rw [e]
      by_cases hz : zIn s (nI k) = true
      · exact hz
      · rw [if_neg hz] at h; omega
    · exact ih (by omega) c (by omega)
theorem cz_1 : ∀ n, n < 13 → 1 ≤ n → cz 1 n ≤ n - 1 := by
  intro n hn h1
  have key : ∀ k, 1 ≤ k → cz 1 k + 1 ≤ k := by
    intro k
    induction k with
    | zero => intro h; omega
    | succ k ih =>
      intro _
      unfold cz
      by_cases h : k = 0
      · subst h
        rw [if_pos (by decide +kernel)]
        show 0 + 0 + 1 ≤ 0 + 1
        omega
      · have := ih (by omega)
        split <;> omega
  have := key n h1
  omega
theorem zRe_cl (hn : n ≤ 12) (h1 : 1 ≤ n) (hlk : ∀ a b, a < n → b < n → zIn (σ 7 a) (nI b) = lk a b) : Cl n lk (zRe σ n (n - 1)) := by
  have key : ∀ k, Cl n lk (zRe σ n k) ∨ cz (zRe σ n k) n + k ≤ n - 1 := by
    intro k
    induction k with
    | zero => exact Or.inr (cz_1 n (by omega) h1)
    | succ k ih =>
      rcases ih with ih | ih
      · exact Or.inl (zRe_fix hn hlk ih)
      · by_cases hC : Cl n lk (zRe σ n k)
        · exact Or.inl (zRe_fix hn hlk hC)
        · refine Or.inr ?_
          have : ∃ a b, a < n ∧ b < n ∧ zIn (zRe σ n k) (nI a) = true ∧ lk a b = true ∧ zIn (zRe σ n k) (nI b) = false := by
            apply Classical.byContradiction
            intro q
            refine hC (fun a b ha hb h2 h3 => ?_)
            cases hz : zIn (zRe σ n k) (nI b) with
            | true => rfl
            | false => exact absurd ⟨a, b, ha, hb, h2, h3, hz⟩ q
          obtain ⟨a, b, ha, hb, h2, h3, h4⟩ := this
          have hlt : cz (zRe σ n (k + 1)) n < cz (zRe σ n k) n := cz_lt (b := b) (by omega) hb (fun c hc h => (zRe_in (by omega) hn).mpr (Or.inl h)) h4 ((zRe_in (by omega) hn).mpr (Or.inr ⟨a, ha, h2, by rw [hlk a b ha hb]; exact h3⟩))
          omega
  rcases key (n - 1) with h | h
  · exact h
  · have hz := cz_0 (s := zRe σ n (n - 1)) (n := n) (by omega)
    exact fun a b ha hb _ _ => hz b hb
theorem conn_iff (hn : n ≤ 12) (h1 : 1 ≤ n) (hlk : ∀ a b, a < n → b < n → zIn (σ 7 a) (nI b) = lk a b) (hhi : ∀ a c, a < n → n ≤ c → c < 32 → zIn (σ 7 a) (nI c) = false) {x : Int32} (hx : SPR n lk x) : zRe σ n (n - 1) = zAll (nI n) ↔ x = zAll (nI n) := by
  obtain ⟨x1, x2, x3, x4⟩ := hx
  constructor
  · intro e
    refine eq_all hn (fun c hc => ?_) x4
    refine zRe_sub hn hlk x1 x2 (n - 1) c hc ?_
    rw [e]; exact all_in hn hc
  · intro e
    refine eq_all hn (fun c hc => ?_) (zRe_hi hn h1 hhi (n - 1))
    refine x3 _ (zRe_0 (n - 1) hn) (zRe_cl hn h1 hlk) c hc ?_
    rw [e]; exact all_in hn hc
end CONN
