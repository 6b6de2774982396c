-- how many bits: bitCount, bits
def bN (s : Int32) : Nat → Nat
  | 0 => 0
  | k + 1 => bN s k + (if zIn s (nI k) = true then 1 else 0)
def pcH : Nat → Nat → Nat
  | 0, _ => 0
  | k + 1, m => pcH k m + m / 2 ^ k % 2
def allB (f : Nat → Bool) : Nat → Bool
  | 0 => true
  | k + 1 => f k && allB f k
theorem allB_at {f : Nat → Bool} : ∀ {n : Nat}, allB f n = true → ∀ m, m < n → f m = true := by
  intro n
  induction n with
  | zero => intro _ m hm; exact absurd hm (Nat.not_lt_zero m)
  | succ k ih =>
    intro h m hm
    unfold allB at h
    rw [Bool.and_eq_true] at h
    by_cases e : m = k
    · rw [e]; exact h.1
    · exact ih h.2 m (by omega)
theorem zBc_all : allB (fun m => decide (zBc (nI m) = nI (pcH 12 m))) 4096 = true := by decide +kernel
theorem bN_pcH {m : Nat} : ∀ k, k ≤ 32 → bN (nI m) k = pcH k m := by
  intro k
  induction k with
  | zero => intro _; rfl
  | succ k ih =>
    intro hk
    unfold bN pcH
    rw [ih (by omega), zIn_bt _ (by omega)]
    have e : bt (nI m) k = decide (m / 2 ^ k % 2 = 1) := by
      unfold bt nI
      show (BitVec.ofNat 32 m).getLsbD k = _
      rw [BitVec.getLsbD_ofNat, Nat.testBit_eq_decide_div_mod_eq]
      simp [show k < 32 by omega]
    rw [e]
    by_cases h : m / 2 ^ k % 2 = 1
    · rw [if_pos (decide_eq_true h), h]
    · rw [if_neg (fun q => h (of_decide_eq_true q))]
      have : m / 2 ^ k % 2 = 0 := by omega
      rw [this]
theorem low12 {x : Int32} (h : ∀ c, 12 ≤ c → c < 32 → zIn x (nI c) = false) : ∃ m, m < 4096 ∧ x = nI m := by
  obtain ⟨j, hj, e⟩ := pk_andE x (m := 4095) 12 (by decide)
  refine ⟨j, hj, ?_⟩
  rw [← e]
  apply b_ext
  intro c hc
  rw [b_and]
  have e2 : ∀ c, c < 32 → bt 4095 c = decide (c < 12) := by decide +kernel
  rw [e2 c hc]
  by_cases h2 : c < 12
  · rw [decide_eq_true h2, Bool.and_true]
  · rw [← zIn_bt x hc, h c (by omega) hc, Bool.false_and]
/-- bitCount of a set of nodes -/
theorem zBc_bN {x : Int32} (h : ∀ c, 12 ≤ c → c < 32 → zIn x (nI c) = false) : zBc x = nI (bN x 12) := by
  obtain ⟨m, hm, e⟩ := low12 h
  rw [e, bN_pcH 12 (by decide)]
  exact of_decide_eq_true (allB_at zBc_all m hm)
theorem bN_le (x : Int32) (k : Nat) : bN x k ≤ k := by
  induction k with
  | zero => exact Nat.le_refl _
  | succ k ih => unfold bN; split <;> omega
theorem bN_cut {x : Int32} {n : Nat} : ∀ {k : Nat}, n ≤ k → (∀ c, n ≤ c → c < k → zIn x (nI c) = false) → bN x k = bN x n := by
  intro k
  induction k with
  | zero => intro h _; have : n = 0 := by omega
            rw [this]
  | succ k ih =>
    intro h hz
    by_cases e : n = k + 1
    · rw [e]
    · show bN x k + (if zIn x (nI k) = true then 1 else 0) = bN x n
      rw [ih (by omega) (fun c hc hk => hz c hc (by omega)), hz k (by omega) (by omega)]
      simp
