-- Clusters: pure
theorem in_ext {x y : Int32} (h : ∀ c, c < 32 → zIn x (nI c) = zIn y (nI c)) : x = y := by
  apply b_ext
  intro c hc
  rw [← zIn_bt x hc, ← zIn_bt y hc]
  exact h c hc
def ardU (n : Nat) (lk : Nat → Nat → Bool) (set : Int32) : Nat → Int32
  | 0 => 0
  | k + 1 => if (fi (fun a => zIn set (nI a) && lk a k) n).isSome = true then ardU n lk set k ||| ((1 : Int32) <<< (nI k &&& 31)) else ardU n lk set k
/-- all neighbours of a set -/
def ard (n : Nat) (lk : Nat → Nat → Bool) (set : Int32) : Int32 := ardU n lk set n
theorem fi_ex {P : Nat → Bool} {n : Nat} : (fi P n).isSome = true ↔ ∃ a, a < n ∧ P a = true := by
  cases hf : fi P n with
  | some b => exact ⟨fun _ => ⟨b, (fi_some hf).1, (fi_some hf).2⟩, fun _ => rfl⟩
  | none =>
    refine ⟨fun h => absurd h (by simp), fun ⟨a, ha, hp⟩ => ?_⟩
    rw [fi_none hf a ha] at hp
    exact absurd hp (by decide)
theorem ardU_in {n : Nat} {lk : Nat → Nat → Bool} {set : Int32} {c : Nat} (hc : c < 32) : ∀ k, k ≤ 32 → (zIn (ardU n lk set k) (nI c) = true ↔ c < k ∧ ∃ a, a < n ∧ zIn set (nI a) = true ∧ lk a c = true) := by
  intro k
  induction k with
  | zero =>
    intro _
    unfold ardU
    rw [zIn_0 hc]
    exact ⟨fun h => absurd h (by decide), fun h => absurd h.1 (Nat.not_lt_zero c)⟩
  | succ k ih =>
    intro hk
    have ih := ih (by omega)
    unfold ardU
    by_cases h : (fi (fun a => zIn set (nI a) && lk a k) n).isSome = true
    · rw [if_pos h, zIn_or _ _ hc, zIn_bit (by omega) hc, Bool.or_eq_true, decide_eq_true_eq, ih]
      obtain ⟨a, ha, hp⟩ := fi_ex.mp h
      rw [Bool.and_eq_true] at hp
      constructor
      · rintro (⟨q1, q2⟩ | q)
        · exact ⟨by omega, q2⟩
        · rw [q]; exact ⟨by omega, a, ha, hp⟩
      · rintro ⟨q1, q2⟩
        by_cases e : c = k
        · exact Or.inr e
        · exact Or.inl ⟨by omega, q2⟩
    · rw [if_neg h, ih]
      constructor
      · rintro ⟨q1, q2⟩; exact ⟨by omega, q2⟩
      · rintro ⟨q1, a, ha, q2⟩
        by_cases e : c = k
        · rw [e] at q2
          exact absurd (fi_ex.mpr ⟨a, ha, by rw [Bool.and_eq_true]; exact q2⟩) h
        · exact ⟨by omega, a, ha, q2⟩
theorem ard_in {n : Nat} {lk : Nat → Nat → Bool} {set : Int32} {c : Nat} (hn : n ≤ 12) (hc : c < 32) : zIn (ard n lk set) (nI c) = true ↔ c < n ∧ ∃ a, a < n ∧ zIn set (nI a) = true ∧ lk a c = true := ardU_in hc n (by omega)
/-- who would come to the cluster c next -/
def clF (n : Nat) (lk : Nat → Nat → Bool) (free c : Int32) : Int32 := (ard n lk c &&& free) &&& (c ^^^ (-1 : Int32))
def clS (n : Nat) (lk : Nat → Nat → Bool) (k free : Int32) : Nat → Int32 → Int32
  | 0, c => c
  | t + 1, c => if (k - 1) * nI (bN c 12) ≤ nI (bN (clF n lk free c) 12) then clS n lk k free t (c ||| clF n lk free c) else c
/-- no bit from n on -/
def hi0 (n : Nat) (x : Int32) : Prop := ∀ c, n ≤ c → c < 32 → zIn x (nI c) = false
theorem hi0.or {n : Nat} {x y : Int32} (hx : hi0 n x) (hy : hi0 n y) : hi0 n (x ||| y) := fun c h1 h2 => by rw [zIn_or _ _ h2, hx c h1 h2, hy c h1 h2]; rfl
theorem hi0.and {n : Nat} {x y : Int32} (hx : hi0 n x) : hi0 n (x &&& y) := fun c h1 h2 => by rw [zIn_and _ _ h2, hx c h1 h2]; rfl
theorem hi0.mono {n m : Nat} {x : Int32} (hx : hi0 n x) (h : n ≤ m) : hi0 m x := fun c h1 h2 => hx c (by omega) h2
theorem hi0_bit {n a : Nat} (ha : a < n) (hn : n ≤ 12) : hi0 n ((1 : Int32) <<< (nI a &&& 31)) := fun c h1 h2 => by rw [zIn_bit (by omega) h2]; exact decide_eq_false (by omega)
theorem hi0_ard {n : Nat} {lk : Nat → Nat → Bool} {set : Int32} (hn : n ≤ 12) : hi0 n (ard n lk set) := fun c h1 h2 => by
  cases hz : zIn (ard n lk set) (nI c) with
  | false => rfl
  | true => have := (ard_in hn h2).mp hz; omega
theorem hi0_clF {n : Nat} {lk : Nat → Nat → Bool} {free c : Int32} (hn : n ≤ 12) : hi0 n (clF n lk free c) := (hi0_ard hn).and.and
theorem hi0_clS {n : Nat} {lk : Nat → Nat → Bool} {k free : Int32} (hn : n ≤ 12) : ∀ t c, hi0 n c → hi0 n (clS n lk k free t c) := by
  intro t
  induction t with
  | zero => intro c hc; exact hc
  | succ t ih =>
    intro c hc
    unfold clS
    split
    · exact ih _ (hc.or (hi0_clF hn))
    · exact hc
/-- the cluster holds what it began with, and goes no further than what is free; it hangs together -/
theorem clS_sub {n : Nat} {lk : Nat → Nat → Bool} {k free : Int32} : ∀ t c b, b < 32 → zIn c (nI b) = true → zIn (clS n lk k free t c) (nI b) = true := by
  intro t
  induction t with
  | zero => intro c b _ h; exact h
  | succ t ih =>
    intro c b hb h
    unfold clS
    split
    · exact ih _ b hb (by rw [zIn_or _ _ hb, h, Bool.true_or])
    · exact h
theorem clS_free {n : Nat} {lk : Nat → Nat → Bool} {k free : Int32} : ∀ t c b, b < 32 → zIn (clS n lk k free t c) (nI b) = true → zIn c (nI b) = true ∨ zIn free (nI b) = true := by
  intro t
  induction t with
  | zero => intro c b _ h; exact Or.inl h
  | succ t ih =>
    intro c b hb h
    unfold clS at h
    split at h
    · rcases ih _ b hb h with q | q
      · rw [zIn_or _ _ hb, Bool.or_eq_true] at q
        rcases q with q | q
        · exact Or.inl q
        · unfold clF at q
          rw [zIn_and _ _ hb, zIn_and _ _ hb, Bool.and_eq_true, Bool.and_eq_true] at q
          exact Or.inr q.1.2
      · exact Or.inr q
    · exact Or.inl h
/-- a set in which all hang together from a root: a set that holds the root and goes along the links within it, holds it all -/
def Hang (n : Nat) (lk : Nat → Nat → Bool) (root : Nat) (x : Int32) : Prop := ∀ T : Nat → Bool, T root = true → (∀ a b, a < n → b < n → zIn x (nI a) = true → zIn x (nI b) = true → T b = true → lk b a = true → T a = true) → ∀ a, a < n → zIn x (nI a) = true → T a = true
theorem Hang_clS {n : Nat} {lk : Nat → Nat → Bool} {k free : Int32} {root : Nat} (hn : n ≤ 12) : ∀ t c, Hang n lk root c → Hang n lk root (clS n lk k free t c) := by
  intro t
  induction t with
  | zero => intro c h; exact h
  | succ t ih =>
    intro c h
    unfold clS
    split
    · refine ih _ (fun T hT hC a ha hz => ?_)
      have inc : ∀ b, b < n → zIn c (nI b) = true → T b = true := h T hT (fun a b ha hb h1 h2 h3 h4 => hC a b ha hb (by rw [zIn_or _ _ (by omega), h1, Bool.true_or]) (by rw [zIn_or _ _ (by omega), h2, Bool.true_or]) h3 h4)
      have hz2 := hz
      rw [zIn_or _ _ (by omega), Bool.or_eq_true] at hz
      rcases hz with hz | hz
      · exact inc a ha hz
      · unfold clF at hz
        rw [zIn_and _ _ (by omega), zIn_and _ _ (by omega), Bool.and_eq_true, Bool.and_eq_true] at hz
        obtain ⟨_, b, hb, h1, h2⟩ := (ard_in hn (by omega)).mp hz.1.1
        exact hC a b ha hb hz2 (by rw [zIn_or _ _ (by omega), h1, Bool.true_or]) (inc b hb h1) h2
    · exact h
/-- what is free before node i is looked at -/
def frI (n : Nat) (lk : Nat → Nat → Bool) (k : Int32) : Nat → Int32
  | 0 => zAll (nI n)
  | i + 1 => if zIn (frI n lk k i) (nI i) = true then frI n lk k i &&& (clS n lk k (frI n lk k i) n ((1 : Int32) <<< (nI i &&& 31)) ^^^ (-1 : Int32)) else frI n lk k i
/-- the cluster of which i would be the leader -/
def clI (n : Nat) (lk : Nat → Nat → Bool) (k : Int32) (i : Nat) : Int32 := clS n lk k (frI n lk k i) n ((1 : Int32) <<< (nI i &&& 31))
/-- i leads a cluster -/
def ldI (n : Nat) (lk : Nat → Nat → Bool) (k : Int32) (i : Nat) : Bool := zIn (frI n lk k i) (nI i)
section CLU
variable {n : Nat} {lk : Nat → Nat → Bool} {k : Int32}
theorem frI_y {i : Nat} (h : ldI n lk k i = true) : frI n lk k (i + 1) = frI n lk k i &&& (clI n lk k i ^^^ (-1 : Int32)) := by
  show (if zIn (frI n lk k i) (nI i) = true then _ else _) = _
  unfold ldI at h
  rw [if_pos h]; rfl
theorem frI_n {i : Nat} (h : ldI n lk k i = false) : frI n lk k (i + 1) = frI n lk k i := by
  show (if zIn (frI n lk k i) (nI i) = true then _ else _) = _
  unfold ldI at h
  rw [if_neg (fun q => by rw [h] at q; exact absurd q (by decide))]
theorem frI_dn {i b : Nat} (hb : b < 32) (h : zIn (frI n lk k (i + 1)) (nI b) = true) : zIn (frI n lk k i) (nI b) = true := by
  cases hl : ldI n lk k i with
  | true =>
    rw [frI_y hl, zIn_and _ _ hb, Bool.and_eq_true] at h
    exact h.1
  | false => rw [frI_n hl] at h; exact h
theorem frI_le {i j b : Nat} (hij : i ≤ j) (hb : b < 32) (h : zIn (frI n lk k j) (nI b) = true) : zIn (frI n lk k i) (nI b) = true := by
  induction j with
  | zero =>
    have : i = 0 := by omega
    rw [this]; exact h
  | succ j ih =>
    by_cases e : i = j + 1
    · rw [e]; exact h
    · exact ih (by omega) (frI_dn hb h)
theorem clI_me {i : Nat} (hi : i < 32) : zIn (clI n lk k i) (nI i) = true := clS_sub n _ i hi (by rw [zIn_bit hi hi]; exact decide_eq_true rfl)
/-- a node is free up to its leader, and in one cluster alone -/
theorem clI_fr {i b : Nat} (hi : i < 12) (hb : b < 32) (hl : ldI n lk k i = true) (h : zIn (clI n lk k i) (nI b) = true) : zIn (frI n lk k i) (nI b) = true := by
  rcases clS_free n _ b hb h with q | q
  · rw [zIn_bit (by omega) hb] at q
    rw [of_decide_eq_true q]; exact hl
  · exact q
theorem frI_no {i b : Nat} (hb : b < 32) (hl : ldI n lk k i = true) (h : zIn (clI n lk k i) (nI b) = true) : zIn (frI n lk k (i + 1)) (nI b) = false := by
  rw [frI_y hl, zIn_and _ _ hb, zIn_not _ hb, h]
  simp
theorem clI_one {i j b : Nat} (hi : i < 12) (hj : j < 12) (hb : b < 32) (li : ldI n lk k i = true) (lj : ldI n lk k j = true) (h1 : zIn (clI n lk k i) (nI b) = true) (h2 : zIn (clI n lk k j) (nI b) = true) : i = j := by
  rcases Nat.lt_trichotomy i j with h | h | h
  · exfalso
    have := frI_le (i := i + 1) (by omega) hb (clI_fr hj hb lj h2)
    rw [frI_no hb li h1] at this
    exact absurd this (by decide)
  · exact h
  · exfalso
    have := frI_le (i := j + 1) (by omega) hb (clI_fr hi hb li h1)
    rw [frI_no hb lj h2] at this
    exact absurd this (by decide)
/-- who is no longer free before i, is in the cluster of one before i -/
theorem clI_ex (hn : n ≤ 12) {b : Nat} (hb : b < n) : ∀ i, i ≤ 12 → zIn (frI n lk k i) (nI b) = false → ∃ j, j < i ∧ ldI n lk k j = true ∧ zIn (clI n lk k j) (nI b) = true := by
  intro i
  induction i with
  | zero =>
    intro _ h
    have e : zIn (frI n lk k 0) (nI b) = true := all_in hn hb
    rw [e] at h; exact absurd h (by decide)
  | succ i ih =>
    intro hi h
    cases hf : zIn (frI n lk k i) (nI b) with
    | false =>
      obtain ⟨j, hj, q⟩ := ih (by omega) hf
      exact ⟨j, by omega, q⟩
    | true =>
      cases hl : ldI n lk k i with
      | false => rw [frI_n hl, hf] at h; exact absurd h (by decide)
      | true =>
        refine ⟨i, by omega, hl, ?_⟩
        rw [frI_y hl, zIn_and _ _ (by omega), zIn_not _ (by omega), hf, Bool.true_and] at h
        revert h
        cases zIn (clI n lk k i) (nI b) <;> simp
/-- behind node i, i is not free -/
theorem frI_past {i j : Nat} (hi : i < 12) (hij : i < j) : zIn (frI n lk k j) (nI i) = false := by
  cases hz : zIn (frI n lk k j) (nI i) with
  | false => rfl
  | true =>
    exfalso
    have h1 := frI_le (i := i + 1) (by omega) (by omega) hz
    cases hl : ldI n lk k i with
    | true => rw [frI_no (by omega) hl (clI_me (by omega))] at h1; exact absurd h1 (by decide)
    | false =>
      rw [frI_n hl] at h1
      unfold ldI at hl
      rw [hl] at h1; exact absurd h1 (by decide)
/-- every node has a leader -/
theorem ld_ex (hn : n ≤ 12) {b : Nat} (hb : b < n) : ∃ j, j < n ∧ ldI n lk k j = true ∧ zIn (clI n lk k j) (nI b) = true := clI_ex hn hb n hn (frI_past (by omega) hb)
end CLU
