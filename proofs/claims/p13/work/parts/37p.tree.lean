-- The tree of a root in a set: pure
def tS (n root : Nat) (s : Nat → Bool) (lk : Nat → Nat → Bool) : Nat → Nat → Option (Nat × Option Nat)
  | 0, a => if a = root then some (0, none) else none
  | k + 1, a => match tS n root s lk k a with
    | some p => some p
    | none => if s a = true then (match fi (fun b => s b && (lk a b && decide ((tS n root s lk k b).map Prod.fst = some k))) n with
        | some b => some (k + 1, some b)
        | none => none) else none
def lvE (d : Int32) (o : Option (Nat × Option Nat)) : Int32 := match o with
  | some (j, _) => nI j
  | none => d
def upE (o : Option (Nat × Option Nat)) : Int32 := match o with
  | some (_, some b) => nI b
  | some (_, none) => -2
  | none => -2
def abE (o : Option (Nat × Option Nat)) : Int32 := match o with
  | some (_, some b) => (1 : Int32) <<< (nI b &&& 31)
  | some (_, none) => 0
  | none => 0
section TS
variable {n root : Nat} {s : Nat → Bool} {lk : Nat → Nat → Bool}
theorem tS_0 {a : Nat} : tS n root s lk 0 a = if a = root then some (0, none) else none := by rw [tS]
theorem tS_old {k a : Nat} {p : Nat × Option Nat} (h : tS n root s lk k a = some p) : tS n root s lk (k + 1) a = some p := by rw [tS, h]
theorem tS_out {k a : Nat} (h : tS n root s lk k a = none) (hs : ¬ s a = true) : tS n root s lk (k + 1) a = none := by rw [tS, h]; simp [hs]
theorem tS_new {k a b : Nat} (h : tS n root s lk k a = none) (hs : s a = true) (hf : fi (fun b => s b && (lk a b && decide ((tS n root s lk k b).map Prod.fst = some k))) n = some b) : tS n root s lk (k + 1) a = some (k + 1, some b) := by
  rw [tS, h]
  dsimp only
  rw [if_pos hs, hf]
theorem tS_no {k a : Nat} (h : tS n root s lk k a = none) (hs : s a = true) (hf : fi (fun b => s b && (lk a b && decide ((tS n root s lk k b).map Prod.fst = some k))) n = none) : tS n root s lk (k + 1) a = none := by
  rw [tS, h]
  dsimp only
  rw [if_pos hs, hf]
/-- levels grow, an upper is one level higher, in the set and linked -/
theorem tS_ok : ∀ {k a j : Nat} {u : Option Nat}, tS n root s lk k a = some (j, u) → j ≤ k ∧ ((a = root ∧ j = 0 ∧ u = none) ∨ (s a = true ∧ ∃ b i, j = i + 1 ∧ u = some b ∧ b < n ∧ s b = true ∧ lk a b = true ∧ ∃ v, tS n root s lk i b = some (i, v))) := by
  intro k
  induction k with
  | zero =>
    intro a j u h
    rw [tS_0] at h
    by_cases e : a = root
    · rw [if_pos e] at h
      have h := Option.some.inj h
      have h1 : j = 0 := (congrArg Prod.fst h).symm
      have h2 : u = none := (congrArg Prod.snd h).symm
      exact ⟨by omega, Or.inl ⟨e, h1, h2⟩⟩
    · rw [if_neg e] at h; exact absurd h (by simp)
  | succ k ih =>
    intro a j u h
    cases hk : tS n root s lk k a with
    | some p =>
      rw [tS_old hk] at h
      rw [h] at hk
      obtain ⟨h1, h2⟩ := ih hk
      exact ⟨by omega, h2⟩
    | none =>
      by_cases hs : s a = true
      · cases hf : fi (fun b => s b && (lk a b && decide ((tS n root s lk k b).map Prod.fst = some k))) n with
        | none => rw [tS_no hk hs hf] at h; exact absurd h (by simp)
        | some b =>
          rw [tS_new hk hs hf] at h
          have h := Option.some.inj h
          have e1 : k + 1 = j := congrArg Prod.fst h
          have e2 : some b = u := congrArg Prod.snd h
          obtain ⟨hb, hp⟩ := fi_some hf
          rw [Bool.and_eq_true, Bool.and_eq_true, decide_eq_true_eq] at hp
          obtain ⟨p1, p2, p3⟩ := hp
          refine ⟨by omega, Or.inr ⟨hs, b, k, e1.symm, e2.symm, hb, p1, p2, ?_⟩⟩
          cases hq : tS n root s lk k b with
          | none => rw [hq] at p3; exact absurd p3 (by simp)
          | some q =>
            rw [hq] at p3
            have : q.1 = k := Option.some.inj p3
            exact ⟨q.2, by rw [← this]⟩
      · rw [tS_out hk hs] at h; exact absurd h (by simp)
theorem tS_mono {k m a : Nat} {p : Nat × Option Nat} (hm : k ≤ m) (h : tS n root s lk k a = some p) : tS n root s lk m a = some p := by
  induction m with
  | zero =>
    have e : k = 0 := by omega
    rw [e] at h; exact h
  | succ m ih =>
    by_cases e : k = m + 1
    · rw [e] at h; exact h
    · exact tS_old (ih (by omega))
/-- who is linked to one that has a level, has one a step later -/
theorem tS_next {k a b : Nat} (ha : s a = true) (hb : s b = true) (hbn : b < n) (hl : lk a b = true) (h : (tS n root s lk k b).isSome = true) : (tS n root s lk (k + 1) a).isSome = true := by
  cases hq : tS n root s lk k b with
  | none => rw [hq] at h; exact absurd h (by simp)
  | some q =>
    obtain ⟨j, u⟩ := q
    obtain ⟨h1, h2⟩ := tS_ok hq
    -- b has its level already at step j
    have hj : ∃ v, tS n root s lk j b = some (j, v) := by
      rcases h2 with ⟨e1, e2, e3⟩ | ⟨hs, c, i, e1, e2, hc, hsc, hlc, v, hv⟩
      · rw [e2]; exact ⟨none, by rw [tS_0, if_pos e1]⟩
      · cases hz : tS n root s lk j b with
        | some p =>
          have := tS_mono h1 hz
          rw [hq] at this
          have e := Option.some.inj this
          exact ⟨u, by rw [e]⟩
        | none =>
          exfalso
          rw [e1] at hz
          cases hy : tS n root s lk i b with
          | some p => rw [tS_old hy] at hz; exact absurd hz (by simp)
          | none =>
            cases hf : fi (fun c => s c && (lk b c && decide ((tS n root s lk i c).map Prod.fst = some i))) n with
            | some d => rw [tS_new hy hs hf] at hz; exact absurd hz (by simp)
            | none =>
              have := fi_none hf c hc
              rw [hsc, hlc, hv] at this
              simp at this
    obtain ⟨v, hv⟩ := hj
    cases hz : tS n root s lk (k + 1) a with
    | some p => rfl
    | none =>
      exfalso
      cases hy : tS n root s lk (j + 1) a with
      | some p => rw [tS_mono (by omega) hy] at hz; exact absurd hz (by simp)
      | none =>
        cases hx : tS n root s lk j a with
        | some p => rw [tS_old hx] at hy; exact absurd hy (by simp)
        | none =>
          cases hf : fi (fun c => s c && (lk a c && decide ((tS n root s lk j c).map Prod.fst = some j))) n with
          | some d => rw [tS_new hx ha hf] at hy; exact absurd hy (by simp)
          | none =>
            have := fi_none hf b hbn
            rw [hb, hl, hv] at this
            simp at this
end TS
/-- how many of the first n are not in f -/
def cB (f : Nat → Bool) : Nat → Nat
  | 0 => 0
  | k + 1 => cB f k + (if f k = true then 0 else 1)
theorem cB_le {f g : Nat → Bool} {n : Nat} (h : ∀ c, c < n → f c = true → g c = true) : cB g n ≤ cB f n := by
  induction n with
  | zero => exact Nat.le_refl _
  | succ k ih =>
    have h1 := ih (fun c hc => h c (by omega))
    have h2 := h k (by omega)
    unfold cB
    by_cases hs : f k = true
    · rw [if_pos hs, if_pos (h2 hs)]; omega
    · rw [if_neg hs]; split <;> omega
theorem cB_lt {f g : Nat → Bool} {n b : Nat} (hb : b < n) (h : ∀ c, c < n → f c = true → g c = true) (hf : ¬ f b = true) (hg : g b = true) : cB g n < cB f n := by
  induction n with
  | zero => omega
  | succ k ih =>
    unfold cB
    by_cases hbk : b = k
    · subst hbk
      have h1 : cB g b ≤ cB f b := cB_le (fun c hc => h c (by omega))
      rw [if_pos hg, if_neg hf]; omega
    · have h1 := ih (by omega) (fun c hc => h c (by omega))
      have h2 := h k (by omega)
      by_cases hs : f k = true
      · rw [if_pos hs, if_pos (h2 hs)]; omega
      · rw [if_neg hs]; split <;> omega
theorem cB_n (f : Nat → Bool) (n : Nat) : cB f n ≤ n := by
  induction n with
  | zero => exact Nat.le_refl _
  | succ k ih => unfold cB; split <;> omega
theorem cB_some {f : Nat → Bool} {n b : Nat} (hb : b < n) (hf : f b = true) : cB f n + 1 ≤ n := by
  have := cB_lt (f := fun _ => false) (g := f) hb (fun c _ h => absurd h (by simp)) (by simp) hf
  have := cB_n (fun _ => false) n
  omega
theorem cB_0 {f : Nat → Bool} : ∀ {n : Nat}, cB f n = 0 → ∀ c, c < n → f c = true := by
  intro n
  induction n with
  | zero => intro _ c hc; exact absurd hc (Nat.not_lt_zero c)
  | succ k ih =>
    intro h c hc
    unfold cB at h
    by_cases e : c = k
    · rw [e]
      by_cases hz : f k = true
      · exact hz
      · rw [if_neg hz] at h; omega
    · exact ih (by omega) c (by omega)
/-- a chain of sets that grows by its neighbours is closed behind n - 1 steps -/
theorem chain_cl {n : Nat} (T : Nat → Nat → Bool) (s : Nat → Bool) (lk : Nat → Nat → Bool) (h0 : ∃ a, a < n ∧ T 0 a = true) (hm : ∀ k a, T k a = true → T (k + 1) a = true)
    (hn : ∀ k a b, a < n → b < n → s a = true → T k b = true → lk a b = true → T (k + 1) a = true) (ho : ∀ k a, a < n → T (k + 1) a = true → T k a = true ∨ ∃ b, b < n ∧ s a = true ∧ T k b = true ∧ lk a b = true) :
    ∀ a b, a < n → b < n → s a = true → T (n - 1) b = true → lk a b = true → T (n - 1) a = true := by
  obtain ⟨a0, ha0, h0⟩ := h0
  have key : ∀ k, (∀ a b, a < n → b < n → s a = true → T k b = true → lk a b = true → T k a = true) ∨ cB (T k) n + k ≤ n - 1 := by
    intro k
    induction k with
    | zero =>
      have := cB_some ha0 h0
      exact Or.inr (by omega)
    | succ k ih =>
      by_cases hC : ∀ a b, a < n → b < n → s a = true → T k b = true → lk a b = true → T k a = true
      · refine Or.inl (fun a b ha hb hs hT hl => ?_)
        have : T k b = true := by
          rcases ho k b hb hT with q | ⟨c, hc, q1, q2, q3⟩
          · exact q
          · exact hC b c hb hc q1 q2 q3
        exact hm k a (hC a b ha hb hs this hl)
      · rcases ih with ih | ih
        · exact absurd ih hC
        · refine Or.inr ?_
          have : ∃ a b, a < n ∧ b < n ∧ s a = true ∧ T k b = true ∧ lk a b = true ∧ ¬ T k a = true := by
            apply Classical.byContradiction
            intro q
            refine hC (fun a b ha hb hs h2 h3 => ?_)
            by_cases hz : T k a = true
            · exact hz
            · exact absurd ⟨a, b, ha, hb, hs, h2, h3, hz⟩ q
          obtain ⟨a, b, ha, hb, hs, h2, h3, h4⟩ := this
          have := cB_lt (f := T k) (g := T (k + 1)) ha (fun c _ h => hm k c h) h4 (hn k a b ha hb hs h2 h3)
          omega
  rcases key (n - 1) with h | h
  · exact h
  · have hz := cB_0 (f := T (n - 1)) (n := n) (by omega)
    exact fun a b ha _ _ _ _ => hz a ha
