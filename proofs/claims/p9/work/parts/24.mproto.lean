-- The reference's protocol, apart from the machine: what holds between two calls, and that each act keeps it
abbrev PS : Type := (Nat → Nat) × (Nat → Int) × (Nat → Bool) × (Nat → Bool) × (Nat → Bool) × (Nat → Bool)
abbrev rdP (S : PS) : Nat → Nat := S.1
abbrev opP (S : PS) : Nat → Int := S.2.1
abbrev sfP (S : PS) : Nat → Bool := S.2.2.1
abbrev raP (S : PS) : Nat → Bool := S.2.2.2.1
abbrev fiP (S : PS) : Nat → Bool := S.2.2.2.2.1
abbrev dnP (S : PS) : Nat → Bool := S.2.2.2.2.2
def fup {α : Type} (f : Nat → α) (a : Nat) (v : α) : Nat → α := fun b => if b = a then v else f b
theorem fup_s {α : Type} {f : Nat → α} {a : Nat} {v : α} : fup f a v a = v := by simp [fup]
theorem fup_n {α : Type} {f : Nat → α} {a b : Nat} {v : α} (h : b ≠ a) : fup f a v b = f b := by simp [fup, h]
def b2i (b : Bool) : Int := if b then 1 else 0
theorem b2i_in (b : Bool) : 0 ≤ b2i b ∧ b2i b ≤ 1 := by cases b <;> simp [b2i]
def su (f : Nat → Int) : Nat → Int
  | 0 => 0
  | k + 1 => su f k + f k
theorem su_le {f g : Nat → Int} {n : Nat} (h : ∀ a, a < n → f a ≤ g a) : su f n ≤ su g n := by
  induction n with
  | zero => exact Int.le_refl _
  | succ k ih =>
    have h1 := ih (fun a ha => h a (by omega))
    have h2 := h k (by omega)
    unfold su; omega
theorem su_add {f g : Nat → Int} {n : Nat} : su (fun a => f a + g a) n = su f n + su g n := by
  induction n with
  | zero => rfl
  | succ k ih => unfold su; rw [ih]; omega
theorem su_one {a : Nat} {v : Int} {n : Nat} (ha : a < n) : su (fun b => if b = a then v else 0) n = v := by
  induction n with
  | zero => omega
  | succ k ih =>
    unfold su
    by_cases hk : a = k
    · subst hk
      have h0 : ∀ m, m ≤ a → su (fun b => if b = a then v else 0) m = 0 := by
        intro m
        induction m with
        | zero => intro _; rfl
        | succ j ihj => intro hj; unfold su; rw [ihj (by omega), if_neg (by omega)]; rfl
      rw [h0 a (Nat.le_refl a), if_pos rfl]; omega
    · rw [ih (by omega), if_neg (Ne.symm hk)]; omega
theorem su_const {n : Nat} {B : Int} {f : Nat → Int} (h : ∀ a, a < n → f a ≤ B) : su f n ≤ n * B := by
  induction n with
  | zero => simp [su]
  | succ k ih =>
    have h1 := ih (fun a ha => h a (by omega))
    have h2 := h k (by omega)
    unfold su
    have : ((k + 1 : Nat) : Int) * B = k * B + B := by rw [Int.natCast_succ, Int.add_mul, Int.one_mul]
    omega
/-- how many nodes have the upper a -/
def cu (up : Nat → Option Nat) (a : Nat) (n : Nat) : Int := su (fun c => if up c = some a then 1 else 0) n
/-- the letters that a node may have waiting at most, and those to it from its upper -/
def ph (W : Nat) (up : Nat → Option Nat) (S : PS) (a : Nat) : Int :=
  (if rdP S a = 0 then 0 else opP S a + 12 * ((rdP S a : Int) - 1 + b2i (if W = 0 then sfP S a else fiP S a)) + ((rdP S a : Int) - 1 + b2i (raP S a)) + ((rdP S a : Int) - 1 + b2i (dnP S a)))
  + (match up a with | none => 0 | some u => if rdP S u = 0 then 0 else ((rdP S u : Int) - 1) + ((rdP S u : Int) - 1 + b2i (fiP S u)))
def frs (l : List Lt) (c : Nat) : Nat := l.countP (fun x => decide (x.1 = 5 ∧ x.2.2.1 = nI c))
/-- a letter, as letters are -/
def VL (n R : Nat) (x : Lt) : Prop := (∃ k, k < 7 ∧ x.1 = nI k) ∧ (∃ f, f < n ∧ x.2.1 = nI f) ∧ (∃ t, t < n ∧ x.2.2.1 = nI t) ∧ (∃ q, 1 ≤ q ∧ q ≤ R ∧ x.2.2.2.1 = nI q ∧ (x.1 = 0 → NB q x.2.2.2.2))
/-- what a letter of the tree says of its nodes -/
def TL (n W : Nat) (up : Nat → Option Nat) (S : PS) (x : Lt) : Prop :=
  (x.1 = 3 → ∃ c u q, c < n ∧ u < n ∧ x.2.1 = nI c ∧ x.2.2.1 = nI u ∧ up c = some u ∧ x.2.2.2.1 = nI q ∧ q ≤ rdP S c ∧ (q = rdP S c → raP S c = true)) ∧
  (x.1 = 6 → ∃ c u q, c < n ∧ u < n ∧ x.2.1 = nI c ∧ x.2.2.1 = nI u ∧ up c = some u ∧ x.2.2.2.1 = nI q ∧ q ≤ rdP S c ∧ (q = rdP S c → dnP S c = true)) ∧
  (x.1 = 4 → ∃ c u, c < n ∧ u < n ∧ x.2.2.1 = nI c ∧ up c = some u ∧ x.2.2.2.1 = nI (rdP S c + 1) ∧ rdP S c + 1 ≤ rdP S u ∧ 1 ≤ rdP S c ∧ raP S c = true ∧ (W = 2 → dnP S c = true)) ∧
  (x.1 = 5 → W = 2 ∧ ∃ c u, c < n ∧ u < n ∧ x.2.2.1 = nI c ∧ up c = some u ∧ 1 ≤ rdP S c ∧ raP S c = true ∧ fiP S c = false ∧ ((rdP S c = rdP S u ∧ fiP S u = true) ∨ rdP S c < rdP S u))
/-- what holds of a node -/
def NL (n R W : Nat) (up : Nat → Option Nat) (c2 c3 : Nat → Nat → Prop) (S : PS) (a : Nat) : Prop :=
  rdP S a ≤ R ∧ (1 ≤ rdP S a → opP S a ≤ 12 ∧ (sfP S a = true → opP S a ≤ 0) ∧ (raP S a = true → sfP S a = true) ∧ (dnP S a = true → fiP S a = true) ∧ (fiP S a = true → raP S a = true) ∧
    (raP S a = true → ∀ c, c < n → up c = some a → c2 c (rdP S a)) ∧ (dnP S a = true → ∀ c, c < n → up c = some a → c3 c (rdP S a))) ∧
  (∀ u, up a = some u → u < n ∧ u ≠ a ∧ (rdP S a ≤ rdP S u ∨ rdP S a ≤ 1) ∧ (1 ≤ rdP S a → fiP S a = true → (rdP S a = rdP S u ∧ fiP S u = true) ∨ rdP S a < rdP S u)) ∧
  (∀ q, c2 a q → q ≤ rdP S a ∧ (q = rdP S a → raP S a = true)) ∧ (∀ q, c3 a q → q ≤ rdP S a ∧ (q = rdP S a → dnP S a = true))
def PI (n R W : Nat) (up : Nat → Option Nat) (c2 c3 : Nat → Nat → Prop) (S : PS) (l : List Lt) : Prop :=
  (∀ a, a < n → NL n R W up c2 c3 S a) ∧ (∀ x, x ∈ l → VL n R x ∧ TL n W up S x) ∧ (∀ c, c < n → gos l c ≤ 1 ∧ frs l c ≤ 1) ∧ (l.length : Int) ≤ su (ph W up S) n
/-- the pool never has more than 3984 letters -/
theorem PI.len {n R W : Nat} {up : Nat → Option Nat} {c2 c3 : Nat → Nat → Prop} {S : PS} {l : List Lt} (h : PI n R W up c2 c3 S l) (hn : n ≤ 12) (hR : R ≤ 20) : l.length ≤ 3984 := by
  have h1 : su (ph W up S) n ≤ n * 332 := by
    refine su_const (fun a ha => ?_)
    obtain ⟨n1, n2, n3, -, -⟩ := h.1 a ha
    have b1 := b2i_in (if W = 0 then sfP S a else fiP S a)
    have b2 := b2i_in (raP S a)
    have b3 := b2i_in (dnP S a)
    unfold ph
    have e1 : (if rdP S a = 0 then (0 : Int) else opP S a + 12 * ((rdP S a : Int) - 1 + b2i (if W = 0 then sfP S a else fiP S a)) + ((rdP S a : Int) - 1 + b2i (raP S a)) + ((rdP S a : Int) - 1 + b2i (dnP S a))) ≤ 292 := by
      by_cases h0 : rdP S a = 0
      · rw [if_pos h0]; omega
      · rw [if_neg h0]
        have := (n2 (by omega)).1
        omega
    have e2 : (match up a with | none => (0 : Int) | some u => if rdP S u = 0 then 0 else ((rdP S u : Int) - 1) + ((rdP S u : Int) - 1 + b2i (fiP S u))) ≤ 40 := by
      cases hu : up a with
      | none => simp
      | some u =>
        have hu' := (n3 u hu).1
        have h5 := (h.1 u hu').1
        have b4 := b2i_in (fiP S u)
        simp only
        by_cases h0 : rdP S u = 0
        · rw [if_pos h0]; omega
        · rw [if_neg h0]; omega
    omega
  have h2 := h.2.2.2
  have h3 : (n : Int) * 332 ≤ 12 * 332 := by omega
  omega
theorem frs_app (l m : List Lt) (c : Nat) : frs (l ++ m) c = frs l c + frs m c := by unfold frs; exact List.countP_append
theorem gos_app (l m : List Lt) (c : Nat) : gos (l ++ m) c = gos l c + gos m c := by unfold gos; exact List.countP_append
/-- letters that are no GO and no FIRM come in -/
theorem PI.send {n R W : Nat} {up : Nat → Option Nat} {c2 c3 : Nat → Nat → Prop} {S S' : PS} {l : List Lt} (h : PI n R W up c2 c3 S l) (m : List Lt)
    (hN : ∀ a, a < n → NL n R W up c2 c3 S' a) (hT : ∀ x, x ∈ l → TL n W up S' x) (hm : ∀ x, x ∈ m → VL n R x ∧ TL n W up S' x) (h45 : ∀ x, x ∈ m → ¬ x.1 = 4 ∧ ¬ x.1 = 5) (hp : su (ph W up S) n + m.length ≤ su (ph W up S') n) : PI n R W up c2 c3 S' (l ++ m) := by
  refine ⟨hN, fun x hx => ?_, fun c hc => ?_, ?_⟩
  · rcases List.mem_append.mp hx with e | e
    · exact ⟨(h.2.1 x e).1, hT x e⟩
    · exact hm x e
  · have g0 : gos m c = 0 := by
      unfold gos; exact List.countP_eq_zero.mpr (fun x hx => by simp [(h45 x hx).1])
    have f0 : frs m c = 0 := by
      unfold frs; exact List.countP_eq_zero.mpr (fun x hx => by simp [(h45 x hx).2])
    rw [gos_app, frs_app, g0, f0]
    exact h.2.2.1 c hc
  · rw [List.length_append]
    have := h.2.2.2
    omega
/-- a letter goes -/
theorem PI.take {n R W : Nat} {up : Nat → Option Nat} {c2 c3 : Nat → Nat → Prop} {S : PS} {l : List Lt} {i : Nat} (h : PI n R W up c2 c3 S l) : (∀ a, a < n → NL n R W up c2 c3 S a) ∧ (∀ x, x ∈ l.eraseIdx i → VL n R x ∧ TL n W up S x) ∧ (∀ c, c < n → gos (l.eraseIdx i) c ≤ 1 ∧ frs (l.eraseIdx i) c ≤ 1) := by
  refine ⟨h.1, fun x hx => h.2.1 x (List.mem_of_mem_eraseIdx hx), fun c hc => ?_⟩
  have s := List.eraseIdx_sublist l i
  have g1 : gos (l.eraseIdx i) c ≤ gos l c := by unfold gos; exact s.countP_le
  have g2 : frs (l.eraseIdx i) c ≤ frs l c := by unfold frs; exact s.countP_le
  have := h.2.2.1 c hc
  omega
