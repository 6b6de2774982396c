-- The running as one pure machine, which class and reference both are
abbrev AS : Type := PS × (Nat → Int32) × (Nat → Int32) × (Nat → Nat → Int32) × CM × (Nat → Nat → Nat → Int32) × List Lt × Int32 × Int32
abbrev aS (A : AS) : PS := A.1
abbrev aV (A : AS) : Nat → Int32 := A.2.1
abbrev aQ (A : AS) : Nat → Int32 := A.2.2.1
abbrev aU (A : AS) : Nat → Nat → Int32 := A.2.2.2.1
abbrev aC (A : AS) : CM := A.2.2.2.2.1
abbrev aM (A : AS) : Nat → Nat → Nat → Int32 := A.2.2.2.2.2.1
abbrev aL (A : AS) : List Lt := A.2.2.2.2.2.2.1
abbrev aN (A : AS) : Int32 := A.2.2.2.2.2.2.2.1
abbrev aO (A : AS) : Int32 := A.2.2.2.2.2.2.2.2
abbrev mkA (S : PS) (v q : Nat → Int32) (u : Nat → Nat → Int32) (c : CM) (m : Nat → Nat → Nat → Int32) (l : List Lt) (x y : Int32) : AS := (S, v, q, u, c, m, l, x, y)
/-- the same, with other flags and letters that are no NOTEs -/
def aPut (A : AS) (S : PS) (m : List Lt) : AS := mkA S (aV A) (aQ A) (aU A) (aC A) (aM A) (aL A ++ m) (aN A) (aO A + nI m.length)
section ABS
variable (n R W p : Nat) (src : Int32) (mk : Nat → Int32) (len : Nat → Nat → Int32) (lk pa : Nat → Nat → Bool) (up : Nat → Option Nat)
def selL (P : Nat → Bool) : Nat → List Nat
  | 0 => []
  | k + 1 => selL P k ++ (if P k = true then [k] else [])
def ltrs (k : Int32) (a r : Nat) (x : Int32) (bs : List Nat) : List Lt := bs.map (fun b => (k, nI a, nI b, nI r, x))
def lows (a : Nat) : List Nat := selL (fun c => decide (up c = some a)) n
def pars (a : Nat) : List Nat := selL (fun b => pa a b) n
def nbrs (a : Nat) : List Nat := selL (fun b => lk a b) n
/-- the notes that a takes in round r -/
def noteF (A : AS) (a r : Nat) (b : Nat) : Int32 := if ¬ r = 1 ∧ b < n ∧ aC A 0 a b (r - 1) = true then aM A a b (r - 1) else -2
def actA (A : AS) (a : Nat) : Int32 × Int32 × Int32 := pAct p (rdP (aS A) a + 1) a (decide (nI a = src)) (mk a) (len a) (noteF n A a (rdP (aS A) a + 1)) (aV A a) (aQ A a)
def begG (A : AS) (a : Nat) : List Lt := if rdP (aS A) a = 0 then [] else ltrs 4 a (rdP (aS A) a + 1) 0 (lows n up a)
def begN (A : AS) (a : Nat) : List Lt := if (actA n p src mk len A a).2.2 = -2 then [] else ltrs 0 a (rdP (aS A) a + 1) (actA n p src mk len A a).2.2 (nbrs n lk a)
/-- a begins its next round -/
def aBeg (A : AS) (a : Nat) : AS := mkA (setRd (aS A) a ((begN n p src mk len lk A a).length : Int)) (fup (aV A) a (actA n p src mk len A a).1) (fup (aQ A) a (actA n p src mk len A a).2.1) (fun r b => if r = rdP (aS A) a + 1 ∧ b = a then (actA n p src mk len A a).1 else aU A r b) (aC A) (aM A) (aL A ++ begG n up A a ++ begN n p src mk len lk A a) (aN A + nI (begN n p src mk len lk A a).length) (aO A + nI (begG n up A a).length)
def aFirm (A : AS) (a : Nat) : AS := aPut A (setFi (aS A) a) (ltrs 5 a (rdP (aS A) a) 0 (lows n up a) ++ ltrs 2 a (rdP (aS A) a) 0 (pars n pa a))
def all1 (A : AS) (a : Nat) : Bool := (pars n pa a).all (fun b => aC A 1 a b (rdP (aS A) a))
def all2 (A : AS) (a : Nat) : Bool := (lows n up a).all (fun c => aC A 2 a c (rdP (aS A) a))
def all3 (A : AS) (a : Nat) : Bool := (lows n up a).all (fun c => aC A 3 a c (rdP (aS A) a))
/-- safe, if all ACKs are there -/
def aSafe (A : AS) (a : Nat) : AS := if sfP (aS A) a = false ∧ opP (aS A) a = 0 then aPut A (setSf (aS A) a) (if W = 0 then ltrs 2 a (rdP (aS A) a) 0 (pars n pa a) else []) else A
/-- raised, if it may; whether a round ends by it -/
def mayR (A : AS) (a : Nat) : Bool := decide (¬ W = 0) && (sfP (aS A) a && (!(raP (aS A) a) && all2 n up A a))
def aRaise (A : AS) (a : Nat) : AS := if mayR n W up A a = true then (match up a with
    | some u => aPut A (setRa (aS A) a) [(3, nI a, nI u, nI (rdP (aS A) a), 0)]
    | none => if W = 1 then aPut A (setRa (aS A) a) [] else aFirm n pa up (aPut A (setRa (aS A) a) []) a) else A
/-- done, if it may -/
def mayD (A : AS) (a : Nat) : Bool := decide (W = 2) && (fiP (aS A) a && (!(dnP (aS A) a) && (all1 n pa A a && all3 n up A a)))
def aDone (A : AS) (a : Nat) : AS := if mayD n W pa up A a = true then (match up a with
    | some u => aPut A (setDn (aS A) a) [(6, nI a, nI u, nI (rdP (aS A) a), 0)]
    | none => aPut A (setDn (aS A) a) []) else A
/-- what is due from a now -/
def aOne (A : AS) (a : Nat) : AS := aDone n W pa up (aRaise n W pa up (aSafe n W pa A a) a) a
/-- may a begin its next round unasked -/
def aEnds (A : AS) (a : Nat) : Bool := if W = 0 then sfP (aS (aSafe n W pa A a)) a && all1 n pa (aSafe n W pa A a) a
  else if W = 1 then mayR n W up (aSafe n W pa A a) a && decide (up a = none)
  else mayD n W pa up (aRaise n W pa up (aSafe n W pa A a) a) a && decide (up a = none)
def aGo : Nat → AS → Nat → AS
  | 0, A, _ => A
  | f + 1, A, a => if aEnds n W pa up A a = true ∧ rdP (aS (aOne n W pa up A a)) a < R then aGo f (aBeg n p src mk len lk up (aOne n W pa up A a) a) a else aOne n W pa up A a
/-- letter i comes -/
def aErase (A : AS) (i : Nat) : AS := mkA (aS A) (aV A) (aQ A) (aU A) (aC A) (aM A) ((aL A).eraseIdx i) (aN A) (aO A)
def aCame (A : AS) (w t f q : Nat) : AS := mkA (aS A) (aV A) (aQ A) (aU A) (cmU (aC A) w t f q) (aM A) (aL A) (aN A) (aO A)
def aNote (A : AS) (t f q : Nat) (x : Int32) : AS := mkA (aS A) (aV A) (aQ A) (aU A) (cmU (aC A) 0 t f q) (fun t' f' q' => if t' = t ∧ f' = f ∧ q' = q then x else aM A t' f' q') (aL A ++ [(1, nI t, nI f, nI q, 0)]) (aN A) (aO A + 1)
def aAct (A : AS) (k f t q : Nat) (x : Int32) : AS :=
  if k = 0 then aNote A t f q x
  else if k = 1 then mkA (setOp (aS A) t (opP (aS A) t - 1)) (aV A) (aQ A) (aU A) (aC A) (aM A) (aL A) (aN A) (aO A)
  else if k = 2 then aCame A 1 t f q
  else if k = 3 then aCame A 2 t f q
  else if k = 4 then aBeg n p src mk len lk up A t
  else if k = 5 then aFirm n pa up A t
  else aCame A 3 t f q
def aHandle (A : AS) (i k f t q : Nat) (x : Int32) : AS := aGo n R W p src mk len lk pa up R (aAct n p src mk len lk pa up (aErase A i) k f t q x) t
end ABS
theorem selL_mem {P : Nat → Bool} {b : Nat} : ∀ {k : Nat}, b ∈ selL P k ↔ b < k ∧ P b = true := by
  intro k
  induction k with
  | zero => exact ⟨fun h => absurd h List.not_mem_nil, fun h => absurd h.1 (Nat.not_lt_zero b)⟩
  | succ k ih =>
    unfold selL
    rw [List.mem_append, ih]
    constructor
    · rintro (h | h)
      · exact ⟨by omega, h.2⟩
      · by_cases hp : P k = true
        · rw [if_pos hp] at h; rw [List.mem_singleton.mp h]; exact ⟨by omega, hp⟩
        · rw [if_neg hp] at h; exact absurd h List.not_mem_nil
    · rintro ⟨h1, h2⟩
      by_cases e : b = k
      · rw [e] at h2 ⊢; rw [if_pos h2]; exact Or.inr (List.mem_singleton.mpr rfl)
      · exact Or.inl ⟨by omega, h2⟩
theorem selL_len {P : Nat → Bool} : ∀ k, (selL P k).length ≤ k := by
  intro k
  induction k with
  | zero => exact Nat.le_refl _
  | succ k ih =>
    unfold selL
    rw [List.length_append]
    split <;> simp <;> omega
theorem selL_one {P : Nat → Bool} {b : Nat} : ∀ k, (selL P k).countP (fun c => decide (c = b)) ≤ 1 := by
  intro k
  induction k with
  | zero => exact Nat.zero_le _
  | succ k ih =>
    unfold selL
    rw [List.countP_append]
    by_cases hp : P k = true
    · rw [if_pos hp, List.countP_singleton]
      by_cases e : k = b
      · have : (selL P k).countP (fun c => decide (c = b)) = 0 := List.countP_eq_zero.mpr (fun c hc q => by
          have h1 := (selL_mem.mp hc).1
          have h2 := of_decide_eq_true q
          omega)
        rw [this]; split <;> omega
      · rw [if_neg (fun q => e (of_decide_eq_true q))]; omega
    · rw [if_neg hp]; exact ih
theorem ltrs_mem {k : Int32} {a r : Nat} {x : Int32} {bs : List Nat} {y : Lt} : y ∈ ltrs k a r x bs ↔ ∃ b, b ∈ bs ∧ y = (k, nI a, nI b, nI r, x) := by
  unfold ltrs
  rw [List.mem_map]
  exact ⟨fun ⟨b, h1, h2⟩ => ⟨b, h1, h2.symm⟩, fun ⟨b, h1, h2⟩ => ⟨b, h1, h2.symm⟩⟩
theorem ltrs_len {k : Int32} {a r : Nat} {x : Int32} {bs : List Nat} : (ltrs k a r x bs).length = bs.length := by unfold ltrs; exact List.length_map _
/-- of letters to different nodes one alone goes to b -/
theorem ltrs_one {k : Int32} {a r n : Nat} {x : Int32} {P : Nat → Bool} {Q : Lt → Bool} {b : Nat} (hn : n ≤ 12) (hb : b < 12) (hQ : ∀ c, c < n → Q (k, nI a, nI c, nI r, x) = true → nI c = nI b) : (ltrs k a r x (selL P n)).countP Q ≤ 1 := by
  unfold ltrs
  rw [List.countP_map]
  refine Nat.le_trans ?_ (selL_one (P := P) (b := b) n)
  refine List.countP_mono_left (fun c hc h => ?_)
  have hc1 := (selL_mem.mp hc).1
  exact decide_eq_true ((nI_eq (by omega) (by omega)).mp (hQ c hc1 h))
