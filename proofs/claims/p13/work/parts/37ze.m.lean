section
-- The class's pool has room: at most 528 letters wait; pure
def suN (f : Nat → Nat) : Nat → Nat
  | 0 => 0
  | k + 1 => suN f k + f k
theorem suN_le {f : Nat → Nat} {B : Nat} : ∀ {m : Nat}, (∀ j, j < m → f j ≤ B) → suN f m ≤ m * B := by
  intro m
  induction m with
  | zero => intro _; simp [suN]
  | succ m ih =>
    intro h
    have h1 := ih (fun j hj => h j (by omega))
    have h2 := h m (by omega)
    show suN f m + f m ≤ _
    rw [Nat.succ_mul]; omega
theorem suN_mono {f g : Nat → Nat} : ∀ {m : Nat}, (∀ j, j < m → f j ≤ g j) → suN f m ≤ suN g m := by
  intro m
  induction m with
  | zero => intro _; exact Nat.le_refl _
  | succ m ih =>
    intro h
    have h1 := ih (fun j hj => h j (by omega))
    have h2 := h m (by omega)
    show suN f m + f m ≤ suN g m + g m
    omega
theorem suN_ge {f : Nat → Nat} : ∀ {m j : Nat}, j < m → f j ≤ suN f m := by
  intro m
  induction m with
  | zero => intro j hj; omega
  | succ m ih =>
    intro j hj
    show f j ≤ suN f m + f m
    by_cases e : j = m
    · rw [e]; omega
    · have := ih (j := j) (by omega); omega
theorem suN_add {f g : Nat → Nat} : ∀ m, suN (fun j => f j + g j) m = suN f m + suN g m := by
  intro m
  induction m with
  | zero => rfl
  | succ m ih =>
    show suN (fun j => f j + g j) m + (f m + g m) = (suN f m + f m) + (suN g m + g m)
    rw [ih]; omega
/-- what falls into classes is counted by them -/
theorem cnt_le (C : Nat → Lt → Bool) (P : Lt → Bool) (m : Nat) : ∀ l : List Lt, (∀ x, x ∈ l → P x = true → ∃ j, j < m ∧ C j x = true) → l.countP P ≤ suN (fun j => l.countP (C j)) m := by
  intro l
  induction l with
  | nil => intro _; exact Nat.zero_le _
  | cons x l ih =>
    intro h
    have h1 := ih (fun y hy hp => h y (List.mem_cons_of_mem _ hy) hp)
    have e : suN (fun j => (x :: l).countP (C j)) m = suN (fun j => l.countP (C j)) m + suN (fun j => if C j x = true then 1 else 0) m := by
      rw [← suN_add]
      congr 1
      funext j
      rw [List.countP_cons]
    rw [e, List.countP_cons]
    by_cases hp : P x = true
    · obtain ⟨j, hj, hc⟩ := h x List.mem_cons_self hp
      have h2 : (if C j x = true then 1 else 0) ≤ suN (fun j => if C j x = true then 1 else 0) m := suN_ge (f := fun j => if C j x = true then 1 else 0) hj
      rw [if_pos hc] at h2
      rw [if_pos hp]; omega
    · rw [if_neg hp]; omega
section ROOM
variable {n R W : Nat} {lk pa : Nat → Nat → Bool} {up : Nat → Option Nat} {ld : Nat → Nat} {S : PS} {cm : CM} {l : List Lt}
theorem tree_le (k : Int32) (C : Nat → Lt → Bool) (hn : n ≤ 12) (h1 : ∀ j, j < n → l.countP (C j) ≤ 1) (h2 : ∀ x, x ∈ l → x.1 = k → ∃ j, j < n ∧ C j x = true) : l.countP (fun x => decide (x.1 = k)) ≤ 12 := by
  have a := cnt_le C (fun x => decide (x.1 = k)) n l (fun x hx hp => h2 x hx (of_decide_eq_true hp))
  have b := suN_le (B := 1) h1
  omega
/-- READY and DONE wait in the upper's round alone -/
theorem ready_rd (hP : PI n R W up (k2 up cm) (k3 up cm) S l) (hX : QX n R W lk pa up ld S cm l) {c u q : Nat} {k : Int32} {w : Nat} (hk : (k = 3 ∧ w = 2) ∨ (k = 6 ∧ w = 3 ∧ W = 2)) (hc : c < n) (hu : up c = some u) (hq1 : 1 ≤ q) (hq : q ≤ rdP S c) (hw : 1 ≤ cX k l c u q) : q = max (rdP S u) 1 ∧ cm w u c q = false := by
  obtain ⟨hun, hr⟩ := rd_up hP hc hu
  have hRc := (hP.1 c hc).1
  obtain ⟨g1, g2⟩ := hX.2.2.2.1 u c hun hc hu
  obtain ⟨b1, b2⟩ := g2 q (by omega)
  have key : cm w u c q = false := by
    cases hz : cm w u c q with
    | false => rfl
    | true =>
      have : b2n true = 1 := rfl
      rcases hk with ⟨e1, e2⟩ | ⟨e1, e2, _⟩
      · rw [e1] at hw; rw [e2] at hz; rw [hz] at b1; omega
      · rw [e1] at hw; rw [e2] at hz; rw [hz] at b2; omega
  refine ⟨?_, key⟩
  rcases Nat.lt_or_ge q (rdP S u) with h | h
  · exfalso
    obtain ⟨c1, c2⟩ := g1 q hq1 h
    rcases hk with ⟨e1, e2⟩ | ⟨e1, e2, e3⟩
    · rw [e2, c1] at key; exact absurd key (by decide)
    · rw [e2, c2 e3] at key; exact absurd key (by decide)
  · rcases Nat.le_total (rdP S u) 1 with q1 | q1
    · rw [Nat.max_eq_right q1]; omega
    · rw [Nat.max_eq_left q1]; omega
theorem room528 (hn : n ≤ 12) (hR : R ≤ 20) (hR1 : 1 ≤ R) (hF : FRA n W lk pa up ld) (hP : PI n R W up (k2 up cm) (k3 up cm) S l) (hX : QX n R W lk pa up ld S cm l) (h6 : ∀ x, x ∈ l → x.1 = 6 → W = 2) : l.length ≤ 528 := by
  have vl := fun x hx => (hP.2.1 x hx).1
  have tl := fun x hx => (hP.2.1 x hx).2
  -- by kinds
  have all : l.length ≤ suN (fun k => l.countP (fun x => decide (x.1 = nI k))) 7 := by
    have := cnt_le (fun k x => decide (x.1 = nI k)) (fun _ => true) 7 l (fun x hx _ => by
      obtain ⟨k, hk, e⟩ := (vl x hx).1
      exact ⟨k, hk, decide_eq_true e⟩)
    rw [List.countP_true] at this
    exact this
  have e7 : suN (fun k => l.countP (fun x => decide (x.1 = nI k))) 7 = l.countP (fun x => decide (x.1 = nI 0)) + l.countP (fun x => decide (x.1 = nI 1)) + l.countP (fun x => decide (x.1 = nI 2)) + l.countP (fun x => decide (x.1 = nI 3)) + l.countP (fun x => decide (x.1 = nI 4)) + l.countP (fun x => decide (x.1 = nI 5)) + l.countP (fun x => decide (x.1 = nI 6)) := by
    show 0 + l.countP (fun x => decide (x.1 = nI 0)) + l.countP (fun x => decide (x.1 = nI 1)) + l.countP (fun x => decide (x.1 = nI 2)) + l.countP (fun x => decide (x.1 = nI 3)) + l.countP (fun x => decide (x.1 = nI 4)) + l.countP (fun x => decide (x.1 = nI 5)) + l.countP (fun x => decide (x.1 = nI 6)) = _
    rw [Nat.zero_add]
  -- NOTEs and ACKs
  have na : l.countP (fun x => decide (x.1 = nI 0)) + l.countP (fun x => decide (x.1 = nI 1)) ≤ 144 := by
    have a0 := cnt_le (fun j x => decide (x.1 = 0 ∧ x.2.1 = nI j)) (fun x => decide (x.1 = nI 0)) n l (fun x hx hp => by
      obtain ⟨f, t, hf, _, e, _⟩ := hX.1.1 x hx (of_decide_eq_true hp)
      exact ⟨f, hf, decide_eq_true ⟨of_decide_eq_true hp, e⟩⟩)
    have a1 := cnt_le (fun j x => decide (x.1 = 1 ∧ x.2.2.1 = nI j)) (fun x => decide (x.1 = nI 1)) n l (fun x hx hp => by
      obtain ⟨f, t, _, ht, _, e, _⟩ := hX.1.2.1 x hx (of_decide_eq_true hp)
      exact ⟨t, ht, decide_eq_true ⟨of_decide_eq_true hp, e⟩⟩)
    have b : suN (fun j => cN l j + cK l j) n ≤ n * 12 := suN_le (fun j hj => by
      rcases Nat.eq_zero_or_pos (rdP S j) with q | q
      · have z1 : cN l j = 0 := cN_0 (fun x hx k1 k2 => by
          obtain ⟨f, t, hf, _, e1, _, _, _, e5⟩ := hX.1.1 x hx k1
          have : f = j := (nI_eq (by omega) (by omega)).mp (e1.symm.trans k2)
          rw [this] at e5; omega)
        have z2 : cK l j = 0 := cK_0 (fun x hx k1 k2 => by
          obtain ⟨f, t, _, ht, _, e1, _, _, e5⟩ := hX.1.2.1 x hx k1
          have : t = j := (nI_eq (by omega) (by omega)).mp (e1.symm.trans k2)
          rw [this] at e5; omega)
        rw [z1, z2]; omega
      · have h2 := hX.1.2.2 j hj q
        have h3 := ((hP.1 j hj).2.1 q).1
        omega)
    rw [suN_add] at b
    have c0 : suN (fun j => l.countP (fun x => decide (x.1 = 0 ∧ x.2.1 = nI j))) n = suN (cN l) n := rfl
    have c1 : suN (fun j => l.countP (fun x => decide (x.1 = 1 ∧ x.2.2.1 = nI j))) n = suN (cK l) n := rfl
    have d : n * 12 ≤ 144 := by omega
    have : suN (fun j => cN l j) n = suN (cN l) n := rfl
    have : suN (fun j => cK l j) n = suN (cK l) n := rfl
    omega
  -- SAFEs: two rounds for each two nodes
  have sa : l.countP (fun x => decide (x.1 = nI 2)) ≤ 288 := by
    have a2 := cnt_le (fun j x => decide (x.1 = 2 ∧ x.2.1 = nI (j / 24) ∧ x.2.2.1 = nI (j / 2 % 12) ∧ x.2.2.2.1 = nI (rdP S (j / 2 % 12) + j % 2))) (fun x => decide (x.1 = nI 2)) 288 l (fun x hx hp => by
      obtain ⟨f, t, q, hf, ht, _, _, e1, e2, e3, _, q1, q2, _⟩ := safe_rd hR hF hP hX hx (of_decide_eq_true hp)
      refine ⟨(f * 12 + t) * 2 + (q - rdP S t), by omega, decide_eq_true ⟨of_decide_eq_true hp, ?_, ?_, ?_⟩⟩
      · rw [e1]; congr 1; omega
      · rw [e2]; congr 1; omega
      · have ht2 : ((f * 12 + t) * 2 + (q - rdP S t)) / 2 % 12 = t := by omega
        rw [ht2, e3]; congr 1; omega)
    have b2 := suN_le (f := fun j => l.countP (fun x => decide (x.1 = 2 ∧ x.2.1 = nI (j / 24) ∧ x.2.2.1 = nI (j / 2 % 12) ∧ x.2.2.2.1 = nI (rdP S (j / 2 % 12) + j % 2)))) (B := 1) (m := 288) (fun j hj => by
      show cX 2 l (j / 24) (j / 2 % 12) (rdP S (j / 2 % 12) + j % 2) ≤ 1
      by_cases hh : j / 24 < n ∧ j / 2 % 12 < n ∧ rdP S (j / 2 % 12) + j % 2 ≤ R
      · have := hX.2.1.2.2 (j / 24) (j / 2 % 12) _ hh.1 hh.2.1 hh.2.2
        omega
      · rw [cX_0 (fun x hx k1 k2 k3 k4 => ?_)]
        · omega
        · obtain ⟨f, t, q, hf, ht, _, hqR, e1, e2, e3, _, q1, q2, _⟩ := safe_rd hR hF hP hX hx k1
          have ef : f = j / 24 := (nI_eq (by omega) (by omega)).mp (e1.symm.trans k2)
          have et : t = j / 2 % 12 := (nI_eq (by omega) (by omega)).mp (e2.symm.trans k3)
          have hrt := (hP.1 t ht).1
          rw [et] at hrt
          have eq : q = rdP S (j / 2 % 12) + j % 2 := (nI_eq (by omega) (by omega)).mp (e3.symm.trans k4)
          exact hh ⟨by omega, by omega, by omega⟩)
    omega
  -- the letters of the trees
  have re : l.countP (fun x => decide (x.1 = nI 3)) ≤ 12 := by
    refine tree_le (nI 3) (fun j x => decide (x.1 = 3 ∧ x.2.1 = nI j ∧ x.2.2.1 = nI ((up j).getD 0) ∧ x.2.2.2.1 = nI (max (rdP S ((up j).getD 0)) 1))) hn (fun j hj => ?_) (fun x hx hk => ?_)
    · show cX 3 l j ((up j).getD 0) (max (rdP S ((up j).getD 0)) 1) ≤ 1
      cases hu : up j with
      | none =>
        rw [cX_0 (fun x hx k1 k2 k3 k4 => ?_)]
        · omega
        · obtain ⟨c, u, q, hc, _, e1, _, e3, _⟩ := (tl x hx).1 k1
          have : c = j := (nI_eq (by omega) (by omega)).mp (e1.symm.trans k2)
          rw [this, hu] at e3; exact absurd e3 (by simp)
      | some u =>
        have hun := (rd_up hP hj hu).1
        have := ((hX.2.2.2.1 u j hun hj hu).2 (max (rdP S u) 1) (by have := (hP.1 u hun).1; rcases Nat.le_total (rdP S u) 1 with q1 | q1 <;> omega)).1
        show cX 3 l j u (max (rdP S u) 1) ≤ 1
        omega
    · obtain ⟨c, u, q, hc, hu, e1, e2, e3, e4, e5, _⟩ := (tl x hx).1 hk
      obtain ⟨q', hq1, hq2, e6, _⟩ := (vl x hx).2.2.2
      have eq : q' = q := (nI_eq (by omega) (by have := (hP.1 c hc).1; omega)).mp (e6.symm.trans e4)
      have hr := (ready_rd hP hX (Or.inl ⟨rfl, rfl⟩) hc e3 (by omega) e5 (cX_mem hx hk e1 e2 e4)).1
      refine ⟨c, hc, decide_eq_true ⟨hk, e1, ?_, ?_⟩⟩
      · rw [e3]; exact e2
      · rw [e3, e4, hr]; rfl
  have dn : l.countP (fun x => decide (x.1 = nI 6)) ≤ 12 := by
    refine tree_le (nI 6) (fun j x => decide (x.1 = 6 ∧ x.2.1 = nI j ∧ x.2.2.1 = nI ((up j).getD 0) ∧ x.2.2.2.1 = nI (max (rdP S ((up j).getD 0)) 1))) hn (fun j hj => ?_) (fun x hx hk => ?_)
    · show cX 6 l j ((up j).getD 0) (max (rdP S ((up j).getD 0)) 1) ≤ 1
      cases hu : up j with
      | none =>
        rw [cX_0 (fun x hx k1 k2 k3 k4 => ?_)]
        · omega
        · obtain ⟨c, u, q, hc, _, e1, _, e3, _⟩ := (tl x hx).2.1 k1
          have : c = j := (nI_eq (by omega) (by omega)).mp (e1.symm.trans k2)
          rw [this, hu] at e3; exact absurd e3 (by simp)
      | some u =>
        have hun := (rd_up hP hj hu).1
        have := ((hX.2.2.2.1 u j hun hj hu).2 (max (rdP S u) 1) (by have := (hP.1 u hun).1; rcases Nat.le_total (rdP S u) 1 with q1 | q1 <;> omega)).2
        show cX 6 l j u (max (rdP S u) 1) ≤ 1
        omega
    · obtain ⟨c, u, q, hc, hu, e1, e2, e3, e4, e5, _⟩ := (tl x hx).2.1 hk
      obtain ⟨q', hq1, hq2, e6, _⟩ := (vl x hx).2.2.2
      have eq : q' = q := (nI_eq (by omega) (by have := (hP.1 c hc).1; omega)).mp (e6.symm.trans e4)
      have hr := (ready_rd hP hX (Or.inr ⟨rfl, rfl, h6 x hx hk⟩) hc e3 (by omega) e5 (cX_mem hx hk e1 e2 e4)).1
      refine ⟨c, hc, decide_eq_true ⟨hk, e1, ?_, ?_⟩⟩
      · rw [e3]; exact e2
      · rw [e3, e4, hr]; rfl
  have go : l.countP (fun x => decide (x.1 = nI 4)) ≤ 12 := by
    refine tree_le (nI 4) (fun j x => decide (x.1 = 4 ∧ x.2.2.1 = nI j)) hn (fun j hj => (hP.2.2.1 j hj).1) (fun x hx hk => ?_)
    obtain ⟨c, u, hc, _, e, _⟩ := (tl x hx).2.2.1 hk
    exact ⟨c, hc, decide_eq_true ⟨hk, e⟩⟩
  have fi : l.countP (fun x => decide (x.1 = nI 5)) ≤ 12 := by
    refine tree_le (nI 5) (fun j x => decide (x.1 = 5 ∧ x.2.2.1 = nI j)) hn (fun j hj => (hP.2.2.1 j hj).2) (fun x hx hk => ?_)
    obtain ⟨_, c, u, hc, _, e, _⟩ := (tl x hx).2.2.2 hk
    exact ⟨c, hc, decide_eq_true ⟨hk, e⟩⟩
  omega
end ROOM
end
section
-- The running as one pure machine, which class and reference both are
abbrev AS : Type := PS × (Nat → Int32) × (Nat → Int32) × (Nat → Nat → Int32) × CM × (Nat → Nat → Nat → Int32) × List Lt × Int32 × Int32
abbrev aS (A : AS) : PS := A.1
abbrev aV (A : AS) : Nat → Int32 := A.2.1
abbrev aQ (A : AS) : Nat → Int32 := A.2.2.1
abbrev aU (A : AS) : Nat → Nat → Int32 := A.2.2.2.1
abbrev aC (A : AS) : CM := A.2.2.2.2.1
abbrev aM (A : AS) : Nat → Nat → Nat → Int32 := A.2.2.2.2.2.1
abbrev aL (A : AS) : List Lt := A.2.2.2.2.2.2.1
abbrev aN (A : AS) : Int32 := A.2.2.2.2.2.2.2.1
abbrev aO (A : AS) : Int32 := A.2.2.2.2.2.2.2.2
abbrev mkA (S : PS) (v q : Nat → Int32) (u : Nat → Nat → Int32) (c : CM) (m : Nat → Nat → Nat → Int32) (l : List Lt) (x y : Int32) : AS := (S, v, q, u, c, m, l, x, y)
/-- the same, with other flags and letters that are no NOTEs -/
def aPut (A : AS) (S : PS) (m : List Lt) : AS := mkA S (aV A) (aQ A) (aU A) (aC A) (aM A) (aL A ++ m) (aN A) (aO A + nI m.length)
section ABS
variable (n R W p : Nat) (src : Int32) (mk : Nat → Int32) (len : Nat → Nat → Int32) (lk pa : Nat → Nat → Bool) (up : Nat → Option Nat)
def selL (P : Nat → Bool) : Nat → List Nat
  | 0 => []
  | k + 1 => selL P k ++ (if P k = true then [k] else [])
def ltrs (k : Int32) (a r : Nat) (x : Int32) (bs : List Nat) : List Lt := bs.map (fun b => (k, nI a, nI b, nI r, x))
def lows (a : Nat) : List Nat := selL (fun c => decide (up c = some a)) n
def pars (a : Nat) : List Nat := selL (fun b => pa a b) n
def nbrs (a : Nat) : List Nat := selL (fun b => lk a b) n
/-- the notes that a takes in round r -/
def noteF (A : AS) (a r : Nat) (b : Nat) : Int32 := if ¬ r = 1 ∧ b < n ∧ aC A 0 a b (r - 1) = true then aM A a b (r - 1) else -2
def actA (A : AS) (a : Nat) : Int32 × Int32 × Int32 := pAct p (rdP (aS A) a + 1) a (decide (nI a = src)) (mk a) (len a) (noteF n A a (rdP (aS A) a + 1)) (aV A a) (aQ A a)
def begG (A : AS) (a : Nat) : List Lt := if rdP (aS A) a = 0 then [] else ltrs 4 a (rdP (aS A) a + 1) 0 (lows n up a)
def begN (A : AS) (a : Nat) : List Lt := if (actA n p src mk len A a).2.2 = -2 then [] else ltrs 0 a (rdP (aS A) a + 1) (actA n p src mk len A a).2.2 (nbrs n lk a)
/-- a begins its next round -/
def aBeg (A : AS) (a : Nat) : AS := mkA (setRd (aS A) a ((begN n p src mk len lk A a).length : Int)) (fup (aV A) a (actA n p src mk len A a).1) (fup (aQ A) a (actA n p src mk len A a).2.1) (fun r b => if r = rdP (aS A) a + 1 ∧ b = a then (actA n p src mk len A a).1 else aU A r b) (aC A) (aM A) (aL A ++ begG n up A a ++ begN n p src mk len lk A a) (aN A + nI (begN n p src mk len lk A a).length) (aO A + nI (begG n up A a).length)
def aFirm (A : AS) (a : Nat) : AS := aPut A (setFi (aS A) a) (ltrs 5 a (rdP (aS A) a) 0 (lows n up a) ++ ltrs 2 a (rdP (aS A) a) 0 (pars n pa a))
def all1 (A : AS) (a : Nat) : Bool := (pars n pa a).all (fun b => aC A 1 a b (rdP (aS A) a))
def all2 (A : AS) (a : Nat) : Bool := (lows n up a).all (fun c => aC A 2 a c (rdP (aS A) a))
def all3 (A : AS) (a : Nat) : Bool := (lows n up a).all (fun c => aC A 3 a c (rdP (aS A) a))
/-- safe, if all ACKs are there -/
def aSafe (A : AS) (a : Nat) : AS := if sfP (aS A) a = false ∧ opP (aS A) a = 0 then aPut A (setSf (aS A) a) (if W = 0 then ltrs 2 a (rdP (aS A) a) 0 (pars n pa a) else []) else A
/-- raised, if it may; whether a round ends by it -/
def mayR (A : AS) (a : Nat) : Bool := decide (¬ W = 0) && (sfP (aS A) a && (!(raP (aS A) a) && all2 n up A a))
def aRaise (A : AS) (a : Nat) : AS := if mayR n W up A a = true then (match up a with
    | some u => aPut A (setRa (aS A) a) [(3, nI a, nI u, nI (rdP (aS A) a), 0)]
    | none => if W = 1 then aPut A (setRa (aS A) a) [] else aFirm n pa up (aPut A (setRa (aS A) a) []) a) else A
/-- done, if it may -/
def mayD (A : AS) (a : Nat) : Bool := decide (W = 2) && (fiP (aS A) a && (!(dnP (aS A) a) && (all1 n pa A a && all3 n up A a)))
def aDone (A : AS) (a : Nat) : AS := if mayD n W pa up A a = true then (match up a with
    | some u => aPut A (setDn (aS A) a) [(6, nI a, nI u, nI (rdP (aS A) a), 0)]
    | none => aPut A (setDn (aS A) a) []) else A
/-- what is due from a now -/
def aOne (A : AS) (a : Nat) : AS := aDone n W pa up (aRaise n W pa up (aSafe n W pa A a) a) a
/-- may a begin its next round unasked -/
def aEnds (A : AS) (a : Nat) : Bool := if W = 0 then sfP (aS (aSafe n W pa A a)) a && all1 n pa (aSafe n W pa A a) a
  else if W = 1 then mayR n W up (aSafe n W pa A a) a && decide (up a = none)
  else mayD n W pa up (aRaise n W pa up (aSafe n W pa A a) a) a && decide (up a = none)
def aGo : Nat → AS → Nat → AS
  | 0, A, _ => A
  | f + 1, A, a => if aEnds n W pa up A a = true ∧ rdP (aS (aOne n W pa up A a)) a < R then aGo f (aBeg n p src mk len lk up (aOne n W pa up A a) a) a else aOne n W pa up A a
/-- letter i comes -/
def aErase (A : AS) (i : Nat) : AS := mkA (aS A) (aV A) (aQ A) (aU A) (aC A) (aM A) ((aL A).eraseIdx i) (aN A) (aO A)
def aCame (A : AS) (w t f q : Nat) : AS := mkA (aS A) (aV A) (aQ A) (aU A) (cmU (aC A) w t f q) (aM A) (aL A) (aN A) (aO A)
def aNote (A : AS) (t f q : Nat) (x : Int32) : AS := mkA (aS A) (aV A) (aQ A) (aU A) (cmU (aC A) 0 t f q) (fun t' f' q' => if t' = t ∧ f' = f ∧ q' = q then x else aM A t' f' q') (aL A ++ [(1, nI t, nI f, nI q, 0)]) (aN A) (aO A + 1)
def aAct (A : AS) (k f t q : Nat) (x : Int32) : AS :=
  if k = 0 then aNote A t f q x
  else if k = 1 then mkA (setOp (aS A) t (opP (aS A) t - 1)) (aV A) (aQ A) (aU A) (aC A) (aM A) (aL A) (aN A) (aO A)
  else if k = 2 then aCame A 1 t f q
  else if k = 3 then aCame A 2 t f q
  else if k = 4 then aBeg n p src mk len lk up A t
  else if k = 5 then aFirm n pa up A t
  else aCame A 3 t f q
def aHandle (A : AS) (i k f t q : Nat) (x : Int32) : AS := aGo n R W p src mk len lk pa up R (aAct n p src mk len lk pa up (aErase A i) k f t q x) t
end ABS
theorem selL_mem {P : Nat → Bool} {b : Nat} : ∀ {k : Nat}, b ∈ selL P k ↔ b < k ∧ P b = true := by
  intro k
  induction k with
  | zero => exact ⟨fun h => absurd h List.not_mem_nil, fun h => absurd h.1 (Nat.not_lt_zero b)⟩
  | succ k ih =>
    unfold selL
    rw [List.mem_append, ih]
    constructor
    · rintro (h | h)
      · exact ⟨by omega, h.2⟩
      · by_cases hp : P k = true
        · rw [if_pos hp] at h; rw [List.mem_singleton.mp h]; exact ⟨by omega, hp⟩
        · rw [if_neg hp] at h; exact absurd h List.not_mem_nil
    · rintro ⟨h1, h2⟩
      by_cases e : b = k
      · rw [e] at h2 ⊢; rw [if_pos h2]; exact Or.inr (List.mem_singleton.mpr rfl)
      · exact Or.inl ⟨by omega, h2⟩
theorem selL_len {P : Nat → Bool} : ∀ k, (selL P k).length ≤ k := by
  intro k
  induction k with
  | zero => exact Nat.le_refl _
  | succ k ih =>
    unfold selL
    rw [List.length_append]
    split <;> simp <;> omega
theorem selL_one {P : Nat → Bool} {b : Nat} : ∀ k, (selL P k).countP (fun c => decide (c = b)) ≤ 1 := by
  intro k
  induction k with
  | zero => exact Nat.zero_le _
  | succ k ih =>
    unfold selL
    rw [List.countP_append]
    by_cases hp : P k = true
    · rw [if_pos hp, List.countP_singleton]
      by_cases e : k = b
      · have : (selL P k).countP (fun c => decide (c = b)) = 0 := List.countP_eq_zero.mpr (fun c hc q => by
          have h1 := (selL_mem.mp hc).1
          have h2 := of_decide_eq_true q
          omega)
        rw [this]; split <;> omega
      · rw [if_neg (fun q => e (of_decide_eq_true q))]; omega
    · rw [if_neg hp]; exact ih
theorem ltrs_mem {k : Int32} {a r : Nat} {x : Int32} {bs : List Nat} {y : Lt} : y ∈ ltrs k a r x bs ↔ ∃ b, b ∈ bs ∧ y = (k, nI a, nI b, nI r, x) := by
  unfold ltrs
  rw [List.mem_map]
  exact ⟨fun ⟨b, h1, h2⟩ => ⟨b, h1, h2.symm⟩, fun ⟨b, h1, h2⟩ => ⟨b, h1, h2.symm⟩⟩
theorem ltrs_len {k : Int32} {a r : Nat} {x : Int32} {bs : List Nat} : (ltrs k a r x bs).length = bs.length := by unfold ltrs; exact List.length_map _
/-- of letters to different nodes one alone goes to b -/
theorem ltrs_one {k : Int32} {a r n : Nat} {x : Int32} {P : Nat → Bool} {Q : Lt → Bool} {b : Nat} (hn : n ≤ 12) (hb : b < 12) (hQ : ∀ c, c < n → Q (k, nI a, nI c, nI r, x) = true → nI c = nI b) : (ltrs k a r x (selL P n)).countP Q ≤ 1 := by
  unfold ltrs
  rw [List.countP_map]
  refine Nat.le_trans ?_ (selL_one (P := P) (b := b) n)
  refine List.countP_mono_left (fun c hc h => ?_)
  have hc1 := (selL_mem.mp hc).1
  exact decide_eq_true ((nI_eq (by omega) (by omega)).mp (hQ c hc1 h))
end
section
-- The pure machine keeps the invariants
/-- notes are small; in WAVES each is its round -/
def NI (p : Nat) (A : AS) : Prop :=
  (∀ x, x ∈ aL A → x.1 = 0 → (-1 ≤ x.2.2.2.2.toInt ∧ x.2.2.2.2.toInt ≤ 100 + 10 * x.2.2.2.1.toInt) ∧ (p = 0 → x.2.2.2.2 = x.2.2.2.1))
  ∧ (∀ a b q, aC A 0 a b q = true → (-1 ≤ (aM A a b q).toInt ∧ (aM A a b q).toInt ≤ 100 + 10 * (q : Int)) ∧ (p = 0 → aM A a b q = nI q))
theorem NI.put {p : Nat} {A : AS} {S : PS} {m : List Lt} (h : NI p A) (hm : ∀ x, x ∈ m → ¬ x.1 = 0) : NI p (aPut A S m) := ⟨fun x hx h0 => by
  rcases List.mem_append.mp hx with q | q
  · exact h.1 x q h0
  · exact absurd h0 (hm x q), h.2⟩
section QIS
variable {n R W p : Nat} {lk pa : Nat → Nat → Bool} {up : Nat → Option Nat} {ld : Nat → Nat}
def QI (n R W p : Nat) (lk pa : Nat → Nat → Bool) (up : Nat → Option Nat) (ld : Nat → Nat) (A : AS) : Prop :=
  PI n R W up (k2 up (aC A)) (k3 up (aC A)) (aS A) (aL A) ∧ QX n R W lk pa up ld (aS A) (aC A) (aL A) ∧ NI p A
variable {A : AS} {a : Nat}
theorem VL_of {k f t q : Nat} (hk : k < 7) (hk0 : ¬ k = 0) (hf : f < n) (ht : t < n) (h1 : 1 ≤ q) (hR : q ≤ R) : VL n R (nI k, nI f, nI t, nI q, 0) := ⟨⟨k, hk, rfl⟩, ⟨f, hf, rfl⟩, ⟨t, ht, rfl⟩, q, h1, hR, rfl, fun e => absurd ((nI_eq (a := k) (b := 0) (by omega) (by omega)).mp e) hk0⟩
theorem SafeL_pars {r : Nat} (hn : n ≤ 12) : SafeL n pa a r (ltrs 2 a r 0 (pars n pa a)) := by
  refine ⟨fun x hx => ?_, fun b hb => ?_⟩
  · obtain ⟨b, hb, e⟩ := ltrs_mem.mp hx
    have h := selL_mem.mp hb
    exact ⟨b, h.1, h.2, e⟩
  · unfold cX
    exact ltrs_one hn (by omega) (fun c _ q => (of_decide_eq_true q).2.2.1)
theorem QI.safe (hn : n ≤ 12) (hR : R ≤ 20) (h : QI n R W p lk pa up ld A) (ha : a < n) (hr : 1 ≤ rdP (aS A) a) : QI n R W p lk pa up ld (aSafe n W pa A a) := by
  unfold aSafe
  by_cases hc : sfP (aS A) a = false ∧ opP (aS A) a = 0
  · rw [if_pos hc]
    obtain ⟨hP, hX, hN⟩ := h
    have hrR := (hP.1 a ha).1
    have hm : ∀ x, x ∈ (if W = 0 then ltrs 2 a (rdP (aS A) a) 0 (pars n pa a) else []) → VL n R x ∧ x.1 = 2 := fun x hx => by
      by_cases w : W = 0
      · rw [if_pos w] at hx
        obtain ⟨b, hb, rfl⟩ := ltrs_mem.mp hx
        exact ⟨VL_of (k := 2) (by omega) (by omega) ha (selL_mem.mp hb).1 hr hrR, rfl⟩
      · rw [if_neg w] at hx; exact absurd hx List.not_mem_nil
    refine ⟨hP.safe ha hr (by omega) hc.1 _ hm ?_, hX.safe hn hR ha hr hrR hc.1 _ ?_, hN.put (fun x hx q => ?_)⟩
    · by_cases w : W = 0
      · rw [if_pos w, if_pos w, ltrs_len]
        have := selL_len (P := fun b => pa a b) n
        unfold pars
        omega
      · rw [if_neg w, if_neg w]; exact Int.le_refl _
    · by_cases w : W = 0
      · rw [if_pos w]; exact Or.inl ⟨w, SafeL_pars hn⟩
      · rw [if_neg w]; exact Or.inr ⟨w, rfl⟩
    · rw [(hm x hx).2] at q; exact absurd q (by decide)
  · rw [if_neg hc]; exact h
theorem aSafe_rd : rdP (aS (aSafe n W pa A a)) = rdP (aS A) := by
  unfold aSafe; split <;> rfl
theorem aSafe_sf (h : sfP (aS A) a = true → opP (aS A) a ≤ 0) (h0 : 0 ≤ opP (aS A) a) : sfP (aS (aSafe n W pa A a)) a = decide (opP (aS A) a = 0) := by
  unfold aSafe
  by_cases hc : sfP (aS A) a = false ∧ opP (aS A) a = 0
  · rw [if_pos hc, decide_eq_true hc.2]; exact fup_s
  · rw [if_neg hc]
    cases hs : sfP (aS A) a with
    | true => exact (decide_eq_true (by have := h hs; omega)).symm
    | false => exact (decide_eq_false (fun q => hc ⟨hs, q⟩)).symm
theorem low_FL (hn : n ≤ 12) (ha : a < n) {k : Int32} {r : Nat} : (∀ x, x ∈ ltrs k a r 0 (lows n up a) → ∃ c, c < n ∧ up c = some a ∧ x = (k, nI a, nI c, nI r, 0)) ∧ (∀ c, c < n → (ltrs k a r 0 (lows n up a)).countP (fun x => decide (x.2.2.1 = nI c)) ≤ 1) ∧ ((ltrs k a r 0 (lows n up a)).length : Int) ≤ cu up a n := by
  refine ⟨fun x hx => ?_, fun c hc => ltrs_one hn (b := c) (by omega) (fun d _ q => of_decide_eq_true q), ?_⟩
  · obtain ⟨b, hb, e⟩ := ltrs_mem.mp hx
    have h := selL_mem.mp hb
    exact ⟨b, h.1, of_decide_eq_true h.2, e⟩
  · rw [ltrs_len]
    have : ∀ m, ((selL (fun c => decide (up c = some a)) m).length : Int) ≤ su (fun c => if up c = some a then 1 else 0) m := by
      intro m
      induction m with
      | zero => exact Int.le_refl _
      | succ m ih =>
        unfold selL su
        rw [List.length_append]
        by_cases e : up m = some a
        · rw [if_pos (decide_eq_true e), if_pos e]; simp; omega
        · rw [if_neg (fun q => e (of_decide_eq_true q)), if_neg e]; simp; omega
    exact this n
theorem QI.firm (hn : n ≤ 12) (hR : R ≤ 20) (hW : W = 2) (h : QI n R W p lk pa up ld A) (ha : a < n) (hr : 1 ≤ rdP (aS A) a) (hra : raP (aS A) a = true) (hfi : fiP (aS A) a = false) (hfa : frs (aL A) a = 0) (hup : ∀ u, up a = some u → (rdP (aS A) a = rdP (aS A) u ∧ fiP (aS A) u = true) ∨ rdP (aS A) a < rdP (aS A) u) : QI n R W p lk pa up ld (aFirm n pa up A a) := by
  obtain ⟨hP, hX, hN⟩ := h
  have hrR := (hP.1 a ha).1
  obtain ⟨f1, f2, f3⟩ := low_FL (up := up) (k := 5) (r := rdP (aS A) a) hn ha
  have hm : ∀ x, x ∈ ltrs 2 a (rdP (aS A) a) 0 (pars n pa a) → VL n R x ∧ x.1 = 2 := fun x hx => by
    obtain ⟨b, hb, rfl⟩ := ltrs_mem.mp hx
    exact ⟨VL_of (k := 2) (by omega) (by omega) ha (selL_mem.mp hb).1 hr hrR, rfl⟩
  refine ⟨?_, ?_, hN.put (fun x hx q => ?_)⟩
  · show PI n R W up (k2 up (aC A)) (k3 up (aC A)) (setFi (aS A) a) (aL A ++ (ltrs 5 a (rdP (aS A) a) 0 (lows n up a) ++ ltrs 2 a (rdP (aS A) a) 0 (pars n pa a)))
    rw [← List.append_assoc]
    refine hP.firm hW hn ha hr hra hfi hfa hup _ _ f1 (fun c hc => Nat.le_trans ?_ (f2 c hc)) f3 hm ?_
    · unfold frs
      exact List.countP_mono_left (fun x _ q => decide_eq_true (of_decide_eq_true q).2)
    · rw [ltrs_len]
      have := selL_len (P := fun b => pa a b) n
      unfold pars
      omega
  · show QX n R W lk pa up ld (setFi (aS A) a) (aC A) (aL A ++ (ltrs 5 a (rdP (aS A) a) 0 (lows n up a) ++ ltrs 2 a (rdP (aS A) a) 0 (pars n pa a)))
    rw [← List.append_assoc]
    exact hX.firm hn hR hW ha hr hrR hfi _ _ (fun x hx => by obtain ⟨c, _, _, rfl⟩ := f1 x hx; rfl) (SafeL_pars hn)
  · rcases List.mem_append.mp hx with h | h
    · obtain ⟨c, _, _, rfl⟩ := f1 x h
      exact absurd q (show ¬ (5 : Int32) = 0 by decide)
    · rw [(hm x h).2] at q; exact absurd q (by decide)
theorem all_k2 (hR : R ≤ 20) (hrR : rdP (aS A) a ≤ R) (h : all2 n up A a = true) : ∀ c, c < n → up c = some a → k2 up (aC A) c (rdP (aS A) a) := fun c hc hu => ⟨by omega, a, hu, by
  unfold all2 at h
  exact List.all_eq_true.mp h c (selL_mem.mpr ⟨hc, decide_eq_true hu⟩)⟩
theorem all_k3 (hR : R ≤ 20) (hrR : rdP (aS A) a ≤ R) (h : all3 n up A a = true) : ∀ c, c < n → up c = some a → k3 up (aC A) c (rdP (aS A) a) := fun c hc hu => ⟨by omega, a, hu, by
  unfold all3 at h
  exact List.all_eq_true.mp h c (selL_mem.mpr ⟨hc, decide_eq_true hu⟩)⟩
theorem all_1 (h : all1 n pa A a = true) : ∀ f, f < n → pa a f = true → aC A 1 a f (rdP (aS A) a) = true := fun f hf hp => by
  unfold all1 at h
  exact List.all_eq_true.mp h f (selL_mem.mpr ⟨hf, hp⟩)
theorem QI.raise (hn : n ≤ 12) (hR : R ≤ 20) (hW : W ≤ 2) (h : QI n R W p lk pa up ld A) (ha : a < n) (hr : 1 ≤ rdP (aS A) a) : QI n R W p lk pa up ld (aRaise n W pa up A a) := by
  unfold aRaise
  by_cases hc : mayR n W up A a = true
  · rw [if_pos hc]
    unfold mayR at hc
    rw [Bool.and_eq_true, Bool.and_eq_true, Bool.and_eq_true, decide_eq_true_eq, Bool.not_eq_true'] at hc
    obtain ⟨c1, c2, c3, c4⟩ := hc
    obtain ⟨hP, hX, hN⟩ := h
    have hrR := (hP.1 a ha).1
    have e0 : QI n R W p lk pa up ld (aPut A (setRa (aS A) a) []) := ⟨hP.raise ha hr c2 c3 (all_k2 hR hrR c4) [] (Or.inl rfl), hX.raise hn hR hP ha hr c3 [] (Or.inl rfl), hN.put (fun x hx => absurd hx List.not_mem_nil)⟩
    cases hu : up a with
    | some u =>
      refine ⟨hP.raise ha hr c2 c3 (all_k2 hR hrR c4) _ (Or.inr ⟨u, hu, rfl⟩), hX.raise hn hR hP ha hr c3 _ (Or.inr ⟨u, hu, rfl⟩), hN.put (fun x hx q => ?_)⟩
      rw [List.mem_singleton.mp hx] at q
      exact absurd q (show ¬ (3 : Int32) = 0 by decide)
    | none =>
      dsimp only
      by_cases w : W = 1
      · rw [if_pos w]; exact e0
      · rw [if_neg w]
        refine e0.firm hn hR (by omega) ha hr fup_s ?_ (e0.1.root hn ha hu).2 (fun u hu' => by rw [hu] at hu'; exact absurd hu' (by simp))
        show fiP (aS A) a = false
        cases hf : fiP (aS A) a with
        | false => rfl
        | true =>
          have := ((hP.1 a ha).2.1 hr).2.2.2.2.1 hf
          rw [c3] at this; exact absurd this (by decide)
  · rw [if_neg hc]; exact h
theorem aRaise_rd : rdP (aS (aRaise n W pa up A a)) = rdP (aS A) := by
  unfold aRaise
  split
  · split
    · rfl
    · split <;> rfl
  · rfl
theorem QI.done (hn : n ≤ 12) (hR : R ≤ 20) (h : QI n R W p lk pa up ld A) (ha : a < n) (hr : 1 ≤ rdP (aS A) a) : QI n R W p lk pa up ld (aDone n W pa up A a) := by
  unfold aDone
  by_cases hc : mayD n W pa up A a = true
  · rw [if_pos hc]
    unfold mayD at hc
    rw [Bool.and_eq_true, Bool.and_eq_true, Bool.and_eq_true, Bool.and_eq_true, decide_eq_true_eq, Bool.not_eq_true'] at hc
    obtain ⟨c1, c2, c3, c4, c5⟩ := hc
    obtain ⟨hP, hX, hN⟩ := h
    have hrR := (hP.1 a ha).1
    cases hu : up a with
    | some u =>
      refine ⟨hP.done ha hr c2 c3 (all_k3 hR hrR c5) _ (Or.inr ⟨u, hu, rfl⟩), hX.done hn hR hP ha hr c3 (all_1 c4) _ (Or.inr ⟨u, hu, rfl⟩), hN.put (fun x hx q => ?_)⟩
      rw [List.mem_singleton.mp hx] at q
      exact absurd q (show ¬ (6 : Int32) = 0 by decide)
    | none => exact ⟨hP.done ha hr c2 c3 (all_k3 hR hrR c5) _ (Or.inl rfl), hX.done hn hR hP ha hr c3 (all_1 c4) _ (Or.inl rfl), hN.put (fun x hx => absurd hx List.not_mem_nil)⟩
  · rw [if_neg hc]; exact h
theorem aDone_rd : rdP (aS (aDone n W pa up A a)) = rdP (aS A) := by
  unfold aDone
  split
  · split <;> rfl
  · rfl
theorem aOne_rd : rdP (aS (aOne n W pa up A a)) = rdP (aS A) := by
  unfold aOne
  rw [aDone_rd, aRaise_rd, aSafe_rd]
theorem QI.one (hn : n ≤ 12) (hR : R ≤ 20) (hW : W ≤ 2) (h : QI n R W p lk pa up ld A) (ha : a < n) (hr : 1 ≤ rdP (aS A) a) : QI n R W p lk pa up ld (aOne n W pa up A a) := by
  unfold aOne
  exact QI.done hn hR (QI.raise hn hR hW (QI.safe hn hR h ha hr) ha (by rw [aSafe_rd]; exact hr)) ha (by rw [aRaise_rd, aSafe_rd]; exact hr)
end QIS
end
section
-- The pure machine: a node begins a round, goes on, a letter comes
theorem pAct_wave {r a : Nat} {me : Bool} {mk : Int32} {len m : Nat → Int32} {v q : Int32} (hr : 1 ≤ r) (hm : ∀ b, b < 12 → m b = -2 ∨ m b = nI (r - 1)) : (pAct 0 r a me mk len m v q).2.2 = -2 ∨ (pAct 0 r a me mk len m v q).2.2 = nI r := by
  unfold pAct
  split
  · rename_i h1
    show note1 0 me mk = -2 ∨ note1 0 me mk = nI r
    rw [h1]
    unfold note1
    rw [if_pos rfl]
    split
    · exact Or.inr rfl
    · exact Or.inl rfl
  · rename_i h1
    show (wAct m v q).2.2 = -2 ∨ (wAct m v q).2.2 = nI r
    unfold wAct
    split
    · cases hf : fi (fun b => decide (¬ m b = -2)) 12 with
      | none => exact Or.inl rfl
      | some b =>
        obtain ⟨hb, h2⟩ := fi_some hf
        have h2 := of_decide_eq_true h2
        rcases hm b hb with h3 | h3
        · exact absurd h3 h2
        · refine Or.inr ?_
          show m b + 1 = nI r
          rw [h3, nI_1]
          congr 1; omega
    · exact Or.inl rfl
section QIB
variable {n R W p : Nat} {src : Int32} {mk : Nat → Int32} {len : Nat → Nat → Int32} {lk pa : Nat → Nat → Bool} {up : Nat → Option Nat} {ld : Nat → Nat} {A : AS} {a : Nat}
/-- a may begin its next round -/
def BG (n R W : Nat) (lk pa : Nat → Nat → Bool) (up : Nat → Option Nat) (ld : Nat → Nat) (A : AS) (a : Nat) : Prop :=
  rdP (aS A) a + 1 ≤ R ∧ (∀ u, up a = some u → rdP (aS A) a + 1 ≤ rdP (aS A) u ∨ rdP (aS A) a = 0) ∧ gos (aL A) a = 0 ∧ frs (aL A) a = 0
  ∧ (1 ≤ rdP (aS A) a → opP (aS A) a = 0 ∧ (∀ c, c < n → up c = some a → rdP (aS A) c = rdP (aS A) a ∧ raP (aS A) c = true ∧ (W = 2 → dnP (aS A) c = true)) ∧ (∀ f, f < n → pa a f = true → aC A 1 a f (rdP (aS A) a) = true)
    ∧ (∀ c, c < n → up c = some a → aC A 2 a c (rdP (aS A) a) = true ∧ (W = 2 → aC A 3 a c (rdP (aS A) a) = true)) ∧ ∀ x b, x < n → b < n → ld x = a → lk x b = true → SfR (aS A) b (rdP (aS A) a))
/-- marks and lengths as they are -/
def MLB (mk : Nat → Int32) (len : Nat → Nat → Int32) : Prop := (∀ a, a < 12 → 0 ≤ (mk a).toInt ∧ (mk a).toInt ≤ 99) ∧ ∀ a b, a < 12 → b < 12 → 0 ≤ (len a b).toInt ∧ (len a b).toInt ≤ 9
theorem act_WB (hn : n ≤ 12) (hR : R ≤ 20) (hM : MLB mk len) (hN : NI p A) (ha : a < n) (hr : rdP (aS A) a + 1 ≤ R) : WB (rdP (aS A) a + 1) (actA n p src mk len A a).2.2 ∧ (p = 0 → (actA n p src mk len A a).2.2 = -2 ∨ (actA n p src mk len A a).2.2 = nI (rdP (aS A) a + 1)) := by
  constructor
  · unfold actA
    refine pAct_bd (by omega) (by omega) (hM.1 a (by omega)) (fun b hb => hM.2 a b (by omega) hb) (fun b hb => ?_)
    unfold noteF
    by_cases h : ¬ rdP (aS A) a + 1 = 1 ∧ b < n ∧ aC A 0 a b (rdP (aS A) a + 1 - 1) = true
    · rw [if_pos h]
      exact Or.inr (hN.2 a b _ h.2.2).1
    · rw [if_neg h]; exact Or.inl rfl
  · intro hp
    unfold actA
    rw [hp]
    refine pAct_wave (by omega) (fun b hb => ?_)
    unfold noteF
    by_cases h : ¬ rdP (aS A) a + 1 = 1 ∧ b < n ∧ aC A 0 a b (rdP (aS A) a + 1 - 1) = true
    · rw [if_pos h]
      exact Or.inr ((hN.2 a b _ h.2.2).2 hp)
    · rw [if_neg h]; exact Or.inl rfl
theorem begN_mem {x : Lt} (h : x ∈ begN n p src mk len lk A a) : ¬ (actA n p src mk len A a).2.2 = -2 ∧ ∃ b, b < n ∧ lk a b = true ∧ x = (0, nI a, nI b, nI (rdP (aS A) a + 1), (actA n p src mk len A a).2.2) := by
  unfold begN at h
  by_cases e : (actA n p src mk len A a).2.2 = -2
  · rw [if_pos e] at h; exact absurd h List.not_mem_nil
  · rw [if_neg e] at h
    obtain ⟨b, hb, q⟩ := ltrs_mem.mp h
    have := selL_mem.mp hb
    exact ⟨e, b, this.1, this.2, q⟩
theorem begN_len : (begN n p src mk len lk A a).length ≤ n := by
  unfold begN
  split
  · exact Nat.zero_le _
  · rw [ltrs_len]; exact selL_len n
theorem QI.beg (hn : n ≤ 12) (hR : R ≤ 20) (hM : MLB mk len) (h : QI n R W p lk pa up ld A) (ha : a < n) (hB : BG n R W lk pa up ld A a) : QI n R W p lk pa up ld (aBeg n p src mk len lk up A a) := by
  obtain ⟨hP, hX, hN⟩ := h
  obtain ⟨b1, b2, b3, b4, b5⟩ := hB
  obtain ⟨w1, w2⟩ := act_WB (src := src) hn hR hM hN ha b1
  obtain ⟨f1, f2, f3⟩ := low_FL (up := up) (k := 4) (r := rdP (aS A) a + 1) hn ha
  have hG : ∀ x, x ∈ begG n up A a → ∃ c, c < n ∧ up c = some a ∧ x = (4, nI a, nI c, nI (rdP (aS A) a + 1), 0) := fun x hx => by
    unfold begG at hx
    split at hx
    · exact absurd hx List.not_mem_nil
    · exact f1 x hx
  refine ⟨?_, ?_, ?_⟩
  · refine hP.begin hn ha b1 (fun h => by rw [(b5 h).1]; exact Int.le_refl _) (fun h => (b5 h).2.1) b2 b3 b4 _ _ hG (fun c hc => ?_) ?_ (fun x hx => ?_) (Nat.le_trans begN_len hn)
    · unfold begG
      split
      · exact Nat.zero_le _
      · refine Nat.le_trans ?_ (f2 c hc)
        unfold gos
        exact List.countP_mono_left (fun x _ q => decide_eq_true (of_decide_eq_true q).2)
    · unfold begG
      by_cases e : rdP (aS A) a = 0
      · rw [if_pos e, if_pos e]; exact Int.le_refl _
      · rw [if_neg e, if_neg e]; exact f3
    · obtain ⟨e, b, hb, hl, rfl⟩ := begN_mem hx
      refine ⟨⟨⟨0, by omega, rfl⟩, ⟨a, ha, rfl⟩, ⟨b, hb, rfl⟩, _, by omega, b1, rfl, fun _ => ?_⟩, rfl⟩
      rcases w1 with h | h
      · exact absurd h e
      · refine ⟨?_, h.2⟩
        show -2 ≤ (actA n p src mk len A a).2.2.toInt
        omega
  · exact hX.begin hn hR ha b1 (fun b hb => (hP.1 b hb).1) (fun h => (b5 h).1) (fun h => (b5 h).2.2.1) (fun h => (b5 h).2.2.2.1) (fun h => (b5 h).2.2.2.2) _ _ _ (fun x hx => by obtain ⟨c, _, _, rfl⟩ := hG x hx; rfl) (fun x hx => (begN_mem hx).2)
  · refine ⟨fun x hx h0 => ?_, hN.2⟩
    rcases List.mem_append.mp hx with q | q
    · rcases List.mem_append.mp q with q | q
      · exact hN.1 x q h0
      · obtain ⟨c, _, _, rfl⟩ := hG x q
        exact absurd h0 (show ¬ (4 : Int32) = 0 by decide)
    · obtain ⟨e, b, hb, hl, rfl⟩ := begN_mem q
      refine ⟨?_, fun hp => ?_⟩
      · show -1 ≤ (actA n p src mk len A a).2.2.toInt ∧ (actA n p src mk len A a).2.2.toInt ≤ 100 + 10 * (nI (rdP (aS A) a + 1)).toInt
        rw [nI_toInt (by omega)]
        rcases w1 with h | h
        · exact absurd h e
        · exact h
      · rcases w2 hp with h | h
        · exact absurd h e
        · exact h
/-- open is never below 0, and 0 when safe -/
theorem op_0 (h : QI n R W p lk pa up ld A) (ha : a < n) (hr : 1 ≤ rdP (aS A) a) : 0 ≤ opP (aS A) a ∧ (sfP (aS A) a = true → opP (aS A) a = 0) := by
  have h1 := h.2.1.1.2.2 a ha hr
  refine ⟨by omega, fun hs => ?_⟩
  have := ((h.1.1 a ha).2.1 hr).2.1 hs
  omega
/-- a root whose round has ended may begin the next one -/
theorem BG_root (hn : n ≤ 12) (hR : R ≤ 20) (hW : W ≤ 2) (hF : FRA n W lk pa up ld) (h : QI n R W p lk pa up ld A) (ha : a < n) (hr : 1 ≤ rdP (aS A) a) (hrR : rdP (aS A) a < R) (hu : up a = none)
    (h0 : W = 0 → sfP (aS A) a = true ∧ all1 n pa A a = true) (h1 : W = 1 → raP (aS A) a = true) (h2 : W = 2 → dnP (aS A) a = true) : BG n R W lk pa up ld A a := by
  have hP := h.1
  have hX := h.2.1
  have hNL := (hP.1 a ha).2.1 hr
  have hra : ¬ W = 0 → raP (aS A) a = true := fun w => by
    rcases (show W = 1 ∨ W = 2 by omega) with e | e
    · exact h1 e
    · exact hNL.2.2.2.2.1 (hNL.2.2.2.1 (h2 e))
  refine ⟨by omega, fun u hu' => by rw [hu] at hu'; exact absurd hu' (by simp), (hP.root hn ha hu).1, (hP.root hn ha hu).2, fun _ => ⟨?_, fun c hc huc => ?_, fun f hf hp => ?_, fun c hc huc => ?_, fun x b hx hb he hl => ?_⟩⟩
  · refine (op_0 h ha hr).2 ?_
    by_cases w : W = 0
    · exact (h0 w).1
    · exact hNL.2.2.1 (hra w)
  · by_cases w : W = 0
    · rw [(hF.2.2.2.2.2.1 w).2.2 c hc] at huc; exact absurd huc (by simp)
    · obtain ⟨q1, q2⟩ := hP.lower ha hr (hra w) hc huc
      refine ⟨q1, q2, fun w2 => ?_⟩
      have := hNL.2.2.2.2.2.2 (h2 w2) c hc huc
      exact ((hP.1 c hc).2.2.2.2 _ this).2 q1.symm
  · rcases (show W = 0 ∨ W = 1 ∨ W = 2 by omega) with w | w | w
    · exact all_1 (h0 w).2 f hf hp
    · rw [(hF.2.2.2.2.2.2.1 w).2 a f ha hf] at hp; exact absurd hp (by decide)
    · exact (hX.2.2.1 a f ha hf hp).2 w hr (h2 w)
  · by_cases w : W = 0
    · rw [(hF.2.2.2.2.2.1 w).2.2 c hc] at huc; exact absurd huc (by simp)
    · obtain ⟨_, u, q1, q2⟩ := hNL.2.2.2.2.2.1 (hra w) c hc huc
      rw [huc] at q1
      rw [← Option.some.inj q1] at q2
      refine ⟨q2, fun w2 => ?_⟩
      obtain ⟨_, u', p1, p2⟩ := hNL.2.2.2.2.2.2 (h2 w2) c hc huc
      rw [huc] at p1
      rw [← Option.some.inj p1] at p2
      exact p2
  · refine V_new hW hR hF hP hX ha hr (fun w b hb hl => ?_) h1 h2 hx hb hl he
    rw [← (hF.2.2.2.2.2.1 w).2.1 a b ha hb] at hl
    exact all_1 (h0 w).2 b hb hl
/-- where aEnds says so, the node may begin -/
theorem BG_ends (hn : n ≤ 12) (hR : R ≤ 20) (hW : W ≤ 2) (hF : FRA n W lk pa up ld) (h : QI n R W p lk pa up ld A) (ha : a < n) (hr : 1 ≤ rdP (aS A) a) (he : aEnds n W pa up A a = true) (hrR : rdP (aS (aOne n W pa up A a)) a < R) : BG n R W lk pa up ld (aOne n W pa up A a) a := by
  have hQ := QI.one hn hR hW h ha hr
  have hr' : 1 ≤ rdP (aS (aOne n W pa up A a)) a := by rw [aOne_rd]; exact hr
  unfold aEnds at he
  rcases (show W = 0 ∨ W = 1 ∨ W = 2 by omega) with w | w | w
  · rw [if_pos w, Bool.and_eq_true] at he
    have e1 : aOne n W pa up A a = aSafe n W pa A a := by
      unfold aOne aDone aRaise mayR mayD
      rw [if_neg (by rw [w]; simp), if_neg (by rw [w]; simp)]
    refine BG_root hn hR hW hF hQ ha hr' hrR ((hF.2.2.2.2.2.1 w).2.2 a ha) (fun _ => by rw [e1]; exact he) (fun q => by omega) (fun q => by omega)
  · rw [if_neg (by omega), if_pos w, Bool.and_eq_true, decide_eq_true_eq] at he
    refine BG_root hn hR hW hF hQ ha hr' hrR he.2 (fun q => by omega) (fun _ => ?_) (fun q => by omega)
    unfold aOne aDone mayD
    rw [if_neg (by rw [w]; simp)]
    unfold aRaise
    rw [if_pos he.1, he.2]
    dsimp only
    rw [if_pos w]
    exact fup_s
  · rw [if_neg (by omega), if_neg (by omega), Bool.and_eq_true, decide_eq_true_eq] at he
    refine BG_root hn hR hW hF hQ ha hr' hrR he.2 (fun q => by omega) (fun q => by omega) (fun _ => ?_)
    unfold aOne aDone
    rw [if_pos he.1, he.2]
    exact fup_s
theorem QI.go (hn : n ≤ 12) (hR : R ≤ 20) (hW : W ≤ 2) (hF : FRA n W lk pa up ld) (hM : MLB mk len) (ha : a < n) : ∀ f (A : AS), QI n R W p lk pa up ld A → 1 ≤ rdP (aS A) a → QI n R W p lk pa up ld (aGo n R W p src mk len lk pa up f A a) ∧ (∀ b, rdP (aS A) b ≤ rdP (aS (aGo n R W p src mk len lk pa up f A a)) b) := by
  intro f
  induction f with
  | zero => intro A h _; exact ⟨h, fun b => Nat.le_refl _⟩
  | succ f ih =>
    intro A h hr
    have hQ := QI.one hn hR hW h ha hr
    unfold aGo
    by_cases hc : aEnds n W pa up A a = true ∧ rdP (aS (aOne n W pa up A a)) a < R
    · rw [if_pos hc]
      have hB := BG_ends hn hR hW hF h ha hr hc.1 hc.2
      have e : ∀ b, rdP (aS (aOne n W pa up A a)) b ≤ rdP (aS (aBeg n p src mk len lk up (aOne n W pa up A a) a)) b := fun b => by
        show _ ≤ fup (rdP (aS (aOne n W pa up A a))) a (rdP (aS (aOne n W pa up A a)) a + 1) b
        by_cases e : b = a
        · rw [e, fup_s]; omega
        · rw [fup_n e]; exact Nat.le_refl _
      obtain ⟨q1, q2⟩ := ih _ (hQ.beg hn hR hM ha hB) (Nat.le_trans (by rw [aOne_rd]; exact hr) (e a))
      exact ⟨q1, fun b => Nat.le_trans (by rw [← aOne_rd (n := n) (W := W) (pa := pa) (up := up) (A := A) (a := a)]; exact e b) (q2 b)⟩
    · rw [if_neg hc]; exact ⟨hQ, fun b => by rw [aOne_rd]; exact Nat.le_refl _⟩
end QIB
end
section
-- The pure machine: a letter comes
section QIH
variable {n R W p : Nat} {src : Int32} {mk : Nat → Int32} {len : Nat → Nat → Int32} {lk pa : Nat → Nat → Bool} {up : Nat → Option Nat} {ld : Nat → Nat} {A : AS}
theorem k2_ne {cm : CM} {w t f q : Nat} (h : ¬ w = 2) : k2 up (cmU cm w t f q) = k2 up cm := by
  funext c r
  unfold k2
  refine propext (and_congr Iff.rfl ⟨fun ⟨u, h1, h2⟩ => ⟨u, h1, ?_⟩, fun ⟨u, h1, h2⟩ => ⟨u, h1, cmU_up h2⟩⟩)
  rw [cmU_ne (fun e => h e.1.symm)] at h2; exact h2
theorem k3_ne {cm : CM} {w t f q : Nat} (h : ¬ w = 3) : k3 up (cmU cm w t f q) = k3 up cm := by
  funext c r
  unfold k3
  refine propext (and_congr Iff.rfl ⟨fun ⟨u, h1, h2⟩ => ⟨u, h1, ?_⟩, fun ⟨u, h1, h2⟩ => ⟨u, h1, cmU_up h2⟩⟩)
  rw [cmU_ne (fun e => h e.1.symm)] at h2; exact h2
theorem NI.erase {i : Nat} (h : NI p A) : NI p (aErase A i) := ⟨fun x hx => h.1 x (List.mem_of_mem_eraseIdx hx), h.2⟩
theorem QI.erase {i : Nat} {x : Lt} (h : QI n R W p lk pa up ld A) (hx : (aL A)[i]? = some x) (h0 : ¬ x.1 = 0) (h1 : ¬ x.1 = 1) : QI n R W p lk pa up ld (aErase A i) := ⟨h.1.drop, h.2.1.drop hx h0 h1, h.2.2.erase⟩
theorem NI.came {w t f q : Nat} (h : NI p A) (hw : ¬ w = 0) : NI p (aCame A w t f q) := ⟨h.1, fun a b r hc => h.2 a b r (by
  have hc : cmU (aC A) w t f q 0 a b r = true := hc
  rw [cmU_ne (fun e => hw e.1.symm)] at hc; exact hc)⟩
theorem idx_lt {l : List Lt} {i : Nat} {x : Lt} (h : l[i]? = some x) : i < l.length := by
  rcases Nat.lt_or_ge i l.length with q | q
  · exact q
  · rw [List.getElem?_eq_none q] at h; exact absurd h (by simp)
theorem i12 {a b : Nat} (ha : a < 1000) (hb : b < 1000) (h : nI a = nI b) : a = b := (nI_eq (by omega) (by omega)).mp h
theorem QI.note (hn : n ≤ 12) (hR : R ≤ 20) (hF : FRA n W lk pa up ld) (h : QI n R W p lk pa up ld A) {i f t q : Nat} {x : Int32} (hf : f < n) (ht : t < n) (hq1 : 1 ≤ q) (hqR : q ≤ R) (hx : (aL A)[i]? = some (nI 0, nI f, nI t, nI q, x)) : QI n R W p lk pa up ld (aNote (aErase A i) t f q x) := by
  obtain ⟨hP, hX, hN⟩ := h
  have hm := List.mem_of_getElem? hx
  obtain ⟨f', t', hf', ht', e1, e2, hl, e3, hr, _⟩ := note_rd hF hP hX hm rfl
  have ef : f = f' := i12 (by omega) (by omega) e1
  have et : t = t' := i12 (by omega) (by omega) e2
  rw [← ef] at hl e3 hr
  rw [← et] at hl
  have hrR := (hP.1 f hf).1
  have eq : q = rdP (aS A) f := i12 (by omega) (by omega) e3
  refine ⟨?_, ?_, fun y hy h0 => ?_, fun a b r hc => ?_⟩
  · show PI n R W up (k2 up (cmU (aC A) 0 t f q)) (k3 up (cmU (aC A) 0 t f q)) (aS A) ((aL A).eraseIdx i ++ [(1, nI t, nI f, nI q, 0)])
    rw [k2_ne (by decide), k3_ne (by decide)]
    exact hP.swap (idx_lt hx) (VL_of (k := 1) (by omega) (by omega) ht hf hq1 hqR) rfl
  · show QX n R W lk pa up ld (aS A) (cmU (aC A) 0 t f q) ((aL A).eraseIdx i ++ [(1, nI t, nI f, nI q, 0)])
    rw [eq]
    refine hX.note hn hf ht hl hr (v := x) ?_
    rw [hx, eq]; rfl
  · rcases List.mem_append.mp hy with q | q
    · exact hN.1 y (List.mem_of_mem_eraseIdx q) h0
    · rw [List.mem_singleton.mp q] at h0
      exact absurd h0 (show ¬ (1 : Int32) = 0 by decide)
  · show (-1 ≤ (if a = t ∧ b = f ∧ r = q then x else aM A a b r).toInt ∧ (if a = t ∧ b = f ∧ r = q then x else aM A a b r).toInt ≤ 100 + 10 * (r : Int)) ∧ (p = 0 → (if a = t ∧ b = f ∧ r = q then x else aM A a b r) = nI r)
    by_cases e : a = t ∧ b = f ∧ r = q
    · rw [if_pos e]
      obtain ⟨n1, n2⟩ := hN.1 _ hm rfl
      have n1 : -1 ≤ x.toInt ∧ x.toInt ≤ 100 + 10 * (nI q).toInt := n1
      rw [nI_toInt (by omega)] at n1
      rw [e.2.2]
      exact ⟨n1, n2⟩
    · rw [if_neg e]
      have hc : cmU (aC A) 0 t f q 0 a b r = true := hc
      rw [cmU_ne (fun q => e q.2)] at hc
      exact hN.2 a b r hc
theorem QI.came (hn : n ≤ 12) (hR : R ≤ 20) (h : QI n R W p lk pa up ld A) {i k f t q w : Nat} {x : Int32} (hf : f < n) (ht : t < n) (hq1 : 1 ≤ q) (hqR : q ≤ R) (hx : (aL A)[i]? = some (nI k, nI f, nI t, nI q, x)) (hk : (k = 2 ∧ w = 1) ∨ (k = 3 ∧ w = 2) ∨ (k = 6 ∧ w = 3)) : QI n R W p lk pa up ld (aCame (aErase A i) w t f q) := by
  obtain ⟨hP, hX, hN⟩ := h
  have hm := List.mem_of_getElem? hx
  have hd := hP.drop (i := i)
  refine ⟨?_, ?_, hN.erase.came (by omega)⟩
  · show PI n R W up (k2 up (cmU (aC A) w t f q)) (k3 up (cmU (aC A) w t f q)) (aS A) ((aL A).eraseIdx i)
    rcases hk with ⟨ek, ew⟩ | ⟨ek, ew⟩ | ⟨ek, ew⟩
    · rw [k2_ne (by omega), k3_ne (by omega)]; exact hd
    · rw [k3_ne (by omega)]
      refine hd.cs (fun c r ⟨q1, u, q2, q3⟩ => ⟨q1, u, q2, cmU_up q3⟩) (fun c r q => q) (fun c hc r hk2 => ?_) (fun c hc r hk3 => (hP.1 c hc).2.2.2.2 r hk3)
      obtain ⟨q1, u, q2, q3⟩ := hk2
      by_cases e : 2 = w ∧ u = t ∧ c = f ∧ r = q
      · obtain ⟨c', u', q', p1, p2, p3, p4, p5, p6, p7, p8⟩ := (hP.2.1 _ hm).2.1 (by rw [ek]; rfl)
        have hrc := (hP.1 c' p1).1
        have ec : f = c' := i12 (by omega) (by omega) p3
        have er : q = q' := i12 (by omega) (by omega) p6
        rw [e.2.2.1, e.2.2.2, ec, er]
        exact ⟨p7, p8⟩
      · rw [cmU_ne e] at q3
        exact (hP.1 c hc).2.2.2.1 r ⟨q1, u, q2, q3⟩
    · rw [k2_ne (by omega)]
      refine hd.cs (fun c r q => q) (fun c r ⟨q1, u, q2, q3⟩ => ⟨q1, u, q2, cmU_up q3⟩) (fun c hc r hk2 => (hP.1 c hc).2.2.2.1 r hk2) (fun c hc r hk3 => ?_)
      obtain ⟨q1, u, q2, q3⟩ := hk3
      by_cases e : 3 = w ∧ u = t ∧ c = f ∧ r = q
      · obtain ⟨c', u', q', p1, p2, p3, p4, p5, p6, p7, p8⟩ := (hP.2.1 _ hm).2.2.1 (by rw [ek]; rfl)
        have hrc := (hP.1 c' p1).1
        have ec : f = c' := i12 (by omega) (by omega) p3
        have er : q = q' := i12 (by omega) (by omega) p6
        rw [e.2.2.1, e.2.2.2, ec, er]
        exact ⟨p7, p8⟩
      · rw [cmU_ne e] at q3
        exact (hP.1 c hc).2.2.2.2 r ⟨q1, u, q2, q3⟩
  · refine hX.came hn hR hf ht hq1 hqR hx ?_
    rcases hk with ⟨ek, ew⟩ | ⟨ek, ew⟩ | ⟨ek, ew⟩
    · obtain ⟨f', t', q', p1, p2, p3, p4, p5, p6, p7, p8⟩ := hX.2.1.1 _ hm (by rw [ek]; rfl)
      have hrf := (hP.1 f' p1).1
      have hq' : q' ≤ R := by rcases p8 with h | h <;> omega
      have ef : f = f' := i12 (by omega) (by omega) p4
      have et : t = t' := i12 (by omega) (by omega) p5
      have er : q = q' := i12 (by omega) (by omega) p6
      rw [ef, et, er]
      exact Or.inl ⟨by rw [ek]; rfl, ew, p7, p8⟩
    · exact Or.inr (Or.inl ⟨by rw [ek]; rfl, ew⟩)
    · exact Or.inr (Or.inr ⟨by rw [ek]; rfl, ew⟩)
theorem QI.act (hn : n ≤ 12) (hR : R ≤ 20) (hW : W ≤ 2) (hF : FRA n W lk pa up ld) (hM : MLB mk len) (h : QI n R W p lk pa up ld A) (h1 : ∀ c, c < n → 1 ≤ rdP (aS A) c) {i k f t q : Nat} {x : Int32} (hk : k < 7) (hf : f < n) (ht : t < n) (hq1 : 1 ≤ q) (hqR : q ≤ R) (hx : (aL A)[i]? = some (nI k, nI f, nI t, nI q, x)) : QI n R W p lk pa up ld (aAct n p src mk len lk pa up (aErase A i) k f t q x) ∧ (∀ c, rdP (aS A) c ≤ rdP (aS (aAct n p src mk len lk pa up (aErase A i) k f t q x)) c) := by
  have hm := List.mem_of_getElem? hx
  have hP := h.1
  have hX := h.2.1
  have kn : ∀ j : Nat, j < 7 → ¬ k = j → ¬ nI k = nI j := fun j hj hne e => hne (i12 (by omega) (by omega) e)
  unfold aAct
  by_cases k0 : k = 0
  · rw [if_pos k0]
    rw [k0] at hx
    exact ⟨h.note hn hR hF hf ht hq1 hqR hx, fun c => Nat.le_refl _⟩
  · rw [if_neg k0]
    by_cases k1 : k = 1
    · rw [if_pos k1]
      rw [k1] at hx
      exact ⟨⟨hP.ack (idx_lt hx) ht (h1 t ht), hX.ack hn ht hx, h.2.2.erase⟩, fun c => Nat.le_refl _⟩
    · rw [if_neg k1]
      by_cases k2' : k = 2
      · rw [if_pos k2']; exact ⟨h.came hn hR hf ht hq1 hqR hx (Or.inl ⟨k2', rfl⟩), fun c => Nat.le_refl _⟩
      · rw [if_neg k2']
        by_cases k3' : k = 3
        · rw [if_pos k3']; exact ⟨h.came hn hR hf ht hq1 hqR hx (Or.inr (Or.inl ⟨k3', rfl⟩)), fun c => Nat.le_refl _⟩
        · rw [if_neg k3']
          have hE := h.erase hx (kn 0 (by omega) k0) (kn 1 (by omega) k1)
          have hg := gos_erase hx t
          have hfr := frs_erase hx t
          have hgt := hP.2.2.1 t ht
          by_cases k4 : k = 4
          · rw [if_pos k4]
            obtain ⟨c, u, p1, p2, p3, p4, p5, p6, p7, p8, p9⟩ := (hP.2.1 _ hm).2.2.2.1 (by rw [k4]; rfl)
            have ec : t = c := i12 (by omega) (by omega) p3
            rw [← ec] at p4 p5 p6 p7 p8 p9
            have hNL := (hP.1 t ht).2.1 p7
            have hru := (hP.1 u p2).1
            have w0 : ¬ W = 0 := fun w => by rw [(hF.2.2.2.2.2.1 w).2.2 t ht] at p4; exact absurd p4 (by simp)
            refine ⟨hE.beg hn hR hM ht ⟨?_, fun u' hu' => ?_, ?_, ?_, fun _ => ⟨?_, fun c hc huc => ?_, fun f hf hp => ?_, fun c hc huc => ?_, fun y b hy hb he hl => ?_⟩⟩, fun c => ?_⟩
            · show rdP (aS A) t + 1 ≤ R
              omega
            · rw [p4] at hu'
              rw [← Option.some.inj hu']; exact Or.inl p6
            · show gos ((aL A).eraseIdx i) t = 0
              rw [if_pos ⟨by rw [k4]; rfl, rfl⟩] at hg
              omega
            · show frs ((aL A).eraseIdx i) t = 0
              refine frs_0 (fun y hy y1 y2 => ?_)
              obtain ⟨w2, c', u', r1, r2, r3, r4, r5, r6, r7, _⟩ := (hP.2.1 y (List.mem_of_mem_eraseIdx hy)).2.2.2.2 y1
              have ec' : c' = t := i12 (by omega) (by omega) (r3.symm.trans y2)
              rw [ec'] at r7
              have := hNL.2.2.2.1 (p9 w2)
              rw [r7] at this; exact absurd this (by decide)
            · exact (op_0 h ht p7).2 (hNL.2.2.1 p8)
            · obtain ⟨q1, q2⟩ := hP.lower ht p7 p8 hc huc
              refine ⟨q1, q2, fun w2 => ?_⟩
              have := hNL.2.2.2.2.2.2 (p9 w2) c hc huc
              exact ((hP.1 c hc).2.2.2.2 _ this).2 q1.symm
            · by_cases w : W = 2
              · exact (hX.2.2.1 t f ht hf hp).2 w p7 (p9 w)
              · by_cases w1 : W = 1
                · rw [(hF.2.2.2.2.2.2.1 w1).2 t f ht hf] at hp; exact absurd hp (by decide)
                · exfalso
                  omega
            · obtain ⟨_, u', q1, q2⟩ := hNL.2.2.2.2.2.1 p8 c hc huc
              rw [huc] at q1
              rw [← Option.some.inj q1] at q2
              refine ⟨q2, fun w2 => ?_⟩
              obtain ⟨_, u'', p1', p2'⟩ := hNL.2.2.2.2.2.2 (p9 w2) c hc huc
              rw [huc] at p1'
              rw [← Option.some.inj p1'] at p2'
              exact p2'
            · exfalso
              have := hF.2.2.2.2.2.2.2.2 y hy
              rw [he, p4] at this; exact absurd this (by simp)
            · show _ ≤ fup (rdP (aS A)) t (rdP (aS A) t + 1) c
              by_cases e : c = t
              · rw [e, fup_s]; omega
              · rw [fup_n e]; exact Nat.le_refl _
          · rw [if_neg k4]
            by_cases k5 : k = 5
            · rw [if_pos k5]
              obtain ⟨w2, c, u, p1, p2, p3, p4, p5, p6, p7, p8⟩ := (hP.2.1 _ hm).2.2.2.2 (by rw [k5]; rfl)
              have ec : t = c := i12 (by omega) (by omega) p3
              rw [← ec] at p4 p5 p6 p7 p8
              refine ⟨hE.firm hn hR w2 ht p5 p6 p7 ?_ (fun u' hu' => ?_), fun c => Nat.le_refl _⟩
              · show frs ((aL A).eraseIdx i) t = 0
                rw [if_pos ⟨by rw [k5]; rfl, rfl⟩] at hfr
                omega
              · rw [p4] at hu'
                rw [← Option.some.inj hu']; exact p8
            · rw [if_neg k5]
              exact ⟨h.came hn hR hf ht hq1 hqR hx (Or.inr (Or.inr ⟨by omega, rfl⟩)), fun c => Nat.le_refl _⟩
/-- a letter comes: all that the machine does keeps the invariants -/
theorem QI.handle (hn : n ≤ 12) (hR : R ≤ 20) (hW : W ≤ 2) (hF : FRA n W lk pa up ld) (hM : MLB mk len) (h : QI n R W p lk pa up ld A) (h1 : ∀ c, c < n → 1 ≤ rdP (aS A) c) {i k f t q : Nat} {x : Int32} (hk : k < 7) (hf : f < n) (ht : t < n) (hq1 : 1 ≤ q) (hqR : q ≤ R) (hx : (aL A)[i]? = some (nI k, nI f, nI t, nI q, x)) : QI n R W p lk pa up ld (aHandle n R W p src mk len lk pa up A i k f t q x) ∧ ∀ c, c < n → 1 ≤ rdP (aS (aHandle n R W p src mk len lk pa up A i k f t q x)) c := by
  obtain ⟨q1, q2⟩ := h.act (src := src) (mk := mk) (len := len) hn hR hW hF hM h1 hk hf ht hq1 hqR hx
  obtain ⟨g1, g2⟩ := QI.go (src := src) hn hR hW hF hM ht R _ q1 (Nat.le_trans (h1 t ht) (q2 t))
  exact ⟨g1, fun c hc => Nat.le_trans (h1 c hc) (Nat.le_trans (q2 c) (g2 c))⟩
end QIH
end
