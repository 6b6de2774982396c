-- The pure machine: the start
/-- before the first round; S is what the rest of the flags may be -/
def A0 (p : Nat) (src : Int32) (mk : Nat → Int32) (S : PS) : AS := mkA S (fun a => first0 p (decide (nI a = src)) (mk a)) (fun _ => -2) (fun _ a => first0 p (decide (nI a = src)) (mk a)) (fun _ _ _ _ => false) (fun _ _ _ => 0) [] 0 0
section ASTD
variable (n R W p : Nat) (src : Int32) (mk : Nat → Int32) (len : Nat → Nat → Int32) (lk pa : Nat → Nat → Bool) (up : Nat → Option Nat)
/-- the nodes before i have begun -/
def aSt (A : AS) : Nat → AS
  | 0 => A
  | i + 1 => aGo n R W p src mk len lk pa up R (aBeg n p src mk len lk up (aSt A i) i) i
end ASTD
section AST
variable {n R W p : Nat} {src : Int32} {mk : Nat → Int32} {len : Nat → Nat → Int32} {lk pa : Nat → Nat → Bool} {up : Nat → Option Nat} {ld : Nat → Nat} {A : AS} {a : Nat} {S : PS}
theorem aV_put {S : PS} {m : List Lt} : aV (aPut A S m) = aV A ∧ aC (aPut A S m) = aC A := ⟨rfl, rfl⟩
theorem aV_one : aV (aOne n W pa up A a) = aV A ∧ aC (aOne n W pa up A a) = aC A := by
  have h1 : ∀ B : AS, aV (aSafe n W pa B a) = aV B ∧ aC (aSafe n W pa B a) = aC B := fun B => by unfold aSafe; split <;> exact ⟨rfl, rfl⟩
  have h2 : ∀ B : AS, aV (aRaise n W pa up B a) = aV B ∧ aC (aRaise n W pa up B a) = aC B := fun B => by
    unfold aRaise
    split
    · split
      · exact ⟨rfl, rfl⟩
      · split <;> exact ⟨rfl, rfl⟩
    · exact ⟨rfl, rfl⟩
  have h3 : ∀ B : AS, aV (aDone n W pa up B a) = aV B ∧ aC (aDone n W pa up B a) = aC B := fun B => by
    unfold aDone
    split
    · split <;> exact ⟨rfl, rfl⟩
    · exact ⟨rfl, rfl⟩
  unfold aOne
  exact ⟨by rw [(h3 _).1, (h2 _).1, (h1 _).1], by rw [(h3 _).2, (h2 _).2, (h1 _).2]⟩
theorem aV_beg : (∀ b, b ≠ a → aV (aBeg n p src mk len lk up A a) b = aV A b) ∧ aC (aBeg n p src mk len lk up A a) = aC A := ⟨fun b hb => fup_n hb, rfl⟩
theorem aV_go : ∀ f (A : AS), (∀ b, b ≠ a → aV (aGo n R W p src mk len lk pa up f A a) b = aV A b) ∧ aC (aGo n R W p src mk len lk pa up f A a) = aC A := by
  intro f
  induction f with
  | zero => intro A; exact ⟨fun _ _ => rfl, rfl⟩
  | succ f ih =>
    intro A
    unfold aGo
    split
    · obtain ⟨i1, i2⟩ := ih (aBeg n p src mk len lk up (aOne n W pa up A a) a)
      obtain ⟨b1, b2⟩ := aV_beg (n := n) (p := p) (src := src) (mk := mk) (len := len) (lk := lk) (up := up) (A := aOne n W pa up A a) (a := a)
      obtain ⟨o1, o2⟩ := aV_one (n := n) (W := W) (pa := pa) (up := up) (A := A) (a := a)
      exact ⟨fun b hb => by rw [i1 b hb, b1 b hb, o1], by rw [i2, b2, o2]⟩
    · obtain ⟨o1, o2⟩ := aV_one (n := n) (W := W) (pa := pa) (up := up) (A := A) (a := a)
      exact ⟨fun b _ => by rw [o1], o2⟩
/-- nothing has begun: all holds -/
theorem QE_0 (hup : ∀ c u, c < n → up c = some u → u < n ∧ u ≠ c) (hF : FRA n W lk pa up ld) (hS : ∀ c, c < n → rdP S c = 0) : QE n R W p lk pa up ld (A0 p src mk S) := by
  refine ⟨⟨⟨fun a ha => ⟨?_, fun h => ?_, fun u hu => ?_, fun q h => ?_, fun q h => ?_⟩, fun x hx => absurd hx List.not_mem_nil, fun c _ => ⟨Nat.zero_le _, Nat.zero_le _⟩, ?_⟩, ⟨⟨fun x hx => absurd hx List.not_mem_nil, fun x hx => absurd hx List.not_mem_nil, fun a ha h => ?_⟩, ⟨fun x hx => absurd hx List.not_mem_nil, fun f t q _ _ h => absurd h (by simp [A0]), fun f t q _ _ _ => ?_⟩, fun t f ht hf _ => ⟨fun q h1 h2 => ?_, fun _ h => ?_⟩, fun u c hu hc hcu => ⟨fun q h1 h2 => ?_, fun q _ => ?_⟩, fun x b r hx hb _ h1 h2 => ?_⟩, ⟨fun x hx => absurd hx List.not_mem_nil, fun a b q h => absurd h (by simp [A0])⟩⟩, fun t f q h => absurd h (by simp [A0]), fun x hx => absurd hx List.not_mem_nil⟩
  · show rdP S a ≤ R
    rw [hS a ha]; exact Nat.zero_le _
  · have h : 1 ≤ rdP S a := h
    rw [hS a ha] at h; omega
  · obtain ⟨h1, h2⟩ := hup a u ha hu
    refine ⟨h1, h2, Or.inr ?_, fun h => ?_⟩
    · show rdP S a ≤ 1
      rw [hS a ha]; omega
    · have h : 1 ≤ rdP S a := h
      rw [hS a ha] at h; omega
  · obtain ⟨_, u, _, h3⟩ := h
    exact absurd h3 (by simp [A0])
  · obtain ⟨_, u, _, h3⟩ := h
    exact absurd h3 (by simp [A0])
  · have key : su (fun _ => 0) n ≤ su (ph W up S) n := by
      refine su_le (fun a ha => ?_)
      rw [ph_eq]
      have e1 : ph1 W S a = 0 := by unfold ph1; rw [if_pos (hS a ha)]
      have e2 : ph2 S (up a) = 0 := by
        cases hu : up a with
        | none => rfl
        | some u =>
          simp only [ph2]; rw [if_pos (hS u (hup a u ha hu).1)]
      rw [e1, e2]; decide
    have z : ∀ m, su (fun _ => (0 : Int)) m = 0 := by
      intro m; induction m with
      | zero => rfl
      | succ k ih => unfold su; rw [ih]; rfl
    rw [z n] at key
    exact key
  · have h : 1 ≤ rdP S a := h
    rw [hS a ha] at h; omega
  · show cX 2 [] f t q + b2n false ≤ 1
    exact Nat.zero_le _
  · have h2 : q < rdP S t := h2
    rw [hS t ht] at h2; omega
  · have h : 1 ≤ rdP S t := h
    rw [hS t ht] at h; omega
  · have h2 : q < rdP S u := h2
    rw [hS u hu] at h2; omega
  · exact ⟨show cX 3 [] c u q + b2n false ≤ 1 from Nat.zero_le _, show cX 6 [] c u q + b2n false ≤ 1 from Nat.zero_le _⟩
  · have h2 : r + 1 ≤ rdP S (ld x) := h2
    rw [hS _ (hF.1 x hx).1] at h2; omega
/-- what holds when the nodes before i have begun -/
def QS (n R W p : Nat) (src : Int32) (mk : Nat → Int32) (lk pa : Nat → Nat → Bool) (up : Nat → Option Nat) (ld : Nat → Nat) (A : AS) (i : Nat) : Prop := QE n R W p lk pa up ld A ∧ (∀ c, c < i → 1 ≤ rdP (aS A) c ∧ AtR n R W pa up A c) ∧ (∀ c, i ≤ c → c < n → rdP (aS A) c = 0 ∧ aV A c = first0 p (decide (nI c = src)) (mk c)) ∧ ∀ w t f q, aC A w t f q = false
theorem QS.bg (hR1 : 1 ≤ R) (hn : n ≤ 12) (h : QS n R W p src mk lk pa up ld A a) (ha : a < n) : BG n R W lk pa up ld A a := by
  obtain ⟨hQ, _, h3, _⟩ := h
  have ra := (h3 a (Nat.le_refl _) ha).1
  have hP := hQ.1.1
  refine ⟨by omega, fun u _ => Or.inr ra, gos_0 (fun x hx e1 e2 => ?_), frs_0 (fun x hx e1 e2 => ?_), fun e => by omega⟩
  · obtain ⟨c, u, q1, q2, q3, q4, q5, q6, q7, _⟩ := (hP.2.1 x hx).2.2.2.1 e1
    have ec : c = a := i12 (by omega) (by omega) (q3.symm.trans e2)
    rw [ec, ra] at q7; omega
  · obtain ⟨_, c, u, q1, q2, q3, q4, q5, _⟩ := (hP.2.1 x hx).2.2.2.2 e1
    have ec : c = a := i12 (by omega) (by omega) (q3.symm.trans e2)
    rw [ec, ra] at q5; omega
theorem QS.next (hn : n ≤ 12) (hR : R ≤ 20) (hR1 : 1 ≤ R) (hW : W ≤ 2) (hF : FRA n W lk pa up ld) (hM : MLB mk len) (h : QS n R W p src mk lk pa up ld A a) (ha : a < n) : QS n R W p src mk lk pa up ld (aGo n R W p src mk len lk pa up R (aBeg n p src mk len lk up A a) a) (a + 1) := by
  have hB := h.bg hR1 hn ha
  obtain ⟨hQ, h2, h3, h4⟩ := h
  have ra := (h3 a (Nat.le_refl _) ha).1
  have q1 := hQ.beg (src := src) (mk := mk) (len := len) hn hR hM ha hB
  have r1 : rdP (aS (aBeg n p src mk len lk up A a)) a = 1 := by
    show fup (rdP (aS A)) a (rdP (aS A) a + 1) a = 1
    rw [fup_s, ra]
  have q2 := QE.go (src := src) hn hR hW hF hM ha R q1 (by omega)
  have g := QI.go (src := src) hn hR hW hF hM ha R _ q1.1 (by omega)
  obtain ⟨v1, v2⟩ := aV_go (n := n) (R := R) (W := W) (p := p) (src := src) (mk := mk) (len := len) (lk := lk) (pa := pa) (up := up) (a := a) R (aBeg n p src mk len lk up A a)
  refine ⟨q2, fun c hc => ?_, fun c hc hcn => ?_, fun w t f q => ?_⟩
  · by_cases e : c = a
    · rw [e]
      exact ⟨by have := g.2 a; omega, AtR_go R _ (by omega) (by omega)⟩
    · have hl : LC A (aGo n R W p src mk len lk pa up R (aBeg n p src mk len lk up A a) a) c := (LC_beg e).tr (LC_go e R _)
      obtain ⟨k1, k2⟩ := h2 c (by omega)
      exact ⟨by rw [hl.1.1]; exact k1, k2.loc hl⟩
  · have e : c ≠ a := by omega
    have hl : LC A (aGo n R W p src mk len lk pa up R (aBeg n p src mk len lk up A a) a) c := (LC_beg e).tr (LC_go e R _)
    obtain ⟨k1, k2⟩ := h3 c (by omega) hcn
    exact ⟨by rw [hl.1.1]; exact k1, by rw [v1 c e, aV_beg.1 c e]; exact k2⟩
  · rw [v2, aV_beg.2]; exact h4 w t f q
theorem QS_all (hn : n ≤ 12) (hR : R ≤ 20) (hR1 : 1 ≤ R) (hW : W ≤ 2) (hF : FRA n W lk pa up ld) (hM : MLB mk len) (hup : ∀ c u, c < n → up c = some u → u < n ∧ u ≠ c) (hS : ∀ c, c < n → rdP S c = 0) : ∀ i, i ≤ n → QS n R W p src mk lk pa up ld (aSt n R W p src mk len lk pa up (A0 p src mk S) i) i := by
  intro i
  induction i with
  | zero => intro _; exact ⟨QE_0 hup hF hS, fun c hc => absurd hc (Nat.not_lt_zero c), fun c _ hc => ⟨hS c hc, rfl⟩, fun _ _ _ _ => rfl⟩
  | succ i ih => intro hi; exact QS.next hn hR hR1 hW hF hM (ih (by omega)) (by omega)
theorem QS.done (h : QS n R W p src mk lk pa up ld A n) : QR n R W p lk pa up ld A := ⟨h.1, fun c hc => (h.2.1 c hc).1, fun c hc => (h.2.1 c hc).2⟩
end AST
