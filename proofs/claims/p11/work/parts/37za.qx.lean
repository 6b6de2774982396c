-- The running: what class and reference need of it beyond PI; pure
abbrev CM : Type := Nat → Nat → Nat → Nat → Bool
/-- b is safe in round r -/
def SfR (S : PS) (b r : Nat) : Prop := r < rdP S b ∨ (r = rdP S b ∧ sfP S b = true)
/-- f has sent its SAFEs of round q -/
def FlR (W : Nat) (S : PS) (f q : Nat) : Prop := q < rdP S f ∨ (q = rdP S f ∧ (if W = 0 then sfP S f else fiP S f) = true)
def cN (l : List Lt) (a : Nat) : Nat := l.countP (fun x => decide (x.1 = 0 ∧ x.2.1 = nI a))
def cK (l : List Lt) (a : Nat) : Nat := l.countP (fun x => decide (x.1 = 1 ∧ x.2.2.1 = nI a))
def cX (k : Int32) (l : List Lt) (f t q : Nat) : Nat := l.countP (fun x => decide (x.1 = k ∧ x.2.1 = nI f ∧ x.2.2.1 = nI t ∧ x.2.2.2.1 = nI q))
def b2n (b : Bool) : Nat := if b = true then 1 else 0
/-- NOTEs and ACKs are of the round of who wrote, and open counts them -/
def X1 (n : Nat) (lk : Nat → Nat → Bool) (S : PS) (l : List Lt) : Prop :=
  (∀ x, x ∈ l → x.1 = 0 → ∃ f t, f < n ∧ t < n ∧ x.2.1 = nI f ∧ x.2.2.1 = nI t ∧ lk f t = true ∧ x.2.2.2.1 = nI (rdP S f) ∧ 1 ≤ rdP S f)
  ∧ (∀ x, x ∈ l → x.1 = 1 → ∃ f t, f < n ∧ t < n ∧ x.2.1 = nI f ∧ x.2.2.1 = nI t ∧ lk t f = true ∧ x.2.2.2.1 = nI (rdP S t) ∧ 1 ≤ rdP S t)
  ∧ ∀ a, a < n → 1 ≤ rdP S a → opP S a = ((cN l a + cK l a : Nat) : Int)
/-- SAFEs: sent once, by who may -/
def X3 (n R W : Nat) (pa : Nat → Nat → Bool) (S : PS) (cm : CM) (l : List Lt) : Prop :=
  (∀ x, x ∈ l → x.1 = 2 → ∃ f t q, f < n ∧ t < n ∧ 1 ≤ q ∧ x.2.1 = nI f ∧ x.2.2.1 = nI t ∧ x.2.2.2.1 = nI q ∧ pa f t = true ∧ FlR W S f q)
  ∧ (∀ f t q, f < n → t < n → cm 1 t f q = true → 1 ≤ q ∧ pa f t = true ∧ FlR W S f q)
  ∧ ∀ f t q, f < n → t < n → q ≤ R → cX 2 l f t q + b2n (cm 1 t f q) ≤ 1
/-- all SAFEs of the rounds before have come -/
def X4 (n W : Nat) (pa : Nat → Nat → Bool) (S : PS) (cm : CM) : Prop :=
  ∀ t f, t < n → f < n → pa t f = true → (∀ q, 1 ≤ q → q < rdP S t → cm 1 t f q = true) ∧ (W = 2 → 1 ≤ rdP S t → dnP S t = true → cm 1 t f (rdP S t) = true)
/-- all READYs and DONEs of the rounds before have come, each once -/
def X5 (n R W : Nat) (up : Nat → Option Nat) (S : PS) (cm : CM) (l : List Lt) : Prop :=
  ∀ u c, u < n → c < n → up c = some u → (∀ q, 1 ≤ q → q < rdP S u → cm 2 u c q = true ∧ (W = 2 → cm 3 u c q = true)) ∧ (∀ q, q ≤ R → cX 3 l c u q + b2n (cm 2 u c q) ≤ 1 ∧ cX 6 l c u q + b2n (cm 3 u c q) ≤ 1)
/-- when a leader is behind round r, all who are linked to its nodes were safe in r -/
def XV (n : Nat) (lk : Nat → Nat → Bool) (ld : Nat → Nat) (S : PS) : Prop :=
  ∀ x b r, x < n → b < n → lk x b = true → 1 ≤ r → r + 1 ≤ rdP S (ld x) → SfR S b r
def QX (n R W : Nat) (lk pa : Nat → Nat → Bool) (up : Nat → Option Nat) (ld : Nat → Nat) (S : PS) (cm : CM) (l : List Lt) : Prop :=
  X1 n lk S l ∧ X3 n R W pa S cm l ∧ X4 n W pa S cm ∧ X5 n R W up S cm l ∧ XV n lk ld S
/-- PI's sets of what came, out of cm -/
def k2 (up : Nat → Option Nat) (cm : CM) (c q : Nat) : Prop := q < 22 ∧ ∃ u, up c = some u ∧ cm 2 u c q = true
def k3 (up : Nat → Option Nat) (cm : CM) (c q : Nat) : Prop := q < 22 ∧ ∃ u, up c = some u ∧ cm 3 u c q = true
theorem cN_app (l m : List Lt) (a : Nat) : cN (l ++ m) a = cN l a + cN m a := by unfold cN; exact List.countP_append
theorem cK_app (l m : List Lt) (a : Nat) : cK (l ++ m) a = cK l a + cK m a := by unfold cK; exact List.countP_append
theorem cX_app (k : Int32) (l m : List Lt) (f t q : Nat) : cX k (l ++ m) f t q = cX k l f t q + cX k m f t q := by unfold cX; exact List.countP_append
theorem cN_0 {l : List Lt} {a : Nat} (h : ∀ x, x ∈ l → x.1 = 0 → x.2.1 = nI a → False) : cN l a = 0 := by
  unfold cN; exact List.countP_eq_zero.mpr (fun x hx q => by have := of_decide_eq_true q; exact h x hx this.1 this.2)
theorem cK_0 {l : List Lt} {a : Nat} (h : ∀ x, x ∈ l → x.1 = 1 → x.2.2.1 = nI a → False) : cK l a = 0 := by
  unfold cK; exact List.countP_eq_zero.mpr (fun x hx q => by have := of_decide_eq_true q; exact h x hx this.1 this.2)
theorem cX_0 {k : Int32} {l : List Lt} {f t q : Nat} (h : ∀ x, x ∈ l → x.1 = k → x.2.1 = nI f → x.2.2.1 = nI t → x.2.2.2.1 = nI q → False) : cX k l f t q = 0 := by
  unfold cX; exact List.countP_eq_zero.mpr (fun x hx p => by have := of_decide_eq_true p; exact h x hx this.1 this.2.1 this.2.2.1 this.2.2.2)
theorem cN_mem {l : List Lt} {a : Nat} {x : Lt} (hx : x ∈ l) (h0 : x.1 = 0) (h1 : x.2.1 = nI a) : 1 ≤ cN l a := by
  unfold cN; exact List.countP_pos_iff.mpr ⟨x, hx, decide_eq_true ⟨h0, h1⟩⟩
theorem cK_mem {l : List Lt} {a : Nat} {x : Lt} (hx : x ∈ l) (h0 : x.1 = 1) (h1 : x.2.2.1 = nI a) : 1 ≤ cK l a := by
  unfold cK; exact List.countP_pos_iff.mpr ⟨x, hx, decide_eq_true ⟨h0, h1⟩⟩
theorem cX_mem {k : Int32} {l : List Lt} {f t q : Nat} {x : Lt} (hx : x ∈ l) (h0 : x.1 = k) (h1 : x.2.1 = nI f) (h2 : x.2.2.1 = nI t) (h3 : x.2.2.2.1 = nI q) : 1 ≤ cX k l f t q := by
  unfold cX; exact List.countP_pos_iff.mpr ⟨x, hx, decide_eq_true ⟨h0, h1, h2, h3⟩⟩
section QXU
variable {n R W : Nat} {lk pa : Nat → Nat → Bool} {up : Nat → Option Nat} {ld : Nat → Nat} {S : PS} {cm : CM} {l : List Lt}
/-- up the tree: the rounds do not fall -/
theorem rd_up (hP : PI n R W up (k2 up cm) (k3 up cm) S l) {c u : Nat} (hc : c < n) (h : up c = some u) : u < n ∧ (rdP S c ≤ rdP S u ∨ rdP S c ≤ 1) := by
  obtain ⟨_, _, h3, _⟩ := hP.1 c hc
  obtain ⟨q1, _, q2, _⟩ := h3 u h
  exact ⟨q1, q2⟩
/-- who may be reached by going up -/
def Reach (n : Nat) (up : Nat → Option Nat) (root : Nat) : Nat → Nat → Prop
  | 0, c => c = root
  | d + 1, c => ∃ u, up c = some u ∧ Reach n up root d u
theorem reach_rd (hP : PI n R W up (k2 up cm) (k3 up cm) S l) {root : Nat} : ∀ d c, c < n → Reach n up root d c → ∀ r, 1 ≤ r → r + 1 ≤ rdP S c → r + 1 ≤ rdP S root := by
  intro d
  induction d with
  | zero => intro c _ h r _ hr; rw [show root = c from (show c = root from h).symm]; exact hr
  | succ d ih =>
    intro c hc h r h1 hr
    obtain ⟨u, hu, h2⟩ := h
    obtain ⟨q1, q2⟩ := rd_up hP hc hu
    exact ih u q1 h2 r h1 (by omega)
/-- neighbours are never more than a round apart, and who is ahead knows that the other is safe -/
theorem T_of (hP : PI n R W up (k2 up cm) (k3 up cm) S l) (hX : QX n R W lk pa up ld S cm l) (hr : ∀ c, c < n → ∃ d, Reach n up (ld c) d c) {a b r : Nat} (ha : a < n) (hb : b < n) (hl : lk a b = true) (h1 : 1 ≤ r) (h2 : r + 1 ≤ rdP S a) : SfR S b r := by
  obtain ⟨d, hd⟩ := hr a ha
  exact hX.2.2.2.2 a b r ha hb hl h1 (reach_rd hP d a ha hd r h1 h2)
/-- what is below a raised node is raised -/
def RaR (S : PS) (x r : Nat) : Prop := r < rdP S x ∨ (r = rdP S x ∧ raP S x = true)
def DnR (S : PS) (x r : Nat) : Prop := r < rdP S x ∨ (r = rdP S x ∧ dnP S x = true)
theorem ra_dn (hR : R ≤ 20) (hP : PI n R W up (k2 up cm) (k3 up cm) S l) (hX : QX n R W lk pa up ld S cm l) {c u r : Nat} (hc : c < n) (hu : up c = some u) (h1 : 1 ≤ r) (h : RaR S u r) : RaR S c r := by
  obtain ⟨hun, _⟩ := rd_up hP hc hu
  have hru := (hP.1 u hun).1
  have key : k2 up cm c r := by
    rcases h with h | ⟨h, h2⟩
    · exact ⟨by omega, u, hu, ((hX.2.2.2.1 u c hun hc hu).1 r h1 h).1⟩
    · have := (hP.1 u hun).2.1 (by omega)
      have := this.2.2.2.2.2.1 h2 c hc hu
      rw [← h] at this; exact this
  obtain ⟨q1, q2⟩ := (hP.1 c hc).2.2.2.1 r key
  rcases Nat.lt_or_ge r (rdP S c) with q | q
  · exact Or.inl q
  · have e : r = rdP S c := by omega
    exact Or.inr ⟨e, q2 e⟩
theorem dn_dn (hW : W = 2) (hR : R ≤ 20) (hP : PI n R W up (k2 up cm) (k3 up cm) S l) (hX : QX n R W lk pa up ld S cm l) {c u r : Nat} (hc : c < n) (hu : up c = some u) (h1 : 1 ≤ r) (h : DnR S u r) : DnR S c r := by
  obtain ⟨hun, _⟩ := rd_up hP hc hu
  have hru := (hP.1 u hun).1
  have key : k3 up cm c r := by
    rcases h with h | ⟨h, h2⟩
    · exact ⟨by omega, u, hu, ((hX.2.2.2.1 u c hun hc hu).1 r h1 h).2 hW⟩
    · have := (hP.1 u hun).2.1 (by omega)
      have := this.2.2.2.2.2.2 h2 c hc hu
      rw [← h] at this; exact this
  obtain ⟨q1, q2⟩ := (hP.1 c hc).2.2.2.2 r key
  rcases Nat.lt_or_ge r (rdP S c) with q | q
  · exact Or.inl q
  · have e : r = rdP S c := by omega
    exact Or.inr ⟨e, q2 e⟩
theorem ra_all (hR : R ≤ 20) (hP : PI n R W up (k2 up cm) (k3 up cm) S l) (hX : QX n R W lk pa up ld S cm l) {root r : Nat} (h1 : 1 ≤ r) (h : RaR S root r) : ∀ d c, c < n → Reach n up root d c → RaR S c r := by
  intro d
  induction d with
  | zero => intro c _ hc; rw [show c = root from hc]; exact h
  | succ d ih =>
    intro c hc hd
    obtain ⟨u, hu, h2⟩ := hd
    exact ra_dn hR hP hX hc hu h1 (ih u (rd_up hP hc hu).1 h2)
theorem dn_all (hW : W = 2) (hR : R ≤ 20) (hP : PI n R W up (k2 up cm) (k3 up cm) S l) (hX : QX n R W lk pa up ld S cm l) {root r : Nat} (h1 : 1 ≤ r) (h : DnR S root r) : ∀ d c, c < n → Reach n up root d c → DnR S c r := by
  intro d
  induction d with
  | zero => intro c _ hc; rw [show c = root from hc]; exact h
  | succ d ih =>
    intro c hc hd
    obtain ⟨u, hu, h2⟩ := hd
    exact dn_dn hW hR hP hX hc hu h1 (ih u (rd_up hP hc hu).1 h2)
theorem ra_sf (hP : PI n R W up (k2 up cm) (k3 up cm) S l) {c r : Nat} (hc : c < n) (h1 : 1 ≤ r) (h : RaR S c r) : SfR S c r := by
  rcases h with h | ⟨h, h2⟩
  · exact Or.inl h
  · exact Or.inr ⟨h, ((hP.1 c hc).2.1 (by omega)).2.2.1 h2⟩
/-- who has sent its SAFEs of q in way 2: its leader was raised in q -/
theorem fl_ra (hW : W = 2) (hP : PI n R W up (k2 up cm) (k3 up cm) S l) {root : Nat} : ∀ d y, y < n → Reach n up root d y → ∀ q, 1 ≤ q → FlR W S y q → RaR S root q := by
  intro d
  induction d with
  | zero =>
    intro y hy hd q h1 h
    have e : y = root := hd
    rw [← e]
    rcases h with h | ⟨h, h2⟩
    · exact Or.inl h
    · rw [if_neg (by omega)] at h2
      exact Or.inr ⟨h, ((hP.1 y hy).2.1 (by omega)).2.2.2.2.1 h2⟩
  | succ d ih =>
    intro y hy hd q h1 h
    obtain ⟨u, hu, h2⟩ := hd
    obtain ⟨q1, q2⟩ := rd_up hP hy hu
    refine ih u q1 h2 q h1 ?_
    rcases h with h | ⟨h, h3⟩
    · exact Or.inl (by omega)
    · rw [if_neg (by omega)] at h3
      have hn := ((hP.1 y hy).2.2.1 u hu).2.2.2 (by omega) h3
      rcases hn with ⟨e, h4⟩ | e
      · refine Or.inr ⟨by omega, ?_⟩
        rw [if_neg (by omega)]; exact h4
      · exact Or.inl (by omega)
end QXU
