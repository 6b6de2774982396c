section
-- The pure machine: two invariants more; when a node is at rest
def XN (n W : Nat) (lk : Nat → Nat → Bool) (A : AS) : Prop := (∀ t f q, aC A 0 t f q = true → f < n ∧ t < n ∧ lk f t = true ∧ 1 ≤ q ∧ q ≤ rdP (aS A) f) ∧ ∀ x, x ∈ aL A → x.1 = 6 → W = 2
def QE (n R W p : Nat) (lk pa : Nat → Nat → Bool) (up : Nat → Option Nat) (ld : Nat → Nat) (A : AS) : Prop := QI n R W p lk pa up ld A ∧ XN n W lk A
section QES
variable {n R W p : Nat} {src : Int32} {mk : Nat → Int32} {len : Nat → Nat → Int32} {lk pa : Nat → Nat → Bool} {up : Nat → Option Nat} {ld : Nat → Nat} {A A' : AS} {a : Nat}
theorem QE.le528 (hn : n ≤ 12) (hR : R ≤ 20) (hR1 : 1 ≤ R) (hF : FRA n W lk pa up ld) (h : QE n R W p lk pa up ld A) : (aL A).length ≤ 528 := room528 hn hR hR1 hF h.1.1 h.1.2.1 h.2.2
theorem XN.put {S : PS} {m : List Lt} (h : XN n W lk A) (hS : ∀ b, rdP (aS A) b ≤ rdP S b) (hm : ∀ x, x ∈ m → x.1 = 6 → W = 2) : XN n W lk (aPut A S m) := by
  refine ⟨fun t f q hc => ?_, fun x hx h6 => ?_⟩
  · obtain ⟨q1, q2, q3, q4, q5⟩ := h.1 t f q hc
    exact ⟨q1, q2, q3, q4, Nat.le_trans q5 (hS f)⟩
  · rcases List.mem_append.mp hx with e | e
    · exact h.2 x e h6
    · exact hm x e h6
theorem XN.safe (h : XN n W lk A) : XN n W lk (aSafe n W pa A a) := by
  unfold aSafe
  by_cases hc : sfP (aS A) a = false ∧ opP (aS A) a = 0
  · rw [if_pos hc]
    refine h.put (fun b => Nat.le_refl _) (fun x hx h6 => ?_)
    by_cases w : W = 0
    · rw [if_pos w] at hx
      obtain ⟨b, _, rfl⟩ := ltrs_mem.mp hx
      exact absurd h6 (show ¬ (2 : Int32) = 6 by decide)
    · rw [if_neg w] at hx; exact absurd hx List.not_mem_nil
  · rw [if_neg hc]; exact h
theorem XN.firm (h : XN n W lk A) : XN n W lk (aFirm n pa up A a) := h.put (fun b => Nat.le_refl _) (fun x hx h6 => by
  rcases List.mem_append.mp hx with e | e
  · obtain ⟨b, _, rfl⟩ := ltrs_mem.mp e
    exact absurd h6 (show ¬ (5 : Int32) = 6 by decide)
  · obtain ⟨b, _, rfl⟩ := ltrs_mem.mp e
    exact absurd h6 (show ¬ (2 : Int32) = 6 by decide))
theorem XN.raise (h : XN n W lk A) : XN n W lk (aRaise n W pa up A a) := by
  unfold aRaise
  have e0 : XN n W lk (aPut A (setRa (aS A) a) []) := h.put (fun b => Nat.le_refl _) (fun x hx => absurd hx List.not_mem_nil)
  split
  · split
    · refine h.put (fun b => Nat.le_refl _) (fun x hx h6 => ?_)
      rw [List.mem_singleton.mp hx] at h6
      exact absurd h6 (show ¬ (3 : Int32) = 6 by decide)
    · split
      · exact e0
      · exact e0.firm
  · exact h
theorem XN.done (h : XN n W lk A) : XN n W lk (aDone n W pa up A a) := by
  unfold aDone
  by_cases hc : mayD n W pa up A a = true
  · rw [if_pos hc]
    have w : W = 2 := by
      unfold mayD at hc
      rw [Bool.and_eq_true, decide_eq_true_eq] at hc
      exact hc.1
    split
    · exact h.put (fun b => Nat.le_refl _) (fun x hx h6 => w)
    · exact h.put (fun b => Nat.le_refl _) (fun x hx h6 => w)
  · rw [if_neg hc]; exact h
theorem XN.one (h : XN n W lk A) : XN n W lk (aOne n W pa up A a) := by
  unfold aOne
  exact XN.done (XN.raise (XN.safe h))
theorem beg_rd (b : Nat) : rdP (aS A) b ≤ rdP (aS (aBeg n p src mk len lk up A a)) b := by
  show _ ≤ fup (rdP (aS A)) a (rdP (aS A) a + 1) b
  by_cases e : b = a
  · rw [e, fup_s]; omega
  · rw [fup_n e]; exact Nat.le_refl _
theorem begG_mem {x : Lt} (h : x ∈ begG n up A a) : ∃ c, c < n ∧ up c = some a ∧ x = (4, nI a, nI c, nI (rdP (aS A) a + 1), 0) := by
  unfold begG at h
  split at h
  · exact absurd h List.not_mem_nil
  · obtain ⟨b, hb, e⟩ := ltrs_mem.mp h
    have := selL_mem.mp hb
    exact ⟨b, this.1, of_decide_eq_true this.2, e⟩
theorem XN.beg (h : XN n W lk A) : XN n W lk (aBeg n p src mk len lk up A a) := by
  refine ⟨fun t f q hc => ?_, fun x hx h6 => ?_⟩
  · obtain ⟨q1, q2, q3, q4, q5⟩ := h.1 t f q hc
    exact ⟨q1, q2, q3, q4, Nat.le_trans q5 (beg_rd f)⟩
  · rcases List.mem_append.mp hx with e | e
    · rcases List.mem_append.mp e with e | e
      · exact h.2 x e h6
      · obtain ⟨c, _, _, rfl⟩ := begG_mem e
        exact absurd h6 (show ¬ (4 : Int32) = 6 by decide)
    · obtain ⟨_, b, _, _, rfl⟩ := begN_mem e
      exact absurd h6 (show ¬ (0 : Int32) = 6 by decide)
theorem XN.go : ∀ f (A : AS), XN n W lk A → XN n W lk (aGo n R W p src mk len lk pa up f A a) := by
  intro f
  induction f with
  | zero => intro A h; exact h
  | succ f ih =>
    intro A h
    unfold aGo
    split
    · exact ih _ (XN.beg (XN.one h))
    · exact XN.one h
theorem XN.act (hF : FRA n W lk pa up ld) (h : QE n R W p lk pa up ld A) {i k f t q : Nat} {x : Int32} (hR : R ≤ 20) (hn : n ≤ 12) (hf : f < n) (ht : t < n) (hq1 : 1 ≤ q) (hqR : q ≤ R) (hx : (aL A)[i]? = some (nI k, nI f, nI t, nI q, x)) : XN n W lk (aAct n p src mk len lk pa up (aErase A i) k f t q x) := by
  have hE : XN n W lk (aErase A i) := ⟨h.2.1, fun y hy => h.2.2 y (List.mem_of_mem_eraseIdx hy)⟩
  have hc : ∀ w, ¬ w = 0 → XN n W lk (aCame (aErase A i) w t f q) := fun w hw => ⟨fun t' f' q' e => hE.1 t' f' q' (by
    have e : cmU (aC A) w t f q 0 t' f' q' = true := e
    rw [cmU_ne (fun z => hw z.1.symm)] at e; exact e), hE.2⟩
  unfold aAct
  split
  · rename_i k0
    refine ⟨fun t' f' q' e => ?_, fun y hy h6 => ?_⟩
    · have e : cmU (aC A) 0 t f q 0 t' f' q' = true := e
      by_cases z : 0 = 0 ∧ t' = t ∧ f' = f ∧ q' = q
      · rw [k0] at hx
        obtain ⟨f1, t1, hf1, ht1, e1, e2, hl, e3, hr, _⟩ := note_rd hF h.1.1 h.1.2.1 (List.mem_of_getElem? hx) rfl
        have hrR := (h.1.1.1 f1 hf1).1
        have ef : f = f1 := i12 (by omega) (by omega) e1
        have et : t = t1 := i12 (by omega) (by omega) e2
        have eq : q = rdP (aS A) f1 := i12 (by omega) (by omega) e3
        rw [z.2.1, z.2.2.1, z.2.2.2]
        refine ⟨hf, ht, by rw [ef, et]; exact hl, hq1, ?_⟩
        show q ≤ rdP (aS A) f
        rw [ef, eq]; exact Nat.le_refl _
      · rw [cmU_ne z] at e
        exact hE.1 t' f' q' e
    · rcases List.mem_append.mp hy with e | e
      · exact hE.2 y e h6
      · rw [List.mem_singleton.mp e] at h6
        exact absurd h6 (show ¬ (1 : Int32) = 6 by decide)
  · split
    · exact hE
    · split
      · exact hc 1 (by omega)
      · split
        · exact hc 2 (by omega)
        · split
          · exact hE.beg
          · split
            · exact hE.firm
            · exact hc 3 (by omega)
theorem QE.one (hn : n ≤ 12) (hR : R ≤ 20) (hW : W ≤ 2) (h : QE n R W p lk pa up ld A) (ha : a < n) (hr : 1 ≤ rdP (aS A) a) : QE n R W p lk pa up ld (aOne n W pa up A a) := ⟨QI.one hn hR hW h.1 ha hr, h.2.one⟩
theorem QE.beg (hn : n ≤ 12) (hR : R ≤ 20) (hM : MLB mk len) (h : QE n R W p lk pa up ld A) (ha : a < n) (hB : BG n R W lk pa up ld A a) : QE n R W p lk pa up ld (aBeg n p src mk len lk up A a) := ⟨h.1.beg hn hR hM ha hB, h.2.beg⟩
theorem QE.go (hn : n ≤ 12) (hR : R ≤ 20) (hW : W ≤ 2) (hF : FRA n W lk pa up ld) (hM : MLB mk len) (ha : a < n) (f : Nat) (h : QE n R W p lk pa up ld A) (hr : 1 ≤ rdP (aS A) a) : QE n R W p lk pa up ld (aGo n R W p src mk len lk pa up f A a) := ⟨(QI.go hn hR hW hF hM ha f A h.1 hr).1, XN.go f A h.2⟩
/-- a node at rest: nothing is due from it -/
def AtR (n R W : Nat) (pa : Nat → Nat → Bool) (up : Nat → Option Nat) (A : AS) (a : Nat) : Prop := ¬ (sfP (aS A) a = false ∧ opP (aS A) a = 0) ∧ mayR n W up A a = false ∧ mayD n W pa up A a = false ∧ ¬ (W = 0 ∧ sfP (aS A) a = true ∧ all1 n pa A a = true ∧ rdP (aS A) a < R)
theorem AtR.s (h : AtR n R W pa up A a) : aSafe n W pa A a = A := by unfold aSafe; rw [if_neg h.1]
theorem AtR.r (h : AtR n R W pa up A a) : aRaise n W pa up A a = A := by unfold aRaise; rw [if_neg (by rw [h.2.1]; decide)]
theorem AtR.d (h : AtR n R W pa up A a) : aDone n W pa up A a = A := by unfold aDone; rw [if_neg (by rw [h.2.2.1]; decide)]
theorem AtR.one (h : AtR n R W pa up A a) : aOne n W pa up A a = A := by unfold aOne; rw [h.s, h.r, h.d]
theorem AtR.ends (h : AtR n R W pa up A a) : ¬ (aEnds n W pa up A a = true ∧ rdP (aS (aOne n W pa up A a)) a < R) := by
  rw [h.one]
  rintro ⟨h1, h2⟩
  unfold aEnds at h1
  rw [h.s, h.r] at h1
  by_cases w : W = 0
  · rw [if_pos w, Bool.and_eq_true] at h1
    exact h.2.2.2 ⟨w, h1.1, h1.2, h2⟩
  · rw [if_neg w] at h1
    by_cases w1 : W = 1
    · rw [if_pos w1, h.2.1] at h1; simp at h1
    · rw [if_neg w1, h.2.2.1] at h1; simp at h1
theorem AtR.go (h : AtR n R W pa up A a) (f : Nat) : aGo n R W p src mk len lk pa up f A a = A := by
  cases f with
  | zero => rfl
  | succ f => unfold aGo; rw [if_neg h.ends, h.one]
/-- all of a node's state but for NOTEs that came is the same -/
def LC (A A' : AS) (b : Nat) : Prop := (rdP (aS A') b = rdP (aS A) b ∧ opP (aS A') b = opP (aS A) b ∧ sfP (aS A') b = sfP (aS A) b ∧ raP (aS A') b = raP (aS A) b ∧ fiP (aS A') b = fiP (aS A) b ∧ dnP (aS A') b = dnP (aS A) b) ∧ ∀ w f q, ¬ w = 0 → aC A' w b f q = aC A w b f q
theorem LC.rf {b : Nat} : LC A A b := ⟨⟨rfl, rfl, rfl, rfl, rfl, rfl⟩, fun _ _ _ _ => rfl⟩
theorem LC.tr {B : AS} {b : Nat} (h : LC A A' b) (h2 : LC A' B b) : LC A B b := ⟨⟨h2.1.1.trans h.1.1, h2.1.2.1.trans h.1.2.1, h2.1.2.2.1.trans h.1.2.2.1, h2.1.2.2.2.1.trans h.1.2.2.2.1, h2.1.2.2.2.2.1.trans h.1.2.2.2.2.1, h2.1.2.2.2.2.2.trans h.1.2.2.2.2.2⟩, fun w f q hw => (h2.2 w f q hw).trans (h.2 w f q hw)⟩
theorem AtR.loc (h : AtR n R W pa up A a) (hl : LC A A' a) : AtR n R W pa up A' a := by
  obtain ⟨⟨e1, e2, e3, e4, e5, e6⟩, ec⟩ := hl
  have a1 : all1 n pa A' a = all1 n pa A a := by
    unfold all1
    rw [e1]
    congr 1; funext b; exact ec 1 b _ (by omega)
  have a2 : all2 n up A' a = all2 n up A a := by
    unfold all2
    rw [e1]
    congr 1; funext b; exact ec 2 b _ (by omega)
  have a3 : all3 n up A' a = all3 n up A a := by
    unfold all3
    rw [e1]
    congr 1; funext b; exact ec 3 b _ (by omega)
  obtain ⟨h1, h2, h3, h4⟩ := h
  refine ⟨by rw [e3, e2]; exact h1, ?_, ?_, by rw [e3, a1, e1]; exact h4⟩
  · unfold mayR at h2 ⊢; rw [e3, e4, a2]; exact h2
  · unfold mayD at h3 ⊢; rw [e5, e6, a1, a3]; exact h3
theorem LC_put {S : PS} {m : List Lt} {b : Nat} (h : rdP S b = rdP (aS A) b ∧ opP S b = opP (aS A) b ∧ sfP S b = sfP (aS A) b ∧ raP S b = raP (aS A) b ∧ fiP S b = fiP (aS A) b ∧ dnP S b = dnP (aS A) b) : LC A (aPut A S m) b := ⟨h, fun _ _ _ _ => rfl⟩
theorem LC_safe {b : Nat} (hb : b ≠ a) : LC A (aSafe n W pa A a) b := by
  unfold aSafe
  split
  · exact LC_put ⟨rfl, rfl, fup_n hb, rfl, rfl, rfl⟩
  · exact LC.rf
theorem LC_firm {b : Nat} (hb : b ≠ a) : LC A (aFirm n pa up A a) b := LC_put ⟨rfl, rfl, rfl, rfl, fup_n hb, rfl⟩
theorem LC_raise {b : Nat} (hb : b ≠ a) : LC A (aRaise n W pa up A a) b := by
  unfold aRaise
  have e0 : LC A (aPut A (setRa (aS A) a) []) b := LC_put ⟨rfl, rfl, rfl, fup_n hb, rfl, rfl⟩
  split
  · split
    · exact LC_put ⟨rfl, rfl, rfl, fup_n hb, rfl, rfl⟩
    · split
      · exact e0
      · exact e0.tr (LC_firm hb)
  · exact LC.rf
theorem LC_done {b : Nat} (hb : b ≠ a) : LC A (aDone n W pa up A a) b := by
  unfold aDone
  split
  · split
    · exact LC_put ⟨rfl, rfl, rfl, rfl, rfl, fup_n hb⟩
    · exact LC_put ⟨rfl, rfl, rfl, rfl, rfl, fup_n hb⟩
  · exact LC.rf
theorem LC_one {b : Nat} (hb : b ≠ a) : LC A (aOne n W pa up A a) b := by
  unfold aOne
  exact ((LC_safe hb).tr (LC_raise hb)).tr (LC_done hb)
theorem LC_beg {b : Nat} (hb : b ≠ a) : LC A (aBeg n p src mk len lk up A a) b := ⟨⟨fup_n hb, fup_n hb, fup_n hb, fup_n hb, fup_n hb, fup_n hb⟩, fun _ _ _ _ => rfl⟩
theorem LC_go {b : Nat} (hb : b ≠ a) : ∀ f (A : AS), LC A (aGo n R W p src mk len lk pa up f A a) b := by
  intro f
  induction f with
  | zero => intro A; exact LC.rf
  | succ f ih =>
    intro A
    unfold aGo
    split
    · exact ((LC_one hb).tr (LC_beg hb)).tr (ih _)
    · exact LC_one hb
theorem LC_came {w t f q b : Nat} (hb : b ≠ t) : LC A (aCame A w t f q) b := ⟨⟨rfl, rfl, rfl, rfl, rfl, rfl⟩, fun w' f' q' _ => by
  show cmU (aC A) w t f q w' b f' q' = _
  exact cmU_ne (fun e => hb e.2.1)⟩
theorem LC_note {t f q b : Nat} {x : Int32} : LC A (aNote A t f q x) b := ⟨⟨rfl, rfl, rfl, rfl, rfl, rfl⟩, fun w' f' q' hw => by
  show cmU (aC A) 0 t f q w' b f' q' = _
  exact cmU_ne (fun e => hw e.1)⟩
theorem LC_act {i k f t q b : Nat} {x : Int32} (hb : b ≠ t) : LC A (aAct n p src mk len lk pa up (aErase A i) k f t q x) b := by
  have e0 : LC A (aErase A i) b := ⟨⟨rfl, rfl, rfl, rfl, rfl, rfl⟩, fun _ _ _ _ => rfl⟩
  unfold aAct
  split
  · exact e0.tr LC_note
  · split
    · exact ⟨⟨rfl, fup_n hb, rfl, rfl, rfl, rfl⟩, fun _ _ _ _ => rfl⟩
    · split
      · exact e0.tr (LC_came hb)
      · split
        · exact e0.tr (LC_came hb)
        · split
          · exact e0.tr (LC_beg hb)
          · split
            · exact e0.tr (LC_firm hb)
            · exact e0.tr (LC_came hb)
theorem sf_raise : sfP (aS (aRaise n W pa up A a)) = sfP (aS A) ∧ opP (aS (aRaise n W pa up A a)) = opP (aS A) ∧ dnP (aS (aRaise n W pa up A a)) = dnP (aS A) ∧ aC (aRaise n W pa up A a) = aC A := by
  unfold aRaise
  split
  · split
    · exact ⟨rfl, rfl, rfl, rfl⟩
    · split <;> exact ⟨rfl, rfl, rfl, rfl⟩
  · exact ⟨rfl, rfl, rfl, rfl⟩
theorem sf_done : sfP (aS (aDone n W pa up A a)) = sfP (aS A) ∧ opP (aS (aDone n W pa up A a)) = opP (aS A) ∧ raP (aS (aDone n W pa up A a)) = raP (aS A) ∧ aC (aDone n W pa up A a) = aC A := by
  unfold aDone
  split
  · split <;> exact ⟨rfl, rfl, rfl, rfl⟩
  · exact ⟨rfl, rfl, rfl, rfl⟩
theorem sf_safe : raP (aS (aSafe n W pa A a)) = raP (aS A) ∧ fiP (aS (aSafe n W pa A a)) = fiP (aS A) ∧ dnP (aS (aSafe n W pa A a)) = dnP (aS A) ∧ opP (aS (aSafe n W pa A a)) = opP (aS A) ∧ aC (aSafe n W pa A a) = aC A := by
  unfold aSafe
  split <;> exact ⟨rfl, rfl, rfl, rfl, rfl⟩
/-- behind aOne nothing is due, but a next round -/
theorem AtR_one (hs : ¬ (aEnds n W pa up A a = true ∧ rdP (aS (aOne n W pa up A a)) a < R)) : AtR n R W pa up (aOne n W pa up A a) a := by
  have s1 : ¬ (sfP (aS (aSafe n W pa A a)) a = false ∧ opP (aS (aSafe n W pa A a)) a = 0) := by
    unfold aSafe
    by_cases hc : sfP (aS A) a = false ∧ opP (aS A) a = 0
    · rw [if_pos hc]
      rintro ⟨q, _⟩
      have q : fup (sfP (aS A)) a true a = false := q
      rw [fup_s] at q; exact absurd q (by decide)
    · rw [if_neg hc]; exact hc
  have s2 : ∀ B : AS, mayR n W up (aRaise n W pa up B a) a = false := fun B => by
    by_cases hc : mayR n W up B a = true
    · have : raP (aS (aRaise n W pa up B a)) a = true := by
        unfold aRaise
        rw [if_pos hc]
        split
        · exact fup_s
        · split <;> exact fup_s
      unfold mayR
      rw [this]; simp
    · have : aRaise n W pa up B a = B := by unfold aRaise; rw [if_neg hc]
      rw [this]; exact Bool.eq_false_iff.mpr hc
  have s3 : ∀ B : AS, mayR n W up (aDone n W pa up B a) a = mayR n W up B a := fun B => by
    unfold mayR all2
    rw [(sf_done (A := B)).1, (sf_done (A := B)).2.2.1, (sf_done (A := B)).2.2.2, aDone_rd]
  have s4 : ∀ B : AS, mayD n W pa up (aDone n W pa up B a) a = false := fun B => by
    by_cases hc : mayD n W pa up B a = true
    · have : dnP (aS (aDone n W pa up B a)) a = true := by
        unfold aDone
        rw [if_pos hc]
        split <;> exact fup_s
      unfold mayD
      rw [this]; simp
    · have : aDone n W pa up B a = B := by unfold aDone; rw [if_neg hc]
      rw [this]; exact Bool.eq_false_iff.mpr hc
  refine ⟨?_, ?_, s4 _, ?_⟩
  · unfold aOne
    rw [sf_done.1, sf_done.2.1, sf_raise.1, sf_raise.2.1]; exact s1
  · unfold aOne
    rw [s3]; exact s2 _
  · rintro ⟨w, q1, q2, q3⟩
    refine hs ⟨?_, q3⟩
    have e1 : aOne n W pa up A a = aSafe n W pa A a := by
      unfold aOne aDone aRaise mayR mayD
      rw [if_neg (by rw [w]; simp), if_neg (by rw [w]; simp)]
    rw [e1] at q1 q2
    unfold aEnds
    rw [if_pos w, q1, q2]; rfl
theorem AtR_go : ∀ f (A : AS), rdP (aS A) a ≤ R → R - rdP (aS A) a < f → AtR n R W pa up (aGo n R W p src mk len lk pa up f A a) a := by
  intro f
  induction f with
  | zero => intro A _ h; exact absurd h (Nat.not_lt_zero _)
  | succ f ih =>
    intro A h0 h
    unfold aGo
    by_cases hc : aEnds n W pa up A a = true ∧ rdP (aS (aOne n W pa up A a)) a < R
    · rw [if_pos hc]
      have e : rdP (aS (aBeg n p src mk len lk up (aOne n W pa up A a) a)) a = rdP (aS (aOne n W pa up A a)) a + 1 := fup_s
      have e2 := aOne_rd (n := n) (W := W) (pa := pa) (up := up) (A := A) (a := a)
      have h2 := hc.2
      exact ih _ (by omega) (by rw [e, e2] at *; omega)
    · rw [if_neg hc]; exact AtR_one hc
/-- what holds between two letters -/
def QR (n R W p : Nat) (lk pa : Nat → Nat → Bool) (up : Nat → Option Nat) (ld : Nat → Nat) (A : AS) : Prop := QE n R W p lk pa up ld A ∧ (∀ c, c < n → 1 ≤ rdP (aS A) c) ∧ ∀ c, c < n → AtR n R W pa up A c
theorem QR.handle (hn : n ≤ 12) (hR : R ≤ 20) (hR1 : 1 ≤ R) (hW : W ≤ 2) (hF : FRA n W lk pa up ld) (hM : MLB mk len) (h : QR n R W p lk pa up ld A) {i k f t q : Nat} {x : Int32} (hk : k < 7) (hf : f < n) (ht : t < n) (hq1 : 1 ≤ q) (hqR : q ≤ R) (hx : (aL A)[i]? = some (nI k, nI f, nI t, nI q, x)) : QR n R W p lk pa up ld (aHandle n R W p src mk len lk pa up A i k f t q x) := by
  obtain ⟨h1, h2, h3⟩ := h
  obtain ⟨g1, g2⟩ := h1.1.act (src := src) (mk := mk) (len := len) hn hR hW hF hM h2 hk hf ht hq1 hqR hx
  have g3 : QE n R W p lk pa up ld (aAct n p src mk len lk pa up (aErase A i) k f t q x) := ⟨g1, XN.act hF h1 hR hn hf ht hq1 hqR hx⟩
  have r1 : 1 ≤ rdP (aS (aAct n p src mk len lk pa up (aErase A i) k f t q x)) t := Nat.le_trans (h2 t ht) (g2 t)
  have g4 := QE.go (src := src) hn hR hW hF hM ht R g3 r1
  refine ⟨g4, ?_, fun c hc => ?_⟩
  · exact (h1.1.handle (src := src) (mk := mk) (len := len) hn hR hW hF hM h2 hk hf ht hq1 hqR hx).2
  · by_cases e : c = t
    · rw [e]
      have := (g1.1.1 t ht).1
      exact AtR_go R _ this (by omega)
    · exact (h3 c hc).loc ((LC_act e).tr (LC_go e R _))
end QES
end
section
-- The reference is the pure machine: sending
def cNo (m : List Lt) : Nat := m.countP (fun x => decide (x.1 = 0))
def cOt (m : List Lt) : Nat := m.countP (fun x => decide (¬ x.1 = 0))
theorem cNo_app (l m : List Lt) : cNo (l ++ m) = cNo l + cNo m := by unfold cNo; exact List.countP_append
theorem cOt_app (l m : List Lt) : cOt (l ++ m) = cOt l + cOt m := by unfold cOt; exact List.countP_append
theorem cNo_0 {m : List Lt} (h : ∀ x, x ∈ m → ¬ x.1 = 0) : cNo m = 0 ∧ cOt m = m.length := by
  unfold cNo cOt
  exact ⟨List.countP_eq_zero.mpr (fun x hx q => h x hx (of_decide_eq_true q)), List.countP_eq_length.mpr (fun x hx => decide_eq_true (h x hx))⟩
theorem cNo_1 {m : List Lt} (h : ∀ x, x ∈ m → x.1 = 0) : cNo m = m.length ∧ cOt m = 0 := by
  unfold cNo cOt
  exact ⟨List.countP_eq_length.mpr (fun x hx => decide_eq_true (h x hx)), List.countP_eq_zero.mpr (fun x hx q => of_decide_eq_true q (h x hx))⟩
/-- τ is σ with the letters m sent -/
def SN (σ τ : zSt) (l m : List Lt) : Prop := MF [51] [27, 29, 30] σ τ ∧ ML τ (l ++ m) ∧ τ 32 29 = σ 32 29 + nI (cNo m) ∧ τ 32 30 = σ 32 30 + nI (cOt m)
theorem SN.rf {σ : zSt} {l : List Lt} (h : ML σ l) : SN σ σ l [] := ⟨MF.rf, by rw [List.append_nil]; exact h, (Int32.add_zero _).symm, (Int32.add_zero _).symm⟩
theorem SN.tr {σ τ υ : zSt} {l m m' : List Lt} (h : SN σ τ l m) (h2 : SN τ υ (l ++ m) m') : SN σ υ l (m ++ m') := by
  obtain ⟨a1, a2, a3, a4⟩ := h
  obtain ⟨b1, b2, b3, b4⟩ := h2
  exact ⟨a1.tr b1, by rw [← List.append_assoc]; exact b2, by rw [b3, a3, cNo_app, ← nI_add, Int32.add_assoc], by rw [b4, a4, cOt_app, ← nI_add, Int32.add_assoc]⟩
theorem s_Mo_send2 (G : zG) (σ : zSt) (l : List Lt) (k f t r x : Int32) (h : ML σ l) (hl : l.length < 4000) : zV G 0 M_Mo_send [zf G 32, .int k, .int f, .int t, .int r, .int x] σ (fun τ => SN σ τ l [(k, f, t, r, x)]) := by
  refine zSpec.of (by decide) (Nat.le_of_ble_eq_true rfl) rfl (fun X E => ?_)
  obtain ⟨h1, h2, h3⟩ := h
  have e5 : (5 : Int32) * nI l.length = nI (5 * l.length) := by rw [show (5 : Int32) = nI 5 from rfl, pk_mul]
  have idx : ∀ j : Nat, j < 5 → vp_in (nI (5 * l.length + j)) 20000 ∧ (nI (5 * l.length + j)).toNatClampNeg = 5 * l.length + j := fun j hj => ⟨vp_in_nI (by omega) (by decide), nI_clamp (by omega)⟩
  have q0 : (5 : Int32) * nI l.length = nI (5 * l.length + 0) := e5
  have q1 : ((5 : Int32) * nI l.length) + (1 : Int32) = nI (5 * l.length + 1) := by rw [e5, show (1 : Int32) = nI 1 from rfl, nI_add]
  have q2 : ((5 : Int32) * nI l.length) + (2 : Int32) = nI (5 * l.length + 2) := by rw [e5, show (2 : Int32) = nI 2 from rfl, nI_add]
  have q3 : ((5 : Int32) * nI l.length) + (3 : Int32) = nI (5 * l.length + 3) := by rw [e5, show (3 : Int32) = nI 3 from rfl, nI_add]
  have q4 : ((5 : Int32) * nI l.length) + (4 : Int32) = nI (5 * l.length + 4) := by rw [e5, show (4 : Int32) = nI 4 from rfl, nI_add]
  refine b_Mo_send_0 E k f t r x σ ⟨by rw [h1, q0]; exact (idx 0 (by omega)).1, fun σ1 e1 => ?_⟩
  rw [h1, q0, (idx 0 (by omega)).2] at e1
  have g1 : σ1 32 27 = nI l.length := by rw [e1, zup_ne (by decide)]; exact h1
  refine ⟨by rw [g1, q1]; exact (idx 1 (by omega)).1, fun σ2 e2 => ?_⟩
  rw [g1, q1, (idx 1 (by omega)).2] at e2
  have g2 : σ2 32 27 = nI l.length := by rw [e2, zup_ne (by decide)]; exact g1
  refine ⟨by rw [g2, q2]; exact (idx 2 (by omega)).1, fun σ3 e3 => ?_⟩
  rw [g2, q2, (idx 2 (by omega)).2] at e3
  have g3 : σ3 32 27 = nI l.length := by rw [e3, zup_ne (by decide)]; exact g2
  refine ⟨by rw [g3, q3]; exact (idx 3 (by omega)).1, fun σ4 e4 => ?_⟩
  rw [g3, q3, (idx 3 (by omega)).2] at e4
  have g4 : σ4 32 27 = nI l.length := by rw [e4, zup_ne (by decide)]; exact g3
  refine ⟨by rw [g4, q4]; exact (idx 4 (by omega)).1, fun σ5 e5' => ?_⟩
  rw [g4, q4, (idx 4 (by omega)).2] at e5'
  have g5 : σ5 32 27 = nI l.length := by rw [e5', zup_ne (by decide)]; exact g4
  have p5 : ∀ j, σ5 51 j = if j = 5 * l.length + 4 then x else if j = 5 * l.length + 3 then r else if j = 5 * l.length + 2 then t else if j = 5 * l.length + 1 then f else if j = 5 * l.length + 0 then k else σ 51 j := fun j => by
    rw [e5', zup_self, e4, zup_self, e3, zup_self, e2, zup_self, e1, zup_self]; rfl
  have fin : ∀ (j : Nat) (w : Int32) (σ6 σ7 : zSt), (j = 29 ∨ j = 30) → σ6 = zup σ5 32 27 ((σ5 32 27) + (1 : Int32)) → σ7 = zup σ6 32 j w → ((j = 29 ∧ k = 0 ∧ w = σ6 32 29 + 1) ∨ (j = 30 ∧ ¬ k = 0 ∧ w = σ6 32 30 + 1)) → (none : Option Value) = none ∧ SN σ σ7 l [(k, f, t, r, x)] := by
    intro j w σ6 σ7 hj e6 e7 hw
    rw [g5, nI_1] at e6
    refine ⟨rfl, ?_, ⟨?_, ?_, ?_⟩, ?_, ?_⟩
    · rw [e7, e6, e5', e4, e3, e2, e1]
      exact ((((((MF.rf.up (by decide) (by decide)).up (by decide) (by decide)).up (by decide) (by decide)).up (by decide) (by decide)).up (by decide) (by decide)).fld (by decide)).fld (by rcases hj with rfl | rfl <;> decide)
    · rw [e7, zup_self, e6, zup_self]
      unfold upd
      rw [if_neg (by omega), if_pos rfl, List.length_append]
      rfl
    · rw [List.length_append]; show l.length + 1 ≤ 4000; omega
    · intro i hi
      have e51 : σ7 51 = σ5 51 := by rw [e7, zup_ne (by decide), e6, zup_ne (by decide)]
      rw [List.length_append] at hi
      have hi' : i < l.length + 1 := hi
      simp only [mlt, e51, p5]
      rcases Nat.lt_or_ge i l.length with hil | hil
      · rw [List.getElem?_append_left hil, h3 i hil]
        have a0 : ∀ j, j < 5 → ∀ m, m < 5 → 5 * i + j ≠ 5 * l.length + m := fun j hj m hm => by omega
        simp only [mlt]
        congr 1
        have b0 := a0 0 (by omega)
        simp only [Nat.add_zero] at b0
        congr 1
        · rw [if_neg (by omega), if_neg (by omega), if_neg (by omega), if_neg (by omega), if_neg (by omega)]
        · congr 1
          · rw [if_neg (by omega), if_neg (by omega), if_neg (by omega), if_neg (by omega), if_neg (by omega)]
          · congr 1
            · rw [if_neg (by omega), if_neg (by omega), if_neg (by omega), if_neg (by omega), if_neg (by omega)]
            · congr 1
              · rw [if_neg (by omega), if_neg (by omega), if_neg (by omega), if_neg (by omega), if_neg (by omega)]
              · rw [if_neg (by omega), if_neg (by omega), if_neg (by omega), if_neg (by omega), if_neg (by omega)]
      · have e : i = l.length := by omega
        subst e
        simp
    · have z6 : σ6 32 29 = σ 32 29 := by
        rw [e6, zup_self]; unfold upd; rw [if_neg (by decide)]
        rw [e5', zup_ne (by decide), e4, zup_ne (by decide), e3, zup_ne (by decide), e2, zup_ne (by decide), e1, zup_ne (by decide)]
      rw [e7, zup_self]
      unfold upd
      rcases hw with ⟨a1, a2, a3⟩ | ⟨a1, a2, a3⟩
      · rw [if_pos a1.symm, a3, z6, (cNo_1 (m := [(k, f, t, r, x)]) (fun y hy => by rw [List.mem_singleton.mp hy]; exact a2)).1]; rfl
      · rw [if_neg (by omega), z6, (cNo_0 (m := [(k, f, t, r, x)]) (fun y hy => by rw [List.mem_singleton.mp hy]; exact a2)).1]; exact (Int32.add_zero _).symm
    · have z6 : σ6 32 30 = σ 32 30 := by
        rw [e6, zup_self]; unfold upd; rw [if_neg (by decide)]
        rw [e5', zup_ne (by decide), e4, zup_ne (by decide), e3, zup_ne (by decide), e2, zup_ne (by decide), e1, zup_ne (by decide)]
      rw [e7, zup_self]
      unfold upd
      rcases hw with ⟨a1, a2, a3⟩ | ⟨a1, a2, a3⟩
      · rw [if_neg (by omega), z6, (cNo_1 (m := [(k, f, t, r, x)]) (fun y hy => by rw [List.mem_singleton.mp hy]; exact a2)).2]; exact (Int32.add_zero _).symm
      · rw [if_pos a1.symm, a3, z6, (cNo_0 (m := [(k, f, t, r, x)]) (fun y hy => by rw [List.mem_singleton.mp hy]; exact a2)).2]; rfl
  exact fun σ6 e6 => ⟨fun hk σ7 e7 => fin 30 _ σ6 σ7 (Or.inr rfl) e6 e7 (Or.inr ⟨rfl, hk, rfl⟩), fun hk σ7 e7 => fin 29 _ σ6 σ7 (Or.inl rfl) e6 e7 (Or.inl ⟨rfl, hk, rfl⟩)⟩
theorem sel_no {k x : Int32} {a r i : Nat} {P : Nat → Bool} (h : ¬ P i = true) : ltrs k a r x (selL P (i + 1)) = ltrs k a r x (selL P i) := by
  show ltrs k a r x (selL P i ++ (if P i = true then [i] else [])) = _
  rw [if_neg h, List.append_nil]
theorem sel_yes {k x : Int32} {a r i : Nat} {P : Nat → Bool} (h : P i = true) : ltrs k a r x (selL P (i + 1)) = ltrs k a r x (selL P i) ++ [(k, nI a, nI i, nI r, x)] := by
  show ltrs k a r x (selL P i ++ (if P i = true then [i] else [])) = _
  rw [if_pos h]
  unfold ltrs
  rw [List.map_append]
  rfl
theorem all_end {P F : Nat → Bool} {i m : Nat} (hi : i < m) (hp : P i = true) (hf : F i = false) : (selL P m).all F = false := by
  cases h : (selL P m).all F with
  | false => rfl
  | true =>
    have := List.all_eq_true.mp h i (selL_mem.mpr ⟨hi, hp⟩)
    rw [hf] at this; exact absurd this (by decide)
theorem all_step {P F : Nat → Bool} {i : Nat} (h : (selL P i).all F = true) (hf : P i = true → F i = true) : (selL P (i + 1)).all F = true := by
  refine List.all_eq_true.mpr (fun c hc => ?_)
  have h1 := selL_mem.mp hc
  by_cases e : c = i
  · rw [e] at h1 ⊢; exact hf h1.2
  · exact List.all_eq_true.mp h c (selL_mem.mpr ⟨by omega, h1.2⟩)
/-- what does not change in the running, as the pure machine takes it -/
def MT (σ : zSt) (n R W p : Nat) (src : Int32) (mk : Nat → Int32) (len : Nat → Nat → Int32) (lk pa : Nat → Nat → Bool) (up : Nat → Option Nat) : Prop :=
  MS σ n R W ∧ (σ 32 5 = nI p ∧ p ≤ 3 ∧ σ 32 7 = src) ∧ (∀ a, a < 12 → σ 34 a = mk a) ∧ (∀ a b, a < 12 → b < 12 → σ 33 (12 * b + a) = len a b) ∧ (∀ a b, a < n → b < n → zLk σ (nI a) (nI b) = lk a b) ∧ (∀ c, c < n → upS σ c = up c) ∧ (W = 0 → (∀ a b, a < n → b < n → pa a b = lk a b) ∧ ∀ c, c < n → up c = none) ∧ (¬ W = 0 → ∀ a b, a < n → b < n → pa a b = decide (¬ σ 44 (12 * a + b) = 0))
section MREF
variable {n R W p : Nat} {src : Int32} {mk : Nat → Int32} {len : Nat → Nat → Int32} {lk pa : Nat → Nat → Bool} {up : Nat → Option Nat} {A : AS}
theorem MT.of {σ τ : zSt} {L J : List Nat} (h : MT σ n R W p src mk len lk pa up) (hF : MF L J σ τ) (hL : 33 ∉ L ∧ 34 ∉ L ∧ 41 ∉ L ∧ 44 ∉ L) (hJ : 0 ∉ J ∧ 5 ∉ J ∧ 6 ∉ J ∧ 7 ∉ J ∧ 8 ∉ J) : MT τ n R W p src mk len lk pa up := by
  have at' : ∀ c, c ≠ 32 → c ∉ L → τ c = σ c := fun c h1 h2 => hF.at (fun q => by
    rcases List.mem_cons.mp q with e | e
    · exact h1 e
    · exact h2 e)
  have e33 : τ 33 = σ 33 := at' 33 (by decide) hL.1
  have e34 : τ 34 = σ 34 := at' 34 (by decide) hL.2.1
  have e41 : τ 41 = σ 41 := at' 41 (by decide) hL.2.2.1
  have e44 : τ 44 = σ 44 := at' 44 (by decide) hL.2.2.2
  obtain ⟨h1, ⟨h2, h3, h4⟩, h5, h6, h7, h8, h9, h10⟩ := h
  refine ⟨h1.of (hF.2 0 hJ.1) (hF.2 8 hJ.2.2.2.2) (hF.2 6 hJ.2.2.1) e41 e33 e34, ⟨by rw [hF.2 5 hJ.2.1]; exact h2, h3, by rw [hF.2 7 hJ.2.2.2.1]; exact h4⟩, by rw [e34]; exact h5, by rw [e33]; exact h6, fun a b ha hb => ?_, by rw [upS_eq e41]; exact h8, h9, by rw [e44]; exact h10⟩
  rw [← h7 a b ha hb]
  unfold zLk
  rw [e33]
theorem MT.be {σ : zSt} (h : MT σ n R W p src mk len lk pa up) {i a : Nat} (hi : i < n) (ha : a < n) : zBe σ (nI i) (nI a) = decide (up i = some a) := by
  obtain ⟨⟨_, _, hn, _, _, _, _, _, hU, _⟩, _, _, _, _, h8, _⟩ := h
  unfold zBe
  rw [← h8 i hi, nI_clamp (by omega)]
  rcases hU i hi with e | ⟨u, u1, u2, u3⟩
  · unfold upS
    rw [e, if_pos rfl, decide_eq_false (fun q => nI_ne_m2 (show a < 1000 by omega) q.1.symm), decide_eq_false (by simp)]
  · rw [upS_to (by omega) u3, u3]
    by_cases e : u = a
    · rw [decide_eq_true (p := nI u = nI a ∧ ¬ nI i = nI a) ⟨by rw [e], fun q => u2 (by rw [e]; exact ((nI_eq (by omega) (by omega)).mp q).symm)⟩, decide_eq_true (by rw [e])]
    · rw [decide_eq_false (p := nI u = nI a ∧ ¬ nI i = nI a) (fun q => e ((nI_eq (by omega) (by omega)).mp q.1)), decide_eq_false (fun q => e (Option.some.inj q))]
theorem s_Mo_toLower2 (G : zG) (σ : zSt) (a r : Nat) (l : List Lt) (k : Int32) (hT : MT σ n R W p src mk len lk pa up) (ha : a < n) (hL : ML σ l) (hl : l.length + 12 ≤ 4000) : zV G 1 M_Mo_toLower [zf G 32, .int k, .int (nI a), .int (nI r)] σ (fun τ => SN σ τ l (ltrs k a r 0 (lows n up a))) := by
  refine zSpec.of (by decide) (Nat.le_of_ble_eq_true rfl) rfl (fun X E => ?_)
  have hn : n ≤ 12 := hT.1.2.2.1
  refine b_Mo_toLower_0 E k (nI a) (nI r) σ ?_
  refine z_for n (fun i τ => zZ G M_Mo_toLower 1 X (fun rr τ => rr = none ∧ SN σ τ l (ltrs k a r 0 (lows n up a))) 3 [(0, zf G 32), (1, .int k), (2, .int (nI a)), (3, .int (nI r)), (4, .int (nI i))] [] τ) (fun i τ => SN σ τ l (ltrs k a r 0 (selL (fun c => decide (up c = some a)) i))) ?_ ?_ 0 σ (Nat.zero_le _) (SN.rf hL)
  · intro i τ hi hI ih
    have ii : vp_in (nI i) 12 := vp_in_nI (by omega) (by decide)
    have hTτ := hT.of hI.1 (by decide) (by decide)
    have nτ : τ 32 0 = nI n := hTτ.1.1
    have wτ : τ 32 6 = nI W := hTτ.1.2.2.2.2.2.2.1
    have hW := hTτ.1.2.2.2.2.2.2.2.1
    have hz := hTτ.be hi ha
    have hlen : (ltrs k a r 0 (selL (fun c => decide (up c = some a)) i)).length ≤ i := by rw [ltrs_len]; exact selL_len i
    refine b_Mo_toLower_3 E k (nI a) (nI r) (nI i) τ ⟨fun q => absurd q (by rw [nτ]; exact nI_ge hi (by omega)), fun _ => ⟨fun hw => ?_, fun _ => ⟨ii, fun hf => ?_, fun ht => ⟨_, s_Mo_send2 G τ _ k (nI a) (nI i) (nI r) 0 hI.2.1 (by rw [List.length_append]; omega), fun σ1 h1 => ?_⟩⟩⟩⟩
    · rw [nI_1]
      refine ih τ ?_
      have w0 : W = 0 := by
        rw [wτ] at hw
        have := (nI_leI (a := W) (b := 0) (by omega) (by decide)).mp hw
        omega
      rw [sel_no (by rw [(hTτ.2.2.2.2.2.2.1 w0).2 i hi]; simp)]; exact hI
    · rw [nI_1]
      refine ih τ ?_
      rw [hz] at hf
      rw [sel_no (by rw [hf]; decide)]; exact hI
    · rw [nI_1]
      refine ih σ1 ?_
      rw [hz] at ht
      rw [sel_yes ht]; exact hI.tr h1
  · intro τ hI
    have nτ : τ 32 0 = nI n := (hT.of hI.1 (by decide) (by decide)).1.1
    exact b_Mo_toLower_3 E k (nI a) (nI r) (nI n) τ ⟨fun _ => ⟨rfl, hI⟩, fun q => absurd (by rw [nτ]; exact nI_le (Nat.le_refl n) (by omega)) q⟩
/-- what hasAll asks about -/
def wanP (n : Nat) (pa : Nat → Nat → Bool) (up : Nat → Option Nat) (a : Nat) (lo : Int32) : Nat → Bool := if lo = 0 then (fun b => pa a b) else (fun c => decide (up c = some a))
theorem s_Mo_hasAll2 (G : zG) (σ : zSt) (w a q : Nat) (lo : Int32) (hT : MT σ n R W p src mk len lk pa up) (hw : w < 4) (ha : a < n) (hq : σ 35 a = nI q) (hq2 : q < 22) : zB G 1 M_Mo_hasAll [zf G 32, .int (nI w), .int (nI a), .int lo] σ (fun b τ => τ = σ ∧ b = (selL (wanP n pa up a lo) n).all (fun c => decide (¬ σ 45 (pl w a c q) = 0))) := by
  refine zSpec.of (by decide) (Nat.le_of_ble_eq_true rfl) rfl (fun X E => ?_)
  obtain ⟨h1, h2, h3, h4, h5, h6, h7, h8, h9, h10⟩ := hT.1
  have ia : vp_in (nI a) 12 := vp_in_nI (by omega) (by decide)
  have ca : (nI a).toNatClampNeg = a := nI_clamp (by omega)
  refine b_Mo_hasAll_0 E (nI w) (nI a) lo σ ?_
  refine z_for n (fun i (_ : Unit) => zZ G M_Mo_hasAll 1 X (fun rr τ => ∃ b : Bool, rr = some (.int (zb b)) ∧ τ = σ ∧ b = (selL (wanP n pa up a lo) n).all (fun c => decide (¬ σ 45 (pl w a c q) = 0))) 3 [(0, zf G 32), (1, .int (nI w)), (2, .int (nI a)), (3, .int lo), (4, .int (nI i))] [] σ) (fun i _ => (selL (wanP n pa up a lo) i).all (fun c => decide (¬ σ 45 (pl w a c q) = 0)) = true) ?_ ?_ 0 () (Nat.zero_le _) rfl
  · intro i _ hi hI ih
    have ii : vp_in (nI i) 12 := vp_in_nI (by omega) (by decide)
    have ci : (nI i).toNatClampNeg = i := nI_clamp (by omega)
    have iab : vp_in (((12 : Int32) * nI a) + nI i) 144 := by rw [zi12']; exact vp_in_nI (by omega) (by decide)
    have cab : (((12 : Int32) * nI a) + nI i).toNatClampNeg = 12 * a + i := by rw [zi12']; exact nI_clamp (by omega)
    have epl : ((nI w * 12 + nI a) * 12 + nI i) * 22 + (σ 35 (nI a).toNatClampNeg) = nI (pl w a i q) := by rw [ca, hq, pl_nI]
    have hpl := pl_lt (r := q) hw (show a < 12 by omega) (show i < 12 by omega) hq2
    have ipl : vp_in (((nI w * 12 + nI a) * 12 + nI i) * 22 + (σ 35 (nI a).toNatClampNeg)) 12672 := by rw [epl]; exact vp_in_nI hpl (by decide)
    have cpl : (((nI w * 12 + nI a) * 12 + nI i) * 22 + (σ 35 (nI a).toNatClampNeg)).toNatClampNeg = pl w a i q := by rw [epl]; exact nI_clamp (by omega)
    have nx : (wanP n pa up a lo i = true → ¬ σ 45 (pl w a i q) = 0) → zZ G M_Mo_hasAll 1 X (fun rr τ => ∃ b : Bool, rr = some (.int (zb b)) ∧ τ = σ ∧ b = (selL (wanP n pa up a lo) n).all (fun c => decide (¬ σ 45 (pl w a c q) = 0))) 3 [(0, zf G 32), (1, .int (nI w)), (2, .int (nI a)), (3, .int lo), (4, .int (nI i + 1))] [] σ := by
      intro hx
      rw [nI_1]
      exact ih () (all_step hI (fun hp => decide_eq_true (hx hp)))
    have no : wanP n pa up a lo i = true → σ 45 (pl w a i q) = 0 → ∃ b : Bool, some (Value.int (0 : Int32)) = some (Value.int (zb b)) ∧ σ = σ ∧ b = (selL (wanP n pa up a lo) n).all (fun c => decide (¬ σ 45 (pl w a c q) = 0)) := fun hp hz => ⟨false, rfl, rfl, (all_end (F := fun c => decide (¬ σ 45 (pl w a c q) = 0)) hi hp (decide_eq_false (fun k => k hz))).symm⟩
    refine b_Mo_hasAll_3 E (nI w) (nI a) lo (nI i) σ ⟨fun qq => absurd qq (by rw [h1]; exact nI_ge hi (by omega)), fun _ => ⟨fun hlo => ⟨fun hw0 => ⟨iab, fun hc => nx (fun hp => ?_), fun hc => ⟨ia, ipl, fun hne => nx (fun _ => by rw [cpl] at hne; exact hne), fun hz => no ?_ (by rw [cpl] at hz; exact hz)⟩⟩, fun hw0 => ⟨iab, fun hc => nx (fun hp => ?_), fun hc => ⟨ia, ipl, fun hne => nx (fun _ => by rw [cpl] at hne; exact hne), fun hz => no ?_ (by rw [cpl] at hz; exact hz)⟩⟩⟩, fun hlo => ⟨ii, fun hc => nx (fun hp => ?_), fun hc => ⟨ia, ipl, fun hne => nx (fun _ => by rw [cpl] at hne; exact hne), fun hz => no ?_ (by rw [cpl] at hz; exact hz)⟩⟩⟩⟩
    · exfalso
      unfold wanP at hp
      rw [if_pos hlo] at hp
      rw [h7] at hw0
      have hp : pa a i = true := hp
      rw [hT.2.2.2.2.2.2.2 (fun e => hw0 (by rw [e]; rfl)) a i ha hi] at hp
      rw [cab] at hc
      exact of_decide_eq_true hp hc
    · unfold wanP
      rw [if_pos hlo]
      rw [h7] at hw0
      show pa a i = true
      rw [hT.2.2.2.2.2.2.2 (fun e => hw0 (by rw [e]; rfl)) a i ha hi]
      rw [cab] at hc
      exact decide_eq_true hc
    · exfalso
      unfold wanP at hp
      rw [if_pos hlo] at hp
      rw [h7] at hw0
      have w0 : W = 0 := (nI_eq (b := 0) (by omega) (by decide)).mp hw0
      have hp : pa a i = true := hp
      rw [(hT.2.2.2.2.2.2.1 w0).1 a i ha hi, ← hT.2.2.2.2.1 a i ha hi, hc] at hp
      exact absurd hp (by decide)
    · unfold wanP
      rw [if_pos hlo]
      rw [h7] at hw0
      have w0 : W = 0 := (nI_eq (b := 0) (by omega) (by decide)).mp hw0
      show pa a i = true
      rw [(hT.2.2.2.2.2.2.1 w0).1 a i ha hi, ← hT.2.2.2.2.1 a i ha hi]; exact hc
    · exfalso
      unfold wanP at hp
      rw [if_neg hlo] at hp
      rw [hT.be hi ha] at hc
      have hp : decide (up i = some a) = true := hp
      rw [hc] at hp; exact absurd hp (by decide)
    · unfold wanP
      rw [if_neg hlo]
      rw [hT.be hi ha] at hc
      exact hc
  · intro _ hI
    exact b_Mo_hasAll_3 E (nI w) (nI a) lo (nI n) σ ⟨fun _ => ⟨true, rfl, rfl, hI.symm⟩, fun qq => absurd (by rw [h1]; exact nI_le (Nat.le_refl n) (by omega)) qq⟩
/-- the reference's state is the pure machine's -/
def MA (σ : zSt) (n : Nat) (A : AS) : Prop :=
  (psS σ = aS A ∧ ∀ a, a < n → σ 35 a = nI (rdP (aS A) a)) ∧ (ML σ (aL A) ∧ σ 32 29 = aN A ∧ σ 32 30 = aO A) ∧ (∀ a, a < n → σ 47 a = aV A a ∧ σ 48 a = aQ A a) ∧ (∀ r a, r ≤ rdP (aS A) a → a < n → σ 49 (12 * r + a) = aU A r a) ∧ (∀ w a b q, w < 4 → a < n → b < n → q < 22 → aC A w a b q = decide (¬ σ 45 (pl w a b q) = 0)) ∧ (∀ a b q, a < n → b < n → q < 22 → aC A 0 a b q = true → σ 46 (pl 0 a b q) = aM A a b q)
theorem MA.put {σ τ : zSt} {S : PS} {m : List Lt} (h : MA σ n A) (hF : MF [36, 37, 38, 39, 40, 51] [27, 29, 30] σ τ) (hS : psS τ = S) (hr : rdP S = rdP (aS A)) (hm : ∀ x, x ∈ m → ¬ x.1 = 0) (hL : ML τ (aL A ++ m)) (h29 : τ 32 29 = σ 32 29 + nI (cNo m)) (h30 : τ 32 30 = σ 32 30 + nI (cOt m)) : MA τ n (aPut A S m) := by
  obtain ⟨⟨h1, h2⟩, ⟨_, h3, h4⟩, h5, h6, h7, h8⟩ := h
  obtain ⟨c1, c2⟩ := cNo_0 hm
  refine ⟨⟨hS, fun a ha => ?_⟩, ⟨hL, ?_, ?_⟩, fun a ha => ?_, fun r a hr' ha => ?_, fun w a b q hw ha hb hq => ?_, fun a b q ha hb hq hc => ?_⟩
  · rw [hF.at (by decide)]
    show _ = nI (rdP S a)
    rw [hr]; exact h2 a ha
  · rw [h29, c1, h3]; exact Int32.add_zero _
  · rw [h30, c2, h4]; rfl
  · rw [hF.at (by decide), hF.at (by decide)]; exact h5 a ha
  · rw [hF.at (by decide)]
    have hr' : r ≤ rdP S a := hr'
    rw [hr] at hr'
    exact h6 r a hr' ha
  · rw [hF.at (by decide)]; exact h7 w a b q hw ha hb hq
  · rw [hF.at (by decide)]; exact h8 a b q ha hb hq hc
theorem s_Mo_becomeFirm2 (G : zG) (σ : zSt) (a : Nat) (hT : MT σ n R W p src mk len lk pa up) (hA : MA σ n A) (hW : W = 2) (ha : a < n) (hl : (aL A).length + 24 ≤ 4000) :
    zV G 2 M_Mo_becomeFirm [zf G 32, .int (nI a)] σ (fun τ => MF [36, 37, 38, 39, 40, 51] [27, 29, 30] σ τ ∧ MA τ n (aFirm n pa up A a)) := by
  refine zSpec.of (by decide) (Nat.le_of_ble_eq_true rfl) rfl (fun X E => ?_)
  have hn12 : n ≤ 12 := hT.1.2.2.1
  have ia : vp_in (nI a) 12 := vp_in_nI (by omega) (by decide)
  have ca : (nI a).toNatClampNeg = a := nI_clamp (by omega)
  refine b_Mo_becomeFirm_0 E (nI a) σ ⟨ia, fun σ1 e1 => ⟨ia, ?_⟩⟩
  rw [ca] at e1
  have h1 : ∀ c, c ≠ 39 → σ1 c = σ c := fun c hc => by rw [e1, zup_ne hc]
  have f1 : MF [36, 37, 38, 39, 40, 51] [27, 29, 30] σ σ1 := by rw [e1]; exact MF.rf.up (by decide) (by decide)
  have hT1 := hT.of f1 (by decide) (by decide)
  have r1 : σ1 35 a = nI (rdP (aS A) a) := by rw [h1 35 (by decide)]; exact hA.1.2 a ha
  have L1 : ML σ1 (aL A) := hA.2.1.1.of (by rw [h1 32 (by decide)]) (h1 51 (by decide))
  rw [ca, r1]
  have flen : (ltrs 5 a (rdP (aS A) a) 0 (lows n up a)).length ≤ n := by rw [ltrs_len]; exact selL_len n
  refine ⟨_, s_Mo_toLower2 G σ1 a _ (aL A) 5 hT1 ha L1 (by omega), fun σ2 k1 => ?_⟩
  have fin : ∀ τ : zSt, SN σ1 τ (aL A) (ltrs 5 a (rdP (aS A) a) 0 (lows n up a) ++ ltrs 2 a (rdP (aS A) a) 0 (pars n pa a)) → (none : Option Value) = none ∧ MF [36, 37, 38, 39, 40, 51] [27, 29, 30] σ τ ∧ MA τ n (aFirm n pa up A a) := by
    intro τ g
    have fτ : MF [36, 37, 38, 39, 40, 51] [27, 29, 30] σ τ := f1.tr (g.1.mono (by decide) (by decide))
    refine ⟨rfl, fτ, hA.put fτ ?_ rfl (fun x hx => ?_) g.2.1 (by rw [g.2.2.1, h1 32 (by decide)]) (by rw [g.2.2.2, h1 32 (by decide)])⟩
    · rw [← hA.1.1]
      exact psS_fi (by rw [g.1.at (by decide), h1 35 (by decide)]) (by rw [g.1.at (by decide), h1 36 (by decide)]) (by rw [g.1.at (by decide), h1 37 (by decide)]) (by rw [g.1.at (by decide), h1 38 (by decide)]) (by rw [g.1.at (by decide), e1, zup_self]) (by rw [g.1.at (by decide), h1 40 (by decide)])
    · rcases List.mem_append.mp hx with e | e
      · obtain ⟨b, _, rfl⟩ := ltrs_mem.mp e; exact (show ¬ (5 : Int32) = 0 by decide)
      · obtain ⟨b, _, rfl⟩ := ltrs_mem.mp e; exact (show ¬ (2 : Int32) = 0 by decide)
  refine z_for n (fun i τ => zZ G M_Mo_becomeFirm 2 X (fun rr τ => rr = none ∧ MF [36, 37, 38, 39, 40, 51] [27, 29, 30] σ τ ∧ MA τ n (aFirm n pa up A a)) 21 [(0, zf G 32), (1, .int (nI a)), (2, .int (nI i))] [] τ) (fun i τ => SN σ1 τ (aL A) (ltrs 5 a (rdP (aS A) a) 0 (lows n up a) ++ ltrs 2 a (rdP (aS A) a) 0 (selL (fun b => pa a b) i))) ?_ ?_ 0 σ2 (Nat.zero_le _) (by
    show SN σ1 σ2 (aL A) (ltrs 5 a (rdP (aS A) a) 0 (lows n up a) ++ [])
    rw [List.append_nil]; exact k1)
  · intro i τ hi g ih
    have hTτ := hT1.of g.1 (by decide) (by decide)
    have et35 : τ 35 a = nI (rdP (aS A) a) := by rw [g.1.at (by decide)]; exact r1
    have hlen : (ltrs 2 a (rdP (aS A) a) 0 (selL (fun b => pa a b) i)).length ≤ i := by rw [ltrs_len]; exact selL_len i
    have epa := hTτ.2.2.2.2.2.2.2 (by omega) a i ha hi
    have cab : (((12 : Int32) * nI a) + nI i).toNatClampNeg = 12 * a + i := by rw [zi12']; exact nI_clamp (by omega)
    refine b_Mo_becomeFirm_21 E (nI a) (nI i) τ ⟨fun q => absurd q (by rw [hTτ.1.1]; exact nI_ge hi (by omega)), fun _ => ⟨by rw [zi12']; exact vp_in_nI (by omega) (by decide), fun hz => ?_, fun hz => ⟨ia, ?_⟩⟩⟩
    · rw [nI_1]
      refine ih τ ?_
      rw [cab] at hz
      rw [sel_no (by rw [epa, hz]; simp)]; exact g
    · rw [ca, et35]
      refine ⟨_, s_Mo_send2 G τ _ 2 (nI a) (nI i) _ 0 g.2.1 (by rw [List.length_append, List.length_append]; omega), fun σ5 m => ?_⟩
      rw [nI_1]
      refine ih σ5 ?_
      rw [cab] at hz
      rw [sel_yes (by rw [epa]; exact decide_eq_true hz), ← List.append_assoc]
      exact g.tr m
  · intro τ g
    have hTτ := hT1.of g.1 (by decide) (by decide)
    exact b_Mo_becomeFirm_21 E (nI a) (nI n) τ ⟨fun _ => fin τ g, fun q => absurd (by rw [hTτ.1.1]; exact nI_le (Nat.le_refl n) (by omega)) q⟩
end MREF
end
section
-- The reference is the pure machine: a node begins a round
section MREF2
variable {n R W p : Nat} {src : Int32} {mk : Nat → Int32} {len : Nat → Nat → Int32} {lk pa : Nat → Nat → Bool} {up : Nat → Option Nat} {A : AS}
/-- marks and lengths are in their bounds -/
theorem MT.mlb {σ : zSt} (h : MT σ n R W p src mk len lk pa up) : MLB mk len := by
  obtain ⟨⟨_, _, _, _, _, _, _, _, _, hM⟩, _, h5, h6, _⟩ := h
  exact ⟨fun a ha => by rw [← h5 a ha]; exact hM.2 a ha, fun a b ha hb => by rw [← h6 a b ha hb]; exact hM.1 _ (by omega)⟩
/-- the first value of a node, as round 1 finds it -/
def V1 (p : Nat) (src : Int32) (mk : Nat → Int32) (A : AS) (a : Nat) : Prop := rdP (aS A) a = 0 → aV A a = first0 p (decide (nI a = src)) (mk a)
theorem s_Mo_beginRound2 (G : zG) (σ : zSt) (a r : Nat) (hT : MT σ n R W p src mk len lk pa up) (hA : MA σ n A) (hN : NI p A) (ha : a < n) (hr : rdP (aS A) a + 1 = r) (hrR : r ≤ R) (hl : (aL A).length + 24 ≤ 4000) (hv : V1 p src mk A a) :
    zV G 2 M_Mo_beginRound [zf G 32, .int (nI a), .int (nI r)] σ (fun τ => MF FBeg [27, 29, 30] σ τ ∧ MA τ n (aBeg n p src mk len lk up A a)) := by
  refine zSpec.of (by decide) (Nat.le_of_ble_eq_true rfl) rfl (fun X E => ?_)
  have hn12 : n ≤ 12 := hT.1.2.2.1
  have hR20 : R ≤ 20 := hT.1.2.2.2.2.2.1
  have hMLB := hT.mlb
  have ia : vp_in (nI a) 12 := vp_in_nI (by omega) (by decide)
  have ca : (nI a).toNatClampNeg = a := nI_clamp (by omega)
  have hr1 : 1 ≤ r := by omega
  have hr20 : r ≤ 20 := by omega
  have eS : psS σ = aS A := hA.1.1
  obtain ⟨wb, ww⟩ := act_WB (src := src) hn12 hR20 hMLB hN ha (by omega)
  have eact : actA n p src mk len A a = pAct p r a (decide (nI a = src)) (mk a) (len a) (noteF n A a r) (aV A a) (aQ A a) := by unfold actA; rw [hr]
  generalize hwd : actA n p src mk len A a = wd at wb ww eact
  have gG : (begG n up A a).length ≤ 12 := by
    unfold begG
    split
    · exact Nat.zero_le _
    · rw [ltrs_len]; exact Nat.le_trans (selL_len n) hn12
  -- behind the GOs
  have rest : ∀ (υ : zSt), SN σ υ (aL A) (begG n up A a) →
      ∀ σ1 σ2 σ3 σ4 σ5 σ6 : zSt, σ1 = zup υ 35 (nI a).toNatClampNeg (nI r) → σ2 = zup σ1 37 (nI a).toNatClampNeg 0 → σ3 = zup σ2 38 (nI a).toNatClampNeg 0 → σ4 = zup σ3 39 (nI a).toNatClampNeg 0 → σ5 = zup σ4 40 (nI a).toNatClampNeg 0 → σ6 = zup σ5 36 (nI a).toNatClampNeg 0 →
      zZ G M_Mo_beginRound 2 X (fun rr τ => rr = none ∧ MF FBeg [27, 29, 30] σ τ ∧ MA τ n (aBeg n p src mk len lk up A a)) 56 [(0, zf G 32), (1, .int (nI a)), (2, .int (nI r)), (3, .int (0 : Int32))] [] σ6 := by
    intro υ f σ1 σ2 σ3 σ4 σ5 σ6 e1 e2 e3 e4 e5 e6
    obtain ⟨f1, f2, f3, f4⟩ := f
    rw [ca] at e1 e2 e3 e4 e5 e6
    have hF6 : MF FBeg [27, 29, 30] σ σ6 := by
      rw [e6, e5, e4, e3, e2, e1]
      exact ((((((f1.mono (by decide) (by decide)).up (by decide) (by decide)).up (by decide) (by decide)).up (by decide) (by decide)).up (by decide) (by decide)).up (by decide) (by decide)).up (by decide) (by decide)
    have u35 : σ6 35 = upd (σ 35) a (nI r) := by rw [e6, zup_ne (by decide), e5, zup_ne (by decide), e4, zup_ne (by decide), e3, zup_ne (by decide), e2, zup_ne (by decide), e1, zup_self, f1.at (by decide)]
    have u36 : σ6 36 = upd (σ 36) a (nI 0) := by rw [e6, zup_self, e5, zup_ne (by decide), e4, zup_ne (by decide), e3, zup_ne (by decide), e2, zup_ne (by decide), e1, zup_ne (by decide), f1.at (by decide)]; rfl
    have u37 : σ6 37 = upd (σ 37) a 0 := by rw [e6, zup_ne (by decide), e5, zup_ne (by decide), e4, zup_ne (by decide), e3, zup_ne (by decide), e2, zup_self, e1, zup_ne (by decide), f1.at (by decide)]
    have u38 : σ6 38 = upd (σ 38) a 0 := by rw [e6, zup_ne (by decide), e5, zup_ne (by decide), e4, zup_ne (by decide), e3, zup_self, e2, zup_ne (by decide), e1, zup_ne (by decide), f1.at (by decide)]
    have u39 : σ6 39 = upd (σ 39) a 0 := by rw [e6, zup_ne (by decide), e5, zup_ne (by decide), e4, zup_self, e3, zup_ne (by decide), e2, zup_ne (by decide), e1, zup_ne (by decide), f1.at (by decide)]
    have u40 : σ6 40 = upd (σ 40) a 0 := by rw [e6, zup_ne (by decide), e5, zup_self, e4, zup_ne (by decide), e3, zup_ne (by decide), e2, zup_ne (by decide), e1, zup_ne (by decide), f1.at (by decide)]
    have h6u : ∀ c, c ≠ 35 → c ≠ 36 → c ≠ 37 → c ≠ 38 → c ≠ 39 → c ≠ 40 → σ6 c = υ c := fun c a1 a2 a3 a4 a5 a6 => by
      rw [e6, zup_ne a2, e5, zup_ne a6, e4, zup_ne a5, e3, zup_ne a4, e2, zup_ne a3, e1, zup_ne a1]
    have s32 : σ6 32 = υ 32 := h6u 32 (by decide) (by decide) (by decide) (by decide) (by decide) (by decide)
    have L6 : ML σ6 (aL A ++ begG n up A a) := f2.of (by rw [s32]) (h6u 51 (by decide) (by decide) (by decide) (by decide) (by decide) (by decide))
    have hT6 := hT.of hF6 (by decide) (by decide)
    have n6 : σ6 32 0 = nI n := hT6.1.1
    have e47 : σ6 47 = σ 47 := by rw [h6u 47 (by decide) (by decide) (by decide) (by decide) (by decide) (by decide), f1.at (by decide)]
    have e48 : σ6 48 = σ 48 := by rw [h6u 48 (by decide) (by decide) (by decide) (by decide) (by decide) (by decide), f1.at (by decide)]
    have e49 : σ6 49 = σ 49 := by rw [h6u 49 (by decide) (by decide) (by decide) (by decide) (by decide) (by decide), f1.at (by decide)]
    -- the notes
    have notes : ∀ τ : zSt, zFr [47, 48, 49, 54, 55] σ6 τ → τ 47 = upd (σ 47) a wd.1 → τ 48 = upd (σ 48) a wd.2.1 → τ 49 = upd (σ 49) (12 * r + a) wd.1 → zZ G M_Mo_beginRound 2 X (fun rr τ => rr = none ∧ MF FBeg [27, 29, 30] σ τ ∧ MA τ n (aBeg n p src mk len lk up A a)) 166 [(0, zf G 32), (1, .int (nI a)), (2, .int (nI r)), (3, .int (enc wd.2.2)), (4, .int (0 : Int32))] [] τ := by
      intro τ g1 g47 g48 g49
      have fin : ∀ (ρ : zSt), MF [36, 51] [27, 29, 30] τ ρ → ML ρ (aL A ++ begG n up A a ++ begN n p src mk len lk A a) → ρ 36 = upd (σ 36) a (nI (begN n p src mk len lk A a).length) → ρ 32 29 = τ 32 29 + nI (begN n p src mk len lk A a).length → ρ 32 30 = τ 32 30 → (none : Option Value) = none ∧ MF FBeg [27, 29, 30] σ ρ ∧ MA ρ n (aBeg n p src mk len lk up A a) := by
        intro ρ k1 k2 k3 k4 k5
        have c6 : ∀ c, c ∉ [32, 36, 51, 47, 48, 49, 54, 55] → ρ c = σ6 c := fun c hc => by
          rw [k1.at (fun q => hc (by simp only [List.mem_cons, List.not_mem_nil, or_false] at q ⊢; omega)), g1 c (fun q => hc (by simp only [List.mem_cons, List.not_mem_nil, or_false] at q ⊢; omega))]
        have hFρ : MF FBeg [27, 29, 30] σ ρ := (hF6.tr ((MF.of (J := [27, 29, 30]) g1 (by decide)).mono (by decide) (by decide))).tr (k1.mono (by decide) (by decide))
        have bl : (begN n p src mk len lk A a).length ≤ 12 := Nat.le_trans begN_len hn12
        have ep : psS ρ = setRd (psS σ) a ((begN n p src mk len lk A a).length : Int) := psS_rd (r := r) (m := (begN n p src mk len lk A a).length) (by omega) (by rw [eS]; exact hr) (by omega) (by rw [c6 35 (by decide)]; exact u35) k3 (by rw [c6 37 (by decide)]; exact u37) (by rw [c6 38 (by decide)]; exact u38) (by rw [c6 39 (by decide)]; exact u39) (by rw [c6 40 (by decide)]; exact u40)
        obtain ⟨⟨_, h2⟩, ⟨_, h3, h4⟩, h5, h6, h7, h8⟩ := hA
        have cG := cNo_0 (m := begG n up A a) (fun x hx => by
          unfold begG at hx
          split at hx
          · exact absurd hx List.not_mem_nil
          · obtain ⟨b, _, rfl⟩ := ltrs_mem.mp hx; exact (show ¬ (4 : Int32) = 0 by decide))
        refine ⟨rfl, hFρ, ⟨by rw [ep, eS]; rfl, fun b hb => ?_⟩, ⟨k2, ?_, ?_⟩, fun b hb => ?_, fun q b hq hb => ?_, fun w x y q hw hx hy hq => ?_, fun x y q hx hy hq hc => ?_⟩
        · rw [c6 35 (by decide), u35]
          show upd (σ 35) a (nI r) b = nI (fup (rdP (aS A)) a (rdP (aS A) a + 1) b)
          unfold upd fup
          by_cases hba : b = a
          · rw [if_pos hba, if_pos hba, hr]
          · rw [if_neg hba, if_neg hba]; exact h2 b hb
        · rw [k4, g1 32 (by decide), s32, f3, h3, cG.1]
          show aN A + nI 0 + _ = aN A + _
          rw [show nI 0 = (0 : Int32) from rfl, Int32.add_zero]
        · rw [k5, g1 32 (by decide), s32, f4, h4, cG.2]; rfl
        · rw [k1.at (by decide), k1.at (by decide), g47, g48]
          show upd (σ 47) a wd.1 b = fup (aV A) a (actA n p src mk len A a).1 b ∧ upd (σ 48) a wd.2.1 b = fup (aQ A) a (actA n p src mk len A a).2.1 b
          rw [hwd]
          unfold upd fup
          by_cases hba : b = a
          · rw [if_pos hba, if_pos hba, if_pos hba, if_pos hba]; exact ⟨rfl, rfl⟩
          · rw [if_neg hba, if_neg hba, if_neg hba, if_neg hba]; exact h5 b hb
        · rw [k1.at (by decide), g49]
          have hq : q ≤ fup (rdP (aS A)) a (rdP (aS A) a + 1) b := hq
          show upd (σ 49) (12 * r + a) wd.1 (12 * q + b) = if q = rdP (aS A) a + 1 ∧ b = a then (actA n p src mk len A a).1 else aU A q b
          rw [hwd, hr]
          unfold upd
          by_cases hba : b = a
          · rw [hba] at hq ⊢
            rw [fup_s, hr] at hq
            by_cases e : q = r
            · rw [if_pos (by rw [e]), if_pos ⟨e, rfl⟩]
            · rw [if_neg (by omega), if_neg (fun x => e x.1)]
              exact h6 q a (by omega) ha
          · rw [fup_n hba] at hq
            rw [if_neg (by omega), if_neg (fun x => hba x.2)]
            exact h6 q b hq hb
        · rw [hFρ.at (by decide)]; exact h7 w x y q hw hx hy hq
        · rw [hFρ.at (by decide)]; exact h8 x y q hx hy hq hc
      by_cases hsil : wd.2.2 = -2
      · have eb : begN n p src mk len lk A a = [] := by unfold begN; rw [if_pos (by rw [hwd]; exact hsil)]
        have hend := fin τ MF.rf (by rw [eb, List.append_nil]; exact L6.of (by rw [g1 32 (by decide)]) (g1 51 (by decide))) (by rw [eb, g1 36 (by decide)]; exact u36) (by rw [eb]; exact (Int32.add_zero _).symm) rfl
        refine b_Mo_beginRound_166 E (nI a) (nI r) _ 0 τ ⟨fun _ => hend, fun _ => ⟨fun _ => hend, fun h => absurd (by rw [hsil]; rfl) h⟩⟩
      · have ee : enc wd.2.2 = wd.2.2 := enc_ne hsil
        have nee : ¬ enc wd.2.2 = -1000 := fun q => hsil ((enc_iff wb).mp q)
        rw [ee] at nee ⊢
        have eb : begN n p src mk len lk A a = ltrs 0 a r wd.2.2 (selL (fun b => lk a b) n) := by unfold begN; rw [if_neg (by rw [hwd]; exact hsil), hwd, hr]; rfl
        rw [eb] at fin
        refine z_for n (fun i ρ => zZ G M_Mo_beginRound 2 X (fun rr τ => rr = none ∧ MF FBeg [27, 29, 30] σ τ ∧ MA τ n (aBeg n p src mk len lk up A a)) 166 [(0, zf G 32), (1, .int (nI a)), (2, .int (nI r)), (3, .int wd.2.2), (4, .int (nI i))] [] ρ) (fun i ρ => MF [36, 51] [27, 29, 30] τ ρ ∧ ML ρ (aL A ++ begG n up A a ++ ltrs 0 a r wd.2.2 (selL (fun b => lk a b) i)) ∧ ρ 36 = upd (σ 36) a (nI (ltrs 0 a r wd.2.2 (selL (fun b => lk a b) i)).length) ∧ ρ 32 29 = τ 32 29 + nI (ltrs 0 a r wd.2.2 (selL (fun b => lk a b) i)).length ∧ ρ 32 30 = τ 32 30) ?_ ?_ 0 τ (Nat.zero_le _) ⟨MF.rf, by
          show ML τ (aL A ++ begG n up A a ++ [])
          rw [List.append_nil]; exact L6.of (by rw [g1 32 (by decide)]) (g1 51 (by decide)), by rw [g1 36 (by decide)]; exact u36, (Int32.add_zero _).symm, rfl⟩
        · intro i ρ hi ⟨k1, k2, k3, k4, k5⟩ ih
          have hTρ := (hT6.of (MF.of (J := [27, 29, 30]) g1 (by decide)) (by decide) (by decide)).of k1 (by decide) (by decide)
          have hlen : (ltrs 0 a r wd.2.2 (selL (fun b => lk a b) i)).length ≤ i := by rw [ltrs_len]; exact selL_len i
          have elk := hTρ.2.2.2.2.1 a i ha hi
          refine b_Mo_beginRound_166 E (nI a) (nI r) _ (nI i) ρ ⟨fun q => absurd q (by rw [hTρ.1.1]; exact nI_ge hi (by omega)), fun _ => ⟨fun q => absurd q nee, fun _ => ⟨by rw [zi12']; exact vp_in_nI (by omega) (by decide), fun hf => ?_, fun ht => ⟨_, s_Mo_send2 G ρ _ 0 (nI a) (nI i) (nI r) wd.2.2 k2 (by rw [List.length_append, List.length_append]; omega), fun σ7 ⟨m1, m2, m3, m4⟩ => ⟨ia, ia, fun σ8 e8 => ?_⟩⟩⟩⟩⟩
          · rw [nI_1]
            rw [elk] at hf
            refine ih ρ ?_
            rw [sel_no (by rw [hf]; decide)]; exact ⟨k1, k2, k3, k4, k5⟩
          · rw [ca] at e8
            rw [nI_1]
            rw [elk] at ht
            have o7 : σ7 36 a = nI (ltrs 0 a r wd.2.2 (selL (fun b => lk a b) i)).length := by rw [m1.at (by decide), k3]; simp [upd]
            rw [o7, nI_1] at e8
            refine ih σ8 ?_
            rw [sel_yes ht]
            refine ⟨?_, ?_, ?_, ?_, ?_⟩
            · rw [e8]; exact (k1.tr (m1.mono (by decide) (by decide))).up (by decide) (by decide)
            · rw [← List.append_assoc]
              exact m2.of (by rw [e8, zup_ne (by decide)]) (by rw [e8, zup_ne (by decide)])
            · rw [e8, zup_self, m1.at (by decide), k3, List.length_append, upd_upd]
              rfl
            · rw [e8, zup_ne (by decide), m3, k4, List.length_append, Int32.add_assoc, nI_add, (cNo_1 (m := [(0, nI a, nI i, nI r, wd.2.2)]) (fun y hy => by rw [List.mem_singleton.mp hy])).1]
            · rw [e8, zup_ne (by decide), m4, k5, (cNo_1 (m := [(0, nI a, nI i, nI r, wd.2.2)]) (fun y hy => by rw [List.mem_singleton.mp hy])).2]
              exact Int32.add_zero _
        · intro ρ ⟨k1, k2, k3, k4, k5⟩
          have hTρ := (hT6.of (MF.of (J := [27, 29, 30]) g1 (by decide)) (by decide) (by decide)).of k1 (by decide) (by decide)
          exact b_Mo_beginRound_166 E (nI a) (nI r) _ (nI n) ρ ⟨fun _ => fin ρ k1 k2 k3 k4 k5, fun q => absurd (by rw [hTρ.1.1]; exact nI_le (Nat.le_refl n) (by omega)) q⟩
    -- what the node takes
    refine z_for n (fun i τ => zZ G M_Mo_beginRound 2 X (fun rr τ => rr = none ∧ MF FBeg [27, 29, 30] σ τ ∧ MA τ n (aBeg n p src mk len lk up A a)) 56 [(0, zf G 32), (1, .int (nI a)), (2, .int (nI r)), (3, .int (nI i))] [] τ) (fun i τ => zFr [54, 55] σ6 τ ∧ ∀ b, b < i → (¬ τ 54 b = 0 ↔ (¬ r = 1 ∧ aC A 0 a b (r - 1) = true)) ∧ (¬ τ 54 b = 0 → τ 55 b = aM A a b (r - 1))) ?_ ?_ 0 σ6 (Nat.zero_le _) ⟨zFr.rf, fun b hb => absurd hb (Nat.not_lt_zero b)⟩
    · intro b τ hb ⟨g1, g2⟩ ih
      have ib : vp_in (nI b) 12 := vp_in_nI (by omega) (by decide)
      have cb : (nI b).toNatClampNeg = b := nI_clamp (by omega)
      have erp : nI r - (1 : Int32) = nI (r - 1) := by rw [show (1 : Int32) = nI 1 from rfl, pk_sub hr1]
      have epl : (((0 : Int32) * 12 + nI a) * 12 + nI b) * 22 + (nI r - (1 : Int32)) = nI (pl 0 a b (r - 1)) := by rw [erp, show (0 : Int32) = nI 0 from rfl, pl_nI]
      have hpl : pl 0 a b (r - 1) < 3168 := by unfold pl; omega
      have e45 : σ6 45 = σ 45 := hF6.at (by decide)
      have e46 : σ6 46 = σ 46 := hF6.at (by decide)
      have eC := hA.2.2.2.2.1 0 a b (r - 1) (by omega) ha hb (by omega)
      have tail : ∀ (v : Int32) (σ4 : zSt), σ4 = zup τ 54 (nI b).toNatClampNeg v → (¬ v = 0 ↔ (¬ r = 1 ∧ aC A 0 a b (r - 1) = true)) → zZ G M_Mo_beginRound 2 X (fun rr τ => rr = none ∧ MF FBeg [27, 29, 30] σ τ ∧ MA τ n (aBeg n p src mk len lk up A a)) 98 [(0, zf G 32), (1, .int (nI a)), (2, .int (nI r)), (3, .int (nI b))] [] σ4 := by
        intro v σ4 e4 hv
        rw [cb] at e4
        have t54 : σ4 54 = upd (τ 54) b v := by rw [e4, zup_self]
        have go : ∀ (w : Int32) (σ5 : zSt), σ5 = zup σ4 55 (nI b).toNatClampNeg w → (¬ v = 0 → w = aM A a b (r - 1)) → zZ G M_Mo_beginRound 2 X (fun rr τ => rr = none ∧ MF FBeg [27, 29, 30] σ τ ∧ MA τ n (aBeg n p src mk len lk up A a)) 56 [(0, zf G 32), (1, .int (nI a)), (2, .int (nI r)), (3, .int (nI b + 1))] [] σ5 := by
          intro w σ5 e5 hw
          rw [cb] at e5
          rw [nI_1]
          refine ih σ5 ⟨by rw [e5, e4]; exact (g1.up (by decide)).up (by decide), fun c hc => ?_⟩
          have x54 : σ5 54 = upd (τ 54) b v := by rw [e5, zup_ne (by decide), t54]
          have x55 : σ5 55 = upd (τ 55) b w := by rw [e5, zup_self, e4, zup_ne (by decide)]
          rw [x54, x55]
          unfold upd
          by_cases hcb : c = b
          · rw [if_pos hcb, if_pos hcb, hcb]; exact ⟨hv, hw⟩
          · rw [if_neg hcb, if_neg hcb]
            exact g2 c (by omega)
        have z54 : σ4 54 b = v := by rw [t54]; exact upd_eq
        refine b_Mo_beginRound_98 E (nI a) (nI r) (nI b) σ4 ⟨ib, fun hz => ⟨ib, fun σ5 e5 => go _ σ5 e5 (fun h => absurd (by rw [cb, z54] at hz; exact hz) h)⟩, fun hz => ⟨by rw [epl]; exact vp_in_nI hpl (by decide), ib, fun σ5 e5 => go _ σ5 e5 (fun h => ?_)⟩⟩
        rw [epl, nI_clamp (by omega), e4, zup_ne (by decide), g1 46 (by decide), e46]
        exact hA.2.2.2.2.2 a b (r - 1) ha hb (by omega) (hv.mp h).2
      refine b_Mo_beginRound_56 E (nI a) (nI r) (nI b) τ ⟨fun q => absurd q (by rw [g1 32 (by decide), n6]; exact nI_ge hb (by omega)), fun _ => ⟨fun hle => ⟨ib, fun σ4 e4 => tail 0 σ4 e4 ⟨fun h => absurd rfl h, fun h => absurd ?_ h.1⟩⟩, fun hgt => ⟨by rw [epl]; exact vp_in_nI (by omega) (by decide), fun hz => ⟨ib, fun σ4 e4 => tail 0 σ4 e4 ⟨fun h => absurd rfl h, fun h => ?_⟩⟩, fun hne => ⟨ib, fun σ4 e4 => tail 1 σ4 e4 ⟨fun _ => ⟨?_, ?_⟩, fun _ => kne_1_0⟩⟩⟩⟩⟩
      · have h1 : r ≤ 1 := (nI_leI (by omega) (by decide)).mp hle
        omega
      · exfalso
        rw [epl, nI_clamp (by omega), g1 45 (by decide), e45] at hz
        rw [eC] at h
        exact of_decide_eq_true h.2 hz
      · intro e
        exact hgt (by rw [e]; exact nI_le (a := 1) (b := 1) (Nat.le_refl 1) (by omega))
      · rw [epl, nI_clamp (by omega), g1 45 (by decide), e45] at hne
        rw [eC]; exact decide_eq_true hne
    · intro τ ⟨g1, g2⟩
      have hTτ := hT6.of (MF.of (J := [27, 29, 30]) g1 (by decide)) (by decide) (by decide)
      have nτ : τ 32 0 = nI n := hTτ.1.1
      have hNT : NT n (100 + 10 * ((r - 1 : Nat) : Int)) (τ 54) (τ 55) (noteF n A a r) := by
        intro b hb
        constructor
        · rintro ⟨q1, q2⟩
          obtain ⟨z1, z2⟩ := g2 b q1
          have z3 := z1.mp q2
          have z4 := (hN.2 a b (r - 1) z3.2).1
          refine ⟨?_, ?_, ?_⟩
          · unfold noteF; rw [if_pos ⟨z3.1, q1, z3.2⟩, z2 q2]
          · rw [z2 q2]; exact z4.1
          · rw [z2 q2]; exact z4.2
        · intro q
          unfold noteF
          rw [if_neg]
          rintro ⟨q1, q2, q3⟩
          exact q ⟨q2, (g2 b q2).1.mpr ⟨q1, q3⟩⟩
      have t47 : τ 47 a = aV A a := by rw [g1 47 (by decide), e47]; exact (hA.2.2.1 a ha).1
      have t48 : τ 48 a = aQ A a := by rw [g1 48 (by decide), e48]; exact (hA.2.2.1 a ha).2
      have t34 : τ 34 a = mk a := hTτ.2.2.1 a (by omega)
      refine b_Mo_beginRound_56 E (nI a) (nI r) (nI n) τ ⟨fun _ => ⟨_, s_Mo_act2 G τ n a a r p (noteF n A a r) (len a) nτ hn12 (by omega) (by omega) hr1 hr20 hTτ.1.2.2.2.2.2.2.2.2.2 hTτ.2.1.1 hTτ.2.1.2.1 hNT (fun b hb => (hTτ.2.2.2.1 a b (by omega) (by omega)).symm) (fun e => ?_) (fun hp b c hb hc hb2 hc2 => ?_), fun x σ1 ⟨k1, k2, k3, k4⟩ => ⟨vp_in_nI (by omega) (by decide), by rw [zi12']; exact vp_in_nI (by omega) (by decide), fun σ3 e3 => ?_⟩⟩, fun q => absurd (by rw [nτ]; exact nI_le (Nat.le_refl n) (by omega)) q⟩
      · have hv' := hv (by omega)
        refine ⟨fun b hb => ?_, fun hp => ?_, fun hp => ?_⟩
        · rcases Classical.em (τ 54 b = 0) with q | q
          · exact q
          · exact absurd e ((g2 b hb).1.mp q).1
        · rw [t47, hv', t34]; unfold first0; rw [if_pos hp]
        · rw [t47, hv']; unfold first0; rw [if_neg (by omega), if_pos hp]
      · have key : ∀ d, d < 12 → ¬ noteF n A a r d = -2 → noteF n A a r d = nI (r - 1) := fun d hd h => by
          unfold noteF at h ⊢
          by_cases e : ¬ r = 1 ∧ d < n ∧ aC A 0 a d (r - 1) = true
          · rw [if_pos e]; exact (hN.2 a d (r - 1) e.2.2).2 hp
          · rw [if_neg e] at h; exact absurd rfl h
        rw [key b hb hb2, key c hc hc2]
      · have ew : pAct p r a (decide (nI a = τ 32 7)) (τ 34 a) (len a) (noteF n A a r) (τ 47 a) (τ 48 a) = wd := by rw [t47, t48, t34, hTτ.2.1.2.2, ← eact]
        rw [ew] at k2 k3 k4
        rw [k4]
        rw [zi12', nI_clamp (by omega), ca] at e3
        refine notes σ3 ?_ ?_ ?_ ?_
        · rw [e3]; exact ((g1.mono (by decide)).tr (k1.mono (by decide))).up (by decide)
        · rw [e3, zup_ne (by decide), k2, g1 47 (by decide), e47]
        · rw [e3, zup_ne (by decide), k3, g1 48 (by decide), e48]
        · rw [e3, zup_self, k1 49 (by decide), g1 49 (by decide), e49, k2, upd_eq]
  refine b_Mo_beginRound_0 E (nI a) (nI r) σ ⟨fun hle => ⟨ia, fun σ1 e1 => ⟨ia, fun σ2 e2 => ⟨ia, fun σ3 e3 => ⟨ia, fun σ4 e4 => ⟨ia, fun σ5 e5 => ⟨ia, fun σ6 e6 => ?_⟩⟩⟩⟩⟩⟩, fun hgt => ⟨_, s_Mo_toLower2 G σ a r (aL A) 4 hT ha hA.2.1.1 (by omega), fun υ f => ⟨ia, fun σ1 e1 => ⟨ia, fun σ2 e2 => ⟨ia, fun σ3 e3 => ⟨ia, fun σ4 e4 => ⟨ia, fun σ5 e5 => ⟨ia, fun σ6 e6 => ?_⟩⟩⟩⟩⟩⟩⟩⟩
  · refine rest σ ?_ σ1 σ2 σ3 σ4 σ5 σ6 e1 e2 e3 e4 e5 e6
    have : rdP (aS A) a = 0 := by
      have h1 : r ≤ 1 := (nI_leI (by omega) (by decide)).mp hle
      omega
    unfold begG
    rw [if_pos this]; exact SN.rf hA.2.1.1
  · refine rest υ ?_ σ1 σ2 σ3 σ4 σ5 σ6 e1 e2 e3 e4 e5 e6
    have : ¬ rdP (aS A) a = 0 := fun e => hgt (nI_le (a := r) (b := 1) (by omega) (by decide))
    unfold begG
    rw [if_neg this, hr]; exact f
end MREF2
end
section
-- The reference is the pure machine: a node goes on; a letter comes
theorem all_congr2 {f g : Nat → Bool} : ∀ {l : List Nat}, (∀ c, c ∈ l → f c = g c) → l.all f = l.all g := by
  intro l
  induction l with
  | nil => intro _; rfl
  | cons y t ih =>
    intro h
    rw [List.all_cons, List.all_cons, h y List.mem_cons_self, ih (fun c hc => h c (List.mem_cons_of_mem _ hc))]
section MREF3
variable {n R W p : Nat} {src : Int32} {mk : Nat → Int32} {len : Nat → Nat → Int32} {lk pa : Nat → Nat → Bool} {up : Nat → Option Nat} {ld : Nat → Nat} {A : AS}
theorem MA.all {σ : zSt} (h : MA σ n A) {w a q : Nat} {P : Nat → Bool} (hw : w < 4) (ha : a < n) (hq : q < 22) : (selL P n).all (fun c => decide (¬ σ 45 (pl w a c q) = 0)) = (selL P n).all (fun c => aC A w a c q) := all_congr2 (fun c hc => (h.2.2.2.2.1 w a c q hw ha (selL_mem.mp hc).1 hq).symm)
theorem MA.fl {σ : zSt} (h : MA σ n A) (a : Nat) : (sfP (aS A) a = decide (¬ σ 37 a = 0)) ∧ (raP (aS A) a = decide (¬ σ 38 a = 0)) ∧ (fiP (aS A) a = decide (¬ σ 39 a = 0)) ∧ (dnP (aS A) a = decide (¬ σ 40 a = 0)) ∧ opP (aS A) a = (σ 36 a).toInt := by
  rw [← h.1.1]; exact ⟨rfl, rfl, rfl, rfl, rfl⟩
theorem MA_up {σ : zSt} (hT : MT σ n R W p src mk len lk pa up) {a : Nat} (ha : a < n) : (σ 41 a = -2 → up a = none) ∧ (¬ σ 41 a = -2 → ∃ u, u < n ∧ up a = some u ∧ σ 41 a = nI u) := by
  have hu := hT.2.2.2.2.2.1 a ha
  constructor
  · intro h; rw [← hu]; unfold upS; rw [if_pos h]
  · intro h
    rcases hT.1.2.2.2.2.2.2.2.2.1 a ha with e | ⟨u, h1, _, h3⟩
    · exact absurd e h
    · have := hT.1.2.2.1
      exact ⟨u, h1, by rw [← hu]; exact upS_to (by omega) h3, h3⟩
set_option maxHeartbeats 1000000 in
theorem s_Mo_goOn2 (G : zG) (σ : zSt) (a : Nat) (hT : MT σ n R W p src mk len lk pa up) (hF : FRA n W lk pa up ld) (ha : a < n) (f : Nat) (hA : MA σ n A) (hQ : QE n R W p lk pa up ld A) (hr : 1 ≤ rdP (aS A) a) (hf : R - rdP (aS A) a < f) : zV G 3 M_Mo_goOn [zf G 32, .int (nI a)] σ (fun τ => MF FBeg [27, 29, 30] σ τ ∧ MA τ n (aGo n R W p src mk len lk pa up f A a)) := by
  generalize hAF : aGo n R W p src mk len lk pa up f A a = AF
  refine zSpec.of (by decide) (Nat.le_of_ble_eq_true rfl) rfl (fun X E => ?_)
  have hn12 : n ≤ 12 := hT.1.2.2.1
  have hR20 : R ≤ 20 := hT.1.2.2.2.2.2.1
  have hR1 : 1 ≤ R := hT.1.2.2.2.2.1
  have hW2 : W ≤ 2 := hT.1.2.2.2.2.2.2.2.1
  have hMLB := hT.mlb
  have ia : vp_in (nI a) 12 := vp_in_nI (by omega) (by decide)
  have ca : (nI a).toNatClampNeg = a := nI_clamp (by omega)
  have main : ∀ (m : Nat) (τ : zSt) (A : AS) (f : Nat) (more : Int32), R - rdP (aS A) a = m → MF FBeg [27, 29, 30] σ τ → MA τ n A → QE n R W p lk pa up ld A → 1 ≤ rdP (aS A) a → R - rdP (aS A) a < f → aGo n R W p src mk len lk pa up f A a = AF → ¬ more = 0 → zZ G M_Mo_goOn 3 X (fun rr τ => rr = none ∧ MF FBeg [27, 29, 30] σ τ ∧ MA τ n AF) 2 [(0, zf G 32), (1, .int (nI a)), (2, .int more)] [] τ := by
    intro m
    induction m using Nat.strongRecOn with
    | ind m IH =>
      intro τ A f more hm hFτ hA hQ hr hf hAF hmore
      have hrR := (hQ.1.1.1 a ha).1
      obtain ⟨f', rfl⟩ : ∃ f', f = f' + 1 := ⟨f - 1, by omega⟩
      have hT' : ∀ {υ : zSt}, MF FBeg [27, 29, 30] σ υ → MT υ n R W p src mk len lk pa up := fun h => hT.of h (by decide) (by decide)
      unfold aGo at hAF
      have q1 : QE n R W p lk pa up ld (aSafe n W pa A a) := ⟨QI.safe hn12 hR20 hQ.1 ha hr, hQ.2.safe⟩
      have r1 : rdP (aS (aSafe n W pa A a)) = rdP (aS A) := aSafe_rd
      have q2 : QE n R W p lk pa up ld (aRaise n W pa up (aSafe n W pa A a) a) := ⟨QI.raise hn12 hR20 hW2 q1.1 ha (by rw [r1]; exact hr), q1.2.raise⟩
      have r2 : rdP (aS (aRaise n W pa up (aSafe n W pa A a) a)) = rdP (aS A) := by rw [aRaise_rd, r1]
      have q3 : QE n R W p lk pa up ld (aOne n W pa up A a) := QE.one hn12 hR20 hW2 hQ ha hr
      have r3 : rdP (aS (aOne n W pa up A a)) = rdP (aS A) := aOne_rd
      -- 291: another round, perhaps
      have s291 : ∀ (υ : zSt) (v3 : Int32), MF FBeg [27, 29, 30] σ υ → MA υ n (aOne n W pa up A a) → (¬ v3 = 0 ↔ aEnds n W pa up A a = true) → zZ G M_Mo_goOn 3 X (fun rr τ => rr = none ∧ MF FBeg [27, 29, 30] σ τ ∧ MA τ n AF) 291 [(0, zf G 32), (1, .int (nI a)), (2, .int (0 : Int32)), (3, .int v3)] [] υ := by
        intro υ v3 hFυ hAυ hv
        have hTυ := hT' hFυ
        have r35 : υ 35 (nI a).toNatClampNeg = nI (rdP (aS A) a) := by rw [ca, hAυ.1.2 a ha, r3]
        have stop : ¬ (aEnds n W pa up A a = true ∧ rdP (aS (aOne n W pa up A a)) a < R) → zZ G M_Mo_goOn 3 X (fun rr τ => rr = none ∧ MF FBeg [27, 29, 30] σ τ ∧ MA τ n AF) 2 [(0, zf G 32), (1, .int (nI a)), (2, .int (0 : Int32))] [] υ := fun hs => by
          rw [if_neg hs] at hAF
          exact b_Mo_goOn_2 E (nI a) 0 υ ⟨fun _ => ⟨rfl, hFυ, by rw [← hAF]; exact hAυ⟩, fun q => absurd rfl q⟩
        refine b_Mo_goOn_291 E (nI a) 0 v3 υ ⟨fun hz => stop (fun q => hv.mpr q.1 hz), fun hne => ⟨ia, fun hle => stop (fun q => ?_), fun hlt => ⟨ia, ?_⟩⟩⟩
        · rw [r35, hTυ.1.2.2.2.1] at hle
          have := (nI_leI (by omega) (by omega)).mp hle
          rw [r3] at q
          omega
        · rw [r35, hTυ.1.2.2.2.1] at hlt
          have hltR : rdP (aS A) a < R := by
            rcases Nat.lt_or_ge (rdP (aS A) a) R with e | e
            · exact e
            · exact absurd (nI_le e (by omega)) hlt
          rw [r35, nI_1]
          have hc : aEnds n W pa up A a = true ∧ rdP (aS (aOne n W pa up A a)) a < R := ⟨hv.mp hne, by rw [r3]; exact hltR⟩
          have hB := BG_ends hn12 hR20 hW2 hF hQ.1 ha hr hc.1 hc.2
          rw [if_pos hc] at hAF
          have hl := q3.le528 hn12 hR20 hR1 hF
          refine ⟨_, s_Mo_beginRound2 G υ a _ hTυ hAυ q3.1.2.2 ha (by rw [r3]) (by omega) (by omega) (fun e => by rw [r3] at e; omega), fun σ1 ⟨g1, g2⟩ => ?_⟩
          have er : rdP (aS (aBeg n p src mk len lk up (aOne n W pa up A a) a)) a = rdP (aS A) a + 1 := by
            show fup (rdP (aS (aOne n W pa up A a))) a (rdP (aS (aOne n W pa up A a)) a + 1) a = _
            rw [fup_s, r3]
          exact IH (R - rdP (aS (aBeg n p src mk len lk up (aOne n W pa up A a) a)) a) (by omega) σ1 _ f' 1 rfl (hFυ.tr g1) g2 (q3.beg hn12 hR20 hMLB ha hB) (by omega) (by omega) hAF kne_1_0
      -- 202: done?
      have s202 : ∀ (υ : zSt) (v3 : Int32), MF FBeg [27, 29, 30] σ υ → MA υ n (aRaise n W pa up (aSafe n W pa A a) a) → (¬ W = 2 → (¬ v3 = 0 ↔ aEnds n W pa up A a = true)) → (W = 2 → v3 = 0) → zZ G M_Mo_goOn 3 X (fun rr τ => rr = none ∧ MF FBeg [27, 29, 30] σ τ ∧ MA τ n AF) 202 [(0, zf G 32), (1, .int (nI a)), (2, .int (0 : Int32)), (3, .int v3)] [] υ := by
        intro υ v3 hFυ hAυ hv1 hv2
        have hTυ := hT' hFυ
        have wυ := hTυ.1.2.2.2.2.2.2.1
        obtain ⟨fl1, fl2, fl3, fl4, _⟩ := hAυ.fl a
        have no : W = 2 → mayD n W pa up (aRaise n W pa up (aSafe n W pa A a) a) a = false → zZ G M_Mo_goOn 3 X (fun rr τ => rr = none ∧ MF FBeg [27, 29, 30] σ τ ∧ MA τ n AF) 291 [(0, zf G 32), (1, .int (nI a)), (2, .int (0 : Int32)), (3, .int v3)] [] υ := fun w hD => by
          refine s291 υ v3 hFυ ?_ ⟨fun q => absurd (hv2 w) q, fun q => ?_⟩
          · unfold aOne aDone; rw [if_neg (by rw [hD]; decide)]; exact hAυ
          · unfold aEnds at q; rw [if_neg (by omega), if_neg (by omega), hD] at q; simp at q
        refine b_Mo_goOn_202 E (nI a) 0 v3 υ ⟨fun hw => ?_, fun hw => ?_⟩
        · have w : ¬ W = 2 := fun e => hw (by rw [wυ, e]; rfl)
          refine s291 υ v3 hFυ ?_ (hv1 w)
          unfold aOne aDone mayD
          rw [decide_eq_false w, if_neg (by simp)]; exact hAυ
        · have w : W = 2 := by rw [wυ] at hw; exact (nI_eq (by omega) (by decide)).mp hw
          have r35 : υ 35 a = nI (rdP (aS A) a) := by rw [hAυ.1.2 a ha, r2]
          have e1 : (selL (wanP n pa up a 0) n).all (fun c => decide (¬ υ 45 (pl 1 a c (rdP (aS A) a)) = 0)) = all1 n pa (aRaise n W pa up (aSafe n W pa A a) a) a := by
            rw [hAυ.all (by omega) ha (by omega)]; unfold all1; rw [r2]; rfl
          have e3 : (selL (wanP n pa up a 1) n).all (fun c => decide (¬ υ 45 (pl 3 a c (rdP (aS A) a)) = 0)) = all3 n up (aRaise n W pa up (aSafe n W pa A a) a) a := by
            rw [hAυ.all (by omega) ha (by omega)]; unfold all3; rw [r2]; rfl
          refine ⟨ia, fun hz => no w ?_, fun hfi => ⟨ia, fun hd => no w ?_, fun hdn => ⟨_, s_Mo_hasAll2 G υ 1 a _ 0 hTυ (by omega) ha r35 (by omega), ?_⟩⟩⟩
          · rw [ca] at hz
            unfold mayD; rw [fl3, hz]; simp
          · rw [ca] at hd
            unfold mayD; rw [fl4, decide_eq_true hd]; simp
          · rintro b υ' ⟨rfl, hb⟩
            rw [e1] at hb
            rw [ca] at hfi hdn
            refine ⟨fun hz => no w ?_, fun hb1 => ⟨_, s_Mo_hasAll2 G υ' 3 a _ 1 hTυ (by omega) ha r35 (by omega), ?_⟩⟩
            · unfold mayD; rw [← hb, hz]; simp
            · rintro b2 υ'' ⟨rfl, hb2⟩
              rw [e3] at hb2
              refine ⟨fun hz => no w ?_, fun hb3 => ⟨ia, fun σ5 e5 => ⟨ia, ?_⟩⟩⟩
              · unfold mayD; rw [← hb2, hz]; simp
              · have hD : mayD n W pa up (aRaise n W pa up (aSafe n W pa A a) a) a = true := by
                  unfold mayD
                  rw [← hb, ← hb2, hb1, hb3, fl3, fl4, hdn, decide_eq_true hfi, decide_eq_true w]; rfl
                rw [ca] at e5
                have h5 : ∀ c, c ≠ 40 → σ5 c = υ'' c := fun c hc => by rw [e5, zup_ne hc]
                have ep : psS σ5 = setDn (psS υ'') a := psS_dn (h5 35 (by decide)) (h5 36 (by decide)) (h5 37 (by decide)) (h5 38 (by decide)) (h5 39 (by decide)) (by rw [e5, zup_self])
                have hF5 : MF [36, 37, 38, 39, 40, 51] [27, 29, 30] υ'' σ5 := by rw [e5]; exact MF.rf.up (by decide) (by decide)
                have L5 : ML σ5 (aL (aRaise n W pa up (aSafe n W pa A a) a)) := hAυ.2.1.1.of (by rw [h5 32 (by decide)]) (h5 51 (by decide))
                obtain ⟨u1, u2⟩ := MA_up hTυ ha
                refine ⟨fun hu => ?_, fun hu => ⟨ia, ia, ?_⟩⟩
                · rw [ca, h5 41 (by decide)] at hu
                  refine s291 σ5 1 (hFυ.tr (hF5.mono (by decide) (by decide))) ?_ ⟨fun _ => ?_, fun _ => kne_1_0⟩
                  · unfold aOne aDone
                    rw [if_pos hD, u1 hu]
                    refine hAυ.put hF5 (by rw [ep, hAυ.1.1]) rfl (fun x hx => absurd hx List.not_mem_nil) (by rw [List.append_nil]; exact L5) ?_ ?_
                    · rw [h5 32 (by decide)]; exact (Int32.add_zero _).symm
                    · rw [h5 32 (by decide)]; exact (Int32.add_zero _).symm
                  · unfold aEnds
                    rw [if_neg (by omega), if_neg (by omega), hD, decide_eq_true (u1 hu)]; rfl
                · rw [ca, h5 41 (by decide)] at hu
                  obtain ⟨u, un, eu, e41⟩ := u2 hu
                  have hl := q2.le528 hn12 hR20 hR1 hF
                  rw [ca, h5 41 (by decide), e41, h5 35 (by decide), r35]
                  refine ⟨_, s_Mo_send2 G σ5 _ 6 (nI a) (nI u) _ 0 L5 (by omega), fun σ6 ⟨k1, k2, k3, k4⟩ => ?_⟩
                  have hF6 : MF [36, 37, 38, 39, 40, 51] [27, 29, 30] υ'' σ6 := hF5.tr (k1.mono (by decide) (by decide))
                  have ep6 : psS σ6 = setDn (psS υ'') a := by
                    rw [← ep]
                    exact psS_eq (k1.at (by decide)) (k1.at (by decide)) (k1.at (by decide)) (k1.at (by decide)) (k1.at (by decide)) (k1.at (by decide))
                  refine s291 σ6 v3 (hFυ.tr (hF6.mono (by decide) (by decide))) ?_ ⟨fun q => absurd (hv2 w) q, fun q => ?_⟩
                  · unfold aOne aDone
                    rw [if_pos hD, eu]
                    dsimp only
                    rw [r2]
                    refine hAυ.put hF6 (by rw [ep6, hAυ.1.1]) rfl (fun x hx => ?_) k2 (by rw [k3, h5 32 (by decide)]) (by rw [k4, h5 32 (by decide)])
                    rw [List.mem_singleton.mp hx]; exact (show ¬ (6 : Int32) = 0 by decide)
                  · unfold aEnds at q
                    rw [if_neg (by omega), if_neg (by omega), eu] at q
                    simp at q
      -- 79: raised?
      have s79 : ∀ (υ : zSt), MF FBeg [27, 29, 30] σ υ → MA υ n (aSafe n W pa A a) → zZ G M_Mo_goOn 3 X (fun rr τ => rr = none ∧ MF FBeg [27, 29, 30] σ τ ∧ MA τ n AF) 79 [(0, zf G 32), (1, .int (nI a)), (2, .int (0 : Int32))] [] υ := by
        intro υ hFυ hAυ
        have hTυ := hT' hFυ
        have wυ := hTυ.1.2.2.2.2.2.2.1
        obtain ⟨fl1, fl2, fl3, fl4, _⟩ := hAυ.fl a
        have r35 : υ 35 a = nI (rdP (aS A) a) := by rw [hAυ.1.2 a ha, r1]
        have no : ¬ W = 0 → mayR n W up (aSafe n W pa A a) a = false → zZ G M_Mo_goOn 3 X (fun rr τ => rr = none ∧ MF FBeg [27, 29, 30] σ τ ∧ MA τ n AF) 202 [(0, zf G 32), (1, .int (nI a)), (2, .int (0 : Int32)), (3, .int (0 : Int32))] [] υ := fun w0 hM => by
          refine s202 υ 0 hFυ ?_ (fun w2 => ⟨fun q => absurd rfl q, fun q => ?_⟩) (fun _ => rfl)
          · unfold aRaise; rw [if_neg (by rw [hM]; decide)]; exact hAυ
          · unfold aEnds at q; rw [if_neg w0, if_pos (by omega), hM] at q; simp at q
        refine b_Mo_goOn_79 E (nI a) 0 υ ⟨fun hw0 => ?_, fun hw0 => ?_⟩
        · have w0 : ¬ W = 0 := fun e => hw0 (by rw [wυ, e]; rfl)
          have e2 : (selL (wanP n pa up a 1) n).all (fun c => decide (¬ υ 45 (pl 2 a c (rdP (aS A) a)) = 0)) = all2 n up (aSafe n W pa A a) a := by
            rw [hAυ.all (by omega) ha (by omega)]; unfold all2; rw [r1]; rfl
          refine ⟨ia, fun hz => no w0 ?_, fun hsf => ⟨ia, fun hd => no w0 ?_, fun hra => ⟨_, s_Mo_hasAll2 G υ 2 a _ 1 hTυ (by omega) ha r35 (by omega), ?_⟩⟩⟩
          · rw [ca] at hz
            unfold mayR; rw [fl1, hz]; simp
          · rw [ca] at hd
            unfold mayR; rw [fl2, decide_eq_true hd]; simp
          · rintro b υ' ⟨rfl, hb⟩
            rw [e2] at hb
            rw [ca] at hsf hra
            refine ⟨fun hz => no w0 ?_, fun hb1 => ⟨ia, fun σ3 e3 => ⟨ia, ?_⟩⟩⟩
            · unfold mayR; rw [← hb, hz]; simp
            · have hM : mayR n W up (aSafe n W pa A a) a = true := by
                unfold mayR
                rw [← hb, hb1, fl1, fl2, hra, decide_eq_true hsf, decide_eq_true w0]; rfl
              rw [ca] at e3
              have h3 : ∀ c, c ≠ 38 → σ3 c = υ' c := fun c hc => by rw [e3, zup_ne hc]
              have ep : psS σ3 = setRa (psS υ') a := psS_ra (h3 35 (by decide)) (h3 36 (by decide)) (h3 37 (by decide)) (by rw [e3, zup_self]) (h3 39 (by decide)) (h3 40 (by decide))
              have hF3 : MF [36, 37, 38, 39, 40, 51] [27, 29, 30] υ' σ3 := by rw [e3]; exact MF.rf.up (by decide) (by decide)
              have L3 : ML σ3 (aL (aSafe n W pa A a)) := hAυ.2.1.1.of (by rw [h3 32 (by decide)]) (h3 51 (by decide))
              have A3 : MA σ3 n (aPut (aSafe n W pa A a) (setRa (aS (aSafe n W pa A a)) a) []) := by
                refine hAυ.put hF3 (by rw [ep, hAυ.1.1]) rfl (fun x hx => absurd hx List.not_mem_nil) (by rw [List.append_nil]; exact L3) ?_ ?_
                · rw [h3 32 (by decide)]; exact (Int32.add_zero _).symm
                · rw [h3 32 (by decide)]; exact (Int32.add_zero _).symm
              have hl := q1.le528 hn12 hR20 hR1 hF
              obtain ⟨u1, u2⟩ := MA_up hTυ ha
              have F3 : MF FBeg [27, 29, 30] σ σ3 := hFυ.tr (hF3.mono (by decide) (by decide))
              refine ⟨fun hu => ⟨fun hw1 => ?_, fun hw1 => ?_⟩, fun hu => ⟨ia, ia, ?_⟩⟩
              · rw [ca, h3 41 (by decide)] at hu
                have w2 : W = 2 := by
                  have : ¬ W = 1 := fun e => hw1 (by rw [h3 32 (by decide), wυ, e]; rfl)
                  omega
                refine ⟨_, s_Mo_becomeFirm2 G σ3 a (hT' F3) A3 w2 ha (by show ((aL (aSafe n W pa A a)) ++ []).length + 24 ≤ 4000; rw [List.append_nil]; omega), fun σ4 ⟨k1, k2⟩ => ?_⟩
                refine s202 σ4 0 (F3.tr (k1.mono (by decide) (by decide))) ?_ (fun e => absurd w2 e) (fun _ => rfl)
                unfold aRaise
                rw [if_pos hM, u1 hu]
                dsimp only
                rw [if_neg (by omega)]; exact k2
              · rw [ca, h3 41 (by decide)] at hu
                have w1 : W = 1 := by
                  rw [h3 32 (by decide), wυ] at hw1
                  exact (nI_eq (by omega) (by decide)).mp hw1
                refine s202 σ3 1 F3 ?_ (fun _ => ⟨fun _ => ?_, fun _ => kne_1_0⟩) (fun e => by omega)
                · unfold aRaise
                  rw [if_pos hM, u1 hu]
                  dsimp only
                  rw [if_pos w1]; exact A3
                · unfold aEnds
                  rw [if_neg w0, if_pos w1, hM, decide_eq_true (u1 hu)]; rfl
              · rw [ca, h3 41 (by decide)] at hu
                obtain ⟨u, un, eu, e41⟩ := u2 hu
                rw [ca, h3 41 (by decide), e41, h3 35 (by decide), r35]
                refine ⟨_, s_Mo_send2 G σ3 _ 3 (nI a) (nI u) _ 0 L3 (by omega), fun σ6 ⟨k1, k2, k3, k4⟩ => ?_⟩
                have hF6 : MF [36, 37, 38, 39, 40, 51] [27, 29, 30] υ' σ6 := hF3.tr (k1.mono (by decide) (by decide))
                have ep6 : psS σ6 = setRa (psS υ') a := by
                  rw [← ep]
                  exact psS_eq (k1.at (by decide)) (k1.at (by decide)) (k1.at (by decide)) (k1.at (by decide)) (k1.at (by decide)) (k1.at (by decide))
                refine s202 σ6 0 (hFυ.tr (hF6.mono (by decide) (by decide))) ?_ (fun w2 => ⟨fun q => absurd rfl q, fun q => ?_⟩) (fun _ => rfl)
                · unfold aRaise
                  rw [if_pos hM, eu]
                  dsimp only
                  rw [r1]
                  refine hAυ.put hF6 (by rw [ep6, hAυ.1.1]) rfl (fun x hx => ?_) k2 (by rw [k3, h3 32 (by decide)]) (by rw [k4, h3 32 (by decide)])
                  rw [List.mem_singleton.mp hx]; exact (show ¬ (3 : Int32) = 0 by decide)
                · unfold aEnds at q
                  rw [if_neg w0, if_pos (by omega), eu] at q
                  simp at q
        · have w0 : W = 0 := by rw [wυ] at hw0; exact (nI_eq (b := 0) (by omega) (by decide)).mp hw0
          have e1 : (selL (wanP n pa up a 0) n).all (fun c => decide (¬ υ 45 (pl 1 a c (rdP (aS A) a)) = 0)) = all1 n pa (aSafe n W pa A a) a := by
            rw [hAυ.all (by omega) ha (by omega)]; unfold all1; rw [r1]; rfl
          have hAR : MA υ n (aRaise n W pa up (aSafe n W pa A a) a) := by
            unfold aRaise mayR
            rw [if_neg (by rw [w0]; simp)]; exact hAυ
          have en : aEnds n W pa up A a = (sfP (aS (aSafe n W pa A a)) a && all1 n pa (aSafe n W pa A a) a) := by unfold aEnds; rw [if_pos w0]
          refine ⟨ia, fun hz => s202 υ 0 hFυ hAR (fun _ => ⟨fun q => absurd rfl q, fun q => ?_⟩) (fun _ => rfl), fun hsf => ⟨_, s_Mo_hasAll2 G υ 1 a _ 0 hTυ (by omega) ha r35 (by omega), ?_⟩⟩
          · rw [ca] at hz
            rw [en, fl1, hz] at q; simp at q
          · rintro b υ' ⟨rfl, hb⟩
            rw [e1] at hb
            rw [ca] at hsf
            refine ⟨fun hz => s202 υ' 0 hFυ hAR (fun _ => ⟨fun q => absurd rfl q, fun q => ?_⟩) (fun _ => rfl), fun hb1 => s202 υ' 1 hFυ hAR (fun _ => ⟨fun _ => ?_, fun _ => kne_1_0⟩) (fun e => by omega)⟩
            · rw [en, ← hb, hz] at q; simp at q
            · rw [en, ← hb, hb1, fl1, decide_eq_true hsf]; rfl
      -- 2: safe?
      have hTτ := hT' hFτ
      obtain ⟨fl1, _, _, _, flo⟩ := hA.fl a
      refine b_Mo_goOn_2 E (nI a) more τ ⟨fun q => absurd q hmore, fun _ => ⟨ia, fun hs => s79 τ hFτ ?_, fun hsz => ⟨ia, fun ho => s79 τ hFτ ?_, fun hoz => ⟨ia, fun σ1 e1 => ?_⟩⟩⟩⟩
      · rw [ca] at hs
        unfold aSafe
        rw [if_neg (fun q => by rw [fl1, decide_eq_true hs] at q; exact absurd q.1 (by decide))]; exact hA
      · rw [ca] at ho
        unfold aSafe
        rw [if_neg (fun q => ho (Int32.toInt_inj.mp (by rw [← flo, q.2]; rfl)))]; exact hA
      · rw [ca] at e1 hsz hoz
        have h1 : ∀ c, c ≠ 37 → σ1 c = τ c := fun c hc => by rw [e1, zup_ne hc]
        have ep1 : psS σ1 = setSf (psS τ) a := psS_sf (h1 35 (by decide)) (h1 36 (by decide)) (by rw [e1, zup_self]) (h1 38 (by decide)) (h1 39 (by decide)) (h1 40 (by decide))
        have f1 : MF [36, 37, 38, 39, 40, 51] [27, 29, 30] τ σ1 := by rw [e1]; exact MF.rf.up (by decide) (by decide)
        have F1 : MF FBeg [27, 29, 30] σ σ1 := hFτ.tr (f1.mono (by decide) (by decide))
        have hT1 := hT' F1
        have cnd : sfP (aS A) a = false ∧ opP (aS A) a = 0 := ⟨by rw [fl1, hsz]; rfl, by rw [flo, hoz]; rfl⟩
        have L1 : ML σ1 (aL A) := hA.2.1.1.of (by rw [h1 32 (by decide)]) (h1 51 (by decide))
        have hl := hQ.le528 hn12 hR20 hR1 hF
        refine z_for n (fun i ρ => zZ G M_Mo_goOn 3 X (fun rr τ => rr = none ∧ MF FBeg [27, 29, 30] σ τ ∧ MA τ n AF) 35 [(0, zf G 32), (1, .int (nI a)), (2, .int (0 : Int32)), (3, .int (nI i))] [] ρ) (fun i ρ => SN σ1 ρ (aL A) (if W = 0 then ltrs 2 a (rdP (aS A) a) 0 (selL (fun b => pa a b) i) else [])) ?_ ?_ 0 σ1 (Nat.zero_le _) (by
          have : (if W = 0 then ltrs 2 a (rdP (aS A) a) 0 (selL (fun b => pa a b) 0) else []) = [] := by split <;> rfl
          rw [this]; exact SN.rf L1)
        · intro i ρ hi g ih
          have hTρ := hT1.of g.1 (by decide) (by decide)
          have wρ := hTρ.1.2.2.2.2.2.2.1
          have rρ : ρ 35 (nI a).toNatClampNeg = nI (rdP (aS A) a) := by rw [ca, g.1.at (by decide), h1 35 (by decide)]; exact hA.1.2 a ha
          refine b_Mo_goOn_35 E (nI a) 0 (nI i) ρ ⟨fun q => absurd q (by rw [hTρ.1.1]; exact nI_ge hi (by omega)), fun _ => ⟨fun hw => ?_, fun hw => ⟨by rw [zi12']; exact vp_in_nI (by omega) (by decide), fun hlk => ?_, fun hlk => ⟨ia, ?_⟩⟩⟩⟩
          · rw [nI_1]
            have w0 : ¬ W = 0 := fun e => hw (by rw [wρ, e]; rfl)
            refine ih ρ ?_
            rw [if_neg w0] at g ⊢; exact g
          · rw [nI_1]
            have w0 : W = 0 := by rw [wρ] at hw; exact (nI_eq (b := 0) (by omega) (by decide)).mp hw
            refine ih ρ ?_
            rw [if_pos w0] at g ⊢
            rw [hTρ.2.2.2.2.1 a i ha hi] at hlk
            rw [sel_no (by rw [(hTρ.2.2.2.2.2.2.1 w0).1 a i ha hi, hlk]; decide)]; exact g
          · have w0 : W = 0 := by rw [wρ] at hw; exact (nI_eq (b := 0) (by omega) (by decide)).mp hw
            rw [rρ]
            have hlen : (ltrs 2 a (rdP (aS A) a) 0 (selL (fun b => pa a b) i)).length ≤ i := by rw [ltrs_len]; exact selL_len i
            rw [if_pos w0] at g
            refine ⟨_, s_Mo_send2 G ρ _ 2 (nI a) (nI i) _ 0 g.2.1 (by rw [List.length_append]; omega), fun σ7 m => ?_⟩
            rw [nI_1]
            refine ih σ7 ?_
            rw [if_pos w0]
            rw [hTρ.2.2.2.2.1 a i ha hi] at hlk
            rw [sel_yes (by rw [(hTρ.2.2.2.2.2.2.1 w0).1 a i ha hi]; exact hlk)]
            exact g.tr m
        · intro ρ g
          have hTρ := hT1.of g.1 (by decide) (by decide)
          refine b_Mo_goOn_35 E (nI a) 0 (nI n) ρ ⟨fun _ => ?_, fun q => absurd (by rw [hTρ.1.1]; exact nI_le (Nat.le_refl n) (by omega)) q⟩
          have fρ : MF [36, 37, 38, 39, 40, 51] [27, 29, 30] τ ρ := f1.tr (g.1.mono (by decide) (by decide))
          refine s79 ρ (hFτ.tr (fρ.mono (by decide) (by decide))) ?_
          unfold aSafe
          rw [if_pos cnd]
          refine hA.put fρ ?_ rfl (fun x hx => ?_) g.2.1 (by rw [g.2.2.1, h1 32 (by decide)]; rfl) (by rw [g.2.2.2, h1 32 (by decide)]; rfl)
          · rw [← hA.1.1, ← ep1]
            exact psS_eq (g.1.at (by decide)) (g.1.at (by decide)) (g.1.at (by decide)) (g.1.at (by decide)) (g.1.at (by decide)) (g.1.at (by decide))
          · split at hx
            · obtain ⟨b, _, rfl⟩ := ltrs_mem.mp hx; exact (show ¬ (2 : Int32) = 0 by decide)
            · exact absurd hx List.not_mem_nil
  exact b_Mo_goOn_0 E (nI a) σ (main _ σ A f 1 rfl MF.rf hA hQ hr hf hAF kne_1_0)
end MREF3
end
section
-- The reference is the pure machine: a letter comes (handle)
theorem came_upd {σ : zSt} {n : Nat} {cm : CM} {g : Nat → Int32} {w0 t f q : Nat} (hn : n ≤ 12) (h7 : ∀ w a b r, w < 4 → a < n → b < n → r < 22 → cm w a b r = decide (¬ σ 45 (pl w a b r) = 0)) (ht : t < n) (hf : f < n) (hq : q < 22) (e : g = upd (σ 45) (pl w0 t f q) 1) : ∀ w a b r, w < 4 → a < n → b < n → r < 22 → cmU cm w0 t f q w a b r = decide (¬ g (pl w a b r) = 0) := by
  intro w a b r hw ha hb hr
  rw [e]
  unfold upd
  by_cases c : pl w a b r = pl w0 t f q
  · rw [if_pos c]
    obtain ⟨i1, i2, i3, i4⟩ := pl_inj (by omega) (by omega) hr (by omega) (by omega) hq c
    rw [i1, i2, i3, i4, cmU_eq]; rfl
  · rw [if_neg c, cmU_ne (fun z => c (by rw [z.1, z.2.1, z.2.2.1, z.2.2.2]))]
    exact h7 w a b r hw ha hb hr
section MREF4
variable {n R W p : Nat} {src : Int32} {mk : Nat → Int32} {len : Nat → Nat → Int32} {lk pa : Nat → Nat → Bool} {up : Nat → Option Nat} {ld : Nat → Nat} {A : AS}
theorem MA.came {σ τ : zSt} {w t f q : Nat} (hn : n ≤ 12) (h : MA σ n A) (hw : ¬ w = 0) (ht : t < n) (hf : f < n) (hq : q < 22) (e : τ = zup σ 45 (pl w t f q) 1) : MA τ n (aCame A w t f q) := by
  have h1 : ∀ c, c ≠ 45 → τ c = σ c := fun c hc => by rw [e, zup_ne hc]
  obtain ⟨⟨a1, a2⟩, ⟨a3, a4, a5⟩, a6, a7, a8, a9⟩ := h
  refine ⟨⟨?_, by rw [h1 35 (by decide)]; exact a2⟩, ⟨a3.of (by rw [h1 32 (by decide)]) (h1 51 (by decide)), by rw [h1 32 (by decide)]; exact a4, by rw [h1 32 (by decide)]; exact a5⟩, ?_, ?_, ?_, ?_⟩
  · show _ = aS A
    rw [← a1]
    exact psS_eq (h1 35 (by decide)) (h1 36 (by decide)) (h1 37 (by decide)) (h1 38 (by decide)) (h1 39 (by decide)) (h1 40 (by decide))
  · rw [h1 47 (by decide), h1 48 (by decide)]; exact a6
  · rw [h1 49 (by decide)]; exact a7
  · exact came_upd hn a8 ht hf hq (by rw [e, zup_self])
  · intro x y r hx hy hr hc
    have hc : cmU (aC A) w t f q 0 x y r = true := hc
    rw [cmU_ne (fun z => hw z.1.symm)] at hc
    rw [h1 46 (by decide)]; exact a9 x y r hx hy hr hc
theorem s_Mo_handle2 (G : zG) (σ : zSt) (i : Nat) (hT : MT σ n R W p src mk len lk pa up) (hF : FRA n W lk pa up ld) (hA : MA σ n A) (hQ : QR n R W p lk pa up ld A) (hi : i < (aL A).length) : zI G 4 M_Mo_handle [zf G 32, .int (nI i)] σ (fun y τ => ∃ (k f t q : Nat) (x : Int32), (aL A)[i]? = some (nI k, nI f, nI t, nI q, x) ∧ k < 7 ∧ f < n ∧ t < n ∧ 1 ≤ q ∧ q ≤ R ∧ y = nI k ∧ MF FHan [27, 29, 30] σ τ ∧ MA τ n (aHandle n R W p src mk len lk pa up A i k f t q x)) := by
  refine zSpec.of (by decide) (Nat.le_of_ble_eq_true rfl) rfl (fun X E => ?_)
  have hn12 : n ≤ 12 := hT.1.2.2.1
  have hR20 : R ≤ 20 := hT.1.2.2.2.2.2.1
  have hR1 : 1 ≤ R := hT.1.2.2.2.2.1
  have hW2 : W ≤ 2 := hT.1.2.2.2.2.2.2.2.1
  have hMLB := hT.mlb
  have hP := hQ.1.1.1
  have hlen := hQ.1.le528 hn12 hR20 hR1 hF
  obtain ⟨L1, L2, L3⟩ := hA.2.1.1
  have hx : (aL A)[i]? = some (mlt σ i) := L3 i hi
  have hm : mlt σ i ∈ aL A := List.mem_of_getElem? hx
  obtain ⟨⟨⟨k, hk, ek⟩, ⟨f, hf, ef⟩, ⟨t, ht, et⟩, ⟨q, hq1, hqR, eq, _⟩⟩, _, _, t4, t5⟩ := hP.2.1 _ hm
  have ek' : σ 51 (5 * i) = nI k := ek
  have ef' : σ 51 (5 * i + 1) = nI f := ef
  have et' : σ 51 (5 * i + 2) = nI t := et
  have eq' : σ 51 (5 * i + 3) = nI q := eq
  have hx2 : (aL A)[i]? = some (nI k, nI f, nI t, nI q, σ 51 (5 * i + 4)) := by
    rw [hx]; unfold mlt; rw [ek', ef', et', eq']
  have it : vp_in (nI t) 12 := vp_in_nI (by omega) (by decide)
  have ct : (nI t).toNatClampNeg = t := nI_clamp (by omega)
  obtain ⟨qa1, qa2⟩ := hQ.1.1.act (src := src) (mk := mk) (len := len) hn12 hR20 hW2 hF hMLB hQ.2.1 hk hf ht hq1 hqR hx2
  have qa : QE n R W p lk pa up ld (aAct n p src mk len lk pa up (aErase A i) k f t q (σ 51 (5 * i + 4))) := ⟨qa1, XN.act hF hQ.1 hR20 hn12 hf ht hq1 hqR hx2⟩
  have ra : 1 ≤ rdP (aS (aAct n p src mk len lk pa up (aErase A i) k f t q (σ 51 (5 * i + 4)))) t := Nat.le_trans (hQ.2.1 t ht) (qa2 t)
  have e5 : (5 : Int32) * nI i = nI (5 * i) := by rw [show (5 : Int32) = nI 5 from rfl, pk_mul]
  have q1 : ((5 : Int32) * nI i) + (1 : Int32) = nI (5 * i + 1) := by rw [e5, show (1 : Int32) = nI 1 from rfl, nI_add]
  have q2 : ((5 : Int32) * nI i) + (2 : Int32) = nI (5 * i + 2) := by rw [e5, show (2 : Int32) = nI 2 from rfl, nI_add]
  have q3 : ((5 : Int32) * nI i) + (3 : Int32) = nI (5 * i + 3) := by rw [e5, show (3 : Int32) = nI 3 from rfl, nI_add]
  have q4 : ((5 : Int32) * nI i) + (4 : Int32) = nI (5 * i + 4) := by rw [e5, show (4 : Int32) = nI 4 from rfl, nI_add]
  refine b_Mo_handle_0 E (nI i) σ ⟨by rw [e5]; exact vp_in_nI (by omega) (by decide), by rw [q1]; exact vp_in_nI (by omega) (by decide), by rw [q2]; exact vp_in_nI (by omega) (by decide), by rw [q3]; exact vp_in_nI (by omega) (by decide), by rw [q4]; exact vp_in_nI (by omega) (by decide), ?_⟩
  rw [q1, q2, q3, q4, e5, nI_clamp (show 5 * i < 2 ^ 31 by omega), nI_clamp (show 5 * i + 1 < 2 ^ 31 by omega), nI_clamp (show 5 * i + 2 < 2 ^ 31 by omega), nI_clamp (show 5 * i + 3 < 2 ^ 31 by omega), nI_clamp (show 5 * i + 4 < 2 ^ 31 by omega), ek', ef', et', eq']
  generalize σ 51 (5 * i + 4) = x at hx2 qa ra qa1 qa2 ⊢
  have en : ∀ υ : zSt, MF FHan [27, 29, 30] σ υ → MA υ n (aHandle n R W p src mk len lk pa up A i k f t q x) → ∃ y : Int32, some (Value.int (nI k)) = some (Value.int y) ∧ ∃ (k f t q : Nat) (x : Int32), (aL A)[i]? = some (nI k, nI f, nI t, nI q, x) ∧ k < 7 ∧ f < n ∧ t < n ∧ 1 ≤ q ∧ q ≤ R ∧ y = nI k ∧ MF FHan [27, 29, 30] σ υ ∧ MA υ n (aHandle n R W p src mk len lk pa up A i k f t q x) := fun υ h1 h2 => ⟨_, rfl, k, f, t, q, x, hx2, hk, hf, ht, hq1, hqR, rfl, h1, h2⟩
  -- behind the act, the node goes on
  have fin : ∀ (υ : zSt), MF FHan [27, 29, 30] σ υ → MA υ n (aAct n p src mk len lk pa up (aErase A i) k f t q x) → ∃ P : zSt → Prop, zV G 3 M_Mo_goOn [zf G 32, .int (nI t)] υ P ∧ ∀ σ6 : zSt, P σ6 → ∃ y : Int32, some (Value.int (nI k)) = some (Value.int y) ∧ ∃ (k f t q : Nat) (x : Int32), (aL A)[i]? = some (nI k, nI f, nI t, nI q, x) ∧ k < 7 ∧ f < n ∧ t < n ∧ 1 ≤ q ∧ q ≤ R ∧ y = nI k ∧ MF FHan [27, 29, 30] σ σ6 ∧ MA σ6 n (aHandle n R W p src mk len lk pa up A i k f t q x) := by
    intro υ g1 g2
    exact ⟨_, s_Mo_goOn2 G υ t (hT.of g1 (by decide) (by decide)) hF ht R g2 qa ra (by omega), fun σ6 ⟨m1, m2⟩ => en σ6 (g1.tr (m1.mono (by decide) (by decide))) m2⟩
  -- the letter is taken out
  refine z_for (5 * ((aL A).length - 1)) (fun j τ => zZ G M_Mo_handle 4 X (fun r τ => ∃ y : Int32, r = some (.int y) ∧ ∃ (k f t q : Nat) (x : Int32), (aL A)[i]? = some (nI k, nI f, nI t, nI q, x) ∧ k < 7 ∧ f < n ∧ t < n ∧ 1 ≤ q ∧ q ≤ R ∧ y = nI k ∧ MF FHan [27, 29, 30] σ τ ∧ MA τ n (aHandle n R W p src mk len lk pa up A i k f t q x)) 61 [(0, zf G 32), (2, .int (nI k)), (3, .int (nI f)), (4, .int (nI t)), (5, .int (nI q)), (6, .int x), (7, .int (nI j))] [] τ) (fun j τ => 5 * i ≤ j ∧ zFr [51] σ τ ∧ ∀ m, τ 51 m = if 5 * i ≤ m ∧ m < j then σ 51 (m + 5) else σ 51 m) ?_ ?_ (5 * i) σ (by omega) ⟨Nat.le_refl _, zFr.rf, fun m => by rw [if_neg (by omega)]⟩
  · intro j τ hj ⟨g0, g1, g2⟩ ih
    have e27 : τ 32 27 = nI (aL A).length := by rw [g1 32 (by decide)]; exact L1
    have ej : nI j + (5 : Int32) = nI (j + 5) := by rw [show (5 : Int32) = nI 5 from rfl, nI_add]
    refine b_Mo_handle_61 E _ _ _ _ _ (nI j) τ ⟨fun q => absurd q ?_, fun _ => ⟨by rw [ej]; exact vp_in_nI (by omega) (by decide), vp_in_nI (by omega) (by decide), fun σ11 e11 => ?_⟩⟩
    · rw [e27, ej, show (5 : Int32) = nI 5 from rfl, pk_mul]
      exact nI_ge (by omega) (by omega)
    · rw [nI_1]
      rw [ej, nI_clamp (by omega), nI_clamp (by omega)] at e11
      refine ih σ11 ⟨by omega, by rw [e11]; exact g1.up (by decide), fun m => ?_⟩
      rw [e11, zup_self]
      unfold upd
      by_cases hmj : m = j
      · subst hmj
        rw [if_pos rfl, g2 (m + 5), if_neg (by omega), if_pos ⟨g0, by omega⟩]
      · rw [if_neg hmj, g2 m]
        by_cases c1 : 5 * i ≤ m ∧ m < j
        · rw [if_pos c1, if_pos ⟨c1.1, by omega⟩]
        · rw [if_neg c1, if_neg (by omega)]
  · intro τ ⟨_, g1, g2⟩
    have e27 : τ 32 27 = nI (aL A).length := by rw [g1 32 (by decide)]; exact L1
    have ej : nI (5 * ((aL A).length - 1)) + (5 : Int32) = nI (5 * (aL A).length) := by rw [show (5 : Int32) = nI 5 from rfl, nI_add]; congr 1; omega
    refine b_Mo_handle_61 E _ _ _ _ _ (nI (5 * ((aL A).length - 1))) τ ⟨fun _ σ1 e1 => ?_, fun qq => absurd (by rw [e27, ej, show (5 : Int32) = nI 5 from rfl, pk_mul]; exact nI_le (Nat.le_refl _) (by omega)) qq⟩
    rw [e27, show (1 : Int32) = nI 1 from rfl, pk_sub (by omega)] at e1
    have hF1 : MF FHan [27, 29, 30] σ σ1 := by rw [e1]; exact ((MF.of (J := [27, 29, 30]) g1 (by decide)).fld (by decide)).mono (by decide) (by decide)
    have p51 : ∀ m, σ1 51 m = if 5 * i ≤ m ∧ m < 5 * ((aL A).length - 1) then σ 51 (m + 5) else σ 51 m := fun m => by rw [e1, zup_ne (by decide)]; exact g2 m
    have hle : ((aL A).eraseIdx i).length = (aL A).length - 1 := List.length_eraseIdx_of_lt hi
    have LE : ML σ1 ((aL A).eraseIdx i) := by
      refine ⟨by rw [e1, zup_self, hle]; simp [upd], by omega, fun m hm => ?_⟩
      rw [hle] at hm
      rw [List.getElem?_eraseIdx]
      by_cases hmi : m < i
      · rw [if_pos hmi, L3 m (by omega)]
        simp only [mlt, p51]
        rw [if_neg (by omega), if_neg (by omega), if_neg (by omega), if_neg (by omega), if_neg (by omega)]
      · rw [if_neg hmi, L3 (m + 1) (by omega)]
        simp only [mlt, p51]
        rw [if_pos (by omega), if_pos (by omega), if_pos (by omega), if_pos (by omega), if_pos (by omega)]
        rfl
    have h1 : ∀ c, c ≠ 32 → c ≠ 51 → σ1 c = σ c := fun c a1 a2 => by
      rw [e1, zup_ne a1]; exact g1 c (by simp [a2])
    have AE : MA σ1 n (aErase A i) := by
      obtain ⟨⟨a1, a2⟩, ⟨_, a4, a5⟩, a6, a7, a8, a9⟩ := hA
      refine ⟨⟨?_, by rw [h1 35 (by decide) (by decide)]; exact a2⟩, ⟨LE, ?_, ?_⟩, ?_, ?_, ?_, ?_⟩
      · show _ = aS A
        rw [← a1]
        exact psS_eq (h1 35 (by decide) (by decide)) (h1 36 (by decide) (by decide)) (h1 37 (by decide) (by decide)) (h1 38 (by decide) (by decide)) (h1 39 (by decide) (by decide)) (h1 40 (by decide) (by decide))
      · rw [e1, zup_self, g1 32 (by decide)]; unfold upd; rw [if_neg (by decide)]; exact a4
      · rw [e1, zup_self, g1 32 (by decide)]; unfold upd; rw [if_neg (by decide)]; exact a5
      · rw [h1 47 (by decide) (by decide), h1 48 (by decide) (by decide)]; exact a6
      · rw [h1 49 (by decide) (by decide)]; exact a7
      · rw [h1 45 (by decide) (by decide)]; exact a8
      · rw [h1 46 (by decide) (by decide)]; exact a9
    have hT1 := hT.of hF1 (by decide) (by decide)
    have hkt : (nI k).toInt = (k : Int) := nI_toInt (by omega)
    -- something came
    have cam : ∀ (w : Nat) (σ2 : zSt), w < 4 → w ≠ 0 → σ2 = zup σ1 45 (pl w t f q) 1 → aAct n p src mk len lk pa up (aErase A i) k f t q x = aCame (aErase A i) w t f q → ∃ P : zSt → Prop, zV G 3 M_Mo_goOn [zf G 32, .int (nI t)] σ2 P ∧ ∀ σ6 : zSt, P σ6 → ∃ y : Int32, some (Value.int (nI k)) = some (Value.int y) ∧ ∃ (k f t q : Nat) (x : Int32), (aL A)[i]? = some (nI k, nI f, nI t, nI q, x) ∧ k < 7 ∧ f < n ∧ t < n ∧ 1 ≤ q ∧ q ≤ R ∧ y = nI k ∧ MF FHan [27, 29, 30] σ σ6 ∧ MA σ6 n (aHandle n R W p src mk len lk pa up A i k f t q x) := by
      intro w σ2 hw hw0 e2 eA
      refine fin σ2 (hF1.tr ?_) ?_
      · rw [e2]; exact MF.rf.up (by decide) (by decide)
      · rw [eA]; exact AE.came hn12 hw0 ht hf (by omega) e2
    have plw : ∀ w, w < 4 → ((nI w * 12 + nI t) * 12 + nI f) * 22 + nI q = nI (pl w t f q) ∧ vp_in (nI (pl w t f q)) 12672 ∧ (nI (pl w t f q)).toNatClampNeg = pl w t f q := fun w hw => by
      have := pl_lt (w := w) (a := t) (b := f) (r := q) hw (by omega) (by omega) (by omega)
      exact ⟨pl_nI, vp_in_nI this (by decide), nI_clamp (by omega)⟩
    have s224 : k = 2 ∨ k = 3 ∨ k = 6 → zZ G M_Mo_handle 4 X (fun r τ => ∃ y : Int32, r = some (.int y) ∧ ∃ (k f t q : Nat) (x : Int32), (aL A)[i]? = some (nI k, nI f, nI t, nI q, x) ∧ k < 7 ∧ f < n ∧ t < n ∧ 1 ≤ q ∧ q ≤ R ∧ y = nI k ∧ MF FHan [27, 29, 30] σ τ ∧ MA τ n (aHandle n R W p src mk len lk pa up A i k f t q x)) 224 [(0, zf G 32), (2, .int (nI k)), (3, .int (nI f)), (4, .int (nI t)), (5, .int (nI q))] [] σ1 := by
      intro hkk
      have w1 := plw 1 (by omega)
      have w2 := plw 2 (by omega)
      have w3 := plw 3 (by omega)
      rw [show nI 1 = (1 : Int32) from rfl] at w1
      rw [show nI 2 = (2 : Int32) from rfl] at w2
      rw [show nI 3 = (3 : Int32) from rfl] at w3
      refine b_Mo_handle_224x E (nI k) (nI f) (nI t) (nI q) σ1 ⟨fun h2 => ⟨fun h3 => ⟨by rw [w3.1]; exact w3.2.1, fun σ2 e2 => ?_⟩, fun h3 => ⟨by rw [w2.1]; exact w2.2.1, fun σ2 e2 => ?_⟩⟩, fun h2 => ⟨by rw [w1.1]; exact w1.2.1, fun σ2 e2 => ?_⟩⟩
      · rw [w3.1, w3.2.2] at e2
        have a1 : k ≠ 2 := fun e => h2 (by rw [e]; rfl)
        have a2 : k ≠ 3 := fun e => h3 (by rw [e]; rfl)
        refine cam 3 σ2 (by omega) (by omega) e2 ?_
        unfold aAct
        rw [if_neg (by omega), if_neg (by omega), if_neg (by omega), if_neg (by omega), if_neg (by omega), if_neg (by omega)]
      · rw [w2.1, w2.2.2] at e2
        have k3 : k = 3 := (nI_eq (b := 3) (by omega) (by decide)).mp h3
        refine cam 2 σ2 (by omega) (by omega) e2 ?_
        unfold aAct
        rw [if_neg (by omega), if_neg (by omega), if_neg (by omega), if_pos k3]
      · rw [w1.1, w1.2.2] at e2
        have k2 : k = 2 := (nI_eq (b := 2) (by omega) (by decide)).mp h2
        refine cam 1 σ2 (by omega) (by omega) e2 ?_
        unfold aAct
        rw [if_neg (by omega), if_neg (by omega), if_pos k2]
    refine ⟨fun hk0 => ?_, fun hk1 => ⟨it, it, fun σ5 e5 => ?_⟩, fun hk2 => s224 (by omega), fun hk3 => s224 (by omega), fun hk4 => ?_, fun hk5 => ?_, fun hk6 => s224 (by omega)⟩
    · -- NOTE
      have w0 := plw 0 (by omega)
      rw [show nI 0 = (0 : Int32) from rfl] at w0
      have k0 : k = 0 := by omega
      refine ⟨by rw [w0.1]; exact w0.2.1, fun σ2 e2 => ⟨by rw [w0.1]; exact vp_in_nI (by unfold pl; omega) (by decide), fun σ3 e3 => ?_⟩⟩
      rw [w0.1, w0.2.2] at e2 e3
      have h3 : ∀ c, c ≠ 45 → c ≠ 46 → σ3 c = σ1 c := fun c b1 b2 => by rw [e3, zup_ne b2, e2, zup_ne b1]
      refine ⟨_, s_Mo_send2 G σ3 ((aL A).eraseIdx i) 1 (nI t) (nI f) (nI q) 0 (LE.of (by rw [h3 32 (by decide) (by decide)]) (h3 51 (by decide) (by decide))) (by omega), fun σ4 ⟨m1, m2, m3, m4⟩ => ?_⟩
      have h4 : ∀ c, c ≠ 45 → c ≠ 46 → c ≠ 32 → c ≠ 51 → σ4 c = σ1 c := fun c b1 b2 b3 b4 => by rw [m1.at (by simp [b3, b4]), h3 c b1 b2]
      have eA : aAct n p src mk len lk pa up (aErase A i) k f t q x = aNote (aErase A i) t f q x := by unfold aAct; rw [if_pos k0]
      have eG : aHandle n R W p src mk len lk pa up A i k f t q x = aNote (aErase A i) t f q x := by
        unfold aHandle
        rw [eA]
        refine AtR.go (A := aNote (aErase A i) t f q x) ?_ R
        exact (hQ.2.2 t ht).loc (A' := aNote (aErase A i) t f q x) ⟨⟨rfl, rfl, rfl, rfl, rfl, rfl⟩, (LC_note (A := A) (b := t) (x := x)).2⟩
      refine en σ4 ?_ ?_
      · refine hF1.tr (MF.tr (τ := σ3) ?_ (m1.mono (by decide) (by decide)))
        rw [e3, e2]; exact (MF.rf.up (by decide) (by decide)).up (by decide) (by decide)
      · rw [eG]
        obtain ⟨⟨a1, a2⟩, ⟨_, a4, a5⟩, a6, a7, a8, a9⟩ := AE
        refine ⟨⟨?_, by rw [h4 35 (by decide) (by decide) (by decide) (by decide)]; exact a2⟩, ⟨m2, ?_, ?_⟩, ?_, ?_, ?_, ?_⟩
        · show _ = aS A
          rw [show aS A = psS σ1 from a1.symm]
          exact psS_eq (h4 35 (by decide) (by decide) (by decide) (by decide)) (h4 36 (by decide) (by decide) (by decide) (by decide)) (h4 37 (by decide) (by decide) (by decide) (by decide)) (h4 38 (by decide) (by decide) (by decide) (by decide)) (h4 39 (by decide) (by decide) (by decide) (by decide)) (h4 40 (by decide) (by decide) (by decide) (by decide))
        · rw [m3, h3 32 (by decide) (by decide), a4]; exact Int32.add_zero _
        · rw [m4, h3 32 (by decide) (by decide), a5]; rfl
        · rw [h4 47 (by decide) (by decide) (by decide) (by decide), h4 48 (by decide) (by decide) (by decide) (by decide)]; exact a6
        · rw [h4 49 (by decide) (by decide) (by decide) (by decide)]; exact a7
        · exact came_upd hn12 a8 ht hf (by omega) (by rw [m1.at (by decide), e3, zup_ne (by decide), e2, zup_self])
        · intro y z r hy hz hr hc
          have e46 : σ4 46 = upd (σ1 46) (pl 0 t f q) x := by rw [m1.at (by decide), e3, zup_self, e2, zup_ne (by decide)]
          rw [e46]
          have hc : cmU (aC A) 0 t f q 0 y z r = true := hc
          show upd (σ1 46) (pl 0 t f q) x (pl 0 y z r) = if y = t ∧ z = f ∧ r = q then x else aM A y z r
          unfold upd
          by_cases c : pl 0 y z r = pl 0 t f q
          · obtain ⟨_, i2, i3, i4⟩ := pl_inj (by omega) (by omega) hr (by omega) (by omega) (by omega) c
            rw [if_pos c, if_pos ⟨i2, i3, i4⟩]
          · have c2 : ¬ (y = t ∧ z = f ∧ r = q) := fun z' => c (by rw [z'.1, z'.2.1, z'.2.2])
            rw [if_neg c, if_neg c2]
            rw [cmU_ne (fun z' => c2 z'.2)] at hc
            exact a9 y z r hy hz hr hc
    · -- ACK
      rw [ct] at e5
      have k1 : k = 1 := by omega
      have h5 : ∀ c, c ≠ 36 → σ5 c = σ1 c := fun c hc => by rw [e5, zup_ne hc]
      have hlo := hP.low hn12 hR20 ht (hQ.2.1 t ht)
      have hhi := ((hP.1 t ht).2.1 (hQ.2.1 t ht)).1
      have eS1 : psS σ1 = aS A := AE.1.1
      have eop : opP (aS A) t = (σ1 36 t).toInt := by rw [← eS1]; rfl
      have ep5 : psS σ5 = setOp (aS A) t (opP (aS A) t - 1) := by
        rw [eop, ← i32_dec (x := σ1 36 t) (by omega), ← eS1]
        exact psS_op (h5 35 (by decide)) (by rw [e5, zup_self]) (h5 37 (by decide)) (h5 38 (by decide)) (h5 39 (by decide)) (h5 40 (by decide))
      have eA : aAct n p src mk len lk pa up (aErase A i) k f t q x = mkA (setOp (aS A) t (opP (aS A) t - 1)) (aV A) (aQ A) (aU A) (aC A) (aM A) ((aL A).eraseIdx i) (aN A) (aO A) := by
        unfold aAct; rw [if_neg (by omega), if_pos k1]; rfl
      refine fin σ5 (hF1.tr ?_) ?_
      · rw [e5]; exact MF.rf.up (by decide) (by decide)
      · rw [eA]
        obtain ⟨⟨a1, a2⟩, ⟨_, a4, a5⟩, a6, a7, a8, a9⟩ := AE
        refine ⟨⟨ep5, by rw [h5 35 (by decide)]; exact a2⟩, ⟨LE.of (by rw [h5 32 (by decide)]) (h5 51 (by decide)), by rw [h5 32 (by decide)]; exact a4, by rw [h5 32 (by decide)]; exact a5⟩, ?_, ?_, ?_, ?_⟩
        · rw [h5 47 (by decide), h5 48 (by decide)]; exact a6
        · rw [h5 49 (by decide)]; exact a7
        · rw [h5 45 (by decide)]; exact a8
        · rw [h5 46 (by decide)]; exact a9
    · -- GO
      have k4 : k = 4 := by omega
      obtain ⟨c, u, z1, z2, z3, z4, z5, z6, z7, z8, z9⟩ := t4 (by rw [ek, k4]; rfl)
      have zc : t = c := (nI_eq (by omega) (by omega)).mp (et.symm.trans z3)
      subst zc
      have h20 := (hP.1 t ht).1
      have hu20 := (hP.1 u z2).1
      have zq : q = rdP (aS A) t + 1 := (nI_eq (by omega) (by omega)).mp (eq.symm.trans z5)
      have eA : aAct n p src mk len lk pa up (aErase A i) k f t q x = aBeg n p src mk len lk up (aErase A i) t := by
        unfold aAct; rw [if_neg (by omega), if_neg (by omega), if_neg (by omega), if_neg (by omega), if_pos k4]
      refine ⟨_, s_Mo_beginRound2 G σ1 t q hT1 AE hQ.1.1.2.2.erase ht zq.symm hqR (by show ((aL A).eraseIdx i).length + 24 ≤ 4000; omega) (fun e => by
        have e : rdP (aS A) t = 0 := e
        omega), fun σ7 ⟨m1, m2⟩ => fin σ7 (hF1.tr (m1.mono (by decide) (by decide))) (by rw [eA]; exact m2)⟩
    · -- FIRM
      have k5 : k = 5 := by omega
      obtain ⟨z0, _⟩ := t5 (by rw [ek, k5]; rfl)
      have eA : aAct n p src mk len lk pa up (aErase A i) k f t q x = aFirm n pa up (aErase A i) t := by
        unfold aAct; rw [if_neg (by omega), if_neg (by omega), if_neg (by omega), if_neg (by omega), if_neg (by omega), if_pos k5]
      refine ⟨_, s_Mo_becomeFirm2 G σ1 t hT1 AE z0 ht (by show ((aL A).eraseIdx i).length + 24 ≤ 4000; omega), fun σ9 ⟨m1, m2⟩ => fin σ9 (hF1.tr (m1.mono (by decide) (by decide))) (by rw [eA]; exact m2)⟩
end MREF4
end
