-- The pure machine: two invariants more; when a node is at rest
def XN (n W : Nat) (lk : Nat → Nat → Bool) (A : AS) : Prop := (∀ t f q, aC A 0 t f q = true → f < n ∧ t < n ∧ lk f t = true ∧ 1 ≤ q ∧ q ≤ rdP (aS A) f) ∧ ∀ x, x ∈ aL A → x.1 = 6 → W = 2
def QE (n R W p : Nat) (lk pa : Nat → Nat → Bool) (up : Nat → Option Nat) (ld : Nat → Nat) (A : AS) : Prop := QI n R W p lk pa up ld A ∧ XN n W lk A
section QES
variable {n R W p : Nat} {src : Int32} {mk : Nat → Int32} {len : Nat → Nat → Int32} {lk pa : Nat → Nat → Bool} {up : Nat → Option Nat} {ld : Nat → Nat} {A A' : AS} {a : Nat}
theorem QE.le528 (hn : n ≤ 12) (hR : R ≤ 20) (hR1 : 1 ≤ R) (hF : FRA n W lk pa up ld) (h : QE n R W p lk pa up ld A) : (aL A).length ≤ 528 := room528 hn hR hR1 hF h.1.1 h.1.2.1 h.2.2
theorem XN.put {S : PS} {m : List Lt} (h : XN n W lk A) (hS : ∀ b, rdP (aS A) b ≤ rdP S b) (hm : ∀ x, x ∈ m → x.1 = 6 → W = 2) : XN n W lk (aPut A S m) := by
  refine ⟨fun t f q hc => ?_, fun x hx h6 => ?_⟩
  · obtain ⟨q1, q2, q3, q4, q5⟩ := h.1 t f q hc
    exact ⟨q1, q2, q3, q4, Nat.le_trans q5 (hS f)⟩
  · rcases List.mem_append.mp hx with e | e
    · exact h.2 x e h6
    · exact hm x e h6
theorem XN.safe (h : XN n W lk A) : XN n W lk (aSafe n W pa A a) := by
  unfold aSafe
  by_cases hc : sfP (aS A) a = false ∧ opP (aS A) a = 0
  · rw [if_pos hc]
    refine h.put (fun b => Nat.le_refl _) (fun x hx h6 => ?_)
    by_cases w : W = 0
    · rw [if_pos w] at hx
      obtain ⟨b, _, rfl⟩ := ltrs_mem.mp hx
      exact absurd h6 (show ¬ (2 : Int32) = 6 by decide)
    · rw [if_neg w] at hx; exact absurd hx List.not_mem_nil
  · rw [if_neg hc]; exact h
theorem XN.firm (h : XN n W lk A) : XN n W lk (aFirm n pa up A a) := h.put (fun b => Nat.le_refl _) (fun x hx h6 => by
  rcases List.mem_append.mp hx with e | e
  · obtain ⟨b, _, rfl⟩ := ltrs_mem.mp e
    exact absurd h6 (show ¬ (5 : Int32) = 6 by decide)
  · obtain ⟨b, _, rfl⟩ := ltrs_mem.mp e
    exact absurd h6 (show ¬ (2 : Int32) = 6 by decide))
theorem XN.raise (h : XN n W lk A) : XN n W lk (aRaise n W pa up A a) := by
  unfold aRaise
  have e0 : XN n W lk (aPut A (setRa (aS A) a) []) := h.put (fun b => Nat.le_refl _) (fun x hx => absurd hx List.not_mem_nil)
  split
  · split
    · refine h.put (fun b => Nat.le_refl _) (fun x hx h6 => ?_)
      rw [List.mem_singleton.mp hx] at h6
      exact absurd h6 (show ¬ (3 : Int32) = 6 by decide)
    · split
      · exact e0
      · exact e0.firm
  · exact h
theorem XN.done (h : XN n W lk A) : XN n W lk (aDone n W pa up A a) := by
  unfold aDone
  by_cases hc : mayD n W pa up A a = true
  · rw [if_pos hc]
    have w : W = 2 := by
      unfold mayD at hc
      rw [Bool.and_eq_true, decide_eq_true_eq] at hc
      exact hc.1
    split
    · exact h.put (fun b => Nat.le_refl _) (fun x hx h6 => w)
    · exact h.put (fun b => Nat.le_refl _) (fun x hx h6 => w)
  · rw [if_neg hc]; exact h
theorem XN.one (h : XN n W lk A) : XN n W lk (aOne n W pa up A a) := by
  unfold aOne
  exact XN.done (XN.raise (XN.safe h))
theorem beg_rd (b : Nat) : rdP (aS A) b ≤ rdP (aS (aBeg n p src mk len lk up A a)) b := by
  show _ ≤ fup (rdP (aS A)) a (rdP (aS A) a + 1) b
  by_cases e : b = a
  · rw [e, fup_s]; omega
  · rw [fup_n e]; exact Nat.le_refl _
theorem begG_mem {x : Lt} (h : x ∈ begG n up A a) : ∃ c, c < n ∧ up c = some a ∧ x = (4, nI a, nI c, nI (rdP (aS A) a + 1), 0) := by
  unfold begG at h
  split at h
  · exact absurd h List.not_mem_nil
  · obtain ⟨b, hb, e⟩ := ltrs_mem.mp h
    have := selL_mem.mp hb
    exact ⟨b, this.1, of_decide_eq_true this.2, e⟩
theorem XN.beg (h : XN n W lk A) : XN n W lk (aBeg n p src mk len lk up A a) := by
  refine ⟨fun t f q hc => ?_, fun x hx h6 => ?_⟩
  · obtain ⟨q1, q2, q3, q4, q5⟩ := h.1 t f q hc
    exact ⟨q1, q2, q3, q4, Nat.le_trans q5 (beg_rd f)⟩
  · rcases List.mem_append.mp hx with e | e
    · rcases List.mem_append.mp e with e | e
      · exact h.2 x e h6
      · obtain ⟨c, _, _, rfl⟩ := begG_mem e
        exact absurd h6 (show ¬ (4 : Int32) = 6 by decide)
    · obtain ⟨_, b, _, _, rfl⟩ := begN_mem e
      exact absurd h6 (show ¬ (0 : Int32) = 6 by decide)
theorem XN.go : ∀ f (A : AS), XN n W lk A → XN n W lk (aGo n R W p src mk len lk pa up f A a) := by
  intro f
  induction f with
  | zero => intro A h; exact h
  | succ f ih =>
    intro A h
    unfold aGo
    split
    · exact ih _ (XN.beg (XN.one h))
    · exact XN.one h
theorem XN.act (hF : FRA n W lk pa up ld) (h : QE n R W p lk pa up ld A) {i k f t q : Nat} {x : Int32} (hR : R ≤ 20) (hn : n ≤ 12) (hf : f < n) (ht : t < n) (hq1 : 1 ≤ q) (hqR : q ≤ R) (hx : (aL A)[i]? = some (nI k, nI f, nI t, nI q, x)) : XN n W lk (aAct n p src mk len lk pa up (aErase A i) k f t q x) := by
  have hE : XN n W lk (aErase A i) := ⟨h.2.1, fun y hy => h.2.2 y (List.mem_of_mem_eraseIdx hy)⟩
  have hc : ∀ w, ¬ w = 0 → XN n W lk (aCame (aErase A i) w t f q) := fun w hw => ⟨fun t' f' q' e => hE.1 t' f' q' (by
    have e : cmU (aC A) w t f q 0 t' f' q' = true := e
    rw [cmU_ne (fun z => hw z.1.symm)] at e; exact e), hE.2⟩
  unfold aAct
  split
  · rename_i k0
    refine ⟨fun t' f' q' e => ?_, fun y hy h6 => ?_⟩
    · have e : cmU (aC A) 0 t f q 0 t' f' q' = true := e
      by_cases z : 0 = 0 ∧ t' = t ∧ f' = f ∧ q' = q
      · rw [k0] at hx
        obtain ⟨f1, t1, hf1, ht1, e1, e2, hl, e3, hr, _⟩ := note_rd hF h.1.1 h.1.2.1 (List.mem_of_getElem? hx) rfl
        have hrR := (h.1.1.1 f1 hf1).1
        have ef : f = f1 := i12 (by omega) (by omega) e1
        have et : t = t1 := i12 (by omega) (by omega) e2
        have eq : q = rdP (aS A) f1 := i12 (by omega) (by omega) e3
        rw [z.2.1, z.2.2.1, z.2.2.2]
        refine ⟨hf, ht, by rw [ef, et]; exact hl, hq1, ?_⟩
        show q ≤ rdP (aS A) f
        rw [ef, eq]; exact Nat.le_refl _
      · rw [cmU_ne z] at e
        exact hE.1 t' f' q' e
    · rcases List.mem_append.mp hy with e | e
      · exact hE.2 y e h6
      · rw [List.mem_singleton.mp e] at h6
        exact absurd h6 (show ¬ (1 : Int32) = 6 by decide)
  · split
    · exact hE
    · split
      · exact hc 1 (by omega)
      · split
        · exact hc 2 (by omega)
        · split
          · exact hE.beg
          · split
            · exact hE.firm
            · exact hc 3 (by omega)
theorem QE.one (hn : n ≤ 12) (hR : R ≤ 20) (hW : W ≤ 2) (h : QE n R W p lk pa up ld A) (ha : a < n) (hr : 1 ≤ rdP (aS A) a) : QE n R W p lk pa up ld (aOne n W pa up A a) := ⟨QI.one hn hR hW h.1 ha hr, h.2.one⟩
theorem QE.beg (hn : n ≤ 12) (hR : R ≤ 20) (hM : MLB mk len) (h : QE n R W p lk pa up ld A) (ha : a < n) (hB : BG n R W lk pa up ld A a) : QE n R W p lk pa up ld (aBeg n p src mk len lk up A a) := ⟨h.1.beg hn hR hM ha hB, h.2.beg⟩
theorem QE.go (hn : n ≤ 12) (hR : R ≤ 20) (hW : W ≤ 2) (hF : FRA n W lk pa up ld) (hM : MLB mk len) (ha : a < n) (f : Nat) (h : QE n R W p lk pa up ld A) (hr : 1 ≤ rdP (aS A) a) : QE n R W p lk pa up ld (aGo n R W p src mk len lk pa up f A a) := ⟨(QI.go hn hR hW hF hM ha f A h.1 hr).1, XN.go f A h.2⟩
/-- a node at rest: nothing is due from it -/
def AtR (n R W : Nat) (pa : Nat → Nat → Bool) (up : Nat → Option Nat) (A : AS) (a : Nat) : Prop := ¬ (sfP (aS A) a = false ∧ opP (aS A) a = 0) ∧ mayR n W up A a = false ∧ mayD n W pa up A a = false ∧ ¬ (W = 0 ∧ sfP (aS A) a = true ∧ all1 n pa A a = true ∧ rdP (aS A) a < R)
theorem AtR.s (h : AtR n R W pa up A a) : aSafe n W pa A a = A := by unfold aSafe; rw [if_neg h.1]
theorem AtR.r (h : AtR n R W pa up A a) : aRaise n W pa up A a = A := by unfold aRaise; rw [if_neg (by rw [h.2.1]; decide)]
theorem AtR.d (h : AtR n R W pa up A a) : aDone n W pa up A a = A := by unfold aDone; rw [if_neg (by rw [h.2.2.1]; decide)]
theorem AtR.one (h : AtR n R W pa up A a) : aOne n W pa up A a = A := by unfold aOne; rw [h.s, h.r, h.d]
theorem AtR.ends (h : AtR n R W pa up A a) : ¬ (aEnds n W pa up A a = true ∧ rdP (aS (aOne n W pa up A a)) a < R) := by
  rw [h.one]
  rintro ⟨h1, h2⟩
  unfold aEnds at h1
  rw [h.s, h.r] at h1
  by_cases w : W = 0
  · rw [if_pos w, Bool.and_eq_true] at h1
    exact h.2.2.2 ⟨w, h1.1, h1.2, h2⟩
  · rw [if_neg w] at h1
    by_cases w1 : W = 1
    · rw [if_pos w1, h.2.1] at h1; simp at h1
    · rw [if_neg w1, h.2.2.1] at h1; simp at h1
theorem AtR.go (h : AtR n R W pa up A a) (f : Nat) : aGo n R W p src mk len lk pa up f A a = A := by
  cases f with
  | zero => rfl
  | succ f => unfold aGo; rw [if_neg h.ends, h.one]
/-- all of a node's state but for NOTEs that came is the same -/
def LC (A A' : AS) (b : Nat) : Prop := (rdP (aS A') b = rdP (aS A) b ∧ opP (aS A') b = opP (aS A) b ∧ sfP (aS A') b = sfP (aS A) b ∧ raP (aS A') b = raP (aS A) b ∧ fiP (aS A') b = fiP (aS A) b ∧ dnP (aS A') b = dnP (aS A) b) ∧ ∀ w f q, ¬ w = 0 → aC A' w b f q = aC A w b f q
theorem LC.rf {b : Nat} : LC A A b := ⟨⟨rfl, rfl, rfl, rfl, rfl, rfl⟩, fun _ _ _ _ => rfl⟩
theorem LC.tr {B : AS} {b : Nat} (h : LC A A' b) (h2 : LC A' B b) : LC A B b := ⟨⟨h2.1.1.trans h.1.1, h2.1.2.1.trans h.1.2.1, h2.1.2.2.1.trans h.1.2.2.1, h2.1.2.2.2.1.trans h.1.2.2.2.1, h2.1.2.2.2.2.1.trans h.1.2.2.2.2.1, h2.1.2.2.2.2.2.trans h.1.2.2.2.2.2⟩, fun w f q hw => (h2.2 w f q hw).trans (h.2 w f q hw)⟩
theorem AtR.loc (h : AtR n R W pa up A a) (hl : LC A A' a) : AtR n R W pa up A' a := by
  obtain ⟨⟨e1, e2, e3, e4, e5, e6⟩, ec⟩ := hl
  have a1 : all1 n pa A' a = all1 n pa A a := by
    unfold all1
    rw [e1]
    congr 1; funext b; exact ec 1 b _ (by omega)
  have a2 : all2 n up A' a = all2 n up A a := by
    unfold all2
    rw [e1]
    congr 1; funext b; exact ec 2 b _ (by omega)
  have a3 : all3 n up A' a = all3 n up A a := by
    unfold all3
    rw [e1]
    congr 1; funext b; exact ec 3 b _ (by omega)
  obtain ⟨h1, h2, h3, h4⟩ := h
  refine ⟨by rw [e3, e2]; exact h1, ?_, ?_, by rw [e3, a1, e1]; exact h4⟩
  · unfold mayR at h2 ⊢; rw [e3, e4, a2]; exact h2
  · unfold mayD at h3 ⊢; rw [e5, e6, a1, a3]; exact h3
theorem LC_put {S : PS} {m : List Lt} {b : Nat} (h : rdP S b = rdP (aS A) b ∧ opP S b = opP (aS A) b ∧ sfP S b = sfP (aS A) b ∧ raP S b = raP (aS A) b ∧ fiP S b = fiP (aS A) b ∧ dnP S b = dnP (aS A) b) : LC A (aPut A S m) b := ⟨h, fun _ _ _ _ => rfl⟩
theorem LC_safe {b : Nat} (hb : b ≠ a) : LC A (aSafe n W pa A a) b := by
  unfold aSafe
  split
  · exact LC_put ⟨rfl, rfl, fup_n hb, rfl, rfl, rfl⟩
  · exact LC.rf
theorem LC_firm {b : Nat} (hb : b ≠ a) : LC A (aFirm n pa up A a) b := LC_put ⟨rfl, rfl, rfl, rfl, fup_n hb, rfl⟩
theorem LC_raise {b : Nat} (hb : b ≠ a) : LC A (aRaise n W pa up A a) b := by
  unfold aRaise
  have e0 : LC A (aPut A (setRa (aS A) a) []) b := LC_put ⟨rfl, rfl, rfl, fup_n hb, rfl, rfl⟩
  split
  · split
    · exact LC_put ⟨rfl, rfl, rfl, fup_n hb, rfl, rfl⟩
    · split
      · exact e0
      · exact e0.tr (LC_firm hb)
  · exact LC.rf
theorem LC_done {b : Nat} (hb : b ≠ a) : LC A (aDone n W pa up A a) b := by
  unfold aDone
  split
  · split
    · exact LC_put ⟨rfl, rfl, rfl, rfl, rfl, fup_n hb⟩
    · exact LC_put ⟨rfl, rfl, rfl, rfl, rfl, fup_n hb⟩
  · exact LC.rf
theorem LC_one {b : Nat} (hb : b ≠ a) : LC A (aOne n W pa up A a) b := by
  unfold aOne
  exact ((LC_safe hb).tr (LC_raise hb)).tr (LC_done hb)
theorem LC_beg {b : Nat} (hb : b ≠ a) : LC A (aBeg n p src mk len lk up A a) b := ⟨⟨fup_n hb, fup_n hb, fup_n hb, fup_n hb, fup_n hb, fup_n hb⟩, fun _ _ _ _ => rfl⟩
theorem LC_go {b : Nat} (hb : b ≠ a) : ∀ f (A : AS), LC A (aGo n R W p src mk len lk pa up f A a) b := by
  intro f
  induction f with
  | zero => intro A; exact LC.rf
  | succ f ih =>
    intro A
    unfold aGo
    split
    · exact ((LC_one hb).tr (LC_beg hb)).tr (ih _)
    · exact LC_one hb
theorem LC_came {w t f q b : Nat} (hb : b ≠ t) : LC A (aCame A w t f q) b := ⟨⟨rfl, rfl, rfl, rfl, rfl, rfl⟩, fun w' f' q' _ => by
  show cmU (aC A) w t f q w' b f' q' = _
  exact cmU_ne (fun e => hb e.2.1)⟩
theorem LC_note {t f q b : Nat} {x : Int32} : LC A (aNote A t f q x) b := ⟨⟨rfl, rfl, rfl, rfl, rfl, rfl⟩, fun w' f' q' hw => by
  show cmU (aC A) 0 t f q w' b f' q' = _
  exact cmU_ne (fun e => hw e.1)⟩
theorem LC_act {i k f t q b : Nat} {x : Int32} (hb : b ≠ t) : LC A (aAct n p src mk len lk pa up (aErase A i) k f t q x) b := by
  have e0 : LC A (aErase A i) b := ⟨⟨rfl, rfl, rfl, rfl, rfl, rfl⟩, fun _ _ _ _ => rfl⟩
  unfold aAct
  split
  · exact e0.tr LC_note
  · split
    · exact ⟨⟨rfl, fup_n hb, rfl, rfl, rfl, rfl⟩, fun _ _ _ _ => rfl⟩
    · split
      · exact e0.tr (LC_came hb)
      · split
        · exact e0.tr (LC_came hb)
        · split
          · exact e0.tr (LC_beg hb)
          · split
            · exact e0.tr (LC_firm hb)
            · exact e0.tr (LC_came hb)
theorem sf_raise : sfP (aS (aRaise n W pa up A a)) = sfP (aS A) ∧ opP (aS (aRaise n W pa up A a)) = opP (aS A) ∧ dnP (aS (aRaise n W pa up A a)) = dnP (aS A) ∧ aC (aRaise n W pa up A a) = aC A := by
  unfold aRaise
  split
  · split
    · exact ⟨rfl, rfl, rfl, rfl⟩
    · split <;> exact ⟨rfl, rfl, rfl, rfl⟩
  · exact ⟨rfl, rfl, rfl, rfl⟩
theorem sf_done : sfP (aS (aDone n W pa up A a)) = sfP (aS A) ∧ opP (aS (aDone n W pa up A a)) = opP (aS A) ∧ raP (aS (aDone n W pa up A a)) = raP (aS A) ∧ aC (aDone n W pa up A a) = aC A := by
  unfold aDone
  split
  · split <;> exact ⟨rfl, rfl, rfl, rfl⟩
  · exact ⟨rfl, rfl, rfl, rfl⟩
theorem sf_safe : raP (aS (aSafe n W pa A a)) = raP (aS A) ∧ fiP (aS (aSafe n W pa A a)) = fiP (aS A) ∧ dnP (aS (aSafe n W pa A a)) = dnP (aS A) ∧ opP (aS (aSafe n W pa A a)) = opP (aS A) ∧ aC (aSafe n W pa A a) = aC A := by
  unfold aSafe
  split <;> exact ⟨rfl, rfl, rfl, rfl, rfl⟩
/-- behind aOne nothing is due, but a next round -/
theorem AtR_one (hs : ¬ (aEnds n W pa up A a = true ∧ rdP (aS (aOne n W pa up A a)) a < R)) : AtR n R W pa up (aOne n W pa up A a) a := by
  have s1 : ¬ (sfP (aS (aSafe n W pa A a)) a = false ∧ opP (aS (aSafe n W pa A a)) a = 0) := by
    unfold aSafe
    by_cases hc : sfP (aS A) a = false ∧ opP (aS A) a = 0
    · rw [if_pos hc]
      rintro ⟨q, _⟩
      have q : fup (sfP (aS A)) a true a = false := q
      rw [fup_s] at q; exact absurd q (by decide)
    · rw [if_neg hc]; exact hc
  have s2 : ∀ B : AS, mayR n W up (aRaise n W pa up B a) a = false := fun B => by
    by_cases hc : mayR n W up B a = true
    · have : raP (aS (aRaise n W pa up B a)) a = true := by
        unfold aRaise
        rw [if_pos hc]
        split
        · exact fup_s
        · split <;> exact fup_s
      unfold mayR
      rw [this]; simp
    · have : aRaise n W pa up B a = B := by unfold aRaise; rw [if_neg hc]
      rw [this]; exact Bool.eq_false_iff.mpr hc
  have s3 : ∀ B : AS, mayR n W up (aDone n W pa up B a) a = mayR n W up B a := fun B => by
    unfold mayR all2
    rw [(sf_done (A := B)).1, (sf_done (A := B)).2.2.1, (sf_done (A := B)).2.2.2, aDone_rd]
  have s4 : ∀ B : AS, mayD n W pa up (aDone n W pa up B a) a = false := fun B => by
    by_cases hc : mayD n W pa up B a = true
    · have : dnP (aS (aDone n W pa up B a)) a = true := by
        unfold aDone
        rw [if_pos hc]
        split <;> exact fup_s
      unfold mayD
      rw [this]; simp
    · have : aDone n W pa up B a = B := by unfold aDone; rw [if_neg hc]
      rw [this]; exact Bool.eq_false_iff.mpr hc
  refine ⟨?_, ?_, s4 _, ?_⟩
  · unfold aOne
    rw [sf_done.1, sf_done.2.1, sf_raise.1, sf_raise.2.1]; exact s1
  · unfold aOne
    rw [s3]; exact s2 _
  · rintro ⟨w, q1, q2, q3⟩
    refine hs ⟨?_, q3⟩
    have e1 : aOne n W pa up A a = aSafe n W pa A a := by
      unfold aOne aDone aRaise mayR mayD
      rw [if_neg (by rw [w]; simp), if_neg (by rw [w]; simp)]
    rw [e1] at q1 q2
    unfold aEnds
    rw [if_pos w, q1, q2]; rfl
theorem AtR_go : ∀ f (A : AS), rdP (aS A) a ≤ R → R - rdP (aS A) a < f → AtR n R W pa up (aGo n R W p src mk len lk pa up f A a) a := by
  intro f
  induction f with
  | zero => intro A _ h; exact absurd h (Nat.not_lt_zero _)
  | succ f ih =>
    intro A h0 h
    unfold aGo
    by_cases hc : aEnds n W pa up A a = true ∧ rdP (aS (aOne n W pa up A a)) a < R
    · rw [if_pos hc]
      have e : rdP (aS (aBeg n p src mk len lk up (aOne n W pa up A a) a)) a = rdP (aS (aOne n W pa up A a)) a + 1 := fup_s
      have e2 := aOne_rd (n := n) (W := W) (pa := pa) (up := up) (A := A) (a := a)
      have h2 := hc.2
      exact ih _ (by omega) (by rw [e, e2] at *; omega)
    · rw [if_neg hc]; exact AtR_one hc
/-- what holds between two letters -/
def QR (n R W p : Nat) (lk pa : Nat → Nat → Bool) (up : Nat → Option Nat) (ld : Nat → Nat) (A : AS) : Prop := QE n R W p lk pa up ld A ∧ (∀ c, c < n → 1 ≤ rdP (aS A) c) ∧ ∀ c, c < n → AtR n R W pa up A c
theorem QR.handle (hn : n ≤ 12) (hR : R ≤ 20) (hR1 : 1 ≤ R) (hW : W ≤ 2) (hF : FRA n W lk pa up ld) (hM : MLB mk len) (h : QR n R W p lk pa up ld A) {i k f t q : Nat} {x : Int32} (hk : k < 7) (hf : f < n) (ht : t < n) (hq1 : 1 ≤ q) (hqR : q ≤ R) (hx : (aL A)[i]? = some (nI k, nI f, nI t, nI q, x)) : QR n R W p lk pa up ld (aHandle n R W p src mk len lk pa up A i k f t q x) := by
  obtain ⟨h1, h2, h3⟩ := h
  obtain ⟨g1, g2⟩ := h1.1.act (src := src) (mk := mk) (len := len) hn hR hW hF hM h2 hk hf ht hq1 hqR hx
  have g3 : QE n R W p lk pa up ld (aAct n p src mk len lk pa up (aErase A i) k f t q x) := ⟨g1, XN.act hF h1 hR hn hf ht hq1 hqR hx⟩
  have r1 : 1 ≤ rdP (aS (aAct n p src mk len lk pa up (aErase A i) k f t q x)) t := Nat.le_trans (h2 t ht) (g2 t)
  have g4 := QE.go (src := src) hn hR hW hF hM ht R g3 r1
  refine ⟨g4, ?_, fun c hc => ?_⟩
  · exact (h1.1.handle (src := src) (mk := mk) (len := len) hn hR hW hF hM h2 hk hf ht hq1 hqR hx).2
  · by_cases e : c = t
    · rw [e]
      have := (g1.1.1 t ht).1
      exact AtR_go R _ this (by omega)
    · exact (h3 c hc).loc ((LC_act e).tr (LC_go e R _))
end QES
