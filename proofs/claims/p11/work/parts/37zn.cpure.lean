-- What the class keeps of the pure machine: stages, counts, two rows of notes; pure
def stg (W : Nat) (S : PS) (a : Nat) : Nat := if W = 0 then (if sfP S a = true then 1 else 0) else if dnP S a = true then 3 else if fiP S a = true then 2 else if raP S a = true then 1 else 0
def noteR (n : Nat) (A : AS) (a r f : Nat) : Int32 := if f < n ∧ aC A 0 a f r = true then aM A a f r else -2
section CPU
variable {n R W p : Nat} {src : Int32} {mk : Nat → Int32} {len : Nat → Nat → Int32} {lk pa : Nat → Nat → Bool} {up : Nat → Option Nat} {ld : Nat → Nat} {A : AS} {a : Nat}
theorem noteR_F {r b : Nat} (hr : ¬ r = 1) : noteF n A a r b = noteR n A a (r - 1) b := by
  unfold noteF noteR
  by_cases h : b < n ∧ aC A 0 a b (r - 1) = true
  · rw [if_pos ⟨hr, h⟩, if_pos h]
  · rw [if_neg (fun q => h q.2), if_neg h]
theorem cnt_up {P F F' : Nat → Bool} {f : Nat} (hp : P f = true) (h0 : F f = false) (h1 : F' f = true) (h2 : ∀ c, c ≠ f → F' c = F c) : ∀ k, (selL P k).countP F' = (selL P k).countP F + (if f < k then 1 else 0) := by
  intro k
  induction k with
  | zero => rfl
  | succ k ih =>
    unfold selL
    rw [List.countP_append, List.countP_append, ih]
    by_cases e : k = f
    · rw [e, if_pos hp, List.countP_singleton, List.countP_singleton, h0, h1, if_neg (Nat.lt_irrefl f), if_pos (Nat.lt_succ_self f)]
      rfl
    · have h3 : (if P k = true then [k] else []).countP F' = (if P k = true then [k] else []).countP F := by
        by_cases q : P k = true
        · rw [if_pos q, List.countP_singleton, List.countP_singleton, h2 k e]
        · rw [if_neg q]; rfl
      rw [h3]
      by_cases q : f < k
      · rw [if_pos q, if_pos (show f < k + 1 by omega)]; omega
      · rw [if_neg q, if_neg (show ¬ f < k + 1 by omega)]; omega
theorem cnt_eq {P F F' : Nat → Bool} {k : Nat} (h : ∀ c, c < k → P c = true → F' c = F c) : (selL P k).countP F' = (selL P k).countP F := by
  refine List.countP_congr (fun c hc => ?_)
  have := selL_mem.mp hc
  rw [h c this.1 this.2]
theorem cnt_0 {P F : Nat → Bool} {k : Nat} (h : ∀ c, c < k → P c = true → F c = false) : (selL P k).countP F = 0 := List.countP_eq_zero.mpr (fun c hc q => by
  have := selL_mem.mp hc
  rw [h c this.1 this.2] at q; exact absurd q (by decide))
theorem cnt_all {P F : Nat → Bool} {k : Nat} (hk : k ≤ 12) : (nI ((selL P k).countP F) = nI (selL P k).length) ↔ (selL P k).all F = true := by
  have h1 := selL_len (P := P) k
  have h2 : (selL P k).countP F ≤ (selL P k).length := List.countP_le_length
  rw [nI_eq (by omega) (by omega), List.countP_eq_length, List.all_eq_true]
theorem selL_sing {f : Nat} : ∀ {k : Nat}, f < k → selL (fun b => decide (b = f)) k = [f] := by
  have h0 : ∀ k, k ≤ f → selL (fun b => decide (b = f)) k = [] := fun k => by
    induction k with
    | zero => intro _; rfl
    | succ k ih => intro h; unfold selL; rw [ih (by omega), if_neg (fun q => by have := of_decide_eq_true q; omega)]; rfl
  intro k
  induction k with
  | zero => intro h; exact absurd h (Nat.not_lt_zero f)
  | succ k ih =>
    intro h
    unfold selL
    by_cases e : k = f
    · rw [h0 k (by omega), if_pos (decide_eq_true e), e]; rfl
    · rw [ih (by omega), if_neg (fun q => e (of_decide_eq_true q))]; rfl
theorem selL_none : ∀ k, selL (fun b => decide ((none : Option Nat) = some b)) k = [] := by
  intro k
  induction k with
  | zero => rfl
  | succ k ih => unfold selL; rw [ih, if_neg (by simp)]; rfl
theorem selL_up {u : Nat} {k : Nat} (h : u < k) : selL (fun b => decide (some u = some b)) k = [u] := by
  rw [← selL_sing h]
  congr 1; funext b
  by_cases e : b = u
  · rw [e, decide_eq_true rfl, decide_eq_true rfl]
  · rw [decide_eq_false e, decide_eq_false (fun q => e (Option.some.inj q).symm)]
theorem ld_iff (hF : FRA n W lk pa up ld) (ha : a < n) : ld a = a ↔ up a = none := by
  constructor
  · intro h
    have := hF.2.2.2.2.2.2.2.2 a ha
    rw [h] at this; exact this
  · intro h
    obtain ⟨d, hd⟩ := (hF.1 a ha).2
    cases d with
    | zero => exact (show a = ld a from hd).symm
    | succ d =>
      obtain ⟨u, hu, _⟩ := hd
      rw [h] at hu; exact absurd hu (by simp)
/-- no SAFE and no NOTE of the round after the next can have come -/
theorem far_1 (hF : FRA n W lk pa up ld) (h : QE n R W p lk pa up ld A) {f q : Nat} (ha : a < n) (hf : f < n) (hq : rdP (aS A) a + 2 ≤ q) : aC A 1 a f q = false ∧ aC A 0 a f q = false := by
  have key : lk f a = true → q ≤ rdP (aS A) f → False := fun hl hr => by
    have := T_of h.1.1 h.1.2.1 (fun c hc => (hF.1 c hc).2) hf ha hl (r := rdP (aS A) a + 1) (by omega) (by omega)
    rcases this with q2 | ⟨q2, _⟩ <;> omega
  constructor
  · cases e : aC A 1 a f q with
    | false => rfl
    | true =>
      obtain ⟨_, hp, hfl⟩ := h.1.2.1.2.1.2.1 f a q hf ha e
      exact absurd (key (hF.2.2.1 f a hf ha hp) (by rcases hfl with z | z <;> omega)) (fun z => z)
  · cases e : aC A 0 a f q with
    | false => rfl
    | true =>
      obtain ⟨_, _, hl, _, hr⟩ := h.2.1 a f q e
      exact absurd (key hl hr) (fun z => z)
/-- no READY and no DONE of the next round can have come -/
theorem far_2 (hR : R ≤ 20) (h : QE n R W p lk pa up ld A) (hB : BG n R W lk pa up ld A a) (hz : rdP (aS A) a = 0 → ∀ w b q, aC A w a b q = false) {c : Nat} (hc : c < n) (hu : up c = some a) : aC A 2 a c (rdP (aS A) a + 1) = false ∧ aC A 3 a c (rdP (aS A) a + 1) = false := by
  by_cases r0 : rdP (aS A) a = 0
  · exact ⟨hz r0 2 c _, hz r0 3 c _⟩
  · obtain ⟨b1, _, _, _, b5⟩ := hB
    have hrc := ((b5 (by omega)).2.1 c hc hu).1
    constructor
    · cases e : aC A 2 a c (rdP (aS A) a + 1) with
      | false => rfl
      | true =>
        have := (h.1.1.1 c hc).2.2.2.1 _ ⟨by omega, a, hu, e⟩
        omega
    · cases e : aC A 3 a c (rdP (aS A) a + 1) with
      | false => rfl
      | true =>
        have := (h.1.1.1 c hc).2.2.2.2 _ ⟨by omega, a, hu, e⟩
        omega
/-- open is not below nothing -/
theorem op_nn (h : QE n R W p lk pa up ld A) (ha : a < n) (hr : 1 ≤ rdP (aS A) a) : 0 ≤ opP (aS A) a ∧ opP (aS A) a ≤ 12 ∧ (sfP (aS A) a = true → opP (aS A) a = 0) := by
  have h1 := h.1.2.1.1.2.2 a ha hr
  obtain ⟨h2, h3, _⟩ := (h.1.1.1 a ha).2.1 hr
  refine ⟨by omega, h2, fun e => ?_⟩
  have := h3 e
  omega
/-- raised, but not yet firm -/
def aTree (n W : Nat) (pa : Nat → Nat → Bool) (up : Nat → Option Nat) (A : AS) (a : Nat) : AS := if mayR n W up (aSafe n W pa A a) a = true then aPut (aSafe n W pa A a) (setRa (aS (aSafe n W pa A a)) a) (ltrs 3 a (rdP (aS A) a) 0 (selL (fun b => decide (up a = some b)) n)) else aSafe n W pa A a
theorem aTree_1 (hun : ∀ u, up a = some u → u < n) (hW : W = 1 ∨ ¬ (mayR n W up (aSafe n W pa A a) a = true ∧ up a = none)) : aTree n W pa up A a = aRaise n W pa up (aSafe n W pa A a) a := by
  unfold aTree aRaise
  by_cases hm : mayR n W up (aSafe n W pa A a) a = true
  · rw [if_pos hm, if_pos hm]
    cases hu : up a with
    | some u =>
      dsimp only
      rw [selL_up (hun u hu), aSafe_rd]; rfl
    | none =>
      dsimp only
      rw [selL_none]
      rcases hW with w | w
      · rw [if_pos w]; rfl
      · exact absurd ⟨hm, hu⟩ w
  · rw [if_neg hm, if_neg hm]
theorem aTree_2 (hm : mayR n W up (aSafe n W pa A a) a = true) (hu : up a = none) (hW : W = 2) : aFirm n pa up (aTree n W pa up A a) a = aRaise n W pa up (aSafe n W pa A a) a := by
  unfold aTree aRaise
  rw [if_pos hm, if_pos hm, hu]
  dsimp only
  rw [selL_none, if_neg (by omega)]; rfl
/-- a GO comes: the node may begin -/
theorem BG_go (hn : n ≤ 12) (hR : R ≤ 20) (hW : W ≤ 2) (hF : FRA n W lk pa up ld) (h : QI n R W p lk pa up ld A) {i k f t q : Nat} {x : Int32} (ht : t < n) (hx : (aL A)[i]? = some (nI k, nI f, nI t, nI q, x)) (k4 : k = 4) : BG n R W lk pa up ld (aErase A i) t ∧ nI q = nI (rdP (aS A) t + 1) := by
  have hm := List.mem_of_getElem? hx
  have hP := h.1
  have hX := h.2.1
  have hg := gos_erase hx t
  have hgt := hP.2.2.1 t ht
  obtain ⟨c, u, p1, p2, p3, p4, p5, p6, p7, p8, p9⟩ := (hP.2.1 _ hm).2.2.2.1 (by rw [k4]; rfl)
  have ec : t = c := i12 (by omega) (by omega) p3
  rw [← ec] at p4 p5 p6 p7 p8 p9
  have hNL := (hP.1 t ht).2.1 p7
  have hru := (hP.1 u p2).1
  have w0 : ¬ W = 0 := fun w => by rw [(hF.2.2.2.2.2.1 w).2.2 t ht] at p4; exact absurd p4 (by simp)
  refine ⟨⟨?_, fun u' hu' => ?_, ?_, ?_, fun _ => ⟨?_, fun c hc huc => ?_, fun f hf hp => ?_, fun c hc huc => ?_, fun y b hy hb he hl => ?_⟩⟩, p5⟩
  · show rdP (aS A) t + 1 ≤ R
    omega
  · rw [p4] at hu'
    rw [← Option.some.inj hu']; exact Or.inl p6
  · show gos ((aL A).eraseIdx i) t = 0
    rw [if_pos ⟨by rw [k4]; rfl, rfl⟩] at hg
    omega
  · show frs ((aL A).eraseIdx i) t = 0
    refine frs_0 (fun y hy y1 y2 => ?_)
    obtain ⟨w2, c', u', r1, r2, r3, r4, r5, r6, r7, _⟩ := (hP.2.1 y (List.mem_of_mem_eraseIdx hy)).2.2.2.2 y1
    have ec' : c' = t := i12 (by omega) (by omega) (r3.symm.trans y2)
    rw [ec'] at r7
    have := hNL.2.2.2.1 (p9 w2)
    rw [r7] at this; exact absurd this (by decide)
  · exact (op_0 h ht p7).2 (hNL.2.2.1 p8)
  · obtain ⟨q1, q2⟩ := hP.lower ht p7 p8 hc huc
    refine ⟨q1, q2, fun w2 => ?_⟩
    have := hNL.2.2.2.2.2.2 (p9 w2) c hc huc
    exact ((hP.1 c hc).2.2.2.2 _ this).2 q1.symm
  · by_cases w : W = 2
    · exact (hX.2.2.1 t f ht hf hp).2 w p7 (p9 w)
    · by_cases w1 : W = 1
      · rw [(hF.2.2.2.2.2.2.1 w1).2 t f ht hf] at hp; exact absurd hp (by decide)
      · exfalso
        omega
  · obtain ⟨_, u', q1, q2⟩ := hNL.2.2.2.2.2.1 p8 c hc huc
    rw [huc] at q1
    rw [← Option.some.inj q1] at q2
    refine ⟨q2, fun w2 => ?_⟩
    obtain ⟨_, u'', p1', p2'⟩ := hNL.2.2.2.2.2.2 (p9 w2) c hc huc
    rw [huc] at p1'
    rw [← Option.some.inj p1'] at p2'
    exact p2'
  · exfalso
    have := hF.2.2.2.2.2.2.2.2 y hy
    rw [he, p4] at this; exact absurd this (by simp)
end CPU
