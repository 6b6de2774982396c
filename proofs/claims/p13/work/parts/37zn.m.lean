section
-- What the class keeps of the pure machine: stages, counts, two rows of notes; pure
def stg (W : Nat) (S : PS) (a : Nat) : Nat := if W = 0 then (if sfP S a = true then 1 else 0) else if dnP S a = true then 3 else if fiP S a = true then 2 else if raP S a = true then 1 else 0
def noteR (n : Nat) (A : AS) (a r f : Nat) : Int32 := if f < n ∧ aC A 0 a f r = true then aM A a f r else -2
section CPU
variable {n R W p : Nat} {src : Int32} {mk : Nat → Int32} {len : Nat → Nat → Int32} {lk pa : Nat → Nat → Bool} {up : Nat → Option Nat} {ld : Nat → Nat} {A : AS} {a : Nat}
theorem noteR_F {r b : Nat} (hr : ¬ r = 1) : noteF n A a r b = noteR n A a (r - 1) b := by
  unfold noteF noteR
  by_cases h : b < n ∧ aC A 0 a b (r - 1) = true
  · rw [if_pos ⟨hr, h⟩, if_pos h]
  · rw [if_neg (fun q => h q.2), if_neg h]
theorem cnt_up {P F F' : Nat → Bool} {f : Nat} (hp : P f = true) (h0 : F f = false) (h1 : F' f = true) (h2 : ∀ c, c ≠ f → F' c = F c) : ∀ k, (selL P k).countP F' = (selL P k).countP F + (if f < k then 1 else 0) := by
  intro k
  induction k with
  | zero => rfl
  | succ k ih =>
    unfold selL
    rw [List.countP_append, List.countP_append, ih]
    by_cases e : k = f
    · rw [e, if_pos hp, List.countP_singleton, List.countP_singleton, h0, h1, if_neg (Nat.lt_irrefl f), if_pos (Nat.lt_succ_self f)]
      rfl
    · have h3 : (if P k = true then [k] else []).countP F' = (if P k = true then [k] else []).countP F := by
        by_cases q : P k = true
        · rw [if_pos q, List.countP_singleton, List.countP_singleton, h2 k e]
        · rw [if_neg q]; rfl
      rw [h3]
      by_cases q : f < k
      · rw [if_pos q, if_pos (show f < k + 1 by omega)]; omega
      · rw [if_neg q, if_neg (show ¬ f < k + 1 by omega)]; omega
theorem cnt_eq {P F F' : Nat → Bool} {k : Nat} (h : ∀ c, c < k → P c = true → F' c = F c) : (selL P k).countP F' = (selL P k).countP F := by
  refine List.countP_congr (fun c hc => ?_)
  have := selL_mem.mp hc
  rw [h c this.1 this.2]
theorem cnt_0 {P F : Nat → Bool} {k : Nat} (h : ∀ c, c < k → P c = true → F c = false) : (selL P k).countP F = 0 := List.countP_eq_zero.mpr (fun c hc q => by
  have := selL_mem.mp hc
  rw [h c this.1 this.2] at q; exact absurd q (by decide))
theorem cnt_all {P F : Nat → Bool} {k : Nat} (hk : k ≤ 12) : (nI ((selL P k).countP F) = nI (selL P k).length) ↔ (selL P k).all F = true := by
  have h1 := selL_len (P := P) k
  have h2 : (selL P k).countP F ≤ (selL P k).length := List.countP_le_length
  rw [nI_eq (by omega) (by omega), List.countP_eq_length, List.all_eq_true]
theorem selL_sing {f : Nat} : ∀ {k : Nat}, f < k → selL (fun b => decide (b = f)) k = [f] := by
  have h0 : ∀ k, k ≤ f → selL (fun b => decide (b = f)) k = [] := fun k => by
    induction k with
    | zero => intro _; rfl
    | succ k ih => intro h; unfold selL; rw [ih (by omega), if_neg (fun q => by have := of_decide_eq_true q; omega)]; rfl
  intro k
  induction k with
  | zero => intro h; exact absurd h (Nat.not_lt_zero f)
  | succ k ih =>
    intro h
    unfold selL
    by_cases e : k = f
    · rw [h0 k (by omega), if_pos (decide_eq_true e), e]; rfl
    · rw [ih (by omega), if_neg (fun q => e (of_decide_eq_true q))]; rfl
theorem selL_none : ∀ k, selL (fun b => decide ((none : Option Nat) = some b)) k = [] := by
  intro k
  induction k with
  | zero => rfl
  | succ k ih => unfold selL; rw [ih, if_neg (by simp)]; rfl
theorem selL_up {u : Nat} {k : Nat} (h : u < k) : selL (fun b => decide (some u = some b)) k = [u] := by
  rw [← selL_sing h]
  congr 1; funext b
  by_cases e : b = u
  · rw [e, decide_eq_true rfl, decide_eq_true rfl]
  · rw [decide_eq_false e, decide_eq_false (fun q => e (Option.some.inj q).symm)]
theorem ld_iff (hF : FRA n W lk pa up ld) (ha : a < n) : ld a = a ↔ up a = none := by
  constructor
  · intro h
    have := hF.2.2.2.2.2.2.2.2 a ha
    rw [h] at this; exact this
  · intro h
    obtain ⟨d, hd⟩ := (hF.1 a ha).2
    cases d with
    | zero => exact (show a = ld a from hd).symm
    | succ d =>
      obtain ⟨u, hu, _⟩ := hd
      rw [h] at hu; exact absurd hu (by simp)
/-- no SAFE and no NOTE of the round after the next can have come -/
theorem far_1 (hF : FRA n W lk pa up ld) (h : QE n R W p lk pa up ld A) {f q : Nat} (ha : a < n) (hf : f < n) (hq : rdP (aS A) a + 2 ≤ q) : aC A 1 a f q = false ∧ aC A 0 a f q = false := by
  have key : lk f a = true → q ≤ rdP (aS A) f → False := fun hl hr => by
    have := T_of h.1.1 h.1.2.1 (fun c hc => (hF.1 c hc).2) hf ha hl (r := rdP (aS A) a + 1) (by omega) (by omega)
    rcases this with q2 | ⟨q2, _⟩ <;> omega
  constructor
  · cases e : aC A 1 a f q with
    | false => rfl
    | true =>
      obtain ⟨_, hp, hfl⟩ := h.1.2.1.2.1.2.1 f a q hf ha e
      exact absurd (key (hF.2.2.1 f a hf ha hp) (by rcases hfl with z | z <;> omega)) (fun z => z)
  · cases e : aC A 0 a f q with
    | false => rfl
    | true =>
      obtain ⟨_, _, hl, _, hr⟩ := h.2.1 a f q e
      exact absurd (key hl hr) (fun z => z)
/-- no READY and no DONE of the next round can have come -/
theorem far_2 (hR : R ≤ 20) (h : QE n R W p lk pa up ld A) (hB : BG n R W lk pa up ld A a) (hz : rdP (aS A) a = 0 → ∀ w b q, aC A w a b q = false) {c : Nat} (hc : c < n) (hu : up c = some a) : aC A 2 a c (rdP (aS A) a + 1) = false ∧ aC A 3 a c (rdP (aS A) a + 1) = false := by
  by_cases r0 : rdP (aS A) a = 0
  · exact ⟨hz r0 2 c _, hz r0 3 c _⟩
  · obtain ⟨b1, _, _, _, b5⟩ := hB
    have hrc := ((b5 (by omega)).2.1 c hc hu).1
    constructor
    · cases e : aC A 2 a c (rdP (aS A) a + 1) with
      | false => rfl
      | true =>
        have := (h.1.1.1 c hc).2.2.2.1 _ ⟨by omega, a, hu, e⟩
        omega
    · cases e : aC A 3 a c (rdP (aS A) a + 1) with
      | false => rfl
      | true =>
        have := (h.1.1.1 c hc).2.2.2.2 _ ⟨by omega, a, hu, e⟩
        omega
/-- open is not below nothing -/
theorem op_nn (h : QE n R W p lk pa up ld A) (ha : a < n) (hr : 1 ≤ rdP (aS A) a) : 0 ≤ opP (aS A) a ∧ opP (aS A) a ≤ 12 ∧ (sfP (aS A) a = true → opP (aS A) a = 0) := by
  have h1 := h.1.2.1.1.2.2 a ha hr
  obtain ⟨h2, h3, _⟩ := (h.1.1.1 a ha).2.1 hr
  refine ⟨by omega, h2, fun e => ?_⟩
  have := h3 e
  omega
/-- raised, but not yet firm -/
def aTree (n W : Nat) (pa : Nat → Nat → Bool) (up : Nat → Option Nat) (A : AS) (a : Nat) : AS := if mayR n W up (aSafe n W pa A a) a = true then aPut (aSafe n W pa A a) (setRa (aS (aSafe n W pa A a)) a) (ltrs 3 a (rdP (aS A) a) 0 (selL (fun b => decide (up a = some b)) n)) else aSafe n W pa A a
theorem aTree_1 (hun : ∀ u, up a = some u → u < n) (hW : W = 1 ∨ ¬ (mayR n W up (aSafe n W pa A a) a = true ∧ up a = none)) : aTree n W pa up A a = aRaise n W pa up (aSafe n W pa A a) a := by
  unfold aTree aRaise
  by_cases hm : mayR n W up (aSafe n W pa A a) a = true
  · rw [if_pos hm, if_pos hm]
    cases hu : up a with
    | some u =>
      dsimp only
      rw [selL_up (hun u hu), aSafe_rd]; rfl
    | none =>
      dsimp only
      rw [selL_none]
      rcases hW with w | w
      · rw [if_pos w]; rfl
      · exact absurd ⟨hm, hu⟩ w
  · rw [if_neg hm, if_neg hm]
theorem aTree_2 (hm : mayR n W up (aSafe n W pa A a) a = true) (hu : up a = none) (hW : W = 2) : aFirm n pa up (aTree n W pa up A a) a = aRaise n W pa up (aSafe n W pa A a) a := by
  unfold aTree aRaise
  rw [if_pos hm, if_pos hm, hu]
  dsimp only
  rw [selL_none, if_neg (by omega)]; rfl
/-- a GO comes: the node may begin -/
theorem BG_go (hn : n ≤ 12) (hR : R ≤ 20) (hW : W ≤ 2) (hF : FRA n W lk pa up ld) (h : QI n R W p lk pa up ld A) {i k f t q : Nat} {x : Int32} (ht : t < n) (hx : (aL A)[i]? = some (nI k, nI f, nI t, nI q, x)) (k4 : k = 4) : BG n R W lk pa up ld (aErase A i) t ∧ nI q = nI (rdP (aS A) t + 1) := by
  have hm := List.mem_of_getElem? hx
  have hP := h.1
  have hX := h.2.1
  have hg := gos_erase hx t
  have hgt := hP.2.2.1 t ht
  obtain ⟨c, u, p1, p2, p3, p4, p5, p6, p7, p8, p9⟩ := (hP.2.1 _ hm).2.2.2.1 (by rw [k4]; rfl)
  have ec : t = c := i12 (by omega) (by omega) p3
  rw [← ec] at p4 p5 p6 p7 p8 p9
  have hNL := (hP.1 t ht).2.1 p7
  have hru := (hP.1 u p2).1
  have w0 : ¬ W = 0 := fun w => by rw [(hF.2.2.2.2.2.1 w).2.2 t ht] at p4; exact absurd p4 (by simp)
  refine ⟨⟨?_, fun u' hu' => ?_, ?_, ?_, fun _ => ⟨?_, fun c hc huc => ?_, fun f hf hp => ?_, fun c hc huc => ?_, fun y b hy hb he hl => ?_⟩⟩, p5⟩
  · show rdP (aS A) t + 1 ≤ R
    omega
  · rw [p4] at hu'
    rw [← Option.some.inj hu']; exact Or.inl p6
  · show gos ((aL A).eraseIdx i) t = 0
    rw [if_pos ⟨by rw [k4]; rfl, rfl⟩] at hg
    omega
  · show frs ((aL A).eraseIdx i) t = 0
    refine frs_0 (fun y hy y1 y2 => ?_)
    obtain ⟨w2, c', u', r1, r2, r3, r4, r5, r6, r7, _⟩ := (hP.2.1 y (List.mem_of_mem_eraseIdx hy)).2.2.2.2 y1
    have ec' : c' = t := i12 (by omega) (by omega) (r3.symm.trans y2)
    rw [ec'] at r7
    have := hNL.2.2.2.1 (p9 w2)
    rw [r7] at this; exact absurd this (by decide)
  · exact (op_0 h ht p7).2 (hNL.2.2.1 p8)
  · obtain ⟨q1, q2⟩ := hP.lower ht p7 p8 hc huc
    refine ⟨q1, q2, fun w2 => ?_⟩
    have := hNL.2.2.2.2.2.2 (p9 w2) c hc huc
    exact ((hP.1 c hc).2.2.2.2 _ this).2 q1.symm
  · by_cases w : W = 2
    · exact (hX.2.2.1 t f ht hf hp).2 w p7 (p9 w)
    · by_cases w1 : W = 1
      · rw [(hF.2.2.2.2.2.2.1 w1).2 t f ht hf] at hp; exact absurd hp (by decide)
      · exfalso
        omega
  · obtain ⟨_, u', q1, q2⟩ := hNL.2.2.2.2.2.1 p8 c hc huc
    rw [huc] at q1
    rw [← Option.some.inj q1] at q2
    refine ⟨q2, fun w2 => ?_⟩
    obtain ⟨_, u'', p1', p2'⟩ := hNL.2.2.2.2.2.2 (p9 w2) c hc huc
    rw [huc] at p1'
    rw [← Option.some.inj p1'] at p2'
    exact p2'
  · exfalso
    have := hF.2.2.2.2.2.2.2.2 y hy
    rw [he, p4] at this; exact absurd this (by simp)
end CPU
end
section
-- The class is the pure machine: sending, counting, the next round
theorem bN_sel {x : Int32} {P : Nat → Bool} : ∀ {k : Nat}, (∀ b, b < k → zIn x (nI b) = P b) → bN x k = (selL P k).length := by
  intro k
  induction k with
  | zero => intro _; rfl
  | succ k ih =>
    intro h
    unfold bN selL
    rw [ih (fun b hb => h b (by omega)), List.length_append, h k (by omega)]
    by_cases e : P k = true
    · rw [if_pos e, if_pos e]; rfl
    · rw [if_neg e, if_neg e]; rfl
theorem zBc_sel {x : Int32} {n : Nat} {P : Nat → Bool} (hn : n ≤ 12) (h : ∀ b, b < 32 → (zIn x (nI b) = true ↔ (b < n ∧ P b = true))) : zBc x = nI (selL P n).length := by
  have h0 : ∀ c, n ≤ c → c < 32 → zIn x (nI c) = false := fun c h1 h2 => by
    cases e : zIn x (nI c) with
    | false => rfl
    | true => have := ((h c h2).mp e).1; omega
  rw [zBc_bN (fun c h1 h2 => h0 c (by omega) h2), bN_cut hn (fun c h1 h2 => h0 c h1 (by omega)), bN_sel (fun b hb => ?_)]
  cases e : zIn x (nI b) with
  | true => exact ((h b (by omega)).mp e).2.symm
  | false =>
    cases e2 : P b with
    | false => rfl
    | true => rw [(h b (by omega)).mpr ⟨hb, e2⟩] at e; exact absurd e (by decide)
/-- τ is σ with the letters m sent -/
def SC (σ τ : zSt) (l m : List Lt) : Prop := RF FPool σ τ ∧ PV τ (l ++ m) ∧ τ 1 6 = σ 1 6 + nI (cNo m) ∧ τ 1 7 = σ 1 7 + nI (cOt m)
theorem SC.rf {σ : zSt} {l : List Lt} (h : PV σ l) : SC σ σ l [] := ⟨RF.rf, by rw [List.append_nil]; exact h, (Int32.add_zero _).symm, (Int32.add_zero _).symm⟩
theorem SC.tr {σ τ υ : zSt} {l m m' : List Lt} (h : SC σ τ l m) (h2 : SC τ υ (l ++ m) m') : SC σ υ l (m ++ m') := by
  obtain ⟨a1, a2, a3, a4⟩ := h
  obtain ⟨b1, b2, b3, b4⟩ := h2
  exact ⟨a1.tr b1, by rw [← List.append_assoc]; exact b2, by rw [b3, a3, cNo_app, ← nI_add, Int32.add_assoc], by rw [b4, a4, cOt_app, ← nI_add, Int32.add_assoc]⟩
theorem s_Course_send2 (G : zG) (σ : zSt) (n a r : Nat) (l : List Lt) (kind recv num : Int32) (P : Nat → Bool) (hn : σ 2 0 = nI n) (hle : n ≤ 12) (hP : PV σ l) (hz : ∀ b, b < n → zIn recv (nI b) = P b) (hl : (l ++ ltrs kind a r num (selL P n)).length ≤ 528) : zV G 1 M_Course_send [zf G 1, .int kind, .int (nI a), .int recv, .int (nI r), .int num] σ (fun τ => SC σ τ l (ltrs kind a r num (selL P n))) := by
  refine zSpec.of (by decide) (Nat.le_of_ble_eq_true rfl) rfl (fun X E => ?_)
  have mono : ∀ i, i < n → P i = true → (l ++ ltrs kind a r num (selL P i)).length < 528 := fun i hi hp => by
    have key : ∀ k, i < k → (selL P i).length < (selL P k).length := fun k => by
      induction k with
      | zero => intro h; exact absurd h (Nat.not_lt_zero i)
      | succ k ih =>
        intro h
        show _ < (selL P k ++ (if P k = true then [k] else [])).length
        rw [List.length_append]
        by_cases e : i = k
        · rw [e] at hp ⊢; rw [if_pos hp]; simp
        · have := ih (by omega); omega
    have h1 := key n hi
    rw [List.length_append, ltrs_len] at hl ⊢
    omega
  refine b_Course_send_0 E kind (nI a) recv (nI r) num σ ?_
  refine z_for n (fun i τ => zZ G M_Course_send 1 X (fun rr τ => rr = none ∧ SC σ τ l (ltrs kind a r num (selL P n))) 3 [(0, zf G 1), (1, .int kind), (2, .int (nI a)), (3, .int recv), (4, .int (nI r)), (5, .int num), (6, .int (nI i))] [] τ) (fun i τ => SC σ τ l (ltrs kind a r num (selL P i))) ?_ ?_ 0 σ (Nat.zero_le _) (SC.rf hP)
  · intro i τ hi g ih
    have nτ : τ 2 0 = nI n := by rw [g.1.at (by decide)]; exact hn
    refine b_Course_send_3 E kind (nI a) recv (nI r) num (nI i) τ ⟨fun q => absurd q (by rw [nτ]; exact nI_ge hi (by omega)), fun _ => ⟨fun hf => ?_, fun ht => ⟨_, s_Pool_add G τ _ kind (nI a) (nI i) (nI r) num g.2.1, fun σ1 ⟨p1, p2⟩ => ?_⟩⟩⟩
    · rw [nI_1]
      refine ih τ ?_
      rw [hz i hi] at hf
      rw [sel_no (by rw [hf]; decide)]; exact g
    · rw [hz i hi] at ht
      unfold padd at p1
      rw [if_pos (mono i hi ht)] at p1
      have fin : ∀ (σ2 υ : zSt) (v w : Int32), σ2 = zup σ1 1 6 v → υ = zup σ2 1 7 w → v = σ1 1 6 + nI (cNo [(kind, nI a, nI i, nI r, num)]) → w = σ2 1 7 + nI (cOt [(kind, nI a, nI i, nI r, num)]) → zZ G M_Course_send 1 X (fun rr τ => rr = none ∧ SC σ τ l (ltrs kind a r num (selL P n))) 3 [(0, zf G 1), (1, .int kind), (2, .int (nI a)), (3, .int recv), (4, .int (nI r)), (5, .int num), (6, .int (nI i + 1))] [] υ := by
        intro σ2 υ v w e2 e3 hv hw
        rw [nI_1]
        refine ih υ ?_
        rw [sel_yes ht]
        refine g.tr ⟨?_, ?_, ?_, ?_⟩
        · rw [e3, e2]; exact ((RF.of p2 (by decide)).cnt (Or.inl rfl)).cnt (Or.inr rfl)
        · refine p1.of (fun c hc => ?_)
          have hc1 : c ≠ 1 := fun e => by rw [e] at hc; revert hc; decide
          rw [e3, e2, zup_ne hc1, zup_ne hc1]
        · rw [e3, zup_self]; unfold upd; rw [if_neg (by decide), e2, zup_self]; unfold upd; rw [if_pos rfl, hv, p2 1 (by decide)]
        · rw [e3, zup_self]; unfold upd; rw [if_pos rfl, hw, e2, zup_self]; unfold upd; rw [if_neg (by decide), p2 1 (by decide)]
      have c0 : ¬ kind = 0 → cNo [(kind, nI a, nI i, nI r, num)] = 0 ∧ cOt [(kind, nI a, nI i, nI r, num)] = 1 := fun hk => cNo_0 (fun y hy => by rw [List.mem_singleton.mp hy]; exact hk)
      have c1 : kind = 0 → cNo [(kind, nI a, nI i, nI r, num)] = 1 ∧ cOt [(kind, nI a, nI i, nI r, num)] = 0 := fun hk => cNo_1 (fun y hy => by rw [List.mem_singleton.mp hy]; exact hk)
      refine ⟨fun hk σ2 e2 => ⟨fun hk2 σ3 e3 => fin σ2 σ3 _ _ e2 e3 (by rw [(c0 hk).1]; rfl) (by rw [(c0 hk).2]; rfl), fun hk2 => absurd hk2 hk⟩, fun hk σ2 e2 => ⟨fun hk2 => absurd hk hk2, fun hk2 σ3 e3 => fin σ2 σ3 _ _ e2 e3 (by rw [(c1 hk).1]; rfl) (by rw [(c1 hk).2]; rfl)⟩⟩
  · intro τ g
    have nτ : τ 2 0 = nI n := by rw [g.1.at (by decide)]; exact hn
    exact b_Course_send_3 E kind (nI a) recv (nI r) num (nI n) τ ⟨fun _ => ⟨rfl, g⟩, fun q => absurd (by rw [nτ]; exact nI_le (Nat.le_refl n) (by omega)) q⟩
/-- what does not change in the running, as the pure machine takes it -/
def CT (σ : zSt) (n R W p : Nat) (src : Int32) (mk : Nat → Int32) (len : Nat → Nat → Int32) (lk pa : Nat → Nat → Bool) (up : Nat → Option Nat) (ld : Nat → Nat) : Prop :=
  (σ 2 0 = nI n ∧ 1 ≤ n ∧ n ≤ 12 ∧ σ 1 5 = nI R ∧ 1 ≤ R ∧ R ≤ 20 ∧ σ 1 4 = nI W ∧ W ≤ 2) ∧ (σ 4 0 = nI p ∧ p ≤ 3 ∧ σ 4 1 = src) ∧ (∀ a, a < 12 → σ 6 a = mk a) ∧ (∀ a b, a < 12 → b < 12 → σ 8 (a * 12 + b) = len a b) ∧ (∀ a b, a < n → b < 32 → (zIn (σ 7 a) (nI b) = true ↔ (b < n ∧ lk a b = true))) ∧ (∀ c, c < n → σ 9 c = nI (ld c) ∧ ∀ d, d < 32 → (zIn (σ 12 c) (nI d) = true ↔ up c = some d)) ∧ (∀ u c, u < n → c < 32 → (zIn (σ 13 u) (nI c) = true ↔ (c < n ∧ up c = some u))) ∧ (∀ a b, a < n → b < 32 → (zIn (σ 14 a) (nI b) = true ↔ (b < n ∧ pa a b = true)))
theorem b_iff {x y : Bool} (h : x = true ↔ y = true) : x = y := by
  cases x <;> cases y <;> simp_all
section CCLS
variable {n R W p : Nat} {src : Int32} {mk : Nat → Int32} {len : Nat → Nat → Int32} {lk pa : Nat → Nat → Bool} {up : Nat → Option Nat} {ld : Nat → Nat} {A : AS}
theorem CT.of {σ τ : zSt} (h : CT σ n R W p src mk len lk pa up ld) (hF : RF FR σ τ) : CT τ n R W p src mk len lk pa up ld := by
  obtain ⟨⟨h1, h2, h3, h4, h5, h6, h7, h8⟩, h9, h10, h11, h12, h13, h14, h15⟩ := h
  refine ⟨⟨by rw [hF.at (by decide)]; exact h1, h2, h3, by rw [hF.2.2]; exact h4, h5, h6, by rw [hF.2.1]; exact h7, h8⟩, ?_, ?_, ?_, ?_, ?_, ?_, ?_⟩
  · rw [hF.at (by decide)]; exact h9
  · rw [hF.at (by decide)]; exact h10
  · rw [hF.at (by decide)]; exact h11
  · rw [hF.at (by decide)]; exact h12
  · rw [hF.at (by decide), hF.at (by decide)]; exact h13
  · rw [hF.at (by decide)]; exact h14
  · rw [hF.at (by decide)]; exact h15
theorem CT.nb {σ : zSt} (h : CT σ n R W p src mk len lk pa up ld) {a : Nat} (ha : a < n) : (∀ b, b < n → zIn (σ 7 a) (nI b) = lk a b) ∧ zBc (σ 7 a) = nI (nbrs n lk a).length := by
  have hn := h.1.2.2.1
  have h5 := fun b hb => h.2.2.2.2.1 a b ha hb
  exact ⟨fun b hb => b_iff ⟨fun q => ((h5 b (by omega)).mp q).2, fun q => (h5 b (by omega)).mpr ⟨hb, q⟩⟩, zBc_sel (P := fun b => lk a b) hn h5⟩
theorem CT.lo {σ : zSt} (h : CT σ n R W p src mk len lk pa up ld) {a : Nat} (ha : a < n) : (∀ c, c < n → zIn (σ 13 a) (nI c) = decide (up c = some a)) ∧ zBc (σ 13 a) = nI (lows n up a).length := by
  have hn := h.1.2.2.1
  have h5 := fun c hc => h.2.2.2.2.2.2.1 a c ha hc
  exact ⟨fun b hb => b_iff ⟨fun q => decide_eq_true ((h5 b (by omega)).mp q).2, fun q => (h5 b (by omega)).mpr ⟨hb, of_decide_eq_true q⟩⟩, zBc_sel (P := fun c => decide (up c = some a)) hn (fun b hb => by rw [h5 b hb, decide_eq_true_eq])⟩
theorem CT.pt {σ : zSt} (h : CT σ n R W p src mk len lk pa up ld) {a : Nat} (ha : a < n) : (∀ b, b < n → zIn (σ 14 a) (nI b) = pa a b) ∧ zBc (σ 14 a) = nI (pars n pa a).length := by
  have hn := h.1.2.2.1
  have h5 := fun b hb => h.2.2.2.2.2.2.2 a b ha hb
  exact ⟨fun b hb => b_iff ⟨fun q => ((h5 b (by omega)).mp q).2, fun q => (h5 b (by omega)).mpr ⟨hb, q⟩⟩, zBc_sel (P := fun b => pa a b) hn h5⟩
theorem CT.ab {σ : zSt} (h : CT σ n R W p src mk len lk pa up ld) {a : Nat} (ha : a < n) : ∀ b, b < n → zIn (σ 12 a) (nI b) = decide (up a = some b) := by
  have hn := h.1.2.2.1
  have h5 := (h.2.2.2.2.2.1 a ha).2
  exact fun b hb => b_iff ⟨fun q => decide_eq_true ((h5 b (by omega)).mp q), fun q => (h5 b (by omega)).mpr (of_decide_eq_true q)⟩
theorem CT.isl {σ : zSt} (h : CT σ n R W p src mk len lk pa up ld) (hF : FRA n W lk pa up ld) {a : Nat} (ha : a < n) : zLd σ (nI a) = decide (up a = none) := by
  have hn := h.1.2.2.1
  have hl := (hF.1 a ha).1
  unfold zLd
  rw [nI_clamp (by omega), (h.2.2.2.2.2.1 a ha).1]
  by_cases e : up a = none
  · rw [decide_eq_true e, decide_eq_true (by rw [(ld_iff hF ha).mpr e])]
  · rw [decide_eq_false e, decide_eq_false (fun q => e ((ld_iff hF ha).mp ((nI_eq (by omega) (by omega)).mp q)))]
/-- the class's state is the pure machine's -/
def CA (σ : zSt) (n W : Nat) (pa : Nat → Nat → Bool) (up : Nat → Option Nat) (A : AS) : Prop :=
  (∀ a, a < n → σ 24 a = nI (rdP (aS A) a)) ∧ (PV σ (aL A) ∧ σ 1 6 = aN A ∧ σ 1 7 = aO A) ∧ (∀ a, a < n → σ 16 a = aV A a ∧ σ 17 a = aQ A a) ∧ (∀ r a, r ≤ rdP (aS A) a → a < n → σ 30 (r * 12 + a) = aU A r a)
  ∧ (∀ a, a < n → (rdP (aS A) a = 0 → σ 26 a = 0) ∧ (1 ≤ rdP (aS A) a → (σ 26 a).toInt = opP (aS A) a ∧ σ 25 a = nI (stg W (aS A) a)))
  ∧ (∀ a, a < n → σ 27 a = nI ((lows n up a).countP (fun c => aC A 2 a c (rdP (aS A) a))) ∧ σ 28 a = nI ((lows n up a).countP (fun c => aC A 3 a c (rdP (aS A) a))))
  ∧ (∀ a r, a < n → (r = rdP (aS A) a ∨ r = rdP (aS A) a + 1) → σ 29 (r % 2 * 12 + a) = nI ((pars n pa a).countP (fun b => aC A 1 a b r)))
  ∧ (∀ a r, a < n → (r = rdP (aS A) a ∨ r = rdP (aS A) a + 1) → ∀ f, f < 12 → σ 18 (r % 2 * 144 + a * 12 + f) = noteR n A a r f)
theorem CA.put {σ τ : zSt} {S : PS} {m : List Lt} (h : CA σ n W pa up A) (hF : RF (25 :: FPool) σ τ) (hr : rdP S = rdP (aS A)) (ho : opP S = opP (aS A)) (hs : ∀ b, b < n → 1 ≤ rdP (aS A) b → τ 25 b = nI (stg W S b)) (hm : ∀ x, x ∈ m → ¬ x.1 = 0) (hL : PV τ (aL A ++ m)) (h6 : τ 1 6 = σ 1 6 + nI (cNo m)) (h7 : τ 1 7 = σ 1 7 + nI (cOt m)) : CA τ n W pa up (aPut A S m) := by
  obtain ⟨a1, ⟨_, a3, a4⟩, a5, a6, a7, a8, a9, a10⟩ := h
  obtain ⟨c1, c2⟩ := cNo_0 hm
  have hr' : rdP (aS (aPut A S m)) = rdP (aS A) := hr
  have ho' : opP (aS (aPut A S m)) = opP (aS A) := ho
  refine ⟨?_, ⟨hL, ?_, ?_⟩, ?_, ?_, ?_, ?_, ?_, ?_⟩
  · rw [hF.at (by decide), hr']; exact a1
  · rw [h6, c1, a3]; exact Int32.add_zero _
  · rw [h7, c2, a4]; rfl
  · rw [hF.at (by decide), hF.at (by decide)]; exact a5
  · rw [hF.at (by decide), hr']; exact a6
  · rw [hF.at (by decide), hr', ho']
    exact fun b hb => ⟨(a7 b hb).1, fun q => ⟨((a7 b hb).2 q).1, hs b hb q⟩⟩
  · rw [hF.at (by decide), hF.at (by decide), hr']; exact a8
  · rw [hF.at (by decide), hr']; exact a9
  · rw [hF.at (by decide), hr']; exact a10
theorem stg_n {S S' : PS} {a b : Nat} (h : sfP S' b = sfP S b ∧ raP S' b = raP S b ∧ fiP S' b = fiP S b ∧ dnP S' b = dnP S b) : stg W S' b = stg W S b := by
  unfold stg; rw [h.1, h.2.1, h.2.2.1, h.2.2.2]
theorem s_Course_hasAllSafes2 (G : zG) (σ : zSt) (a : Nat) (hT : CT σ n R W p src mk len lk pa up ld) (hA : CA σ n W pa up A) (ha : a < n) (hr : rdP (aS A) a ≤ 20) : zB G 1 M_Course_hasAllSafes [zf G 1, .int (nI a)] σ (fun b τ => τ = σ ∧ b = all1 n pa A a) := by
  refine zSpec.of (by decide) (Nat.le_of_ble_eq_true rfl) rfl (fun X E => ?_)
  have hn := hT.1.2.2.1
  have ia : vp_in (nI a) 12 := vp_in_nI (by omega) (by decide)
  have ca : (nI a).toNatClampNeg = a := nI_clamp (by omega)
  have e24 : σ 24 a = nI (rdP (aS A) a) := hA.1 a ha
  have ix : ((σ 24 (nI a).toNatClampNeg) &&& (1 : Int32)) * 12 + nI a = nI (rdP (aS A) a % 2 * 12 + a) := by rw [ca, e24, pand1 _ (by omega), zi12]
  have e29 := hA.2.2.2.2.2.2.1 a _ ha (Or.inl rfl)
  have key : (σ 29 (((σ 24 (nI a).toNatClampNeg) &&& (1 : Int32)) * 12 + nI a).toNatClampNeg = zBc (σ 14 (nI a).toNatClampNeg)) ↔ all1 n pa A a = true := by
    rw [ix, nI_clamp (by omega), e29, ca, (hT.pt ha).2]
    exact cnt_all hn
  refine b_Course_hasAllSafes_0 E (nI a) σ ⟨ia, par12 _ (by omega), ia, fun h => ⟨false, rfl, rfl, ?_⟩, fun h => ⟨true, rfl, rfl, (key.mp h).symm⟩⟩
  cases e : all1 n pa A a with
  | false => rfl
  | true => exact absurd (key.mpr e) h
theorem s_Course_hasAllBelow2 (G : zG) (σ : zSt) (ck a : Nat) (F : Nat → Bool) (hck : zS[ck]? = some (.inl (.int, 12))) (hT : CT σ n R W p src mk len lk pa up ld) (hc : σ ck a = nI ((lows n up a).countP F)) (ha : a < n) : zB G 1 M_Course_hasAllBelow [zf G 1, zf G ck, .int (nI a)] σ (fun b τ => τ = σ ∧ b = (lows n up a).all F) := by
  refine zSpec.of (by decide) (Nat.le_of_ble_eq_true rfl) rfl (fun X E => ?_)
  have hn := hT.1.2.2.1
  have ia : vp_in (nI a) 12 := vp_in_nI (by omega) (by decide)
  have ca : (nI a).toNatClampNeg = a := nI_clamp (by omega)
  have key : (σ ck (nI a).toNatClampNeg = zBc (σ 13 (nI a).toNatClampNeg)) ↔ (lows n up a).all F = true := by
    rw [ca, hc, (hT.lo ha).2]
    exact cnt_all hn
  refine b_Course_hasAllBelow_0 E (nI a) ck hck σ ⟨ia, ia, fun h => ⟨false, rfl, rfl, ?_⟩, fun h => ⟨true, rfl, rfl, (key.mp h).symm⟩⟩
  cases e : (lows n up a).all F with
  | false => rfl
  | true => exact absurd (key.mpr e) h
end CCLS
end
section
-- The class is the pure machine: a node begins a round
section CCLS2
variable {n R W p : Nat} {src : Int32} {mk : Nat → Int32} {len : Nat → Nat → Int32} {lk pa : Nat → Nat → Bool} {up : Nat → Option Nat} {ld : Nat → Nat} {A : AS}
theorem par_ne {r s : Nat} (h : r % 2 = s % 2) (hs : r = s ∨ r = s + 1) : r = s := by omega
theorem stg_0 {S : PS} {a : Nat} (h : sfP S a = false ∧ raP S a = false ∧ fiP S a = false ∧ dnP S a = false) : stg W S a = 0 := by
  unfold stg
  rw [h.1, h.2.1, h.2.2.1, h.2.2.2]
  split <;> rfl
set_option maxHeartbeats 1000000 in
theorem s_Course_enterNext2 (G : zG) (σ : zSt) (a : Nat) (hT : CT σ n R W p src mk len lk pa up ld) (hF : FRA n W lk pa up ld) (hM : MLB mk len) (hA : CA σ n W pa up A) (hQ : QE n R W p lk pa up ld A) (hB : BG n R W lk pa up ld A a) (ha : a < n) (hz : rdP (aS A) a = 0 → ∀ w b q, aC A w a b q = false) :
    zV G 4 M_Course_enterNext [zf G 1, .int (nI a)] σ (fun τ => RF FR σ τ ∧ CA τ n W pa up (aBeg n p src mk len lk up A a)) := by
  refine zSpec.of (by decide) (Nat.le_of_ble_eq_true rfl) rfl (fun X E => ?_)
  have hn12 : n ≤ 12 := hT.1.2.2.1
  have hR20 : R ≤ 20 := hT.1.2.2.2.2.2.1
  have hR1 : 1 ≤ R := hT.1.2.2.2.2.1
  have hrR := hB.1
  have ia : vp_in (nI a) 12 := vp_in_nI (by omega) (by decide)
  have ca : (nI a).toNatClampNeg = a := nI_clamp (by omega)
  have e24 : σ 24 (nI a).toNatClampNeg + (1 : Int32) = nI (rdP (aS A) a + 1) := by rw [ca, hA.1 a ha, nI_1]
  have l528 : (aL A ++ begG n up A a ++ begN n p src mk len lk A a).length ≤ 528 := (hQ.beg hn12 hR20 hM ha hB).le528 hn12 hR20 hR1 hF
  have l528' : (aL A ++ begG n up A a).length ≤ 528 := by
    rw [List.length_append] at l528; omega
  have cG := cNo_0 (m := begG n up A a) (fun x hx => by
    obtain ⟨c, _, _, rfl⟩ := begG_mem hx; exact (show ¬ (4 : Int32) = 0 by decide))
  generalize hwd : actA n p src mk len A a = wd
  -- the second half
  have half : ∀ (υ : zSt), SC (zup (zup (zup (zup (zup σ 24 a (nI (rdP (aS A) a + 1))) 25 a 0) 27 a 0) 28 a 0) 29 (rdP (aS A) a % 2 * 12 + a) 0) υ (aL A) (begG n up A a) → zZ G M_Course_enterNext 4 X (fun r τ => r = none ∧ RF FR σ τ ∧ CA τ n W pa up (aBeg n p src mk len lk up A a)) 74 [(0, zf G 1), (1, .int (nI a)), (2, .int (nI (rdP (aS A) a + 1)))] [] υ := by
    intro υ g
    have hF5 : RF FR σ (zup (zup (zup (zup (zup σ 24 a (nI (rdP (aS A) a + 1))) 25 a 0) 27 a 0) 28 a 0) 29 (rdP (aS A) a % 2 * 12 + a) 0) := ((((RF.rf.up (by decide) (by decide)).up (by decide) (by decide)).up (by decide) (by decide)).up (by decide) (by decide)).up (by decide) (by decide)
    have hFυ : RF FR σ υ := hF5.tr (g.1.mono (by decide))
    have hTυ := hT.of hFυ
    have c5 : ∀ c, c ∉ (1 :: FPool) → c ≠ 24 → c ≠ 25 → c ≠ 27 → c ≠ 28 → c ≠ 29 → υ c = σ c := fun c h0 b1 b2 b3 b4 b5 => by
      rw [g.1.at h0, zup_ne b5, zup_ne b4, zup_ne b3, zup_ne b2, zup_ne b1]
    have u16 : υ 16 = σ 16 := c5 16 (by decide) (by decide) (by decide) (by decide) (by decide) (by decide)
    have u17 : υ 17 = σ 17 := c5 17 (by decide) (by decide) (by decide) (by decide) (by decide) (by decide)
    have u18 : υ 18 = σ 18 := c5 18 (by decide) (by decide) (by decide) (by decide) (by decide) (by decide)
    have u26 : υ 26 = σ 26 := c5 26 (by decide) (by decide) (by decide) (by decide) (by decide) (by decide)
    have u30 : υ 30 = σ 30 := c5 30 (by decide) (by decide) (by decide) (by decide) (by decide) (by decide)
    have u24 : υ 24 = upd (σ 24) a (nI (rdP (aS A) a + 1)) := by rw [g.1.at (by decide), zup_ne (by decide), zup_ne (by decide), zup_ne (by decide), zup_ne (by decide), zup_self]
    have u25 : υ 25 = upd (σ 25) a 0 := by rw [g.1.at (by decide), zup_ne (by decide), zup_ne (by decide), zup_ne (by decide), zup_self, zup_ne (by decide)]
    have u27 : υ 27 = upd (σ 27) a 0 := by rw [g.1.at (by decide), zup_ne (by decide), zup_ne (by decide), zup_self, zup_ne (by decide), zup_ne (by decide)]
    have u28 : υ 28 = upd (σ 28) a 0 := by rw [g.1.at (by decide), zup_ne (by decide), zup_self, zup_ne (by decide), zup_ne (by decide), zup_ne (by decide)]
    have u29 : υ 29 = upd (σ 29) (rdP (aS A) a % 2 * 12 + a) 0 := by rw [g.1.at (by decide), zup_self, zup_ne (by decide), zup_ne (by decide), zup_ne (by decide), zup_ne (by decide)]
    obtain ⟨a1, ⟨a2, a3, a4⟩, a5, a6, a7, a8, a9, a10⟩ := hA
    have ew : pAct p (rdP (aS A) a + 1) a (decide (nI a = υ 4 1)) (υ 6 a) (fun b => υ 8 (a * 12 + b)) (fun b => υ 18 ((rdP (aS A) a + 1 - 1) % 2 * 144 + a * 12 + b)) (υ 16 a) (υ 17 a) = wd := by
      rw [← hwd, u16, u17, (a5 a ha).1, (a5 a ha).2, hTυ.2.1.2.2, hTυ.2.2.1 a (by omega)]
      unfold actA
      by_cases r1 : rdP (aS A) a + 1 = 1
      · rw [pAct_1 r1, pAct_1 r1]
      · refine pAct_congr (fun b hb => ?_) (fun b hb => hTυ.2.2.2.1 a b (by omega) hb)
        rw [noteR_F r1, u18, Nat.add_sub_cancel]
        exact a10 a _ ha (Or.inl rfl) b hb
    -- the end
    have fin : ∀ (τ ρ : zSt), DR υ τ a (rdP (aS A) a % 2 * 144 + a * 12) wd wd.2.2 → RF (26 :: 30 :: FPool) τ ρ → ρ 30 = upd (τ 30) ((rdP (aS A) a + 1) * 12 + a) wd.1 → ρ 26 = (if (begN n p src mk len lk A a) = [] ∧ wd.2.2 = -2 then τ 26 else upd (τ 26) a (nI (begN n p src mk len lk A a).length)) → PV ρ (aL A ++ begG n up A a ++ begN n p src mk len lk A a) → ρ 1 6 = τ 1 6 + nI (begN n p src mk len lk A a).length → ρ 1 7 = τ 1 7 → ((begN n p src mk len lk A a) = [] ∧ wd.2.2 = -2 ∨ ¬ ((begN n p src mk len lk A a) = [] ∧ wd.2.2 = -2)) → (none : Option Value) = none ∧ RF FR σ ρ ∧ CA ρ n W pa up (aBeg n p src mk len lk up A a) := by
      intro τ ρ ⟨d1, d2, d3, d4, _⟩ k1 k30 k26 kL k6 k7 _
      have hFρ : RF FR σ ρ := (hFυ.tr ((RF.of d1 (by decide)).mono (by decide))).tr (k1.mono (by decide))
      have eS : aS (aBeg n p src mk len lk up A a) = setRd (aS A) a ((begN n p src mk len lk A a).length : Int) := rfl
      have rs : ∀ b, rdP (aS (aBeg n p src mk len lk up A a)) b = fup (rdP (aS A)) a (rdP (aS A) a + 1) b := fun _ => rfl
      have rc : ∀ c, c ∉ [1, 26, 30, 5, 19, 20, 21, 22, 23, 16, 17, 18] → ρ c = υ c := fun c hc => by
        rw [k1.at (fun q => hc (by simp only [List.mem_cons, List.not_mem_nil, or_false] at q ⊢; omega)), d1 c (fun q => hc (by simp only [List.mem_cons, List.not_mem_nil, or_false] at q ⊢; omega))]
      refine ⟨rfl, hFρ, fun b hb => ?_, ⟨kL, ?_, ?_⟩, fun b hb => ?_, fun q b hq hb => ?_, fun b hb => ?_, fun b hb => ?_, fun b q hb hq => ?_, fun b q hb hq f hf => ?_⟩
      · rw [rc 24 (by decide), u24, rs]
        unfold upd fup
        by_cases e : b = a
        · rw [if_pos e, if_pos e]
        · rw [if_neg e, if_neg e]; exact a1 b hb
      · rw [k6, d1 1 (by decide), g.2.2.1, cG.1]
        show (zup _ 29 _ 0) 1 6 + nI 0 + _ = aN A + _
        rw [zup_ne (by decide), zup_ne (by decide), zup_ne (by decide), zup_ne (by decide), zup_ne (by decide), a3, show nI 0 = (0 : Int32) from rfl, Int32.add_zero]
      · rw [k7, d1 1 (by decide), g.2.2.2, cG.2]
        show (zup _ 29 _ 0) 1 7 + _ = aO A + _
        rw [zup_ne (by decide), zup_ne (by decide), zup_ne (by decide), zup_ne (by decide), zup_ne (by decide), a4]
      · rw [k1.at (by decide), k1.at (by decide), d2, d3, u16, u17]
        show upd (σ 16) a wd.1 b = fup (aV A) a (actA n p src mk len A a).1 b ∧ upd (σ 17) a wd.2.1 b = fup (aQ A) a (actA n p src mk len A a).2.1 b
        rw [hwd]
        unfold upd fup
        by_cases e : b = a
        · rw [if_pos e, if_pos e, if_pos e, if_pos e]; exact ⟨rfl, rfl⟩
        · rw [if_neg e, if_neg e, if_neg e, if_neg e]; exact a5 b hb
      · rw [rs] at hq
        rw [k30, d1 30 (by decide), u30]
        show upd (σ 30) ((rdP (aS A) a + 1) * 12 + a) wd.1 (q * 12 + b) = if q = rdP (aS A) a + 1 ∧ b = a then (actA n p src mk len A a).1 else aU A q b
        rw [hwd]
        unfold upd
        by_cases e : b = a
        · rw [e] at hq ⊢
          rw [fup_s] at hq
          by_cases e2 : q = rdP (aS A) a + 1
          · rw [if_pos (by rw [e2]), if_pos ⟨e2, rfl⟩]
          · rw [if_neg (by omega), if_neg (fun x => e2 x.1)]
            exact a6 q a (by omega) ha
        · rw [fup_n e] at hq
          rw [if_neg (by omega), if_neg (fun x => e x.2)]
          exact a6 q b hq hb
      · rw [rs]
        by_cases e : b = a
        · rw [e, fup_s]
          refine ⟨fun q => by omega, fun _ => ⟨?_, ?_⟩⟩
          · show _ = fup (opP (aS A)) a ((begN n p src mk len lk A a).length : Int) a
            rw [fup_s, k26]
            by_cases c : (begN n p src mk len lk A a) = [] ∧ wd.2.2 = -2
            · rw [if_pos c, c.1, d1 26 (by decide), u26]
              have h7 := a7 a ha
              by_cases r0 : rdP (aS A) a = 0
              · rw [h7.1 r0]; rfl
              · rw [(h7.2 (by omega)).1, (hB.2.2.2.2 (by omega)).1]; rfl
            · rw [if_neg c, upd_eq]
              have bl : (begN n p src mk len lk A a).length ≤ 12 := Nat.le_trans begN_len hn12
              exact nI_toInt (by omega)
          · rw [rc 25 (by decide), u25, upd_eq, stg_0 (S := aS (aBeg n p src mk len lk up A a)) ⟨fup_s, fup_s, fup_s, fup_s⟩]; rfl
        · rw [fup_n e]
          have h26 : ρ 26 b = σ 26 b := by
            rw [k26]
            split
            · rw [d1 26 (by decide), u26]
            · rw [upd_ne e, d1 26 (by decide), u26]
          rw [h26, rc 25 (by decide), u25, upd_ne e]
          have es : stg W (aS (aBeg n p src mk len lk up A a)) b = stg W (aS A) b := stg_n (a := a) ⟨fup_n e, fup_n e, fup_n e, fup_n e⟩
          have eo : opP (aS (aBeg n p src mk len lk up A a)) b = opP (aS A) b := fup_n e
          rw [es, eo]; exact a7 b hb
      · rw [rs, rc 27 (by decide), rc 28 (by decide), u27, u28]
        show upd (σ 27) a 0 b = nI ((lows n up b).countP (fun c => aC A 2 b c _)) ∧ upd (σ 28) a 0 b = nI ((lows n up b).countP (fun c => aC A 3 b c _))
        by_cases e : b = a
        · rw [e, fup_s, upd_eq, upd_eq]
          unfold lows
          rw [cnt_0 (fun c hc hu => (far_2 hR20 hQ hB hz hc (of_decide_eq_true hu)).1), cnt_0 (fun c hc hu => (far_2 hR20 hQ hB hz hc (of_decide_eq_true hu)).2)]
          exact ⟨rfl, rfl⟩
        · rw [fup_n e, upd_ne e, upd_ne e]; exact a8 b hb
      · rw [rs] at hq
        rw [rc 29 (by decide), u29]
        show upd (σ 29) (rdP (aS A) a % 2 * 12 + a) 0 (q % 2 * 12 + b) = nI ((pars n pa b).countP (fun c => aC A 1 b c q))
        by_cases e : b = a
        · rw [e] at hq ⊢
          rw [fup_s] at hq
          rcases hq with q1 | q1
          · rw [upd_ne (by omega), q1]
            exact a9 a _ ha (Or.inr rfl)
          · have e2 : q % 2 * 12 + a = rdP (aS A) a % 2 * 12 + a := by omega
            rw [e2, upd_eq]
            unfold pars
            rw [cnt_0 (fun c hc _ => (far_1 hF hQ ha hc (by omega)).1)]; rfl
        · rw [fup_n e] at hq
          rw [upd_ne (by omega)]; exact a9 b q hb hq
      · rw [rs] at hq
        rw [k1.at (by decide), d4, u18]
        show _ = noteR n A b q f
        by_cases e : b = a
        · rw [e] at hq ⊢
          rw [fup_s] at hq
          rcases hq with q1 | q1
          · rw [if_neg (by omega), q1]
            exact a10 a _ ha (Or.inr rfl) f hf
          · rw [if_pos (by omega)]
            unfold noteR
            rw [if_neg]
            rintro ⟨z1, z2⟩
            rw [(far_1 hF hQ ha z1 (by omega)).2] at z2
            exact absurd z2 (by decide)
        · rw [fup_n e] at hq
          rw [if_neg (by omega)]; exact a10 b q hb hq f hf
    refine b_Course_enterNext_74 E (nI a) (nI (rdP (aS A) a + 1)) υ ⟨_, s_Play_doRound2 G υ a _ p (by omega) (by omega) (by omega) hTυ.2.1.1 hTυ.2.1.2.1, fun x σ1 d => ⟨ia, by rw [zi12]; exact vp_in_nI (by omega) (by decide), fun σ3 e3 => ?_⟩⟩
    rw [ew] at d
    have ex : x = wd.2.2 := d.2.2.2.2
    rw [ex] at d
    rw [Nat.add_sub_cancel] at d
    rw [zi12, nI_clamp (by omega), ca] at e3
    have x30 : σ3 30 = upd (σ1 30) ((rdP (aS A) a + 1) * 12 + a) wd.1 := by rw [e3, zup_self, d.2.1, upd_eq]
    have f3 : RF (26 :: 30 :: FPool) σ1 σ3 := by rw [e3]; exact RF.rf.up (by decide) (by decide)
    have PG : PV σ3 (aL A ++ begG n up A a) := g.2.1.of (fun c hc => by
      have hc30 : c ≠ 30 := fun e => by rw [e] at hc; revert hc; decide
      rw [e3, zup_ne hc30]
      exact d.1 c (fun h => by revert hc; revert h; simp only [List.mem_cons, List.not_mem_nil, or_false]; omega))
    rw [ex]
    refine ⟨fun hs => ?_, fun hs => ⟨ia, ia, fun σ4 e4 => ⟨ia, ?_⟩⟩⟩
    · have eb : begN n p src mk len lk A a = [] := by unfold begN; rw [if_pos (by rw [hwd]; exact hs)]
      refine fin σ1 σ3 d f3 x30 ?_ (by rw [eb, List.append_nil]; exact PG) ?_ (by rw [e3, zup_ne (by decide)]) (Or.inl ⟨eb, hs⟩)
      · rw [if_pos ⟨eb, hs⟩, e3, zup_ne (by decide)]
      · rw [eb, e3, zup_ne (by decide)]; exact (Int32.add_zero _).symm
    · have eb : begN n p src mk len lk A a = ltrs 0 a (rdP (aS A) a + 1) wd.2.2 (selL (fun b => lk a b) n) := by unfold begN; rw [if_neg (by rw [hwd]; exact hs), hwd]; rfl
      have s7 : ∀ s : zSt, RF FR σ s → s 7 = σ 7 := fun s hs => hs.at (by decide)
      have F1 : RF FR σ σ1 := hFυ.tr ((RF.of d.1 (by decide)).mono (by decide))
      have F3 : RF FR σ σ3 := F1.tr (f3.mono (by decide))
      rw [ca] at e4
      have F4 : RF FR σ σ4 := by rw [e4]; exact F3.up (by decide) (by decide)
      have hT4 := hT.of F4
      have lb : zBc (σ3 7 a) = nI (begN n p src mk len lk A a).length := by rw [((hT.of F3).nb ha).2, eb, ltrs_len]; rfl
      rw [lb] at e4
      rw [ca]
      refine ⟨_, s_Course_send2 G σ4 n a _ (aL A ++ begG n up A a) 0 (σ4 7 a) wd.2.2 (fun b => lk a b) hT4.1.1 hn12 (PG.of (fun c hc => by
        have hc26 : c ≠ 26 := fun e => by rw [e] at hc; revert hc; decide
        rw [e4, zup_ne hc26])) (hT4.nb ha).1 (by rw [← eb]; exact l528), fun σ5 s => ?_⟩
      rw [← eb] at s
      have c1 := cNo_1 (m := begN n p src mk len lk A a) (fun x hx => by obtain ⟨_, b, _, _, rfl⟩ := begN_mem hx; rfl)
      refine fin σ1 σ5 d ?_ ?_ ?_ s.2.1 ?_ ?_ (Or.inr (fun q => hs q.2))
      · refine f3.tr (RF.tr (τ := σ4) ?_ (s.1.mono (by decide)))
        rw [e4]; exact RF.rf.up (by decide) (by decide)
      · rw [s.1.at (by decide), e4, zup_ne (by decide)]; exact x30
      · rw [if_neg (fun q => hs q.2), s.1.at (by decide), e4, zup_self, e3, zup_ne (by decide)]
      · rw [s.2.2.1, c1.1, e4, zup_ne (by decide), e3, zup_ne (by decide)]
      · rw [s.2.2.2, c1.2, e4, zup_ne (by decide), e3, zup_ne (by decide)]; exact Int32.add_zero _
  refine b_Course_enterNext_0 E (nI a) σ ⟨ia, ia, fun σ1 e1 => ⟨ia, fun σ2 e2 => ⟨ia, fun σ3 e3 => ⟨ia, fun σ4 e4 => ⟨par12 _ (by omega), fun σ5 e5 => ?_⟩⟩⟩⟩⟩
  rw [e24] at e1 e5 ⊢
  have erp : nI (rdP (aS A) a + 1) - (1 : Int32) = nI (rdP (aS A) a) := by rw [show (1 : Int32) = nI 1 from rfl, pk_sub (by omega), Nat.add_sub_cancel]
  rw [erp, pand1 _ (by omega), zi12, nI_clamp (by omega)] at e5
  rw [ca] at e1 e2 e3 e4
  have e5' : σ5 = zup (zup (zup (zup (zup σ 24 a (nI (rdP (aS A) a + 1))) 25 a 0) 27 a 0) 28 a 0) 29 (rdP (aS A) a % 2 * 12 + a) 0 := by rw [e5, e4, e3, e2, e1]
  have hF5 : RF FR σ σ5 := by
    rw [e5']
    exact ((((RF.rf.up (by decide) (by decide)).up (by decide) (by decide)).up (by decide) (by decide)).up (by decide) (by decide)).up (by decide) (by decide)
  have hT5 := hT.of hF5
  have P5 : PV σ5 (aL A) := hA.2.1.1.of (fun c hc => by
    rw [e5', zup_ne, zup_ne, zup_ne, zup_ne, zup_ne] <;> (intro e; rw [e] at hc; revert hc; decide))
  refine ⟨fun hle => half σ5 ?_, fun hgt => ⟨ia, ?_⟩⟩
  · rw [← e5']
    have r0 : rdP (aS A) a = 0 := by
      have h1 : rdP (aS A) a + 1 ≤ 1 := (nI_leI (by omega) (by decide)).mp hle
      omega
    unfold begG
    rw [if_pos r0]; exact SC.rf P5
  · have r0 : ¬ rdP (aS A) a = 0 := fun e => hgt (by rw [e]; exact nI_le (a := 1) (b := 1) (Nat.le_refl 1) (by decide))
    have eb : begG n up A a = ltrs 4 a (rdP (aS A) a + 1) 0 (selL (fun c => decide (up c = some a)) n) := by unfold begG; rw [if_neg r0]; rfl
    rw [ca]
    refine ⟨_, s_Course_send2 G σ5 n a _ (aL A) 4 (σ5 13 a) 0 (fun c => decide (up c = some a)) hT5.1.1 hn12 P5 (hT5.lo ha).1 (by rw [← eb]; exact l528'), fun σ6 s => half σ6 ?_⟩
    rw [← e5', eb]; exact s
end CCLS2
end
section
-- The class is the pure machine: a node goes on
section CCLS3
variable {n R W p : Nat} {src : Int32} {mk : Nat → Int32} {len : Nat → Nat → Int32} {lk pa : Nat → Nat → Bool} {up : Nat → Option Nat} {ld : Nat → Nat} {A : AS}
theorem stg_iff {S : PS} {a : Nat} (hW : ¬ W = 0) (h1 : dnP S a = true → fiP S a = true) (h2 : fiP S a = true → raP S a = true) : (stg W S a = 0 ↔ raP S a = false) ∧ (stg W S a = 2 ↔ (fiP S a = true ∧ dnP S a = false)) := by
  unfold stg
  rw [if_neg hW]
  cases hd : dnP S a <;> cases hf : fiP S a <;> cases hr : raP S a <;> simp_all
theorem stg_le {S : PS} {a : Nat} : stg W S a ≤ 3 := by
  unfold stg
  split
  · split <;> omega
  · split
    · omega
    · split
      · omega
      · split <;> omega
theorem zSf_op {σ : zSt} {a : Nat} {o : Int} (ha : a < 12) (h : (σ 26 a).toInt = o) : zSf σ (nI a) = decide (o = 0) := by
  unfold zSf
  rw [nI_clamp (by omega)]
  by_cases e : o = 0
  · rw [decide_eq_true e, decide_eq_true (Int32.toInt_inj.mp (by rw [h, e]; rfl))]
  · rw [decide_eq_false e, decide_eq_false (fun q => e (by rw [← h, q]; rfl))]
theorem CA_safe {σ : zSt} {a : Nat} (hW : ¬ W = 0) (h : CA σ n W pa up A) : CA σ n W pa up (aSafe n W pa A a) := by
  unfold aSafe
  split
  · refine h.put RF.rf rfl rfl (fun b hb hr => ?_) (fun x hx => absurd hx List.not_mem_nil) (by rw [List.append_nil]; exact h.2.1.1) (Int32.add_zero _).symm (Int32.add_zero _).symm
    rw [((h.2.2.2.2.1 b hb).2 hr).2]
    congr 1
    unfold stg
    rw [if_neg hW, if_neg hW]
  · exact h
theorem s_Course_spreadFirm2 (G : zG) (σ : zSt) (a : Nat) (hT : CT σ n R W p src mk len lk pa up ld) (hA : CA σ n W pa up A) (hW : W = 2) (ha : a < n) (hd : dnP (aS A) a = false) (hl : (aL (aFirm n pa up A a)).length ≤ 528) : zV G 2 M_Course_spreadFirm [zf G 1, .int (nI a)] σ (fun τ => RF (25 :: FPool) σ τ ∧ CA τ n W pa up (aFirm n pa up A a)) := by
  refine zSpec.of (by decide) (Nat.le_of_ble_eq_true rfl) rfl (fun X E => ?_)
  have hn12 : n ≤ 12 := hT.1.2.2.1
  have ia : vp_in (nI a) 12 := vp_in_nI (by omega) (by decide)
  have ca : (nI a).toNatClampNeg = a := nI_clamp (by omega)
  have hl : (aL A ++ (ltrs 5 a (rdP (aS A) a) 0 (lows n up a) ++ ltrs 2 a (rdP (aS A) a) 0 (pars n pa a))).length ≤ 528 := hl
  refine b_Course_spreadFirm_0 E (nI a) σ ⟨ia, fun σ1 e1 => ⟨ia, ia, ?_⟩⟩
  rw [ca] at e1
  have f1 : RF (25 :: FPool) σ σ1 := by rw [e1]; exact RF.rf.up (by decide) (by decide)
  have hT1 := hT.of (f1.mono (by decide))
  have P1 : PV σ1 (aL A) := hA.2.1.1.of (fun c hc => by
    rw [e1, zup_ne]; intro e; rw [e] at hc; revert hc; decide)
  have r1 : σ1 24 a = nI (rdP (aS A) a) := by rw [e1, zup_ne (by decide)]; exact hA.1 a ha
  rw [ca, r1]
  refine ⟨_, s_Course_send2 G σ1 n a _ (aL A) 5 (σ1 13 a) 0 (fun c => decide (up c = some a)) hT1.1.1 hn12 P1 (hT1.lo ha).1 (by
    rw [← List.append_assoc, List.length_append] at hl
    exact Nat.le_trans (Nat.le_add_right _ _) hl), fun σ2 g => ⟨ia, ia, ?_⟩⟩
  have f2 : RF (25 :: FPool) σ σ2 := f1.tr (g.1.mono (by decide))
  have hT2 := hT.of (f2.mono (by decide))
  have r2 : σ2 24 a = nI (rdP (aS A) a) := by rw [g.1.at (by decide)]; exact r1
  rw [r2]
  refine ⟨_, s_Course_send2 G σ2 n a _ _ 2 (σ2 14 a) 0 (fun b => pa a b) hT2.1.1 hn12 g.2.1 (hT2.pt ha).1 (by rw [List.append_assoc]; exact hl), fun σ3 k => ⟨rfl, f2.tr (k.1.mono (by decide)), ?_⟩⟩
  have s := g.tr k
  refine hA.put (f2.tr (k.1.mono (by decide))) rfl rfl (fun b hb hr => ?_) (fun x hx => ?_) s.2.1 (by rw [s.2.2.1, e1, zup_ne (by decide)]; rfl) (by rw [s.2.2.2, e1, zup_ne (by decide)]; rfl)
  · rw [s.1.at (by decide), e1, zup_self]
    by_cases e : b = a
    · rw [e, upd_eq]
      have : stg W (setFi (aS A) a) a = 2 := by
        unfold stg
        rw [if_neg (by omega), if_neg (show ¬ dnP (aS A) a = true by rw [hd]; decide), if_pos (show fup (fiP (aS A)) a true a = true from fup_s)]
      rw [this]; rfl
    · rw [upd_ne e, ((hA.2.2.2.2.1 b hb).2 hr).2]
      congr 1
      exact (stg_n (S := aS A) (S' := setFi (aS A) a) (a := a) ⟨rfl, rfl, fup_n e, rfl⟩).symm
  · rcases List.mem_append.mp hx with e | e
    · obtain ⟨b, _, rfl⟩ := ltrs_mem.mp e; exact (show ¬ (5 : Int32) = 0 by decide)
    · obtain ⟨b, _, rfl⟩ := ltrs_mem.mp e; exact (show ¬ (2 : Int32) = 0 by decide)
theorem s_Course_keepWithAll2 (G : zG) (σ : zSt) (a : Nat) (hT : CT σ n R W p src mk len lk pa up ld) (hF : FRA n W lk pa up ld) (hA : CA σ n W pa up A) (hQ : QE n R W p lk pa up ld A) (ha : a < n) (hr : 1 ≤ rdP (aS A) a) (hW : W = 0) : zB G 2 M_Course_keepWithAll [zf G 1, .int (nI a)] σ (fun b τ => RF (25 :: FPool) σ τ ∧ CA τ n W pa up (aOne n W pa up A a) ∧ b = aEnds n W pa up A a) := by
  have e1 : aOne n W pa up A a = aSafe n W pa A a := by
    unfold aOne aDone aRaise mayR mayD
    rw [if_neg (by rw [hW]; simp), if_neg (by rw [hW]; simp)]
  have en : aEnds n W pa up A a = (sfP (aS (aSafe n W pa A a)) a && all1 n pa (aSafe n W pa A a) a) := by unfold aEnds; rw [if_pos hW]
  rw [e1, en]
  refine zSpec.of (by decide) (Nat.le_of_ble_eq_true rfl) rfl (fun X E => ?_)
  have hn12 : n ≤ 12 := hT.1.2.2.1
  have hR20 : R ≤ 20 := hT.1.2.2.2.2.2.1
  have hR1 : 1 ≤ R := hT.1.2.2.2.2.1
  have hrR := (hQ.1.1.1 a ha).1
  have ia : vp_in (nI a) 12 := vp_in_nI (by omega) (by decide)
  have ca : (nI a).toNatClampNeg = a := nI_clamp (by omega)
  obtain ⟨o1, o2, o3⟩ := op_nn hQ ha hr
  have h7 := (hA.2.2.2.2.1 a ha).2 hr
  have eSf := zSf_op (by omega) h7.1
  have st : stg W (aS A) a = if sfP (aS A) a = true then 1 else 0 := by unfold stg; rw [if_pos hW]
  refine b_Course_keepWithAll_0 E (nI a) σ ⟨ia, fun hs => ⟨ia, fun hne => ⟨_, s_Course_hasAllSafes2 G σ a hT hA ha (by omega), ?_⟩, fun he => ⟨ia, fun σ3 e3 => ⟨ia, ia, ?_⟩⟩⟩, fun hs => ?_⟩
  · rintro b τ ⟨rfl, hb⟩
    rw [ca, h7.2, st] at hne
    have hsf : sfP (aS A) a = true := by
      cases e : sfP (aS A) a with
      | true => rfl
      | false => rw [e] at hne; exact absurd rfl hne
    have es : aSafe n W pa A a = A := by unfold aSafe; rw [if_neg (fun q => by rw [hsf] at q; exact absurd q.1 (by decide))]
    rw [es]
    exact ⟨b, rfl, RF.rf, hA, by rw [hb, hsf]; rfl⟩
  · rw [ca] at e3 he
    rw [h7.2, st] at he
    have hsf : sfP (aS A) a = false := by
      cases e : sfP (aS A) a with
      | false => rfl
      | true => rw [e] at he; exact absurd he (by decide)
    rw [eSf] at hs
    have cnd : sfP (aS A) a = false ∧ opP (aS A) a = 0 := ⟨hsf, of_decide_eq_true hs⟩
    have es : aSafe n W pa A a = aPut A (setSf (aS A) a) (ltrs 2 a (rdP (aS A) a) 0 (pars n pa a)) := by unfold aSafe; rw [if_pos cnd, if_pos hW]
    have q1 : QE n R W p lk pa up ld (aSafe n W pa A a) := ⟨QI.safe hn12 hR20 hQ.1 ha hr, hQ.2.safe⟩
    have hl := q1.le528 hn12 hR20 hR1 hF
    rw [es] at hl ⊢
    have f3 : RF (25 :: FPool) σ σ3 := by rw [e3]; exact RF.rf.up (by decide) (by decide)
    have hT3 := hT.of (f3.mono (by decide))
    have P3 : PV σ3 (aL A) := hA.2.1.1.of (fun c hc => by
      rw [e3, zup_ne]; intro e; rw [e] at hc; revert hc; decide)
    have r3 : σ3 24 a = nI (rdP (aS A) a) := by rw [e3, zup_ne (by decide)]; exact hA.1 a ha
    rw [ca, r3]
    refine ⟨_, s_Course_send2 G σ3 n a _ (aL A) 2 (σ3 14 a) 0 (fun b => pa a b) hT3.1.1 hn12 P3 (hT3.pt ha).1 hl, fun σ4 g => ?_⟩
    have f4 : RF (25 :: FPool) σ σ4 := f3.tr (g.1.mono (by decide))
    have A4 : CA σ4 n W pa up (aPut A (setSf (aS A) a) (ltrs 2 a (rdP (aS A) a) 0 (pars n pa a))) := by
      refine hA.put f4 rfl rfl (fun b hb hr' => ?_) (fun x hx => ?_) g.2.1 (by rw [g.2.2.1, e3, zup_ne (by decide)]; rfl) (by rw [g.2.2.2, e3, zup_ne (by decide)]; rfl)
      · rw [g.1.at (by decide), e3, zup_self]
        by_cases e : b = a
        · rw [e, upd_eq]
          have : stg W (setSf (aS A) a) a = 1 := by
            unfold stg
            rw [if_pos hW, if_pos (show fup (sfP (aS A)) a true a = true from fup_s)]
          rw [this]; rfl
        · rw [upd_ne e, ((hA.2.2.2.2.1 b hb).2 hr').2]
          congr 1
          exact (stg_n (S := aS A) (S' := setSf (aS A) a) (a := a) ⟨fup_n e, rfl, rfl, rfl⟩).symm
      · obtain ⟨b, _, rfl⟩ := ltrs_mem.mp hx; exact (show ¬ (2 : Int32) = 0 by decide)
    refine ⟨_, s_Course_hasAllSafes2 G σ4 a (hT.of (f4.mono (by decide))) A4 ha (show rdP (aS A) a ≤ 20 by omega), ?_⟩
    rintro b τ ⟨rfl, hb⟩
    refine ⟨b, rfl, f4, A4, ?_⟩
    rw [hb]
    show _ = (fup (sfP (aS A)) a true a && _)
    rw [fup_s]; rfl
  · rw [eSf] at hs
    have hop := of_decide_eq_false hs
    have hsf : sfP (aS A) a = false := by
      cases e : sfP (aS A) a with
      | false => rfl
      | true => exact absurd (o3 e) hop
    have es : aSafe n W pa A a = A := by unfold aSafe; rw [if_neg (fun q => hop q.2)]
    rw [es, hsf]
    exact ⟨false, rfl, RF.rf, hA, rfl⟩
theorem s_Course_keepInTree2 (G : zG) (σ : zSt) (a : Nat) (hT : CT σ n R W p src mk len lk pa up ld) (hF : FRA n W lk pa up ld) (hA : CA σ n W pa up A) (hQ : QE n R W p lk pa up ld A) (ha : a < n) (hr : 1 ≤ rdP (aS A) a) (hW : ¬ W = 0) : zB G 2 M_Course_keepInTree [zf G 1, .int (nI a)] σ (fun b τ => RF (25 :: FPool) σ τ ∧ CA τ n W pa up (aTree n W pa up A a) ∧ b = (mayR n W up (aSafe n W pa A a) a && decide (up a = none))) := by
  refine zSpec.of (by decide) (Nat.le_of_ble_eq_true rfl) rfl (fun X E => ?_)
  have hn12 : n ≤ 12 := hT.1.2.2.1
  have hR20 : R ≤ 20 := hT.1.2.2.2.2.2.1
  have hR1 : 1 ≤ R := hT.1.2.2.2.2.1
  have hW2 : W ≤ 2 := hT.1.2.2.2.2.2.2.2
  have hrR := (hQ.1.1.1 a ha).1
  have ia : vp_in (nI a) 12 := vp_in_nI (by omega) (by decide)
  have ca : (nI a).toNatClampNeg = a := nI_clamp (by omega)
  obtain ⟨o1, o2, o3⟩ := op_nn hQ ha hr
  have h7 := (hA.2.2.2.2.1 a ha).2 hr
  have eSf := zSf_op (by omega) h7.1
  obtain ⟨_, _, _, n4, n5, _⟩ := (hQ.1.1.1 a ha).2.1 hr
  have sg := stg_iff (W := W) (S := aS A) (a := a) hW n4 n5
  have sle := stg_le (W := W) (S := aS A) (a := a)
  have A1 := CA_safe (a := a) hW hA
  have esf : sfP (aS (aSafe n W pa A a)) a = decide (opP (aS A) a = 0) := aSafe_sf (fun e => by rw [o3 e]; exact Int.le_refl _) o1
  have q1 : QE n R W p lk pa up ld (aSafe n W pa A a) := ⟨QI.safe hn12 hR20 hQ.1 ha hr, hQ.2.safe⟩
  have hun : ∀ u, up a = some u → u < n := fun u hu => ((hQ.1.1.1 a ha).2.2.1 u hu).1
  have no : mayR n W up (aSafe n W pa A a) a = false → ∃ b : Bool, some (Value.int (0 : Int32)) = some (Value.int (zb b)) ∧ RF (25 :: FPool) σ σ ∧ CA σ n W pa up (aTree n W pa up A a) ∧ b = (mayR n W up (aSafe n W pa A a) a && decide (up a = none)) := fun hm => by
    refine ⟨false, rfl, RF.rf, ?_, by rw [hm]; rfl⟩
    unfold aTree
    rw [if_neg (by rw [hm]; decide)]; exact A1
  have e2 : (lows n up a).all (fun c => aC A 2 a c (rdP (aS A) a)) = all2 n up (aSafe n W pa A a) a := by
    unfold all2
    rw [aSafe_rd, sf_safe.2.2.2.2]
  refine b_Course_keepInTree_0 E (nI a) σ ⟨ia, fun hne => no ?_, fun he => ⟨ia, fun hs => no ?_, fun hs => ⟨_, s_Course_hasAllBelow2 G σ 27 a _ rfl hT (hA.2.2.2.2.2.1 a ha).1 ha, ?_⟩⟩⟩
  · rw [ca, h7.2] at hne
    have hra : raP (aS A) a = true := by
      cases e : raP (aS A) a with
      | true => rfl
      | false => rw [sg.1.mpr e] at hne; exact absurd rfl hne
    unfold mayR
    rw [sf_safe.1, hra]; simp
  · rw [eSf] at hs
    unfold mayR
    rw [esf, hs]; simp
  · rintro b τ ⟨rfl, hb⟩
    rw [e2] at hb
    rw [ca, h7.2] at he
    have hra : raP (aS A) a = false := sg.1.mp ((nI_eq (b := 0) (by omega) (by decide)).mp he)
    have hfi : fiP (aS A) a = false := by
      cases e : fiP (aS A) a with
      | false => rfl
      | true => rw [n5 e] at hra; exact absurd hra (by decide)
    have hdn : dnP (aS A) a = false := by
      cases e : dnP (aS A) a with
      | false => rfl
      | true => rw [n4 e] at hfi; exact absurd hfi (by decide)
    refine ⟨fun hbt => ⟨ia, fun σ3 e3 => ⟨ia, ia, ?_⟩⟩, fun hbf => no ?_⟩
    · have hm : mayR n W up (aSafe n W pa A a) a = true := by
        unfold mayR
        rw [← hb, hbt, sf_safe.1, hra, esf, ← eSf, hs, decide_eq_true hW]; rfl
      have et : aTree n W pa up A a = aPut (aSafe n W pa A a) (setRa (aS (aSafe n W pa A a)) a) (ltrs 3 a (rdP (aS A) a) 0 (selL (fun b => decide (up a = some b)) n)) := by unfold aTree; rw [if_pos hm]
      have hl : (aL (aSafe n W pa A a) ++ ltrs 3 a (rdP (aS A) a) 0 (selL (fun b => decide (up a = some b)) n)).length ≤ 528 := by
        by_cases c : W = 1 ∨ ¬ (mayR n W up (aSafe n W pa A a) a = true ∧ up a = none)
        · have q2 : QE n R W p lk pa up ld (aRaise n W pa up (aSafe n W pa A a) a) := ⟨QI.raise hn12 hR20 hW2 q1.1 ha (by rw [aSafe_rd]; exact hr), q1.2.raise⟩
          have := q2.le528 hn12 hR20 hR1 hF
          rw [← aTree_1 hun c, et] at this
          exact this
        · have hu : up a = none := by
            cases e : up a with
            | none => rfl
            | some u => exact absurd (Or.inr (fun q => by rw [e] at q; exact absurd q.2 (by simp))) c
          rw [hu, selL_none]
          show (aL (aSafe n W pa A a) ++ []).length ≤ 528
          rw [List.append_nil]
          exact q1.le528 hn12 hR20 hR1 hF
      rw [ca] at e3
      have f3 : RF (25 :: FPool) τ σ3 := by rw [e3]; exact RF.rf.up (by decide) (by decide)
      have hT3 := hT.of (f3.mono (by decide))
      have P3 : PV σ3 (aL (aSafe n W pa A a)) := A1.2.1.1.of (fun c hc => by
        rw [e3, zup_ne]; intro e; rw [e] at hc; revert hc; decide)
      have r3 : σ3 24 a = nI (rdP (aS A) a) := by rw [e3, zup_ne (by decide)]; exact hA.1 a ha
      rw [ca, r3]
      refine ⟨_, s_Course_send2 G σ3 n a _ _ 3 (σ3 12 a) 0 (fun b => decide (up a = some b)) hT3.1.1 hn12 P3 (hT3.ab ha) hl, fun σ4 g => ⟨ia, ?_⟩⟩
      have f4 : RF (25 :: FPool) τ σ4 := f3.tr (g.1.mono (by decide))
      refine ⟨_, rfl, f4, ?_, by rw [(hT.of (f4.mono (by decide))).isl hF ha, hm, Bool.true_and]⟩
      rw [et]
      refine A1.put f4 rfl rfl (fun b hb' hr' => ?_) (fun x hx => ?_) g.2.1 (by rw [g.2.2.1, e3, zup_ne (by decide)]) (by rw [g.2.2.2, e3, zup_ne (by decide)])
      · rw [g.1.at (by decide), e3, zup_self]
        by_cases e : b = a
        · rw [e, upd_eq]
          have : stg W (setRa (aS (aSafe n W pa A a)) a) a = 1 := by
            unfold stg
            rw [if_neg hW, if_neg (show ¬ dnP (aS (aSafe n W pa A a)) a = true by rw [sf_safe.2.2.1, hdn]; decide), if_neg (show ¬ fiP (aS (aSafe n W pa A a)) a = true by rw [sf_safe.2.1, hfi]; decide), if_pos (show fup (raP (aS (aSafe n W pa A a))) a true a = true from fup_s)]
          rw [this]; rfl
        · rw [upd_ne e, ((A1.2.2.2.2.1 b hb').2 hr').2]
          congr 1
          exact (stg_n (S := aS (aSafe n W pa A a)) (S' := setRa (aS (aSafe n W pa A a)) a) (a := a) ⟨rfl, fup_n e, rfl, rfl⟩).symm
      · obtain ⟨b, _, rfl⟩ := ltrs_mem.mp hx; exact (show ¬ (3 : Int32) = 0 by decide)
    · unfold mayR
      rw [← hb, hbf]; simp
theorem s_Course_keepInClusters2 (G : zG) (σ : zSt) (a : Nat) (hT : CT σ n R W p src mk len lk pa up ld) (hF : FRA n W lk pa up ld) (hA : CA σ n W pa up A) (hQ : QE n R W p lk pa up ld A) (ha : a < n) (hr : 1 ≤ rdP (aS A) a) (hW : W = 2) : zB G 3 M_Course_keepInClusters [zf G 1, .int (nI a)] σ (fun b τ => RF (25 :: FPool) σ τ ∧ CA τ n W pa up (aOne n W pa up A a) ∧ b = aEnds n W pa up A a) := by
  refine zSpec.of (by decide) (Nat.le_of_ble_eq_true rfl) rfl (fun X E => ?_)
  have hn12 : n ≤ 12 := hT.1.2.2.1
  have hR20 : R ≤ 20 := hT.1.2.2.2.2.2.1
  have hR1 : 1 ≤ R := hT.1.2.2.2.2.1
  have hrR := (hQ.1.1.1 a ha).1
  have ia : vp_in (nI a) 12 := vp_in_nI (by omega) (by decide)
  have ca : (nI a).toNatClampNeg = a := nI_clamp (by omega)
  have q1 : QE n R W p lk pa up ld (aSafe n W pa A a) := ⟨QI.safe hn12 hR20 hQ.1 ha hr, hQ.2.safe⟩
  have r1 : rdP (aS (aSafe n W pa A a)) = rdP (aS A) := aSafe_rd
  have q2 : QE n R W p lk pa up ld (aRaise n W pa up (aSafe n W pa A a) a) := ⟨QI.raise hn12 hR20 (by omega) q1.1 ha (by rw [r1]; exact hr), q1.2.raise⟩
  have r2 : rdP (aS (aRaise n W pa up (aSafe n W pa A a) a)) = rdP (aS A) := by rw [aRaise_rd, r1]
  have q3 : QE n R W p lk pa up ld (aOne n W pa up A a) := QE.one hn12 hR20 (by omega) hQ ha hr
  have hun : ∀ u, up a = some u → u < n := fun u hu => ((hQ.1.1.1 a ha).2.2.1 u hu).1
  have en : aEnds n W pa up A a = (mayD n W pa up (aRaise n W pa up (aSafe n W pa A a) a) a && decide (up a = none)) := by unfold aEnds; rw [if_neg (by omega), if_neg (by omega)]
  obtain ⟨_, _, _, n4, n5, _⟩ := (q2.1.1.1 a ha).2.1 (by rw [r2]; exact hr)
  have sg := stg_iff (W := W) (S := aS (aRaise n W pa up (aSafe n W pa A a) a)) (a := a) (by omega) n4 n5
  have sle := stg_le (W := W) (S := aS (aRaise n W pa up (aSafe n W pa A a) a)) (a := a)
  -- behind raising
  have last : ∀ (υ : zSt), RF (25 :: FPool) σ υ → CA υ n W pa up (aRaise n W pa up (aSafe n W pa A a) a) → (vp_in (nI a) 12 ∧ ((¬ (υ 25 (nI a).toNatClampNeg) = (2 : Int32) → ∃ b : Bool, some (Value.int (0 : Int32)) = some (Value.int (zb b)) ∧ RF (25 :: FPool) σ υ ∧ CA υ n W pa up (aOne n W pa up A a) ∧ b = aEnds n W pa up A a) ∧ ((υ 25 (nI a).toNatClampNeg) = (2 : Int32) → (∃ P : Bool → zSt → Prop, zB G 1 M_Course_hasAllSafes [zf G 1, .int (nI a)] υ P ∧ ∀ (b4 : Bool) (σ3 : zSt), P b4 σ3 → ((b4 = false → ∃ b : Bool, some (Value.int (0 : Int32)) = some (Value.int (zb b)) ∧ RF (25 :: FPool) σ σ3 ∧ CA σ3 n W pa up (aOne n W pa up A a) ∧ b = aEnds n W pa up A a) ∧ (b4 = true → (∃ P : Bool → zSt → Prop, zB G 1 M_Course_hasAllBelow [zf G 1, zf G 28, .int (nI a)] σ3 P ∧ ∀ (b6 : Bool) (σ5 : zSt), P b6 σ5 → ((b6 = true → (vp_in (nI a) 12 ∧ ∀ σ7 : zSt, σ7 = zup σ5 25 (nI a).toNatClampNeg (3 : Int32) → (vp_in (nI a) 12 ∧ (vp_in (nI a) 12 ∧ (∃ P : zSt → Prop, zV G 1 M_Course_send [zf G 1, .int (6 : Int32), .int (nI a), .int (σ7 12 (nI a).toNatClampNeg), .int (σ7 24 (nI a).toNatClampNeg), .int (0 : Int32)] σ7 P ∧ ∀ σ8 : zSt, P σ8 → (vp_in (nI a) 12 ∧ ∃ b : Bool, some (Value.int (zb (zLd σ8 (nI a)))) = some (Value.int (zb b)) ∧ RF (25 :: FPool) σ σ8 ∧ CA σ8 n W pa up (aOne n W pa up A a) ∧ b = aEnds n W pa up A a)))))) ∧ (b6 = false → ∃ b : Bool, some (Value.int (0 : Int32)) = some (Value.int (zb b)) ∧ RF (25 :: FPool) σ σ5 ∧ CA σ5 n W pa up (aOne n W pa up A a) ∧ b = aEnds n W pa up A a))))))))) := by
    intro υ fυ Aυ
    have hTυ := hT.of (fυ.mono (by decide))
    have h7 := (Aυ.2.2.2.2.1 a ha).2 (by rw [r2]; exact hr)
    have no : mayD n W pa up (aRaise n W pa up (aSafe n W pa A a) a) a = false → ∃ b : Bool, some (Value.int (0 : Int32)) = some (Value.int (zb b)) ∧ RF (25 :: FPool) σ υ ∧ CA υ n W pa up (aOne n W pa up A a) ∧ b = aEnds n W pa up A a := fun hD => by
      refine ⟨false, rfl, fυ, ?_, by rw [en, hD]; rfl⟩
      unfold aOne aDone
      rw [if_neg (by rw [hD]; decide)]; exact Aυ
    have e3 : (lows n up a).all (fun c => aC (aRaise n W pa up (aSafe n W pa A a) a) 3 a c (rdP (aS (aRaise n W pa up (aSafe n W pa A a) a)) a)) = all3 n up (aRaise n W pa up (aSafe n W pa A a) a) a := rfl
    refine ⟨ia, fun hne => no ?_, fun he => ⟨_, s_Course_hasAllSafes2 G υ a hTυ Aυ ha (by rw [r2]; omega), ?_⟩⟩
    · rw [ca, h7.2] at hne
      cases hD : mayD n W pa up (aRaise n W pa up (aSafe n W pa A a) a) a with
      | false => rfl
      | true =>
        exfalso
        unfold mayD at hD
        rw [Bool.and_eq_true, Bool.and_eq_true, Bool.and_eq_true, Bool.not_eq_true'] at hD
        exact hne (by rw [sg.2.mpr ⟨hD.2.1, hD.2.2.1⟩]; rfl)
    · rw [ca, h7.2] at he
      obtain ⟨hfi, hdn⟩ := sg.2.mp ((nI_eq (b := 2) (by omega) (by decide)).mp he)
      rintro b4 σ3 ⟨rfl, hb4⟩
      refine ⟨fun hz => no ?_, fun hb4t => ⟨_, s_Course_hasAllBelow2 G σ3 28 a _ rfl hTυ (Aυ.2.2.2.2.2.1 a ha).2 ha, ?_⟩⟩
      · unfold mayD; rw [← hb4, hz]; simp
      · rintro b6 σ5 ⟨rfl, hb6⟩
        rw [e3] at hb6
        refine ⟨fun hb6t => ⟨ia, fun σ7 e7 => ⟨ia, ia, ?_⟩⟩, fun hz => no ?_⟩
        · have hD : mayD n W pa up (aRaise n W pa up (aSafe n W pa A a) a) a = true := by
            unfold mayD
            rw [← hb4, ← hb6, hb4t, hb6t, hfi, hdn, decide_eq_true hW]; rfl
          have eO : aOne n W pa up A a = aPut (aRaise n W pa up (aSafe n W pa A a) a) (setDn (aS (aRaise n W pa up (aSafe n W pa A a) a)) a) (ltrs 6 a (rdP (aS A) a) 0 (selL (fun b => decide (up a = some b)) n)) := by
            unfold aOne aDone
            rw [if_pos hD]
            cases hu : up a with
            | some u => dsimp only; rw [selL_up (hun u hu), r2]; rfl
            | none => dsimp only; rw [selL_none]; rfl
          have hl := q3.le528 hn12 hR20 hR1 hF
          rw [eO] at hl
          rw [ca] at e7
          have f7 : RF (25 :: FPool) σ5 σ7 := by rw [e7]; exact RF.rf.up (by decide) (by decide)
          have hT7 := hTυ.of (f7.mono (by decide))
          have P7 : PV σ7 (aL (aRaise n W pa up (aSafe n W pa A a) a)) := Aυ.2.1.1.of (fun c hc => by
            rw [e7, zup_ne]; intro e; rw [e] at hc; revert hc; decide)
          have r7 : σ7 24 a = nI (rdP (aS A) a) := by rw [e7, zup_ne (by decide), Aυ.1 a ha, r2]
          rw [ca, r7]
          refine ⟨_, s_Course_send2 G σ7 n a _ _ 6 (σ7 12 a) 0 (fun b => decide (up a = some b)) hT7.1.1 hn12 P7 (hT7.ab ha) hl, fun σ8 g => ⟨ia, ?_⟩⟩
          have f8 : RF (25 :: FPool) σ5 σ8 := f7.tr (g.1.mono (by decide))
          refine ⟨_, rfl, fυ.tr f8, ?_, by rw [(hTυ.of (f8.mono (by decide))).isl hF ha, en, hD, Bool.true_and]⟩
          rw [eO]
          refine Aυ.put f8 rfl rfl (fun b hb' hr' => ?_) (fun x hx => ?_) g.2.1 (by rw [g.2.2.1, e7, zup_ne (by decide)]) (by rw [g.2.2.2, e7, zup_ne (by decide)])
          · rw [g.1.at (by decide), e7, zup_self]
            by_cases e : b = a
            · rw [e, upd_eq]
              have : stg W (setDn (aS (aRaise n W pa up (aSafe n W pa A a) a)) a) a = 3 := by
                unfold stg
                rw [if_neg (by omega), if_pos (show fup (dnP (aS (aRaise n W pa up (aSafe n W pa A a) a))) a true a = true from fup_s)]
              rw [this]; rfl
            · rw [upd_ne e, ((Aυ.2.2.2.2.1 b hb').2 hr').2]
              congr 1
              exact (stg_n (S := aS (aRaise n W pa up (aSafe n W pa A a) a)) (S' := setDn (aS (aRaise n W pa up (aSafe n W pa A a) a)) a) (a := a) ⟨rfl, rfl, rfl, fup_n e⟩).symm
          · obtain ⟨b, _, rfl⟩ := ltrs_mem.mp hx; exact (show ¬ (6 : Int32) = 0 by decide)
        · unfold mayD; rw [← hb6, hz]; simp
  refine b_Course_keepInClusters_0 E (nI a) σ ⟨_, s_Course_keepInTree2 G σ a hT hF hA hQ ha hr (by omega), fun b σ1 ⟨g1, g2, g3⟩ => ⟨fun hb => last σ1 g1 ?_, fun hb => ?_⟩⟩
  · rw [← aTree_1 hun (Or.inr (fun q => by
      rw [q.1, decide_eq_true q.2, hb] at g3; exact absurd g3 (by decide)))]
    exact g2
  · rw [hb] at g3
    have g3 := g3.symm
    rw [Bool.and_eq_true] at g3
    have hu := of_decide_eq_true g3.2
    have e2 := aTree_2 (pa := pa) g3.1 hu hW
    refine ⟨_, s_Course_spreadFirm2 G σ1 a (hT.of (g1.mono (by decide))) g2 hW ha ?_ (by rw [e2]; exact q2.le528 hn12 hR20 hR1 hF), fun σ9 ⟨k1, k2⟩ => last σ9 (g1.tr k1) (by rw [← e2]; exact k2)⟩
    have hm := g3.1
    have : dnP (aS (aTree n W pa up A a)) a = dnP (aS A) a := by
      unfold aTree
      rw [if_pos hm]
      show dnP (aS (aSafe n W pa A a)) a = _
      rw [sf_safe.2.2.1]
    rw [this]
    unfold mayR at hm
    rw [Bool.and_eq_true, Bool.and_eq_true, Bool.and_eq_true, Bool.not_eq_true', sf_safe.1] at hm
    obtain ⟨_, _, _, m4, m5, _⟩ := (hQ.1.1.1 a ha).2.1 hr
    cases e : dnP (aS A) a with
    | false => rfl
    | true => rw [m5 (m4 e)] at hm; exact absurd hm.2.2.1 (by decide)
theorem s_Course_push2 (G : zG) (σ : zSt) (a : Nat) (hT : CT σ n R W p src mk len lk pa up ld) (hF : FRA n W lk pa up ld) (hM : MLB mk len) (hA : CA σ n W pa up A) (hQ : QE n R W p lk pa up ld A) (ha : a < n) (hr : 1 ≤ rdP (aS A) a) : zV G 5 M_Course_push [zf G 1, .int (nI a)] σ (fun τ => RF FR σ τ ∧ CA τ n W pa up (aGo n R W p src mk len lk pa up R A a)) := by
  generalize hAF : aGo n R W p src mk len lk pa up R A a = AF
  refine zSpec.of (by decide) (Nat.le_of_ble_eq_true rfl) rfl (fun X E => ?_)
  have hn12 : n ≤ 12 := hT.1.2.2.1
  have hR20 : R ≤ 20 := hT.1.2.2.2.2.2.1
  have hR1 : 1 ≤ R := hT.1.2.2.2.2.1
  have hW2 : W ≤ 2 := hT.1.2.2.2.2.2.2.2
  have ia : vp_in (nI a) 12 := vp_in_nI (by omega) (by decide)
  have ca : (nI a).toNatClampNeg = a := nI_clamp (by omega)
  refine b_Course_push_0 E (nI a) σ ?_
  refine z_for R (fun i τ => zZ G M_Course_push 5 X (fun r τ => r = none ∧ RF FR σ τ ∧ CA τ n W pa up AF) 2 [(0, zf G 1), (1, .int (nI a)), (2, .int (nI i))] [] τ) (fun i τ => RF FR σ τ ∧ ∃ B : AS, CA τ n W pa up B ∧ QE n R W p lk pa up ld B ∧ 1 ≤ rdP (aS B) a ∧ aGo n R W p src mk len lk pa up (R - i) B a = AF) ?_ ?_ 0 σ (Nat.zero_le _) ⟨RF.rf, A, hA, hQ, hr, hAF⟩
  · intro i τ hi ⟨fτ, B, hB, qB, rB, gB⟩ ih
    have hTτ := hT.of fτ
    obtain ⟨f', ef⟩ : ∃ f', R - i = f' + 1 := ⟨R - i - 1, by omega⟩
    have ef2 : f' = R - (i + 1) := by omega
    rw [ef] at gB
    unfold aGo at gB
    have q3 : QE n R W p lk pa up ld (aOne n W pa up B a) := QE.one hn12 hR20 hW2 qB ha rB
    have r3 : rdP (aS (aOne n W pa up B a)) = rdP (aS B) := aOne_rd
    have rR := (q3.1.1.1 a ha).1
    -- behind a keep..: the end of the turn
    have tail : ∀ (b : Bool) (υ : zSt), RF (25 :: FPool) τ υ → CA υ n W pa up (aOne n W pa up B a) → b = aEnds n W pa up B a →
        ((b = false → (none : Option Value) = none ∧ RF FR σ υ ∧ CA υ n W pa up AF) ∧ (b = true → (vp_in (nI a) 12 ∧ (((υ 24 (nI a).toNatClampNeg) < (υ 1 5) → (∃ P : zSt → Prop, zV G 4 M_Course_enterNext [zf G 1, .int (nI a)] υ P ∧ ∀ σ3 : zSt, P σ3 → zZ G M_Course_push 5 X (fun r τ => r = none ∧ RF FR σ τ ∧ CA τ n W pa up AF) 2 [(0, zf G 1), (1, .int (nI a)), (2, .int (nI i + 1))] [] σ3)) ∧ (¬ (υ 24 (nI a).toNatClampNeg) < (υ 1 5) → (none : Option Value) = none ∧ RF FR σ υ ∧ CA υ n W pa up AF))))) := by
      intro b υ g1 g2 hb
      have fυ : RF FR σ υ := fτ.tr (g1.mono (by decide))
      have hTυ := hT.of fυ
      have r24 : υ 24 (nI a).toNatClampNeg = nI (rdP (aS (aOne n W pa up B a)) a) := by rw [ca]; exact g2.1 a ha
      have en : ¬ (aEnds n W pa up B a = true ∧ rdP (aS (aOne n W pa up B a)) a < R) → (none : Option Value) = none ∧ RF FR σ υ ∧ CA υ n W pa up AF := fun hs => by
        rw [if_neg hs] at gB
        exact ⟨rfl, fυ, by rw [← gB]; exact g2⟩
      refine ⟨fun hf => en (fun q => by rw [← hb, hf] at q; exact absurd q.1 (by decide)), fun ht => ⟨ia, fun hlt => ?_, fun hnl => en (fun q => hnl ?_)⟩⟩
      · rw [r24, hTυ.1.2.2.2.1] at hlt
        have hltR : rdP (aS (aOne n W pa up B a)) a < R := (nI_ltI (by omega) (by omega)).mp hlt
        have hc : aEnds n W pa up B a = true ∧ rdP (aS (aOne n W pa up B a)) a < R := ⟨by rw [← hb]; exact ht, hltR⟩
        rw [if_pos hc] at gB
        have hBG := BG_ends hn12 hR20 hW2 hF qB.1 ha rB hc.1 hc.2
        refine ⟨_, s_Course_enterNext2 G υ a hTυ hF hM g2 q3 hBG ha (fun e => by rw [r3] at e; omega), fun σ3 ⟨k1, k2⟩ => ?_⟩
        rw [nI_1]
        refine ih σ3 ⟨fυ.tr k1, _, k2, q3.beg hn12 hR20 hM ha hBG, Nat.le_trans (by rw [r3]; exact rB) (beg_rd a), by rw [← ef2]; exact gB⟩
      · rw [r24, hTυ.1.2.2.2.1]
        exact nI_lt q.2 (by omega)
    refine b_Course_push_2 E (nI a) (nI i) τ ⟨fun q => absurd q (by rw [hTτ.1.2.2.2.1]; exact nI_ge hi (by omega)), fun _ => ⟨fun w0 => ⟨fun w1 => ⟨_, s_Course_keepInClusters2 G τ a hTτ hF hB qB ha rB ?_, fun b υ ⟨g1, g2, g3⟩ => tail b υ g1 g2 g3⟩, fun w1 => ?_⟩, fun w0 => ⟨_, s_Course_keepWithAll2 G τ a hTτ hF hB qB ha rB ?_, fun b υ ⟨g1, g2, g3⟩ => tail b υ g1 g2 g3⟩⟩⟩
    · rw [hTτ.1.2.2.2.2.2.2.1] at w0 w1
      have z0 : ¬ W = 0 := fun e => w0 (by rw [e]; rfl)
      have z1 : ¬ W = 1 := fun e => w1 (by rw [e]; rfl)
      omega
    · rw [hTτ.1.2.2.2.2.2.2.1] at w1
      have z1 : W = 1 := (nI_eq (b := 1) (by omega) (by decide)).mp w1
      refine ⟨_, s_Course_keepInTree2 G τ a hTτ hF hB qB ha rB (by omega), fun b υ ⟨g1, g2, g3⟩ => tail b υ g1 ?_ ?_⟩
      · have e1 : aOne n W pa up B a = aTree n W pa up B a := by
          rw [aTree_1 (fun u hu => ((qB.1.1.1 a ha).2.2.1 u hu).1) (Or.inl z1)]
          unfold aOne aDone mayD
          rw [if_neg (by rw [z1]; simp)]
        rw [e1]; exact g2
      · rw [g3]; unfold aEnds; rw [if_neg (by omega), if_pos z1]
    · rw [hTτ.1.2.2.2.2.2.2.1] at w0
      exact (nI_eq (b := 0) (by omega) (by decide)).mp w0
  · intro τ ⟨fτ, B, hB, _, _, gB⟩
    have hTτ := hT.of fτ
    rw [Nat.sub_self] at gB
    exact b_Course_push_2 E (nI a) (nI R) τ ⟨fun _ => ⟨rfl, fτ, by rw [← gB]; exact hB⟩, fun q => absurd (by rw [hTτ.1.2.2.2.1]; exact nI_le (Nat.le_refl R) (by omega)) q⟩
end CCLS3
end
section
-- The class is the pure machine: a letter comes (bring)
section CCLS4
variable {n R W p : Nat} {src : Int32} {mk : Nat → Int32} {len : Nat → Nat → Int32} {lk pa : Nat → Nat → Bool} {up : Nat → Option Nat} {ld : Nat → Nat} {A : AS}
/-- nothing came but what cells 27, 28, 29 count -/
theorem CA.came {σ τ : zSt} {w t f q : Nat} (h : CA σ n W pa up A) (hw : ¬ w = 0) (hF : zFr [27, 28, 29] σ τ)
    (h27 : ∀ b, b < n → τ 27 b = nI ((lows n up b).countP (fun c => cmU (aC A) w t f q 2 b c (rdP (aS A) b)))) (h28 : ∀ b, b < n → τ 28 b = nI ((lows n up b).countP (fun c => cmU (aC A) w t f q 3 b c (rdP (aS A) b))))
    (h29 : ∀ b r, b < n → (r = rdP (aS A) b ∨ r = rdP (aS A) b + 1) → τ 29 (r % 2 * 12 + b) = nI ((pars n pa b).countP (fun c => cmU (aC A) w t f q 1 b c r))) : CA τ n W pa up (aCame A w t f q) := by
  obtain ⟨a1, ⟨a2, a3, a4⟩, a5, a6, a7, _, _, a10⟩ := h
  refine ⟨?_, ⟨a2.of (fun c hc => hF c (fun e => by revert hc; revert e; simp only [List.mem_cons, List.not_mem_nil, or_false]; omega)), ?_, ?_⟩, ?_, ?_, ?_, fun b hb => ⟨h27 b hb, h28 b hb⟩, h29, ?_⟩
  · rw [hF 24 (by decide)]; exact a1
  · rw [hF 1 (by decide)]; exact a3
  · rw [hF 1 (by decide)]; exact a4
  · rw [hF 16 (by decide), hF 17 (by decide)]; exact a5
  · rw [hF 30 (by decide)]; exact a6
  · rw [hF 26 (by decide), hF 25 (by decide)]; exact a7
  · intro b r hb hr g hg
    rw [hF 18 (by decide), a10 b r hb hr g hg]
    unfold noteR
    show _ = if g < n ∧ cmU (aC A) w t f q 0 b g r = true then aM A b g r else -2
    rw [cmU_ne (fun z => hw z.1.symm)]
/-- counts that do not change -/
theorem cnt_cm {w w' t f q b r : Nat} {P : Nat → Bool} (h : ¬ (w' = w ∧ b = t ∧ r = q)) : (selL P n).countP (fun c => cmU (aC A) w t f q w' b c r) = (selL P n).countP (fun c => aC A w' b c r) := cnt_eq (fun c _ _ => cmU_ne (fun z => h ⟨z.1, z.2.1, z.2.2.2⟩))
/-- the count that does -/
theorem cnt_c1 {w t f q : Nat} {P : Nat → Bool} (hf : f < n) (hp : P f = true) (h0 : aC A w t f q = false) : (selL P n).countP (fun c => cmU (aC A) w t f q w t c q) = (selL P n).countP (fun c => aC A w t c q) + 1 := by
  have := cnt_up (F := fun c => aC A w t c q) (F' := fun c => cmU (aC A) w t f q w t c q) hp h0 cmU_eq (fun c hc => cmU_ne (fun z => hc z.2.2.1)) n
  rw [if_pos hf] at this; exact this
set_option maxHeartbeats 1000000 in
theorem s_Course_bring2 (G : zG) (σ : zSt) (i : Nat) (hT : CT σ n R W p src mk len lk pa up ld) (hF : FRA n W lk pa up ld) (hM : MLB mk len) (hA : CA σ n W pa up A) (hQ : QR n R W p lk pa up ld A) (hi : i < (aL A).length) : zI G 6 M_Course_bring [zf G 1, .int (nI i)] σ (fun y τ => ∃ (k f t q : Nat) (x : Int32), (aL A)[i]? = some (nI k, nI f, nI t, nI q, x) ∧ k < 7 ∧ f < n ∧ t < n ∧ 1 ≤ q ∧ q ≤ R ∧ y = nI k ∧ RF FR σ τ ∧ CA τ n W pa up (aHandle n R W p src mk len lk pa up A i k f t q x)) := by
  refine zSpec.of (by decide) (Nat.le_of_ble_eq_true rfl) rfl (fun X E => ?_)
  have hn12 : n ≤ 12 := hT.1.2.2.1
  have hR20 : R ≤ 20 := hT.1.2.2.2.2.2.1
  have hR1 : 1 ≤ R := hT.1.2.2.2.2.1
  have hW2 : W ≤ 2 := hT.1.2.2.2.2.2.2.2
  have hP := hQ.1.1.1
  have hX := hQ.1.1.2.1
  have hlen := hQ.1.le528 hn12 hR20 hR1 hF
  have hx : (aL A)[i]? = some (plt σ i) := hA.2.1.1.2.2 i hi
  have hm : plt σ i ∈ aL A := List.mem_of_getElem? hx
  obtain ⟨⟨⟨k, hk, ek⟩, ⟨f, hf, ef⟩, ⟨t, ht, et⟩, ⟨q, hq1, hqR, eq, _⟩⟩, t3, t6, t4, t5⟩ := hP.2.1 _ hm
  have ek' : σ 19 i = nI k := ek
  have ef' : σ 20 i = nI f := ef
  have et' : σ 21 i = nI t := et
  have eq' : σ 22 i = nI q := eq
  have hx2 : (aL A)[i]? = some (nI k, nI f, nI t, nI q, σ 23 i) := by
    rw [hx]; unfold plt; rw [ek', ef', et', eq']
  have ii : vp_in (nI i) 528 := vp_in_nI (by omega) (by decide)
  have ci : (nI i).toNatClampNeg = i := nI_clamp (by omega)
  have it : vp_in (nI t) 12 := vp_in_nI (by omega) (by decide)
  have ct : (nI t).toNatClampNeg = t := nI_clamp (by omega)
  obtain ⟨qa1, qa2⟩ := hQ.1.1.act (src := src) (mk := mk) (len := len) hn12 hR20 hW2 hF hM hQ.2.1 hk hf ht hq1 hqR hx2
  have qa : QE n R W p lk pa up ld (aAct n p src mk len lk pa up (aErase A i) k f t q (σ 23 i)) := ⟨qa1, XN.act hF hQ.1 hR20 hn12 hf ht hq1 hqR hx2⟩
  have ra : 1 ≤ rdP (aS (aAct n p src mk len lk pa up (aErase A i) k f t q (σ 23 i))) t := Nat.le_trans (hQ.2.1 t ht) (qa2 t)
  have hkt : (nI k).toInt = (k : Int) := nI_toInt (by omega)
  have rt := hQ.2.1 t ht
  have rtR := (hP.1 t ht).1
  refine b_Course_bring_0 E (nI i) σ ?_
  rw [ci, ek', ef', et', eq']
  generalize σ 23 i = x at hx2 qa ra qa1 qa2 ⊢
  have last : ∀ υ : zSt, RF FR σ υ → CA υ n W pa up (aAct n p src mk len lk pa up (aErase A i) k f t q x) → zZ G M_Course_bring 6 X (fun r τ => ∃ y : Int32, r = some (.int y) ∧ ∃ (k f t q : Nat) (x : Int32), (aL A)[i]? = some (nI k, nI f, nI t, nI q, x) ∧ k < 7 ∧ f < n ∧ t < n ∧ 1 ≤ q ∧ q ≤ R ∧ y = nI k ∧ RF FR σ τ ∧ CA τ n W pa up (aHandle n R W p src mk len lk pa up A i k f t q x)) 208 [(0, zf G 1), (2, .int (nI k)), (4, .int (nI t))] [] υ := by
    intro υ g1 g2
    exact b_Course_bring_208 E (nI k) (nI t) υ ⟨_, s_Course_push2 G υ t (hT.of g1) hF hM g2 qa ht ra, fun τ ⟨k1, k2⟩ => ⟨_, rfl, k, f, t, q, x, hx2, hk, hf, ht, hq1, hqR, rfl, g1.tr k1, k2⟩⟩
  refine ⟨ii, ii, ii, ii, ii, _, s_Pool_remove G σ (aL A) i hA.2.1.1 hi, fun σ1 ⟨p1, p2⟩ => ?_⟩
  have f1 : RF FR σ σ1 := (RF.of p2 (by decide)).mono (by decide)
  have AE : CA σ1 n W pa up (aErase A i) := by
    obtain ⟨a1, ⟨_, a3, a4⟩, a5, a6, a7, a8, a9, a10⟩ := hA
    refine ⟨?_, ⟨p1, ?_, ?_⟩, ?_, ?_, ?_, ?_, ?_, ?_⟩
    · rw [p2 24 (by decide)]; exact a1
    · rw [p2 1 (by decide)]; exact a3
    · rw [p2 1 (by decide)]; exact a4
    · rw [p2 16 (by decide), p2 17 (by decide)]; exact a5
    · rw [p2 30 (by decide)]; exact a6
    · rw [p2 26 (by decide), p2 25 (by decide)]; exact a7
    · rw [p2 27 (by decide), p2 28 (by decide)]; exact a8
    · rw [p2 29 (by decide)]; exact a9
    · rw [p2 18 (by decide)]; exact a10
  have hT1 := hT.of f1
  refine ⟨fun hk0 => ?_, fun hk1 => ?_, fun hk2 => ?_, fun hk3 => ?_, fun hk4 => ?_, fun hk5 => ?_, fun hk6 => ?_⟩
  · -- NOTE
    have k0 : k = 0 := by omega
    have eA : aAct n p src mk len lk pa up (aErase A i) k f t q x = aNote (aErase A i) t f q x := by unfold aAct; rw [if_pos k0]
    rw [eA] at qa
    have l5 := qa.le528 hn12 hR20 hR1 hF
    rw [k0] at hx2
    obtain ⟨f', t', hf', ht', e1, e2, hl, e3, hr, hr2, hr3⟩ := note_rd hF hP hX (List.mem_of_getElem? hx2) rfl
    have hrR := (hP.1 f' hf').1
    have eff : f = f' := i12 (by omega) (by omega) e1
    have ett : t = t' := i12 (by omega) (by omega) e2
    have eqq : q = rdP (aS A) f' := i12 (by omega) (by omega) e3
    rw [← ett] at hr2 hr3
    have qr : q = rdP (aS A) t ∨ q = rdP (aS A) t + 1 := by have := hr3 rt; omega
    refine ⟨_, s_Play_keepNote2 G σ1 f t q x (by omega) (by omega) (by omega), fun σ2 e2' => ?_⟩
    have f2 : RF FR σ1 σ2 := by rw [e2']; exact RF.rf.up (by decide) (by decide)
    have hT2 := hT1.of f2
    have P2 : PV σ2 ((aL A).eraseIdx i) := p1.of (fun c hc => by
      rw [e2', zup_ne]; intro e; rw [e] at hc; revert hc; decide)
    have el : ltrs 1 t q 0 (selL (fun b => decide (b = f)) n) = [(1, nI t, nI f, nI q, 0)] := by rw [selL_sing hf]; rfl
    refine ⟨_, s_Course_send2 G σ2 n t q ((aL A).eraseIdx i) 1 _ 0 (fun b => decide (b = f)) hT2.1.1 hn12 P2 (fun b hb => zIn_bit (by omega) (by omega)) (by rw [el]; exact l5), fun σ3 g => ?_⟩
    rw [el] at g
    refine last σ3 ((f1.tr f2).tr (g.1.mono (by decide))) ?_
    rw [eA]
    obtain ⟨a1, ⟨_, a3, a4⟩, a5, a6, a7, a8, a9, a10⟩ := AE
    have h2 : ∀ c, c ∉ (1 :: FPool) → c ≠ 18 → σ3 c = σ1 c := fun c b1 b2 => by rw [g.1.at b1, e2', zup_ne b2]
    have cc : ∀ (w b r : Nat) (P : Nat → Bool), ¬ w = 0 → (selL P n).countP (fun c => aC (aNote (aErase A i) t f q x) w b c r) = (selL P n).countP (fun c => aC A w b c r) := fun w b r P hw => cnt_cm (fun z => hw z.1)
    refine ⟨?_, ⟨g.2.1, ?_, ?_⟩, ?_, ?_, ?_, fun b hb => ?_, fun b r hb hr => ?_, fun b r hb hr g' hg' => ?_⟩
    · rw [h2 24 (by decide) (by decide)]; exact a1
    · rw [g.2.2.1, e2', zup_ne (by decide), a3]; exact Int32.add_zero _
    · rw [g.2.2.2, e2', zup_ne (by decide), a4]; rfl
    · rw [h2 16 (by decide) (by decide), h2 17 (by decide) (by decide)]; exact a5
    · rw [h2 30 (by decide) (by decide)]; exact a6
    · rw [h2 26 (by decide) (by decide), h2 25 (by decide) (by decide)]; exact a7
    · rw [h2 27 (by decide) (by decide), h2 28 (by decide) (by decide)]
      have := a8 b hb
      unfold lows at this ⊢
      rw [cc 2 b _ _ (by omega), cc 3 b _ _ (by omega)]; exact this
    · rw [h2 29 (by decide) (by decide)]
      have := a9 b r hb hr
      unfold pars at this ⊢
      rw [cc 1 b _ _ (by omega)]; exact this
    · have hr : r = rdP (aS A) b ∨ r = rdP (aS A) b + 1 := hr
      rw [g.1.at (by decide), e2', zup_self]
      unfold noteR
      show _ = if g' < n ∧ cmU (aC A) 0 t f q 0 b g' r = true then (if b = t ∧ g' = f ∧ r = q then x else aM A b g' r) else -2
      by_cases c : b = t ∧ g' = f ∧ r = q
      · rw [if_pos c, c.1, c.2.1, c.2.2, upd_eq, if_pos ⟨hf, cmU_eq⟩]
      · rw [if_neg c, cmU_ne (fun z => c z.2), upd_ne]
        · exact a10 b r hb hr g' hg'
        · intro e
          have eb : b = t := by omega
          have eg : g' = f := by omega
          have er : r % 2 = q % 2 := by omega
          rw [eb] at hr
          exact c ⟨eb, eg, by omega⟩
  · -- ACK
    have k1 : k = 1 := by omega
    refine ⟨it, it, fun σ4 e4 => last σ4 ?_ ?_⟩
    · rw [e4]; exact f1.up (by decide) (by decide)
    · have eA : aAct n p src mk len lk pa up (aErase A i) k f t q x = mkA (setOp (aS A) t (opP (aS A) t - 1)) (aV A) (aQ A) (aU A) (aC A) (aM A) ((aL A).eraseIdx i) (aN A) (aO A) := by
        unfold aAct; rw [if_neg (by omega), if_pos k1]; rfl
      rw [eA]
      rw [ct] at e4
      have h4 : ∀ c, c ≠ 26 → σ4 c = σ1 c := fun c hc => by rw [e4, zup_ne hc]
      obtain ⟨o1, o2, _⟩ := op_nn hQ.1 ht rt
      obtain ⟨a1, ⟨_, a3, a4⟩, a5, a6, a7, a8, a9, a10⟩ := AE
      refine ⟨?_, ⟨p1.of (fun c hc => h4 c (fun e => by rw [e] at hc; revert hc; decide)), ?_, ?_⟩, ?_, ?_, fun b hb => ?_, ?_, ?_, ?_⟩
      · rw [h4 24 (by decide)]; exact a1
      · rw [h4 1 (by decide)]; exact a3
      · rw [h4 1 (by decide)]; exact a4
      · rw [h4 16 (by decide), h4 17 (by decide)]; exact a5
      · rw [h4 30 (by decide)]; exact a6
      · rw [h4 25 (by decide), e4, zup_self]
        by_cases e : b = t
        · rw [e]
          have h7 := (a7 t ht).2 rt
          refine ⟨fun z => by
            have z : rdP (aS A) t = 0 := z
            omega, fun _ => ⟨?_, h7.2⟩⟩
          have h71 : (σ1 26 t).toInt = opP (aS A) t := h7.1
          rw [upd_eq, i32_dec (by omega), h71]
          exact fup_s.symm
        · rw [upd_ne e]
          have h7 := a7 b hb
          refine ⟨h7.1, fun z => ⟨?_, (h7.2 z).2⟩⟩
          rw [(h7.2 z).1]
          exact (fup_n e).symm
      · rw [h4 27 (by decide), h4 28 (by decide)]; exact a8
      · rw [h4 29 (by decide)]; exact a9
      · rw [h4 18 (by decide)]; exact a10
  · -- SAFE
    have k2 : k = 2 := by omega
    have eA : aAct n p src mk len lk pa up (aErase A i) k f t q x = aCame (aErase A i) 1 t f q := by
      unfold aAct; rw [if_neg (by omega), if_neg (by omega), if_pos k2]
    rw [k2] at hx2
    obtain ⟨f', t', q', s1, s2, s3, s4, s5, s6, s7, s8, s9, s10, s11⟩ := safe_rd hR20 hF hP hX (List.mem_of_getElem? hx2) rfl
    have eff : f = f' := i12 (by omega) (by omega) s5
    have ett : t = t' := i12 (by omega) (by omega) s6
    have eqq : q = q' := i12 (by omega) (by omega) s7
    rw [← eff, ← ett] at s8
    rw [← ett, ← eqq] at s9 s10
    rw [← eff, ← ett, ← eqq] at s11
    have ix : (nI q &&& (1 : Int32)) * 12 + nI t = nI (q % 2 * 12 + t) := by rw [pand1 _ (by omega), zi12]
    refine ⟨by rw [ix]; exact vp_in_nI (by omega) (by decide), by rw [ix]; exact vp_in_nI (by omega) (by decide), fun σ4 e4 => last σ4 ?_ ?_⟩
    · rw [e4]; exact f1.up (by decide) (by decide)
    · rw [eA]
      rw [ix, nI_clamp (by omega)] at e4
      refine AE.came (by omega) (by rw [e4]; exact zFr.rf.up (by decide)) (fun b hb => ?_) (fun b hb => ?_) (fun b r hb hr => ?_)
      · have := (AE.2.2.2.2.2.1 b hb).1
        unfold lows at this ⊢
        rw [cnt_cm (fun z => absurd z.1 (by omega)), e4, zup_ne (by decide)]; exact this
      · have := (AE.2.2.2.2.2.1 b hb).2
        unfold lows at this ⊢
        rw [cnt_cm (fun z => absurd z.1 (by omega)), e4, zup_ne (by decide)]; exact this
      · have hr' : r = rdP (aS A) b ∨ r = rdP (aS A) b + 1 := hr
        have h9 := AE.2.2.2.2.2.2.1 b r hb hr
        unfold pars at h9 ⊢
        rw [e4, zup_self]
        by_cases c : b = t ∧ r = q
        · rw [c.1, c.2] at h9 ⊢
          rw [upd_eq, h9, nI_1]
          congr 1
          exact (cnt_c1 (A := A) hf (by rw [hF.2.2.2.1 t f ht hf]; exact s8) s11).symm
        · rw [cnt_cm (fun z => c ⟨z.2.1, z.2.2⟩), upd_ne]
          · exact h9
          · intro e
            have eb : b = t := by omega
            rw [eb] at hr'
            exact c ⟨eb, by omega⟩
  · -- READY
    have k3 : k = 3 := by omega
    have eA : aAct n p src mk len lk pa up (aErase A i) k f t q x = aCame (aErase A i) 2 t f q := by
      unfold aAct; rw [if_neg (by omega), if_neg (by omega), if_neg (by omega), if_pos k3]
    obtain ⟨c, u, q', z1, z2, z3, z4, z5, z6, z7, z8⟩ := t3 (by rw [ek, k3]; rfl)
    have zc : f = c := i12 (by omega) (by omega) (ef.symm.trans z3)
    have zu : t = u := i12 (by omega) (by omega) (et.symm.trans z4)
    have h20 := (hP.1 c z1).1
    have zq : q = q' := i12 (by omega) (by omega) (eq.symm.trans z6)
    subst zc zu zq
    obtain ⟨g1, g2⟩ := ready_rd (k := 3) (w := 2) hP hX (Or.inl ⟨rfl, rfl⟩) hf z5 hq1 z7 (cX_mem hm (by rw [ek, k3]; rfl) ef et eq)
    have gq : q = rdP (aS A) t := by omega
    refine ⟨it, it, fun σ4 e4 => last σ4 ?_ ?_⟩
    · rw [e4]; exact f1.up (by decide) (by decide)
    · rw [eA]
      rw [ct] at e4
      refine AE.came (by omega) (by rw [e4]; exact zFr.rf.up (by decide)) (fun b hb => ?_) (fun b hb => ?_) (fun b r hb hr => ?_)
      · have h8 := (AE.2.2.2.2.2.1 b hb).1
        have h8 : σ1 27 b = nI ((lows n up b).countP (fun c => aC A 2 b c (rdP (aS A) b))) := h8
        show _ = nI ((lows n up b).countP (fun c => cmU (aC A) 2 t f q 2 b c (rdP (aS A) b)))
        unfold lows at h8 ⊢
        rw [e4, zup_self]
        by_cases e : b = t
        · rw [e] at h8 ⊢
          rw [upd_eq, h8, nI_1, ← gq]
          congr 1
          exact (cnt_c1 (A := A) hf (decide_eq_true z5) g2).symm
        · rw [upd_ne e, cnt_cm (fun z => e z.2.1)]; exact h8
      · have := (AE.2.2.2.2.2.1 b hb).2
        unfold lows at this ⊢
        rw [cnt_cm (fun z => absurd z.1 (by omega)), e4, zup_ne (by decide)]; exact this
      · have := AE.2.2.2.2.2.2.1 b r hb hr
        unfold pars at this ⊢
        rw [cnt_cm (fun z => absurd z.1 (by omega)), e4, zup_ne (by decide)]; exact this
  · -- GO
    have k4 : k = 4 := by omega
    have eA : aAct n p src mk len lk pa up (aErase A i) k f t q x = aBeg n p src mk len lk up (aErase A i) t := by
      unfold aAct; rw [if_neg (by omega), if_neg (by omega), if_neg (by omega), if_neg (by omega), if_pos k4]
    obtain ⟨hB, _⟩ := BG_go hn12 hR20 hW2 hF hQ.1.1 ht hx2 k4
    have hE : QE n R W p lk pa up ld (aErase A i) := ⟨hQ.1.1.erase hx2 (by rw [k4]; exact (show ¬ (4 : Int32) = 0 by decide)) (by rw [k4]; exact (show ¬ (4 : Int32) = 1 by decide)), hQ.1.2.1, fun y hy => hQ.1.2.2 y (List.mem_of_mem_eraseIdx hy)⟩
    refine ⟨_, s_Course_enterNext2 G σ1 t hT1 hF hM AE hE hB ht (fun e => by
      have e : rdP (aS A) t = 0 := e
      omega), fun σ7 ⟨m1, m2⟩ => last σ7 (f1.tr m1) (by rw [eA]; exact m2)⟩
  · -- FIRM
    have k5 : k = 5 := by omega
    obtain ⟨z0, c, u, z1, z2, z3, z4, z5, z6, z7, _⟩ := t5 (by rw [ek, k5]; rfl)
    have zc : t = c := i12 (by omega) (by omega) (et.symm.trans z3)
    subst zc
    have eA : aAct n p src mk len lk pa up (aErase A i) k f t q x = aFirm n pa up (aErase A i) t := by
      unfold aAct; rw [if_neg (by omega), if_neg (by omega), if_neg (by omega), if_neg (by omega), if_neg (by omega), if_pos k5]
    rw [eA] at qa
    refine ⟨_, s_Course_spreadFirm2 G σ1 t hT1 AE z0 ht ?_ (qa.le528 hn12 hR20 hR1 hF), fun σ8 ⟨m1, m2⟩ => last σ8 (f1.tr (m1.mono (by decide))) (by rw [eA]; exact m2)⟩
    show dnP (aS A) t = false
    cases e : dnP (aS A) t with
    | false => rfl
    | true =>
      have := ((hP.1 t ht).2.1 rt).2.2.2.1 e
      rw [z7] at this; exact absurd this (by decide)
  · -- DONE
    have k6 : k = 6 := by omega
    have eA : aAct n p src mk len lk pa up (aErase A i) k f t q x = aCame (aErase A i) 3 t f q := by
      unfold aAct; rw [if_neg (by omega), if_neg (by omega), if_neg (by omega), if_neg (by omega), if_neg (by omega), if_neg (by omega)]
    have w2 : W = 2 := hQ.1.2.2 _ hm (by rw [ek, k6]; rfl)
    obtain ⟨c, u, q', z1, z2, z3, z4, z5, z6, z7, z8⟩ := t6 (by rw [ek, k6]; rfl)
    have zc : f = c := i12 (by omega) (by omega) (ef.symm.trans z3)
    have zu : t = u := i12 (by omega) (by omega) (et.symm.trans z4)
    have h20 := (hP.1 c z1).1
    have zq : q = q' := i12 (by omega) (by omega) (eq.symm.trans z6)
    subst zc zu zq
    obtain ⟨g1, g2⟩ := ready_rd (k := 6) (w := 3) hP hX (Or.inr ⟨rfl, rfl, w2⟩) hf z5 hq1 z7 (cX_mem hm (by rw [ek, k6]; rfl) ef et eq)
    have gq : q = rdP (aS A) t := by omega
    refine ⟨it, it, fun σ4 e4 => last σ4 ?_ ?_⟩
    · rw [e4]; exact f1.up (by decide) (by decide)
    · rw [eA]
      rw [ct] at e4
      refine AE.came (by omega) (by rw [e4]; exact zFr.rf.up (by decide)) (fun b hb => ?_) (fun b hb => ?_) (fun b r hb hr => ?_)
      · have := (AE.2.2.2.2.2.1 b hb).1
        unfold lows at this ⊢
        rw [cnt_cm (fun z => absurd z.1 (by omega)), e4, zup_ne (by decide)]; exact this
      · have h8 := (AE.2.2.2.2.2.1 b hb).2
        have h8 : σ1 28 b = nI ((lows n up b).countP (fun c => aC A 3 b c (rdP (aS A) b))) := h8
        show _ = nI ((lows n up b).countP (fun c => cmU (aC A) 3 t f q 3 b c (rdP (aS A) b)))
        unfold lows at h8 ⊢
        rw [e4, zup_self]
        by_cases e : b = t
        · rw [e] at h8 ⊢
          rw [upd_eq, h8, nI_1, ← gq]
          congr 1
          exact (cnt_c1 (A := A) hf (decide_eq_true z5) g2).symm
        · rw [upd_ne e, cnt_cm (fun z => e z.2.1)]; exact h8
      · have := AE.2.2.2.2.2.2.1 b r hb hr
        unfold pars at this ⊢
        rw [cnt_cm (fun z => absurd z.1 (by omega)), e4, zup_ne (by decide)]; exact this
end CCLS4
end
