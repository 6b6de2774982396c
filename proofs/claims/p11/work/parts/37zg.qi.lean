-- The pure machine keeps the invariants
/-- notes are small; in WAVES each is its round -/
def NI (p : Nat) (A : AS) : Prop :=
  (∀ x, x ∈ aL A → x.1 = 0 → (-1 ≤ x.2.2.2.2.toInt ∧ x.2.2.2.2.toInt ≤ 100 + 10 * x.2.2.2.1.toInt) ∧ (p = 0 → x.2.2.2.2 = x.2.2.2.1))
  ∧ (∀ a b q, aC A 0 a b q = true → (-1 ≤ (aM A a b q).toInt ∧ (aM A a b q).toInt ≤ 100 + 10 * (q : Int)) ∧ (p = 0 → aM A a b q = nI q))
theorem NI.put {p : Nat} {A : AS} {S : PS} {m : List Lt} (h : NI p A) (hm : ∀ x, x ∈ m → ¬ x.1 = 0) : NI p (aPut A S m) := ⟨fun x hx h0 => by
  rcases List.mem_append.mp hx with q | q
  · exact h.1 x q h0
  · exact absurd h0 (hm x q), h.2⟩
section QIS
variable {n R W p : Nat} {lk pa : Nat → Nat → Bool} {up : Nat → Option Nat} {ld : Nat → Nat}
def QI (n R W p : Nat) (lk pa : Nat → Nat → Bool) (up : Nat → Option Nat) (ld : Nat → Nat) (A : AS) : Prop :=
  PI n R W up (k2 up (aC A)) (k3 up (aC A)) (aS A) (aL A) ∧ QX n R W lk pa up ld (aS A) (aC A) (aL A) ∧ NI p A
variable {A : AS} {a : Nat}
theorem VL_of {k f t q : Nat} (hk : k < 7) (hk0 : ¬ k = 0) (hf : f < n) (ht : t < n) (h1 : 1 ≤ q) (hR : q ≤ R) : VL n R (nI k, nI f, nI t, nI q, 0) := ⟨⟨k, hk, rfl⟩, ⟨f, hf, rfl⟩, ⟨t, ht, rfl⟩, q, h1, hR, rfl, fun e => absurd ((nI_eq (a := k) (b := 0) (by omega) (by omega)).mp e) hk0⟩
theorem SafeL_pars {r : Nat} (hn : n ≤ 12) : SafeL n pa a r (ltrs 2 a r 0 (pars n pa a)) := by
  refine ⟨fun x hx => ?_, fun b hb => ?_⟩
  · obtain ⟨b, hb, e⟩ := ltrs_mem.mp hx
    have h := selL_mem.mp hb
    exact ⟨b, h.1, h.2, e⟩
  · unfold cX
    exact ltrs_one hn (by omega) (fun c _ q => (of_decide_eq_true q).2.2.1)
theorem QI.safe (hn : n ≤ 12) (hR : R ≤ 20) (h : QI n R W p lk pa up ld A) (ha : a < n) (hr : 1 ≤ rdP (aS A) a) : QI n R W p lk pa up ld (aSafe n W pa A a) := by
  unfold aSafe
  by_cases hc : sfP (aS A) a = false ∧ opP (aS A) a = 0
  · rw [if_pos hc]
    obtain ⟨hP, hX, hN⟩ := h
    have hrR := (hP.1 a ha).1
    have hm : ∀ x, x ∈ (if W = 0 then ltrs 2 a (rdP (aS A) a) 0 (pars n pa a) else []) → VL n R x ∧ x.1 = 2 := fun x hx => by
      by_cases w : W = 0
      · rw [if_pos w] at hx
        obtain ⟨b, hb, rfl⟩ := ltrs_mem.mp hx
        exact ⟨VL_of (k := 2) (by omega) (by omega) ha (selL_mem.mp hb).1 hr hrR, rfl⟩
      · rw [if_neg w] at hx; exact absurd hx List.not_mem_nil
    refine ⟨hP.safe ha hr (by omega) hc.1 _ hm ?_, hX.safe hn hR ha hr hrR hc.1 _ ?_, hN.put (fun x hx q => ?_)⟩
    · by_cases w : W = 0
      · rw [if_pos w, if_pos w, ltrs_len]
        have := selL_len (P := fun b => pa a b) n
        unfold pars
        omega
      · rw [if_neg w, if_neg w]; exact Int.le_refl _
    · by_cases w : W = 0
      · rw [if_pos w]; exact Or.inl ⟨w, SafeL_pars hn⟩
      · rw [if_neg w]; exact Or.inr ⟨w, rfl⟩
    · rw [(hm x hx).2] at q; exact absurd q (by decide)
  · rw [if_neg hc]; exact h
theorem aSafe_rd : rdP (aS (aSafe n W pa A a)) = rdP (aS A) := by
  unfold aSafe; split <;> rfl
theorem aSafe_sf (h : sfP (aS A) a = true → opP (aS A) a ≤ 0) (h0 : 0 ≤ opP (aS A) a) : sfP (aS (aSafe n W pa A a)) a = decide (opP (aS A) a = 0) := by
  unfold aSafe
  by_cases hc : sfP (aS A) a = false ∧ opP (aS A) a = 0
  · rw [if_pos hc, decide_eq_true hc.2]; exact fup_s
  · rw [if_neg hc]
    cases hs : sfP (aS A) a with
    | true => exact (decide_eq_true (by have := h hs; omega)).symm
    | false => exact (decide_eq_false (fun q => hc ⟨hs, q⟩)).symm
theorem low_FL (hn : n ≤ 12) (ha : a < n) {k : Int32} {r : Nat} : (∀ x, x ∈ ltrs k a r 0 (lows n up a) → ∃ c, c < n ∧ up c = some a ∧ x = (k, nI a, nI c, nI r, 0)) ∧ (∀ c, c < n → (ltrs k a r 0 (lows n up a)).countP (fun x => decide (x.2.2.1 = nI c)) ≤ 1) ∧ ((ltrs k a r 0 (lows n up a)).length : Int) ≤ cu up a n := by
  refine ⟨fun x hx => ?_, fun c hc => ltrs_one hn (b := c) (by omega) (fun d _ q => of_decide_eq_true q), ?_⟩
  · obtain ⟨b, hb, e⟩ := ltrs_mem.mp hx
    have h := selL_mem.mp hb
    exact ⟨b, h.1, of_decide_eq_true h.2, e⟩
  · rw [ltrs_len]
    have : ∀ m, ((selL (fun c => decide (up c = some a)) m).length : Int) ≤ su (fun c => if up c = some a then 1 else 0) m := by
      intro m
      induction m with
      | zero => exact Int.le_refl _
      | succ m ih =>
        unfold selL su
        rw [List.length_append]
        by_cases e : up m = some a
        · rw [if_pos (decide_eq_true e), if_pos e]; simp; omega
        · rw [if_neg (fun q => e (of_decide_eq_true q)), if_neg e]; simp; omega
    exact this n
theorem QI.firm (hn : n ≤ 12) (hR : R ≤ 20) (hW : W = 2) (h : QI n R W p lk pa up ld A) (ha : a < n) (hr : 1 ≤ rdP (aS A) a) (hra : raP (aS A) a = true) (hfi : fiP (aS A) a = false) (hfa : frs (aL A) a = 0) (hup : ∀ u, up a = some u → (rdP (aS A) a = rdP (aS A) u ∧ fiP (aS A) u = true) ∨ rdP (aS A) a < rdP (aS A) u) : QI n R W p lk pa up ld (aFirm n pa up A a) := by
  obtain ⟨hP, hX, hN⟩ := h
  have hrR := (hP.1 a ha).1
  obtain ⟨f1, f2, f3⟩ := low_FL (up := up) (k := 5) (r := rdP (aS A) a) hn ha
  have hm : ∀ x, x ∈ ltrs 2 a (rdP (aS A) a) 0 (pars n pa a) → VL n R x ∧ x.1 = 2 := fun x hx => by
    obtain ⟨b, hb, rfl⟩ := ltrs_mem.mp hx
    exact ⟨VL_of (k := 2) (by omega) (by omega) ha (selL_mem.mp hb).1 hr hrR, rfl⟩
  refine ⟨?_, ?_, hN.put (fun x hx q => ?_)⟩
  · show PI n R W up (k2 up (aC A)) (k3 up (aC A)) (setFi (aS A) a) (aL A ++ (ltrs 5 a (rdP (aS A) a) 0 (lows n up a) ++ ltrs 2 a (rdP (aS A) a) 0 (pars n pa a)))
    rw [← List.append_assoc]
    refine hP.firm hW hn ha hr hra hfi hfa hup _ _ f1 (fun c hc => Nat.le_trans ?_ (f2 c hc)) f3 hm ?_
    · unfold frs
      exact List.countP_mono_left (fun x _ q => decide_eq_true (of_decide_eq_true q).2)
    · rw [ltrs_len]
      have := selL_len (P := fun b => pa a b) n
      unfold pars
      omega
  · show QX n R W lk pa up ld (setFi (aS A) a) (aC A) (aL A ++ (ltrs 5 a (rdP (aS A) a) 0 (lows n up a) ++ ltrs 2 a (rdP (aS A) a) 0 (pars n pa a)))
    rw [← List.append_assoc]
    exact hX.firm hn hR hW ha hr hrR hfi _ _ (fun x hx => by obtain ⟨c, _, _, rfl⟩ := f1 x hx; rfl) (SafeL_pars hn)
  · rcases List.mem_append.mp hx with h | h
    · obtain ⟨c, _, _, rfl⟩ := f1 x h
      exact absurd q (show ¬ (5 : Int32) = 0 by decide)
    · rw [(hm x h).2] at q; exact absurd q (by decide)
theorem all_k2 (hR : R ≤ 20) (hrR : rdP (aS A) a ≤ R) (h : all2 n up A a = true) : ∀ c, c < n → up c = some a → k2 up (aC A) c (rdP (aS A) a) := fun c hc hu => ⟨by omega, a, hu, by
  unfold all2 at h
  exact List.all_eq_true.mp h c (selL_mem.mpr ⟨hc, decide_eq_true hu⟩)⟩
theorem all_k3 (hR : R ≤ 20) (hrR : rdP (aS A) a ≤ R) (h : all3 n up A a = true) : ∀ c, c < n → up c = some a → k3 up (aC A) c (rdP (aS A) a) := fun c hc hu => ⟨by omega, a, hu, by
  unfold all3 at h
  exact List.all_eq_true.mp h c (selL_mem.mpr ⟨hc, decide_eq_true hu⟩)⟩
theorem all_1 (h : all1 n pa A a = true) : ∀ f, f < n → pa a f = true → aC A 1 a f (rdP (aS A) a) = true := fun f hf hp => by
  unfold all1 at h
  exact List.all_eq_true.mp h f (selL_mem.mpr ⟨hf, hp⟩)
theorem QI.raise (hn : n ≤ 12) (hR : R ≤ 20) (hW : W ≤ 2) (h : QI n R W p lk pa up ld A) (ha : a < n) (hr : 1 ≤ rdP (aS A) a) : QI n R W p lk pa up ld (aRaise n W pa up A a) := by
  unfold aRaise
  by_cases hc : mayR n W up A a = true
  · rw [if_pos hc]
    unfold mayR at hc
    rw [Bool.and_eq_true, Bool.and_eq_true, Bool.and_eq_true, decide_eq_true_eq, Bool.not_eq_true'] at hc
    obtain ⟨c1, c2, c3, c4⟩ := hc
    obtain ⟨hP, hX, hN⟩ := h
    have hrR := (hP.1 a ha).1
    have e0 : QI n R W p lk pa up ld (aPut A (setRa (aS A) a) []) := ⟨hP.raise ha hr c2 c3 (all_k2 hR hrR c4) [] (Or.inl rfl), hX.raise hn hR hP ha hr c3 [] (Or.inl rfl), hN.put (fun x hx => absurd hx List.not_mem_nil)⟩
    cases hu : up a with
    | some u =>
      refine ⟨hP.raise ha hr c2 c3 (all_k2 hR hrR c4) _ (Or.inr ⟨u, hu, rfl⟩), hX.raise hn hR hP ha hr c3 _ (Or.inr ⟨u, hu, rfl⟩), hN.put (fun x hx q => ?_)⟩
      rw [List.mem_singleton.mp hx] at q
      exact absurd q (show ¬ (3 : Int32) = 0 by decide)
    | none =>
      dsimp only
      by_cases w : W = 1
      · rw [if_pos w]; exact e0
      · rw [if_neg w]
        refine e0.firm hn hR (by omega) ha hr fup_s ?_ (e0.1.root hn ha hu).2 (fun u hu' => by rw [hu] at hu'; exact absurd hu' (by simp))
        show fiP (aS A) a = false
        cases hf : fiP (aS A) a with
        | false => rfl
        | true =>
          have := ((hP.1 a ha).2.1 hr).2.2.2.2.1 hf
          rw [c3] at this; exact absurd this (by decide)
  · rw [if_neg hc]; exact h
theorem aRaise_rd : rdP (aS (aRaise n W pa up A a)) = rdP (aS A) := by
  unfold aRaise
  split
  · split
    · rfl
    · split <;> rfl
  · rfl
theorem QI.done (hn : n ≤ 12) (hR : R ≤ 20) (h : QI n R W p lk pa up ld A) (ha : a < n) (hr : 1 ≤ rdP (aS A) a) : QI n R W p lk pa up ld (aDone n W pa up A a) := by
  unfold aDone
  by_cases hc : mayD n W pa up A a = true
  · rw [if_pos hc]
    unfold mayD at hc
    rw [Bool.and_eq_true, Bool.and_eq_true, Bool.and_eq_true, Bool.and_eq_true, decide_eq_true_eq, Bool.not_eq_true'] at hc
    obtain ⟨c1, c2, c3, c4, c5⟩ := hc
    obtain ⟨hP, hX, hN⟩ := h
    have hrR := (hP.1 a ha).1
    cases hu : up a with
    | some u =>
      refine ⟨hP.done ha hr c2 c3 (all_k3 hR hrR c5) _ (Or.inr ⟨u, hu, rfl⟩), hX.done hn hR hP ha hr c3 (all_1 c4) _ (Or.inr ⟨u, hu, rfl⟩), hN.put (fun x hx q => ?_)⟩
      rw [List.mem_singleton.mp hx] at q
      exact absurd q (show ¬ (6 : Int32) = 0 by decide)
    | none => exact ⟨hP.done ha hr c2 c3 (all_k3 hR hrR c5) _ (Or.inl rfl), hX.done hn hR hP ha hr c3 (all_1 c4) _ (Or.inl rfl), hN.put (fun x hx => absurd hx List.not_mem_nil)⟩
  · rw [if_neg hc]; exact h
theorem aDone_rd : rdP (aS (aDone n W pa up A a)) = rdP (aS A) := by
  unfold aDone
  split
  · split <;> rfl
  · rfl
theorem aOne_rd : rdP (aS (aOne n W pa up A a)) = rdP (aS A) := by
  unfold aOne
  rw [aDone_rd, aRaise_rd, aSafe_rd]
theorem QI.one (hn : n ≤ 12) (hR : R ≤ 20) (hW : W ≤ 2) (h : QI n R W p lk pa up ld A) (ha : a < n) (hr : 1 ≤ rdP (aS A) a) : QI n R W p lk pa up ld (aOne n W pa up A a) := by
  unfold aOne
  exact QI.done hn hR (QI.raise hn hR hW (QI.safe hn hR h ha hr) ha (by rw [aSafe_rd]; exact hr)) ha (by rw [aRaise_rd, aSafe_rd]; exact hr)
end QIS
