-- Each act keeps the running's invariants; pure
section QXO
variable {n R W : Nat} {lk pa : Nat → Nat → Bool} {up : Nat → Option Nat} {ld : Nat → Nat} {S S' : PS} {cm : CM} {l : List Lt} {a : Nat}
theorem b2n_le (b : Bool) : b2n b ≤ 1 := by cases b <;> decide
/-- letters of other kinds do not count -/
theorem X1.app (h : X1 n lk S l) (e1 : rdP S' = rdP S) (e2 : opP S' = opP S) (m : List Lt) (hm : ∀ x, x ∈ m → ¬ x.1 = 0 ∧ ¬ x.1 = 1) : X1 n lk S' (l ++ m) := by
  obtain ⟨h1, h2, h3⟩ := h
  refine ⟨fun x hx h0 => ?_, fun x hx h0 => ?_, fun b hb hr => ?_⟩
  · rw [e1]
    rcases List.mem_append.mp hx with q | q
    · exact h1 x q h0
    · exact absurd h0 (hm x q).1
  · rw [e1]
    rcases List.mem_append.mp hx with q | q
    · exact h2 x q h0
    · exact absurd h0 (hm x q).2
  · rw [e1] at hr
    rw [e2, h3 b hb hr, cN_app, cK_app, cN_0 (fun x hx q _ => (hm x hx).1 q), cK_0 (fun x hx q _ => (hm x hx).2 q)]
    rfl
theorem X3.app (h : X3 n R W pa S cm l) (hf : ∀ f q, FlR W S f q → FlR W S' f q) (m : List Lt) (hm : ∀ x, x ∈ m → ¬ x.1 = 2) : X3 n R W pa S' cm (l ++ m) := by
  obtain ⟨h1, h2, h3⟩ := h
  refine ⟨fun x hx h0 => ?_, fun f t q hf1 ht hc => ?_, fun f t q hf1 ht hq => ?_⟩
  · rcases List.mem_append.mp hx with q | q
    · obtain ⟨f, t, r, q1, q2, q3, q4, q5, q6, q7, q8⟩ := h1 x q h0
      exact ⟨f, t, r, q1, q2, q3, q4, q5, q6, q7, hf f r q8⟩
    · exact absurd h0 (hm x q)
  · obtain ⟨q1, q2, q3⟩ := h2 f t q hf1 ht hc
    exact ⟨q1, q2, hf f q q3⟩
  · rw [cX_app, cX_0 (l := m) (fun x hx q _ _ _ => hm x hx q)]
    exact h3 f t q hf1 ht hq
/-- the SAFEs of a in its round, each partner's once -/
def SafeL (n : Nat) (pa : Nat → Nat → Bool) (a r : Nat) (m : List Lt) : Prop := (∀ x, x ∈ m → ∃ b, b < n ∧ pa a b = true ∧ x = (2, nI a, nI b, nI r, 0)) ∧ ∀ b, b < n → cX 2 m a b r ≤ 1
theorem X3.safe (hn : n ≤ 12) (hR : R ≤ 20) (h : X3 n R W pa S cm l) (hf : ∀ f q, FlR W S f q → FlR W S' f q) (ha : a < n) (hr1 : 1 ≤ rdP S a) (hrR : rdP S a ≤ R) (hno : ¬ (if W = 0 then sfP S a else fiP S a) = true) (hfl : FlR W S' a (rdP S a)) (m : List Lt) (hm : SafeL n pa a (rdP S a) m) : X3 n R W pa S' cm (l ++ m) := by
  obtain ⟨h1, h2, h3⟩ := h
  refine ⟨fun x hx h0 => ?_, fun f t q hf1 ht hc => ?_, fun f t q hf1 ht hq => ?_⟩
  · rcases List.mem_append.mp hx with q | q
    · obtain ⟨f, t, r, q1, q2, q3, q4, q5, q6, q7, q8⟩ := h1 x q h0
      exact ⟨f, t, r, q1, q2, q3, q4, q5, q6, q7, hf f r q8⟩
    · obtain ⟨b, hb, hp, rfl⟩ := hm.1 x q
      exact ⟨a, b, rdP S a, ha, hb, hr1, rfl, rfl, rfl, hp, hfl⟩
  · obtain ⟨q1, q2, q3⟩ := h2 f t q hf1 ht hc
    exact ⟨q1, q2, hf f q q3⟩
  · rw [cX_app]
    by_cases hz : f = a ∧ q = rdP S a
    · obtain ⟨e1, e2⟩ := hz
      rw [e1, e2]
      have old : cX 2 l a t (rdP S a) = 0 := by
        refine cX_0 (fun x hx k1 k2 k3 k4 => ?_)
        obtain ⟨f', t', r', q1, q2, q3, q4, q5, q6, q7, q8⟩ := h1 x hx k1
        have ef : f' = a := (nI_eq (by omega) (by omega)).mp (q4.symm.trans k2)
        rw [ef] at q8
        have hr' : r' ≤ rdP S a := by rcases q8 with h | h <;> omega
        have er : r' = rdP S a := (nI_eq (by omega) (by omega)).mp (q6.symm.trans k4)
        rw [er] at q8
        rcases q8 with h | h
        · omega
        · exact hno h.2
      have oc : cm 1 t a (rdP S a) = false := by
        cases hc : cm 1 t a (rdP S a) with
        | false => rfl
        | true =>
          obtain ⟨_, _, q8⟩ := h2 a t (rdP S a) ha ht hc
          rcases q8 with h | h
          · omega
          · exact absurd h.2 hno
      have := hm.2 t ht
      rw [old, oc]
      have : b2n false = 0 := rfl
      omega
    · have : cX 2 m f t q = 0 := by
        refine cX_0 (fun x hx k1 k2 k3 k4 => ?_)
        obtain ⟨b, hb, hp, rfl⟩ := hm.1 x hx
        have ef : a = f := (nI_eq (by omega) (by omega)).mp k2
        have er : rdP S a = q := (nI_eq (by omega) (by omega)).mp k4
        exact hz ⟨ef.symm, er.symm⟩
      rw [this]
      exact h3 f t q hf1 ht hq
theorem X5.app (h : X5 n R W up S cm l) (e1 : rdP S' = rdP S) (m : List Lt) (hm : ∀ x, x ∈ m → ¬ x.1 = 3 ∧ ¬ x.1 = 6) : X5 n R W up S' cm (l ++ m) := by
  intro u c hu hc huc
  obtain ⟨h1, h2⟩ := h u c hu hc huc
  refine ⟨fun q q1 q2 => h1 q q1 (by rw [e1] at q2; exact q2), fun q hq => ?_⟩
  rw [cX_app, cX_app, cX_0 (l := m) (fun x hx q _ _ _ => (hm x hx).1 q), cX_0 (l := m) (fun x hx q _ _ _ => (hm x hx).2 q)]
  exact h2 q hq
theorem XV.mono (h : XV n lk ld S) (hs : ∀ b r, SfR S b r → SfR S' b r) (e1 : rdP S' = rdP S) : XV n lk ld S' := fun x b r hx hb hl h1 h2 => hs b r (h x b r hx hb hl h1 (by rw [e1] at h2; exact h2))
theorem SfR_sf {b r : Nat} (h : SfR S b r) : SfR (setSf S a) b r := by
  rcases h with h | ⟨h, h2⟩
  · exact Or.inl h
  · exact Or.inr ⟨h, fup_t h2⟩
theorem FlR_sf {b r : Nat} (h : FlR W S b r) : FlR W (setSf S a) b r := by
  rcases h with h | ⟨h, h2⟩
  · exact Or.inl h
  · refine Or.inr ⟨h, ?_⟩
    by_cases w : W = 0
    · rw [if_pos w] at h2 ⊢; exact fup_t h2
    · rw [if_neg w] at h2 ⊢; exact h2
theorem FlR_fi {b r : Nat} (h : FlR W S b r) : FlR W (setFi S a) b r := by
  rcases h with h | ⟨h, h2⟩
  · exact Or.inl h
  · refine Or.inr ⟨h, ?_⟩
    by_cases w : W = 0
    · rw [if_pos w] at h2 ⊢; exact h2
    · rw [if_neg w] at h2 ⊢; exact fup_t h2
/-- a becomes safe -/
theorem QX.safe (hn : n ≤ 12) (hR : R ≤ 20) (h : QX n R W lk pa up ld S cm l) (ha : a < n) (hr1 : 1 ≤ rdP S a) (hrR : rdP S a ≤ R) (hs : sfP S a = false) (m : List Lt) (hm : (W = 0 ∧ SafeL n pa a (rdP S a) m) ∨ (¬ W = 0 ∧ m = [])) : QX n R W lk pa up ld (setSf S a) cm (l ++ m) := by
  obtain ⟨x1, x3, x4, x5, xv⟩ := h
  have kinds : ∀ x, x ∈ m → x.1 = 2 := fun x hx => by
    rcases hm with ⟨_, h⟩ | ⟨_, h⟩
    · obtain ⟨b, _, _, rfl⟩ := h.1 x hx; rfl
    · rw [h] at hx; exact absurd hx List.not_mem_nil
  refine ⟨x1.app rfl rfl m (fun x hx => ⟨fun q => ?_, fun q => ?_⟩), ?_, x4, x5.app rfl m (fun x hx => ⟨fun q => ?_, fun q => ?_⟩), xv.mono (fun b r h => SfR_sf h) rfl⟩
  · rw [kinds x hx] at q; exact absurd q (by decide)
  · rw [kinds x hx] at q; exact absurd q (by decide)
  · rcases hm with ⟨w, h⟩ | ⟨w, h⟩
    · refine x3.safe hn hR (fun f q h => FlR_sf h) ha hr1 hrR ?_ ?_ m h
      · rw [if_pos w, hs]; decide
      · refine Or.inr ⟨rfl, ?_⟩
        rw [if_pos w]; exact fup_s
    · rw [h]
      exact x3.app (fun f q h => FlR_sf h) [] (fun x hx => absurd hx List.not_mem_nil)
  · rw [kinds x hx] at q; exact absurd q (by decide)
  · rw [kinds x hx] at q; exact absurd q (by decide)
/-- a is raised: READY to its upper -/
theorem QX.raise (hn : n ≤ 12) (hR : R ≤ 20) (hP : PI n R W up (k2 up cm) (k3 up cm) S l) (h : QX n R W lk pa up ld S cm l) (ha : a < n) (hr1 : 1 ≤ rdP S a) (hra : raP S a = false) (m : List Lt) (hm : m = [] ∨ ∃ u, up a = some u ∧ m = [(3, nI a, nI u, nI (rdP S a), 0)]) : QX n R W lk pa up ld (setRa S a) cm (l ++ m) := by
  obtain ⟨x1, x3, x4, x5, xv⟩ := h
  have hrR := (hP.1 a ha).1
  have kinds : ∀ x, x ∈ m → x.1 = 3 := fun x hx => by
    rcases hm with h | ⟨u, _, h⟩
    · rw [h] at hx; exact absurd hx List.not_mem_nil
    · rw [h] at hx; rw [List.mem_singleton.mp hx]
  have no : ∀ k : Int32, ¬ k = 3 → ∀ x, x ∈ m → ¬ x.1 = k := fun k hk x hx q => hk (q.symm.trans (kinds x hx))
  refine ⟨x1.app rfl rfl m (fun x hx => ⟨no 0 (by decide) x hx, no 1 (by decide) x hx⟩), x3.app (fun f q h => h) m (no 2 (by decide)), x4, fun u c hu hc huc => ?_, xv.mono (fun b r h => h) rfl⟩
  obtain ⟨h1, h2⟩ := x5 u c hu hc huc
  refine ⟨h1, fun q hq => ?_⟩
  obtain ⟨g1, g2⟩ := h2 q hq
  rw [cX_app, cX_app, cX_0 (k := 6) (l := m) (fun x hx q _ _ _ => no 6 (by decide) x hx q)]
  refine ⟨?_, g2⟩
  rcases hm with e | ⟨v, hv, e⟩
  · rw [e]; exact g1
  · by_cases hz : c = a ∧ q = rdP S a
    · obtain ⟨e1, e2⟩ := hz
      rw [e1, e2]
      have old : cX 3 l a u (rdP S a) = 0 := by
        refine cX_0 (fun x hx q1 q2 q3 q4 => ?_)
        obtain ⟨c', u', r', p1, p2, p3, p4, p5, p6, p7, p8⟩ := (hP.2.1 x hx).2.1 q1
        have ec : c' = a := (nI_eq (by omega) (by omega)).mp (p3.symm.trans q2)
        rw [ec] at p7 p8
        have er : r' = rdP S a := (nI_eq (by omega) (by omega)).mp (p6.symm.trans q4)
        rw [p8 er] at hra; exact absurd hra (by decide)
      have oc : cm 2 u a (rdP S a) = false := by
        cases hcm : cm 2 u a (rdP S a) with
        | false => rfl
        | true =>
          have := (hP.1 a ha).2.2.2.1 (rdP S a) ⟨by omega, u, by rw [e1] at huc; exact huc, hcm⟩
          rw [this.2 rfl] at hra; exact absurd hra (by decide)
      rw [old, oc, e]
      have h3 : cX 3 [(3, nI a, nI v, nI (rdP S a), 0)] a u (rdP S a) ≤ 1 := by
        unfold cX; exact List.countP_le_length
      have : b2n false = 0 := rfl
      omega
    · have : cX 3 m c u q = 0 := by
        refine cX_0 (fun x hx q1 q2 q3 q4 => ?_)
        rw [e] at hx
        rw [List.mem_singleton.mp hx] at q2 q4
        have ec : a = c := (nI_eq (by omega) (by omega)).mp q2
        have er : rdP S a = q := (nI_eq (by omega) (by omega)).mp q4
        exact hz ⟨ec.symm, er.symm⟩
      rw [this]; exact g1
/-- a is firm: FIRMs to its lowers, SAFEs to its partners -/
theorem QX.firm (hn : n ≤ 12) (hR : R ≤ 20) (hW : W = 2) (h : QX n R W lk pa up ld S cm l) (ha : a < n) (hr1 : 1 ≤ rdP S a) (hrR : rdP S a ≤ R) (hfi : fiP S a = false) (F m : List Lt) (hF : ∀ x, x ∈ F → x.1 = 5) (hm : SafeL n pa a (rdP S a) m) : QX n R W lk pa up ld (setFi S a) cm (l ++ F ++ m) := by
  obtain ⟨x1, x3, x4, x5, xv⟩ := h
  have kinds : ∀ x, x ∈ F ++ m → x.1 = 5 ∨ x.1 = 2 := fun x hx => by
    rcases List.mem_append.mp hx with q | q
    · exact Or.inl (hF x q)
    · obtain ⟨b, _, _, rfl⟩ := hm.1 x q; exact Or.inr rfl
  have no : ∀ k : Int32, ¬ k = 5 → ¬ k = 2 → ∀ x, x ∈ F ++ m → ¬ x.1 = k := fun k hk hk2 x hx q => by
    rcases kinds x hx with h | h
    · exact hk (q.symm.trans h)
    · exact hk2 (q.symm.trans h)
  refine ⟨?_, ?_, x4, ?_, xv.mono (fun b r h => h) rfl⟩
  · rw [List.append_assoc]
    exact x1.app rfl rfl _ (fun x hx => ⟨no 0 (by decide) (by decide) x hx, no 1 (by decide) (by decide) x hx⟩)
  · have y3 : X3 n R W pa S cm (l ++ F) := x3.app (fun f q h => h) F (fun x hx q => by rw [hF x hx] at q; exact absurd q (by decide))
    refine y3.safe hn hR (fun f q h => FlR_fi h) ha hr1 hrR ?_ ?_ m hm
    · rw [if_neg (by omega), hfi]; decide
    · refine Or.inr ⟨rfl, ?_⟩
      rw [if_neg (by omega)]; exact fup_s
  · rw [List.append_assoc]
    exact x5.app rfl _ (fun x hx => ⟨no 3 (by decide) (by decide) x hx, no 6 (by decide) (by decide) x hx⟩)
/-- a is done: DONE to its upper -/
theorem QX.done (hn : n ≤ 12) (hR : R ≤ 20) (hP : PI n R W up (k2 up cm) (k3 up cm) S l) (h : QX n R W lk pa up ld S cm l) (ha : a < n) (hr1 : 1 ≤ rdP S a) (hdn : dnP S a = false) (hc1 : ∀ f, f < n → pa a f = true → cm 1 a f (rdP S a) = true) (m : List Lt) (hm : m = [] ∨ ∃ u, up a = some u ∧ m = [(6, nI a, nI u, nI (rdP S a), 0)]) : QX n R W lk pa up ld (setDn S a) cm (l ++ m) := by
  obtain ⟨x1, x3, x4, x5, xv⟩ := h
  have hrR := (hP.1 a ha).1
  have kinds : ∀ x, x ∈ m → x.1 = 6 := fun x hx => by
    rcases hm with h | ⟨u, _, h⟩
    · rw [h] at hx; exact absurd hx List.not_mem_nil
    · rw [h] at hx; rw [List.mem_singleton.mp hx]
  have no : ∀ k : Int32, ¬ k = 6 → ∀ x, x ∈ m → ¬ x.1 = k := fun k hk x hx q => hk (q.symm.trans (kinds x hx))
  refine ⟨x1.app rfl rfl m (fun x hx => ⟨no 0 (by decide) x hx, no 1 (by decide) x hx⟩), x3.app (fun f q h => h) m (no 2 (by decide)), fun t f ht hf hp => ?_, fun u c hu hc huc => ?_, xv.mono (fun b r h => h) rfl⟩
  · refine ⟨(x4 t f ht hf hp).1, fun w hr hd => ?_⟩
    by_cases e : t = a
    · rw [e] at hp ⊢; exact hc1 f hf hp
    · refine (x4 t f ht hf hp).2 w hr ?_
      have hd : fup (dnP S) a true t = true := hd
      rw [fup_n e] at hd; exact hd
  obtain ⟨h1, h2⟩ := x5 u c hu hc huc
  refine ⟨h1, fun q hq => ?_⟩
  obtain ⟨g1, g2⟩ := h2 q hq
  rw [cX_app, cX_app, cX_0 (k := 3) (l := m) (fun x hx q _ _ _ => no 3 (by decide) x hx q)]
  refine ⟨g1, ?_⟩
  rcases hm with e | ⟨v, hv, e⟩
  · rw [e]; exact g2
  · by_cases hz : c = a ∧ q = rdP S a
    · obtain ⟨e1, e2⟩ := hz
      rw [e1, e2]
      have old : cX 6 l a u (rdP S a) = 0 := by
        refine cX_0 (fun x hx q1 q2 q3 q4 => ?_)
        obtain ⟨c', u', r', p1, p2, p3, p4, p5, p6, p7, p8⟩ := (hP.2.1 x hx).2.2.1 q1
        have ec : c' = a := (nI_eq (by omega) (by omega)).mp (p3.symm.trans q2)
        rw [ec] at p7 p8
        have er : r' = rdP S a := (nI_eq (by omega) (by omega)).mp (p6.symm.trans q4)
        rw [p8 er] at hdn; exact absurd hdn (by decide)
      have oc : cm 3 u a (rdP S a) = false := by
        cases hcm : cm 3 u a (rdP S a) with
        | false => rfl
        | true =>
          have := (hP.1 a ha).2.2.2.2 (rdP S a) ⟨by omega, u, by rw [e1] at huc; exact huc, hcm⟩
          rw [this.2 rfl] at hdn; exact absurd hdn (by decide)
      rw [old, oc, e]
      have h3 : cX 6 [(6, nI a, nI v, nI (rdP S a), 0)] a u (rdP S a) ≤ 1 := by
        unfold cX; exact List.countP_le_length
      have : b2n false = 0 := rfl
      omega
    · have : cX 6 m c u q = 0 := by
        refine cX_0 (fun x hx q1 q2 q3 q4 => ?_)
        rw [e] at hx
        rw [List.mem_singleton.mp hx] at q2 q4
        have ec : a = c := (nI_eq (by omega) (by omega)).mp q2
        have er : rdP S a = q := (nI_eq (by omega) (by omega)).mp q4
        exact hz ⟨ec.symm, er.symm⟩
      rw [this]; exact g2
end QXO
