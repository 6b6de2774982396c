-- A node begins a round, a letter comes: the running's invariants; pure
section QXB
variable {n R W : Nat} {lk pa : Nat → Nat → Bool} {up : Nat → Option Nat} {ld : Nat → Nat} {S : PS} {cm : CM} {l : List Lt} {a : Nat}
theorem SfR_rd {m : Int} {b r : Nat} (h : SfR S b r) : SfR (setRd S a m) b r := by
  by_cases e : b = a
  · rw [e] at h ⊢
    refine Or.inl ?_
    show r < fup (rdP S) a (rdP S a + 1) a
    rw [fup_s]
    rcases h with h | ⟨h, _⟩ <;> omega
  · rcases h with h | ⟨h, h2⟩
    · refine Or.inl ?_
      show r < fup (rdP S) a (rdP S a + 1) b
      rw [fup_n e]; exact h
    · refine Or.inr ⟨?_, ?_⟩
      · show r = fup (rdP S) a (rdP S a + 1) b
        rw [fup_n e]; exact h
      · show fup (sfP S) a false b = true
        rw [fup_n e]; exact h2
theorem FlR_rd {m : Int} {b r : Nat} (h : FlR W S b r) : FlR W (setRd S a m) b r := by
  by_cases e : b = a
  · rw [e] at h ⊢
    refine Or.inl ?_
    show r < fup (rdP S) a (rdP S a + 1) a
    rw [fup_s]
    rcases h with h | ⟨h, _⟩ <;> omega
  · rcases h with h | ⟨h, h2⟩
    · refine Or.inl ?_
      show r < fup (rdP S) a (rdP S a + 1) b
      rw [fup_n e]; exact h
    · refine Or.inr ⟨?_, ?_⟩
      · show r = fup (rdP S) a (rdP S a + 1) b
        rw [fup_n e]; exact h
      · show (if W = 0 then fup (sfP S) a false b else fup (fiP S) a false b) = true
        rw [fup_n e, fup_n e]; exact h2
theorem QX.begin (hn : n ≤ 12) (hR : R ≤ 20) (h : QX n R W lk pa up ld S cm l) (ha : a < n) (hrR : rdP S a + 1 ≤ R) (hrd : ∀ b, b < n → rdP S b ≤ R) (hop : 1 ≤ rdP S a → opP S a = 0)
    (h1 : 1 ≤ rdP S a → ∀ f, f < n → pa a f = true → cm 1 a f (rdP S a) = true) (h2 : 1 ≤ rdP S a → ∀ c, c < n → up c = some a → cm 2 a c (rdP S a) = true ∧ (W = 2 → cm 3 a c (rdP S a) = true))
    (hV : 1 ≤ rdP S a → ∀ x b, x < n → b < n → ld x = a → lk x b = true → SfR S b (rdP S a)) (w : Int32) (Gl N : List Lt) (hG : ∀ x, x ∈ Gl → x.1 = 4) (hN : ∀ x, x ∈ N → ∃ b, b < n ∧ lk a b = true ∧ x = (0, nI a, nI b, nI (rdP S a + 1), w)) : QX n R W lk pa up ld (setRd S a (N.length : Int)) cm (l ++ Gl ++ N) := by
  obtain ⟨x1, x3, x4, x5, xv⟩ := h
  have rse : rdP (setRd S a (N.length : Int)) a = rdP S a + 1 := fup_s
  have rno : ∀ {b : Nat}, b ≠ a → rdP (setRd S a (N.length : Int)) b = rdP S b := fun hb => fup_n hb
  have kinds : ∀ x, x ∈ Gl ++ N → x.1 = 4 ∨ x.1 = 0 := fun x hx => by
    rcases List.mem_append.mp hx with q | q
    · exact Or.inl (hG x q)
    · obtain ⟨b, _, _, rfl⟩ := hN x q; exact Or.inr rfl
  have no : ∀ k : Int32, ¬ k = 4 → ¬ k = 0 → ∀ x, x ∈ Gl ++ N → ¬ x.1 = k := fun k hk hk2 x hx q => by
    rcases kinds x hx with h | h
    · exact hk (q.symm.trans h)
    · exact hk2 (q.symm.trans h)
  -- nothing of a's old round waits
  have z : cN l a = 0 ∧ cK l a = 0 := by
    rcases Nat.eq_zero_or_pos (rdP S a) with q | q
    · constructor
      · refine cN_0 (fun x hx q1 q2 => ?_)
        obtain ⟨f, t, hf, _, e1, _, _, _, e3⟩ := x1.1 x hx q1
        have : f = a := (nI_eq (by omega) (by omega)).mp (e1.symm.trans q2)
        rw [this] at e3; omega
      · refine cK_0 (fun x hx q1 q2 => ?_)
        obtain ⟨f, t, _, ht, _, e1, _, _, e3⟩ := x1.2.1 x hx q1
        have : t = a := (nI_eq (by omega) (by omega)).mp (e1.symm.trans q2)
        rw [this] at e3; omega
    · have e1 := x1.2.2 a ha q
      have e2 := hop q
      omega
  refine ⟨⟨fun x hx h0 => ?_, fun x hx h0 => ?_, fun b hb hr => ?_⟩, ?_, fun t f ht hf hp => ?_, fun u c hu hc huc => ?_, fun x b r hx hb hl h1r h2r => ?_⟩
  · rw [List.append_assoc] at hx
    rcases List.mem_append.mp hx with q | q
    · obtain ⟨f, t, hf, ht, e1, e2, e3, e4, e5⟩ := x1.1 x q h0
      have hfa : f ≠ a := fun e => by
        have := cN_mem q h0 (by rw [e1, e])
        omega
      exact ⟨f, t, hf, ht, e1, e2, e3, by rw [rno hfa]; exact e4, by rw [rno hfa]; exact e5⟩
    · rcases List.mem_append.mp q with q | q
      · rw [hG x q] at h0; exact absurd h0 (by decide)
      · obtain ⟨b, hb, hl, rfl⟩ := hN x q
        exact ⟨a, b, ha, hb, rfl, rfl, hl, by rw [rse], by rw [rse]; omega⟩
  · rw [List.append_assoc] at hx
    rcases List.mem_append.mp hx with q | q
    · obtain ⟨f, t, hf, ht, e1, e2, e3, e4, e5⟩ := x1.2.1 x q h0
      have hta : t ≠ a := fun e => by
        have := cK_mem q h0 (by rw [e2, e])
        omega
      exact ⟨f, t, hf, ht, e1, e2, e3, by rw [rno hta]; exact e4, by rw [rno hta]; exact e5⟩
    · exact absurd h0 (no 1 (by decide) (by decide) x q)
  · rw [List.append_assoc, cN_app, cK_app, cN_app, cK_0 (l := Gl ++ N) (fun x hx q _ => no 1 (by decide) (by decide) x hx q), cN_0 (l := Gl) (fun x hx q _ => by rw [hG x hx] at q; exact absurd q (by decide))]
    by_cases e : b = a
    · rw [e, z.1, z.2]
      have : cN N a = N.length := by
        unfold cN
        refine List.countP_eq_length.mpr (fun x hx => ?_)
        obtain ⟨b, _, _, rfl⟩ := hN x hx
        exact decide_eq_true ⟨rfl, rfl⟩
      rw [this]
      show fup (opP S) a (N.length : Int) a = _
      rw [fup_s]
      omega
    · rw [rno e] at hr
      have : cN N b = 0 := cN_0 (fun x hx _ q => by
        obtain ⟨c, _, _, rfl⟩ := hN x hx
        exact e ((nI_eq (by omega) (by omega)).mp q).symm)
      rw [this]
      show fup (opP S) a (N.length : Int) b = _
      rw [fup_n e, x1.2.2 b hb hr]
      omega
  · rw [List.append_assoc]
    exact x3.app (fun f q h => FlR_rd h) _ (no 2 (by decide) (by decide))
  · obtain ⟨g1, g2⟩ := x4 t f ht hf hp
    by_cases e : t = a
    · rw [e] at hp g1 ⊢
      refine ⟨fun q q1 q2 => ?_, fun _ _ hd => ?_⟩
      · rw [rse] at q2
        by_cases eq : q = rdP S a
        · rw [eq] at q1 ⊢; exact h1 q1 f hf hp
        · exact g1 q q1 (by omega)
      · have hd : fup (dnP S) a false a = true := hd
        rw [fup_s] at hd; exact absurd hd (by decide)
    · refine ⟨fun q q1 q2 => g1 q q1 (by rw [rno e] at q2; exact q2), fun w hr hd => ?_⟩
      rw [rno e] at hr ⊢
      have hd : fup (dnP S) a false t = true := hd
      rw [fup_n e] at hd
      exact g2 w hr hd
  · obtain ⟨g1, g2⟩ := x5 u c hu hc huc
    refine ⟨fun q q1 q2 => ?_, fun q hq => ?_⟩
    · by_cases e : u = a
      · rw [e, rse] at q2
        by_cases eq : q = rdP S a
        · rw [e] at huc ⊢
          rw [eq] at q1 ⊢; exact h2 q1 c hc huc
        · exact g1 q q1 (by rw [e]; omega)
      · exact g1 q q1 (by rw [rno e] at q2; exact q2)
    · rw [List.append_assoc, cX_app 3 l, cX_app 6 l, cX_0 (l := Gl ++ N) (fun x hx q _ _ _ => no 3 (by decide) (by decide) x hx q), cX_0 (l := Gl ++ N) (fun x hx q _ _ _ => no 6 (by decide) (by decide) x hx q)]
      exact g2 q hq
  · refine SfR_rd ?_
    by_cases e : ld x = a
    · rw [e, rse] at h2r
      by_cases eq : r = rdP S a
      · rw [eq] at h1r ⊢; exact hV h1r x b hx hb e hl
      · exact xv x b r hx hb hl h1r (by rw [e]; omega)
    · exact xv x b r hx hb hl h1r (by rw [rno e] at h2r; exact h2r)
theorem cP_erase {P : Lt → Bool} {i : Nat} {x : Lt} (h : l[i]? = some x) : l.countP P = (l.eraseIdx i).countP P + (if P x = true then 1 else 0) := by
  have hi : i < l.length := by
    rcases Nat.lt_or_ge i l.length with q | q
    · exact q
    · rw [List.getElem?_eq_none q] at h; exact absurd h (by simp)
  have e : l = l.take i ++ x :: l.drop (i + 1) := by
    have hx : l[i] = x := by
      rw [List.getElem?_eq_getElem hi] at h
      exact Option.some.inj h
    rw [← hx, List.getElem_cons_drop hi, List.take_append_drop]
  have e2 : l.eraseIdx i = l.take i ++ l.drop (i + 1) := List.eraseIdx_eq_take_drop_succ l i
  rw [e2]
  conv => lhs; rw [e]
  rw [List.countP_append, List.countP_append, List.countP_cons]
  omega
/-- a letter goes: nothing grows -/
theorem X3.less (h : X3 n R W pa S cm l) {i : Nat} : X3 n R W pa S cm (l.eraseIdx i) := by
  obtain ⟨h1, h2, h3⟩ := h
  refine ⟨fun x hx => h1 x (List.mem_of_mem_eraseIdx hx), h2, fun f t q hf ht hq => ?_⟩
  have := h3 f t q hf ht hq
  have : cX 2 (l.eraseIdx i) f t q ≤ cX 2 l f t q := by unfold cX; exact (List.eraseIdx_sublist l i).countP_le
  omega
theorem X5.less (h : X5 n R W up S cm l) {i : Nat} : X5 n R W up S cm (l.eraseIdx i) := by
  intro u c hu hc huc
  obtain ⟨h1, h2⟩ := h u c hu hc huc
  refine ⟨h1, fun q hq => ?_⟩
  have := h2 q hq
  have k1 : cX 3 (l.eraseIdx i) c u q ≤ cX 3 l c u q := by unfold cX; exact (List.eraseIdx_sublist l i).countP_le
  have k2 : cX 6 (l.eraseIdx i) c u q ≤ cX 6 l c u q := by unfold cX; exact (List.eraseIdx_sublist l i).countP_le
  omega
theorem X1.less (h : X1 n lk S l) {i : Nat} {x : Lt} (hx : l[i]? = some x) (h0 : ¬ x.1 = 0) (h1 : ¬ x.1 = 1) : X1 n lk S (l.eraseIdx i) := by
  obtain ⟨k1, k2, k3⟩ := h
  refine ⟨fun y hy => k1 y (List.mem_of_mem_eraseIdx hy), fun y hy => k2 y (List.mem_of_mem_eraseIdx hy), fun b hb hr => ?_⟩
  rw [k3 b hb hr]
  have e1 : cN l b = cN (l.eraseIdx i) b := by
    unfold cN; rw [cP_erase hx, if_neg (fun q => h0 (of_decide_eq_true q).1)]; rfl
  have e2 : cK l b = cK (l.eraseIdx i) b := by
    unfold cK; rw [cP_erase hx, if_neg (fun q => h1 (of_decide_eq_true q).1)]; rfl
  rw [e1, e2]
/-- a GO or a FIRM comes (what it does, comes behind) -/
theorem QX.drop (h : QX n R W lk pa up ld S cm l) {i : Nat} {x : Lt} (hx : l[i]? = some x) (h0 : ¬ x.1 = 0) (h1 : ¬ x.1 = 1) : QX n R W lk pa up ld S cm (l.eraseIdx i) := ⟨h.1.less hx h0 h1, h.2.1.less, h.2.2.1, h.2.2.2.1.less, h.2.2.2.2⟩
/-- came, with one more -/
def cmU (cm : CM) (w a b q : Nat) : CM := fun w' a' b' q' => if w' = w ∧ a' = a ∧ b' = b ∧ q' = q then true else cm w' a' b' q'
theorem cmU_up {w a b q w' a' b' q' : Nat} (h : cm w' a' b' q' = true) : cmU cm w a b q w' a' b' q' = true := by
  unfold cmU; split
  · rfl
  · exact h
theorem cmU_ne {w a b q w' a' b' q' : Nat} (h : ¬ (w' = w ∧ a' = a ∧ b' = b ∧ q' = q)) : cmU cm w a b q w' a' b' q' = cm w' a' b' q' := by unfold cmU; rw [if_neg h]
theorem cmU_eq {w a b q : Nat} : cmU cm w a b q w a b q = true := by unfold cmU; rw [if_pos ⟨rfl, rfl, rfl, rfl⟩]
/-- a NOTE comes: an ACK goes back -/
theorem QX.note (hn : n ≤ 12) (h : QX n R W lk pa up ld S cm l) {i f t : Nat} {v : Int32} (hf : f < n) (ht : t < n) (hl : lk f t = true) (hr : 1 ≤ rdP S f) (hx : l[i]? = some (0, nI f, nI t, nI (rdP S f), v)) : QX n R W lk pa up ld S (cmU cm 0 t f (rdP S f)) (l.eraseIdx i ++ [(1, nI t, nI f, nI (rdP S f), 0)]) := by
  obtain ⟨x1, x3, x4, x5, xv⟩ := h
  have e : ∀ w' a' b' q', ¬ w' = 0 → cmU cm 0 t f (rdP S f) w' a' b' q' = cm w' a' b' q' := fun w' a' b' q' h => cmU_ne (fun q => h q.1)
  have y3 : X3 n R W pa S (cmU cm 0 t f (rdP S f)) (l.eraseIdx i) := by
    obtain ⟨h1, h2, h3⟩ := x3.less (i := i)
    exact ⟨h1, fun f' t' q hf ht hc => h2 f' t' q hf ht (by rw [e 1 _ _ _ (by decide)] at hc; exact hc), fun f' t' q hf ht hq => by rw [e 1 _ _ _ (by decide)]; exact h3 f' t' q hf ht hq⟩
  have y5 : X5 n R W up S (cmU cm 0 t f (rdP S f)) (l.eraseIdx i) := by
    intro u c hu hc huc
    obtain ⟨h1, h2⟩ := x5.less (i := i) u c hu hc huc
    exact ⟨fun q q1 q2 => by rw [e 2 _ _ _ (by decide), e 3 _ _ _ (by decide)]; exact h1 q q1 q2, fun q hq => by rw [e 2 _ _ _ (by decide), e 3 _ _ _ (by decide)]; exact h2 q hq⟩
  have kinds : ∀ k : Int32, ¬ k = 1 → ∀ x, x ∈ ([(1, nI t, nI f, nI (rdP S f), 0)] : List Lt) → ¬ x.1 = k := fun k hk x hx q => by
    rw [List.mem_singleton.mp hx] at q; exact hk q.symm
  refine ⟨⟨fun x hx h0 => ?_, fun x hx h0 => ?_, fun b hb hrb => ?_⟩, y3.app (fun f q h => h) _ (kinds 2 (by decide)), fun t' f' ht hf hp => ?_, y5.app rfl _ (fun x hx => ⟨kinds 3 (by decide) x hx, kinds 6 (by decide) x hx⟩), xv⟩
  · rcases List.mem_append.mp hx with q | q
    · exact x1.1 x (List.mem_of_mem_eraseIdx q) h0
    · exact absurd h0 (kinds 0 (by decide) x q)
  · rcases List.mem_append.mp hx with q | q
    · exact x1.2.1 x (List.mem_of_mem_eraseIdx q) h0
    · rw [List.mem_singleton.mp q]
      exact ⟨t, f, ht, hf, rfl, rfl, hl, rfl, hr⟩
  · rw [x1.2.2 b hb hrb, cN_app, cK_app, cN_0 (l := [(1, nI t, nI f, nI (rdP S f), 0)]) (fun x hx q _ => kinds 0 (by decide) x hx q)]
    have e1 : cN l b = cN (l.eraseIdx i) b + (if b = f then 1 else 0) := by
      unfold cN
      rw [cP_erase hx]
      congr 1
      by_cases eb : b = f
      · rw [if_pos eb, if_pos (decide_eq_true ⟨rfl, by rw [eb]⟩)]
      · rw [if_neg eb, if_neg (fun q => eb ((nI_eq (by omega) (by omega)).mp (of_decide_eq_true q).2).symm)]
    have e2 : cK l b = cK (l.eraseIdx i) b := by
      unfold cK; rw [cP_erase hx, if_neg (fun q => absurd (of_decide_eq_true q).1 (show ¬ (0 : Int32) = 1 by decide))]; rfl
    have e3 : cK [((1, nI t, nI f, nI (rdP S f), 0) : Lt)] b = if b = f then 1 else 0 := by
      unfold cK
      rw [List.countP_singleton]
      by_cases eb : b = f
      · rw [if_pos eb, if_pos (decide_eq_true ⟨rfl, by rw [eb]⟩)]
      · rw [if_neg eb, if_neg (fun q => eb ((nI_eq (by omega) (by omega)).mp (of_decide_eq_true q).2).symm)]
    rw [e1, e2, e3]
    omega
  · rw [show ∀ q, cmU cm 0 t f (rdP S f) 1 t' f' q = cm 1 t' f' q from fun q => e 1 _ _ _ (by decide)]
    refine ⟨fun q q1 q2 => ?_, (x4 t' f' ht hf hp).2⟩
    rw [e 1 _ _ _ (by decide)]; exact (x4 t' f' ht hf hp).1 q q1 q2
/-- an ACK comes -/
theorem QX.ack (hn : n ≤ 12) (h : QX n R W lk pa up ld S cm l) {i f t : Nat} {r v : Int32} (ht : t < n) (hx : l[i]? = some (1, nI f, nI t, r, v)) : QX n R W lk pa up ld (setOp S t (opP S t - 1)) cm (l.eraseIdx i) := by
  obtain ⟨x1, x3, x4, x5, xv⟩ := h
  refine ⟨⟨fun x hx h0 => x1.1 x (List.mem_of_mem_eraseIdx hx) h0, fun x hx h0 => x1.2.1 x (List.mem_of_mem_eraseIdx hx) h0, fun b hb hrb => ?_⟩, x3.less, x4, x5.less, xv⟩
  have e0 := x1.2.2 b hb hrb
  have e1 : cN l b = cN (l.eraseIdx i) b := by
    unfold cN; rw [cP_erase hx, if_neg (fun q => absurd (of_decide_eq_true q).1 (show ¬ (1 : Int32) = 0 by decide))]; rfl
  have e2 : cK l b = cK (l.eraseIdx i) b + (if b = t then 1 else 0) := by
    unfold cK
    rw [cP_erase hx]
    congr 1
    by_cases eb : b = t
    · rw [if_pos eb, if_pos (decide_eq_true ⟨rfl, by rw [eb]⟩)]
    · rw [if_neg eb, if_neg (fun q => eb ((nI_eq (by omega) (by omega)).mp (of_decide_eq_true q).2).symm)]
  show fup (opP S) t (opP S t - 1) b = _
  by_cases eb : b = t
  · rw [eb, fup_s]
    rw [eb, if_pos rfl] at e2
    rw [eb] at e0 e1
    rw [e0, e1, e2]; omega
  · rw [fup_n eb, e0, e1, e2, if_neg eb]; rfl
/-- a SAFE, READY or DONE comes -/
theorem QX.came (hn : n ≤ 12) (hR : R ≤ 20) (h : QX n R W lk pa up ld S cm l) {i f t q w : Nat} {k v : Int32} (hf : f < n) (ht : t < n) (hq1 : 1 ≤ q) (hqR : q ≤ R) (hx : l[i]? = some (k, nI f, nI t, nI q, v)) (hk : (k = 2 ∧ w = 1 ∧ pa f t = true ∧ FlR W S f q) ∨ (k = 3 ∧ w = 2) ∨ (k = 6 ∧ w = 3)) : QX n R W lk pa up ld S (cmU cm w t f q) (l.eraseIdx i) := by
  obtain ⟨x1, x3, x4, x5, xv⟩ := h
  have k01 : ¬ k = 0 ∧ ¬ k = 1 := by
    rcases hk with ⟨h, _⟩ | ⟨h, _⟩ | ⟨h, _⟩ <;> rw [h] <;> decide
  have cnt : ∀ (k' : Int32) f' t' q', f' < n → t' < n → q' ≤ R → cX k' l f' t' q' = cX k' (l.eraseIdx i) f' t' q' + (if k = k' ∧ f = f' ∧ t = t' ∧ q = q' then 1 else 0) := by
    intro k' f' t' q' hf' ht' hq'
    unfold cX
    rw [cP_erase hx]
    congr 1
    by_cases e : k = k' ∧ f = f' ∧ t = t' ∧ q = q'
    · rw [if_pos e, if_pos (decide_eq_true ⟨e.1, by rw [e.2.1], by rw [e.2.2.1], by rw [e.2.2.2]⟩)]
    · rw [if_neg e, if_neg]
      intro p
      obtain ⟨p1, p2, p3, p4⟩ := of_decide_eq_true p
      exact e ⟨p1, (nI_eq (by omega) (by omega)).mp p2, (nI_eq (by omega) (by omega)).mp p3, (nI_eq (by omega) (by omega)).mp p4⟩
  -- a count and what came change places
  have swap : ∀ (k' : Int32) (w' f' t' q' : Nat), f' < n → t' < n → q' ≤ R → (w' = w → k' = k) → cX k' l f' t' q' + b2n (cm w' t' f' q') ≤ 1 → cX k' (l.eraseIdx i) f' t' q' + b2n (cmU cm w t f q w' t' f' q') ≤ 1 := by
    intro k' w' f' t' q' hf' ht' hq' hkw hle
    have := cnt k' f' t' q' hf' ht' hq'
    by_cases e : w' = w ∧ t' = t ∧ f' = f ∧ q' = q
    · obtain ⟨e1, e2, e3, e4⟩ := e
      rw [if_pos ⟨(hkw e1).symm, e3.symm, e2.symm, e4.symm⟩] at this
      have h1 := b2n_le (cmU cm w t f q w' t' f' q')
      omega
    · rw [cmU_ne e]
      omega
  refine ⟨x1.less hx k01.1 k01.2, ⟨fun x hx => x3.1 x (List.mem_of_mem_eraseIdx hx), fun f' t' q' hf' ht' hc => ?_, fun f' t' q' hf' ht' hq' => ?_⟩, fun t' f' ht' hf' hp => ⟨fun q' h1 h2 => cmU_up ((x4 t' f' ht' hf' hp).1 q' h1 h2), fun hw hr hd => cmU_up ((x4 t' f' ht' hf' hp).2 hw hr hd)⟩, fun u c hu hc huc => ⟨fun q' h1 h2 => ?_, fun q' hq' => ?_⟩, xv⟩
  · by_cases e : 1 = w ∧ t' = t ∧ f' = f ∧ q' = q
    · rcases hk with ⟨_, _, h3, h4⟩ | ⟨_, h⟩ | ⟨_, h⟩
      · rw [e.2.1, e.2.2.1, e.2.2.2]; exact ⟨hq1, h3, h4⟩
      · omega
      · omega
    · rw [cmU_ne e] at hc; exact x3.2.1 f' t' q' hf' ht' hc
  · refine swap 2 1 f' t' q' hf' ht' hq' (fun e => ?_) (x3.2.2 f' t' q' hf' ht' hq')
    rcases hk with ⟨h, _⟩ | ⟨_, h⟩ | ⟨_, h⟩
    · exact h.symm
    · omega
    · omega
  · obtain ⟨g1, g2⟩ := (x5 u c hu hc huc).1 q' h1 h2
    exact ⟨cmU_up g1, fun hw => cmU_up (g2 hw)⟩
  · obtain ⟨g1, g2⟩ := (x5 u c hu hc huc).2 q' hq'
    refine ⟨swap 3 2 c u q' hc hu hq' (fun e => ?_) g1, swap 6 3 c u q' hc hu hq' (fun e => ?_) g2⟩
    · rcases hk with ⟨_, h, _⟩ | ⟨h, _⟩ | ⟨_, h⟩
      · omega
      · exact h.symm
      · omega
    · rcases hk with ⟨_, h, _⟩ | ⟨_, h⟩ | ⟨h, _⟩
      · omega
      · omega
      · exact h.symm
end QXB
