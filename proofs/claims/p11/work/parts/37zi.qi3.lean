-- The pure machine: a letter comes
section QIH
variable {n R W p : Nat} {src : Int32} {mk : Nat → Int32} {len : Nat → Nat → Int32} {lk pa : Nat → Nat → Bool} {up : Nat → Option Nat} {ld : Nat → Nat} {A : AS}
theorem k2_ne {cm : CM} {w t f q : Nat} (h : ¬ w = 2) : k2 up (cmU cm w t f q) = k2 up cm := by
  funext c r
  unfold k2
  refine propext (and_congr Iff.rfl ⟨fun ⟨u, h1, h2⟩ => ⟨u, h1, ?_⟩, fun ⟨u, h1, h2⟩ => ⟨u, h1, cmU_up h2⟩⟩)
  rw [cmU_ne (fun e => h e.1.symm)] at h2; exact h2
theorem k3_ne {cm : CM} {w t f q : Nat} (h : ¬ w = 3) : k3 up (cmU cm w t f q) = k3 up cm := by
  funext c r
  unfold k3
  refine propext (and_congr Iff.rfl ⟨fun ⟨u, h1, h2⟩ => ⟨u, h1, ?_⟩, fun ⟨u, h1, h2⟩ => ⟨u, h1, cmU_up h2⟩⟩)
  rw [cmU_ne (fun e => h e.1.symm)] at h2; exact h2
theorem NI.erase {i : Nat} (h : NI p A) : NI p (aErase A i) := ⟨fun x hx => h.1 x (List.mem_of_mem_eraseIdx hx), h.2⟩
theorem QI.erase {i : Nat} {x : Lt} (h : QI n R W p lk pa up ld A) (hx : (aL A)[i]? = some x) (h0 : ¬ x.1 = 0) (h1 : ¬ x.1 = 1) : QI n R W p lk pa up ld (aErase A i) := ⟨h.1.drop, h.2.1.drop hx h0 h1, h.2.2.erase⟩
theorem NI.came {w t f q : Nat} (h : NI p A) (hw : ¬ w = 0) : NI p (aCame A w t f q) := ⟨h.1, fun a b r hc => h.2 a b r (by
  have hc : cmU (aC A) w t f q 0 a b r = true := hc
  rw [cmU_ne (fun e => hw e.1.symm)] at hc; exact hc)⟩
theorem idx_lt {l : List Lt} {i : Nat} {x : Lt} (h : l[i]? = some x) : i < l.length := by
  rcases Nat.lt_or_ge i l.length with q | q
  · exact q
  · rw [List.getElem?_eq_none q] at h; exact absurd h (by simp)
theorem i12 {a b : Nat} (ha : a < 1000) (hb : b < 1000) (h : nI a = nI b) : a = b := (nI_eq (by omega) (by omega)).mp h
theorem QI.note (hn : n ≤ 12) (hR : R ≤ 20) (hF : FRA n W lk pa up ld) (h : QI n R W p lk pa up ld A) {i f t q : Nat} {x : Int32} (hf : f < n) (ht : t < n) (hq1 : 1 ≤ q) (hqR : q ≤ R) (hx : (aL A)[i]? = some (nI 0, nI f, nI t, nI q, x)) : QI n R W p lk pa up ld (aNote (aErase A i) t f q x) := by
  obtain ⟨hP, hX, hN⟩ := h
  have hm := List.mem_of_getElem? hx
  obtain ⟨f', t', hf', ht', e1, e2, hl, e3, hr, _⟩ := note_rd hF hP hX hm rfl
  have ef : f = f' := i12 (by omega) (by omega) e1
  have et : t = t' := i12 (by omega) (by omega) e2
  rw [← ef] at hl e3 hr
  rw [← et] at hl
  have hrR := (hP.1 f hf).1
  have eq : q = rdP (aS A) f := i12 (by omega) (by omega) e3
  refine ⟨?_, ?_, fun y hy h0 => ?_, fun a b r hc => ?_⟩
  · show PI n R W up (k2 up (cmU (aC A) 0 t f q)) (k3 up (cmU (aC A) 0 t f q)) (aS A) ((aL A).eraseIdx i ++ [(1, nI t, nI f, nI q, 0)])
    rw [k2_ne (by decide), k3_ne (by decide)]
    exact hP.swap (idx_lt hx) (VL_of (k := 1) (by omega) (by omega) ht hf hq1 hqR) rfl
  · show QX n R W lk pa up ld (aS A) (cmU (aC A) 0 t f q) ((aL A).eraseIdx i ++ [(1, nI t, nI f, nI q, 0)])
    rw [eq]
    refine hX.note hn hf ht hl hr (v := x) ?_
    rw [hx, eq]; rfl
  · rcases List.mem_append.mp hy with q | q
    · exact hN.1 y (List.mem_of_mem_eraseIdx q) h0
    · rw [List.mem_singleton.mp q] at h0
      exact absurd h0 (show ¬ (1 : Int32) = 0 by decide)
  · show (-1 ≤ (if a = t ∧ b = f ∧ r = q then x else aM A a b r).toInt ∧ (if a = t ∧ b = f ∧ r = q then x else aM A a b r).toInt ≤ 100 + 10 * (r : Int)) ∧ (p = 0 → (if a = t ∧ b = f ∧ r = q then x else aM A a b r) = nI r)
    by_cases e : a = t ∧ b = f ∧ r = q
    · rw [if_pos e]
      obtain ⟨n1, n2⟩ := hN.1 _ hm rfl
      have n1 : -1 ≤ x.toInt ∧ x.toInt ≤ 100 + 10 * (nI q).toInt := n1
      rw [nI_toInt (by omega)] at n1
      rw [e.2.2]
      exact ⟨n1, n2⟩
    · rw [if_neg e]
      have hc : cmU (aC A) 0 t f q 0 a b r = true := hc
      rw [cmU_ne (fun q => e q.2)] at hc
      exact hN.2 a b r hc
theorem QI.came (hn : n ≤ 12) (hR : R ≤ 20) (h : QI n R W p lk pa up ld A) {i k f t q w : Nat} {x : Int32} (hf : f < n) (ht : t < n) (hq1 : 1 ≤ q) (hqR : q ≤ R) (hx : (aL A)[i]? = some (nI k, nI f, nI t, nI q, x)) (hk : (k = 2 ∧ w = 1) ∨ (k = 3 ∧ w = 2) ∨ (k = 6 ∧ w = 3)) : QI n R W p lk pa up ld (aCame (aErase A i) w t f q) := by
  obtain ⟨hP, hX, hN⟩ := h
  have hm := List.mem_of_getElem? hx
  have hd := hP.drop (i := i)
  refine ⟨?_, ?_, hN.erase.came (by omega)⟩
  · show PI n R W up (k2 up (cmU (aC A) w t f q)) (k3 up (cmU (aC A) w t f q)) (aS A) ((aL A).eraseIdx i)
    rcases hk with ⟨ek, ew⟩ | ⟨ek, ew⟩ | ⟨ek, ew⟩
    · rw [k2_ne (by omega), k3_ne (by omega)]; exact hd
    · rw [k3_ne (by omega)]
      refine hd.cs (fun c r ⟨q1, u, q2, q3⟩ => ⟨q1, u, q2, cmU_up q3⟩) (fun c r q => q) (fun c hc r hk2 => ?_) (fun c hc r hk3 => (hP.1 c hc).2.2.2.2 r hk3)
      obtain ⟨q1, u, q2, q3⟩ := hk2
      by_cases e : 2 = w ∧ u = t ∧ c = f ∧ r = q
      · obtain ⟨c', u', q', p1, p2, p3, p4, p5, p6, p7, p8⟩ := (hP.2.1 _ hm).2.1 (by rw [ek]; rfl)
        have hrc := (hP.1 c' p1).1
        have ec : f = c' := i12 (by omega) (by omega) p3
        have er : q = q' := i12 (by omega) (by omega) p6
        rw [e.2.2.1, e.2.2.2, ec, er]
        exact ⟨p7, p8⟩
      · rw [cmU_ne e] at q3
        exact (hP.1 c hc).2.2.2.1 r ⟨q1, u, q2, q3⟩
    · rw [k2_ne (by omega)]
      refine hd.cs (fun c r q => q) (fun c r ⟨q1, u, q2, q3⟩ => ⟨q1, u, q2, cmU_up q3⟩) (fun c hc r hk2 => (hP.1 c hc).2.2.2.1 r hk2) (fun c hc r hk3 => ?_)
      obtain ⟨q1, u, q2, q3⟩ := hk3
      by_cases e : 3 = w ∧ u = t ∧ c = f ∧ r = q
      · obtain ⟨c', u', q', p1, p2, p3, p4, p5, p6, p7, p8⟩ := (hP.2.1 _ hm).2.2.1 (by rw [ek]; rfl)
        have hrc := (hP.1 c' p1).1
        have ec : f = c' := i12 (by omega) (by omega) p3
        have er : q = q' := i12 (by omega) (by omega) p6
        rw [e.2.2.1, e.2.2.2, ec, er]
        exact ⟨p7, p8⟩
      · rw [cmU_ne e] at q3
        exact (hP.1 c hc).2.2.2.2 r ⟨q1, u, q2, q3⟩
  · refine hX.came hn hR hf ht hq1 hqR hx ?_
    rcases hk with ⟨ek, ew⟩ | ⟨ek, ew⟩ | ⟨ek, ew⟩
    · obtain ⟨f', t', q', p1, p2, p3, p4, p5, p6, p7, p8⟩ := hX.2.1.1 _ hm (by rw [ek]; rfl)
      have hrf := (hP.1 f' p1).1
      have hq' : q' ≤ R := by rcases p8 with h | h <;> omega
      have ef : f = f' := i12 (by omega) (by omega) p4
      have et : t = t' := i12 (by omega) (by omega) p5
      have er : q = q' := i12 (by omega) (by omega) p6
      rw [ef, et, er]
      exact Or.inl ⟨by rw [ek]; rfl, ew, p7, p8⟩
    · exact Or.inr (Or.inl ⟨by rw [ek]; rfl, ew⟩)
    · exact Or.inr (Or.inr ⟨by rw [ek]; rfl, ew⟩)
theorem QI.act (hn : n ≤ 12) (hR : R ≤ 20) (hW : W ≤ 2) (hF : FRA n W lk pa up ld) (hM : MLB mk len) (h : QI n R W p lk pa up ld A) (h1 : ∀ c, c < n → 1 ≤ rdP (aS A) c) {i k f t q : Nat} {x : Int32} (hk : k < 7) (hf : f < n) (ht : t < n) (hq1 : 1 ≤ q) (hqR : q ≤ R) (hx : (aL A)[i]? = some (nI k, nI f, nI t, nI q, x)) : QI n R W p lk pa up ld (aAct n p src mk len lk pa up (aErase A i) k f t q x) ∧ (∀ c, rdP (aS A) c ≤ rdP (aS (aAct n p src mk len lk pa up (aErase A i) k f t q x)) c) := by
  have hm := List.mem_of_getElem? hx
  have hP := h.1
  have hX := h.2.1
  have kn : ∀ j : Nat, j < 7 → ¬ k = j → ¬ nI k = nI j := fun j hj hne e => hne (i12 (by omega) (by omega) e)
  unfold aAct
  by_cases k0 : k = 0
  · rw [if_pos k0]
    rw [k0] at hx
    exact ⟨h.note hn hR hF hf ht hq1 hqR hx, fun c => Nat.le_refl _⟩
  · rw [if_neg k0]
    by_cases k1 : k = 1
    · rw [if_pos k1]
      rw [k1] at hx
      exact ⟨⟨hP.ack (idx_lt hx) ht (h1 t ht), hX.ack hn ht hx, h.2.2.erase⟩, fun c => Nat.le_refl _⟩
    · rw [if_neg k1]
      by_cases k2' : k = 2
      · rw [if_pos k2']; exact ⟨h.came hn hR hf ht hq1 hqR hx (Or.inl ⟨k2', rfl⟩), fun c => Nat.le_refl _⟩
      · rw [if_neg k2']
        by_cases k3' : k = 3
        · rw [if_pos k3']; exact ⟨h.came hn hR hf ht hq1 hqR hx (Or.inr (Or.inl ⟨k3', rfl⟩)), fun c => Nat.le_refl _⟩
        · rw [if_neg k3']
          have hE := h.erase hx (kn 0 (by omega) k0) (kn 1 (by omega) k1)
          have hg := gos_erase hx t
          have hfr := frs_erase hx t
          have hgt := hP.2.2.1 t ht
          by_cases k4 : k = 4
          · rw [if_pos k4]
            obtain ⟨c, u, p1, p2, p3, p4, p5, p6, p7, p8, p9⟩ := (hP.2.1 _ hm).2.2.2.1 (by rw [k4]; rfl)
            have ec : t = c := i12 (by omega) (by omega) p3
            rw [← ec] at p4 p5 p6 p7 p8 p9
            have hNL := (hP.1 t ht).2.1 p7
            have hru := (hP.1 u p2).1
            have w0 : ¬ W = 0 := fun w => by rw [(hF.2.2.2.2.2.1 w).2.2 t ht] at p4; exact absurd p4 (by simp)
            refine ⟨hE.beg hn hR hM ht ⟨?_, fun u' hu' => ?_, ?_, ?_, fun _ => ⟨?_, fun c hc huc => ?_, fun f hf hp => ?_, fun c hc huc => ?_, fun y b hy hb he hl => ?_⟩⟩, fun c => ?_⟩
            · show rdP (aS A) t + 1 ≤ R
              omega
            · rw [p4] at hu'
              rw [← Option.some.inj hu']; exact Or.inl p6
            · show gos ((aL A).eraseIdx i) t = 0
              rw [if_pos ⟨by rw [k4]; rfl, rfl⟩] at hg
              omega
            · show frs ((aL A).eraseIdx i) t = 0
              refine frs_0 (fun y hy y1 y2 => ?_)
              obtain ⟨w2, c', u', r1, r2, r3, r4, r5, r6, r7, _⟩ := (hP.2.1 y (List.mem_of_mem_eraseIdx hy)).2.2.2.2 y1
              have ec' : c' = t := i12 (by omega) (by omega) (r3.symm.trans y2)
              rw [ec'] at r7
              have := hNL.2.2.2.1 (p9 w2)
              rw [r7] at this; exact absurd this (by decide)
            · exact (op_0 h ht p7).2 (hNL.2.2.1 p8)
            · obtain ⟨q1, q2⟩ := hP.lower ht p7 p8 hc huc
              refine ⟨q1, q2, fun w2 => ?_⟩
              have := hNL.2.2.2.2.2.2 (p9 w2) c hc huc
              exact ((hP.1 c hc).2.2.2.2 _ this).2 q1.symm
            · by_cases w : W = 2
              · exact (hX.2.2.1 t f ht hf hp).2 w p7 (p9 w)
              · by_cases w1 : W = 1
                · rw [(hF.2.2.2.2.2.2.1 w1).2 t f ht hf] at hp; exact absurd hp (by decide)
                · exfalso
                  omega
            · obtain ⟨_, u', q1, q2⟩ := hNL.2.2.2.2.2.1 p8 c hc huc
              rw [huc] at q1
              rw [← Option.some.inj q1] at q2
              refine ⟨q2, fun w2 => ?_⟩
              obtain ⟨_, u'', p1', p2'⟩ := hNL.2.2.2.2.2.2 (p9 w2) c hc huc
              rw [huc] at p1'
              rw [← Option.some.inj p1'] at p2'
              exact p2'
            · exfalso
              have := hF.2.2.2.2.2.2.2.2 y hy
              rw [he, p4] at this; exact absurd this (by simp)
            · show _ ≤ fup (rdP (aS A)) t (rdP (aS A) t + 1) c
              by_cases e : c = t
              · rw [e, fup_s]; omega
              · rw [fup_n e]; exact Nat.le_refl _
          · rw [if_neg k4]
            by_cases k5 : k = 5
            · rw [if_pos k5]
              obtain ⟨w2, c, u, p1, p2, p3, p4, p5, p6, p7, p8⟩ := (hP.2.1 _ hm).2.2.2.2 (by rw [k5]; rfl)
              have ec : t = c := i12 (by omega) (by omega) p3
              rw [← ec] at p4 p5 p6 p7 p8
              refine ⟨hE.firm hn hR w2 ht p5 p6 p7 ?_ (fun u' hu' => ?_), fun c => Nat.le_refl _⟩
              · show frs ((aL A).eraseIdx i) t = 0
                rw [if_pos ⟨by rw [k5]; rfl, rfl⟩] at hfr
                omega
              · rw [p4] at hu'
                rw [← Option.some.inj hu']; exact p8
            · rw [if_neg k5]
              exact ⟨h.came hn hR hf ht hq1 hqR hx (Or.inr (Or.inr ⟨by omega, rfl⟩)), fun c => Nat.le_refl _⟩
/-- a letter comes: all that the machine does keeps the invariants -/
theorem QI.handle (hn : n ≤ 12) (hR : R ≤ 20) (hW : W ≤ 2) (hF : FRA n W lk pa up ld) (hM : MLB mk len) (h : QI n R W p lk pa up ld A) (h1 : ∀ c, c < n → 1 ≤ rdP (aS A) c) {i k f t q : Nat} {x : Int32} (hk : k < 7) (hf : f < n) (ht : t < n) (hq1 : 1 ≤ q) (hqR : q ≤ R) (hx : (aL A)[i]? = some (nI k, nI f, nI t, nI q, x)) : QI n R W p lk pa up ld (aHandle n R W p src mk len lk pa up A i k f t q x) ∧ ∀ c, c < n → 1 ≤ rdP (aS (aHandle n R W p src mk len lk pa up A i k f t q x)) c := by
  obtain ⟨q1, q2⟩ := h.act (src := src) (mk := mk) (len := len) hn hR hW hF hM h1 hk hf ht hq1 hqR hx
  obtain ⟨g1, g2⟩ := QI.go (src := src) hn hR hW hF hM ht R _ q1 (Nat.le_trans (h1 t ht) (q2 t))
  exact ⟨g1, fun c hc => Nat.le_trans (h1 c hc) (Nat.le_trans (q2 c) (g2 c))⟩
end QIH
