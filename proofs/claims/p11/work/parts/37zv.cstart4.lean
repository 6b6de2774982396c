-- The class's start is the pure machine's
theorem s_Course_clear2 (G : zG) (σ : zSt) : zV G 1 M_Course_clear [zf G 1] σ (fun τ => RF [5, 24, 25, 26, 27, 28, 29] σ τ ∧ PV τ [] ∧ (τ 1 6 = 0 ∧ τ 1 7 = 0) ∧ (∀ a, a < 12 → τ 24 a = 0 ∧ τ 26 a = 0 ∧ τ 27 a = 0 ∧ τ 28 a = 0) ∧ ∀ k, k < 24 → τ 29 k = 0) := by
  refine zSpec.of (by decide) (Nat.le_of_ble_eq_true rfl) rfl (fun X E => ?_)
  refine b_Course_clear_0 E σ (fun σ1 e1 σ2 e2 σ3 e3 => ?_)
  refine ⟨_, s_fill G 24 12 rfl (by decide) _ _, fun σ4 e4 => ?_⟩
  refine ⟨_, s_fill G 25 12 rfl (by decide) _ _, fun σ5 e5 => ?_⟩
  refine ⟨_, s_fill G 26 12 rfl (by decide) _ _, fun σ6 e6 => ?_⟩
  refine ⟨_, s_fill G 27 12 rfl (by decide) _ _, fun σ7 e7 => ?_⟩
  refine ⟨_, s_fill G 28 12 rfl (by decide) _ _, fun σ8 e8 => ?_⟩
  refine ⟨_, s_fill G 29 24 rfl (by decide) _ _, fun σ9 e9 => ?_⟩
  have hF3 : RF [5, 24, 25, 26, 27, 28, 29] σ σ3 := by
    rw [e3, e2, e1]
    exact ((RF.rf.up (by decide) (by decide)).cnt (Or.inl rfl)).cnt (Or.inr rfl)
  have h93 : zFr [24, 25, 26, 27, 28, 29] σ3 σ9 := by
    rw [e9, e8, e7, e6, e5, e4]
    exact (((((zFr.rf.fill (by decide)).fill (by decide)).fill (by decide)).fill (by decide)).fill (by decide)).fill (by decide)
  refine ⟨rfl, hF3.tr ((RF.of h93 (by decide)).mono (by decide)), ⟨?_, Nat.zero_le _, fun i hi => absurd hi (Nat.not_lt_zero i)⟩, ⟨?_, ?_⟩, fun a ha => ⟨?_, ?_, ?_, ?_⟩, fun k hk => ?_⟩
  · rw [h93 5 (by decide), e3, zup_ne (by decide), e2, zup_ne (by decide), e1, zup_self, upd_eq]
    rfl
  · rw [h93 1 (by decide), e3, zup_self, upd_ne (by decide), e2, zup_self, upd_eq]
  · rw [h93 1 (by decide), e3, zup_self, upd_eq]
  · rw [e9, zfill_ne (by decide), e8, zfill_ne (by decide), e7, zfill_ne (by decide), e6, zfill_ne (by decide), e5, zfill_ne (by decide), e4]; simp [zfill, ha]
  · rw [e9, zfill_ne (by decide), e8, zfill_ne (by decide), e7, zfill_ne (by decide), e6]; simp [zfill, ha]
  · rw [e9, zfill_ne (by decide), e8, zfill_ne (by decide), e7]; simp [zfill, ha]
  · rw [e9, zfill_ne (by decide), e8]; simp [zfill, ha]
  · rw [e9]; simp [zfill, hk]
section CST
variable {n R W p : Nat} {src : Int32} {mk : Nat → Int32} {len : Nat → Nat → Int32} {lk pa : Nat → Nat → Bool} {up : Nat → Option Nat} {ld : Nat → Nat} {S : PS}
/-- the class's state before the first round -/
theorem CA_0 {σ : zSt} (hn : n ≤ 12) (hS : ∀ c, c < n → rdP S c = 0) (h24 : ∀ a, a < 12 → σ 24 a = 0 ∧ σ 26 a = 0 ∧ σ 27 a = 0 ∧ σ 28 a = 0) (h29 : ∀ k, k < 24 → σ 29 k = 0) (hP : PV σ []) (h6 : σ 1 6 = 0) (h7 : σ 1 7 = 0) (h16 : ∀ b, b < 12 → σ 16 b = first0 p (decide (nI b = src)) (mk b)) (h17 : ∀ b, b < 12 → σ 17 b = -2) (h18 : ∀ k, k < 288 → σ 18 k = -2) (h30 : ∀ b, b < n → σ 30 b = σ 16 b) : CA σ n W pa up (A0 p src mk S) := by
  have cf : ∀ (l : List Nat), l.countP (fun _ => false) = 0 := fun l => List.countP_eq_zero.mpr (fun x _ q => absurd q (by decide))
  refine ⟨fun a ha => ?_, ⟨hP, h6, h7⟩, fun a ha => ⟨h16 a (by omega), h17 a (by omega)⟩, fun r a hr ha => ?_, fun a ha => ⟨fun _ => (h24 a (by omega)).2.1, fun h => ?_⟩, fun a ha => ?_, fun a r ha hr => ?_, fun a r ha hr f hf => ?_⟩
  · show σ 24 a = nI (rdP S a)
    rw [hS a ha, (h24 a (by omega)).1]; rfl
  · have hr : r ≤ rdP S a := hr
    rw [hS a ha] at hr
    have e : r = 0 := by omega
    rw [e, Nat.zero_mul, Nat.zero_add, h30 a ha]
    exact h16 a (by omega)
  · have h : 1 ≤ rdP S a := h
    rw [hS a ha] at h; omega
  · refine ⟨?_, ?_⟩
    · rw [(h24 a (by omega)).2.2.1]
      show (0 : Int32) = nI ((lows n up a).countP (fun _ => false))
      rw [cf]; rfl
    · rw [(h24 a (by omega)).2.2.2]
      show (0 : Int32) = nI ((lows n up a).countP (fun _ => false))
      rw [cf]; rfl
  · rw [h29 _ (by have := Nat.mod_lt r (show 0 < 2 by decide); omega)]
    show (0 : Int32) = nI ((pars n pa a).countP (fun _ => false))
    rw [cf]; rfl
  · rw [h18 _ (by have := Nat.mod_lt r (show 0 < 2 by decide); omega)]
    unfold noteR
    rw [if_neg (fun q => absurd q.2 (by simp [A0]))]
theorem s_Course_open4 (G : zG) (σ : zSt) (hp3 : p ≤ 3) (hmk : ∀ a, a < 12 → σ 6 a = mk a) (hlen : ∀ a b, a < 12 → b < 12 → σ 8 (a * 12 + b) = len a b) (hlk : ∀ a b, a < 12 → b < 12 → zIn (σ 7 b) (nI a) = lk a b) (hlk2 : ∀ a b, a < n → b < 32 → (zIn (σ 7 a) (nI b) = true ↔ (b < n ∧ lk a b = true))) (hn : σ 2 0 = nI n) (h1 : 1 ≤ n) (hle : n ≤ 12) (hR1 : 1 ≤ R) (hR2 : R ≤ 20) (hW : W ≤ 2) (h9 : ∀ c, c < n → σ 9 c = nI (ld c) ∧ ∀ d, d < 32 → (zIn (σ 12 c) (nI d) = true ↔ up c = some d)) (h13 : ∀ u c, u < n → c < 32 → (zIn (σ 13 u) (nI c) = true ↔ (c < n ∧ up c = some u))) (h14 : ∀ a b, a < n → b < 32 → (zIn (σ 14 a) (nI b) = true ↔ (b < n ∧ pa a b = true))) (hF : FRA n W lk pa up ld) (hM : MLB mk len) (hup : ∀ c u, c < n → up c = some u → u < n ∧ u ≠ c) (hS : ∀ c, c < n → rdP S c = 0) : zV G 6 M_Course_open [zf G 1, .int (nI p), .int (nI W), .int src, .int (nI R)] σ (fun τ => zFr FO σ τ ∧ CT τ n R W p src mk len lk pa up ld ∧ CA τ n W pa up (aSt n R W p src mk len lk pa up (A0 p src mk S) n) ∧ ∀ q b, q ≤ R → b < n → τ 31 (q * 12 + b) = (sV p src n mk len lk q b).1) := by
  refine zSpec.of (by decide) (Nat.le_of_ble_eq_true rfl) rfl (fun X E => ?_)
  refine b_Course_open_0 E (nI p) (nI W) src (nI R) σ (fun σ1 e1 σ2 e2 => ?_)
  have h12 : zFr FO σ σ2 := by rw [e2, e1]; exact (zFr.rf.up (by decide)).up (by decide)
  have hw2 : σ2 1 4 = nI W := by rw [e2, e1, zup_self, zup_self]; simp [upd]
  have hr2 : σ2 1 5 = nI R := by rw [e2, zup_self]; simp [upd]
  refine ⟨_, s_Play_reset2 G σ2 p src hp3, fun σ3 ⟨g3, gp, gs, gv, gq, gn⟩ => ⟨_, s_Course_goInStep2 G σ3 n R p mk len lk (by rw [g3 2 (by decide), h12 2 (by decide)]; exact hn) hle (by rw [g3 1 (by decide)]; exact hr2) hR2 gp hp3 (fun a ha => by rw [g3 6 (by decide), h12 6 (by decide)]; exact hmk a ha) (fun a b ha hb => by rw [g3 8 (by decide), h12 8 (by decide)]; exact hlen a b ha hb) (fun a b ha hb => by rw [g3 7 (by decide), h12 7 (by decide)]; exact hlk a b ha hb) (fun b hb => by rw [gs, gv b hb, h12 6 (by decide), hmk b hb]) gq gn, fun σ4 ⟨g4, g31⟩ => ⟨_, s_Play_reset2 G σ4 p src hp3, fun σ5 ⟨g5, gp5, gs5, gv5, gq5, gn5⟩ => ⟨_, s_Course_clear2 G σ5, fun σ6 ⟨g6, p6, ⟨z6, z7⟩, r6, s6⟩ => ?_⟩⟩⟩⟩
  have h25 : zFr [4, 16, 17, 18, 31] σ2 σ5 := ((g3.mono (by decide)).tr (g4.mono (by decide))).tr (g5.mono (by decide))
  have e31 : ∀ q b, q ≤ R → b < n → σ6 31 (q * 12 + b) = (sV p src n mk len lk q b).1 := fun q b hq hb => by
    rw [g6.1 31 (by decide), g5 31 (by decide), g31 q b hq hb, gs]
  have h6 : zFr FO σ σ6 := (h12.tr (h25.mono (by decide))).tr (g6.zFr (by decide))
  have w6 : σ6 1 4 = nI W := by rw [g6.2.1, h25 1 (by decide)]; exact hw2
  have r6' : σ6 1 5 = nI R := by rw [g6.2.2, h25 1 (by decide)]; exact hr2
  have e4 : σ6 4 = σ5 4 := g6.at (by decide)
  have e46 : σ4 6 = σ 6 := by rw [g4 6 (by decide), g3 6 (by decide), h12 6 (by decide)]
  have T6 : CT σ6 n R W p src mk len lk pa up ld := by
    refine ⟨⟨by rw [h6 2 (by decide)]; exact hn, h1, hle, r6', hR1, hR2, w6, hW⟩, ⟨by rw [e4]; exact gp5, hp3, by rw [e4]; exact gs5⟩, ?_, ?_, ?_, ?_, ?_, ?_⟩
    · rw [h6 6 (by decide)]; exact hmk
    · rw [h6 8 (by decide)]; exact hlen
    · rw [h6 7 (by decide)]; exact hlk2
    · rw [h6 9 (by decide), h6 12 (by decide)]; exact h9
    · rw [h6 13 (by decide)]; exact h13
    · rw [h6 14 (by decide)]; exact h14
  have f16 : ∀ b, b < 12 → σ6 16 b = first0 p (decide (nI b = src)) (mk b) := fun b hb => by rw [g6.at (by decide), gv5 b hb, e46, hmk b hb]
  have f17 : ∀ b, b < 12 → σ6 17 b = -2 := fun b hb => by rw [g6.at (by decide)]; exact gq5 b hb
  have f18 : ∀ k, k < 288 → σ6 18 k = -2 := fun k hk => by rw [g6.at (by decide)]; exact gn5 k hk
  have qs := fun i (hi : i ≤ n) => QS_all (S := S) (src := src) (p := p) hle hR2 hR1 hW hF hM hup hS i hi
  -- the second loop
  have two : ∀ υ, RF FR σ6 υ → CA υ n W pa up (A0 p src mk S) → zZ G M_Course_open 6 X (fun r τ => r = none ∧ zFr FO σ τ ∧ CT τ n R W p src mk len lk pa up ld ∧ CA τ n W pa up (aSt n R W p src mk len lk pa up (A0 p src mk S) n) ∧ ∀ q b, q ≤ R → b < n → τ 31 (q * 12 + b) = (sV p src n mk len lk q b).1) 90 [(0, zf G 1), (5, .int (0 : Int32))] [] υ := by
    intro υ hFr hC
    refine z_for n (fun i τ => zZ G M_Course_open 6 X (fun r τ => r = none ∧ zFr FO σ τ ∧ CT τ n R W p src mk len lk pa up ld ∧ CA τ n W pa up (aSt n R W p src mk len lk pa up (A0 p src mk S) n) ∧ ∀ q b, q ≤ R → b < n → τ 31 (q * 12 + b) = (sV p src n mk len lk q b).1) 90 [(0, zf G 1), (5, .int (nI i))] [] τ) (fun i τ => RF FR σ6 τ ∧ CA τ n W pa up (aSt n R W p src mk len lk pa up (A0 p src mk S) i)) ?_ ?_ 0 υ (Nat.zero_le _) ⟨hFr, hC⟩
    · intro i τ hi ⟨k1, k2⟩ ih
      have hT := T6.of k1
      have hq := qs i (by omega)
      have hB := hq.bg hR1 hle hi
      obtain ⟨hQ, _, q3, q4⟩ := hq
      have ra := (q3 i (Nat.le_refl _) hi).1
      have r1 : rdP (aS (aBeg n p src mk len lk up (aSt n R W p src mk len lk pa up (A0 p src mk S) i) i)) i = 1 := by
        show fup (rdP (aS (aSt n R W p src mk len lk pa up (A0 p src mk S) i))) i (rdP (aS (aSt n R W p src mk len lk pa up (A0 p src mk S) i)) i + 1) i = 1
        rw [fup_s, ra]
      refine b_Course_open_90 E (nI i) τ ⟨fun q => absurd q (by rw [hT.1.1]; exact nI_ge hi (by omega)), fun _ => ⟨_, s_Course_enterNext2 G τ i hT hF hM k2 hQ hB hi (fun _ w b q => q4 w i b q), fun σ1 ⟨m1, m2⟩ => ⟨_, s_Course_push2 G σ1 i (hT.of m1) hF hM m2 (hQ.beg hle hR2 hM hi hB) hi (by omega), fun σ2 ⟨m3, m4⟩ => ?_⟩⟩⟩
      rw [nI_1]
      exact ih σ2 ⟨(k1.tr m1).tr m3, m4⟩
    · intro τ ⟨k1, k2⟩
      have hT := T6.of k1
      exact b_Course_open_90 E (nI n) τ ⟨fun _ => ⟨rfl, h6.tr (k1.zFr (by decide)), hT, k2, fun q b hq hb => by rw [k1.at (by decide)]; exact e31 q b hq hb⟩, fun q => absurd (by rw [hT.1.1]; exact nI_le (Nat.le_refl n) (by omega)) q⟩
  refine z_for n (fun i τ => zZ G M_Course_open 6 X (fun r τ => r = none ∧ zFr FO σ τ ∧ CT τ n R W p src mk len lk pa up ld ∧ CA τ n W pa up (aSt n R W p src mk len lk pa up (A0 p src mk S) n) ∧ ∀ q b, q ≤ R → b < n → τ 31 (q * 12 + b) = (sV p src n mk len lk q b).1) 48 [(0, zf G 1), (5, .int (nI i))] [] τ) (fun i τ => zFr [30] σ6 τ ∧ ∀ b, b < i → τ 30 b = σ6 16 b) ?_ ?_ 0 σ6 (Nat.zero_le _) ⟨zFr.rf, fun b hb => absurd hb (Nat.not_lt_zero b)⟩
  · intro i τ hi ⟨hI, hv⟩ ih
    refine b_Course_open_48 E (nI i) τ ⟨fun q => absurd q (by rw [hI 2 (by decide), T6.1.1]; exact nI_ge hi (by omega)), fun _ => ⟨vp_in_nI (by omega) (by decide), by rw [show (0 : Int32) = nI 0 from rfl, zi12]; exact vp_in_nI (by omega) (by decide), fun σ1 e1 => ?_⟩⟩
    rw [show (0 : Int32) = nI 0 from rfl, zi12, nI_clamp (by omega), nI_clamp (by omega), Nat.zero_mul, Nat.zero_add] at e1
    rw [nI_1]
    refine ih σ1 ⟨by rw [e1]; exact hI.up (by decide), fun b hb => ?_⟩
    rw [e1, zup_self]
    by_cases e : b = i
    · rw [e, upd_eq, hI 16 (by decide)]
    · rw [upd_ne e]; exact hv b (by omega)
  · intro τ ⟨hI, hv⟩
    refine b_Course_open_48 E (nI n) τ ⟨fun _ => two τ ((RF.of hI (by decide)).mono (by decide)) ?_, fun q => absurd (by rw [hI 2 (by decide), T6.1.1]; exact nI_le (Nat.le_refl n) (by omega)) q⟩
    refine CA_0 hle hS ?_ ?_ ?_ ?_ ?_ ?_ ?_ ?_ ?_
    · rw [hI 24 (by decide), hI 26 (by decide), hI 27 (by decide), hI 28 (by decide)]; exact r6
    · rw [hI 29 (by decide)]; exact s6
    · exact p6.of (fun c hc => hI c (fun h => by rw [List.mem_singleton.mp h] at hc; revert hc; decide))
    · rw [hI 1 (by decide)]; exact z6
    · rw [hI 1 (by decide)]; exact z7
    · rw [hI 16 (by decide)]; exact f16
    · rw [hI 17 (by decide)]; exact f17
    · rw [hI 18 (by decide)]; exact f18
    · rw [hI 16 (by decide)]; exact hv
end CST
/-- the state behind an accepted start -/
abbrev aStF (n R W p j : Nat) (mk : Nat → Int32) (len : Nat → Nat → Int32) (lk : Nat → Nat → Bool) (k : Int32) (S : PS) : AS := aSt n R W p (nI j) mk len lk (paF W n lk k) (upF W n j lk k) (A0 p (nI j) mk S) n
def CSE (n : Nat) (mk : Nat → Int32) (len : Nat → Nat → Int32) (lk : Nat → Nat → Bool) (k : Int32) (S : PS) (pp R W j : Nat) (x : Int32) (τ : zSt) : Prop :=
  CT τ n R W pp (nI j) mk len lk (paF W n lk k) (upF W n j lk k) (ldF W n j lk k) ∧ CA τ n W (paF W n lk k) (upF W n j lk k) (aStF n R W pp j mk len lk k S) ∧ FRA n W lk (paF W n lk k) (upF W n j lk k) (ldF W n j lk k) ∧ x = nI (aL (aStF n R W pp j mk len lk k S)).length ∧ (∀ c, c < n → τ 10 c = encU (upF W n j lk k c)) ∧ (τ 3 0 = nI (clN W n lk k) ∧ τ 3 1 = nI (chN W n lk k)) ∧ ∀ q b, q ≤ R → b < n → τ 31 (q * 12 + b) = (sV pp (nI j) n mk len lk q b).1
def PSE (σ : zSt) (n : Nat) (mk : Nat → Int32) (len : Nat → Nat → Int32) (lk : Nat → Nat → Bool) (S : PS) (p w s k r x : Int32) (τ : zSt) : Prop :=
  (x = -1 ∧ τ = σ ∧ (SB0 (!zHas σ s) p w k r ∨ ¬ zRe σ n (n - 1) = zAll (nI n))) ∨ (¬ SB0 (!zHas σ s) p w k r ∧ zRe σ n (n - 1) = zAll (nI n) ∧ zFr FX σ τ ∧ τ 0 1 = 1 ∧ ∃ pp R W j, (p = nI pp ∧ pp ≤ 3) ∧ (r = nI R ∧ 1 ≤ R ∧ R ≤ 20) ∧ (w = nI W ∧ W ≤ 2) ∧ (s = nI j ∧ j < n) ∧ CSE n mk len lk k S pp R W j x τ)
theorem s_P_start4 (G : zG) (σ : zSt) (n : Nat) (p w s k r : Int32) (mk : Nat → Int32) (len : Nat → Nat → Int32) (lk : Nat → Nat → Bool) (S : PS) (hn : σ 2 0 = nI n) (h1 : 1 ≤ n) (hle : n ≤ 12) (hmk : ∀ a, a < 12 → σ 6 a = mk a) (hlen : ∀ a b, a < 12 → b < 12 → σ 8 (a * 12 + b) = len a b) (hlk : ∀ a b, a < 12 → b < 12 → zIn (σ 7 b) (nI a) = lk a b) (hsym : ∀ a b, a < n → b < n → lk a b = lk b a) (hirr : ∀ a, a < n → lk a a = false) (hhi : ∀ a c, a < n → n ≤ c → c < 32 → zIn (σ 7 a) (nI c) = false) (hM : MLB mk len) (hS : ∀ c, c < n → rdP S c = 0) : zI G 7 M_P_start [zf G 0, .int p, .int w, .int s, .int k, .int r] σ (fun x τ => PSE σ n mk len lk S p w s k r x τ) := by
  refine zSpec.of (by decide) (Nat.le_of_ble_eq_true rfl) rfl (fun X E => ?_)
  have bad : SB0 (!zHas σ s) p w k r ∨ ¬ zRe σ n (n - 1) = zAll (nI n) → ∃ x : Int32, some (Value.int (-1 : Int32)) = some (Value.int x) ∧ PSE σ n mk len lk S p w s k r x σ := fun hb => ⟨_, rfl, Or.inl ⟨rfl, rfl, hb⟩⟩
  have hl7 : ∀ a b, a < n → b < n → zIn (σ 7 a) (nI b) = lk a b := fun a b ha hb => by rw [hlk b a (by omega) (by omega)]; exact hsym b a hb ha
  have hlk2 : ∀ a b, a < n → b < 32 → (zIn (σ 7 a) (nI b) = true ↔ (b < n ∧ lk a b = true)) := fun a b ha hb => by
    by_cases e : b < n
    · rw [hl7 a b ha e]; exact ⟨fun q => ⟨e, q⟩, fun q => q.2⟩
    · rw [hhi a b ha (by omega) hb]; exact ⟨fun q => absurd q (by decide), fun q => absurd q.1 e⟩
  have go : ¬ SB0 (!zHas σ s) p w k r → ∀ pp, p = nI pp → pp ≤ 3 → ∀ W, w = nI W → W ≤ 2 → zHas σ s = true → ¬ r < 1 → r ≤ 20 → zZ G M_P_start 7 X (fun rr τ => ∃ x : Int32, rr = some (.int x) ∧ PSE σ n mk len lk S p w s k r x τ) 69 [(0, zf G 0), (1, .int p), (2, .int w), (3, .int s), (4, .int k), (5, .int r)] [] σ := by
    intro nb pp hpp hp3 W hWe hW hs hr1 hr2
    obtain ⟨j, hj, es⟩ := zHas_of hs hn hle
    obtain ⟨R, hR, er⟩ := nI_of2 (M := 20) (n := 20) (by decide) (fun e => hr1 (Int32.lt_of_lt_of_le e (by decide))) hr2
    have hR1 : 1 ≤ R := by
      rcases Nat.lt_or_ge R 1 with e | e
      · exact absurd (by rw [er]; exact nI_lt e (by decide)) hr1
      · exact e
    refine b_P_start_69 E p w s k r σ ⟨_, s_Net_isConnected G σ n hn h1 hle, ?_⟩
    rintro b τ ⟨hcb, eτ⟩
    rw [eτ]
    refine ⟨fun hbt => ?_, fun hbf => bad (Or.inr (of_decide_eq_false (hcb.symm.trans hbf)))⟩
    have hco : zRe σ n (n - 1) = zAll (nI n) := of_decide_eq_true (hcb.symm.trans hbt)
    have hSP : SPR n lk (zAll (nI n)) := by
      rw [← hco]
      exact ⟨zRe_0 _ hle, zRe_cl hle h1 hl7, fun T h0 hC b hb h => zRe_sub hle hl7 h0 hC _ b hb h, zRe_hi hle h1 hhi _⟩
    have hF : FRA n W lk (paF W n lk k) (upF W n j lk k) (ldF W n j lk k) := FRA_F hW hle hj hsym hirr hSP
    have c1 : zV G 4 M_Frame_setUp [zf G 3, zf G 2, .int w, .int s, .int k] σ (fun τ => zFr FFrame σ τ ∧ CFr τ W n j lk k) := by
      rw [es, hWe]; exact s_Frame_setUp2 G σ W n j k lk hW hn hle hj hl7 hhi
    have c2 : ∀ σ3 : zSt, zFr FFrame σ σ3 → CFr σ3 W n j lk k → zV G 6 M_Course_open [zf G 1, .int p, .int w, .int s, .int r] σ3 (fun τ => zFr FO σ3 τ ∧ CT τ n R W pp (nI j) mk len lk (paF W n lk k) (upF W n j lk k) (ldF W n j lk k) ∧ CA τ n W (paF W n lk k) (upF W n j lk k) (aStF n R W pp j mk len lk k S) ∧ ∀ q b, q ≤ R → b < n → τ 31 (q * 12 + b) = (sV pp (nI j) n mk len lk q b).1) := by
      intro σ3 g1 ⟨f1, f2, f3, _⟩
      rw [hpp, er, es, hWe]
      exact s_Course_open4 G σ3 hp3 (fun a ha => by rw [g1 6 (by decide)]; exact hmk a ha) (fun a b ha hb => by rw [g1 8 (by decide)]; exact hlen a b ha hb) (fun a b ha hb => by rw [g1 7 (by decide)]; exact hlk a b ha hb) (fun a b ha hb => by rw [g1 7 (by decide)]; exact hlk2 a b ha hb) (by rw [g1 2 (by decide)]; exact hn) h1 hle hR1 hR hW (fun c hc => ⟨(f1 c hc).1, (f1 c hc).2.2⟩) (fun u c hu hc => f2 u c (by omega) hc) f3 hF hM (fun c u hc hu => ⟨(upF_ok hle hc hu).1, (upF_ok hle hc hu).2.1⟩) hS
    refine ⟨_, c1, fun σ3 ⟨g1, g2⟩ => ⟨_, c2 σ3 g1 g2, fun σ4 ⟨k1, k2, k3, k31⟩ σ5 e5 => ⟨_, rfl, Or.inr ⟨nb, hco, ?_, by rw [e5, zup_self, upd_eq], pp, R, W, j, ⟨hpp, hp3⟩, ⟨er, hR1, hR⟩, ⟨hWe, hW⟩, ⟨es, hj⟩, ?_⟩⟩⟩⟩
    · rw [e5]
      exact ((g1.mono (by decide)).tr (k1.mono (by decide))).up (by decide)
    · have h50 : ∀ c, c ≠ 0 → σ5 c = σ4 c := fun c hc => by rw [e5, zup_ne hc]
      have t5 : CT σ5 n R W pp (nI j) mk len lk (paF W n lk k) (upF W n j lk k) (ldF W n j lk k) := by
        unfold CT at k2 ⊢
        rw [h50 2 (by decide), h50 1 (by decide), h50 4 (by decide), h50 6 (by decide), h50 8 (by decide), h50 7 (by decide), h50 9 (by decide), h50 12 (by decide), h50 13 (by decide), h50 14 (by decide)]
        exact k2
      have a5 : CA σ5 n W (paF W n lk k) (upF W n j lk k) (aStF n R W pp j mk len lk k S) := by
        have hp : PV σ5 (aL (aStF n R W pp j mk len lk k S)) := k3.2.1.1.of (fun c hc => h50 c (fun e => by rw [e] at hc; revert hc; decide))
        unfold CA at k3 ⊢
        rw [h50 24 (by decide), h50 1 (by decide), h50 16 (by decide), h50 17 (by decide), h50 30 (by decide), h50 26 (by decide), h50 25 (by decide), h50 27 (by decide), h50 28 (by decide), h50 29 (by decide), h50 18 (by decide)]
        exact ⟨k3.1, ⟨hp, k3.2.1.2⟩, k3.2.2⟩
      obtain ⟨f1, f2, f3, f4, f5⟩ := g2
      refine ⟨t5, a5, hF, a5.2.1.1.1, fun c hc => ?_, ⟨?_, ?_⟩, fun q b hq hb => ?_⟩
      · rw [h50 10 (by decide), k1 10 (by decide)]; exact (f1 c hc).2.1
      · rw [h50 3 (by decide), k1 3 (by decide)]; exact f4
      · rw [h50 3 (by decide), k1 3 (by decide)]; exact f5
      · rw [h50 31 (by decide)]; exact k31 q b hq hb
  refine b_P_start_0 E p w s k r σ ?_
  refine ⟨fun h => bad (Or.inl (Or.inl h)), fun p0 => ⟨fun h => bad (Or.inl (Or.inr (Or.inl h))), fun p3 => ⟨fun h => bad (Or.inl (Or.inr (Or.inr (Or.inl h)))), fun w0 => ⟨fun w2 => ⟨fun h => bad (Or.inl (Or.inr (Or.inr (Or.inr (Or.inr (Or.inl (by rw [h]; rfl))))))), fun hs => ⟨fun h => bad (Or.inl (Or.inr (Or.inr (Or.inr (Or.inr (Or.inr (Or.inl h))))))), fun hr1 => ⟨fun hr2 => ?_, fun h => bad (Or.inl (Or.inr (Or.inr (Or.inr (Or.inr (Or.inr (Or.inr (Or.inl h))))))))⟩⟩⟩, fun h => bad (Or.inl (Or.inr (Or.inr (Or.inr (Or.inl (Int32.not_le.mp h))))))⟩⟩⟩⟩
  obtain ⟨pp, hp3, hpp⟩ := nI_of2 (M := 3) (n := 3) (by decide) p0 (Int32.not_lt.mp p3)
  obtain ⟨W, hW, hWe⟩ := nI_of2 (M := 2) (n := 2) (by decide) w0 w2
  have nb : (w = 2 → ¬ (k < 2 ∨ 8 < k)) → ¬ SB0 (!zHas σ s) p w k r := by
    intro hk q
    rcases q with q | q | q | q | q | q | q | q
    · exact p0 q
    · exact p3 q
    · exact w0 q
    · exact absurd w2 (Int32.not_le.mpr q)
    · rw [hs] at q; exact absurd q (by decide)
    · exact hr1 q
    · exact q hr2
    · exact hk q.1 q.2
  refine ⟨fun h => go (nb (fun q => absurd q h)) pp hpp hp3 W hWe hW hs hr1 hr2, fun hw2 => ⟨fun h => bad (Or.inl (Or.inr (Or.inr (Or.inr (Or.inr (Or.inr (Or.inr (Or.inr ⟨hw2, Or.inl h⟩)))))))), fun k2 => ⟨fun k8 => go (nb (fun _ q => q.elim k2 (fun q => absurd k8 (Int32.not_le.mpr q)))) pp hpp hp3 W hWe hW hs hr1 hr2, fun h => bad (Or.inl (Or.inr (Or.inr (Or.inr (Or.inr (Or.inr (Or.inr (Or.inr ⟨hw2, Or.inr (Int32.not_le.mp h)⟩))))))))⟩⟩⟩
