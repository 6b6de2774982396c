-- The reference's state, in the protocol's words
def upS (σ : zSt) : Nat → Option Nat := fun c => if σ 41 c = -2 then none else some (σ 41 c).toNatClampNeg
def pl (w a b r : Nat) : Nat := ((w * 12 + a) * 12 + b) * 22 + r
def c2S (σ : zSt) (c q : Nat) : Prop := q < 22 ∧ ∃ u, upS σ c = some u ∧ ¬ σ 45 (pl 2 u c q) = 0
def c3S (σ : zSt) (c q : Nat) : Prop := q < 22 ∧ ∃ u, upS σ c = some u ∧ ¬ σ 45 (pl 3 u c q) = 0
def psS (σ : zSt) : PS := (fun a => (σ 35 a).toNatClampNeg, fun a => (σ 36 a).toInt, fun a => decide (¬ σ 37 a = 0), fun a => decide (¬ σ 38 a = 0), fun a => decide (¬ σ 39 a = 0), fun a => decide (¬ σ 40 a = 0))
def MS (σ : zSt) (n R W : Nat) : Prop := σ 32 0 = nI n ∧ 1 ≤ n ∧ n ≤ 12 ∧ σ 32 8 = nI R ∧ 1 ≤ R ∧ R ≤ 20 ∧ σ 32 6 = nI W ∧ W ≤ 2 ∧ UO σ n ∧ LM σ
def MN (σ : zSt) (n : Nat) : Prop := (∀ a, a < n → σ 35 a = nI (rdP (psS σ) a)) ∧ ∀ a b q, a < n → b < n → q < 22 → ¬ σ 45 (pl 0 a b q) = 0 → NB q (σ 46 (pl 0 a b q))
def MR (σ : zSt) (n R W : Nat) (l : List Lt) : Prop := MS σ n R W ∧ MN σ n ∧ ML σ l ∧ PI n R W (upS σ) (c2S σ) (c3S σ) (psS σ) l
theorem upS_of {σ : zSt} {n c u : Nat} (hU : UO σ n) (hn : n ≤ 12) (hc : c < n) (h : upS σ c = some u) : u < n ∧ u ≠ c ∧ σ 41 c = nI u := by
  unfold upS at h
  rcases hU c hc with e | ⟨v, h1, h2, h3⟩
  · rw [if_pos e] at h; cases h
  · rw [if_neg (by rw [h3]; exact nI_ne_m2 (by omega)), h3, nI_clamp (by omega)] at h
    cases h
    exact ⟨h1, h2, h3⟩
theorem upS_to {σ : zSt} {c u : Nat} (hu : u < 12) (h : σ 41 c = nI u) : upS σ c = some u := by
  unfold upS
  rw [if_neg (by rw [h]; exact nI_ne_m2 (by omega)), h, nI_clamp (by omega)]
theorem MS.of {σ τ : zSt} {n R W : Nat} (h : MS σ n R W) (e0 : τ 32 0 = σ 32 0) (e8 : τ 32 8 = σ 32 8) (e6 : τ 32 6 = σ 32 6) (e41 : τ 41 = σ 41) (e33 : τ 33 = σ 33) (e34 : τ 34 = σ 34) : MS τ n R W := by
  obtain ⟨h1, h2, h3, h4, h5, h6, h7, h8, h9, h10⟩ := h
  exact ⟨by rw [e0]; exact h1, h2, h3, by rw [e8]; exact h4, h5, h6, by rw [e6]; exact h7, h8, fun a ha => by rw [e41]; exact h9 a ha, h10.of e33 e34⟩
theorem upS_eq {σ τ : zSt} (e : τ 41 = σ 41) : upS τ = upS σ := by unfold upS; rw [e]
theorem c2S_eq {σ τ : zSt} (e : τ 41 = σ 41) (e2 : τ 45 = σ 45) : c2S τ = c2S σ := by unfold c2S; rw [upS_eq e, e2]
theorem c3S_eq {σ τ : zSt} (e : τ 41 = σ 41) (e2 : τ 45 = σ 45) : c3S τ = c3S σ := by unfold c3S; rw [upS_eq e, e2]
def cto (l : List Lt) (c : Nat) : Nat := l.countP (fun x => decide (x.2.2.1 = nI c))
theorem gos_cto (l : List Lt) (c : Nat) : gos l c ≤ cto l c := by
  unfold gos cto
  exact List.countP_mono_left (fun x _ h => by simp at h ⊢; exact h.2)
theorem frs_cto (l : List Lt) (c : Nat) : frs l c ≤ cto l c := by
  unfold frs cto
  exact List.countP_mono_left (fun x _ h => by simp at h ⊢; exact h.2)
theorem cto_app (l m : List Lt) (c : Nat) : cto (l ++ m) c = cto l c + cto m c := by unfold cto; exact List.countP_append
theorem s_Mo_toLower (G : zG) (σ : zSt) (n R W a : Nat) (l : List Lt) (k r : Int32) (hS : MS σ n R W) (ha : a < n) (hL : ML σ l) (hl : l.length + 12 < 4000) : zV G 1 M_Mo_toLower [zf G 32, .int k, .int (nI a), .int r] σ (fun τ => MF [51] [27, 29, 30] σ τ ∧ ∃ F, ML τ (l ++ F) ∧ (∀ x, x ∈ F → ∃ c, c < n ∧ upS σ c = some a ∧ x = (k, nI a, nI c, r, 0)) ∧ (∀ c, c < n → cto F c ≤ 1) ∧ (F.length : Int) ≤ cu (upS σ) a n ∧ F.length ≤ n) := by
  refine zSpec.of (by decide) (Nat.le_of_ble_eq_true rfl) rfl (fun X E => ?_)
  obtain ⟨h1, h2, h3, h4, h5, h6, h7, h8, h9, h10⟩ := hS
  refine b_Mo_toLower_0 E k (nI a) r σ ?_
  refine z_for n (fun i τ => zZ G M_Mo_toLower 1 X (fun rr τ => rr = none ∧ MF [51] [27, 29, 30] σ τ ∧ ∃ F, ML τ (l ++ F) ∧ (∀ x, x ∈ F → ∃ c, c < n ∧ upS σ c = some a ∧ x = (k, nI a, nI c, r, 0)) ∧ (∀ c, c < n → cto F c ≤ 1) ∧ (F.length : Int) ≤ cu (upS σ) a n ∧ F.length ≤ n) 3 [(0, zf G 32), (1, .int k), (2, .int (nI a)), (3, .int r), (4, .int (nI i))] [] τ) (fun i τ => MF [51] [27, 29, 30] σ τ ∧ ∃ F, ML τ (l ++ F) ∧ (∀ x, x ∈ F → ∃ c, c < i ∧ c < n ∧ upS σ c = some a ∧ x = (k, nI a, nI c, r, 0)) ∧ (∀ c, c < n → cto F c ≤ 1) ∧ (F.length : Int) ≤ cu (upS σ) a i ∧ F.length ≤ i) ?_ ?_ 0 σ (Nat.zero_le _) ⟨MF.rf, [], by rw [List.append_nil]; exact hL, fun x hx => absurd hx List.not_mem_nil, fun c _ => Nat.zero_le _, Int.le_refl _, Nat.le_refl _⟩
  · intro i τ hi ⟨hF, F, g1, g2, g3, g4, g5⟩ ih
    have ii : vp_in (nI i) 12 := vp_in_nI (by omega) (by decide)
    have ci : (nI i).toNatClampNeg = i := nI_clamp (by omega)
    have e41 : τ 41 = σ 41 := hF.at (by decide)
    have mono : cu (upS σ) a i ≤ cu (upS σ) a (i + 1) := by
      show _ ≤ cu (upS σ) a i + (if upS σ i = some a then 1 else 0)
      split <;> omega
    have nx : zZ G M_Mo_toLower 1 X (fun rr τ => rr = none ∧ MF [51] [27, 29, 30] σ τ ∧ ∃ F, ML τ (l ++ F) ∧ (∀ x, x ∈ F → ∃ c, c < n ∧ upS σ c = some a ∧ x = (k, nI a, nI c, r, 0)) ∧ (∀ c, c < n → cto F c ≤ 1) ∧ (F.length : Int) ≤ cu (upS σ) a n ∧ F.length ≤ n) 3 [(0, zf G 32), (1, .int k), (2, .int (nI a)), (3, .int r), (4, .int (nI i + 1))] [] τ := by
      rw [nI_1]
      exact ih τ ⟨hF, F, g1, fun x hx => by obtain ⟨c, p1, p2⟩ := g2 x hx; exact ⟨c, by omega, p2⟩, g3, by omega, by omega⟩
    refine b_Mo_toLower_3 E k (nI a) r (nI i) τ ⟨fun q => absurd q (by rw [hF.2 0 (by decide), h1]; exact nI_ge hi (by omega)), fun _ => ⟨fun _ => nx, fun _ => ⟨ii, fun _ => nx, fun hz => ⟨_, s_Mo_send G τ (l ++ F) k (nI a) (nI i) r 0 g1 (by rw [List.length_append]; omega), fun σ1 ⟨k1, k2⟩ => ?_⟩⟩⟩⟩
    have hup : upS σ i = some a := by
      simp only [zBe, decide_eq_true_eq] at hz
      rw [ci, e41] at hz
      exact upS_to (by omega) hz.1
    rw [nI_1]
    refine ih σ1 ⟨hF.tr k1, F ++ [(k, nI a, nI i, r, 0)], by rw [← List.append_assoc]; exact k2, fun x hx => ?_, fun c hc => ?_, ?_, ?_⟩
    · rcases List.mem_append.mp hx with e | e
      · obtain ⟨c, p1, p2⟩ := g2 x e; exact ⟨c, by omega, p2⟩
      · rw [List.mem_singleton.mp e]; exact ⟨i, by omega, hi, hup, rfl⟩
    · rw [cto_app]
      by_cases hci : c = i
      · subst hci
        have z : cto F c = 0 := by
          unfold cto
          refine List.countP_eq_zero.mpr (fun x hx => ?_)
          obtain ⟨c', p1, p2, p3, rfl⟩ := g2 x hx
          simp
          intro e
          have := (nI_eq (by omega) (by omega)).mp e
          omega
        rw [z]
        have : cto [(k, nI a, nI c, r, 0)] c ≤ 1 := by unfold cto; exact List.countP_le_length
        omega
      · have z : cto [(k, nI a, nI i, r, (0 : Int32))] c = 0 := by
          unfold cto
          refine List.countP_eq_zero.mpr (fun x hx => ?_)
          rw [List.mem_singleton.mp hx]
          simp
          intro e
          exact hci ((nI_eq (by omega) (by omega)).mp e).symm
        rw [z]; have := g3 c hc; omega
    · rw [List.length_append]
      show _ ≤ cu (upS σ) a i + (if upS σ i = some a then 1 else 0)
      rw [if_pos hup]
      simp
      omega
    · rw [List.length_append]; simp; omega
  · intro τ ⟨hF, F, g1, g2, g3, g4, g5⟩
    exact b_Mo_toLower_3 E k (nI a) r (nI n) τ ⟨fun _ => ⟨rfl, hF, F, g1, fun x hx => by obtain ⟨c, _, p2⟩ := g2 x hx; exact ⟨c, p2⟩, g3, g4, g5⟩, fun q => absurd (by rw [hF.2 0 (by decide), h1]; exact nI_le (Nat.le_refl n) (by omega)) q⟩
theorem pl_nI {w a b r : Nat} : ((nI w * 12 + nI a) * 12 + nI b) * 22 + nI r = nI (pl w a b r) := by
  rw [show (12 : Int32) = nI 12 from rfl, show (22 : Int32) = nI 22 from rfl, pk_mul, nI_add, pk_mul, nI_add, pk_mul, nI_add]
  rfl
theorem pl_lt {w a b r : Nat} (hw : w < 4) (ha : a < 12) (hb : b < 12) (hr : r < 22) : pl w a b r < 12672 := by unfold pl; omega
theorem pl_inj {w a b r w' a' b' r' : Nat} (ha : a < 12) (hb : b < 12) (hr : r < 22) (ha' : a' < 12) (hb' : b' < 12) (hr' : r' < 22) (h : pl w a b r = pl w' a' b' r') : w = w' ∧ a = a' ∧ b = b' ∧ r = r' := by
  unfold pl at h; omega
theorem s_Mo_hasAll (G : zG) (σ : zSt) (n R W w a q : Nat) (lo : Int32) (hS : MS σ n R W) (hw : w < 4) (ha : a < n) (hq : σ 35 a = nI q) (hq2 : q < 22) : zB G 1 M_Mo_hasAll [zf G 32, .int (nI w), .int (nI a), .int lo] σ (fun b τ => τ = σ ∧ (b = true → ¬ lo = 0 → ∀ c, c < n → upS σ c = some a → ¬ σ 45 (pl w a c q) = 0)) := by
  refine zSpec.of (by decide) (Nat.le_of_ble_eq_true rfl) rfl (fun X E => ?_)
  obtain ⟨h1, h2, h3, h4, h5, h6, h7, h8, h9, h10⟩ := hS
  have ia : vp_in (nI a) 12 := vp_in_nI (by omega) (by decide)
  have ca : (nI a).toNatClampNeg = a := nI_clamp (by omega)
  refine b_Mo_hasAll_0 E (nI w) (nI a) lo σ ?_
  refine z_for n (fun i (_ : Unit) => zZ G M_Mo_hasAll 1 X (fun rr τ => ∃ b : Bool, rr = some (.int (zb b)) ∧ τ = σ ∧ (b = true → ¬ lo = 0 → ∀ c, c < n → upS σ c = some a → ¬ σ 45 (pl w a c q) = 0)) 3 [(0, zf G 32), (1, .int (nI w)), (2, .int (nI a)), (3, .int lo), (4, .int (nI i))] [] σ) (fun i _ => ¬ lo = 0 → ∀ c, c < i → upS σ c = some a → ¬ σ 45 (pl w a c q) = 0) ?_ ?_ 0 () (Nat.zero_le _) (fun _ c hc => absurd hc (Nat.not_lt_zero c))
  · intro i _ hi hI ih
    have ii : vp_in (nI i) 12 := vp_in_nI (by omega) (by decide)
    have ci : (nI i).toNatClampNeg = i := nI_clamp (by omega)
    have no : ∃ b : Bool, some (Value.int (0 : Int32)) = some (Value.int (zb b)) ∧ σ = σ ∧ (b = true → ¬ lo = 0 → ∀ c, c < n → upS σ c = some a → ¬ σ 45 (pl w a c q) = 0) := ⟨false, rfl, rfl, fun e => by cases e⟩
    have iab : vp_in (((12 : Int32) * nI a) + nI i) 144 := by rw [zi12']; exact vp_in_nI (by omega) (by decide)
    have epl : ((nI w * 12 + nI a) * 12 + nI i) * 22 + (σ 35 (nI a).toNatClampNeg) = nI (pl w a i q) := by rw [ca, hq, pl_nI]
    have hpl := pl_lt (r := q) hw (show a < 12 by omega) (show i < 12 by omega) hq2
    have ipl : vp_in (((nI w * 12 + nI a) * 12 + nI i) * 22 + (σ 35 (nI a).toNatClampNeg)) 12672 := by rw [epl]; exact vp_in_nI hpl (by decide)
    have cpl : (((nI w * 12 + nI a) * 12 + nI i) * 22 + (σ 35 (nI a).toNatClampNeg)).toNatClampNeg = pl w a i q := by rw [epl]; exact nI_clamp (by omega)
    have nx : (¬ lo = 0 → upS σ i = some a → ¬ σ 45 (pl w a i q) = 0) → zZ G M_Mo_hasAll 1 X (fun rr τ => ∃ b : Bool, rr = some (.int (zb b)) ∧ τ = σ ∧ (b = true → ¬ lo = 0 → ∀ c, c < n → upS σ c = some a → ¬ σ 45 (pl w a c q) = 0)) 3 [(0, zf G 32), (1, .int (nI w)), (2, .int (nI a)), (3, .int lo), (4, .int (nI i + 1))] [] σ := by
      intro hx
      rw [nI_1]
      refine ih () (fun hlo c hc hu => ?_)
      by_cases hci : c = i
      · rw [hci] at hu ⊢; exact hx hlo hu
      · exact hI hlo c (by omega) hu
    refine b_Mo_hasAll_3 E (nI w) (nI a) lo (nI i) σ ⟨fun qq => absurd qq (by rw [h1]; exact nI_ge hi (by omega)), fun _ => ⟨fun hlo => ⟨fun _ => ⟨iab, fun _ => nx (fun h => absurd hlo h), fun _ => ⟨ia, ipl, fun _ => nx (fun h => absurd hlo h), fun _ => no⟩⟩, fun _ => ⟨iab, fun _ => nx (fun h => absurd hlo h), fun _ => ⟨ia, ipl, fun _ => nx (fun h => absurd hlo h), fun _ => no⟩⟩⟩, fun hlo => ⟨ii, fun hz => nx (fun _ hu => ?_), fun _ => ⟨ia, ipl, fun hne => nx (fun _ _ => by rw [cpl] at hne; exact hne), fun _ => no⟩⟩⟩⟩
    exfalso
    obtain ⟨_, p2, p3⟩ := upS_of h9 h3 hi hu
    simp only [zBe, decide_eq_false_iff_not] at hz
    rw [ci] at hz
    exact hz ⟨p3, fun e => p2 ((nI_eq (by omega) (by omega)).mp e).symm⟩
  · intro _ hI
    exact b_Mo_hasAll_3 E (nI w) (nI a) lo (nI n) σ ⟨fun _ => ⟨true, rfl, rfl, fun _ => hI⟩, fun qq => absurd (by rw [h1]; exact nI_le (Nat.le_refl n) (by omega)) qq⟩
