-- The reference: the rounds in step; letters; who has answered
abbrev FStep : List Nat := [47, 48, 50, 52, 53, 54, 55]
theorem zi12p (b : Nat) : (12 : Int32) + nI b = nI (12 + b) := by rw [show (12 : Int32) = nI 12 from rfl, nI_add]
theorem s_Mo_step (G : zG) (σ : zSt) (n R : Nat) (hn : σ 32 0 = nI n) (hle : n ≤ 12) (hR : σ 32 8 = nI R) (hR2 : R ≤ 20) (hM : LM σ) : zV G 2 M_Mo_step [zf G 32] σ (fun τ => zFr FStep σ τ ∧ ∀ j, j < 12 → τ 47 j = σ 47 j) := by
  refine zSpec.of (by decide) (Nat.le_of_ble_eq_true rfl) rfl (fun X E => ?_)
  refine b_Mo_step_0 E σ ?_
  let J : zSt → Prop := fun τ => zFr FStep σ τ ∧ ∀ j, j < 12 → τ 47 j = σ 47 j
  have nt : ∀ τ, J τ → τ 32 0 = nI n := fun τ h => by rw [h.1 32 (by decide)]; exact hn
  have rt : ∀ τ, J τ → τ 32 8 = nI R := fun τ h => by rw [h.1 32 (by decide)]; exact hR
  have lt : ∀ τ, J τ → LM τ := fun τ h => hM.of (h.1 33 (by decide)) (h.1 34 (by decide))
  have jup : ∀ (τ : zSt) (c j : Nat) (v : Int32), J τ → c ∈ FStep → c ≠ 47 → J (zup τ c j v) := fun τ c j v h hc h47 => ⟨h.1.up hc, fun k hk => by rw [zup_ne (Ne.symm h47)]; exact h.2 k hk⟩
  -- the rounds
  have rounds : ∀ (υ : zSt), J υ → (∀ a, a < n → -2 ≤ (υ 47 (12 + a)).toInt ∧ (υ 47 (12 + a)).toInt ≤ 99) → (∀ a, a < n → υ 53 a = -1000) → zZ G M_Mo_step 2 X (fun r τ => r = none ∧ zFr FStep σ τ ∧ ∀ j, j < 12 → τ 47 j = σ 47 j) 51 [(0, zf G 32), (1, .int (1 : Int32))] [] υ := by
    intro υ hJ hv hw
    refine z_for (R + 1) (fun i τ => zZ G M_Mo_step 2 X (fun r τ => r = none ∧ zFr FStep σ τ ∧ ∀ j, j < 12 → τ 47 j = σ 47 j) 51 [(0, zf G 32), (1, .int (nI i))] [] τ) (fun r τ => 1 ≤ r ∧ J τ ∧ (r = 1 → ∀ a, a < n → -2 ≤ (τ 47 (12 + a)).toInt ∧ (τ 47 (12 + a)).toInt ≤ 99) ∧ (∀ a, a < n → τ 53 a = -1000 ∨ NB (r - 1) (τ 53 a))) ?_ ?_ 1 υ (by omega) ⟨Nat.le_refl 1, hJ, fun _ => hv, fun a ha => Or.inl (hw a ha)⟩
    · intro r τ hr ⟨hr1, hJ, hv, hw⟩ ihr
      refine b_Mo_step_51 E (nI r) τ ⟨fun q => absurd q (by rw [rt τ hJ]; exact nI_nlt (by omega) (by omega)), fun _ => ?_⟩
      -- behind the copying
      have acts : ∀ τ : zSt, J τ → (r = 1 → ∀ a, a < n → -2 ≤ (τ 47 (12 + a)).toInt ∧ (τ 47 (12 + a)).toInt ≤ 99) → (∀ a, a < n → τ 52 a = -1000 ∨ NB (r - 1) (τ 52 a)) → zZ G M_Mo_step 2 X (fun r τ => r = none ∧ zFr FStep σ τ ∧ ∀ j, j < 12 → τ 47 j = σ 47 j) 89 [(0, zf G 32), (1, .int (nI r)), (2, .int (0 : Int32))] [] τ := by
        intro τ hJ hv hw
        refine z_for n (fun i τ => zZ G M_Mo_step 2 X (fun r τ => r = none ∧ zFr FStep σ τ ∧ ∀ j, j < 12 → τ 47 j = σ 47 j) 89 [(0, zf G 32), (1, .int (nI r)), (2, .int (nI i))] [] τ) (fun i τ => J τ ∧ (r = 1 → ∀ a, i ≤ a → a < n → -2 ≤ (τ 47 (12 + a)).toInt ∧ (τ 47 (12 + a)).toInt ≤ 99) ∧ (∀ a, a < n → τ 52 a = -1000 ∨ NB (r - 1) (τ 52 a)) ∧ (∀ a, a < i → τ 53 a = -1000 ∨ NB r (τ 53 a))) ?_ ?_ 0 τ (Nat.zero_le _) ⟨hJ, fun h a _ ha => hv h a ha, hw, fun a ha => absurd ha (Nat.not_lt_zero a)⟩
        · intro a τ ha ⟨hJ, hv, hw, hs⟩ iha
          refine b_Mo_step_89 E (nI r) (nI a) τ ⟨fun q => absurd q (by rw [nt τ hJ]; exact nI_ge ha (by omega)), fun _ => ?_⟩
          refine z_for n (fun i τ => zZ G M_Mo_step 2 X (fun r τ => r = none ∧ zFr FStep σ τ ∧ ∀ j, j < 12 → τ 47 j = σ 47 j) 99 [(0, zf G 32), (1, .int (nI r)), (2, .int (nI a)), (3, .int (nI i))] [] τ) (fun i τ2 => (J τ2 ∧ τ2 47 = τ 47 ∧ τ2 52 = τ 52 ∧ τ2 53 = τ 53) ∧ ∀ b, b < i → ¬ τ2 54 b = 0 → NB (r - 1) (τ2 55 b)) ?_ ?_ 0 τ (Nat.zero_le _) ⟨⟨hJ, rfl, rfl, rfl⟩, fun b hb => absurd hb (Nat.not_lt_zero b)⟩
          · intro b τ2 hb ⟨⟨hJ2, e47, e52, e53⟩, ht⟩ ihb
            have ib : vp_in (nI b) 12 := vp_in_nI (by omega) (by decide)
            have cb : (nI b).toNatClampNeg = b := nI_clamp (by omega)
            have fin : ∀ (v : Int32) (σ1 σ2 : zSt), σ1 = zup τ2 54 (nI b).toNatClampNeg v → σ2 = zup σ1 55 (nI b).toNatClampNeg (σ1 52 (nI b).toNatClampNeg) → (¬ v = 0 → ¬ τ2 52 b = -1000) → zZ G M_Mo_step 2 X (fun r τ => r = none ∧ zFr FStep σ τ ∧ ∀ j, j < 12 → τ 47 j = σ 47 j) 99 [(0, zf G 32), (1, .int (nI r)), (2, .int (nI a)), (3, .int (nI b + 1))] [] σ2 := by
              intro v σ1 σ2 e1 e2 hv0
              rw [cb] at e1 e2
              rw [nI_1]
              have x52 : σ1 52 = τ2 52 := by rw [e1, zup_ne (by decide)]
              refine ihb σ2 ⟨⟨?_, ?_, ?_, ?_⟩, fun c hc h54 => ?_⟩
              · rw [e2, e1]; exact jup _ _ _ _ (jup _ _ _ _ hJ2 (by decide) (by decide)) (by decide) (by decide)
              · rw [e2, zup_ne (by decide), e1, zup_ne (by decide), e47]
              · rw [e2, zup_ne (by decide), x52, e52]
              · rw [e2, zup_ne (by decide), e1, zup_ne (by decide), e53]
              · have y54 : σ2 54 = upd (τ2 54) b v := by rw [e2, zup_ne (by decide), e1, zup_self]
                have y55 : σ2 55 = upd (τ2 55) b (τ2 52 b) := by rw [e2, zup_self, x52, e1, zup_ne (by decide)]
                rw [y54] at h54
                rw [y55]
                unfold upd at h54 ⊢
                by_cases hcb : c = b
                · rw [if_pos hcb] at h54 ⊢
                  rcases hw b hb with h | h
                  · rw [← e52] at h; exact absurd h (hv0 h54)
                  · rw [e52]; exact h
                · rw [if_neg hcb] at h54 ⊢
                  exact ht c (by omega) h54
            refine b_Mo_step_99 E (nI r) (nI a) (nI b) τ2 ⟨fun q => absurd q (by rw [nt τ2 hJ2]; exact nI_ge hb (by omega)), fun _ => ⟨by rw [zi12']; exact vp_in_nI (by omega) (by decide), fun _ => ⟨ib, fun σ1 e1 => ⟨ib, ib, fun σ2 e2 => fin 0 σ1 σ2 e1 e2 (fun h => absurd rfl h)⟩⟩, fun _ => ⟨ib, fun _ => ⟨ib, fun σ1 e1 => ⟨ib, ib, fun σ2 e2 => fin 0 σ1 σ2 e1 e2 (fun h => absurd rfl h)⟩⟩, fun h52 => ⟨ib, fun σ1 e1 => ⟨ib, ib, fun σ2 e2 => fin 1 σ1 σ2 e1 e2 (fun _ => by rw [cb] at h52; exact h52)⟩⟩⟩⟩⟩
          · intro τ2 ⟨⟨hJ2, e47, e52, e53⟩, ht⟩
            have ia : vp_in (nI a) 12 := vp_in_nI (by omega) (by decide)
            have ca : (nI a).toNatClampNeg = a := nI_clamp (by omega)
            refine b_Mo_step_99 E (nI r) (nI a) (nI n) τ2 ⟨fun _ => ?_, fun q => absurd (by rw [nt τ2 hJ2]; exact nI_le (Nat.le_refl n) (by omega)) q⟩
            rw [zi12p]
            refine ⟨_, s_Mo_act G τ2 n (12 + a) a r (nt τ2 hJ2) hle (by omega) (by omega) hr1 (by omega) (lt τ2 hJ2) ht (fun h => by rw [e47]; exact hv h a (Nat.le_refl a) ha), fun x σ1 ⟨g1, g2, g3⟩ => ⟨ia, fun σ3 e3 => ⟨vp_in_nI (by omega) (by decide), by rw [zi12']; exact vp_in_nI (by omega) (by decide), fun σ4 e4 => ?_⟩⟩⟩
            rw [nI_1]
            rw [ca] at e3
            have hJ1 : J σ1 := ⟨hJ2.1.tr (g1.mono (by decide)), fun j hj => by rw [g2 j (by omega)]; exact hJ2.2 j hj⟩
            have e4' : σ4 47 = σ1 47 := by rw [e4, zup_ne (by decide), e3, zup_ne (by decide)]
            refine iha σ4 ⟨?_, fun h b hb1 hb2 => ?_, fun b hb => ?_, fun b hb => ?_⟩
            · rw [e4, e3]; exact jup _ _ _ _ (jup _ _ _ _ hJ1 (by decide) (by decide)) (by decide) (by decide)
            · rw [e4', g2 (12 + b) (by omega), e47]; exact hv h b (by omega) hb2
            · rw [e4, zup_ne (by decide), e3, zup_ne (by decide), g1 52 (by decide), e52]; exact hw b hb
            · rw [e4, zup_ne (by decide), e3, zup_self]
              unfold upd
              by_cases hba : b = a
              · rw [if_pos hba]; exact g3
              · rw [if_neg hba, g1 53 (by decide), e53]; exact hs b (by omega)
        · intro τ ⟨hJ, _, _, hs⟩
          refine b_Mo_step_89 E (nI r) (nI n) τ ⟨fun _ => ?_, fun q => absurd (by rw [nt τ hJ]; exact nI_le (Nat.le_refl n) (by omega)) q⟩
          rw [nI_1]
          exact ihr τ ⟨by omega, hJ, fun h => by omega, fun a ha => hs a ha⟩
      refine z_for n (fun i τ => zZ G M_Mo_step 2 X (fun r τ => r = none ∧ zFr FStep σ τ ∧ ∀ j, j < 12 → τ 47 j = σ 47 j) 61 [(0, zf G 32), (1, .int (nI r)), (2, .int (nI i))] [] τ) (fun i τ2 => J τ2 ∧ τ2 47 = τ 47 ∧ τ2 53 = τ 53 ∧ ∀ a, a < i → τ2 52 a = τ 53 a) ?_ ?_ 0 τ (Nat.zero_le _) ⟨hJ, rfl, rfl, fun a ha => absurd ha (Nat.not_lt_zero a)⟩
      · intro i τ2 hi ⟨hJ2, e47, e53, h52⟩ ih
        have ii : vp_in (nI i) 12 := vp_in_nI (by omega) (by decide)
        have ci : (nI i).toNatClampNeg = i := nI_clamp (by omega)
        refine b_Mo_step_61 E (nI r) (nI i) τ2 ⟨fun q => absurd q (by rw [nt τ2 hJ2]; exact nI_ge hi (by omega)), fun _ => ⟨ii, ii, fun σ1 e1 => ?_⟩⟩
        rw [nI_1]
        rw [ci] at e1
        refine ih σ1 ⟨by rw [e1]; exact jup _ _ _ _ hJ2 (by decide) (by decide), by rw [e1, zup_ne (by decide)]; exact e47, by rw [e1, zup_ne (by decide)]; exact e53, fun a ha => ?_⟩
        rw [e1, zup_self]
        unfold upd
        by_cases hai : a = i
        · rw [if_pos hai, e53, hai]
        · rw [if_neg hai]; exact h52 a (by omega)
      · intro τ2 ⟨hJ2, e47, e53, h52⟩
        exact b_Mo_step_61 E (nI r) (nI n) τ2 ⟨fun _ => acts τ2 hJ2 (fun h => by rw [e47]; exact hv h) (fun a ha => by rw [h52 a ha]; exact hw a ha), fun q => absurd (by rw [nt τ2 hJ2]; exact nI_le (Nat.le_refl n) (by omega)) q⟩
    · intro τ ⟨_, hJ, _, _⟩
      exact b_Mo_step_51 E (nI (R + 1)) τ ⟨fun _ => ⟨rfl, hJ⟩, fun q => absurd (by rw [rt τ hJ]; exact nI_lt (by omega) (by omega)) q⟩
  refine z_for n (fun i τ => zZ G M_Mo_step 2 X (fun r τ => r = none ∧ zFr FStep σ τ ∧ ∀ j, j < 12 → τ 47 j = σ 47 j) 2 [(0, zf G 32), (1, .int (nI i))] [] τ) (fun i τ => J τ ∧ (∀ a, a < i → -2 ≤ (τ 47 (12 + a)).toInt ∧ (τ 47 (12 + a)).toInt ≤ 99) ∧ ∀ a, a < i → τ 53 a = -1000) ?_ ?_ 0 σ (Nat.zero_le _) ⟨⟨zFr.rf, fun _ _ => rfl⟩, fun a ha => absurd ha (Nat.not_lt_zero a), fun a ha => absurd ha (Nat.not_lt_zero a)⟩
  · intro i τ hi ⟨hJ, hv, hw⟩ ih
    have ii : vp_in (nI i) 12 := vp_in_nI (by omega) (by decide)
    have ci : (nI i).toNatClampNeg = i := nI_clamp (by omega)
    refine b_Mo_step_2 E (nI i) τ ⟨fun q => absurd q (by rw [nt τ hJ]; exact nI_ge hi (by omega)), fun _ => ?_⟩
    rw [zi12p]
    refine ⟨_, s_Mo_first G τ (12 + i) i (by omega) (by omega) (lt τ hJ), fun σ1 ⟨g1, g2, g3⟩ => ⟨vp_in_nI (by omega) (by decide), vp_in_nI (by omega) (by decide), fun σ2 e2 => ⟨ii, fun σ3 e3 => ?_⟩⟩⟩
    rw [nI_1]
    rw [ci] at e3
    have hJ1 : J σ1 := ⟨hJ.1.tr (g1.mono (by decide)), fun j hj => by rw [g3 j (by omega)]; exact hJ.2 j hj⟩
    refine ih σ3 ⟨by rw [e3, e2]; exact jup _ _ _ _ (jup _ _ _ _ hJ1 (by decide) (by decide)) (by decide) (by decide), fun a ha => ?_, fun a ha => ?_⟩
    · rw [e3, zup_ne (by decide), e2, zup_ne (by decide)]
      by_cases hai : a = i
      · rw [hai]; exact g2
      · rw [g3 (12 + a) (by omega)]; exact hv a (by omega)
    · rw [e3, zup_self]
      unfold upd
      by_cases hai : a = i
      · rw [if_pos hai]
      · rw [if_neg hai, e2, zup_ne (by decide), g1 53 (by decide)]; exact hw a (by omega)
  · intro τ ⟨hJ, hv, hw⟩
    exact b_Mo_step_2 E (nI n) τ ⟨fun _ => rounds τ hJ hv hw, fun q => absurd (by rw [nt τ hJ]; exact nI_le (Nat.le_refl n) (by omega)) q⟩
-- letters
def mlt (σ : zSt) (i : Nat) : Lt := (σ 51 (5 * i), σ 51 (5 * i + 1), σ 51 (5 * i + 2), σ 51 (5 * i + 3), σ 51 (5 * i + 4))
def ML (σ : zSt) (l : List Lt) : Prop := σ 32 27 = nI l.length ∧ l.length ≤ 4000 ∧ ∀ i, i < l.length → l[i]? = some (mlt σ i)
theorem ML.of {σ τ : zSt} {l : List Lt} (h : ML σ l) (e1 : τ 32 27 = σ 32 27) (e2 : τ 51 = σ 51) : ML τ l := by
  obtain ⟨h1, h2, h3⟩ := h
  refine ⟨by rw [e1]; exact h1, h2, fun i hi => ?_⟩
  rw [h3 i hi]
  simp only [mlt, e2]
theorem s_Mo_send (G : zG) (σ : zSt) (l : List Lt) (k f t r x : Int32) (h : ML σ l) (hl : l.length < 4000) : zV G 0 M_Mo_send [zf G 32, .int k, .int f, .int t, .int r, .int x] σ (fun τ => MF [51] [27, 29, 30] σ τ ∧ ML τ (l ++ [(k, f, t, r, x)])) := by
  refine zSpec.of (by decide) (Nat.le_of_ble_eq_true rfl) rfl (fun X E => ?_)
  obtain ⟨h1, h2, h3⟩ := h
  have e5 : (5 : Int32) * nI l.length = nI (5 * l.length) := by rw [show (5 : Int32) = nI 5 from rfl, pk_mul]
  have idx : ∀ j : Nat, j < 5 → vp_in (nI (5 * l.length + j)) 20000 ∧ (nI (5 * l.length + j)).toNatClampNeg = 5 * l.length + j := fun j hj => ⟨vp_in_nI (by omega) (by decide), nI_clamp (by omega)⟩
  have q0 : (5 : Int32) * nI l.length = nI (5 * l.length + 0) := e5
  have q1 : ((5 : Int32) * nI l.length) + (1 : Int32) = nI (5 * l.length + 1) := by rw [e5, show (1 : Int32) = nI 1 from rfl, nI_add]
  have q2 : ((5 : Int32) * nI l.length) + (2 : Int32) = nI (5 * l.length + 2) := by rw [e5, show (2 : Int32) = nI 2 from rfl, nI_add]
  have q3 : ((5 : Int32) * nI l.length) + (3 : Int32) = nI (5 * l.length + 3) := by rw [e5, show (3 : Int32) = nI 3 from rfl, nI_add]
  have q4 : ((5 : Int32) * nI l.length) + (4 : Int32) = nI (5 * l.length + 4) := by rw [e5, show (4 : Int32) = nI 4 from rfl, nI_add]
  refine b_Mo_send_0 E k f t r x σ ⟨by rw [h1, q0]; exact (idx 0 (by omega)).1, fun σ1 e1 => ?_⟩
  rw [h1, q0, (idx 0 (by omega)).2] at e1
  have g1 : σ1 32 27 = nI l.length := by rw [e1, zup_ne (by decide)]; exact h1
  refine ⟨by rw [g1, q1]; exact (idx 1 (by omega)).1, fun σ2 e2 => ?_⟩
  rw [g1, q1, (idx 1 (by omega)).2] at e2
  have g2 : σ2 32 27 = nI l.length := by rw [e2, zup_ne (by decide)]; exact g1
  refine ⟨by rw [g2, q2]; exact (idx 2 (by omega)).1, fun σ3 e3 => ?_⟩
  rw [g2, q2, (idx 2 (by omega)).2] at e3
  have g3 : σ3 32 27 = nI l.length := by rw [e3, zup_ne (by decide)]; exact g2
  refine ⟨by rw [g3, q3]; exact (idx 3 (by omega)).1, fun σ4 e4 => ?_⟩
  rw [g3, q3, (idx 3 (by omega)).2] at e4
  have g4 : σ4 32 27 = nI l.length := by rw [e4, zup_ne (by decide)]; exact g3
  refine ⟨by rw [g4, q4]; exact (idx 4 (by omega)).1, fun σ5 e5' => ?_⟩
  rw [g4, q4, (idx 4 (by omega)).2] at e5'
  have g5 : σ5 32 27 = nI l.length := by rw [e5', zup_ne (by decide)]; exact g4
  have p5 : ∀ j, σ5 51 j = if j = 5 * l.length + 4 then x else if j = 5 * l.length + 3 then r else if j = 5 * l.length + 2 then t else if j = 5 * l.length + 1 then f else if j = 5 * l.length + 0 then k else σ 51 j := fun j => by
    rw [e5', zup_self, e4, zup_self, e3, zup_self, e2, zup_self, e1, zup_self]; rfl
  have fin : ∀ (j : Nat) (w : Int32) (σ6 σ7 : zSt), (j = 29 ∨ j = 30) → σ6 = zup σ5 32 27 ((σ5 32 27) + (1 : Int32)) → σ7 = zup σ6 32 j w → (none : Option Value) = none ∧ MF [51] [27, 29, 30] σ σ7 ∧ ML σ7 (l ++ [(k, f, t, r, x)]) := by
    intro j w σ6 σ7 hj e6 e7
    rw [g5, nI_1] at e6
    refine ⟨rfl, ?_, ?_, ?_, ?_⟩
    · rw [e7, e6, e5', e4, e3, e2, e1]
      exact ((((((MF.rf.up (by decide) (by decide)).up (by decide) (by decide)).up (by decide) (by decide)).up (by decide) (by decide)).up (by decide) (by decide)).fld (by decide)).fld (by rcases hj with rfl | rfl <;> decide)
    · rw [e7, zup_self, e6, zup_self]
      unfold upd
      rw [if_neg (by omega), if_pos rfl, List.length_append]
      rfl
    · rw [List.length_append]; show l.length + 1 ≤ 4000; omega
    · intro i hi
      have e51 : σ7 51 = σ5 51 := by rw [e7, zup_ne (by decide), e6, zup_ne (by decide)]
      rw [List.length_append] at hi
      have hi' : i < l.length + 1 := hi
      simp only [mlt, e51, p5]
      rcases Nat.lt_or_ge i l.length with hil | hil
      · rw [List.getElem?_append_left hil, h3 i hil]
        have a0 : ∀ j, j < 5 → ∀ m, m < 5 → 5 * i + j ≠ 5 * l.length + m := fun j hj m hm => by omega
        simp only [mlt]
        congr 1
        have b0 := a0 0 (by omega)
        simp only [Nat.add_zero] at b0
        congr 1
        · rw [if_neg (by omega), if_neg (by omega), if_neg (by omega), if_neg (by omega), if_neg (by omega)]
        · congr 1
          · rw [if_neg (by omega), if_neg (by omega), if_neg (by omega), if_neg (by omega), if_neg (by omega)]
          · congr 1
            · rw [if_neg (by omega), if_neg (by omega), if_neg (by omega), if_neg (by omega), if_neg (by omega)]
            · congr 1
              · rw [if_neg (by omega), if_neg (by omega), if_neg (by omega), if_neg (by omega), if_neg (by omega)]
              · rw [if_neg (by omega), if_neg (by omega), if_neg (by omega), if_neg (by omega), if_neg (by omega)]
      · have e : i = l.length := by omega
        subst e
        simp
  exact fun σ6 e6 => ⟨fun _ σ7 e7 => fin 30 _ σ6 σ7 (Or.inr rfl) e6 e7, fun _ σ7 e7 => fin 29 _ σ6 σ7 (Or.inl rfl) e6 e7⟩
