section
-- The reference: start; what holds between two calls
abbrev FMo : List Nat := [35, 36, 37, 38, 39, 40, 41, 42, 43, 44, 45, 46, 47, 48, 49, 50, 51, 52, 53, 54, 55]
abbrev JMo : List Nat := [4, 5, 6, 7, 8, 19, 20, 27, 29, 30]
/-- the reference's invariant -/
def MI (σ : zSt) : Prop := ∃ n, σ 32 0 = nI n ∧ 1 ≤ n ∧ n ≤ 12 ∧ LM σ ∧ (σ 32 4 = 0 ∨ ∃ R W l, MR σ n R W l ∧ MG σ n W)
theorem PI_0 {σ : zSt} {n R W : Nat} (hU : UO σ n) (hn : n ≤ 12) (h35 : ∀ a, a < n → σ 35 a = 0) (h45 : ∀ j, j < 12672 → σ 45 j = 0) : PI n R W (upS σ) (c2S σ) (c3S σ) (psS σ) [] := by
  have r0 : ∀ a, a < n → rdP (psS σ) a = 0 := fun a ha => by
    show (σ 35 a).toNatClampNeg = 0
    rw [h35 a ha]; decide
  refine ⟨fun a ha => ⟨by rw [r0 a ha]; omega, fun h => absurd h (by rw [r0 a ha]; omega), fun u hu => ?_, fun q hq => ?_, fun q hq => ?_⟩, fun x hx => absurd hx List.not_mem_nil, fun c _ => ⟨Nat.zero_le _, Nat.zero_le _⟩, ?_⟩
  · obtain ⟨h1, h2, _⟩ := upS_of hU hn ha hu
    exact ⟨h1, h2, Or.inr (by rw [r0 a ha]; omega), fun h => absurd h (by rw [r0 a ha]; omega)⟩
  · obtain ⟨a1, u, a2, a3⟩ := hq
    have hu := (upS_of hU hn ha a2).1
    exact absurd (h45 _ (pl_lt (by omega) (by omega) (by omega) a1)) a3
  · obtain ⟨a1, u, a2, a3⟩ := hq
    have hu := (upS_of hU hn ha a2).1
    exact absurd (h45 _ (pl_lt (by omega) (by omega) (by omega) a1)) a3
  · have key : su (fun _ => 0) n ≤ su (ph W (upS σ) (psS σ)) n := by
      refine su_le (fun a ha => ?_)
      rw [ph_eq]
      have e1 : ph1 W (psS σ) a = 0 := by unfold ph1; rw [if_pos (r0 a ha)]
      have e2 : ph2 (psS σ) (upS σ a) = 0 := by
        cases hu : upS σ a with
        | none => rfl
        | some u =>
          have hu' := (upS_of hU hn ha hu).1
          simp only [ph2]; rw [if_pos (r0 u hu')]
      rw [e1, e2]; decide
    have z : ∀ m, su (fun _ => (0 : Int)) m = 0 := by
      intro m; induction m with
      | zero => rfl
      | succ k ih => unfold su; rw [ih]; rfl
    rw [z n] at key
    exact key
theorem s_Mo_start (G : zG) (σ : zSt) (v1 v2 v3 v4 v5 : Int32) (h : MI σ) : zI G 4 M_Mo_start [zf G 32, .int v1, .int v2, .int v3, .int v4, .int v5] σ (fun _ τ => MI τ ∧ MF FMo JMo σ τ) := by
  refine zSpec.of (by decide) (Nat.le_of_ble_eq_true rfl) rfl (fun X E => ?_)
  have hMI := h
  obtain ⟨n, hn, h1n, hn12, hLM, _⟩ := h
  have bad : ∃ x : Int32, some (Value.int (-1 : Int32)) = some (Value.int x) ∧ MI σ ∧ MF FMo JMo σ σ := ⟨_, rfl, hMI, MF.rf⟩
  -- the rounds begin
  have go : ∀ (υ : zSt) (R W : Nat), 1 ≤ R → MS υ n R W → MF FMo JMo σ υ → (∀ a, a < n → υ 35 a = 0) → (∀ a, a < n → -2 ≤ (υ 47 a).toInt ∧ (υ 47 a).toInt ≤ 99) → (∀ j, j < 12672 → υ 45 j = 0) → υ 32 27 = 0 → (W = 0 → ∀ c, c < n → upS υ c = none) → zZ G M_Mo_start 4 X (fun r τ => ∃ x : Int32, r = some (.int x) ∧ MI τ ∧ MF FMo JMo σ τ) 302 [(0, zf G 32), (8, .int (0 : Int32))] [] υ := by
    intro υ R W hR1 hS hF h35 h47 h45 h27 hW0
    have hR20 : R ≤ 20 := hS.2.2.2.2.2.1
    have P0 := PI_0 (R := R) (W := W) hS.2.2.2.2.2.2.2.2.1 hn12 h35 h45
    have r0 : ∀ a, a < n → rdP (psS υ) a = 0 := fun a ha => by
      show (υ 35 a).toNatClampNeg = 0
      rw [h35 a ha]; decide
    have M0 : MR υ n R W [] := by
      refine ⟨hS, ⟨fun a ha => by rw [r0 a ha, h35 a ha]; rfl, fun a b q ha hb hq hne => ?_⟩, ⟨by rw [h27]; rfl, Nat.zero_le _, fun i hi => absurd hi (Nat.not_lt_zero i)⟩, P0⟩
      exact absurd (h45 _ (pl_lt (by omega) (by omega) (by omega) hq)) hne
    refine z_for n (fun i τ => zZ G M_Mo_start 4 X (fun r τ => ∃ x : Int32, r = some (.int x) ∧ MI τ ∧ MF FMo JMo σ τ) 302 [(0, zf G 32), (8, .int (nI i))] [] τ) (fun i τ => MF FMo JMo σ τ ∧ (∃ l, MR τ n R W l) ∧ (∀ a, a < i → 1 ≤ rdP (psS τ) a) ∧ (∀ a, i ≤ a → a < n → rdP (psS τ) a = 0 ∧ -2 ≤ (τ 47 a).toInt ∧ (τ 47 a).toInt ≤ 99) ∧ (W = 0 → ∀ c, c < n → upS τ c = none)) ?_ ?_ 0 υ (Nat.zero_le _) ⟨hF, ⟨[], M0⟩, fun a ha => absurd ha (Nat.not_lt_zero a), fun a _ ha => ⟨r0 a ha, h47 a ha⟩, hW0⟩
    · intro a τ ha ⟨g1, ⟨l, g2⟩, g3, g4, g5⟩ ih
      have nτ : τ 32 0 = nI n := g2.1.1
      obtain ⟨hS', hN', hL', hP'⟩ := g2
      have ra := (g4 a (Nat.le_refl _) ha).1
      have hB : BC τ n R W a l := by
        refine ⟨by omega, fun e => by omega, fun e => by omega, fun u _ => Or.inr ra, gos_0 (fun x hx e1 e2 => ?_), frs_0 (fun x hx e1 e2 => ?_), fun _ => (g4 a (Nat.le_refl _) ha).2⟩
        · obtain ⟨c, u, q1, q2, q3, q4, q5, q6, q7, _⟩ := (hP'.2.1 x hx).2.2.2.1 e1
          have ec : c = a := (nI_eq (by omega) (by omega)).mp (q3.symm.trans e2)
          rw [ec, ra] at q7; omega
        · obtain ⟨_, c, u, q1, q2, q3, q4, q5, _⟩ := (hP'.2.1 x hx).2.2.2.2 e1
          have ec : c = a := (nI_eq (by omega) (by omega)).mp (q3.symm.trans e2)
          rw [ec, ra] at q5; omega
      refine b_Mo_start_302 E (nI a) τ ⟨fun q => absurd q (by rw [nτ]; exact nI_ge ha (by omega)), fun _ => ⟨_, s_Mo_beginRound G τ n R W a 1 l hS' hN' hL' (Or.inl hP') ha hB (by omega), fun σ1 ⟨k1, k2, ⟨mm, k3⟩, l1, k4⟩ => ?_⟩⟩
      have eup : upS σ1 = upS τ := upS_eq (k1.at (by decide))
      have r1 : rdP (psS σ1) a = 1 := by
        rw [k3]
        show fup (rdP (psS τ)) a (rdP (psS τ) a + 1) a = 1
        rw [fup_s, ra]
      refine ⟨_, s_Mo_goOn G σ1 n R W a l1 k4 ha (by omega) (by rw [eup]; exact g5), fun σ2 ⟨m1, l2, m2⟩ => ?_⟩
      rw [nI_1]
      have rn : ∀ b, b ≠ a → rdP (psS σ2) b = rdP (psS τ) b := fun b hb => by
        rw [m1.2.2.1 b hb, k3]
        exact fup_n hb
      refine ih σ2 ⟨g1.tr ((k1.mono (by decide) (by decide)).tr (m1.1.mono (by decide) (by decide))), ⟨l2, m2⟩, fun b hb => ?_, fun b hb hbn => ?_, ?_⟩
      · by_cases hba : b = a
        · rw [hba]; exact m1.2.2.2
        · rw [rn b hba]; exact g3 b (by omega)
      · rw [rn b (by omega), m1.2.1 b (by omega), k2 b (by omega)]
        exact g4 b (by omega) hbn
      · rw [upS_eq (m1.1.at (c := 41) (by decide)), eup]; exact g5
    · intro τ ⟨g1, ⟨l, g2⟩, g3, g4, g5⟩
      have nτ : τ 32 0 = nI n := g2.1.1
      exact b_Mo_start_302 E (nI n) τ ⟨fun _ => ⟨_, rfl, ⟨n, nτ, h1n, hn12, g2.1.2.2.2.2.2.2.2.2.2, Or.inr ⟨R, W, l, g2, g3, g5⟩⟩, g1⟩, fun q => absurd (by rw [nτ]; exact nI_le (Nat.le_refl n) (by omega)) q⟩
  -- the nodes are set
  have set : ∀ (υ : zSt) (v4 v7 : Int32) (R W : Nat), 1 ≤ R → R ≤ 20 → W ≤ 2 → υ 32 8 = nI R → υ 32 6 = nI W → υ 32 0 = nI n → MF FMo JMo σ υ → (∀ j, j < 12672 → υ 45 j = 0) → υ 32 27 = 0 → zZ G M_Mo_start 4 X (fun r τ => ∃ x : Int32, r = some (.int x) ∧ MI τ ∧ MF FMo JMo σ τ) 197 [(0, zf G 32), (4, .int v4), (7, .int v7), (8, .int (0 : Int32))] [] υ := by
    intro υ v4 v7 R W hR1 hR20 hW2 h8 h6 h0 hF h45 h27
    refine z_for n (fun i τ => zZ G M_Mo_start 4 X (fun r τ => ∃ x : Int32, r = some (.int x) ∧ MI τ ∧ MF FMo JMo σ τ) 197 [(0, zf G 32), (4, .int v4), (7, .int v7), (8, .int (nI i))] [] τ) (fun i τ => zFr [35, 41, 42, 47, 48, 49] υ τ ∧ ∀ a, a < i → τ 41 a = -2 ∧ τ 35 a = 0 ∧ -2 ≤ (τ 47 a).toInt ∧ (τ 47 a).toInt ≤ 99) ?_ ?_ 0 υ (Nat.zero_le _) ⟨zFr.rf, fun a ha => absurd ha (Nat.not_lt_zero a)⟩
    · intro a τ ha ⟨g1, g2⟩ ih
      have nτ : τ 32 0 = nI n := by rw [g1 32 (by decide)]; exact h0
      have ia : vp_in (nI a) 12 := vp_in_nI (by omega) (by decide)
      have ca : (nI a).toNatClampNeg = a := nI_clamp (by omega)
      refine b_Mo_start_197 E v4 v7 (nI a) τ ⟨fun q => absurd q (by rw [nτ]; exact nI_ge ha (by omega)), fun _ => ⟨ia, fun σ6 e6 => ⟨ia, fun σ7 e7 => ?_⟩⟩⟩
      have h7 : zFr [35, 41, 42, 47, 48, 49] υ σ7 := by rw [e7, e6]; exact (g1.up (by decide)).up (by decide)
      have lm7 : LM σ7 := hLM.of (by rw [h7 33 (by decide)]; exact hF.at (by decide)) (by rw [h7 34 (by decide)]; exact hF.at (by decide))
      refine ⟨_, s_Mo_first G σ7 a a (by omega) (by omega) lm7, fun σ8 ⟨k1, k2, k3⟩ => ⟨vp_in_nI (by omega) (by decide), vp_in_nI (by omega) (by decide), fun σ9 e9 => ⟨ia, fun σ10 e10 => ?_⟩⟩⟩
      rw [nI_1]
      rw [ca] at e6 e7 e9 e10
      refine ih σ10 ⟨by rw [e10, e9]; exact ((h7.tr (k1.mono (by decide))).up (by decide)).up (by decide), fun b hb => ?_⟩
      have x41 : σ10 41 = upd (τ 41) a (-2) := by rw [e10, zup_ne (by decide), e9, zup_ne (by decide), k1 41 (by decide), e7, zup_ne (by decide), e6, zup_self]
      have x35 : σ10 35 = upd (τ 35) a 0 := by rw [e10, zup_self, e9, zup_ne (by decide), k1 35 (by decide), e7, zup_ne (by decide), e6, zup_ne (by decide)]
      have x47 : σ10 47 = σ8 47 := by rw [e10, zup_ne (by decide), e9, zup_ne (by decide)]
      rw [x41, x35, x47]
      unfold upd
      by_cases hba : b = a
      · rw [if_pos hba, if_pos hba, hba]; exact ⟨rfl, rfl, k2⟩
      · rw [if_neg hba, if_neg hba, k3 b hba, e7, zup_ne (by decide), e6, zup_ne (by decide)]
        exact g2 b (by omega)
    · intro τ ⟨g1, g2⟩
      have nτ : τ 32 0 = nI n := by rw [g1 32 (by decide)]; exact h0
      have wτ : τ 32 6 = nI W := by rw [g1 32 (by decide)]; exact h6
      have U0 : UO τ n := fun a ha => Or.inl (g2 a ha).1
      -- behind the trees
      have last : ∀ ρ : zSt, MF [41, 42, 43, 44] [19, 20] τ ρ → UO ρ n → (W = 0 → ρ 41 = τ 41) → ∃ P : zSt → Prop, zV G 2 M_Mo_step [zf G 32] ρ P ∧ ∀ σ1 : zSt, P σ1 → zZ G M_Mo_start 4 X (fun r τ => ∃ x : Int32, r = some (.int x) ∧ MI τ ∧ MF FMo JMo σ τ) 302 [(0, zf G 32), (8, .int (0 : Int32))] [] σ1 := by
        intro ρ k1 k2 k3
        have n0 : ρ 32 0 = nI n := by rw [k1.2 0 (by decide)]; exact nτ
        have n8 : ρ 32 8 = nI R := by rw [k1.2 8 (by decide), g1 32 (by decide)]; exact h8
        have n6 : ρ 32 6 = nI W := by rw [k1.2 6 (by decide)]; exact wτ
        have fρ : MF FMo JMo σ ρ := (hF.tr ((MF.of (J := JMo) g1 (by decide)).mono (by decide) (fun _ h => h))).tr (k1.mono (by decide) (by decide))
        have lm : LM ρ := hLM.of (fρ.at (by decide)) (fρ.at (by decide))
        refine ⟨_, s_Mo_step G ρ n R n0 hn12 n8 hR20 lm, fun σ1 ⟨m1, m2⟩ => ?_⟩
        have up1 : upS σ1 = upS ρ := upS_eq (m1 41 (by decide))
        refine go σ1 R W hR1 ⟨by rw [m1 32 (by decide)]; exact n0, h1n, hn12, by rw [m1 32 (by decide)]; exact n8, hR1, hR20, by rw [m1 32 (by decide)]; exact n6, hW2, fun a ha => by rw [m1 41 (by decide)]; exact k2 a ha, lm.of (m1 33 (by decide)) (m1 34 (by decide))⟩ (fρ.tr ((MF.of (J := JMo) m1 (by decide)).mono (by decide) (fun _ h => h))) (fun a ha => ?_) (fun a ha => ?_) (fun j hj => ?_) ?_ (fun e c hc => ?_)
        · rw [m1 35 (by decide), k1.at (by decide)]; exact (g2 a ha).2.1
        · rw [m2 a (by omega), k1.at (by decide)]; exact (g2 a ha).2.2
        · rw [m1 45 (by decide), k1.at (by decide), g1 45 (by decide)]; exact h45 j hj
        · rw [m1 32 (by decide), k1.2 27 (by decide), g1 32 (by decide)]; exact h27
        · rw [up1]
          unfold upS
          rw [k3 e, if_pos (g2 c hc).1]
      refine b_Mo_start_197 E v4 v7 (nI n) τ ⟨fun _ => ⟨fun hw1 => ⟨fun hw2 => last τ MF.rf U0 (fun _ => rfl), fun hw2 => ⟨_, s_Mo_makeClusters G τ n v4 nτ h1n hn12 U0, fun σ2 ⟨k1, k2⟩ => last σ2 k1 k2 (fun e => ?_)⟩⟩, fun hw1 => ⟨_, s_Mo_tree G τ n (τ 32 7) v7 nτ hn12 U0, fun σ4 ⟨k1, k2⟩ => last σ4 ((MF.of (J := [19, 20]) k1 (by decide)).mono (by decide) (fun _ h => h)) k2 (fun e => ?_)⟩⟩, fun q => absurd (by rw [nτ]; exact nI_le (Nat.le_refl n) (by omega)) q⟩
      · rw [wτ, e] at hw2; exact absurd hw2 (by decide)
      · rw [wτ, e] at hw1; exact absurd hw1 (by decide)
  -- what was, is wiped
  have wipe : ∀ (υ : zSt) (v4 v7 : Int32) (R W : Nat), 1 ≤ R → R ≤ 20 → W ≤ 2 → υ 32 8 = nI R → υ 32 6 = nI W → υ 32 0 = nI n → MF FMo JMo σ υ → υ 32 27 = 0 → zZ G M_Mo_start 4 X (fun r τ => ∃ x : Int32, r = some (.int x) ∧ MI τ ∧ MF FMo JMo σ τ) 147 [(0, zf G 32), (4, .int v4), (7, .int v7), (8, .int (0 : Int32))] [] υ := by
    intro υ v4 v7 R W hR1 hR20 hW2 h8 h6 h0 hF h27
    have two : ∀ ρ : zSt, ρ = zfill υ 45 12672 0 → zZ G M_Mo_start 4 X (fun r τ => ∃ x : Int32, r = some (.int x) ∧ MI τ ∧ MF FMo JMo σ τ) 172 [(0, zf G 32), (4, .int v4), (7, .int v7), (8, .int (0 : Int32))] [] ρ := by
      intro ρ hρ
      refine z_for 144 (fun i τ => zZ G M_Mo_start 4 X (fun r τ => ∃ x : Int32, r = some (.int x) ∧ MI τ ∧ MF FMo JMo σ τ) 172 [(0, zf G 32), (4, .int v4), (7, .int v7), (8, .int (nI i))] [] τ) (fun i τ => τ = zfill ρ 44 i 0) ?_ ?_ 0 ρ (Nat.zero_le _) (zfill_0 ρ 44 0).symm
      · intro i τ hi hI ih
        refine b_Mo_start_172 E v4 v7 (nI i) τ ⟨fun q => absurd q (nI_ge hi (by decide)), fun _ => ⟨vp_in_nI hi (by decide), fun σ1 e1 => ?_⟩⟩
        rw [nI_1]
        refine ih σ1 ?_
        rw [e1, hI, nI_clamp (by omega), zfill_s]
      · intro τ hI
        refine b_Mo_start_172 E v4 v7 (nI 144) τ ⟨fun _ => ?_, fun q => absurd (by decide) q⟩
        have t32 : τ 32 = υ 32 := by rw [hI, zfill_ne (by decide), hρ, zfill_ne (by decide)]
        have fr : zFr [44, 45] υ τ := by rw [hI, hρ]; exact (zFr.rf.fill (by decide)).fill (by decide)
        refine set τ v4 v7 R W hR1 hR20 hW2 (by rw [t32]; exact h8) (by rw [t32]; exact h6) (by rw [t32]; exact h0) (hF.tr ((MF.of (J := JMo) fr (by decide)).mono (by decide) (fun _ h => h))) (fun j hj => ?_) (by rw [t32]; exact h27)
        rw [hI, zfill_ne (by decide), hρ]
        simp [zfill, hj]
    refine z_for 12672 (fun i τ => zZ G M_Mo_start 4 X (fun r τ => ∃ x : Int32, r = some (.int x) ∧ MI τ ∧ MF FMo JMo σ τ) 147 [(0, zf G 32), (4, .int v4), (7, .int v7), (8, .int (nI i))] [] τ) (fun i τ => τ = zfill υ 45 i 0) ?_ ?_ 0 υ (Nat.zero_le _) (zfill_0 υ 45 0).symm
    · intro i τ hi hI ih
      refine b_Mo_start_147 E v4 v7 (nI i) τ ⟨fun q => absurd q (nI_ge hi (by decide)), fun _ => ⟨vp_in_nI hi (by decide), fun σ1 e1 => ?_⟩⟩
      rw [nI_1]
      refine ih σ1 ?_
      rw [e1, hI, nI_clamp (by omega), zfill_s]
    · intro τ hI
      exact b_Mo_start_147 E v4 v7 (nI 12672) τ ⟨fun _ => two τ hI, fun q => absurd (by decide) q⟩
  -- the answers
  have s64 : ∀ v6 : Int32, (v6 = 0 → ¬ v2 < 0 ∧ ¬ (2 : Int32) < v2 ∧ ¬ v5 < 1 ∧ v5 ≤ 20) → zZ G M_Mo_start 4 X (fun r τ => ∃ x : Int32, r = some (.int x) ∧ MI τ ∧ MF FMo JMo σ τ) 64 [(0, zf G 32), (1, .int v1), (2, .int v2), (3, .int v3), (4, .int v4), (5, .int v5), (6, .int v6)] [] σ := by
    intro v6 hv
    refine b_Mo_start_64 E v1 v2 v3 v4 v5 v6 σ ⟨fun _ => bad, fun h6 => ⟨_, s_Mo_spread G σ n 1 _ hn hn12, ?_⟩⟩
    rintro x σ1 rfl
    refine ⟨fun _ σ3 e3 σ4 e4 σ5 e5 σ6 e6 σ7 e7 σ8 e8 σ9 e9 σ10 e10 σ11 e11 σ12 e12 => ?_, fun _ => bad⟩
    obtain ⟨w1, w2, w3, w4⟩ := hv h6
    obtain ⟨W, hW, rfl⟩ : ∃ W, W ≤ 2 ∧ v2 = nI W := by
      rcases pk_ix v2 (n := 3) (by decide) with q | q | ⟨j, q1, q2⟩
      · exact absurd q w1
      · exfalso
        have a1 := i32_le.mp q
        have a2 := i32_le.mp (Int32.not_lt.mp w2)
        have b1 : (nI 3).toInt = 3 := by decide
        have b2 : (2 : Int32).toInt = 2 := by decide
        omega
      · exact ⟨j, by omega, q2⟩
    obtain ⟨R, hR1, hR20, rfl⟩ : ∃ R, 1 ≤ R ∧ R ≤ 20 ∧ v5 = nI R := by
      have c1 : ¬ v5.toInt < 1 := fun q => w3 (i32_lt.mpr (by rw [show (1 : Int32).toInt = 1 by decide]; exact q))
      have c2 := i32_le.mp w4
      rw [show (20 : Int32).toInt = 20 by decide] at c2
      refine ⟨v5.toInt.toNat, by omega, by omega, i32_of (by omega) (by omega)⟩
    have f12 : MF FMo JMo σ1 σ12 := by
      rw [e12, e11, e10, e9, e8, e7, e6, e5, e4, e3]
      exact ((((((((((MF.rf.fld (by decide)).fld (by decide)).fld (by decide)).fld (by decide)).fld (by decide)).fld (by decide)).fld (by decide)).fld (by decide)).fld (by decide)).fld (by decide))
    refine wipe σ12 v4 _ R W hR1 hR20 hW ?_ ?_ (by rw [f12.2 0 (by decide)]; exact hn) f12 ?_
    · rw [e12, e11, e10, e9, e8, e7, e6]; simp [zup]
    · rw [e12, e11, e10, e9, e8, e7, e6, e5, e4]; simp [zup]
    · rw [e12, e11, e10, e9, e8]; simp [zup]
  have one : zZ G M_Mo_start 4 X (fun r τ => ∃ x : Int32, r = some (.int x) ∧ MI τ ∧ MF FMo JMo σ τ) 64 [(0, zf G 32), (1, .int v1), (2, .int v2), (3, .int v3), (4, .int v4), (5, .int v5), (6, .int (1 : Int32))] [] σ := s64 1 (fun e => absurd e (by decide))
  refine b_Mo_start_0 E v1 v2 v3 v4 v5 σ ⟨fun _ => one, fun _ => ⟨fun _ => one, fun _ => ⟨fun _ => one, fun w1 => ⟨fun _ => one, fun w2 => ⟨fun _ => one, fun _ => ⟨fun _ => ⟨fun _ => one, fun w3 => ⟨fun w4 => s64 0 (fun _ => ⟨w1, w2, w3, w4⟩), fun _ => one⟩⟩, fun _ => ⟨fun _ => one, fun _ => ⟨fun _ => one, fun _ => ⟨fun _ => one, fun w3 => ⟨fun w4 => s64 0 (fun _ => ⟨w1, w2, w3, w4⟩), fun _ => one⟩⟩⟩⟩⟩⟩⟩⟩⟩⟩
end
section
-- The reference: its public methods
theorem MR_go {σ τ : zSt} {n R W : Nat} {l : List Lt} (h : MR τ n R W l) (hg : MG τ n W) (hF : MF FMo JMo σ τ) : MI τ ∧ MF FMo JMo σ τ := ⟨⟨n, h.1.1, h.1.2.1, h.1.2.2.1, h.1.2.2.2.2.2.2.2.2.2, Or.inr ⟨R, W, l, h, hg⟩⟩, hF⟩
theorem MI.run {σ : zSt} (h : MI σ) (h4 : ¬ σ 32 4 = 0) : ∃ n R W l, MR σ n R W l ∧ MG σ n W := by
  obtain ⟨n, _, _, _, _, h5⟩ := h
  rcases h5 with e | ⟨R, W, l, h6⟩
  · exact absurd e h4
  · exact ⟨n, R, W, l, h6⟩
theorem s_Mo_come (G : zG) (σ : zSt) (v : Int32) (h : MI σ) : zI G 5 M_Mo_come [zf G 32, .int v] σ (fun _ τ => MI τ ∧ MF FMo JMo σ τ) := by
  refine zSpec.of (by decide) (Nat.le_of_ble_eq_true rfl) rfl (fun X E => ?_)
  have bad : ∃ x : Int32, some (Value.int (-1 : Int32)) = some (Value.int x) ∧ MI σ ∧ MF FMo JMo σ σ := ⟨_, rfl, h, MF.rf⟩
  refine b_Mo_come_0 E v σ ⟨fun _ => bad, fun h4 => ⟨fun _ => bad, fun h0 => ⟨fun hlt => ?_, fun _ => bad⟩⟩⟩
  obtain ⟨n, R, W, l, hM, hG⟩ := h.run h4
  have hl := hM.2.2.1.2.1
  rw [hM.2.2.1.1] at hlt
  rcases pk_ix v (n := l.length) (by omega) with q | q | ⟨j, hj, rfl⟩
  · exact absurd q h0
  · exact absurd hlt (Int32.not_lt.mpr q)
  · exact ⟨_, s_Mo_handle G σ n R W j l hM hG hj, fun x σ1 ⟨k1, k2, l', k3⟩ => ⟨_, rfl, MR_go k3 k2 (k1.mono (by decide) (by decide))⟩⟩
theorem s_Mo_flow (G : zG) (σ : zSt) (m s : Int32) (h : MI σ) : zI G 5 M_Mo_flow [zf G 32, .int m, .int s] σ (fun _ τ => MI τ ∧ MF FMo JMo σ τ) := by
  refine zSpec.of (by decide) (Nat.le_of_ble_eq_true rfl) rfl (fun X E => ?_)
  have bad : ∃ x : Int32, some (Value.int (-1 : Int32)) = some (Value.int x) ∧ MI σ ∧ MF FMo JMo σ σ := ⟨_, rfl, h, MF.rf⟩
  refine b_Mo_flow_0 E m s σ ⟨fun _ => bad, fun h4 => ⟨fun _ => bad, fun hm => ⟨fun _ => bad, fun hm2 => ⟨fun hs => ?_, fun _ => bad⟩⟩⟩⟩
  obtain ⟨n, R, W, l, hM, hG⟩ := h.run h4
  obtain ⟨k, hk, rfl⟩ := nI_of2 (M := 3000) (n := 3000) (by decide) hm (Int32.not_lt.mp hm2)
  obtain ⟨s0, hs0, rfl⟩ := nI_of (Int32.not_lt.mpr hs)
  rw [nI_l hs0]
  refine z_for k (fun i (q : Nat × zSt) => zZ G M_Mo_flow 5 X (fun r τ => ∃ x : Int32, r = some (.int x) ∧ MI τ ∧ MF FMo JMo σ τ) 30 [(0, zf G 32), (1, .int (nI k)), (3, .long (lN q.1)), (5, .int (nI i))] [] q.2) (fun _ q => q.1 < 2 ^ 31 ∧ (∃ l, MR q.2 n R W l) ∧ MG q.2 n W ∧ MF FMo JMo σ q.2) ?_ ?_ 0 (s0, σ) (Nat.zero_le _) ⟨hs0, ⟨l, hM⟩, hG, MF.rf⟩
  · intro i ⟨z, τ⟩ hi ⟨hz, ⟨l, hM⟩, hG, hF⟩ ih
    dsimp only at hz hM hG hF ih ⊢
    have en : ∀ x : Int32, ∃ y : Int32, some (Value.int x) = some (Value.int y) ∧ MI τ ∧ MF FMo JMo σ τ := fun x => ⟨x, rfl, MR_go hM hG hF⟩
    refine b_Mo_flow_30 E (nI k) (lN z) (nI i) τ ⟨fun _ => en _, fun _ => ?_⟩
    have hl := hM.2.2.1.2.1
    rw [hM.2.2.1.1, nI_l (by omega)]
    refine ⟨fun _ => en _, fun hp => ?_⟩
    have hpos : 0 < l.length := by
      rcases Nat.eq_zero_or_pos l.length with e | e
      · rw [e] at hp; exact absurd (by decide) hp
      · exact e
    refine ⟨fun e => ?_, ?_⟩
    · have := (lN_eq (a := l.length) (b := 0) (by omega) (by decide)).mp e
      omega
    · have hrem : (lN z - lN z / lN l.length * lN l.length).toInt32 = nI (z % l.length) := by
        rw [pk_lRem (by omega) hpos (by omega), lN_i]
      rw [hrem]
      refine ⟨_, s_Mo_handle G τ n R W (z % l.length) l hM hG (Nat.mod_lt _ hpos), fun x σ1 ⟨k1, k2, l', k3⟩ => ?_⟩
      rw [nI_1]
      have hnext : (((69069 : Int64) * lN z) + (1 : Int64)) - (((69069 : Int64) * lN z) + (1 : Int64)) / (2147483648 : Int64) * (2147483648 : Int64) = lN ((69069 * z + 1) % 2147483648) := by
        rw [show (69069 : Int64) = lN 69069 from rfl, show (1 : Int64) = lN 1 from rfl, show (2147483648 : Int64) = lN 2147483648 from rfl, lN_mul, lN_add, pk_lRem (by omega) (by decide) (by decide)]
      rw [hnext]
      exact ih ((69069 * z + 1) % 2147483648, σ1) ⟨Nat.mod_lt _ (by decide), ⟨l', k3⟩, k2, hF.tr (k1.mono (by decide) (by decide))⟩
  · intro ⟨z, τ⟩ ⟨_, ⟨l, hM⟩, hG, hF⟩
    exact b_Mo_flow_30 E (nI k) (lN z) (nI k) τ ⟨fun _ => ⟨_, rfl, MR_go hM hG hF⟩, fun q => absurd (nI_le (Nat.le_refl k) (by omega)) q⟩
theorem s_Mo_told (G : zG) (σ : zSt) (a w : Int32) (h : MI σ) : zI G 1 M_Mo_told [zf G 32, .int a, .int w] σ (fun _ τ => τ = σ) := by
  refine zSpec.of (by decide) (Nat.le_of_ble_eq_true rfl) rfl (fun X E => ?_)
  obtain ⟨n, hn, h1n, hn12, _, _⟩ := h
  have bad : ∃ x : Int32, some (Value.int (-1 : Int32)) = some (Value.int x) ∧ σ = σ := ⟨_, rfl, rfl⟩
  have loop : ∀ j, j < n → zZ G M_Mo_told 1 X (fun r τ => ∃ x : Int32, r = some (.int x) ∧ τ = σ) 38 [(0, zf G 32), (1, .int (nI j)), (2, .int w), (3, .int (0 : Int32)), (4, .int (0 : Int32))] [] σ := by
    intro j hj
    have i12 : vp_in (nI j) 12 := vp_in_nI (by omega) (by decide)
    have i24 : vp_in (nI j) 24 := vp_in_nI (by omega) (by decide)
    refine z_for n (fun i (v3 : Int32) => zZ G M_Mo_told 1 X (fun r τ => ∃ x : Int32, r = some (.int x) ∧ τ = σ) 38 [(0, zf G 32), (1, .int (nI j)), (2, .int w), (3, .int v3), (4, .int (nI i))] [] σ) (fun _ _ => True) ?_ ?_ 0 0 (Nat.zero_le _) trivial
    · intro i v3 hi _ ih
      refine b_Mo_told_38 E (nI j) w v3 (nI i) σ ⟨fun q => absurd q (by rw [hn]; exact nI_ge hi (by omega)), fun _ => ⟨by rw [zi12']; exact vp_in_nI (by omega) (by decide), fun _ => ?_, fun _ => ?_⟩⟩
      · rw [nI_1]; exact ih _ trivial
      · rw [nI_1]; exact ih _ trivial
    · intro v3 _
      refine b_Mo_told_38 E (nI j) w v3 (nI n) σ ⟨fun _ => ⟨fun _ => ⟨i12, _, rfl, rfl⟩, fun _ => ⟨i24, _, rfl, rfl⟩, fun _ => ⟨i24, _, rfl, rfl⟩, fun _ => ⟨i12, _, rfl, rfl⟩, fun _ => ⟨i12, fun _ => ⟨_, rfl, rfl⟩, fun _ => ⟨_, rfl, rfl⟩⟩, fun _ => ⟨i12, _, rfl, rfl⟩, fun _ => ⟨i12, _, rfl, rfl⟩, fun _ => ⟨_, rfl, rfl⟩⟩, fun q => absurd (by rw [hn]; exact nI_le (Nat.le_refl n) (by omega)) q⟩
  refine b_Mo_told_0 E a w σ ⟨fun _ => bad, fun hno => ?_⟩
  obtain ⟨j, hj, rfl⟩ := zNo_of hno hn hn12
  exact ⟨fun _ => bad, fun _ => ⟨fun _ => bad, fun _ => ⟨fun _ => loop j hj, fun _ => ⟨fun _ => loop j hj, fun _ => bad⟩⟩⟩⟩
/-- where noPlace says no, the place is there -/
theorem s_Mo_noPlace (G : zG) (σ : zSt) (a r : Int32) (h : MI σ) : zB G 1 M_Mo_noPlace [zf G 32, .int a, .int r] σ (fun b τ => τ = σ ∧ (b = false → ∃ j k, j < 12 ∧ k ≤ 20 ∧ a = nI j ∧ r = nI k)) := by
  refine zSpec.of (by decide) (Nat.le_of_ble_eq_true rfl) rfl (fun X E => ?_)
  have yes : ∃ b : Bool, some (Value.int (1 : Int32)) = some (Value.int (zb b)) ∧ σ = σ ∧ (b = false → ∃ j k, j < 12 ∧ k ≤ 20 ∧ a = nI j ∧ r = nI k) := ⟨true, rfl, rfl, fun e => absurd e (by decide)⟩
  refine b_Mo_noPlace_0 E a r σ ⟨fun _ => yes, fun h4 => ⟨fun _ => yes, fun hno => ⟨fun _ => yes, fun h0 => ⟨fun hle => ⟨false, rfl, rfl, fun _ => ?_⟩, fun _ => yes⟩⟩⟩⟩
  obtain ⟨n, R, W, l, hM, hG⟩ := h.run h4
  obtain ⟨j, hj, rfl⟩ := zNo_of hno hM.1.1 hM.1.2.2.1
  have hR := hM.1.2.2.2.2.2.1
  have hn := hM.1.2.2.1
  rw [hM.1.2.2.2.1] at hle
  rcases pk_ix r (n := R + 1) (by omega) with q | q | ⟨k, hk, rfl⟩
  · exact absurd q h0
  · exfalso
    have a1 := i32_le.mp q
    have a2 := i32_le.mp hle
    rw [nI_toInt (by omega)] at a1 a2
    omega
  · exact ⟨j, k, by omega, by omega, rfl, rfl⟩
theorem s_Mo_past (G : zG) (σ : zSt) (a r : Int32) (h : MI σ) : zI G 2 M_Mo_past [zf G 32, .int a, .int r] σ (fun _ τ => τ = σ) := by
  refine zSpec.of (by decide) (Nat.le_of_ble_eq_true rfl) rfl (fun X E => ?_)
  refine b_Mo_past_0 E a r σ ⟨_, s_Mo_noPlace G σ a r h, ?_⟩
  rintro b τ ⟨rfl, hb⟩
  refine ⟨fun e => ?_, fun _ => ⟨_, rfl, rfl⟩⟩
  obtain ⟨j, k, hj, hk, rfl, rfl⟩ := hb e
  exact ⟨vp_in_nI (by omega) (by decide), fun _ => ⟨by rw [zi12']; exact vp_in_nI (by omega) (by decide), _, rfl, rfl⟩, fun _ => ⟨_, rfl, rfl⟩⟩
theorem s_Mo_inStep (G : zG) (σ : zSt) (a r : Int32) (h : MI σ) : zI G 2 M_Mo_inStep [zf G 32, .int a, .int r] σ (fun _ τ => τ = σ) := by
  refine zSpec.of (by decide) (Nat.le_of_ble_eq_true rfl) rfl (fun X E => ?_)
  refine b_Mo_inStep_0 E a r σ ⟨_, s_Mo_noPlace G σ a r h, ?_⟩
  rintro b τ ⟨rfl, hb⟩
  refine ⟨fun e => ?_, fun _ => ⟨_, rfl, rfl⟩⟩
  obtain ⟨j, k, hj, hk, rfl, rfl⟩ := hb e
  exact ⟨by rw [zi12']; exact vp_in_nI (by omega) (by decide), _, rfl, rfl⟩
theorem s_Mo_differ (G : zG) (σ : zSt) (h : MI σ) : zI G 0 M_Mo_differ [zf G 32] σ (fun _ τ => τ = σ) := by
  refine zSpec.of (by decide) (Nat.le_of_ble_eq_true rfl) rfl (fun X E => ?_)
  have hMI := h
  obtain ⟨n, hn, h1n, hn12, _, _⟩ := h
  refine b_Mo_differ_0 E σ ?_
  have out : ∀ v1 : Int32, ((σ 32 4) = 0 → ∃ x : Int32, some (Value.int (-1 : Int32)) = some (Value.int x) ∧ σ = σ) ∧ (¬ (σ 32 4) = 0 → ∃ x : Int32, some (Value.int v1) = some (Value.int x) ∧ σ = σ) := fun v1 => ⟨fun _ => ⟨_, rfl, rfl⟩, fun _ => ⟨_, rfl, rfl⟩⟩
  refine z_for n (fun i (v1 : Int32) => zZ G M_Mo_differ 0 X (fun r τ => ∃ x : Int32, r = some (.int x) ∧ τ = σ) 4 [(0, zf G 32), (1, .int v1), (2, .int (nI i))] [] σ) (fun _ _ => True) ?_ ?_ 0 0 (Nat.zero_le _) trivial
  · intro a v1 ha _ iha
    refine b_Mo_differ_4 E v1 (nI a) σ ⟨fun q => absurd q (by rw [hn]; exact nI_ge ha (by omega)), fun _ => ⟨fun _ => out v1, fun h4 => ?_⟩⟩
    obtain ⟨n', R, W, l, hM, hG⟩ := hMI.run h4
    have en : n' = n := (nI_eq (by have := hM.1.2.2.1; omega) (by omega)).mp (hM.1.1.symm.trans hn)
    subst en
    have hra := hM.2.1.1 a ha
    have hR := (hM.2.2.2.1 a ha).1
    have hR2 := hM.1.2.2.2.2.2.1
    have ca : (nI a).toNatClampNeg = a := nI_clamp (by omega)
    refine z_for (rdP (psS σ) a + 1) (fun i (v1 : Int32) => zZ G M_Mo_differ 0 X (fun r τ => ∃ x : Int32, r = some (.int x) ∧ τ = σ) 21 [(0, zf G 32), (1, .int v1), (2, .int (nI a)), (3, .int (nI i))] [] σ) (fun _ _ => True) ?_ ?_ 0 v1 (Nat.zero_le _) trivial
    · intro r v1 hr _ ih
      have ir : vp_in (((12 : Int32) * nI r) + nI a) 252 := by rw [zi12']; exact vp_in_nI (by omega) (by decide)
      refine b_Mo_differ_21 E v1 (nI a) (nI r) σ ⟨vp_in_nI (by omega) (by decide), fun q => ?_, fun _ => ⟨ir, ir, fun _ => ?_, fun _ => ?_⟩⟩
      · rw [nI_1]; exact iha _ trivial
      · rw [nI_1]; exact ih _ trivial
      · rw [nI_1]; exact ih _ trivial
    · intro v1 _
      refine b_Mo_differ_21 E v1 (nI a) (nI (rdP (psS σ) a + 1)) σ ⟨vp_in_nI (by omega) (by decide), fun q => ?_, fun q => absurd ?_ q⟩
      · rw [nI_1]; exact iha _ trivial
      · rw [ca, hra]
        exact i32_lt.mpr (by rw [nI_toInt (by omega), nI_toInt (by omega)]; omega)
  · intro v1 _
    exact b_Mo_differ_4 E v1 (nI n) σ ⟨fun _ => out v1, fun q => absurd (by rw [hn]; exact nI_le (Nat.le_refl n) (by omega)) q⟩
theorem s_Mo_letter (G : zG) (σ : zSt) (i w : Int32) (h : MI σ) : zI G 0 M_Mo_letter [zf G 32, .int i, .int w] σ (fun _ τ => τ = σ) := by
  refine zSpec.of (by decide) (Nat.le_of_ble_eq_true rfl) rfl (fun X E => ?_)
  have bad : ∃ x : Int32, some (Value.int (-1 : Int32)) = some (Value.int x) ∧ σ = σ := ⟨_, rfl, rfl⟩
  refine b_Mo_letter_0 E i w σ ⟨fun _ => bad, fun h4 => ⟨fun _ => bad, fun h0 => ⟨fun _ => bad, fun h1 => ⟨fun _ => bad, fun h2 => ⟨fun h3 => ⟨?_, _, rfl, rfl⟩, fun _ => bad⟩⟩⟩⟩⟩
  obtain ⟨n, R, W, l, hM, hG⟩ := h.run h4
  have hl := hM.2.2.1.2.1
  rw [hM.2.2.1.1] at h1
  rcases pk_ix i (n := l.length) (by omega) with q | q | ⟨j, hj, rfl⟩
  · exact absurd q h0
  · exact absurd q h1
  · obtain ⟨k, hk, rfl⟩ : ∃ k, k < 5 ∧ w = nI k := by
      rcases pk_ix w (n := 5) (by decide) with q | q | q
      · exact absurd q h2
      · exfalso
        have a1 := i32_le.mp q
        have a2 := i32_le.mp h3
        have b1 : (nI 5).toInt = 5 := by decide
        have b2 : (4 : Int32).toInt = 4 := by decide
        omega
      · exact q
    rw [show (5 : Int32) = nI 5 from rfl, pk_mul, nI_add]
    exact vp_in_nI (by omega) (by decide)
theorem s_Mo_count (G : zG) (σ : zSt) (w : Int32) (h : MI σ) : zI G 0 M_Mo_count [zf G 32, .int w] σ (fun _ τ => τ = σ) := by
  refine zSpec.of (by decide) (Nat.le_of_ble_eq_true rfl) rfl (fun X E => ?_)
  have bad : ∃ x : Int32, some (Value.int (-1 : Int32)) = some (Value.int x) ∧ σ = σ := ⟨_, rfl, rfl⟩
  have ok : ∀ v : Int32, ∃ x : Int32, some (Value.int v) = some (Value.int x) ∧ σ = σ := fun v => ⟨_, rfl, rfl⟩
  obtain ⟨n, hn, h1n, hn12, _, _⟩ := h
  have loop : zZ G M_Mo_count 0 X (fun r τ => ∃ x : Int32, r = some (.int x) ∧ τ = σ) 32 [(0, zf G 32), (1, .int w), (2, .int (99 : Int32)), (3, .int (0 : Int32)), (4, .int (0 : Int32))] [] σ := by
    refine z_for n (fun i (v : Int32 × Int32) => zZ G M_Mo_count 0 X (fun r τ => ∃ x : Int32, r = some (.int x) ∧ τ = σ) 32 [(0, zf G 32), (1, .int w), (2, .int v.1), (3, .int v.2), (4, .int (nI i))] [] σ) (fun _ _ => True) ?_ ?_ 0 (99, 0) (Nat.zero_le _) trivial
    · intro i v hi _ ih
      have ii : vp_in (nI i) 12 := vp_in_nI (by omega) (by decide)
      have nx : ∀ x y : Int32, zZ G M_Mo_count 0 X (fun r τ => ∃ x : Int32, r = some (.int x) ∧ τ = σ) 32 [(0, zf G 32), (1, .int w), (2, .int x), (3, .int y), (4, .int (nI i + 1))] [] σ := fun x y => by rw [nI_1]; exact ih (x, y) trivial
      exact b_Mo_count_32 E w v.1 v.2 (nI i) σ ⟨fun q => absurd q (by rw [hn]; exact nI_ge hi (by omega)), fun _ => ⟨ii, fun _ => ⟨ii, fun _ => nx _ _, fun _ => ⟨ii, nx _ _⟩⟩, fun _ => ⟨ii, ii, fun _ => nx _ _, fun _ => ⟨ii, nx _ _⟩⟩⟩⟩
    · intro v _
      exact b_Mo_count_32 E w v.1 v.2 (nI n) σ ⟨fun _ => ⟨fun _ => ok _, fun _ => ok _, fun _ => ok _, fun _ => ok _, fun _ => ok _, fun _ => ok _, fun _ => ok _, fun _ => ⟨fun _ => ok _, fun _ => ⟨fun _ => ok _, fun _ => ok _⟩⟩, fun _ => ok _, fun _ => ok _⟩, fun q => absurd (by rw [hn]; exact nI_le (Nat.le_refl n) (by omega)) q⟩
  exact b_Mo_count_0 E w σ ⟨fun _ => bad, fun _ => ⟨fun _ => bad, fun _ => ⟨fun _ => loop, fun _ => ⟨fun _ => loop, fun _ => bad⟩⟩⟩⟩
/-- the invariant behind begin, link, mark -/
theorem LM_begin {σ : zSt} {v : Int32} : LM (mbegin σ v) := by
  have z : (0 : Int32).toInt = 0 := by decide
  refine ⟨fun i hi => ?_, fun a ha => ?_⟩
  · have e : mbegin σ v 33 i = 0 := by unfold mbegin; rw [zfill_ne (by decide)]; simp [zfill, hi]
    rw [e, z]; omega
  · have e : mbegin σ v 34 a = 0 := by unfold mbegin; simp [zfill, ha]
    rw [e, z]; omega
theorem MI_begin {σ : zSt} {v : Int32} (h1 : ¬ v < 1) (h2 : v ≤ 12) : MI (mbegin σ v) := by
  have c1 : ¬ v.toInt < 1 := fun q => h1 (i32_lt.mpr (by rw [show (1 : Int32).toInt = 1 by decide]; exact q))
  have c2 := i32_le.mp h2
  rw [show (12 : Int32).toInt = 12 by decide] at c2
  have e : v = nI v.toInt.toNat := i32_of (by omega) (by omega)
  refine ⟨v.toInt.toNat, ?_, by omega, by omega, LM_begin, Or.inl ?_⟩
  · rw [← e]; unfold mbegin; rw [zfill_ne (by decide), zfill_ne (by decide)]; simp [zup]
  · unfold mbegin; rw [zfill_ne (by decide), zfill_ne (by decide)]; simp [zup]
theorem MI_link {σ : zSt} {n i j : Nat} {len : Int32} (h : MI σ) (hn : σ 32 0 = nI n) (hi : i < n) (hj : j < n) (h1 : ¬ len < 1) (h2 : len ≤ 9) : MI (mlink σ i j len) := by
  obtain ⟨n', hn', h1n, hn12, hLM, _⟩ := h
  have c1 : ¬ len.toInt < 1 := fun q => h1 (i32_lt.mpr (by rw [show (1 : Int32).toInt = 1 by decide]; exact q))
  have c2 := i32_le.mp h2
  rw [show (9 : Int32).toInt = 9 by decide] at c2
  refine ⟨n', ?_, h1n, hn12, ⟨fun k hk => ?_, fun a ha => ?_⟩, Or.inl ?_⟩
  · unfold mlink; simp [zup]; exact hn'
  · have e : mlink σ i j len 33 k = len ∨ mlink σ i j len 33 k = σ 33 k := by
      unfold mlink
      simp only [zup]
      by_cases a1 : k = 12 * j + i
      · left; simp [a1]
      · by_cases a2 : k = 12 * i + j
        · left; simp [a2]
        · right; simp [a1, a2]
    rcases e with e | e
    · rw [e]; omega
    · rw [e]; exact hLM.1 k hk
  · have e : mlink σ i j len 34 a = σ 34 a := by unfold mlink; simp [zup]
    rw [e]; exact hLM.2 a ha
  · unfold mlink; simp [zup]
theorem MI_mark {σ : zSt} {j : Nat} {v : Int32} (h : MI σ) (h1 : ¬ v < 0) (h2 : v ≤ 99) : MI (zup (zup σ 34 j v) 32 4 0) := by
  obtain ⟨n', hn', h1n, hn12, hLM, _⟩ := h
  have c1 : ¬ v.toInt < 0 := fun q => h1 (i32_lt.mpr (by rw [show (0 : Int32).toInt = 0 by decide]; exact q))
  have c2 := i32_le.mp h2
  rw [show (99 : Int32).toInt = 99 by decide] at c2
  refine ⟨n', ?_, h1n, hn12, ⟨fun k hk => ?_, fun a ha => ?_⟩, Or.inl ?_⟩
  · simp [zup]; exact hn'
  · have e : zup (zup σ 34 j v) 32 4 0 33 k = σ 33 k := by simp [zup]
    rw [e]; exact hLM.1 k hk
  · by_cases a1 : a = j
    · have e : zup (zup σ 34 j v) 32 4 0 34 a = v := by simp [zup, a1]
      rw [e]; omega
    · have e : zup (zup σ 34 j v) 32 4 0 34 a = σ 34 a := by simp [zup, a1]
      rw [e]; exact hLM.2 a ha
  · simp [zup]
end
