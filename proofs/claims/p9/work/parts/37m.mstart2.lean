-- start, come, flow, inStep of the reference: what p10 needs (written by mk10.py)
theorem MR_go3 {σ τ : zSt} {n R W : Nat} {l : List Lt} (h : MR τ n R W l) (hg : MG τ n W) (hF : MF FHan [27, 29, 30] σ τ) : MI τ ∧ MF FHan [27, 29, 30] σ τ := ⟨⟨n, h.1.1, h.1.2.1, h.1.2.2.1, h.1.2.2.2.2.2.2.2.2.2, Or.inr ⟨R, W, l, h, hg⟩⟩, hF⟩
theorem s_Mo_come3 (G : zG) (σ : zSt) (v : Int32) (h : MI σ) : zI G 5 M_Mo_come [zf G 32, .int v] σ (fun _ τ => MI τ ∧ MF FHan [27, 29, 30] σ τ) := by
  refine zSpec.of (by decide) (Nat.le_of_ble_eq_true rfl) rfl (fun X E => ?_)
  have bad : ∃ x : Int32, some (Value.int (-1 : Int32)) = some (Value.int x) ∧ MI σ ∧ MF FHan [27, 29, 30] σ σ := ⟨_, rfl, h, MF.rf⟩
  refine b_Mo_come_0 E v σ ⟨fun _ => bad, fun h4 => ⟨fun _ => bad, fun h0 => ⟨fun hlt => ?_, fun _ => bad⟩⟩⟩
  obtain ⟨n, R, W, l, hM, hG⟩ := h.run h4
  have hl := hM.2.2.1.2.1
  rw [hM.2.2.1.1] at hlt
  rcases pk_ix v (n := l.length) (by omega) with q | q | ⟨j, hj, rfl⟩
  · exact absurd q h0
  · exact absurd hlt (Int32.not_lt.mpr q)
  · exact ⟨_, s_Mo_handle G σ n R W j l hM hG hj, fun x σ1 ⟨k1, k2, l', k3⟩ => ⟨_, rfl, MR_go3 k3 k2 k1⟩⟩
theorem s_Mo_flow3 (G : zG) (σ : zSt) (m s : Int32) (h : MI σ) : zI G 5 M_Mo_flow [zf G 32, .int m, .int s] σ (fun _ τ => MI τ ∧ MF FHan [27, 29, 30] σ τ) := by
  refine zSpec.of (by decide) (Nat.le_of_ble_eq_true rfl) rfl (fun X E => ?_)
  have bad : ∃ x : Int32, some (Value.int (-1 : Int32)) = some (Value.int x) ∧ MI σ ∧ MF FHan [27, 29, 30] σ σ := ⟨_, rfl, h, MF.rf⟩
  refine b_Mo_flow_0 E m s σ ⟨fun _ => bad, fun h4 => ⟨fun _ => bad, fun hm => ⟨fun _ => bad, fun hm2 => ⟨fun hs => ?_, fun _ => bad⟩⟩⟩⟩
  obtain ⟨n, R, W, l, hM, hG⟩ := h.run h4
  obtain ⟨k, hk, rfl⟩ := nI_of2 (M := 3000) (n := 3000) (by decide) hm (Int32.not_lt.mp hm2)
  obtain ⟨s0, hs0, rfl⟩ := nI_of (Int32.not_lt.mpr hs)
  rw [nI_l hs0]
  refine z_for k (fun i (q : Nat × zSt) => zZ G M_Mo_flow 5 X (fun r τ => ∃ x : Int32, r = some (.int x) ∧ MI τ ∧ MF FHan [27, 29, 30] σ τ) 30 [(0, zf G 32), (1, .int (nI k)), (3, .long (lN q.1)), (5, .int (nI i))] [] q.2) (fun _ q => q.1 < 2 ^ 31 ∧ (∃ l, MR q.2 n R W l) ∧ MG q.2 n W ∧ MF FHan [27, 29, 30] σ q.2) ?_ ?_ 0 (s0, σ) (Nat.zero_le _) ⟨hs0, ⟨l, hM⟩, hG, MF.rf⟩
  · intro i ⟨z, τ⟩ hi ⟨hz, ⟨l, hM⟩, hG, hF⟩ ih
    dsimp only at hz hM hG hF ih ⊢
    have en : ∀ x : Int32, ∃ y : Int32, some (Value.int x) = some (Value.int y) ∧ MI τ ∧ MF FHan [27, 29, 30] σ τ := fun x => ⟨x, rfl, MR_go3 hM hG hF⟩
    refine b_Mo_flow_30 E (nI k) (lN z) (nI i) τ ⟨fun _ => en _, fun _ => ?_⟩
    have hl := hM.2.2.1.2.1
    rw [hM.2.2.1.1, nI_l (by omega)]
    refine ⟨fun _ => en _, fun hp => ?_⟩
    have hpos : 0 < l.length := by
      rcases Nat.eq_zero_or_pos l.length with e | e
      · rw [e] at hp; exact absurd (by decide) hp
      · exact e
    refine ⟨fun e => ?_, ?_⟩
    · have := (lN_eq (a := l.length) (b := 0) (by omega) (by decide)).mp e
      omega
    · have hrem : (lN z - lN z / lN l.length * lN l.length).toInt32 = nI (z % l.length) := by
        rw [pk_lRem (by omega) hpos (by omega), lN_i]
      rw [hrem]
      refine ⟨_, s_Mo_handle G τ n R W (z % l.length) l hM hG (Nat.mod_lt _ hpos), fun x σ1 ⟨k1, k2, l', k3⟩ => ?_⟩
      rw [nI_1]
      have hnext : (((69069 : Int64) * lN z) + (1 : Int64)) - (((69069 : Int64) * lN z) + (1 : Int64)) / (2147483648 : Int64) * (2147483648 : Int64) = lN ((69069 * z + 1) % 2147483648) := by
        rw [show (69069 : Int64) = lN 69069 from rfl, show (1 : Int64) = lN 1 from rfl, show (2147483648 : Int64) = lN 2147483648 from rfl, lN_mul, lN_add, pk_lRem (by omega) (by decide) (by decide)]
      rw [hnext]
      exact ih ((69069 * z + 1) % 2147483648, σ1) ⟨Nat.mod_lt _ (by decide), ⟨l', k3⟩, k2, hF.tr k1⟩
  · intro ⟨z, τ⟩ ⟨_, ⟨l, hM⟩, hG, hF⟩
    exact b_Mo_flow_30 E (nI k) (lN z) (nI k) τ ⟨fun _ => ⟨_, rfl, MR_go3 hM hG hF⟩, fun q => absurd (nI_le (Nat.le_refl k) (by omega)) q⟩
theorem s_Mo_noPlace2 (G : zG) (σ : zSt) (a r : Int32) (h : MI σ) : zB G 1 M_Mo_noPlace [zf G 32, .int a, .int r] σ (fun b τ => τ = σ ∧ ((b = true ∧ (σ 32 4 = 0 ∨ zNo σ a = true ∨ r < 0 ∨ ¬ r ≤ σ 32 8)) ∨ (b = false ∧ ¬ (σ 32 4 = 0 ∨ zNo σ a = true ∨ r < 0 ∨ ¬ r ≤ σ 32 8) ∧ ∃ j k, j < 12 ∧ k ≤ 20 ∧ a = nI j ∧ r = nI k))) := by
  refine zSpec.of (by decide) (Nat.le_of_ble_eq_true rfl) rfl (fun X E => ?_)
  refine b_Mo_noPlace_0 E a r σ ⟨fun q => ⟨true, rfl, rfl, Or.inl ⟨rfl, Or.inl q⟩⟩, fun h4 => ⟨fun q => ⟨true, rfl, rfl, Or.inl ⟨rfl, Or.inr (Or.inl q)⟩⟩, fun hno => ⟨fun q => ⟨true, rfl, rfl, Or.inl ⟨rfl, Or.inr (Or.inr (Or.inl q))⟩⟩, fun h0 => ⟨fun hle => ⟨false, rfl, rfl, Or.inr ⟨rfl, ?_, ?_⟩⟩, fun q => ⟨true, rfl, rfl, Or.inl ⟨rfl, Or.inr (Or.inr (Or.inr q))⟩⟩⟩⟩⟩⟩
  · rintro (q | q | q | q)
    · exact h4 q
    · rw [hno] at q; exact absurd q (by decide)
    · exact h0 q
    · exact q hle
  obtain ⟨n, R, W, l, hM, hG⟩ := h.run h4
  obtain ⟨j, hj, rfl⟩ := zNo_of hno hM.1.1 hM.1.2.2.1
  have hR := hM.1.2.2.2.2.2.1
  have hn := hM.1.2.2.1
  rw [hM.1.2.2.2.1] at hle
  rcases pk_ix r (n := R + 1) (by omega) with q | q | ⟨k, hk, rfl⟩
  · exact absurd q h0
  · exfalso
    have a1 := i32_le.mp q
    have a2 := i32_le.mp hle
    rw [nI_toInt (by omega)] at a1 a2
    omega
  · exact ⟨j, k, by omega, by omega, rfl, rfl⟩
theorem s_Mo_inStep2 (G : zG) (σ : zSt) (a r : Int32) (h : MI σ) : zI G 2 M_Mo_inStep [zf G 32, .int a, .int r] σ (fun x τ => τ = σ ∧ ((x = -1 ∧ (σ 32 4 = 0 ∨ zNo σ a = true ∨ r < 0 ∨ ¬ r ≤ σ 32 8)) ∨ (¬ (σ 32 4 = 0 ∨ zNo σ a = true ∨ r < 0 ∨ ¬ r ≤ σ 32 8) ∧ ∃ i j, i < 12 ∧ j ≤ 20 ∧ a = nI i ∧ r = nI j ∧ x = σ 50 (12 * j + i)))) := by
  refine zSpec.of (by decide) (Nat.le_of_ble_eq_true rfl) rfl (fun X E => ?_)
  refine b_Mo_inStep_0 E a r σ ⟨_, s_Mo_noPlace2 G σ a r h, ?_⟩
  rintro b τ ⟨eτ, hb⟩
  rw [eτ]
  rcases hb with ⟨hb, q⟩ | ⟨hb, q, j, k, hj, hk, ea, er⟩
  · refine ⟨fun e => ?_, fun _ => ⟨_, rfl, rfl, Or.inl ⟨rfl, q⟩⟩⟩
    rw [hb] at e; exact absurd e (by decide)
  · refine ⟨fun _ => ?_, fun e => ?_⟩
    · rw [ea, er] at q ⊢
      rw [zi12']
      exact ⟨vp_in_nI (by omega) (by decide), _, rfl, rfl, Or.inr ⟨q, j, k, hj, hk, rfl, rfl, by rw [nI_clamp (by omega)]⟩⟩
    · rw [hb] at e; exact absurd e (by decide)
def MSP (σ : zSt) (n : Nat) (mk : Nat → Int32) (len : Nat → Nat → Int32) (lk : Nat → Nat → Bool) (C : Prop) (p w s k r x : Int32) (τ : zSt) : Prop :=
  (x = -1 ∧ τ = σ ∧ (SB0 (zNo σ s) p w k r ∨ ¬ C)) ∨ (¬ SB0 (zNo σ s) p w k r ∧ C ∧ (MI τ ∧ MF FMo JMo σ τ) ∧ τ 32 4 = 1 ∧ ∃ pp R, p = nI pp ∧ pp ≤ 3 ∧ r = nI R ∧ R ≤ 20 ∧ τ 32 8 = nI R ∧ ∀ q b, q ≤ R → b < n → τ 50 (12 * q + b) = (sV pp s n mk len lk q b).1)
set_option maxHeartbeats 1000000 in
theorem s_Mo_start2 (G : zG) (σ : zSt) (n : Nat) (v1 v2 v3 v4 v5 : Int32) (mk : Nat → Int32) (len : Nat → Nat → Int32) (lk : Nat → Nat → Bool) (C : Prop) (h : MI σ) (hn : σ 32 0 = nI n) (h1n : 1 ≤ n) (hn12 : n ≤ 12) (hmk : ∀ a, a < 12 → σ 34 a = mk a) (hlen : ∀ a b, a < 12 → b < 12 → σ 33 (12 * b + a) = len a b) (hlk : ∀ a b, a < 12 → b < 12 → zLk σ (nI a) (nI b) = lk a b) (hC : ∀ x, SPR n lk x → (x = zAll (nI n) ↔ C)) : zI G 4 M_Mo_start [zf G 32, .int v1, .int v2, .int v3, .int v4, .int v5] σ (fun x τ => MSP σ n mk len lk C v1 v2 v3 v4 v5 x τ) := by
  refine zSpec.of (by decide) (Nat.le_of_ble_eq_true rfl) rfl (fun X E => ?_)
  have hLM : LM σ := by
    obtain ⟨_, _, _, _, hLM, _⟩ := h
    exact hLM
  have bad : SB0 (zNo σ v3) v1 v2 v4 v5 ∨ ¬ C → ∃ x : Int32, some (Value.int (-1 : Int32)) = some (Value.int x) ∧ MSP σ n mk len lk C v1 v2 v3 v4 v5 x σ := fun hb => ⟨_, rfl, Or.inl ⟨rfl, rfl, hb⟩⟩
  -- the rounds begin
  have go : ∀ (υ : zSt) (R W pp : Nat), (¬ SB0 (zNo σ v3) v1 v2 v4 v5 ∧ C ∧ v1 = nI pp ∧ pp ≤ 3 ∧ v5 = nI R) → υ 32 4 = 1 → (∀ q b, q ≤ R → b < n → υ 50 (12 * q + b) = (sV pp v3 n mk len lk q b).1) → 1 ≤ R → MS υ n R W → MF FMo JMo σ υ → (∀ a, a < n → υ 35 a = 0) → (∀ a, a < n → -2 ≤ (υ 47 a).toInt ∧ (υ 47 a).toInt ≤ 99) → (∀ j, j < 12672 → υ 45 j = 0) → υ 32 27 = 0 → (W = 0 → ∀ c, c < n → upS υ c = none) → zZ G M_Mo_start 4 X (fun r τ => ∃ x : Int32, r = some (.int x) ∧ MSP σ n mk len lk C v1 v2 v3 v4 v5 x τ) 302 [(0, zf G 32), (8, .int (0 : Int32))] [] υ := by
    intro υ R W pp hy h4 h50 hR1 hS hF h35 h47 h45 h27 hW0
    have hR20 : R ≤ 20 := hS.2.2.2.2.2.1
    have P0 := PI_0 (R := R) (W := W) hS.2.2.2.2.2.2.2.2.1 hn12 h35 h45
    have r0 : ∀ a, a < n → rdP (psS υ) a = 0 := fun a ha => by
      show (υ 35 a).toNatClampNeg = 0
      rw [h35 a ha]; decide
    have M0 : MR υ n R W [] := by
      refine ⟨hS, ⟨fun a ha => by rw [r0 a ha, h35 a ha]; rfl, fun a b q ha hb hq hne => ?_⟩, ⟨by rw [h27]; rfl, Nat.zero_le _, fun i hi => absurd hi (Nat.not_lt_zero i)⟩, P0⟩
      exact absurd (h45 _ (pl_lt (by omega) (by omega) (by omega) hq)) hne
    refine z_for n (fun i τ => zZ G M_Mo_start 4 X (fun r τ => ∃ x : Int32, r = some (.int x) ∧ MSP σ n mk len lk C v1 v2 v3 v4 v5 x τ) 302 [(0, zf G 32), (8, .int (nI i))] [] τ) (fun i τ => (MF FMo JMo σ τ ∧ τ 50 = υ 50 ∧ τ 32 4 = υ 32 4) ∧ (∃ l, MR τ n R W l) ∧ (∀ a, a < i → 1 ≤ rdP (psS τ) a) ∧ (∀ a, i ≤ a → a < n → rdP (psS τ) a = 0 ∧ -2 ≤ (τ 47 a).toInt ∧ (τ 47 a).toInt ≤ 99) ∧ (W = 0 → ∀ c, c < n → upS τ c = none)) ?_ ?_ 0 υ (Nat.zero_le _) ⟨⟨hF, rfl, rfl⟩, ⟨[], M0⟩, fun a ha => absurd ha (Nat.not_lt_zero a), fun a _ ha => ⟨r0 a ha, h47 a ha⟩, hW0⟩
    · intro a τ ha ⟨⟨g1, g50, g324⟩, ⟨l, g2⟩, g3, g4, g5⟩ ih
      have nτ : τ 32 0 = nI n := g2.1.1
      obtain ⟨hS', hN', hL', hP'⟩ := g2
      have ra := (g4 a (Nat.le_refl _) ha).1
      have hB : BC τ n R W a l := by
        refine ⟨by omega, fun e => by omega, fun e => by omega, fun u _ => Or.inr ra, gos_0 (fun x hx e1 e2 => ?_), frs_0 (fun x hx e1 e2 => ?_), fun _ => (g4 a (Nat.le_refl _) ha).2⟩
        · obtain ⟨c, u, q1, q2, q3, q4, q5, q6, q7, _⟩ := (hP'.2.1 x hx).2.2.2.1 e1
          have ec : c = a := (nI_eq (by omega) (by omega)).mp (q3.symm.trans e2)
          rw [ec, ra] at q7; omega
        · obtain ⟨_, c, u, q1, q2, q3, q4, q5, _⟩ := (hP'.2.1 x hx).2.2.2.2 e1
          have ec : c = a := (nI_eq (by omega) (by omega)).mp (q3.symm.trans e2)
          rw [ec, ra] at q5; omega
      refine b_Mo_start_302 E (nI a) τ ⟨fun q => absurd q (by rw [nτ]; exact nI_ge ha (by omega)), fun _ => ⟨_, s_Mo_beginRound G τ n R W a 1 l hS' hN' hL' (Or.inl hP') ha hB (by omega), fun σ1 ⟨k1, k2, ⟨mm, k3⟩, l1, k4⟩ => ?_⟩⟩
      have eup : upS σ1 = upS τ := upS_eq (k1.at (by decide))
      have r1 : rdP (psS σ1) a = 1 := by
        rw [k3]
        show fup (rdP (psS τ)) a (rdP (psS τ) a + 1) a = 1
        rw [fup_s, ra]
      refine ⟨_, s_Mo_goOn G σ1 n R W a l1 k4 ha (by omega) (by rw [eup]; exact g5), fun σ2 ⟨m1, l2, m2⟩ => ?_⟩
      rw [nI_1]
      have rn : ∀ b, b ≠ a → rdP (psS σ2) b = rdP (psS τ) b := fun b hb => by
        rw [m1.2.2.1 b hb, k3]
        exact fup_n hb
      refine ih σ2 ⟨⟨g1.tr ((k1.mono (by decide) (by decide)).tr (m1.1.mono (by decide) (by decide))), by rw [m1.1.at (c := 50) (by decide), k1.at (c := 50) (by decide)]; exact g50, by rw [m1.1.2 4 (by decide), k1.2 4 (by decide)]; exact g324⟩, ⟨l2, m2⟩, fun b hb => ?_, fun b hb hbn => ?_, ?_⟩
      · by_cases hba : b = a
        · rw [hba]; exact m1.2.2.2
        · rw [rn b hba]; exact g3 b (by omega)
      · rw [rn b (by omega), m1.2.1 b (by omega), k2 b (by omega)]
        exact g4 b (by omega) hbn
      · rw [upS_eq (m1.1.at (c := 41) (by decide)), eup]; exact g5
    · intro τ ⟨⟨g1, g50, g324⟩, ⟨l, g2⟩, g3, g4, g5⟩
      have nτ : τ 32 0 = nI n := g2.1.1
      exact b_Mo_start_302 E (nI n) τ ⟨fun _ => ⟨_, rfl, Or.inr ⟨hy.1, hy.2.1, ⟨⟨n, nτ, h1n, hn12, g2.1.2.2.2.2.2.2.2.2.2, Or.inr ⟨R, W, l, g2, g3, g5⟩⟩, g1⟩, g324.trans h4, pp, R, hy.2.2.1, hy.2.2.2.1, hy.2.2.2.2, hR20, g2.1.2.2.2.1, fun q b hq hb => by rw [g50]; exact h50 q b hq hb⟩⟩, fun q => absurd (by rw [nτ]; exact nI_le (Nat.le_refl n) (by omega)) q⟩
  -- the nodes are set
  have set : ∀ (υ : zSt) (v7 : Int32) (R W pp : Nat), (¬ SB0 (zNo σ v3) v1 v2 v4 v5 ∧ C ∧ v1 = nI pp ∧ pp ≤ 3 ∧ v5 = nI R) → υ 32 4 = 1 → υ 32 5 = nI pp → υ 32 7 = v3 → 1 ≤ R → R ≤ 20 → W ≤ 2 → υ 32 8 = nI R → υ 32 6 = nI W → υ 32 0 = nI n → MF FMo JMo σ υ → (∀ j, j < 12672 → υ 45 j = 0) → υ 32 27 = 0 → zZ G M_Mo_start 4 X (fun r τ => ∃ x : Int32, r = some (.int x) ∧ MSP σ n mk len lk C v1 v2 v3 v4 v5 x τ) 197 [(0, zf G 32), (4, .int v4), (7, .int v7), (8, .int (0 : Int32))] [] υ := by
    intro υ v7 R W pp hy h4 h5 h7 hR1 hR20 hW2 h8 h6 h0 hF h45 h27
    refine z_for n (fun i τ => zZ G M_Mo_start 4 X (fun r τ => ∃ x : Int32, r = some (.int x) ∧ MSP σ n mk len lk C v1 v2 v3 v4 v5 x τ) 197 [(0, zf G 32), (4, .int v4), (7, .int v7), (8, .int (nI i))] [] τ) (fun i τ => zFr [35, 41, 42, 47, 48, 49] υ τ ∧ ∀ a, a < i → τ 41 a = -2 ∧ τ 35 a = 0 ∧ -2 ≤ (τ 47 a).toInt ∧ (τ 47 a).toInt ≤ 99) ?_ ?_ 0 υ (Nat.zero_le _) ⟨zFr.rf, fun a ha => absurd ha (Nat.not_lt_zero a)⟩
    · intro a τ ha ⟨g1, g2⟩ ih
      have nτ : τ 32 0 = nI n := by rw [g1 32 (by decide)]; exact h0
      have ia : vp_in (nI a) 12 := vp_in_nI (by omega) (by decide)
      have ca : (nI a).toNatClampNeg = a := nI_clamp (by omega)
      refine b_Mo_start_197 E v4 v7 (nI a) τ ⟨fun q => absurd q (by rw [nτ]; exact nI_ge ha (by omega)), fun _ => ⟨ia, fun σ6 e6 => ⟨ia, fun σ7 e7 => ?_⟩⟩⟩
      have h7 : zFr [35, 41, 42, 47, 48, 49] υ σ7 := by rw [e7, e6]; exact (g1.up (by decide)).up (by decide)
      have lm7 : LM σ7 := hLM.of (by rw [h7 33 (by decide)]; exact hF.at (by decide)) (by rw [h7 34 (by decide)]; exact hF.at (by decide))
      refine ⟨_, s_Mo_first G σ7 a a (by omega) (by omega) lm7, fun σ8 ⟨k1, k2, k3⟩ => ⟨vp_in_nI (by omega) (by decide), vp_in_nI (by omega) (by decide), fun σ9 e9 => ⟨ia, fun σ10 e10 => ?_⟩⟩⟩
      rw [nI_1]
      rw [ca] at e6 e7 e9 e10
      refine ih σ10 ⟨by rw [e10, e9]; exact ((h7.tr (k1.mono (by decide))).up (by decide)).up (by decide), fun b hb => ?_⟩
      have x41 : σ10 41 = upd (τ 41) a (-2) := by rw [e10, zup_ne (by decide), e9, zup_ne (by decide), k1 41 (by decide), e7, zup_ne (by decide), e6, zup_self]
      have x35 : σ10 35 = upd (τ 35) a 0 := by rw [e10, zup_self, e9, zup_ne (by decide), k1 35 (by decide), e7, zup_ne (by decide), e6, zup_ne (by decide)]
      have x47 : σ10 47 = σ8 47 := by rw [e10, zup_ne (by decide), e9, zup_ne (by decide)]
      rw [x41, x35, x47]
      unfold upd
      by_cases hba : b = a
      · rw [if_pos hba, if_pos hba, hba]; exact ⟨rfl, rfl, k2⟩
      · rw [if_neg hba, if_neg hba, k3 b hba, e7, zup_ne (by decide), e6, zup_ne (by decide)]
        exact g2 b (by omega)
    · intro τ ⟨g1, g2⟩
      have nτ : τ 32 0 = nI n := by rw [g1 32 (by decide)]; exact h0
      have wτ : τ 32 6 = nI W := by rw [g1 32 (by decide)]; exact h6
      have U0 : UO τ n := fun a ha => Or.inl (g2 a ha).1
      -- behind the trees
      have last : ∀ ρ : zSt, MF [41, 42, 43, 44] [19, 20] τ ρ → UO ρ n → (W = 0 → ρ 41 = τ 41) → ∃ P : zSt → Prop, zV G 2 M_Mo_step [zf G 32] ρ P ∧ ∀ σ1 : zSt, P σ1 → zZ G M_Mo_start 4 X (fun r τ => ∃ x : Int32, r = some (.int x) ∧ MSP σ n mk len lk C v1 v2 v3 v4 v5 x τ) 302 [(0, zf G 32), (8, .int (0 : Int32))] [] σ1 := by
        intro ρ k1 k2 k3
        have n0 : ρ 32 0 = nI n := by rw [k1.2 0 (by decide)]; exact nτ
        have n8 : ρ 32 8 = nI R := by rw [k1.2 8 (by decide), g1 32 (by decide)]; exact h8
        have n6 : ρ 32 6 = nI W := by rw [k1.2 6 (by decide)]; exact wτ
        have fρ : MF FMo JMo σ ρ := (hF.tr ((MF.of (J := JMo) g1 (by decide)).mono (by decide) (fun _ h => h))).tr (k1.mono (by decide) (by decide))
        have lm : LM ρ := hLM.of (fρ.at (by decide)) (fρ.at (by decide))
        have n5 : ρ 32 5 = nI pp := by rw [k1.2 5 (by decide), g1 32 (by decide)]; exact h5
        have n7 : ρ 32 7 = v3 := by rw [k1.2 7 (by decide), g1 32 (by decide)]; exact h7
        have n4 : ρ 32 4 = 1 := by rw [k1.2 4 (by decide), g1 32 (by decide)]; exact h4
        refine ⟨_, s_Mo_step2 G ρ n R pp mk len lk n0 hn12 n8 hR20 n5 hy.2.2.2.1 lm (fun a ha => by rw [fρ.at (by decide)]; exact hmk a ha) (fun a b ha hb => by rw [fρ.at (by decide)]; exact hlen a b ha hb) (fun a b ha hb => by rw [← hlk a b ha hb]; unfold zLk; rw [fρ.at (c := 33) (by decide)]), fun σ1 ⟨⟨m1, m2⟩, m50⟩ => ?_⟩
        rw [n7] at m50
        have up1 : upS σ1 = upS ρ := upS_eq (m1 41 (by decide))
        refine go σ1 R W pp hy (by rw [m1 32 (by decide)]; exact n4) m50 hR1 ⟨by rw [m1 32 (by decide)]; exact n0, h1n, hn12, by rw [m1 32 (by decide)]; exact n8, hR1, hR20, by rw [m1 32 (by decide)]; exact n6, hW2, fun a ha => by rw [m1 41 (by decide)]; exact k2 a ha, lm.of (m1 33 (by decide)) (m1 34 (by decide))⟩ (fρ.tr ((MF.of (J := JMo) m1 (by decide)).mono (by decide) (fun _ h => h))) (fun a ha => ?_) (fun a ha => ?_) (fun j hj => ?_) ?_ (fun e c hc => ?_)
        · rw [m1 35 (by decide), k1.at (by decide)]; exact (g2 a ha).2.1
        · rw [(m2 a (by omega)).1, k1.at (by decide)]; exact (g2 a ha).2.2
        · rw [m1 45 (by decide), k1.at (by decide), g1 45 (by decide)]; exact h45 j hj
        · rw [m1 32 (by decide), k1.2 27 (by decide), g1 32 (by decide)]; exact h27
        · rw [up1]
          unfold upS
          rw [k3 e, if_pos (g2 c hc).1]
      refine b_Mo_start_197 E v4 v7 (nI n) τ ⟨fun _ => ⟨fun hw1 => ⟨fun hw2 => last τ MF.rf U0 (fun _ => rfl), fun hw2 => ⟨_, s_Mo_makeClusters G τ n v4 nτ h1n hn12 U0, fun σ2 ⟨k1, k2⟩ => last σ2 k1 k2 (fun e => ?_)⟩⟩, fun hw1 => ⟨_, s_Mo_tree G τ n (τ 32 7) v7 nτ hn12 U0, fun σ4 ⟨k1, k2⟩ => last σ4 ((MF.of (J := [19, 20]) k1 (by decide)).mono (by decide) (fun _ h => h)) k2 (fun e => ?_)⟩⟩, fun q => absurd (by rw [nτ]; exact nI_le (Nat.le_refl n) (by omega)) q⟩
      · rw [wτ, e] at hw2; exact absurd hw2 (by decide)
      · rw [wτ, e] at hw1; exact absurd hw1 (by decide)
  -- what was, is wiped
  have wipe : ∀ (υ : zSt) (v7 : Int32) (R W pp : Nat), (¬ SB0 (zNo σ v3) v1 v2 v4 v5 ∧ C ∧ v1 = nI pp ∧ pp ≤ 3 ∧ v5 = nI R) → υ 32 4 = 1 → υ 32 5 = nI pp → υ 32 7 = v3 → 1 ≤ R → R ≤ 20 → W ≤ 2 → υ 32 8 = nI R → υ 32 6 = nI W → υ 32 0 = nI n → MF FMo JMo σ υ → υ 32 27 = 0 → zZ G M_Mo_start 4 X (fun r τ => ∃ x : Int32, r = some (.int x) ∧ MSP σ n mk len lk C v1 v2 v3 v4 v5 x τ) 147 [(0, zf G 32), (4, .int v4), (7, .int v7), (8, .int (0 : Int32))] [] υ := by
    intro υ v7 R W pp hy h4 h5 h7 hR1 hR20 hW2 h8 h6 h0 hF h27
    have two : ∀ ρ : zSt, ρ = zfill υ 45 12672 0 → zZ G M_Mo_start 4 X (fun r τ => ∃ x : Int32, r = some (.int x) ∧ MSP σ n mk len lk C v1 v2 v3 v4 v5 x τ) 172 [(0, zf G 32), (4, .int v4), (7, .int v7), (8, .int (0 : Int32))] [] ρ := by
      intro ρ hρ
      refine z_for 144 (fun i τ => zZ G M_Mo_start 4 X (fun r τ => ∃ x : Int32, r = some (.int x) ∧ MSP σ n mk len lk C v1 v2 v3 v4 v5 x τ) 172 [(0, zf G 32), (4, .int v4), (7, .int v7), (8, .int (nI i))] [] τ) (fun i τ => τ = zfill ρ 44 i 0) ?_ ?_ 0 ρ (Nat.zero_le _) (zfill_0 ρ 44 0).symm
      · intro i τ hi hI ih
        refine b_Mo_start_172 E v4 v7 (nI i) τ ⟨fun q => absurd q (nI_ge hi (by decide)), fun _ => ⟨vp_in_nI hi (by decide), fun σ1 e1 => ?_⟩⟩
        rw [nI_1]
        refine ih σ1 ?_
        rw [e1, hI, nI_clamp (by omega), zfill_s]
      · intro τ hI
        refine b_Mo_start_172 E v4 v7 (nI 144) τ ⟨fun _ => ?_, fun q => absurd (by decide) q⟩
        have t32 : τ 32 = υ 32 := by rw [hI, zfill_ne (by decide), hρ, zfill_ne (by decide)]
        have fr : zFr [44, 45] υ τ := by rw [hI, hρ]; exact (zFr.rf.fill (by decide)).fill (by decide)
        refine set τ v7 R W pp hy (by rw [t32]; exact h4) (by rw [t32]; exact h5) (by rw [t32]; exact h7) hR1 hR20 hW2 (by rw [t32]; exact h8) (by rw [t32]; exact h6) (by rw [t32]; exact h0) (hF.tr ((MF.of (J := JMo) fr (by decide)).mono (by decide) (fun _ h => h))) (fun j hj => ?_) (by rw [t32]; exact h27)
        rw [hI, zfill_ne (by decide), hρ]
        simp [zfill, hj]
    refine z_for 12672 (fun i τ => zZ G M_Mo_start 4 X (fun r τ => ∃ x : Int32, r = some (.int x) ∧ MSP σ n mk len lk C v1 v2 v3 v4 v5 x τ) 147 [(0, zf G 32), (4, .int v4), (7, .int v7), (8, .int (nI i))] [] τ) (fun i τ => τ = zfill υ 45 i 0) ?_ ?_ 0 υ (Nat.zero_le _) (zfill_0 υ 45 0).symm
    · intro i τ hi hI ih
      refine b_Mo_start_147 E v4 v7 (nI i) τ ⟨fun q => absurd q (nI_ge hi (by decide)), fun _ => ⟨vp_in_nI hi (by decide), fun σ1 e1 => ?_⟩⟩
      rw [nI_1]
      refine ih σ1 ?_
      rw [e1, hI, nI_clamp (by omega), zfill_s]
    · intro τ hI
      exact b_Mo_start_147 E v4 v7 (nI 12672) τ ⟨fun _ => two τ hI, fun q => absurd (by decide) q⟩
  -- the answers
  have all_ : ((1 : Int32) <<< ((σ 32 0) &&& 31)) - (1 : Int32) = zAll (nI n) := by rw [hn]; rfl
  have s0 : ¬ SB0 (zNo σ v3) v1 v2 v4 v5 → ¬ v1 < 0 → ¬ (3 : Int32) < v1 → ¬ v2 < 0 → ¬ (2 : Int32) < v2 → ¬ v5 < 1 → v5 ≤ 20 → zZ G M_Mo_start 4 X (fun r τ => ∃ x : Int32, r = some (.int x) ∧ MSP σ n mk len lk C v1 v2 v3 v4 v5 x τ) 64 [(0, zf G 32), (1, .int v1), (2, .int v2), (3, .int v3), (4, .int v4), (5, .int v5), (6, .int (0 : Int32))] [] σ := by
    intro nb p0 p3 w1 w2 w3 w4
    refine b_Mo_start_64 E v1 v2 v3 v4 v5 0 σ ⟨fun q => absurd rfl q, fun _ => ?_⟩
    rw [all_]
    refine ⟨_, s_Mo_spread2 G σ n _ lk hn h1n hn12 (fun b hb => all_in hn12 hb) (fun a b ha hb => hlk a b (by omega) (by omega)), ?_⟩
    rintro x σ1 ⟨e1, hsp⟩
    refine ⟨fun hx σ3 e3 σ4 e4 σ5 e5 σ6 e6 σ7 e7 σ8 e8 σ9 e9 σ10 e10 σ11 e11 σ12 e12 => ?_, fun hx => by rw [e1]; exact bad (Or.inr (fun c => hx ((hC x hsp).mpr c)))⟩
    have hc : C := (hC x hsp).mp hx
    obtain ⟨pp, hp3, hpp⟩ := nI_of2 (M := 3) (n := 3) (by decide) p0 (Int32.not_lt.mp p3)
    obtain ⟨W, hW, hWe⟩ := nI_of2 (M := 2) (n := 2) (by decide) w1 (Int32.not_lt.mp w2)
    obtain ⟨R, hR1, hR20, hRe⟩ : ∃ R, 1 ≤ R ∧ R ≤ 20 ∧ v5 = nI R := by
      have c1 : ¬ v5.toInt < 1 := fun q => w3 (i32_lt.mpr (by rw [show (1 : Int32).toInt = 1 by decide]; exact q))
      have c2 := i32_le.mp w4
      rw [show (20 : Int32).toInt = 20 by decide] at c2
      refine ⟨v5.toInt.toNat, by omega, by omega, i32_of (by omega) (by omega)⟩
    have f12 : MF FMo JMo σ σ12 := by
      rw [e12, e11, e10, e9, e8, e7, e6, e5, e4, e3, e1]
      exact ((((((((((MF.rf.fld (by decide)).fld (by decide)).fld (by decide)).fld (by decide)).fld (by decide)).fld (by decide)).fld (by decide)).fld (by decide)).fld (by decide)).fld (by decide))
    refine wipe σ12 _ R W pp ⟨nb, hc, hpp, hp3, hRe⟩ ?_ ?_ ?_ hR1 hR20 hW ?_ ?_ (by rw [f12.2 0 (by decide)]; exact hn) f12 ?_
    · rw [e12, e11, e10, e9, e8, e7]; simp [zup]
    · rw [← hpp, e12, e11, e10, e9, e8, e7, e6, e5, e4, e3]; simp [zup]
    · rw [e12, e11, e10, e9, e8, e7, e6, e5]; simp [zup]
    · rw [← hRe, e12, e11, e10, e9, e8, e7, e6]; simp [zup]
    · rw [← hWe, e12, e11, e10, e9, e8, e7, e6, e5, e4]; simp [zup]
    · rw [e12, e11, e10, e9, e8]; simp [zup]
  have one : SB0 (zNo σ v3) v1 v2 v4 v5 → zZ G M_Mo_start 4 X (fun r τ => ∃ x : Int32, r = some (.int x) ∧ MSP σ n mk len lk C v1 v2 v3 v4 v5 x τ) 64 [(0, zf G 32), (1, .int v1), (2, .int v2), (3, .int v3), (4, .int v4), (5, .int v5), (6, .int (1 : Int32))] [] σ := fun hb => b_Mo_start_64 E v1 v2 v3 v4 v5 1 σ ⟨fun _ => bad (Or.inl hb), fun q => absurd q (by decide)⟩
  refine b_Mo_start_0 E v1 v2 v3 v4 v5 σ ⟨fun h => one (Or.inl h), fun p0 => ⟨fun h => one (Or.inr (Or.inl h)), fun p3 => ⟨fun h => one (Or.inr (Or.inr (Or.inl h))), fun w0 => ⟨fun h => one (Or.inr (Or.inr (Or.inr (Or.inl h)))), fun w2 => ⟨fun h => one (Or.inr (Or.inr (Or.inr (Or.inr (Or.inl h))))), fun hs => ?_⟩⟩⟩⟩⟩
  have nb : (v2 = 2 → ¬ (v4 < 2 ∨ 8 < v4)) → ¬ v5 < 1 → v5 ≤ 20 → ¬ SB0 (zNo σ v3) v1 v2 v4 v5 := by
    intro hk hr1 hr2 q
    rcases q with q | q | q | q | q | q | q | q
    · exact p0 q
    · exact p3 q
    · exact w0 q
    · exact w2 q
    · rw [hs] at q; exact absurd q (by decide)
    · exact hr1 q
    · exact q hr2
    · exact hk q.1 q.2
  have b6 : v5 < 1 → SB0 (zNo σ v3) v1 v2 v4 v5 := fun h => Or.inr (Or.inr (Or.inr (Or.inr (Or.inr (Or.inl h)))))
  have b7 : ¬ v5 ≤ 20 → SB0 (zNo σ v3) v1 v2 v4 v5 := fun h => Or.inr (Or.inr (Or.inr (Or.inr (Or.inr (Or.inr (Or.inl h))))))
  have b8 : (v2 = 2 ∧ (v4 < 2 ∨ 8 < v4)) → SB0 (zNo σ v3) v1 v2 v4 v5 := fun h => Or.inr (Or.inr (Or.inr (Or.inr (Or.inr (Or.inr (Or.inr h))))))
  exact ⟨fun hw => ⟨fun h => one (b6 h), fun w3 => ⟨fun w4 => s0 (nb (fun q => absurd q hw) w3 w4) p0 p3 w0 w2 w3 w4, fun h => one (b7 h)⟩⟩, fun hw => ⟨fun h => one (b8 ⟨hw, Or.inl h⟩), fun k2 => ⟨fun h => one (b8 ⟨hw, Or.inr h⟩), fun k8 => ⟨fun h => one (b6 h), fun w3 => ⟨fun w4 => s0 (nb (fun _ q => q.elim k2 k8) w3 w4) p0 p3 w0 w2 w3 w4, fun h => one (b7 h)⟩⟩⟩⟩⟩
