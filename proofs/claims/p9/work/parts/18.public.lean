-- the public methods of the class keep its invariant
theorem s_Course_leastRound (G : zG) (σ : zSt) (n : Nat) (hn : σ 2 0 = nI n) (hle : n ≤ 12) : zI G 1 M_Course_leastRound [zf G 1] σ (fun _ τ => τ = σ) := by
  refine zSpec.of (by decide) (Nat.le_of_ble_eq_true rfl) rfl (fun X E => ?_)
  refine b_Course_leastRound_0 E σ ?_
  refine z_for n (fun i (x : Int32) => zZ G M_Course_leastRound 1 X (fun r τ => ∃ x : Int32, r = some (.int x) ∧ τ = σ) 7 [(0, zf G 1), (1, .int x), (2, .int (nI i))] [] σ) (fun _ _ => True) ?_ ?_ 0 _ (Nat.zero_le _) trivial
  · intro i x hi _ ih
    exact b_Course_leastRound_7 E x (nI i) σ ⟨fun q => absurd q (by rw [hn]; exact nI_ge hi (by omega)), fun _ => ⟨vp_in_nI (by omega) (by decide), by rw [nI_1]; exact ih _ trivial⟩⟩
  · intro x _
    exact b_Course_leastRound_7 E x (nI n) σ ⟨fun _ => ⟨_, rfl, rfl⟩, fun q => absurd (by rw [hn]; exact nI_le (Nat.le_refl n) (by omega)) q⟩
theorem s_Course_greatestRound (G : zG) (σ : zSt) (n : Nat) (hn : σ 2 0 = nI n) (hle : n ≤ 12) : zI G 1 M_Course_greatestRound [zf G 1] σ (fun _ τ => τ = σ) := by
  refine zSpec.of (by decide) (Nat.le_of_ble_eq_true rfl) rfl (fun X E => ?_)
  refine b_Course_greatestRound_0 E σ ?_
  refine z_for n (fun i (x : Int32) => zZ G M_Course_greatestRound 1 X (fun r τ => ∃ x : Int32, r = some (.int x) ∧ τ = σ) 4 [(0, zf G 1), (1, .int x), (2, .int (nI i))] [] σ) (fun _ _ => True) ?_ ?_ 0 _ (Nat.zero_le _) trivial
  · intro i x hi _ ih
    exact b_Course_greatestRound_4 E x (nI i) σ ⟨fun q => absurd q (by rw [hn]; exact nI_ge hi (by omega)), fun _ => ⟨vp_in_nI (by omega) (by decide), by rw [nI_1]; exact ih _ trivial⟩⟩
  · intro x _
    exact b_Course_greatestRound_4 E x (nI n) σ ⟨fun _ => ⟨_, rfl, rfl⟩, fun q => absurd (by rw [hn]; exact nI_le (Nat.le_refl n) (by omega)) q⟩
theorem s_Course_isOver (G : zG) (σ : zSt) (n : Nat) (hn : σ 2 0 = nI n) (hle : n ≤ 12) : zB G 2 M_Course_isOver [zf G 1] σ (fun _ τ => τ = σ) := by
  refine zSpec.of (by decide) (Nat.le_of_ble_eq_true rfl) rfl (fun X E => ?_)
  refine b_Course_isOver_0 E σ ⟨fun _ => ⟨false, rfl, rfl⟩, fun _ => ⟨_, s_Course_leastRound G σ n hn hle, ?_⟩⟩
  rintro x τ rfl
  exact ⟨fun _ => ⟨false, rfl, rfl⟩, fun _ => ⟨true, rfl, rfl⟩⟩
theorem s_Course_countWrong (G : zG) (σ : zSt) (n R : Nat) (rd : Nat → Nat) (hn : σ 2 0 = nI n) (hle : n ≤ 12) (hR : R ≤ 20) (hd : ∀ a, a < 12 → σ 24 a = nI (rd a) ∧ rd a ≤ R) : zI G 1 M_Course_countWrong [zf G 1] σ (fun _ τ => τ = σ) := by
  refine zSpec.of (by decide) (Nat.le_of_ble_eq_true rfl) rfl (fun X E => ?_)
  refine b_Course_countWrong_0 E σ ?_
  refine z_for n (fun i (x : Int32) => zZ G M_Course_countWrong 1 X (fun r τ => ∃ x : Int32, r = some (.int x) ∧ τ = σ) 4 [(0, zf G 1), (1, .int x), (2, .int (nI i))] [] σ) (fun _ _ => True) ?_ ?_ 0 _ (Nat.zero_le _) trivial
  · intro i x hi _ ih
    obtain ⟨d1, d2⟩ := hd i (by omega)
    have ci : (nI i).toNatClampNeg = i := nI_clamp (by omega)
    have ii : vp_in (nI i) 12 := vp_in_nI (by omega) (by decide)
    refine b_Course_countWrong_4 E x (nI i) σ ⟨fun q => absurd q (by rw [hn]; exact nI_ge hi (by omega)), fun _ => ?_⟩
    refine z_for (rd i + 1) (fun r (x : Int32) => zZ G M_Course_countWrong 1 X (fun r τ => ∃ x : Int32, r = some (.int x) ∧ τ = σ) 17 [(0, zf G 1), (1, .int x), (2, .int (nI i)), (3, .int (nI r))] [] σ) (fun _ _ => True) ?_ ?_ 0 x (Nat.zero_le _) trivial
    · intro r x hr _ ihr
      have ir : vp_in (nI r * 12 + nI i) 252 := by rw [zi12]; exact vp_in_nI (by omega) (by decide)
      exact b_Course_countWrong_17 E x (nI i) (nI r) σ ⟨ii, fun q => absurd q (by rw [ci, d1]; exact nI_nlt (by omega) (by omega)), fun _ => ⟨ir, ir, fun _ => by rw [nI_1]; exact ihr _ trivial, fun _ => by rw [nI_1]; exact ihr _ trivial⟩⟩
    · intro x _
      exact b_Course_countWrong_17 E x (nI i) (nI (rd i + 1)) σ ⟨ii, fun _ => by rw [nI_1]; exact ih _ trivial, fun q => absurd (by rw [ci, d1]; exact nI_lt (by omega) (by omega)) q⟩
  · intro x _
    exact b_Course_countWrong_4 E x (nI n) σ ⟨fun _ => ⟨_, rfl, rfl⟩, fun q => absurd (by rw [hn]; exact nI_le (Nat.le_refl n) (by omega)) q⟩
/-- the class's invariant -/
def CI (σ : zSt) : Prop := (∃ n, σ 2 0 = nI n ∧ 1 ≤ n ∧ n ≤ 12) ∧ (¬ σ 0 1 = 0 → ∃ n R rd, CS σ n R ∧ RN σ R rd)
theorem CI.run {σ τ : zSt} {n R : Nat} {rd : Nat → Nat} (hS : CS σ n R) (hF : RF FR σ τ) (hN : RN τ R rd) : CI τ := ⟨⟨n, by rw [hF.at (by decide)]; exact hS.1, hS.2.1, hS.2.2.1⟩, fun _ => ⟨n, R, rd, hS.of hF, hN⟩⟩
theorem FR_x {σ τ : zSt} (h : RF FR σ τ) : zFr FX σ τ := h.1.mono (by decide)
theorem s_P_hasLetter (G : zG) (σ : zSt) (v : Int32) : zB G 0 M_P_hasLetter [zf G 0, .int v] σ (fun b τ => b = decide (¬ σ 0 1 = 0 ∧ ¬ v < 0 ∧ ¬ σ 5 0 ≤ v) ∧ τ = σ) := by
  refine zSpec.of (by decide) (Nat.le_of_ble_eq_true rfl) rfl (fun X E => ?_)
  exact b_P_hasLetter_0 E v σ ⟨fun h => ⟨false, rfl, by simp [h], rfl⟩, fun h => ⟨fun h1 => ⟨false, rfl, by simp [h1], rfl⟩, fun h1 => ⟨fun h2 => ⟨false, rfl, by simp [h2], rfl⟩, fun h2 => ⟨true, rfl, by simp [h, h1, h2], rfl⟩⟩⟩⟩
theorem s_P_hasRound (G : zG) (σ : zSt) (a r : Int32) : zB G 1 M_P_hasRound [zf G 0, .int a, .int r] σ (fun b τ => b = decide (¬ σ 0 1 = 0 ∧ zHas σ a = true ∧ ¬ r < 0 ∧ ¬ σ 1 5 < r) ∧ τ = σ) := by
  refine zSpec.of (by decide) (Nat.le_of_ble_eq_true rfl) rfl (fun X E => ?_)
  exact b_P_hasRound_0 E a r σ ⟨fun h => ⟨false, rfl, by simp [h], rfl⟩, fun h => ⟨fun h1 => ⟨false, rfl, by simp [h1], rfl⟩, fun h1 => ⟨fun h2 => ⟨false, rfl, by simp [h2], rfl⟩, fun h2 => ⟨fun h3 => ⟨false, rfl, by simp [h3], rfl⟩, fun h3 => ⟨true, rfl, by simp [h, h1, h2, h3], rfl⟩⟩⟩⟩⟩
theorem letter_of {σ : zSt} {v : Int32} (h : decide (¬ σ 0 1 = 0 ∧ ¬ v < 0 ∧ ¬ σ 5 0 ≤ v) = true) {l : List Lt} (hP : PV σ l) : ∃ i, i < l.length ∧ v = nI i := by
  obtain ⟨-, h1, h2⟩ := of_decide_eq_true h
  rw [hP.1] at h2
  rcases pk_ix v (n := l.length) (by have := hP.2.1; omega) with h3 | h3 | h3
  · exact absurd h3 h1
  · exact absurd h3 h2
  · exact h3
theorem s_P_come (G : zG) (σ : zSt) (v : Int32) (h : CI σ) : zI G 7 M_P_come [zf G 0, .int v] σ (fun _ τ => CI τ ∧ zFr FX σ τ) := by
  refine zSpec.of (by decide) (Nat.le_of_ble_eq_true rfl) rfl (fun X E => ?_)
  refine b_P_come_0 E v σ ⟨_, s_P_hasLetter G σ v, ?_⟩
  rintro b τ ⟨hb, rfl⟩
  refine ⟨fun _ => ⟨_, rfl, h, zFr.rf⟩, fun ht => ?_⟩
  rw [hb] at ht
  obtain ⟨n, R, rd, hS, l, hD, hG⟩ := h.2 (of_decide_eq_true ht).1
  obtain ⟨i, hi, rfl⟩ := letter_of ht hD.2.1
  exact ⟨_, s_Course_bring G _ n R i rd l hS hD hG hi, fun x τ ⟨k1, rd', k2⟩ => ⟨_, rfl, CI.run hS k1 k2, FR_x k1⟩⟩
theorem s_P_start (G : zG) (σ : zSt) (p w s k r : Int32) (h : CI σ) : zI G 7 M_P_start [zf G 0, .int p, .int w, .int s, .int k, .int r] σ (fun _ τ => CI τ ∧ zFr FX σ τ) := by
  refine zSpec.of (by decide) (Nat.le_of_ble_eq_true rfl) rfl (fun X E => ?_)
  obtain ⟨n, hn, h1, hle⟩ := h.1
  have bad : ∃ x : Int32, some (Value.int (-1 : Int32)) = some (Value.int x) ∧ CI σ ∧ zFr FX σ σ := ⟨_, rfl, h, zFr.rf⟩
  have go : zHas σ s = true → ¬ r < 1 → r ≤ 20 → zZ G M_P_start 7 X (fun r τ => ∃ x : Int32, r = some (.int x) ∧ CI τ ∧ zFr FX σ τ) 69 [(0, zf G 0), (1, .int p), (2, .int w), (3, .int s), (4, .int k), (5, .int r)] [] σ := by
    intro hs hr1 hr2
    obtain ⟨j, hj, rfl⟩ := zHas_of hs hn hle
    obtain ⟨R, hR, rfl⟩ := nI_of2 (M := 20) (n := 20) (by decide) (fun e => hr1 (Int32.lt_of_lt_of_le e (by decide))) hr2
    have hR1 : 1 ≤ R := by
      rcases Nat.lt_or_ge R 1 with e | e
      · exact absurd (nI_lt e (by decide)) hr1
      · exact e
    refine b_P_start_69 E p w (nI j) k (nI R) σ ⟨_, s_Net_isConnected G σ n hn h1 hle, ?_⟩
    rintro b τ ⟨-, rfl⟩
    refine ⟨fun _ => ⟨_, s_Frame_setUp G _ n j w k hn hle hj, fun σ3 ⟨g1, g2, g3⟩ => ⟨_, s_Course_open G σ3 n R p w (nI j) (by rw [g1 2 (by decide)]; exact hn) h1 hle hR1 hR g2 g3, fun σ4 ⟨k1, k2, rd, l, k3, k4⟩ σ5 e5 => ⟨_, rfl, ?_, ?_⟩⟩⟩, fun _ => bad⟩
    · have h50 : ∀ c, c ≠ 0 → σ5 c = σ4 c := fun c hc => by rw [e5, zup_ne hc]
      refine ⟨⟨n, by rw [h50 2 (by decide)]; exact k2.1, h1, hle⟩, fun _ => ⟨n, R, rd, ?_, l, ?_, ?_⟩⟩
      · obtain ⟨t1, t2, t3, t4, t5, t6, t7, t8⟩ := k2
        refine ⟨by rw [h50 2 (by decide)]; exact t1, t2, t3, by rw [h50 1 (by decide)]; exact t4, t5, t6, fun c u hc hu hz => ?_, fun e u hu => ?_⟩
        · rw [h50 13 (by decide)] at hz
          rw [h50 10 (by decide), h50 9 (by decide)]
          exact t7 c u hc hu hz
        · rw [h50 1 (by decide)] at e
          rw [h50 13 (by decide)]
          exact t8 e u hu
      · exact ⟨fun a ha => by rw [h50 24 (by decide)]; exact k3.1 a ha, k3.2.1.of (fun c hc => h50 c (fun e => by rw [e] at hc; revert hc; decide)), k3.2.2⟩
      · rw [h50 13 (by decide)]; exact k4
    · rw [e5]
      exact ((g1.mono (by decide)).tr (k1.mono (by decide))).up (by decide)
  exact b_P_start_0 E p w s k r σ ⟨fun _ => bad, fun _ => ⟨fun _ => bad, fun _ => ⟨fun _ => bad, fun _ => ⟨fun _ => ⟨fun _ => bad, fun hs => ⟨fun _ => bad, fun hr1 => ⟨fun hr2 => ⟨fun _ => go hs hr1 hr2, fun _ => ⟨fun _ => bad, fun _ => ⟨fun _ => go hs hr1 hr2, fun _ => bad⟩⟩⟩, fun _ => bad⟩⟩⟩, fun _ => bad⟩⟩⟩⟩
theorem s_P_flow (G : zG) (σ : zSt) (m s : Int32) (h : CI σ) : zI G 7 M_P_flow [zf G 0, .int m, .int s] σ (fun _ τ => CI τ ∧ zFr FX σ τ) := by
  refine zSpec.of (by decide) (Nat.le_of_ble_eq_true rfl) rfl (fun X E => ?_)
  have bad : ∃ x : Int32, some (Value.int (-1 : Int32)) = some (Value.int x) ∧ CI σ ∧ zFr FX σ σ := ⟨_, rfl, h, zFr.rf⟩
  refine b_P_flow_0 E m s σ ⟨fun _ => bad, fun hm => ⟨fun _ => bad, fun hm2 => ⟨fun hs => ?_, fun _ => bad⟩⟩⟩
  obtain ⟨k, hk, rfl⟩ := nI_of2 (M := 3000) (n := 3000) (by decide) hm (Int32.not_lt.mp hm2)
  obtain ⟨s0, hs0, rfl⟩ := nI_of (Int32.not_lt.mpr hs)
  rw [nI_l hs0]
  refine z_for k (fun i (q : Nat × zSt) => zZ G M_P_flow 7 X (fun r τ => ∃ x : Int32, r = some (.int x) ∧ CI τ ∧ zFr FX σ τ) 23 [(0, zf G 0), (1, .int (nI k)), (3, .long (lN q.1)), (5, .int (nI i))] [] q.2) (fun _ q => q.1 < 2 ^ 31 ∧ CI q.2 ∧ zFr FX σ q.2) ?_ ?_ 0 (s0, σ) (Nat.zero_le _) ⟨hs0, h, zFr.rf⟩
  · intro i ⟨z, τ⟩ hi ⟨hz, hC, hF⟩ ih
    dsimp only at hz hC hF ih ⊢
    have en : ∀ x : Int32, ∃ y : Int32, some (Value.int x) = some (Value.int y) ∧ CI τ ∧ zFr FX σ τ := fun x => ⟨x, rfl, hC, hF⟩
    refine b_P_flow_23 E (nI k) (lN z) (nI i) τ ⟨fun _ => en _, fun _ => ⟨fun _ => en _, fun hst => ?_⟩⟩
    obtain ⟨n, R, rd, hS, l, hD, hG⟩ := hC.2 hst
    have hl := hD.2.1.2.1
    rw [hD.2.1.1, nI_l (by omega)]
    refine ⟨fun _ => en _, fun hp => ?_⟩
    have hpos : 0 < l.length := by
      rcases Nat.eq_zero_or_pos l.length with e | e
      · rw [e] at hp; exact absurd (by decide) hp
      · exact e
    refine ⟨fun e => ?_, ?_⟩
    · have := (lN_eq (a := l.length) (b := 0) (by omega) (by decide)).mp e
      omega
    · have hrem : (lN z - lN z / lN l.length * lN l.length).toInt32 = nI (z % l.length) := by
        rw [pk_lRem (by omega) hpos (by omega), lN_i]
      rw [hrem]
      refine ⟨_, s_Course_bring G τ n R (z % l.length) rd l hS hD hG (Nat.mod_lt _ hpos), fun x σ1 ⟨k1, rd', k2⟩ => ?_⟩
      rw [nI_1]
      have hnext : ((69069 : Int64) * lN z + (1 : Int64)) &&& (2147483647 : Int64) = lN ((69069 * z + 1) % 2 ^ 31) := by
        rw [show (69069 : Int64) = lN 69069 from rfl, show (1 : Int64) = lN 1 from rfl, show (2147483647 : Int64) = lN (2 ^ 31 - 1) from rfl, lN_mul, lN_add]
        apply Int64.toBitVec_inj.mp
        show BitVec.ofNat 64 (69069 * z + 1) &&& BitVec.ofNat 64 (2 ^ 31 - 1) = BitVec.ofNat 64 ((69069 * z + 1) % 2 ^ 31)
        apply BitVec.eq_of_toNat_eq
        simp only [BitVec.toNat_and, BitVec.toNat_ofNat]
        rw [Nat.mod_eq_of_lt (show 69069 * z + 1 < 2 ^ 64 by omega), Nat.mod_eq_of_lt (show 2 ^ 31 - 1 < 2 ^ 64 by decide), Nat.and_two_pow_sub_one_eq_mod, Nat.mod_eq_of_lt (show (69069 * z + 1) % 2 ^ 31 < 2 ^ 64 by omega)]
      rw [hnext]
      exact ih ((69069 * z + 1) % 2 ^ 31, σ1) ⟨Nat.mod_lt _ (by decide), CI.run hS k1 k2, hF.tr (FR_x k1)⟩
  · intro ⟨z, τ⟩ ⟨_, hC, hF⟩
    exact b_P_flow_23 E (nI k) (lN z) (nI k) τ ⟨fun _ => ⟨_, rfl, hC, hF⟩, fun q => absurd (nI_le (Nat.le_refl k) (by omega)) q⟩
theorem s_P_told (G : zG) (σ : zSt) (a w : Int32) (h : CI σ) : zI G 1 M_P_told [zf G 0, .int a, .int w] σ (fun _ τ => τ = σ) := by
  refine zSpec.of (by decide) (Nat.le_of_ble_eq_true rfl) rfl (fun X E => ?_)
  obtain ⟨n, hn, h1, hle⟩ := h.1
  have en : ∀ x : Int32, ∃ y : Int32, some (Value.int x) = some (Value.int y) ∧ σ = σ := fun x => ⟨x, rfl, rfl⟩
  refine b_P_told_0 E a w σ ⟨fun _ => en _, fun ha => ⟨fun _ => en _, fun _ => ⟨fun _ => ?_, fun _ => en _⟩⟩⟩
  obtain ⟨j, hj, rfl⟩ := zHas_of ha hn hle
  have ij : vp_in (nI j) 12 := vp_in_nI (by omega) (by decide)
  exact ⟨fun _ => ⟨fun _ => ⟨fun _ => ⟨ij, en _⟩, fun _ => ⟨ij, en _⟩, fun _ => ⟨ij, en _⟩, fun _ => ⟨ij, en _⟩, fun _ => ⟨ij, fun _ => en _, fun _ => en _⟩, fun _ => ⟨ij, en _⟩, fun _ => ⟨ij, en _⟩⟩, fun _ => en _⟩, fun _ => ⟨ij, en _⟩⟩
theorem round_of {σ : zSt} {a r : Int32} (hC : CI σ) (h : decide (¬ σ 0 1 = 0 ∧ zHas σ a = true ∧ ¬ r < 0 ∧ ¬ σ 1 5 < r) = true) : ∃ i j, i < 12 ∧ j ≤ 20 ∧ a = nI i ∧ r = nI j := by
  obtain ⟨h0, h1, h2, h3⟩ := of_decide_eq_true h
  obtain ⟨n, R, rd, hS, _⟩ := hC.2 h0
  obtain ⟨i, hi, rfl⟩ := zHas_of h1 hS.1 hS.2.2.1
  rw [hS.2.2.2.1] at h3
  obtain ⟨j, hj, rfl⟩ := nI_of2 (M := nI R) (n := R) (nI_toInt (by have := hS.2.2.2.2.2.1; omega)) h2 (Int32.not_lt.mp h3)
  exact ⟨i, j, by have := hS.2.2.1; omega, by have := hS.2.2.2.2.2.1; omega, rfl, rfl⟩
theorem s_P_past (G : zG) (σ : zSt) (a r : Int32) (h : CI σ) : zI G 2 M_P_past [zf G 0, .int a, .int r] σ (fun _ τ => τ = σ) := by
  refine zSpec.of (by decide) (Nat.le_of_ble_eq_true rfl) rfl (fun X E => ?_)
  refine b_P_past_0 E a r σ ⟨_, s_P_hasRound G σ a r, ?_⟩
  rintro b τ ⟨hb, rfl⟩
  refine ⟨fun ht => ?_, fun _ => ⟨_, rfl, rfl⟩⟩
  rw [hb] at ht
  obtain ⟨i, j, hi, hj, rfl, rfl⟩ := round_of h ht
  exact ⟨vp_in_nI hi (by decide), fun _ => ⟨by rw [zi12]; exact vp_in_nI (by omega) (by decide), _, rfl, rfl⟩, fun _ => ⟨_, rfl, rfl⟩⟩
theorem s_P_inStep (G : zG) (σ : zSt) (a r : Int32) (h : CI σ) : zI G 2 M_P_inStep [zf G 0, .int a, .int r] σ (fun _ τ => τ = σ) := by
  refine zSpec.of (by decide) (Nat.le_of_ble_eq_true rfl) rfl (fun X E => ?_)
  refine b_P_inStep_0 E a r σ ⟨_, s_P_hasRound G σ a r, ?_⟩
  rintro b τ ⟨hb, rfl⟩
  refine ⟨fun _ => ⟨_, rfl, rfl⟩, fun ht => ?_⟩
  rw [hb] at ht
  obtain ⟨i, j, hi, hj, rfl, rfl⟩ := round_of h ht
  exact ⟨by rw [zi12]; exact vp_in_nI (by omega) (by decide), _, rfl, rfl⟩
theorem s_P_differ (G : zG) (σ : zSt) (h : CI σ) : zI G 2 M_P_differ [zf G 0] σ (fun _ τ => τ = σ) := by
  refine zSpec.of (by decide) (Nat.le_of_ble_eq_true rfl) rfl (fun X E => ?_)
  refine b_P_differ_0 E σ ⟨fun _ => ⟨_, rfl, rfl⟩, fun hst => ?_⟩
  obtain ⟨n, R, rd, hS, l, hD, hG⟩ := h.2 hst
  exact ⟨_, s_Course_countWrong G σ n R rd hS.1 hS.2.2.1 hS.2.2.2.2.2.1 hD.1, fun x τ e => ⟨_, rfl, e⟩⟩
theorem s_P_letter (G : zG) (σ : zSt) (v w : Int32) (h : CI σ) : zI G 1 M_P_letter [zf G 0, .int v, .int w] σ (fun _ τ => τ = σ) := by
  refine zSpec.of (by decide) (Nat.le_of_ble_eq_true rfl) rfl (fun X E => ?_)
  refine b_P_letter_0 E v w σ ⟨_, s_P_hasLetter G σ v, ?_⟩
  rintro b τ ⟨hb, rfl⟩
  have en : ∀ x : Int32, ∃ y : Int32, some (Value.int x) = some (Value.int y) ∧ τ = τ := fun x => ⟨x, rfl, rfl⟩
  refine ⟨fun ht => ?_, fun _ => en _⟩
  rw [hb] at ht
  obtain ⟨n, R, rd, hS, l, hD, hG⟩ := h.2 (of_decide_eq_true ht).1
  obtain ⟨i, hi, rfl⟩ := letter_of ht hD.2.1
  have ii : vp_in (nI i) 528 := vp_in_nI (by have := hD.2.1.2.1; omega) (by decide)
  exact ⟨fun _ => ⟨ii, en _⟩, fun _ => ⟨ii, en _⟩, fun _ => ⟨ii, en _⟩, fun _ => ⟨ii, en _⟩, fun _ => ⟨ii, en _⟩, fun _ => en _⟩
theorem s_P_count (G : zG) (σ : zSt) (w : Int32) (h : CI σ) : zI G 3 M_P_count [zf G 0, .int w] σ (fun _ τ => τ = σ) := by
  refine zSpec.of (by decide) (Nat.le_of_ble_eq_true rfl) rfl (fun X E => ?_)
  obtain ⟨n, hn, h1, hle⟩ := h.1
  have en : ∀ x : Int32, ∃ y : Int32, some (Value.int x) = some (Value.int y) ∧ σ = σ := fun x => ⟨x, rfl, rfl⟩
  refine b_P_count_0 E w σ ⟨fun _ => ⟨fun _ => ⟨fun _ => ⟨fun _ => en _, fun _ => en _, fun _ => en _, fun _ => ⟨_, s_Course_leastRound G σ n hn hle, fun x τ e => ⟨_, rfl, e⟩⟩, fun _ => ⟨_, s_Course_greatestRound G σ n hn hle, fun x τ e => ⟨_, rfl, e⟩⟩, fun _ => ⟨_, s_Course_isOver G σ n hn hle, fun b τ e => ⟨fun _ => ⟨_, rfl, e⟩, fun _ => ⟨_, rfl, e⟩⟩⟩, fun _ => en _, fun _ => en _, fun _ => en _⟩, fun _ => en _⟩, fun _ => en _⟩, fun _ => en _⟩
