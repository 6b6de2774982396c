-- The reference: its public methods
theorem MR_go {σ τ : zSt} {n R W : Nat} {l : List Lt} (h : MR τ n R W l) (hg : MG τ n W) (hF : MF FMo JMo σ τ) : MI τ ∧ MF FMo JMo σ τ := ⟨⟨n, h.1.1, h.1.2.1, h.1.2.2.1, h.1.2.2.2.2.2.2.2.2.2, Or.inr ⟨R, W, l, h, hg⟩⟩, hF⟩
theorem MI.run {σ : zSt} (h : MI σ) (h4 : ¬ σ 32 4 = 0) : ∃ n R W l, MR σ n R W l ∧ MG σ n W := by
  obtain ⟨n, _, _, _, _, h5⟩ := h
  rcases h5 with e | ⟨R, W, l, h6⟩
  · exact absurd e h4
  · exact ⟨n, R, W, l, h6⟩
theorem s_Mo_come (G : zG) (σ : zSt) (v : Int32) (h : MI σ) : zI G 5 M_Mo_come [zf G 32, .int v] σ (fun _ τ => MI τ ∧ MF FMo JMo σ τ) := by
  refine zSpec.of (by decide) (Nat.le_of_ble_eq_true rfl) rfl (fun X E => ?_)
  have bad : ∃ x : Int32, some (Value.int (-1 : Int32)) = some (Value.int x) ∧ MI σ ∧ MF FMo JMo σ σ := ⟨_, rfl, h, MF.rf⟩
  refine b_Mo_come_0 E v σ ⟨fun _ => bad, fun h4 => ⟨fun _ => bad, fun h0 => ⟨fun hlt => ?_, fun _ => bad⟩⟩⟩
  obtain ⟨n, R, W, l, hM, hG⟩ := h.run h4
  have hl := hM.2.2.1.2.1
  rw [hM.2.2.1.1] at hlt
  rcases pk_ix v (n := l.length) (by omega) with q | q | ⟨j, hj, rfl⟩
  · exact absurd q h0
  · exact absurd hlt (Int32.not_lt.mpr q)
  · exact ⟨_, s_Mo_handle G σ n R W j l hM hG hj, fun x σ1 ⟨k1, k2, l', k3⟩ => ⟨_, rfl, MR_go k3 k2 (k1.mono (by decide) (by decide))⟩⟩
theorem s_Mo_flow (G : zG) (σ : zSt) (m s : Int32) (h : MI σ) : zI G 5 M_Mo_flow [zf G 32, .int m, .int s] σ (fun _ τ => MI τ ∧ MF FMo JMo σ τ) := by
  refine zSpec.of (by decide) (Nat.le_of_ble_eq_true rfl) rfl (fun X E => ?_)
  have bad : ∃ x : Int32, some (Value.int (-1 : Int32)) = some (Value.int x) ∧ MI σ ∧ MF FMo JMo σ σ := ⟨_, rfl, h, MF.rf⟩
  refine b_Mo_flow_0 E m s σ ⟨fun _ => bad, fun h4 => ⟨fun _ => bad, fun hm => ⟨fun _ => bad, fun hm2 => ⟨fun hs => ?_, fun _ => bad⟩⟩⟩⟩
  obtain ⟨n, R, W, l, hM, hG⟩ := h.run h4
  obtain ⟨k, hk, rfl⟩ := nI_of2 (M := 3000) (n := 3000) (by decide) hm (Int32.not_lt.mp hm2)
  obtain ⟨s0, hs0, rfl⟩ := nI_of (Int32.not_lt.mpr hs)
  rw [nI_l hs0]
  refine z_for k (fun i (q : Nat × zSt) => zZ G M_Mo_flow 5 X (fun r τ => ∃ x : Int32, r = some (.int x) ∧ MI τ ∧ MF FMo JMo σ τ) 30 [(0, zf G 32), (1, .int (nI k)), (3, .long (lN q.1)), (5, .int (nI i))] [] q.2) (fun _ q => q.1 < 2 ^ 31 ∧ (∃ l, MR q.2 n R W l) ∧ MG q.2 n W ∧ MF FMo JMo σ q.2) ?_ ?_ 0 (s0, σ) (Nat.zero_le _) ⟨hs0, ⟨l, hM⟩, hG, MF.rf⟩
  · intro i ⟨z, τ⟩ hi ⟨hz, ⟨l, hM⟩, hG, hF⟩ ih
    dsimp only at hz hM hG hF ih ⊢
    have en : ∀ x : Int32, ∃ y : Int32, some (Value.int x) = some (Value.int y) ∧ MI τ ∧ MF FMo JMo σ τ := fun x => ⟨x, rfl, MR_go hM hG hF⟩
    refine b_Mo_flow_30 E (nI k) (lN z) (nI i) τ ⟨fun _ => en _, fun _ => ?_⟩
    have hl := hM.2.2.1.2.1
    rw [hM.2.2.1.1, nI_l (by omega)]
    refine ⟨fun _ => en _, fun hp => ?_⟩
    have hpos : 0 < l.length := by
      rcases Nat.eq_zero_or_pos l.length with e | e
      · rw [e] at hp; exact absurd (by decide) hp
      · exact e
    refine ⟨fun e => ?_, ?_⟩
    · have := (lN_eq (a := l.length) (b := 0) (by omega) (by decide)).mp e
      omega
    · have hrem : (lN z - lN z / lN l.length * lN l.length).toInt32 = nI (z % l.length) := by
        rw [pk_lRem (by omega) hpos (by omega), lN_i]
      rw [hrem]
      refine ⟨_, s_Mo_handle G τ n R W (z % l.length) l hM hG (Nat.mod_lt _ hpos), fun x σ1 ⟨k1, k2, l', k3⟩ => ?_⟩
      rw [nI_1]
      have hnext : (((69069 : Int64) * lN z) + (1 : Int64)) - (((69069 : Int64) * lN z) + (1 : Int64)) / (2147483648 : Int64) * (2147483648 : Int64) = lN ((69069 * z + 1) % 2147483648) := by
        rw [show (69069 : Int64) = lN 69069 from rfl, show (1 : Int64) = lN 1 from rfl, show (2147483648 : Int64) = lN 2147483648 from rfl, lN_mul, lN_add, pk_lRem (by omega) (by decide) (by decide)]
      rw [hnext]
      exact ih ((69069 * z + 1) % 2147483648, σ1) ⟨Nat.mod_lt _ (by decide), ⟨l', k3⟩, k2, hF.tr (k1.mono (by decide) (by decide))⟩
  · intro ⟨z, τ⟩ ⟨_, ⟨l, hM⟩, hG, hF⟩
    exact b_Mo_flow_30 E (nI k) (lN z) (nI k) τ ⟨fun _ => ⟨_, rfl, MR_go hM hG hF⟩, fun q => absurd (nI_le (Nat.le_refl k) (by omega)) q⟩
theorem s_Mo_told (G : zG) (σ : zSt) (a w : Int32) (h : MI σ) : zI G 1 M_Mo_told [zf G 32, .int a, .int w] σ (fun _ τ => τ = σ) := by
  refine zSpec.of (by decide) (Nat.le_of_ble_eq_true rfl) rfl (fun X E => ?_)
  obtain ⟨n, hn, h1n, hn12, _, _⟩ := h
  have bad : ∃ x : Int32, some (Value.int (-1 : Int32)) = some (Value.int x) ∧ σ = σ := ⟨_, rfl, rfl⟩
  have loop : ∀ j, j < n → zZ G M_Mo_told 1 X (fun r τ => ∃ x : Int32, r = some (.int x) ∧ τ = σ) 38 [(0, zf G 32), (1, .int (nI j)), (2, .int w), (3, .int (0 : Int32)), (4, .int (0 : Int32))] [] σ := by
    intro j hj
    have i12 : vp_in (nI j) 12 := vp_in_nI (by omega) (by decide)
    have i24 : vp_in (nI j) 24 := vp_in_nI (by omega) (by decide)
    refine z_for n (fun i (v3 : Int32) => zZ G M_Mo_told 1 X (fun r τ => ∃ x : Int32, r = some (.int x) ∧ τ = σ) 38 [(0, zf G 32), (1, .int (nI j)), (2, .int w), (3, .int v3), (4, .int (nI i))] [] σ) (fun _ _ => True) ?_ ?_ 0 0 (Nat.zero_le _) trivial
    · intro i v3 hi _ ih
      refine b_Mo_told_38 E (nI j) w v3 (nI i) σ ⟨fun q => absurd q (by rw [hn]; exact nI_ge hi (by omega)), fun _ => ⟨by rw [zi12']; exact vp_in_nI (by omega) (by decide), fun _ => ?_, fun _ => ?_⟩⟩
      · rw [nI_1]; exact ih _ trivial
      · rw [nI_1]; exact ih _ trivial
    · intro v3 _
      refine b_Mo_told_38 E (nI j) w v3 (nI n) σ ⟨fun _ => ⟨fun _ => ⟨i12, _, rfl, rfl⟩, fun _ => ⟨i24, _, rfl, rfl⟩, fun _ => ⟨i24, _, rfl, rfl⟩, fun _ => ⟨i12, _, rfl, rfl⟩, fun _ => ⟨i12, fun _ => ⟨_, rfl, rfl⟩, fun _ => ⟨_, rfl, rfl⟩⟩, fun _ => ⟨i12, _, rfl, rfl⟩, fun _ => ⟨i12, _, rfl, rfl⟩, fun _ => ⟨_, rfl, rfl⟩⟩, fun q => absurd (by rw [hn]; exact nI_le (Nat.le_refl n) (by omega)) q⟩
  refine b_Mo_told_0 E a w σ ⟨fun _ => bad, fun hno => ?_⟩
  obtain ⟨j, hj, rfl⟩ := zNo_of hno hn hn12
  exact ⟨fun _ => bad, fun _ => ⟨fun _ => bad, fun _ => ⟨fun _ => loop j hj, fun _ => ⟨fun _ => loop j hj, fun _ => bad⟩⟩⟩⟩
/-- where noPlace says no, the place is there -/
theorem s_Mo_noPlace (G : zG) (σ : zSt) (a r : Int32) (h : MI σ) : zB G 1 M_Mo_noPlace [zf G 32, .int a, .int r] σ (fun b τ => τ = σ ∧ (b = false → ∃ j k, j < 12 ∧ k ≤ 20 ∧ a = nI j ∧ r = nI k)) := by
  refine zSpec.of (by decide) (Nat.le_of_ble_eq_true rfl) rfl (fun X E => ?_)
  have yes : ∃ b : Bool, some (Value.int (1 : Int32)) = some (Value.int (zb b)) ∧ σ = σ ∧ (b = false → ∃ j k, j < 12 ∧ k ≤ 20 ∧ a = nI j ∧ r = nI k) := ⟨true, rfl, rfl, fun e => absurd e (by decide)⟩
  refine b_Mo_noPlace_0 E a r σ ⟨fun _ => yes, fun h4 => ⟨fun _ => yes, fun hno => ⟨fun _ => yes, fun h0 => ⟨fun hle => ⟨false, rfl, rfl, fun _ => ?_⟩, fun _ => yes⟩⟩⟩⟩
  obtain ⟨n, R, W, l, hM, hG⟩ := h.run h4
  obtain ⟨j, hj, rfl⟩ := zNo_of hno hM.1.1 hM.1.2.2.1
  have hR := hM.1.2.2.2.2.2.1
  have hn := hM.1.2.2.1
  rw [hM.1.2.2.2.1] at hle
  rcases pk_ix r (n := R + 1) (by omega) with q | q | ⟨k, hk, rfl⟩
  · exact absurd q h0
  · exfalso
    have a1 := i32_le.mp q
    have a2 := i32_le.mp hle
    rw [nI_toInt (by omega)] at a1 a2
    omega
  · exact ⟨j, k, by omega, by omega, rfl, rfl⟩
theorem s_Mo_past (G : zG) (σ : zSt) (a r : Int32) (h : MI σ) : zI G 2 M_Mo_past [zf G 32, .int a, .int r] σ (fun _ τ => τ = σ) := by
  refine zSpec.of (by decide) (Nat.le_of_ble_eq_true rfl) rfl (fun X E => ?_)
  refine b_Mo_past_0 E a r σ ⟨_, s_Mo_noPlace G σ a r h, ?_⟩
  rintro b τ ⟨rfl, hb⟩
  refine ⟨fun e => ?_, fun _ => ⟨_, rfl, rfl⟩⟩
  obtain ⟨j, k, hj, hk, rfl, rfl⟩ := hb e
  exact ⟨vp_in_nI (by omega) (by decide), fun _ => ⟨by rw [zi12']; exact vp_in_nI (by omega) (by decide), _, rfl, rfl⟩, fun _ => ⟨_, rfl, rfl⟩⟩
theorem s_Mo_inStep (G : zG) (σ : zSt) (a r : Int32) (h : MI σ) : zI G 2 M_Mo_inStep [zf G 32, .int a, .int r] σ (fun _ τ => τ = σ) := by
  refine zSpec.of (by decide) (Nat.le_of_ble_eq_true rfl) rfl (fun X E => ?_)
  refine b_Mo_inStep_0 E a r σ ⟨_, s_Mo_noPlace G σ a r h, ?_⟩
  rintro b τ ⟨rfl, hb⟩
  refine ⟨fun e => ?_, fun _ => ⟨_, rfl, rfl⟩⟩
  obtain ⟨j, k, hj, hk, rfl, rfl⟩ := hb e
  exact ⟨by rw [zi12']; exact vp_in_nI (by omega) (by decide), _, rfl, rfl⟩
theorem s_Mo_differ (G : zG) (σ : zSt) (h : MI σ) : zI G 0 M_Mo_differ [zf G 32] σ (fun _ τ => τ = σ) := by
  refine zSpec.of (by decide) (Nat.le_of_ble_eq_true rfl) rfl (fun X E => ?_)
  have hMI := h
  obtain ⟨n, hn, h1n, hn12, _, _⟩ := h
  refine b_Mo_differ_0 E σ ?_
  have out : ∀ v1 : Int32, ((σ 32 4) = 0 → ∃ x : Int32, some (Value.int (-1 : Int32)) = some (Value.int x) ∧ σ = σ) ∧ (¬ (σ 32 4) = 0 → ∃ x : Int32, some (Value.int v1) = some (Value.int x) ∧ σ = σ) := fun v1 => ⟨fun _ => ⟨_, rfl, rfl⟩, fun _ => ⟨_, rfl, rfl⟩⟩
  refine z_for n (fun i (v1 : Int32) => zZ G M_Mo_differ 0 X (fun r τ => ∃ x : Int32, r = some (.int x) ∧ τ = σ) 4 [(0, zf G 32), (1, .int v1), (2, .int (nI i))] [] σ) (fun _ _ => True) ?_ ?_ 0 0 (Nat.zero_le _) trivial
  · intro a v1 ha _ iha
    refine b_Mo_differ_4 E v1 (nI a) σ ⟨fun q => absurd q (by rw [hn]; exact nI_ge ha (by omega)), fun _ => ⟨fun _ => out v1, fun h4 => ?_⟩⟩
    obtain ⟨n', R, W, l, hM, hG⟩ := hMI.run h4
    have en : n' = n := (nI_eq (by have := hM.1.2.2.1; omega) (by omega)).mp (hM.1.1.symm.trans hn)
    subst en
    have hra := hM.2.1.1 a ha
    have hR := (hM.2.2.2.1 a ha).1
    have hR2 := hM.1.2.2.2.2.2.1
    have ca : (nI a).toNatClampNeg = a := nI_clamp (by omega)
    refine z_for (rdP (psS σ) a + 1) (fun i (v1 : Int32) => zZ G M_Mo_differ 0 X (fun r τ => ∃ x : Int32, r = some (.int x) ∧ τ = σ) 21 [(0, zf G 32), (1, .int v1), (2, .int (nI a)), (3, .int (nI i))] [] σ) (fun _ _ => True) ?_ ?_ 0 v1 (Nat.zero_le _) trivial
    · intro r v1 hr _ ih
      have ir : vp_in (((12 : Int32) * nI r) + nI a) 252 := by rw [zi12']; exact vp_in_nI (by omega) (by decide)
      refine b_Mo_differ_21 E v1 (nI a) (nI r) σ ⟨vp_in_nI (by omega) (by decide), fun q => ?_, fun _ => ⟨ir, ir, fun _ => ?_, fun _ => ?_⟩⟩
      · rw [nI_1]; exact iha _ trivial
      · rw [nI_1]; exact ih _ trivial
      · rw [nI_1]; exact ih _ trivial
    · intro v1 _
      refine b_Mo_differ_21 E v1 (nI a) (nI (rdP (psS σ) a + 1)) σ ⟨vp_in_nI (by omega) (by decide), fun q => ?_, fun q => absurd ?_ q⟩
      · rw [nI_1]; exact iha _ trivial
      · rw [ca, hra]
        exact i32_lt.mpr (by rw [nI_toInt (by omega), nI_toInt (by omega)]; omega)
  · intro v1 _
    exact b_Mo_differ_4 E v1 (nI n) σ ⟨fun _ => out v1, fun q => absurd (by rw [hn]; exact nI_le (Nat.le_refl n) (by omega)) q⟩
theorem s_Mo_letter (G : zG) (σ : zSt) (i w : Int32) (h : MI σ) : zI G 0 M_Mo_letter [zf G 32, .int i, .int w] σ (fun _ τ => τ = σ) := by
  refine zSpec.of (by decide) (Nat.le_of_ble_eq_true rfl) rfl (fun X E => ?_)
  have bad : ∃ x : Int32, some (Value.int (-1 : Int32)) = some (Value.int x) ∧ σ = σ := ⟨_, rfl, rfl⟩
  refine b_Mo_letter_0 E i w σ ⟨fun _ => bad, fun h4 => ⟨fun _ => bad, fun h0 => ⟨fun _ => bad, fun h1 => ⟨fun _ => bad, fun h2 => ⟨fun h3 => ⟨?_, _, rfl, rfl⟩, fun _ => bad⟩⟩⟩⟩⟩
  obtain ⟨n, R, W, l, hM, hG⟩ := h.run h4
  have hl := hM.2.2.1.2.1
  rw [hM.2.2.1.1] at h1
  rcases pk_ix i (n := l.length) (by omega) with q | q | ⟨j, hj, rfl⟩
  · exact absurd q h0
  · exact absurd q h1
  · obtain ⟨k, hk, rfl⟩ : ∃ k, k < 5 ∧ w = nI k := by
      rcases pk_ix w (n := 5) (by decide) with q | q | q
      · exact absurd q h2
      · exfalso
        have a1 := i32_le.mp q
        have a2 := i32_le.mp h3
        have b1 : (nI 5).toInt = 5 := by decide
        have b2 : (4 : Int32).toInt = 4 := by decide
        omega
      · exact q
    rw [show (5 : Int32) = nI 5 from rfl, pk_mul, nI_add]
    exact vp_in_nI (by omega) (by decide)
theorem s_Mo_count (G : zG) (σ : zSt) (w : Int32) (h : MI σ) : zI G 0 M_Mo_count [zf G 32, .int w] σ (fun _ τ => τ = σ) := by
  refine zSpec.of (by decide) (Nat.le_of_ble_eq_true rfl) rfl (fun X E => ?_)
  have bad : ∃ x : Int32, some (Value.int (-1 : Int32)) = some (Value.int x) ∧ σ = σ := ⟨_, rfl, rfl⟩
  have ok : ∀ v : Int32, ∃ x : Int32, some (Value.int v) = some (Value.int x) ∧ σ = σ := fun v => ⟨_, rfl, rfl⟩
  obtain ⟨n, hn, h1n, hn12, _, _⟩ := h
  have loop : zZ G M_Mo_count 0 X (fun r τ => ∃ x : Int32, r = some (.int x) ∧ τ = σ) 32 [(0, zf G 32), (1, .int w), (2, .int (99 : Int32)), (3, .int (0 : Int32)), (4, .int (0 : Int32))] [] σ := by
    refine z_for n (fun i (v : Int32 × Int32) => zZ G M_Mo_count 0 X (fun r τ => ∃ x : Int32, r = some (.int x) ∧ τ = σ) 32 [(0, zf G 32), (1, .int w), (2, .int v.1), (3, .int v.2), (4, .int (nI i))] [] σ) (fun _ _ => True) ?_ ?_ 0 (99, 0) (Nat.zero_le _) trivial
    · intro i v hi _ ih
      have ii : vp_in (nI i) 12 := vp_in_nI (by omega) (by decide)
      have nx : ∀ x y : Int32, zZ G M_Mo_count 0 X (fun r τ => ∃ x : Int32, r = some (.int x) ∧ τ = σ) 32 [(0, zf G 32), (1, .int w), (2, .int x), (3, .int y), (4, .int (nI i + 1))] [] σ := fun x y => by rw [nI_1]; exact ih (x, y) trivial
      exact b_Mo_count_32 E w v.1 v.2 (nI i) σ ⟨fun q => absurd q (by rw [hn]; exact nI_ge hi (by omega)), fun _ => ⟨ii, fun _ => ⟨ii, fun _ => nx _ _, fun _ => ⟨ii, nx _ _⟩⟩, fun _ => ⟨ii, ii, fun _ => nx _ _, fun _ => ⟨ii, nx _ _⟩⟩⟩⟩
    · intro v _
      exact b_Mo_count_32 E w v.1 v.2 (nI n) σ ⟨fun _ => ⟨fun _ => ok _, fun _ => ok _, fun _ => ok _, fun _ => ok _, fun _ => ok _, fun _ => ok _, fun _ => ok _, fun _ => ⟨fun _ => ok _, fun _ => ⟨fun _ => ok _, fun _ => ok _⟩⟩, fun _ => ok _, fun _ => ok _⟩, fun q => absurd (by rw [hn]; exact nI_le (Nat.le_refl n) (by omega)) q⟩
  exact b_Mo_count_0 E w σ ⟨fun _ => bad, fun _ => ⟨fun _ => bad, fun _ => ⟨fun _ => loop, fun _ => ⟨fun _ => loop, fun _ => bad⟩⟩⟩⟩
/-- the invariant behind begin, link, mark -/
theorem LM_begin {σ : zSt} {v : Int32} : LM (mbegin σ v) := by
  have z : (0 : Int32).toInt = 0 := by decide
  refine ⟨fun i hi => ?_, fun a ha => ?_⟩
  · have e : mbegin σ v 33 i = 0 := by unfold mbegin; rw [zfill_ne (by decide)]; simp [zfill, hi]
    rw [e, z]; omega
  · have e : mbegin σ v 34 a = 0 := by unfold mbegin; simp [zfill, ha]
    rw [e, z]; omega
theorem MI_begin {σ : zSt} {v : Int32} (h1 : ¬ v < 1) (h2 : v ≤ 12) : MI (mbegin σ v) := by
  have c1 : ¬ v.toInt < 1 := fun q => h1 (i32_lt.mpr (by rw [show (1 : Int32).toInt = 1 by decide]; exact q))
  have c2 := i32_le.mp h2
  rw [show (12 : Int32).toInt = 12 by decide] at c2
  have e : v = nI v.toInt.toNat := i32_of (by omega) (by omega)
  refine ⟨v.toInt.toNat, ?_, by omega, by omega, LM_begin, Or.inl ?_⟩
  · rw [← e]; unfold mbegin; rw [zfill_ne (by decide), zfill_ne (by decide)]; simp [zup]
  · unfold mbegin; rw [zfill_ne (by decide), zfill_ne (by decide)]; simp [zup]
theorem MI_link {σ : zSt} {n i j : Nat} {len : Int32} (h : MI σ) (hn : σ 32 0 = nI n) (hi : i < n) (hj : j < n) (h1 : ¬ len < 1) (h2 : len ≤ 9) : MI (mlink σ i j len) := by
  obtain ⟨n', hn', h1n, hn12, hLM, _⟩ := h
  have c1 : ¬ len.toInt < 1 := fun q => h1 (i32_lt.mpr (by rw [show (1 : Int32).toInt = 1 by decide]; exact q))
  have c2 := i32_le.mp h2
  rw [show (9 : Int32).toInt = 9 by decide] at c2
  refine ⟨n', ?_, h1n, hn12, ⟨fun k hk => ?_, fun a ha => ?_⟩, Or.inl ?_⟩
  · unfold mlink; simp [zup]; exact hn'
  · have e : mlink σ i j len 33 k = len ∨ mlink σ i j len 33 k = σ 33 k := by
      unfold mlink
      simp only [zup]
      by_cases a1 : k = 12 * j + i
      · left; simp [a1]
      · by_cases a2 : k = 12 * i + j
        · left; simp [a2]
        · right; simp [a1, a2]
    rcases e with e | e
    · rw [e]; omega
    · rw [e]; exact hLM.1 k hk
  · have e : mlink σ i j len 34 a = σ 34 a := by unfold mlink; simp [zup]
    rw [e]; exact hLM.2 a ha
  · unfold mlink; simp [zup]
theorem MI_mark {σ : zSt} {j : Nat} {v : Int32} (h : MI σ) (h1 : ¬ v < 0) (h2 : v ≤ 99) : MI (zup (zup σ 34 j v) 32 4 0) := by
  obtain ⟨n', hn', h1n, hn12, hLM, _⟩ := h
  have c1 : ¬ v.toInt < 0 := fun q => h1 (i32_lt.mpr (by rw [show (0 : Int32).toInt = 0 by decide]; exact q))
  have c2 := i32_le.mp h2
  rw [show (99 : Int32).toInt = 99 by decide] at c2
  refine ⟨n', ?_, h1n, hn12, ⟨fun k hk => ?_, fun a ha => ?_⟩, Or.inl ?_⟩
  · simp [zup]; exact hn'
  · have e : zup (zup σ 34 j v) 32 4 0 33 k = σ 33 k := by simp [zup]
    rw [e]; exact hLM.1 k hk
  · by_cases a1 : a = j
    · have e : zup (zup σ 34 j v) 32 4 0 34 a = v := by simp [zup, a1]
      rw [e]; omega
    · have e : zup (zup σ 34 j v) 32 4 0 34 a = σ 34 a := by simp [zup, a1]
      rw [e]; exact hLM.2 a ha
  · simp [zup]
