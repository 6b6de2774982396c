-- Play: which cells each method may change (safety)
theorem ix288 {w i : Nat} (hw : w + 12 ≤ 288) (hi : i < 12) : vp_in (nI w + nI i) 288 := by rw [nI_add]; exact vp_in_nI (by omega) (by decide)
theorem ix144 {a i : Nat} (ha : a < 12) (hi : i < 12) : vp_in (nI a * 12 + nI i) 144 := by rw [zi12]; exact vp_in_nI (by omega) (by decide)
theorem s_Play_takeWave (G : zG) (σ : zSt) (a w : Nat) (ha : a < 12) (hw : w + 12 ≤ 288) : zI G 0 M_Play_takeWave [zf G 4, .int (nI a), .int (nI w)] σ (fun _ τ => zFr [16, 17] σ τ) := by
  refine zSpec.of (by decide) (Nat.le_of_ble_eq_true rfl) rfl (fun X E => ?_)
  have ia : vp_in (nI a) 12 := vp_in_nI ha (by decide)
  refine b_Play_takeWave_0 E (nI a) (nI w) σ ?_
  refine z_for 12 (fun i τ => zZ G M_Play_takeWave 0 X (fun r τ => ∃ x : Int32, r = some (.int x) ∧ zFr [16, 17] σ τ) 2 [(0, zf G 4), (1, .int (nI a)), (2, .int (nI w)), (3, .int (nI i))] [] τ) (fun _ τ => zFr [16, 17] σ τ) ?_ ?_ 0 σ (Nat.zero_le _) zFr.rf
  · intro i τ hi hI ih
    have ii := ix288 hw hi
    refine b_Play_takeWave_2 E (nI a) (nI w) (nI i) τ ⟨fun _ => ⟨_, rfl, hI⟩, fun _ => ⟨ia, fun _ => ⟨_, rfl, hI⟩, fun _ => ⟨ii, fun _ => ?_, fun _ => ⟨ii, ia, ?_⟩⟩⟩⟩
    · rw [nI_1]; exact ih τ hI
    · rintro σ1 rfl
      refine ⟨ia, ?_⟩
      rintro σ2 rfl
      exact ⟨ia, _, rfl, (hI.up (by decide)).up (by decide)⟩
  · intro τ hI
    exact b_Play_takeWave_2 E (nI a) (nI w) (nI 12) τ ⟨fun _ => ⟨_, rfl, hI⟩, fun q => absurd (by decide) q⟩
theorem s_Play_takeGreatest (G : zG) (σ : zSt) (a w : Nat) (ha : a < 12) (hw : w + 12 ≤ 288) : zI G 0 M_Play_takeGreatest [zf G 4, .int (nI a), .int (nI w)] σ (fun _ τ => zFr [16, 17] σ τ) := by
  refine zSpec.of (by decide) (Nat.le_of_ble_eq_true rfl) rfl (fun X E => ?_)
  have ia : vp_in (nI a) 12 := vp_in_nI ha (by decide)
  refine b_Play_takeGreatest_0 E (nI a) (nI w) σ ⟨ia, ?_⟩
  generalize σ 16 (nI a).toNatClampNeg = b0
  refine z_for 12 (fun i τ => zZ G M_Play_takeGreatest 0 X (fun r τ => ∃ x : Int32, r = some (.int x) ∧ zFr [16, 17] σ τ) 10 [(0, zf G 4), (1, .int (nI a)), (2, .int (nI w)), (3, .int b0), (4, .int (nI i))] [] τ) (fun _ τ => zFr [16, 17] σ τ) ?_ ?_ 0 σ (Nat.zero_le _) zFr.rf
  · intro i τ hi hI ih
    have ii := ix288 hw hi
    refine b_Play_takeGreatest_10 E (nI a) (nI w) b0 (nI i) τ ⟨fun q => absurd q (nI_ge hi (by decide)), fun _ => ⟨ii, fun _ => ?_, fun _ => ⟨ii, ia, fun _ => ?_, fun _ => ⟨ii, ia, ?_⟩⟩⟩⟩
    · rw [nI_1]; exact ih τ hI
    · rw [nI_1]; exact ih τ hI
    · rintro σ1 rfl
      refine ⟨ia, ?_⟩
      rintro σ2 rfl
      rw [nI_1]
      exact ih _ ((hI.up (by decide)).up (by decide))
  · intro τ hI
    exact b_Play_takeGreatest_10 E (nI a) (nI w) b0 (nI 12) τ ⟨fun _ => ⟨ia, fun _ => ⟨ia, _, rfl, hI⟩, fun _ => ⟨_, rfl, hI⟩⟩, fun q => absurd (by decide) q⟩
theorem s_Play_tryIn (G : zG) (σ : zSt) (a w : Nat) (ha : a < 12) (hw : w + 12 ≤ 288) : zI G 0 M_Play_tryIn [zf G 4, zf G 2, .int (nI a), .int (nI w)] σ (fun _ τ => zFr [16, 17] σ τ) := by
  refine zSpec.of (by decide) (Nat.le_of_ble_eq_true rfl) rfl (fun X E => ?_)
  have ia : vp_in (nI a) 12 := vp_in_nI ha (by decide)
  refine b_Play_tryIn_0 E (nI a) (nI w) σ ⟨ia, fun _ => ?_, fun _ => ⟨_, rfl, zFr.rf⟩⟩
  refine z_for 12 (fun i τ => zZ G M_Play_tryIn 0 X (fun r τ => ∃ x : Int32, r = some (.int x) ∧ zFr [16, 17] σ τ) 15 [(0, zf G 4), (1, zf G 2), (2, .int (nI a)), (3, .int (nI w)), (4, .int (nI i))] [] τ) (fun _ τ => zFr [16, 17] σ τ) ?_ ?_ 0 σ (Nat.zero_le _) zFr.rf
  · intro i τ hi hI ih
    have ii := ix288 hw hi
    have nx : zZ G M_Play_tryIn 0 X (fun r τ => ∃ x : Int32, r = some (.int x) ∧ zFr [16, 17] σ τ) 15 [(0, zf G 4), (1, zf G 2), (2, .int (nI a)), (3, .int (nI w)), (4, .int (nI i + 1))] [] τ := by rw [nI_1]; exact ih τ hI
    have en : ∀ x : Int32, ∃ y : Int32, some (Value.int x) = some (Value.int y) ∧ zFr [16, 17] σ τ := fun x => ⟨x, rfl, hI⟩
    exact b_Play_tryIn_15 E (nI a) (nI w) (nI i) τ ⟨fun q => absurd q (nI_ge hi (by decide)), fun _ => ⟨ii, ia, fun _ => ⟨fun _ => nx, fun _ => ⟨ia, fun _ => en _, fun _ => nx⟩⟩, fun _ => ⟨fun _ => ⟨fun _ => nx, fun _ => ⟨ia, fun _ => en _, fun _ => nx⟩⟩, fun _ => ⟨fun _ => nx, fun _ => ⟨ia, fun _ => en _, fun _ => en _⟩⟩⟩⟩⟩
  · intro τ hI
    refine b_Play_tryIn_15 E (nI a) (nI w) (nI 12) τ ⟨fun _ => ⟨ia, ?_⟩, fun q => absurd (by decide) q⟩
    rintro σ1 rfl
    exact ⟨_, rfl, hI.up (by decide)⟩
theorem s_Play_tryOut (G : zG) (σ : zSt) (a w : Nat) (ha : a < 12) (hw : w + 12 ≤ 288) : zI G 0 M_Play_tryOut [zf G 4, zf G 2, .int (nI a), .int (nI w)] σ (fun _ τ => zFr [16, 17] σ τ) := by
  refine zSpec.of (by decide) (Nat.le_of_ble_eq_true rfl) rfl (fun X E => ?_)
  have ia : vp_in (nI a) 12 := vp_in_nI ha (by decide)
  refine b_Play_tryOut_0 E (nI a) (nI w) σ ⟨ia, fun _ => ?_, fun _ => ⟨_, rfl, zFr.rf⟩⟩
  refine z_for 12 (fun i τ => zZ G M_Play_tryOut 0 X (fun r τ => ∃ x : Int32, r = some (.int x) ∧ zFr [16, 17] σ τ) 15 [(0, zf G 4), (1, zf G 2), (2, .int (nI a)), (3, .int (nI w)), (4, .int (nI i))] [] τ) (fun _ τ => zFr [16, 17] σ τ) ?_ ?_ 0 σ (Nat.zero_le _) zFr.rf
  · intro i τ hi hI ih
    have ii := ix288 hw hi
    refine b_Play_tryOut_15 E (nI a) (nI w) (nI i) τ ⟨fun q => absurd q (nI_ge hi (by decide)), fun _ => ⟨ii, fun _ => ?_, fun _ => ⟨ia, ?_⟩⟩⟩
    · rw [nI_1]; exact ih τ hI
    · rintro σ1 rfl
      refine ⟨ia, ?_⟩
      rintro σ2 rfl
      exact ⟨_, rfl, (hI.up (by decide)).up (by decide)⟩
  · intro τ hI
    exact b_Play_tryOut_15 E (nI a) (nI w) (nI 12) τ ⟨fun _ => ⟨ia, _, rfl, hI⟩, fun q => absurd (by decide) q⟩
theorem s_Play_takeLengths (G : zG) (σ : zSt) (a w : Nat) (ha : a < 12) (hw : w + 12 ≤ 288) : zI G 1 M_Play_takeLengths [zf G 4, zf G 2, .int (nI a), .int (nI w)] σ (fun _ τ => zFr [16, 17] σ τ) := by
  refine zSpec.of (by decide) (Nat.le_of_ble_eq_true rfl) rfl (fun X E => ?_)
  have ia : vp_in (nI a) 12 := vp_in_nI ha (by decide)
  refine b_Play_takeLengths_0 E (nI a) (nI w) σ ⟨ia, ?_⟩
  generalize σ 16 (nI a).toNatClampNeg = b0
  refine z_for 12 (fun i τ => zZ G M_Play_takeLengths 1 X (fun r τ => ∃ x : Int32, r = some (.int x) ∧ zFr [16, 17] σ τ) 11 [(0, zf G 4), (1, zf G 2), (2, .int (nI a)), (3, .int (nI w)), (4, .int b0), (5, .int (nI i))] [] τ) (fun _ τ => zFr [16, 17] σ τ) ?_ ?_ 0 σ (Nat.zero_le _) zFr.rf
  · intro i τ hi hI ih
    have ii := ix288 hw hi
    have tail : ∀ x y : Int32, zZ G M_Play_takeLengths 1 X (fun r τ => ∃ x : Int32, r = some (.int x) ∧ zFr [16, 17] σ τ) 70 [(0, zf G 4), (1, zf G 2), (2, .int (nI a)), (3, .int (nI w)), (4, .int b0), (5, .int (nI i)), (6, .int x), (7, .int y)] [] τ := by
      intro x y
      refine b_Play_takeLengths_70 E (nI a) (nI w) b0 (nI i) x y τ ⟨ii, fun _ => ?_, fun _ => ⟨fun _ => ?_, fun _ => ⟨ia, ?_⟩⟩⟩
      · rw [nI_1]; exact ih τ hI
      · rw [nI_1]; exact ih τ hI
      · rintro σ1 rfl
        refine ⟨ia, ?_⟩
        rintro σ2 rfl
        rw [nI_1]
        exact ih _ ((hI.up (by decide)).up (by decide))
    exact b_Play_takeLengths_11 E (nI a) (nI w) b0 (nI i) τ ⟨fun q => absurd q (nI_ge hi (by decide)), fun _ => ⟨ii, ix144 ha hi, ia, fun _ => tail _ _, fun _ => ⟨ia, fun _ => tail _ _, fun _ => tail _ _⟩⟩⟩
  · intro τ hI
    exact b_Play_takeLengths_11 E (nI a) (nI w) b0 (nI 12) τ ⟨fun _ => ⟨ia, fun _ => ⟨ia, _, rfl, hI⟩, fun _ => ⟨_, rfl, hI⟩⟩, fun q => absurd (by decide) q⟩
theorem s_Play_laterNote (G : zG) (σ : zSt) (a w : Nat) (r : Int32) (ha : a < 12) (hw : w + 12 ≤ 288) : zI G 2 M_Play_laterNote [zf G 4, zf G 2, .int (nI a), .int r, .int (nI w)] σ (fun _ τ => zFr [16, 17] σ τ) := by
  refine zSpec.of (by decide) (Nat.le_of_ble_eq_true rfl) rfl (fun X E => ?_)
  exact b_Play_laterNote_0 E (nI a) r (nI w) σ ⟨fun _ => ⟨_, s_Play_takeWave G σ a w ha hw, fun _ _ h => ⟨_, rfl, h⟩⟩, fun _ => ⟨_, s_Play_takeGreatest G σ a w ha hw, fun _ _ h => ⟨_, rfl, h⟩⟩, fun _ => ⟨fun _ => ⟨_, s_Play_tryOut G σ a w ha hw, fun _ _ h => ⟨_, rfl, h⟩⟩, fun _ => ⟨_, s_Play_tryIn G σ a w ha hw, fun _ _ h => ⟨_, rfl, h⟩⟩⟩, fun _ => ⟨_, s_Play_takeLengths G σ a w ha hw, fun _ _ h => ⟨_, rfl, h⟩⟩⟩
theorem s_Play_firstNote (G : zG) (σ : zSt) (a : Nat) (ha : a < 12) : zI G 0 M_Play_firstNote [zf G 4, zf G 2, .int (nI a)] σ (fun _ τ => τ = σ) := by
  refine zSpec.of (by decide) (Nat.le_of_ble_eq_true rfl) rfl (fun X E => ?_)
  have ia : vp_in (nI a) 12 := vp_in_nI ha (by decide)
  exact b_Play_firstNote_0 E (nI a) σ ⟨fun _ => ⟨fun _ => ⟨_, rfl, rfl⟩, fun _ => ⟨_, rfl, rfl⟩⟩, fun _ => ⟨fun _ => ⟨_, rfl, rfl⟩, fun _ => ⟨_, rfl, rfl⟩⟩, fun _ => ⟨ia, _, rfl, rfl⟩⟩
theorem s_Play_firstValue (G : zG) (σ : zSt) (a : Nat) (ha : a < 12) : zI G 0 M_Play_firstValue [zf G 4, zf G 2, .int (nI a)] σ (fun _ τ => τ = σ) := by
  refine zSpec.of (by decide) (Nat.le_of_ble_eq_true rfl) rfl (fun X E => ?_)
  have ia : vp_in (nI a) 12 := vp_in_nI ha (by decide)
  exact b_Play_firstValue_0 E (nI a) σ ⟨fun _ => ⟨ia, _, rfl, rfl⟩, fun _ => ⟨_, rfl, rfl⟩, fun _ => ⟨fun _ => ⟨_, rfl, rfl⟩, fun _ => ⟨_, rfl, rfl⟩⟩⟩
theorem s_Play_reset (G : zG) (σ : zSt) (p s : Int32) : zV G 1 M_Play_reset [zf G 4, zf G 2, .int p, .int s] σ (fun τ => zFr [4, 16, 17, 18] σ τ) := by
  refine zSpec.of (by decide) (Nat.le_of_ble_eq_true rfl) rfl (fun X E => ?_)
  refine b_Play_reset_0 E p s σ ?_
  rintro σ1 rfl σ2 rfl
  refine ⟨_, s_fill G 17 12 rfl (by decide) _ _, ?_⟩
  rintro σ3 rfl
  refine ⟨_, s_fill G 18 288 rfl (by decide) _ _, ?_⟩
  rintro σ4 rfl
  refine z_for 12 (fun i τ => zZ G M_Play_reset 1 X (fun r τ => r = none ∧ zFr [4, 16, 17, 18] σ τ) 31 [(0, zf G 4), (1, zf G 2), (4, .int (nI i))] [] τ) (fun _ τ => zFr [4, 16, 17, 18] σ τ) ?_ ?_ 0 _ (Nat.zero_le _) ((((zFr.rf.up (by decide)).up (by decide)).fill (by decide)).fill (by decide))
  · intro i τ hi hI ih
    refine b_Play_reset_31 E (nI i) τ ⟨fun q => absurd q (nI_ge hi (by decide)), fun _ => ⟨_, s_Play_firstValue G τ i hi, ?_⟩⟩
    rintro x σ1 rfl
    refine ⟨vp_in_nI hi (by decide), ?_⟩
    rintro σ3 rfl
    rw [nI_1]
    exact ih _ (hI.up (by decide))
  · intro τ hI
    exact b_Play_reset_31 E (nI 12) τ ⟨fun _ => ⟨rfl, hI⟩, fun q => absurd (by decide) q⟩
theorem noteRow_of (r : Int32) (a : Nat) : ∃ w, (r &&& 1) * 144 + nI a * 12 = nI (w * 144 + a * 12) ∧ w < 2 := by
  obtain ⟨j, hj, e⟩ := pk_andE r (m := 1) 1 (by decide)
  refine ⟨j, ?_, hj⟩
  rw [e, show (144 : Int32) = nI 144 from rfl, show (12 : Int32) = nI 12 from rfl, pk_mul, pk_mul, nI_add]
theorem s_Play_keepNote (G : zG) (σ : zSt) (a b : Nat) (r v : Int32) (ha : a < 12) (hb : b < 12) : zV G 1 M_Play_keepNote [zf G 4, .int (nI a), .int (nI b), .int r, .int v] σ (fun τ => zFr [18] σ τ) := by
  refine zSpec.of (by decide) (Nat.le_of_ble_eq_true rfl) rfl (fun X E => ?_)
  obtain ⟨w, e, hw⟩ := noteRow_of r b
  refine b_Play_keepNote_0 E (nI a) (nI b) r v σ ⟨by rw [e, nI_add]; exact vp_in_nI (by omega) (by decide), ?_⟩
  rintro σ1 rfl
  exact ⟨rfl, zFr.rf.up (by decide)⟩
theorem s_Play_doRound (G : zG) (σ : zSt) (a : Nat) (r : Int32) (ha : a < 12) : zI G 3 M_Play_doRound [zf G 4, zf G 2, .int (nI a), .int r] σ (fun _ τ => zFr [16, 17, 18] σ τ) := by
  refine zSpec.of (by decide) (Nat.le_of_ble_eq_true rfl) rfl (fun X E => ?_)
  obtain ⟨w, e, hw⟩ := noteRow_of (r - 1) a
  have tail : ∀ (x : Int32) (υ : zSt), zFr [16, 17, 18] σ υ → zZ G M_Play_doRound 3 X (fun r τ => ∃ x : Int32, r = some (.int x) ∧ zFr [16, 17, 18] σ τ) 37 [(0, zf G 4), (4, .int (nI (w * 144 + a * 12))), (5, .int x), (6, .int (0 : Int32))] [] υ := by
    intro x υ hυ
    refine z_for 12 (fun i τ => zZ G M_Play_doRound 3 X (fun r τ => ∃ x : Int32, r = some (.int x) ∧ zFr [16, 17, 18] σ τ) 37 [(0, zf G 4), (4, .int (nI (w * 144 + a * 12))), (5, .int x), (6, .int (nI i))] [] τ) (fun _ τ => zFr [16, 17, 18] σ τ) ?_ ?_ 0 υ (Nat.zero_le _) hυ
    · intro i τ hi hI ih
      refine b_Play_doRound_37 E (nI (w * 144 + a * 12)) x (nI i) τ ⟨fun q => absurd q (nI_ge hi (by decide)), fun _ => ⟨ix288 (by omega) hi, ?_⟩⟩
      rintro σ1 rfl
      rw [nI_1]
      exact ih _ (hI.up (by decide))
    · intro τ hI
      exact b_Play_doRound_37 E (nI (w * 144 + a * 12)) x (nI 12) τ ⟨fun _ => ⟨_, rfl, hI⟩, fun q => absurd (by decide) q⟩
  refine b_Play_doRound_0 E (nI a) r σ ⟨fun _ => ?_, fun _ => ?_⟩
  · rw [e]
    refine ⟨_, s_Play_laterNote G σ a _ r ha (by omega), fun x τ h => tail x τ (h.mono (by decide))⟩
  · refine ⟨_, s_Play_firstNote G σ a ha, ?_⟩
    rintro x τ rfl
    rw [e]
    exact tail x _ zFr.rf
