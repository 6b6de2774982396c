-- Net, and begin, link, mark
def nclear (σ : zSt) (v : Int32) : zSt := zfill (zfill (zfill (zup (zup σ 2 0 v) 2 1 0) 6 12 0) 7 12 0) 8 144 0
theorem s_Net_clear (G : zG) (σ : zSt) (v : Int32) : zV G 1 M_Net_clear [zf G 2, .int v] σ (fun τ => τ = nclear σ v) := by
  refine zSpec.of (by decide) (Nat.le_of_ble_eq_true rfl) rfl (fun X E => ?_)
  refine b_Net_clear_0 E v σ ?_
  rintro σ1 rfl σ2 rfl
  refine ⟨_, s_fill G 6 12 rfl (by decide) 0 _, ?_⟩
  rintro σ3 rfl
  refine ⟨_, s_fill G 7 12 rfl (by decide) 0 _, ?_⟩
  rintro σ4 rfl
  refine ⟨_, s_fill G 8 144 rfl (by decide) 0 _, ?_⟩
  rintro σ5 rfl
  exact ⟨rfl, rfl⟩
def njoin0 (σ : zSt) (a b : Nat) : zSt := if zIn (σ 7 a) (nI b) = true then σ else zup σ 2 1 ((σ 2 1) + 1)
def njoin (σ : zSt) (a b : Nat) (len : Int32) : zSt :=
  let σ1 := zup (njoin0 σ a b) 7 a ((njoin0 σ a b) 7 a ||| ((1 : Int32) <<< (nI b &&& 31)))
  let σ2 := zup σ1 7 b (σ1 7 b ||| ((1 : Int32) <<< (nI a &&& 31)))
  zup (zup σ2 8 (a * 12 + b) len) 8 (b * 12 + a) len
theorem s_Net_join (G : zG) (σ : zSt) (a b : Nat) (len : Int32) (ha : a < 12) (hb : b < 12) : zV G 1 M_Net_join [zf G 2, .int (nI a), .int (nI b), .int len] σ (fun τ => τ = njoin σ a b len) := by
  refine zSpec.of (by decide) (Nat.le_of_ble_eq_true rfl) rfl (fun X E => ?_)
  have ia : vp_in (nI a) 12 := vp_in_nI ha (by decide)
  have ib : vp_in (nI b) 12 := vp_in_nI hb (by decide)
  have iab : vp_in (nI a * 12 + nI b) 144 := by rw [zi12]; exact vp_in_nI (by omega) (by decide)
  have iba : vp_in (nI b * 12 + nI a) 144 := by rw [zi12]; exact vp_in_nI (by omega) (by decide)
  have ca : (nI a).toNatClampNeg = a := nI_clamp (by omega)
  have cb : (nI b).toNatClampNeg = b := nI_clamp (by omega)
  have cab : (nI a * 12 + nI b).toNatClampNeg = a * 12 + b := by rw [zi12]; exact nI_clamp (by omega)
  have cba : (nI b * 12 + nI a).toNatClampNeg = b * 12 + a := by rw [zi12]; exact nI_clamp (by omega)
  refine b_Net_join_0 E (nI a) (nI b) len σ ⟨ia, fun h => ⟨ia, ia, ?_⟩, fun h => ?_⟩
  · rintro σ1 rfl
    refine ⟨ib, ib, ?_⟩
    rintro σ2 rfl
    refine ⟨iab, ?_⟩
    rintro σ3 rfl
    refine ⟨iba, ?_⟩
    rintro σ4 rfl
    refine ⟨rfl, ?_⟩
    rw [ca] at h
    simp only [njoin, njoin0, h, ca, cb, cab, cba, if_true]
  · rintro σ5 rfl
    refine ⟨ia, ia, ?_⟩
    rintro σ1 rfl
    refine ⟨ib, ib, ?_⟩
    rintro σ2 rfl
    refine ⟨iab, ?_⟩
    rintro σ3 rfl
    refine ⟨iba, ?_⟩
    rintro σ4 rfl
    refine ⟨rfl, ?_⟩
    rw [ca] at h
    simp [njoin, njoin0, h, ca, cb, cab, cba]
theorem s_P_begin (G : zG) (σ : zSt) (v : Int32) : zI G 2 M_P_begin [zf G 0, .int v] σ (fun x τ => (x = -1 ∧ τ = σ ∧ (v < 1 ∨ ¬ v ≤ 12)) ∨ (x = 0 ∧ ¬ v < 1 ∧ v ≤ 12 ∧ τ = zup (nclear σ v) 0 1 0)) := by
  refine zSpec.of (by decide) (Nat.le_of_ble_eq_true rfl) rfl (fun X E => ?_)
  refine b_P_begin_0 E v σ ⟨fun h => ⟨_, rfl, Or.inl ⟨rfl, rfl, Or.inl h⟩⟩, fun h => ⟨fun h2 => ⟨_, s_Net_clear G σ v, ?_⟩, fun h2 => ⟨_, rfl, Or.inl ⟨rfl, rfl, Or.inr h2⟩⟩⟩⟩
  rintro σ1 rfl σ2 rfl
  exact ⟨_, rfl, Or.inr ⟨rfl, h, h2, rfl⟩⟩
theorem s_P_mark (G : zG) (σ : zSt) (n : Nat) (a v : Int32) (hn : σ 2 0 = nI n) (hle : n ≤ 12) : zI G 1 M_P_mark [zf G 0, .int a, .int v] σ (fun x τ => (x = -1 ∧ τ = σ ∧ (zHas σ a = false ∨ v < 0 ∨ ¬ v ≤ 99)) ∨ (∃ j, j < n ∧ a = nI j ∧ ¬ v < 0 ∧ v ≤ 99 ∧ x = σ 6 j ∧ τ = zup (zup σ 6 j v) 0 1 0)) := by
  refine zSpec.of (by decide) (Nat.le_of_ble_eq_true rfl) rfl (fun X E => ?_)
  refine b_P_mark_0 E a v σ ⟨fun h => ⟨_, rfl, Or.inl ⟨rfl, rfl, Or.inl h⟩⟩, fun h => ⟨fun h2 => ⟨_, rfl, Or.inl ⟨rfl, rfl, Or.inr (Or.inl h2)⟩⟩, fun h2 => ⟨fun h3 => ?_, fun h3 => ⟨_, rfl, Or.inl ⟨rfl, rfl, Or.inr (Or.inr h3)⟩⟩⟩⟩⟩
  obtain ⟨j, hj, rfl⟩ := zHas_of h hn hle
  have ij : vp_in (nI j) 12 := vp_in_nI (by omega) (by decide)
  have cj : (nI j).toNatClampNeg = j := nI_clamp (by omega)
  refine ⟨ij, ij, ?_⟩
  rintro σ1 rfl σ2 rfl
  exact ⟨_, rfl, Or.inr ⟨j, hj, rfl, h2, h3, by rw [cj], by rw [cj]⟩⟩
theorem s_P_link (G : zG) (σ : zSt) (n : Nat) (a b len : Int32) (hn : σ 2 0 = nI n) (hle : n ≤ 12) : zI G 2 M_P_link [zf G 0, .int a, .int b, .int len] σ (fun x τ => (x = -1 ∧ τ = σ ∧ (zHas σ a = false ∨ zHas σ b = false ∨ a = b ∨ len < 1 ∨ ¬ len ≤ 9)) ∨ (∃ i j, i < n ∧ j < n ∧ a = nI i ∧ b = nI j ∧ i ≠ j ∧ ¬ len < 1 ∧ len ≤ 9 ∧ τ = zup (njoin σ i j len) 0 1 0 ∧ x = τ 2 1)) := by
  refine zSpec.of (by decide) (Nat.le_of_ble_eq_true rfl) rfl (fun X E => ?_)
  refine b_P_link_0 E a b len σ ⟨fun h => ⟨_, rfl, Or.inl ⟨rfl, rfl, Or.inl h⟩⟩, fun h => ⟨fun h1 => ⟨_, rfl, Or.inl ⟨rfl, rfl, Or.inr (Or.inl h1)⟩⟩, fun h1 => ⟨fun h2 => ⟨_, rfl, Or.inl ⟨rfl, rfl, Or.inr (Or.inr (Or.inl h2))⟩⟩, fun h2 => ⟨fun h3 => ⟨_, rfl, Or.inl ⟨rfl, rfl, Or.inr (Or.inr (Or.inr (Or.inl h3)))⟩⟩, fun h3 => ⟨fun h4 => ?_, fun h4 => ⟨_, rfl, Or.inl ⟨rfl, rfl, Or.inr (Or.inr (Or.inr (Or.inr h4)))⟩⟩⟩⟩⟩⟩⟩
  obtain ⟨i, hi, rfl⟩ := zHas_of h hn hle
  obtain ⟨j, hj, rfl⟩ := zHas_of h1 hn hle
  refine ⟨_, s_Net_join G σ i j len (by omega) (by omega), ?_⟩
  rintro σ1 rfl σ2 rfl
  exact ⟨_, rfl, Or.inr ⟨i, j, hi, hj, rfl, rfl, fun e => h2 (by rw [e]), h3, h4, rfl, rfl⟩⟩
-- around, isConnected
def zAr (σ : zSt) (set : Int32) : Nat → Int32
  | 0 => 0
  | k + 1 => if zIn set (nI k) = true then zAr σ set k ||| σ 7 k else zAr σ set k
theorem s_Net_around (G : zG) (σ : zSt) (n : Nat) (set : Int32) (hn : σ 2 0 = nI n) (hle : n ≤ 12) : zI G 1 M_Net_around [zf G 2, .int set] σ (fun x τ => x = zAr σ set n ∧ τ = σ) := by
  refine zSpec.of (by decide) (Nat.le_of_ble_eq_true rfl) rfl (fun X E => ?_)
  refine b_Net_around_0 E set σ ?_
  refine z_for n (fun i (f : Int32) => zZ G M_Net_around 1 X (fun r τ => ∃ x : Int32, r = some (.int x) ∧ x = zAr σ set n ∧ τ = σ) 4 [(0, zf G 2), (1, .int set), (2, .int f), (3, .int (nI i))] [] σ) (fun i f => f = zAr σ set i) ?_ ?_ 0 0 (Nat.zero_le _) rfl
  · intro i f hi hI ih
    refine b_Net_around_4 E set f (nI i) σ ⟨fun q => absurd q (by rw [hn]; exact nI_ge hi (by omega)), fun _ => ⟨fun q => ?_, fun q => ⟨vp_in_nI (by omega) (by decide), ?_⟩⟩⟩
    · rw [nI_1]
      exact ih f (by rw [hI]; simp [zAr, q])
    · rw [nI_1]
      refine ih _ ?_
      rw [hI, nI_clamp (by omega)]
      simp [zAr, q]
  · intro f hI
    exact b_Net_around_4 E set f (nI n) σ ⟨fun _ => ⟨f, rfl, hI, rfl⟩, fun q => absurd (by rw [hn]; exact nI_le (Nat.le_refl n) (by omega)) q⟩
def zRe (σ : zSt) (n : Nat) : Nat → Int32
  | 0 => 1
  | k + 1 => zRe σ n k ||| zAr σ (zRe σ n k) n
theorem s_Net_isConnected (G : zG) (σ : zSt) (n : Nat) (hn : σ 2 0 = nI n) (h1 : 1 ≤ n) (hle : n ≤ 12) : zB G 2 M_Net_isConnected [zf G 2] σ (fun b τ => b = decide (zRe σ n (n - 1) = zAll (nI n)) ∧ τ = σ) := by
  refine zSpec.of (by decide) (Nat.le_of_ble_eq_true rfl) rfl (fun X E => ?_)
  refine b_Net_isConnected_0 E σ ?_
  refine z_for n (fun i (f : Int32) => zZ G M_Net_isConnected 2 X (fun r τ => ∃ b : Bool, r = some (.int (zb b)) ∧ b = decide (zRe σ n (n - 1) = zAll (nI n)) ∧ τ = σ) 4 [(0, zf G 2), (1, .int f), (2, .int (nI i))] [] σ) (fun i f => f = zRe σ n (i - 1) ∧ 1 ≤ i) ?_ ?_ 1 1 h1 ⟨rfl, Nat.le_refl 1⟩
  · intro i f hi hI ih
    refine b_Net_isConnected_4 E f (nI i) σ ⟨fun q => absurd q (by rw [hn]; exact nI_ge hi (by omega)), fun _ => ⟨_, s_Net_around G σ n f hn hle, ?_⟩⟩
    rintro x τ ⟨rfl, rfl⟩
    rw [nI_1]
    refine ih _ ⟨?_, by omega⟩
    obtain ⟨k, rfl⟩ : ∃ k, i = k + 1 := ⟨i - 1, by omega⟩
    rw [hI.1]
    rfl
  · intro f hI
    refine b_Net_isConnected_4 E f (nI n) σ ⟨fun _ => ⟨fun q => ⟨false, rfl, ?_, rfl⟩, fun q => ⟨true, rfl, ?_, rfl⟩⟩, fun q => absurd (by rw [hn]; exact nI_le (Nat.le_refl n) (by omega)) q⟩
    · rw [hn, hI.1] at q
      exact (decide_eq_false q).symm
    · rw [hn, hI.1] at q
      exact (decide_eq_true q).symm
