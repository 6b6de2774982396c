-- Frame: who is below whom; safety, and the two facts that the running needs
abbrev FFrame : List Nat := [3, 9, 10, 11, 12, 13, 14, 15]
/-- (a) who is in a 'below' has that upper and a level of one or more; (b) a leader of itself has level 0 -/
def TI (σ : zSt) : Prop := (∀ c u, c < 12 → u < 12 → zIn (σ 13 u) (nI c) = true → σ 10 c = nI u ∧ u ≠ c ∧ ∃ k, k < 13 ∧ σ 11 c = nI (k + 1)) ∧ (∀ c, c < 12 → σ 9 c = nI c → σ 11 c = 0)
def TreeOK (σ : zSt) : Prop := ∀ c u, c < 12 → u < 12 → zIn (σ 13 u) (nI c) = true → σ 10 c = nI u ∧ u ≠ c ∧ ¬ σ 9 c = nI c
theorem nI_ne_m2 {k : Nat} (hk : k < 1000) : ¬ nI k = (-2 : Int32) := by
  intro e
  have h1 := nI_toInt (n := k) (by omega)
  rw [e] at h1
  have h2 : ((-2 : Int32)).toInt = -2 := by decide
  omega
theorem TI.ok {σ : zSt} (h : TI σ) : TreeOK σ := by
  intro c u hc hu hz
  obtain ⟨h1, h0, k, hk, h2⟩ := h.1 c u hc hu hz
  refine ⟨h1, h0, fun e => ?_⟩
  have h3 := h.2 c hc e
  rw [h2] at h3
  exact nI_ne0 (by omega) (by omega) h3
theorem s_Frame_clear (G : zG) (σ : zSt) : zV G 1 M_Frame_clear [zf G 3] σ (fun τ => zFr FFrame σ τ ∧ TI τ ∧ (∀ c, c < 12 → τ 11 c = -2) ∧ (∀ u, u < 12 → τ 13 u = 0)) := by
  refine zSpec.of (by decide) (Nat.le_of_ble_eq_true rfl) rfl (fun X E => ?_)
  refine b_Frame_clear_0 E σ ?_
  rintro σ1 e1 σ2 e2
  refine ⟨_, s_fill G 9 12 rfl (by decide) _ _, fun σ3 e3 => ?_⟩
  refine ⟨_, s_fill G 10 12 rfl (by decide) _ _, fun σ4 e4 => ?_⟩
  refine ⟨_, s_fill G 11 12 rfl (by decide) _ _, fun σ5 e5 => ?_⟩
  refine ⟨_, s_fill G 12 12 rfl (by decide) _ _, fun σ6 e6 => ?_⟩
  refine ⟨_, s_fill G 13 12 rfl (by decide) _ _, fun σ7 e7 => ?_⟩
  refine ⟨_, s_fill G 14 12 rfl (by decide) _ _, fun σ8 e8 => ?_⟩
  refine ⟨_, s_fill G 15 12 rfl (by decide) _ _, fun σ9 e9 => ?_⟩
  have lv : ∀ c, c < 12 → σ9 11 c = -2 := fun c hc => by
    rw [e9, zfill_ne (by decide), e8, zfill_ne (by decide), e7, zfill_ne (by decide), e6, zfill_ne (by decide), e5]
    simp [zfill, hc]
  have ld : ∀ c, c < 12 → σ9 9 c = -2 := fun c hc => by
    rw [e9, zfill_ne (by decide), e8, zfill_ne (by decide), e7, zfill_ne (by decide), e6, zfill_ne (by decide), e5, zfill_ne (by decide), e4, zfill_ne (by decide), e3]
    simp [zfill, hc]
  have bl : ∀ u, u < 12 → σ9 13 u = 0 := fun c hc => by
    rw [e9, zfill_ne (by decide), e8, zfill_ne (by decide), e7]
    simp [zfill, hc]
  refine ⟨rfl, ?_, ⟨fun c u hc hu hz => ?_, fun c hc h9 => absurd (h9.symm.trans (ld c hc)) (nI_ne_m2 (by omega))⟩, lv, bl⟩
  · rw [e9, e8, e7, e6, e5, e4, e3, e2, e1]
    exact ((((((((zFr.rf.up (by decide)).up (by decide)).fill (by decide)).fill (by decide)).fill (by decide)).fill (by decide)).fill (by decide)).fill (by decide)).fill (by decide)
  · rw [bl u hu, zIn_0 (by omega)] at hz
    cases hz
theorem s_Frame_standAlone (G : zG) (σ : zSt) (n : Nat) (hn : σ 2 0 = nI n) (hle : n ≤ 12) (hb : ∀ u, u < 12 → σ 13 u = 0) : zV G 0 M_Frame_standAlone [zf G 3, zf G 2] σ (fun τ => zFr FFrame σ τ ∧ TreeOK τ ∧ ∀ u, u < 12 → τ 13 u = 0) := by
  refine zSpec.of (by decide) (Nat.le_of_ble_eq_true rfl) rfl (fun X E => ?_)
  refine b_Frame_standAlone_0 E σ ?_
  have hp : ∀ τ, zFr [9, 14] σ τ → zFr FFrame σ τ ∧ TreeOK τ ∧ ∀ u, u < 12 → τ 13 u = 0 := fun τ h => by
    have h13 : τ 13 = σ 13 := h 13 (by decide)
    refine ⟨h.mono (by decide), fun c u hc hu hz => ?_, fun u hu => by rw [h13]; exact hb u hu⟩
    rw [h13, hb u hu, zIn_0 (by omega)] at hz
    cases hz
  refine z_for n (fun i τ => zZ G M_Frame_standAlone 0 X (fun r τ => r = none ∧ zFr FFrame σ τ ∧ TreeOK τ ∧ ∀ u, u < 12 → τ 13 u = 0) 2 [(0, zf G 3), (1, zf G 2), (2, .int (nI i))] [] τ) (fun _ τ => zFr [9, 14] σ τ) ?_ ?_ 0 σ (Nat.zero_le _) zFr.rf
  · intro i τ hi hI ih
    have ii : vp_in (nI i) 12 := vp_in_nI (by omega) (by decide)
    refine b_Frame_standAlone_2 E (nI i) τ ⟨fun q => absurd q (by rw [hI 2 (by decide), hn]; exact nI_ge hi (by omega)), fun _ => ⟨ii, fun σ1 e1 => ⟨ii, ii, fun σ2 e2 => ?_⟩⟩⟩
    rw [nI_1]
    refine ih σ2 ?_
    rw [e2, e1]
    exact (hI.up (by decide)).up (by decide)
  · intro τ hI
    exact b_Frame_standAlone_2 E (nI n) τ ⟨fun _ => ⟨rfl, hp τ hI⟩, fun q => absurd (by rw [hI 2 (by decide), hn]; exact nI_le (Nat.le_refl n) (by omega)) q⟩
/-- hang: the node stays without a level, or it gets level k+1 and an upper; nothing else changes its level -/
theorem s_Frame_hang (G : zG) (σ : zSt) (n a k : Nat) (set : Int32) (hn : σ 2 0 = nI n) (hle : n ≤ 12) (ha : a < 12) (hk : k < 13) (hT : TI σ) (hl : σ 11 a = -2) : zV G 1 M_Frame_hang [zf G 3, zf G 2, .int (nI a), .int set, .int (nI k)] σ (fun τ => zFr [10, 11, 12, 13] σ τ ∧ TI τ ∧ ∀ c, c ≠ a → τ 11 c = σ 11 c) := by
  refine zSpec.of (by decide) (Nat.le_of_ble_eq_true rfl) rfl (fun X E => ?_)
  have ia : vp_in (nI a) 12 := vp_in_nI ha (by decide)
  refine b_Frame_hang_0 E (nI a) set (nI k) σ ⟨ia, ?_⟩
  generalize σ 7 (nI a).toNatClampNeg &&& set = cand
  refine z_for n (fun i (_ : Unit) => zZ G M_Frame_hang 1 X (fun r τ => r = none ∧ zFr [10, 11, 12, 13] σ τ ∧ TI τ ∧ ∀ c, c ≠ a → τ 11 c = σ 11 c) 13 [(0, zf G 3), (1, zf G 2), (2, .int (nI a)), (4, .int (nI k)), (5, .int cand), (6, .int (nI i))] [] σ) (fun _ _ => True) ?_ ?_ 0 () (Nat.zero_le _) trivial
  · intro i _ hi _ ih
    have ii : vp_in (nI i) 12 := vp_in_nI (by omega) (by decide)
    have ca : (nI a).toNatClampNeg = a := nI_clamp (by omega)
    have ci : (nI i).toNatClampNeg = i := nI_clamp (by omega)
    refine b_Frame_hang_13 E (nI a) (nI k) cand (nI i) σ ⟨fun q => absurd q (by rw [hn]; exact nI_ge hi (by omega)), fun _ => ⟨fun _ => by rw [nI_1]; exact ih () trivial, fun _ => ⟨ii, fun _ => by rw [nI_1]; exact ih () trivial, fun hlv => ⟨ia, fun σ1 e1 => ⟨ia, fun σ2 e2 => ⟨ia, fun σ3 e3 => ⟨ii, ii, fun σ4 e4 => ?_⟩⟩⟩⟩⟩⟩⟩
    rw [ca, nI_1] at e1
    rw [ca] at e2 e3
    rw [ci] at e4
    have a11 : ∀ c, σ4 11 c = if c = a then nI (k + 1) else σ 11 c := fun c => by
      rw [e4, zup_ne (by decide), e3, zup_ne (by decide), e2, zup_ne (by decide), e1, zup_self]
      simp [upd]
    have a10 : ∀ c, σ4 10 c = if c = a then nI i else σ 10 c := fun c => by
      rw [e4, zup_ne (by decide), e3, zup_ne (by decide), e2, zup_self, e1, zup_ne (by decide)]
      simp [upd]
    have a13 : ∀ u, σ4 13 u = if u = i then σ 13 i ||| ((1 : Int32) <<< (nI a &&& 31)) else σ 13 u := fun u => by
      have e0 : σ3 13 = σ 13 := by rw [e3, zup_ne (by decide), e2, zup_ne (by decide), e1, zup_ne (by decide)]
      rw [e4, zup_self, e0]
      simp [upd]
    have a9 : σ4 9 = σ 9 := by rw [e4, zup_ne (by decide), e3, zup_ne (by decide), e2, zup_ne (by decide), e1, zup_ne (by decide)]
    have na : ∀ u, u < 12 → zIn (σ 13 u) (nI a) = false := fun u hu => by
      cases hz : zIn (σ 13 u) (nI a) with
      | false => rfl
      | true =>
        obtain ⟨_, _, k2, hk2, h2⟩ := hT.1 a u ha hu hz
        rw [hl] at h2
        exact absurd h2.symm (nI_ne_m2 (by omega))
    refine ⟨rfl, ?_, ⟨fun c u hc hu hz => ?_, fun c hc h9 => ?_⟩, fun c hc => ?_⟩
    · rw [e4, e3, e2, e1]
      exact (((zFr.rf.up (by decide)).up (by decide)).up (by decide)).up (by decide)
    · rw [a10, a11]
      by_cases hca : c = a
      · subst hca
        simp only [if_true]
        have hic : i ≠ c := fun e => by
          rw [ci, e, hl] at hlv
          exact nI_ne_m2 (by omega) hlv.symm
        by_cases hui : u = i
        · exact ⟨by rw [hui], by rw [hui]; exact hic, k, hk, rfl⟩
        · rw [a13, if_neg hui, na u hu] at hz
          cases hz
      · simp only [hca, if_false]
        refine hT.1 c u hc hu ?_
        rw [a13] at hz
        by_cases hui : u = i
        · rw [if_pos hui, zIn_or _ _ (by omega), zIn_bit (by omega) (by omega), decide_eq_false hca, Bool.or_false] at hz
          rw [hui]; exact hz
        · rwa [if_neg hui] at hz
    · rw [a9] at h9
      rw [a11]
      by_cases hca : c = a
      · subst hca
        exact absurd ((hT.2 c hc h9).symm.trans hl) (by decide)
      · simp only [hca, if_false]
        exact hT.2 c hc h9
    · rw [a11, if_neg hc]
  · intro _ _
    exact b_Frame_hang_13 E (nI a) (nI k) cand (nI n) σ ⟨fun _ => ⟨rfl, zFr.rf, hT, fun _ _ => rfl⟩, fun q => absurd (by rw [hn]; exact nI_le (Nat.le_refl n) (by omega)) q⟩
/-- growTree: who is in the set gets the leader root; the levels of the others stay -/
theorem s_Frame_growTree (G : zG) (σ : zSt) (n root : Nat) (set : Int32) (hn : σ 2 0 = nI n) (hle : n ≤ 12) (hr : root < 12) (hT : TI σ) (hl : σ 11 root = -2) (hin : zIn set (nI root) = true) : zV G 2 M_Frame_growTree [zf G 3, zf G 2, .int set, .int (nI root)] σ (fun τ => zFr [9, 10, 11, 12, 13] σ τ ∧ TI τ ∧ (∀ c, c < 12 → zIn set (nI c) = false → τ 11 c = σ 11 c ∧ τ 9 c = σ 9 c) ∧ (∀ c, c < n → zIn set (nI c) = true → τ 9 c = nI root)) := by
  refine zSpec.of (by decide) (Nat.le_of_ble_eq_true rfl) rfl (fun X E => ?_)
  have ir : vp_in (nI root) 12 := vp_in_nI hr (by decide)
  have cr : (nI root).toNatClampNeg = root := nI_clamp (by omega)
  have nr : ∀ u, u < 12 → zIn (σ 13 u) (nI root) = false := fun u hu => by
    cases hz : zIn (σ 13 u) (nI root) with
    | false => rfl
    | true =>
      obtain ⟨_, _, k2, hk2, h2⟩ := hT.1 root u hr hu hz
      rw [hl] at h2
      exact absurd h2.symm (nI_ne_m2 (by omega))
  -- the invariant of the three loops
  let J : zSt → Prop := fun τ => zFr [9, 10, 11, 12, 13] σ τ ∧ TI τ ∧ τ 11 root = 0 ∧ (∀ c, c < 12 → zIn set (nI c) = false → τ 11 c = σ 11 c ∧ τ 9 c = σ 9 c)
  have hp : ∀ (i : Nat) (υ : zSt), i ≤ n → J υ → (∀ c, c < i → zIn set (nI c) = true → υ 9 c = nI root) → zZ G M_Frame_growTree 2 X (fun r τ => r = none ∧ zFr [9, 10, 11, 12, 13] σ τ ∧ TI τ ∧ (∀ c, c < 12 → zIn set (nI c) = false → τ 11 c = σ 11 c ∧ τ 9 c = σ 9 c) ∧ (∀ c, c < n → zIn set (nI c) = true → τ 9 c = nI root)) 84 [(0, zf G 3), (1, zf G 2), (2, .int set), (3, .int (nI root)), (4, .int (nI i))] [] υ := by
    intro i υ hi hJ hd
    refine z_for n (fun i τ => zZ G M_Frame_growTree 2 X (fun r τ => r = none ∧ zFr [9, 10, 11, 12, 13] σ τ ∧ TI τ ∧ (∀ c, c < 12 → zIn set (nI c) = false → τ 11 c = σ 11 c ∧ τ 9 c = σ 9 c) ∧ (∀ c, c < n → zIn set (nI c) = true → τ 9 c = nI root)) 84 [(0, zf G 3), (1, zf G 2), (2, .int set), (3, .int (nI root)), (4, .int (nI i))] [] τ) (fun i τ => J τ ∧ ∀ c, c < i → zIn set (nI c) = true → τ 9 c = nI root) ?_ ?_ i υ hi ⟨hJ, hd⟩
    · intro i τ hi ⟨hJ, hd⟩ ih
      have ii : vp_in (nI i) 12 := vp_in_nI (by omega) (by decide)
      have ci : (nI i).toNatClampNeg = i := nI_clamp (by omega)
      refine b_Frame_growTree_84 E set (nI root) (nI i) τ ⟨fun q => absurd q (by rw [hJ.1 2 (by decide), hn]; exact nI_ge hi (by omega)), fun _ => ⟨fun q => ?_, fun q => ⟨ii, fun σ1 e1 => ?_⟩⟩⟩
      · rw [nI_1]
        refine ih τ ⟨hJ, fun c hc hz => ?_⟩
        by_cases hci : c = i
        · subst hci; rw [q] at hz; cases hz
        · exact hd c (by omega) hz
      · rw [nI_1]
        rw [ci] at e1
        have a9 : ∀ c, σ1 9 c = if c = i then nI root else τ 9 c := fun c => by rw [e1, zup_self]; simp [upd]
        have a11 : σ1 11 = τ 11 := by rw [e1, zup_ne (by decide)]
        refine ih σ1 ⟨⟨by rw [e1]; exact hJ.1.up (by decide), ⟨fun c u hc hu hz => ?_, fun c hc h9 => ?_⟩, by rw [a11]; exact hJ.2.2.1, fun c hc hz => ?_⟩, fun c hc hz => ?_⟩
        · rw [e1, zup_ne (by decide)] at hz
          rw [a11, e1, zup_ne (by decide)]
          exact hJ.2.1.1 c u hc hu hz
        · rw [a11]
          rw [a9] at h9
          by_cases hci : c = i
          · rw [if_pos hci] at h9
            have : root = c := (nI_eq (by omega) (by omega)).mp h9
            rw [← this]; exact hJ.2.2.1
          · rw [if_neg hci] at h9
            exact hJ.2.1.2 c hc h9
        · have hci : c ≠ i := fun e => by rw [e, q] at hz; cases hz
          rw [a11, a9, if_neg hci]
          exact hJ.2.2.2 c hc hz
        · rw [a9]
          by_cases hci : c = i
          · rw [if_pos hci]
          · rw [if_neg hci]; exact hd c (by omega) hz
    · intro τ ⟨hJ, hd⟩
      exact b_Frame_growTree_84 E set (nI root) (nI n) τ ⟨fun _ => ⟨rfl, hJ.1, hJ.2.1, hJ.2.2.2, hd⟩, fun q => absurd (by rw [hJ.1 2 (by decide), hn]; exact nI_le (Nat.le_refl n) (by omega)) q⟩
  refine b_Frame_growTree_0 E set (nI root) σ ⟨ir, fun σ1 e1 => ⟨ir, fun σ2 e2 => ?_⟩⟩
  rw [cr] at e1 e2
  have a11 : ∀ c, σ2 11 c = if c = root then 0 else σ 11 c := fun c => by
    rw [e2, zup_ne (by decide), e1, zup_self]; simp [upd]
  have a9 : ∀ c, σ2 9 c = if c = root then nI root else σ 9 c := fun c => by
    rw [e2, zup_self, e1, zup_ne (by decide)]; simp [upd]
  have hJ0 : J σ2 := by
    refine ⟨by rw [e2, e1]; exact (zFr.rf.up (by decide)).up (by decide), ⟨fun c u hc hu hz => ?_, fun c hc h9 => ?_⟩, by rw [a11, if_pos rfl], fun c hc hz => ?_⟩
    · have hz' : zIn (σ 13 u) (nI c) = true := by rw [e2, zup_ne (by decide), e1, zup_ne (by decide)] at hz; exact hz
      have hcr : c ≠ root := fun e => by rw [e, nr u hu] at hz'; cases hz'
      rw [a11, if_neg hcr, e2, zup_ne (by decide), e1, zup_ne (by decide)]
      exact hT.1 c u hc hu hz'
    · rw [a9] at h9
      rw [a11]
      by_cases hcr : c = root
      · rw [if_pos hcr]
      · rw [if_neg hcr] at h9 ⊢
        exact hT.2 c hc h9
    · have hcr : c ≠ root := fun e => by rw [e, hin] at hz; cases hz
      rw [a11, a9, if_neg hcr, if_neg hcr]
      exact ⟨rfl, rfl⟩
  -- the levels
  refine z_for n (fun k τ => zZ G M_Frame_growTree 2 X (fun r τ => r = none ∧ zFr [9, 10, 11, 12, 13] σ τ ∧ TI τ ∧ (∀ c, c < 12 → zIn set (nI c) = false → τ 11 c = σ 11 c ∧ τ 9 c = σ 9 c) ∧ (∀ c, c < n → zIn set (nI c) = true → τ 9 c = nI root)) 17 [(0, zf G 3), (1, zf G 2), (2, .int set), (3, .int (nI root)), (4, .int (nI k))] [] τ) (fun _ τ => J τ) ?_ ?_ 0 σ2 (Nat.zero_le _) hJ0
  · intro k τ hk hJ ihk
    refine b_Frame_growTree_17 E set (nI root) (nI k) τ ⟨fun q => absurd q (by rw [hJ.1 2 (by decide), hn]; exact nI_ge hk (by omega)), fun _ => ?_⟩
    refine z_for n (fun i τ => zZ G M_Frame_growTree 2 X (fun r τ => r = none ∧ zFr [9, 10, 11, 12, 13] σ τ ∧ TI τ ∧ (∀ c, c < 12 → zIn set (nI c) = false → τ 11 c = σ 11 c ∧ τ 9 c = σ 9 c) ∧ (∀ c, c < n → zIn set (nI c) = true → τ 9 c = nI root)) 29 [(0, zf G 3), (1, zf G 2), (2, .int set), (3, .int (nI root)), (4, .int (nI k)), (5, .int (nI i))] [] τ) (fun _ τ => J τ) ?_ ?_ 0 τ (Nat.zero_le _) hJ
    · intro i τ hi hJ ih
      have ii : vp_in (nI i) 12 := vp_in_nI (by omega) (by decide)
      have ci : (nI i).toNatClampNeg = i := nI_clamp (by omega)
      refine b_Frame_growTree_29 E set (nI root) (nI k) (nI i) τ ⟨fun q => absurd q (by rw [hJ.1 2 (by decide), hn]; exact nI_ge hi (by omega)), fun _ => ⟨fun q => by rw [nI_1]; exact ih τ hJ, fun hz => ⟨ii, fun q => by rw [nI_1]; exact ih τ hJ, fun hlv => ?_⟩⟩⟩
      rw [ci] at hlv
      refine ⟨_, s_Frame_hang G τ n i k set (by rw [hJ.1 2 (by decide)]; exact hn) hle (by omega) (by omega) hJ.2.1 hlv, fun σ5 ⟨g1, g2, g3⟩ => ?_⟩
      rw [nI_1]
      refine ih σ5 ⟨hJ.1.tr (g1.mono (by decide)), g2, ?_, fun c hc hzc => ?_⟩
      · have hri : root ≠ i := fun e => by
          have h0 := hJ.2.2.1
          rw [e, hlv] at h0
          exact absurd h0 (by decide)
        rw [g3 root hri]; exact hJ.2.2.1
      · have hci : c ≠ i := fun e => by rw [e, hz] at hzc; cases hzc
        rw [g3 c hci, g1 9 (by decide)]
        exact hJ.2.2.2 c hc hzc
    · intro τ hJ
      refine b_Frame_growTree_29 E set (nI root) (nI k) (nI n) τ ⟨fun _ => by rw [nI_1]; exact ihk τ hJ, fun q => absurd (by rw [hJ.1 2 (by decide), hn]; exact nI_le (Nat.le_refl n) (by omega)) q⟩
  · intro τ hJ
    refine b_Frame_growTree_17 E set (nI root) (nI n) τ ⟨fun _ => hp 0 τ (Nat.zero_le _) hJ (fun c hc => absurd hc (Nat.not_lt_zero c)), fun q => absurd (by rw [hJ.1 2 (by decide), hn]; exact nI_le (Nat.le_refl n) (by omega)) q⟩
theorem s_Frame_clusterOf (G : zG) (σ : zSt) (n a : Nat) (free k : Int32) (hn : σ 2 0 = nI n) (hle : n ≤ 12) (ha : a < 12) : zI G 2 M_Frame_clusterOf [zf G 2, .int (nI a), .int free, .int k] σ (fun x τ => zIn x (nI a) = true ∧ τ = σ) := by
  refine zSpec.of (by decide) (Nat.le_of_ble_eq_true rfl) rfl (fun X E => ?_)
  refine b_Frame_clusterOf_0 E (nI a) free k σ ?_
  refine z_for n (fun i (x : Int32) => zZ G M_Frame_clusterOf 2 X (fun r τ => ∃ x : Int32, r = some (.int x) ∧ zIn x (nI a) = true ∧ τ = σ) 8 [(0, zf G 2), (2, .int free), (3, .int k), (4, .int x), (5, .int (nI i))] [] σ) (fun _ x => zIn x (nI a) = true) ?_ ?_ 0 _ (Nat.zero_le _) (by rw [zIn_bit (by omega) (by omega)]; simp)
  · intro i x hi hI ih
    refine b_Frame_clusterOf_8 E free k x (nI i) σ ⟨fun q => absurd q (by rw [hn]; exact nI_ge hi (by omega)), fun _ => ⟨_, s_Net_around G σ n x hn hle, ?_⟩⟩
    rintro y τ ⟨rfl, rfl⟩
    refine ⟨fun _ => ?_, fun _ => ⟨_, rfl, hI, rfl⟩⟩
    rw [nI_1]
    exact ih _ (by rw [zIn_or _ _ (by omega), hI, Bool.true_or])
  · intro x hI
    exact b_Frame_clusterOf_8 E free k x (nI n) σ ⟨fun _ => ⟨_, rfl, hI, rfl⟩, fun q => absurd (by rw [hn]; exact nI_le (Nat.le_refl n) (by omega)) q⟩
theorem s_Frame_makeClusters (G : zG) (σ : zSt) (n : Nat) (k : Int32) (hn : σ 2 0 = nI n) (hle : n ≤ 12) (hT : TI σ) (hl : ∀ c, c < 12 → σ 11 c = -2) : zV G 3 M_Frame_makeClusters [zf G 3, zf G 2, .int k] σ (fun τ => zFr FFrame σ τ ∧ TI τ ∧ ∀ c, c < n → ∃ j, j < 12 ∧ τ 9 c = nI j) := by
  refine zSpec.of (by decide) (Nat.le_of_ble_eq_true rfl) rfl (fun X E => ?_)
  refine b_Frame_makeClusters_0 E k σ (fun σ0 e0 => ?_)
  have h0 : ∀ c, c ≠ 3 → σ0 c = σ c := fun c hc => by rw [e0, zup_ne hc]
  refine z_for n (fun i (s : Int32 × zSt) => zZ G M_Frame_makeClusters 3 X (fun r τ => r = none ∧ zFr FFrame σ τ ∧ TI τ ∧ ∀ c, c < n → ∃ j, j < 12 ∧ τ 9 c = nI j) 13 [(0, zf G 3), (1, zf G 2), (2, .int k), (3, .int s.1), (4, .int (nI i))] [] s.2) (fun i s => zFr FFrame σ s.2 ∧ TI s.2 ∧ (∀ c, c < 12 → zIn s.1 (nI c) = true → s.2 11 c = -2) ∧ (∀ c, c < n → zIn s.1 (nI c) = false → c < i → ∃ j, j < 12 ∧ s.2 9 c = nI j) ∧ (∀ c, c < n → zIn s.1 (nI c) = false → i ≤ c → ∃ j, j < 12 ∧ s.2 9 c = nI j) ∧ (∀ c, c < i → zIn s.1 (nI c) = false)) ?_ ?_ 0 (zAll (σ 2 0), σ0) (Nat.zero_le _) ?_
  · intro i ⟨fr, τ⟩ hi ⟨g1, g2, g3, g4, g5, g6⟩ ih
    dsimp only at g1 g2 g3 g4 g5 g6
    have hn' : τ 2 0 = nI n := by rw [g1 2 (by decide)]; exact hn
    refine b_Frame_makeClusters_13 E k fr (nI i) τ ⟨fun q => absurd q (by rw [hn']; exact nI_ge hi (by omega)), fun _ => ⟨fun hz => ?_, fun hz => ⟨_, s_Frame_clusterOf G τ n i fr k hn' hle (by omega), ?_⟩⟩⟩
    · rw [nI_1]
      refine ih (fr, τ) ⟨g1, g2, g3, fun c hc hzc hci => ?_, fun c hc hzc hci => g5 c hc hzc (by omega), fun c hc => ?_⟩
      · rcases Nat.lt_or_ge c i with h | h
        · exact g4 c hc hzc h
        · exact g5 c hc hzc h
      · by_cases hci : c = i
        · rw [hci]; exact hz
        · exact g6 c (by omega)
    · rintro cl τ' ⟨hcl, rfl⟩ σ3 e3
      have hT3 : TI σ3 := by
        have e : ∀ c, c ≠ 3 → σ3 c = τ' c := fun c hc => by rw [e3, zup_ne hc]
        exact ⟨fun c u hc hu hz => by
          rw [e 13 (by decide)] at hz
          rw [e 10 (by decide), e 11 (by decide)]
          exact g2.1 c u hc hu hz, fun c hc h9 => by
          rw [e 9 (by decide)] at h9
          rw [e 11 (by decide)]
          exact g2.2 c hc h9⟩
      have e11 : σ3 11 = τ' 11 := by rw [e3, zup_ne (by decide)]
      have e9 : σ3 9 = τ' 9 := by rw [e3, zup_ne (by decide)]
      refine ⟨_, s_Frame_growTree G σ3 n i cl (by rw [e3, zup_ne (by decide)]; exact hn') hle (by omega) hT3 (by rw [e11]; exact g3 i (by omega) hz) hcl, ?_⟩
      rintro σ4 ⟨k1, k2, k3, k4⟩
      rw [nI_1]
      have led : ∀ c, c < n → zIn (fr &&& (cl ^^^ (-1 : Int32))) (nI c) = false → (zIn fr (nI c) = false → ∃ j, j < 12 ∧ τ' 9 c = nI j) → ∃ j, j < 12 ∧ σ4 9 c = nI j := by
        intro c hc hzc hold
        cases hin : zIn cl (nI c) with
        | true => exact ⟨i, by omega, k4 c hc hin⟩
        | false =>
          rw [(k3 c (by omega) hin).2, e9]
          apply hold
          rw [zIn_and _ _ (by omega), zIn_not _ (by omega), hin] at hzc
          simpa using hzc
      refine ih (fr &&& (cl ^^^ (-1 : Int32)), σ4) ⟨?_, k2, fun c hc hzc => ?_, fun c hc hzc hci => led c hc hzc ?_, fun c hc hzc hci => led c hc hzc ?_, fun c hc => ?_⟩
      · refine g1.tr ?_
        have h3 : zFr FFrame τ' σ3 := by rw [e3]; exact zFr.rf.up (by decide)
        exact h3.tr (k1.mono (by decide))
      · dsimp only at hzc ⊢
        rw [zIn_and _ _ (by omega), zIn_not _ (by omega)] at hzc
        have h1 : zIn fr (nI c) = true := by revert hzc; cases zIn fr (nI c) <;> simp
        have h2 : zIn cl (nI c) = false := by revert hzc; cases zIn cl (nI c) <;> simp
        rw [(k3 c hc h2).1, e11]
        exact g3 c hc h1
      · intro hf
        rcases Nat.lt_or_ge c i with h | h
        · exact g4 c hc hf h
        · exact g5 c hc hf h
      · intro hf
        exact g5 c hc hf (by omega)
      · dsimp only
        rw [zIn_and _ _ (by omega), zIn_not _ (by omega)]
        by_cases hci : c = i
        · rw [hci, hcl]; simp
        · rw [g6 c (by omega)]; simp
  · intro ⟨fr, τ⟩ ⟨g1, g2, g3, g4, g5, g6⟩
    dsimp only at g1 g2 g3 g4 g5 g6
    exact b_Frame_makeClusters_13 E k fr (nI n) τ ⟨fun _ => ⟨rfl, g1, g2, fun c hc => g4 c hc (g6 c hc) hc⟩, fun q => absurd (by rw [g1 2 (by decide), hn]; exact nI_le (Nat.le_refl n) (by omega)) q⟩
  · refine ⟨by rw [e0]; exact zFr.rf.up (by decide), ⟨fun c u hc hu hz => ?_, fun c hc h9 => ?_⟩, fun c hc _ => ?_, fun c _ _ hci => absurd hci (Nat.not_lt_zero c), fun c hc hz _ => ?_, fun c hc => absurd hc (Nat.not_lt_zero c)⟩
    · dsimp only at hz ⊢
      rw [h0 13 (by decide)] at hz
      rw [h0 10 (by decide), h0 11 (by decide)]
      exact hT.1 c u hc hu hz
    · dsimp only at h9 ⊢
      rw [h0 9 (by decide)] at h9
      rw [h0 11 (by decide)]
      exact hT.2 c hc h9
    · dsimp only
      rw [h0 11 (by decide)]; exact hl c hc
    · exfalso
      dsimp only at hz
      rw [hn] at hz
      have key : ∀ n, n < 13 → ∀ c, c < n → zIn (zAll (nI n)) (nI c) = true := by decide +kernel
      rw [key n (by omega) c hc] at hz
      cases hz
theorem s_Frame_choose (G : zG) (σ : zSt) (a b i j : Nat) (ha : a < 12) (hb : b < 12) (hi : i < 12) (hj : j < 12) (h1 : σ 9 a = nI i) (h2 : σ 9 b = nI j) : zV G 0 M_Frame_choose [zf G 3, .int (nI a), .int (nI b)] σ (fun τ => zFr [3, 14, 15] σ τ) := by
  refine zSpec.of (by decide) (Nat.le_of_ble_eq_true rfl) rfl (fun X E => ?_)
  have ia : vp_in (nI a) 12 := vp_in_nI ha (by decide)
  have ib : vp_in (nI b) 12 := vp_in_nI hb (by decide)
  have ca : (nI a).toNatClampNeg = a := nI_clamp (by omega)
  have cb : (nI b).toNatClampNeg = b := nI_clamp (by omega)
  have ii : vp_in (σ 9 (nI a).toNatClampNeg) 12 := by rw [ca, h1]; exact vp_in_nI hi (by decide)
  refine b_Frame_choose_0 E (nI a) (nI b) σ ⟨ia, ii, ib, ii, fun σ1 e1 => ?_⟩
  have ij : vp_in (σ1 9 (nI b).toNatClampNeg) 12 := by rw [e1, zup_ne (by decide), cb, h2]; exact vp_in_nI hj (by decide)
  refine ⟨ib, ij, ia, ij, fun σ2 e2 => ⟨ia, ia, fun σ3 e3 => ⟨ib, ib, fun σ4 e4 σ5 e5 => ⟨rfl, ?_⟩⟩⟩⟩
  rw [e5, e4, e3, e2, e1]
  exact ((((zFr.rf.up (by decide)).up (by decide)).up (by decide)).up (by decide)).up (by decide)
theorem s_Frame_chooseLinks (G : zG) (σ : zSt) (n : Nat) (hn : σ 2 0 = nI n) (hle : n ≤ 12) (hl : ∀ c, c < n → ∃ j, j < 12 ∧ σ 9 c = nI j) : zV G 1 M_Frame_chooseLinks [zf G 3, zf G 2] σ (fun τ => zFr [3, 14, 15] σ τ) := by
  refine zSpec.of (by decide) (Nat.le_of_ble_eq_true rfl) rfl (fun X E => ?_)
  refine b_Frame_chooseLinks_0 E σ ?_
  refine z_for n (fun i τ => zZ G M_Frame_chooseLinks 1 X (fun r τ => r = none ∧ zFr [3, 14, 15] σ τ) 2 [(0, zf G 3), (1, zf G 2), (2, .int (nI i))] [] τ) (fun _ τ => zFr [3, 14, 15] σ τ) ?_ ?_ 0 σ (Nat.zero_le _) zFr.rf
  · intro a τ ha hI iha
    refine b_Frame_chooseLinks_2 E (nI a) τ ⟨fun q => absurd q (by rw [hI 2 (by decide), hn]; exact nI_ge ha (by omega)), fun _ => ?_⟩
    rw [nI_1]
    refine z_for n (fun i τ => zZ G M_Frame_chooseLinks 1 X (fun r τ => r = none ∧ zFr [3, 14, 15] σ τ) 14 [(0, zf G 3), (1, zf G 2), (2, .int (nI a)), (3, .int (nI i))] [] τ) (fun _ τ => zFr [3, 14, 15] σ τ) ?_ ?_ (a + 1) τ (by omega) hI
    · intro b τ hb hI ih
      have ia : vp_in (nI a) 12 := vp_in_nI (by omega) (by decide)
      have ib : vp_in (nI b) 12 := vp_in_nI (by omega) (by decide)
      have ca : (nI a).toNatClampNeg = a := nI_clamp (by omega)
      have cb : (nI b).toNatClampNeg = b := nI_clamp (by omega)
      obtain ⟨i, hi, e1⟩ := hl a ha
      obtain ⟨j, hj, e2⟩ := hl b hb
      have nx : zZ G M_Frame_chooseLinks 1 X (fun r τ => r = none ∧ zFr [3, 14, 15] σ τ) 14 [(0, zf G 3), (1, zf G 2), (2, .int (nI a)), (3, .int (nI b + 1))] [] τ := by rw [nI_1]; exact ih τ hI
      refine b_Frame_chooseLinks_14 E (nI a) (nI b) τ ⟨fun q => absurd q (by rw [hI 2 (by decide), hn]; exact nI_ge hb (by omega)), fun _ => ⟨ia, ib, fun _ => nx, fun _ => ⟨ia, by rw [ca, hI 9 (by decide), e1]; exact vp_in_nI hi (by decide), ib, fun _ => nx, fun _ => ⟨ia, fun _ => nx, fun _ => ⟨_, s_Frame_choose G τ a b i j (by omega) (by omega) hi hj (by rw [hI 9 (by decide)]; exact e1) (by rw [hI 9 (by decide)]; exact e2), fun σ1 g1 => ?_⟩⟩⟩⟩⟩
      rw [nI_1]
      exact ih σ1 (hI.tr g1)
    · intro τ hI
      exact b_Frame_chooseLinks_14 E (nI a) (nI n) τ ⟨fun _ => by rw [nI_1]; exact iha τ hI, fun q => absurd (by rw [hI 2 (by decide), hn]; exact nI_le (Nat.le_refl n) (by omega)) q⟩
  · intro τ hI
    exact b_Frame_chooseLinks_2 E (nI n) τ ⟨fun _ => ⟨rfl, hI⟩, fun q => absurd (by rw [hI 2 (by decide), hn]; exact nI_le (Nat.le_refl n) (by omega)) q⟩
theorem s_Frame_setUp (G : zG) (σ : zSt) (n s : Nat) (way k : Int32) (hn : σ 2 0 = nI n) (hle : n ≤ 12) (hs : s < n) : zV G 4 M_Frame_setUp [zf G 3, zf G 2, .int way, .int (nI s), .int k] σ (fun τ => zFr FFrame σ τ ∧ TreeOK τ ∧ (way = 0 → ∀ u, u < 12 → τ 13 u = 0)) := by
  refine zSpec.of (by decide) (Nat.le_of_ble_eq_true rfl) rfl (fun X E => ?_)
  refine b_Frame_setUp_0 E way (nI s) k σ ⟨_, s_Frame_clear G σ, fun σ1 ⟨g1, g2, g3, g4⟩ => ?_⟩
  have hn1 : σ1 2 0 = nI n := by rw [g1 2 (by decide)]; exact hn
  refine ⟨fun hw => ⟨fun _ => ?_, fun _ => ?_⟩, fun _ => ?_⟩
  · refine ⟨_, s_Frame_makeClusters G σ1 n k hn1 hle g2 g3, fun σ2 ⟨k1, k2, k3⟩ => ?_⟩
    refine ⟨_, s_Frame_chooseLinks G σ2 n (by rw [k1 2 (by decide)]; exact hn1) hle k3, fun σ3 m1 => ⟨rfl, (g1.tr k1).tr (m1.mono (by decide)), fun c u hc hu hz => ?_, fun e => absurd e hw⟩⟩
    rw [m1 13 (by decide)] at hz
    rw [m1 10 (by decide), m1 9 (by decide)]
    exact k2.ok c u hc hu hz
  · rw [hn1]
    have key : ∀ n, n < 13 → ∀ c, c < n → zIn (zAll (nI n)) (nI c) = true := by decide +kernel
    refine ⟨_, s_Frame_growTree G σ1 n s (zAll (nI n)) hn1 hle (by omega) g2 (g3 s (by omega)) (key n (by omega) s hs), fun σ2 ⟨k1, k2, _, _⟩ => ⟨rfl, g1.tr (k1.mono (by decide)), k2.ok, fun e => absurd e hw⟩⟩
  · exact ⟨_, s_Frame_standAlone G σ1 n hn1 hle g4, fun σ2 ⟨k1, k2, k3⟩ => ⟨rfl, g1.tr k1, k2, fun _ => k3⟩⟩
