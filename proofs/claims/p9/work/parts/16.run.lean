-- Course: rounds, letters, GOs
def CS (σ : zSt) (n R : Nat) : Prop := σ 2 0 = nI n ∧ 1 ≤ n ∧ n ≤ 12 ∧ σ 1 5 = nI R ∧ 1 ≤ R ∧ R ≤ 20 ∧ TreeOK σ ∧ (σ 1 4 = 0 → ∀ u, u < 12 → σ 13 u = 0)
def CD (σ : zSt) (R : Nat) (rd : Nat → Nat) (l : List Lt) : Prop := (∀ a, a < 12 → σ 24 a = nI (rd a) ∧ rd a ≤ R) ∧ PV σ l ∧ LI l
/-- a node with an upper has had as many rounds, and GOs that wait, as its upper has sent -/
def GI (bl : Nat → Int32) (rd : Nat → Nat) (l : List Lt) : Prop := ∀ c, c < 12 → (∀ u, u < 12 → zIn (bl u) (nI c) = true → gos l c + (rd c - 1) ≤ rd u - 1) ∧ ((∀ u, u < 12 → zIn (bl u) (nI c) = false) → gos l c = 0)
def rup (rd : Nat → Nat) (a v : Nat) : Nat → Nat := fun b => if b = a then v else rd b
theorem CS.of {σ τ : zSt} {n R : Nat} (h : CS σ n R) (hF : RF FR σ τ) : CS τ n R := by
  obtain ⟨h1, h2, h3, h4, h5, h6, h7, h8⟩ := h
  have e13 : τ 13 = σ 13 := hF.at (by decide)
  have e10 : τ 10 = σ 10 := hF.at (by decide)
  have e9 : τ 9 = σ 9 := hF.at (by decide)
  refine ⟨by rw [hF.at (by decide)]; exact h1, h2, h3, by rw [hF.2.2]; exact h4, h5, h6, fun c u hc hu hz => ?_, fun hw u hu => ?_⟩
  · rw [e13] at hz
    rw [e10, e9]
    exact h7 c u hc hu hz
  · rw [hF.2.1] at hw
    rw [e13]
    exact h8 hw u hu
theorem GI.less {bl : Nat → Int32} {rd : Nat → Nat} {l l' : List Lt} (h : GI bl rd l) (hg : ∀ c, c < 12 → gos l' c ≤ gos l c) : GI bl rd l' := by
  intro c hc
  have h1 := h c hc
  have h2 := hg c hc
  refine ⟨fun u hu hz => ?_, fun hz => ?_⟩
  · have := h1.1 u hu hz
    omega
  · have := h1.2 hz
    omega
theorem GI.enter {σ : zSt} {rd : Nat → Nat} {l l' : List Lt} {a : Nat} (hT : TreeOK σ) (h : GI (σ 13) rd l) (ha : a < 12) (hu : ∀ u, u < 12 → zIn (σ 13 u) (nI a) = true → gos l a + rd a ≤ rd u - 1)
    (hg : ∀ c, c < 12 → gos l' c ≤ gos l c + (if 1 ≤ rd a ∧ zIn (σ 13 a) (nI c) = true then 1 else 0)) : GI (σ 13) (rup rd a (rd a + 1)) l' := by
  intro c hc
  have h1 := h c hc
  have h2 := hg c hc
  refine ⟨fun u hu' hz => ?_, fun hz => ?_⟩
  · obtain ⟨t1, t2, t3⟩ := hT c u hc hu' hz
    by_cases hca : c = a
    · subst hca
      have h3 : ¬ (1 ≤ rd c ∧ zIn (σ 13 c) (nI c) = true) := fun h => (hT c c hc hc h.2).2.1 rfl
      rw [if_neg h3] at h2
      have h4 := hu u hu' hz
      simp only [rup, if_true, if_neg t2]
      omega
    · have h4 := h1.1 u hu' hz
      simp only [rup, if_neg hca]
      by_cases hua : u = a
      · subst hua
        simp only [if_true]
        by_cases hr : 1 ≤ rd u
        · rw [if_pos ⟨hr, hz⟩] at h2; omega
        · rw [if_neg (fun h => hr h.1)] at h2; omega
      · have h5 : ¬ (1 ≤ rd a ∧ zIn (σ 13 a) (nI c) = true) := fun h => by
          have t4 := (hT c a hc ha h.2).1
          rw [t1] at t4
          exact hua ((nI_eq (by omega) (by omega)).mp t4)
        rw [if_neg h5] at h2
        simp only [if_neg hua]
        omega
  · have h3 : ¬ (1 ≤ rd a ∧ zIn (σ 13 a) (nI c) = true) := fun h => by
      rw [hz a ha] at h; cases h.2
    rw [if_neg h3] at h2
    have := h1.2 hz
    omega
theorem s_Course_enterNext (G : zG) (σ : zSt) (n R a : Nat) (rd : Nat → Nat) (l : List Lt) (hS : CS σ n R) (hD : CD σ R rd l) (ha : a < 12) (hr : rd a < R) : zV G 4 M_Course_enterNext [zf G 1, .int (nI a)] σ (fun τ => RF FR σ τ ∧ ∃ l', CD τ R (rup rd a (rd a + 1)) l' ∧ ∀ c, c < 12 → gos l' c ≤ gos l c + (if 1 ≤ rd a ∧ zIn (σ 13 a) (nI c) = true then 1 else 0)) := by
  refine zSpec.of (by decide) (Nat.le_of_ble_eq_true rfl) rfl (fun X E => ?_)
  have ia : vp_in (nI a) 12 := vp_in_nI ha (by decide)
  have ca : (nI a).toNatClampNeg = a := nI_clamp (by omega)
  obtain ⟨s1, s2, s3, s4, s5, s6, s7, s8⟩ := hS
  obtain ⟨d1, d2, d3⟩ := hD
  have e24 : σ 24 (nI a).toNatClampNeg + (1 : Int32) = nI (rd a + 1) := by rw [ca, (d1 a ha).1, nI_1]
  -- the second half
  have half : ∀ (υ : zSt) (l1 : List Lt), RF FR σ υ → PV υ l1 → LI l1 → (∀ b, b < 12 → υ 24 b = nI (rup rd a (rd a + 1) b)) → (∀ c, c < 12 → gos l1 c ≤ gos l c + (if 1 ≤ rd a ∧ zIn (σ 13 a) (nI c) = true then 1 else 0)) →
      zZ G M_Course_enterNext 4 X (fun r τ => r = none ∧ RF FR σ τ ∧ ∃ l', CD τ R (rup rd a (rd a + 1)) l' ∧ ∀ c, c < 12 → gos l' c ≤ gos l c + (if 1 ≤ rd a ∧ zIn (σ 13 a) (nI c) = true then 1 else 0)) 74 [(0, zf G 1), (1, .int (nI a)), (2, .int (nI (rd a + 1)))] [] υ := by
    intro υ l1 hF hP hL h24 hg
    have fin : ∀ (τ : zSt) (l2 : List Lt), RF FR σ τ → PV τ l2 → LI l2 → τ 24 = υ 24 → (∀ c, c < 12 → gos l2 c ≤ gos l1 c) → (none : Option Value) = none ∧ RF FR σ τ ∧ ∃ l', CD τ R (rup rd a (rd a + 1)) l' ∧ ∀ c, c < 12 → gos l' c ≤ gos l c + (if 1 ≤ rd a ∧ zIn (σ 13 a) (nI c) = true then 1 else 0) := by
      intro τ l2 h1 h2 h3 h4 h5
      refine ⟨rfl, h1, l2, ⟨fun b hb => ⟨by rw [h4]; exact h24 b hb, ?_⟩, h2, h3⟩, fun c hc => Nat.le_trans (h5 c hc) (hg c hc)⟩
      unfold rup
      by_cases hba : b = a
      · rw [if_pos hba]; omega
      · rw [if_neg hba]; exact (d1 b hb).2
    refine b_Course_enterNext_74 E (nI a) (nI (rd a + 1)) υ ⟨_, s_Play_doRound G υ a _ ha, fun x σ1 g1 => ⟨ia, by rw [zi12]; exact vp_in_nI (by omega) (by decide), fun σ3 e3 => ?_⟩⟩
    have hF3 : RF FR σ σ3 := by
      refine RF.tr (τ := σ1) (hF.tr ((RF.of g1 (by decide)).mono (by decide))) ?_
      rw [e3]; exact RF.rf.up (by decide) (by decide)
    have hP3 : PV σ3 l1 := hP.of (fun c hc => by
      have hc30 : c ≠ 30 := fun e => by rw [e] at hc; revert hc; decide
      rw [e3, zup_ne hc30]
      exact g1 c (fun h => by revert hc; revert h; simp only [List.mem_cons, List.not_mem_nil, or_false]; omega))
    have h324 : σ3 24 = υ 24 := by rw [e3, zup_ne (by decide), g1 24 (by decide)]
    refine ⟨fun _ => fin σ3 l1 hF3 hP3 hL h324 (fun _ _ => Nat.le_refl _), fun _ => ⟨ia, ia, fun σ4 e4 => ?_⟩⟩
    refine ⟨ia, _, s_Course_send' G σ4 n a l1 0 _ _ _ (by rw [e4, zup_ne (by decide), hF3.at (by decide)]; exact s1) s3 ha (by decide) ⟨l1, hP3.of (fun c hc => by
      have hc26 : c ≠ 26 := fun e => by rw [e] at hc; revert hc; decide
      rw [e4, zup_ne hc26]), hL, fun _ _ => Nat.le_refl _⟩, fun σ5 ⟨k1, l2, k2, k3, k4⟩ => ?_⟩
    refine fin σ5 l2 ?_ k2 k3 ?_ k4
    · refine RF.tr (τ := σ4) ?_ (k1.mono (by decide))
      rw [e4]; exact hF3.up (by decide) (by decide)
    · rw [k1.at (by decide), e4, zup_ne (by decide), h324]
  refine b_Course_enterNext_0 E (nI a) σ ⟨ia, ia, fun σ1 e1 => ⟨ia, fun σ2 e2 => ⟨ia, fun σ3 e3 => ⟨ia, fun σ4 e4 => ⟨par12 _ ha, fun σ5 e5 => ?_⟩⟩⟩⟩⟩
  rw [e24, ca] at e1
  have hF5 : RF FR σ σ5 := by
    rw [e5, e4, e3, e2, e1]
    exact ((((RF.rf.up (by decide) (by decide)).up (by decide) (by decide)).up (by decide) (by decide)).up (by decide) (by decide)).up (by decide) (by decide)
  have h5 : ∀ c, c ≠ 24 → c ≠ 25 → c ≠ 27 → c ≠ 28 → c ≠ 29 → σ5 c = σ c := fun c a1 a2 a3 a4 a5 => by
    rw [e5, zup_ne a5, e4, zup_ne a4, e3, zup_ne a3, e2, zup_ne a2, e1, zup_ne a1]
  have hP5 : PV σ5 l := d2.of (fun c hc => by
    apply h5 <;> (intro e; rw [e] at hc; revert hc; decide))
  have h24 : ∀ b, b < 12 → σ5 24 b = nI (rup rd a (rd a + 1) b) := fun b hb => by
    rw [e5, zup_ne (by decide), e4, zup_ne (by decide), e3, zup_ne (by decide), e2, zup_ne (by decide), e1, zup_self]
    unfold rup upd
    by_cases hba : b = a
    · rw [if_pos hba, if_pos hba]
    · rw [if_neg hba, if_neg hba]; exact (d1 b hb).1
  rw [e24]
  refine ⟨fun _ => half σ5 l hF5 hP5 d3 h24 (fun c _ => Nat.le_add_right _ _), fun hq => ⟨ia, _, s_Course_send G σ5 n a l 4 _ _ _ (by rw [hF5.at (by decide)]; exact s1) s3 ha hP5 d3, fun σ6 ⟨k1, l', k2, k3, k4⟩ => half σ6 l' (hF5.tr (k1.mono (by decide))) k2 k3 (fun b hb => by rw [k1.at (by decide)]; exact h24 b hb) (fun c hc => ?_)⟩⟩
  have hra : 1 ≤ rd a := by
    rcases Nat.lt_or_ge (rd a) 1 with h | h
    · exact absurd (nI_le (show rd a + 1 ≤ 1 by omega) (by decide)) hq
    · exact h
  refine Nat.le_trans (k4 c hc) ?_
  rw [ca, h5 13 (by decide) (by decide) (by decide) (by decide) (by decide)]
  by_cases hz : zIn (σ 13 a) (nI c) = true
  · rw [if_pos ⟨rfl, hz⟩, if_pos ⟨hra, hz⟩]; exact Nat.le_refl _
  · rw [if_neg (fun h => hz h.2), if_neg (fun h => hz h.2)]; exact Nat.le_refl _
/-- a state in the middle of a run -/
def RN (σ : zSt) (R : Nat) (rd : Nat → Nat) : Prop := ∃ l, CD σ R rd l ∧ GI (σ 13) rd l
theorem s_Course_push (G : zG) (σ : zSt) (n R a : Nat) (rd : Nat → Nat) (hS : CS σ n R) (hN : RN σ R rd) (ha : a < 12) : zV G 5 M_Course_push [zf G 1, .int (nI a)] σ (fun τ => RF FR σ τ ∧ ∃ rd', RN τ R rd' ∧ ∀ b, b ≠ a → rd' b = rd b) := by
  refine zSpec.of (by decide) (Nat.le_of_ble_eq_true rfl) rfl (fun X E => ?_)
  have ia : vp_in (nI a) 12 := vp_in_nI ha (by decide)
  have ca : (nI a).toNatClampNeg = a := nI_clamp (by omega)
  refine b_Course_push_0 E (nI a) σ ?_
  refine z_for R (fun i τ => zZ G M_Course_push 5 X (fun r τ => r = none ∧ RF FR σ τ ∧ ∃ rd', RN τ R rd' ∧ ∀ b, b ≠ a → rd' b = rd b) 2 [(0, zf G 1), (1, .int (nI a)), (2, .int (nI i))] [] τ) (fun _ τ => RF FR σ τ ∧ ∃ rd', RN τ R rd' ∧ ∀ b, b ≠ a → rd' b = rd b) ?_ ?_ 0 σ (Nat.zero_le _) ⟨RF.rf, rd, hN, fun _ _ => rfl⟩
  · intro i τ hi ⟨hF, rd1, ⟨l, hD, hG⟩, hrd⟩ ih
    have hSτ := hS.of hF
    obtain ⟨s1, s2, s3, s4, s5, s6, s7, s8⟩ := hSτ
    have hK : KP l τ := ⟨l, hD.2.1, hD.2.2, fun _ _ => Nat.le_refl _⟩
    -- behind a keep..: the end of the turn
    have tail : ∀ (b : Bool) (υ : zSt), RF (25 :: FPool) τ υ → KP l υ → (b = true → ∀ u, u < 12 → zIn (τ 13 u) (nI a) = false) →
        ((b = false → (none : Option Value) = none ∧ RF FR σ υ ∧ ∃ rd', RN υ R rd' ∧ ∀ b, b ≠ a → rd' b = rd b) ∧ (b = true → (vp_in (nI a) 12 ∧ (((υ 24 (nI a).toNatClampNeg) < (υ 1 5) → (∃ P : zSt → Prop, zV G 4 M_Course_enterNext [zf G 1, .int (nI a)] υ P ∧ ∀ σ3 : zSt, P σ3 → zZ G M_Course_push 5 X (fun r τ => r = none ∧ RF FR σ τ ∧ ∃ rd', RN τ R rd' ∧ ∀ b, b ≠ a → rd' b = rd b) 2 [(0, zf G 1), (1, .int (nI a)), (2, .int (nI i + 1))] [] σ3)) ∧ (¬ (υ 24 (nI a).toNatClampNeg) < (υ 1 5) → (none : Option Value) = none ∧ RF FR σ υ ∧ ∃ rd', RN υ R rd' ∧ ∀ b, b ≠ a → rd' b = rd b))))) := by
      intro b υ g1 ⟨l1, p1, p2, p3⟩ hb
      have hFυ : RF FR σ υ := hF.tr (g1.mono (by decide))
      have e13 : υ 13 = τ 13 := g1.at (by decide)
      have e24 : υ 24 = τ 24 := g1.at (by decide)
      have hDυ : CD υ R rd1 l1 := ⟨fun c hc => by rw [e24]; exact hD.1 c hc, p1, p2⟩
      have hGυ : GI (υ 13) rd1 l1 := by rw [e13]; exact hG.less p3
      have en : (none : Option Value) = none ∧ RF FR σ υ ∧ ∃ rd', RN υ R rd' ∧ ∀ b, b ≠ a → rd' b = rd b := ⟨rfl, hFυ, rd1, ⟨l1, hDυ, hGυ⟩, hrd⟩
      refine ⟨fun _ => en, fun hbt => ⟨ia, fun hlt => ?_, fun _ => en⟩⟩
      have hSυ := hS.of hFυ
      have hr : rd1 a < R := by
        rw [ca, (hDυ.1 a ha).1, hSυ.2.2.2.1] at hlt
        exact (nI_ltI (by have := (hDυ.1 a ha).2; omega) (by omega)).mp hlt
      refine ⟨_, s_Course_enterNext G υ n R a rd1 l1 hSυ hDυ ha hr, fun σ3 ⟨k1, l', k2, k3⟩ => ?_⟩
      rw [nI_1]
      refine ih σ3 ⟨hFυ.tr k1, rup rd1 a (rd1 a + 1), ⟨l', k2, ?_⟩, fun b hba => ?_⟩
      · rw [k1.at (by decide)]
        refine GI.enter hSυ.2.2.2.2.2.2.1 hGυ ha (fun u hu hz => ?_) k3
        rw [e13, hb hbt u hu] at hz
        cases hz
      · unfold rup; rw [if_neg hba]; exact hrd b hba
    have notIn : τ 9 a = nI a → ∀ u, u < 12 → zIn (τ 13 u) (nI a) = false := fun h9 u hu => by
      cases hz : zIn (τ 13 u) (nI a) with
      | false => rfl
      | true => exact absurd h9 (s7 a u ha hu hz).2.2
    refine b_Course_push_2 E (nI a) (nI i) τ ⟨fun q => absurd q (by rw [s4]; exact nI_ge hi (by omega)), fun _ => ⟨fun _ => ⟨fun _ => ⟨_, s_Course_keepInClusters G τ n a l s1 s3 ha hK, fun b υ ⟨g1, g2, g3⟩ => tail b υ g1 g2 (fun h => notIn (by rw [← g1.at (c := 9) (by decide)]; exact g3 h))⟩, fun _ => ⟨_, s_Course_keepInTree G τ n a l s1 s3 ha hK, fun b υ ⟨g1, g2, g3⟩ => tail b υ g1 g2 (fun h => notIn (by rw [← g1.at (c := 9) (by decide)]; exact g3 h))⟩⟩, fun hw => ⟨_, s_Course_keepWithAll G τ n a l s1 s3 ha hK, fun b υ ⟨g1, g2⟩ => tail b υ g1 g2 (fun _ u hu => by rw [s8 hw u hu]; exact zIn_0 (by omega))⟩⟩⟩
  · intro τ ⟨hF, h⟩
    exact b_Course_push_2 E (nI a) (nI R) τ ⟨fun _ => ⟨rfl, hF, h⟩, fun q => absurd (by rw [(hS.of hF).2.2.2.1]; exact nI_le (Nat.le_refl R) (by have := hS.2.2.2.2.2.1; omega)) q⟩
