section
-- Course: the running; which cells change, the letters' list, how many GOs wait
abbrev FR : List Nat := [5, 16, 17, 18, 19, 20, 21, 22, 23, 24, 25, 26, 27, 28, 29, 30]
/-- only the cells of L and the two counts of letters change -/
def RF (L : List Nat) (σ τ : zSt) : Prop := zFr (1 :: L) σ τ ∧ τ 1 4 = σ 1 4 ∧ τ 1 5 = σ 1 5
theorem RF.rf {L : List Nat} {σ : zSt} : RF L σ σ := ⟨zFr.rf, rfl, rfl⟩
theorem RF.tr {L : List Nat} {σ τ υ : zSt} (h : RF L σ τ) (h2 : RF L τ υ) : RF L σ υ := ⟨h.1.tr h2.1, h2.2.1.trans h.2.1, h2.2.2.trans h.2.2⟩
theorem RF.mono {L M : List Nat} {σ τ : zSt} (h : RF L σ τ) (hs : ∀ c, c ∈ L → c ∈ M) : RF M σ τ := ⟨h.1.mono (fun c hc => by
  rcases List.mem_cons.mp hc with e | e
  · rw [e]; exact List.mem_cons_self
  · exact List.mem_cons_of_mem _ (hs c e)), h.2⟩
theorem RF.of {L : List Nat} {σ τ : zSt} (h : zFr L σ τ) (h1 : 1 ∉ L) : RF L σ τ := ⟨h.mono (fun c hc => List.mem_cons_of_mem _ hc), by rw [h 1 h1], by rw [h 1 h1]⟩
theorem RF.up {L : List Nat} {σ τ : zSt} {c j : Nat} {v : Int32} (h : RF L σ τ) (hc : c ∈ L) (h1 : 1 ≠ c) : RF L σ (zup τ c j v) := ⟨h.1.up (List.mem_cons_of_mem _ hc), by rw [zup_ne h1]; exact h.2.1, by rw [zup_ne h1]; exact h.2.2⟩
theorem RF.cnt {L : List Nat} {σ τ : zSt} {j : Nat} {v : Int32} (h : RF L σ τ) (hj : j = 6 ∨ j = 7) : RF L σ (zup τ 1 j v) := by
  refine ⟨h.1.up List.mem_cons_self, ?_, ?_⟩
  · rw [zup_self]; rcases hj with rfl | rfl <;> simp [upd] <;> exact h.2.1
  · rw [zup_self]; rcases hj with rfl | rfl <;> simp [upd] <;> exact h.2.2
theorem RF.at {L : List Nat} {σ τ : zSt} (h : RF L σ τ) {c : Nat} (hc : c ∉ (1 :: L)) : τ c = σ c := h.1 c hc
def gos (l : List Lt) (c : Nat) : Nat := l.countP (fun x => decide (x.1 = 4 ∧ x.2.2.1 = nI c))
def LI (l : List Lt) : Prop := ∀ x, x ∈ l → (∃ a, a < 12 ∧ x.2.1 = nI a) ∧ (∃ b, b < 12 ∧ x.2.2.1 = nI b)
theorem LI_padd {l : List Lt} {x : Lt} (h : LI l) (hx : (∃ a, a < 12 ∧ x.2.1 = nI a) ∧ (∃ b, b < 12 ∧ x.2.2.1 = nI b)) : LI (padd l x) := by
  unfold padd
  split
  · intro y hy
    rcases List.mem_append.mp hy with h1 | h1
    · exact h y h1
    · rw [List.mem_singleton.mp h1]; exact hx
  · exact h
theorem gos_padd (l : List Lt) (x : Lt) (c : Nat) : gos (padd l x) c ≤ gos l c + (if x.1 = 4 ∧ x.2.2.1 = nI c then 1 else 0) := by
  unfold padd
  split
  · unfold gos
    rw [List.countP_append]
    simp only [List.countP_cons, List.countP_nil, decide_eq_true_eq]
    omega
  · omega
theorem s_Course_send (G : zG) (σ : zSt) (n a : Nat) (l : List Lt) (kind recv r num : Int32) (hn : σ 2 0 = nI n) (hle : n ≤ 12) (ha : a < 12) (hP : PV σ l) (hL : LI l) : zV G 1 M_Course_send [zf G 1, .int kind, .int (nI a), .int recv, .int r, .int num] σ (fun τ => RF FPool σ τ ∧ ∃ l', PV τ l' ∧ LI l' ∧ ∀ c, c < 12 → gos l' c ≤ gos l c + (if kind = 4 ∧ zIn recv (nI c) = true then 1 else 0)) := by
  refine zSpec.of (by decide) (Nat.le_of_ble_eq_true rfl) rfl (fun X E => ?_)
  refine b_Course_send_0 E kind (nI a) recv r num σ ?_
  refine z_for n (fun i τ => zZ G M_Course_send 1 X (fun r τ => r = none ∧ RF FPool σ τ ∧ ∃ l', PV τ l' ∧ LI l' ∧ ∀ c, c < 12 → gos l' c ≤ gos l c + (if kind = 4 ∧ zIn recv (nI c) = true then 1 else 0)) 3 [(0, zf G 1), (1, .int kind), (2, .int (nI a)), (3, .int recv), (4, .int r), (5, .int num), (6, .int (nI i))] [] τ) (fun i τ => RF FPool σ τ ∧ ∃ l', PV τ l' ∧ LI l' ∧ ∀ c, c < 12 → gos l' c ≤ gos l c + (if kind = 4 ∧ zIn recv (nI c) = true ∧ c < i then 1 else 0)) ?_ ?_ 0 σ (Nat.zero_le _) ⟨RF.rf, l, hP, hL, fun c _ => Nat.le_add_right _ _⟩
  · intro i τ hi ⟨hF, l', hP', hL', hg⟩ ih
    have nx : ∀ υ, RF FPool σ υ → ∀ l2, PV υ l2 → LI l2 → (∀ c, c < 12 → gos l2 c ≤ gos l c + (if kind = 4 ∧ zIn recv (nI c) = true ∧ c < i + 1 then 1 else 0)) → zZ G M_Course_send 1 X (fun r τ => r = none ∧ RF FPool σ τ ∧ ∃ l', PV τ l' ∧ LI l' ∧ ∀ c, c < 12 → gos l' c ≤ gos l c + (if kind = 4 ∧ zIn recv (nI c) = true then 1 else 0)) 3 [(0, zf G 1), (1, .int kind), (2, .int (nI a)), (3, .int recv), (4, .int r), (5, .int num), (6, .int (nI i + 1))] [] υ := by
      intro υ h1 l2 h2 h3 h4
      rw [nI_1]
      exact ih υ ⟨h1, l2, h2, h3, h4⟩
    refine b_Course_send_3 E kind (nI a) recv r num (nI i) τ ⟨fun q => absurd q (by rw [hF.at (by decide), hn]; exact nI_ge hi (by omega)), fun _ => ⟨fun hz => nx τ hF l' hP' hL' (fun c hc => ?_), fun hz => ⟨_, s_Pool_add G τ l' kind (nI a) (nI i) r num hP', fun σ1 ⟨p1, p2⟩ => ?_⟩⟩⟩
    · refine Nat.le_trans (hg c hc) ?_
      by_cases h : kind = 4 ∧ zIn recv (nI c) = true ∧ c < i
      · have h2 : kind = 4 ∧ zIn recv (nI c) = true ∧ c < i + 1 := ⟨h.1, h.2.1, by omega⟩
        rw [if_pos h, if_pos h2]; exact Nat.le_refl _
      · rw [if_neg h]; omega
    · have hL1 : LI (padd l' (kind, nI a, nI i, r, num)) := LI_padd hL' ⟨⟨a, ha, rfl⟩, ⟨i, by omega, rfl⟩⟩
      have hg1 : ∀ c, c < 12 → gos (padd l' (kind, nI a, nI i, r, num)) c ≤ gos l c + (if kind = 4 ∧ zIn recv (nI c) = true ∧ c < i + 1 then 1 else 0) := by
        intro c hc
        have h1 := gos_padd l' (kind, nI a, nI i, r, num) c
        have h2 := hg c hc
        dsimp only at h1
        by_cases hci : c = i
        · subst hci
          have h3 : ¬ (kind = 4 ∧ zIn recv (nI c) = true ∧ c < c) := fun h => Nat.lt_irrefl _ h.2.2
          rw [if_neg h3] at h2
          by_cases hk : kind = 4
          · rw [if_pos ⟨hk, rfl⟩] at h1
            rw [if_pos ⟨hk, hz, by omega⟩]; omega
          · rw [if_neg (fun h => hk h.1)] at h1
            rw [if_neg (fun h => hk h.1)]; omega
        · have hne : ¬ (kind = 4 ∧ nI i = nI c) := fun h => hci ((nI_eq (by omega) (by omega)).mp h.2).symm
          rw [if_neg hne] at h1
          by_cases h : kind = 4 ∧ zIn recv (nI c) = true ∧ c < i
          · have h4 : kind = 4 ∧ zIn recv (nI c) = true ∧ c < i + 1 := ⟨h.1, h.2.1, by omega⟩
            rw [if_pos h] at h2; rw [if_pos h4]; omega
          · rw [if_neg h] at h2; omega
      have fin : ∀ (σ2 υ : zSt) (v w : Int32), σ2 = zup σ1 1 6 v → υ = zup σ2 1 7 w → zZ G M_Course_send 1 X (fun r τ => r = none ∧ RF FPool σ τ ∧ ∃ l', PV τ l' ∧ LI l' ∧ ∀ c, c < 12 → gos l' c ≤ gos l c + (if kind = 4 ∧ zIn recv (nI c) = true then 1 else 0)) 3 [(0, zf G 1), (1, .int kind), (2, .int (nI a)), (3, .int recv), (4, .int r), (5, .int num), (6, .int (nI i + 1))] [] υ := by
        rintro σ2 υ v w rfl rfl
        refine nx _ ?_ _ (p1.of (fun c hc => ?_)) hL1 hg1
        · exact ((hF.tr (RF.of p2 (by decide))).cnt (Or.inl rfl)).cnt (Or.inr rfl)
        · have hc1 : c ≠ 1 := fun e => by rw [e] at hc; revert hc; decide
          rw [zup_ne hc1, zup_ne hc1]
      exact ⟨fun _ σ2 e2 => ⟨fun _ σ3 e3 => fin σ2 σ3 _ _ e2 e3, fun _ σ3 e3 => fin σ2 σ3 _ _ e2 e3⟩, fun _ σ2 e2 => ⟨fun _ σ3 e3 => fin σ2 σ3 _ _ e2 e3, fun _ σ3 e3 => fin σ2 σ3 _ _ e2 e3⟩⟩
  · intro τ ⟨hF, l', hP', hL', hg⟩
    refine b_Course_send_3 E kind (nI a) recv r num (nI n) τ ⟨fun _ => ⟨rfl, hF, l', hP', hL', fun c hc => Nat.le_trans (hg c hc) ?_⟩, fun q => absurd (by rw [hF.at (by decide), hn]; exact nI_le (Nat.le_refl n) (by omega)) q⟩
    by_cases h : kind = 4 ∧ zIn recv (nI c) = true ∧ c < n
    · rw [if_pos h, if_pos ⟨h.1, h.2.1⟩]; exact Nat.le_refl _
    · rw [if_neg h]; omega
/-- a list of letters in a state, none of them a new GO -/
def KP (l : List Lt) (τ : zSt) : Prop := ∃ l', PV τ l' ∧ LI l' ∧ ∀ c, c < 12 → gos l' c ≤ gos l c
theorem s_Course_send' (G : zG) (σ : zSt) (n a : Nat) (l : List Lt) (kind recv r num : Int32) (hn : σ 2 0 = nI n) (hle : n ≤ 12) (ha : a < 12) (hk : ¬ kind = 4) (hP : KP l σ) : zV G 1 M_Course_send [zf G 1, .int kind, .int (nI a), .int recv, .int r, .int num] σ (fun τ => RF FPool σ τ ∧ KP l τ) := by
  obtain ⟨l1, h1, h2, h3⟩ := hP
  refine (s_Course_send G σ n a l1 kind recv r num hn hle ha h1 h2).mono (fun τ ⟨g1, l', g2, g3, g4⟩ => ⟨g1, l', g2, g3, fun c hc => ?_⟩)
  have := g4 c hc
  rw [if_neg (fun h => hk h.1)] at this
  have := h3 c hc
  omega
theorem KP.of {l : List Lt} {σ τ : zSt} (h : KP l σ) (e : ∀ c, c ∈ FPool → τ c = σ c) : KP l τ := by
  obtain ⟨l1, h1, h2, h3⟩ := h
  exact ⟨l1, h1.of e, h2, h3⟩
theorem KP.up {l : List Lt} {σ : zSt} {c j : Nat} {v : Int32} (h : KP l σ) (hc : c ∉ FPool) : KP l (zup σ c j v) := h.of (fun k hk => zup_ne (fun e => hc (by rw [← e]; exact hk)))
theorem par12 (x : Int32) {a : Nat} (ha : a < 12) : vp_in ((x &&& (1 : Int32)) * 12 + nI a) 24 := by
  obtain ⟨j, hj, e⟩ := pk_andE x (m := 1) 1 (by decide)
  rw [e, zi12]
  exact vp_in_nI (by omega) (by decide)
theorem s_Course_hasAllSafes (G : zG) (σ : zSt) (a : Nat) (ha : a < 12) : zB G 1 M_Course_hasAllSafes [zf G 1, .int (nI a)] σ (fun _ τ => τ = σ) := by
  refine zSpec.of (by decide) (Nat.le_of_ble_eq_true rfl) rfl (fun X E => ?_)
  have ia : vp_in (nI a) 12 := vp_in_nI ha (by decide)
  exact b_Course_hasAllSafes_0 E (nI a) σ ⟨ia, par12 _ ha, ia, fun _ => ⟨false, rfl, rfl⟩, fun _ => ⟨true, rfl, rfl⟩⟩
theorem s_Course_hasAllBelow (G : zG) (σ : zSt) (ck a : Nat) (hck : zS[ck]? = some (.inl (.int, 12))) (ha : a < 12) : zB G 1 M_Course_hasAllBelow [zf G 1, zf G ck, .int (nI a)] σ (fun _ τ => τ = σ) := by
  refine zSpec.of (by decide) (Nat.le_of_ble_eq_true rfl) rfl (fun X E => ?_)
  have ia : vp_in (nI a) 12 := vp_in_nI ha (by decide)
  exact b_Course_hasAllBelow_0 E (nI a) ck hck σ ⟨ia, ia, fun _ => ⟨false, rfl, rfl⟩, fun _ => ⟨true, rfl, rfl⟩⟩
theorem s_Course_keepWithAll (G : zG) (σ : zSt) (n a : Nat) (l : List Lt) (hn : σ 2 0 = nI n) (hle : n ≤ 12) (ha : a < 12) (hP : KP l σ) : zB G 2 M_Course_keepWithAll [zf G 1, .int (nI a)] σ (fun _ τ => RF (25 :: FPool) σ τ ∧ KP l τ) := by
  refine zSpec.of (by decide) (Nat.le_of_ble_eq_true rfl) rfl (fun X E => ?_)
  have ia : vp_in (nI a) 12 := vp_in_nI ha (by decide)
  refine b_Course_keepWithAll_0 E (nI a) σ ⟨ia, fun _ => ⟨ia, fun _ => ⟨_, s_Course_hasAllSafes G σ a ha, ?_⟩, fun _ => ⟨ia, fun σ3 e3 => ⟨ia, ia, _, s_Course_send' G σ3 n a l 2 _ _ 0 (by rw [e3, zup_ne (by decide)]; exact hn) hle ha (by decide) (by rw [e3]; exact hP.up (by decide)), fun σ4 ⟨g1, g2⟩ => ⟨_, s_Course_hasAllSafes G σ4 a ha, ?_⟩⟩⟩⟩, fun _ => ⟨false, rfl, RF.rf, hP⟩⟩
  · rintro b τ rfl
    exact ⟨b, rfl, RF.rf, hP⟩
  · rintro b τ rfl
    refine ⟨b, rfl, RF.tr (τ := σ3) ?_ (g1.mono (by decide)), g2⟩
    rw [e3]
    exact RF.rf.up (by decide) (by decide)
theorem s_Course_keepInTree (G : zG) (σ : zSt) (n a : Nat) (l : List Lt) (hn : σ 2 0 = nI n) (hle : n ≤ 12) (ha : a < 12) (hP : KP l σ) : zB G 2 M_Course_keepInTree [zf G 1, .int (nI a)] σ (fun b τ => RF (25 :: FPool) σ τ ∧ KP l τ ∧ (b = true → τ 9 a = nI a)) := by
  refine zSpec.of (by decide) (Nat.le_of_ble_eq_true rfl) rfl (fun X E => ?_)
  have ia : vp_in (nI a) 12 := vp_in_nI ha (by decide)
  have ca : (nI a).toNatClampNeg = a := nI_clamp (by omega)
  have no : ∃ b : Bool, some (Value.int (0 : Int32)) = some (Value.int (zb b)) ∧ RF (25 :: FPool) σ σ ∧ KP l σ ∧ (b = true → σ 9 a = nI a) := ⟨false, rfl, RF.rf, hP, fun h => by cases h⟩
  refine b_Course_keepInTree_0 E (nI a) σ ⟨ia, fun _ => no, fun _ => ⟨ia, fun _ => no, fun _ => ⟨_, s_Course_hasAllBelow G σ 27 a rfl ha, ?_⟩⟩⟩
  rintro b τ rfl
  refine ⟨fun _ => ⟨ia, fun σ3 e3 => ⟨ia, ia, _, s_Course_send' G σ3 n a l 3 _ _ 0 (by rw [e3, zup_ne (by decide)]; exact hn) hle ha (by decide) (by rw [e3]; exact hP.up (by decide)), fun σ4 ⟨g1, g2⟩ => ⟨ia, _, rfl, RF.tr (τ := σ3) ?_ (g1.mono (by decide)), g2, fun h => ?_⟩⟩⟩, fun _ => no⟩
  · rw [e3]; exact RF.rf.up (by decide) (by decide)
  · simp only [zLd, decide_eq_true_eq] at h
    rw [ca] at h
    exact h
theorem s_Course_spreadFirm (G : zG) (σ : zSt) (n a : Nat) (l : List Lt) (hn : σ 2 0 = nI n) (hle : n ≤ 12) (ha : a < 12) (hP : KP l σ) : zV G 2 M_Course_spreadFirm [zf G 1, .int (nI a)] σ (fun τ => RF (25 :: FPool) σ τ ∧ KP l τ) := by
  refine zSpec.of (by decide) (Nat.le_of_ble_eq_true rfl) rfl (fun X E => ?_)
  have ia : vp_in (nI a) 12 := vp_in_nI ha (by decide)
  refine b_Course_spreadFirm_0 E (nI a) σ ⟨ia, fun σ1 e1 => ⟨ia, ia, _, s_Course_send' G σ1 n a l 5 _ _ 0 (by rw [e1, zup_ne (by decide)]; exact hn) hle ha (by decide) (by rw [e1]; exact hP.up (by decide)), fun σ2 ⟨g1, g2⟩ => ⟨ia, ia, _, s_Course_send' G σ2 n a l 2 _ _ 0 (by rw [g1.at (by decide), e1, zup_ne (by decide)]; exact hn) hle ha (by decide) g2, fun σ3 ⟨k1, k2⟩ => ⟨rfl, ?_, k2⟩⟩⟩⟩
  refine RF.tr (τ := σ1) ?_ ((g1.tr k1).mono (by decide))
  rw [e1]; exact RF.rf.up (by decide) (by decide)
theorem s_Course_keepInClusters (G : zG) (σ : zSt) (n a : Nat) (l : List Lt) (hn : σ 2 0 = nI n) (hle : n ≤ 12) (ha : a < 12) (hP : KP l σ) : zB G 3 M_Course_keepInClusters [zf G 1, .int (nI a)] σ (fun b τ => RF (25 :: FPool) σ τ ∧ KP l τ ∧ (b = true → τ 9 a = nI a)) := by
  refine zSpec.of (by decide) (Nat.le_of_ble_eq_true rfl) rfl (fun X E => ?_)
  have ia : vp_in (nI a) 12 := vp_in_nI ha (by decide)
  have ca : (nI a).toNatClampNeg = a := nI_clamp (by omega)
  have no : ∀ υ, RF (25 :: FPool) σ υ → KP l υ → ∃ b : Bool, some (Value.int (0 : Int32)) = some (Value.int (zb b)) ∧ RF (25 :: FPool) σ υ ∧ KP l υ ∧ (b = true → υ 9 a = nI a) := fun υ h1 h2 => ⟨false, rfl, h1, h2, fun h => by cases h⟩
  have fin : ∀ υ, RF (25 :: FPool) σ υ → KP l υ → ∀ σ7, σ7 = zup υ 25 (nI a).toNatClampNeg 3 → (vp_in (nI a) 12 ∧ (vp_in (nI a) 12 ∧ (∃ P : zSt → Prop, zV G 1 M_Course_send [zf G 1, .int (6 : Int32), .int (nI a), .int (σ7 12 (nI a).toNatClampNeg), .int (σ7 24 (nI a).toNatClampNeg), .int (0 : Int32)] σ7 P ∧ ∀ σ8 : zSt, P σ8 → (vp_in (nI a) 12 ∧ ∃ b : Bool, some (Value.int (zb (zLd σ8 (nI a)))) = some (Value.int (zb b)) ∧ RF (25 :: FPool) σ σ8 ∧ KP l σ8 ∧ (b = true → σ8 9 a = nI a))))) := by
    intro υ h1 h2 σ7 e7
    refine ⟨ia, ia, _, s_Course_send' G σ7 n a l 6 _ _ 0 (by rw [e7, zup_ne (by decide), h1.at (by decide)]; exact hn) hle ha (by decide) (by rw [e7]; exact h2.up (by decide)), fun σ8 ⟨g1, g2⟩ => ⟨ia, _, rfl, RF.tr (τ := σ7) ?_ (g1.mono (by decide)), g2, fun h => ?_⟩⟩
    · rw [e7]; exact h1.up (by decide) (by decide)
    · simp only [zLd, decide_eq_true_eq] at h
      rw [ca] at h
      exact h
  refine b_Course_keepInClusters_0 E (nI a) σ ⟨_, s_Course_keepInTree G σ n a l hn hle ha hP, fun b σ1 ⟨g1, g2, _⟩ => ⟨fun _ => ⟨ia, fun _ => no σ1 g1 g2, fun _ => ⟨_, s_Course_hasAllSafes G σ1 a ha, ?_⟩⟩, fun _ => ⟨_, s_Course_spreadFirm G σ1 n a l (by rw [g1.at (by decide)]; exact hn) hle ha g2, fun σ9 ⟨k1, k2⟩ => ⟨ia, fun _ => no σ9 (g1.tr k1) k2, fun _ => ⟨_, s_Course_hasAllSafes G σ9 a ha, ?_⟩⟩⟩⟩⟩
  · rintro b4 τ rfl
    refine ⟨fun _ => no _ g1 g2, fun _ => ⟨_, s_Course_hasAllBelow G _ 28 a rfl ha, ?_⟩⟩
    rintro b6 τ rfl
    exact ⟨fun _ => ⟨ia, fin _ g1 g2⟩, fun _ => no _ g1 g2⟩
  · rintro b4 τ rfl
    refine ⟨fun _ => no _ (g1.tr k1) k2, fun _ => ⟨_, s_Course_hasAllBelow G _ 28 a rfl ha, ?_⟩⟩
    rintro b6 τ rfl
    exact ⟨fun _ => ⟨ia, fin _ (g1.tr k1) k2⟩, fun _ => no _ (g1.tr k1) k2⟩
end
section
-- Course: rounds, letters, GOs
def CS (σ : zSt) (n R : Nat) : Prop := σ 2 0 = nI n ∧ 1 ≤ n ∧ n ≤ 12 ∧ σ 1 5 = nI R ∧ 1 ≤ R ∧ R ≤ 20 ∧ TreeOK σ ∧ (σ 1 4 = 0 → ∀ u, u < 12 → σ 13 u = 0)
def CD (σ : zSt) (R : Nat) (rd : Nat → Nat) (l : List Lt) : Prop := (∀ a, a < 12 → σ 24 a = nI (rd a) ∧ rd a ≤ R) ∧ PV σ l ∧ LI l
/-- a node with an upper has had as many rounds, and GOs that wait, as its upper has sent -/
def GI (bl : Nat → Int32) (rd : Nat → Nat) (l : List Lt) : Prop := ∀ c, c < 12 → (∀ u, u < 12 → zIn (bl u) (nI c) = true → gos l c + (rd c - 1) ≤ rd u - 1) ∧ ((∀ u, u < 12 → zIn (bl u) (nI c) = false) → gos l c = 0)
def rup (rd : Nat → Nat) (a v : Nat) : Nat → Nat := fun b => if b = a then v else rd b
theorem CS.of {σ τ : zSt} {n R : Nat} (h : CS σ n R) (hF : RF FR σ τ) : CS τ n R := by
  obtain ⟨h1, h2, h3, h4, h5, h6, h7, h8⟩ := h
  have e13 : τ 13 = σ 13 := hF.at (by decide)
  have e10 : τ 10 = σ 10 := hF.at (by decide)
  have e9 : τ 9 = σ 9 := hF.at (by decide)
  refine ⟨by rw [hF.at (by decide)]; exact h1, h2, h3, by rw [hF.2.2]; exact h4, h5, h6, fun c u hc hu hz => ?_, fun hw u hu => ?_⟩
  · rw [e13] at hz
    rw [e10, e9]
    exact h7 c u hc hu hz
  · rw [hF.2.1] at hw
    rw [e13]
    exact h8 hw u hu
theorem GI.less {bl : Nat → Int32} {rd : Nat → Nat} {l l' : List Lt} (h : GI bl rd l) (hg : ∀ c, c < 12 → gos l' c ≤ gos l c) : GI bl rd l' := by
  intro c hc
  have h1 := h c hc
  have h2 := hg c hc
  refine ⟨fun u hu hz => ?_, fun hz => ?_⟩
  · have := h1.1 u hu hz
    omega
  · have := h1.2 hz
    omega
theorem GI.enter {σ : zSt} {rd : Nat → Nat} {l l' : List Lt} {a : Nat} (hT : TreeOK σ) (h : GI (σ 13) rd l) (ha : a < 12) (hu : ∀ u, u < 12 → zIn (σ 13 u) (nI a) = true → gos l a + rd a ≤ rd u - 1)
    (hg : ∀ c, c < 12 → gos l' c ≤ gos l c + (if 1 ≤ rd a ∧ zIn (σ 13 a) (nI c) = true then 1 else 0)) : GI (σ 13) (rup rd a (rd a + 1)) l' := by
  intro c hc
  have h1 := h c hc
  have h2 := hg c hc
  refine ⟨fun u hu' hz => ?_, fun hz => ?_⟩
  · obtain ⟨t1, t2, t3⟩ := hT c u hc hu' hz
    by_cases hca : c = a
    · subst hca
      have h3 : ¬ (1 ≤ rd c ∧ zIn (σ 13 c) (nI c) = true) := fun h => (hT c c hc hc h.2).2.1 rfl
      rw [if_neg h3] at h2
      have h4 := hu u hu' hz
      simp only [rup, if_true, if_neg t2]
      omega
    · have h4 := h1.1 u hu' hz
      simp only [rup, if_neg hca]
      by_cases hua : u = a
      · subst hua
        simp only [if_true]
        by_cases hr : 1 ≤ rd u
        · rw [if_pos ⟨hr, hz⟩] at h2; omega
        · rw [if_neg (fun h => hr h.1)] at h2; omega
      · have h5 : ¬ (1 ≤ rd a ∧ zIn (σ 13 a) (nI c) = true) := fun h => by
          have t4 := (hT c a hc ha h.2).1
          rw [t1] at t4
          exact hua ((nI_eq (by omega) (by omega)).mp t4)
        rw [if_neg h5] at h2
        simp only [if_neg hua]
        omega
  · have h3 : ¬ (1 ≤ rd a ∧ zIn (σ 13 a) (nI c) = true) := fun h => by
      rw [hz a ha] at h; cases h.2
    rw [if_neg h3] at h2
    have := h1.2 hz
    omega
theorem s_Course_enterNext (G : zG) (σ : zSt) (n R a : Nat) (rd : Nat → Nat) (l : List Lt) (hS : CS σ n R) (hD : CD σ R rd l) (ha : a < 12) (hr : rd a < R) : zV G 4 M_Course_enterNext [zf G 1, .int (nI a)] σ (fun τ => RF FR σ τ ∧ ∃ l', CD τ R (rup rd a (rd a + 1)) l' ∧ ∀ c, c < 12 → gos l' c ≤ gos l c + (if 1 ≤ rd a ∧ zIn (σ 13 a) (nI c) = true then 1 else 0)) := by
  refine zSpec.of (by decide) (Nat.le_of_ble_eq_true rfl) rfl (fun X E => ?_)
  have ia : vp_in (nI a) 12 := vp_in_nI ha (by decide)
  have ca : (nI a).toNatClampNeg = a := nI_clamp (by omega)
  obtain ⟨s1, s2, s3, s4, s5, s6, s7, s8⟩ := hS
  obtain ⟨d1, d2, d3⟩ := hD
  have e24 : σ 24 (nI a).toNatClampNeg + (1 : Int32) = nI (rd a + 1) := by rw [ca, (d1 a ha).1, nI_1]
  -- the second half
  have half : ∀ (υ : zSt) (l1 : List Lt), RF FR σ υ → PV υ l1 → LI l1 → (∀ b, b < 12 → υ 24 b = nI (rup rd a (rd a + 1) b)) → (∀ c, c < 12 → gos l1 c ≤ gos l c + (if 1 ≤ rd a ∧ zIn (σ 13 a) (nI c) = true then 1 else 0)) →
      zZ G M_Course_enterNext 4 X (fun r τ => r = none ∧ RF FR σ τ ∧ ∃ l', CD τ R (rup rd a (rd a + 1)) l' ∧ ∀ c, c < 12 → gos l' c ≤ gos l c + (if 1 ≤ rd a ∧ zIn (σ 13 a) (nI c) = true then 1 else 0)) 74 [(0, zf G 1), (1, .int (nI a)), (2, .int (nI (rd a + 1)))] [] υ := by
    intro υ l1 hF hP hL h24 hg
    have fin : ∀ (τ : zSt) (l2 : List Lt), RF FR σ τ → PV τ l2 → LI l2 → τ 24 = υ 24 → (∀ c, c < 12 → gos l2 c ≤ gos l1 c) → (none : Option Value) = none ∧ RF FR σ τ ∧ ∃ l', CD τ R (rup rd a (rd a + 1)) l' ∧ ∀ c, c < 12 → gos l' c ≤ gos l c + (if 1 ≤ rd a ∧ zIn (σ 13 a) (nI c) = true then 1 else 0) := by
      intro τ l2 h1 h2 h3 h4 h5
      refine ⟨rfl, h1, l2, ⟨fun b hb => ⟨by rw [h4]; exact h24 b hb, ?_⟩, h2, h3⟩, fun c hc => Nat.le_trans (h5 c hc) (hg c hc)⟩
      unfold rup
      by_cases hba : b = a
      · rw [if_pos hba]; omega
      · rw [if_neg hba]; exact (d1 b hb).2
    refine b_Course_enterNext_74 E (nI a) (nI (rd a + 1)) υ ⟨_, s_Play_doRound G υ a _ ha, fun x σ1 g1 => ⟨ia, by rw [zi12]; exact vp_in_nI (by omega) (by decide), fun σ3 e3 => ?_⟩⟩
    have hF3 : RF FR σ σ3 := by
      refine RF.tr (τ := σ1) (hF.tr ((RF.of g1 (by decide)).mono (by decide))) ?_
      rw [e3]; exact RF.rf.up (by decide) (by decide)
    have hP3 : PV σ3 l1 := hP.of (fun c hc => by
      have hc30 : c ≠ 30 := fun e => by rw [e] at hc; revert hc; decide
      rw [e3, zup_ne hc30]
      exact g1 c (fun h => by revert hc; revert h; simp only [List.mem_cons, List.not_mem_nil, or_false]; omega))
    have h324 : σ3 24 = υ 24 := by rw [e3, zup_ne (by decide), g1 24 (by decide)]
    refine ⟨fun _ => fin σ3 l1 hF3 hP3 hL h324 (fun _ _ => Nat.le_refl _), fun _ => ⟨ia, ia, fun σ4 e4 => ?_⟩⟩
    refine ⟨ia, _, s_Course_send' G σ4 n a l1 0 _ _ _ (by rw [e4, zup_ne (by decide), hF3.at (by decide)]; exact s1) s3 ha (by decide) ⟨l1, hP3.of (fun c hc => by
      have hc26 : c ≠ 26 := fun e => by rw [e] at hc; revert hc; decide
      rw [e4, zup_ne hc26]), hL, fun _ _ => Nat.le_refl _⟩, fun σ5 ⟨k1, l2, k2, k3, k4⟩ => ?_⟩
    refine fin σ5 l2 ?_ k2 k3 ?_ k4
    · refine RF.tr (τ := σ4) ?_ (k1.mono (by decide))
      rw [e4]; exact hF3.up (by decide) (by decide)
    · rw [k1.at (by decide), e4, zup_ne (by decide), h324]
  refine b_Course_enterNext_0 E (nI a) σ ⟨ia, ia, fun σ1 e1 => ⟨ia, fun σ2 e2 => ⟨ia, fun σ3 e3 => ⟨ia, fun σ4 e4 => ⟨par12 _ ha, fun σ5 e5 => ?_⟩⟩⟩⟩⟩
  rw [e24, ca] at e1
  have hF5 : RF FR σ σ5 := by
    rw [e5, e4, e3, e2, e1]
    exact ((((RF.rf.up (by decide) (by decide)).up (by decide) (by decide)).up (by decide) (by decide)).up (by decide) (by decide)).up (by decide) (by decide)
  have h5 : ∀ c, c ≠ 24 → c ≠ 25 → c ≠ 27 → c ≠ 28 → c ≠ 29 → σ5 c = σ c := fun c a1 a2 a3 a4 a5 => by
    rw [e5, zup_ne a5, e4, zup_ne a4, e3, zup_ne a3, e2, zup_ne a2, e1, zup_ne a1]
  have hP5 : PV σ5 l := d2.of (fun c hc => by
    apply h5 <;> (intro e; rw [e] at hc; revert hc; decide))
  have h24 : ∀ b, b < 12 → σ5 24 b = nI (rup rd a (rd a + 1) b) := fun b hb => by
    rw [e5, zup_ne (by decide), e4, zup_ne (by decide), e3, zup_ne (by decide), e2, zup_ne (by decide), e1, zup_self]
    unfold rup upd
    by_cases hba : b = a
    · rw [if_pos hba, if_pos hba]
    · rw [if_neg hba, if_neg hba]; exact (d1 b hb).1
  rw [e24]
  refine ⟨fun _ => half σ5 l hF5 hP5 d3 h24 (fun c _ => Nat.le_add_right _ _), fun hq => ⟨ia, _, s_Course_send G σ5 n a l 4 _ _ _ (by rw [hF5.at (by decide)]; exact s1) s3 ha hP5 d3, fun σ6 ⟨k1, l', k2, k3, k4⟩ => half σ6 l' (hF5.tr (k1.mono (by decide))) k2 k3 (fun b hb => by rw [k1.at (by decide)]; exact h24 b hb) (fun c hc => ?_)⟩⟩
  have hra : 1 ≤ rd a := by
    rcases Nat.lt_or_ge (rd a) 1 with h | h
    · exact absurd (nI_le (show rd a + 1 ≤ 1 by omega) (by decide)) hq
    · exact h
  refine Nat.le_trans (k4 c hc) ?_
  rw [ca, h5 13 (by decide) (by decide) (by decide) (by decide) (by decide)]
  by_cases hz : zIn (σ 13 a) (nI c) = true
  · rw [if_pos ⟨rfl, hz⟩, if_pos ⟨hra, hz⟩]; exact Nat.le_refl _
  · rw [if_neg (fun h => hz h.2), if_neg (fun h => hz h.2)]; exact Nat.le_refl _
/-- a state in the middle of a run -/
def RN (σ : zSt) (R : Nat) (rd : Nat → Nat) : Prop := ∃ l, CD σ R rd l ∧ GI (σ 13) rd l
theorem s_Course_push (G : zG) (σ : zSt) (n R a : Nat) (rd : Nat → Nat) (hS : CS σ n R) (hN : RN σ R rd) (ha : a < 12) : zV G 5 M_Course_push [zf G 1, .int (nI a)] σ (fun τ => RF FR σ τ ∧ ∃ rd', RN τ R rd' ∧ ∀ b, b ≠ a → rd' b = rd b) := by
  refine zSpec.of (by decide) (Nat.le_of_ble_eq_true rfl) rfl (fun X E => ?_)
  have ia : vp_in (nI a) 12 := vp_in_nI ha (by decide)
  have ca : (nI a).toNatClampNeg = a := nI_clamp (by omega)
  refine b_Course_push_0 E (nI a) σ ?_
  refine z_for R (fun i τ => zZ G M_Course_push 5 X (fun r τ => r = none ∧ RF FR σ τ ∧ ∃ rd', RN τ R rd' ∧ ∀ b, b ≠ a → rd' b = rd b) 2 [(0, zf G 1), (1, .int (nI a)), (2, .int (nI i))] [] τ) (fun _ τ => RF FR σ τ ∧ ∃ rd', RN τ R rd' ∧ ∀ b, b ≠ a → rd' b = rd b) ?_ ?_ 0 σ (Nat.zero_le _) ⟨RF.rf, rd, hN, fun _ _ => rfl⟩
  · intro i τ hi ⟨hF, rd1, ⟨l, hD, hG⟩, hrd⟩ ih
    have hSτ := hS.of hF
    obtain ⟨s1, s2, s3, s4, s5, s6, s7, s8⟩ := hSτ
    have hK : KP l τ := ⟨l, hD.2.1, hD.2.2, fun _ _ => Nat.le_refl _⟩
    -- behind a keep..: the end of the turn
    have tail : ∀ (b : Bool) (υ : zSt), RF (25 :: FPool) τ υ → KP l υ → (b = true → ∀ u, u < 12 → zIn (τ 13 u) (nI a) = false) →
        ((b = false → (none : Option Value) = none ∧ RF FR σ υ ∧ ∃ rd', RN υ R rd' ∧ ∀ b, b ≠ a → rd' b = rd b) ∧ (b = true → (vp_in (nI a) 12 ∧ (((υ 24 (nI a).toNatClampNeg) < (υ 1 5) → (∃ P : zSt → Prop, zV G 4 M_Course_enterNext [zf G 1, .int (nI a)] υ P ∧ ∀ σ3 : zSt, P σ3 → zZ G M_Course_push 5 X (fun r τ => r = none ∧ RF FR σ τ ∧ ∃ rd', RN τ R rd' ∧ ∀ b, b ≠ a → rd' b = rd b) 2 [(0, zf G 1), (1, .int (nI a)), (2, .int (nI i + 1))] [] σ3)) ∧ (¬ (υ 24 (nI a).toNatClampNeg) < (υ 1 5) → (none : Option Value) = none ∧ RF FR σ υ ∧ ∃ rd', RN υ R rd' ∧ ∀ b, b ≠ a → rd' b = rd b))))) := by
      intro b υ g1 ⟨l1, p1, p2, p3⟩ hb
      have hFυ : RF FR σ υ := hF.tr (g1.mono (by decide))
      have e13 : υ 13 = τ 13 := g1.at (by decide)
      have e24 : υ 24 = τ 24 := g1.at (by decide)
      have hDυ : CD υ R rd1 l1 := ⟨fun c hc => by rw [e24]; exact hD.1 c hc, p1, p2⟩
      have hGυ : GI (υ 13) rd1 l1 := by rw [e13]; exact hG.less p3
      have en : (none : Option Value) = none ∧ RF FR σ υ ∧ ∃ rd', RN υ R rd' ∧ ∀ b, b ≠ a → rd' b = rd b := ⟨rfl, hFυ, rd1, ⟨l1, hDυ, hGυ⟩, hrd⟩
      refine ⟨fun _ => en, fun hbt => ⟨ia, fun hlt => ?_, fun _ => en⟩⟩
      have hSυ := hS.of hFυ
      have hr : rd1 a < R := by
        rw [ca, (hDυ.1 a ha).1, hSυ.2.2.2.1] at hlt
        exact (nI_ltI (by have := (hDυ.1 a ha).2; omega) (by omega)).mp hlt
      refine ⟨_, s_Course_enterNext G υ n R a rd1 l1 hSυ hDυ ha hr, fun σ3 ⟨k1, l', k2, k3⟩ => ?_⟩
      rw [nI_1]
      refine ih σ3 ⟨hFυ.tr k1, rup rd1 a (rd1 a + 1), ⟨l', k2, ?_⟩, fun b hba => ?_⟩
      · rw [k1.at (by decide)]
        refine GI.enter hSυ.2.2.2.2.2.2.1 hGυ ha (fun u hu hz => ?_) k3
        rw [e13, hb hbt u hu] at hz
        cases hz
      · unfold rup; rw [if_neg hba]; exact hrd b hba
    have notIn : τ 9 a = nI a → ∀ u, u < 12 → zIn (τ 13 u) (nI a) = false := fun h9 u hu => by
      cases hz : zIn (τ 13 u) (nI a) with
      | false => rfl
      | true => exact absurd h9 (s7 a u ha hu hz).2.2
    refine b_Course_push_2 E (nI a) (nI i) τ ⟨fun q => absurd q (by rw [s4]; exact nI_ge hi (by omega)), fun _ => ⟨fun _ => ⟨fun _ => ⟨_, s_Course_keepInClusters G τ n a l s1 s3 ha hK, fun b υ ⟨g1, g2, g3⟩ => tail b υ g1 g2 (fun h => notIn (by rw [← g1.at (c := 9) (by decide)]; exact g3 h))⟩, fun _ => ⟨_, s_Course_keepInTree G τ n a l s1 s3 ha hK, fun b υ ⟨g1, g2, g3⟩ => tail b υ g1 g2 (fun h => notIn (by rw [← g1.at (c := 9) (by decide)]; exact g3 h))⟩⟩, fun hw => ⟨_, s_Course_keepWithAll G τ n a l s1 s3 ha hK, fun b υ ⟨g1, g2⟩ => tail b υ g1 g2 (fun _ u hu => by rw [s8 hw u hu]; exact zIn_0 (by omega))⟩⟩⟩
  · intro τ ⟨hF, h⟩
    exact b_Course_push_2 E (nI a) (nI R) τ ⟨fun _ => ⟨rfl, hF, h⟩, fun q => absurd (by rw [(hS.of hF).2.2.2.1]; exact nI_le (Nat.le_refl R) (by have := hS.2.2.2.2.2.1; omega)) q⟩
end
section
-- Course: a letter comes; the start
theorem gos_erase {l : List Lt} {i : Nat} {x : Lt} (h : l[i]? = some x) (c : Nat) : gos l c = gos (l.eraseIdx i) c + (if x.1 = 4 ∧ x.2.2.1 = nI c then 1 else 0) := by
  induction l generalizing i with
  | nil => cases h
  | cons y t ih =>
    cases i with
    | zero =>
      cases h
      simp only [List.eraseIdx_cons_zero, gos, List.countP_cons, decide_eq_true_eq]
    | succ j =>
      have h2 := ih (i := j) h
      simp only [List.eraseIdx_cons_succ, gos, List.countP_cons] at h2 ⊢
      omega
theorem LI_erase {l : List Lt} {i : Nat} (h : LI l) : LI (l.eraseIdx i) := fun x hx => h x (List.mem_of_mem_eraseIdx hx)
theorem toInt_4 {x : Int32} (h : x.toInt = 4) : x = 4 := Int32.toInt_inj.mp (by rw [h]; decide)
theorem s_Course_bring (G : zG) (σ : zSt) (n R i : Nat) (rd : Nat → Nat) (l : List Lt) (hS : CS σ n R) (hD : CD σ R rd l) (hG : GI (σ 13) rd l) (hi : i < l.length) : zI G 6 M_Course_bring [zf G 1, .int (nI i)] σ (fun _ τ => RF FR σ τ ∧ ∃ rd', RN τ R rd') := by
  refine zSpec.of (by decide) (Nat.le_of_ble_eq_true rfl) rfl (fun X E => ?_)
  have h528 := hD.2.1.2.1
  have ii : vp_in (nI i) 528 := vp_in_nI (by omega) (by decide)
  have ci : (nI i).toNatClampNeg = i := nI_clamp (by omega)
  have hx : l[i]? = some (plt σ i) := hD.2.1.2.2 i hi
  have hm : plt σ i ∈ l := List.mem_of_getElem? hx
  obtain ⟨⟨f, hf, ef⟩, ⟨t, ht, et⟩⟩ := hD.2.2 _ hm
  have ef' : σ 20 i = nI f := ef
  have et' : σ 21 i = nI t := et
  have it : vp_in (nI t) 12 := vp_in_nI ht (by decide)
  have ct : (nI t).toNatClampNeg = t := nI_clamp (by omega)
  have hge := gos_erase hx
  -- what is left behind the letter
  have keep : ∀ υ, RF FR σ υ → υ 24 = σ 24 → KP (l.eraseIdx i) υ → RN υ R rd := by
    rintro υ hF h24 ⟨l', p1, p2, p3⟩
    refine ⟨l', ⟨fun a ha => by rw [h24]; exact hD.1 a ha, p1, p2⟩, ?_⟩
    rw [hF.at (by decide)]
    refine hG.less (fun c hc => ?_)
    have := p3 c hc
    have := hge c
    omega
  have last : ∀ υ rd1, RF FR σ υ → RN υ R rd1 → zZ G M_Course_bring 6 X (fun r τ => ∃ x : Int32, r = some (.int x) ∧ RF FR σ τ ∧ ∃ rd', RN τ R rd') 208 [(0, zf G 1), (2, .int (σ 19 i)), (4, .int (nI t))] [] υ := by
    intro υ rd1 hF hN
    refine b_Course_bring_208 E (σ 19 i) (nI t) υ ⟨_, s_Course_push G υ n R t rd1 (hS.of hF) hN ht, fun τ ⟨k1, rd2, k2, _⟩ => ⟨_, rfl, hF.tr k1, rd2, k2⟩⟩
  have P1 : ∀ σ1, PV σ1 (l.eraseIdx i) ∧ zFr FPool σ σ1 → RF FR σ σ1 ∧ KP (l.eraseIdx i) σ1 ∧ σ1 24 = σ 24 := fun σ1 h => ⟨(RF.of h.2 (by decide)).mono (by decide), ⟨_, h.1, LI_erase hD.2.2, fun _ _ => Nat.le_refl _⟩, h.2 24 (by decide)⟩
  refine b_Course_bring_0 E (nI i) σ ?_
  rw [ci, ef', et']
  refine ⟨ii, ii, ii, ii, ii, _, s_Pool_remove G σ l i hD.2.1 hi, fun σ1 h1 => ?_⟩
  obtain ⟨q1, q2, q3⟩ := P1 σ1 h1
  have hn1 : σ1 2 0 = nI n := by rw [q1.at (by decide)]; exact hS.1
  refine ⟨fun _ => ?_, fun _ => ?_, fun _ => ?_, fun _ => ?_, fun hk => ?_, fun _ => ?_, fun _ => ?_⟩
  · refine ⟨_, s_Play_keepNote G σ1 f t _ _ hf ht, fun σ2 g2 => ?_⟩
    have hF2 : RF FR σ σ2 := q1.tr ((RF.of g2 (by decide)).mono (by decide))
    refine ⟨_, s_Course_send' G σ2 n t (l.eraseIdx i) 1 _ _ 0 (by rw [hF2.at (by decide)]; exact hS.1) hS.2.2.1 ht (by decide) (q2.of (fun c hc => g2 c (fun h => by rw [List.mem_singleton.mp h] at hc; revert hc; decide))), fun σ3 ⟨g3, g4⟩ => ?_⟩
    have hF3 : RF FR σ σ3 := hF2.tr (g3.mono (by decide))
    exact last σ3 rd hF3 (keep σ3 hF3 (by rw [g3.at (by decide), g2 24 (by decide), q3]) g4)
  · refine ⟨it, it, fun σ4 e4 => ?_⟩
    have hF4 : RF FR σ σ4 := by rw [e4]; exact q1.up (by decide) (by decide)
    exact last σ4 rd hF4 (keep σ4 hF4 (by rw [e4, zup_ne (by decide), q3]) (by rw [e4]; exact q2.up (by decide)))
  · refine ⟨par12 _ ht, par12 _ ht, fun σ4 e4 => ?_⟩
    have hF4 : RF FR σ σ4 := by rw [e4]; exact q1.up (by decide) (by decide)
    exact last σ4 rd hF4 (keep σ4 hF4 (by rw [e4, zup_ne (by decide), q3]) (by rw [e4]; exact q2.up (by decide)))
  · refine ⟨it, it, fun σ4 e4 => ?_⟩
    have hF4 : RF FR σ σ4 := by rw [e4]; exact q1.up (by decide) (by decide)
    exact last σ4 rd hF4 (keep σ4 hF4 (by rw [e4, zup_ne (by decide), q3]) (by rw [e4]; exact q2.up (by decide)))
  · -- GO: the node has an upper that is ahead
    have hk4 : (plt σ i).1 = 4 := toInt_4 hk
    have g1 : gos l t = gos (l.eraseIdx i) t + 1 := by
      rw [hge t, if_pos ⟨hk4, et⟩]
    have hex : ∃ u, u < 12 ∧ zIn (σ 13 u) (nI t) = true := by
      apply Classical.byContradiction
      intro hno
      have hz : ∀ u, u < 12 → zIn (σ 13 u) (nI t) = false := fun u hu => by
        cases hz : zIn (σ 13 u) (nI t) with
        | false => rfl
        | true => exact absurd ⟨u, hu, hz⟩ hno
      have := (hG t ht).2 hz
      omega
    obtain ⟨u0, hu0, hz0⟩ := hex
    have hup := (hG t ht).1 u0 hu0 hz0
    have hR0 := (hD.1 u0 hu0).2
    have hr : rd t < R := by
      have := hS.2.2.2.2.1
      omega
    have hD1 : CD σ1 R rd (l.eraseIdx i) := ⟨fun a ha => by rw [q3]; exact hD.1 a ha, h1.1, LI_erase hD.2.2⟩
    refine ⟨_, s_Course_enterNext G σ1 n R t rd _ (hS.of q1) hD1 ht hr, fun σ7 ⟨k1, l', k2, k3⟩ => ?_⟩
    refine last σ7 _ (q1.tr k1) ⟨l', k2, ?_⟩
    have e13 : σ1 13 = σ 13 := q1.at (by decide)
    have hG1 : GI (σ1 13) rd (l.eraseIdx i) := by
      rw [e13]
      refine hG.less (fun c hc => ?_)
      have := hge c
      omega
    rw [k1.at (by decide)]
    refine GI.enter (hS.of q1).2.2.2.2.2.2.1 hG1 ht (fun u hu hz => ?_) k3
    rw [e13] at hz
    have := (hG t ht).1 u hu hz
    omega
  · refine ⟨_, s_Course_spreadFirm G σ1 n t (l.eraseIdx i) hn1 hS.2.2.1 ht q2, fun σ8 ⟨g1, g2⟩ => ?_⟩
    have hF8 : RF FR σ σ8 := q1.tr (g1.mono (by decide))
    exact last σ8 rd hF8 (keep σ8 hF8 (by rw [g1.at (by decide), q3]) g2)
  · refine ⟨it, it, fun σ4 e4 => ?_⟩
    have hF4 : RF FR σ σ4 := by rw [e4]; exact q1.up (by decide) (by decide)
    exact last σ4 rd hF4 (keep σ4 hF4 (by rw [e4, zup_ne (by decide), q3]) (by rw [e4]; exact q2.up (by decide)))
theorem s_Course_handOut (G : zG) (σ : zSt) (n a : Nat) (r v : Int32) (hn : σ 2 0 = nI n) (hle : n ≤ 12) (ha : a < 12) : zV G 2 M_Course_handOut [zf G 1, .int (nI a), .int r, .int v] σ (fun τ => zFr [18] σ τ) := by
  refine zSpec.of (by decide) (Nat.le_of_ble_eq_true rfl) rfl (fun X E => ?_)
  have ia : vp_in (nI a) 12 := vp_in_nI ha (by decide)
  refine b_Course_handOut_0 E (nI a) r v σ ?_
  refine z_for n (fun i τ => zZ G M_Course_handOut 2 X (fun r τ => r = none ∧ zFr [18] σ τ) 3 [(0, zf G 1), (1, .int (nI a)), (2, .int r), (3, .int v), (4, .int (nI i))] [] τ) (fun _ τ => zFr [18] σ τ) ?_ ?_ 0 σ (Nat.zero_le _) zFr.rf
  · intro i τ hi hI ih
    refine b_Course_handOut_3 E (nI a) r v (nI i) τ ⟨fun q => absurd q (by rw [hI 2 (by decide), hn]; exact nI_ge hi (by omega)), fun _ => ⟨fun _ => ⟨rfl, hI⟩, fun _ => ⟨ia, fun _ => by rw [nI_1]; exact ih τ hI, fun _ => ⟨_, s_Play_keepNote G τ a i r v ha (by omega), fun σ1 g1 => ?_⟩⟩⟩⟩
    rw [nI_1]
    exact ih σ1 (hI.tr g1)
  · intro τ hI
    exact b_Course_handOut_3 E (nI a) r v (nI n) τ ⟨fun _ => ⟨rfl, hI⟩, fun q => absurd (by rw [hI 2 (by decide), hn]; exact nI_le (Nat.le_refl n) (by omega)) q⟩
theorem s_Course_goInStep (G : zG) (σ : zSt) (n R : Nat) (hn : σ 2 0 = nI n) (hle : n ≤ 12) (hR : σ 1 5 = nI R) (hR2 : R ≤ 20) : zV G 4 M_Course_goInStep [zf G 1] σ (fun τ => zFr [16, 17, 18, 31] σ τ) := by
  refine zSpec.of (by decide) (Nat.le_of_ble_eq_true rfl) rfl (fun X E => ?_)
  refine b_Course_goInStep_0 E σ ?_
  have two : ∀ υ, zFr [16, 17, 18, 31] σ υ → zZ G M_Course_goInStep 4 X (fun r τ => r = none ∧ zFr [16, 17, 18, 31] σ τ) 40 [(0, zf G 1), (1, .int (1 : Int32))] [] υ := by
    intro υ hυ
    refine z_for (R + 1) (fun i τ => zZ G M_Course_goInStep 4 X (fun r τ => r = none ∧ zFr [16, 17, 18, 31] σ τ) 40 [(0, zf G 1), (1, .int (nI i))] [] τ) (fun i τ => 1 ≤ i ∧ zFr [16, 17, 18, 31] σ τ) ?_ ?_ 1 υ (by omega) ⟨Nat.le_refl 1, hυ⟩
    · intro r τ hr ⟨hr1, hI⟩ ihr
      refine b_Course_goInStep_40 E (nI r) τ ⟨fun q => absurd q (by rw [hI 1 (by decide), hR]; exact nI_nlt (by omega) (by omega)), fun _ => ?_⟩
      refine z_for n (fun i τ => zZ G M_Course_goInStep 4 X (fun r τ => r = none ∧ zFr [16, 17, 18, 31] σ τ) 50 [(0, zf G 1), (1, .int (nI r)), (2, .int (nI i))] [] τ) (fun _ τ => zFr [16, 17, 18, 31] σ τ) ?_ ?_ 0 τ (Nat.zero_le _) hI
      · intro i τ hi hI ih
        have hi12 : i < 12 := by omega
        refine b_Course_goInStep_50 E (nI r) (nI i) τ ⟨fun q => absurd q (by rw [hI 2 (by decide), hn]; exact nI_ge hi (by omega)), fun _ => ⟨_, s_Play_doRound G τ i _ hi12, fun x σ1 g1 => ⟨_, s_Course_handOut G σ1 n i _ x (by rw [g1 2 (by decide), hI 2 (by decide)]; exact hn) hle hi12, fun σ3 g3 => ⟨vp_in_nI hi12 (by decide), by rw [zi12]; exact vp_in_nI (by omega) (by decide), fun σ4 e4 => ?_⟩⟩⟩⟩
        rw [nI_1]
        refine ih σ4 ?_
        rw [e4]
        exact ((hI.tr (g1.mono (by decide))).tr (g3.mono (by decide))).up (by decide)
      · intro τ hI
        exact b_Course_goInStep_50 E (nI r) (nI n) τ ⟨fun _ => by rw [nI_1]; exact ihr τ ⟨by omega, hI⟩, fun q => absurd (by rw [hI 2 (by decide), hn]; exact nI_le (Nat.le_refl n) (by omega)) q⟩
    · intro τ ⟨_, hI⟩
      exact b_Course_goInStep_40 E (nI (R + 1)) τ ⟨fun _ => ⟨rfl, hI⟩, fun q => absurd (by rw [hI 1 (by decide), hR]; exact nI_lt (by omega) (by omega)) q⟩
  refine z_for n (fun i τ => zZ G M_Course_goInStep 4 X (fun r τ => r = none ∧ zFr [16, 17, 18, 31] σ τ) 2 [(0, zf G 1), (1, .int (nI i))] [] τ) (fun _ τ => zFr [16, 17, 18, 31] σ τ) ?_ ?_ 0 σ (Nat.zero_le _) zFr.rf
  · intro i τ hi hI ih
    refine b_Course_goInStep_2 E (nI i) τ ⟨fun q => absurd q (by rw [hI 2 (by decide), hn]; exact nI_ge hi (by omega)), fun _ => ⟨vp_in_nI (by omega) (by decide), by rw [show (0 : Int32) = nI 0 from rfl, zi12]; exact vp_in_nI (by omega) (by decide), fun σ1 e1 => ?_⟩⟩
    rw [nI_1]
    refine ih σ1 ?_
    rw [e1]; exact hI.up (by decide)
  · intro τ hI
    exact b_Course_goInStep_2 E (nI n) τ ⟨fun _ => two τ hI, fun q => absurd (by rw [hI 2 (by decide), hn]; exact nI_le (Nat.le_refl n) (by omega)) q⟩
theorem s_Course_clear (G : zG) (σ : zSt) : zV G 1 M_Course_clear [zf G 1] σ (fun τ => RF [5, 24, 25, 26, 27, 28, 29] σ τ ∧ PV τ [] ∧ ∀ a, a < 12 → τ 24 a = nI 0) := by
  refine zSpec.of (by decide) (Nat.le_of_ble_eq_true rfl) rfl (fun X E => ?_)
  refine b_Course_clear_0 E σ (fun σ1 e1 σ2 e2 σ3 e3 => ?_)
  refine ⟨_, s_fill G 24 12 rfl (by decide) _ _, fun σ4 e4 => ?_⟩
  refine ⟨_, s_fill G 25 12 rfl (by decide) _ _, fun σ5 e5 => ?_⟩
  refine ⟨_, s_fill G 26 12 rfl (by decide) _ _, fun σ6 e6 => ?_⟩
  refine ⟨_, s_fill G 27 12 rfl (by decide) _ _, fun σ7 e7 => ?_⟩
  refine ⟨_, s_fill G 28 12 rfl (by decide) _ _, fun σ8 e8 => ?_⟩
  refine ⟨_, s_fill G 29 24 rfl (by decide) _ _, fun σ9 e9 => ?_⟩
  have hF3 : RF [5, 24, 25, 26, 27, 28, 29] σ σ3 := by
    rw [e3, e2, e1]
    exact ((RF.rf.up (by decide) (by decide)).cnt (Or.inl rfl)).cnt (Or.inr rfl)
  have h93 : zFr [5, 24, 25, 26, 27, 28, 29] σ3 σ9 := by
    rw [e9, e8, e7, e6, e5, e4]
    exact (((((zFr.rf.fill (by decide)).fill (by decide)).fill (by decide)).fill (by decide)).fill (by decide)).fill (by decide)
  refine ⟨rfl, hF3.tr (RF.of h93 (by decide)), ⟨?_, Nat.zero_le _, fun i hi => absurd hi (Nat.not_lt_zero i)⟩, fun a ha => ?_⟩
  · rw [e9, zfill_ne (by decide), e8, zfill_ne (by decide), e7, zfill_ne (by decide), e6, zfill_ne (by decide), e5, zfill_ne (by decide), e4, zfill_ne (by decide), e3, zup_ne (by decide), e2, zup_ne (by decide), e1]
    simp [zup]
    rfl
  · rw [e9, zfill_ne (by decide), e8, zfill_ne (by decide), e7, zfill_ne (by decide), e6, zfill_ne (by decide), e5, zfill_ne (by decide), e4]
    simp [zfill, ha]
    rfl
abbrev FX : List Nat := [0, 1, 3, 4, 5, 9, 10, 11, 12, 13, 14, 15, 16, 17, 18, 19, 20, 21, 22, 23, 24, 25, 26, 27, 28, 29, 30, 31]
abbrev FO : List Nat := [1, 4, 5, 16, 17, 18, 19, 20, 21, 22, 23, 24, 25, 26, 27, 28, 29, 30, 31]
theorem RF.zFr {L M : List Nat} {σ τ : zSt} (h : RF L σ τ) (hs : ∀ c, c ∈ (1 :: L) → c ∈ M) : zFr M σ τ := h.1.mono hs
theorem s_Course_open (G : zG) (σ : zSt) (n R : Nat) (p w s : Int32) (hn : σ 2 0 = nI n) (h1 : 1 ≤ n) (hle : n ≤ 12) (hR1 : 1 ≤ R) (hR2 : R ≤ 20) (hT : TreeOK σ) (hw : w = 0 → ∀ u, u < 12 → σ 13 u = 0) : zV G 6 M_Course_open [zf G 1, .int p, .int w, .int s, .int (nI R)] σ (fun τ => zFr FO σ τ ∧ CS τ n R ∧ ∃ rd, RN τ R rd) := by
  refine zSpec.of (by decide) (Nat.le_of_ble_eq_true rfl) rfl (fun X E => ?_)
  refine b_Course_open_0 E p w s (nI R) σ (fun σ1 e1 σ2 e2 => ?_)
  have h12 : zFr FO σ σ2 := by rw [e2, e1]; exact (zFr.rf.up (by decide)).up (by decide)
  have hw2 : σ2 1 4 = w := by rw [e2, e1, zup_self, zup_self]; simp [upd]
  have hr2 : σ2 1 5 = nI R := by rw [e2, zup_self]; simp [upd]
  refine ⟨_, s_Play_reset G σ2 p s, fun σ3 g3 => ⟨_, s_Course_goInStep G σ3 n R (by rw [g3 2 (by decide), h12 2 (by decide)]; exact hn) hle (by rw [g3 1 (by decide)]; exact hr2) hR2, fun σ4 g4 => ⟨_, s_Play_reset G σ4 p s, fun σ5 g5 => ⟨_, s_Course_clear G σ5, fun σ6 ⟨g6, p6, r6⟩ => ?_⟩⟩⟩⟩
  have h25 : zFr [4, 16, 17, 18, 31] σ2 σ5 := ((g3.mono (by decide)).tr (g4.mono (by decide))).tr (g5.mono (by decide))
  have h6 : zFr FO σ σ6 := (h12.tr (h25.mono (by decide))).tr (g6.zFr (by decide))
  have w6 : σ6 1 4 = w := by rw [g6.2.1, h25 1 (by decide)]; exact hw2
  have r6' : σ6 1 5 = nI R := by rw [g6.2.2, h25 1 (by decide)]; exact hr2
  have S6 : CS σ6 n R := by
    have e13 : σ6 13 = σ 13 := h6 13 (by decide)
    refine ⟨by rw [h6 2 (by decide)]; exact hn, h1, hle, r6', hR1, hR2, fun c u hc hu hz => ?_, fun h u hu => ?_⟩
    · rw [e13] at hz
      rw [h6 10 (by decide), h6 9 (by decide)]
      exact hT c u hc hu hz
    · rw [e13]; exact hw (w6.symm.trans h) u hu
  have N6 : RN σ6 R (fun _ => 0) := by
    refine ⟨[], ⟨fun a ha => ⟨r6 a ha, Nat.zero_le _⟩, p6, fun x hx => absurd hx List.not_mem_nil⟩, fun c hc => ⟨fun u hu hz => ?_, fun _ => rfl⟩⟩
    show 0 + (0 - 1) ≤ 0 - 1
    omega
  -- the second loop
  have two : ∀ υ rd, RF FR σ6 υ → RN υ R rd → (∀ a, rd a = 0) → zZ G M_Course_open 6 X (fun r τ => r = none ∧ zFr FO σ τ ∧ CS τ n R ∧ ∃ rd, RN τ R rd) 90 [(0, zf G 1), (5, .int (0 : Int32))] [] υ := by
    intro υ rd hF hN h0
    refine z_for n (fun i τ => zZ G M_Course_open 6 X (fun r τ => r = none ∧ zFr FO σ τ ∧ CS τ n R ∧ ∃ rd, RN τ R rd) 90 [(0, zf G 1), (5, .int (nI i))] [] τ) (fun i τ => RF FR σ6 τ ∧ ∃ rd, RN τ R rd ∧ ∀ a, i ≤ a → rd a = 0) ?_ ?_ 0 υ (Nat.zero_le _) ⟨hF, rd, hN, fun a _ => h0 a⟩
    · intro i τ hi ⟨hF, rd, ⟨l, hD, hG⟩, h0⟩ ih
      have hS := S6.of hF
      refine b_Course_open_90 E (nI i) τ ⟨fun q => absurd q (by rw [hS.1]; exact nI_ge hi (by omega)), fun _ => ⟨_, s_Course_enterNext G τ n R i rd l hS hD (by omega) (by rw [h0 i (Nat.le_refl i)]; omega), fun σ1 ⟨k1, l', k2, k3⟩ => ?_⟩⟩
      have hN1 : RN σ1 R (rup rd i (rd i + 1)) := by
        refine ⟨l', k2, ?_⟩
        rw [k1.at (by decide)]
        refine GI.enter hS.2.2.2.2.2.2.1 hG (by omega) (fun u hu hz => ?_) k3
        have := (hG i (by omega)).1 u hu hz
        have := h0 i (Nat.le_refl i)
        omega
      refine ⟨_, s_Course_push G σ1 n R i _ (hS.of k1) hN1 (by omega), fun σ2 ⟨m1, rd2, m2, m3⟩ => ?_⟩
      rw [nI_1]
      refine ih σ2 ⟨(hF.tr k1).tr m1, rd2, m2, fun a ha => ?_⟩
      rw [m3 a (by omega)]
      unfold rup
      rw [if_neg (by omega)]
      exact h0 a (by omega)
    · intro τ ⟨hF, rd, hN, _⟩
      exact b_Course_open_90 E (nI n) τ ⟨fun _ => ⟨rfl, h6.tr (hF.zFr (by decide)), S6.of hF, rd, hN⟩, fun q => absurd (by rw [(S6.of hF).1]; exact nI_le (Nat.le_refl n) (by omega)) q⟩
  refine z_for n (fun i τ => zZ G M_Course_open 6 X (fun r τ => r = none ∧ zFr FO σ τ ∧ CS τ n R ∧ ∃ rd, RN τ R rd) 48 [(0, zf G 1), (5, .int (nI i))] [] τ) (fun _ τ => zFr [30] σ6 τ) ?_ ?_ 0 σ6 (Nat.zero_le _) zFr.rf
  · intro i τ hi hI ih
    refine b_Course_open_48 E (nI i) τ ⟨fun q => absurd q (by rw [hI 2 (by decide), S6.1]; exact nI_ge hi (by omega)), fun _ => ⟨vp_in_nI (by omega) (by decide), by rw [show (0 : Int32) = nI 0 from rfl, zi12]; exact vp_in_nI (by omega) (by decide), fun σ1 e1 => ?_⟩⟩
    rw [nI_1]
    refine ih σ1 ?_
    rw [e1]; exact hI.up (by decide)
  · intro τ hI
    refine b_Course_open_48 E (nI n) τ ⟨fun _ => two τ (fun _ => 0) ((RF.of hI (by decide)).mono (by decide)) ?_ (fun _ => rfl), fun q => absurd (by rw [hI 2 (by decide), S6.1]; exact nI_le (Nat.le_refl n) (by omega)) q⟩
    obtain ⟨l, hD, hG⟩ := N6
    refine ⟨l, ⟨fun a ha => by rw [hI 24 (by decide)]; exact hD.1 a ha, hD.2.1.of (fun c hc => hI c (fun h => by rw [List.mem_singleton.mp h] at hc; revert hc; decide)), hD.2.2⟩, ?_⟩
    rw [hI 13 (by decide)]
    exact hG
end
section
-- the public methods of the class keep its invariant
theorem s_Course_leastRound (G : zG) (σ : zSt) (n : Nat) (hn : σ 2 0 = nI n) (hle : n ≤ 12) : zI G 1 M_Course_leastRound [zf G 1] σ (fun _ τ => τ = σ) := by
  refine zSpec.of (by decide) (Nat.le_of_ble_eq_true rfl) rfl (fun X E => ?_)
  refine b_Course_leastRound_0 E σ ?_
  refine z_for n (fun i (x : Int32) => zZ G M_Course_leastRound 1 X (fun r τ => ∃ x : Int32, r = some (.int x) ∧ τ = σ) 7 [(0, zf G 1), (1, .int x), (2, .int (nI i))] [] σ) (fun _ _ => True) ?_ ?_ 0 _ (Nat.zero_le _) trivial
  · intro i x hi _ ih
    exact b_Course_leastRound_7 E x (nI i) σ ⟨fun q => absurd q (by rw [hn]; exact nI_ge hi (by omega)), fun _ => ⟨vp_in_nI (by omega) (by decide), by rw [nI_1]; exact ih _ trivial⟩⟩
  · intro x _
    exact b_Course_leastRound_7 E x (nI n) σ ⟨fun _ => ⟨_, rfl, rfl⟩, fun q => absurd (by rw [hn]; exact nI_le (Nat.le_refl n) (by omega)) q⟩
theorem s_Course_greatestRound (G : zG) (σ : zSt) (n : Nat) (hn : σ 2 0 = nI n) (hle : n ≤ 12) : zI G 1 M_Course_greatestRound [zf G 1] σ (fun _ τ => τ = σ) := by
  refine zSpec.of (by decide) (Nat.le_of_ble_eq_true rfl) rfl (fun X E => ?_)
  refine b_Course_greatestRound_0 E σ ?_
  refine z_for n (fun i (x : Int32) => zZ G M_Course_greatestRound 1 X (fun r τ => ∃ x : Int32, r = some (.int x) ∧ τ = σ) 4 [(0, zf G 1), (1, .int x), (2, .int (nI i))] [] σ) (fun _ _ => True) ?_ ?_ 0 _ (Nat.zero_le _) trivial
  · intro i x hi _ ih
    exact b_Course_greatestRound_4 E x (nI i) σ ⟨fun q => absurd q (by rw [hn]; exact nI_ge hi (by omega)), fun _ => ⟨vp_in_nI (by omega) (by decide), by rw [nI_1]; exact ih _ trivial⟩⟩
  · intro x _
    exact b_Course_greatestRound_4 E x (nI n) σ ⟨fun _ => ⟨_, rfl, rfl⟩, fun q => absurd (by rw [hn]; exact nI_le (Nat.le_refl n) (by omega)) q⟩
theorem s_Course_isOver (G : zG) (σ : zSt) (n : Nat) (hn : σ 2 0 = nI n) (hle : n ≤ 12) : zB G 2 M_Course_isOver [zf G 1] σ (fun _ τ => τ = σ) := by
  refine zSpec.of (by decide) (Nat.le_of_ble_eq_true rfl) rfl (fun X E => ?_)
  refine b_Course_isOver_0 E σ ⟨fun _ => ⟨false, rfl, rfl⟩, fun _ => ⟨_, s_Course_leastRound G σ n hn hle, ?_⟩⟩
  rintro x τ rfl
  exact ⟨fun _ => ⟨false, rfl, rfl⟩, fun _ => ⟨true, rfl, rfl⟩⟩
theorem s_Course_countWrong (G : zG) (σ : zSt) (n R : Nat) (rd : Nat → Nat) (hn : σ 2 0 = nI n) (hle : n ≤ 12) (hR : R ≤ 20) (hd : ∀ a, a < 12 → σ 24 a = nI (rd a) ∧ rd a ≤ R) : zI G 1 M_Course_countWrong [zf G 1] σ (fun _ τ => τ = σ) := by
  refine zSpec.of (by decide) (Nat.le_of_ble_eq_true rfl) rfl (fun X E => ?_)
  refine b_Course_countWrong_0 E σ ?_
  refine z_for n (fun i (x : Int32) => zZ G M_Course_countWrong 1 X (fun r τ => ∃ x : Int32, r = some (.int x) ∧ τ = σ) 4 [(0, zf G 1), (1, .int x), (2, .int (nI i))] [] σ) (fun _ _ => True) ?_ ?_ 0 _ (Nat.zero_le _) trivial
  · intro i x hi _ ih
    obtain ⟨d1, d2⟩ := hd i (by omega)
    have ci : (nI i).toNatClampNeg = i := nI_clamp (by omega)
    have ii : vp_in (nI i) 12 := vp_in_nI (by omega) (by decide)
    refine b_Course_countWrong_4 E x (nI i) σ ⟨fun q => absurd q (by rw [hn]; exact nI_ge hi (by omega)), fun _ => ?_⟩
    refine z_for (rd i + 1) (fun r (x : Int32) => zZ G M_Course_countWrong 1 X (fun r τ => ∃ x : Int32, r = some (.int x) ∧ τ = σ) 17 [(0, zf G 1), (1, .int x), (2, .int (nI i)), (3, .int (nI r))] [] σ) (fun _ _ => True) ?_ ?_ 0 x (Nat.zero_le _) trivial
    · intro r x hr _ ihr
      have ir : vp_in (nI r * 12 + nI i) 252 := by rw [zi12]; exact vp_in_nI (by omega) (by decide)
      exact b_Course_countWrong_17 E x (nI i) (nI r) σ ⟨ii, fun q => absurd q (by rw [ci, d1]; exact nI_nlt (by omega) (by omega)), fun _ => ⟨ir, ir, fun _ => by rw [nI_1]; exact ihr _ trivial, fun _ => by rw [nI_1]; exact ihr _ trivial⟩⟩
    · intro x _
      exact b_Course_countWrong_17 E x (nI i) (nI (rd i + 1)) σ ⟨ii, fun _ => by rw [nI_1]; exact ih _ trivial, fun q => absurd (by rw [ci, d1]; exact nI_lt (by omega) (by omega)) q⟩
  · intro x _
    exact b_Course_countWrong_4 E x (nI n) σ ⟨fun _ => ⟨_, rfl, rfl⟩, fun q => absurd (by rw [hn]; exact nI_le (Nat.le_refl n) (by omega)) q⟩
/-- the class's invariant -/
def CI (σ : zSt) : Prop := (∃ n, σ 2 0 = nI n ∧ 1 ≤ n ∧ n ≤ 12) ∧ (¬ σ 0 1 = 0 → ∃ n R rd, CS σ n R ∧ RN σ R rd)
theorem CI.run {σ τ : zSt} {n R : Nat} {rd : Nat → Nat} (hS : CS σ n R) (hF : RF FR σ τ) (hN : RN τ R rd) : CI τ := ⟨⟨n, by rw [hF.at (by decide)]; exact hS.1, hS.2.1, hS.2.2.1⟩, fun _ => ⟨n, R, rd, hS.of hF, hN⟩⟩
theorem FR_x {σ τ : zSt} (h : RF FR σ τ) : zFr FX σ τ := h.1.mono (by decide)
theorem s_P_hasLetter (G : zG) (σ : zSt) (v : Int32) : zB G 0 M_P_hasLetter [zf G 0, .int v] σ (fun b τ => b = decide (¬ σ 0 1 = 0 ∧ ¬ v < 0 ∧ ¬ σ 5 0 ≤ v) ∧ τ = σ) := by
  refine zSpec.of (by decide) (Nat.le_of_ble_eq_true rfl) rfl (fun X E => ?_)
  exact b_P_hasLetter_0 E v σ ⟨fun h => ⟨false, rfl, by simp [h], rfl⟩, fun h => ⟨fun h1 => ⟨false, rfl, by simp [h1], rfl⟩, fun h1 => ⟨fun h2 => ⟨false, rfl, by simp [h2], rfl⟩, fun h2 => ⟨true, rfl, by simp [h, h1, h2], rfl⟩⟩⟩⟩
theorem s_P_hasRound (G : zG) (σ : zSt) (a r : Int32) : zB G 1 M_P_hasRound [zf G 0, .int a, .int r] σ (fun b τ => b = decide (¬ σ 0 1 = 0 ∧ zHas σ a = true ∧ ¬ r < 0 ∧ ¬ σ 1 5 < r) ∧ τ = σ) := by
  refine zSpec.of (by decide) (Nat.le_of_ble_eq_true rfl) rfl (fun X E => ?_)
  exact b_P_hasRound_0 E a r σ ⟨fun h => ⟨false, rfl, by simp [h], rfl⟩, fun h => ⟨fun h1 => ⟨false, rfl, by simp [h1], rfl⟩, fun h1 => ⟨fun h2 => ⟨false, rfl, by simp [h2], rfl⟩, fun h2 => ⟨fun h3 => ⟨false, rfl, by simp [h3], rfl⟩, fun h3 => ⟨true, rfl, by simp [h, h1, h2, h3], rfl⟩⟩⟩⟩⟩
theorem letter_of {σ : zSt} {v : Int32} (h : decide (¬ σ 0 1 = 0 ∧ ¬ v < 0 ∧ ¬ σ 5 0 ≤ v) = true) {l : List Lt} (hP : PV σ l) : ∃ i, i < l.length ∧ v = nI i := by
  obtain ⟨-, h1, h2⟩ := of_decide_eq_true h
  rw [hP.1] at h2
  rcases pk_ix v (n := l.length) (by have := hP.2.1; omega) with h3 | h3 | h3
  · exact absurd h3 h1
  · exact absurd h3 h2
  · exact h3
theorem s_P_come (G : zG) (σ : zSt) (v : Int32) (h : CI σ) : zI G 7 M_P_come [zf G 0, .int v] σ (fun _ τ => CI τ ∧ zFr FX σ τ) := by
  refine zSpec.of (by decide) (Nat.le_of_ble_eq_true rfl) rfl (fun X E => ?_)
  refine b_P_come_0 E v σ ⟨_, s_P_hasLetter G σ v, ?_⟩
  rintro b τ ⟨hb, rfl⟩
  refine ⟨fun _ => ⟨_, rfl, h, zFr.rf⟩, fun ht => ?_⟩
  rw [hb] at ht
  obtain ⟨n, R, rd, hS, l, hD, hG⟩ := h.2 (of_decide_eq_true ht).1
  obtain ⟨i, hi, rfl⟩ := letter_of ht hD.2.1
  exact ⟨_, s_Course_bring G _ n R i rd l hS hD hG hi, fun x τ ⟨k1, rd', k2⟩ => ⟨_, rfl, CI.run hS k1 k2, FR_x k1⟩⟩
theorem s_P_start (G : zG) (σ : zSt) (p w s k r : Int32) (h : CI σ) : zI G 7 M_P_start [zf G 0, .int p, .int w, .int s, .int k, .int r] σ (fun _ τ => CI τ ∧ zFr FX σ τ) := by
  refine zSpec.of (by decide) (Nat.le_of_ble_eq_true rfl) rfl (fun X E => ?_)
  obtain ⟨n, hn, h1, hle⟩ := h.1
  have bad : ∃ x : Int32, some (Value.int (-1 : Int32)) = some (Value.int x) ∧ CI σ ∧ zFr FX σ σ := ⟨_, rfl, h, zFr.rf⟩
  have go : zHas σ s = true → ¬ r < 1 → r ≤ 20 → zZ G M_P_start 7 X (fun r τ => ∃ x : Int32, r = some (.int x) ∧ CI τ ∧ zFr FX σ τ) 69 [(0, zf G 0), (1, .int p), (2, .int w), (3, .int s), (4, .int k), (5, .int r)] [] σ := by
    intro hs hr1 hr2
    obtain ⟨j, hj, rfl⟩ := zHas_of hs hn hle
    obtain ⟨R, hR, rfl⟩ := nI_of2 (M := 20) (n := 20) (by decide) (fun e => hr1 (Int32.lt_of_lt_of_le e (by decide))) hr2
    have hR1 : 1 ≤ R := by
      rcases Nat.lt_or_ge R 1 with e | e
      · exact absurd (nI_lt e (by decide)) hr1
      · exact e
    refine b_P_start_69 E p w (nI j) k (nI R) σ ⟨_, s_Net_isConnected G σ n hn h1 hle, ?_⟩
    rintro b τ ⟨-, rfl⟩
    refine ⟨fun _ => ⟨_, s_Frame_setUp G _ n j w k hn hle hj, fun σ3 ⟨g1, g2, g3⟩ => ⟨_, s_Course_open G σ3 n R p w (nI j) (by rw [g1 2 (by decide)]; exact hn) h1 hle hR1 hR g2 g3, fun σ4 ⟨k1, k2, rd, l, k3, k4⟩ σ5 e5 => ⟨_, rfl, ?_, ?_⟩⟩⟩, fun _ => bad⟩
    · have h50 : ∀ c, c ≠ 0 → σ5 c = σ4 c := fun c hc => by rw [e5, zup_ne hc]
      refine ⟨⟨n, by rw [h50 2 (by decide)]; exact k2.1, h1, hle⟩, fun _ => ⟨n, R, rd, ?_, l, ?_, ?_⟩⟩
      · obtain ⟨t1, t2, t3, t4, t5, t6, t7, t8⟩ := k2
        refine ⟨by rw [h50 2 (by decide)]; exact t1, t2, t3, by rw [h50 1 (by decide)]; exact t4, t5, t6, fun c u hc hu hz => ?_, fun e u hu => ?_⟩
        · rw [h50 13 (by decide)] at hz
          rw [h50 10 (by decide), h50 9 (by decide)]
          exact t7 c u hc hu hz
        · rw [h50 1 (by decide)] at e
          rw [h50 13 (by decide)]
          exact t8 e u hu
      · exact ⟨fun a ha => by rw [h50 24 (by decide)]; exact k3.1 a ha, k3.2.1.of (fun c hc => h50 c (fun e => by rw [e] at hc; revert hc; decide)), k3.2.2⟩
      · rw [h50 13 (by decide)]; exact k4
    · rw [e5]
      exact ((g1.mono (by decide)).tr (k1.mono (by decide))).up (by decide)
  exact b_P_start_0 E p w s k r σ ⟨fun _ => bad, fun _ => ⟨fun _ => bad, fun _ => ⟨fun _ => bad, fun _ => ⟨fun _ => ⟨fun _ => bad, fun hs => ⟨fun _ => bad, fun hr1 => ⟨fun hr2 => ⟨fun _ => go hs hr1 hr2, fun _ => ⟨fun _ => bad, fun _ => ⟨fun _ => go hs hr1 hr2, fun _ => bad⟩⟩⟩, fun _ => bad⟩⟩⟩, fun _ => bad⟩⟩⟩⟩
theorem s_P_flow (G : zG) (σ : zSt) (m s : Int32) (h : CI σ) : zI G 7 M_P_flow [zf G 0, .int m, .int s] σ (fun _ τ => CI τ ∧ zFr FX σ τ) := by
  refine zSpec.of (by decide) (Nat.le_of_ble_eq_true rfl) rfl (fun X E => ?_)
  have bad : ∃ x : Int32, some (Value.int (-1 : Int32)) = some (Value.int x) ∧ CI σ ∧ zFr FX σ σ := ⟨_, rfl, h, zFr.rf⟩
  refine b_P_flow_0 E m s σ ⟨fun _ => bad, fun hm => ⟨fun _ => bad, fun hm2 => ⟨fun hs => ?_, fun _ => bad⟩⟩⟩
  obtain ⟨k, hk, rfl⟩ := nI_of2 (M := 3000) (n := 3000) (by decide) hm (Int32.not_lt.mp hm2)
  obtain ⟨s0, hs0, rfl⟩ := nI_of (Int32.not_lt.mpr hs)
  rw [nI_l hs0]
  refine z_for k (fun i (q : Nat × zSt) => zZ G M_P_flow 7 X (fun r τ => ∃ x : Int32, r = some (.int x) ∧ CI τ ∧ zFr FX σ τ) 23 [(0, zf G 0), (1, .int (nI k)), (3, .long (lN q.1)), (5, .int (nI i))] [] q.2) (fun _ q => q.1 < 2 ^ 31 ∧ CI q.2 ∧ zFr FX σ q.2) ?_ ?_ 0 (s0, σ) (Nat.zero_le _) ⟨hs0, h, zFr.rf⟩
  · intro i ⟨z, τ⟩ hi ⟨hz, hC, hF⟩ ih
    dsimp only at hz hC hF ih ⊢
    have en : ∀ x : Int32, ∃ y : Int32, some (Value.int x) = some (Value.int y) ∧ CI τ ∧ zFr FX σ τ := fun x => ⟨x, rfl, hC, hF⟩
    refine b_P_flow_23 E (nI k) (lN z) (nI i) τ ⟨fun _ => en _, fun _ => ⟨fun _ => en _, fun hst => ?_⟩⟩
    obtain ⟨n, R, rd, hS, l, hD, hG⟩ := hC.2 hst
    have hl := hD.2.1.2.1
    rw [hD.2.1.1, nI_l (by omega)]
    refine ⟨fun _ => en _, fun hp => ?_⟩
    have hpos : 0 < l.length := by
      rcases Nat.eq_zero_or_pos l.length with e | e
      · rw [e] at hp; exact absurd (by decide) hp
      · exact e
    refine ⟨fun e => ?_, ?_⟩
    · have := (lN_eq (a := l.length) (b := 0) (by omega) (by decide)).mp e
      omega
    · have hrem : (lN z - lN z / lN l.length * lN l.length).toInt32 = nI (z % l.length) := by
        rw [pk_lRem (by omega) hpos (by omega), lN_i]
      rw [hrem]
      refine ⟨_, s_Course_bring G τ n R (z % l.length) rd l hS hD hG (Nat.mod_lt _ hpos), fun x σ1 ⟨k1, rd', k2⟩ => ?_⟩
      rw [nI_1]
      have hnext : ((69069 : Int64) * lN z + (1 : Int64)) &&& (2147483647 : Int64) = lN ((69069 * z + 1) % 2 ^ 31) := by
        rw [show (69069 : Int64) = lN 69069 from rfl, show (1 : Int64) = lN 1 from rfl, show (2147483647 : Int64) = lN (2 ^ 31 - 1) from rfl, lN_mul, lN_add]
        apply Int64.toBitVec_inj.mp
        show BitVec.ofNat 64 (69069 * z + 1) &&& BitVec.ofNat 64 (2 ^ 31 - 1) = BitVec.ofNat 64 ((69069 * z + 1) % 2 ^ 31)
        apply BitVec.eq_of_toNat_eq
        simp only [BitVec.toNat_and, BitVec.toNat_ofNat]
        rw [Nat.mod_eq_of_lt (show 69069 * z + 1 < 2 ^ 64 by omega), Nat.mod_eq_of_lt (show 2 ^ 31 - 1 < 2 ^ 64 by decide), Nat.and_two_pow_sub_one_eq_mod, Nat.mod_eq_of_lt (show (69069 * z + 1) % 2 ^ 31 < 2 ^ 64 by omega)]
      rw [hnext]
      exact ih ((69069 * z + 1) % 2 ^ 31, σ1) ⟨Nat.mod_lt _ (by decide), CI.run hS k1 k2, hF.tr (FR_x k1)⟩
  · intro ⟨z, τ⟩ ⟨_, hC, hF⟩
    exact b_P_flow_23 E (nI k) (lN z) (nI k) τ ⟨fun _ => ⟨_, rfl, hC, hF⟩, fun q => absurd (nI_le (Nat.le_refl k) (by omega)) q⟩
theorem s_P_told (G : zG) (σ : zSt) (a w : Int32) (h : CI σ) : zI G 1 M_P_told [zf G 0, .int a, .int w] σ (fun _ τ => τ = σ) := by
  refine zSpec.of (by decide) (Nat.le_of_ble_eq_true rfl) rfl (fun X E => ?_)
  obtain ⟨n, hn, h1, hle⟩ := h.1
  have en : ∀ x : Int32, ∃ y : Int32, some (Value.int x) = some (Value.int y) ∧ σ = σ := fun x => ⟨x, rfl, rfl⟩
  refine b_P_told_0 E a w σ ⟨fun _ => en _, fun ha => ⟨fun _ => en _, fun _ => ⟨fun _ => ?_, fun _ => en _⟩⟩⟩
  obtain ⟨j, hj, rfl⟩ := zHas_of ha hn hle
  have ij : vp_in (nI j) 12 := vp_in_nI (by omega) (by decide)
  exact ⟨fun _ => ⟨fun _ => ⟨fun _ => ⟨ij, en _⟩, fun _ => ⟨ij, en _⟩, fun _ => ⟨ij, en _⟩, fun _ => ⟨ij, en _⟩, fun _ => ⟨ij, fun _ => en _, fun _ => en _⟩, fun _ => ⟨ij, en _⟩, fun _ => ⟨ij, en _⟩⟩, fun _ => en _⟩, fun _ => ⟨ij, en _⟩⟩
theorem round_of {σ : zSt} {a r : Int32} (hC : CI σ) (h : decide (¬ σ 0 1 = 0 ∧ zHas σ a = true ∧ ¬ r < 0 ∧ ¬ σ 1 5 < r) = true) : ∃ i j, i < 12 ∧ j ≤ 20 ∧ a = nI i ∧ r = nI j := by
  obtain ⟨h0, h1, h2, h3⟩ := of_decide_eq_true h
  obtain ⟨n, R, rd, hS, _⟩ := hC.2 h0
  obtain ⟨i, hi, rfl⟩ := zHas_of h1 hS.1 hS.2.2.1
  rw [hS.2.2.2.1] at h3
  obtain ⟨j, hj, rfl⟩ := nI_of2 (M := nI R) (n := R) (nI_toInt (by have := hS.2.2.2.2.2.1; omega)) h2 (Int32.not_lt.mp h3)
  exact ⟨i, j, by have := hS.2.2.1; omega, by have := hS.2.2.2.2.2.1; omega, rfl, rfl⟩
theorem s_P_past (G : zG) (σ : zSt) (a r : Int32) (h : CI σ) : zI G 2 M_P_past [zf G 0, .int a, .int r] σ (fun _ τ => τ = σ) := by
  refine zSpec.of (by decide) (Nat.le_of_ble_eq_true rfl) rfl (fun X E => ?_)
  refine b_P_past_0 E a r σ ⟨_, s_P_hasRound G σ a r, ?_⟩
  rintro b τ ⟨hb, rfl⟩
  refine ⟨fun ht => ?_, fun _ => ⟨_, rfl, rfl⟩⟩
  rw [hb] at ht
  obtain ⟨i, j, hi, hj, rfl, rfl⟩ := round_of h ht
  exact ⟨vp_in_nI hi (by decide), fun _ => ⟨by rw [zi12]; exact vp_in_nI (by omega) (by decide), _, rfl, rfl⟩, fun _ => ⟨_, rfl, rfl⟩⟩
theorem s_P_inStep (G : zG) (σ : zSt) (a r : Int32) (h : CI σ) : zI G 2 M_P_inStep [zf G 0, .int a, .int r] σ (fun _ τ => τ = σ) := by
  refine zSpec.of (by decide) (Nat.le_of_ble_eq_true rfl) rfl (fun X E => ?_)
  refine b_P_inStep_0 E a r σ ⟨_, s_P_hasRound G σ a r, ?_⟩
  rintro b τ ⟨hb, rfl⟩
  refine ⟨fun _ => ⟨_, rfl, rfl⟩, fun ht => ?_⟩
  rw [hb] at ht
  obtain ⟨i, j, hi, hj, rfl, rfl⟩ := round_of h ht
  exact ⟨by rw [zi12]; exact vp_in_nI (by omega) (by decide), _, rfl, rfl⟩
theorem s_P_differ (G : zG) (σ : zSt) (h : CI σ) : zI G 2 M_P_differ [zf G 0] σ (fun _ τ => τ = σ) := by
  refine zSpec.of (by decide) (Nat.le_of_ble_eq_true rfl) rfl (fun X E => ?_)
  refine b_P_differ_0 E σ ⟨fun _ => ⟨_, rfl, rfl⟩, fun hst => ?_⟩
  obtain ⟨n, R, rd, hS, l, hD, hG⟩ := h.2 hst
  exact ⟨_, s_Course_countWrong G σ n R rd hS.1 hS.2.2.1 hS.2.2.2.2.2.1 hD.1, fun x τ e => ⟨_, rfl, e⟩⟩
theorem s_P_letter (G : zG) (σ : zSt) (v w : Int32) (h : CI σ) : zI G 1 M_P_letter [zf G 0, .int v, .int w] σ (fun _ τ => τ = σ) := by
  refine zSpec.of (by decide) (Nat.le_of_ble_eq_true rfl) rfl (fun X E => ?_)
  refine b_P_letter_0 E v w σ ⟨_, s_P_hasLetter G σ v, ?_⟩
  rintro b τ ⟨hb, rfl⟩
  have en : ∀ x : Int32, ∃ y : Int32, some (Value.int x) = some (Value.int y) ∧ τ = τ := fun x => ⟨x, rfl, rfl⟩
  refine ⟨fun ht => ?_, fun _ => en _⟩
  rw [hb] at ht
  obtain ⟨n, R, rd, hS, l, hD, hG⟩ := h.2 (of_decide_eq_true ht).1
  obtain ⟨i, hi, rfl⟩ := letter_of ht hD.2.1
  have ii : vp_in (nI i) 528 := vp_in_nI (by have := hD.2.1.2.1; omega) (by decide)
  exact ⟨fun _ => ⟨ii, en _⟩, fun _ => ⟨ii, en _⟩, fun _ => ⟨ii, en _⟩, fun _ => ⟨ii, en _⟩, fun _ => ⟨ii, en _⟩, fun _ => en _⟩
theorem s_P_count (G : zG) (σ : zSt) (w : Int32) (h : CI σ) : zI G 3 M_P_count [zf G 0, .int w] σ (fun _ τ => τ = σ) := by
  refine zSpec.of (by decide) (Nat.le_of_ble_eq_true rfl) rfl (fun X E => ?_)
  obtain ⟨n, hn, h1, hle⟩ := h.1
  have en : ∀ x : Int32, ∃ y : Int32, some (Value.int x) = some (Value.int y) ∧ σ = σ := fun x => ⟨x, rfl, rfl⟩
  refine b_P_count_0 E w σ ⟨fun _ => ⟨fun _ => ⟨fun _ => ⟨fun _ => en _, fun _ => en _, fun _ => en _, fun _ => ⟨_, s_Course_leastRound G σ n hn hle, fun x τ e => ⟨_, rfl, e⟩⟩, fun _ => ⟨_, s_Course_greatestRound G σ n hn hle, fun x τ e => ⟨_, rfl, e⟩⟩, fun _ => ⟨_, s_Course_isOver G σ n hn hle, fun b τ e => ⟨fun _ => ⟨_, rfl, e⟩, fun _ => ⟨_, rfl, e⟩⟩⟩, fun _ => en _, fun _ => en _, fun _ => en _⟩, fun _ => en _⟩, fun _ => en _⟩, fun _ => en _⟩
end
