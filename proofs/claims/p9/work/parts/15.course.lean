-- Course: the running; which cells change, the letters' list, how many GOs wait
abbrev FR : List Nat := [5, 16, 17, 18, 19, 20, 21, 22, 23, 24, 25, 26, 27, 28, 29, 30]
/-- only the cells of L and the two counts of letters change -/
def RF (L : List Nat) (σ τ : zSt) : Prop := zFr (1 :: L) σ τ ∧ τ 1 4 = σ 1 4 ∧ τ 1 5 = σ 1 5
theorem RF.rf {L : List Nat} {σ : zSt} : RF L σ σ := ⟨zFr.rf, rfl, rfl⟩
theorem RF.tr {L : List Nat} {σ τ υ : zSt} (h : RF L σ τ) (h2 : RF L τ υ) : RF L σ υ := ⟨h.1.tr h2.1, h2.2.1.trans h.2.1, h2.2.2.trans h.2.2⟩
theorem RF.mono {L M : List Nat} {σ τ : zSt} (h : RF L σ τ) (hs : ∀ c, c ∈ L → c ∈ M) : RF M σ τ := ⟨h.1.mono (fun c hc => by
  rcases List.mem_cons.mp hc with e | e
  · rw [e]; exact List.mem_cons_self
  · exact List.mem_cons_of_mem _ (hs c e)), h.2⟩
theorem RF.of {L : List Nat} {σ τ : zSt} (h : zFr L σ τ) (h1 : 1 ∉ L) : RF L σ τ := ⟨h.mono (fun c hc => List.mem_cons_of_mem _ hc), by rw [h 1 h1], by rw [h 1 h1]⟩
theorem RF.up {L : List Nat} {σ τ : zSt} {c j : Nat} {v : Int32} (h : RF L σ τ) (hc : c ∈ L) (h1 : 1 ≠ c) : RF L σ (zup τ c j v) := ⟨h.1.up (List.mem_cons_of_mem _ hc), by rw [zup_ne h1]; exact h.2.1, by rw [zup_ne h1]; exact h.2.2⟩
theorem RF.cnt {L : List Nat} {σ τ : zSt} {j : Nat} {v : Int32} (h : RF L σ τ) (hj : j = 6 ∨ j = 7) : RF L σ (zup τ 1 j v) := by
  refine ⟨h.1.up List.mem_cons_self, ?_, ?_⟩
  · rw [zup_self]; rcases hj with rfl | rfl <;> simp [upd] <;> exact h.2.1
  · rw [zup_self]; rcases hj with rfl | rfl <;> simp [upd] <;> exact h.2.2
theorem RF.at {L : List Nat} {σ τ : zSt} (h : RF L σ τ) {c : Nat} (hc : c ∉ (1 :: L)) : τ c = σ c := h.1 c hc
def gos (l : List Lt) (c : Nat) : Nat := l.countP (fun x => decide (x.1 = 4 ∧ x.2.2.1 = nI c))
def LI (l : List Lt) : Prop := ∀ x, x ∈ l → (∃ a, a < 12 ∧ x.2.1 = nI a) ∧ (∃ b, b < 12 ∧ x.2.2.1 = nI b)
theorem LI_padd {l : List Lt} {x : Lt} (h : LI l) (hx : (∃ a, a < 12 ∧ x.2.1 = nI a) ∧ (∃ b, b < 12 ∧ x.2.2.1 = nI b)) : LI (padd l x) := by
  unfold padd
  split
  · intro y hy
    rcases List.mem_append.mp hy with h1 | h1
    · exact h y h1
    · rw [List.mem_singleton.mp h1]; exact hx
  · exact h
theorem gos_padd (l : List Lt) (x : Lt) (c : Nat) : gos (padd l x) c ≤ gos l c + (if x.1 = 4 ∧ x.2.2.1 = nI c then 1 else 0) := by
  unfold padd
  split
  · unfold gos
    rw [List.countP_append]
    simp only [List.countP_cons, List.countP_nil, decide_eq_true_eq]
    omega
  · omega
theorem s_Course_send (G : zG) (σ : zSt) (n a : Nat) (l : List Lt) (kind recv r num : Int32) (hn : σ 2 0 = nI n) (hle : n ≤ 12) (ha : a < 12) (hP : PV σ l) (hL : LI l) : zV G 1 M_Course_send [zf G 1, .int kind, .int (nI a), .int recv, .int r, .int num] σ (fun τ => RF FPool σ τ ∧ ∃ l', PV τ l' ∧ LI l' ∧ ∀ c, c < 12 → gos l' c ≤ gos l c + (if kind = 4 ∧ zIn recv (nI c) = true then 1 else 0)) := by
  refine zSpec.of (by decide) (Nat.le_of_ble_eq_true rfl) rfl (fun X E => ?_)
  refine b_Course_send_0 E kind (nI a) recv r num σ ?_
  refine z_for n (fun i τ => zZ G M_Course_send 1 X (fun r τ => r = none ∧ RF FPool σ τ ∧ ∃ l', PV τ l' ∧ LI l' ∧ ∀ c, c < 12 → gos l' c ≤ gos l c + (if kind = 4 ∧ zIn recv (nI c) = true then 1 else 0)) 3 [(0, zf G 1), (1, .int kind), (2, .int (nI a)), (3, .int recv), (4, .int r), (5, .int num), (6, .int (nI i))] [] τ) (fun i τ => RF FPool σ τ ∧ ∃ l', PV τ l' ∧ LI l' ∧ ∀ c, c < 12 → gos l' c ≤ gos l c + (if kind = 4 ∧ zIn recv (nI c) = true ∧ c < i then 1 else 0)) ?_ ?_ 0 σ (Nat.zero_le _) ⟨RF.rf, l, hP, hL, fun c _ => Nat.le_add_right _ _⟩
  · intro i τ hi ⟨hF, l', hP', hL', hg⟩ ih
    have nx : ∀ υ, RF FPool σ υ → ∀ l2, PV υ l2 → LI l2 → (∀ c, c < 12 → gos l2 c ≤ gos l c + (if kind = 4 ∧ zIn recv (nI c) = true ∧ c < i + 1 then 1 else 0)) → zZ G M_Course_send 1 X (fun r τ => r = none ∧ RF FPool σ τ ∧ ∃ l', PV τ l' ∧ LI l' ∧ ∀ c, c < 12 → gos l' c ≤ gos l c + (if kind = 4 ∧ zIn recv (nI c) = true then 1 else 0)) 3 [(0, zf G 1), (1, .int kind), (2, .int (nI a)), (3, .int recv), (4, .int r), (5, .int num), (6, .int (nI i + 1))] [] υ := by
      intro υ h1 l2 h2 h3 h4
      rw [nI_1]
      exact ih υ ⟨h1, l2, h2, h3, h4⟩
    refine b_Course_send_3 E kind (nI a) recv r num (nI i) τ ⟨fun q => absurd q (by rw [hF.at (by decide), hn]; exact nI_ge hi (by omega)), fun _ => ⟨fun hz => nx τ hF l' hP' hL' (fun c hc => ?_), fun hz => ⟨_, s_Pool_add G τ l' kind (nI a) (nI i) r num hP', fun σ1 ⟨p1, p2⟩ => ?_⟩⟩⟩
    · refine Nat.le_trans (hg c hc) ?_
      by_cases h : kind = 4 ∧ zIn recv (nI c) = true ∧ c < i
      · have h2 : kind = 4 ∧ zIn recv (nI c) = true ∧ c < i + 1 := ⟨h.1, h.2.1, by omega⟩
        rw [if_pos h, if_pos h2]; exact Nat.le_refl _
      · rw [if_neg h]; omega
    · have hL1 : LI (padd l' (kind, nI a, nI i, r, num)) := LI_padd hL' ⟨⟨a, ha, rfl⟩, ⟨i, by omega, rfl⟩⟩
      have hg1 : ∀ c, c < 12 → gos (padd l' (kind, nI a, nI i, r, num)) c ≤ gos l c + (if kind = 4 ∧ zIn recv (nI c) = true ∧ c < i + 1 then 1 else 0) := by
        intro c hc
        have h1 := gos_padd l' (kind, nI a, nI i, r, num) c
        have h2 := hg c hc
        dsimp only at h1
        by_cases hci : c = i
        · subst hci
          have h3 : ¬ (kind = 4 ∧ zIn recv (nI c) = true ∧ c < c) := fun h => Nat.lt_irrefl _ h.2.2
          rw [if_neg h3] at h2
          by_cases hk : kind = 4
          · rw [if_pos ⟨hk, rfl⟩] at h1
            rw [if_pos ⟨hk, hz, by omega⟩]; omega
          · rw [if_neg (fun h => hk h.1)] at h1
            rw [if_neg (fun h => hk h.1)]; omega
        · have hne : ¬ (kind = 4 ∧ nI i = nI c) := fun h => hci ((nI_eq (by omega) (by omega)).mp h.2).symm
          rw [if_neg hne] at h1
          by_cases h : kind = 4 ∧ zIn recv (nI c) = true ∧ c < i
          · have h4 : kind = 4 ∧ zIn recv (nI c) = true ∧ c < i + 1 := ⟨h.1, h.2.1, by omega⟩
            rw [if_pos h] at h2; rw [if_pos h4]; omega
          · rw [if_neg h] at h2; omega
      have fin : ∀ (σ2 υ : zSt) (v w : Int32), σ2 = zup σ1 1 6 v → υ = zup σ2 1 7 w → zZ G M_Course_send 1 X (fun r τ => r = none ∧ RF FPool σ τ ∧ ∃ l', PV τ l' ∧ LI l' ∧ ∀ c, c < 12 → gos l' c ≤ gos l c + (if kind = 4 ∧ zIn recv (nI c) = true then 1 else 0)) 3 [(0, zf G 1), (1, .int kind), (2, .int (nI a)), (3, .int recv), (4, .int r), (5, .int num), (6, .int (nI i + 1))] [] υ := by
        rintro σ2 υ v w rfl rfl
        refine nx _ ?_ _ (p1.of (fun c hc => ?_)) hL1 hg1
        · exact ((hF.tr (RF.of p2 (by decide))).cnt (Or.inl rfl)).cnt (Or.inr rfl)
        · have hc1 : c ≠ 1 := fun e => by rw [e] at hc; revert hc; decide
          rw [zup_ne hc1, zup_ne hc1]
      exact ⟨fun _ σ2 e2 => ⟨fun _ σ3 e3 => fin σ2 σ3 _ _ e2 e3, fun _ σ3 e3 => fin σ2 σ3 _ _ e2 e3⟩, fun _ σ2 e2 => ⟨fun _ σ3 e3 => fin σ2 σ3 _ _ e2 e3, fun _ σ3 e3 => fin σ2 σ3 _ _ e2 e3⟩⟩
  · intro τ ⟨hF, l', hP', hL', hg⟩
    refine b_Course_send_3 E kind (nI a) recv r num (nI n) τ ⟨fun _ => ⟨rfl, hF, l', hP', hL', fun c hc => Nat.le_trans (hg c hc) ?_⟩, fun q => absurd (by rw [hF.at (by decide), hn]; exact nI_le (Nat.le_refl n) (by omega)) q⟩
    by_cases h : kind = 4 ∧ zIn recv (nI c) = true ∧ c < n
    · rw [if_pos h, if_pos ⟨h.1, h.2.1⟩]; exact Nat.le_refl _
    · rw [if_neg h]; omega
/-- a list of letters in a state, none of them a new GO -/
def KP (l : List Lt) (τ : zSt) : Prop := ∃ l', PV τ l' ∧ LI l' ∧ ∀ c, c < 12 → gos l' c ≤ gos l c
theorem s_Course_send' (G : zG) (σ : zSt) (n a : Nat) (l : List Lt) (kind recv r num : Int32) (hn : σ 2 0 = nI n) (hle : n ≤ 12) (ha : a < 12) (hk : ¬ kind = 4) (hP : KP l σ) : zV G 1 M_Course_send [zf G 1, .int kind, .int (nI a), .int recv, .int r, .int num] σ (fun τ => RF FPool σ τ ∧ KP l τ) := by
  obtain ⟨l1, h1, h2, h3⟩ := hP
  refine (s_Course_send G σ n a l1 kind recv r num hn hle ha h1 h2).mono (fun τ ⟨g1, l', g2, g3, g4⟩ => ⟨g1, l', g2, g3, fun c hc => ?_⟩)
  have := g4 c hc
  rw [if_neg (fun h => hk h.1)] at this
  have := h3 c hc
  omega
theorem KP.of {l : List Lt} {σ τ : zSt} (h : KP l σ) (e : ∀ c, c ∈ FPool → τ c = σ c) : KP l τ := by
  obtain ⟨l1, h1, h2, h3⟩ := h
  exact ⟨l1, h1.of e, h2, h3⟩
theorem KP.up {l : List Lt} {σ : zSt} {c j : Nat} {v : Int32} (h : KP l σ) (hc : c ∉ FPool) : KP l (zup σ c j v) := h.of (fun k hk => zup_ne (fun e => hc (by rw [← e]; exact hk)))
theorem par12 (x : Int32) {a : Nat} (ha : a < 12) : vp_in ((x &&& (1 : Int32)) * 12 + nI a) 24 := by
  obtain ⟨j, hj, e⟩ := pk_andE x (m := 1) 1 (by decide)
  rw [e, zi12]
  exact vp_in_nI (by omega) (by decide)
theorem s_Course_hasAllSafes (G : zG) (σ : zSt) (a : Nat) (ha : a < 12) : zB G 1 M_Course_hasAllSafes [zf G 1, .int (nI a)] σ (fun _ τ => τ = σ) := by
  refine zSpec.of (by decide) (Nat.le_of_ble_eq_true rfl) rfl (fun X E => ?_)
  have ia : vp_in (nI a) 12 := vp_in_nI ha (by decide)
  exact b_Course_hasAllSafes_0 E (nI a) σ ⟨ia, par12 _ ha, ia, fun _ => ⟨false, rfl, rfl⟩, fun _ => ⟨true, rfl, rfl⟩⟩
theorem s_Course_hasAllBelow (G : zG) (σ : zSt) (ck a : Nat) (hck : zS[ck]? = some (.inl (.int, 12))) (ha : a < 12) : zB G 1 M_Course_hasAllBelow [zf G 1, zf G ck, .int (nI a)] σ (fun _ τ => τ = σ) := by
  refine zSpec.of (by decide) (Nat.le_of_ble_eq_true rfl) rfl (fun X E => ?_)
  have ia : vp_in (nI a) 12 := vp_in_nI ha (by decide)
  exact b_Course_hasAllBelow_0 E (nI a) ck hck σ ⟨ia, ia, fun _ => ⟨false, rfl, rfl⟩, fun _ => ⟨true, rfl, rfl⟩⟩
theorem s_Course_keepWithAll (G : zG) (σ : zSt) (n a : Nat) (l : List Lt) (hn : σ 2 0 = nI n) (hle : n ≤ 12) (ha : a < 12) (hP : KP l σ) : zB G 2 M_Course_keepWithAll [zf G 1, .int (nI a)] σ (fun _ τ => RF (25 :: FPool) σ τ ∧ KP l τ) := by
  refine zSpec.of (by decide) (Nat.le_of_ble_eq_true rfl) rfl (fun X E => ?_)
  have ia : vp_in (nI a) 12 := vp_in_nI ha (by decide)
  refine b_Course_keepWithAll_0 E (nI a) σ ⟨ia, fun _ => ⟨ia, fun _ => ⟨_, s_Course_hasAllSafes G σ a ha, ?_⟩, fun _ => ⟨ia, fun σ3 e3 => ⟨ia, ia, _, s_Course_send' G σ3 n a l 2 _ _ 0 (by rw [e3, zup_ne (by decide)]; exact hn) hle ha (by decide) (by rw [e3]; exact hP.up (by decide)), fun σ4 ⟨g1, g2⟩ => ⟨_, s_Course_hasAllSafes G σ4 a ha, ?_⟩⟩⟩⟩, fun _ => ⟨false, rfl, RF.rf, hP⟩⟩
  · rintro b τ rfl
    exact ⟨b, rfl, RF.rf, hP⟩
  · rintro b τ rfl
    refine ⟨b, rfl, RF.tr (τ := σ3) ?_ (g1.mono (by decide)), g2⟩
    rw [e3]
    exact RF.rf.up (by decide) (by decide)
theorem s_Course_keepInTree (G : zG) (σ : zSt) (n a : Nat) (l : List Lt) (hn : σ 2 0 = nI n) (hle : n ≤ 12) (ha : a < 12) (hP : KP l σ) : zB G 2 M_Course_keepInTree [zf G 1, .int (nI a)] σ (fun b τ => RF (25 :: FPool) σ τ ∧ KP l τ ∧ (b = true → τ 9 a = nI a)) := by
  refine zSpec.of (by decide) (Nat.le_of_ble_eq_true rfl) rfl (fun X E => ?_)
  have ia : vp_in (nI a) 12 := vp_in_nI ha (by decide)
  have ca : (nI a).toNatClampNeg = a := nI_clamp (by omega)
  have no : ∃ b : Bool, some (Value.int (0 : Int32)) = some (Value.int (zb b)) ∧ RF (25 :: FPool) σ σ ∧ KP l σ ∧ (b = true → σ 9 a = nI a) := ⟨false, rfl, RF.rf, hP, fun h => by cases h⟩
  refine b_Course_keepInTree_0 E (nI a) σ ⟨ia, fun _ => no, fun _ => ⟨ia, fun _ => no, fun _ => ⟨_, s_Course_hasAllBelow G σ 27 a rfl ha, ?_⟩⟩⟩
  rintro b τ rfl
  refine ⟨fun _ => ⟨ia, fun σ3 e3 => ⟨ia, ia, _, s_Course_send' G σ3 n a l 3 _ _ 0 (by rw [e3, zup_ne (by decide)]; exact hn) hle ha (by decide) (by rw [e3]; exact hP.up (by decide)), fun σ4 ⟨g1, g2⟩ => ⟨ia, _, rfl, RF.tr (τ := σ3) ?_ (g1.mono (by decide)), g2, fun h => ?_⟩⟩⟩, fun _ => no⟩
  · rw [e3]; exact RF.rf.up (by decide) (by decide)
  · simp only [zLd, decide_eq_true_eq] at h
    rw [ca] at h
    exact h
theorem s_Course_spreadFirm (G : zG) (σ : zSt) (n a : Nat) (l : List Lt) (hn : σ 2 0 = nI n) (hle : n ≤ 12) (ha : a < 12) (hP : KP l σ) : zV G 2 M_Course_spreadFirm [zf G 1, .int (nI a)] σ (fun τ => RF (25 :: FPool) σ τ ∧ KP l τ) := by
  refine zSpec.of (by decide) (Nat.le_of_ble_eq_true rfl) rfl (fun X E => ?_)
  have ia : vp_in (nI a) 12 := vp_in_nI ha (by decide)
  refine b_Course_spreadFirm_0 E (nI a) σ ⟨ia, fun σ1 e1 => ⟨ia, ia, _, s_Course_send' G σ1 n a l 5 _ _ 0 (by rw [e1, zup_ne (by decide)]; exact hn) hle ha (by decide) (by rw [e1]; exact hP.up (by decide)), fun σ2 ⟨g1, g2⟩ => ⟨ia, ia, _, s_Course_send' G σ2 n a l 2 _ _ 0 (by rw [g1.at (by decide), e1, zup_ne (by decide)]; exact hn) hle ha (by decide) g2, fun σ3 ⟨k1, k2⟩ => ⟨rfl, ?_, k2⟩⟩⟩⟩
  refine RF.tr (τ := σ1) ?_ ((g1.tr k1).mono (by decide))
  rw [e1]; exact RF.rf.up (by decide) (by decide)
theorem s_Course_keepInClusters (G : zG) (σ : zSt) (n a : Nat) (l : List Lt) (hn : σ 2 0 = nI n) (hle : n ≤ 12) (ha : a < 12) (hP : KP l σ) : zB G 3 M_Course_keepInClusters [zf G 1, .int (nI a)] σ (fun b τ => RF (25 :: FPool) σ τ ∧ KP l τ ∧ (b = true → τ 9 a = nI a)) := by
  refine zSpec.of (by decide) (Nat.le_of_ble_eq_true rfl) rfl (fun X E => ?_)
  have ia : vp_in (nI a) 12 := vp_in_nI ha (by decide)
  have ca : (nI a).toNatClampNeg = a := nI_clamp (by omega)
  have no : ∀ υ, RF (25 :: FPool) σ υ → KP l υ → ∃ b : Bool, some (Value.int (0 : Int32)) = some (Value.int (zb b)) ∧ RF (25 :: FPool) σ υ ∧ KP l υ ∧ (b = true → υ 9 a = nI a) := fun υ h1 h2 => ⟨false, rfl, h1, h2, fun h => by cases h⟩
  have fin : ∀ υ, RF (25 :: FPool) σ υ → KP l υ → ∀ σ7, σ7 = zup υ 25 (nI a).toNatClampNeg 3 → (vp_in (nI a) 12 ∧ (vp_in (nI a) 12 ∧ (∃ P : zSt → Prop, zV G 1 M_Course_send [zf G 1, .int (6 : Int32), .int (nI a), .int (σ7 12 (nI a).toNatClampNeg), .int (σ7 24 (nI a).toNatClampNeg), .int (0 : Int32)] σ7 P ∧ ∀ σ8 : zSt, P σ8 → (vp_in (nI a) 12 ∧ ∃ b : Bool, some (Value.int (zb (zLd σ8 (nI a)))) = some (Value.int (zb b)) ∧ RF (25 :: FPool) σ σ8 ∧ KP l σ8 ∧ (b = true → σ8 9 a = nI a))))) := by
    intro υ h1 h2 σ7 e7
    refine ⟨ia, ia, _, s_Course_send' G σ7 n a l 6 _ _ 0 (by rw [e7, zup_ne (by decide), h1.at (by decide)]; exact hn) hle ha (by decide) (by rw [e7]; exact h2.up (by decide)), fun σ8 ⟨g1, g2⟩ => ⟨ia, _, rfl, RF.tr (τ := σ7) ?_ (g1.mono (by decide)), g2, fun h => ?_⟩⟩
    · rw [e7]; exact h1.up (by decide) (by decide)
    · simp only [zLd, decide_eq_true_eq] at h
      rw [ca] at h
      exact h
  refine b_Course_keepInClusters_0 E (nI a) σ ⟨_, s_Course_keepInTree G σ n a l hn hle ha hP, fun b σ1 ⟨g1, g2, _⟩ => ⟨fun _ => ⟨ia, fun _ => no σ1 g1 g2, fun _ => ⟨_, s_Course_hasAllSafes G σ1 a ha, ?_⟩⟩, fun _ => ⟨_, s_Course_spreadFirm G σ1 n a l (by rw [g1.at (by decide)]; exact hn) hle ha g2, fun σ9 ⟨k1, k2⟩ => ⟨ia, fun _ => no σ9 (g1.tr k1) k2, fun _ => ⟨_, s_Course_hasAllSafes G σ9 a ha, ?_⟩⟩⟩⟩⟩
  · rintro b4 τ rfl
    refine ⟨fun _ => no _ g1 g2, fun _ => ⟨_, s_Course_hasAllBelow G _ 28 a rfl ha, ?_⟩⟩
    rintro b6 τ rfl
    exact ⟨fun _ => ⟨ia, fin _ g1 g2⟩, fun _ => no _ g1 g2⟩
  · rintro b4 τ rfl
    refine ⟨fun _ => no _ (g1.tr k1) k2, fun _ => ⟨_, s_Course_hasAllBelow G _ 28 a rfl ha, ?_⟩⟩
    rintro b6 τ rfl
    exact ⟨fun _ => ⟨ia, fin _ (g1.tr k1) k2⟩, fun _ => no _ (g1.tr k1) k2⟩
