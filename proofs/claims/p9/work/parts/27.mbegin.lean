-- The reference: becomeFirm, beginRound
theorem kne_2_0 : ¬ (2 : Int32) = 0 := by decide
theorem NB_0 (r : Nat) : NB r 0 := by
  have h : (0 : Int32).toInt = 0 := by decide
  unfold NB; rw [h]; omega
theorem psS_fi {σ τ : zSt} {a : Nat} (e35 : τ 35 = σ 35) (e36 : τ 36 = σ 36) (e37 : τ 37 = σ 37) (e38 : τ 38 = σ 38) (e39 : τ 39 = upd (σ 39) a 1) (e40 : τ 40 = σ 40) : psS τ = setFi (psS σ) a := by
  unfold psS
  rw [e35, e36, e37, e38, e39, e40]
  refine Prod.ext rfl (Prod.ext rfl (Prod.ext rfl (Prod.ext rfl (Prod.ext ?_ rfl))))
  funext b
  show decide (¬ upd (σ 39) a 1 b = 0) = fup (fun a => decide (¬ σ 39 a = 0)) a true b
  unfold upd fup
  by_cases h : b = a
  · rw [if_pos h, if_pos h]; decide
  · rw [if_neg h, if_neg h]
theorem s_Mo_becomeFirm (G : zG) (σ : zSt) (n R W a : Nat) (l : List Lt) (h : MR σ n R W l) (hW : W = 2) (ha : a < n) (hr : 1 ≤ rdP (psS σ) a) (hra : raP (psS σ) a = true) (hfi : fiP (psS σ) a = false) (hfa : frs l a = 0) (hup : ∀ u, upS σ a = some u → (rdP (psS σ) a = rdP (psS σ) u ∧ fiP (psS σ) u = true) ∨ rdP (psS σ) a < rdP (psS σ) u) :
    zV G 2 M_Mo_becomeFirm [zf G 32, .int (nI a)] σ (fun τ => MF [39, 51] [27, 29, 30] σ τ ∧ psS τ = setFi (psS σ) a ∧ ∃ l', MR τ n R W l') := by
  refine zSpec.of (by decide) (Nat.le_of_ble_eq_true rfl) rfl (fun X E => ?_)
  obtain ⟨hS, hN, hL, hP⟩ := h
  have hn12 : n ≤ 12 := hS.2.2.1
  have hR20 : R ≤ 20 := hS.2.2.2.2.2.1
  have ia : vp_in (nI a) 12 := vp_in_nI (by omega) (by decide)
  have ca : (nI a).toNatClampNeg = a := nI_clamp (by omega)
  have hlen := hP.len hn12 hR20
  have hRa := (hP.1 a ha).1
  refine b_Mo_becomeFirm_0 E (nI a) σ ⟨ia, fun σ1 e1 => ⟨ia, ?_⟩⟩
  rw [ca] at e1
  have h1 : ∀ c, c ≠ 39 → σ1 c = σ c := fun c hc => by rw [e1, zup_ne hc]
  have hS1 : MS σ1 n R W := hS.of (by rw [h1 32 (by decide)]) (by rw [h1 32 (by decide)]) (by rw [h1 32 (by decide)]) (h1 41 (by decide)) (h1 33 (by decide)) (h1 34 (by decide))
  have up1 : upS σ1 = upS σ := upS_eq (h1 41 (by decide))
  have r1 : σ1 35 a = nI (rdP (psS σ) a) := by rw [h1 35 (by decide)]; exact hN.1 a ha
  rw [ca, r1]
  refine ⟨_, s_Mo_toLower G σ1 n R W a l 5 _ hS1 ha (hL.of (by rw [h1 32 (by decide)]) (h1 51 (by decide))) (by omega), fun σ2 ⟨k1, F, k2, k3, k4, k5, k6⟩ => ?_⟩
  rw [up1] at k3 k5
  -- room: a dozen letters more
  have room : l.length + F.length + 12 ≤ 3984 := by
    have hq := hP.firm hW hn12 ha hr hra hfi hfa hup F (List.replicate 12 (2, nI a, nI a, nI (rdP (psS σ) a), 0)) k3 (fun c hc => Nat.le_trans (frs_cto F c) (k4 c hc)) k5 (fun x hx => by
      rw [(List.mem_replicate.mp hx).2]
      exact ⟨⟨⟨2, by omega, rfl⟩, ⟨a, ha, rfl⟩, ⟨a, ha, rfl⟩, ⟨_, hr, hRa, rfl, fun e => absurd e kne_2_0⟩⟩, rfl⟩) (by simp)
    have := hq.len hn12 hR20
    simp at this
    omega
  have fin : ∀ (τ : zSt) (M : List Lt), MF [51] [27, 29, 30] σ1 τ → ML τ (l ++ F ++ M) → (∀ x, x ∈ M → VL n R x ∧ x.1 = 2) → M.length ≤ 12 → (none : Option Value) = none ∧ MF [39, 51] [27, 29, 30] σ τ ∧ psS τ = setFi (psS σ) a ∧ ∃ l', MR τ n R W l' := by
    intro τ M g1 g2 g3 g4
    have et : ∀ c, c ≠ 32 → c ≠ 51 → τ c = σ1 c := fun c a1 a2 => g1.at (by simp [a1, a2])
    have e39 : τ 39 = upd (σ 39) a 1 := by rw [et 39 (by decide) (by decide), e1, zup_self]
    have ep : psS τ = setFi (psS σ) a := psS_fi (by rw [et 35 (by decide) (by decide), h1 35 (by decide)]) (by rw [et 36 (by decide) (by decide), h1 36 (by decide)]) (by rw [et 37 (by decide) (by decide), h1 37 (by decide)]) (by rw [et 38 (by decide) (by decide), h1 38 (by decide)]) e39 (by rw [et 40 (by decide) (by decide), h1 40 (by decide)])
    have e41 : τ 41 = σ 41 := by rw [et 41 (by decide) (by decide), h1 41 (by decide)]
    have e45 : τ 45 = σ 45 := by rw [et 45 (by decide) (by decide), h1 45 (by decide)]
    have hFs : MF [39, 51] [27, 29, 30] σ τ := by
      refine MF.tr (τ := σ1) ?_ (g1.mono (by decide) (by decide))
      rw [e1]; exact MF.rf.up (by decide) (by decide)
    refine ⟨rfl, hFs, ep, l ++ F ++ M, ?_, ⟨?_, ?_⟩, g2, ?_⟩
    · exact hS.of (hFs.2 0 (by decide)) (hFs.2 8 (by decide)) (hFs.2 6 (by decide)) e41 (hFs.at (by decide)) (hFs.at (by decide))
    · intro b hb
      rw [ep, et 35 (by decide) (by decide), h1 35 (by decide)]
      exact hN.1 b hb
    · intro x y q hx hy hq hne
      rw [e45] at hne
      rw [et 46 (by decide) (by decide), h1 46 (by decide)]
      exact hN.2 x y q hx hy hq hne
    · rw [upS_eq e41, c2S_eq e41 e45, c3S_eq e41 e45, ep]
      exact hP.firm hW hn12 ha hr hra hfi hfa hup F M k3 (fun c hc => Nat.le_trans (frs_cto F c) (k4 c hc)) k5 g3 g4
  refine z_for n (fun i τ => zZ G M_Mo_becomeFirm 2 X (fun rr τ => rr = none ∧ MF [39, 51] [27, 29, 30] σ τ ∧ psS τ = setFi (psS σ) a ∧ ∃ l', MR τ n R W l') 21 [(0, zf G 32), (1, .int (nI a)), (2, .int (nI i))] [] τ) (fun i τ => MF [51] [27, 29, 30] σ1 τ ∧ ∃ M, ML τ (l ++ F ++ M) ∧ (∀ x, x ∈ M → VL n R x ∧ x.1 = 2) ∧ M.length ≤ i) ?_ ?_ 0 σ2 (Nat.zero_le _) ⟨k1, [], by rw [List.append_nil]; exact k2, fun x hx => absurd hx List.not_mem_nil, Nat.le_refl _⟩
  · intro i τ hi ⟨g1, M, g2, g3, g4⟩ ih
    have et35 : τ 35 a = nI (rdP (psS σ) a) := by rw [g1.at (by decide)]; exact r1
    refine b_Mo_becomeFirm_21 E (nI a) (nI i) τ ⟨fun q => absurd q (by rw [g1.2 0 (by decide), h1 32 (by decide), hS.1]; exact nI_ge hi (by omega)), fun _ => ⟨by rw [zi12']; exact vp_in_nI (by omega) (by decide), fun _ => ?_, fun _ => ⟨ia, ?_⟩⟩⟩
    · rw [nI_1]; exact ih τ ⟨g1, M, g2, g3, by omega⟩
    · rw [ca, et35]
      refine ⟨_, s_Mo_send G τ (l ++ F ++ M) 2 (nI a) (nI i) _ 0 g2 (by rw [List.length_append, List.length_append]; omega), fun σ5 ⟨m1, m2⟩ => ?_⟩
      rw [nI_1]
      refine ih σ5 ⟨g1.tr m1, M ++ [(2, nI a, nI i, nI (rdP (psS σ) a), 0)], by rw [← List.append_assoc]; exact m2, fun x hx => ?_, by rw [List.length_append]; simp; omega⟩
      rcases List.mem_append.mp hx with e | e
      · exact g3 x e
      · rw [List.mem_singleton.mp e]
        exact ⟨⟨⟨2, by omega, rfl⟩, ⟨a, ha, rfl⟩, ⟨i, hi, rfl⟩, ⟨_, hr, hRa, rfl, fun e => absurd e kne_2_0⟩⟩, rfl⟩
  · intro τ ⟨g1, M, g2, g3, g4⟩
    exact b_Mo_becomeFirm_21 E (nI a) (nI n) τ ⟨fun _ => fin τ M g1 g2 g3 (by omega), fun q => absurd (by rw [g1.2 0 (by decide), h1 32 (by decide), hS.1]; exact nI_le (Nat.le_refl n) (by omega)) q⟩
theorem psS_rd {σ τ : zSt} {a r m : Nat} (hr : r < 1000) (hrd : rdP (psS σ) a + 1 = r) (hm : m < 1000) (e35 : τ 35 = upd (σ 35) a (nI r)) (e36 : τ 36 = upd (σ 36) a (nI m)) (e37 : τ 37 = upd (σ 37) a 0) (e38 : τ 38 = upd (σ 38) a 0) (e39 : τ 39 = upd (σ 39) a 0) (e40 : τ 40 = upd (σ 40) a 0) : psS τ = setRd (psS σ) a (m : Int) := by
  unfold psS
  rw [e35, e36, e37, e38, e39, e40]
  have key : ∀ (c : Nat) (b : Nat), decide (¬ upd (σ c) a 0 b = 0) = fup (fun a => decide (¬ σ c a = 0)) a false b := by
    intro c b
    unfold upd fup
    by_cases h : b = a
    · rw [if_pos h, if_pos h]; decide
    · rw [if_neg h, if_neg h]
  refine Prod.ext ?_ (Prod.ext ?_ (Prod.ext ?_ (Prod.ext ?_ (Prod.ext ?_ ?_))))
  · funext b
    show (upd (σ 35) a (nI r) b).toNatClampNeg = fup (fun a => (σ 35 a).toNatClampNeg) a (rdP (psS σ) a + 1) b
    unfold upd fup
    by_cases h : b = a
    · rw [if_pos h, if_pos h, hrd]; exact nI_clamp (by omega)
    · rw [if_neg h, if_neg h]
  · funext b
    show (upd (σ 36) a (nI m) b).toInt = fup (fun a => (σ 36 a).toInt) a (m : Int) b
    unfold upd fup
    by_cases h : b = a
    · rw [if_pos h, if_pos h]; exact nI_toInt (by omega)
    · rw [if_neg h, if_neg h]
  · funext b; exact key 37 b
  · funext b; exact key 38 b
  · funext b; exact key 39 b
  · funext b; exact key 40 b
abbrev FBeg : List Nat := [35, 36, 37, 38, 39, 40, 47, 48, 49, 51, 54, 55]
/-- what must hold before a node begins its next round -/
def BC (σ : zSt) (n R W a : Nat) (l : List Lt) : Prop := rdP (psS σ) a + 1 ≤ R ∧ (1 ≤ rdP (psS σ) a → opP (psS σ) a ≤ 0) ∧ (1 ≤ rdP (psS σ) a → ∀ c, c < n → upS σ c = some a → rdP (psS σ) c = rdP (psS σ) a ∧ raP (psS σ) c = true ∧ (W = 2 → dnP (psS σ) c = true)) ∧ (∀ u, upS σ a = some u → rdP (psS σ) a + 1 ≤ rdP (psS σ) u ∨ rdP (psS σ) a = 0) ∧ gos l a = 0 ∧ frs l a = 0 ∧ (rdP (psS σ) a = 0 → -2 ≤ (σ 47 a).toInt ∧ (σ 47 a).toInt ≤ 99)
theorem s_Mo_beginRound (G : zG) (σ : zSt) (n R W a r : Nat) (l : List Lt) (hS : MS σ n R W) (hN : MN σ n) (hL : ML σ l) (hP : PI n R W (upS σ) (c2S σ) (c3S σ) (psS σ) l ∨ ((∀ b, b < n → NL n R W (upS σ) (c2S σ) (c3S σ) (psS σ) b) ∧ (∀ x, x ∈ l → VL n R x ∧ TL n W (upS σ) (psS σ) x) ∧ (∀ c, c < n → gos l c ≤ 1 ∧ frs l c ≤ 1) ∧ (l.length : Int) ≤ su (ph W (upS σ) (psS σ)) n)) (ha : a < n) (hB : BC σ n R W a l) (hr : rdP (psS σ) a + 1 = r) :
    zV G 2 M_Mo_beginRound [zf G 32, .int (nI a), .int (nI r)] σ (fun τ => MF FBeg [27, 29, 30] σ τ ∧ (∀ j, j ≠ a → τ 47 j = σ 47 j) ∧ (∃ m : Int, psS τ = setRd (psS σ) a m) ∧ ∃ l', MR τ n R W l') := by
  have hP : PI n R W (upS σ) (c2S σ) (c3S σ) (psS σ) l := by rcases hP with h | h <;> exact h
  refine zSpec.of (by decide) (Nat.le_of_ble_eq_true rfl) rfl (fun X E => ?_)
  obtain ⟨b1, b2, b3, b4, b5, b6, b7⟩ := hB
  have hn12 : n ≤ 12 := hS.2.2.1
  have hR20 : R ≤ 20 := hS.2.2.2.2.2.1
  have ia : vp_in (nI a) 12 := vp_in_nI (by omega) (by decide)
  have ca : (nI a).toNatClampNeg = a := nI_clamp (by omega)
  have hlen := hP.len hn12 hR20
  have hr1 : 1 ≤ r := by omega
  have hr20 : r ≤ 20 := by omega
  -- behind the GOs
  have rest : ∀ (υ : zSt) (Gl : List Lt), MF [51] [27, 29, 30] σ υ → ML υ (l ++ Gl) → (∀ x, x ∈ Gl → ∃ c, c < n ∧ upS σ c = some a ∧ x = (4, nI a, nI c, nI (rdP (psS σ) a + 1), 0)) → (∀ c, c < n → gos Gl c ≤ 1) → ((Gl.length : Int) ≤ if rdP (psS σ) a = 0 then 0 else cu (upS σ) a n) →
      ∀ σ1 σ2 σ3 σ4 σ5 σ6 : zSt, σ1 = zup υ 35 (nI a).toNatClampNeg (nI r) → σ2 = zup σ1 37 (nI a).toNatClampNeg 0 → σ3 = zup σ2 38 (nI a).toNatClampNeg 0 → σ4 = zup σ3 39 (nI a).toNatClampNeg 0 → σ5 = zup σ4 40 (nI a).toNatClampNeg 0 → σ6 = zup σ5 36 (nI a).toNatClampNeg 0 →
      zZ G M_Mo_beginRound 2 X (fun rr τ => rr = none ∧ MF FBeg [27, 29, 30] σ τ ∧ (∀ j, j ≠ a → τ 47 j = σ 47 j) ∧ (∃ m : Int, psS τ = setRd (psS σ) a m) ∧ ∃ l', MR τ n R W l') 56 [(0, zf G 32), (1, .int (nI a)), (2, .int (nI r)), (3, .int (0 : Int32))] [] σ6 := by
    intro υ Gl f1 f2 f3 f4 f5 σ1 σ2 σ3 σ4 σ5 σ6 e1 e2 e3 e4 e5 e6
    rw [ca] at e1 e2 e3 e4 e5 e6
    have room : l.length + Gl.length + 12 ≤ 3984 := by
      have hq := hP.begin hn12 ha b1 b2 b3 b4 b5 b6 Gl (List.replicate 12 (0, nI a, nI a, nI r, 0)) f3 f4 f5 (fun x hx => by
        rw [(List.mem_replicate.mp hx).2]
        exact ⟨⟨⟨0, by omega, rfl⟩, ⟨a, ha, rfl⟩, ⟨a, ha, rfl⟩, ⟨r, hr1, by omega, rfl, fun _ => NB_0 r⟩⟩, rfl⟩) (by simp)
      have := hq.len hn12 hR20
      simp at this
      omega
    have hF6 : MF FBeg [27, 29, 30] σ σ6 := by
      rw [e6, e5, e4, e3, e2, e1]
      exact ((((((f1.mono (by decide) (by decide)).up (by decide) (by decide)).up (by decide) (by decide)).up (by decide) (by decide)).up (by decide) (by decide)).up (by decide) (by decide)).up (by decide) (by decide)
    have u35 : σ6 35 = upd (σ 35) a (nI r) := by rw [e6, zup_ne (by decide), e5, zup_ne (by decide), e4, zup_ne (by decide), e3, zup_ne (by decide), e2, zup_ne (by decide), e1, zup_self, f1.at (by decide)]
    have u36 : σ6 36 = upd (σ 36) a (nI 0) := by rw [e6, zup_self, e5, zup_ne (by decide), e4, zup_ne (by decide), e3, zup_ne (by decide), e2, zup_ne (by decide), e1, zup_ne (by decide), f1.at (by decide)]; rfl
    have u37 : σ6 37 = upd (σ 37) a 0 := by rw [e6, zup_ne (by decide), e5, zup_ne (by decide), e4, zup_ne (by decide), e3, zup_ne (by decide), e2, zup_self, e1, zup_ne (by decide), f1.at (by decide)]
    have u38 : σ6 38 = upd (σ 38) a 0 := by rw [e6, zup_ne (by decide), e5, zup_ne (by decide), e4, zup_ne (by decide), e3, zup_self, e2, zup_ne (by decide), e1, zup_ne (by decide), f1.at (by decide)]
    have u39 : σ6 39 = upd (σ 39) a 0 := by rw [e6, zup_ne (by decide), e5, zup_ne (by decide), e4, zup_self, e3, zup_ne (by decide), e2, zup_ne (by decide), e1, zup_ne (by decide), f1.at (by decide)]
    have u40 : σ6 40 = upd (σ 40) a 0 := by rw [e6, zup_ne (by decide), e5, zup_self, e4, zup_ne (by decide), e3, zup_ne (by decide), e2, zup_ne (by decide), e1, zup_ne (by decide), f1.at (by decide)]
    have h6u : ∀ c, c ≠ 35 → c ≠ 36 → c ≠ 37 → c ≠ 38 → c ≠ 39 → c ≠ 40 → σ6 c = υ c := fun c a1 a2 a3 a4 a5 a6 => by
      rw [e6, zup_ne a2, e5, zup_ne a6, e4, zup_ne a5, e3, zup_ne a4, e2, zup_ne a3, e1, zup_ne a1]
    have L6 : ML σ6 (l ++ Gl) := f2.of (by rw [h6u 32 (by decide) (by decide) (by decide) (by decide) (by decide) (by decide)]) (h6u 51 (by decide) (by decide) (by decide) (by decide) (by decide) (by decide))
    have n6 : σ6 32 0 = nI n := by rw [hF6.2 0 (by decide)]; exact hS.1
    -- the notes
    have notes : ∀ (x : Int32) (τ : zSt), (x = -1000 ∨ NB r x) → zFr [47, 48, 49, 54, 55] σ6 τ → (∀ j, j ≠ a → τ 47 j = σ6 47 j) → zZ G M_Mo_beginRound 2 X (fun rr τ => rr = none ∧ MF FBeg [27, 29, 30] σ τ ∧ (∀ j, j ≠ a → τ 47 j = σ 47 j) ∧ (∃ m : Int, psS τ = setRd (psS σ) a m) ∧ ∃ l', MR τ n R W l') 166 [(0, zf G 32), (1, .int (nI a)), (2, .int (nI r)), (3, .int x), (4, .int (0 : Int32))] [] τ := by
      intro x τ hx g1 g2
      have fin : ∀ (ρ : zSt) (N : List Lt), MF [36, 51] [27, 29, 30] τ ρ → ML ρ (l ++ Gl ++ N) → ρ 36 = upd (σ 36) a (nI N.length) → (∀ y, y ∈ N → VL n R y ∧ y.1 = 0) → N.length ≤ 12 → (none : Option Value) = none ∧ MF FBeg [27, 29, 30] σ ρ ∧ (∀ j, j ≠ a → ρ 47 j = σ 47 j) ∧ (∃ m : Int, psS ρ = setRd (psS σ) a m) ∧ ∃ l', MR ρ n R W l' := by
        intro ρ N k1 k2 k3 k4 k5
        have c6 : ∀ c, c ∉ [32, 36, 51, 47, 48, 49, 54, 55] → ρ c = σ6 c := fun c hc => by
          rw [k1.at (fun q => hc (by simp only [List.mem_cons, List.not_mem_nil, or_false] at q ⊢; omega)), g1 c (fun q => hc (by simp only [List.mem_cons, List.not_mem_nil, or_false] at q ⊢; omega))]
        have hFρ : MF FBeg [27, 29, 30] σ ρ := (hF6.tr ((MF.of (J := [27, 29, 30]) g1 (by decide)).mono (by decide) (by decide))).tr (k1.mono (by decide) (by decide))
        have ep : psS ρ = setRd (psS σ) a (N.length : Int) := psS_rd (r := r) (m := N.length) (by omega) hr (by omega) (by rw [c6 35 (by decide)]; exact u35) k3 (by rw [c6 37 (by decide)]; exact u37) (by rw [c6 38 (by decide)]; exact u38) (by rw [c6 39 (by decide)]; exact u39) (by rw [c6 40 (by decide)]; exact u40)
        have e41 : ρ 41 = σ 41 := hFρ.at (by decide)
        have e45 : ρ 45 = σ 45 := hFρ.at (by decide)
        refine ⟨rfl, hFρ, fun j hj => ?_, ⟨_, ep⟩, l ++ Gl ++ N, ?_, ⟨?_, ?_⟩, k2, ?_⟩
        · rw [k1.at (by decide), g2 j hj, h6u 47 (by decide) (by decide) (by decide) (by decide) (by decide) (by decide), f1.at (by decide)]
        · exact hS.of (hFρ.2 0 (by decide)) (hFρ.2 8 (by decide)) (hFρ.2 6 (by decide)) e41 (hFρ.at (by decide)) (hFρ.at (by decide))
        · intro b hb
          rw [ep, c6 35 (by decide), u35]
          show upd (σ 35) a (nI r) b = nI (fup (rdP (psS σ)) a (rdP (psS σ) a + 1) b)
          unfold upd fup
          by_cases hba : b = a
          · rw [if_pos hba, if_pos hba, hr]
          · rw [if_neg hba, if_neg hba]; exact hN.1 b hb
        · intro y z q hy hz hq hne
          rw [e45] at hne
          rw [hFρ.at (by decide)]
          exact hN.2 y z q hy hz hq hne
        · rw [upS_eq e41, c2S_eq e41 e45, c3S_eq e41 e45, ep]
          exact hP.begin hn12 ha b1 b2 b3 b4 b5 b6 Gl N f3 f4 f5 k4 k5
      refine z_for n (fun i ρ => zZ G M_Mo_beginRound 2 X (fun rr τ => rr = none ∧ MF FBeg [27, 29, 30] σ τ ∧ (∀ j, j ≠ a → τ 47 j = σ 47 j) ∧ (∃ m : Int, psS τ = setRd (psS σ) a m) ∧ ∃ l', MR τ n R W l') 166 [(0, zf G 32), (1, .int (nI a)), (2, .int (nI r)), (3, .int x), (4, .int (nI i))] [] ρ) (fun i ρ => MF [36, 51] [27, 29, 30] τ ρ ∧ ∃ N, ML ρ (l ++ Gl ++ N) ∧ ρ 36 = upd (σ 36) a (nI N.length) ∧ (∀ y, y ∈ N → VL n R y ∧ y.1 = 0) ∧ N.length ≤ i) ?_ ?_ 0 τ (Nat.zero_le _) ⟨MF.rf, [], by rw [List.append_nil]; exact L6.of (by rw [g1 32 (by decide)]) (g1 51 (by decide)), by rw [g1 36 (by decide)]; exact u36, fun y hy => absurd hy List.not_mem_nil, Nat.le_refl _⟩
      · intro i ρ hi ⟨k1, N, k2, k3, k4, k5⟩ ih
        have nρ : ρ 32 0 = nI n := by rw [k1.2 0 (by decide), g1 32 (by decide)]; exact n6
        refine b_Mo_beginRound_166 E (nI a) (nI r) x (nI i) ρ ⟨fun q => absurd q (by rw [nρ]; exact nI_ge hi (by omega)), fun _ => ⟨fun _ => fin ρ N k1 k2 k3 k4 (by omega), fun hne => ⟨by rw [zi12']; exact vp_in_nI (by omega) (by decide), fun _ => ?_, fun _ => ⟨_, s_Mo_send G ρ (l ++ Gl ++ N) 0 (nI a) (nI i) (nI r) x k2 (by rw [List.length_append, List.length_append]; omega), fun σ7 ⟨m1, m2⟩ => ⟨ia, ia, fun σ8 e8 => ?_⟩⟩⟩⟩⟩
        · rw [nI_1]; exact ih ρ ⟨k1, N, k2, k3, k4, by omega⟩
        · rw [ca] at e8
          rw [nI_1]
          have o7 : σ7 36 a = nI N.length := by rw [m1.at (by decide), k3]; simp [upd]
          rw [o7, nI_1] at e8
          refine ih σ8 ⟨?_, N ++ [(0, nI a, nI i, nI r, x)], ?_, ?_, fun y hy => ?_, by rw [List.length_append]; simp; omega⟩
          · rw [e8]; exact (k1.tr (m1.mono (by decide) (by decide))).up (by decide) (by decide)
          · rw [← List.append_assoc]
            exact m2.of (by rw [e8, zup_ne (by decide)]) (by rw [e8, zup_ne (by decide)])
          · rw [e8, zup_self, m1.at (by decide), k3, List.length_append]
            funext j
            unfold upd
            by_cases hja : j = a
            · simp [hja]
            · simp [hja]
          · rcases List.mem_append.mp hy with e | e
            · exact k4 y e
            · rw [List.mem_singleton.mp e]
              refine ⟨⟨⟨0, by omega, rfl⟩, ⟨a, ha, rfl⟩, ⟨i, hi, rfl⟩, ⟨r, hr1, by omega, rfl, fun _ => ?_⟩⟩, rfl⟩
              rcases hx with h | h
              · exact absurd h hne
              · exact h
      · intro ρ ⟨k1, N, k2, k3, k4, k5⟩
        have nρ : ρ 32 0 = nI n := by rw [k1.2 0 (by decide), g1 32 (by decide)]; exact n6
        exact b_Mo_beginRound_166 E (nI a) (nI r) x (nI n) ρ ⟨fun _ => fin ρ N k1 k2 k3 k4 (by omega), fun q => absurd (by rw [nρ]; exact nI_le (Nat.le_refl n) (by omega)) q⟩
    -- what the node takes
    refine z_for n (fun i τ => zZ G M_Mo_beginRound 2 X (fun rr τ => rr = none ∧ MF FBeg [27, 29, 30] σ τ ∧ (∀ j, j ≠ a → τ 47 j = σ 47 j) ∧ (∃ m : Int, psS τ = setRd (psS σ) a m) ∧ ∃ l', MR τ n R W l') 56 [(0, zf G 32), (1, .int (nI a)), (2, .int (nI r)), (3, .int (nI i))] [] τ) (fun i τ => zFr [54, 55] σ6 τ ∧ ∀ b, b < i → ¬ τ 54 b = 0 → NB (r - 1) (τ 55 b)) ?_ ?_ 0 σ6 (Nat.zero_le _) ⟨zFr.rf, fun b hb => absurd hb (Nat.not_lt_zero b)⟩
    · intro b τ hb ⟨g1, g2⟩ ih
      have ib : vp_in (nI b) 12 := vp_in_nI (by omega) (by decide)
      have cb : (nI b).toNatClampNeg = b := nI_clamp (by omega)
      have erp : nI r - (1 : Int32) = nI (r - 1) := by rw [show (1 : Int32) = nI 1 from rfl, pk_sub hr1]
      have epl : (((0 : Int32) * 12 + nI a) * 12 + nI b) * 22 + (nI r - (1 : Int32)) = nI (pl 0 a b (r - 1)) := by rw [erp, show (0 : Int32) = nI 0 from rfl, pl_nI]
      have hpl : pl 0 a b (r - 1) < 3168 := by unfold pl; omega
      have e45 : σ6 45 = σ 45 := hF6.at (by decide)
      have e46 : σ6 46 = σ 46 := hF6.at (by decide)
      have tail : ∀ (v : Int32) (σ4 : zSt), σ4 = zup τ 54 (nI b).toNatClampNeg v → (¬ v = 0 → ¬ σ 45 (pl 0 a b (r - 1)) = 0) → zZ G M_Mo_beginRound 2 X (fun rr τ => rr = none ∧ MF FBeg [27, 29, 30] σ τ ∧ (∀ j, j ≠ a → τ 47 j = σ 47 j) ∧ (∃ m : Int, psS τ = setRd (psS σ) a m) ∧ ∃ l', MR τ n R W l') 98 [(0, zf G 32), (1, .int (nI a)), (2, .int (nI r)), (3, .int (nI b))] [] σ4 := by
        intro v σ4 e4 hv
        rw [cb] at e4
        have t54 : σ4 54 = upd (τ 54) b v := by rw [e4, zup_self]
        have go : ∀ (w : Int32) (σ5 : zSt), σ5 = zup σ4 55 (nI b).toNatClampNeg w → (¬ σ4 54 b = 0 → NB (r - 1) w) → zZ G M_Mo_beginRound 2 X (fun rr τ => rr = none ∧ MF FBeg [27, 29, 30] σ τ ∧ (∀ j, j ≠ a → τ 47 j = σ 47 j) ∧ (∃ m : Int, psS τ = setRd (psS σ) a m) ∧ ∃ l', MR τ n R W l') 56 [(0, zf G 32), (1, .int (nI a)), (2, .int (nI r)), (3, .int (nI b + 1))] [] σ5 := by
          intro w σ5 e5 hw
          rw [cb] at e5
          rw [nI_1]
          refine ih σ5 ⟨by rw [e5, e4]; exact (g1.up (by decide)).up (by decide), fun c hc hne => ?_⟩
          have x54 : σ5 54 = σ4 54 := by rw [e5, zup_ne (by decide)]
          have x55 : σ5 55 = upd (τ 55) b w := by rw [e5, zup_self, e4, zup_ne (by decide)]
          rw [x54] at hne
          rw [x55]
          unfold upd
          by_cases hcb : c = b
          · rw [if_pos hcb]; rw [hcb] at hne; exact hw hne
          · rw [if_neg hcb]
            rw [t54] at hne
            unfold upd at hne
            rw [if_neg hcb] at hne
            exact g2 c (by omega) hne
        refine b_Mo_beginRound_98 E (nI a) (nI r) (nI b) σ4 ⟨ib, fun hz => ⟨ib, fun σ5 e5 => go _ σ5 e5 (fun h => absurd (by rw [cb] at hz; exact hz) h)⟩, fun hz => ⟨by rw [epl]; exact vp_in_nI hpl (by decide), ib, fun σ5 e5 => go _ σ5 e5 (fun h => ?_)⟩⟩
        rw [epl, nI_clamp (by omega), e4, zup_ne (by decide), g1 46 (by decide), e46]
        rw [t54] at h
        have hv' : ¬ v = 0 := by simpa [upd] using h
        exact hN.2 a b (r - 1) ha hb (by omega) (hv hv')
      refine b_Mo_beginRound_56 E (nI a) (nI r) (nI b) τ ⟨fun q => absurd q (by rw [g1 32 (by decide), n6]; exact nI_ge hb (by omega)), fun _ => ⟨fun _ => ⟨ib, fun σ4 e4 => tail 0 σ4 e4 (fun h => absurd rfl h)⟩, fun _ => ⟨by rw [epl]; exact vp_in_nI (by omega) (by decide), fun _ => ⟨ib, fun σ4 e4 => tail 0 σ4 e4 (fun h => absurd rfl h)⟩, fun hne => ⟨ib, fun σ4 e4 => tail 1 σ4 e4 (fun _ => ?_)⟩⟩⟩⟩
      rw [epl, nI_clamp (by omega), g1 45 (by decide), e45] at hne
      exact hne
    · intro τ ⟨g1, g2⟩
      have nτ : τ 32 0 = nI n := by rw [g1 32 (by decide)]; exact n6
      have e47 : τ 47 = σ 47 := by rw [g1 47 (by decide), h6u 47 (by decide) (by decide) (by decide) (by decide) (by decide) (by decide), f1.at (by decide)]
      have lm : LM τ := hS.2.2.2.2.2.2.2.2.2.of (by rw [g1 33 (by decide)]; exact hF6.at (by decide)) (by rw [g1 34 (by decide)]; exact hF6.at (by decide))
      refine b_Mo_beginRound_56 E (nI a) (nI r) (nI n) τ ⟨fun _ => ⟨_, s_Mo_act G τ n a a r nτ hn12 (by omega) (by omega) hr1 hr20 lm g2 (fun h => by rw [e47]; exact b7 (by omega)), fun x σ1 ⟨k1, k2, k3⟩ => ⟨vp_in_nI (by omega) (by decide), by rw [zi12']; exact vp_in_nI (by omega) (by decide), fun σ3 e3 => ?_⟩⟩, fun q => absurd (by rw [nτ]; exact nI_le (Nat.le_refl n) (by omega)) q⟩
      refine notes x σ3 k3 ?_ (fun j hj => ?_)
      · rw [e3]; exact ((g1.mono (by decide)).tr (k1.mono (by decide))).up (by decide)
      · rw [e3, zup_ne (by decide), k2 j hj, g1 47 (by decide)]
  refine b_Mo_beginRound_0 E (nI a) (nI r) σ ⟨fun hle => ⟨ia, fun σ1 e1 => ⟨ia, fun σ2 e2 => ⟨ia, fun σ3 e3 => ⟨ia, fun σ4 e4 => ⟨ia, fun σ5 e5 => ⟨ia, fun σ6 e6 => ?_⟩⟩⟩⟩⟩⟩, fun hgt => ⟨_, s_Mo_toLower G σ n R W a l 4 (nI r) hS ha hL (by omega), fun υ ⟨f1, F, f2, f3, f4, f5, f6⟩ => ⟨ia, fun σ1 e1 => ⟨ia, fun σ2 e2 => ⟨ia, fun σ3 e3 => ⟨ia, fun σ4 e4 => ⟨ia, fun σ5 e5 => ⟨ia, fun σ6 e6 => ?_⟩⟩⟩⟩⟩⟩⟩⟩
  · exact rest σ [] MF.rf (by rw [List.append_nil]; exact hL) (fun x hx => absurd hx List.not_mem_nil) (fun c _ => Nat.zero_le _) (by
      have : rdP (psS σ) a = 0 := by
        have h1 : r ≤ 1 := (nI_leI (by omega) (by decide)).mp hle
        omega
      rw [if_pos this]; exact Int.le_refl _) σ1 σ2 σ3 σ4 σ5 σ6 e1 e2 e3 e4 e5 e6
  · refine rest υ F f1 f2 (fun x hx => by obtain ⟨c, p1, p2, p3⟩ := f3 x hx; exact ⟨c, p1, p2, by rw [p3, hr]⟩) (fun c hc => Nat.le_trans (gos_cto F c) (f4 c hc)) ?_ σ1 σ2 σ3 σ4 σ5 σ6 e1 e2 e3 e4 e5 e6
    have : ¬ rdP (psS σ) a = 0 := fun e => hgt (nI_le (a := r) (b := 1) (by omega) (by decide))
    rw [if_neg this]; exact f5
