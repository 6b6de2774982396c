-- The reference: goOn
theorem flag_up {f : Nat → Int32} {a : Nat} : (fun b => decide (¬ upd f a 1 b = 0)) = fup (fun b => decide (¬ f b = 0)) a true := by
  funext b
  unfold upd fup
  by_cases h : b = a
  · rw [if_pos h, if_pos h]; decide
  · rw [if_neg h, if_neg h]
theorem psS_sf {σ τ : zSt} {a : Nat} (e35 : τ 35 = σ 35) (e36 : τ 36 = σ 36) (e37 : τ 37 = upd (σ 37) a 1) (e38 : τ 38 = σ 38) (e39 : τ 39 = σ 39) (e40 : τ 40 = σ 40) : psS τ = setSf (psS σ) a := by
  unfold psS
  rw [e35, e36, e37, e38, e39, e40, flag_up]
theorem psS_ra {σ τ : zSt} {a : Nat} (e35 : τ 35 = σ 35) (e36 : τ 36 = σ 36) (e37 : τ 37 = σ 37) (e38 : τ 38 = upd (σ 38) a 1) (e39 : τ 39 = σ 39) (e40 : τ 40 = σ 40) : psS τ = setRa (psS σ) a := by
  unfold psS
  rw [e35, e36, e37, e38, e39, e40, flag_up]
theorem psS_dn {σ τ : zSt} {a : Nat} (e35 : τ 35 = σ 35) (e36 : τ 36 = σ 36) (e37 : τ 37 = σ 37) (e38 : τ 38 = σ 38) (e39 : τ 39 = σ 39) (e40 : τ 40 = upd (σ 40) a 1) : psS τ = setDn (psS σ) a := by
  unfold psS
  rw [e35, e36, e37, e38, e39, e40, flag_up]
theorem MR_mk {σ τ : zSt} {n R W : Nat} {L J : List Nat} {S' : PS} {l' : List Lt} (hS : MS σ n R W) (hN : MN σ n) (hF : MF L J σ τ) (hL : 33 ∉ L ∧ 34 ∉ L ∧ 35 ∉ L ∧ 41 ∉ L ∧ 45 ∉ L ∧ 46 ∉ L) (hJ : 0 ∉ J ∧ 6 ∉ J ∧ 8 ∉ J) (ep : psS τ = S') (hr : rdP S' = rdP (psS σ)) (hM : ML τ l') (hP : PI n R W (upS σ) (c2S σ) (c3S σ) S' l') : MR τ n R W l' := by
  have at' : ∀ c, c ≠ 32 → c ∉ L → τ c = σ c := fun c h1 h2 => hF.at (fun q => by
    rcases List.mem_cons.mp q with e | e
    · exact h1 e
    · exact h2 e)
  have e41 : τ 41 = σ 41 := at' 41 (by decide) hL.2.2.2.1
  have e45 : τ 45 = σ 45 := at' 45 (by decide) hL.2.2.2.2.1
  refine ⟨hS.of (hF.2 0 hJ.1) (hF.2 8 hJ.2.2) (hF.2 6 hJ.2.1) e41 (at' 33 (by decide) hL.1) (at' 34 (by decide) hL.2.1), ⟨fun b hb => ?_, fun x y q hx hy hq hne => ?_⟩, hM, ?_⟩
  · rw [ep, hr, at' 35 (by decide) hL.2.2.1]; exact hN.1 b hb
  · rw [e45] at hne
    rw [at' 46 (by decide) hL.2.2.2.2.2]
    exact hN.2 x y q hx hy hq hne
  · rw [upS_eq e41, c2S_eq e41 e45, c3S_eq e41 e45, ep]; exact hP
/-- no letter of the tree waits for a node without an upper -/
theorem PI.root {n R W : Nat} {up : Nat → Option Nat} {c2 c3 : Nat → Nat → Prop} {S : PS} {l : List Lt} {a : Nat} (h : PI n R W up c2 c3 S l) (hn : n ≤ 12) (ha : a < n) (hu : up a = none) : gos l a = 0 ∧ frs l a = 0 := by
  constructor
  · refine gos_0 (fun x hx e1 e2 => ?_)
    obtain ⟨c, u, q1, q2, q3, q4, _⟩ := (h.2.1 x hx).2.2.2.1 e1
    have ec : c = a := (nI_eq (by omega) (by omega)).mp (q3.symm.trans e2)
    rw [ec, hu] at q4; cases q4
  · refine frs_0 (fun x hx e1 e2 => ?_)
    obtain ⟨_, c, u, q1, q2, q3, q4, _⟩ := (h.2.1 x hx).2.2.2.2 e1
    have ec : c = a := (nI_eq (by omega) (by omega)).mp (q3.symm.trans e2)
    rw [ec, hu] at q4; cases q4
theorem c2S_of {σ : zSt} {n a q : Nat} (hq : q < 22) (h : ∀ c, c < n → upS σ c = some a → ¬ σ 45 (pl 2 a c q) = 0) : ∀ c, c < n → upS σ c = some a → c2S σ c q := fun c hc hu => ⟨hq, a, hu, h c hc hu⟩
theorem c3S_of {σ : zSt} {n a q : Nat} (hq : q < 22) (h : ∀ c, c < n → upS σ c = some a → ¬ σ 45 (pl 3 a c q) = 0) : ∀ c, c < n → upS σ c = some a → c3S σ c q := fun c hc hu => ⟨hq, a, hu, h c hc hu⟩
/-- goOn changes the node a alone -/
def GJ (σ τ : zSt) (a : Nat) : Prop := MF FBeg [27, 29, 30] σ τ ∧ (∀ j, j ≠ a → τ 47 j = σ 47 j) ∧ (∀ b, b ≠ a → rdP (psS τ) b = rdP (psS σ) b) ∧ 1 ≤ rdP (psS τ) a
theorem s_Mo_goOn (G : zG) (σ : zSt) (n R W a : Nat) (l : List Lt) (h : MR σ n R W l) (ha : a < n) (hr : 1 ≤ rdP (psS σ) a) (hW0 : W = 0 → ∀ c, c < n → upS σ c = none) : zV G 3 M_Mo_goOn [zf G 32, .int (nI a)] σ (fun τ => GJ σ τ a ∧ ∃ l', MR τ n R W l') := by
  refine zSpec.of (by decide) (Nat.le_of_ble_eq_true rfl) rfl (fun X E => ?_)
  have hn12 : n ≤ 12 := h.1.2.2.1
  have hR20 : R ≤ 20 := h.1.2.2.2.2.2.1
  have hW2 : W ≤ 2 := h.1.2.2.2.2.2.2.2.1
  have ia : vp_in (nI a) 12 := vp_in_nI (by omega) (by decide)
  have ca : (nI a).toNatClampNeg = a := nI_clamp (by omega)
  have main : ∀ (m : Nat) (τ : zSt) (l1 : List Lt) (more : Int32), R - rdP (psS τ) a = m → GJ σ τ a → MR τ n R W l1 → zZ G M_Mo_goOn 3 X (fun rr τ => rr = none ∧ GJ σ τ a ∧ ∃ l', MR τ n R W l') 2 [(0, zf G 32), (1, .int (nI a)), (2, .int more)] [] τ := by
    intro m
    induction m using Nat.strongRecOn with
    | ind m IH =>
      intro τ l1 more hm hJ hM
      -- the end without another round
      have stop : ∀ (υ : zSt) (l2 : List Lt), GJ σ υ a → MR υ n R W l2 → zZ G M_Mo_goOn 3 X (fun rr τ => rr = none ∧ GJ σ τ a ∧ ∃ l', MR τ n R W l') 2 [(0, zf G 32), (1, .int (nI a)), (2, .int (0 : Int32))] [] υ := fun υ l2 h1 h2 => b_Mo_goOn_2 E (nI a) 0 υ ⟨fun _ => ⟨rfl, h1, l2, h2⟩, fun q => absurd rfl q⟩
      -- 291: another round, perhaps
      have s291 : ∀ (υ : zSt) (l2 : List Lt) (v3 : Int32), GJ σ υ a → MR υ n R W l2 → rdP (psS υ) a = rdP (psS τ) a → (¬ v3 = 0 → (W = 0 ∧ sfP (psS υ) a = true) ∨ (W = 1 ∧ raP (psS υ) a = true ∧ upS υ a = none) ∨ (W = 2 ∧ dnP (psS υ) a = true ∧ upS υ a = none)) → zZ G M_Mo_goOn 3 X (fun rr τ => rr = none ∧ GJ σ τ a ∧ ∃ l', MR τ n R W l') 291 [(0, zf G 32), (1, .int (nI a)), (2, .int (0 : Int32)), (3, .int v3)] [] υ := by
        intro υ l2 v3 hJυ hMυ hrυ hv
        obtain ⟨hS, hN, hL, hP⟩ := hMυ
        have eup : upS υ = upS σ := upS_eq (hJυ.1.at (by decide))
        have r35 : υ 35 (nI a).toNatClampNeg = nI (rdP (psS υ) a) := by rw [ca]; exact hN.1 a ha
        have hra : 1 ≤ rdP (psS υ) a := hJυ.2.2.2
        have hRa := (hP.1 a ha).1
        refine b_Mo_goOn_291 E (nI a) 0 v3 υ ⟨fun _ => stop υ l2 hJυ ⟨hS, hN, hL, hP⟩, fun hne => ⟨ia, fun _ => stop υ l2 hJυ ⟨hS, hN, hL, hP⟩, fun hlt => ⟨ia, ?_⟩⟩⟩
        rw [r35, nI_1]
        rw [r35, hS.2.2.2.1] at hlt
        have hltR : rdP (psS υ) a < R := by
          rcases Nat.lt_or_ge (rdP (psS υ) a) R with e | e
          · exact e
          · exact absurd (nI_le e (by omega)) hlt
        have hNL := (hP.1 a ha).2.1 hra
        have upn : upS υ a = none := by
          rcases hv hne with ⟨e, _⟩ | ⟨_, _, e⟩ | ⟨_, _, e⟩
          · rw [eup]; exact hW0 e a ha
          · exact e
          · exact e
        have hB : BC υ n R W a l2 := by
          refine ⟨by omega, fun _ => ?_, fun _ c hc hu => ?_, fun u hu => ?_, (hP.root hn12 ha upn).1, (hP.root hn12 ha upn).2, fun e => by omega⟩
          · rcases hv hne with ⟨_, e⟩ | ⟨_, e, _⟩ | ⟨_, e, _⟩
            · exact hNL.2.1 e
            · exact hNL.2.1 (hNL.2.2.1 e)
            · exact hNL.2.1 (hNL.2.2.1 (hNL.2.2.2.2.1 (hNL.2.2.2.1 e)))
          · rcases hv hne with ⟨e, _⟩ | ⟨e0, e, _⟩ | ⟨e0, e, _⟩
            · rw [eup, hW0 e c hc] at hu; cases hu
            · obtain ⟨p1, p2⟩ := hP.lower ha hra e hc hu
              exact ⟨p1, p2, fun e2 => by omega⟩
            · obtain ⟨p1, p2⟩ := hP.lower ha hra (hNL.2.2.2.2.1 (hNL.2.2.2.1 e)) hc hu
              refine ⟨p1, p2, fun _ => ?_⟩
              have h3 := hNL.2.2.2.2.2.2 e c hc hu
              exact ((hP.1 c hc).2.2.2.2 _ h3).2 p1.symm
          · rw [upn] at hu; cases hu
        refine ⟨_, s_Mo_beginRound G υ n R W a _ l2 hS hN hL (Or.inl hP) ha hB rfl, fun σ1 ⟨g1, g2, ⟨mm, g3⟩, l3, g4⟩ => ?_⟩
        have er : rdP (psS σ1) a = rdP (psS υ) a + 1 := by rw [g3]; exact fup_s
        refine IH (R - rdP (psS σ1) a) (by omega) σ1 l3 1 rfl ⟨hJυ.1.tr g1, fun j hj => by rw [g2 j hj]; exact hJυ.2.1 j hj, fun b hb => ?_, by omega⟩ g4
        rw [g3, ← hJυ.2.2.1 b hb]; exact fup_n hb
      -- 202: done?
      have s202 : ∀ (υ : zSt) (l2 : List Lt) (v3 : Int32), GJ σ υ a → MR υ n R W l2 → rdP (psS υ) a = rdP (psS τ) a → (¬ v3 = 0 → (W = 0 ∧ sfP (psS υ) a = true) ∨ (W = 1 ∧ raP (psS υ) a = true ∧ upS υ a = none)) → zZ G M_Mo_goOn 3 X (fun rr τ => rr = none ∧ GJ σ τ a ∧ ∃ l', MR τ n R W l') 202 [(0, zf G 32), (1, .int (nI a)), (2, .int (0 : Int32)), (3, .int v3)] [] υ := by
        intro υ l2 v3 hJυ hMυ hrυ hv
        have on := s291 υ l2 v3 hJυ hMυ hrυ (fun e => by
          rcases hv e with q | q
          · exact Or.inl q
          · exact Or.inr (Or.inl q))
        obtain ⟨hS, hN, hL, hP⟩ := hMυ
        have hra : 1 ≤ rdP (psS υ) a := hJυ.2.2.2
        have hRa := (hP.1 a ha).1
        have hlen := hP.len hn12 hR20
        refine b_Mo_goOn_202 E (nI a) 0 v3 υ ⟨fun _ => on, fun hw => ⟨ia, fun _ => on, fun hfi => ⟨ia, fun _ => on, fun hdn => ⟨_, s_Mo_hasAll G υ n R W 1 a _ 0 hS (by omega) ha (hN.1 a ha) (by omega), ?_⟩⟩⟩⟩
        rintro b υ' ⟨rfl, _⟩
        refine ⟨fun _ => on, fun _ => ⟨_, s_Mo_hasAll G υ' n R W 3 a _ 1 hS (by omega) ha (hN.1 a ha) (by omega), ?_⟩⟩
        rintro b υ'' ⟨rfl, hall⟩
        refine ⟨fun _ => on, fun hb => ⟨ia, fun σ5 e5 => ⟨ia, ?_⟩⟩⟩
        have hW2' : W = 2 := by
          rw [hS.2.2.2.2.2.2.1] at hw
          exact (nI_eq (by omega) (by decide)).mp hw
        rw [ca] at e5 hfi hdn
        have h5 : ∀ c, c ≠ 40 → σ5 c = υ'' c := fun c hc => by rw [e5, zup_ne hc]
        have ep : psS σ5 = setDn (psS υ'') a := psS_dn (h5 35 (by decide)) (h5 36 (by decide)) (h5 37 (by decide)) (h5 38 (by decide)) (h5 39 (by decide)) (by rw [e5, zup_self])
        have hf : fiP (psS υ'') a = true := decide_eq_true hfi
        have hd : dnP (psS υ'') a = false := by
          show decide (¬ υ'' 40 a = 0) = false
          rw [hdn]; decide
        have hc3 := c3S_of (by omega) (hall hb (by decide))
        have hF5 : MF [40, 51] [27, 29, 30] υ'' σ5 := by rw [e5]; exact MF.rf.up (by decide) (by decide)
        have gj : ∀ ρ : zSt, MF [40, 51] [27, 29, 30] υ'' ρ → psS ρ = setDn (psS υ'') a → GJ σ ρ a := fun ρ k1 k2 => ⟨hJυ.1.tr (k1.mono (by decide) (by decide)), fun j hj => by rw [k1.at (by decide)]; exact hJυ.2.1 j hj, fun b hb => by rw [k2]; exact hJυ.2.2.1 b hb, by rw [k2]; exact hJυ.2.2.2⟩
        refine ⟨fun hu => ?_, fun hu => ⟨ia, ia, ?_⟩⟩
        · rw [ca, h5 41 (by decide)] at hu
          refine s291 σ5 l2 1 (gj σ5 hF5 ep) (MR_mk hS hN hF5 (by decide) (by decide) ep rfl (hL.of (by rw [h5 32 (by decide)]) (h5 51 (by decide))) (by have := hP.done ha hra hf hd hc3 [] (Or.inl rfl); rw [List.append_nil] at this; exact this)) (by rw [ep]; exact hrυ) (fun _ => Or.inr (Or.inr ⟨hW2', by rw [ep]; exact fup_s, ?_⟩))
          unfold upS; rw [h5 41 (by decide), if_pos hu]
        · rw [ca, h5 41 (by decide)] at hu
          rcases hS.2.2.2.2.2.2.2.2.1 a ha with e | ⟨u, hu1, hu2, hu3⟩
          · exact absurd e hu
          · rw [ca, h5 41 (by decide), hu3, h5 35 (by decide), hN.1 a ha]
            refine ⟨_, s_Mo_send G σ5 l2 6 (nI a) (nI u) _ 0 (hL.of (by rw [h5 32 (by decide)]) (h5 51 (by decide))) (by omega), fun σ6 ⟨k1, k2⟩ => ?_⟩
            have ep6 : psS σ6 = setDn (psS υ'') a := by
              rw [← ep]; unfold psS
              rw [k1.at (c := 35) (by decide), k1.at (c := 36) (by decide), k1.at (c := 37) (by decide), k1.at (c := 38) (by decide), k1.at (c := 39) (by decide), k1.at (c := 40) (by decide)]
            have hF6 : MF [40, 51] [27, 29, 30] υ'' σ6 := hF5.tr (k1.mono (by decide) (by decide))
            have hv0 : v3 = 0 := by
              rcases Classical.em (v3 = 0) with e | e
              · exact e
              · rcases hv e with ⟨q, _⟩ | ⟨q, _⟩ <;> omega
            refine s291 σ6 _ v3 (gj σ6 hF6 ep6) (MR_mk hS hN hF6 (by decide) (by decide) ep6 rfl k2 (hP.done ha hra hf hd hc3 [(6, nI a, nI u, nI (rdP (psS υ'') a), 0)] (Or.inr ⟨u, upS_to (by omega) hu3, rfl⟩))) (by rw [ep6]; exact hrυ) (fun e => absurd hv0 e)
      -- 79: raised?
      have s79 : ∀ (υ : zSt) (l2 : List Lt), GJ σ υ a → MR υ n R W l2 → rdP (psS υ) a = rdP (psS τ) a → zZ G M_Mo_goOn 3 X (fun rr τ => rr = none ∧ GJ σ τ a ∧ ∃ l', MR τ n R W l') 79 [(0, zf G 32), (1, .int (nI a)), (2, .int (0 : Int32))] [] υ := by
        intro υ l2 hJυ hMυ hrυ
        have on := s202 υ l2 0 hJυ hMυ hrυ (fun e => absurd rfl e)
        have hMυ' := hMυ
        obtain ⟨hS, hN, hL, hP⟩ := hMυ
        have hra : 1 ≤ rdP (psS υ) a := hJυ.2.2.2
        have hRa := (hP.1 a ha).1
        have hlen := hP.len hn12 hR20
        refine b_Mo_goOn_79 E (nI a) 0 υ ⟨fun hw0 => ⟨ia, fun _ => on, fun hsf => ⟨ia, fun _ => on, fun hrz => ⟨_, s_Mo_hasAll G υ n R W 2 a _ 1 hS (by omega) ha (hN.1 a ha) (by omega), ?_⟩⟩⟩, fun hw0 => ⟨ia, fun _ => on, fun hsf => ⟨_, s_Mo_hasAll G υ n R W 1 a _ 0 hS (by omega) ha (hN.1 a ha) (by omega), ?_⟩⟩⟩
        · rintro b υ' ⟨rfl, hall⟩
          refine ⟨fun _ => on, fun hb => ⟨ia, fun σ3 e3 => ⟨ia, ?_⟩⟩⟩
          rw [ca] at e3 hsf hrz
          have h3 : ∀ c, c ≠ 38 → σ3 c = υ' c := fun c hc => by rw [e3, zup_ne hc]
          have ep : psS σ3 = setRa (psS υ') a := psS_ra (h3 35 (by decide)) (h3 36 (by decide)) (h3 37 (by decide)) (by rw [e3, zup_self]) (h3 39 (by decide)) (h3 40 (by decide))
          have hs : sfP (psS υ') a = true := decide_eq_true hsf
          have hr0 : raP (psS υ') a = false := by
            show decide (¬ υ' 38 a = 0) = false
            rw [hrz]; decide
          have hc2 := c2S_of (by omega) (hall hb (by decide))
          have hF3 : MF [38, 51] [27, 29, 30] υ' σ3 := by rw [e3]; exact MF.rf.up (by decide) (by decide)
          have gj : ∀ ρ : zSt, MF [38, 51] [27, 29, 30] υ' ρ → psS ρ = setRa (psS υ') a → GJ σ ρ a := fun ρ k1 k2 => ⟨hJυ.1.tr (k1.mono (by decide) (by decide)), fun j hj => by rw [k1.at (by decide)]; exact hJυ.2.1 j hj, fun b hb => by rw [k2]; exact hJυ.2.2.1 b hb, by rw [k2]; exact hJυ.2.2.2⟩
          have M3 : MR σ3 n R W l2 := MR_mk hS hN hF3 (by decide) (by decide) ep rfl (hL.of (by rw [h3 32 (by decide)]) (h3 51 (by decide))) (by have := hP.raise ha hra hs hr0 hc2 [] (Or.inl rfl); rw [List.append_nil] at this; exact this)
          refine ⟨fun hu => ⟨fun hw1 => ?_, fun hw1 => ?_⟩, fun hu => ⟨ia, ia, ?_⟩⟩
          · -- the root of a cluster becomes firm
            rw [ca, h3 41 (by decide)] at hu
            have upn : upS σ3 a = none := by unfold upS; rw [h3 41 (by decide), if_pos hu]
            have hW2' : W = 2 := by
              rw [h3 32 (by decide), hS.2.2.2.2.2.2.1] at hw1
              rw [hS.2.2.2.2.2.2.1] at hw0
              have a1 : W ≠ 0 := fun e => hw0 (by rw [e]; rfl)
              have a2 : W ≠ 1 := fun e => hw1 (by rw [e]; rfl)
              omega
            have hf0 : fiP (psS υ') a = false := by
              cases hf : fiP (psS υ') a with
              | false => rfl
              | true =>
                have := ((hP.1 a ha).2.1 hra).2.2.2.2.1 hf
                rw [hr0] at this; cases this
            refine ⟨_, s_Mo_becomeFirm G σ3 n R W a l2 M3 hW2' ha (by rw [ep]; exact hra) (by rw [ep]; exact fup_s) (by rw [ep]; exact hf0) (M3.2.2.2.root hn12 ha upn).2 (fun u hu' => by rw [upn] at hu'; cases hu'), fun σ4 ⟨k1, k2, l3, k3⟩ => ?_⟩
            refine s202 σ4 l3 0 ⟨hJυ.1.tr ((hF3.mono (by decide) (by decide)).tr (k1.mono (by decide) (by decide))), fun j hj => by rw [k1.at (by decide), hF3.at (by decide)]; exact hJυ.2.1 j hj, fun b hb => by rw [k2, ep]; exact hJυ.2.2.1 b hb, by rw [k2, ep]; exact hJυ.2.2.2⟩ k3 (by rw [k2, ep]; exact hrυ) (fun e => absurd rfl e)
          · rw [ca, h3 41 (by decide)] at hu
            have upn : upS σ3 a = none := by unfold upS; rw [h3 41 (by decide), if_pos hu]
            have hW1 : W = 1 := by
              rw [h3 32 (by decide), hS.2.2.2.2.2.2.1] at hw1
              exact (nI_eq (by omega) (by decide)).mp hw1
            exact s202 σ3 l2 1 (gj σ3 hF3 ep) M3 (by rw [ep]; exact hrυ) (fun _ => Or.inr ⟨hW1, by rw [ep]; exact fup_s, upn⟩)
          · rw [ca, h3 41 (by decide)] at hu
            rcases hS.2.2.2.2.2.2.2.2.1 a ha with e | ⟨u, hu1, hu2, hu3⟩
            · exact absurd e hu
            · rw [ca, h3 41 (by decide), hu3, h3 35 (by decide), hN.1 a ha]
              refine ⟨_, s_Mo_send G σ3 l2 3 (nI a) (nI u) _ 0 (hL.of (by rw [h3 32 (by decide)]) (h3 51 (by decide))) (by omega), fun σ6 ⟨k1, k2⟩ => ?_⟩
              have ep6 : psS σ6 = setRa (psS υ') a := by
                rw [← ep]; unfold psS
                rw [k1.at (c := 35) (by decide), k1.at (c := 36) (by decide), k1.at (c := 37) (by decide), k1.at (c := 38) (by decide), k1.at (c := 39) (by decide), k1.at (c := 40) (by decide)]
              have hF6 : MF [38, 51] [27, 29, 30] υ' σ6 := hF3.tr (k1.mono (by decide) (by decide))
              exact s202 σ6 _ 0 (gj σ6 hF6 ep6) (MR_mk hS hN hF6 (by decide) (by decide) ep6 rfl k2 (hP.raise ha hra hs hr0 hc2 [(3, nI a, nI u, nI (rdP (psS υ') a), 0)] (Or.inr ⟨u, upS_to (by omega) hu3, rfl⟩))) (by rw [ep6]; exact hrυ) (fun e => absurd rfl e)
        · rintro b υ' ⟨rfl, _⟩
          rw [ca] at hsf
          have hW : W = 0 := by
            rw [hS.2.2.2.2.2.2.1] at hw0
            exact (nI_eq (by omega) (by decide)).mp hw0
          exact ⟨fun _ => on, fun _ => s202 υ' l2 1 hJυ hMυ' hrυ (fun _ => Or.inl ⟨hW, decide_eq_true hsf⟩)⟩
      -- 2: safe?
      have hMτ := hM
      obtain ⟨hS, hN, hL, hP⟩ := hM
      have hra : 1 ≤ rdP (psS τ) a := hJ.2.2.2
      have hRa := (hP.1 a ha).1
      have hlen := hP.len hn12 hR20
      have on := s79 τ l1 hJ hMτ rfl
      refine b_Mo_goOn_2 E (nI a) more τ ⟨fun _ => ⟨rfl, hJ, l1, hMτ⟩, fun _ => ⟨ia, fun _ => on, fun hsz => ⟨ia, fun _ => on, fun hoz => ⟨ia, fun σ1 e1 => ?_⟩⟩⟩⟩
      rw [ca] at e1 hsz hoz
      have h1 : ∀ c, c ≠ 37 → σ1 c = τ c := fun c hc => by rw [e1, zup_ne hc]
      have ep1 : psS σ1 = setSf (psS τ) a := psS_sf (h1 35 (by decide)) (h1 36 (by decide)) (by rw [e1, zup_self]) (h1 38 (by decide)) (h1 39 (by decide)) (h1 40 (by decide))
      have hs0 : sfP (psS τ) a = false := by
        show decide (¬ τ 37 a = 0) = false
        rw [hsz]; decide
      have ho0 : opP (psS τ) a ≤ 0 := by
        show (τ 36 a).toInt ≤ 0
        rw [hoz]; decide
      refine z_for n (fun i ρ => zZ G M_Mo_goOn 3 X (fun rr τ => rr = none ∧ GJ σ τ a ∧ ∃ l', MR τ n R W l') 35 [(0, zf G 32), (1, .int (nI a)), (2, .int (0 : Int32)), (3, .int (nI i))] [] ρ) (fun i ρ => MF [51] [27, 29, 30] σ1 ρ ∧ ∃ M, ML ρ (l1 ++ M) ∧ (∀ x, x ∈ M → VL n R x ∧ x.1 = 2) ∧ M.length ≤ i ∧ (¬ W = 0 → M = [])) ?_ ?_ 0 σ1 (Nat.zero_le _) ⟨MF.rf, [], by rw [List.append_nil]; exact hL.of (by rw [h1 32 (by decide)]) (h1 51 (by decide)), fun x hx => absurd hx List.not_mem_nil, Nat.le_refl _, fun _ => rfl⟩
      · intro i ρ hi ⟨g1, M, g2, g3, g4, g5⟩ ih
        have nρ : ρ 32 0 = nI n := by rw [g1.2 0 (by decide), h1 32 (by decide)]; exact hS.1
        have wρ : ρ 32 6 = nI W := by rw [g1.2 6 (by decide), h1 32 (by decide)]; exact hS.2.2.2.2.2.2.1
        have rρ : ρ 35 (nI a).toNatClampNeg = nI (rdP (psS τ) a) := by rw [ca, g1.at (by decide), h1 35 (by decide)]; exact hN.1 a ha
        have nx : zZ G M_Mo_goOn 3 X (fun rr τ => rr = none ∧ GJ σ τ a ∧ ∃ l', MR τ n R W l') 35 [(0, zf G 32), (1, .int (nI a)), (2, .int (0 : Int32)), (3, .int (nI i + 1))] [] ρ := by
          rw [nI_1]; exact ih ρ ⟨g1, M, g2, g3, by omega, g5⟩
        refine b_Mo_goOn_35 E (nI a) 0 (nI i) ρ ⟨fun q => absurd q (by rw [nρ]; exact nI_ge hi (by omega)), fun _ => ⟨fun _ => nx, fun hw => ⟨by rw [zi12']; exact vp_in_nI (by omega) (by decide), fun _ => nx, fun _ => ⟨ia, ?_⟩⟩⟩⟩
        rw [rρ]
        refine ⟨_, s_Mo_send G ρ (l1 ++ M) 2 (nI a) (nI i) _ 0 g2 (by rw [List.length_append]; omega), fun σ7 ⟨m1, m2⟩ => ?_⟩
        rw [nI_1]
        refine ih σ7 ⟨g1.tr m1, M ++ [(2, nI a, nI i, nI (rdP (psS τ) a), 0)], by rw [← List.append_assoc]; exact m2, fun x hx => ?_, by rw [List.length_append]; simp; omega, fun hne => ?_⟩
        · rcases List.mem_append.mp hx with e | e
          · exact g3 x e
          · rw [List.mem_singleton.mp e]
            exact ⟨⟨⟨2, by omega, rfl⟩, ⟨a, ha, rfl⟩, ⟨i, hi, rfl⟩, ⟨_, hra, hRa, rfl, fun e => absurd e kne_2_0⟩⟩, rfl⟩
        · exfalso
          rw [wρ] at hw
          exact hne ((nI_eq (b := 0) (by omega) (by decide)).mp hw)
      · intro ρ ⟨g1, M, g2, g3, g4, g5⟩
        have nρ : ρ 32 0 = nI n := by rw [g1.2 0 (by decide), h1 32 (by decide)]; exact hS.1
        refine b_Mo_goOn_35 E (nI a) 0 (nI n) ρ ⟨fun _ => ?_, fun q => absurd (by rw [nρ]; exact nI_le (Nat.le_refl n) (by omega)) q⟩
        have ep : psS ρ = setSf (psS τ) a := by
          rw [← ep1]; unfold psS
          rw [g1.at (c := 35) (by decide), g1.at (c := 36) (by decide), g1.at (c := 37) (by decide), g1.at (c := 38) (by decide), g1.at (c := 39) (by decide), g1.at (c := 40) (by decide)]
        have hFρ : MF [37, 51] [27, 29, 30] τ ρ := by
          refine MF.tr (τ := σ1) ?_ (g1.mono (by decide) (by decide))
          rw [e1]; exact MF.rf.up (by decide) (by decide)
        refine s79 ρ _ ⟨hJ.1.tr (hFρ.mono (by decide) (by decide)), fun j hj => by rw [hFρ.at (by decide)]; exact hJ.2.1 j hj, fun b hb => by rw [ep]; exact hJ.2.2.1 b hb, by rw [ep]; exact hJ.2.2.2⟩ (MR_mk hS hN hFρ (by decide) (by decide) ep rfl g2 (hP.safe ha hra ho0 hs0 M g3 ?_)) (by rw [ep])
        by_cases e : W = 0
        · rw [if_pos e]; omega
        · rw [if_neg e, g5 e]; simp
  refine b_Mo_goOn_0 E (nI a) σ (main _ σ l 1 rfl ⟨MF.rf, fun _ _ => rfl, fun _ _ => rfl, hr⟩ h)
