-- The reference is the pure machine: a node begins a round
section MREF2
variable {n R W p : Nat} {src : Int32} {mk : Nat → Int32} {len : Nat → Nat → Int32} {lk pa : Nat → Nat → Bool} {up : Nat → Option Nat} {A : AS}
/-- marks and lengths are in their bounds -/
theorem MT.mlb {σ : zSt} (h : MT σ n R W p src mk len lk pa up) : MLB mk len := by
  obtain ⟨⟨_, _, _, _, _, _, _, _, _, hM⟩, _, h5, h6, _⟩ := h
  exact ⟨fun a ha => by rw [← h5 a ha]; exact hM.2 a ha, fun a b ha hb => by rw [← h6 a b ha hb]; exact hM.1 _ (by omega)⟩
/-- the first value of a node, as round 1 finds it -/
def V1 (p : Nat) (src : Int32) (mk : Nat → Int32) (A : AS) (a : Nat) : Prop := rdP (aS A) a = 0 → aV A a = first0 p (decide (nI a = src)) (mk a)
theorem s_Mo_beginRound2 (G : zG) (σ : zSt) (a r : Nat) (hT : MT σ n R W p src mk len lk pa up) (hA : MA σ n A) (hN : NI p A) (ha : a < n) (hr : rdP (aS A) a + 1 = r) (hrR : r ≤ R) (hl : (aL A).length + 24 ≤ 4000) (hv : V1 p src mk A a) :
    zV G 2 M_Mo_beginRound [zf G 32, .int (nI a), .int (nI r)] σ (fun τ => MF FBeg [27, 29, 30] σ τ ∧ MA τ n (aBeg n p src mk len lk up A a)) := by
  refine zSpec.of (by decide) (Nat.le_of_ble_eq_true rfl) rfl (fun X E => ?_)
  have hn12 : n ≤ 12 := hT.1.2.2.1
  have hR20 : R ≤ 20 := hT.1.2.2.2.2.2.1
  have hMLB := hT.mlb
  have ia : vp_in (nI a) 12 := vp_in_nI (by omega) (by decide)
  have ca : (nI a).toNatClampNeg = a := nI_clamp (by omega)
  have hr1 : 1 ≤ r := by omega
  have hr20 : r ≤ 20 := by omega
  have eS : psS σ = aS A := hA.1.1
  obtain ⟨wb, ww⟩ := act_WB (src := src) hn12 hR20 hMLB hN ha (by omega)
  have eact : actA n p src mk len A a = pAct p r a (decide (nI a = src)) (mk a) (len a) (noteF n A a r) (aV A a) (aQ A a) := by unfold actA; rw [hr]
  generalize hwd : actA n p src mk len A a = wd at wb ww eact
  have gG : (begG n up A a).length ≤ 12 := by
    unfold begG
    split
    · exact Nat.zero_le _
    · rw [ltrs_len]; exact Nat.le_trans (selL_len n) hn12
  -- behind the GOs
  have rest : ∀ (υ : zSt), SN σ υ (aL A) (begG n up A a) →
      ∀ σ1 σ2 σ3 σ4 σ5 σ6 : zSt, σ1 = zup υ 35 (nI a).toNatClampNeg (nI r) → σ2 = zup σ1 37 (nI a).toNatClampNeg 0 → σ3 = zup σ2 38 (nI a).toNatClampNeg 0 → σ4 = zup σ3 39 (nI a).toNatClampNeg 0 → σ5 = zup σ4 40 (nI a).toNatClampNeg 0 → σ6 = zup σ5 36 (nI a).toNatClampNeg 0 →
      zZ G M_Mo_beginRound 2 X (fun rr τ => rr = none ∧ MF FBeg [27, 29, 30] σ τ ∧ MA τ n (aBeg n p src mk len lk up A a)) 56 [(0, zf G 32), (1, .int (nI a)), (2, .int (nI r)), (3, .int (0 : Int32))] [] σ6 := by
    intro υ f σ1 σ2 σ3 σ4 σ5 σ6 e1 e2 e3 e4 e5 e6
    obtain ⟨f1, f2, f3, f4⟩ := f
    rw [ca] at e1 e2 e3 e4 e5 e6
    have hF6 : MF FBeg [27, 29, 30] σ σ6 := by
      rw [e6, e5, e4, e3, e2, e1]
      exact ((((((f1.mono (by decide) (by decide)).up (by decide) (by decide)).up (by decide) (by decide)).up (by decide) (by decide)).up (by decide) (by decide)).up (by decide) (by decide)).up (by decide) (by decide)
    have u35 : σ6 35 = upd (σ 35) a (nI r) := by rw [e6, zup_ne (by decide), e5, zup_ne (by decide), e4, zup_ne (by decide), e3, zup_ne (by decide), e2, zup_ne (by decide), e1, zup_self, f1.at (by decide)]
    have u36 : σ6 36 = upd (σ 36) a (nI 0) := by rw [e6, zup_self, e5, zup_ne (by decide), e4, zup_ne (by decide), e3, zup_ne (by decide), e2, zup_ne (by decide), e1, zup_ne (by decide), f1.at (by decide)]; rfl
    have u37 : σ6 37 = upd (σ 37) a 0 := by rw [e6, zup_ne (by decide), e5, zup_ne (by decide), e4, zup_ne (by decide), e3, zup_ne (by decide), e2, zup_self, e1, zup_ne (by decide), f1.at (by decide)]
    have u38 : σ6 38 = upd (σ 38) a 0 := by rw [e6, zup_ne (by decide), e5, zup_ne (by decide), e4, zup_ne (by decide), e3, zup_self, e2, zup_ne (by decide), e1, zup_ne (by decide), f1.at (by decide)]
    have u39 : σ6 39 = upd (σ 39) a 0 := by rw [e6, zup_ne (by decide), e5, zup_ne (by decide), e4, zup_self, e3, zup_ne (by decide), e2, zup_ne (by decide), e1, zup_ne (by decide), f1.at (by decide)]
    have u40 : σ6 40 = upd (σ 40) a 0 := by rw [e6, zup_ne (by decide), e5, zup_self, e4, zup_ne (by decide), e3, zup_ne (by decide), e2, zup_ne (by decide), e1, zup_ne (by decide), f1.at (by decide)]
    have h6u : ∀ c, c ≠ 35 → c ≠ 36 → c ≠ 37 → c ≠ 38 → c ≠ 39 → c ≠ 40 → σ6 c = υ c := fun c a1 a2 a3 a4 a5 a6 => by
      rw [e6, zup_ne a2, e5, zup_ne a6, e4, zup_ne a5, e3, zup_ne a4, e2, zup_ne a3, e1, zup_ne a1]
    have s32 : σ6 32 = υ 32 := h6u 32 (by decide) (by decide) (by decide) (by decide) (by decide) (by decide)
    have L6 : ML σ6 (aL A ++ begG n up A a) := f2.of (by rw [s32]) (h6u 51 (by decide) (by decide) (by decide) (by decide) (by decide) (by decide))
    have hT6 := hT.of hF6 (by decide) (by decide)
    have n6 : σ6 32 0 = nI n := hT6.1.1
    have e47 : σ6 47 = σ 47 := by rw [h6u 47 (by decide) (by decide) (by decide) (by decide) (by decide) (by decide), f1.at (by decide)]
    have e48 : σ6 48 = σ 48 := by rw [h6u 48 (by decide) (by decide) (by decide) (by decide) (by decide) (by decide), f1.at (by decide)]
    have e49 : σ6 49 = σ 49 := by rw [h6u 49 (by decide) (by decide) (by decide) (by decide) (by decide) (by decide), f1.at (by decide)]
    -- the notes
    have notes : ∀ τ : zSt, zFr [47, 48, 49, 54, 55] σ6 τ → τ 47 = upd (σ 47) a wd.1 → τ 48 = upd (σ 48) a wd.2.1 → τ 49 = upd (σ 49) (12 * r + a) wd.1 → zZ G M_Mo_beginRound 2 X (fun rr τ => rr = none ∧ MF FBeg [27, 29, 30] σ τ ∧ MA τ n (aBeg n p src mk len lk up A a)) 166 [(0, zf G 32), (1, .int (nI a)), (2, .int (nI r)), (3, .int (enc wd.2.2)), (4, .int (0 : Int32))] [] τ := by
      intro τ g1 g47 g48 g49
      have fin : ∀ (ρ : zSt), MF [36, 51] [27, 29, 30] τ ρ → ML ρ (aL A ++ begG n up A a ++ begN n p src mk len lk A a) → ρ 36 = upd (σ 36) a (nI (begN n p src mk len lk A a).length) → ρ 32 29 = τ 32 29 + nI (begN n p src mk len lk A a).length → ρ 32 30 = τ 32 30 → (none : Option Value) = none ∧ MF FBeg [27, 29, 30] σ ρ ∧ MA ρ n (aBeg n p src mk len lk up A a) := by
        intro ρ k1 k2 k3 k4 k5
        have c6 : ∀ c, c ∉ [32, 36, 51, 47, 48, 49, 54, 55] → ρ c = σ6 c := fun c hc => by
          rw [k1.at (fun q => hc (by simp only [List.mem_cons, List.not_mem_nil, or_false] at q ⊢; omega)), g1 c (fun q => hc (by simp only [List.mem_cons, List.not_mem_nil, or_false] at q ⊢; omega))]
        have hFρ : MF FBeg [27, 29, 30] σ ρ := (hF6.tr ((MF.of (J := [27, 29, 30]) g1 (by decide)).mono (by decide) (by decide))).tr (k1.mono (by decide) (by decide))
        have bl : (begN n p src mk len lk A a).length ≤ 12 := Nat.le_trans begN_len hn12
        have ep : psS ρ = setRd (psS σ) a ((begN n p src mk len lk A a).length : Int) := psS_rd (r := r) (m := (begN n p src mk len lk A a).length) (by omega) (by rw [eS]; exact hr) (by omega) (by rw [c6 35 (by decide)]; exact u35) k3 (by rw [c6 37 (by decide)]; exact u37) (by rw [c6 38 (by decide)]; exact u38) (by rw [c6 39 (by decide)]; exact u39) (by rw [c6 40 (by decide)]; exact u40)
        obtain ⟨⟨_, h2⟩, ⟨_, h3, h4⟩, h5, h6, h7, h8⟩ := hA
        have cG := cNo_0 (m := begG n up A a) (fun x hx => by
          unfold begG at hx
          split at hx
          · exact absurd hx List.not_mem_nil
          · obtain ⟨b, _, rfl⟩ := ltrs_mem.mp hx; exact (show ¬ (4 : Int32) = 0 by decide))
        refine ⟨rfl, hFρ, ⟨by rw [ep, eS]; rfl, fun b hb => ?_⟩, ⟨k2, ?_, ?_⟩, fun b hb => ?_, fun q b hq hb => ?_, fun w x y q hw hx hy hq => ?_, fun x y q hx hy hq hc => ?_⟩
        · rw [c6 35 (by decide), u35]
          show upd (σ 35) a (nI r) b = nI (fup (rdP (aS A)) a (rdP (aS A) a + 1) b)
          unfold upd fup
          by_cases hba : b = a
          · rw [if_pos hba, if_pos hba, hr]
          · rw [if_neg hba, if_neg hba]; exact h2 b hb
        · rw [k4, g1 32 (by decide), s32, f3, h3, cG.1]
          show aN A + nI 0 + _ = aN A + _
          rw [show nI 0 = (0 : Int32) from rfl, Int32.add_zero]
        · rw [k5, g1 32 (by decide), s32, f4, h4, cG.2]; rfl
        · rw [k1.at (by decide), k1.at (by decide), g47, g48]
          show upd (σ 47) a wd.1 b = fup (aV A) a (actA n p src mk len A a).1 b ∧ upd (σ 48) a wd.2.1 b = fup (aQ A) a (actA n p src mk len A a).2.1 b
          rw [hwd]
          unfold upd fup
          by_cases hba : b = a
          · rw [if_pos hba, if_pos hba, if_pos hba, if_pos hba]; exact ⟨rfl, rfl⟩
          · rw [if_neg hba, if_neg hba, if_neg hba, if_neg hba]; exact h5 b hb
        · rw [k1.at (by decide), g49]
          have hq : q ≤ fup (rdP (aS A)) a (rdP (aS A) a + 1) b := hq
          show upd (σ 49) (12 * r + a) wd.1 (12 * q + b) = if q = rdP (aS A) a + 1 ∧ b = a then (actA n p src mk len A a).1 else aU A q b
          rw [hwd, hr]
          unfold upd
          by_cases hba : b = a
          · rw [hba] at hq ⊢
            rw [fup_s, hr] at hq
            by_cases e : q = r
            · rw [if_pos (by rw [e]), if_pos ⟨e, rfl⟩]
            · rw [if_neg (by omega), if_neg (fun x => e x.1)]
              exact h6 q a (by omega) ha
          · rw [fup_n hba] at hq
            rw [if_neg (by omega), if_neg (fun x => hba x.2)]
            exact h6 q b hq hb
        · rw [hFρ.at (by decide)]; exact h7 w x y q hw hx hy hq
        · rw [hFρ.at (by decide)]; exact h8 x y q hx hy hq hc
      by_cases hsil : wd.2.2 = -2
      · have eb : begN n p src mk len lk A a = [] := by unfold begN; rw [if_pos (by rw [hwd]; exact hsil)]
        have hend := fin τ MF.rf (by rw [eb, List.append_nil]; exact L6.of (by rw [g1 32 (by decide)]) (g1 51 (by decide))) (by rw [eb, g1 36 (by decide)]; exact u36) (by rw [eb]; exact (Int32.add_zero _).symm) rfl
        refine b_Mo_beginRound_166 E (nI a) (nI r) _ 0 τ ⟨fun _ => hend, fun _ => ⟨fun _ => hend, fun h => absurd (by rw [hsil]; rfl) h⟩⟩
      · have ee : enc wd.2.2 = wd.2.2 := enc_ne hsil
        have nee : ¬ enc wd.2.2 = -1000 := fun q => hsil ((enc_iff wb).mp q)
        rw [ee] at nee ⊢
        have eb : begN n p src mk len lk A a = ltrs 0 a r wd.2.2 (selL (fun b => lk a b) n) := by unfold begN; rw [if_neg (by rw [hwd]; exact hsil), hwd, hr]; rfl
        rw [eb] at fin
        refine z_for n (fun i ρ => zZ G M_Mo_beginRound 2 X (fun rr τ => rr = none ∧ MF FBeg [27, 29, 30] σ τ ∧ MA τ n (aBeg n p src mk len lk up A a)) 166 [(0, zf G 32), (1, .int (nI a)), (2, .int (nI r)), (3, .int wd.2.2), (4, .int (nI i))] [] ρ) (fun i ρ => MF [36, 51] [27, 29, 30] τ ρ ∧ ML ρ (aL A ++ begG n up A a ++ ltrs 0 a r wd.2.2 (selL (fun b => lk a b) i)) ∧ ρ 36 = upd (σ 36) a (nI (ltrs 0 a r wd.2.2 (selL (fun b => lk a b) i)).length) ∧ ρ 32 29 = τ 32 29 + nI (ltrs 0 a r wd.2.2 (selL (fun b => lk a b) i)).length ∧ ρ 32 30 = τ 32 30) ?_ ?_ 0 τ (Nat.zero_le _) ⟨MF.rf, by
          show ML τ (aL A ++ begG n up A a ++ [])
          rw [List.append_nil]; exact L6.of (by rw [g1 32 (by decide)]) (g1 51 (by decide)), by rw [g1 36 (by decide)]; exact u36, (Int32.add_zero _).symm, rfl⟩
        · intro i ρ hi ⟨k1, k2, k3, k4, k5⟩ ih
          have hTρ := (hT6.of (MF.of (J := [27, 29, 30]) g1 (by decide)) (by decide) (by decide)).of k1 (by decide) (by decide)
          have hlen : (ltrs 0 a r wd.2.2 (selL (fun b => lk a b) i)).length ≤ i := by rw [ltrs_len]; exact selL_len i
          have elk := hTρ.2.2.2.2.1 a i ha hi
          refine b_Mo_beginRound_166 E (nI a) (nI r) _ (nI i) ρ ⟨fun q => absurd q (by rw [hTρ.1.1]; exact nI_ge hi (by omega)), fun _ => ⟨fun q => absurd q nee, fun _ => ⟨by rw [zi12']; exact vp_in_nI (by omega) (by decide), fun hf => ?_, fun ht => ⟨_, s_Mo_send2 G ρ _ 0 (nI a) (nI i) (nI r) wd.2.2 k2 (by rw [List.length_append, List.length_append]; omega), fun σ7 ⟨m1, m2, m3, m4⟩ => ⟨ia, ia, fun σ8 e8 => ?_⟩⟩⟩⟩⟩
          · rw [nI_1]
            rw [elk] at hf
            refine ih ρ ?_
            rw [sel_no (by rw [hf]; decide)]; exact ⟨k1, k2, k3, k4, k5⟩
          · rw [ca] at e8
            rw [nI_1]
            rw [elk] at ht
            have o7 : σ7 36 a = nI (ltrs 0 a r wd.2.2 (selL (fun b => lk a b) i)).length := by rw [m1.at (by decide), k3]; simp [upd]
            rw [o7, nI_1] at e8
            refine ih σ8 ?_
            rw [sel_yes ht]
            refine ⟨?_, ?_, ?_, ?_, ?_⟩
            · rw [e8]; exact (k1.tr (m1.mono (by decide) (by decide))).up (by decide) (by decide)
            · rw [← List.append_assoc]
              exact m2.of (by rw [e8, zup_ne (by decide)]) (by rw [e8, zup_ne (by decide)])
            · rw [e8, zup_self, m1.at (by decide), k3, List.length_append, upd_upd]
              rfl
            · rw [e8, zup_ne (by decide), m3, k4, List.length_append, Int32.add_assoc, nI_add, (cNo_1 (m := [(0, nI a, nI i, nI r, wd.2.2)]) (fun y hy => by rw [List.mem_singleton.mp hy])).1]
            · rw [e8, zup_ne (by decide), m4, k5, (cNo_1 (m := [(0, nI a, nI i, nI r, wd.2.2)]) (fun y hy => by rw [List.mem_singleton.mp hy])).2]
              exact Int32.add_zero _
        · intro ρ ⟨k1, k2, k3, k4, k5⟩
          have hTρ := (hT6.of (MF.of (J := [27, 29, 30]) g1 (by decide)) (by decide) (by decide)).of k1 (by decide) (by decide)
          exact b_Mo_beginRound_166 E (nI a) (nI r) _ (nI n) ρ ⟨fun _ => fin ρ k1 k2 k3 k4 k5, fun q => absurd (by rw [hTρ.1.1]; exact nI_le (Nat.le_refl n) (by omega)) q⟩
    -- what the node takes
    refine z_for n (fun i τ => zZ G M_Mo_beginRound 2 X (fun rr τ => rr = none ∧ MF FBeg [27, 29, 30] σ τ ∧ MA τ n (aBeg n p src mk len lk up A a)) 56 [(0, zf G 32), (1, .int (nI a)), (2, .int (nI r)), (3, .int (nI i))] [] τ) (fun i τ => zFr [54, 55] σ6 τ ∧ ∀ b, b < i → (¬ τ 54 b = 0 ↔ (¬ r = 1 ∧ aC A 0 a b (r - 1) = true)) ∧ (¬ τ 54 b = 0 → τ 55 b = aM A a b (r - 1))) ?_ ?_ 0 σ6 (Nat.zero_le _) ⟨zFr.rf, fun b hb => absurd hb (Nat.not_lt_zero b)⟩
    · intro b τ hb ⟨g1, g2⟩ ih
      have ib : vp_in (nI b) 12 := vp_in_nI (by omega) (by decide)
      have cb : (nI b).toNatClampNeg = b := nI_clamp (by omega)
      have erp : nI r - (1 : Int32) = nI (r - 1) := by rw [show (1 : Int32) = nI 1 from rfl, pk_sub hr1]
      have epl : (((0 : Int32) * 12 + nI a) * 12 + nI b) * 22 + (nI r - (1 : Int32)) = nI (pl 0 a b (r - 1)) := by rw [erp, show (0 : Int32) = nI 0 from rfl, pl_nI]
      have hpl : pl 0 a b (r - 1) < 3168 := by unfold pl; omega
      have e45 : σ6 45 = σ 45 := hF6.at (by decide)
      have e46 : σ6 46 = σ 46 := hF6.at (by decide)
      have eC := hA.2.2.2.2.1 0 a b (r - 1) (by omega) ha hb (by omega)
      have tail : ∀ (v : Int32) (σ4 : zSt), σ4 = zup τ 54 (nI b).toNatClampNeg v → (¬ v = 0 ↔ (¬ r = 1 ∧ aC A 0 a b (r - 1) = true)) → zZ G M_Mo_beginRound 2 X (fun rr τ => rr = none ∧ MF FBeg [27, 29, 30] σ τ ∧ MA τ n (aBeg n p src mk len lk up A a)) 98 [(0, zf G 32), (1, .int (nI a)), (2, .int (nI r)), (3, .int (nI b))] [] σ4 := by
        intro v σ4 e4 hv
        rw [cb] at e4
        have t54 : σ4 54 = upd (τ 54) b v := by rw [e4, zup_self]
        have go : ∀ (w : Int32) (σ5 : zSt), σ5 = zup σ4 55 (nI b).toNatClampNeg w → (¬ v = 0 → w = aM A a b (r - 1)) → zZ G M_Mo_beginRound 2 X (fun rr τ => rr = none ∧ MF FBeg [27, 29, 30] σ τ ∧ MA τ n (aBeg n p src mk len lk up A a)) 56 [(0, zf G 32), (1, .int (nI a)), (2, .int (nI r)), (3, .int (nI b + 1))] [] σ5 := by
          intro w σ5 e5 hw
          rw [cb] at e5
          rw [nI_1]
          refine ih σ5 ⟨by rw [e5, e4]; exact (g1.up (by decide)).up (by decide), fun c hc => ?_⟩
          have x54 : σ5 54 = upd (τ 54) b v := by rw [e5, zup_ne (by decide), t54]
          have x55 : σ5 55 = upd (τ 55) b w := by rw [e5, zup_self, e4, zup_ne (by decide)]
          rw [x54, x55]
          unfold upd
          by_cases hcb : c = b
          · rw [if_pos hcb, if_pos hcb, hcb]; exact ⟨hv, hw⟩
          · rw [if_neg hcb, if_neg hcb]
            exact g2 c (by omega)
        have z54 : σ4 54 b = v := by rw [t54]; exact upd_eq
        refine b_Mo_beginRound_98 E (nI a) (nI r) (nI b) σ4 ⟨ib, fun hz => ⟨ib, fun σ5 e5 => go _ σ5 e5 (fun h => absurd (by rw [cb, z54] at hz; exact hz) h)⟩, fun hz => ⟨by rw [epl]; exact vp_in_nI hpl (by decide), ib, fun σ5 e5 => go _ σ5 e5 (fun h => ?_)⟩⟩
        rw [epl, nI_clamp (by omega), e4, zup_ne (by decide), g1 46 (by decide), e46]
        exact hA.2.2.2.2.2 a b (r - 1) ha hb (by omega) (hv.mp h).2
      refine b_Mo_beginRound_56 E (nI a) (nI r) (nI b) τ ⟨fun q => absurd q (by rw [g1 32 (by decide), n6]; exact nI_ge hb (by omega)), fun _ => ⟨fun hle => ⟨ib, fun σ4 e4 => tail 0 σ4 e4 ⟨fun h => absurd rfl h, fun h => absurd ?_ h.1⟩⟩, fun hgt => ⟨by rw [epl]; exact vp_in_nI (by omega) (by decide), fun hz => ⟨ib, fun σ4 e4 => tail 0 σ4 e4 ⟨fun h => absurd rfl h, fun h => ?_⟩⟩, fun hne => ⟨ib, fun σ4 e4 => tail 1 σ4 e4 ⟨fun _ => ⟨?_, ?_⟩, fun _ => kne_1_0⟩⟩⟩⟩⟩
      · have h1 : r ≤ 1 := (nI_leI (by omega) (by decide)).mp hle
        omega
      · exfalso
        rw [epl, nI_clamp (by omega), g1 45 (by decide), e45] at hz
        rw [eC] at h
        exact of_decide_eq_true h.2 hz
      · intro e
        exact hgt (by rw [e]; exact nI_le (a := 1) (b := 1) (Nat.le_refl 1) (by omega))
      · rw [epl, nI_clamp (by omega), g1 45 (by decide), e45] at hne
        rw [eC]; exact decide_eq_true hne
    · intro τ ⟨g1, g2⟩
      have hTτ := hT6.of (MF.of (J := [27, 29, 30]) g1 (by decide)) (by decide) (by decide)
      have nτ : τ 32 0 = nI n := hTτ.1.1
      have hNT : NT n (100 + 10 * ((r - 1 : Nat) : Int)) (τ 54) (τ 55) (noteF n A a r) := by
        intro b hb
        constructor
        · rintro ⟨q1, q2⟩
          obtain ⟨z1, z2⟩ := g2 b q1
          have z3 := z1.mp q2
          have z4 := (hN.2 a b (r - 1) z3.2).1
          refine ⟨?_, ?_, ?_⟩
          · unfold noteF; rw [if_pos ⟨z3.1, q1, z3.2⟩, z2 q2]
          · rw [z2 q2]; exact z4.1
          · rw [z2 q2]; exact z4.2
        · intro q
          unfold noteF
          rw [if_neg]
          rintro ⟨q1, q2, q3⟩
          exact q ⟨q2, (g2 b q2).1.mpr ⟨q1, q3⟩⟩
      have t47 : τ 47 a = aV A a := by rw [g1 47 (by decide), e47]; exact (hA.2.2.1 a ha).1
      have t48 : τ 48 a = aQ A a := by rw [g1 48 (by decide), e48]; exact (hA.2.2.1 a ha).2
      have t34 : τ 34 a = mk a := hTτ.2.2.1 a (by omega)
      refine b_Mo_beginRound_56 E (nI a) (nI r) (nI n) τ ⟨fun _ => ⟨_, s_Mo_act2 G τ n a a r p (noteF n A a r) (len a) nτ hn12 (by omega) (by omega) hr1 hr20 hTτ.1.2.2.2.2.2.2.2.2.2 hTτ.2.1.1 hTτ.2.1.2.1 hNT (fun b hb => (hTτ.2.2.2.1 a b (by omega) (by omega)).symm) (fun e => ?_) (fun hp b c hb hc hb2 hc2 => ?_), fun x σ1 ⟨k1, k2, k3, k4⟩ => ⟨vp_in_nI (by omega) (by decide), by rw [zi12']; exact vp_in_nI (by omega) (by decide), fun σ3 e3 => ?_⟩⟩, fun q => absurd (by rw [nτ]; exact nI_le (Nat.le_refl n) (by omega)) q⟩
      · have hv' := hv (by omega)
        refine ⟨fun b hb => ?_, fun hp => ?_, fun hp => ?_⟩
        · rcases Classical.em (τ 54 b = 0) with q | q
          · exact q
          · exact absurd e ((g2 b hb).1.mp q).1
        · rw [t47, hv', t34]; unfold first0; rw [if_pos hp]
        · rw [t47, hv']; unfold first0; rw [if_neg (by omega), if_pos hp]
      · have key : ∀ d, d < 12 → ¬ noteF n A a r d = -2 → noteF n A a r d = nI (r - 1) := fun d hd h => by
          unfold noteF at h ⊢
          by_cases e : ¬ r = 1 ∧ d < n ∧ aC A 0 a d (r - 1) = true
          · rw [if_pos e]; exact (hN.2 a d (r - 1) e.2.2).2 hp
          · rw [if_neg e] at h; exact absurd rfl h
        rw [key b hb hb2, key c hc hc2]
      · have ew : pAct p r a (decide (nI a = τ 32 7)) (τ 34 a) (len a) (noteF n A a r) (τ 47 a) (τ 48 a) = wd := by rw [t47, t48, t34, hTτ.2.1.2.2, ← eact]
        rw [ew] at k2 k3 k4
        rw [k4]
        rw [zi12', nI_clamp (by omega), ca] at e3
        refine notes σ3 ?_ ?_ ?_ ?_
        · rw [e3]; exact ((g1.mono (by decide)).tr (k1.mono (by decide))).up (by decide)
        · rw [e3, zup_ne (by decide), k2, g1 47 (by decide), e47]
        · rw [e3, zup_ne (by decide), k3, g1 48 (by decide), e48]
        · rw [e3, zup_self, k1 49 (by decide), g1 49 (by decide), e49, k2, upd_eq]
  refine b_Mo_beginRound_0 E (nI a) (nI r) σ ⟨fun hle => ⟨ia, fun σ1 e1 => ⟨ia, fun σ2 e2 => ⟨ia, fun σ3 e3 => ⟨ia, fun σ4 e4 => ⟨ia, fun σ5 e5 => ⟨ia, fun σ6 e6 => ?_⟩⟩⟩⟩⟩⟩, fun hgt => ⟨_, s_Mo_toLower2 G σ a r (aL A) 4 hT ha hA.2.1.1 (by omega), fun υ f => ⟨ia, fun σ1 e1 => ⟨ia, fun σ2 e2 => ⟨ia, fun σ3 e3 => ⟨ia, fun σ4 e4 => ⟨ia, fun σ5 e5 => ⟨ia, fun σ6 e6 => ?_⟩⟩⟩⟩⟩⟩⟩⟩
  · refine rest σ ?_ σ1 σ2 σ3 σ4 σ5 σ6 e1 e2 e3 e4 e5 e6
    have : rdP (aS A) a = 0 := by
      have h1 : r ≤ 1 := (nI_leI (by omega) (by decide)).mp hle
      omega
    unfold begG
    rw [if_pos this]; exact SN.rf hA.2.1.1
  · refine rest υ ?_ σ1 σ2 σ3 σ4 σ5 σ6 e1 e2 e3 e4 e5 e6
    have : ¬ rdP (aS A) a = 0 := fun e => hgt (nI_le (a := r) (b := 1) (by omega) (by decide))
    unfold begG
    rw [if_neg this, hr]; exact f
end MREF2
