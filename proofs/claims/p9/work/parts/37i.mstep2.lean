-- The reference goes in step, exactly
theorem s_Mo_first2 (G : zG) (σ : zSt) (at_ a p : Nat) (hat : at_ < 24) (ha : a < 12) (hp : σ 32 5 = nI p) (hp3 : p ≤ 3) : zV G 0 M_Mo_first [zf G 32, .int (nI at_), .int (nI a)] σ (fun τ => zFr [47, 48] σ τ ∧ τ 47 = upd (σ 47) at_ (first0 p (decide (nI a = σ 32 7)) (σ 34 a)) ∧ τ 48 = upd (σ 48) at_ (-2)) := by
  refine zSpec.of (by decide) (Nat.le_of_ble_eq_true rfl) rfl (fun X E => ?_)
  have i1 : vp_in (nI at_) 24 := vp_in_nI hat (by decide)
  have ia : vp_in (nI a) 12 := vp_in_nI ha (by decide)
  have c1 : (nI at_).toNatClampNeg = at_ := nI_clamp (by omega)
  have ca : (nI a).toNatClampNeg = a := nI_clamp (by omega)
  have p1 : σ 32 5 = 1 ↔ p = 1 := by rw [hp]; exact nI_eq (a := p) (b := 1) (by omega) (by omega)
  have p2 : σ 32 5 = 2 ↔ p = 2 := by rw [hp]; exact nI_eq (a := p) (b := 2) (by omega) (by omega)
  have fin : ∀ (v : Int32) (σ1 σ2 : zSt), v = first0 p (decide (nI a = σ 32 7)) (σ 34 a) → σ1 = zup σ 47 (nI at_).toNatClampNeg v → σ2 = zup σ1 48 (nI at_).toNatClampNeg (-2) → (none : Option Value) = none ∧ zFr [47, 48] σ σ2 ∧ σ2 47 = upd (σ 47) at_ (first0 p (decide (nI a = σ 32 7)) (σ 34 a)) ∧ σ2 48 = upd (σ 48) at_ (-2) := by
    intro v σ1 σ2 hv e1 e2
    rw [c1] at e1 e2
    rw [← hv, e2, e1]
    exact ⟨rfl, (zFr.rf.up (by decide)).up (by decide), by rw [zup_ne (by decide), zup_self], by rw [zup_self, zup_ne (by decide)]⟩
  refine b_Mo_first_0 E (nI at_) (nI a) σ ⟨fun h1 => ⟨fun h2 => ⟨fun hs => ⟨i1, fun σ1 e1 => ⟨i1, fun σ2 e2 => fin _ σ1 σ2 ?_ e1 e2⟩⟩, fun hs => ⟨i1, fun σ1 e1 => ⟨i1, fun σ2 e2 => fin _ σ1 σ2 ?_ e1 e2⟩⟩⟩, fun h2 => ⟨i1, fun σ1 e1 => ⟨i1, fun σ2 e2 => fin _ σ1 σ2 ?_ e1 e2⟩⟩⟩, fun h1 => ⟨ia, i1, fun σ1 e1 => ⟨i1, fun σ2 e2 => fin _ σ1 σ2 ?_ e1 e2⟩⟩⟩
  · unfold first0; rw [if_neg (fun q => h1 (p1.mpr q)), if_neg (fun q => h2 (p2.mpr q)), decide_eq_false hs]; rfl
  · unfold first0; rw [if_neg (fun q => h1 (p1.mpr q)), if_neg (fun q => h2 (p2.mpr q)), decide_eq_true hs]; rfl
  · unfold first0; rw [if_neg (fun q => h1 (p1.mpr q)), if_pos (p2.mp h2)]
  · unfold first0; rw [if_pos (p1.mp h1), ca]
theorem enc_ne {w : Int32} (h : ¬ w = -2) : enc w = w := by unfold enc; rw [if_neg h]
theorem enc_iff {k : Nat} {w : Int32} (h : WB k w) : enc w = -1000 ↔ w = -2 := by
  unfold enc
  constructor
  · intro q
    by_cases e : w = -2
    · exact e
    · rw [if_neg e] at q
      rcases h with h | h
      · exact h
      · rw [q] at h
        have : (-1000 : Int32).toInt = -1000 := by decide
        omega
  · intro e; rw [if_pos e]
/-- nodes below i did round k + 1, the others round k; what was written in round k is copied -/
def MSt (σ : zSt) (n : Nat) (S : Nat → Nat → Int32 × Int32 × Int32) (k i : Nat) (τ : zSt) : Prop :=
  (zFr FStep σ τ ∧ ∀ j, j < 12 → τ 47 j = σ 47 j ∧ τ 48 j = σ 48 j)
  ∧ (∀ b, b < n → τ 47 (12 + b) = (S (if b < i then k + 1 else k) b).1 ∧ τ 48 (12 + b) = (S (if b < i then k + 1 else k) b).2.1)
  ∧ (∀ b, b < n → τ 53 b = enc (S (if b < i then k + 1 else k) b).2.2)
  ∧ (∀ q b, b < n → (q ≤ k ∨ (q = k + 1 ∧ b < i)) → τ 50 (12 * q + b) = (S q b).1)
theorem MSt_next {σ τ : zSt} {n k : Nat} {S : Nat → Nat → Int32 × Int32 × Int32} (h : MSt σ n S k n τ) : MSt σ n S (k + 1) 0 τ := by
  obtain ⟨h1, h2, h3, h4⟩ := h
  refine ⟨h1, fun b hb => ?_, fun b hb => ?_, fun q b hb hq => ?_⟩
  · rw [if_neg (Nat.not_lt_zero b)]
    have := h2 b hb
    rw [if_pos hb] at this
    exact this
  · rw [if_neg (Nat.not_lt_zero b)]
    have := h3 b hb
    rw [if_pos hb] at this
    exact this
  · refine h4 q b hb ?_
    rcases hq with hq | hq
    · by_cases e : q = k + 1
      · exact Or.inr ⟨e, hb⟩
      · exact Or.inl (by omega)
    · exact absurd hq.2 (Nat.not_lt_zero b)
set_option maxHeartbeats 1000000 in
theorem s_Mo_step2 (G : zG) (σ : zSt) (n R p : Nat) (mk : Nat → Int32) (len : Nat → Nat → Int32) (lk : Nat → Nat → Bool) (hn : σ 32 0 = nI n) (hle : n ≤ 12) (hR : σ 32 8 = nI R) (hR2 : R ≤ 20) (hp : σ 32 5 = nI p) (hp3 : p ≤ 3) (hM : LM σ) (hmk : ∀ a, a < 12 → σ 34 a = mk a) (hlen : ∀ a b, a < 12 → b < 12 → σ 33 (12 * b + a) = len a b) (hlk : ∀ a b, a < 12 → b < 12 → zLk σ (nI a) (nI b) = lk a b) : zV G 2 M_Mo_step [zf G 32] σ (fun τ => (zFr FStep σ τ ∧ ∀ j, j < 12 → τ 47 j = σ 47 j ∧ τ 48 j = σ 48 j) ∧ ∀ q b, q ≤ R → b < n → τ 50 (12 * q + b) = (sV p (σ 32 7) n mk len lk q b).1) := by
  have S0 := @sV_0 p n (σ 32 7) mk len lk
  have S1 := @sV_s p n (σ 32 7) mk len lk
  have SB1 := @sV_bd p n (σ 32 7) mk len lk (fun a ha => by rw [← hmk a ha]; exact hM.2 a ha) (fun a b ha hb => by rw [← hlen a b ha hb]; exact hM.1 _ (by omega))
  have SW := @sV_wave p n (σ 32 7) mk len lk
  generalize sV p (σ 32 7) n mk len lk = S at S0 S1 SB1 SW
  refine zSpec.of (by decide) (Nat.le_of_ble_eq_true rfl) rfl (fun X E => ?_)
  refine b_Mo_step_0 E σ ?_
  have jup : ∀ (τ : zSt) (c j : Nat) (v : Int32), (zFr FStep σ τ ∧ ∀ j, j < 12 → τ 47 j = σ 47 j ∧ τ 48 j = σ 48 j) → c ∈ FStep → c ≠ 47 → c ≠ 48 → (zFr FStep σ (zup τ c j v) ∧ ∀ j', j' < 12 → zup τ c j v 47 j' = σ 47 j' ∧ zup τ c j v 48 j' = σ 48 j') := fun τ c j v h hc h47 h48 => ⟨h.1.up hc, fun k hk => by rw [zup_ne (Ne.symm h47), zup_ne (Ne.symm h48)]; exact h.2 k hk⟩
  -- the rounds
  have rounds : ∀ (υ : zSt), MSt σ n S 0 0 υ → zZ G M_Mo_step 2 X (fun r τ => r = none ∧ (zFr FStep σ τ ∧ ∀ j, j < 12 → τ 47 j = σ 47 j ∧ τ 48 j = σ 48 j) ∧ ∀ q b, q ≤ R → b < n → τ 50 (12 * q + b) = (S q b).1) 51 [(0, zf G 32), (1, .int (1 : Int32))] [] υ := by
    intro υ hυ
    refine z_for (R + 1) (fun i τ => zZ G M_Mo_step 2 X (fun r τ => r = none ∧ (zFr FStep σ τ ∧ ∀ j, j < 12 → τ 47 j = σ 47 j ∧ τ 48 j = σ 48 j) ∧ ∀ q b, q ≤ R → b < n → τ 50 (12 * q + b) = (S q b).1) 51 [(0, zf G 32), (1, .int (nI i))] [] τ) (fun r τ => ∃ k, r = k + 1 ∧ MSt σ n S k 0 τ) ?_ ?_ 1 υ (by omega) ⟨0, rfl, hυ⟩
    · intro r τ hr ⟨k, hk, hI⟩ ihr
      subst hk
      refine b_Mo_step_51 E (nI (k + 1)) τ ⟨fun q => absurd q (by rw [hI.1.1 32 (by decide), hR]; exact nI_nlt (by omega) (by omega)), fun _ => ?_⟩
      -- behind the copying
      have acts : ∀ τ : zSt, MSt σ n S k 0 τ → (∀ b, b < n → τ 52 b = enc (S k b).2.2) → zZ G M_Mo_step 2 X (fun r τ => r = none ∧ (zFr FStep σ τ ∧ ∀ j, j < 12 → τ 47 j = σ 47 j ∧ τ 48 j = σ 48 j) ∧ ∀ q b, q ≤ R → b < n → τ 50 (12 * q + b) = (S q b).1) 89 [(0, zf G 32), (1, .int (nI (k + 1))), (2, .int (0 : Int32))] [] τ := by
        intro τ hI hw
        refine z_for n (fun i τ => zZ G M_Mo_step 2 X (fun r τ => r = none ∧ (zFr FStep σ τ ∧ ∀ j, j < 12 → τ 47 j = σ 47 j ∧ τ 48 j = σ 48 j) ∧ ∀ q b, q ≤ R → b < n → τ 50 (12 * q + b) = (S q b).1) 89 [(0, zf G 32), (1, .int (nI (k + 1))), (2, .int (nI i))] [] τ) (fun i τ => MSt σ n S k i τ ∧ ∀ b, b < n → τ 52 b = enc (S k b).2.2) ?_ ?_ 0 τ (Nat.zero_le _) ⟨hI, hw⟩
        · intro a τ ha ⟨⟨hJ, h2, h3, h4⟩, hw⟩ iha
          have ha12 : a < 12 := by omega
          refine b_Mo_step_89 E (nI (k + 1)) (nI a) τ ⟨fun q => absurd q (by rw [hJ.1 32 (by decide), hn]; exact nI_ge ha (by omega)), fun _ => ?_⟩
          refine z_for n (fun i τ => zZ G M_Mo_step 2 X (fun r τ => r = none ∧ (zFr FStep σ τ ∧ ∀ j, j < 12 → τ 47 j = σ 47 j ∧ τ 48 j = σ 48 j) ∧ ∀ q b, q ≤ R → b < n → τ 50 (12 * q + b) = (S q b).1) 99 [(0, zf G 32), (1, .int (nI (k + 1))), (2, .int (nI a)), (3, .int (nI i))] [] τ) (fun i τ2 => zFr [54, 55] τ τ2 ∧ ∀ b, b < i → τ2 55 b = τ 52 b ∧ (¬ τ2 54 b = 0 ↔ (lk a b = true ∧ ¬ τ 52 b = -1000))) ?_ ?_ 0 τ (Nat.zero_le _) ⟨zFr.rf, fun b hb => absurd hb (Nat.not_lt_zero b)⟩
          · intro b τ2 hb ⟨hF, ht⟩ ihb
            have ib : vp_in (nI b) 12 := vp_in_nI (by omega) (by decide)
            have cb : (nI b).toNatClampNeg = b := nI_clamp (by omega)
            have elk : zLk τ2 (nI a) (nI b) = lk a b := by
              rw [← hlk a b ha12 (by omega)]
              unfold zLk
              rw [hF 33 (by decide), hJ.1 33 (by decide)]
            have e52 : τ2 52 = τ 52 := hF 52 (by decide)
            have fin : ∀ (v : Int32) (σ1 σ2 : zSt), σ1 = zup τ2 54 (nI b).toNatClampNeg v → σ2 = zup σ1 55 (nI b).toNatClampNeg (σ1 52 (nI b).toNatClampNeg) → (¬ v = 0 ↔ (lk a b = true ∧ ¬ τ 52 b = -1000)) → zZ G M_Mo_step 2 X (fun r τ => r = none ∧ (zFr FStep σ τ ∧ ∀ j, j < 12 → τ 47 j = σ 47 j ∧ τ 48 j = σ 48 j) ∧ ∀ q b, q ≤ R → b < n → τ 50 (12 * q + b) = (S q b).1) 99 [(0, zf G 32), (1, .int (nI (k + 1))), (2, .int (nI a)), (3, .int (nI b + 1))] [] σ2 := by
              intro v σ1 σ2 e1 e2 hv0
              rw [cb] at e1 e2
              rw [nI_1]
              have x52 : σ1 52 = τ 52 := by rw [e1, zup_ne (by decide)]; exact e52
              refine ihb σ2 ⟨by rw [e2, e1]; exact (hF.up (by decide)).up (by decide), fun c hc => ?_⟩
              have y54 : σ2 54 = upd (τ2 54) b v := by rw [e2, zup_ne (by decide), e1, zup_self]
              have y55 : σ2 55 = upd (τ2 55) b (τ 52 b) := by rw [e2, zup_self, x52, e1, zup_ne (by decide)]
              rw [y54, y55]
              by_cases hcb : c = b
              · rw [hcb, upd_eq, upd_eq]; exact ⟨rfl, hv0⟩
              · rw [upd_ne hcb, upd_ne hcb]; exact ht c (by omega)
            refine b_Mo_step_99 E (nI (k + 1)) (nI a) (nI b) τ2 ⟨fun q => absurd q (by rw [hF 32 (by decide), hJ.1 32 (by decide), hn]; exact nI_ge hb (by omega)), fun _ => ⟨by rw [zi12']; exact vp_in_nI (by omega) (by decide), fun hz => ⟨ib, fun σ1 e1 => ⟨ib, ib, fun σ2 e2 => fin 0 σ1 σ2 e1 e2 ⟨fun h => absurd rfl h, fun h => ?_⟩⟩⟩, fun hz => ⟨ib, fun h52 => ⟨ib, fun σ1 e1 => ⟨ib, ib, fun σ2 e2 => fin 0 σ1 σ2 e1 e2 ⟨fun h => absurd rfl h, fun h => ?_⟩⟩⟩, fun h52 => ⟨ib, fun σ1 e1 => ⟨ib, ib, fun σ2 e2 => fin 1 σ1 σ2 e1 e2 ⟨fun _ => ⟨by rw [← elk]; exact hz, ?_⟩, fun _ => by decide⟩⟩⟩⟩⟩⟩
            · rw [elk] at hz; rw [hz] at h; exact absurd h.1 (by decide)
            · rw [cb, e52] at h52; exact absurd h52 h.2
            · rw [cb, e52] at h52; exact h52
          · intro τ2 ⟨hF, ht⟩
            have ia : vp_in (nI a) 12 := vp_in_nI (by omega) (by decide)
            have ca : (nI a).toNatClampNeg = a := nI_clamp (by omega)
            have c50 : (((12 : Int32) * nI (k + 1)) + nI a).toNatClampNeg = 12 * (k + 1) + a := by rw [zi12']; exact nI_clamp (by omega)
            have cp : (nI (12 + a)).toNatClampNeg = 12 + a := nI_clamp (by omega)
            have sub : ∀ c, c ∈ ([54, 55] : List Nat) → c ∈ FStep := by decide
            have F2 : ∀ c, c ∉ FStep → τ2 c = σ c := fun c hc => by
              rw [hF c (fun q => hc (sub c q)), hJ.1 c hc]
            have n2 : τ2 32 0 = nI n := by rw [F2 32 (by decide)]; exact hn
            have q2 := h2 a ha
            rw [if_neg (Nat.lt_irrefl a)] at q2
            have hNT : NT n (100 + 10 * ((k + 1 - 1 : Nat) : Int)) (τ2 54) (τ2 55) (fun b => if b < n ∧ lk a b = true then (S k b).2.2 else -2) := by
              intro b hb
              rw [Nat.add_sub_cancel]
              refine ⟨fun ⟨hbn, h54⟩ => ?_, fun hno => ?_⟩
              · obtain ⟨t1, t2⟩ := ht b hbn
                obtain ⟨t3, t4⟩ := t2.mp h54
                rw [hw b hbn] at t4 t1
                have hb2 := SB1 k b (by omega) hb
                have hne : ¬ (S k b).2.2 = -2 := fun e => t4 ((enc_iff hb2).mpr e)
                rw [enc_ne hne] at t1
                show (if b < n ∧ lk a b = true then (S k b).2.2 else -2) = _ ∧ _
                rw [if_pos ⟨hbn, t3⟩, t1]
                rcases hb2 with h | h
                · exact absurd h hne
                · exact ⟨rfl, h⟩
              · show (if b < n ∧ lk a b = true then (S k b).2.2 else -2) = _
                by_cases h : b < n ∧ lk a b = true
                · rw [if_pos h]
                  obtain ⟨t1, t2⟩ := ht b h.1
                  refine (enc_iff (SB1 k b (by omega) hb)).mp ?_
                  rw [← hw b h.1]
                  exact Decidable.byContradiction (fun q => hno ⟨h.1, t2.mpr ⟨h.2, q⟩⟩)
                · rw [if_neg h]
            refine b_Mo_step_99 E (nI (k + 1)) (nI a) (nI n) τ2 ⟨fun _ => ?_, fun q => absurd (by rw [n2]; exact nI_le (Nat.le_refl n) (by omega)) q⟩
            rw [zi12p, cp, c50, ca]
            refine ⟨_, s_Mo_act2 G τ2 n (12 + a) a (k + 1) p _ (len a) n2 hle (by omega) ha12 (by omega) (by omega) (hM.of (F2 33 (by decide)) (F2 34 (by decide))) (by rw [F2 32 (by decide)]; exact hp) hp3 hNT (fun b hb => by rw [F2 33 (by decide)]; exact (hlen a b ha12 (by omega)).symm) (fun hk => ?_) (fun hp0 b c hb hc hb2 hc2 => ?_), fun x σ1 ⟨g1, g2, g3, g4⟩ => ⟨ia, fun σ3 e3 => ⟨vp_in_nI (by omega) (by decide), by rw [zi12']; exact vp_in_nI (by omega) (by decide), fun σ4 e4 => ?_⟩⟩⟩
            · have hk : k = 0 := by omega
              subst hk
              refine ⟨fun b hb => ?_, fun hp1 => ?_, fun hp2 => ?_⟩
              · obtain ⟨_, t2⟩ := ht b hb
                refine Decidable.byContradiction (fun q => (t2.mp q).2 ?_)
                rw [hw b hb, S0 b]; rfl
              · rw [hF 47 (by decide), q2.1, S0 a, F2 34 (by decide), hmk a ha12]
                show first0 p _ _ = _
                unfold first0; rw [if_pos hp1]
              · rw [hF 47 (by decide), q2.1, S0 a]
                show first0 p _ _ = _
                unfold first0; rw [if_neg (by omega), if_pos hp2]
            · by_cases h : b < n ∧ lk a b = true
              · by_cases h' : c < n ∧ lk a c = true
                · rw [if_pos h] at hb2 ⊢
                  rw [if_pos h'] at hc2 ⊢
                  rcases SW hp0 k b with e | e
                  · exact absurd e hb2
                  · rcases SW hp0 k c with e' | e'
                    · exact absurd e' hc2
                    · rw [e, e']
                · rw [if_neg h'] at hc2; exact absurd rfl hc2
              · rw [if_neg h] at hb2; exact absurd rfl hb2
            · have hW : pAct p (k + 1) a (decide (nI a = τ2 32 7)) (τ2 34 a) (len a) (fun b => if b < n ∧ lk a b = true then (S k b).2.2 else -2) (τ2 47 (12 + a)) (τ2 48 (12 + a)) = S (k + 1) a := by
                rw [S1 k a, F2 32 (by decide), F2 34 (by decide), hmk a ha12, hF 47 (by decide), hF 48 (by decide), q2.1, q2.2]
              rw [hW] at g2 g3 g4
              rw [nI_1]
              have e47 : σ4 47 = upd (τ 47) (12 + a) (S (k + 1) a).1 := by rw [e4, zup_ne (by decide), e3, zup_ne (by decide), g2, hF 47 (by decide)]
              have e48 : σ4 48 = upd (τ 48) (12 + a) (S (k + 1) a).2.1 := by rw [e4, zup_ne (by decide), e3, zup_ne (by decide), g3, hF 48 (by decide)]
              have e53 : σ4 53 = upd (τ 53) a (enc (S (k + 1) a).2.2) := by rw [e4, zup_ne (by decide), e3, zup_self, g1 53 (by decide), hF 53 (by decide), g4]
              have e50 : σ4 50 = upd (τ 50) (12 * (k + 1) + a) (S (k + 1) a).1 := by rw [e4, zup_self, e3, zup_ne (by decide), zup_ne (by decide), g1 50 (by decide), hF 50 (by decide), g2, upd_eq]
              refine iha σ4 ⟨⟨⟨?_, fun j hj => ?_⟩, fun b hb => ?_, fun b hb => ?_, fun q b hb hq => ?_⟩, fun b hb => ?_⟩
              · rw [e4, e3]
                exact (((hJ.1.tr (hF.mono (by decide))).tr (g1.mono (by decide))).up (by decide)).up (by decide)
              · rw [e47, e48, upd_ne (by omega), upd_ne (by omega)]; exact hJ.2 j hj
              · rw [e47, e48]
                by_cases e : b = a
                · rw [e, upd_eq, upd_eq, if_pos (by omega)]; exact ⟨rfl, rfl⟩
                · rw [upd_ne (by omega), upd_ne (by omega)]
                  have q3 := h2 b hb
                  by_cases h : b < a
                  · rw [if_pos h] at q3; rw [if_pos (by omega)]; exact q3
                  · rw [if_neg h] at q3; rw [if_neg (by omega)]; exact q3
              · rw [e53]
                by_cases e : b = a
                · rw [e, upd_eq, if_pos (by omega)]
                · rw [upd_ne e]
                  have q3 := h3 b hb
                  by_cases h : b < a
                  · rw [if_pos h] at q3; rw [if_pos (by omega)]; exact q3
                  · rw [if_neg h] at q3; rw [if_neg (by omega)]; exact q3
              · rw [e50]
                by_cases e : 12 * q + b = 12 * (k + 1) + a
                · have k3 : q = k + 1 := by omega
                  have k4 : b = a := by omega
                  rw [e, upd_eq, k3, k4]
                · rw [upd_ne e]
                  refine h4 q b hb ?_
                  rcases hq with hq | hq
                  · exact Or.inl hq
                  · refine Or.inr ⟨hq.1, ?_⟩
                    by_cases e2 : b = a
                    · exact absurd (by rw [hq.1, e2]) e
                    · omega
              · rw [e4, zup_ne (by decide), e3, zup_ne (by decide), g1 52 (by decide), hF 52 (by decide)]
                exact hw b hb
        · intro τ ⟨hI, _⟩
          refine b_Mo_step_89 E (nI (k + 1)) (nI n) τ ⟨fun _ => ?_, fun q => absurd (by rw [hI.1.1 32 (by decide), hn]; exact nI_le (Nat.le_refl n) (by omega)) q⟩
          rw [nI_1]
          exact ihr τ ⟨k + 1, rfl, MSt_next hI⟩
      refine z_for n (fun i τ => zZ G M_Mo_step 2 X (fun r τ => r = none ∧ (zFr FStep σ τ ∧ ∀ j, j < 12 → τ 47 j = σ 47 j ∧ τ 48 j = σ 48 j) ∧ ∀ q b, q ≤ R → b < n → τ 50 (12 * q + b) = (S q b).1) 61 [(0, zf G 32), (1, .int (nI (k + 1))), (2, .int (nI i))] [] τ) (fun i τ2 => zFr [52] τ τ2 ∧ ∀ a, a < i → τ2 52 a = τ 53 a) ?_ ?_ 0 τ (Nat.zero_le _) ⟨zFr.rf, fun a ha => absurd ha (Nat.not_lt_zero a)⟩
      · intro i τ2 hi ⟨hF, h52⟩ ih
        have ii : vp_in (nI i) 12 := vp_in_nI (by omega) (by decide)
        have ci : (nI i).toNatClampNeg = i := nI_clamp (by omega)
        refine b_Mo_step_61 E (nI (k + 1)) (nI i) τ2 ⟨fun q => absurd q (by rw [hF 32 (by decide), hI.1.1 32 (by decide), hn]; exact nI_ge hi (by omega)), fun _ => ⟨ii, ii, fun σ1 e1 => ?_⟩⟩
        rw [nI_1]
        rw [ci] at e1
        refine ih σ1 ⟨by rw [e1]; exact hF.up (by decide), fun a ha => ?_⟩
        rw [e1, zup_self]
        by_cases hai : a = i
        · rw [hai, upd_eq, hF 53 (by decide)]
        · rw [upd_ne hai]; exact h52 a (by omega)
      · intro τ2 ⟨hF, h52⟩
        refine b_Mo_step_61 E (nI (k + 1)) (nI n) τ2 ⟨fun _ => acts τ2 ⟨⟨hI.1.1.tr (hF.mono (by decide)), fun j hj => by rw [hF 47 (by decide), hF 48 (by decide)]; exact hI.1.2 j hj⟩, fun b hb => by rw [hF 47 (by decide), hF 48 (by decide)]; exact hI.2.1 b hb, fun b hb => by rw [hF 53 (by decide)]; exact hI.2.2.1 b hb, fun q b hb hq => by rw [hF 50 (by decide)]; exact hI.2.2.2 q b hb hq⟩ (fun b hb => ?_), fun q => absurd (by rw [hF 32 (by decide), hI.1.1 32 (by decide), hn]; exact nI_le (Nat.le_refl n) (by omega)) q⟩
        have q3 := hI.2.2.1 b hb
        rw [if_neg (Nat.not_lt_zero b)] at q3
        rw [h52 b hb, q3]
    · intro τ ⟨k, hk, hI⟩
      have hk : R = k := by omega
      exact b_Mo_step_51 E (nI (R + 1)) τ ⟨fun _ => ⟨rfl, hI.1, fun q b hq hb => hI.2.2.2 q b hb (Or.inl (by omega))⟩, fun q => absurd (by rw [hI.1.1 32 (by decide), hR]; exact nI_lt (by omega) (by omega)) q⟩
  refine z_for n (fun i τ => zZ G M_Mo_step 2 X (fun r τ => r = none ∧ (zFr FStep σ τ ∧ ∀ j, j < 12 → τ 47 j = σ 47 j ∧ τ 48 j = σ 48 j) ∧ ∀ q b, q ≤ R → b < n → τ 50 (12 * q + b) = (S q b).1) 2 [(0, zf G 32), (1, .int (nI i))] [] τ) (fun i τ => (zFr FStep σ τ ∧ ∀ j, j < 12 → τ 47 j = σ 47 j ∧ τ 48 j = σ 48 j) ∧ ∀ b, b < i → τ 47 (12 + b) = (S 0 b).1 ∧ τ 48 (12 + b) = -2 ∧ τ 53 b = -1000 ∧ τ 50 b = (S 0 b).1) ?_ ?_ 0 σ (Nat.zero_le _) ⟨⟨zFr.rf, fun _ _ => ⟨rfl, rfl⟩⟩, fun b hb => absurd hb (Nat.not_lt_zero b)⟩
  · intro i τ hi ⟨hJ, hI⟩ ih
    have ii : vp_in (nI i) 12 := vp_in_nI (by omega) (by decide)
    have ci : (nI i).toNatClampNeg = i := nI_clamp (by omega)
    have cp : (nI (12 + i)).toNatClampNeg = 12 + i := nI_clamp (by omega)
    refine b_Mo_step_2 E (nI i) τ ⟨fun q => absurd q (by rw [hJ.1 32 (by decide), hn]; exact nI_ge hi (by omega)), fun _ => ?_⟩
    rw [zi12p, cp, ci]
    refine ⟨_, s_Mo_first2 G τ (12 + i) i p (by omega) (by omega) (by rw [hJ.1 32 (by decide)]; exact hp) hp3, fun σ1 ⟨g1, g2, g3⟩ => ⟨vp_in_nI (by omega) (by decide), vp_in_nI (by omega) (by decide), fun σ2 e2 => ⟨ii, fun σ3 e3 => ?_⟩⟩⟩
    rw [nI_1]
    have hv : first0 p (decide (nI i = τ 32 7)) (τ 34 i) = (S 0 i).1 := by rw [S0 i, hJ.1 32 (by decide), hJ.1 34 (by decide), hmk i (by omega)]
    rw [hv] at g2
    have e47 : σ3 47 = upd (τ 47) (12 + i) (S 0 i).1 := by rw [e3, zup_ne (by decide), e2, zup_ne (by decide), g2]
    have e48 : σ3 48 = upd (τ 48) (12 + i) (-2) := by rw [e3, zup_ne (by decide), e2, zup_ne (by decide), g3]
    have e53 : σ3 53 = upd (τ 53) i (-1000) := by rw [e3, zup_self, e2, zup_ne (by decide), g1 53 (by decide)]
    have e50 : σ3 50 = upd (τ 50) i (S 0 i).1 := by rw [e3, zup_ne (by decide), e2, zup_self, g1 50 (by decide), g2, upd_eq]
    refine ih σ3 ⟨⟨?_, fun j hj => ?_⟩, fun b hb => ?_⟩
    · rw [e3, e2]; exact ((hJ.1.tr (g1.mono (by decide))).up (by decide)).up (by decide)
    · rw [e47, e48, upd_ne (by omega), upd_ne (by omega)]; exact hJ.2 j hj
    · rw [e47, e48, e53, e50]
      by_cases e : b = i
      · rw [e, upd_eq, upd_eq, upd_eq, upd_eq]; exact ⟨rfl, rfl, rfl, rfl⟩
      · rw [upd_ne (by omega), upd_ne (by omega), upd_ne e, upd_ne e]; exact hI b (by omega)
  · intro τ ⟨hJ, hI⟩
    refine b_Mo_step_2 E (nI n) τ ⟨fun _ => rounds τ ⟨hJ, fun b hb => ?_, fun b hb => ?_, fun q b hb hq => ?_⟩, fun q => absurd (by rw [hJ.1 32 (by decide), hn]; exact nI_le (Nat.le_refl n) (by omega)) q⟩
    · rw [if_neg (Nat.not_lt_zero b), (hI b hb).1, (hI b hb).2.1, S0 b]; exact ⟨rfl, rfl⟩
    · rw [if_neg (Nat.not_lt_zero b), (hI b hb).2.2.1, S0 b]; rfl
    · rcases hq with hq | hq
      · have e : q = 0 := by omega
        rw [e, Nat.mul_zero, Nat.zero_add]; exact (hI b hb).2.2.2
      · exact absurd hq.2 (Nat.not_lt_zero b)
