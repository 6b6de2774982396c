section
-- The reference goes in step, exactly
theorem s_Mo_first2 (G : zG) (σ : zSt) (at_ a p : Nat) (hat : at_ < 24) (ha : a < 12) (hp : σ 32 5 = nI p) (hp3 : p ≤ 3) : zV G 0 M_Mo_first [zf G 32, .int (nI at_), .int (nI a)] σ (fun τ => zFr [47, 48] σ τ ∧ τ 47 = upd (σ 47) at_ (first0 p (decide (nI a = σ 32 7)) (σ 34 a)) ∧ τ 48 = upd (σ 48) at_ (-2)) := by
  refine zSpec.of (by decide) (Nat.le_of_ble_eq_true rfl) rfl (fun X E => ?_)
  have i1 : vp_in (nI at_) 24 := vp_in_nI hat (by decide)
  have ia : vp_in (nI a) 12 := vp_in_nI ha (by decide)
  have c1 : (nI at_).toNatClampNeg = at_ := nI_clamp (by omega)
  have ca : (nI a).toNatClampNeg = a := nI_clamp (by omega)
  have p1 : σ 32 5 = 1 ↔ p = 1 := by rw [hp]; exact nI_eq (a := p) (b := 1) (by omega) (by omega)
  have p2 : σ 32 5 = 2 ↔ p = 2 := by rw [hp]; exact nI_eq (a := p) (b := 2) (by omega) (by omega)
  have fin : ∀ (v : Int32) (σ1 σ2 : zSt), v = first0 p (decide (nI a = σ 32 7)) (σ 34 a) → σ1 = zup σ 47 (nI at_).toNatClampNeg v → σ2 = zup σ1 48 (nI at_).toNatClampNeg (-2) → (none : Option Value) = none ∧ zFr [47, 48] σ σ2 ∧ σ2 47 = upd (σ 47) at_ (first0 p (decide (nI a = σ 32 7)) (σ 34 a)) ∧ σ2 48 = upd (σ 48) at_ (-2) := by
    intro v σ1 σ2 hv e1 e2
    rw [c1] at e1 e2
    rw [← hv, e2, e1]
    exact ⟨rfl, (zFr.rf.up (by decide)).up (by decide), by rw [zup_ne (by decide), zup_self], by rw [zup_self, zup_ne (by decide)]⟩
  refine b_Mo_first_0 E (nI at_) (nI a) σ ⟨fun h1 => ⟨fun h2 => ⟨fun hs => ⟨i1, fun σ1 e1 => ⟨i1, fun σ2 e2 => fin _ σ1 σ2 ?_ e1 e2⟩⟩, fun hs => ⟨i1, fun σ1 e1 => ⟨i1, fun σ2 e2 => fin _ σ1 σ2 ?_ e1 e2⟩⟩⟩, fun h2 => ⟨i1, fun σ1 e1 => ⟨i1, fun σ2 e2 => fin _ σ1 σ2 ?_ e1 e2⟩⟩⟩, fun h1 => ⟨ia, i1, fun σ1 e1 => ⟨i1, fun σ2 e2 => fin _ σ1 σ2 ?_ e1 e2⟩⟩⟩
  · unfold first0; rw [if_neg (fun q => h1 (p1.mpr q)), if_neg (fun q => h2 (p2.mpr q)), decide_eq_false hs]; rfl
  · unfold first0; rw [if_neg (fun q => h1 (p1.mpr q)), if_neg (fun q => h2 (p2.mpr q)), decide_eq_true hs]; rfl
  · unfold first0; rw [if_neg (fun q => h1 (p1.mpr q)), if_pos (p2.mp h2)]
  · unfold first0; rw [if_pos (p1.mp h1), ca]
theorem enc_ne {w : Int32} (h : ¬ w = -2) : enc w = w := by unfold enc; rw [if_neg h]
theorem enc_iff {k : Nat} {w : Int32} (h : WB k w) : enc w = -1000 ↔ w = -2 := by
  unfold enc
  constructor
  · intro q
    by_cases e : w = -2
    · exact e
    · rw [if_neg e] at q
      rcases h with h | h
      · exact h
      · rw [q] at h
        have : (-1000 : Int32).toInt = -1000 := by decide
        omega
  · intro e; rw [if_pos e]
/-- nodes below i did round k + 1, the others round k; what was written in round k is copied -/
def MSt (σ : zSt) (n : Nat) (S : Nat → Nat → Int32 × Int32 × Int32) (k i : Nat) (τ : zSt) : Prop :=
  (zFr FStep σ τ ∧ ∀ j, j < 12 → τ 47 j = σ 47 j ∧ τ 48 j = σ 48 j)
  ∧ (∀ b, b < n → τ 47 (12 + b) = (S (if b < i then k + 1 else k) b).1 ∧ τ 48 (12 + b) = (S (if b < i then k + 1 else k) b).2.1)
  ∧ (∀ b, b < n → τ 53 b = enc (S (if b < i then k + 1 else k) b).2.2)
  ∧ (∀ q b, b < n → (q ≤ k ∨ (q = k + 1 ∧ b < i)) → τ 50 (12 * q + b) = (S q b).1)
theorem MSt_next {σ τ : zSt} {n k : Nat} {S : Nat → Nat → Int32 × Int32 × Int32} (h : MSt σ n S k n τ) : MSt σ n S (k + 1) 0 τ := by
  obtain ⟨h1, h2, h3, h4⟩ := h
  refine ⟨h1, fun b hb => ?_, fun b hb => ?_, fun q b hb hq => ?_⟩
  · rw [if_neg (Nat.not_lt_zero b)]
    have := h2 b hb
    rw [if_pos hb] at this
    exact this
  · rw [if_neg (Nat.not_lt_zero b)]
    have := h3 b hb
    rw [if_pos hb] at this
    exact this
  · refine h4 q b hb ?_
    rcases hq with hq | hq
    · by_cases e : q = k + 1
      · exact Or.inr ⟨e, hb⟩
      · exact Or.inl (by omega)
    · exact absurd hq.2 (Nat.not_lt_zero b)
set_option maxHeartbeats 1000000 in
theorem s_Mo_step2 (G : zG) (σ : zSt) (n R p : Nat) (mk : Nat → Int32) (len : Nat → Nat → Int32) (lk : Nat → Nat → Bool) (hn : σ 32 0 = nI n) (hle : n ≤ 12) (hR : σ 32 8 = nI R) (hR2 : R ≤ 20) (hp : σ 32 5 = nI p) (hp3 : p ≤ 3) (hM : LM σ) (hmk : ∀ a, a < 12 → σ 34 a = mk a) (hlen : ∀ a b, a < 12 → b < 12 → σ 33 (12 * b + a) = len a b) (hlk : ∀ a b, a < 12 → b < 12 → zLk σ (nI a) (nI b) = lk a b) : zV G 2 M_Mo_step [zf G 32] σ (fun τ => (zFr FStep σ τ ∧ ∀ j, j < 12 → τ 47 j = σ 47 j ∧ τ 48 j = σ 48 j) ∧ ∀ q b, q ≤ R → b < n → τ 50 (12 * q + b) = (sV p (σ 32 7) n mk len lk q b).1) := by
  have S0 := @sV_0 p n (σ 32 7) mk len lk
  have S1 := @sV_s p n (σ 32 7) mk len lk
  have SB1 := @sV_bd p n (σ 32 7) mk len lk (fun a ha => by rw [← hmk a ha]; exact hM.2 a ha) (fun a b ha hb => by rw [← hlen a b ha hb]; exact hM.1 _ (by omega))
  have SW := @sV_wave p n (σ 32 7) mk len lk
  generalize sV p (σ 32 7) n mk len lk = S at S0 S1 SB1 SW
  refine zSpec.of (by decide) (Nat.le_of_ble_eq_true rfl) rfl (fun X E => ?_)
  refine b_Mo_step_0 E σ ?_
  have jup : ∀ (τ : zSt) (c j : Nat) (v : Int32), (zFr FStep σ τ ∧ ∀ j, j < 12 → τ 47 j = σ 47 j ∧ τ 48 j = σ 48 j) → c ∈ FStep → c ≠ 47 → c ≠ 48 → (zFr FStep σ (zup τ c j v) ∧ ∀ j', j' < 12 → zup τ c j v 47 j' = σ 47 j' ∧ zup τ c j v 48 j' = σ 48 j') := fun τ c j v h hc h47 h48 => ⟨h.1.up hc, fun k hk => by rw [zup_ne (Ne.symm h47), zup_ne (Ne.symm h48)]; exact h.2 k hk⟩
  -- the rounds
  have rounds : ∀ (υ : zSt), MSt σ n S 0 0 υ → zZ G M_Mo_step 2 X (fun r τ => r = none ∧ (zFr FStep σ τ ∧ ∀ j, j < 12 → τ 47 j = σ 47 j ∧ τ 48 j = σ 48 j) ∧ ∀ q b, q ≤ R → b < n → τ 50 (12 * q + b) = (S q b).1) 51 [(0, zf G 32), (1, .int (1 : Int32))] [] υ := by
    intro υ hυ
    refine z_for (R + 1) (fun i τ => zZ G M_Mo_step 2 X (fun r τ => r = none ∧ (zFr FStep σ τ ∧ ∀ j, j < 12 → τ 47 j = σ 47 j ∧ τ 48 j = σ 48 j) ∧ ∀ q b, q ≤ R → b < n → τ 50 (12 * q + b) = (S q b).1) 51 [(0, zf G 32), (1, .int (nI i))] [] τ) (fun r τ => ∃ k, r = k + 1 ∧ MSt σ n S k 0 τ) ?_ ?_ 1 υ (by omega) ⟨0, rfl, hυ⟩
    · intro r τ hr ⟨k, hk, hI⟩ ihr
      subst hk
      refine b_Mo_step_51 E (nI (k + 1)) τ ⟨fun q => absurd q (by rw [hI.1.1 32 (by decide), hR]; exact nI_nlt (by omega) (by omega)), fun _ => ?_⟩
      -- behind the copying
      have acts : ∀ τ : zSt, MSt σ n S k 0 τ → (∀ b, b < n → τ 52 b = enc (S k b).2.2) → zZ G M_Mo_step 2 X (fun r τ => r = none ∧ (zFr FStep σ τ ∧ ∀ j, j < 12 → τ 47 j = σ 47 j ∧ τ 48 j = σ 48 j) ∧ ∀ q b, q ≤ R → b < n → τ 50 (12 * q + b) = (S q b).1) 89 [(0, zf G 32), (1, .int (nI (k + 1))), (2, .int (0 : Int32))] [] τ := by
        intro τ hI hw
        refine z_for n (fun i τ => zZ G M_Mo_step 2 X (fun r τ => r = none ∧ (zFr FStep σ τ ∧ ∀ j, j < 12 → τ 47 j = σ 47 j ∧ τ 48 j = σ 48 j) ∧ ∀ q b, q ≤ R → b < n → τ 50 (12 * q + b) = (S q b).1) 89 [(0, zf G 32), (1, .int (nI (k + 1))), (2, .int (nI i))] [] τ) (fun i τ => MSt σ n S k i τ ∧ ∀ b, b < n → τ 52 b = enc (S k b).2.2) ?_ ?_ 0 τ (Nat.zero_le _) ⟨hI, hw⟩
        · intro a τ ha ⟨⟨hJ, h2, h3, h4⟩, hw⟩ iha
          have ha12 : a < 12 := by omega
          refine b_Mo_step_89 E (nI (k + 1)) (nI a) τ ⟨fun q => absurd q (by rw [hJ.1 32 (by decide), hn]; exact nI_ge ha (by omega)), fun _ => ?_⟩
          refine z_for n (fun i τ => zZ G M_Mo_step 2 X (fun r τ => r = none ∧ (zFr FStep σ τ ∧ ∀ j, j < 12 → τ 47 j = σ 47 j ∧ τ 48 j = σ 48 j) ∧ ∀ q b, q ≤ R → b < n → τ 50 (12 * q + b) = (S q b).1) 99 [(0, zf G 32), (1, .int (nI (k + 1))), (2, .int (nI a)), (3, .int (nI i))] [] τ) (fun i τ2 => zFr [54, 55] τ τ2 ∧ ∀ b, b < i → τ2 55 b = τ 52 b ∧ (¬ τ2 54 b = 0 ↔ (lk a b = true ∧ ¬ τ 52 b = -1000))) ?_ ?_ 0 τ (Nat.zero_le _) ⟨zFr.rf, fun b hb => absurd hb (Nat.not_lt_zero b)⟩
          · intro b τ2 hb ⟨hF, ht⟩ ihb
            have ib : vp_in (nI b) 12 := vp_in_nI (by omega) (by decide)
            have cb : (nI b).toNatClampNeg = b := nI_clamp (by omega)
            have elk : zLk τ2 (nI a) (nI b) = lk a b := by
              rw [← hlk a b ha12 (by omega)]
              unfold zLk
              rw [hF 33 (by decide), hJ.1 33 (by decide)]
            have e52 : τ2 52 = τ 52 := hF 52 (by decide)
            have fin : ∀ (v : Int32) (σ1 σ2 : zSt), σ1 = zup τ2 54 (nI b).toNatClampNeg v → σ2 = zup σ1 55 (nI b).toNatClampNeg (σ1 52 (nI b).toNatClampNeg) → (¬ v = 0 ↔ (lk a b = true ∧ ¬ τ 52 b = -1000)) → zZ G M_Mo_step 2 X (fun r τ => r = none ∧ (zFr FStep σ τ ∧ ∀ j, j < 12 → τ 47 j = σ 47 j ∧ τ 48 j = σ 48 j) ∧ ∀ q b, q ≤ R → b < n → τ 50 (12 * q + b) = (S q b).1) 99 [(0, zf G 32), (1, .int (nI (k + 1))), (2, .int (nI a)), (3, .int (nI b + 1))] [] σ2 := by
              intro v σ1 σ2 e1 e2 hv0
              rw [cb] at e1 e2
              rw [nI_1]
              have x52 : σ1 52 = τ 52 := by rw [e1, zup_ne (by decide)]; exact e52
              refine ihb σ2 ⟨by rw [e2, e1]; exact (hF.up (by decide)).up (by decide), fun c hc => ?_⟩
              have y54 : σ2 54 = upd (τ2 54) b v := by rw [e2, zup_ne (by decide), e1, zup_self]
              have y55 : σ2 55 = upd (τ2 55) b (τ 52 b) := by rw [e2, zup_self, x52, e1, zup_ne (by decide)]
              rw [y54, y55]
              by_cases hcb : c = b
              · rw [hcb, upd_eq, upd_eq]; exact ⟨rfl, hv0⟩
              · rw [upd_ne hcb, upd_ne hcb]; exact ht c (by omega)
            refine b_Mo_step_99 E (nI (k + 1)) (nI a) (nI b) τ2 ⟨fun q => absurd q (by rw [hF 32 (by decide), hJ.1 32 (by decide), hn]; exact nI_ge hb (by omega)), fun _ => ⟨by rw [zi12']; exact vp_in_nI (by omega) (by decide), fun hz => ⟨ib, fun σ1 e1 => ⟨ib, ib, fun σ2 e2 => fin 0 σ1 σ2 e1 e2 ⟨fun h => absurd rfl h, fun h => ?_⟩⟩⟩, fun hz => ⟨ib, fun h52 => ⟨ib, fun σ1 e1 => ⟨ib, ib, fun σ2 e2 => fin 0 σ1 σ2 e1 e2 ⟨fun h => absurd rfl h, fun h => ?_⟩⟩⟩, fun h52 => ⟨ib, fun σ1 e1 => ⟨ib, ib, fun σ2 e2 => fin 1 σ1 σ2 e1 e2 ⟨fun _ => ⟨by rw [← elk]; exact hz, ?_⟩, fun _ => by decide⟩⟩⟩⟩⟩⟩
            · rw [elk] at hz; rw [hz] at h; exact absurd h.1 (by decide)
            · rw [cb, e52] at h52; exact absurd h52 h.2
            · rw [cb, e52] at h52; exact h52
          · intro τ2 ⟨hF, ht⟩
            have ia : vp_in (nI a) 12 := vp_in_nI (by omega) (by decide)
            have ca : (nI a).toNatClampNeg = a := nI_clamp (by omega)
            have c50 : (((12 : Int32) * nI (k + 1)) + nI a).toNatClampNeg = 12 * (k + 1) + a := by rw [zi12']; exact nI_clamp (by omega)
            have cp : (nI (12 + a)).toNatClampNeg = 12 + a := nI_clamp (by omega)
            have sub : ∀ c, c ∈ ([54, 55] : List Nat) → c ∈ FStep := by decide
            have F2 : ∀ c, c ∉ FStep → τ2 c = σ c := fun c hc => by
              rw [hF c (fun q => hc (sub c q)), hJ.1 c hc]
            have n2 : τ2 32 0 = nI n := by rw [F2 32 (by decide)]; exact hn
            have q2 := h2 a ha
            rw [if_neg (Nat.lt_irrefl a)] at q2
            have hNT : NT n (100 + 10 * ((k + 1 - 1 : Nat) : Int)) (τ2 54) (τ2 55) (fun b => if b < n ∧ lk a b = true then (S k b).2.2 else -2) := by
              intro b hb
              rw [Nat.add_sub_cancel]
              refine ⟨fun ⟨hbn, h54⟩ => ?_, fun hno => ?_⟩
              · obtain ⟨t1, t2⟩ := ht b hbn
                obtain ⟨t3, t4⟩ := t2.mp h54
                rw [hw b hbn] at t4 t1
                have hb2 := SB1 k b (by omega) hb
                have hne : ¬ (S k b).2.2 = -2 := fun e => t4 ((enc_iff hb2).mpr e)
                rw [enc_ne hne] at t1
                show (if b < n ∧ lk a b = true then (S k b).2.2 else -2) = _ ∧ _
                rw [if_pos ⟨hbn, t3⟩, t1]
                rcases hb2 with h | h
                · exact absurd h hne
                · exact ⟨rfl, h⟩
              · show (if b < n ∧ lk a b = true then (S k b).2.2 else -2) = _
                by_cases h : b < n ∧ lk a b = true
                · rw [if_pos h]
                  obtain ⟨t1, t2⟩ := ht b h.1
                  refine (enc_iff (SB1 k b (by omega) hb)).mp ?_
                  rw [← hw b h.1]
                  exact Decidable.byContradiction (fun q => hno ⟨h.1, t2.mpr ⟨h.2, q⟩⟩)
                · rw [if_neg h]
            refine b_Mo_step_99 E (nI (k + 1)) (nI a) (nI n) τ2 ⟨fun _ => ?_, fun q => absurd (by rw [n2]; exact nI_le (Nat.le_refl n) (by omega)) q⟩
            rw [zi12p, cp, c50, ca]
            refine ⟨_, s_Mo_act2 G τ2 n (12 + a) a (k + 1) p _ (len a) n2 hle (by omega) ha12 (by omega) (by omega) (hM.of (F2 33 (by decide)) (F2 34 (by decide))) (by rw [F2 32 (by decide)]; exact hp) hp3 hNT (fun b hb => by rw [F2 33 (by decide)]; exact (hlen a b ha12 (by omega)).symm) (fun hk => ?_) (fun hp0 b c hb hc hb2 hc2 => ?_), fun x σ1 ⟨g1, g2, g3, g4⟩ => ⟨ia, fun σ3 e3 => ⟨vp_in_nI (by omega) (by decide), by rw [zi12']; exact vp_in_nI (by omega) (by decide), fun σ4 e4 => ?_⟩⟩⟩
            · have hk : k = 0 := by omega
              subst hk
              refine ⟨fun b hb => ?_, fun hp1 => ?_, fun hp2 => ?_⟩
              · obtain ⟨_, t2⟩ := ht b hb
                refine Decidable.byContradiction (fun q => (t2.mp q).2 ?_)
                rw [hw b hb, S0 b]; rfl
              · rw [hF 47 (by decide), q2.1, S0 a, F2 34 (by decide), hmk a ha12]
                show first0 p _ _ = _
                unfold first0; rw [if_pos hp1]
              · rw [hF 47 (by decide), q2.1, S0 a]
                show first0 p _ _ = _
                unfold first0; rw [if_neg (by omega), if_pos hp2]
            · by_cases h : b < n ∧ lk a b = true
              · by_cases h' : c < n ∧ lk a c = true
                · rw [if_pos h] at hb2 ⊢
                  rw [if_pos h'] at hc2 ⊢
                  rcases SW hp0 k b with e | e
                  · exact absurd e hb2
                  · rcases SW hp0 k c with e' | e'
                    · exact absurd e' hc2
                    · rw [e, e']
                · rw [if_neg h'] at hc2; exact absurd rfl hc2
              · rw [if_neg h] at hb2; exact absurd rfl hb2
            · have hW : pAct p (k + 1) a (decide (nI a = τ2 32 7)) (τ2 34 a) (len a) (fun b => if b < n ∧ lk a b = true then (S k b).2.2 else -2) (τ2 47 (12 + a)) (τ2 48 (12 + a)) = S (k + 1) a := by
                rw [S1 k a, F2 32 (by decide), F2 34 (by decide), hmk a ha12, hF 47 (by decide), hF 48 (by decide), q2.1, q2.2]
              rw [hW] at g2 g3 g4
              rw [nI_1]
              have e47 : σ4 47 = upd (τ 47) (12 + a) (S (k + 1) a).1 := by rw [e4, zup_ne (by decide), e3, zup_ne (by decide), g2, hF 47 (by decide)]
              have e48 : σ4 48 = upd (τ 48) (12 + a) (S (k + 1) a).2.1 := by rw [e4, zup_ne (by decide), e3, zup_ne (by decide), g3, hF 48 (by decide)]
              have e53 : σ4 53 = upd (τ 53) a (enc (S (k + 1) a).2.2) := by rw [e4, zup_ne (by decide), e3, zup_self, g1 53 (by decide), hF 53 (by decide), g4]
              have e50 : σ4 50 = upd (τ 50) (12 * (k + 1) + a) (S (k + 1) a).1 := by rw [e4, zup_self, e3, zup_ne (by decide), zup_ne (by decide), g1 50 (by decide), hF 50 (by decide), g2, upd_eq]
              refine iha σ4 ⟨⟨⟨?_, fun j hj => ?_⟩, fun b hb => ?_, fun b hb => ?_, fun q b hb hq => ?_⟩, fun b hb => ?_⟩
              · rw [e4, e3]
                exact (((hJ.1.tr (hF.mono (by decide))).tr (g1.mono (by decide))).up (by decide)).up (by decide)
              · rw [e47, e48, upd_ne (by omega), upd_ne (by omega)]; exact hJ.2 j hj
              · rw [e47, e48]
                by_cases e : b = a
                · rw [e, upd_eq, upd_eq, if_pos (by omega)]; exact ⟨rfl, rfl⟩
                · rw [upd_ne (by omega), upd_ne (by omega)]
                  have q3 := h2 b hb
                  by_cases h : b < a
                  · rw [if_pos h] at q3; rw [if_pos (by omega)]; exact q3
                  · rw [if_neg h] at q3; rw [if_neg (by omega)]; exact q3
              · rw [e53]
                by_cases e : b = a
                · rw [e, upd_eq, if_pos (by omega)]
                · rw [upd_ne e]
                  have q3 := h3 b hb
                  by_cases h : b < a
                  · rw [if_pos h] at q3; rw [if_pos (by omega)]; exact q3
                  · rw [if_neg h] at q3; rw [if_neg (by omega)]; exact q3
              · rw [e50]
                by_cases e : 12 * q + b = 12 * (k + 1) + a
                · have k3 : q = k + 1 := by omega
                  have k4 : b = a := by omega
                  rw [e, upd_eq, k3, k4]
                · rw [upd_ne e]
                  refine h4 q b hb ?_
                  rcases hq with hq | hq
                  · exact Or.inl hq
                  · refine Or.inr ⟨hq.1, ?_⟩
                    by_cases e2 : b = a
                    · exact absurd (by rw [hq.1, e2]) e
                    · omega
              · rw [e4, zup_ne (by decide), e3, zup_ne (by decide), g1 52 (by decide), hF 52 (by decide)]
                exact hw b hb
        · intro τ ⟨hI, _⟩
          refine b_Mo_step_89 E (nI (k + 1)) (nI n) τ ⟨fun _ => ?_, fun q => absurd (by rw [hI.1.1 32 (by decide), hn]; exact nI_le (Nat.le_refl n) (by omega)) q⟩
          rw [nI_1]
          exact ihr τ ⟨k + 1, rfl, MSt_next hI⟩
      refine z_for n (fun i τ => zZ G M_Mo_step 2 X (fun r τ => r = none ∧ (zFr FStep σ τ ∧ ∀ j, j < 12 → τ 47 j = σ 47 j ∧ τ 48 j = σ 48 j) ∧ ∀ q b, q ≤ R → b < n → τ 50 (12 * q + b) = (S q b).1) 61 [(0, zf G 32), (1, .int (nI (k + 1))), (2, .int (nI i))] [] τ) (fun i τ2 => zFr [52] τ τ2 ∧ ∀ a, a < i → τ2 52 a = τ 53 a) ?_ ?_ 0 τ (Nat.zero_le _) ⟨zFr.rf, fun a ha => absurd ha (Nat.not_lt_zero a)⟩
      · intro i τ2 hi ⟨hF, h52⟩ ih
        have ii : vp_in (nI i) 12 := vp_in_nI (by omega) (by decide)
        have ci : (nI i).toNatClampNeg = i := nI_clamp (by omega)
        refine b_Mo_step_61 E (nI (k + 1)) (nI i) τ2 ⟨fun q => absurd q (by rw [hF 32 (by decide), hI.1.1 32 (by decide), hn]; exact nI_ge hi (by omega)), fun _ => ⟨ii, ii, fun σ1 e1 => ?_⟩⟩
        rw [nI_1]
        rw [ci] at e1
        refine ih σ1 ⟨by rw [e1]; exact hF.up (by decide), fun a ha => ?_⟩
        rw [e1, zup_self]
        by_cases hai : a = i
        · rw [hai, upd_eq, hF 53 (by decide)]
        · rw [upd_ne hai]; exact h52 a (by omega)
      · intro τ2 ⟨hF, h52⟩
        refine b_Mo_step_61 E (nI (k + 1)) (nI n) τ2 ⟨fun _ => acts τ2 ⟨⟨hI.1.1.tr (hF.mono (by decide)), fun j hj => by rw [hF 47 (by decide), hF 48 (by decide)]; exact hI.1.2 j hj⟩, fun b hb => by rw [hF 47 (by decide), hF 48 (by decide)]; exact hI.2.1 b hb, fun b hb => by rw [hF 53 (by decide)]; exact hI.2.2.1 b hb, fun q b hb hq => by rw [hF 50 (by decide)]; exact hI.2.2.2 q b hb hq⟩ (fun b hb => ?_), fun q => absurd (by rw [hF 32 (by decide), hI.1.1 32 (by decide), hn]; exact nI_le (Nat.le_refl n) (by omega)) q⟩
        have q3 := hI.2.2.1 b hb
        rw [if_neg (Nat.not_lt_zero b)] at q3
        rw [h52 b hb, q3]
    · intro τ ⟨k, hk, hI⟩
      have hk : R = k := by omega
      exact b_Mo_step_51 E (nI (R + 1)) τ ⟨fun _ => ⟨rfl, hI.1, fun q b hq hb => hI.2.2.2 q b hb (Or.inl (by omega))⟩, fun q => absurd (by rw [hI.1.1 32 (by decide), hR]; exact nI_lt (by omega) (by omega)) q⟩
  refine z_for n (fun i τ => zZ G M_Mo_step 2 X (fun r τ => r = none ∧ (zFr FStep σ τ ∧ ∀ j, j < 12 → τ 47 j = σ 47 j ∧ τ 48 j = σ 48 j) ∧ ∀ q b, q ≤ R → b < n → τ 50 (12 * q + b) = (S q b).1) 2 [(0, zf G 32), (1, .int (nI i))] [] τ) (fun i τ => (zFr FStep σ τ ∧ ∀ j, j < 12 → τ 47 j = σ 47 j ∧ τ 48 j = σ 48 j) ∧ ∀ b, b < i → τ 47 (12 + b) = (S 0 b).1 ∧ τ 48 (12 + b) = -2 ∧ τ 53 b = -1000 ∧ τ 50 b = (S 0 b).1) ?_ ?_ 0 σ (Nat.zero_le _) ⟨⟨zFr.rf, fun _ _ => ⟨rfl, rfl⟩⟩, fun b hb => absurd hb (Nat.not_lt_zero b)⟩
  · intro i τ hi ⟨hJ, hI⟩ ih
    have ii : vp_in (nI i) 12 := vp_in_nI (by omega) (by decide)
    have ci : (nI i).toNatClampNeg = i := nI_clamp (by omega)
    have cp : (nI (12 + i)).toNatClampNeg = 12 + i := nI_clamp (by omega)
    refine b_Mo_step_2 E (nI i) τ ⟨fun q => absurd q (by rw [hJ.1 32 (by decide), hn]; exact nI_ge hi (by omega)), fun _ => ?_⟩
    rw [zi12p, cp, ci]
    refine ⟨_, s_Mo_first2 G τ (12 + i) i p (by omega) (by omega) (by rw [hJ.1 32 (by decide)]; exact hp) hp3, fun σ1 ⟨g1, g2, g3⟩ => ⟨vp_in_nI (by omega) (by decide), vp_in_nI (by omega) (by decide), fun σ2 e2 => ⟨ii, fun σ3 e3 => ?_⟩⟩⟩
    rw [nI_1]
    have hv : first0 p (decide (nI i = τ 32 7)) (τ 34 i) = (S 0 i).1 := by rw [S0 i, hJ.1 32 (by decide), hJ.1 34 (by decide), hmk i (by omega)]
    rw [hv] at g2
    have e47 : σ3 47 = upd (τ 47) (12 + i) (S 0 i).1 := by rw [e3, zup_ne (by decide), e2, zup_ne (by decide), g2]
    have e48 : σ3 48 = upd (τ 48) (12 + i) (-2) := by rw [e3, zup_ne (by decide), e2, zup_ne (by decide), g3]
    have e53 : σ3 53 = upd (τ 53) i (-1000) := by rw [e3, zup_self, e2, zup_ne (by decide), g1 53 (by decide)]
    have e50 : σ3 50 = upd (τ 50) i (S 0 i).1 := by rw [e3, zup_ne (by decide), e2, zup_self, g1 50 (by decide), g2, upd_eq]
    refine ih σ3 ⟨⟨?_, fun j hj => ?_⟩, fun b hb => ?_⟩
    · rw [e3, e2]; exact ((hJ.1.tr (g1.mono (by decide))).up (by decide)).up (by decide)
    · rw [e47, e48, upd_ne (by omega), upd_ne (by omega)]; exact hJ.2 j hj
    · rw [e47, e48, e53, e50]
      by_cases e : b = i
      · rw [e, upd_eq, upd_eq, upd_eq, upd_eq]; exact ⟨rfl, rfl, rfl, rfl⟩
      · rw [upd_ne (by omega), upd_ne (by omega), upd_ne e, upd_ne e]; exact hI b (by omega)
  · intro τ ⟨hJ, hI⟩
    refine b_Mo_step_2 E (nI n) τ ⟨fun _ => rounds τ ⟨hJ, fun b hb => ?_, fun b hb => ?_, fun q b hb hq => ?_⟩, fun q => absurd (by rw [hJ.1 32 (by decide), hn]; exact nI_le (Nat.le_refl n) (by omega)) q⟩
    · rw [if_neg (Nat.not_lt_zero b), (hI b hb).1, (hI b hb).2.1, S0 b]; exact ⟨rfl, rfl⟩
    · rw [if_neg (Nat.not_lt_zero b), (hI b hb).2.2.1, S0 b]; rfl
    · rcases hq with hq | hq
      · have e : q = 0 := by omega
        rw [e, Nat.mul_zero, Nat.zero_add]; exact (hI b hb).2.2.2
      · exact absurd hq.2 (Nat.not_lt_zero b)
end
section
-- Is the net connected: both sides say the same
theorem zIn_t {s : Int32} {c : Nat} (h : ((s >>> (nI c &&& 31)) &&& (1 : Int32)) = 1) : zIn s (nI c) = true := by
  unfold zIn
  rw [h]; decide
theorem zIn_nt {s : Int32} {c : Nat} (h : ¬ ((s >>> (nI c &&& 31)) &&& (1 : Int32)) = 1) : zIn s (nI c) = false := by
  obtain ⟨j, hj, e⟩ := pk_andE (s >>> (nI c &&& 31)) (m := 1) 1 (by decide)
  have hj : j = 0 ∨ j = 1 := by omega
  rcases hj with rfl | rfl
  · exact zIn_f e
  · exact absurd e h
theorem zIn_nf {s : Int32} {c : Nat} (h : ¬ ((s >>> (nI c &&& 31)) &&& (1 : Int32)) = 0) : zIn s (nI c) = true := by simp [zIn, h]
theorem zAll_in : ∀ n, n < 13 → ∀ c, c < 32 → bt (zAll (nI n)) c = decide (c < n) := by decide +kernel
theorem eq_all {s : Int32} {n : Nat} (hn : n ≤ 12) (h1 : ∀ c, c < n → zIn s (nI c) = true) (h2 : ∀ c, n ≤ c → c < 32 → zIn s (nI c) = false) : s = zAll (nI n) := by
  apply b_ext
  intro c hc
  rw [zAll_in n (by omega) c hc, ← zIn_bt s hc]
  by_cases h : c < n
  · rw [h1 c h, decide_eq_true h]
  · rw [h2 c (by omega) hc, decide_eq_false h]
theorem all_in {n c : Nat} (hn : n ≤ 12) (hc : c < n) : zIn (zAll (nI n)) (nI c) = true := by
  rw [zIn_bt _ (by omega), zAll_in n (by omega) c (by omega), decide_eq_true hc]
/-- the set goes along all links -/
def Cl (n : Nat) (lk : Nat → Nat → Bool) (T : Int32) : Prop := ∀ a b, a < n → b < n → zIn T (nI a) = true → lk a b = true → zIn T (nI b) = true
/-- what spread answers -/
def SPR (n : Nat) (lk : Nat → Nat → Bool) (x : Int32) : Prop := zIn x (nI 0) = true ∧ Cl n lk x ∧ (∀ T, zIn T (nI 0) = true → Cl n lk T → ∀ b, b < n → zIn x (nI b) = true → zIn T (nI b) = true) ∧ ∀ c, n ≤ c → c < 32 → zIn x (nI c) = false
theorem zAr_in {σ : zSt} {set : Int32} {c : Nat} (hc : c < 32) : ∀ n, n ≤ 32 → (zIn (zAr σ set n) (nI c) = true ↔ ∃ a, a < n ∧ zIn set (nI a) = true ∧ zIn (σ 7 a) (nI c) = true) := by
  intro n
  induction n with
  | zero =>
    intro _
    unfold zAr
    rw [zIn_0 hc]
    exact ⟨fun h => absurd h (by decide), fun ⟨a, ha, _⟩ => absurd ha (Nat.not_lt_zero a)⟩
  | succ k ih =>
    intro hk
    have ih := ih (by omega)
    unfold zAr
    by_cases h : zIn set (nI k) = true
    · rw [if_pos h, zIn_or _ _ hc, Bool.or_eq_true]
      constructor
      · rintro (q | q)
        · obtain ⟨a, ha, q⟩ := ih.mp q
          exact ⟨a, by omega, q⟩
        · exact ⟨k, by omega, h, q⟩
      · rintro ⟨a, ha, q1, q2⟩
        by_cases e : a = k
        · rw [e] at q2; exact Or.inr q2
        · exact Or.inl (ih.mpr ⟨a, by omega, q1, q2⟩)
    · rw [if_neg h]
      constructor
      · intro q
        obtain ⟨a, ha, q⟩ := ih.mp q
        exact ⟨a, by omega, q⟩
      · rintro ⟨a, ha, q1, q2⟩
        by_cases e : a = k
        · rw [e] at q1; exact absurd q1 h
        · exact ih.mpr ⟨a, by omega, q1, q2⟩
section CONN
variable {σ : zSt} {n : Nat} {lk : Nat → Nat → Bool}
theorem zRe_in {k c : Nat} (hc : c < 32) (hn : n ≤ 12) : zIn (zRe σ n (k + 1)) (nI c) = true ↔ (zIn (zRe σ n k) (nI c) = true ∨ ∃ a, a < n ∧ zIn (zRe σ n k) (nI a) = true ∧ zIn (σ 7 a) (nI c) = true) := by
  show zIn (zRe σ n k ||| zAr σ (zRe σ n k) n) (nI c) = true ↔ _
  rw [zIn_or _ _ hc, Bool.or_eq_true, zAr_in hc n (by omega)]
theorem zRe_0 (k : Nat) (hn : n ≤ 12) : zIn (zRe σ n k) (nI 0) = true := by
  induction k with
  | zero => show zIn 1 (nI 0) = true; decide +kernel
  | succ k ih => exact (zRe_in (by decide) hn).mpr (Or.inl ih)
theorem zRe_sub {T : Int32} (hn : n ≤ 12) (hlk : ∀ a b, a < n → b < n → zIn (σ 7 a) (nI b) = lk a b) (h0 : zIn T (nI 0) = true) (hC : Cl n lk T) : ∀ k b, b < n → zIn (zRe σ n k) (nI b) = true → zIn T (nI b) = true := by
  intro k
  induction k with
  | zero =>
    intro b hb h
    have e : b = 0 := by
      have h : zIn 1 (nI b) = true := h
      rw [zIn_bt _ (by omega), b_one] at h
      exact of_decide_eq_true h
    rw [e]; exact h0
  | succ k ih =>
    intro b hb h
    rcases (zRe_in (by omega) hn).mp h with h | ⟨a, ha, h1, h2⟩
    · exact ih b hb h
    · exact hC a b ha hb (ih a ha h1) (by rw [← hlk a b ha hb]; exact h2)
theorem zRe_hi (hn : n ≤ 12) (h1 : 1 ≤ n) (hhi : ∀ a c, a < n → n ≤ c → c < 32 → zIn (σ 7 a) (nI c) = false) : ∀ k c, n ≤ c → c < 32 → zIn (zRe σ n k) (nI c) = false := by
  intro k
  induction k with
  | zero =>
    intro c hc hc2
    show zIn 1 (nI c) = false
    rw [zIn_bt _ hc2, b_one]
    exact decide_eq_false (by omega)
  | succ k ih =>
    intro c hc hc2
    cases hz : zIn (zRe σ n (k + 1)) (nI c) with
    | false => rfl
    | true =>
      exfalso
      rcases (zRe_in hc2 hn).mp hz with h | ⟨a, ha, _, h⟩
      · rw [ih c hc hc2] at h; exact absurd h (by decide)
      · rw [hhi a c ha hc hc2] at h; exact absurd h (by decide)
theorem zRe_fix (hn : n ≤ 12) (hlk : ∀ a b, a < n → b < n → zIn (σ 7 a) (nI b) = lk a b) {k : Nat} (hC : Cl n lk (zRe σ n k)) : Cl n lk (zRe σ n (k + 1)) := by
  have back : ∀ b, b < n → zIn (zRe σ n (k + 1)) (nI b) = true → zIn (zRe σ n k) (nI b) = true := by
    intro b hb h
    rcases (zRe_in (by omega) hn).mp h with h | ⟨a, ha, h1, h2⟩
    · exact h
    · exact hC a b ha hb h1 (by rw [← hlk a b ha hb]; exact h2)
  intro a b ha hb h1 h2
  exact (zRe_in (by omega) hn).mpr (Or.inl (hC a b ha hb (back a ha h1) h2))
theorem cz_0 {s : Int32} : ∀ {n : Nat}, cz s n = 0 → ∀ c, c < n → zIn s (nI c) = true := by
  intro n
  induction n with
  | zero => intro _ c hc; exact absurd hc (Nat.not_lt_zero c)
  | succ k ih =>
    intro h c hc
    unfold cz at h
    by_cases e : c = k
    · rw [e]
      by_cases hz : zIn s (nI k) = true
      · exact hz
      · rw [if_neg hz] at h; omega
    · exact ih (by omega) c (by omega)
theorem cz_1 : ∀ n, n < 13 → 1 ≤ n → cz 1 n ≤ n - 1 := by
  intro n hn h1
  have key : ∀ k, 1 ≤ k → cz 1 k + 1 ≤ k := by
    intro k
    induction k with
    | zero => intro h; omega
    | succ k ih =>
      intro _
      unfold cz
      by_cases h : k = 0
      · subst h
        rw [if_pos (by decide +kernel)]
        show 0 + 0 + 1 ≤ 0 + 1
        omega
      · have := ih (by omega)
        split <;> omega
  have := key n h1
  omega
theorem zRe_cl (hn : n ≤ 12) (h1 : 1 ≤ n) (hlk : ∀ a b, a < n → b < n → zIn (σ 7 a) (nI b) = lk a b) : Cl n lk (zRe σ n (n - 1)) := by
  have key : ∀ k, Cl n lk (zRe σ n k) ∨ cz (zRe σ n k) n + k ≤ n - 1 := by
    intro k
    induction k with
    | zero => exact Or.inr (cz_1 n (by omega) h1)
    | succ k ih =>
      rcases ih with ih | ih
      · exact Or.inl (zRe_fix hn hlk ih)
      · by_cases hC : Cl n lk (zRe σ n k)
        · exact Or.inl (zRe_fix hn hlk hC)
        · refine Or.inr ?_
          have : ∃ a b, a < n ∧ b < n ∧ zIn (zRe σ n k) (nI a) = true ∧ lk a b = true ∧ zIn (zRe σ n k) (nI b) = false := by
            apply Classical.byContradiction
            intro q
            refine hC (fun a b ha hb h2 h3 => ?_)
            cases hz : zIn (zRe σ n k) (nI b) with
            | true => rfl
            | false => exact absurd ⟨a, b, ha, hb, h2, h3, hz⟩ q
          obtain ⟨a, b, ha, hb, h2, h3, h4⟩ := this
          have hlt : cz (zRe σ n (k + 1)) n < cz (zRe σ n k) n := cz_lt (b := b) (by omega) hb (fun c hc h => (zRe_in (by omega) hn).mpr (Or.inl h)) h4 ((zRe_in (by omega) hn).mpr (Or.inr ⟨a, ha, h2, by rw [hlk a b ha hb]; exact h3⟩))
          omega
  rcases key (n - 1) with h | h
  · exact h
  · have hz := cz_0 (s := zRe σ n (n - 1)) (n := n) (by omega)
    exact fun a b ha hb _ _ => hz b hb
theorem conn_iff (hn : n ≤ 12) (h1 : 1 ≤ n) (hlk : ∀ a b, a < n → b < n → zIn (σ 7 a) (nI b) = lk a b) (hhi : ∀ a c, a < n → n ≤ c → c < 32 → zIn (σ 7 a) (nI c) = false) {x : Int32} (hx : SPR n lk x) : zRe σ n (n - 1) = zAll (nI n) ↔ x = zAll (nI n) := by
  obtain ⟨x1, x2, x3, x4⟩ := hx
  constructor
  · intro e
    refine eq_all hn (fun c hc => ?_) x4
    refine zRe_sub hn hlk x1 x2 (n - 1) c hc ?_
    rw [e]; exact all_in hn hc
  · intro e
    refine eq_all hn (fun c hc => ?_) (zRe_hi hn h1 hhi (n - 1))
    refine x3 _ (zRe_0 (n - 1) hn) (zRe_cl hn h1 hlk) c hc ?_
    rw [e]; exact all_in hn hc
end CONN
end
section
-- spread, exactly
def SBa (n : Nat) (lk : Nat → Nat → Bool) (s : Int32) : Prop := zIn s (nI 0) = true ∧ (∀ T, zIn T (nI 0) = true → Cl n lk T → ∀ b, b < n → zIn s (nI b) = true → zIn T (nI b) = true) ∧ ∀ c, n ≤ c → c < 32 → zIn s (nI c) = false
theorem SBa_add {n : Nat} {lk : Nat → Nat → Bool} {s : Int32} {a b : Nat} (hn : n ≤ 12) (h : SBa n lk s) (ha : a < n) (hb : b < n) (h1 : zIn s (nI a) = true) (h2 : lk a b = true) : SBa n lk (s ||| ((1 : Int32) <<< (nI b &&& 31))) := by
  obtain ⟨b1, b2, b3⟩ := h
  refine ⟨?_, fun T hT hC c hc hz => ?_, fun c hc hc2 => ?_⟩
  · rw [zIn_or _ _ (by decide), b1, Bool.true_or]
  · rw [zIn_or _ _ (by omega), zIn_bit (by omega) (by omega), Bool.or_eq_true] at hz
    rcases hz with hz | hz
    · exact b2 T hT hC c hc hz
    · rw [of_decide_eq_true hz]
      exact hC a b ha hb (b2 T hT hC a ha h1) h2
  · rw [zIn_or _ _ hc2, zIn_bit (by omega) hc2, b3 c hc hc2, Bool.false_or]
    exact decide_eq_false (by omega)
theorem SBa_1 {n : Nat} {lk : Nat → Nat → Bool} (h1 : 1 ≤ n) (hn : n ≤ 12) : SBa n lk 1 := by
  refine ⟨by decide +kernel, fun T hT _ c hc hz => ?_, fun c hc hc2 => ?_⟩
  · rw [zIn_bt _ (by omega), b_one] at hz
    rw [of_decide_eq_true hz]; exact hT
  · rw [zIn_bt _ hc2, b_one]; exact decide_eq_false (by omega)
theorem s_Mo_spread2 (G : zG) (σ : zSt) (n : Nat) (w : Int32) (lk : Nat → Nat → Bool) (hn : σ 32 0 = nI n) (h1n : 1 ≤ n) (hle : n ≤ 12) (hw : ∀ b, b < n → zIn w (nI b) = true) (hlk : ∀ a b, a < n → b < n → zLk σ (nI a) (nI b) = lk a b) : zI G 1 M_Mo_spread [zf G 32, .int (1 : Int32), .int w] σ (fun x τ => τ = σ ∧ SPR n lk x) := by
  refine zSpec.of (by decide) (Nat.le_of_ble_eq_true rfl) rfl (fun X E => ?_)
  have main : ∀ (m : Nat) (s more : Int32), cz s n = m → SBa n lk s → (more = 0 → Cl n lk s) → zZ G M_Mo_spread 1 X (fun r τ => ∃ x : Int32, r = some (.int x) ∧ τ = σ ∧ SPR n lk x) 5 [(0, zf G 32), (2, .int w), (3, .int s), (4, .int more)] [] σ := by
    intro m
    induction m using Nat.strongRecOn with
    | ind m IH =>
      intro s more hm hB hC
      refine b_Mo_spread_5 E w s more σ ⟨fun h => ⟨_, rfl, rfl, hB.1, hC h, hB.2.1, hB.2.2⟩, fun _ => ?_⟩
      have out : ∀ s' more', SBa n lk s' → ((¬ more' = 0 ∧ cz s' n < cz s n) ∨ (more' = 0 ∧ Cl n lk s')) → zZ G M_Mo_spread 1 X (fun r τ => ∃ x : Int32, r = some (.int x) ∧ τ = σ ∧ SPR n lk x) 5 [(0, zf G 32), (2, .int w), (3, .int s'), (4, .int more')] [] σ := by
        intro s' more' hB' h
        rcases h with ⟨h, h2⟩ | ⟨h, h2⟩
        · exact IH _ (by omega) s' more' rfl hB' (fun q => absurd q h)
        · exact b_Mo_spread_5 E w s' more' σ ⟨fun _ => ⟨_, rfl, rfl, hB'.1, h2, hB'.2.1, hB'.2.2⟩, fun q => absurd h q⟩
      refine z_for n (fun i (q : Int32 × Int32) => zZ G M_Mo_spread 1 X (fun r τ => ∃ x : Int32, r = some (.int x) ∧ τ = σ ∧ SPR n lk x) 16 [(0, zf G 32), (2, .int w), (3, .int q.1), (4, .int q.2), (5, .int (nI i))] [] σ) (fun i q => SBa n lk q.1 ∧ ((¬ q.2 = 0 ∧ cz q.1 n < cz s n) ∨ (q.2 = 0 ∧ q.1 = s ∧ ∀ a b, a < i → b < n → zIn s (nI a) = true → lk a b = true → zIn s (nI b) = true))) ?_ ?_ 0 (s, 0) (Nat.zero_le _) ⟨hB, Or.inr ⟨rfl, rfl, fun a b ha => absurd ha (Nat.not_lt_zero a)⟩⟩
      · intro a ⟨s1, m1⟩ ha ⟨h1, h2⟩ iha
        dsimp only at h1 h2 iha ⊢
        refine b_Mo_spread_16 E w s1 m1 (nI a) σ ⟨fun q => absurd q (by rw [hn]; exact nI_ge ha (by omega)), fun _ => ?_⟩
        refine z_for n (fun i (q : Int32 × Int32) => zZ G M_Mo_spread 1 X (fun r τ => ∃ x : Int32, r = some (.int x) ∧ τ = σ ∧ SPR n lk x) 28 [(0, zf G 32), (2, .int w), (3, .int q.1), (4, .int q.2), (5, .int (nI a)), (6, .int (nI i))] [] σ) (fun i q => SBa n lk q.1 ∧ ((¬ q.2 = 0 ∧ cz q.1 n < cz s n) ∨ (q.2 = 0 ∧ q.1 = s ∧ True ∧ (∀ c b, c < a → b < n → zIn s (nI c) = true → lk c b = true → zIn s (nI b) = true) ∧ ∀ b, b < i → zIn s (nI a) = true → lk a b = true → zIn s (nI b) = true))) ?_ ?_ 0 (s1, m1) (Nat.zero_le _) ⟨h1, h2.imp id (fun h => ⟨h.1, h.2.1, trivial, h.2.2, fun b hb => absurd hb (Nat.not_lt_zero b)⟩)⟩
        · intro b ⟨s2, m2⟩ hb ⟨h1, h2⟩ ih
          dsimp only at h1 h2 ih ⊢
          have nx : (zIn s2 (nI a) = true → lk a b = true → zIn s2 (nI b) = true) → zZ G M_Mo_spread 1 X (fun r τ => ∃ x : Int32, r = some (.int x) ∧ τ = σ ∧ SPR n lk x) 28 [(0, zf G 32), (2, .int w), (3, .int s2), (4, .int m2), (5, .int (nI a)), (6, .int (nI b + 1))] [] σ := by
            intro hc
            rw [nI_1]
            refine ih (s2, m2) ⟨h1, ?_⟩
            rcases h2 with h | ⟨e1, e2, e3, h4, h5⟩
            · exact Or.inl h
            · refine Or.inr ⟨e1, e2, e3, h4, fun c hcb => ?_⟩
              by_cases e : c = b
              · rw [e, ← e2]; exact hc
              · exact h5 c (by omega)
          refine b_Mo_spread_28 E w s2 m2 (nI a) (nI b) σ ?_
          rw [hlk a b ha hb]
          refine ⟨fun q => absurd q (by rw [hn]; exact nI_ge hb (by omega)), fun _ => ⟨fun hz => nx (fun q => ?_), fun hz => ⟨by rw [zi12']; exact vp_in_nI (by omega) (by decide), fun hl => nx (fun _ q => ?_), fun hl => ⟨fun hz2 => ?_, fun hz2 => ⟨fun hz3 => nx (fun _ _ => zIn_nf hz3), fun hz3 => ?_⟩⟩⟩⟩⟩
          · rw [zIn_nt hz] at q; exact absurd q (by decide)
          · rw [hl] at q; exact absurd q (by decide)
          · have q := hw b hb
            rw [zIn_nt hz2] at q; exact absurd q (by decide)
          · rw [nI_1]
            have hlt : cz (s2 ||| ((1 : Int32) <<< (nI b &&& 31))) n < cz s2 n := by
              refine cz_lt (b := b) (by omega) hb (fun c hc h => ?_) (zIn_f hz3) ?_
              · rw [zIn_or _ _ (by omega), h, Bool.true_or]
              · rw [zIn_or _ _ (by omega), zIn_bit (by omega) (by omega)]; simp
            refine ih (_, 1) ⟨SBa_add hle h1 ha hb (zIn_t hz) hl, Or.inl ⟨show ¬ (1 : Int32) = 0 by decide, ?_⟩⟩
            rcases h2 with h | ⟨_, e2, _⟩
            · exact Nat.lt_trans hlt h.2
            · rw [← e2]; exact hlt
        · intro ⟨s2, m2⟩ ⟨h1, h2⟩
          dsimp only at h1 h2 ⊢
          refine b_Mo_spread_28 E w s2 m2 (nI a) (nI n) σ ⟨fun _ => ?_, fun q => absurd (by rw [hn]; exact nI_le (Nat.le_refl n) (by omega)) q⟩
          rw [nI_1]
          refine iha (s2, m2) ⟨h1, ?_⟩
          rcases h2 with h | ⟨e1, e2, _, h4, h5⟩
          · exact Or.inl h
          · refine Or.inr ⟨e1, e2, fun c b hc hb => ?_⟩
            by_cases e : c = a
            · rw [e]; exact h5 b hb
            · exact h4 c b (by omega) hb
      · intro ⟨s1, m1⟩ ⟨h1, h2⟩
        dsimp only at h1 h2 ⊢
        refine b_Mo_spread_16 E w s1 m1 (nI n) σ ⟨fun _ => out s1 m1 h1 ?_, fun q => absurd (by rw [hn]; exact nI_le (Nat.le_refl n) (by omega)) q⟩
        rcases h2 with h | ⟨e1, e2, h4⟩
        · exact Or.inl h
        · exact Or.inr ⟨e1, by rw [e2]; exact fun a b ha hb => h4 a b ha hb⟩
  exact b_Mo_spread_0 E 1 w σ (main _ 1 1 rfl (SBa_1 h1n hle) (fun q => absurd q (by decide)))
end
section
-- start, come, flow, inStep of the class: what p10 needs (written by mk10.py)
/-- why start answers BAD, but for the links -/
def SB0 (no : Bool) (p w k r : Int32) : Prop := p < 0 ∨ 3 < p ∨ w < 0 ∨ 2 < w ∨ no = true ∨ r < 1 ∨ ¬ r ≤ 20 ∨ (w = 2 ∧ (k < 2 ∨ 8 < k))
theorem s_Course_open2 (G : zG) (σ : zSt) (n R pp : Nat) (w s : Int32) (mk : Nat → Int32) (len : Nat → Nat → Int32) (lk : Nat → Nat → Bool) (hp3 : pp ≤ 3) (hmk : ∀ a, a < 12 → σ 6 a = mk a) (hlen : ∀ a b, a < 12 → b < 12 → σ 8 (a * 12 + b) = len a b) (hlk : ∀ a b, a < 12 → b < 12 → zIn (σ 7 b) (nI a) = lk a b) (hn : σ 2 0 = nI n) (h1 : 1 ≤ n) (hle : n ≤ 12) (hR1 : 1 ≤ R) (hR2 : R ≤ 20) (hT : TreeOK σ) (hw : w = 0 → ∀ u, u < 12 → σ 13 u = 0) : zV G 6 M_Course_open [zf G 1, .int (nI pp), .int w, .int s, .int (nI R)] σ (fun τ => (zFr FO σ τ ∧ CS τ n R ∧ ∃ rd, RN τ R rd) ∧ ∀ q b, q ≤ R → b < n → τ 31 (q * 12 + b) = (sV pp s n mk len lk q b).1) := by
  refine zSpec.of (by decide) (Nat.le_of_ble_eq_true rfl) rfl (fun X E => ?_)
  refine b_Course_open_0 E (nI pp) w s (nI R) σ (fun σ1 e1 σ2 e2 => ?_)
  have h12 : zFr FO σ σ2 := by rw [e2, e1]; exact (zFr.rf.up (by decide)).up (by decide)
  have hw2 : σ2 1 4 = w := by rw [e2, e1, zup_self, zup_self]; simp [upd]
  have hr2 : σ2 1 5 = nI R := by rw [e2, zup_self]; simp [upd]
  refine ⟨_, s_Play_reset2 G σ2 pp s hp3, fun σ3 ⟨g3, gp, gs, gv, gq, gn⟩ => ⟨_, s_Course_goInStep2 G σ3 n R pp mk len lk (by rw [g3 2 (by decide), h12 2 (by decide)]; exact hn) hle (by rw [g3 1 (by decide)]; exact hr2) hR2 gp hp3 (fun a ha => by rw [g3 6 (by decide), h12 6 (by decide)]; exact hmk a ha) (fun a b ha hb => by rw [g3 8 (by decide), h12 8 (by decide)]; exact hlen a b ha hb) (fun a b ha hb => by rw [g3 7 (by decide), h12 7 (by decide)]; exact hlk a b ha hb) (fun b hb => by rw [gs, gv b hb, h12 6 (by decide), hmk b hb]) gq gn, fun σ4 ⟨g4, g31⟩ => ⟨_, s_Play_reset G σ4 (nI pp) s, fun σ5 g5 => ⟨_, s_Course_clear G σ5, fun σ6 ⟨g6, p6, r6⟩ => ?_⟩⟩⟩⟩
  have h25 : zFr [4, 16, 17, 18, 31] σ2 σ5 := ((g3.mono (by decide)).tr (g4.mono (by decide))).tr (g5.mono (by decide))
  have e31 : ∀ q b, q ≤ R → b < n → σ6 31 (q * 12 + b) = (sV pp s n mk len lk q b).1 := fun q b hq hb => by
    rw [g6.1 31 (by decide), g5 31 (by decide), g31 q b hq hb, gs]
  have h6 : zFr FO σ σ6 := (h12.tr (h25.mono (by decide))).tr (g6.zFr (by decide))
  have w6 : σ6 1 4 = w := by rw [g6.2.1, h25 1 (by decide)]; exact hw2
  have r6' : σ6 1 5 = nI R := by rw [g6.2.2, h25 1 (by decide)]; exact hr2
  have S6 : CS σ6 n R := by
    have e13 : σ6 13 = σ 13 := h6 13 (by decide)
    refine ⟨by rw [h6 2 (by decide)]; exact hn, h1, hle, r6', hR1, hR2, fun c u hc hu hz => ?_, fun h u hu => ?_⟩
    · rw [e13] at hz
      rw [h6 10 (by decide), h6 9 (by decide)]
      exact hT c u hc hu hz
    · rw [e13]; exact hw (w6.symm.trans h) u hu
  have N6 : RN σ6 R (fun _ => 0) := by
    refine ⟨[], ⟨fun a ha => ⟨r6 a ha, Nat.zero_le _⟩, p6, fun x hx => absurd hx List.not_mem_nil⟩, fun c hc => ⟨fun u hu hz => ?_, fun _ => rfl⟩⟩
    show 0 + (0 - 1) ≤ 0 - 1
    omega
  -- the second loop
  have two : ∀ υ rd, RF FR σ6 υ → RN υ R rd → (∀ a, rd a = 0) → zZ G M_Course_open 6 X (fun r τ => r = none ∧ (zFr FO σ τ ∧ CS τ n R ∧ ∃ rd, RN τ R rd) ∧ ∀ q b, q ≤ R → b < n → τ 31 (q * 12 + b) = (sV pp s n mk len lk q b).1) 90 [(0, zf G 1), (5, .int (0 : Int32))] [] υ := by
    intro υ rd hF hN h0
    refine z_for n (fun i τ => zZ G M_Course_open 6 X (fun r τ => r = none ∧ (zFr FO σ τ ∧ CS τ n R ∧ ∃ rd, RN τ R rd) ∧ ∀ q b, q ≤ R → b < n → τ 31 (q * 12 + b) = (sV pp s n mk len lk q b).1) 90 [(0, zf G 1), (5, .int (nI i))] [] τ) (fun i τ => RF FR σ6 τ ∧ ∃ rd, RN τ R rd ∧ ∀ a, i ≤ a → rd a = 0) ?_ ?_ 0 υ (Nat.zero_le _) ⟨hF, rd, hN, fun a _ => h0 a⟩
    · intro i τ hi ⟨hF, rd, ⟨l, hD, hG⟩, h0⟩ ih
      have hS := S6.of hF
      refine b_Course_open_90 E (nI i) τ ⟨fun q => absurd q (by rw [hS.1]; exact nI_ge hi (by omega)), fun _ => ⟨_, s_Course_enterNext G τ n R i rd l hS hD (by omega) (by rw [h0 i (Nat.le_refl i)]; omega), fun σ1 ⟨k1, l', k2, k3⟩ => ?_⟩⟩
      have hN1 : RN σ1 R (rup rd i (rd i + 1)) := by
        refine ⟨l', k2, ?_⟩
        rw [k1.at (by decide)]
        refine GI.enter hS.2.2.2.2.2.2.1 hG (by omega) (fun u hu hz => ?_) k3
        have := (hG i (by omega)).1 u hu hz
        have := h0 i (Nat.le_refl i)
        omega
      refine ⟨_, s_Course_push G σ1 n R i _ (hS.of k1) hN1 (by omega), fun σ2 ⟨m1, rd2, m2, m3⟩ => ?_⟩
      rw [nI_1]
      refine ih σ2 ⟨(hF.tr k1).tr m1, rd2, m2, fun a ha => ?_⟩
      rw [m3 a (by omega)]
      unfold rup
      rw [if_neg (by omega)]
      exact h0 a (by omega)
    · intro τ ⟨hF, rd, hN, _⟩
      exact b_Course_open_90 E (nI n) τ ⟨fun _ => ⟨rfl, ⟨h6.tr (hF.zFr (by decide)), S6.of hF, rd, hN⟩, fun q b hq hb => by rw [hF.at (by decide)]; exact e31 q b hq hb⟩, fun q => absurd (by rw [(S6.of hF).1]; exact nI_le (Nat.le_refl n) (by omega)) q⟩
  refine z_for n (fun i τ => zZ G M_Course_open 6 X (fun r τ => r = none ∧ (zFr FO σ τ ∧ CS τ n R ∧ ∃ rd, RN τ R rd) ∧ ∀ q b, q ≤ R → b < n → τ 31 (q * 12 + b) = (sV pp s n mk len lk q b).1) 48 [(0, zf G 1), (5, .int (nI i))] [] τ) (fun _ τ => zFr [30] σ6 τ) ?_ ?_ 0 σ6 (Nat.zero_le _) zFr.rf
  · intro i τ hi hI ih
    refine b_Course_open_48 E (nI i) τ ⟨fun q => absurd q (by rw [hI 2 (by decide), S6.1]; exact nI_ge hi (by omega)), fun _ => ⟨vp_in_nI (by omega) (by decide), by rw [show (0 : Int32) = nI 0 from rfl, zi12]; exact vp_in_nI (by omega) (by decide), fun σ1 e1 => ?_⟩⟩
    rw [nI_1]
    refine ih σ1 ?_
    rw [e1]; exact hI.up (by decide)
  · intro τ hI
    refine b_Course_open_48 E (nI n) τ ⟨fun _ => two τ (fun _ => 0) ((RF.of hI (by decide)).mono (by decide)) ?_ (fun _ => rfl), fun q => absurd (by rw [hI 2 (by decide), S6.1]; exact nI_le (Nat.le_refl n) (by omega)) q⟩
    obtain ⟨l, hD, hG⟩ := N6
    refine ⟨l, ⟨fun a ha => by rw [hI 24 (by decide)]; exact hD.1 a ha, hD.2.1.of (fun c hc => hI c (fun h => by rw [List.mem_singleton.mp h] at hc; revert hc; decide)), hD.2.2⟩, ?_⟩
    rw [hI 13 (by decide)]
    exact hG
theorem s_P_come3 (G : zG) (σ : zSt) (v : Int32) (h : CI σ) : zI G 7 M_P_come [zf G 0, .int v] σ (fun _ τ => CI τ ∧ RF FR σ τ) := by
  refine zSpec.of (by decide) (Nat.le_of_ble_eq_true rfl) rfl (fun X E => ?_)
  refine b_P_come_0 E v σ ⟨_, s_P_hasLetter G σ v, ?_⟩
  rintro b τ ⟨hb, rfl⟩
  refine ⟨fun _ => ⟨_, rfl, h, RF.rf⟩, fun ht => ?_⟩
  rw [hb] at ht
  obtain ⟨n, R, rd, hS, l, hD, hG⟩ := h.2 (of_decide_eq_true ht).1
  obtain ⟨i, hi, rfl⟩ := letter_of ht hD.2.1
  exact ⟨_, s_Course_bring G _ n R i rd l hS hD hG hi, fun x τ ⟨k1, rd', k2⟩ => ⟨_, rfl, CI.run hS k1 k2, k1⟩⟩
theorem s_P_flow3 (G : zG) (σ : zSt) (m s : Int32) (h : CI σ) : zI G 7 M_P_flow [zf G 0, .int m, .int s] σ (fun _ τ => CI τ ∧ RF FR σ τ) := by
  refine zSpec.of (by decide) (Nat.le_of_ble_eq_true rfl) rfl (fun X E => ?_)
  have bad : ∃ x : Int32, some (Value.int (-1 : Int32)) = some (Value.int x) ∧ CI σ ∧ RF FR σ σ := ⟨_, rfl, h, RF.rf⟩
  refine b_P_flow_0 E m s σ ⟨fun _ => bad, fun hm => ⟨fun _ => bad, fun hm2 => ⟨fun hs => ?_, fun _ => bad⟩⟩⟩
  obtain ⟨k, hk, rfl⟩ := nI_of2 (M := 3000) (n := 3000) (by decide) hm (Int32.not_lt.mp hm2)
  obtain ⟨s0, hs0, rfl⟩ := nI_of (Int32.not_lt.mpr hs)
  rw [nI_l hs0]
  refine z_for k (fun i (q : Nat × zSt) => zZ G M_P_flow 7 X (fun r τ => ∃ x : Int32, r = some (.int x) ∧ CI τ ∧ RF FR σ τ) 23 [(0, zf G 0), (1, .int (nI k)), (3, .long (lN q.1)), (5, .int (nI i))] [] q.2) (fun _ q => q.1 < 2 ^ 31 ∧ CI q.2 ∧ RF FR σ q.2) ?_ ?_ 0 (s0, σ) (Nat.zero_le _) ⟨hs0, h, RF.rf⟩
  · intro i ⟨z, τ⟩ hi ⟨hz, hC, hF⟩ ih
    dsimp only at hz hC hF ih ⊢
    have en : ∀ x : Int32, ∃ y : Int32, some (Value.int x) = some (Value.int y) ∧ CI τ ∧ RF FR σ τ := fun x => ⟨x, rfl, hC, hF⟩
    refine b_P_flow_23 E (nI k) (lN z) (nI i) τ ⟨fun _ => en _, fun _ => ⟨fun _ => en _, fun hst => ?_⟩⟩
    obtain ⟨n, R, rd, hS, l, hD, hG⟩ := hC.2 hst
    have hl := hD.2.1.2.1
    rw [hD.2.1.1, nI_l (by omega)]
    refine ⟨fun _ => en _, fun hp => ?_⟩
    have hpos : 0 < l.length := by
      rcases Nat.eq_zero_or_pos l.length with e | e
      · rw [e] at hp; exact absurd (by decide) hp
      · exact e
    refine ⟨fun e => ?_, ?_⟩
    · have := (lN_eq (a := l.length) (b := 0) (by omega) (by decide)).mp e
      omega
    · have hrem : (lN z - lN z / lN l.length * lN l.length).toInt32 = nI (z % l.length) := by
        rw [pk_lRem (by omega) hpos (by omega), lN_i]
      rw [hrem]
      refine ⟨_, s_Course_bring G τ n R (z % l.length) rd l hS hD hG (Nat.mod_lt _ hpos), fun x σ1 ⟨k1, rd', k2⟩ => ?_⟩
      rw [nI_1]
      have hnext : ((69069 : Int64) * lN z + (1 : Int64)) &&& (2147483647 : Int64) = lN ((69069 * z + 1) % 2 ^ 31) := by
        rw [show (69069 : Int64) = lN 69069 from rfl, show (1 : Int64) = lN 1 from rfl, show (2147483647 : Int64) = lN (2 ^ 31 - 1) from rfl, lN_mul, lN_add]
        apply Int64.toBitVec_inj.mp
        show BitVec.ofNat 64 (69069 * z + 1) &&& BitVec.ofNat 64 (2 ^ 31 - 1) = BitVec.ofNat 64 ((69069 * z + 1) % 2 ^ 31)
        apply BitVec.eq_of_toNat_eq
        simp only [BitVec.toNat_and, BitVec.toNat_ofNat]
        rw [Nat.mod_eq_of_lt (show 69069 * z + 1 < 2 ^ 64 by omega), Nat.mod_eq_of_lt (show 2 ^ 31 - 1 < 2 ^ 64 by decide), Nat.and_two_pow_sub_one_eq_mod, Nat.mod_eq_of_lt (show (69069 * z + 1) % 2 ^ 31 < 2 ^ 64 by omega)]
      rw [hnext]
      exact ih ((69069 * z + 1) % 2 ^ 31, σ1) ⟨Nat.mod_lt _ (by decide), CI.run hS k1 k2, hF.tr k1⟩
  · intro ⟨z, τ⟩ ⟨_, hC, hF⟩
    exact b_P_flow_23 E (nI k) (lN z) (nI k) τ ⟨fun _ => ⟨_, rfl, hC, hF⟩, fun q => absurd (nI_le (Nat.le_refl k) (by omega)) q⟩
def PSP (σ : zSt) (n : Nat) (mk : Nat → Int32) (len : Nat → Nat → Int32) (lk : Nat → Nat → Bool) (p w s k r x : Int32) (τ : zSt) : Prop :=
  (x = -1 ∧ τ = σ ∧ (SB0 (!zHas σ s) p w k r ∨ ¬ zRe σ n (n - 1) = zAll (nI n))) ∨ (¬ SB0 (!zHas σ s) p w k r ∧ zRe σ n (n - 1) = zAll (nI n) ∧ (CI τ ∧ zFr FX σ τ) ∧ τ 0 1 = 1 ∧ ∃ pp R, p = nI pp ∧ pp ≤ 3 ∧ r = nI R ∧ R ≤ 20 ∧ τ 1 5 = nI R ∧ ∀ q b, q ≤ R → b < n → τ 31 (q * 12 + b) = (sV pp s n mk len lk q b).1)
theorem s_P_start2 (G : zG) (σ : zSt) (n : Nat) (p w s k r : Int32) (mk : Nat → Int32) (len : Nat → Nat → Int32) (lk : Nat → Nat → Bool) (h : CI σ) (hn : σ 2 0 = nI n) (h1 : 1 ≤ n) (hle : n ≤ 12) (hmk : ∀ a, a < 12 → σ 6 a = mk a) (hlen : ∀ a b, a < 12 → b < 12 → σ 8 (a * 12 + b) = len a b) (hlk : ∀ a b, a < 12 → b < 12 → zIn (σ 7 b) (nI a) = lk a b) : zI G 7 M_P_start [zf G 0, .int p, .int w, .int s, .int k, .int r] σ (fun x τ => PSP σ n mk len lk p w s k r x τ) := by
  refine zSpec.of (by decide) (Nat.le_of_ble_eq_true rfl) rfl (fun X E => ?_)
  have bad : SB0 (!zHas σ s) p w k r ∨ ¬ zRe σ n (n - 1) = zAll (nI n) → ∃ x : Int32, some (Value.int (-1 : Int32)) = some (Value.int x) ∧ PSP σ n mk len lk p w s k r x σ := fun hb => ⟨_, rfl, Or.inl ⟨rfl, rfl, hb⟩⟩
  have go : ¬ SB0 (!zHas σ s) p w k r → ∀ pp, p = nI pp → pp ≤ 3 → zHas σ s = true → ¬ r < 1 → r ≤ 20 → zZ G M_P_start 7 X (fun rr τ => ∃ x : Int32, rr = some (.int x) ∧ PSP σ n mk len lk p w s k r x τ) 69 [(0, zf G 0), (1, .int p), (2, .int w), (3, .int s), (4, .int k), (5, .int r)] [] σ := by
    intro nb pp hpp hp3 hs hr1 hr2
    obtain ⟨j, hj, es⟩ := zHas_of hs hn hle
    obtain ⟨R, hR, er⟩ := nI_of2 (M := 20) (n := 20) (by decide) (fun e => hr1 (Int32.lt_of_lt_of_le e (by decide))) hr2
    have hR1 : 1 ≤ R := by
      rcases Nat.lt_or_ge R 1 with e | e
      · exact absurd (by rw [er]; exact nI_lt e (by decide)) hr1
      · exact e
    refine b_P_start_69 E p w s k r σ ⟨_, s_Net_isConnected G σ n hn h1 hle, ?_⟩
    rintro b τ ⟨hcb, eτ⟩
    rw [eτ]
    have c1 : zV G 4 M_Frame_setUp [zf G 3, zf G 2, .int w, .int s, .int k] σ (fun τ => zFr FFrame σ τ ∧ TreeOK τ ∧ (w = 0 → ∀ u, u < 12 → τ 13 u = 0)) := by
      rw [es]; exact s_Frame_setUp G σ n j w k hn hle hj
    have c2 : ∀ σ3 : zSt, zFr FFrame σ σ3 → TreeOK σ3 → (w = 0 → ∀ u, u < 12 → σ3 13 u = 0) → zV G 6 M_Course_open [zf G 1, .int p, .int w, .int s, .int r] σ3 (fun τ => (zFr FO σ3 τ ∧ CS τ n R ∧ ∃ rd, RN τ R rd) ∧ ∀ q b, q ≤ R → b < n → τ 31 (q * 12 + b) = (sV pp s n mk len lk q b).1) := by
      intro σ3 g1 g2 g3
      rw [hpp, er]
      exact s_Course_open2 G σ3 n R pp w s mk len lk hp3 (fun a ha => by rw [g1 6 (by decide)]; exact hmk a ha) (fun a b ha hb => by rw [g1 8 (by decide)]; exact hlen a b ha hb) (fun a b ha hb => by rw [g1 7 (by decide)]; exact hlk a b ha hb) (by rw [g1 2 (by decide)]; exact hn) h1 hle hR1 hR g2 g3
    refine ⟨fun hbt => ⟨_, c1, fun σ3 ⟨g1, g2, g3⟩ => ⟨_, c2 σ3 g1 g2 g3, fun σ4 ⟨⟨k1, k2, rd, l, k3, k4⟩, k31⟩ σ5 e5 => ⟨_, rfl, Or.inr ⟨nb, of_decide_eq_true (hcb.symm.trans hbt), ⟨?_, ?_⟩, by rw [e5, zup_self, upd_eq], pp, R, hpp, hp3, er, hR, by rw [e5, zup_ne (by decide)]; exact k2.2.2.2.1, fun q b hq hb => by rw [e5, zup_ne (by decide)]; exact k31 q b hq hb⟩⟩⟩⟩, fun hbf => bad (Or.inr (of_decide_eq_false (hcb.symm.trans hbf)))⟩
    · have h50 : ∀ c, c ≠ 0 → σ5 c = σ4 c := fun c hc => by rw [e5, zup_ne hc]
      refine ⟨⟨n, by rw [h50 2 (by decide)]; exact k2.1, h1, hle⟩, fun _ => ⟨n, R, rd, ?_, l, ?_, ?_⟩⟩
      · obtain ⟨t1, t2, t3, t4, t5, t6, t7, t8⟩ := k2
        refine ⟨by rw [h50 2 (by decide)]; exact t1, t2, t3, by rw [h50 1 (by decide)]; exact t4, t5, t6, fun c u hc hu hz => ?_, fun e u hu => ?_⟩
        · rw [h50 13 (by decide)] at hz
          rw [h50 10 (by decide), h50 9 (by decide)]
          exact t7 c u hc hu hz
        · rw [h50 1 (by decide)] at e
          rw [h50 13 (by decide)]
          exact t8 e u hu
      · exact ⟨fun a ha => by rw [h50 24 (by decide)]; exact k3.1 a ha, k3.2.1.of (fun c hc => h50 c (fun e => by rw [e] at hc; revert hc; decide)), k3.2.2⟩
      · rw [h50 13 (by decide)]; exact k4
    · rw [e5]
      exact ((g1.mono (by decide)).tr (k1.mono (by decide))).up (by decide)
  refine b_P_start_0 E p w s k r σ ?_
  refine ⟨fun h => bad (Or.inl (Or.inl h)), fun p0 => ⟨fun h => bad (Or.inl (Or.inr (Or.inl h))), fun p3 => ⟨fun h => bad (Or.inl (Or.inr (Or.inr (Or.inl h)))), fun w0 => ⟨fun w2 => ⟨fun h => bad (Or.inl (Or.inr (Or.inr (Or.inr (Or.inr (Or.inl (by rw [h]; rfl))))))), fun hs => ⟨fun h => bad (Or.inl (Or.inr (Or.inr (Or.inr (Or.inr (Or.inr (Or.inl h))))))), fun hr1 => ⟨fun hr2 => ?_, fun h => bad (Or.inl (Or.inr (Or.inr (Or.inr (Or.inr (Or.inr (Or.inr (Or.inl h))))))))⟩⟩⟩, fun h => bad (Or.inl (Or.inr (Or.inr (Or.inr (Or.inl (Int32.not_le.mp h))))))⟩⟩⟩⟩
  obtain ⟨pp, hp3, hpp⟩ := nI_of2 (M := 3) (n := 3) (by decide) p0 (Int32.not_lt.mp p3)
  have nb : (w = 2 → ¬ (k < 2 ∨ 8 < k)) → ¬ SB0 (!zHas σ s) p w k r := by
    intro hk q
    rcases q with q | q | q | q | q | q | q | q
    · exact p0 q
    · exact p3 q
    · exact w0 q
    · exact absurd w2 (Int32.not_le.mpr q)
    · rw [hs] at q; exact absurd q (by decide)
    · exact hr1 q
    · exact q hr2
    · exact hk q.1 q.2
  refine ⟨fun h => go (nb (fun q => absurd q h)) pp hpp hp3 hs hr1 hr2, fun hw2 => ⟨fun h => bad (Or.inl (Or.inr (Or.inr (Or.inr (Or.inr (Or.inr (Or.inr (Or.inr ⟨hw2, Or.inl h⟩)))))))), fun k2 => ⟨fun k8 => go (nb (fun _ q => q.elim k2 (fun q => absurd k8 (Int32.not_le.mpr q)))) pp hpp hp3 hs hr1 hr2, fun h => bad (Or.inl (Or.inr (Or.inr (Or.inr (Or.inr (Or.inr (Or.inr (Or.inr ⟨hw2, Or.inr (Int32.not_le.mp h)⟩))))))))⟩⟩⟩
theorem s_P_inStep2 (G : zG) (σ : zSt) (a r : Int32) (h : CI σ) : zI G 2 M_P_inStep [zf G 0, .int a, .int r] σ (fun x τ => τ = σ ∧ ((x = -1 ∧ ¬ (¬ σ 0 1 = 0 ∧ zHas σ a = true ∧ ¬ r < 0 ∧ ¬ σ 1 5 < r)) ∨ ((¬ σ 0 1 = 0 ∧ zHas σ a = true ∧ ¬ r < 0 ∧ ¬ σ 1 5 < r) ∧ ∃ i j, i < 12 ∧ j ≤ 20 ∧ a = nI i ∧ r = nI j ∧ x = σ 31 (j * 12 + i)))) := by
  refine zSpec.of (by decide) (Nat.le_of_ble_eq_true rfl) rfl (fun X E => ?_)
  refine b_P_inStep_0 E a r σ ⟨_, s_P_hasRound G σ a r, ?_⟩
  rintro b τ ⟨hb, eτ⟩
  rw [eτ]
  refine ⟨fun hf => ⟨_, rfl, rfl, Or.inl ⟨rfl, of_decide_eq_false (hb.symm.trans hf)⟩⟩, fun ht => ?_⟩
  have ht2 := hb.symm.trans ht
  obtain ⟨i, j, hi, hj, ea, er⟩ := round_of h ht2
  rw [ea, er, zi12]
  refine ⟨vp_in_nI (by omega) (by decide), _, rfl, rfl, Or.inr ⟨?_, i, j, hi, hj, rfl, rfl, by rw [nI_clamp (by omega)]⟩⟩
  rw [← ea, ← er]
  exact of_decide_eq_true ht2
end
section
-- start, come, flow, inStep of the reference: what p10 needs (written by mk10.py)
theorem MR_go3 {σ τ : zSt} {n R W : Nat} {l : List Lt} (h : MR τ n R W l) (hg : MG τ n W) (hF : MF FHan [27, 29, 30] σ τ) : MI τ ∧ MF FHan [27, 29, 30] σ τ := ⟨⟨n, h.1.1, h.1.2.1, h.1.2.2.1, h.1.2.2.2.2.2.2.2.2.2, Or.inr ⟨R, W, l, h, hg⟩⟩, hF⟩
theorem s_Mo_come3 (G : zG) (σ : zSt) (v : Int32) (h : MI σ) : zI G 5 M_Mo_come [zf G 32, .int v] σ (fun _ τ => MI τ ∧ MF FHan [27, 29, 30] σ τ) := by
  refine zSpec.of (by decide) (Nat.le_of_ble_eq_true rfl) rfl (fun X E => ?_)
  have bad : ∃ x : Int32, some (Value.int (-1 : Int32)) = some (Value.int x) ∧ MI σ ∧ MF FHan [27, 29, 30] σ σ := ⟨_, rfl, h, MF.rf⟩
  refine b_Mo_come_0 E v σ ⟨fun _ => bad, fun h4 => ⟨fun _ => bad, fun h0 => ⟨fun hlt => ?_, fun _ => bad⟩⟩⟩
  obtain ⟨n, R, W, l, hM, hG⟩ := h.run h4
  have hl := hM.2.2.1.2.1
  rw [hM.2.2.1.1] at hlt
  rcases pk_ix v (n := l.length) (by omega) with q | q | ⟨j, hj, rfl⟩
  · exact absurd q h0
  · exact absurd hlt (Int32.not_lt.mpr q)
  · exact ⟨_, s_Mo_handle G σ n R W j l hM hG hj, fun x σ1 ⟨k1, k2, l', k3⟩ => ⟨_, rfl, MR_go3 k3 k2 k1⟩⟩
theorem s_Mo_flow3 (G : zG) (σ : zSt) (m s : Int32) (h : MI σ) : zI G 5 M_Mo_flow [zf G 32, .int m, .int s] σ (fun _ τ => MI τ ∧ MF FHan [27, 29, 30] σ τ) := by
  refine zSpec.of (by decide) (Nat.le_of_ble_eq_true rfl) rfl (fun X E => ?_)
  have bad : ∃ x : Int32, some (Value.int (-1 : Int32)) = some (Value.int x) ∧ MI σ ∧ MF FHan [27, 29, 30] σ σ := ⟨_, rfl, h, MF.rf⟩
  refine b_Mo_flow_0 E m s σ ⟨fun _ => bad, fun h4 => ⟨fun _ => bad, fun hm => ⟨fun _ => bad, fun hm2 => ⟨fun hs => ?_, fun _ => bad⟩⟩⟩⟩
  obtain ⟨n, R, W, l, hM, hG⟩ := h.run h4
  obtain ⟨k, hk, rfl⟩ := nI_of2 (M := 3000) (n := 3000) (by decide) hm (Int32.not_lt.mp hm2)
  obtain ⟨s0, hs0, rfl⟩ := nI_of (Int32.not_lt.mpr hs)
  rw [nI_l hs0]
  refine z_for k (fun i (q : Nat × zSt) => zZ G M_Mo_flow 5 X (fun r τ => ∃ x : Int32, r = some (.int x) ∧ MI τ ∧ MF FHan [27, 29, 30] σ τ) 30 [(0, zf G 32), (1, .int (nI k)), (3, .long (lN q.1)), (5, .int (nI i))] [] q.2) (fun _ q => q.1 < 2 ^ 31 ∧ (∃ l, MR q.2 n R W l) ∧ MG q.2 n W ∧ MF FHan [27, 29, 30] σ q.2) ?_ ?_ 0 (s0, σ) (Nat.zero_le _) ⟨hs0, ⟨l, hM⟩, hG, MF.rf⟩
  · intro i ⟨z, τ⟩ hi ⟨hz, ⟨l, hM⟩, hG, hF⟩ ih
    dsimp only at hz hM hG hF ih ⊢
    have en : ∀ x : Int32, ∃ y : Int32, some (Value.int x) = some (Value.int y) ∧ MI τ ∧ MF FHan [27, 29, 30] σ τ := fun x => ⟨x, rfl, MR_go3 hM hG hF⟩
    refine b_Mo_flow_30 E (nI k) (lN z) (nI i) τ ⟨fun _ => en _, fun _ => ?_⟩
    have hl := hM.2.2.1.2.1
    rw [hM.2.2.1.1, nI_l (by omega)]
    refine ⟨fun _ => en _, fun hp => ?_⟩
    have hpos : 0 < l.length := by
      rcases Nat.eq_zero_or_pos l.length with e | e
      · rw [e] at hp; exact absurd (by decide) hp
      · exact e
    refine ⟨fun e => ?_, ?_⟩
    · have := (lN_eq (a := l.length) (b := 0) (by omega) (by decide)).mp e
      omega
    · have hrem : (lN z - lN z / lN l.length * lN l.length).toInt32 = nI (z % l.length) := by
        rw [pk_lRem (by omega) hpos (by omega), lN_i]
      rw [hrem]
      refine ⟨_, s_Mo_handle G τ n R W (z % l.length) l hM hG (Nat.mod_lt _ hpos), fun x σ1 ⟨k1, k2, l', k3⟩ => ?_⟩
      rw [nI_1]
      have hnext : (((69069 : Int64) * lN z) + (1 : Int64)) - (((69069 : Int64) * lN z) + (1 : Int64)) / (2147483648 : Int64) * (2147483648 : Int64) = lN ((69069 * z + 1) % 2147483648) := by
        rw [show (69069 : Int64) = lN 69069 from rfl, show (1 : Int64) = lN 1 from rfl, show (2147483648 : Int64) = lN 2147483648 from rfl, lN_mul, lN_add, pk_lRem (by omega) (by decide) (by decide)]
      rw [hnext]
      exact ih ((69069 * z + 1) % 2147483648, σ1) ⟨Nat.mod_lt _ (by decide), ⟨l', k3⟩, k2, hF.tr k1⟩
  · intro ⟨z, τ⟩ ⟨_, ⟨l, hM⟩, hG, hF⟩
    exact b_Mo_flow_30 E (nI k) (lN z) (nI k) τ ⟨fun _ => ⟨_, rfl, MR_go3 hM hG hF⟩, fun q => absurd (nI_le (Nat.le_refl k) (by omega)) q⟩
theorem s_Mo_noPlace2 (G : zG) (σ : zSt) (a r : Int32) (h : MI σ) : zB G 1 M_Mo_noPlace [zf G 32, .int a, .int r] σ (fun b τ => τ = σ ∧ ((b = true ∧ (σ 32 4 = 0 ∨ zNo σ a = true ∨ r < 0 ∨ ¬ r ≤ σ 32 8)) ∨ (b = false ∧ ¬ (σ 32 4 = 0 ∨ zNo σ a = true ∨ r < 0 ∨ ¬ r ≤ σ 32 8) ∧ ∃ j k, j < 12 ∧ k ≤ 20 ∧ a = nI j ∧ r = nI k))) := by
  refine zSpec.of (by decide) (Nat.le_of_ble_eq_true rfl) rfl (fun X E => ?_)
  refine b_Mo_noPlace_0 E a r σ ⟨fun q => ⟨true, rfl, rfl, Or.inl ⟨rfl, Or.inl q⟩⟩, fun h4 => ⟨fun q => ⟨true, rfl, rfl, Or.inl ⟨rfl, Or.inr (Or.inl q)⟩⟩, fun hno => ⟨fun q => ⟨true, rfl, rfl, Or.inl ⟨rfl, Or.inr (Or.inr (Or.inl q))⟩⟩, fun h0 => ⟨fun hle => ⟨false, rfl, rfl, Or.inr ⟨rfl, ?_, ?_⟩⟩, fun q => ⟨true, rfl, rfl, Or.inl ⟨rfl, Or.inr (Or.inr (Or.inr q))⟩⟩⟩⟩⟩⟩
  · rintro (q | q | q | q)
    · exact h4 q
    · rw [hno] at q; exact absurd q (by decide)
    · exact h0 q
    · exact q hle
  obtain ⟨n, R, W, l, hM, hG⟩ := h.run h4
  obtain ⟨j, hj, rfl⟩ := zNo_of hno hM.1.1 hM.1.2.2.1
  have hR := hM.1.2.2.2.2.2.1
  have hn := hM.1.2.2.1
  rw [hM.1.2.2.2.1] at hle
  rcases pk_ix r (n := R + 1) (by omega) with q | q | ⟨k, hk, rfl⟩
  · exact absurd q h0
  · exfalso
    have a1 := i32_le.mp q
    have a2 := i32_le.mp hle
    rw [nI_toInt (by omega)] at a1 a2
    omega
  · exact ⟨j, k, by omega, by omega, rfl, rfl⟩
theorem s_Mo_inStep2 (G : zG) (σ : zSt) (a r : Int32) (h : MI σ) : zI G 2 M_Mo_inStep [zf G 32, .int a, .int r] σ (fun x τ => τ = σ ∧ ((x = -1 ∧ (σ 32 4 = 0 ∨ zNo σ a = true ∨ r < 0 ∨ ¬ r ≤ σ 32 8)) ∨ (¬ (σ 32 4 = 0 ∨ zNo σ a = true ∨ r < 0 ∨ ¬ r ≤ σ 32 8) ∧ ∃ i j, i < 12 ∧ j ≤ 20 ∧ a = nI i ∧ r = nI j ∧ x = σ 50 (12 * j + i)))) := by
  refine zSpec.of (by decide) (Nat.le_of_ble_eq_true rfl) rfl (fun X E => ?_)
  refine b_Mo_inStep_0 E a r σ ⟨_, s_Mo_noPlace2 G σ a r h, ?_⟩
  rintro b τ ⟨eτ, hb⟩
  rw [eτ]
  rcases hb with ⟨hb, q⟩ | ⟨hb, q, j, k, hj, hk, ea, er⟩
  · refine ⟨fun e => ?_, fun _ => ⟨_, rfl, rfl, Or.inl ⟨rfl, q⟩⟩⟩
    rw [hb] at e; exact absurd e (by decide)
  · refine ⟨fun _ => ?_, fun e => ?_⟩
    · rw [ea, er] at q ⊢
      rw [zi12']
      exact ⟨vp_in_nI (by omega) (by decide), _, rfl, rfl, Or.inr ⟨q, j, k, hj, hk, rfl, rfl, by rw [nI_clamp (by omega)]⟩⟩
    · rw [hb] at e; exact absurd e (by decide)
def MSP (σ : zSt) (n : Nat) (mk : Nat → Int32) (len : Nat → Nat → Int32) (lk : Nat → Nat → Bool) (C : Prop) (p w s k r x : Int32) (τ : zSt) : Prop :=
  (x = -1 ∧ τ = σ ∧ (SB0 (zNo σ s) p w k r ∨ ¬ C)) ∨ (¬ SB0 (zNo σ s) p w k r ∧ C ∧ (MI τ ∧ MF FMo JMo σ τ) ∧ τ 32 4 = 1 ∧ ∃ pp R, p = nI pp ∧ pp ≤ 3 ∧ r = nI R ∧ R ≤ 20 ∧ τ 32 8 = nI R ∧ ∀ q b, q ≤ R → b < n → τ 50 (12 * q + b) = (sV pp s n mk len lk q b).1)
set_option maxHeartbeats 1000000 in
theorem s_Mo_start2 (G : zG) (σ : zSt) (n : Nat) (v1 v2 v3 v4 v5 : Int32) (mk : Nat → Int32) (len : Nat → Nat → Int32) (lk : Nat → Nat → Bool) (C : Prop) (h : MI σ) (hn : σ 32 0 = nI n) (h1n : 1 ≤ n) (hn12 : n ≤ 12) (hmk : ∀ a, a < 12 → σ 34 a = mk a) (hlen : ∀ a b, a < 12 → b < 12 → σ 33 (12 * b + a) = len a b) (hlk : ∀ a b, a < 12 → b < 12 → zLk σ (nI a) (nI b) = lk a b) (hC : ∀ x, SPR n lk x → (x = zAll (nI n) ↔ C)) : zI G 4 M_Mo_start [zf G 32, .int v1, .int v2, .int v3, .int v4, .int v5] σ (fun x τ => MSP σ n mk len lk C v1 v2 v3 v4 v5 x τ) := by
  refine zSpec.of (by decide) (Nat.le_of_ble_eq_true rfl) rfl (fun X E => ?_)
  have hLM : LM σ := by
    obtain ⟨_, _, _, _, hLM, _⟩ := h
    exact hLM
  have bad : SB0 (zNo σ v3) v1 v2 v4 v5 ∨ ¬ C → ∃ x : Int32, some (Value.int (-1 : Int32)) = some (Value.int x) ∧ MSP σ n mk len lk C v1 v2 v3 v4 v5 x σ := fun hb => ⟨_, rfl, Or.inl ⟨rfl, rfl, hb⟩⟩
  -- the rounds begin
  have go : ∀ (υ : zSt) (R W pp : Nat), (¬ SB0 (zNo σ v3) v1 v2 v4 v5 ∧ C ∧ v1 = nI pp ∧ pp ≤ 3 ∧ v5 = nI R) → υ 32 4 = 1 → (∀ q b, q ≤ R → b < n → υ 50 (12 * q + b) = (sV pp v3 n mk len lk q b).1) → 1 ≤ R → MS υ n R W → MF FMo JMo σ υ → (∀ a, a < n → υ 35 a = 0) → (∀ a, a < n → -2 ≤ (υ 47 a).toInt ∧ (υ 47 a).toInt ≤ 99) → (∀ j, j < 12672 → υ 45 j = 0) → υ 32 27 = 0 → (W = 0 → ∀ c, c < n → upS υ c = none) → zZ G M_Mo_start 4 X (fun r τ => ∃ x : Int32, r = some (.int x) ∧ MSP σ n mk len lk C v1 v2 v3 v4 v5 x τ) 302 [(0, zf G 32), (8, .int (0 : Int32))] [] υ := by
    intro υ R W pp hy h4 h50 hR1 hS hF h35 h47 h45 h27 hW0
    have hR20 : R ≤ 20 := hS.2.2.2.2.2.1
    have P0 := PI_0 (R := R) (W := W) hS.2.2.2.2.2.2.2.2.1 hn12 h35 h45
    have r0 : ∀ a, a < n → rdP (psS υ) a = 0 := fun a ha => by
      show (υ 35 a).toNatClampNeg = 0
      rw [h35 a ha]; decide
    have M0 : MR υ n R W [] := by
      refine ⟨hS, ⟨fun a ha => by rw [r0 a ha, h35 a ha]; rfl, fun a b q ha hb hq hne => ?_⟩, ⟨by rw [h27]; rfl, Nat.zero_le _, fun i hi => absurd hi (Nat.not_lt_zero i)⟩, P0⟩
      exact absurd (h45 _ (pl_lt (by omega) (by omega) (by omega) hq)) hne
    refine z_for n (fun i τ => zZ G M_Mo_start 4 X (fun r τ => ∃ x : Int32, r = some (.int x) ∧ MSP σ n mk len lk C v1 v2 v3 v4 v5 x τ) 302 [(0, zf G 32), (8, .int (nI i))] [] τ) (fun i τ => (MF FMo JMo σ τ ∧ τ 50 = υ 50 ∧ τ 32 4 = υ 32 4) ∧ (∃ l, MR τ n R W l) ∧ (∀ a, a < i → 1 ≤ rdP (psS τ) a) ∧ (∀ a, i ≤ a → a < n → rdP (psS τ) a = 0 ∧ -2 ≤ (τ 47 a).toInt ∧ (τ 47 a).toInt ≤ 99) ∧ (W = 0 → ∀ c, c < n → upS τ c = none)) ?_ ?_ 0 υ (Nat.zero_le _) ⟨⟨hF, rfl, rfl⟩, ⟨[], M0⟩, fun a ha => absurd ha (Nat.not_lt_zero a), fun a _ ha => ⟨r0 a ha, h47 a ha⟩, hW0⟩
    · intro a τ ha ⟨⟨g1, g50, g324⟩, ⟨l, g2⟩, g3, g4, g5⟩ ih
      have nτ : τ 32 0 = nI n := g2.1.1
      obtain ⟨hS', hN', hL', hP'⟩ := g2
      have ra := (g4 a (Nat.le_refl _) ha).1
      have hB : BC τ n R W a l := by
        refine ⟨by omega, fun e => by omega, fun e => by omega, fun u _ => Or.inr ra, gos_0 (fun x hx e1 e2 => ?_), frs_0 (fun x hx e1 e2 => ?_), fun _ => (g4 a (Nat.le_refl _) ha).2⟩
        · obtain ⟨c, u, q1, q2, q3, q4, q5, q6, q7, _⟩ := (hP'.2.1 x hx).2.2.2.1 e1
          have ec : c = a := (nI_eq (by omega) (by omega)).mp (q3.symm.trans e2)
          rw [ec, ra] at q7; omega
        · obtain ⟨_, c, u, q1, q2, q3, q4, q5, _⟩ := (hP'.2.1 x hx).2.2.2.2 e1
          have ec : c = a := (nI_eq (by omega) (by omega)).mp (q3.symm.trans e2)
          rw [ec, ra] at q5; omega
      refine b_Mo_start_302 E (nI a) τ ⟨fun q => absurd q (by rw [nτ]; exact nI_ge ha (by omega)), fun _ => ⟨_, s_Mo_beginRound G τ n R W a 1 l hS' hN' hL' (Or.inl hP') ha hB (by omega), fun σ1 ⟨k1, k2, ⟨mm, k3⟩, l1, k4⟩ => ?_⟩⟩
      have eup : upS σ1 = upS τ := upS_eq (k1.at (by decide))
      have r1 : rdP (psS σ1) a = 1 := by
        rw [k3]
        show fup (rdP (psS τ)) a (rdP (psS τ) a + 1) a = 1
        rw [fup_s, ra]
      refine ⟨_, s_Mo_goOn G σ1 n R W a l1 k4 ha (by omega) (by rw [eup]; exact g5), fun σ2 ⟨m1, l2, m2⟩ => ?_⟩
      rw [nI_1]
      have rn : ∀ b, b ≠ a → rdP (psS σ2) b = rdP (psS τ) b := fun b hb => by
        rw [m1.2.2.1 b hb, k3]
        exact fup_n hb
      refine ih σ2 ⟨⟨g1.tr ((k1.mono (by decide) (by decide)).tr (m1.1.mono (by decide) (by decide))), by rw [m1.1.at (c := 50) (by decide), k1.at (c := 50) (by decide)]; exact g50, by rw [m1.1.2 4 (by decide), k1.2 4 (by decide)]; exact g324⟩, ⟨l2, m2⟩, fun b hb => ?_, fun b hb hbn => ?_, ?_⟩
      · by_cases hba : b = a
        · rw [hba]; exact m1.2.2.2
        · rw [rn b hba]; exact g3 b (by omega)
      · rw [rn b (by omega), m1.2.1 b (by omega), k2 b (by omega)]
        exact g4 b (by omega) hbn
      · rw [upS_eq (m1.1.at (c := 41) (by decide)), eup]; exact g5
    · intro τ ⟨⟨g1, g50, g324⟩, ⟨l, g2⟩, g3, g4, g5⟩
      have nτ : τ 32 0 = nI n := g2.1.1
      exact b_Mo_start_302 E (nI n) τ ⟨fun _ => ⟨_, rfl, Or.inr ⟨hy.1, hy.2.1, ⟨⟨n, nτ, h1n, hn12, g2.1.2.2.2.2.2.2.2.2.2, Or.inr ⟨R, W, l, g2, g3, g5⟩⟩, g1⟩, g324.trans h4, pp, R, hy.2.2.1, hy.2.2.2.1, hy.2.2.2.2, hR20, g2.1.2.2.2.1, fun q b hq hb => by rw [g50]; exact h50 q b hq hb⟩⟩, fun q => absurd (by rw [nτ]; exact nI_le (Nat.le_refl n) (by omega)) q⟩
  -- the nodes are set
  have set : ∀ (υ : zSt) (v7 : Int32) (R W pp : Nat), (¬ SB0 (zNo σ v3) v1 v2 v4 v5 ∧ C ∧ v1 = nI pp ∧ pp ≤ 3 ∧ v5 = nI R) → υ 32 4 = 1 → υ 32 5 = nI pp → υ 32 7 = v3 → 1 ≤ R → R ≤ 20 → W ≤ 2 → υ 32 8 = nI R → υ 32 6 = nI W → υ 32 0 = nI n → MF FMo JMo σ υ → (∀ j, j < 12672 → υ 45 j = 0) → υ 32 27 = 0 → zZ G M_Mo_start 4 X (fun r τ => ∃ x : Int32, r = some (.int x) ∧ MSP σ n mk len lk C v1 v2 v3 v4 v5 x τ) 197 [(0, zf G 32), (4, .int v4), (7, .int v7), (8, .int (0 : Int32))] [] υ := by
    intro υ v7 R W pp hy h4 h5 h7 hR1 hR20 hW2 h8 h6 h0 hF h45 h27
    refine z_for n (fun i τ => zZ G M_Mo_start 4 X (fun r τ => ∃ x : Int32, r = some (.int x) ∧ MSP σ n mk len lk C v1 v2 v3 v4 v5 x τ) 197 [(0, zf G 32), (4, .int v4), (7, .int v7), (8, .int (nI i))] [] τ) (fun i τ => zFr [35, 41, 42, 47, 48, 49] υ τ ∧ ∀ a, a < i → τ 41 a = -2 ∧ τ 35 a = 0 ∧ -2 ≤ (τ 47 a).toInt ∧ (τ 47 a).toInt ≤ 99) ?_ ?_ 0 υ (Nat.zero_le _) ⟨zFr.rf, fun a ha => absurd ha (Nat.not_lt_zero a)⟩
    · intro a τ ha ⟨g1, g2⟩ ih
      have nτ : τ 32 0 = nI n := by rw [g1 32 (by decide)]; exact h0
      have ia : vp_in (nI a) 12 := vp_in_nI (by omega) (by decide)
      have ca : (nI a).toNatClampNeg = a := nI_clamp (by omega)
      refine b_Mo_start_197 E v4 v7 (nI a) τ ⟨fun q => absurd q (by rw [nτ]; exact nI_ge ha (by omega)), fun _ => ⟨ia, fun σ6 e6 => ⟨ia, fun σ7 e7 => ?_⟩⟩⟩
      have h7 : zFr [35, 41, 42, 47, 48, 49] υ σ7 := by rw [e7, e6]; exact (g1.up (by decide)).up (by decide)
      have lm7 : LM σ7 := hLM.of (by rw [h7 33 (by decide)]; exact hF.at (by decide)) (by rw [h7 34 (by decide)]; exact hF.at (by decide))
      refine ⟨_, s_Mo_first G σ7 a a (by omega) (by omega) lm7, fun σ8 ⟨k1, k2, k3⟩ => ⟨vp_in_nI (by omega) (by decide), vp_in_nI (by omega) (by decide), fun σ9 e9 => ⟨ia, fun σ10 e10 => ?_⟩⟩⟩
      rw [nI_1]
      rw [ca] at e6 e7 e9 e10
      refine ih σ10 ⟨by rw [e10, e9]; exact ((h7.tr (k1.mono (by decide))).up (by decide)).up (by decide), fun b hb => ?_⟩
      have x41 : σ10 41 = upd (τ 41) a (-2) := by rw [e10, zup_ne (by decide), e9, zup_ne (by decide), k1 41 (by decide), e7, zup_ne (by decide), e6, zup_self]
      have x35 : σ10 35 = upd (τ 35) a 0 := by rw [e10, zup_self, e9, zup_ne (by decide), k1 35 (by decide), e7, zup_ne (by decide), e6, zup_ne (by decide)]
      have x47 : σ10 47 = σ8 47 := by rw [e10, zup_ne (by decide), e9, zup_ne (by decide)]
      rw [x41, x35, x47]
      unfold upd
      by_cases hba : b = a
      · rw [if_pos hba, if_pos hba, hba]; exact ⟨rfl, rfl, k2⟩
      · rw [if_neg hba, if_neg hba, k3 b hba, e7, zup_ne (by decide), e6, zup_ne (by decide)]
        exact g2 b (by omega)
    · intro τ ⟨g1, g2⟩
      have nτ : τ 32 0 = nI n := by rw [g1 32 (by decide)]; exact h0
      have wτ : τ 32 6 = nI W := by rw [g1 32 (by decide)]; exact h6
      have U0 : UO τ n := fun a ha => Or.inl (g2 a ha).1
      -- behind the trees
      have last : ∀ ρ : zSt, MF [41, 42, 43, 44] [19, 20] τ ρ → UO ρ n → (W = 0 → ρ 41 = τ 41) → ∃ P : zSt → Prop, zV G 2 M_Mo_step [zf G 32] ρ P ∧ ∀ σ1 : zSt, P σ1 → zZ G M_Mo_start 4 X (fun r τ => ∃ x : Int32, r = some (.int x) ∧ MSP σ n mk len lk C v1 v2 v3 v4 v5 x τ) 302 [(0, zf G 32), (8, .int (0 : Int32))] [] σ1 := by
        intro ρ k1 k2 k3
        have n0 : ρ 32 0 = nI n := by rw [k1.2 0 (by decide)]; exact nτ
        have n8 : ρ 32 8 = nI R := by rw [k1.2 8 (by decide), g1 32 (by decide)]; exact h8
        have n6 : ρ 32 6 = nI W := by rw [k1.2 6 (by decide)]; exact wτ
        have fρ : MF FMo JMo σ ρ := (hF.tr ((MF.of (J := JMo) g1 (by decide)).mono (by decide) (fun _ h => h))).tr (k1.mono (by decide) (by decide))
        have lm : LM ρ := hLM.of (fρ.at (by decide)) (fρ.at (by decide))
        have n5 : ρ 32 5 = nI pp := by rw [k1.2 5 (by decide), g1 32 (by decide)]; exact h5
        have n7 : ρ 32 7 = v3 := by rw [k1.2 7 (by decide), g1 32 (by decide)]; exact h7
        have n4 : ρ 32 4 = 1 := by rw [k1.2 4 (by decide), g1 32 (by decide)]; exact h4
        refine ⟨_, s_Mo_step2 G ρ n R pp mk len lk n0 hn12 n8 hR20 n5 hy.2.2.2.1 lm (fun a ha => by rw [fρ.at (by decide)]; exact hmk a ha) (fun a b ha hb => by rw [fρ.at (by decide)]; exact hlen a b ha hb) (fun a b ha hb => by rw [← hlk a b ha hb]; unfold zLk; rw [fρ.at (c := 33) (by decide)]), fun σ1 ⟨⟨m1, m2⟩, m50⟩ => ?_⟩
        rw [n7] at m50
        have up1 : upS σ1 = upS ρ := upS_eq (m1 41 (by decide))
        refine go σ1 R W pp hy (by rw [m1 32 (by decide)]; exact n4) m50 hR1 ⟨by rw [m1 32 (by decide)]; exact n0, h1n, hn12, by rw [m1 32 (by decide)]; exact n8, hR1, hR20, by rw [m1 32 (by decide)]; exact n6, hW2, fun a ha => by rw [m1 41 (by decide)]; exact k2 a ha, lm.of (m1 33 (by decide)) (m1 34 (by decide))⟩ (fρ.tr ((MF.of (J := JMo) m1 (by decide)).mono (by decide) (fun _ h => h))) (fun a ha => ?_) (fun a ha => ?_) (fun j hj => ?_) ?_ (fun e c hc => ?_)
        · rw [m1 35 (by decide), k1.at (by decide)]; exact (g2 a ha).2.1
        · rw [(m2 a (by omega)).1, k1.at (by decide)]; exact (g2 a ha).2.2
        · rw [m1 45 (by decide), k1.at (by decide), g1 45 (by decide)]; exact h45 j hj
        · rw [m1 32 (by decide), k1.2 27 (by decide), g1 32 (by decide)]; exact h27
        · rw [up1]
          unfold upS
          rw [k3 e, if_pos (g2 c hc).1]
      refine b_Mo_start_197 E v4 v7 (nI n) τ ⟨fun _ => ⟨fun hw1 => ⟨fun hw2 => last τ MF.rf U0 (fun _ => rfl), fun hw2 => ⟨_, s_Mo_makeClusters G τ n v4 nτ h1n hn12 U0, fun σ2 ⟨k1, k2⟩ => last σ2 k1 k2 (fun e => ?_)⟩⟩, fun hw1 => ⟨_, s_Mo_tree G τ n (τ 32 7) v7 nτ hn12 U0, fun σ4 ⟨k1, k2⟩ => last σ4 ((MF.of (J := [19, 20]) k1 (by decide)).mono (by decide) (fun _ h => h)) k2 (fun e => ?_)⟩⟩, fun q => absurd (by rw [nτ]; exact nI_le (Nat.le_refl n) (by omega)) q⟩
      · rw [wτ, e] at hw2; exact absurd hw2 (by decide)
      · rw [wτ, e] at hw1; exact absurd hw1 (by decide)
  -- what was, is wiped
  have wipe : ∀ (υ : zSt) (v7 : Int32) (R W pp : Nat), (¬ SB0 (zNo σ v3) v1 v2 v4 v5 ∧ C ∧ v1 = nI pp ∧ pp ≤ 3 ∧ v5 = nI R) → υ 32 4 = 1 → υ 32 5 = nI pp → υ 32 7 = v3 → 1 ≤ R → R ≤ 20 → W ≤ 2 → υ 32 8 = nI R → υ 32 6 = nI W → υ 32 0 = nI n → MF FMo JMo σ υ → υ 32 27 = 0 → zZ G M_Mo_start 4 X (fun r τ => ∃ x : Int32, r = some (.int x) ∧ MSP σ n mk len lk C v1 v2 v3 v4 v5 x τ) 147 [(0, zf G 32), (4, .int v4), (7, .int v7), (8, .int (0 : Int32))] [] υ := by
    intro υ v7 R W pp hy h4 h5 h7 hR1 hR20 hW2 h8 h6 h0 hF h27
    have two : ∀ ρ : zSt, ρ = zfill υ 45 12672 0 → zZ G M_Mo_start 4 X (fun r τ => ∃ x : Int32, r = some (.int x) ∧ MSP σ n mk len lk C v1 v2 v3 v4 v5 x τ) 172 [(0, zf G 32), (4, .int v4), (7, .int v7), (8, .int (0 : Int32))] [] ρ := by
      intro ρ hρ
      refine z_for 144 (fun i τ => zZ G M_Mo_start 4 X (fun r τ => ∃ x : Int32, r = some (.int x) ∧ MSP σ n mk len lk C v1 v2 v3 v4 v5 x τ) 172 [(0, zf G 32), (4, .int v4), (7, .int v7), (8, .int (nI i))] [] τ) (fun i τ => τ = zfill ρ 44 i 0) ?_ ?_ 0 ρ (Nat.zero_le _) (zfill_0 ρ 44 0).symm
      · intro i τ hi hI ih
        refine b_Mo_start_172 E v4 v7 (nI i) τ ⟨fun q => absurd q (nI_ge hi (by decide)), fun _ => ⟨vp_in_nI hi (by decide), fun σ1 e1 => ?_⟩⟩
        rw [nI_1]
        refine ih σ1 ?_
        rw [e1, hI, nI_clamp (by omega), zfill_s]
      · intro τ hI
        refine b_Mo_start_172 E v4 v7 (nI 144) τ ⟨fun _ => ?_, fun q => absurd (by decide) q⟩
        have t32 : τ 32 = υ 32 := by rw [hI, zfill_ne (by decide), hρ, zfill_ne (by decide)]
        have fr : zFr [44, 45] υ τ := by rw [hI, hρ]; exact (zFr.rf.fill (by decide)).fill (by decide)
        refine set τ v7 R W pp hy (by rw [t32]; exact h4) (by rw [t32]; exact h5) (by rw [t32]; exact h7) hR1 hR20 hW2 (by rw [t32]; exact h8) (by rw [t32]; exact h6) (by rw [t32]; exact h0) (hF.tr ((MF.of (J := JMo) fr (by decide)).mono (by decide) (fun _ h => h))) (fun j hj => ?_) (by rw [t32]; exact h27)
        rw [hI, zfill_ne (by decide), hρ]
        simp [zfill, hj]
    refine z_for 12672 (fun i τ => zZ G M_Mo_start 4 X (fun r τ => ∃ x : Int32, r = some (.int x) ∧ MSP σ n mk len lk C v1 v2 v3 v4 v5 x τ) 147 [(0, zf G 32), (4, .int v4), (7, .int v7), (8, .int (nI i))] [] τ) (fun i τ => τ = zfill υ 45 i 0) ?_ ?_ 0 υ (Nat.zero_le _) (zfill_0 υ 45 0).symm
    · intro i τ hi hI ih
      refine b_Mo_start_147 E v4 v7 (nI i) τ ⟨fun q => absurd q (nI_ge hi (by decide)), fun _ => ⟨vp_in_nI hi (by decide), fun σ1 e1 => ?_⟩⟩
      rw [nI_1]
      refine ih σ1 ?_
      rw [e1, hI, nI_clamp (by omega), zfill_s]
    · intro τ hI
      exact b_Mo_start_147 E v4 v7 (nI 12672) τ ⟨fun _ => two τ hI, fun q => absurd (by decide) q⟩
  -- the answers
  have all_ : ((1 : Int32) <<< ((σ 32 0) &&& 31)) - (1 : Int32) = zAll (nI n) := by rw [hn]; rfl
  have s0 : ¬ SB0 (zNo σ v3) v1 v2 v4 v5 → ¬ v1 < 0 → ¬ (3 : Int32) < v1 → ¬ v2 < 0 → ¬ (2 : Int32) < v2 → ¬ v5 < 1 → v5 ≤ 20 → zZ G M_Mo_start 4 X (fun r τ => ∃ x : Int32, r = some (.int x) ∧ MSP σ n mk len lk C v1 v2 v3 v4 v5 x τ) 64 [(0, zf G 32), (1, .int v1), (2, .int v2), (3, .int v3), (4, .int v4), (5, .int v5), (6, .int (0 : Int32))] [] σ := by
    intro nb p0 p3 w1 w2 w3 w4
    refine b_Mo_start_64 E v1 v2 v3 v4 v5 0 σ ⟨fun q => absurd rfl q, fun _ => ?_⟩
    rw [all_]
    refine ⟨_, s_Mo_spread2 G σ n _ lk hn h1n hn12 (fun b hb => all_in hn12 hb) (fun a b ha hb => hlk a b (by omega) (by omega)), ?_⟩
    rintro x σ1 ⟨e1, hsp⟩
    refine ⟨fun hx σ3 e3 σ4 e4 σ5 e5 σ6 e6 σ7 e7 σ8 e8 σ9 e9 σ10 e10 σ11 e11 σ12 e12 => ?_, fun hx => by rw [e1]; exact bad (Or.inr (fun c => hx ((hC x hsp).mpr c)))⟩
    have hc : C := (hC x hsp).mp hx
    obtain ⟨pp, hp3, hpp⟩ := nI_of2 (M := 3) (n := 3) (by decide) p0 (Int32.not_lt.mp p3)
    obtain ⟨W, hW, hWe⟩ := nI_of2 (M := 2) (n := 2) (by decide) w1 (Int32.not_lt.mp w2)
    obtain ⟨R, hR1, hR20, hRe⟩ : ∃ R, 1 ≤ R ∧ R ≤ 20 ∧ v5 = nI R := by
      have c1 : ¬ v5.toInt < 1 := fun q => w3 (i32_lt.mpr (by rw [show (1 : Int32).toInt = 1 by decide]; exact q))
      have c2 := i32_le.mp w4
      rw [show (20 : Int32).toInt = 20 by decide] at c2
      refine ⟨v5.toInt.toNat, by omega, by omega, i32_of (by omega) (by omega)⟩
    have f12 : MF FMo JMo σ σ12 := by
      rw [e12, e11, e10, e9, e8, e7, e6, e5, e4, e3, e1]
      exact ((((((((((MF.rf.fld (by decide)).fld (by decide)).fld (by decide)).fld (by decide)).fld (by decide)).fld (by decide)).fld (by decide)).fld (by decide)).fld (by decide)).fld (by decide))
    refine wipe σ12 _ R W pp ⟨nb, hc, hpp, hp3, hRe⟩ ?_ ?_ ?_ hR1 hR20 hW ?_ ?_ (by rw [f12.2 0 (by decide)]; exact hn) f12 ?_
    · rw [e12, e11, e10, e9, e8, e7]; simp [zup]
    · rw [← hpp, e12, e11, e10, e9, e8, e7, e6, e5, e4, e3]; simp [zup]
    · rw [e12, e11, e10, e9, e8, e7, e6, e5]; simp [zup]
    · rw [← hRe, e12, e11, e10, e9, e8, e7, e6]; simp [zup]
    · rw [← hWe, e12, e11, e10, e9, e8, e7, e6, e5, e4]; simp [zup]
    · rw [e12, e11, e10, e9, e8]; simp [zup]
  have one : SB0 (zNo σ v3) v1 v2 v4 v5 → zZ G M_Mo_start 4 X (fun r τ => ∃ x : Int32, r = some (.int x) ∧ MSP σ n mk len lk C v1 v2 v3 v4 v5 x τ) 64 [(0, zf G 32), (1, .int v1), (2, .int v2), (3, .int v3), (4, .int v4), (5, .int v5), (6, .int (1 : Int32))] [] σ := fun hb => b_Mo_start_64 E v1 v2 v3 v4 v5 1 σ ⟨fun _ => bad (Or.inl hb), fun q => absurd q (by decide)⟩
  refine b_Mo_start_0 E v1 v2 v3 v4 v5 σ ⟨fun h => one (Or.inl h), fun p0 => ⟨fun h => one (Or.inr (Or.inl h)), fun p3 => ⟨fun h => one (Or.inr (Or.inr (Or.inl h))), fun w0 => ⟨fun h => one (Or.inr (Or.inr (Or.inr (Or.inl h)))), fun w2 => ⟨fun h => one (Or.inr (Or.inr (Or.inr (Or.inr (Or.inl h))))), fun hs => ?_⟩⟩⟩⟩⟩
  have nb : (v2 = 2 → ¬ (v4 < 2 ∨ 8 < v4)) → ¬ v5 < 1 → v5 ≤ 20 → ¬ SB0 (zNo σ v3) v1 v2 v4 v5 := by
    intro hk hr1 hr2 q
    rcases q with q | q | q | q | q | q | q | q
    · exact p0 q
    · exact p3 q
    · exact w0 q
    · exact w2 q
    · rw [hs] at q; exact absurd q (by decide)
    · exact hr1 q
    · exact q hr2
    · exact hk q.1 q.2
  have b6 : v5 < 1 → SB0 (zNo σ v3) v1 v2 v4 v5 := fun h => Or.inr (Or.inr (Or.inr (Or.inr (Or.inr (Or.inl h)))))
  have b7 : ¬ v5 ≤ 20 → SB0 (zNo σ v3) v1 v2 v4 v5 := fun h => Or.inr (Or.inr (Or.inr (Or.inr (Or.inr (Or.inr (Or.inl h))))))
  have b8 : (v2 = 2 ∧ (v4 < 2 ∨ 8 < v4)) → SB0 (zNo σ v3) v1 v2 v4 v5 := fun h => Or.inr (Or.inr (Or.inr (Or.inr (Or.inr (Or.inr (Or.inr h))))))
  exact ⟨fun hw => ⟨fun h => one (b6 h), fun w3 => ⟨fun w4 => s0 (nb (fun q => absurd q hw) w3 w4) p0 p3 w0 w2 w3 w4, fun h => one (b7 h)⟩⟩, fun hw => ⟨fun h => one (b8 ⟨hw, Or.inl h⟩), fun k2 => ⟨fun h => one (b8 ⟨hw, Or.inr h⟩), fun k8 => ⟨fun h => one (b6 h), fun w3 => ⟨fun w4 => s0 (nb (fun _ q => q.elim k2 k8) w3 w4) p0 p3 w0 w2 w3 w4, fun h => one (b7 h)⟩⟩⟩⟩⟩
end
section
-- p10: the invariant
def SY (σ : zSt) : Prop := (∀ a b, a < 12 → b < 12 → σ 33 (12 * a + b) = σ 33 (12 * b + a)) ∧ ∃ n, σ 32 0 = nI n ∧ n ≤ 12 ∧ ∀ a c, a < 12 → n ≤ c → c < 32 → zIn (σ 7 a) (nI c) = false
def ST (σ : zSt) : Prop := (σ 0 1 = 0 ↔ σ 32 4 = 0) ∧ (¬ σ 0 1 = 0 → ∃ R, σ 1 5 = nI R ∧ σ 32 8 = nI R ∧ R ≤ 20 ∧ ∀ n, σ 32 0 = nI n → n ≤ 12 → ∀ q b, q ≤ R → b < n → σ 31 (q * 12 + b) = σ 50 (12 * q + b))
def INVT (σ : zSt) : Prop := INVL σ ∧ SY σ ∧ ST σ
theorem SY.of {σ τ : zSt} (h : SY σ) (e7 : τ 7 = σ 7) (e33 : τ 33 = σ 33) (e0 : τ 32 0 = σ 32 0) : SY τ := by
  obtain ⟨h1, n, h2, h3, h4⟩ := h
  exact ⟨fun a b ha hb => by rw [e33]; exact h1 a b ha hb, n, by rw [e0]; exact h2, h3, fun a c ha hc hc2 => by rw [e7]; exact h4 a c ha hc hc2⟩
theorem SY.c {σ τ : zSt} (h : SY σ) (hF : zFr FX σ τ) : SY τ := h.of (hF 7 (by decide)) (hF 33 (by decide)) (by rw [hF 32 (by decide)])
theorem SY.m {σ τ : zSt} (h : SY σ) (hF : MF FMo JMo σ τ) : SY τ := h.of (hF.at (by decide)) (hF.at (by decide)) (hF.2 0 (by decide))
theorem ST_0 {τ : zSt} (h0 : τ 0 1 = 0) (h4 : τ 32 4 = 0) : ST τ := ⟨⟨fun _ => h4, fun _ => h0⟩, fun q => absurd h0 q⟩
theorem ST.c {σ τ : zSt} (h : ST σ) (hF : RF FR σ τ) : ST τ := by
  obtain ⟨h1, h2⟩ := h
  have e0 : τ 0 = σ 0 := hF.at (by decide)
  have e32 : τ 32 = σ 32 := hF.at (by decide)
  refine ⟨by rw [e0, e32]; exact h1, fun q => ?_⟩
  rw [e0] at q
  obtain ⟨R, r1, r2, r3, r4⟩ := h2 q
  refine ⟨R, by rw [hF.2.2]; exact r1, by rw [e32]; exact r2, r3, fun n hn hle q b hq hb => ?_⟩
  rw [hF.at (c := 31) (by decide), hF.at (c := 50) (by decide)]
  exact r4 n (by rw [← e32]; exact hn) hle q b hq hb
theorem ST.m {σ τ : zSt} (h : ST σ) (hF : MF FHan [27, 29, 30] σ τ) : ST τ := by
  obtain ⟨h1, h2⟩ := h
  have e0 : τ 0 = σ 0 := hF.at (by decide)
  have e1 : τ 1 = σ 1 := hF.at (by decide)
  refine ⟨by rw [e0, hF.2 4 (by decide)]; exact h1, fun q => ?_⟩
  rw [e0] at q
  obtain ⟨R, r1, r2, r3, r4⟩ := h2 q
  refine ⟨R, by rw [e1]; exact r1, by rw [hF.2 8 (by decide)]; exact r2, r3, fun n hn hle q b hq hb => ?_⟩
  rw [hF.at (c := 31) (by decide), hF.at (c := 50) (by decide)]
  exact r4 n (by rw [← hF.2 0 (by decide)]; exact hn) hle q b hq hb
theorem SY_begin {σ : zSt} {v : Int32} (h1 : ¬ v < 1) (h2 : v ≤ 12) : SY (mbegin (zup (nclear σ v) 0 1 0) v) := by
  have c1 : ¬ v.toInt < 1 := fun q => h1 (i32_lt.mpr (by rw [show (1 : Int32).toInt = 1 by decide]; exact q))
  have c2 := i32_le.mp h2
  rw [show (12 : Int32).toInt = 12 by decide] at c2
  have e : v = nI v.toInt.toNat := i32_of (by omega) (by omega)
  have z33 : ∀ k, k < 144 → mbegin (zup (nclear σ v) 0 1 0) v 33 k = 0 := fun k hk => by unfold mbegin; rw [zfill_ne (by decide)]; simp [zfill, hk]
  refine ⟨fun a b ha hb => by rw [z33 _ (by omega), z33 _ (by omega)], v.toInt.toNat, ?_, by omega, fun a c ha _ hc => ?_⟩
  · rw [← e]; simp [mbegin, zfill, zup]
  · have e7 : mbegin (zup (nclear σ v) 0 1 0) v 7 a = 0 := by simp [mbegin, nclear, zfill, zup, ha]
    rw [e7]; exact zIn_0 hc
theorem SY_link {σ : zSt} {i j n : Nat} {len : Int32} (h : SY σ) (hn : σ 32 0 = nI n) (hle : n ≤ 12) (hi : i < n) (hj : j < n) (hij : i ≠ j) : SY (mlink (zup (njoin σ i j len) 0 1 0) i j len) := by
  obtain ⟨h1, n', h2, h3, h4⟩ := h
  have en : n' = n := (nI_eq (by omega) (by omega)).mp (h2.symm.trans hn)
  subst en
  have u7 : mlink (zup (njoin σ i j len) 0 1 0) i j len 7 = njoin σ i j len 7 := by
    unfold mlink
    rw [zup_ne (by decide), zup_ne (by decide), zup_ne (by decide), zup_ne (by decide), zup_ne (by decide)]
  have u33 : mlink (zup (njoin σ i j len) 0 1 0) i j len 33 = upd (upd (σ 33) (12 * i + j) len) (12 * j + i) len := by
    unfold mlink
    rw [zup_ne (by decide), zup_self, zup_self, zup_ne (by decide), zup_ne (by decide), njoin_hi 33 (by decide)]
  refine ⟨fun a b ha hb => ?_, n', ?_, h3, fun a c ha hc hc2 => ?_⟩
  · rw [u33]
    unfold upd
    by_cases c1 : 12 * a + b = 12 * j + i
    · have c2 : 12 * b + a = 12 * i + j := by omega
      rw [if_pos c1, c2]
      by_cases c3 : 12 * i + j = 12 * j + i
      · rw [if_pos c3]
      · rw [if_neg c3, if_pos rfl]
    · rw [if_neg c1]
      by_cases c2 : 12 * a + b = 12 * i + j
      · have c3 : 12 * b + a = 12 * j + i := by omega
        rw [if_pos c2, if_pos c3]
      · rw [if_neg c2, if_neg (by omega), if_neg (by omega)]
        exact h1 a b ha hb
  · unfold mlink
    simp [zup, njoin_hi 32 (Nat.le_refl 32)]
    exact h2
  · rw [u7, njoin_7 (a := a) (b := c) (by omega) (by omega) hc2 hij, h4 a c ha hc hc2]
    have k1 : ¬ (a = i ∧ c = j) := fun q => by omega
    have k2 : ¬ (a = j ∧ c = i) := fun q => by omega
    rw [decide_eq_false k1, decide_eq_false k2]; rfl
theorem SY_0 : SY (mbegin s0 1) := by
  have z33 : ∀ k, k < 144 → mbegin s0 1 33 k = 0 := fun k hk => by unfold mbegin; rw [zfill_ne (by decide)]; simp [zfill, hk]
  refine ⟨fun a b ha hb => by rw [z33 _ (by omega), z33 _ (by omega)], 1, ?_, by decide, fun a c ha _ hc => ?_⟩
  · unfold mbegin
    rw [zfill_ne (by decide), zfill_ne (by decide)]
    simp [zup]; rfl
  · have e7 : mbegin s0 1 7 a = 0 := by unfold mbegin; rw [zfill_ne (by decide), zfill_ne (by decide)]; rfl
    rw [e7]; exact zIn_0 hc
theorem INVT_0 : INVT (mbegin s0 1) := ⟨INVL_0, SY_0, ST_0 (by unfold mbegin; rw [zfill_ne (by decide), zfill_ne (by decide)]; rfl) (by unfold mbegin; rw [zfill_ne (by decide), zfill_ne (by decide)]; simp [zup])⟩
section INVTS
variable {σ τ υ : zSt}
theorem INVT.c (h : INVT σ) (hC : CI τ) (hF : RF FR σ τ) : INVT τ := ⟨INVL.c h.1 hC (FR_x hF), h.2.1.c (FR_x hF), h.2.2.c hF⟩
theorem INVT.m (h : INVT σ) (hM : MI τ) (hF : MF FHan [27, 29, 30] σ τ) : INVT τ := ⟨INVL.m h.1 hM (hF.mono (by decide) (by decide)), h.2.1.m (hF.mono (by decide) (by decide)), h.2.2.m hF⟩
theorem INVT.begin {v x y : Int32} (h : INVT σ) (h1 : (x = -1 ∧ τ = σ ∧ (v < 1 ∨ ¬ v ≤ 12)) ∨ (x = 0 ∧ ¬ v < 1 ∧ v ≤ 12 ∧ τ = zup (nclear σ v) 0 1 0)) (h2 : (y = -1 ∧ υ = τ ∧ (v < 1 ∨ ¬ v ≤ 12)) ∨ (y = 0 ∧ ¬ v < 1 ∧ v ≤ 12 ∧ υ = mbegin τ v)) : x = y ∧ INVT υ := by
  obtain ⟨e, hI⟩ := INVL.begin h.1 h1 h2
  refine ⟨e, hI, ?_⟩
  rcases h1 with ⟨e1, rfl, q1⟩ | ⟨e1, q1, q2, e2⟩
  · rcases h2 with ⟨e3, rfl, q3⟩ | ⟨e3, q3, q4, e4⟩
    · exact h.2
    · rcases q1 with q | q
      · exact absurd q q3
      · exact absurd q4 q
  · rcases h2 with ⟨e3, rfl, q3⟩ | ⟨e3, q3, q4, e4⟩
    · rcases q3 with q | q
      · exact absurd q q1
      · exact absurd q2 q
    · rw [e4, e2]
      refine ⟨SY_begin q1 q2, ST_0 ?_ ?_⟩
      · simp [mbegin, zfill, zup]
      · simp [mbegin, zfill, zup]
theorem INVT.link {n m : Nat} {x y a b len : Int32} (h : INVT σ) (hn : σ 2 0 = nI n) (hln : n ≤ 12) (hm : τ 32 0 = nI m) (hlm : m ≤ 12) (h1 : (x = -1 ∧ τ = σ ∧ (zHas σ a = false ∨ zHas σ b = false ∨ a = b ∨ len < 1 ∨ ¬ len ≤ 9)) ∨ (∃ i j, i < n ∧ j < n ∧ a = nI i ∧ b = nI j ∧ i ≠ j ∧ ¬ len < 1 ∧ len ≤ 9 ∧ τ = zup (njoin σ i j len) 0 1 0 ∧ x = τ 2 1)) (h2 : (y = -1 ∧ υ = τ ∧ (zNo τ a = true ∨ zNo τ b = true ∨ a = b ∨ len < 1 ∨ ¬ len ≤ 9)) ∨ (∃ i j, i < m ∧ j < m ∧ a = nI i ∧ b = nI j ∧ i ≠ j ∧ ¬ len < 1 ∧ len ≤ 9 ∧ υ = mlink τ i j len ∧ y = υ 32 1)) : x = y ∧ INVT υ := by
  obtain ⟨e, hI⟩ := INVL.link h.1 hn hln hm hlm h1 h2
  refine ⟨e, hI, ?_⟩
  have g1 : σ 2 0 = σ 32 0 := h.1.2.1
  rcases h1 with ⟨e1, e2, q⟩ | ⟨i, j, hi, hj, ea, eb, hij, q1, q2, e2, e1⟩
  · rcases h2 with ⟨e3, e4, _⟩ | ⟨i, j, hi, hj, ea, eb, hij, q1, q2, e4, e3⟩
    · rw [e4, e2]; exact h.2
    · exfalso
      rw [e2] at hm
      rcases q with q | q | q | q | q
      · rw [zHas_no g1, ea, zNo_in hm hlm hi] at q; exact absurd q (by decide)
      · rw [zHas_no g1, eb, zNo_in hm hlm hj] at q; exact absurd q (by decide)
      · rw [ea, eb] at q; exact hij (nI_in12 (by omega) (by omega) q)
      · exact q1 q
      · exact q q2
  · have hn3 : τ 32 0 = nI n := by rw [e2, zup_ne (by decide), njoin_hi 32 (Nat.le_refl 32), ← g1]; exact hn
    rcases h2 with ⟨e3, e4, q⟩ | ⟨i', j', hi', hj', ea', eb', _, _, _, e4, e3⟩
    · exfalso
      rcases q with q | q | q | q | q
      · rw [ea, zNo_in hn3 hln hi] at q; exact absurd q (by decide)
      · rw [eb, zNo_in hn3 hln hj] at q; exact absurd q (by decide)
      · rw [ea, eb] at q; exact hij (nI_in12 (by omega) (by omega) q)
      · exact q1 q
      · exact q q2
    · have ei : i' = i := nI_in12 (by omega) (by omega) (ea'.symm.trans ea)
      have ej : j' = j := nI_in12 (by omega) (by omega) (eb'.symm.trans eb)
      rw [ei, ej, e2] at e4
      rw [e4]
      refine ⟨SY_link h.2.1 (by rw [← g1]; exact hn) hln hi hj hij, ST_0 ?_ ?_⟩
      · simp [mlink, zup]
      · simp [mlink, zup]
theorem INVT.mark {n m : Nat} {x y a v : Int32} (h : INVT σ) (hn : σ 2 0 = nI n) (hln : n ≤ 12) (hm : τ 32 0 = nI m) (hlm : m ≤ 12) (h1 : (x = -1 ∧ τ = σ ∧ (zHas σ a = false ∨ v < 0 ∨ ¬ v ≤ 99)) ∨ (∃ j, j < n ∧ a = nI j ∧ ¬ v < 0 ∧ v ≤ 99 ∧ x = σ 6 j ∧ τ = zup (zup σ 6 j v) 0 1 0)) (h2 : (y = -1 ∧ υ = τ ∧ (zNo τ a = true ∨ v < 0 ∨ ¬ v ≤ 99)) ∨ (∃ j, j < m ∧ a = nI j ∧ ¬ v < 0 ∧ v ≤ 99 ∧ y = τ 34 j ∧ υ = zup (zup τ 34 j v) 32 4 0)) : x = y ∧ INVT υ := by
  obtain ⟨e, hI⟩ := INVL.mark h.1 hn hln hm hlm h1 h2
  refine ⟨e, hI, ?_⟩
  have g1 : σ 2 0 = σ 32 0 := h.1.2.1
  rcases h1 with ⟨e1, e2, q⟩ | ⟨i, hi, ea, q1, q2, e1, e2⟩
  · rcases h2 with ⟨e3, e4, _⟩ | ⟨i, hi, ea, q1, q2, e3, e4⟩
    · rw [e4, e2]; exact h.2
    · exfalso
      rw [e2] at hm
      rcases q with q | q | q
      · rw [zHas_no g1, ea, zNo_in hm hlm hi] at q; exact absurd q (by decide)
      · exact q1 q
      · exact q q2
  · have hn3 : τ 32 0 = nI n := by rw [e2, zup_ne (by decide), zup_ne (by decide), ← g1]; exact hn
    rcases h2 with ⟨e3, e4, q⟩ | ⟨i', hi', ea', _, _, e3, e4⟩
    · exfalso
      rcases q with q | q | q
      · rw [ea, zNo_in hn3 hln hi] at q; exact absurd q (by decide)
      · exact q1 q
      · exact q q2
    · rw [e4, e2]
      refine ⟨h.2.1.of ?_ ?_ ?_, ST_0 ?_ ?_⟩
      · rw [zup_ne (by decide), zup_ne (by decide), zup_ne (by decide), zup_ne (by decide)]
      · rw [zup_ne (by decide), zup_ne (by decide), zup_ne (by decide), zup_ne (by decide)]
      · simp [zup]
      · simp [zup]
      · simp [zup]
/-- the net as start sees it -/
abbrev nT (σ : zSt) : Nat := (σ 32 0).toNatClampNeg
abbrev lenT (σ : zSt) : Nat → Nat → Int32 := fun a b => σ 33 (12 * b + a)
abbrev lkT (σ : zSt) : Nat → Nat → Bool := fun a b => zLk σ (nI a) (nI b)
abbrev CoT (σ : zSt) : Prop := zRe σ (nT σ) (nT σ - 1) = zAll (nI (nT σ))
theorem nT_of (h : INVT σ) : σ 32 0 = nI (nT σ) ∧ 1 ≤ nT σ ∧ nT σ ≤ 12 := by
  obtain ⟨n, h1, h2, h3, _⟩ := h.1.1.2
  have e : nT σ = n := by
    show (σ 32 0).toNatClampNeg = n
    rw [h1]; exact nI_clamp (by omega)
  rw [e]; exact ⟨h1, h2, h3⟩
theorem lkT_sym (h : SY σ) {a b : Nat} (ha : a < 12) (hb : b < 12) : lkT σ a b = lkT σ b a := by
  show zLk σ (nI a) (nI b) = zLk σ (nI b) (nI a)
  unfold zLk
  rw [zi12', zi12', nI_clamp (by omega), nI_clamp (by omega), h.1 a b ha hb]
theorem w_P_start (G : zG) (σ : zSt) (p w s k r : Int32) (h : INVT σ) : zI G 7 M_P_start [zf G 0, .int p, .int w, .int s, .int k, .int r] σ (fun x τ => PSP σ (nT σ) (σ 34) (lenT σ) (lkT σ) p w s k r x τ) := by
  obtain ⟨n1, n2, n3⟩ := nT_of h
  obtain ⟨g1, g2, g3, g4, g5⟩ := h.1.2
  refine s_P_start2 G σ (nT σ) p w s k r (σ 34) (lenT σ) (lkT σ) h.1.1.1 (g1.trans n1) n2 n3 g4 (fun a b ha hb => ?_) (fun a b ha hb => ?_)
  · rw [g5 _ (by omega), Nat.mul_comm a 12]
    exact h.2.1.1 a b ha hb
  · rw [g3 b a hb ha]
    exact lkT_sym h.2.1 hb ha
theorem w_Mo_start (G : zG) (σ τ : zSt) (p w s k r : Int32) (h : INVT σ) {x : Int32} (hp : PSP σ (nT σ) (σ 34) (lenT σ) (lkT σ) p w s k r x τ) : zI G 4 M_Mo_start [zf G 32, .int p, .int w, .int s, .int k, .int r] τ (fun y υ => MSP τ (nT σ) (σ 34) (lenT σ) (lkT σ) (CoT σ) p w s k r y υ) := by
  obtain ⟨n1, n2, n3⟩ := nT_of h
  obtain ⟨g1, g2, g3, g4, g5⟩ := h.1.2
  have hC : ∀ x, SPR (nT σ) (lkT σ) x → (x = zAll (nI (nT σ)) ↔ CoT σ) := by
    intro x hx
    refine (conn_iff n3 n2 (fun a b ha hb => g3 a b (by omega) (by omega)) ?_ hx).symm
    obtain ⟨_, n', q1, q2, q3⟩ := h.2.1
    have en : n' = nT σ := (nI_eq (by omega) (by omega)).mp (q1.symm.trans n1)
    rw [en] at q3
    exact fun a c ha hc hc2 => q3 a c (by omega) hc hc2
  have e : (∀ c, 32 ≤ c → τ c = σ c) := by
    rcases hp with ⟨_, e, _⟩ | ⟨_, _, ⟨_, hF⟩, _⟩
    · intro c _; rw [e]
    · exact lowFX hF
  have e33 := e 33 (by decide)
  refine s_Mo_start2 G τ (nT σ) p w s k r (σ 34) (lenT σ) (lkT σ) (CoT σ) (h.1.1.2.of e) (by rw [e 32 (by decide)]; exact n1) n2 n3 (fun a _ => by rw [e 34 (by decide)]) (fun a b _ _ => by rw [e33]) (fun a b _ _ => ?_) hC
  unfold zLk
  rw [e33]
  rfl
theorem INVT.start {p w s k r x y : Int32} (h : INVT σ) (h1 : PSP σ (nT σ) (σ 34) (lenT σ) (lkT σ) p w s k r x τ) (h2 : MSP τ (nT σ) (σ 34) (lenT σ) (lkT σ) (CoT σ) p w s k r y υ) : INVT υ := by
  have g1 : σ 2 0 = σ 32 0 := h.1.2.1
  have hno : (!zHas σ s) = zNo σ s := by rw [zHas_no g1, Bool.not_not]
  rcases h1 with ⟨e1, e2, q⟩ | ⟨nb, hc, ⟨c1, c2⟩, c3, pp, R, c4, c5, c6, c7, c8, c9⟩
  · rcases h2 with ⟨e3, e4, _⟩ | ⟨nb, hc, _⟩
    · rw [e4, e2]; exact h
    · exfalso
      rw [e2] at nb
      rw [hno] at q
      rcases q with q | q
      · exact nb q
      · exact q hc
  · have hτ : INVL τ := INVL.c h.1 c1 c2
    rcases h2 with ⟨e3, e4, q⟩ | ⟨_, _, ⟨d1, d2⟩, d3, pp', R', d4, d5, d6, d7, d8, d9⟩
    · exfalso
      have e32 : zNo τ s = zNo σ s := by unfold zNo; rw [c2 32 (by decide)]
      rw [e32, ← hno] at q
      rcases q with q | q
      · exact nb q
      · exact q hc
    · have ep : pp' = pp := nI_in12 (by omega) (by omega) (d4.symm.trans c4)
      have er : R' = R := (nI_eq (by omega) (by omega)).mp (d6.symm.trans c6)
      rw [ep, er] at d9
      rw [er] at d8
      refine ⟨INVL.m hτ d1 d2, (h.2.1.c c2).m d2, ?_, fun _ => ⟨R, ?_, d8, c7, fun n hn hle q b hq hb => ?_⟩⟩
      · rw [d2.at (by decide), c3, d3]
      · rw [d2.at (by decide)]; exact c8
      · have e0 : υ 32 0 = σ 32 0 := by rw [d2.2 0 (by decide), c2 32 (by decide)]
        have en : nT σ = n := by
          show (σ 32 0).toNatClampNeg = n
          rw [← e0, hn]; exact nI_clamp (by omega)
        rw [en] at c9 d9
        rw [d2.at (c := 31) (by decide), c9 q b hq hb, d9 q b hq hb]
theorem INVT.inStep {a r x y : Int32} (h : INVT σ) (h1 : τ = σ ∧ ((x = -1 ∧ ¬ (¬ σ 0 1 = 0 ∧ zHas σ a = true ∧ ¬ r < 0 ∧ ¬ σ 1 5 < r)) ∨ ((¬ σ 0 1 = 0 ∧ zHas σ a = true ∧ ¬ r < 0 ∧ ¬ σ 1 5 < r) ∧ ∃ i j, i < 12 ∧ j ≤ 20 ∧ a = nI i ∧ r = nI j ∧ x = σ 31 (j * 12 + i)))) (h2 : υ = τ ∧ ((y = -1 ∧ (τ 32 4 = 0 ∨ zNo τ a = true ∨ r < 0 ∨ ¬ r ≤ τ 32 8)) ∨ (¬ (τ 32 4 = 0 ∨ zNo τ a = true ∨ r < 0 ∨ ¬ r ≤ τ 32 8) ∧ ∃ i j, i < 12 ∧ j ≤ 20 ∧ a = nI i ∧ r = nI j ∧ y = τ 50 (12 * j + i)))) : x = y ∧ INVT υ := by
  obtain ⟨eτ, h1⟩ := h1
  obtain ⟨eυ, h2⟩ := h2
  rw [eτ] at h2
  refine ⟨?_, by rw [eυ, eτ]; exact h⟩
  have g1 : σ 2 0 = σ 32 0 := h.1.2.1
  obtain ⟨s1, s2⟩ := h.2.2
  have hN : zHas σ a = !zNo σ a := zHas_no g1 a
  rcases h1 with ⟨e1, q1⟩ | ⟨q1, i, j, hi, hj, ea, er, e1⟩
  · rcases h2 with ⟨e2, _⟩ | ⟨q2, _⟩
    · rw [e1, e2]
    · exfalso
      apply q1
      have k0 : ¬ σ 0 1 = 0 := fun q => q2 (Or.inl (s1.mp q))
      obtain ⟨R, r1, r2, _⟩ := s2 k0
      refine ⟨k0, ?_, fun q => q2 (Or.inr (Or.inr (Or.inl q))), fun q => q2 (Or.inr (Or.inr (Or.inr (fun q3 => ?_))))⟩
      · rw [hN]
        cases hz : zNo σ a with
        | true => exact absurd (Or.inr (Or.inl hz)) q2
        | false => rfl
      · rw [r1, ← r2] at q
        exact absurd q (Int32.not_lt.mpr q3)
  · obtain ⟨k0, k1, k2, k3⟩ := q1
    obtain ⟨R, r1, r2, r3, r4⟩ := s2 k0
    rcases h2 with ⟨e2, q2⟩ | ⟨q2, i', j', hi', hj', ea', er', e2⟩
    · exfalso
      rcases q2 with q | q | q | q
      · exact k0 (s1.mpr q)
      · rw [hN, q] at k1; exact absurd k1 (by decide)
      · exact k2 q
      · rw [r1, ← r2] at k3
        exact q (Int32.not_lt.mp k3)
    · have ei : i' = i := nI_in12 hi' hi (ea'.symm.trans ea)
      have ej : j' = j := (nI_eq (by omega) (by omega)).mp (er'.symm.trans er)
      rw [e1, e2, ei, ej]
      obtain ⟨n, hn, h1n, hn12, _⟩ := h.1.1.2
      refine r4 n hn hn12 j i ?_ ?_
      · rw [r1, er] at k3
        rcases Nat.lt_or_ge R j with q | q
        · exact absurd (nI_lt q (by omega)) k3
        · exact q
      · rw [ea] at k1
        obtain ⟨i2, hi2, e⟩ := zHas_of k1 (g1.trans hn) hn12
        rw [nI_in12 hi (by omega) e]; exact hi2
end INVTS
end
