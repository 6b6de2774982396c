-- The reference chooses links, exactly
/-- the links before a, b have been looked at -/
def MCI (σ τ : zSt) (n : Nat) (lk : Nat → Nat → Bool) (L : Nat → Nat) (a b : Nat) : Prop :=
  MF [44] [20] σ τ ∧ τ 32 20 = nI (cA n lk L a + cR n lk L a b) ∧ (∀ x y, x < n → y < n → (chP n lk L a b x y → τ 44 (12 * x + y) = 1) ∧ (¬ chP n lk L a b x y → τ 44 (12 * x + y) = 0))
set_option maxHeartbeats 1000000 in
theorem s_Mo_choose2 (G : zG) (σ : zSt) (n : Nat) (lk : Nat → Nat → Bool) (L : Nat → Nat) (hn : σ 32 0 = nI n) (hle : n ≤ 12) (hL : ∀ c, c < n → σ 42 c = nI (L c) ∧ L c < n) (hlk : ∀ a b, a < n → b < n → zLk σ (nI a) (nI b) = lk a b) (h44 : ∀ j, j < 144 → σ 44 j = 0) (h20 : σ 32 20 = 0) : zV G 1 M_Mo_choose [zf G 32] σ (fun τ => MCI σ τ n lk L n (n + 1)) := by
  refine zSpec.of (by decide) (Nat.le_of_ble_eq_true rfl) rfl (fun X E => ?_)
  refine b_Mo_choose_0 E σ ?_
  have s0 : MCI σ σ n lk L 0 1 := ⟨MF.rf, by rw [cR_0 1 (by omega)]; exact h20, fun x y hx hy => ⟨fun q => absurd q chP_0, fun _ => h44 _ (by omega)⟩⟩
  refine z_for n (fun a τ => zZ G M_Mo_choose 1 X (fun r τ => r = none ∧ MCI σ τ n lk L n (n + 1)) 2 [(0, zf G 32), (1, .int (nI a))] [] τ) (fun a τ => MCI σ τ n lk L a (a + 1)) ?_ ?_ 0 σ (Nat.zero_le _) s0
  · intro a τ ha hI iha
    refine b_Mo_choose_2 E (nI a) τ ⟨fun q => absurd q (by rw [hI.1.2 0 (by decide), hn]; exact nI_ge ha (by omega)), fun _ => ?_⟩
    rw [nI_1]
    refine z_for n (fun b τ => zZ G M_Mo_choose 1 X (fun r τ => r = none ∧ MCI σ τ n lk L n (n + 1)) 14 [(0, zf G 32), (1, .int (nI a)), (2, .int (nI b))] [] τ) (fun b τ => a < b ∧ MCI σ τ n lk L a b) ?_ ?_ (a + 1) τ (by omega) ⟨by omega, hI⟩
    · intro b τ hb ⟨hab, hF, hc, hp⟩ ihb
      have ia : vp_in (nI a) 12 := vp_in_nI (by omega) (by decide)
      have ib : vp_in (nI b) 12 := vp_in_nI (by omega) (by decide)
      have ca : (nI a).toNatClampNeg = a := nI_clamp (by omega)
      have cb : (nI b).toNatClampNeg = b := nI_clamp (by omega)
      have iab : vp_in (((12 : Int32) * nI a) + nI b) 144 := by rw [zi12']; exact vp_in_nI (by omega) (by decide)
      have iba : vp_in (((12 : Int32) * nI b) + nI a) 144 := by rw [zi12']; exact vp_in_nI (by omega) (by decide)
      have cab : (((12 : Int32) * nI a) + nI b).toNatClampNeg = 12 * a + b := by rw [zi12']; exact nI_clamp (by omega)
      have cba : (((12 : Int32) * nI b) + nI a).toNatClampNeg = 12 * b + a := by rw [zi12']; exact nI_clamp (by omega)
      have nt : τ 32 0 = nI n := by rw [hF.2 0 (by decide)]; exact hn
      have e42 : τ 42 = σ 42 := hF.at (by decide)
      have elk : ∀ x y, x < n → y < n → zLk τ (nI x) (nI y) = lk x y := fun x y hx hy => by
        rw [← hlk x y hx hy]; unfold zLk; rw [hF.at (c := 33) (by decide)]
      have lA := (hL a ha)
      have lB := (hL b hb)
      -- what was found is written down
      have fin : ∀ (f : Int32), ((f = 0 ∧ ch1 n lk L a b = false) ∨ (f = 1 ∧ ch1 n lk L a b = true)) → ∀ (w : Int32) (σ1 σ2 σ3 : zSt), σ1 = zup τ 44 (((12 : Int32) * nI a) + nI b).toNatClampNeg (vp_nar .boolean f) → σ2 = zup σ1 44 (((12 : Int32) * nI b) + nI a).toNatClampNeg (vp_nar .boolean f) → σ3 = zup σ2 32 20 (σ2 32 20 + w) → w = f → zZ G M_Mo_choose 1 X (fun r τ => r = none ∧ MCI σ τ n lk L n (n + 1)) 14 [(0, zf G 32), (1, .int (nI a)), (2, .int (nI b + 1))] [] σ3 := by
        intro f hf w σ1 σ2 σ3 e1 e2 e3 hw
        rw [cab] at e1
        rw [cba] at e2
        have hnar : vp_nar .boolean f = f := by rcases hf with ⟨h, _⟩ | ⟨h, _⟩ <;> rw [h] <;> decide
        rw [hnar] at e1 e2
        rw [nI_1]
        have e44 : σ3 44 = upd (upd (τ 44) (12 * a + b) f) (12 * b + a) f := by rw [e3, zup_ne (by decide), e2, zup_self, e1, zup_self]
        refine ihb σ3 ⟨by omega, ?_, ?_, fun x y hx hy => ?_⟩
        · rw [e3, e2, e1]
          exact ((hF.up (by decide) (by decide)).up (by decide) (by decide)).fld (by decide)
        · have q : σ2 32 20 = nI (cA n lk L a + cR n lk L a b) := by rw [e2, zup_ne (by decide), e1, zup_ne (by decide)]; exact hc
          rw [e3, zup_self, upd_eq, q, hw]
          show _ = nI (cA n lk L a + (cR n lk L a b + _))
          rcases hf with ⟨h, h2⟩ | ⟨h, h2⟩
          · rw [h, if_neg (fun q => by rw [h2] at q; exact absurd q.2 (by decide)), Int32.add_zero, Nat.add_zero]
          · rw [h, if_pos ⟨hab, h2⟩, nI_1, Nat.add_assoc]
        · rw [e44, chP_s hab]
          by_cases k2 : 12 * x + y = 12 * b + a
          · have x1 : x = b := by omega
            have x2 : y = a := by omega
            rw [k2, upd_eq]
            rcases hf with ⟨h, h2⟩ | ⟨h, h2⟩
            · rw [h]
              refine ⟨fun q => ?_, fun _ => rfl⟩
              exfalso
              rcases q with q | q
              · unfold chP chB at q
                rw [x1, x2, if_neg (by omega), if_pos hab, h2] at q
                exact absurd q.1 (by decide)
              · rw [h2] at q; exact absurd q.1 (by decide)
            · rw [h]
              exact ⟨fun _ => rfl, fun q => absurd (Or.inr ⟨h2, Or.inr ⟨x1, x2⟩⟩) q⟩
          · rw [upd_ne k2]
            by_cases k1 : 12 * x + y = 12 * a + b
            · have x1 : x = a := by omega
              have x2 : y = b := by omega
              rw [k1, upd_eq]
              rcases hf with ⟨h, h2⟩ | ⟨h, h2⟩
              · rw [h]
                refine ⟨fun q => ?_, fun _ => rfl⟩
                exfalso
                rcases q with q | q
                · unfold chP chB at q
                  rw [x1, x2, if_pos hab, h2] at q
                  exact absurd q.1 (by decide)
                · rw [h2] at q; exact absurd q.1 (by decide)
              · rw [h]
                exact ⟨fun _ => rfl, fun q => absurd (Or.inr ⟨h2, Or.inl ⟨x1, x2⟩⟩) q⟩
            · rw [upd_ne k1]
              obtain ⟨p1, p2⟩ := hp x y hx hy
              refine ⟨fun q => p1 (q.elim id (fun q => ?_)), fun q => p2 (fun q2 => q (Or.inl q2))⟩
              exfalso
              rcases q.2 with q | q
              · exact k1 (by rw [q.1, q.2])
              · exact k2 (by rw [q.1, q.2])
      have fin2 : ∀ (f : Int32), ((f = 0 ∧ ch1 n lk L a b = false) ∨ (f = 1 ∧ ch1 n lk L a b = true)) → (vp_in (((12 : Int32) * nI a) + nI b) 144 ∧ ∀ σ1 : zSt, σ1 = zup τ 44 (((12 : Int32) * nI a) + nI b).toNatClampNeg (vp_nar .boolean f) → (vp_in (((12 : Int32) * nI b) + nI a) 144 ∧ ∀ σ2 : zSt, σ2 = zup σ1 44 (((12 : Int32) * nI b) + nI a).toNatClampNeg (vp_nar .boolean f) → ((f = 0 → (∀ σ3 : zSt, σ3 = zup σ2 32 20 ((σ2 32 20) + (0 : Int32)) → zZ G M_Mo_choose 1 X (fun r τ => r = none ∧ MCI σ τ n lk L n (n + 1)) 14 [(0, zf G 32), (1, .int (nI a)), (2, .int (nI b + 1))] [] σ3)) ∧ (¬ f = 0 → (∀ σ4 : zSt, σ4 = zup σ2 32 20 ((σ2 32 20) + (1 : Int32)) → zZ G M_Mo_choose 1 X (fun r τ => r = none ∧ MCI σ τ n lk L n (n + 1)) 14 [(0, zf G 32), (1, .int (nI a)), (2, .int (nI b + 1))] [] σ4))))) := by
        intro f hf
        refine ⟨iab, fun σ1 e1 => ⟨iba, fun σ2 e2 => ⟨fun h0 σ3 e3 => fin f hf 0 σ1 σ2 σ3 e1 e2 e3 h0.symm, fun h0 σ3 e3 => fin f hf 1 σ1 σ2 σ3 e1 e2 e3 ?_⟩⟩⟩
        rcases hf with ⟨h, _⟩ | ⟨h, _⟩
        · exact absurd h h0
        · exact h.symm
      -- the loops that ask whether the link is the first
      have ask : ∀ (f : Int32), ((f = 0 ∧ ch1 n lk L a b = false) ∨ (f = 1 ∧ lk a b = true ∧ ¬ L a = L b)) → zZ G M_Mo_choose 1 X (fun r τ => r = none ∧ MCI σ τ n lk L n (n + 1)) 55 [(0, zf G 32), (1, .int (nI a)), (2, .int (nI b)), (3, .int f), (4, .int (0 : Int32))] [] τ := by
        intro f hf0
        refine z_for n (fun i (f : Int32) => zZ G M_Mo_choose 1 X (fun r τ => r = none ∧ MCI σ τ n lk L n (n + 1)) 55 [(0, zf G 32), (1, .int (nI a)), (2, .int (nI b)), (3, .int f), (4, .int (nI i))] [] τ) (fun c f => (f = 0 ∧ ch1 n lk L a b = false) ∨ (f = 1 ∧ lk a b = true ∧ ¬ L a = L b ∧ ∀ c' d', c' < c → d' < n → eqP lk L a b c' d' = false)) ?_ ?_ 0 f (Nat.zero_le _) (hf0.imp id (fun h => ⟨h.1, h.2.1, h.2.2, fun c' d' h => absurd h (Nat.not_lt_zero c')⟩))
        · intro c f hc hf ihc
          have ic : vp_in (nI c) 12 := vp_in_nI (by omega) (by decide)
          have cc : (nI c).toNatClampNeg = c := nI_clamp (by omega)
          refine b_Mo_choose_55 E (nI a) (nI b) f (nI c) τ ⟨fun q => absurd q (by rw [nt]; exact nI_ge hc (by omega)), fun _ => ⟨fun h0 => ?_, fun h0 => ?_⟩⟩
          · rcases hf with hf | hf
            · exact fin2 f (Or.inl hf)
            · rw [hf.1] at h0; exact absurd h0 (by decide)
          rw [nI_1]
          refine z_for n (fun i (f : Int32) => zZ G M_Mo_choose 1 X (fun r τ => r = none ∧ MCI σ τ n lk L n (n + 1)) 74 [(0, zf G 32), (1, .int (nI a)), (2, .int (nI b)), (3, .int f), (4, .int (nI c)), (5, .int (nI i))] [] τ) (fun d f => c < d ∧ ((f = 0 ∧ ch1 n lk L a b = false) ∨ (f = 1 ∧ lk a b = true ∧ ¬ L a = L b ∧ (∀ c' d', c' < c → d' < n → eqP lk L a b c' d' = false) ∧ ∀ d', d' < d → eqP lk L a b c d' = false))) ?_ ?_ (c + 1) f (by omega) ⟨by omega, hf.imp id (fun h => ⟨h.1, h.2.1, h.2.2.1, h.2.2.2, fun d' hd' => ?_⟩)⟩
          · intro d f hd ⟨hcd, hf⟩ ihd
            have id : vp_in (nI d) 12 := vp_in_nI (by omega) (by decide)
            have cd : (nI d).toNatClampNeg = d := nI_clamp (by omega)
            have n0 : f = 0 → zZ G M_Mo_choose 1 X (fun r τ => r = none ∧ MCI σ τ n lk L n (n + 1)) 74 [(0, zf G 32), (1, .int (nI a)), (2, .int (nI b)), (3, .int (0 : Int32)), (4, .int (nI c)), (5, .int (nI d + 1))] [] τ := fun h => by
              rw [nI_1]
              refine ihd 0 ⟨by omega, Or.inl ⟨rfl, ?_⟩⟩
              rcases hf with hf | hf
              · exact hf.2
              · rw [hf.1] at h; exact absurd h (by decide)
            have n1 : ¬ f = 0 → eqP lk L a b c d = false → zZ G M_Mo_choose 1 X (fun r τ => r = none ∧ MCI σ τ n lk L n (n + 1)) 74 [(0, zf G 32), (1, .int (nI a)), (2, .int (nI b)), (3, .int (1 : Int32)), (4, .int (nI c)), (5, .int (nI d + 1))] [] τ := fun h he => by
              rw [nI_1]
              rcases hf with hf | ⟨_, h2, h3, h4, h5⟩
              · exact absurd hf.1 h
              · refine ihd 1 ⟨by omega, Or.inr ⟨rfl, h2, h3, h4, fun d' hd' => ?_⟩⟩
                by_cases e : d' = d
                · rw [e]; exact he
                · exact h5 d' (by omega)
            have nE : eqP lk L a b c d = true → zZ G M_Mo_choose 1 X (fun r τ => r = none ∧ MCI σ τ n lk L n (n + 1)) 74 [(0, zf G 32), (1, .int (nI a)), (2, .int (nI b)), (3, .int (0 : Int32)), (4, .int (nI c)), (5, .int (nI d + 1))] [] τ := fun he => by
              rw [nI_1]
              refine ihd 0 ⟨by omega, Or.inl ⟨rfl, ?_⟩⟩
              cases hx : ch1 n lk L a b with
              | false => rfl
              | true =>
                have h1 := (ch1_iff.mp hx).2.2
                rw [chE_iff.mpr ⟨c, d, hc, hd, he⟩] at h1
                exact absurd h1 (by decide)
            have noe : ¬ (lk c d = true ∧ c < d ∧ (c < a ∨ (c = a ∧ d < b)) ∧ ((L c = L a ∧ L d = L b) ∨ (L c = L b ∧ L d = L a))) → eqP lk L a b c d = false := fun h => by
              cases hx : eqP lk L a b c d with
              | false => rfl
              | true => exact absurd (eqP_iff.mp hx) h
            -- the question whether c, d is before a, b
            have tail : c < d → ∀ g : Int32, (g = 0 → ¬ ((L c = L a ∧ L d = L b) ∨ (L c = L b ∧ L d = L a))) → (¬ g = 0 → ((L c = L a ∧ L d = L b) ∨ (L c = L b ∧ L d = L a))) → zZ G M_Mo_choose 1 X (fun r τ => r = none ∧ MCI σ τ n lk L n (n + 1)) 154 [(0, zf G 32), (1, .int (nI a)), (2, .int (nI b)), (3, .int f), (4, .int (nI c)), (5, .int (nI d)), (6, .int g)] [] τ := by
              intro hcd g hg0 hg1
              refine b_Mo_choose_154 E (nI a) (nI b) f (nI c) (nI d) g τ ?_
              rw [elk c d hc hd, nI_ltI (a := c) (b := a) (by omega) (by omega), nI_eq (a := c) (b := a) (by omega) (by omega), nI_ltI (a := d) (b := b) (by omega) (by omega)]
              exact ⟨n0, fun h => ⟨by rw [zi12']; exact vp_in_nI (by omega) (by decide), fun hl => n1 h (noe (fun q => by rw [hl] at q; exact absurd q.1 (by decide))), fun hl => ⟨fun h6 => n1 h (noe (fun q => hg0 h6 q.2.2.2)), fun h6 => ⟨fun hca => nE (eqP_iff.mpr ⟨hl, hcd, Or.inl hca, hg1 h6⟩), fun hca => ⟨fun hne => n1 h (noe (fun q => q.2.2.1.elim hca (fun q => hne q.1))), fun he => ⟨fun hdb => nE (eqP_iff.mpr ⟨hl, hcd, Or.inr ⟨he, hdb⟩, hg1 h6⟩), fun hdb => n1 h (noe (fun q => q.2.2.1.elim hca (fun q => hdb q.2)))⟩⟩⟩⟩⟩⟩
            have lC := hL c hc
            have lD := hL d hd
            refine b_Mo_choose_74 E (nI a) (nI b) f (nI c) (nI d) τ ?_
            rw [ca, cb, cc, cd, e42, lA.1, lB.1, lC.1, lD.1, nt, nI_eq (a := L c) (b := L a) (by omega) (by omega), nI_eq (a := L c) (b := L b) (by omega) (by omega), nI_eq (a := L d) (b := L a) (by omega) (by omega), nI_eq (a := L d) (b := L b) (by omega) (by omega)]
            refine ⟨fun q => absurd q (nI_ge hd (by omega)), fun _ => ⟨ic, ia, fun k1 => ⟨ic, ib, fun k2 => tail hcd 0 (fun _ q => q.elim (fun q => k1 q.1) (fun q => k2 q.1)) (fun q => absurd rfl q), fun k2 => ⟨id, ia, fun k3 => tail hcd 0 (fun _ q => q.elim (fun q => k1 q.1) (fun q => k3 q.2)) (fun q => absurd rfl q), fun k3 => tail hcd 1 (fun q => absurd q (by decide)) (fun _ => Or.inr ⟨k2, k3⟩)⟩⟩, fun k1 => ⟨id, ib, fun k2 => tail hcd 1 (fun q => absurd q (by decide)) (fun _ => Or.inl ⟨k1, k2⟩), fun k2 => ⟨ic, ib, fun k3 => tail hcd 0 (fun _ q => q.elim (fun q => k2 q.2) (fun q => k3 q.1)) (fun q => absurd rfl q), fun k3 => ⟨id, ia, fun k4 => tail hcd 0 (fun _ q => q.elim (fun q => k2 q.2) (fun q => k4 q.2)) (fun q => absurd rfl q), fun k4 => tail hcd 1 (fun q => absurd q (by decide)) (fun _ => Or.inr ⟨k3, k4⟩)⟩⟩⟩⟩⟩
          · intro f ⟨_, hf⟩
            refine b_Mo_choose_74 E (nI a) (nI b) f (nI c) (nI n) τ ⟨fun _ => ?_, fun q => absurd (by rw [nt]; exact nI_le (Nat.le_refl n) (by omega)) q⟩
            rw [nI_1]
            refine ihc f (hf.imp id (fun h => ⟨h.1, h.2.1, h.2.2.1, fun c' d' hc' hd' => ?_⟩))
            by_cases e : c' = c
            · rw [e]; exact h.2.2.2.2 d' hd'
            · exact h.2.2.2.1 c' d' (by omega) hd'
          · cases hx : eqP lk L a b c d' with
            | false => rfl
            | true =>
              have := (eqP_iff.mp hx).2.1
              omega
        · intro f hf
          refine b_Mo_choose_55 E (nI a) (nI b) f (nI n) τ ⟨fun _ => fin2 f (hf.imp id (fun h => ⟨h.1, ch1_iff.mpr ⟨h.2.1, h.2.2.1, ?_⟩⟩)), fun q => absurd (by rw [nt]; exact nI_le (Nat.le_refl n) (by omega)) q⟩
          cases hx : chE n lk L a b with
          | false => rfl
          | true =>
            obtain ⟨c, d, hc, hd, q⟩ := chE_iff.mp hx
            rw [h.2.2.2 c d hc hd] at q
            exact absurd q (by decide)
      refine b_Mo_choose_14 E (nI a) (nI b) τ ?_
      rw [ca, cb, e42, lA.1, lB.1, nt, elk a b ha hb, nI_eq (a := L a) (b := L b) (by omega) (by omega)]
      refine ⟨fun q => absurd q (nI_ge hb (by omega)), fun _ => ⟨iab, fun hl => ask 0 (Or.inl ⟨rfl, ?_⟩), fun hl => ⟨ia, ib, fun hl2 => ask 0 (Or.inl ⟨rfl, ?_⟩), fun hl2 => ask 1 (Or.inr ⟨rfl, hl, hl2⟩)⟩⟩⟩
      · cases hx : ch1 n lk L a b with
        | false => rfl
        | true =>
          have h1 := (ch1_iff.mp hx).1
          rw [hl] at h1; exact absurd h1 (by decide)
      · cases hx : ch1 n lk L a b with
        | false => rfl
        | true => exact absurd hl2 (ch1_iff.mp hx).2.1
    · intro τ ⟨_, hF, hc, hp⟩
      refine b_Mo_choose_14 E (nI a) (nI n) τ ⟨fun _ => ?_, fun q => absurd (by rw [hF.2 0 (by decide), hn]; exact nI_le (Nat.le_refl n) (by omega)) q⟩
      rw [nI_1]
      refine iha τ ⟨hF, ?_, fun x y hx hy => ⟨fun q => (hp x y hx hy).1 ((chP_r hx hy).mpr q), fun q => (hp x y hx hy).2 (fun q2 => q ((chP_r hx hy).mp q2))⟩⟩
      rw [cR_0 (a + 1 + 1) (by omega)]
      exact hc
  · intro τ hI
    exact b_Mo_choose_2 E (nI n) τ ⟨fun _ => ⟨rfl, hI⟩, fun q => absurd (by rw [hI.1.2 0 (by decide), hn]; exact nI_le (Nat.le_refl n) (by omega)) q⟩
