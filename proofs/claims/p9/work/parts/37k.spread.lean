-- spread, exactly
def SBa (n : Nat) (lk : Nat → Nat → Bool) (s : Int32) : Prop := zIn s (nI 0) = true ∧ (∀ T, zIn T (nI 0) = true → Cl n lk T → ∀ b, b < n → zIn s (nI b) = true → zIn T (nI b) = true) ∧ ∀ c, n ≤ c → c < 32 → zIn s (nI c) = false
theorem SBa_add {n : Nat} {lk : Nat → Nat → Bool} {s : Int32} {a b : Nat} (hn : n ≤ 12) (h : SBa n lk s) (ha : a < n) (hb : b < n) (h1 : zIn s (nI a) = true) (h2 : lk a b = true) : SBa n lk (s ||| ((1 : Int32) <<< (nI b &&& 31))) := by
  obtain ⟨b1, b2, b3⟩ := h
  refine ⟨?_, fun T hT hC c hc hz => ?_, fun c hc hc2 => ?_⟩
  · rw [zIn_or _ _ (by decide), b1, Bool.true_or]
  · rw [zIn_or _ _ (by omega), zIn_bit (by omega) (by omega), Bool.or_eq_true] at hz
    rcases hz with hz | hz
    · exact b2 T hT hC c hc hz
    · rw [of_decide_eq_true hz]
      exact hC a b ha hb (b2 T hT hC a ha h1) h2
  · rw [zIn_or _ _ hc2, zIn_bit (by omega) hc2, b3 c hc hc2, Bool.false_or]
    exact decide_eq_false (by omega)
theorem SBa_1 {n : Nat} {lk : Nat → Nat → Bool} (h1 : 1 ≤ n) (hn : n ≤ 12) : SBa n lk 1 := by
  refine ⟨by decide +kernel, fun T hT _ c hc hz => ?_, fun c hc hc2 => ?_⟩
  · rw [zIn_bt _ (by omega), b_one] at hz
    rw [of_decide_eq_true hz]; exact hT
  · rw [zIn_bt _ hc2, b_one]; exact decide_eq_false (by omega)
theorem s_Mo_spread2 (G : zG) (σ : zSt) (n : Nat) (w : Int32) (lk : Nat → Nat → Bool) (hn : σ 32 0 = nI n) (h1n : 1 ≤ n) (hle : n ≤ 12) (hw : ∀ b, b < n → zIn w (nI b) = true) (hlk : ∀ a b, a < n → b < n → zLk σ (nI a) (nI b) = lk a b) : zI G 1 M_Mo_spread [zf G 32, .int (1 : Int32), .int w] σ (fun x τ => τ = σ ∧ SPR n lk x) := by
  refine zSpec.of (by decide) (Nat.le_of_ble_eq_true rfl) rfl (fun X E => ?_)
  have main : ∀ (m : Nat) (s more : Int32), cz s n = m → SBa n lk s → (more = 0 → Cl n lk s) → zZ G M_Mo_spread 1 X (fun r τ => ∃ x : Int32, r = some (.int x) ∧ τ = σ ∧ SPR n lk x) 5 [(0, zf G 32), (2, .int w), (3, .int s), (4, .int more)] [] σ := by
    intro m
    induction m using Nat.strongRecOn with
    | ind m IH =>
      intro s more hm hB hC
      refine b_Mo_spread_5 E w s more σ ⟨fun h => ⟨_, rfl, rfl, hB.1, hC h, hB.2.1, hB.2.2⟩, fun _ => ?_⟩
      have out : ∀ s' more', SBa n lk s' → ((¬ more' = 0 ∧ cz s' n < cz s n) ∨ (more' = 0 ∧ Cl n lk s')) → zZ G M_Mo_spread 1 X (fun r τ => ∃ x : Int32, r = some (.int x) ∧ τ = σ ∧ SPR n lk x) 5 [(0, zf G 32), (2, .int w), (3, .int s'), (4, .int more')] [] σ := by
        intro s' more' hB' h
        rcases h with ⟨h, h2⟩ | ⟨h, h2⟩
        · exact IH _ (by omega) s' more' rfl hB' (fun q => absurd q h)
        · exact b_Mo_spread_5 E w s' more' σ ⟨fun _ => ⟨_, rfl, rfl, hB'.1, h2, hB'.2.1, hB'.2.2⟩, fun q => absurd h q⟩
      refine z_for n (fun i (q : Int32 × Int32) => zZ G M_Mo_spread 1 X (fun r τ => ∃ x : Int32, r = some (.int x) ∧ τ = σ ∧ SPR n lk x) 16 [(0, zf G 32), (2, .int w), (3, .int q.1), (4, .int q.2), (5, .int (nI i))] [] σ) (fun i q => SBa n lk q.1 ∧ ((¬ q.2 = 0 ∧ cz q.1 n < cz s n) ∨ (q.2 = 0 ∧ q.1 = s ∧ ∀ a b, a < i → b < n → zIn s (nI a) = true → lk a b = true → zIn s (nI b) = true))) ?_ ?_ 0 (s, 0) (Nat.zero_le _) ⟨hB, Or.inr ⟨rfl, rfl, fun a b ha => absurd ha (Nat.not_lt_zero a)⟩⟩
      · intro a ⟨s1, m1⟩ ha ⟨h1, h2⟩ iha
        dsimp only at h1 h2 iha ⊢
        refine b_Mo_spread_16 E w s1 m1 (nI a) σ ⟨fun q => absurd q (by rw [hn]; exact nI_ge ha (by omega)), fun _ => ?_⟩
        refine z_for n (fun i (q : Int32 × Int32) => zZ G M_Mo_spread 1 X (fun r τ => ∃ x : Int32, r = some (.int x) ∧ τ = σ ∧ SPR n lk x) 28 [(0, zf G 32), (2, .int w), (3, .int q.1), (4, .int q.2), (5, .int (nI a)), (6, .int (nI i))] [] σ) (fun i q => SBa n lk q.1 ∧ ((¬ q.2 = 0 ∧ cz q.1 n < cz s n) ∨ (q.2 = 0 ∧ q.1 = s ∧ True ∧ (∀ c b, c < a → b < n → zIn s (nI c) = true → lk c b = true → zIn s (nI b) = true) ∧ ∀ b, b < i → zIn s (nI a) = true → lk a b = true → zIn s (nI b) = true))) ?_ ?_ 0 (s1, m1) (Nat.zero_le _) ⟨h1, h2.imp id (fun h => ⟨h.1, h.2.1, trivial, h.2.2, fun b hb => absurd hb (Nat.not_lt_zero b)⟩)⟩
        · intro b ⟨s2, m2⟩ hb ⟨h1, h2⟩ ih
          dsimp only at h1 h2 ih ⊢
          have nx : (zIn s2 (nI a) = true → lk a b = true → zIn s2 (nI b) = true) → zZ G M_Mo_spread 1 X (fun r τ => ∃ x : Int32, r = some (.int x) ∧ τ = σ ∧ SPR n lk x) 28 [(0, zf G 32), (2, .int w), (3, .int s2), (4, .int m2), (5, .int (nI a)), (6, .int (nI b + 1))] [] σ := by
            intro hc
            rw [nI_1]
            refine ih (s2, m2) ⟨h1, ?_⟩
            rcases h2 with h | ⟨e1, e2, e3, h4, h5⟩
            · exact Or.inl h
            · refine Or.inr ⟨e1, e2, e3, h4, fun c hcb => ?_⟩
              by_cases e : c = b
              · rw [e, ← e2]; exact hc
              · exact h5 c (by omega)
          refine b_Mo_spread_28 E w s2 m2 (nI a) (nI b) σ ?_
          rw [hlk a b ha hb]
          refine ⟨fun q => absurd q (by rw [hn]; exact nI_ge hb (by omega)), fun _ => ⟨fun hz => nx (fun q => ?_), fun hz => ⟨by rw [zi12']; exact vp_in_nI (by omega) (by decide), fun hl => nx (fun _ q => ?_), fun hl => ⟨fun hz2 => ?_, fun hz2 => ⟨fun hz3 => nx (fun _ _ => zIn_nf hz3), fun hz3 => ?_⟩⟩⟩⟩⟩
          · rw [zIn_nt hz] at q; exact absurd q (by decide)
          · rw [hl] at q; exact absurd q (by decide)
          · have q := hw b hb
            rw [zIn_nt hz2] at q; exact absurd q (by decide)
          · rw [nI_1]
            have hlt : cz (s2 ||| ((1 : Int32) <<< (nI b &&& 31))) n < cz s2 n := by
              refine cz_lt (b := b) (by omega) hb (fun c hc h => ?_) (zIn_f hz3) ?_
              · rw [zIn_or _ _ (by omega), h, Bool.true_or]
              · rw [zIn_or _ _ (by omega), zIn_bit (by omega) (by omega)]; simp
            refine ih (_, 1) ⟨SBa_add hle h1 ha hb (zIn_t hz) hl, Or.inl ⟨show ¬ (1 : Int32) = 0 by decide, ?_⟩⟩
            rcases h2 with h | ⟨_, e2, _⟩
            · exact Nat.lt_trans hlt h.2
            · rw [← e2]; exact hlt
        · intro ⟨s2, m2⟩ ⟨h1, h2⟩
          dsimp only at h1 h2 ⊢
          refine b_Mo_spread_28 E w s2 m2 (nI a) (nI n) σ ⟨fun _ => ?_, fun q => absurd (by rw [hn]; exact nI_le (Nat.le_refl n) (by omega)) q⟩
          rw [nI_1]
          refine iha (s2, m2) ⟨h1, ?_⟩
          rcases h2 with h | ⟨e1, e2, _, h4, h5⟩
          · exact Or.inl h
          · refine Or.inr ⟨e1, e2, fun c b hc hb => ?_⟩
            by_cases e : c = a
            · rw [e]; exact h5 b hb
            · exact h4 c b (by omega) hb
      · intro ⟨s1, m1⟩ ⟨h1, h2⟩
        dsimp only at h1 h2 ⊢
        refine b_Mo_spread_16 E w s1 m1 (nI n) σ ⟨fun _ => out s1 m1 h1 ?_, fun q => absurd (by rw [hn]; exact nI_le (Nat.le_refl n) (by omega)) q⟩
        rcases h2 with h | ⟨e1, e2, h4⟩
        · exact Or.inl h
        · exact Or.inr ⟨e1, by rw [e2]; exact fun a b ha hb => h4 a b ha hb⟩
  exact b_Mo_spread_0 E 1 w σ (main _ 1 1 rfl (SBa_1 h1n hle) (fun q => absurd q (by decide)))
