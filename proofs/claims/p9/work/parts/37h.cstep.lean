-- The class goes in step, exactly
theorem s_Course_handOut2 (G : zG) (σ : zSt) (n a r : Nat) (v : Int32) (hn : σ 2 0 = nI n) (hle : n ≤ 12) (ha : a < 12) (hr : r < 22) : zV G 2 M_Course_handOut [zf G 1, .int (nI a), .int (nI r), .int v] σ (fun τ => zFr [18] σ τ ∧ ∀ q t b, q < 2 → t < 12 → b < 12 → τ 18 (q * 144 + t * 12 + b) = if ¬ v = -2 ∧ q = r % 2 ∧ b = a ∧ t < n ∧ zIn (σ 7 a) (nI t) = true then v else σ 18 (q * 144 + t * 12 + b)) := by
  refine zSpec.of (by decide) (Nat.le_of_ble_eq_true rfl) rfl (fun X E => ?_)
  have ia : vp_in (nI a) 12 := vp_in_nI ha (by decide)
  have ca : (nI a).toNatClampNeg = a := nI_clamp (by omega)
  refine b_Course_handOut_0 E (nI a) (nI r) v σ ?_
  refine z_for n (fun i τ => zZ G M_Course_handOut 2 X (fun rr τ => rr = none ∧ zFr [18] σ τ ∧ ∀ q t b, q < 2 → t < 12 → b < 12 → τ 18 (q * 144 + t * 12 + b) = if ¬ v = -2 ∧ q = r % 2 ∧ b = a ∧ t < n ∧ zIn (σ 7 a) (nI t) = true then v else σ 18 (q * 144 + t * 12 + b)) 3 [(0, zf G 1), (1, .int (nI a)), (2, .int (nI r)), (3, .int v), (4, .int (nI i))] [] τ) (fun i τ => zFr [18] σ τ ∧ ∀ q t b, q < 2 → t < 12 → b < 12 → τ 18 (q * 144 + t * 12 + b) = if ¬ v = -2 ∧ q = r % 2 ∧ b = a ∧ t < i ∧ zIn (σ 7 a) (nI t) = true then v else σ 18 (q * 144 + t * 12 + b)) ?_ ?_ 0 σ (Nat.zero_le _) ⟨zFr.rf, fun q t b _ _ _ => by rw [if_neg (fun h => absurd h.2.2.2.1 (Nat.not_lt_zero t))]⟩
  · intro i τ hi ⟨hF, hI⟩ ih
    refine b_Course_handOut_3 E (nI a) (nI r) v (nI i) τ ⟨fun q => absurd q (by rw [hF 2 (by decide), hn]; exact nI_ge hi (by omega)), fun _ => ⟨fun hv => ⟨rfl, hF, fun q t b hq ht hb => ?_⟩, fun hv => ⟨ia, fun hz => ?_, fun hz => ⟨_, s_Play_keepNote2 G τ a i r v ha (by omega) hr, fun σ1 e1 => ?_⟩⟩⟩⟩
    · rw [hI q t b hq ht hb, if_neg (fun h => h.1 hv), if_neg (fun h => h.1 hv)]
    · rw [ca, hF 7 (by decide)] at hz
      rw [nI_1]
      refine ih τ ⟨hF, fun q t b hq ht hb => ?_⟩
      rw [hI q t b hq ht hb]
      by_cases h : ¬ v = -2 ∧ q = r % 2 ∧ b = a ∧ t < i ∧ zIn (σ 7 a) (nI t) = true
      · rw [if_pos h, if_pos ⟨h.1, h.2.1, h.2.2.1, by omega, h.2.2.2.2⟩]
      · rw [if_neg h, if_neg]
        rintro ⟨k1, k2, k3, k4, k5⟩
        by_cases e : t = i
        · rw [e, hz] at k5; exact absurd k5 (by decide)
        · exact h ⟨k1, k2, k3, by omega, k5⟩
    · rw [ca, hF 7 (by decide)] at hz
      rw [nI_1]
      refine ih σ1 ⟨by rw [e1]; exact hF.up (by decide), fun q t b hq ht hb => ?_⟩
      rw [e1, zup_self]
      by_cases hk : q * 144 + t * 12 + b = r % 2 * 144 + i * 12 + a
      · have k1 : q = r % 2 := by omega
        have k2 : t = i := by omega
        have k3 : b = a := by omega
        rw [hk, upd_eq, if_pos ⟨hv, k1, k3, by omega, by rw [k2]; exact hz⟩]
      · rw [upd_ne hk, hI q t b hq ht hb]
        by_cases h : ¬ v = -2 ∧ q = r % 2 ∧ b = a ∧ t < i ∧ zIn (σ 7 a) (nI t) = true
        · rw [if_pos h, if_pos ⟨h.1, h.2.1, h.2.2.1, by omega, h.2.2.2.2⟩]
        · rw [if_neg h, if_neg]
          rintro ⟨k1, k2, k3, k4, k5⟩
          by_cases e : t = i
          · exact hk (by rw [k2, k3, e])
          · exact h ⟨k1, k2, k3, by omega, k5⟩
  · intro τ ⟨hF, hI⟩
    exact b_Course_handOut_3 E (nI a) (nI r) v (nI n) τ ⟨fun _ => ⟨rfl, hF, hI⟩, fun q => absurd (by rw [hF 2 (by decide), hn]; exact nI_le (Nat.le_refl n) (by omega)) q⟩
/-- nodes below i did round k + 1, the others round k -/
def GS (σ : zSt) (n : Nat) (lk : Nat → Nat → Bool) (S : Nat → Nat → Int32 × Int32 × Int32) (k i : Nat) (τ : zSt) : Prop :=
  zFr [16, 17, 18, 31] σ τ
  ∧ (∀ b, b < n → τ 16 b = (S (if b < i then k + 1 else k) b).1 ∧ τ 17 b = (S (if b < i then k + 1 else k) b).2.1)
  ∧ (∀ t b, t < n → b < 12 → τ 18 ((k + 1) % 2 * 144 + t * 12 + b) = if b < i ∧ lk t b = true then (S (k + 1) b).2.2 else -2)
  ∧ (∀ t b, t < n → b < 12 → τ 18 (k % 2 * 144 + t * 12 + b) = if ¬ t < i ∧ b < n ∧ lk t b = true then (S k b).2.2 else -2)
  ∧ (∀ q b, b < n → (q ≤ k ∨ (q = k + 1 ∧ b < i)) → τ 31 (q * 12 + b) = (S q b).1)
theorem GS_next {σ τ : zSt} {n k : Nat} {lk : Nat → Nat → Bool} {S : Nat → Nat → Int32 × Int32 × Int32} (h : GS σ n lk S k n τ) : GS σ n lk S (k + 1) 0 τ := by
  obtain ⟨h1, h2, h3, h4, h5⟩ := h
  refine ⟨h1, fun b hb => ?_, fun t b ht hb => ?_, fun t b ht hb => ?_, fun q b hb hq => ?_⟩
  · rw [if_neg (Nat.not_lt_zero b)]
    have := h2 b hb
    rw [if_pos hb] at this
    exact this
  · rw [if_neg (fun q => absurd q.1 (Nat.not_lt_zero b))]
    have e : (k + 1 + 1) % 2 = k % 2 := by omega
    rw [e, h4 t b ht hb, if_neg (fun q => q.1 ht)]
  · rw [h3 t b ht hb]
    by_cases h : b < n ∧ lk t b = true
    · rw [if_pos h, if_pos ⟨Nat.not_lt_zero t, h⟩]
    · rw [if_neg h, if_neg (fun q => h q.2)]
  · refine h5 q b hb ?_
    rcases hq with hq | hq
    · by_cases e : q = k + 1
      · exact Or.inr ⟨e, hb⟩
      · exact Or.inl (by omega)
    · exact absurd hq.2 (Nat.not_lt_zero b)
section SV2
variable {p n : Nat} {src : Int32} {mk : Nat → Int32} {len : Nat → Nat → Int32} {lk : Nat → Nat → Bool}
theorem sV_0 (a : Nat) : sV p src n mk len lk 0 a = (first0 p (decide (nI a = src)) (mk a), -2, -2) := by rw [sV]
theorem sV_s (r a : Nat) : sV p src n mk len lk (r + 1) a = pAct p (r + 1) a (decide (nI a = src)) (mk a) (len a) (fun b => if b < n ∧ lk a b = true then (sV p src n mk len lk r b).2.2 else -2) (sV p src n mk len lk r a).1 (sV p src n mk len lk r a).2.1 := by rw [sV]
end SV2
set_option maxHeartbeats 1000000 in
theorem s_Course_goInStep2 (G : zG) (σ : zSt) (n R p : Nat) (mk : Nat → Int32) (len : Nat → Nat → Int32) (lk : Nat → Nat → Bool) (hn : σ 2 0 = nI n) (hle : n ≤ 12) (hR : σ 1 5 = nI R) (hR2 : R ≤ 20) (hp : σ 4 0 = nI p) (hp3 : p ≤ 3) (hmk : ∀ a, a < 12 → σ 6 a = mk a) (hlen : ∀ a b, a < 12 → b < 12 → σ 8 (a * 12 + b) = len a b) (hlk : ∀ a b, a < 12 → b < 12 → zIn (σ 7 b) (nI a) = lk a b) (h16 : ∀ b, b < 12 → σ 16 b = first0 p (decide (nI b = σ 4 1)) (mk b)) (h17 : ∀ b, b < 12 → σ 17 b = -2) (h18 : ∀ k, k < 288 → σ 18 k = -2) : zV G 4 M_Course_goInStep [zf G 1] σ (fun τ => zFr [16, 17, 18, 31] σ τ ∧ ∀ q b, q ≤ R → b < n → τ 31 (q * 12 + b) = (sV p (σ 4 1) n mk len lk q b).1) := by
  have S0 := @sV_0 p n (σ 4 1) mk len lk
  have S1 := @sV_s p n (σ 4 1) mk len lk
  generalize sV p (σ 4 1) n mk len lk = S at S0 S1
  refine zSpec.of (by decide) (Nat.le_of_ble_eq_true rfl) rfl (fun X E => ?_)
  refine b_Course_goInStep_0 E σ ?_
  have two : ∀ υ, GS σ n lk S 0 0 υ → zZ G M_Course_goInStep 4 X (fun r τ => r = none ∧ zFr [16, 17, 18, 31] σ τ ∧ ∀ q b, q ≤ R → b < n → τ 31 (q * 12 + b) = (S q b).1) 40 [(0, zf G 1), (1, .int (1 : Int32))] [] υ := by
    intro υ hυ
    refine z_for (R + 1) (fun i τ => zZ G M_Course_goInStep 4 X (fun r τ => r = none ∧ zFr [16, 17, 18, 31] σ τ ∧ ∀ q b, q ≤ R → b < n → τ 31 (q * 12 + b) = (S q b).1) 40 [(0, zf G 1), (1, .int (nI i))] [] τ) (fun i τ => ∃ k, i = k + 1 ∧ GS σ n lk S k 0 τ) ?_ ?_ 1 υ (by omega) ⟨0, rfl, hυ⟩
    · intro r τ hr ⟨k, hk, hI⟩ ihr
      subst hk
      refine b_Course_goInStep_40 E (nI (k + 1)) τ ⟨fun q => absurd q (by rw [hI.1 1 (by decide), hR]; exact nI_nlt (by omega) (by omega)), fun _ => ?_⟩
      refine z_for n (fun i τ => zZ G M_Course_goInStep 4 X (fun r τ => r = none ∧ zFr [16, 17, 18, 31] σ τ ∧ ∀ q b, q ≤ R → b < n → τ 31 (q * 12 + b) = (S q b).1) 50 [(0, zf G 1), (1, .int (nI (k + 1))), (2, .int (nI i))] [] τ) (fun i τ => GS σ n lk S k i τ) ?_ ?_ 0 τ (Nat.zero_le _) hI
      · intro i τ hi ⟨f1, f2, f3, f4, f5⟩ ih
        have hi12 : i < 12 := by omega
        have ci : (nI i).toNatClampNeg = i := nI_clamp (by omega)
        have cx : (nI (k + 1) * 12 + nI i).toNatClampNeg = (k + 1) * 12 + i := by rw [zi12]; exact nI_clamp (by omega)
        refine b_Course_goInStep_50 E (nI (k + 1)) (nI i) τ ⟨fun q => absurd q (by rw [f1 2 (by decide), hn]; exact nI_ge hi (by omega)), fun _ => ⟨_, s_Play_doRound2 G τ i (k + 1) p hi12 (by omega) (by omega) (by rw [f1 4 (by decide)]; exact hp) hp3, fun x σ1 ⟨g1, g2, g3, g4, g5⟩ => ?_⟩⟩
        have hW : pAct p (k + 1) i (decide (nI i = τ 4 1)) (τ 6 i) (fun b => τ 8 (i * 12 + b)) (fun b => τ 18 ((k + 1 - 1) % 2 * 144 + i * 12 + b)) (τ 16 i) (τ 17 i) = S (k + 1) i := by
          have q2 := f2 i hi
          rw [if_neg (Nat.lt_irrefl i)] at q2
          rw [S1 k i, f1 4 (by decide), f1 6 (by decide), hmk i hi12, q2.1, q2.2]
          refine pAct_congr (fun b hb => ?_) (fun b hb => ?_)
          · show τ 18 ((k + 1 - 1) % 2 * 144 + i * 12 + b) = _
            rw [Nat.add_sub_cancel, f4 i b hi hb]
            by_cases h : b < n ∧ lk i b = true
            · rw [if_pos h, if_pos ⟨Nat.lt_irrefl i, h⟩]
            · rw [if_neg h, if_neg (fun q => h q.2)]
          · show τ 8 (i * 12 + b) = _
            rw [f1 8 (by decide)]; exact hlen i b hi12 hb
        rw [hW] at g2 g3 g5
        rw [Nat.add_sub_cancel] at g4
        refine ⟨_, s_Course_handOut2 G σ1 n i (k + 1) x (by rw [g1 2 (by decide), f1 2 (by decide)]; exact hn) hle hi12 (by omega), fun σ3 ⟨k1, k2⟩ => ⟨vp_in_nI hi12 (by decide), by rw [zi12]; exact vp_in_nI (by omega) (by decide), fun σ4 e4 => ?_⟩⟩
        rw [cx, ci] at e4
        rw [nI_1]
        have e16 : σ3 16 = upd (τ 16) i (S (k + 1) i).1 := by rw [k1 16 (by decide)]; exact g2
        have e17 : σ3 17 = upd (τ 17) i (S (k + 1) i).2.1 := by rw [k1 17 (by decide)]; exact g3
        refine ih σ4 ⟨?_, fun b hb => ?_, fun t b ht hb => ?_, fun t b ht hb => ?_, fun q b hb hq => ?_⟩
        · rw [e4]
          exact ((f1.tr (g1.mono (by decide))).tr (k1.mono (by decide))).up (by decide)
        · rw [e4, zup_ne (by decide), zup_ne (by decide), e16, e17]
          by_cases e : b = i
          · rw [e, upd_eq, upd_eq, if_pos (by omega)]; exact ⟨rfl, rfl⟩
          · rw [upd_ne e, upd_ne e]
            have q2 := f2 b hb
            by_cases h : b < i
            · rw [if_pos h] at q2; rw [if_pos (by omega)]; exact q2
            · rw [if_neg h] at q2; rw [if_neg (by omega)]; exact q2
        · rw [e4, zup_ne (by decide), k2 ((k + 1) % 2) t b (by omega) (by omega) hb, g4, if_neg (show ¬ (k % 2 * 144 + i * 12 ≤ (k + 1) % 2 * 144 + t * 12 + b ∧ (k + 1) % 2 * 144 + t * 12 + b < k % 2 * 144 + i * 12 + 12) by omega), f3 t b ht hb]
          rw [g1 7 (by decide), f1 7 (by decide), hlk t i (by omega) hi12, g5]
          by_cases e : b = i
          · rw [e]
            have n1 : ¬ (i < i ∧ lk t i = true) := fun q => Nat.lt_irrefl i q.1
            rw [if_neg n1]
            by_cases h : lk t i = true
            · have n2 : i < i + 1 ∧ lk t i = true := ⟨Nat.lt_succ_self i, h⟩
              rw [if_pos n2]
              by_cases hx : (S (k + 1) i).2.2 = -2
              · have n3 : ¬ (¬ (S (k + 1) i).2.2 = -2 ∧ (k + 1) % 2 = (k + 1) % 2 ∧ i = i ∧ t < n ∧ lk t i = true) := fun q => q.1 hx
                rw [if_neg n3, hx]
              · have n3 : ¬ (S (k + 1) i).2.2 = -2 ∧ (k + 1) % 2 = (k + 1) % 2 ∧ i = i ∧ t < n ∧ lk t i = true := ⟨hx, rfl, rfl, ht, h⟩
                rw [if_pos n3]
            · have n3 : ¬ (¬ (S (k + 1) i).2.2 = -2 ∧ (k + 1) % 2 = (k + 1) % 2 ∧ i = i ∧ t < n ∧ lk t i = true) := fun q => h q.2.2.2.2
              have n2 : ¬ (i < i + 1 ∧ lk t i = true) := fun q => h q.2
              rw [if_neg n3, if_neg n2]
          · have n3 : ¬ (¬ (S (k + 1) i).2.2 = -2 ∧ (k + 1) % 2 = (k + 1) % 2 ∧ b = i ∧ t < n ∧ lk t i = true) := fun q => e q.2.2.1
            rw [if_neg n3]
            by_cases h : b < i ∧ lk t b = true
            · rw [if_pos h, if_pos ⟨by omega, h.2⟩]
            · rw [if_neg h, if_neg (fun q => h ⟨by omega, q.2⟩)]
        · rw [e4, zup_ne (by decide), k2 (k % 2) t b (by omega) (by omega) hb, if_neg (fun q => by have := q.2.1; omega), g4]
          by_cases e : t = i
          · rw [e, if_pos (by omega), if_neg (fun q => q.1 (Nat.lt_succ_self i))]
          · rw [if_neg (by omega), f4 t b ht hb]
            by_cases h : ¬ t < i ∧ b < n ∧ lk t b = true
            · rw [if_pos h, if_pos ⟨by omega, h.2⟩]
            · rw [if_neg h, if_neg (fun q => h ⟨by omega, q.2⟩)]
        · rw [e4, zup_self]
          by_cases e : q * 12 + b = (k + 1) * 12 + i
          · have k3 : q = k + 1 := by omega
            have k4 : b = i := by omega
            rw [e, upd_eq, e16, upd_eq, k3, k4]
          · rw [upd_ne e, k1 31 (by decide), g1 31 (by decide)]
            refine f5 q b hb ?_
            rcases hq with hq | hq
            · exact Or.inl hq
            · refine Or.inr ⟨hq.1, ?_⟩
              by_cases e2 : b = i
              · exact absurd (by rw [hq.1, e2]) e
              · omega
      · intro τ hI
        exact b_Course_goInStep_50 E (nI (k + 1)) (nI n) τ ⟨fun _ => by rw [nI_1]; exact ihr τ ⟨k + 1, rfl, GS_next hI⟩, fun q => absurd (by rw [hI.1 2 (by decide), hn]; exact nI_le (Nat.le_refl n) (by omega)) q⟩
    · intro τ ⟨k, hk, hI⟩
      have hk : R = k := by omega
      exact b_Course_goInStep_40 E (nI (R + 1)) τ ⟨fun _ => ⟨rfl, hI.1, fun q b hq hb => hI.2.2.2.2 q b hb (Or.inl (by omega))⟩, fun q => absurd (by rw [hI.1 1 (by decide), hR]; exact nI_lt (by omega) (by omega)) q⟩
  refine z_for n (fun i τ => zZ G M_Course_goInStep 4 X (fun r τ => r = none ∧ zFr [16, 17, 18, 31] σ τ ∧ ∀ q b, q ≤ R → b < n → τ 31 (q * 12 + b) = (S q b).1) 2 [(0, zf G 1), (1, .int (nI i))] [] τ) (fun i τ => zFr [31] σ τ ∧ ∀ b, b < i → τ 31 b = σ 16 b) ?_ ?_ 0 σ (Nat.zero_le _) ⟨zFr.rf, fun b hb => absurd hb (Nat.not_lt_zero b)⟩
  · intro i τ hi ⟨hF, hI⟩ ih
    have ci : (nI i).toNatClampNeg = i := nI_clamp (by omega)
    have c0 : ((0 : Int32) * 12 + nI i).toNatClampNeg = i := by rw [show (0 : Int32) = nI 0 from rfl, zi12, Nat.zero_mul, Nat.zero_add]; exact ci
    refine b_Course_goInStep_2 E (nI i) τ ⟨fun q => absurd q (by rw [hF 2 (by decide), hn]; exact nI_ge hi (by omega)), fun _ => ⟨vp_in_nI (by omega) (by decide), by rw [show (0 : Int32) = nI 0 from rfl, zi12]; exact vp_in_nI (by omega) (by decide), fun σ1 e1 => ?_⟩⟩
    rw [c0, ci] at e1
    rw [nI_1]
    refine ih σ1 ⟨by rw [e1]; exact hF.up (by decide), fun b hb => ?_⟩
    rw [e1, zup_self]
    by_cases e : b = i
    · rw [e, upd_eq, hF 16 (by decide)]
    · rw [upd_ne e]; exact hI b (by omega)
  · intro τ ⟨hF, hI⟩
    refine b_Course_goInStep_2 E (nI n) τ ⟨fun _ => two τ ⟨hF.mono (by decide), fun b hb => ?_, fun t b ht hb => ?_, fun t b ht hb => ?_, fun q b hb hq => ?_⟩, fun q => absurd (by rw [hF 2 (by decide), hn]; exact nI_le (Nat.le_refl n) (by omega)) q⟩
    · rw [if_neg (Nat.not_lt_zero b), S0 b, hF 16 (by decide), hF 17 (by decide)]
      exact ⟨h16 b (by omega), h17 b (by omega)⟩
    · rw [if_neg (fun q => absurd q.1 (Nat.not_lt_zero b)), hF 18 (by decide)]
      exact h18 _ (by omega)
    · rw [hF 18 (by decide), h18 _ (by omega), S0 b]
      split <;> rfl
    · rcases hq with hq | hq
      · have e : q = 0 := by omega
        rw [e, Nat.zero_mul, Nat.zero_add, hI b hb, S0 b]
        exact h16 b (by omega)
      · exact absurd hq.2 (Nat.not_lt_zero b)
