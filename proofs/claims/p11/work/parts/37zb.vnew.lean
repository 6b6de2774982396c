-- A leader begins its next round: all around its cluster are safe; pure
section VNEW
variable {n R W : Nat} {lk pa : Nat → Nat → Bool} {up : Nat → Option Nat} {ld : Nat → Nat} {S : PS} {cm : CM} {l : List Lt}
/-- what the frame is, as the running needs it -/
def FRA (n W : Nat) (lk pa : Nat → Nat → Bool) (up : Nat → Option Nat) (ld : Nat → Nat) : Prop :=
  (∀ c, c < n → ld c < n ∧ ∃ d, Reach n up (ld c) d c)
  ∧ (∀ a b, a < n → b < n → lk a b = lk b a) ∧ (∀ a b, a < n → b < n → pa a b = true → lk a b = true) ∧ (∀ a b, a < n → b < n → pa a b = pa b a) ∧ (∀ a, a < n → lk a a = false)
  ∧ (W = 0 → (∀ c, c < n → ld c = c) ∧ (∀ a b, a < n → b < n → pa a b = lk a b) ∧ ∀ c, c < n → up c = none)
  ∧ (W = 1 → (∀ a b, a < n → b < n → ld a = ld b) ∧ ∀ a b, a < n → b < n → pa a b = false)
  ∧ (W = 2 → ∀ x b, x < n → b < n → lk x b = true → ¬ ld x = ld b → ∃ x' y', x' < n ∧ y' < n ∧ ld x' = ld x ∧ ld y' = ld b ∧ pa x' y' = true)
  ∧ (∀ c, c < n → up (ld c) = none)
theorem V_new (hW : W ≤ 2) (hR : R ≤ 20) (hF : FRA n W lk pa up ld) (hP : PI n R W up (k2 up cm) (k3 up cm) S l) (hX : QX n R W lk pa up ld S cm l) {a : Nat} (ha : a < n) (hr : 1 ≤ rdP S a)
    (h0 : W = 0 → ∀ b, b < n → lk a b = true → cm 1 a b (rdP S a) = true) (h1 : W = 1 → raP S a = true) (h2 : W = 2 → dnP S a = true) {x b : Nat} (hx : x < n) (hb : b < n) (hl : lk x b = true) (he : ld x = a) : SfR S b (rdP S a) := by
  obtain ⟨f1, f2, f3, f3b, f3c, f4, f5, f6, _⟩ := hF
  rcases (show W = 0 ∨ W = 1 ∨ W = 2 by omega) with hw | hw | hw
  · have ex : x = a := ((f4 hw).1 x hx).symm.trans he
    rw [ex] at hl
    obtain ⟨_, _, h⟩ := hX.2.1.2.1 b a (rdP S a) hb ha (h0 hw b hb hl)
    unfold FlR at h
    rw [if_pos hw] at h
    exact h
  · have eb : ld b = a := ((f5 hw).1 b x hb hx).trans he
    obtain ⟨d, hd⟩ := (f1 b hb).2
    rw [eb] at hd
    exact ra_sf hP hb hr (ra_all hR hP hX hr (Or.inr ⟨rfl, h1 hw⟩) d b hb hd)
  · have dall : ∀ c, c < n → ld c = a → DnR S c (rdP S a) := fun c hc e => by
      obtain ⟨d, hd⟩ := (f1 c hc).2
      rw [e] at hd
      exact dn_all hw hR hP hX hr (Or.inr ⟨rfl, h2 hw⟩) d c hc hd
    by_cases eb : ld b = a
    · refine ra_sf hP hb hr ?_
      rcases dall b hb eb with q | ⟨q, q2⟩
      · exact Or.inl q
      · have hn := (hP.1 b hb).2.1 (by omega)
        exact Or.inr ⟨q, hn.2.2.2.2.1 (hn.2.2.2.1 q2)⟩
    · obtain ⟨x', y', hx', hy', e1, e2, hp⟩ := f6 hw x b hx hb hl (fun e => eb (e.symm.trans he))
      have hcm : cm 1 x' y' (rdP S a) = true := by
        have h4 := hX.2.2.1 x' y' hx' hy' hp
        rcases dall x' hx' (e1.trans he) with q | ⟨q, q2⟩
        · exact h4.1 _ hr q
        · rw [q]; exact h4.2 hw (by omega) q2
      obtain ⟨_, _, hfl⟩ := hX.2.1.2.1 y' x' (rdP S a) hy' hx' hcm
      obtain ⟨d, hd⟩ := (f1 y' hy').2
      have hra := fl_ra hw hP d y' hy' hd (rdP S a) hr hfl
      obtain ⟨d2, hd2⟩ := (f1 b hb).2
      rw [← e2] at hd2
      exact ra_sf hP hb hr (ra_all hR hP hX hr hra d2 b hb hd2)
/-- a letter comes while its round is meant -/
theorem note_rd (hF : FRA n W lk pa up ld) (hP : PI n R W up (k2 up cm) (k3 up cm) S l) (hX : QX n R W lk pa up ld S cm l) {x : Lt} (hx : x ∈ l) (h0 : x.1 = 0) : ∃ f t, f < n ∧ t < n ∧ x.2.1 = nI f ∧ x.2.2.1 = nI t ∧ lk f t = true ∧ x.2.2.2.1 = nI (rdP S f) ∧ 1 ≤ rdP S f ∧ rdP S f ≤ rdP S t + 1 ∧ (1 ≤ rdP S t → rdP S t ≤ rdP S f) := by
  obtain ⟨f, t, hf, ht, e1, e2, hl, e3, h1⟩ := hX.1.1 x hx h0
  have reach := fun c hc => (hF.1 c hc).2
  refine ⟨f, t, hf, ht, e1, e2, hl, e3, h1, ?_, fun ht1 => ?_⟩
  · rcases Nat.lt_or_ge (rdP S f) 2 with q | q
    · omega
    · have := T_of hP hX reach hf ht hl (r := rdP S f - 1) (by omega) (by omega)
      rcases this with q2 | ⟨q2, _⟩ <;> omega
  · rcases Nat.lt_or_ge (rdP S f) (rdP S t) with q | q
    · exfalso
      have := T_of hP hX reach ht hf (by rw [hF.2.1 t f ht hf]; exact hl) (r := rdP S f) h1 (by omega)
      rcases this with q2 | ⟨_, q2⟩
      · omega
      · have ho := ((hP.1 f hf).2.1 h1).2.1 q2
        have hc := hX.1.2.2 f hf h1
        have := cN_mem hx h0 e1
        omega
    · exact q
theorem safe_rd (hR : R ≤ 20) (hF : FRA n W lk pa up ld) (hP : PI n R W up (k2 up cm) (k3 up cm) S l) (hX : QX n R W lk pa up ld S cm l) {x : Lt} (hx : x ∈ l) (h2 : x.1 = 2) : ∃ f t q, f < n ∧ t < n ∧ 1 ≤ q ∧ q ≤ R ∧ x.2.1 = nI f ∧ x.2.2.1 = nI t ∧ x.2.2.2.1 = nI q ∧ pa f t = true ∧ q ≤ rdP S t + 1 ∧ rdP S t ≤ q ∧ cm 1 t f q = false := by
  obtain ⟨f, t, q, hf, ht, h1, e1, e2, e3, hp, hfl⟩ := hX.2.1.1 x hx h2
  have hrf := (hP.1 f hf).1
  have hqr : q ≤ R := by rcases hfl with h | h <;> omega
  have hcm : cm 1 t f q = false := by
    have k1 := hX.2.1.2.2 f t q hf ht hqr
    have k2 := cX_mem hx h2 e1 e2 e3
    cases h : cm 1 t f q with
    | false => rfl
    | true =>
      rw [h] at k1
      have : b2n true = 1 := rfl
      omega
  refine ⟨f, t, q, hf, ht, h1, hqr, e1, e2, e3, hp, ?_, ?_, hcm⟩
  · rcases Nat.lt_or_ge (rdP S f) 2 with h | h
    · rcases hfl with h | h <;> omega
    · have := T_of hP hX (fun c hc => (hF.1 c hc).2) hf ht (hF.2.2.1 f t hf ht hp) (r := rdP S f - 1) (by omega) (by omega)
      rcases this with q2 | ⟨q2, _⟩ <;> rcases hfl with h | h <;> omega
  · rcases Nat.lt_or_ge q (rdP S t) with h | h
    · exfalso
      rw [hF.2.2.2.1 f t hf ht] at hp
      have := (hX.2.2.1 t f ht hf hp).1 q h1 h
      rw [hcm] at this; exact absurd this (by decide)
    · exact h
end VNEW
