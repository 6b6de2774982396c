-- The invariants side by side
theorem MI.of {σ τ : zSt} (h : MI σ) (e : ∀ c, 32 ≤ c → τ c = σ c) : MI τ := by
  obtain ⟨n, h1, h2, h3, h4, h5⟩ := h
  refine ⟨n, by rw [e 32 (by decide)]; exact h1, h2, h3, h4.of (e 33 (by decide)) (e 34 (by decide)), ?_⟩
  rcases h5 with h5 | ⟨R, W, l, ⟨hS, hN, hL, hP⟩, hg1, hg2⟩
  · exact Or.inl (by rw [e 32 (by decide)]; exact h5)
  · have ep : psS τ = psS σ := psS_eq (e 35 (by decide)) (e 36 (by decide)) (e 37 (by decide)) (e 38 (by decide)) (e 39 (by decide)) (e 40 (by decide))
    have eu : upS τ = upS σ := upS_eq (e 41 (by decide))
    refine Or.inr ⟨R, W, l, ⟨hS.of (by rw [e 32 (by decide)]) (by rw [e 32 (by decide)]) (by rw [e 32 (by decide)]) (e 41 (by decide)) (e 33 (by decide)) (e 34 (by decide)), ⟨fun a ha => ?_, fun a b q ha hb hq hne => ?_⟩, hL.of (by rw [e 32 (by decide)]) (e 51 (by decide)), ?_⟩, ?_, ?_⟩
    · rw [ep, e 35 (by decide)]; exact hN.1 a ha
    · rw [e 45 (by decide)] at hne
      rw [e 46 (by decide)]; exact hN.2 a b q ha hb hq hne
    · rw [eu, c2S_eq (e 41 (by decide)) (e 45 (by decide)), c3S_eq (e 41 (by decide)) (e 45 (by decide)), ep]; exact hP
    · rw [ep]; exact hg1
    · rw [eu]; exact hg2
theorem CI.of {σ τ : zSt} (h : CI σ) (e : ∀ c, c < 32 → τ c = σ c) : CI τ := by
  obtain ⟨⟨n, h1, h2, h3⟩, h4⟩ := h
  refine ⟨⟨n, by rw [e 2 (by decide)]; exact h1, h2, h3⟩, fun hs => ?_⟩
  rw [e 0 (by decide)] at hs
  obtain ⟨n, R, rd, ⟨t1, t2, t3, t4, t5, t6, t7, t8⟩, l, ⟨d1, d2, d3⟩, g⟩ := h4 hs
  refine ⟨n, R, rd, ⟨by rw [e 2 (by decide)]; exact t1, t2, t3, by rw [e 1 (by decide)]; exact t4, t5, t6, fun c u hc hu hz => ?_, fun e4 u hu => ?_⟩, l, ⟨fun a ha => by rw [e 24 (by decide)]; exact d1 a ha, d2.of (fun c hc => e c (by revert c; decide)), d3⟩, by rw [e 13 (by decide)]; exact g⟩
  · rw [e 13 (by decide)] at hz
    rw [e 10 (by decide), e 9 (by decide)]
    exact t7 c u hc hu hz
  · rw [e 1 (by decide)] at e4
    rw [e 13 (by decide)]
    exact t8 e4 u hu
theorem CI_0 {τ : zSt} {n : Nat} (h1 : τ 2 0 = nI n) (h2 : 1 ≤ n) (h3 : n ≤ 12) (h4 : τ 0 1 = 0) : CI τ := ⟨⟨n, h1, h2, h3⟩, fun q => absurd h4 q⟩
theorem CI_begin {σ : zSt} {v : Int32} (h1 : ¬ v < 1) (h2 : v ≤ 12) : CI (zup (nclear σ v) 0 1 0) := by
  have c1 : ¬ v.toInt < 1 := fun q => h1 (i32_lt.mpr (by rw [show (1 : Int32).toInt = 1 by decide]; exact q))
  have c2 := i32_le.mp h2
  rw [show (12 : Int32).toInt = 12 by decide] at c2
  have e : v = nI v.toInt.toNat := i32_of (by omega) (by omega)
  refine CI_0 (n := v.toInt.toNat) ?_ (by omega) (by omega) (by simp [zup])
  rw [← e, zup_ne (by decide)]
  unfold nclear
  rw [zfill_ne (by decide), zfill_ne (by decide), zfill_ne (by decide)]
  simp [zup]
theorem CI_mark {σ : zSt} {j : Nat} {v : Int32} (h : CI σ) : CI (zup (zup σ 6 j v) 0 1 0) := by
  obtain ⟨⟨n, h1, h2, h3⟩, _⟩ := h
  exact CI_0 (n := n) (by simp [zup]; exact h1) h2 h3 (by simp [zup])
theorem njoin_2 {σ : zSt} {a b : Nat} {len : Int32} : njoin σ a b len 2 0 = σ 2 0 := by
  unfold njoin njoin0
  split <;> simp [zup]
theorem njoin_hi {σ : zSt} {a b : Nat} {len : Int32} : ∀ c, 32 ≤ c → njoin σ a b len c = σ c := by
  intro c hc
  unfold njoin
  rw [zup_ne (by omega), zup_ne (by omega), zup_ne (by omega), zup_ne (by omega)]
  unfold njoin0
  split
  · rfl
  · rw [zup_ne (by omega)]
theorem CI_link {σ : zSt} {a b : Nat} {len : Int32} (h : CI σ) : CI (zup (njoin σ a b len) 0 1 0) := by
  obtain ⟨⟨n, h1, h2, h3⟩, _⟩ := h
  exact CI_0 (n := n) (by rw [zup_ne (by decide), njoin_2]; exact h1) h2 h3 (by simp [zup])
def INV (σ : zSt) : Prop := CI σ ∧ MI σ
theorem lowFX {σ τ : zSt} (h : zFr FX σ τ) : ∀ c, 32 ≤ c → τ c = σ c := fun c hc => h c (fun q => by
  have : ∀ c, c ∈ FX → c < 32 := by decide
  have := this c q
  omega)
theorem hiMF {σ τ : zSt} (h : MF FMo JMo σ τ) : ∀ c, c < 32 → τ c = σ c := fun c hc => h.at (fun q => by
  have : ∀ c, c ∈ 32 :: FMo → 32 ≤ c := by decide
  have := this c q
  omega)
theorem s0_CI : CI (mbegin s0 1) := CI_0 (n := 1) (by unfold mbegin; rw [zfill_ne (by decide), zfill_ne (by decide)]; rfl) (by decide) (by decide) (by unfold mbegin; rw [zfill_ne (by decide), zfill_ne (by decide)]; rfl)
theorem INV_0 : INV (mbegin s0 1) := ⟨s0_CI, MI_begin (by decide) (by decide)⟩
section INVS
variable {σ τ υ : zSt}
theorem INV.c (h : INV σ) (hC : CI τ) (hF : zFr FX σ τ) : INV τ := ⟨hC, h.2.of (lowFX hF)⟩
theorem INV.m (h : INV σ) (hM : MI τ) (hF : MF FMo JMo σ τ) : INV τ := ⟨h.1.of (hiMF hF), hM⟩
/-- begin on both sides: the same answer, the invariant -/
theorem INV.begin {v x y : Int32} (h : INV σ) (h1 : (x = -1 ∧ τ = σ ∧ (v < 1 ∨ ¬ v ≤ 12)) ∨ (x = 0 ∧ ¬ v < 1 ∧ v ≤ 12 ∧ τ = zup (nclear σ v) 0 1 0)) (h2 : (y = -1 ∧ υ = τ ∧ (v < 1 ∨ ¬ v ≤ 12)) ∨ (y = 0 ∧ ¬ v < 1 ∧ v ≤ 12 ∧ υ = mbegin τ v)) : x = y ∧ INV υ := by
  rcases h1 with ⟨e1, rfl, q1⟩ | ⟨e1, q1, q2, e2⟩
  · rcases h2 with ⟨e3, rfl, q3⟩ | ⟨e3, q3, q4, e4⟩
    · exact ⟨by rw [e1, e3], h⟩
    · rcases q1 with q | q
      · exact absurd q q3
      · exact absurd q4 q
  · rcases h2 with ⟨e3, rfl, q3⟩ | ⟨e3, q3, q4, e4⟩
    · rcases q3 with q | q
      · exact absurd q q1
      · exact absurd q2 q
    · refine ⟨by rw [e1, e3], ?_, ?_⟩
      · rw [e4]
        refine CI.of (σ := τ) (by rw [e2]; exact CI_begin q1 q2) (fun c hc => ?_)
        unfold mbegin
        rw [zfill_ne (by omega), zfill_ne (by omega), zup_ne (by omega), zup_ne (by omega), zup_ne (by omega)]
      · rw [e4]; exact MI_begin q3 q4
theorem INV.link {n m : Nat} {x y a b len : Int32} (h : INV σ) (hm : τ 32 0 = nI m) (h1 : (x = -1 ∧ τ = σ ∧ (zHas σ a = false ∨ zHas σ b = false ∨ a = b ∨ len < 1 ∨ ¬ len ≤ 9)) ∨ (∃ i j, i < n ∧ j < n ∧ a = nI i ∧ b = nI j ∧ i ≠ j ∧ ¬ len < 1 ∧ len ≤ 9 ∧ τ = zup (njoin σ i j len) 0 1 0 ∧ x = τ 2 1)) (h2 : (y = -1 ∧ υ = τ ∧ (zNo τ a = true ∨ zNo τ b = true ∨ a = b ∨ len < 1 ∨ ¬ len ≤ 9)) ∨ (∃ i j, i < m ∧ j < m ∧ a = nI i ∧ b = nI j ∧ i ≠ j ∧ ¬ len < 1 ∧ len ≤ 9 ∧ υ = mlink τ i j len ∧ y = υ 32 1)) : INV υ := by
  have hτ : INV τ := by
    rcases h1 with ⟨_, rfl, _⟩ | ⟨i, j, _, _, _, _, _, _, _, e, _⟩
    · exact h
    · refine ⟨by rw [e]; exact CI_link h.1, h.2.of (fun c hc => ?_)⟩
      rw [e, zup_ne (by omega), njoin_hi c hc]
  rcases h2 with ⟨_, rfl, _⟩ | ⟨i, j, q1, q2, _, _, _, q3, q4, e, _⟩
  · exact hτ
  · refine ⟨hτ.1.of (fun c hc => ?_), ?_⟩
    · rw [e]; unfold mlink
      rw [zup_ne (by omega), zup_ne (by omega), zup_ne (by omega), zup_ne (by omega)]
    · rw [e]; exact MI_link hτ.2 hm q1 q2 q3 q4
theorem INV.mark {n m : Nat} {x y a v : Int32} (h : INV σ) (h1 : (x = -1 ∧ τ = σ ∧ (zHas σ a = false ∨ v < 0 ∨ ¬ v ≤ 99)) ∨ (∃ j, j < n ∧ a = nI j ∧ ¬ v < 0 ∧ v ≤ 99 ∧ x = σ 6 j ∧ τ = zup (zup σ 6 j v) 0 1 0)) (h2 : (y = -1 ∧ υ = τ ∧ (zNo τ a = true ∨ v < 0 ∨ ¬ v ≤ 99)) ∨ (∃ j, j < m ∧ a = nI j ∧ ¬ v < 0 ∧ v ≤ 99 ∧ y = τ 34 j ∧ υ = zup (zup τ 34 j v) 32 4 0)) : INV υ := by
  have hτ : INV τ := by
    rcases h1 with ⟨_, rfl, _⟩ | ⟨j, _, _, _, _, _, e⟩
    · exact h
    · refine ⟨by rw [e]; exact CI_mark h.1, h.2.of (fun c hc => ?_)⟩
      rw [e, zup_ne (by omega), zup_ne (by omega)]
  rcases h2 with ⟨_, rfl, _⟩ | ⟨j, _, _, q3, q4, _, e⟩
  · exact hτ
  · refine ⟨hτ.1.of (fun c hc => ?_), ?_⟩
    · rw [e, zup_ne (by omega), zup_ne (by omega)]
    · rw [e]; exact MI_mark hτ.2 q3 q4
theorem INV.link1 {n : Nat} {x a b len : Int32} (h : INV σ) (h1 : (x = -1 ∧ τ = σ ∧ (zHas σ a = false ∨ zHas σ b = false ∨ a = b ∨ len < 1 ∨ ¬ len ≤ 9)) ∨ (∃ i j, i < n ∧ j < n ∧ a = nI i ∧ b = nI j ∧ i ≠ j ∧ ¬ len < 1 ∧ len ≤ 9 ∧ τ = zup (njoin σ i j len) 0 1 0 ∧ x = τ 2 1)) : INV τ := by
  rcases h1 with ⟨_, rfl, _⟩ | ⟨i, j, _, _, _, _, _, _, _, e, _⟩
  · exact h
  · refine ⟨by rw [e]; exact CI_link h.1, h.2.of (fun c hc => ?_)⟩
    rw [e, zup_ne (by omega), njoin_hi c hc]
theorem INV.mark1 {n : Nat} {x a v : Int32} (h : INV σ) (h1 : (x = -1 ∧ τ = σ ∧ (zHas σ a = false ∨ v < 0 ∨ ¬ v ≤ 99)) ∨ (∃ j, j < n ∧ a = nI j ∧ ¬ v < 0 ∧ v ≤ 99 ∧ x = σ 6 j ∧ τ = zup (zup σ 6 j v) 0 1 0)) : INV τ := by
  rcases h1 with ⟨_, rfl, _⟩ | ⟨j, _, _, _, _, _, e⟩
  · exact h
  · refine ⟨by rw [e]; exact CI_mark h.1, h.2.of (fun c hc => ?_)⟩
    rw [e, zup_ne (by omega), zup_ne (by omega)]
end INVS
