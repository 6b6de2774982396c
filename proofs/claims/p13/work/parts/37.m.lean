section
-- The invariants side by side
theorem MI.of {σ τ : zSt} (h : MI σ) (e : ∀ c, 32 ≤ c → τ c = σ c) : MI τ := by
  obtain ⟨n, h1, h2, h3, h4, h5⟩ := h
  refine ⟨n, by rw [e 32 (by decide)]; exact h1, h2, h3, h4.of (e 33 (by decide)) (e 34 (by decide)), ?_⟩
  rcases h5 with h5 | ⟨R, W, l, ⟨hS, hN, hL, hP⟩, hg1, hg2⟩
  · exact Or.inl (by rw [e 32 (by decide)]; exact h5)
  · have ep : psS τ = psS σ := psS_eq (e 35 (by decide)) (e 36 (by decide)) (e 37 (by decide)) (e 38 (by decide)) (e 39 (by decide)) (e 40 (by decide))
    have eu : upS τ = upS σ := upS_eq (e 41 (by decide))
    refine Or.inr ⟨R, W, l, ⟨hS.of (by rw [e 32 (by decide)]) (by rw [e 32 (by decide)]) (by rw [e 32 (by decide)]) (e 41 (by decide)) (e 33 (by decide)) (e 34 (by decide)), ⟨fun a ha => ?_, fun a b q ha hb hq hne => ?_⟩, hL.of (by rw [e 32 (by decide)]) (e 51 (by decide)), ?_⟩, ?_, ?_⟩
    · rw [ep, e 35 (by decide)]; exact hN.1 a ha
    · rw [e 45 (by decide)] at hne
      rw [e 46 (by decide)]; exact hN.2 a b q ha hb hq hne
    · rw [eu, c2S_eq (e 41 (by decide)) (e 45 (by decide)), c3S_eq (e 41 (by decide)) (e 45 (by decide)), ep]; exact hP
    · rw [ep]; exact hg1
    · rw [eu]; exact hg2
theorem CI.of {σ τ : zSt} (h : CI σ) (e : ∀ c, c < 32 → τ c = σ c) : CI τ := by
  obtain ⟨⟨n, h1, h2, h3⟩, h4⟩ := h
  refine ⟨⟨n, by rw [e 2 (by decide)]; exact h1, h2, h3⟩, fun hs => ?_⟩
  rw [e 0 (by decide)] at hs
  obtain ⟨n, R, rd, ⟨t1, t2, t3, t4, t5, t6, t7, t8⟩, l, ⟨d1, d2, d3⟩, g⟩ := h4 hs
  refine ⟨n, R, rd, ⟨by rw [e 2 (by decide)]; exact t1, t2, t3, by rw [e 1 (by decide)]; exact t4, t5, t6, fun c u hc hu hz => ?_, fun e4 u hu => ?_⟩, l, ⟨fun a ha => by rw [e 24 (by decide)]; exact d1 a ha, d2.of (fun c hc => e c (by revert c; decide)), d3⟩, by rw [e 13 (by decide)]; exact g⟩
  · rw [e 13 (by decide)] at hz
    rw [e 10 (by decide), e 9 (by decide)]
    exact t7 c u hc hu hz
  · rw [e 1 (by decide)] at e4
    rw [e 13 (by decide)]
    exact t8 e4 u hu
theorem CI_0 {τ : zSt} {n : Nat} (h1 : τ 2 0 = nI n) (h2 : 1 ≤ n) (h3 : n ≤ 12) (h4 : τ 0 1 = 0) : CI τ := ⟨⟨n, h1, h2, h3⟩, fun q => absurd h4 q⟩
theorem CI_begin {σ : zSt} {v : Int32} (h1 : ¬ v < 1) (h2 : v ≤ 12) : CI (zup (nclear σ v) 0 1 0) := by
  have c1 : ¬ v.toInt < 1 := fun q => h1 (i32_lt.mpr (by rw [show (1 : Int32).toInt = 1 by decide]; exact q))
  have c2 := i32_le.mp h2
  rw [show (12 : Int32).toInt = 12 by decide] at c2
  have e : v = nI v.toInt.toNat := i32_of (by omega) (by omega)
  refine CI_0 (n := v.toInt.toNat) ?_ (by omega) (by omega) (by simp [zup])
  rw [← e, zup_ne (by decide)]
  unfold nclear
  rw [zfill_ne (by decide), zfill_ne (by decide), zfill_ne (by decide)]
  simp [zup]
theorem CI_mark {σ : zSt} {j : Nat} {v : Int32} (h : CI σ) : CI (zup (zup σ 6 j v) 0 1 0) := by
  obtain ⟨⟨n, h1, h2, h3⟩, _⟩ := h
  exact CI_0 (n := n) (by simp [zup]; exact h1) h2 h3 (by simp [zup])
theorem njoin_2 {σ : zSt} {a b : Nat} {len : Int32} : njoin σ a b len 2 0 = σ 2 0 := by
  unfold njoin njoin0
  split <;> simp [zup]
theorem njoin_hi {σ : zSt} {a b : Nat} {len : Int32} : ∀ c, 32 ≤ c → njoin σ a b len c = σ c := by
  intro c hc
  unfold njoin
  rw [zup_ne (by omega), zup_ne (by omega), zup_ne (by omega), zup_ne (by omega)]
  unfold njoin0
  split
  · rfl
  · rw [zup_ne (by omega)]
theorem CI_link {σ : zSt} {a b : Nat} {len : Int32} (h : CI σ) : CI (zup (njoin σ a b len) 0 1 0) := by
  obtain ⟨⟨n, h1, h2, h3⟩, _⟩ := h
  exact CI_0 (n := n) (by rw [zup_ne (by decide), njoin_2]; exact h1) h2 h3 (by simp [zup])
def INV (σ : zSt) : Prop := CI σ ∧ MI σ
theorem lowFX {σ τ : zSt} (h : zFr FX σ τ) : ∀ c, 32 ≤ c → τ c = σ c := fun c hc => h c (fun q => by
  have : ∀ c, c ∈ FX → c < 32 := by decide
  have := this c q
  omega)
theorem hiMF {σ τ : zSt} (h : MF FMo JMo σ τ) : ∀ c, c < 32 → τ c = σ c := fun c hc => h.at (fun q => by
  have : ∀ c, c ∈ 32 :: FMo → 32 ≤ c := by decide
  have := this c q
  omega)
theorem s0_CI : CI (mbegin s0 1) := CI_0 (n := 1) (by unfold mbegin; rw [zfill_ne (by decide), zfill_ne (by decide)]; rfl) (by decide) (by decide) (by unfold mbegin; rw [zfill_ne (by decide), zfill_ne (by decide)]; rfl)
theorem INV_0 : INV (mbegin s0 1) := ⟨s0_CI, MI_begin (by decide) (by decide)⟩
section INVS
variable {σ τ υ : zSt}
theorem INV.c (h : INV σ) (hC : CI τ) (hF : zFr FX σ τ) : INV τ := ⟨hC, h.2.of (lowFX hF)⟩
theorem INV.m (h : INV σ) (hM : MI τ) (hF : MF FMo JMo σ τ) : INV τ := ⟨h.1.of (hiMF hF), hM⟩
/-- begin on both sides: the same answer, the invariant -/
theorem INV.begin {v x y : Int32} (h : INV σ) (h1 : (x = -1 ∧ τ = σ ∧ (v < 1 ∨ ¬ v ≤ 12)) ∨ (x = 0 ∧ ¬ v < 1 ∧ v ≤ 12 ∧ τ = zup (nclear σ v) 0 1 0)) (h2 : (y = -1 ∧ υ = τ ∧ (v < 1 ∨ ¬ v ≤ 12)) ∨ (y = 0 ∧ ¬ v < 1 ∧ v ≤ 12 ∧ υ = mbegin τ v)) : x = y ∧ INV υ := by
  rcases h1 with ⟨e1, rfl, q1⟩ | ⟨e1, q1, q2, e2⟩
  · rcases h2 with ⟨e3, rfl, q3⟩ | ⟨e3, q3, q4, e4⟩
    · exact ⟨by rw [e1, e3], h⟩
    · rcases q1 with q | q
      · exact absurd q q3
      · exact absurd q4 q
  · rcases h2 with ⟨e3, rfl, q3⟩ | ⟨e3, q3, q4, e4⟩
    · rcases q3 with q | q
      · exact absurd q q1
      · exact absurd q2 q
    · refine ⟨by rw [e1, e3], ?_, ?_⟩
      · rw [e4]
        refine CI.of (σ := τ) (by rw [e2]; exact CI_begin q1 q2) (fun c hc => ?_)
        unfold mbegin
        rw [zfill_ne (by omega), zfill_ne (by omega), zup_ne (by omega), zup_ne (by omega), zup_ne (by omega)]
      · rw [e4]; exact MI_begin q3 q4
theorem INV.link {n m : Nat} {x y a b len : Int32} (h : INV σ) (hm : τ 32 0 = nI m) (h1 : (x = -1 ∧ τ = σ ∧ (zHas σ a = false ∨ zHas σ b = false ∨ a = b ∨ len < 1 ∨ ¬ len ≤ 9)) ∨ (∃ i j, i < n ∧ j < n ∧ a = nI i ∧ b = nI j ∧ i ≠ j ∧ ¬ len < 1 ∧ len ≤ 9 ∧ τ = zup (njoin σ i j len) 0 1 0 ∧ x = τ 2 1)) (h2 : (y = -1 ∧ υ = τ ∧ (zNo τ a = true ∨ zNo τ b = true ∨ a = b ∨ len < 1 ∨ ¬ len ≤ 9)) ∨ (∃ i j, i < m ∧ j < m ∧ a = nI i ∧ b = nI j ∧ i ≠ j ∧ ¬ len < 1 ∧ len ≤ 9 ∧ υ = mlink τ i j len ∧ y = υ 32 1)) : INV υ := by
  have hτ : INV τ := by
    rcases h1 with ⟨_, rfl, _⟩ | ⟨i, j, _, _, _, _, _, _, _, e, _⟩
    · exact h
    · refine ⟨by rw [e]; exact CI_link h.1, h.2.of (fun c hc => ?_)⟩
      rw [e, zup_ne (by omega), njoin_hi c hc]
  rcases h2 with ⟨_, rfl, _⟩ | ⟨i, j, q1, q2, _, _, _, q3, q4, e, _⟩
  · exact hτ
  · refine ⟨hτ.1.of (fun c hc => ?_), ?_⟩
    · rw [e]; unfold mlink
      rw [zup_ne (by omega), zup_ne (by omega), zup_ne (by omega), zup_ne (by omega)]
    · rw [e]; exact MI_link hτ.2 hm q1 q2 q3 q4
theorem INV.mark {n m : Nat} {x y a v : Int32} (h : INV σ) (h1 : (x = -1 ∧ τ = σ ∧ (zHas σ a = false ∨ v < 0 ∨ ¬ v ≤ 99)) ∨ (∃ j, j < n ∧ a = nI j ∧ ¬ v < 0 ∧ v ≤ 99 ∧ x = σ 6 j ∧ τ = zup (zup σ 6 j v) 0 1 0)) (h2 : (y = -1 ∧ υ = τ ∧ (zNo τ a = true ∨ v < 0 ∨ ¬ v ≤ 99)) ∨ (∃ j, j < m ∧ a = nI j ∧ ¬ v < 0 ∧ v ≤ 99 ∧ y = τ 34 j ∧ υ = zup (zup τ 34 j v) 32 4 0)) : INV υ := by
  have hτ : INV τ := by
    rcases h1 with ⟨_, rfl, _⟩ | ⟨j, _, _, _, _, _, e⟩
    · exact h
    · refine ⟨by rw [e]; exact CI_mark h.1, h.2.of (fun c hc => ?_)⟩
      rw [e, zup_ne (by omega), zup_ne (by omega)]
  rcases h2 with ⟨_, rfl, _⟩ | ⟨j, _, _, q3, q4, _, e⟩
  · exact hτ
  · refine ⟨hτ.1.of (fun c hc => ?_), ?_⟩
    · rw [e, zup_ne (by omega), zup_ne (by omega)]
    · rw [e]; exact MI_mark hτ.2 q3 q4
theorem INV.link1 {n : Nat} {x a b len : Int32} (h : INV σ) (h1 : (x = -1 ∧ τ = σ ∧ (zHas σ a = false ∨ zHas σ b = false ∨ a = b ∨ len < 1 ∨ ¬ len ≤ 9)) ∨ (∃ i j, i < n ∧ j < n ∧ a = nI i ∧ b = nI j ∧ i ≠ j ∧ ¬ len < 1 ∧ len ≤ 9 ∧ τ = zup (njoin σ i j len) 0 1 0 ∧ x = τ 2 1)) : INV τ := by
  rcases h1 with ⟨_, rfl, _⟩ | ⟨i, j, _, _, _, _, _, _, _, e, _⟩
  · exact h
  · refine ⟨by rw [e]; exact CI_link h.1, h.2.of (fun c hc => ?_)⟩
    rw [e, zup_ne (by omega), njoin_hi c hc]
theorem INV.mark1 {n : Nat} {x a v : Int32} (h : INV σ) (h1 : (x = -1 ∧ τ = σ ∧ (zHas σ a = false ∨ v < 0 ∨ ¬ v ≤ 99)) ∨ (∃ j, j < n ∧ a = nI j ∧ ¬ v < 0 ∧ v ≤ 99 ∧ x = σ 6 j ∧ τ = zup (zup σ 6 j v) 0 1 0)) : INV τ := by
  rcases h1 with ⟨_, rfl, _⟩ | ⟨j, _, _, _, _, _, e⟩
  · exact h
  · refine ⟨by rw [e]; exact CI_mark h.1, h.2.of (fun c hc => ?_)⟩
    rw [e, zup_ne (by omega), zup_ne (by omega)]
end INVS
end
section
-- The class's net and the reference's say the same
def LK (σ : zSt) : Prop := σ 2 0 = σ 32 0 ∧ σ 2 1 = σ 32 1 ∧ (∀ a b, a < 12 → b < 12 → zIn (σ 7 a) (nI b) = zLk σ (nI a) (nI b)) ∧ (∀ a, a < 12 → σ 6 a = σ 34 a) ∧ ∀ k, k < 144 → σ 8 k = σ 33 k
theorem LK.of {σ τ : zSt} (h : LK σ) (e2 : τ 2 = σ 2) (e0 : τ 32 0 = σ 32 0) (e1 : τ 32 1 = σ 32 1) (e7 : τ 7 = σ 7) (e33 : τ 33 = σ 33) (e6 : τ 6 = σ 6) (e34 : τ 34 = σ 34) (e8 : τ 8 = σ 8) : LK τ := by
  obtain ⟨h1, h2, h3, h4, h5⟩ := h
  refine ⟨by rw [e2, e0]; exact h1, by rw [e2, e1]; exact h2, fun a b ha hb => ?_, fun a ha => by rw [e6, e34]; exact h4 a ha, fun k hk => by rw [e8, e33]; exact h5 k hk⟩
  rw [e7]
  unfold zLk
  rw [e33]
  exact h3 a b ha hb
theorem LK.c {σ τ : zSt} (h : LK σ) (hF : zFr FX σ τ) : LK τ := h.of (hF 2 (by decide)) (by rw [hF 32 (by decide)]) (by rw [hF 32 (by decide)]) (hF 7 (by decide)) (hF 33 (by decide)) (hF 6 (by decide)) (hF 34 (by decide)) (hF 8 (by decide))
theorem LK.m {σ τ : zSt} (h : LK σ) (hF : MF FMo JMo σ τ) : LK τ := h.of (hF.at (by decide)) (hF.2 0 (by decide)) (hF.2 1 (by decide)) (hF.at (by decide)) (hF.at (by decide)) (hF.at (by decide)) (hF.at (by decide)) (hF.at (by decide))
theorem LK_begin {σ : zSt} {v : Int32} : LK (mbegin (zup (nclear σ v) 0 1 0) v) := by
  refine ⟨?_, ?_, fun a b ha hb => ?_, fun a ha => ?_, fun k hk => ?_⟩
  · simp [mbegin, nclear, zfill, zup]
  · simp [mbegin, nclear, zfill, zup]
  · have e1 : mbegin (zup (nclear σ v) 0 1 0) v 7 a = 0 := by simp [mbegin, nclear, zfill, zup, ha]
    have e2 : mbegin (zup (nclear σ v) 0 1 0) v 33 (12 * nI a + nI b).toNatClampNeg = 0 := by
      rw [zi12', nI_clamp (by omega)]
      have : 12 * a + b < 144 := by omega
      simp [mbegin, zfill, this]
    unfold zLk
    rw [e1, e2]
    unfold zIn
    simp
  · have e1 : mbegin (zup (nclear σ v) 0 1 0) v 6 a = 0 := by simp [mbegin, nclear, zfill, zup, ha]
    have e2 : mbegin (zup (nclear σ v) 0 1 0) v 34 a = 0 := by simp [mbegin, zfill, ha]
    rw [e1, e2]
  · simp [mbegin, nclear, zfill, zup, hk]
theorem njoin0_7 {σ : zSt} {i j : Nat} : njoin0 σ i j 7 = σ 7 := by
  unfold njoin0
  split
  · rfl
  · rw [zup_ne (by decide)]
theorem njoin_7 {σ : zSt} {i j a b : Nat} {len : Int32} (hi : i < 12) (hj : j < 12) (hb : b < 32) (hij : i ≠ j) : zIn (njoin σ i j len 7 a) (nI b) = (zIn (σ 7 a) (nI b) || (decide (a = i ∧ b = j) || decide (a = j ∧ b = i))) := by
  have e : njoin σ i j len 7 = upd (upd (σ 7) i (σ 7 i ||| ((1 : Int32) <<< (nI j &&& 31)))) j (σ 7 j ||| ((1 : Int32) <<< (nI i &&& 31))) := by
    unfold njoin
    rw [zup_ne (by decide), zup_ne (by decide), zup_self, zup_self, njoin0_7]
    congr 1
    unfold upd
    rw [if_neg (Ne.symm hij)]
  rw [e]
  unfold upd
  by_cases haj : a = j
  · have hai : a ≠ i := fun q => hij (q.symm.trans haj)
    rw [if_pos haj, zIn_or _ _ (by omega), zIn_bit (by omega) (by omega), haj]
    simp [Ne.symm hij]
  · rw [if_neg haj]
    by_cases hai : a = i
    · rw [if_pos hai, zIn_or _ _ (by omega), zIn_bit (by omega) (by omega), hai]
      simp [hij]
    · rw [if_neg hai]
      simp [hai, haj]
theorem LK_link {σ : zSt} {i j : Nat} {len : Int32} (h : LK σ) (hi : i < 12) (hj : j < 12) (hij : i ≠ j) (h1 : ¬ len < 1) : LK (mlink (zup (njoin σ i j len) 0 1 0) i j len) ∧ (zup (njoin σ i j len) 0 1 0) 2 1 = mlink (zup (njoin σ i j len) 0 1 0) i j len 32 1 := by
  obtain ⟨g1, g2, g3, g4, g5⟩ := h
  have t33 : (zup (njoin σ i j len) 0 1 0) 33 = σ 33 := by rw [zup_ne (by decide), njoin_hi 33 (by decide)]
  have t32 : (zup (njoin σ i j len) 0 1 0) 32 = σ 32 := by rw [zup_ne (by decide), njoin_hi 32 (by decide)]
  have lk : zLk (zup (njoin σ i j len) 0 1 0) (nI i) (nI j) = zIn (σ 7 i) (nI j) := by rw [g3 i j hi hj]; unfold zLk; rw [t33]
  have n1 : (njoin σ i j len) 2 1 = if zIn (σ 7 i) (nI j) = true then σ 2 1 else σ 2 1 + 1 := by
    unfold njoin
    rw [zup_ne (by decide), zup_ne (by decide), zup_ne (by decide), zup_ne (by decide)]
    unfold njoin0
    split
    · rfl
    · rw [zup_self]; simp [upd]
  have m1 : mlink (zup (njoin σ i j len) 0 1 0) i j len 32 1 = if zIn (σ 7 i) (nI j) = true then σ 32 1 + 0 else σ 32 1 + 1 := by
    unfold mlink
    rw [lk, t32]
    simp [zup]
  have key : (zup (njoin σ i j len) 0 1 0) 2 1 = mlink (zup (njoin σ i j len) 0 1 0) i j len 32 1 := by
    rw [zup_ne (by decide), n1, m1, g2]
    split <;> simp
  have u2 : mlink (zup (njoin σ i j len) 0 1 0) i j len 2 = (njoin σ i j len) 2 := by
    unfold mlink
    rw [zup_ne (by decide), zup_ne (by decide), zup_ne (by decide), zup_ne (by decide), zup_ne (by decide)]
  refine ⟨⟨?_, ?_, fun a b ha hb => ?_, fun a ha => ?_, fun k hk => ?_⟩, key⟩
  · rw [u2, njoin_2, g1]
    unfold mlink
    simp [zup, njoin_hi 32 (Nat.le_refl 32)]
  · rw [u2, ← key, zup_ne (by decide)]
  · have u7 : mlink (zup (njoin σ i j len) 0 1 0) i j len 7 = njoin σ i j len 7 := by
      unfold mlink
      rw [zup_ne (by decide), zup_ne (by decide), zup_ne (by decide), zup_ne (by decide), zup_ne (by decide)]
    have u33 : mlink (zup (njoin σ i j len) 0 1 0) i j len 33 = upd (upd (σ 33) (12 * i + j) len) (12 * j + i) len := by
      unfold mlink
      rw [zup_ne (by decide), zup_self, zup_self, zup_ne (by decide), t33]
    have hpos : (0 : Int32) < len := Int32.lt_of_lt_of_le (by decide) (Int32.not_lt.mp h1)
    rw [u7, njoin_7 (a := a) (b := b) hi hj (by omega) hij, g3 a b ha hb]
    unfold zLk
    rw [u33, zi12', nI_clamp (by omega)]
    unfold upd
    by_cases c1 : 12 * a + b = 12 * j + i
    · have q1 : a = j := by omega
      have q2 : b = i := by omega
      simp [c1, q1, q2, hpos]
    · by_cases c2 : 12 * a + b = 12 * i + j
      · have q1 : a = i := by omega
        have q2 : b = j := by omega
        simp [c1, c2, q1, q2, hpos]
      · have q1 : ¬ (a = i ∧ b = j) := fun q => c2 (by rw [q.1, q.2])
        have q2 : ¬ (a = j ∧ b = i) := fun q => c1 (by rw [q.1, q.2])
        simp [c1, c2, q1, q2]
  · have u6 : mlink (zup (njoin σ i j len) 0 1 0) i j len 6 = σ 6 := by
      unfold mlink njoin
      rw [zup_ne (by decide), zup_ne (by decide), zup_ne (by decide), zup_ne (by decide), zup_ne (by decide), zup_ne (by decide), zup_ne (by decide), zup_ne (by decide), zup_ne (by decide)]
      unfold njoin0
      split
      · rfl
      · rw [zup_ne (by decide)]
    have u34 : mlink (zup (njoin σ i j len) 0 1 0) i j len 34 = σ 34 := by
      unfold mlink
      rw [zup_ne (by decide), zup_ne (by decide), zup_ne (by decide), zup_ne (by decide), zup_ne (by decide), njoin_hi 34 (by decide)]
    rw [u6, u34]; exact g4 a ha
  · have v8 : (njoin0 σ i j) 8 = σ 8 := by
      unfold njoin0
      split
      · rfl
      · rw [zup_ne (by decide)]
    have u8 : mlink (zup (njoin σ i j len) 0 1 0) i j len 8 = upd (upd (σ 8) (i * 12 + j) len) (j * 12 + i) len := by
      unfold mlink njoin
      rw [zup_ne (by decide), zup_ne (by decide), zup_ne (by decide), zup_ne (by decide), zup_ne (by decide), zup_self, zup_self, zup_ne (by decide), zup_ne (by decide), v8]
    have u33 : mlink (zup (njoin σ i j len) 0 1 0) i j len 33 = upd (upd (σ 33) (12 * i + j) len) (12 * j + i) len := by
      unfold mlink
      rw [zup_ne (by decide), zup_self, zup_self, zup_ne (by decide), t33]
    rw [u8, u33, Nat.mul_comm i 12, Nat.mul_comm j 12]
    unfold upd
    rw [g5 k hk]
theorem LK_mark {σ : zSt} {j : Nat} {v : Int32} (h : LK σ) : LK (zup (zup (zup (zup σ 6 j v) 0 1 0) 34 j v) 32 4 0) := by
  obtain ⟨g1, g2, g3, g4, g5⟩ := h
  refine ⟨by simp [zup]; exact g1, by simp [zup]; exact g2, fun a b ha hb => ?_, fun a ha => ?_, fun k hk => ?_⟩
  · have e7 : (zup (zup (zup (zup σ 6 j v) 0 1 0) 34 j v) 32 4 0) 7 = σ 7 := by rw [zup_ne (by decide), zup_ne (by decide), zup_ne (by decide), zup_ne (by decide)]
    have e33 : (zup (zup (zup (zup σ 6 j v) 0 1 0) 34 j v) 32 4 0) 33 = σ 33 := by rw [zup_ne (by decide), zup_ne (by decide), zup_ne (by decide), zup_ne (by decide)]
    rw [e7]
    unfold zLk
    rw [e33]; exact g3 a b ha hb
  · have e6 : (zup (zup (zup (zup σ 6 j v) 0 1 0) 34 j v) 32 4 0) 6 = upd (σ 6) j v := by rw [zup_ne (by decide), zup_ne (by decide), zup_ne (by decide), zup_self]
    have e34 : (zup (zup (zup (zup σ 6 j v) 0 1 0) 34 j v) 32 4 0) 34 = upd (σ 34) j v := by rw [zup_ne (by decide), zup_self, zup_ne (by decide), zup_ne (by decide)]
    rw [e6, e34]
    unfold upd
    by_cases q : a = j
    · rw [if_pos q, if_pos q]
    · rw [if_neg q, if_neg q]; exact g4 a ha
  · rw [zup_ne (by decide), zup_ne (by decide), zup_ne (by decide), zup_ne (by decide), zup_ne (by decide), zup_ne (by decide), zup_ne (by decide), zup_ne (by decide)]; exact g5 k hk
theorem zHas_no {σ : zSt} (h : σ 2 0 = σ 32 0) (a : Int32) : zHas σ a = !zNo σ a := by
  unfold zHas zNo
  rw [h]
  by_cases h1 : a < 0
  · rw [decide_eq_false (fun q => q.1 h1), decide_eq_true (Or.inl h1)]; rfl
  · by_cases h2 : a < σ 32 0
    · rw [decide_eq_true ⟨h1, Int32.not_le.mpr h2⟩, decide_eq_false (fun q => q.elim h1 (fun q => q h2))]; rfl
    · rw [decide_eq_false (fun q => q.2 (Int32.not_lt.mp h2)), decide_eq_true (Or.inr h2)]; rfl
theorem zNo_in {σ : zSt} {n i : Nat} (hn : σ 32 0 = nI n) (hle : n ≤ 12) (hi : i < n) : zNo σ (nI i) = false := by
  unfold zNo
  rw [hn]
  have h1 : ¬ nI i < 0 := fun q => by
    have := i32_lt.mp q
    rw [nI_toInt (by omega)] at this
    have e0 : (0 : Int32).toInt = 0 := by decide
    omega
  have h2 : nI i < nI n := i32_lt.mpr (by rw [nI_toInt (by omega), nI_toInt (by omega)]; omega)
  simp [h1, h2]
theorem nI_in12 {i j : Nat} (hi : i < 12) (hj : j < 12) (h : nI i = nI j) : i = j := by
  have := congrArg Int32.toInt h
  rw [nI_toInt (by omega), nI_toInt (by omega)] at this
  omega
def INVL (σ : zSt) : Prop := INV σ ∧ LK σ
theorem INVL_0 : INVL (mbegin s0 1) := by
  refine ⟨INV_0, ?_, ?_, fun a b ha hb => ?_, fun a ha => ?_, fun k hk => ?_⟩
  · unfold mbegin
    rw [zfill_ne (by decide), zfill_ne (by decide), zfill_ne (by decide), zfill_ne (by decide)]
    rfl
  · unfold mbegin
    rw [zfill_ne (by decide), zfill_ne (by decide), zfill_ne (by decide), zfill_ne (by decide)]
    rfl
  · have e1 : mbegin s0 1 7 a = 0 := by unfold mbegin; rw [zfill_ne (by decide), zfill_ne (by decide)]; rfl
    have e2 : mbegin s0 1 33 (12 * nI a + nI b).toNatClampNeg = 0 := by
      rw [zi12', nI_clamp (by omega)]
      have : 12 * a + b < 144 := by omega
      simp [mbegin, zfill, this]
    unfold zLk
    rw [e1, e2, zIn_0 (by omega)]
    decide
  · have e1 : mbegin s0 1 6 a = 0 := by unfold mbegin; rw [zfill_ne (by decide), zfill_ne (by decide)]; rfl
    rw [e1]; simp [mbegin, zfill, ha]
  · have e1 : mbegin s0 1 8 k = 0 := by unfold mbegin; rw [zfill_ne (by decide), zfill_ne (by decide)]; rfl
    rw [e1]; simp [mbegin, zfill, hk]
section INVLS
variable {σ τ υ : zSt}
theorem INVL.c (h : INVL σ) (hC : CI τ) (hF : zFr FX σ τ) : INVL τ := ⟨INV.c h.1 hC hF, h.2.c hF⟩
theorem INVL.m (h : INVL σ) (hM : MI τ) (hF : MF FMo JMo σ τ) : INVL τ := ⟨INV.m h.1 hM hF, h.2.m hF⟩
theorem INVL.begin {v x y : Int32} (h : INVL σ) (h1 : (x = -1 ∧ τ = σ ∧ (v < 1 ∨ ¬ v ≤ 12)) ∨ (x = 0 ∧ ¬ v < 1 ∧ v ≤ 12 ∧ τ = zup (nclear σ v) 0 1 0)) (h2 : (y = -1 ∧ υ = τ ∧ (v < 1 ∨ ¬ v ≤ 12)) ∨ (y = 0 ∧ ¬ v < 1 ∧ v ≤ 12 ∧ υ = mbegin τ v)) : x = y ∧ INVL υ := by
  obtain ⟨e, hI⟩ := INV.begin h.1 h1 h2
  refine ⟨e, hI, ?_⟩
  rcases h1 with ⟨e1, rfl, q1⟩ | ⟨e1, q1, q2, e2⟩
  · rcases h2 with ⟨e3, rfl, q3⟩ | ⟨e3, q3, q4, e4⟩
    · exact h.2
    · rcases q1 with q | q
      · exact absurd q q3
      · exact absurd q4 q
  · rcases h2 with ⟨e3, rfl, q3⟩ | ⟨e3, q3, q4, e4⟩
    · rcases q3 with q | q
      · exact absurd q q1
      · exact absurd q2 q
    · rw [e4, e2]; exact LK_begin
theorem INVL.link {n m : Nat} {x y a b len : Int32} (h : INVL σ) (hn : σ 2 0 = nI n) (hln : n ≤ 12) (hm : τ 32 0 = nI m) (hlm : m ≤ 12) (h1 : (x = -1 ∧ τ = σ ∧ (zHas σ a = false ∨ zHas σ b = false ∨ a = b ∨ len < 1 ∨ ¬ len ≤ 9)) ∨ (∃ i j, i < n ∧ j < n ∧ a = nI i ∧ b = nI j ∧ i ≠ j ∧ ¬ len < 1 ∧ len ≤ 9 ∧ τ = zup (njoin σ i j len) 0 1 0 ∧ x = τ 2 1)) (h2 : (y = -1 ∧ υ = τ ∧ (zNo τ a = true ∨ zNo τ b = true ∨ a = b ∨ len < 1 ∨ ¬ len ≤ 9)) ∨ (∃ i j, i < m ∧ j < m ∧ a = nI i ∧ b = nI j ∧ i ≠ j ∧ ¬ len < 1 ∧ len ≤ 9 ∧ υ = mlink τ i j len ∧ y = υ 32 1)) : x = y ∧ INVL υ := by
  have hI := INV.link h.1 hm h1 h2
  have g1 : σ 2 0 = σ 32 0 := h.2.1
  rcases h1 with ⟨e1, e2, q⟩ | ⟨i, j, hi, hj, ea, eb, hij, q1, q2, e2, e1⟩
  · rcases h2 with ⟨e3, e4, _⟩ | ⟨i, j, hi, hj, ea, eb, hij, q1, q2, e4, e3⟩
    · refine ⟨by rw [e1, e3], hI, ?_⟩
      rw [e4, e2]; exact h.2
    · exfalso
      rw [e2] at hm
      rcases q with q | q | q | q | q
      · rw [zHas_no g1, ea, zNo_in hm hlm hi] at q; exact absurd q (by decide)
      · rw [zHas_no g1, eb, zNo_in hm hlm hj] at q; exact absurd q (by decide)
      · rw [ea, eb] at q; exact hij (nI_in12 (by omega) (by omega) q)
      · exact q1 q
      · exact q q2
  · have hn3 : τ 32 0 = nI n := by rw [e2, zup_ne (by decide), njoin_hi 32 (Nat.le_refl 32), ← g1]; exact hn
    rcases h2 with ⟨e3, e4, q⟩ | ⟨i', j', hi', hj', ea', eb', _, _, _, e4, e3⟩
    · exfalso
      rcases q with q | q | q | q | q
      · rw [ea, zNo_in hn3 hln hi] at q; exact absurd q (by decide)
      · rw [eb, zNo_in hn3 hln hj] at q; exact absurd q (by decide)
      · rw [ea, eb] at q; exact hij (nI_in12 (by omega) (by omega) q)
      · exact q1 q
      · exact q q2
    · have ei : i' = i := nI_in12 (by omega) (by omega) (ea'.symm.trans ea)
      have ej : j' = j := nI_in12 (by omega) (by omega) (eb'.symm.trans eb)
      rw [ei, ej, e2] at e4
      obtain ⟨k1, k2⟩ := LK_link (len := len) h.2 (show i < 12 by omega) (show j < 12 by omega) hij q1
      refine ⟨?_, hI, ?_⟩
      · rw [e1, e3, e4, e2]; exact k2
      · rw [e4]; exact k1
theorem INVL.mark {n m : Nat} {x y a v : Int32} (h : INVL σ) (hn : σ 2 0 = nI n) (hln : n ≤ 12) (hm : τ 32 0 = nI m) (hlm : m ≤ 12) (h1 : (x = -1 ∧ τ = σ ∧ (zHas σ a = false ∨ v < 0 ∨ ¬ v ≤ 99)) ∨ (∃ j, j < n ∧ a = nI j ∧ ¬ v < 0 ∧ v ≤ 99 ∧ x = σ 6 j ∧ τ = zup (zup σ 6 j v) 0 1 0)) (h2 : (y = -1 ∧ υ = τ ∧ (zNo τ a = true ∨ v < 0 ∨ ¬ v ≤ 99)) ∨ (∃ j, j < m ∧ a = nI j ∧ ¬ v < 0 ∧ v ≤ 99 ∧ y = τ 34 j ∧ υ = zup (zup τ 34 j v) 32 4 0)) : x = y ∧ INVL υ := by
  have hI := INV.mark h.1 h1 h2
  have g1 : σ 2 0 = σ 32 0 := h.2.1
  rcases h1 with ⟨e1, e2, q⟩ | ⟨i, hi, ea, q1, q2, e1, e2⟩
  · rcases h2 with ⟨e3, e4, _⟩ | ⟨i, hi, ea, q1, q2, e3, e4⟩
    · refine ⟨by rw [e1, e3], hI, ?_⟩
      rw [e4, e2]; exact h.2
    · exfalso
      rw [e2] at hm
      rcases q with q | q | q
      · rw [zHas_no g1, ea, zNo_in hm hlm hi] at q; exact absurd q (by decide)
      · exact q1 q
      · exact q q2
  · have hn3 : τ 32 0 = nI n := by rw [e2, zup_ne (by decide), zup_ne (by decide), ← g1]; exact hn
    rcases h2 with ⟨e3, e4, q⟩ | ⟨i', hi', ea', _, _, e3, e4⟩
    · exfalso
      rcases q with q | q | q
      · rw [ea, zNo_in hn3 hln hi] at q; exact absurd q (by decide)
      · exact q1 q
      · exact q q2
    · have ei : i' = i := nI_in12 (by omega) (by omega) (ea'.symm.trans ea)
      rw [ei, e2] at e4
      refine ⟨?_, hI, ?_⟩
      · rw [e1, e3, ei, e2, zup_ne (by decide), zup_ne (by decide)]
        exact h.2.2.2.2.1 i (by omega)
      · rw [e4]; exact LK_mark h.2
end INVLS
end
