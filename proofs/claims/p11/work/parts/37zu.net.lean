-- Both sides at once: the two nets, and the running
section SIDES
variable {n R W p : Nat} {src : Int32} {mk : Nat → Int32} {len : Nat → Nat → Int32} {lk pa : Nat → Nat → Bool} {up : Nat → Option Nat} {ld : Nat → Nat} {A : AS} {σ τ υ : zSt}
theorem CT.lo2 (h : CT σ n R W p src mk len lk pa up ld) (e : ∀ c, c < 32 → τ c = σ c) : CT τ n R W p src mk len lk pa up ld := by
  unfold CT at h ⊢
  rw [e 2 (by decide), e 1 (by decide), e 4 (by decide), e 6 (by decide), e 8 (by decide), e 7 (by decide), e 9 (by decide), e 12 (by decide), e 13 (by decide), e 14 (by decide)]
  exact h
theorem CA.lo2 (h : CA σ n W pa up A) (e : ∀ c, c < 32 → τ c = σ c) : CA τ n W pa up A := by
  have hp : PV τ (aL A) := h.2.1.1.of (fun c hc => e c (by revert c; decide))
  unfold CA at h ⊢
  rw [e 24 (by decide), e 1 (by decide), e 16 (by decide), e 17 (by decide), e 30 (by decide), e 26 (by decide), e 25 (by decide), e 27 (by decide), e 28 (by decide), e 29 (by decide), e 18 (by decide)]
  exact ⟨h.1, ⟨hp, h.2.1.2⟩, h.2.2⟩
theorem MT.hi2 (h : MT σ n R W p src mk len lk pa up) (e : ∀ c, 32 ≤ c → τ c = σ c) : MT τ n R W p src mk len lk pa up := by
  obtain ⟨h1, ⟨h2, h3, h4⟩, h5, h6, h7, h8, h9, h10⟩ := h
  have e32 := e 32 (by decide)
  have e33 := e 33 (by decide)
  have e41 := e 41 (by decide)
  refine ⟨h1.of (by rw [e32]) (by rw [e32]) (by rw [e32]) e41 e33 (e 34 (by decide)), ⟨by rw [e32]; exact h2, h3, by rw [e32]; exact h4⟩, by rw [e 34 (by decide)]; exact h5, by rw [e33]; exact h6, fun a b ha hb => ?_, by rw [upS_eq e41]; exact h8, h9, by rw [e 44 (by decide)]; exact h10⟩
  rw [← h7 a b ha hb]
  unfold zLk
  rw [e33]
theorem MA.hi2 (h : MA σ n A) (e : ∀ c, 32 ≤ c → τ c = σ c) : MA τ n A := by
  have ep : psS τ = psS σ := psS_eq (e 35 (by decide)) (e 36 (by decide)) (e 37 (by decide)) (e 38 (by decide)) (e 39 (by decide)) (e 40 (by decide))
  have hl : ML τ (aL A) := h.2.1.1.of (by rw [e 32 (by decide)]) (e 51 (by decide))
  unfold MA at h ⊢
  rw [ep, e 35 (by decide), e 32 (by decide), e 47 (by decide), e 48 (by decide), e 49 (by decide), e 45 (by decide), e 46 (by decide)]
  exact ⟨h.1, ⟨hl, h.2.1.2⟩, h.2.2⟩
end SIDES
def DG (σ : zSt) : Prop := ∀ a, a < 12 → σ 33 (12 * a + a) = 0
def NET (σ : zSt) : Prop := (∃ n, σ 2 0 = nI n ∧ 1 ≤ n ∧ n ≤ 12) ∧ LK σ ∧ LM σ ∧ SY σ ∧ DG σ
/-- class and reference run as the same pure machine -/
def RUNP (σ : zSt) (n R W p : Nat) (src : Int32) (mk : Nat → Int32) (len : Nat → Nat → Int32) (lk pa : Nat → Nat → Bool) (up : Nat → Option Nat) (ld : Nat → Nat) (A : AS) : Prop :=
  CT σ n R W p src mk len lk pa up ld ∧ MT σ n R W p src mk len lk pa up ∧ FRA n W lk pa up ld ∧ CA σ n W pa up A ∧ MA σ n A ∧ QR n R W p lk pa up ld A ∧ (∀ c, c < n → σ 10 c = σ 41 c ∧ σ 9 c = σ 42 c) ∧ (σ 3 0 = σ 32 19 ∧ σ 3 1 = σ 32 20) ∧ ∀ q b, q ≤ R → b < n → σ 31 (q * 12 + b) = σ 50 (12 * q + b)
def RUN (σ : zSt) : Prop := ∃ (n R W p : Nat) (src : Int32) (mk : Nat → Int32) (len : Nat → Nat → Int32) (lk pa : Nat → Nat → Bool) (up : Nat → Option Nat) (ld : Nat → Nat) (A : AS), RUNP σ n R W p src mk len lk pa up ld A
def INVE (σ : zSt) : Prop := NET σ ∧ (σ 0 1 = 0 ↔ σ 32 4 = 0) ∧ (¬ σ 0 1 = 0 → RUN σ)
section NETS
variable {σ τ υ : zSt}
theorem NET.of (h : NET σ) (e2 : τ 2 = σ 2) (e0 : τ 32 0 = σ 32 0) (e1 : τ 32 1 = σ 32 1) (e7 : τ 7 = σ 7) (e33 : τ 33 = σ 33) (e6 : τ 6 = σ 6) (e34 : τ 34 = σ 34) (e8 : τ 8 = σ 8) : NET τ := by
  obtain ⟨⟨n, h1, h2⟩, h3, h4, h5, h6⟩ := h
  exact ⟨⟨n, by rw [e2]; exact h1, h2⟩, h3.of e2 e0 e1 e7 e33 e6 e34 e8, h4.of e33 e34, h5.of e7 e33 e0, fun a ha => by rw [e33]; exact h6 a ha⟩
theorem NET.c (h : NET σ) (hF : zFr FX σ τ) : NET τ := h.of (hF 2 (by decide)) (by rw [hF 32 (by decide)]) (by rw [hF 32 (by decide)]) (hF 7 (by decide)) (hF 33 (by decide)) (hF 6 (by decide)) (hF 34 (by decide)) (hF 8 (by decide))
theorem NET.m (h : NET σ) (hF : MF FMo JMo σ τ) : NET τ := h.of (hF.at (by decide)) (hF.2 0 (by decide)) (hF.2 1 (by decide)) (hF.at (by decide)) (hF.at (by decide)) (hF.at (by decide)) (hF.at (by decide)) (hF.at (by decide))
theorem NET_begin {v : Int32} (h1 : ¬ v < 1) (h2 : v ≤ 12) : NET (mbegin (zup (nclear σ v) 0 1 0) v) := by
  have hI : CI (mbegin (zup (nclear σ v) 0 1 0) v) := CI.of (CI_begin (σ := σ) h1 h2) (fun c hc => by
    unfold mbegin
    rw [zfill_ne (by omega), zfill_ne (by omega), zup_ne (by omega), zup_ne (by omega), zup_ne (by omega)])
  refine ⟨hI.1, LK_begin, LM_begin, SY_begin h1 h2, fun a ha => ?_⟩
  have hk : 12 * a + a < 144 := by omega
  unfold mbegin
  rw [zfill_ne (by decide)]
  simp [zfill, hk]
theorem NET_0 : NET (mbegin s0 1) := by
  refine ⟨s0_CI.1, INVL_0.2, LM_begin, SY_0, fun a ha => ?_⟩
  have hk : 12 * a + a < 144 := by omega
  unfold mbegin
  rw [zfill_ne (by decide)]
  simp [zfill, hk]
theorem NET.link {n i j : Nat} {len : Int32} (h : NET σ) (hn : σ 2 0 = nI n) (hle : n ≤ 12) (hi : i < n) (hj : j < n) (hij : i ≠ j) (h1 : ¬ len < 1) (h2 : len ≤ 9) : NET (mlink (zup (njoin σ i j len) 0 1 0) i j len) := by
  obtain ⟨⟨n', q1, q2, q3⟩, hL, hM, hS, hD⟩ := h
  have u2 : mlink (zup (njoin σ i j len) 0 1 0) i j len 2 0 = σ 2 0 := by
    unfold mlink
    rw [zup_ne (by decide), zup_ne (by decide), zup_ne (by decide), zup_ne (by decide), zup_ne (by decide), njoin_2]
  have u33 : mlink (zup (njoin σ i j len) 0 1 0) i j len 33 = upd (upd (σ 33) (12 * i + j) len) (12 * j + i) len := by
    unfold mlink
    rw [zup_ne (by decide), zup_self, zup_self, zup_ne (by decide), zup_ne (by decide), njoin_hi 33 (by decide)]
  have u34 : mlink (zup (njoin σ i j len) 0 1 0) i j len 34 = σ 34 := by
    unfold mlink
    rw [zup_ne (by decide), zup_ne (by decide), zup_ne (by decide), zup_ne (by decide), zup_ne (by decide), njoin_hi 34 (by decide)]
  have c1 : ¬ len.toInt < 1 := fun q => h1 (i32_lt.mpr (by rw [show (1 : Int32).toInt = 1 by decide]; exact q))
  have c2 := i32_le.mp h2
  rw [show (9 : Int32).toInt = 9 by decide] at c2
  refine ⟨⟨n', by rw [u2]; exact q1, q2, q3⟩, (LK_link hL (by omega) (by omega) hij h1).1, ⟨fun k hk => ?_, fun a ha => ?_⟩, SY_link hS (by rw [← hL.1]; exact hn) hle hi hj hij, fun a ha => ?_⟩
  · rw [u33]
    unfold upd
    split
    · omega
    · split
      · omega
      · exact hM.1 k hk
  · rw [u34]; exact hM.2 a ha
  · rw [u33]
    unfold upd
    rw [if_neg (by omega), if_neg (by omega)]
    exact hD a ha
theorem NET.mark {j : Nat} {v : Int32} (h : NET σ) (h1 : ¬ v < 0) (h2 : v ≤ 99) : NET (zup (zup (zup (zup σ 6 j v) 0 1 0) 34 j v) 32 4 0) := by
  obtain ⟨⟨n', q1, q2, q3⟩, hL, hM, hS, hD⟩ := h
  have c1 : ¬ v.toInt < 0 := fun q => h1 (i32_lt.mpr (by rw [show (0 : Int32).toInt = 0 by decide]; exact q))
  have c2 := i32_le.mp h2
  rw [show (99 : Int32).toInt = 99 by decide] at c2
  have u : ∀ c, c ≠ 6 → c ≠ 0 → c ≠ 34 → c ≠ 32 → zup (zup (zup (zup σ 6 j v) 0 1 0) 34 j v) 32 4 0 c = σ c := fun c k1 k2 k3 k4 => by
    rw [zup_ne k4, zup_ne k3, zup_ne k2, zup_ne k1]
  refine ⟨⟨n', by rw [u 2 (by decide) (by decide) (by decide) (by decide)]; exact q1, q2, q3⟩, LK_mark hL, ⟨fun k hk => ?_, fun a ha => ?_⟩, hS.of (u 7 (by decide) (by decide) (by decide) (by decide)) (u 33 (by decide) (by decide) (by decide) (by decide)) (by simp [zup]), fun a ha => ?_⟩
  · rw [u 33 (by decide) (by decide) (by decide) (by decide)]; exact hM.1 k hk
  · rw [zup_ne (by decide), zup_self, zup_ne (by decide), zup_ne (by decide)]
    unfold upd
    split
    · omega
    · exact hM.2 a ha
  · rw [u 33 (by decide) (by decide) (by decide) (by decide)]; exact hD a ha
theorem INVE_off (h : NET τ) (h0 : τ 0 1 = 0) (h4 : τ 32 4 = 0) : INVE τ := ⟨h, ⟨fun _ => h4, fun _ => h0⟩, fun q => absurd h0 q⟩
theorem INVE_0 : INVE (mbegin s0 1) := INVE_off NET_0 (by unfold mbegin; rw [zfill_ne (by decide), zfill_ne (by decide)]; rfl) (by unfold mbegin; rw [zfill_ne (by decide), zfill_ne (by decide)]; simp [zup])
theorem INVE.begin {v x y : Int32} (h : INVE σ) (h1 : (x = -1 ∧ τ = σ ∧ (v < 1 ∨ ¬ v ≤ 12)) ∨ (x = 0 ∧ ¬ v < 1 ∧ v ≤ 12 ∧ τ = zup (nclear σ v) 0 1 0)) (h2 : (y = -1 ∧ υ = τ ∧ (v < 1 ∨ ¬ v ≤ 12)) ∨ (y = 0 ∧ ¬ v < 1 ∧ v ≤ 12 ∧ υ = mbegin τ v)) : x = y ∧ INVE υ := by
  rcases h1 with ⟨e1, e2, q1⟩ | ⟨e1, q1, q2, e2⟩
  · rcases h2 with ⟨e3, e4, q3⟩ | ⟨e3, q3, q4, e4⟩
    · exact ⟨by rw [e1, e3], by rw [e4, e2]; exact h⟩
    · rcases q1 with q | q
      · exact absurd q q3
      · exact absurd q4 q
  · rcases h2 with ⟨e3, e4, q3⟩ | ⟨e3, q3, q4, e4⟩
    · rcases q3 with q | q
      · exact absurd q q1
      · exact absurd q2 q
    · refine ⟨by rw [e1, e3], ?_⟩
      rw [e4, e2]
      refine INVE_off (NET_begin q1 q2) ?_ ?_
      · simp [mbegin, zfill, zup]
      · simp [mbegin, zfill, zup]
/-- between link's two calls the reference's net is as it was -/
theorem INVE.n2 (h : INVE σ) (e : τ 32 0 = σ 32 0) : ∃ m, τ 32 0 = nI m ∧ m ≤ 12 := by
  obtain ⟨⟨⟨n, q1, q2, q3⟩, hL, _⟩, _⟩ := h
  exact ⟨n, by rw [e, ← hL.1]; exact q1, q3⟩
theorem link_32 {n : Nat} {x a b len : Int32} (h1 : (x = -1 ∧ τ = σ ∧ (zHas σ a = false ∨ zHas σ b = false ∨ a = b ∨ len < 1 ∨ ¬ len ≤ 9)) ∨ (∃ i j, i < n ∧ j < n ∧ a = nI i ∧ b = nI j ∧ i ≠ j ∧ ¬ len < 1 ∧ len ≤ 9 ∧ τ = zup (njoin σ i j len) 0 1 0 ∧ x = τ 2 1)) : τ 32 0 = σ 32 0 := by
  rcases h1 with ⟨_, e, _⟩ | ⟨i, j, _, _, _, _, _, _, _, e, _⟩
  · rw [e]
  · rw [e, zup_ne (by decide), njoin_hi 32 (by decide)]
theorem mark_32 {n : Nat} {x a v : Int32} (h1 : (x = -1 ∧ τ = σ ∧ (zHas σ a = false ∨ v < 0 ∨ ¬ v ≤ 99)) ∨ (∃ j, j < n ∧ a = nI j ∧ ¬ v < 0 ∧ v ≤ 99 ∧ x = σ 6 j ∧ τ = zup (zup σ 6 j v) 0 1 0)) : τ 32 0 = σ 32 0 := by
  rcases h1 with ⟨_, e, _⟩ | ⟨j, _, _, _, _, _, e⟩
  · rw [e]
  · rw [e, zup_ne (by decide), zup_ne (by decide)]
theorem INVE.link {n m : Nat} {x y a b len : Int32} (h : INVE σ) (hn : σ 2 0 = nI n) (hln : n ≤ 12) (hm : τ 32 0 = nI m) (hlm : m ≤ 12) (h1 : (x = -1 ∧ τ = σ ∧ (zHas σ a = false ∨ zHas σ b = false ∨ a = b ∨ len < 1 ∨ ¬ len ≤ 9)) ∨ (∃ i j, i < n ∧ j < n ∧ a = nI i ∧ b = nI j ∧ i ≠ j ∧ ¬ len < 1 ∧ len ≤ 9 ∧ τ = zup (njoin σ i j len) 0 1 0 ∧ x = τ 2 1)) (h2 : (y = -1 ∧ υ = τ ∧ (zNo τ a = true ∨ zNo τ b = true ∨ a = b ∨ len < 1 ∨ ¬ len ≤ 9)) ∨ (∃ i j, i < m ∧ j < m ∧ a = nI i ∧ b = nI j ∧ i ≠ j ∧ ¬ len < 1 ∧ len ≤ 9 ∧ υ = mlink τ i j len ∧ y = υ 32 1)) : x = y ∧ INVE υ := by
  have g1 : σ 2 0 = σ 32 0 := h.1.2.1.1
  rcases h1 with ⟨e1, e2, q⟩ | ⟨i, j, hi, hj, ea, eb, hij, q1, q2, e2, e1⟩
  · rcases h2 with ⟨e3, e4, _⟩ | ⟨i, j, hi, hj, ea, eb, hij, q1, q2, e4, e3⟩
    · exact ⟨by rw [e1, e3], by rw [e4, e2]; exact h⟩
    · exfalso
      rw [e2] at hm
      rcases q with q | q | q | q | q
      · rw [zHas_no g1, ea, zNo_in hm hlm hi] at q; exact absurd q (by decide)
      · rw [zHas_no g1, eb, zNo_in hm hlm hj] at q; exact absurd q (by decide)
      · rw [ea, eb] at q; exact hij (nI_in12 (by omega) (by omega) q)
      · exact q1 q
      · exact q q2
  · have hn3 : τ 32 0 = nI n := by rw [e2, zup_ne (by decide), njoin_hi 32 (Nat.le_refl 32), ← g1]; exact hn
    rcases h2 with ⟨e3, e4, q⟩ | ⟨i', j', hi', hj', ea', eb', _, _, _, e4, e3⟩
    · exfalso
      rcases q with q | q | q | q | q
      · rw [ea, zNo_in hn3 hln hi] at q; exact absurd q (by decide)
      · rw [eb, zNo_in hn3 hln hj] at q; exact absurd q (by decide)
      · rw [ea, eb] at q; exact hij (nI_in12 (by omega) (by omega) q)
      · exact q1 q
      · exact q q2
    · have ei : i' = i := nI_in12 (by omega) (by omega) (ea'.symm.trans ea)
      have ej : j' = j := nI_in12 (by omega) (by omega) (eb'.symm.trans eb)
      rw [ei, ej, e2] at e4
      refine ⟨?_, ?_⟩
      · rw [e1, e3, e4, e2]
        exact (LK_link (len := len) h.1.2.1 (show i < 12 by omega) (show j < 12 by omega) hij q1).2
      · rw [e4]
        refine INVE_off (h.1.link hn hln hi hj hij q1 q2) ?_ ?_
        · simp [mlink, zup]
        · simp [mlink, zup]
theorem INVE.mark {n m : Nat} {x y a v : Int32} (h : INVE σ) (hn : σ 2 0 = nI n) (hln : n ≤ 12) (hm : τ 32 0 = nI m) (hlm : m ≤ 12) (h1 : (x = -1 ∧ τ = σ ∧ (zHas σ a = false ∨ v < 0 ∨ ¬ v ≤ 99)) ∨ (∃ j, j < n ∧ a = nI j ∧ ¬ v < 0 ∧ v ≤ 99 ∧ x = σ 6 j ∧ τ = zup (zup σ 6 j v) 0 1 0)) (h2 : (y = -1 ∧ υ = τ ∧ (zNo τ a = true ∨ v < 0 ∨ ¬ v ≤ 99)) ∨ (∃ j, j < m ∧ a = nI j ∧ ¬ v < 0 ∧ v ≤ 99 ∧ y = τ 34 j ∧ υ = zup (zup τ 34 j v) 32 4 0)) : x = y ∧ INVE υ := by
  have g1 : σ 2 0 = σ 32 0 := h.1.2.1.1
  rcases h1 with ⟨e1, e2, q⟩ | ⟨i, hi, ea, q1, q2, e1, e2⟩
  · rcases h2 with ⟨e3, e4, _⟩ | ⟨i, hi, ea, q1, q2, e3, e4⟩
    · exact ⟨by rw [e1, e3], by rw [e4, e2]; exact h⟩
    · exfalso
      rw [e2] at hm
      rcases q with q | q | q
      · rw [zHas_no g1, ea, zNo_in hm hlm hi] at q; exact absurd q (by decide)
      · exact q1 q
      · exact q q2
  · have hn3 : τ 32 0 = nI n := by rw [e2, zup_ne (by decide), zup_ne (by decide), ← g1]; exact hn
    rcases h2 with ⟨e3, e4, q⟩ | ⟨i', hi', ea', _, _, e3, e4⟩
    · exfalso
      rcases q with q | q | q
      · rw [ea, zNo_in hn3 hln hi] at q; exact absurd q (by decide)
      · exact q1 q
      · exact q q2
    · have ei : i' = i := nI_in12 (by omega) (by omega) (ea'.symm.trans ea)
      rw [ei, e2] at e4
      refine ⟨?_, ?_⟩
      · rw [e1, e3, ei, e2, zup_ne (by decide), zup_ne (by decide)]
        exact h.1.2.1.2.2.2.1 i (by omega)
      · rw [e4]
        refine INVE_off (h.1.mark q1 q2) ?_ ?_
        · simp [zup]
        · simp [zup]
end NETS
