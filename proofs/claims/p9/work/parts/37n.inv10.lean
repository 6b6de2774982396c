-- p10: the invariant
def SY (σ : zSt) : Prop := (∀ a b, a < 12 → b < 12 → σ 33 (12 * a + b) = σ 33 (12 * b + a)) ∧ ∃ n, σ 32 0 = nI n ∧ n ≤ 12 ∧ ∀ a c, a < 12 → n ≤ c → c < 32 → zIn (σ 7 a) (nI c) = false
def ST (σ : zSt) : Prop := (σ 0 1 = 0 ↔ σ 32 4 = 0) ∧ (¬ σ 0 1 = 0 → ∃ R, σ 1 5 = nI R ∧ σ 32 8 = nI R ∧ R ≤ 20 ∧ ∀ n, σ 32 0 = nI n → n ≤ 12 → ∀ q b, q ≤ R → b < n → σ 31 (q * 12 + b) = σ 50 (12 * q + b))
def INVT (σ : zSt) : Prop := INVL σ ∧ SY σ ∧ ST σ
theorem SY.of {σ τ : zSt} (h : SY σ) (e7 : τ 7 = σ 7) (e33 : τ 33 = σ 33) (e0 : τ 32 0 = σ 32 0) : SY τ := by
  obtain ⟨h1, n, h2, h3, h4⟩ := h
  exact ⟨fun a b ha hb => by rw [e33]; exact h1 a b ha hb, n, by rw [e0]; exact h2, h3, fun a c ha hc hc2 => by rw [e7]; exact h4 a c ha hc hc2⟩
theorem SY.c {σ τ : zSt} (h : SY σ) (hF : zFr FX σ τ) : SY τ := h.of (hF 7 (by decide)) (hF 33 (by decide)) (by rw [hF 32 (by decide)])
theorem SY.m {σ τ : zSt} (h : SY σ) (hF : MF FMo JMo σ τ) : SY τ := h.of (hF.at (by decide)) (hF.at (by decide)) (hF.2 0 (by decide))
theorem ST_0 {τ : zSt} (h0 : τ 0 1 = 0) (h4 : τ 32 4 = 0) : ST τ := ⟨⟨fun _ => h4, fun _ => h0⟩, fun q => absurd h0 q⟩
theorem ST.c {σ τ : zSt} (h : ST σ) (hF : RF FR σ τ) : ST τ := by
  obtain ⟨h1, h2⟩ := h
  have e0 : τ 0 = σ 0 := hF.at (by decide)
  have e32 : τ 32 = σ 32 := hF.at (by decide)
  refine ⟨by rw [e0, e32]; exact h1, fun q => ?_⟩
  rw [e0] at q
  obtain ⟨R, r1, r2, r3, r4⟩ := h2 q
  refine ⟨R, by rw [hF.2.2]; exact r1, by rw [e32]; exact r2, r3, fun n hn hle q b hq hb => ?_⟩
  rw [hF.at (c := 31) (by decide), hF.at (c := 50) (by decide)]
  exact r4 n (by rw [← e32]; exact hn) hle q b hq hb
theorem ST.m {σ τ : zSt} (h : ST σ) (hF : MF FHan [27, 29, 30] σ τ) : ST τ := by
  obtain ⟨h1, h2⟩ := h
  have e0 : τ 0 = σ 0 := hF.at (by decide)
  have e1 : τ 1 = σ 1 := hF.at (by decide)
  refine ⟨by rw [e0, hF.2 4 (by decide)]; exact h1, fun q => ?_⟩
  rw [e0] at q
  obtain ⟨R, r1, r2, r3, r4⟩ := h2 q
  refine ⟨R, by rw [e1]; exact r1, by rw [hF.2 8 (by decide)]; exact r2, r3, fun n hn hle q b hq hb => ?_⟩
  rw [hF.at (c := 31) (by decide), hF.at (c := 50) (by decide)]
  exact r4 n (by rw [← hF.2 0 (by decide)]; exact hn) hle q b hq hb
theorem SY_begin {σ : zSt} {v : Int32} (h1 : ¬ v < 1) (h2 : v ≤ 12) : SY (mbegin (zup (nclear σ v) 0 1 0) v) := by
  have c1 : ¬ v.toInt < 1 := fun q => h1 (i32_lt.mpr (by rw [show (1 : Int32).toInt = 1 by decide]; exact q))
  have c2 := i32_le.mp h2
  rw [show (12 : Int32).toInt = 12 by decide] at c2
  have e : v = nI v.toInt.toNat := i32_of (by omega) (by omega)
  have z33 : ∀ k, k < 144 → mbegin (zup (nclear σ v) 0 1 0) v 33 k = 0 := fun k hk => by unfold mbegin; rw [zfill_ne (by decide)]; simp [zfill, hk]
  refine ⟨fun a b ha hb => by rw [z33 _ (by omega), z33 _ (by omega)], v.toInt.toNat, ?_, by omega, fun a c ha _ hc => ?_⟩
  · rw [← e]; simp [mbegin, zfill, zup]
  · have e7 : mbegin (zup (nclear σ v) 0 1 0) v 7 a = 0 := by simp [mbegin, nclear, zfill, zup, ha]
    rw [e7]; exact zIn_0 hc
theorem SY_link {σ : zSt} {i j n : Nat} {len : Int32} (h : SY σ) (hn : σ 32 0 = nI n) (hle : n ≤ 12) (hi : i < n) (hj : j < n) (hij : i ≠ j) : SY (mlink (zup (njoin σ i j len) 0 1 0) i j len) := by
  obtain ⟨h1, n', h2, h3, h4⟩ := h
  have en : n' = n := (nI_eq (by omega) (by omega)).mp (h2.symm.trans hn)
  subst en
  have u7 : mlink (zup (njoin σ i j len) 0 1 0) i j len 7 = njoin σ i j len 7 := by
    unfold mlink
    rw [zup_ne (by decide), zup_ne (by decide), zup_ne (by decide), zup_ne (by decide), zup_ne (by decide)]
  have u33 : mlink (zup (njoin σ i j len) 0 1 0) i j len 33 = upd (upd (σ 33) (12 * i + j) len) (12 * j + i) len := by
    unfold mlink
    rw [zup_ne (by decide), zup_self, zup_self, zup_ne (by decide), zup_ne (by decide), njoin_hi 33 (by decide)]
  refine ⟨fun a b ha hb => ?_, n', ?_, h3, fun a c ha hc hc2 => ?_⟩
  · rw [u33]
    unfold upd
    by_cases c1 : 12 * a + b = 12 * j + i
    · have c2 : 12 * b + a = 12 * i + j := by omega
      rw [if_pos c1, c2]
      by_cases c3 : 12 * i + j = 12 * j + i
      · rw [if_pos c3]
      · rw [if_neg c3, if_pos rfl]
    · rw [if_neg c1]
      by_cases c2 : 12 * a + b = 12 * i + j
      · have c3 : 12 * b + a = 12 * j + i := by omega
        rw [if_pos c2, if_pos c3]
      · rw [if_neg c2, if_neg (by omega), if_neg (by omega)]
        exact h1 a b ha hb
  · unfold mlink
    simp [zup, njoin_hi 32 (Nat.le_refl 32)]
    exact h2
  · rw [u7, njoin_7 (a := a) (b := c) (by omega) (by omega) hc2 hij, h4 a c ha hc hc2]
    have k1 : ¬ (a = i ∧ c = j) := fun q => by omega
    have k2 : ¬ (a = j ∧ c = i) := fun q => by omega
    rw [decide_eq_false k1, decide_eq_false k2]; rfl
theorem SY_0 : SY (mbegin s0 1) := by
  have z33 : ∀ k, k < 144 → mbegin s0 1 33 k = 0 := fun k hk => by unfold mbegin; rw [zfill_ne (by decide)]; simp [zfill, hk]
  refine ⟨fun a b ha hb => by rw [z33 _ (by omega), z33 _ (by omega)], 1, ?_, by decide, fun a c ha _ hc => ?_⟩
  · unfold mbegin
    rw [zfill_ne (by decide), zfill_ne (by decide)]
    simp [zup]; rfl
  · have e7 : mbegin s0 1 7 a = 0 := by unfold mbegin; rw [zfill_ne (by decide), zfill_ne (by decide)]; rfl
    rw [e7]; exact zIn_0 hc
theorem INVT_0 : INVT (mbegin s0 1) := ⟨INVL_0, SY_0, ST_0 (by unfold mbegin; rw [zfill_ne (by decide), zfill_ne (by decide)]; rfl) (by unfold mbegin; rw [zfill_ne (by decide), zfill_ne (by decide)]; simp [zup])⟩
section INVTS
variable {σ τ υ : zSt}
theorem INVT.c (h : INVT σ) (hC : CI τ) (hF : RF FR σ τ) : INVT τ := ⟨INVL.c h.1 hC (FR_x hF), h.2.1.c (FR_x hF), h.2.2.c hF⟩
theorem INVT.m (h : INVT σ) (hM : MI τ) (hF : MF FHan [27, 29, 30] σ τ) : INVT τ := ⟨INVL.m h.1 hM (hF.mono (by decide) (by decide)), h.2.1.m (hF.mono (by decide) (by decide)), h.2.2.m hF⟩
theorem INVT.begin {v x y : Int32} (h : INVT σ) (h1 : (x = -1 ∧ τ = σ ∧ (v < 1 ∨ ¬ v ≤ 12)) ∨ (x = 0 ∧ ¬ v < 1 ∧ v ≤ 12 ∧ τ = zup (nclear σ v) 0 1 0)) (h2 : (y = -1 ∧ υ = τ ∧ (v < 1 ∨ ¬ v ≤ 12)) ∨ (y = 0 ∧ ¬ v < 1 ∧ v ≤ 12 ∧ υ = mbegin τ v)) : x = y ∧ INVT υ := by
  obtain ⟨e, hI⟩ := INVL.begin h.1 h1 h2
  refine ⟨e, hI, ?_⟩
  rcases h1 with ⟨e1, rfl, q1⟩ | ⟨e1, q1, q2, e2⟩
  · rcases h2 with ⟨e3, rfl, q3⟩ | ⟨e3, q3, q4, e4⟩
    · exact h.2
    · rcases q1 with q | q
      · exact absurd q q3
      · exact absurd q4 q
  · rcases h2 with ⟨e3, rfl, q3⟩ | ⟨e3, q3, q4, e4⟩
    · rcases q3 with q | q
      · exact absurd q q1
      · exact absurd q2 q
    · rw [e4, e2]
      refine ⟨SY_begin q1 q2, ST_0 ?_ ?_⟩
      · simp [mbegin, zfill, zup]
      · simp [mbegin, zfill, zup]
theorem INVT.link {n m : Nat} {x y a b len : Int32} (h : INVT σ) (hn : σ 2 0 = nI n) (hln : n ≤ 12) (hm : τ 32 0 = nI m) (hlm : m ≤ 12) (h1 : (x = -1 ∧ τ = σ ∧ (zHas σ a = false ∨ zHas σ b = false ∨ a = b ∨ len < 1 ∨ ¬ len ≤ 9)) ∨ (∃ i j, i < n ∧ j < n ∧ a = nI i ∧ b = nI j ∧ i ≠ j ∧ ¬ len < 1 ∧ len ≤ 9 ∧ τ = zup (njoin σ i j len) 0 1 0 ∧ x = τ 2 1)) (h2 : (y = -1 ∧ υ = τ ∧ (zNo τ a = true ∨ zNo τ b = true ∨ a = b ∨ len < 1 ∨ ¬ len ≤ 9)) ∨ (∃ i j, i < m ∧ j < m ∧ a = nI i ∧ b = nI j ∧ i ≠ j ∧ ¬ len < 1 ∧ len ≤ 9 ∧ υ = mlink τ i j len ∧ y = υ 32 1)) : x = y ∧ INVT υ := by
  obtain ⟨e, hI⟩ := INVL.link h.1 hn hln hm hlm h1 h2
  refine ⟨e, hI, ?_⟩
  have g1 : σ 2 0 = σ 32 0 := h.1.2.1
  rcases h1 with ⟨e1, e2, q⟩ | ⟨i, j, hi, hj, ea, eb, hij, q1, q2, e2, e1⟩
  · rcases h2 with ⟨e3, e4, _⟩ | ⟨i, j, hi, hj, ea, eb, hij, q1, q2, e4, e3⟩
    · rw [e4, e2]; exact h.2
    · exfalso
      rw [e2] at hm
      rcases q with q | q | q | q | q
      · rw [zHas_no g1, ea, zNo_in hm hlm hi] at q; exact absurd q (by decide)
      · rw [zHas_no g1, eb, zNo_in hm hlm hj] at q; exact absurd q (by decide)
      · rw [ea, eb] at q; exact hij (nI_in12 (by omega) (by omega) q)
      · exact q1 q
      · exact q q2
  · have hn3 : τ 32 0 = nI n := by rw [e2, zup_ne (by decide), njoin_hi 32 (Nat.le_refl 32), ← g1]; exact hn
    rcases h2 with ⟨e3, e4, q⟩ | ⟨i', j', hi', hj', ea', eb', _, _, _, e4, e3⟩
    · exfalso
      rcases q with q | q | q | q | q
      · rw [ea, zNo_in hn3 hln hi] at q; exact absurd q (by decide)
      · rw [eb, zNo_in hn3 hln hj] at q; exact absurd q (by decide)
      · rw [ea, eb] at q; exact hij (nI_in12 (by omega) (by omega) q)
      · exact q1 q
      · exact q q2
    · have ei : i' = i := nI_in12 (by omega) (by omega) (ea'.symm.trans ea)
      have ej : j' = j := nI_in12 (by omega) (by omega) (eb'.symm.trans eb)
      rw [ei, ej, e2] at e4
      rw [e4]
      refine ⟨SY_link h.2.1 (by rw [← g1]; exact hn) hln hi hj hij, ST_0 ?_ ?_⟩
      · simp [mlink, zup]
      · simp [mlink, zup]
theorem INVT.mark {n m : Nat} {x y a v : Int32} (h : INVT σ) (hn : σ 2 0 = nI n) (hln : n ≤ 12) (hm : τ 32 0 = nI m) (hlm : m ≤ 12) (h1 : (x = -1 ∧ τ = σ ∧ (zHas σ a = false ∨ v < 0 ∨ ¬ v ≤ 99)) ∨ (∃ j, j < n ∧ a = nI j ∧ ¬ v < 0 ∧ v ≤ 99 ∧ x = σ 6 j ∧ τ = zup (zup σ 6 j v) 0 1 0)) (h2 : (y = -1 ∧ υ = τ ∧ (zNo τ a = true ∨ v < 0 ∨ ¬ v ≤ 99)) ∨ (∃ j, j < m ∧ a = nI j ∧ ¬ v < 0 ∧ v ≤ 99 ∧ y = τ 34 j ∧ υ = zup (zup τ 34 j v) 32 4 0)) : x = y ∧ INVT υ := by
  obtain ⟨e, hI⟩ := INVL.mark h.1 hn hln hm hlm h1 h2
  refine ⟨e, hI, ?_⟩
  have g1 : σ 2 0 = σ 32 0 := h.1.2.1
  rcases h1 with ⟨e1, e2, q⟩ | ⟨i, hi, ea, q1, q2, e1, e2⟩
  · rcases h2 with ⟨e3, e4, _⟩ | ⟨i, hi, ea, q1, q2, e3, e4⟩
    · rw [e4, e2]; exact h.2
    · exfalso
      rw [e2] at hm
      rcases q with q | q | q
      · rw [zHas_no g1, ea, zNo_in hm hlm hi] at q; exact absurd q (by decide)
      · exact q1 q
      · exact q q2
  · have hn3 : τ 32 0 = nI n := by rw [e2, zup_ne (by decide), zup_ne (by decide), ← g1]; exact hn
    rcases h2 with ⟨e3, e4, q⟩ | ⟨i', hi', ea', _, _, e3, e4⟩
    · exfalso
      rcases q with q | q | q
      · rw [ea, zNo_in hn3 hln hi] at q; exact absurd q (by decide)
      · exact q1 q
      · exact q q2
    · rw [e4, e2]
      refine ⟨h.2.1.of ?_ ?_ ?_, ST_0 ?_ ?_⟩
      · rw [zup_ne (by decide), zup_ne (by decide), zup_ne (by decide), zup_ne (by decide)]
      · rw [zup_ne (by decide), zup_ne (by decide), zup_ne (by decide), zup_ne (by decide)]
      · simp [zup]
      · simp [zup]
      · simp [zup]
/-- the net as start sees it -/
abbrev nT (σ : zSt) : Nat := (σ 32 0).toNatClampNeg
abbrev lenT (σ : zSt) : Nat → Nat → Int32 := fun a b => σ 33 (12 * b + a)
abbrev lkT (σ : zSt) : Nat → Nat → Bool := fun a b => zLk σ (nI a) (nI b)
abbrev CoT (σ : zSt) : Prop := zRe σ (nT σ) (nT σ - 1) = zAll (nI (nT σ))
theorem nT_of (h : INVT σ) : σ 32 0 = nI (nT σ) ∧ 1 ≤ nT σ ∧ nT σ ≤ 12 := by
  obtain ⟨n, h1, h2, h3, _⟩ := h.1.1.2
  have e : nT σ = n := by
    show (σ 32 0).toNatClampNeg = n
    rw [h1]; exact nI_clamp (by omega)
  rw [e]; exact ⟨h1, h2, h3⟩
theorem lkT_sym (h : SY σ) {a b : Nat} (ha : a < 12) (hb : b < 12) : lkT σ a b = lkT σ b a := by
  show zLk σ (nI a) (nI b) = zLk σ (nI b) (nI a)
  unfold zLk
  rw [zi12', zi12', nI_clamp (by omega), nI_clamp (by omega), h.1 a b ha hb]
theorem w_P_start (G : zG) (σ : zSt) (p w s k r : Int32) (h : INVT σ) : zI G 7 M_P_start [zf G 0, .int p, .int w, .int s, .int k, .int r] σ (fun x τ => PSP σ (nT σ) (σ 34) (lenT σ) (lkT σ) p w s k r x τ) := by
  obtain ⟨n1, n2, n3⟩ := nT_of h
  obtain ⟨g1, g2, g3, g4, g5⟩ := h.1.2
  refine s_P_start2 G σ (nT σ) p w s k r (σ 34) (lenT σ) (lkT σ) h.1.1.1 (g1.trans n1) n2 n3 g4 (fun a b ha hb => ?_) (fun a b ha hb => ?_)
  · rw [g5 _ (by omega), Nat.mul_comm a 12]
    exact h.2.1.1 a b ha hb
  · rw [g3 b a hb ha]
    exact lkT_sym h.2.1 hb ha
theorem w_Mo_start (G : zG) (σ τ : zSt) (p w s k r : Int32) (h : INVT σ) {x : Int32} (hp : PSP σ (nT σ) (σ 34) (lenT σ) (lkT σ) p w s k r x τ) : zI G 4 M_Mo_start [zf G 32, .int p, .int w, .int s, .int k, .int r] τ (fun y υ => MSP τ (nT σ) (σ 34) (lenT σ) (lkT σ) (CoT σ) p w s k r y υ) := by
  obtain ⟨n1, n2, n3⟩ := nT_of h
  obtain ⟨g1, g2, g3, g4, g5⟩ := h.1.2
  have hC : ∀ x, SPR (nT σ) (lkT σ) x → (x = zAll (nI (nT σ)) ↔ CoT σ) := by
    intro x hx
    refine (conn_iff n3 n2 (fun a b ha hb => g3 a b (by omega) (by omega)) ?_ hx).symm
    obtain ⟨_, n', q1, q2, q3⟩ := h.2.1
    have en : n' = nT σ := (nI_eq (by omega) (by omega)).mp (q1.symm.trans n1)
    rw [en] at q3
    exact fun a c ha hc hc2 => q3 a c (by omega) hc hc2
  have e : (∀ c, 32 ≤ c → τ c = σ c) := by
    rcases hp with ⟨_, e, _⟩ | ⟨_, _, ⟨_, hF⟩, _⟩
    · intro c _; rw [e]
    · exact lowFX hF
  have e33 := e 33 (by decide)
  refine s_Mo_start2 G τ (nT σ) p w s k r (σ 34) (lenT σ) (lkT σ) (CoT σ) (h.1.1.2.of e) (by rw [e 32 (by decide)]; exact n1) n2 n3 (fun a _ => by rw [e 34 (by decide)]) (fun a b _ _ => by rw [e33]) (fun a b _ _ => ?_) hC
  unfold zLk
  rw [e33]
  rfl
theorem INVT.start {p w s k r x y : Int32} (h : INVT σ) (h1 : PSP σ (nT σ) (σ 34) (lenT σ) (lkT σ) p w s k r x τ) (h2 : MSP τ (nT σ) (σ 34) (lenT σ) (lkT σ) (CoT σ) p w s k r y υ) : INVT υ := by
  have g1 : σ 2 0 = σ 32 0 := h.1.2.1
  have hno : (!zHas σ s) = zNo σ s := by rw [zHas_no g1, Bool.not_not]
  rcases h1 with ⟨e1, e2, q⟩ | ⟨nb, hc, ⟨c1, c2⟩, c3, pp, R, c4, c5, c6, c7, c8, c9⟩
  · rcases h2 with ⟨e3, e4, _⟩ | ⟨nb, hc, _⟩
    · rw [e4, e2]; exact h
    · exfalso
      rw [e2] at nb
      rw [hno] at q
      rcases q with q | q
      · exact nb q
      · exact q hc
  · have hτ : INVL τ := INVL.c h.1 c1 c2
    rcases h2 with ⟨e3, e4, q⟩ | ⟨_, _, ⟨d1, d2⟩, d3, pp', R', d4, d5, d6, d7, d8, d9⟩
    · exfalso
      have e32 : zNo τ s = zNo σ s := by unfold zNo; rw [c2 32 (by decide)]
      rw [e32, ← hno] at q
      rcases q with q | q
      · exact nb q
      · exact q hc
    · have ep : pp' = pp := nI_in12 (by omega) (by omega) (d4.symm.trans c4)
      have er : R' = R := (nI_eq (by omega) (by omega)).mp (d6.symm.trans c6)
      rw [ep, er] at d9
      rw [er] at d8
      refine ⟨INVL.m hτ d1 d2, (h.2.1.c c2).m d2, ?_, fun _ => ⟨R, ?_, d8, c7, fun n hn hle q b hq hb => ?_⟩⟩
      · rw [d2.at (by decide), c3, d3]
      · rw [d2.at (by decide)]; exact c8
      · have e0 : υ 32 0 = σ 32 0 := by rw [d2.2 0 (by decide), c2 32 (by decide)]
        have en : nT σ = n := by
          show (σ 32 0).toNatClampNeg = n
          rw [← e0, hn]; exact nI_clamp (by omega)
        rw [en] at c9 d9
        rw [d2.at (c := 31) (by decide), c9 q b hq hb, d9 q b hq hb]
theorem INVT.inStep {a r x y : Int32} (h : INVT σ) (h1 : τ = σ ∧ ((x = -1 ∧ ¬ (¬ σ 0 1 = 0 ∧ zHas σ a = true ∧ ¬ r < 0 ∧ ¬ σ 1 5 < r)) ∨ ((¬ σ 0 1 = 0 ∧ zHas σ a = true ∧ ¬ r < 0 ∧ ¬ σ 1 5 < r) ∧ ∃ i j, i < 12 ∧ j ≤ 20 ∧ a = nI i ∧ r = nI j ∧ x = σ 31 (j * 12 + i)))) (h2 : υ = τ ∧ ((y = -1 ∧ (τ 32 4 = 0 ∨ zNo τ a = true ∨ r < 0 ∨ ¬ r ≤ τ 32 8)) ∨ (¬ (τ 32 4 = 0 ∨ zNo τ a = true ∨ r < 0 ∨ ¬ r ≤ τ 32 8) ∧ ∃ i j, i < 12 ∧ j ≤ 20 ∧ a = nI i ∧ r = nI j ∧ y = τ 50 (12 * j + i)))) : x = y ∧ INVT υ := by
  obtain ⟨eτ, h1⟩ := h1
  obtain ⟨eυ, h2⟩ := h2
  rw [eτ] at h2
  refine ⟨?_, by rw [eυ, eτ]; exact h⟩
  have g1 : σ 2 0 = σ 32 0 := h.1.2.1
  obtain ⟨s1, s2⟩ := h.2.2
  have hN : zHas σ a = !zNo σ a := zHas_no g1 a
  rcases h1 with ⟨e1, q1⟩ | ⟨q1, i, j, hi, hj, ea, er, e1⟩
  · rcases h2 with ⟨e2, _⟩ | ⟨q2, _⟩
    · rw [e1, e2]
    · exfalso
      apply q1
      have k0 : ¬ σ 0 1 = 0 := fun q => q2 (Or.inl (s1.mp q))
      obtain ⟨R, r1, r2, _⟩ := s2 k0
      refine ⟨k0, ?_, fun q => q2 (Or.inr (Or.inr (Or.inl q))), fun q => q2 (Or.inr (Or.inr (Or.inr (fun q3 => ?_))))⟩
      · rw [hN]
        cases hz : zNo σ a with
        | true => exact absurd (Or.inr (Or.inl hz)) q2
        | false => rfl
      · rw [r1, ← r2] at q
        exact absurd q (Int32.not_lt.mpr q3)
  · obtain ⟨k0, k1, k2, k3⟩ := q1
    obtain ⟨R, r1, r2, r3, r4⟩ := s2 k0
    rcases h2 with ⟨e2, q2⟩ | ⟨q2, i', j', hi', hj', ea', er', e2⟩
    · exfalso
      rcases q2 with q | q | q | q
      · exact k0 (s1.mpr q)
      · rw [hN, q] at k1; exact absurd k1 (by decide)
      · exact k2 q
      · rw [r1, ← r2] at k3
        exact q (Int32.not_lt.mp k3)
    · have ei : i' = i := nI_in12 hi' hi (ea'.symm.trans ea)
      have ej : j' = j := (nI_eq (by omega) (by omega)).mp (er'.symm.trans er)
      rw [e1, e2, ei, ej]
      obtain ⟨n, hn, h1n, hn12, _⟩ := h.1.1.2
      refine r4 n hn hn12 j i ?_ ?_
      · rw [r1, er] at k3
        rcases Nat.lt_or_ge R j with q | q
        · exact absurd (nI_lt q (by omega)) k3
        · exact q
      · rw [ea] at k1
        obtain ⟨i2, hi2, e⟩ := zHas_of k1 (g1.trans hn) hn12
        rw [nI_in12 hi (by omega) e]; exact hi2
end INVTS
