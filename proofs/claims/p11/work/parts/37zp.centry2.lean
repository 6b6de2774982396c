-- The class is the pure machine: a node begins a round
section CCLS2
variable {n R W p : Nat} {src : Int32} {mk : Nat → Int32} {len : Nat → Nat → Int32} {lk pa : Nat → Nat → Bool} {up : Nat → Option Nat} {ld : Nat → Nat} {A : AS}
theorem par_ne {r s : Nat} (h : r % 2 = s % 2) (hs : r = s ∨ r = s + 1) : r = s := by omega
theorem stg_0 {S : PS} {a : Nat} (h : sfP S a = false ∧ raP S a = false ∧ fiP S a = false ∧ dnP S a = false) : stg W S a = 0 := by
  unfold stg
  rw [h.1, h.2.1, h.2.2.1, h.2.2.2]
  split <;> rfl
set_option maxHeartbeats 1000000 in
theorem s_Course_enterNext2 (G : zG) (σ : zSt) (a : Nat) (hT : CT σ n R W p src mk len lk pa up ld) (hF : FRA n W lk pa up ld) (hM : MLB mk len) (hA : CA σ n W pa up A) (hQ : QE n R W p lk pa up ld A) (hB : BG n R W lk pa up ld A a) (ha : a < n) (hz : rdP (aS A) a = 0 → ∀ w b q, aC A w a b q = false) :
    zV G 4 M_Course_enterNext [zf G 1, .int (nI a)] σ (fun τ => RF FR σ τ ∧ CA τ n W pa up (aBeg n p src mk len lk up A a)) := by
  refine zSpec.of (by decide) (Nat.le_of_ble_eq_true rfl) rfl (fun X E => ?_)
  have hn12 : n ≤ 12 := hT.1.2.2.1
  have hR20 : R ≤ 20 := hT.1.2.2.2.2.2.1
  have hR1 : 1 ≤ R := hT.1.2.2.2.2.1
  have hrR := hB.1
  have ia : vp_in (nI a) 12 := vp_in_nI (by omega) (by decide)
  have ca : (nI a).toNatClampNeg = a := nI_clamp (by omega)
  have e24 : σ 24 (nI a).toNatClampNeg + (1 : Int32) = nI (rdP (aS A) a + 1) := by rw [ca, hA.1 a ha, nI_1]
  have l528 : (aL A ++ begG n up A a ++ begN n p src mk len lk A a).length ≤ 528 := (hQ.beg hn12 hR20 hM ha hB).le528 hn12 hR20 hR1 hF
  have l528' : (aL A ++ begG n up A a).length ≤ 528 := by
    rw [List.length_append] at l528; omega
  have cG := cNo_0 (m := begG n up A a) (fun x hx => by
    obtain ⟨c, _, _, rfl⟩ := begG_mem hx; exact (show ¬ (4 : Int32) = 0 by decide))
  generalize hwd : actA n p src mk len A a = wd
  -- the second half
  have half : ∀ (υ : zSt), SC (zup (zup (zup (zup (zup σ 24 a (nI (rdP (aS A) a + 1))) 25 a 0) 27 a 0) 28 a 0) 29 (rdP (aS A) a % 2 * 12 + a) 0) υ (aL A) (begG n up A a) → zZ G M_Course_enterNext 4 X (fun r τ => r = none ∧ RF FR σ τ ∧ CA τ n W pa up (aBeg n p src mk len lk up A a)) 74 [(0, zf G 1), (1, .int (nI a)), (2, .int (nI (rdP (aS A) a + 1)))] [] υ := by
    intro υ g
    have hF5 : RF FR σ (zup (zup (zup (zup (zup σ 24 a (nI (rdP (aS A) a + 1))) 25 a 0) 27 a 0) 28 a 0) 29 (rdP (aS A) a % 2 * 12 + a) 0) := ((((RF.rf.up (by decide) (by decide)).up (by decide) (by decide)).up (by decide) (by decide)).up (by decide) (by decide)).up (by decide) (by decide)
    have hFυ : RF FR σ υ := hF5.tr (g.1.mono (by decide))
    have hTυ := hT.of hFυ
    have c5 : ∀ c, c ∉ (1 :: FPool) → c ≠ 24 → c ≠ 25 → c ≠ 27 → c ≠ 28 → c ≠ 29 → υ c = σ c := fun c h0 b1 b2 b3 b4 b5 => by
      rw [g.1.at h0, zup_ne b5, zup_ne b4, zup_ne b3, zup_ne b2, zup_ne b1]
    have u16 : υ 16 = σ 16 := c5 16 (by decide) (by decide) (by decide) (by decide) (by decide) (by decide)
    have u17 : υ 17 = σ 17 := c5 17 (by decide) (by decide) (by decide) (by decide) (by decide) (by decide)
    have u18 : υ 18 = σ 18 := c5 18 (by decide) (by decide) (by decide) (by decide) (by decide) (by decide)
    have u26 : υ 26 = σ 26 := c5 26 (by decide) (by decide) (by decide) (by decide) (by decide) (by decide)
    have u30 : υ 30 = σ 30 := c5 30 (by decide) (by decide) (by decide) (by decide) (by decide) (by decide)
    have u24 : υ 24 = upd (σ 24) a (nI (rdP (aS A) a + 1)) := by rw [g.1.at (by decide), zup_ne (by decide), zup_ne (by decide), zup_ne (by decide), zup_ne (by decide), zup_self]
    have u25 : υ 25 = upd (σ 25) a 0 := by rw [g.1.at (by decide), zup_ne (by decide), zup_ne (by decide), zup_ne (by decide), zup_self, zup_ne (by decide)]
    have u27 : υ 27 = upd (σ 27) a 0 := by rw [g.1.at (by decide), zup_ne (by decide), zup_ne (by decide), zup_self, zup_ne (by decide), zup_ne (by decide)]
    have u28 : υ 28 = upd (σ 28) a 0 := by rw [g.1.at (by decide), zup_ne (by decide), zup_self, zup_ne (by decide), zup_ne (by decide), zup_ne (by decide)]
    have u29 : υ 29 = upd (σ 29) (rdP (aS A) a % 2 * 12 + a) 0 := by rw [g.1.at (by decide), zup_self, zup_ne (by decide), zup_ne (by decide), zup_ne (by decide), zup_ne (by decide)]
    obtain ⟨a1, ⟨a2, a3, a4⟩, a5, a6, a7, a8, a9, a10⟩ := hA
    have ew : pAct p (rdP (aS A) a + 1) a (decide (nI a = υ 4 1)) (υ 6 a) (fun b => υ 8 (a * 12 + b)) (fun b => υ 18 ((rdP (aS A) a + 1 - 1) % 2 * 144 + a * 12 + b)) (υ 16 a) (υ 17 a) = wd := by
      rw [← hwd, u16, u17, (a5 a ha).1, (a5 a ha).2, hTυ.2.1.2.2, hTυ.2.2.1 a (by omega)]
      unfold actA
      by_cases r1 : rdP (aS A) a + 1 = 1
      · rw [pAct_1 r1, pAct_1 r1]
      · refine pAct_congr (fun b hb => ?_) (fun b hb => hTυ.2.2.2.1 a b (by omega) hb)
        rw [noteR_F r1, u18, Nat.add_sub_cancel]
        exact a10 a _ ha (Or.inl rfl) b hb
    -- the end
    have fin : ∀ (τ ρ : zSt), DR υ τ a (rdP (aS A) a % 2 * 144 + a * 12) wd wd.2.2 → RF (26 :: 30 :: FPool) τ ρ → ρ 30 = upd (τ 30) ((rdP (aS A) a + 1) * 12 + a) wd.1 → ρ 26 = (if (begN n p src mk len lk A a) = [] ∧ wd.2.2 = -2 then τ 26 else upd (τ 26) a (nI (begN n p src mk len lk A a).length)) → PV ρ (aL A ++ begG n up A a ++ begN n p src mk len lk A a) → ρ 1 6 = τ 1 6 + nI (begN n p src mk len lk A a).length → ρ 1 7 = τ 1 7 → ((begN n p src mk len lk A a) = [] ∧ wd.2.2 = -2 ∨ ¬ ((begN n p src mk len lk A a) = [] ∧ wd.2.2 = -2)) → (none : Option Value) = none ∧ RF FR σ ρ ∧ CA ρ n W pa up (aBeg n p src mk len lk up A a) := by
      intro τ ρ ⟨d1, d2, d3, d4, _⟩ k1 k30 k26 kL k6 k7 _
      have hFρ : RF FR σ ρ := (hFυ.tr ((RF.of d1 (by decide)).mono (by decide))).tr (k1.mono (by decide))
      have eS : aS (aBeg n p src mk len lk up A a) = setRd (aS A) a ((begN n p src mk len lk A a).length : Int) := rfl
      have rs : ∀ b, rdP (aS (aBeg n p src mk len lk up A a)) b = fup (rdP (aS A)) a (rdP (aS A) a + 1) b := fun _ => rfl
      have rc : ∀ c, c ∉ [1, 26, 30, 5, 19, 20, 21, 22, 23, 16, 17, 18] → ρ c = υ c := fun c hc => by
        rw [k1.at (fun q => hc (by simp only [List.mem_cons, List.not_mem_nil, or_false] at q ⊢; omega)), d1 c (fun q => hc (by simp only [List.mem_cons, List.not_mem_nil, or_false] at q ⊢; omega))]
      refine ⟨rfl, hFρ, fun b hb => ?_, ⟨kL, ?_, ?_⟩, fun b hb => ?_, fun q b hq hb => ?_, fun b hb => ?_, fun b hb => ?_, fun b q hb hq => ?_, fun b q hb hq f hf => ?_⟩
      · rw [rc 24 (by decide), u24, rs]
        unfold upd fup
        by_cases e : b = a
        · rw [if_pos e, if_pos e]
        · rw [if_neg e, if_neg e]; exact a1 b hb
      · rw [k6, d1 1 (by decide), g.2.2.1, cG.1]
        show (zup _ 29 _ 0) 1 6 + nI 0 + _ = aN A + _
        rw [zup_ne (by decide), zup_ne (by decide), zup_ne (by decide), zup_ne (by decide), zup_ne (by decide), a3, show nI 0 = (0 : Int32) from rfl, Int32.add_zero]
      · rw [k7, d1 1 (by decide), g.2.2.2, cG.2]
        show (zup _ 29 _ 0) 1 7 + _ = aO A + _
        rw [zup_ne (by decide), zup_ne (by decide), zup_ne (by decide), zup_ne (by decide), zup_ne (by decide), a4]
      · rw [k1.at (by decide), k1.at (by decide), d2, d3, u16, u17]
        show upd (σ 16) a wd.1 b = fup (aV A) a (actA n p src mk len A a).1 b ∧ upd (σ 17) a wd.2.1 b = fup (aQ A) a (actA n p src mk len A a).2.1 b
        rw [hwd]
        unfold upd fup
        by_cases e : b = a
        · rw [if_pos e, if_pos e, if_pos e, if_pos e]; exact ⟨rfl, rfl⟩
        · rw [if_neg e, if_neg e, if_neg e, if_neg e]; exact a5 b hb
      · rw [rs] at hq
        rw [k30, d1 30 (by decide), u30]
        show upd (σ 30) ((rdP (aS A) a + 1) * 12 + a) wd.1 (q * 12 + b) = if q = rdP (aS A) a + 1 ∧ b = a then (actA n p src mk len A a).1 else aU A q b
        rw [hwd]
        unfold upd
        by_cases e : b = a
        · rw [e] at hq ⊢
          rw [fup_s] at hq
          by_cases e2 : q = rdP (aS A) a + 1
          · rw [if_pos (by rw [e2]), if_pos ⟨e2, rfl⟩]
          · rw [if_neg (by omega), if_neg (fun x => e2 x.1)]
            exact a6 q a (by omega) ha
        · rw [fup_n e] at hq
          rw [if_neg (by omega), if_neg (fun x => e x.2)]
          exact a6 q b hq hb
      · rw [rs]
        by_cases e : b = a
        · rw [e, fup_s]
          refine ⟨fun q => by omega, fun _ => ⟨?_, ?_⟩⟩
          · show _ = fup (opP (aS A)) a ((begN n p src mk len lk A a).length : Int) a
            rw [fup_s, k26]
            by_cases c : (begN n p src mk len lk A a) = [] ∧ wd.2.2 = -2
            · rw [if_pos c, c.1, d1 26 (by decide), u26]
              have h7 := a7 a ha
              by_cases r0 : rdP (aS A) a = 0
              · rw [h7.1 r0]; rfl
              · rw [(h7.2 (by omega)).1, (hB.2.2.2.2 (by omega)).1]; rfl
            · rw [if_neg c, upd_eq]
              have bl : (begN n p src mk len lk A a).length ≤ 12 := Nat.le_trans begN_len hn12
              exact nI_toInt (by omega)
          · rw [rc 25 (by decide), u25, upd_eq, stg_0 (S := aS (aBeg n p src mk len lk up A a)) ⟨fup_s, fup_s, fup_s, fup_s⟩]; rfl
        · rw [fup_n e]
          have h26 : ρ 26 b = σ 26 b := by
            rw [k26]
            split
            · rw [d1 26 (by decide), u26]
            · rw [upd_ne e, d1 26 (by decide), u26]
          rw [h26, rc 25 (by decide), u25, upd_ne e]
          have es : stg W (aS (aBeg n p src mk len lk up A a)) b = stg W (aS A) b := stg_n (a := a) ⟨fup_n e, fup_n e, fup_n e, fup_n e⟩
          have eo : opP (aS (aBeg n p src mk len lk up A a)) b = opP (aS A) b := fup_n e
          rw [es, eo]; exact a7 b hb
      · rw [rs, rc 27 (by decide), rc 28 (by decide), u27, u28]
        show upd (σ 27) a 0 b = nI ((lows n up b).countP (fun c => aC A 2 b c _)) ∧ upd (σ 28) a 0 b = nI ((lows n up b).countP (fun c => aC A 3 b c _))
        by_cases e : b = a
        · rw [e, fup_s, upd_eq, upd_eq]
          unfold lows
          rw [cnt_0 (fun c hc hu => (far_2 hR20 hQ hB hz hc (of_decide_eq_true hu)).1), cnt_0 (fun c hc hu => (far_2 hR20 hQ hB hz hc (of_decide_eq_true hu)).2)]
          exact ⟨rfl, rfl⟩
        · rw [fup_n e, upd_ne e, upd_ne e]; exact a8 b hb
      · rw [rs] at hq
        rw [rc 29 (by decide), u29]
        show upd (σ 29) (rdP (aS A) a % 2 * 12 + a) 0 (q % 2 * 12 + b) = nI ((pars n pa b).countP (fun c => aC A 1 b c q))
        by_cases e : b = a
        · rw [e] at hq ⊢
          rw [fup_s] at hq
          rcases hq with q1 | q1
          · rw [upd_ne (by omega), q1]
            exact a9 a _ ha (Or.inr rfl)
          · have e2 : q % 2 * 12 + a = rdP (aS A) a % 2 * 12 + a := by omega
            rw [e2, upd_eq]
            unfold pars
            rw [cnt_0 (fun c hc _ => (far_1 hF hQ ha hc (by omega)).1)]; rfl
        · rw [fup_n e] at hq
          rw [upd_ne (by omega)]; exact a9 b q hb hq
      · rw [rs] at hq
        rw [k1.at (by decide), d4, u18]
        show _ = noteR n A b q f
        by_cases e : b = a
        · rw [e] at hq ⊢
          rw [fup_s] at hq
          rcases hq with q1 | q1
          · rw [if_neg (by omega), q1]
            exact a10 a _ ha (Or.inr rfl) f hf
          · rw [if_pos (by omega)]
            unfold noteR
            rw [if_neg]
            rintro ⟨z1, z2⟩
            rw [(far_1 hF hQ ha z1 (by omega)).2] at z2
            exact absurd z2 (by decide)
        · rw [fup_n e] at hq
          rw [if_neg (by omega)]; exact a10 b q hb hq f hf
    refine b_Course_enterNext_74 E (nI a) (nI (rdP (aS A) a + 1)) υ ⟨_, s_Play_doRound2 G υ a _ p (by omega) (by omega) (by omega) hTυ.2.1.1 hTυ.2.1.2.1, fun x σ1 d => ⟨ia, by rw [zi12]; exact vp_in_nI (by omega) (by decide), fun σ3 e3 => ?_⟩⟩
    rw [ew] at d
    have ex : x = wd.2.2 := d.2.2.2.2
    rw [ex] at d
    rw [Nat.add_sub_cancel] at d
    rw [zi12, nI_clamp (by omega), ca] at e3
    have x30 : σ3 30 = upd (σ1 30) ((rdP (aS A) a + 1) * 12 + a) wd.1 := by rw [e3, zup_self, d.2.1, upd_eq]
    have f3 : RF (26 :: 30 :: FPool) σ1 σ3 := by rw [e3]; exact RF.rf.up (by decide) (by decide)
    have PG : PV σ3 (aL A ++ begG n up A a) := g.2.1.of (fun c hc => by
      have hc30 : c ≠ 30 := fun e => by rw [e] at hc; revert hc; decide
      rw [e3, zup_ne hc30]
      exact d.1 c (fun h => by revert hc; revert h; simp only [List.mem_cons, List.not_mem_nil, or_false]; omega))
    rw [ex]
    refine ⟨fun hs => ?_, fun hs => ⟨ia, ia, fun σ4 e4 => ⟨ia, ?_⟩⟩⟩
    · have eb : begN n p src mk len lk A a = [] := by unfold begN; rw [if_pos (by rw [hwd]; exact hs)]
      refine fin σ1 σ3 d f3 x30 ?_ (by rw [eb, List.append_nil]; exact PG) ?_ (by rw [e3, zup_ne (by decide)]) (Or.inl ⟨eb, hs⟩)
      · rw [if_pos ⟨eb, hs⟩, e3, zup_ne (by decide)]
      · rw [eb, e3, zup_ne (by decide)]; exact (Int32.add_zero _).symm
    · have eb : begN n p src mk len lk A a = ltrs 0 a (rdP (aS A) a + 1) wd.2.2 (selL (fun b => lk a b) n) := by unfold begN; rw [if_neg (by rw [hwd]; exact hs), hwd]; rfl
      have s7 : ∀ s : zSt, RF FR σ s → s 7 = σ 7 := fun s hs => hs.at (by decide)
      have F1 : RF FR σ σ1 := hFυ.tr ((RF.of d.1 (by decide)).mono (by decide))
      have F3 : RF FR σ σ3 := F1.tr (f3.mono (by decide))
      rw [ca] at e4
      have F4 : RF FR σ σ4 := by rw [e4]; exact F3.up (by decide) (by decide)
      have hT4 := hT.of F4
      have lb : zBc (σ3 7 a) = nI (begN n p src mk len lk A a).length := by rw [((hT.of F3).nb ha).2, eb, ltrs_len]; rfl
      rw [lb] at e4
      rw [ca]
      refine ⟨_, s_Course_send2 G σ4 n a _ (aL A ++ begG n up A a) 0 (σ4 7 a) wd.2.2 (fun b => lk a b) hT4.1.1 hn12 (PG.of (fun c hc => by
        have hc26 : c ≠ 26 := fun e => by rw [e] at hc; revert hc; decide
        rw [e4, zup_ne hc26])) (hT4.nb ha).1 (by rw [← eb]; exact l528), fun σ5 s => ?_⟩
      rw [← eb] at s
      have c1 := cNo_1 (m := begN n p src mk len lk A a) (fun x hx => by obtain ⟨_, b, _, _, rfl⟩ := begN_mem hx; rfl)
      refine fin σ1 σ5 d ?_ ?_ ?_ s.2.1 ?_ ?_ (Or.inr (fun q => hs q.2))
      · refine f3.tr (RF.tr (τ := σ4) ?_ (s.1.mono (by decide)))
        rw [e4]; exact RF.rf.up (by decide) (by decide)
      · rw [s.1.at (by decide), e4, zup_ne (by decide)]; exact x30
      · rw [if_neg (fun q => hs q.2), s.1.at (by decide), e4, zup_self, e3, zup_ne (by decide)]
      · rw [s.2.2.1, c1.1, e4, zup_ne (by decide), e3, zup_ne (by decide)]
      · rw [s.2.2.2, c1.2, e4, zup_ne (by decide), e3, zup_ne (by decide)]; exact Int32.add_zero _
  refine b_Course_enterNext_0 E (nI a) σ ⟨ia, ia, fun σ1 e1 => ⟨ia, fun σ2 e2 => ⟨ia, fun σ3 e3 => ⟨ia, fun σ4 e4 => ⟨par12 _ (by omega), fun σ5 e5 => ?_⟩⟩⟩⟩⟩
  rw [e24] at e1 e5 ⊢
  have erp : nI (rdP (aS A) a + 1) - (1 : Int32) = nI (rdP (aS A) a) := by rw [show (1 : Int32) = nI 1 from rfl, pk_sub (by omega), Nat.add_sub_cancel]
  rw [erp, pand1 _ (by omega), zi12, nI_clamp (by omega)] at e5
  rw [ca] at e1 e2 e3 e4
  have e5' : σ5 = zup (zup (zup (zup (zup σ 24 a (nI (rdP (aS A) a + 1))) 25 a 0) 27 a 0) 28 a 0) 29 (rdP (aS A) a % 2 * 12 + a) 0 := by rw [e5, e4, e3, e2, e1]
  have hF5 : RF FR σ σ5 := by
    rw [e5']
    exact ((((RF.rf.up (by decide) (by decide)).up (by decide) (by decide)).up (by decide) (by decide)).up (by decide) (by decide)).up (by decide) (by decide)
  have hT5 := hT.of hF5
  have P5 : PV σ5 (aL A) := hA.2.1.1.of (fun c hc => by
    rw [e5', zup_ne, zup_ne, zup_ne, zup_ne, zup_ne] <;> (intro e; rw [e] at hc; revert hc; decide))
  refine ⟨fun hle => half σ5 ?_, fun hgt => ⟨ia, ?_⟩⟩
  · rw [← e5']
    have r0 : rdP (aS A) a = 0 := by
      have h1 : rdP (aS A) a + 1 ≤ 1 := (nI_leI (by omega) (by decide)).mp hle
      omega
    unfold begG
    rw [if_pos r0]; exact SC.rf P5
  · have r0 : ¬ rdP (aS A) a = 0 := fun e => hgt (by rw [e]; exact nI_le (a := 1) (b := 1) (Nat.le_refl 1) (by decide))
    have eb : begG n up A a = ltrs 4 a (rdP (aS A) a + 1) 0 (selL (fun c => decide (up c = some a)) n) := by unfold begG; rw [if_neg r0]; rfl
    rw [ca]
    refine ⟨_, s_Course_send2 G σ5 n a _ (aL A) 4 (σ5 13 a) 0 (fun c => decide (up c = some a)) hT5.1.1 hn12 P5 (hT5.lo ha).1 (by rw [← eb]; exact l528'), fun σ6 s => half σ6 ?_⟩
    rw [← e5', eb]; exact s
end CCLS2
