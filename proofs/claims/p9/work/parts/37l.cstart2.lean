-- start, come, flow, inStep of the class: what p10 needs (written by mk10.py)
/-- why start answers BAD, but for the links -/
def SB0 (no : Bool) (p w k r : Int32) : Prop := p < 0 ∨ 3 < p ∨ w < 0 ∨ 2 < w ∨ no = true ∨ r < 1 ∨ ¬ r ≤ 20 ∨ (w = 2 ∧ (k < 2 ∨ 8 < k))
theorem s_Course_open2 (G : zG) (σ : zSt) (n R pp : Nat) (w s : Int32) (mk : Nat → Int32) (len : Nat → Nat → Int32) (lk : Nat → Nat → Bool) (hp3 : pp ≤ 3) (hmk : ∀ a, a < 12 → σ 6 a = mk a) (hlen : ∀ a b, a < 12 → b < 12 → σ 8 (a * 12 + b) = len a b) (hlk : ∀ a b, a < 12 → b < 12 → zIn (σ 7 b) (nI a) = lk a b) (hn : σ 2 0 = nI n) (h1 : 1 ≤ n) (hle : n ≤ 12) (hR1 : 1 ≤ R) (hR2 : R ≤ 20) (hT : TreeOK σ) (hw : w = 0 → ∀ u, u < 12 → σ 13 u = 0) : zV G 6 M_Course_open [zf G 1, .int (nI pp), .int w, .int s, .int (nI R)] σ (fun τ => (zFr FO σ τ ∧ CS τ n R ∧ ∃ rd, RN τ R rd) ∧ ∀ q b, q ≤ R → b < n → τ 31 (q * 12 + b) = (sV pp s n mk len lk q b).1) := by
  refine zSpec.of (by decide) (Nat.le_of_ble_eq_true rfl) rfl (fun X E => ?_)
  refine b_Course_open_0 E (nI pp) w s (nI R) σ (fun σ1 e1 σ2 e2 => ?_)
  have h12 : zFr FO σ σ2 := by rw [e2, e1]; exact (zFr.rf.up (by decide)).up (by decide)
  have hw2 : σ2 1 4 = w := by rw [e2, e1, zup_self, zup_self]; simp [upd]
  have hr2 : σ2 1 5 = nI R := by rw [e2, zup_self]; simp [upd]
  refine ⟨_, s_Play_reset2 G σ2 pp s hp3, fun σ3 ⟨g3, gp, gs, gv, gq, gn⟩ => ⟨_, s_Course_goInStep2 G σ3 n R pp mk len lk (by rw [g3 2 (by decide), h12 2 (by decide)]; exact hn) hle (by rw [g3 1 (by decide)]; exact hr2) hR2 gp hp3 (fun a ha => by rw [g3 6 (by decide), h12 6 (by decide)]; exact hmk a ha) (fun a b ha hb => by rw [g3 8 (by decide), h12 8 (by decide)]; exact hlen a b ha hb) (fun a b ha hb => by rw [g3 7 (by decide), h12 7 (by decide)]; exact hlk a b ha hb) (fun b hb => by rw [gs, gv b hb, h12 6 (by decide), hmk b hb]) gq gn, fun σ4 ⟨g4, g31⟩ => ⟨_, s_Play_reset G σ4 (nI pp) s, fun σ5 g5 => ⟨_, s_Course_clear G σ5, fun σ6 ⟨g6, p6, r6⟩ => ?_⟩⟩⟩⟩
  have h25 : zFr [4, 16, 17, 18, 31] σ2 σ5 := ((g3.mono (by decide)).tr (g4.mono (by decide))).tr (g5.mono (by decide))
  have e31 : ∀ q b, q ≤ R → b < n → σ6 31 (q * 12 + b) = (sV pp s n mk len lk q b).1 := fun q b hq hb => by
    rw [g6.1 31 (by decide), g5 31 (by decide), g31 q b hq hb, gs]
  have h6 : zFr FO σ σ6 := (h12.tr (h25.mono (by decide))).tr (g6.zFr (by decide))
  have w6 : σ6 1 4 = w := by rw [g6.2.1, h25 1 (by decide)]; exact hw2
  have r6' : σ6 1 5 = nI R := by rw [g6.2.2, h25 1 (by decide)]; exact hr2
  have S6 : CS σ6 n R := by
    have e13 : σ6 13 = σ 13 := h6 13 (by decide)
    refine ⟨by rw [h6 2 (by decide)]; exact hn, h1, hle, r6', hR1, hR2, fun c u hc hu hz => ?_, fun h u hu => ?_⟩
    · rw [e13] at hz
      rw [h6 10 (by decide), h6 9 (by decide)]
      exact hT c u hc hu hz
    · rw [e13]; exact hw (w6.symm.trans h) u hu
  have N6 : RN σ6 R (fun _ => 0) := by
    refine ⟨[], ⟨fun a ha => ⟨r6 a ha, Nat.zero_le _⟩, p6, fun x hx => absurd hx List.not_mem_nil⟩, fun c hc => ⟨fun u hu hz => ?_, fun _ => rfl⟩⟩
    show 0 + (0 - 1) ≤ 0 - 1
    omega
  -- the second loop
  have two : ∀ υ rd, RF FR σ6 υ → RN υ R rd → (∀ a, rd a = 0) → zZ G M_Course_open 6 X (fun r τ => r = none ∧ (zFr FO σ τ ∧ CS τ n R ∧ ∃ rd, RN τ R rd) ∧ ∀ q b, q ≤ R → b < n → τ 31 (q * 12 + b) = (sV pp s n mk len lk q b).1) 90 [(0, zf G 1), (5, .int (0 : Int32))] [] υ := by
    intro υ rd hF hN h0
    refine z_for n (fun i τ => zZ G M_Course_open 6 X (fun r τ => r = none ∧ (zFr FO σ τ ∧ CS τ n R ∧ ∃ rd, RN τ R rd) ∧ ∀ q b, q ≤ R → b < n → τ 31 (q * 12 + b) = (sV pp s n mk len lk q b).1) 90 [(0, zf G 1), (5, .int (nI i))] [] τ) (fun i τ => RF FR σ6 τ ∧ ∃ rd, RN τ R rd ∧ ∀ a, i ≤ a → rd a = 0) ?_ ?_ 0 υ (Nat.zero_le _) ⟨hF, rd, hN, fun a _ => h0 a⟩
    · intro i τ hi ⟨hF, rd, ⟨l, hD, hG⟩, h0⟩ ih
      have hS := S6.of hF
      refine b_Course_open_90 E (nI i) τ ⟨fun q => absurd q (by rw [hS.1]; exact nI_ge hi (by omega)), fun _ => ⟨_, s_Course_enterNext G τ n R i rd l hS hD (by omega) (by rw [h0 i (Nat.le_refl i)]; omega), fun σ1 ⟨k1, l', k2, k3⟩ => ?_⟩⟩
      have hN1 : RN σ1 R (rup rd i (rd i + 1)) := by
        refine ⟨l', k2, ?_⟩
        rw [k1.at (by decide)]
        refine GI.enter hS.2.2.2.2.2.2.1 hG (by omega) (fun u hu hz => ?_) k3
        have := (hG i (by omega)).1 u hu hz
        have := h0 i (Nat.le_refl i)
        omega
      refine ⟨_, s_Course_push G σ1 n R i _ (hS.of k1) hN1 (by omega), fun σ2 ⟨m1, rd2, m2, m3⟩ => ?_⟩
      rw [nI_1]
      refine ih σ2 ⟨(hF.tr k1).tr m1, rd2, m2, fun a ha => ?_⟩
      rw [m3 a (by omega)]
      unfold rup
      rw [if_neg (by omega)]
      exact h0 a (by omega)
    · intro τ ⟨hF, rd, hN, _⟩
      exact b_Course_open_90 E (nI n) τ ⟨fun _ => ⟨rfl, ⟨h6.tr (hF.zFr (by decide)), S6.of hF, rd, hN⟩, fun q b hq hb => by rw [hF.at (by decide)]; exact e31 q b hq hb⟩, fun q => absurd (by rw [(S6.of hF).1]; exact nI_le (Nat.le_refl n) (by omega)) q⟩
  refine z_for n (fun i τ => zZ G M_Course_open 6 X (fun r τ => r = none ∧ (zFr FO σ τ ∧ CS τ n R ∧ ∃ rd, RN τ R rd) ∧ ∀ q b, q ≤ R → b < n → τ 31 (q * 12 + b) = (sV pp s n mk len lk q b).1) 48 [(0, zf G 1), (5, .int (nI i))] [] τ) (fun _ τ => zFr [30] σ6 τ) ?_ ?_ 0 σ6 (Nat.zero_le _) zFr.rf
  · intro i τ hi hI ih
    refine b_Course_open_48 E (nI i) τ ⟨fun q => absurd q (by rw [hI 2 (by decide), S6.1]; exact nI_ge hi (by omega)), fun _ => ⟨vp_in_nI (by omega) (by decide), by rw [show (0 : Int32) = nI 0 from rfl, zi12]; exact vp_in_nI (by omega) (by decide), fun σ1 e1 => ?_⟩⟩
    rw [nI_1]
    refine ih σ1 ?_
    rw [e1]; exact hI.up (by decide)
  · intro τ hI
    refine b_Course_open_48 E (nI n) τ ⟨fun _ => two τ (fun _ => 0) ((RF.of hI (by decide)).mono (by decide)) ?_ (fun _ => rfl), fun q => absurd (by rw [hI 2 (by decide), S6.1]; exact nI_le (Nat.le_refl n) (by omega)) q⟩
    obtain ⟨l, hD, hG⟩ := N6
    refine ⟨l, ⟨fun a ha => by rw [hI 24 (by decide)]; exact hD.1 a ha, hD.2.1.of (fun c hc => hI c (fun h => by rw [List.mem_singleton.mp h] at hc; revert hc; decide)), hD.2.2⟩, ?_⟩
    rw [hI 13 (by decide)]
    exact hG
theorem s_P_come3 (G : zG) (σ : zSt) (v : Int32) (h : CI σ) : zI G 7 M_P_come [zf G 0, .int v] σ (fun _ τ => CI τ ∧ RF FR σ τ) := by
  refine zSpec.of (by decide) (Nat.le_of_ble_eq_true rfl) rfl (fun X E => ?_)
  refine b_P_come_0 E v σ ⟨_, s_P_hasLetter G σ v, ?_⟩
  rintro b τ ⟨hb, rfl⟩
  refine ⟨fun _ => ⟨_, rfl, h, RF.rf⟩, fun ht => ?_⟩
  rw [hb] at ht
  obtain ⟨n, R, rd, hS, l, hD, hG⟩ := h.2 (of_decide_eq_true ht).1
  obtain ⟨i, hi, rfl⟩ := letter_of ht hD.2.1
  exact ⟨_, s_Course_bring G _ n R i rd l hS hD hG hi, fun x τ ⟨k1, rd', k2⟩ => ⟨_, rfl, CI.run hS k1 k2, k1⟩⟩
theorem s_P_flow3 (G : zG) (σ : zSt) (m s : Int32) (h : CI σ) : zI G 7 M_P_flow [zf G 0, .int m, .int s] σ (fun _ τ => CI τ ∧ RF FR σ τ) := by
  refine zSpec.of (by decide) (Nat.le_of_ble_eq_true rfl) rfl (fun X E => ?_)
  have bad : ∃ x : Int32, some (Value.int (-1 : Int32)) = some (Value.int x) ∧ CI σ ∧ RF FR σ σ := ⟨_, rfl, h, RF.rf⟩
  refine b_P_flow_0 E m s σ ⟨fun _ => bad, fun hm => ⟨fun _ => bad, fun hm2 => ⟨fun hs => ?_, fun _ => bad⟩⟩⟩
  obtain ⟨k, hk, rfl⟩ := nI_of2 (M := 3000) (n := 3000) (by decide) hm (Int32.not_lt.mp hm2)
  obtain ⟨s0, hs0, rfl⟩ := nI_of (Int32.not_lt.mpr hs)
  rw [nI_l hs0]
  refine z_for k (fun i (q : Nat × zSt) => zZ G M_P_flow 7 X (fun r τ => ∃ x : Int32, r = some (.int x) ∧ CI τ ∧ RF FR σ τ) 23 [(0, zf G 0), (1, .int (nI k)), (3, .long (lN q.1)), (5, .int (nI i))] [] q.2) (fun _ q => q.1 < 2 ^ 31 ∧ CI q.2 ∧ RF FR σ q.2) ?_ ?_ 0 (s0, σ) (Nat.zero_le _) ⟨hs0, h, RF.rf⟩
  · intro i ⟨z, τ⟩ hi ⟨hz, hC, hF⟩ ih
    dsimp only at hz hC hF ih ⊢
    have en : ∀ x : Int32, ∃ y : Int32, some (Value.int x) = some (Value.int y) ∧ CI τ ∧ RF FR σ τ := fun x => ⟨x, rfl, hC, hF⟩
    refine b_P_flow_23 E (nI k) (lN z) (nI i) τ ⟨fun _ => en _, fun _ => ⟨fun _ => en _, fun hst => ?_⟩⟩
    obtain ⟨n, R, rd, hS, l, hD, hG⟩ := hC.2 hst
    have hl := hD.2.1.2.1
    rw [hD.2.1.1, nI_l (by omega)]
    refine ⟨fun _ => en _, fun hp => ?_⟩
    have hpos : 0 < l.length := by
      rcases Nat.eq_zero_or_pos l.length with e | e
      · rw [e] at hp; exact absurd (by decide) hp
      · exact e
    refine ⟨fun e => ?_, ?_⟩
    · have := (lN_eq (a := l.length) (b := 0) (by omega) (by decide)).mp e
      omega
    · have hrem : (lN z - lN z / lN l.length * lN l.length).toInt32 = nI (z % l.length) := by
        rw [pk_lRem (by omega) hpos (by omega), lN_i]
      rw [hrem]
      refine ⟨_, s_Course_bring G τ n R (z % l.length) rd l hS hD hG (Nat.mod_lt _ hpos), fun x σ1 ⟨k1, rd', k2⟩ => ?_⟩
      rw [nI_1]
      have hnext : ((69069 : Int64) * lN z + (1 : Int64)) &&& (2147483647 : Int64) = lN ((69069 * z + 1) % 2 ^ 31) := by
        rw [show (69069 : Int64) = lN 69069 from rfl, show (1 : Int64) = lN 1 from rfl, show (2147483647 : Int64) = lN (2 ^ 31 - 1) from rfl, lN_mul, lN_add]
        apply Int64.toBitVec_inj.mp
        show BitVec.ofNat 64 (69069 * z + 1) &&& BitVec.ofNat 64 (2 ^ 31 - 1) = BitVec.ofNat 64 ((69069 * z + 1) % 2 ^ 31)
        apply BitVec.eq_of_toNat_eq
        simp only [BitVec.toNat_and, BitVec.toNat_ofNat]
        rw [Nat.mod_eq_of_lt (show 69069 * z + 1 < 2 ^ 64 by omega), Nat.mod_eq_of_lt (show 2 ^ 31 - 1 < 2 ^ 64 by decide), Nat.and_two_pow_sub_one_eq_mod, Nat.mod_eq_of_lt (show (69069 * z + 1) % 2 ^ 31 < 2 ^ 64 by omega)]
      rw [hnext]
      exact ih ((69069 * z + 1) % 2 ^ 31, σ1) ⟨Nat.mod_lt _ (by decide), CI.run hS k1 k2, hF.tr k1⟩
  · intro ⟨z, τ⟩ ⟨_, hC, hF⟩
    exact b_P_flow_23 E (nI k) (lN z) (nI k) τ ⟨fun _ => ⟨_, rfl, hC, hF⟩, fun q => absurd (nI_le (Nat.le_refl k) (by omega)) q⟩
def PSP (σ : zSt) (n : Nat) (mk : Nat → Int32) (len : Nat → Nat → Int32) (lk : Nat → Nat → Bool) (p w s k r x : Int32) (τ : zSt) : Prop :=
  (x = -1 ∧ τ = σ ∧ (SB0 (!zHas σ s) p w k r ∨ ¬ zRe σ n (n - 1) = zAll (nI n))) ∨ (¬ SB0 (!zHas σ s) p w k r ∧ zRe σ n (n - 1) = zAll (nI n) ∧ (CI τ ∧ zFr FX σ τ) ∧ τ 0 1 = 1 ∧ ∃ pp R, p = nI pp ∧ pp ≤ 3 ∧ r = nI R ∧ R ≤ 20 ∧ τ 1 5 = nI R ∧ ∀ q b, q ≤ R → b < n → τ 31 (q * 12 + b) = (sV pp s n mk len lk q b).1)
theorem s_P_start2 (G : zG) (σ : zSt) (n : Nat) (p w s k r : Int32) (mk : Nat → Int32) (len : Nat → Nat → Int32) (lk : Nat → Nat → Bool) (h : CI σ) (hn : σ 2 0 = nI n) (h1 : 1 ≤ n) (hle : n ≤ 12) (hmk : ∀ a, a < 12 → σ 6 a = mk a) (hlen : ∀ a b, a < 12 → b < 12 → σ 8 (a * 12 + b) = len a b) (hlk : ∀ a b, a < 12 → b < 12 → zIn (σ 7 b) (nI a) = lk a b) : zI G 7 M_P_start [zf G 0, .int p, .int w, .int s, .int k, .int r] σ (fun x τ => PSP σ n mk len lk p w s k r x τ) := by
  refine zSpec.of (by decide) (Nat.le_of_ble_eq_true rfl) rfl (fun X E => ?_)
  have bad : SB0 (!zHas σ s) p w k r ∨ ¬ zRe σ n (n - 1) = zAll (nI n) → ∃ x : Int32, some (Value.int (-1 : Int32)) = some (Value.int x) ∧ PSP σ n mk len lk p w s k r x σ := fun hb => ⟨_, rfl, Or.inl ⟨rfl, rfl, hb⟩⟩
  have go : ¬ SB0 (!zHas σ s) p w k r → ∀ pp, p = nI pp → pp ≤ 3 → zHas σ s = true → ¬ r < 1 → r ≤ 20 → zZ G M_P_start 7 X (fun rr τ => ∃ x : Int32, rr = some (.int x) ∧ PSP σ n mk len lk p w s k r x τ) 69 [(0, zf G 0), (1, .int p), (2, .int w), (3, .int s), (4, .int k), (5, .int r)] [] σ := by
    intro nb pp hpp hp3 hs hr1 hr2
    obtain ⟨j, hj, es⟩ := zHas_of hs hn hle
    obtain ⟨R, hR, er⟩ := nI_of2 (M := 20) (n := 20) (by decide) (fun e => hr1 (Int32.lt_of_lt_of_le e (by decide))) hr2
    have hR1 : 1 ≤ R := by
      rcases Nat.lt_or_ge R 1 with e | e
      · exact absurd (by rw [er]; exact nI_lt e (by decide)) hr1
      · exact e
    refine b_P_start_69 E p w s k r σ ⟨_, s_Net_isConnected G σ n hn h1 hle, ?_⟩
    rintro b τ ⟨hcb, eτ⟩
    rw [eτ]
    have c1 : zV G 4 M_Frame_setUp [zf G 3, zf G 2, .int w, .int s, .int k] σ (fun τ => zFr FFrame σ τ ∧ TreeOK τ ∧ (w = 0 → ∀ u, u < 12 → τ 13 u = 0)) := by
      rw [es]; exact s_Frame_setUp G σ n j w k hn hle hj
    have c2 : ∀ σ3 : zSt, zFr FFrame σ σ3 → TreeOK σ3 → (w = 0 → ∀ u, u < 12 → σ3 13 u = 0) → zV G 6 M_Course_open [zf G 1, .int p, .int w, .int s, .int r] σ3 (fun τ => (zFr FO σ3 τ ∧ CS τ n R ∧ ∃ rd, RN τ R rd) ∧ ∀ q b, q ≤ R → b < n → τ 31 (q * 12 + b) = (sV pp s n mk len lk q b).1) := by
      intro σ3 g1 g2 g3
      rw [hpp, er]
      exact s_Course_open2 G σ3 n R pp w s mk len lk hp3 (fun a ha => by rw [g1 6 (by decide)]; exact hmk a ha) (fun a b ha hb => by rw [g1 8 (by decide)]; exact hlen a b ha hb) (fun a b ha hb => by rw [g1 7 (by decide)]; exact hlk a b ha hb) (by rw [g1 2 (by decide)]; exact hn) h1 hle hR1 hR g2 g3
    refine ⟨fun hbt => ⟨_, c1, fun σ3 ⟨g1, g2, g3⟩ => ⟨_, c2 σ3 g1 g2 g3, fun σ4 ⟨⟨k1, k2, rd, l, k3, k4⟩, k31⟩ σ5 e5 => ⟨_, rfl, Or.inr ⟨nb, of_decide_eq_true (hcb.symm.trans hbt), ⟨?_, ?_⟩, by rw [e5, zup_self, upd_eq], pp, R, hpp, hp3, er, hR, by rw [e5, zup_ne (by decide)]; exact k2.2.2.2.1, fun q b hq hb => by rw [e5, zup_ne (by decide)]; exact k31 q b hq hb⟩⟩⟩⟩, fun hbf => bad (Or.inr (of_decide_eq_false (hcb.symm.trans hbf)))⟩
    · have h50 : ∀ c, c ≠ 0 → σ5 c = σ4 c := fun c hc => by rw [e5, zup_ne hc]
      refine ⟨⟨n, by rw [h50 2 (by decide)]; exact k2.1, h1, hle⟩, fun _ => ⟨n, R, rd, ?_, l, ?_, ?_⟩⟩
      · obtain ⟨t1, t2, t3, t4, t5, t6, t7, t8⟩ := k2
        refine ⟨by rw [h50 2 (by decide)]; exact t1, t2, t3, by rw [h50 1 (by decide)]; exact t4, t5, t6, fun c u hc hu hz => ?_, fun e u hu => ?_⟩
        · rw [h50 13 (by decide)] at hz
          rw [h50 10 (by decide), h50 9 (by decide)]
          exact t7 c u hc hu hz
        · rw [h50 1 (by decide)] at e
          rw [h50 13 (by decide)]
          exact t8 e u hu
      · exact ⟨fun a ha => by rw [h50 24 (by decide)]; exact k3.1 a ha, k3.2.1.of (fun c hc => h50 c (fun e => by rw [e] at hc; revert hc; decide)), k3.2.2⟩
      · rw [h50 13 (by decide)]; exact k4
    · rw [e5]
      exact ((g1.mono (by decide)).tr (k1.mono (by decide))).up (by decide)
  refine b_P_start_0 E p w s k r σ ?_
  refine ⟨fun h => bad (Or.inl (Or.inl h)), fun p0 => ⟨fun h => bad (Or.inl (Or.inr (Or.inl h))), fun p3 => ⟨fun h => bad (Or.inl (Or.inr (Or.inr (Or.inl h)))), fun w0 => ⟨fun w2 => ⟨fun h => bad (Or.inl (Or.inr (Or.inr (Or.inr (Or.inr (Or.inl (by rw [h]; rfl))))))), fun hs => ⟨fun h => bad (Or.inl (Or.inr (Or.inr (Or.inr (Or.inr (Or.inr (Or.inl h))))))), fun hr1 => ⟨fun hr2 => ?_, fun h => bad (Or.inl (Or.inr (Or.inr (Or.inr (Or.inr (Or.inr (Or.inr (Or.inl h))))))))⟩⟩⟩, fun h => bad (Or.inl (Or.inr (Or.inr (Or.inr (Or.inl (Int32.not_le.mp h))))))⟩⟩⟩⟩
  obtain ⟨pp, hp3, hpp⟩ := nI_of2 (M := 3) (n := 3) (by decide) p0 (Int32.not_lt.mp p3)
  have nb : (w = 2 → ¬ (k < 2 ∨ 8 < k)) → ¬ SB0 (!zHas σ s) p w k r := by
    intro hk q
    rcases q with q | q | q | q | q | q | q | q
    · exact p0 q
    · exact p3 q
    · exact w0 q
    · exact absurd w2 (Int32.not_le.mpr q)
    · rw [hs] at q; exact absurd q (by decide)
    · exact hr1 q
    · exact q hr2
    · exact hk q.1 q.2
  refine ⟨fun h => go (nb (fun q => absurd q h)) pp hpp hp3 hs hr1 hr2, fun hw2 => ⟨fun h => bad (Or.inl (Or.inr (Or.inr (Or.inr (Or.inr (Or.inr (Or.inr (Or.inr ⟨hw2, Or.inl h⟩)))))))), fun k2 => ⟨fun k8 => go (nb (fun _ q => q.elim k2 (fun q => absurd k8 (Int32.not_le.mpr q)))) pp hpp hp3 hs hr1 hr2, fun h => bad (Or.inl (Or.inr (Or.inr (Or.inr (Or.inr (Or.inr (Or.inr (Or.inr ⟨hw2, Or.inr (Int32.not_le.mp h)⟩))))))))⟩⟩⟩
theorem s_P_inStep2 (G : zG) (σ : zSt) (a r : Int32) (h : CI σ) : zI G 2 M_P_inStep [zf G 0, .int a, .int r] σ (fun x τ => τ = σ ∧ ((x = -1 ∧ ¬ (¬ σ 0 1 = 0 ∧ zHas σ a = true ∧ ¬ r < 0 ∧ ¬ σ 1 5 < r)) ∨ ((¬ σ 0 1 = 0 ∧ zHas σ a = true ∧ ¬ r < 0 ∧ ¬ σ 1 5 < r) ∧ ∃ i j, i < 12 ∧ j ≤ 20 ∧ a = nI i ∧ r = nI j ∧ x = σ 31 (j * 12 + i)))) := by
  refine zSpec.of (by decide) (Nat.le_of_ble_eq_true rfl) rfl (fun X E => ?_)
  refine b_P_inStep_0 E a r σ ⟨_, s_P_hasRound G σ a r, ?_⟩
  rintro b τ ⟨hb, eτ⟩
  rw [eτ]
  refine ⟨fun hf => ⟨_, rfl, rfl, Or.inl ⟨rfl, of_decide_eq_false (hb.symm.trans hf)⟩⟩, fun ht => ?_⟩
  have ht2 := hb.symm.trans ht
  obtain ⟨i, j, hi, hj, ea, er⟩ := round_of h ht2
  rw [ea, er, zi12]
  refine ⟨vp_in_nI (by omega) (by decide), _, rfl, rfl, Or.inr ⟨?_, i, j, hi, hj, rfl, rfl, by rw [nI_clamp (by omega)]⟩⟩
  rw [← ea, ← er]
  exact of_decide_eq_true ht2
