-- Class and reference answer alike: the invariant of the running
section INVES
variable {σ τ υ : zSt} {n R W p : Nat} {src : Int32} {mk : Nat → Int32} {len : Nat → Nat → Int32} {lk pa : Nat → Nat → Bool} {up : Nat → Option Nat} {ld : Nat → Nat} {A A' : AS}
theorem INVE.par (h : INVE σ) : ∃ (n R W p : Nat) (src : Int32) (mk : Nat → Int32) (len : Nat → Nat → Int32) (lk pa : Nat → Nat → Bool) (up : Nat → Option Nat) (ld : Nat → Nat) (A : AS), ¬ σ 0 1 = 0 → RUNP σ n R W p src mk len lk pa up ld A := by
  by_cases q : σ 0 1 = 0
  · exact ⟨0, 0, 0, 0, 0, fun _ => 0, fun _ _ => 0, fun _ _ => false, fun _ _ => false, fun _ => none, fun _ => 0, A0 0 0 (fun _ => 0) (S00 σ 0), fun z => absurd q z⟩
  · obtain ⟨n, R, W, p, src, mk, len, lk, pa, up, ld, A, hr⟩ := h.2.2 q
    exact ⟨n, R, W, p, src, mk, len, lk, pa, up, ld, A, fun _ => hr⟩
/-- the class's half of a step, then the reference's -/
theorem RUNP.step (h : RUNP σ n R W p src mk len lk pa up ld A) (k1 : RF FR σ τ) (k2 : CA τ n W pa up A') (k3 : MF FHan [27, 29, 30] τ υ) (k4 : MA υ n A') (k5 : QR n R W p lk pa up ld A') : RUNP υ n R W p src mk len lk pa up ld A' := by
  obtain ⟨h1, h2, h3, _, _, _, h7, h8, h9⟩ := h
  have e1 : ∀ c, 32 ≤ c → τ c = σ c := lowFX (FR_x k1)
  have e2 : ∀ c, c < 32 → υ c = τ c := hiMF (k3.mono (by decide) (by decide))
  have e32 : τ 32 = σ 32 := e1 32 (by decide)
  refine ⟨(h1.of k1).lo2 e2, (h2.hi2 e1).of k3 (by decide) (by decide), h3, k2.lo2 e2, k4, k5, ?_, ?_, ?_⟩
  · rw [e2 10 (by decide), e2 9 (by decide), k1.at (c := 10) (by decide), k1.at (c := 9) (by decide), k3.at (c := 41) (by decide), k3.at (c := 42) (by decide), e1 41 (by decide), e1 42 (by decide)]
    exact h7
  · rw [e2 3 (by decide), k1.at (c := 3) (by decide), k3.2 19 (by decide), k3.2 20 (by decide), e32]
    exact h8
  · rw [e2 31 (by decide), k1.at (c := 31) (by decide), k3.at (c := 50) (by decide), e1 50 (by decide)]
    exact h9
theorem INVE.step (h : INVE σ) (hs : ¬ σ 0 1 = 0) (hP : RUNP σ n R W p src mk len lk pa up ld A) (k1 : RF FR σ τ) (k2 : CA τ n W pa up A') (k3 : MF FHan [27, 29, 30] τ υ) (k4 : MA υ n A') (k5 : QR n R W p lk pa up ld A') : INVE υ := by
  have e0 : υ 0 = σ 0 := by rw [hiMF (k3.mono (by decide) (by decide)) 0 (by decide), k1.at (by decide)]
  have e4 : υ 32 4 = σ 32 4 := by rw [k3.2 4 (by decide), k1.at (by decide)]
  exact ⟨(h.1.c (FR_x k1)).m (k3.mono (by decide) (by decide)), by rw [e0, e4]; exact h.2.1, fun _ => ⟨n, R, W, p, src, mk, len, lk, pa, up, ld, A', hP.step k1 k2 k3 k4 k5⟩⟩
theorem PCO.hi {v x : Int32} (h : PCO n R W p src mk len lk pa up ld A σ v x τ) : ∀ c, 32 ≤ c → τ c = σ c := by
  rcases h with ⟨_, e, _⟩ | ⟨_, i, _, _, _, k, _⟩
  · intro c _; rw [e]
  · exact lowFX (FR_x k)
theorem PFO.hi {m s : Int32} (h : PFO n R W p src mk len lk pa up ld A σ m s τ) : ∀ c, 32 ≤ c → τ c = σ c := by
  rcases h with ⟨e, _⟩ | ⟨_, _, k, _⟩
  · intro c _; rw [e]
  · exact lowFX (FR_x k)
theorem w_P_come5 (G : zG) (σ : zSt) (v : Int32) (hP : ¬ σ 0 1 = 0 → RUNP σ n R W p src mk len lk pa up ld A) : zI G 7 M_P_come [zf G 0, .int v] σ (fun x τ => PCO n R W p src mk len lk pa up ld A σ v x τ) := e_P_come G σ v (fun q => (hP q).rc)
theorem w_Mo_come5 (G : zG) (σ τ : zSt) (v : Int32) {x : Int32} (h : INVE σ) (hP : ¬ σ 0 1 = 0 → RUNP σ n R W p src mk len lk pa up ld A) (h1 : PCO n R W p src mk len lk pa up ld A σ v x τ) : zI G 5 M_Mo_come [zf G 32, .int v] τ (fun y υ => MCO n R W p src mk len lk pa up A τ v y υ) := e_Mo_come G τ v (fun q => by
  rw [h1.hi 32 (by decide)] at q
  exact (hP (fun z => q (h.2.1.mp z))).rm h1.hi)
theorem w_P_flow5 (G : zG) (σ : zSt) (m s : Int32) (hP : ¬ σ 0 1 = 0 → RUNP σ n R W p src mk len lk pa up ld A) : zI G 7 M_P_flow [zf G 0, .int m, .int s] σ (fun _ τ => PFO n R W p src mk len lk pa up ld A σ m s τ) := e_P_flow G σ m s (fun q => (hP q).rc)
theorem w_Mo_flow5 (G : zG) (σ τ : zSt) (m s : Int32) (h : INVE σ) (hP : ¬ σ 0 1 = 0 → RUNP σ n R W p src mk len lk pa up ld A) (h1 : PFO n R W p src mk len lk pa up ld A σ m s τ) : zI G 5 M_Mo_flow [zf G 32, .int m, .int s] τ (fun _ υ => MFO n R W p src mk len lk pa up A τ m s υ) := e_Mo_flow G τ m s (fun q => by
  rw [h1.hi 32 (by decide)] at q
  exact (hP (fun z => q (h.2.1.mp z))).rm h1.hi)
theorem nI_n0 {i : Nat} (hi : i < 4000) : ¬ nI i < 0 := fun q => by
  have := ilt0.mp q
  rw [nI_toInt (by omega)] at this
  omega
theorem INVE.come {v x y : Int32} (h : INVE σ) (hP : ¬ σ 0 1 = 0 → RUNP σ n R W p src mk len lk pa up ld A) (h1 : PCO n R W p src mk len lk pa up ld A σ v x τ) (h2 : MCO n R W p src mk len lk pa up A τ v y υ) : x = y ∧ INVE υ := by
  have e32 : τ 32 = σ 32 := h1.hi 32 (by decide)
  rcases h1 with ⟨e1, e2, q1⟩ | ⟨hs, i, hi, ei, ex, k1, k2, k3⟩
  · rcases h2 with ⟨e3, e4, q2⟩ | ⟨hs, i, hi, ei, _⟩
    · exact ⟨by rw [e1, e3], by rw [e4, e2]; exact h⟩
    · exfalso
      rw [e32] at hs
      have hs' : ¬ σ 0 1 = 0 := fun z => hs (h.2.1.mp z)
      have hp := (hP hs').2.2.2.1.2.1.1
      have hl := hp.2.1
      rcases q1 with q | q | q
      · exact hs' q
      · rw [ei] at q; exact nI_n0 (by omega) q
      · rw [ei, hp.1] at q
        exact nI_ge hi (by omega) q
  · have hr := hP hs
    have hl := hr.2.2.2.1.2.1.1.2.1
    rcases h2 with ⟨e3, e4, q2⟩ | ⟨_, i', hi', ei', ey, m1, m2⟩
    · exfalso
      rw [e32] at q2
      rcases q2 with q | q | q
      · exact hs (h.2.1.mpr q)
      · rw [ei] at q; exact nI_n0 (by omega) q
      · rw [ei, hr.2.2.2.2.1.2.1.1.1] at q
        exact q (nI_lt hi (by omega))
    · have e : i' = i := (nI_eq (by omega) (by omega)).mp (ei'.symm.trans ei)
      rw [e] at ey m2
      exact ⟨by rw [ex, ey], h.step hs hr k1 k2 m1 m2 k3⟩
theorem INVE.flow {m s : Int32} (h : INVE σ) (hP : ¬ σ 0 1 = 0 → RUNP σ n R W p src mk len lk pa up ld A) (h1 : PFO n R W p src mk len lk pa up ld A σ m s τ) (h2 : MFO n R W p src mk len lk pa up A τ m s υ) : True ∧ INVE υ := by
  have e32 : τ 32 = σ 32 := h1.hi 32 (by decide)
  refine ⟨trivial, ?_⟩
  rcases h1 with ⟨e2, q1⟩ | ⟨hs, nf, k1, k, z, em, hk, es, hz, k2, k3⟩
  · rcases h2 with ⟨e4, q2⟩ | ⟨hs, nf, _⟩
    · rw [e4, e2]; exact h
    · exfalso
      rw [e32] at hs
      rcases q1 with q | q
      · exact hs (h.2.1.mp q)
      · exact nf q
  · rcases h2 with ⟨e4, q2⟩ | ⟨_, _, m1, k', z', em', hk', es', hz', m2⟩
    · exfalso
      rw [e32] at q2
      rcases q2 with q | q
      · exact hs (h.2.1.mpr q)
      · exact nf q
    · have e : k' = k := (nI_eq (by omega) (by omega)).mp (em'.symm.trans em)
      have ez : z' = z := (nI_eq hz' hz).mp (es'.symm.trans es)
      rw [e, ez] at m2
      exact h.step hs (hP hs) k1 k2 m1 m2 k3
/-- the net's facts as start takes them -/
theorem NET.lk7 (h : NET σ) {a b : Nat} (ha : a < 12) (hb : b < 12) : zIn (σ 7 b) (nI a) = lkT σ a b := by
  rw [h.2.1.2.2.1 b a hb ha]
  exact lkT_sym h.2.2.2.1 hb ha
theorem NET.nn (h : NET σ) : σ 2 0 = nI (nT σ) ∧ σ 32 0 = nI (nT σ) ∧ 1 ≤ nT σ ∧ nT σ ≤ 12 := by
  obtain ⟨⟨n, h1, h2, h3⟩, hL, _⟩ := h
  have e0 : σ 32 0 = nI n := by rw [← hL.1]; exact h1
  have e : nT σ = n := by
    show (σ 32 0).toNatClampNeg = n
    rw [e0]; exact nI_clamp (by omega)
  rw [e]; exact ⟨h1, e0, h2, h3⟩
theorem NET.irr (h : NET σ) {a : Nat} (ha : a < 12) : lkT σ a a = false := by
  show zLk σ (nI a) (nI a) = false
  unfold zLk
  rw [zi12', nI_clamp (by omega), h.2.2.2.2 a ha]
  decide
theorem NET.hi7 (h : NET σ) {a c : Nat} (ha : a < nT σ) (h1 : nT σ ≤ c) (h2 : c < 32) : zIn (σ 7 a) (nI c) = false := by
  obtain ⟨n1, n2, n3, n4⟩ := h.nn
  obtain ⟨_, n', q1, q2, q3⟩ := h.2.2.2.1
  have en : n' = nT σ := (nI_eq (by omega) (by omega)).mp (q1.symm.trans n2)
  rw [en] at q3
  exact q3 a c (by omega) h1 h2
theorem w_P_start5 (G : zG) (σ : zSt) (p w s k r : Int32) (h : INVE σ) : zI G 7 M_P_start [zf G 0, .int p, .int w, .int s, .int k, .int r] σ (fun x τ => PSE σ (nT σ) (σ 34) (lenT σ) (lkT σ) (S00 σ (nT σ)) p w s k r x τ) := by
  have hN := h.1
  obtain ⟨n1, n2, n3, n4⟩ := hN.nn
  refine s_P_start4 G σ (nT σ) p w s k r (σ 34) (lenT σ) (lkT σ) (S00 σ (nT σ)) n1 n3 n4 hN.2.1.2.2.2.1 (fun a b ha hb => ?_) (fun a b ha hb => hN.lk7 ha hb) (fun a b ha hb => lkT_sym hN.2.2.2.1 (by omega) (by omega)) (fun a ha => hN.irr (by omega)) (fun a c ha hc hc2 => hN.hi7 ha hc hc2) ⟨hN.2.2.1.2, fun a b ha hb => hN.2.2.1.1 _ (by omega)⟩ (fun c hc => S00_rd hc)
  rw [hN.2.1.2.2.2.2 _ (by omega), Nat.mul_comm a 12]
  exact hN.2.2.2.1.1 a b ha hb
theorem PSE.hi {mk : Nat → Int32} {len : Nat → Nat → Int32} {lk : Nat → Nat → Bool} {S : PS} {p w s k r x : Int32} (h : PSE σ n mk len lk S p w s k r x τ) : ∀ c, 32 ≤ c → τ c = σ c := by
  rcases h with ⟨_, e, _⟩ | ⟨_, _, hF, _⟩
  · intro c _; rw [e]
  · exact lowFX hF
theorem w_Mo_start5 (G : zG) (σ τ : zSt) (p w s k r : Int32) (h : INVE σ) {x : Int32} (hp : PSE σ (nT σ) (σ 34) (lenT σ) (lkT σ) (S00 σ (nT σ)) p w s k r x τ) : zI G 4 M_Mo_start [zf G 32, .int p, .int w, .int s, .int k, .int r] τ (fun y υ => MSE τ (nT σ) (σ 34) (lenT σ) (lkT σ) (CoT σ) p w s k r y υ) := by
  have hN := h.1
  obtain ⟨n1, n2, n3, n4⟩ := hN.nn
  have e := hp.hi
  have e33 := e 33 (by decide)
  have hC : ∀ x, SPR (nT σ) (lkT σ) x → (x = zAll (nI (nT σ)) ↔ CoT σ) := fun x hx => (conn_iff n4 n3 (fun a b ha hb => hN.2.1.2.2.1 a b (by omega) (by omega)) (fun a c ha hc hc2 => hN.hi7 ha hc hc2) hx).symm
  refine s_Mo_start4 G τ (nT σ) p w s k r (σ 34) (lenT σ) (lkT σ) (CoT σ) (hN.2.2.1.of e33 (e 34 (by decide))) (by rw [e 32 (by decide)]; exact n2) n3 n4 (fun a _ => by rw [e 34 (by decide)]) (fun a b _ _ => by rw [e33]) (fun a b _ _ => ?_) (fun a b ha hb => lkT_sym hN.2.2.2.1 (by omega) (by omega)) (fun a ha => hN.irr (by omega)) hC
  unfold zLk
  rw [e33]
  rfl
theorem INVE.start {p w s k r x y : Int32} (h : INVE σ) (h1 : PSE σ (nT σ) (σ 34) (lenT σ) (lkT σ) (S00 σ (nT σ)) p w s k r x τ) (h2 : MSE τ (nT σ) (σ 34) (lenT σ) (lkT σ) (CoT σ) p w s k r y υ) : x = y ∧ INVE υ := by
  have hN := h.1
  have g1 : σ 2 0 = σ 32 0 := hN.2.1.1
  have e := h1.hi
  obtain ⟨n1, n2, n3, n4⟩ := hN.nn
  have hno : (!zHas σ s) = zNo τ s := by
    rw [zHas_no g1, Bool.not_not]
    unfold zNo
    rw [e 32 (by decide)]
  rcases h1 with ⟨e1, e2, q⟩ | ⟨nb, hc, hF, h01, pp, R, W, j, ⟨p1, p2⟩, ⟨r1, r2, r3⟩, ⟨w1, w2⟩, ⟨s1, s2⟩, c1, c2, c3, c4, c5, ⟨c6, c7⟩, c8⟩
  · rcases h2 with ⟨e3, e4, _⟩ | ⟨nb, hc, _⟩
    · exact ⟨by rw [e1, e3], by rw [e4, e2]; exact h⟩
    · exfalso
      rw [hno] at q
      rcases q with q | q
      · exact nb q
      · exact q hc
  · rcases h2 with ⟨e3, e4, q⟩ | ⟨_, _, hG, h324, pp', R', W', j', ⟨p1', _⟩, ⟨r1', _, _⟩, ⟨w1', _⟩, ⟨s1', _⟩, d1, d2, d3, d4, d5⟩
    · exfalso
      rw [← hno] at q
      rcases q with q | q
      · exact nb q
      · exact q hc
    · have ep : pp' = pp := (nI_eq (by omega) (by omega)).mp (p1'.symm.trans p1)
      have er : R' = R := (nI_eq (by omega) (by omega)).mp (r1'.symm.trans r1)
      have ew : W' = W := (nI_eq (by omega) (by omega)).mp (w1'.symm.trans w1)
      have ej : j' = j := (nI_eq (by omega) (by omega)).mp (s1'.symm.trans s1)
      rw [ep, er, ew, ej] at d1 d2 d3
      rw [ew, ej] at d4
      rw [ep, er, ej] at d5
      rw [S00_eq e] at d2 d3
      have e2 : ∀ c, c < 32 → υ c = τ c := hiMF hG
      have hQ : QR (nT σ) R W pp (lkT σ) (paF W (nT σ) (lkT σ) k) (upF W (nT σ) j (lkT σ) k) (ldF W (nT σ) j (lkT σ) k) (aStF (nT σ) R W pp j (σ 34) (lenT σ) (lkT σ) k (S00 σ (nT σ))) := (QS_all n4 r3 r2 w2 c3 d1.mlb (fun c u hc hu => ⟨(upF_ok n4 hc hu).1, (upF_ok n4 hc hu).2.1⟩) (fun c hc => S00_rd hc) (nT σ) (Nat.le_refl _)).done
      refine ⟨by rw [c4, d3], (hN.c hF).m hG, ⟨fun q => ?_, fun q => ?_⟩, fun _ => ⟨nT σ, R, W, pp, nI j, σ 34, lenT σ, lkT σ, paF W (nT σ) (lkT σ) k, upF W (nT σ) j (lkT σ) k, ldF W (nT σ) j (lkT σ) k, aStF (nT σ) R W pp j (σ 34) (lenT σ) (lkT σ) k (S00 σ (nT σ)), c1.lo2 e2, d1, c3, c2.lo2 e2, d2, hQ, fun c hc => ⟨?_, ?_⟩, ⟨?_, ?_⟩, fun q b hq hb => ?_⟩⟩
      · rw [e2 0 (by decide), h01] at q; exact absurd q (by decide)
      · rw [h324] at q; exact absurd q (by decide)
      · rw [e2 10 (by decide), c5 c hc, (d4.1 c hc).2]
      · rw [e2 9 (by decide), (c1.2.2.2.2.2.1 c hc).1, (d4.1 c hc).1]
      · rw [e2 3 (by decide), c6, d4.2.2.1]
      · rw [e2 3 (by decide), c7, d4.2.2.2]
      · rw [e2 31 (by decide), c8 q b hq hb, d5 q b hq hb]
/-- what the readers need of the running -/
theorem RUNP.nq (h : RUNP σ n R W p src mk len lk pa up ld A) (hN : NET σ) : n = nT σ := by
  obtain ⟨n1, n2, n3, n4⟩ := hN.nn
  have := h.1.1.2.2.1
  exact (nI_eq (by omega) (by omega)).mp (h.1.1.1.symm.trans n1)
theorem RUNP.rd (h : RUNP σ n R W p src mk len lk pa up ld A) {a : Nat} (ha : a < n) : σ 24 a = nI (rdP (aS A) a) ∧ σ 35 a = nI (rdP (aS A) a) ∧ rdP (aS A) a ≤ R ∧ 1 ≤ rdP (aS A) a := ⟨h.2.2.2.1.1 a ha, h.2.2.2.2.1.1.2 a ha, (h.2.2.2.2.2.1.1.1.1.1 a ha).1, h.2.2.2.2.2.1.2.1 a ha⟩
theorem INVE.off (h : INVE σ) : decide (σ 32 4 = 0) = decide (σ 0 1 = 0) := decide_eq_decide.mpr h.2.1.symm
theorem w_P_told5 (G : zG) (σ : zSt) (a w : Int32) (h : INVE σ) : zI G 1 M_P_told [zf G 0, .int a, .int w] σ (fun x τ => τ = σ ∧ x = tell (!zHas σ a) (decide (σ 0 1 = 0)) w (σ 24 a.toNatClampNeg) (σ 16 a.toNatClampNeg) (σ 17 a.toNatClampNeg) (σ 26 a.toNatClampNeg) (if zSf σ a = true then 1 else 0) (σ 10 a.toNatClampNeg) (σ 9 a.toNatClampNeg) (zBc (σ 7 a.toNatClampNeg))) := s_P_told5 G σ (nT σ) a w h.1.nn.1 h.1.nn.2.2.2
theorem w_Mo_told5 (G : zG) (σ : zSt) (a w : Int32) (h : INVE σ) : zI G 1 M_Mo_told [zf G 32, .int a, .int w] σ (fun x τ => τ = σ ∧ x = tell (zNo σ a) (decide (σ 32 4 = 0)) w (σ 35 a.toNatClampNeg) (σ 47 a.toNatClampNeg) (σ 48 a.toNatClampNeg) (σ 36 a.toNatClampNeg) (if σ 37 a.toNatClampNeg = 0 then 0 else 1) (σ 41 a.toNatClampNeg) (σ 42 a.toNatClampNeg) (nI (selL (fun b => zLk σ a (nI b)) (nT σ)).length)) := s_Mo_told5 G σ (nT σ) a w h.1.nn.2.1 h.1.nn.2.2.2
theorem INVE.told {a w x y : Int32} (h : INVE σ) (h1 : τ = σ ∧ x = tell (!zHas σ a) (decide (σ 0 1 = 0)) w (σ 24 a.toNatClampNeg) (σ 16 a.toNatClampNeg) (σ 17 a.toNatClampNeg) (σ 26 a.toNatClampNeg) (if zSf σ a = true then 1 else 0) (σ 10 a.toNatClampNeg) (σ 9 a.toNatClampNeg) (zBc (σ 7 a.toNatClampNeg))) (h2 : υ = τ ∧ y = tell (zNo τ a) (decide (τ 32 4 = 0)) w (τ 35 a.toNatClampNeg) (τ 47 a.toNatClampNeg) (τ 48 a.toNatClampNeg) (τ 36 a.toNatClampNeg) (if τ 37 a.toNatClampNeg = 0 then 0 else 1) (τ 41 a.toNatClampNeg) (τ 42 a.toNatClampNeg) (nI (selL (fun b => zLk τ a (nI b)) (nT τ)).length)) : x = y ∧ INVE υ := by
  obtain ⟨e1, h1⟩ := h1
  obtain ⟨e2, h2⟩ := h2
  rw [e1] at h2
  refine ⟨?_, by rw [e2, e1]; exact h⟩
  have hN := h.1
  obtain ⟨n1, n2, n3, n4⟩ := hN.nn
  rw [h1, h2, h.off, zHas_no hN.2.1.1, Bool.not_not]
  by_cases hno : zNo σ a = true
  · rw [tell_bad (Or.inl hno), tell_bad (Or.inl hno)]
  obtain ⟨j, hj, ej⟩ := zNo_of (Bool.eq_false_iff.mpr hno) n2 n4
  have cj : (nI j).toNatClampNeg = j := nI_clamp (by omega)
  have c7 : zBc (σ 7 j) = nI (selL (fun b => zLk σ (nI j) (nI b)) (nT σ)).length := by
    refine zBc_sel n4 (fun b hb => ?_)
    by_cases q : b < nT σ
    · rw [hN.2.1.2.2.1 j b (by omega) (by omega)]; exact ⟨fun z => ⟨q, z⟩, fun z => z.2⟩
    · rw [hN.hi7 hj (by omega) hb]; exact ⟨fun z => absurd z (by decide), fun z => absurd z.1 q⟩
  rw [ej, cj, c7]
  by_cases hs : σ 0 1 = 0
  · rw [decide_eq_true hs]; exact tell_same
  obtain ⟨n, R, W, p, src, mk, len, lk, pa, up, ld, A, hr⟩ := h.2.2 hs
  have en := hr.nq hN
  rw [← en] at hj
  obtain ⟨t1, t2, t3, t4⟩ := hr.rd hj
  obtain ⟨hC, hM, hF, hA, hB, hQ, h10, _⟩ := hr
  obtain ⟨o1, o2, o3⟩ := op_nn hQ.1 hj t4
  obtain ⟨f1, _, _, _, f5⟩ := hB.fl j
  have o26 := ((hA.2.2.2.2.1 j hj).2 t4).1
  have x26 : σ 26 j = σ 36 j := Int32.toInt_inj.mp (by rw [o26, f5])
  have x4 : (if zSf σ (nI j) = true then (1 : Int32) else 0) = if σ 37 j = 0 then 0 else 1 := by
    rw [zSf_op (by omega) o26]
    by_cases q : opP (aS A) j = 0
    · have hsf : sfP (aS A) j = true := by
        cases z : sfP (aS A) j with
        | true => rfl
        | false => exact absurd ⟨z, q⟩ (hQ.2.2 j hj).1
      rw [hsf] at f1
      rw [if_pos (decide_eq_true q), if_neg (of_decide_eq_true f1.symm)]
    · have hsf : sfP (aS A) j = false := by
        cases z : sfP (aS A) j with
        | false => rfl
        | true => exact absurd (o3 z) q
      rw [hsf] at f1
      rw [if_neg (by rw [decide_eq_false q]; decide), if_pos (Decidable.not_not.mp (of_decide_eq_false f1.symm))]
  rw [x4, x26, t1, t2, (hA.2.2.1 j hj).1, (hA.2.2.1 j hj).2, (hB.2.2.1 j hj).1, (hB.2.2.1 j hj).2, (h10 j hj).1, (h10 j hj).2]
theorem INVE.has {a r : Int32} (h : INVE σ) : (!hasP σ a r) = noM σ a r ∧ (hasP σ a r = true → ∃ i j, i < 12 ∧ j ≤ 20 ∧ a = nI i ∧ r = nI j) := by
  have hN := h.1
  obtain ⟨n1, n2, n3, n4⟩ := hN.nn
  have h5 : ¬ σ 0 1 = 0 → σ 1 5 = σ 32 8 ∧ ∃ R, σ 1 5 = nI R ∧ R ≤ 20 := fun hs => by
    obtain ⟨n, R, W, p, src, mk, len, lk, pa, up, ld, A, hC, hM, _⟩ := h.2.2 hs
    exact ⟨by rw [hC.1.2.2.2.1, hM.1.2.2.2.1], R, hC.1.2.2.2.1, hC.1.2.2.2.2.2.1⟩
  refine ⟨?_, fun q => ?_⟩
  · unfold hasP noM
    by_cases hs : σ 0 1 = 0
    · rw [decide_eq_false (fun q => q.1 hs), decide_eq_true (Or.inl (h.2.1.mp hs))]; rfl
    · have hs4 : ¬ σ 32 4 = 0 := fun q => hs (h.2.1.mpr q)
      have e5 := (h5 hs).1
      have zh := zHas_no hN.2.1.1 a
      by_cases q0 : zNo σ a = true
      · rw [decide_eq_false (fun q => by have z := q.2.1; rw [zh, q0] at z; exact absurd z (by decide)), decide_eq_true (Or.inr (Or.inl q0))]; rfl
      · have q0' : zNo σ a = false := Bool.eq_false_iff.mpr q0
        by_cases q1 : r < 0
        · rw [decide_eq_false (fun q => q.2.2.1 q1), decide_eq_true (Or.inr (Or.inr (Or.inl q1)))]; rfl
        · by_cases q2 : σ 1 5 < r
          · rw [decide_eq_false (fun q => q.2.2.2 q2), decide_eq_true (Or.inr (Or.inr (Or.inr (by rw [← e5]; exact Int32.not_le.mpr q2))))]; rfl
          · rw [decide_eq_true ⟨hs, by rw [zh, q0']; rfl, q1, q2⟩, decide_eq_false (fun q => by
              rcases q with q | q | q | q
              · exact hs4 q
              · exact q0 q
              · exact q1 q
              · exact q (by rw [← e5]; exact Int32.not_lt.mp q2))]; rfl
  · obtain ⟨hs, q1, q2, q3⟩ := of_decide_eq_true q
    obtain ⟨_, R, e5, hR⟩ := h5 hs
    obtain ⟨i, hi, ei⟩ := zHas_of q1 n1 n4
    rw [e5] at q3
    obtain ⟨j, hj, ej⟩ := nI_of2 (M := nI R) (n := R) (nI_toInt (by omega)) q2 (Int32.not_lt.mp q3)
    exact ⟨i, j, by omega, by omega, ei, ej⟩
theorem w_P_past5 (G : zG) (σ : zSt) (a r : Int32) (h : INVE σ) : zI G 2 M_P_past [zf G 0, .int a, .int r] σ (fun x τ => τ = σ ∧ x = pst (!hasP σ a r) r (σ 24 a.toNatClampNeg) (σ 30 (r * 12 + a).toNatClampNeg)) := s_P_past5 G σ a r h.has.2
theorem w_Mo_past5 (G : zG) (σ : zSt) (a r : Int32) (h : INVE σ) : zI G 2 M_Mo_past [zf G 32, .int a, .int r] σ (fun x τ => τ = σ ∧ x = pst (noM σ a r) r (σ 35 a.toNatClampNeg) (σ 49 (12 * r + a).toNatClampNeg)) := s_Mo_past5 G σ a r (fun q => h.has.2 (by rw [← h.has.1] at q; cases z : hasP σ a r with | true => rfl | false => rw [z] at q; exact absurd q (by decide)))
theorem w_P_inStep5 (G : zG) (σ : zSt) (a r : Int32) (h : INVE σ) : zI G 2 M_P_inStep [zf G 0, .int a, .int r] σ (fun x τ => τ = σ ∧ x = pst (!hasP σ a r) 0 0 (σ 31 (r * 12 + a).toNatClampNeg)) := s_P_inStep5 G σ a r h.has.2
theorem w_Mo_inStep5 (G : zG) (σ : zSt) (a r : Int32) (h : INVE σ) : zI G 2 M_Mo_inStep [zf G 32, .int a, .int r] σ (fun x τ => τ = σ ∧ x = pst (noM σ a r) 0 0 (σ 50 (12 * r + a).toNatClampNeg)) := s_Mo_inStep5 G σ a r (fun q => h.has.2 (by rw [← h.has.1] at q; cases z : hasP σ a r with | true => rfl | false => rw [z] at q; exact absurd q (by decide)))
/-- a place that is there, in the running -/
theorem INVE.at {a r : Int32} (h : INVE σ) (q : hasP σ a r = true) : ∃ (i j n R W p : Nat) (src : Int32) (mk : Nat → Int32) (len : Nat → Nat → Int32) (lk pa : Nat → Nat → Bool) (up : Nat → Option Nat) (ld : Nat → Nat) (A : AS), a = nI i ∧ r = nI j ∧ i < n ∧ j ≤ R ∧ R ≤ 20 ∧ n ≤ 12 ∧ RUNP σ n R W p src mk len lk pa up ld A := by
  obtain ⟨i, j, hi, hj, ei, ej⟩ := h.has.2 q
  obtain ⟨hs, q1, q2, q3⟩ := of_decide_eq_true q
  obtain ⟨n, R, W, p, src, mk, len, lk, pa, up, ld, A, hr⟩ := h.2.2 hs
  have hC := hr.1
  have hR : R ≤ 20 := hC.1.2.2.2.2.2.1
  have hn : n ≤ 12 := hC.1.2.2.1
  refine ⟨i, j, n, R, W, p, src, mk, len, lk, pa, up, ld, A, ei, ej, ?_, ?_, hR, hn, hr⟩
  · obtain ⟨i', hi', ei'⟩ := zHas_of q1 hC.1.1 hn
    have : i = i' := (nI_eq (by omega) (by omega)).mp (ei.symm.trans ei')
    omega
  · rw [hC.1.2.2.2.1, ej] at q3
    have := i32_le.mp (Int32.not_lt.mp q3)
    rw [nI_toInt (by omega), nI_toInt (by omega)] at this
    omega
theorem pst_bad {b : Bool} {r rd c : Int32} (h : b = true) : pst b r rd c = -1 := if_pos h
theorem INVE.past {a r x y : Int32} (h : INVE σ) (h1 : τ = σ ∧ x = pst (!hasP σ a r) r (σ 24 a.toNatClampNeg) (σ 30 (r * 12 + a).toNatClampNeg)) (h2 : υ = τ ∧ y = pst (noM τ a r) r (τ 35 a.toNatClampNeg) (τ 49 (12 * r + a).toNatClampNeg)) : x = y ∧ INVE υ := by
  obtain ⟨e1, h1⟩ := h1
  obtain ⟨e2, h2⟩ := h2
  rw [e1] at h2
  refine ⟨?_, by rw [e2, e1]; exact h⟩
  rw [h1, h2, ← h.has.1]
  cases q : hasP σ a r with
  | false => exact (pst_bad rfl).trans (pst_bad rfl).symm
  | true =>
    obtain ⟨i, j, n, R, W, p, src, mk, len, lk, pa, up, ld, A, ei, ej, hi, hj, hR, hn, hr⟩ := h.at q
    obtain ⟨t1, t2, t3, t4⟩ := hr.rd hi
    rw [ei, ej, zi12, zi12', nI_clamp (by omega), nI_clamp (by omega), nI_clamp (by omega), t1, t2]
    unfold pst
    by_cases z : nI j ≤ nI (rdP (aS A) i)
    · rw [if_neg (by decide), if_pos z, if_neg (by decide), if_pos z]
      have z := i32_le.mp z
      rw [nI_toInt (by omega), nI_toInt (by omega)] at z
      rw [hr.2.2.2.1.2.2.2.1 j i (by omega) hi, hr.2.2.2.2.1.2.2.2.1 j i (by omega) hi]
    · rw [if_neg (by decide), if_neg z, if_neg (by decide), if_neg z]
theorem INVE.inStep {a r x y : Int32} (h : INVE σ) (h1 : τ = σ ∧ x = pst (!hasP σ a r) 0 0 (σ 31 (r * 12 + a).toNatClampNeg)) (h2 : υ = τ ∧ y = pst (noM τ a r) 0 0 (τ 50 (12 * r + a).toNatClampNeg)) : x = y ∧ INVE υ := by
  obtain ⟨e1, h1⟩ := h1
  obtain ⟨e2, h2⟩ := h2
  rw [e1] at h2
  refine ⟨?_, by rw [e2, e1]; exact h⟩
  rw [h1, h2, ← h.has.1]
  cases q : hasP σ a r with
  | false => exact (pst_bad rfl).trans (pst_bad rfl).symm
  | true =>
    obtain ⟨i, j, n, R, W, p, src, mk, len, lk, pa, up, ld, A, ei, ej, hi, hj, hR, hn, hr⟩ := h.at q
    rw [ei, ej, zi12, zi12', nI_clamp (by omega), nI_clamp (by omega), hr.2.2.2.2.2.2.2.2 j i hj hi]
theorem w_P_letter5 (G : zG) (σ : zSt) (v w : Int32) (h : INVE σ) : zI G 1 M_P_letter [zf G 0, .int v, .int w] σ (fun x τ => τ = σ ∧ x = lett (decide (σ 0 1 = 0)) (σ 5 0) v w (σ 19 v.toNatClampNeg) (σ 20 v.toNatClampNeg) (σ 21 v.toNatClampNeg) (σ 22 v.toNatClampNeg) (σ 23 v.toNatClampNeg)) := s_P_letter5 G σ v w (fun q => by
  obtain ⟨n, R, W, p, src, mk, len, lk, pa, up, ld, A, hr⟩ := h.2.2 q
  exact ⟨_, hr.2.2.2.1.2.1.1⟩)
theorem w_Mo_letter5 (G : zG) (σ : zSt) (v w : Int32) (h : INVE σ) : zI G 0 M_Mo_letter [zf G 32, .int v, .int w] σ (fun x τ => τ = σ ∧ x = lett (decide (σ 32 4 = 0)) (σ 32 27) v w (σ 51 (5 * v.toNatClampNeg)) (σ 51 (5 * v.toNatClampNeg + 1)) (σ 51 (5 * v.toNatClampNeg + 2)) (σ 51 (5 * v.toNatClampNeg + 3)) (σ 51 (5 * v.toNatClampNeg + 4))) := s_Mo_letter5 G σ v w (fun q => by
  obtain ⟨n, R, W, p, src, mk, len, lk, pa, up, ld, A, hr⟩ := h.2.2 (fun z => q (h.2.1.mp z))
  exact ⟨_, hr.2.2.2.2.1.2.1.1⟩)
theorem lett_same {off : Bool} {len v w c0 c1 c2 c3 c4 d0 d1 d2 d3 d4 : Int32} (h : off = true ∨ v < 0 ∨ len ≤ v) : lett off len v w c0 c1 c2 c3 c4 = lett off len v w d0 d1 d2 d3 d4 := by
  have h' : off = true ∨ v < 0 ∨ len ≤ v ∨ w.toInt < 0 ∨ 4 < w.toInt := by
    rcases h with h | h | h
    · exact Or.inl h
    · exact Or.inr (Or.inl h)
    · exact Or.inr (Or.inr (Or.inl h))
  rw [lett_bad h', lett_bad h']
theorem INVE.letter {v w x y : Int32} (h : INVE σ) (h1 : τ = σ ∧ x = lett (decide (σ 0 1 = 0)) (σ 5 0) v w (σ 19 v.toNatClampNeg) (σ 20 v.toNatClampNeg) (σ 21 v.toNatClampNeg) (σ 22 v.toNatClampNeg) (σ 23 v.toNatClampNeg)) (h2 : υ = τ ∧ y = lett (decide (τ 32 4 = 0)) (τ 32 27) v w (τ 51 (5 * v.toNatClampNeg)) (τ 51 (5 * v.toNatClampNeg + 1)) (τ 51 (5 * v.toNatClampNeg + 2)) (τ 51 (5 * v.toNatClampNeg + 3)) (τ 51 (5 * v.toNatClampNeg + 4))) : x = y ∧ INVE υ := by
  obtain ⟨e1, h1⟩ := h1
  obtain ⟨e2, h2⟩ := h2
  rw [e1] at h2
  refine ⟨?_, by rw [e2, e1]; exact h⟩
  rw [h1, h2, h.off]
  by_cases hs : σ 0 1 = 0
  · rw [lett_bad (Or.inl (decide_eq_true hs)), lett_bad (Or.inl (decide_eq_true hs))]
  obtain ⟨n, R, W, p, src, mk, len, lk, pa, up, ld, A, hr⟩ := h.2.2 hs
  obtain ⟨p1, p2, p3⟩ := hr.2.2.2.1.2.1.1
  obtain ⟨m1, m2, m3⟩ := hr.2.2.2.2.1.2.1.1
  rw [p1, m1]
  rcases pk_ix v (n := (aL A).length) (by omega) with q | q | ⟨i, hi, ei⟩
  · exact lett_same (Or.inr (Or.inl q))
  · exact lett_same (Or.inr (Or.inr q))
  · have ci : v.toNatClampNeg = i := by rw [ei]; exact nI_clamp (by omega)
    have e := Option.some.inj ((p3 i hi).symm.trans (m3 i hi))
    have q0 : σ 19 i = σ 51 (5 * i) := congrArg Prod.fst e
    have q1 : σ 20 i = σ 51 (5 * i + 1) := congrArg (fun z : Lt => z.2.1) e
    have q2 : σ 21 i = σ 51 (5 * i + 2) := congrArg (fun z : Lt => z.2.2.1) e
    have q3 : σ 22 i = σ 51 (5 * i + 3) := congrArg (fun z : Lt => z.2.2.2.1) e
    have q4 : σ 23 i = σ 51 (5 * i + 4) := congrArg (fun z : Lt => z.2.2.2.2) e
    rw [ci, q0, q1, q2, q3, q4]
theorem w_P_count5 (G : zG) (σ : zSt) (w : Int32) (h : INVE σ) : zI G 3 M_P_count [zf G 0, .int w] σ (fun x τ => τ = σ ∧ x = cntW (decide (σ 0 1 = 0)) w (σ 2 0) (σ 2 1) (σ 5 0) (σ 1 6) (σ 1 7) (lstI (σ 24) (σ 1 5) (nT σ)) (gstI (σ 24) (nT σ)) (if σ 5 0 = 0 ∧ lstI (σ 24) (σ 1 5) (nT σ) = σ 1 5 then 1 else 0) (σ 3 0) (σ 3 1)) := s_P_count5 G σ (nT σ) w h.1.nn.1 h.1.nn.2.2.2
theorem w_Mo_count5 (G : zG) (σ : zSt) (w : Int32) (h : INVE σ) : zI G 0 M_Mo_count [zf G 32, .int w] σ (fun x τ => τ = σ ∧ x = cntW (decide (σ 32 4 = 0)) w (σ 32 0) (σ 32 1) (σ 32 27) (σ 32 29) (σ 32 30) (lstI (σ 35) 99 (nT σ)) (gstI (σ 35) (nT σ)) (if σ 32 27 = 0 ∧ lstI (σ 35) 99 (nT σ) = σ 32 8 then 1 else 0) (σ 32 19) (σ 32 20)) := s_Mo_count5 G σ (nT σ) w h.1.nn.2.1 h.1.nn.2.2.2
theorem lstI_eq {f g : Nat → Int32} {k l : Int32} (h0 : f 0 ≤ k ∧ f 0 ≤ l) : ∀ n, (∀ a, a < n + 1 → f a = g a) → lstI f k (n + 1) = lstI g l (n + 1) := by
  intro n
  induction n with
  | zero =>
    intro h
    have e := h 0 (by omega)
    show (if f 0 < k then f 0 else k) = if g 0 < l then g 0 else l
    rw [← e]
    have one : ∀ m : Int32, f 0 ≤ m → (if f 0 < m then f 0 else m) = f 0 := fun m hm => by
      by_cases q : f 0 < m
      · rw [if_pos q]
      · rw [if_neg q]; exact Int32.le_antisymm (Int32.not_lt.mp q) hm
    rw [one k h0.1, one l h0.2]
  | succ n ih =>
    intro h
    have e := h (n + 1) (by omega)
    have i := ih (fun a ha => h a (by omega))
    show (if f (n + 1) < lstI f k (n + 1) then f (n + 1) else lstI f k (n + 1)) = if g (n + 1) < lstI g l (n + 1) then g (n + 1) else lstI g l (n + 1)
    rw [e, i]
theorem gstI_eq {f g : Nat → Int32} : ∀ n, (∀ a, a < n → f a = g a) → gstI f n = gstI g n := by
  intro n
  induction n with
  | zero => intro _; rfl
  | succ n ih =>
    intro h
    show (if gstI f n < f n then f n else gstI f n) = if gstI g n < g n then g n else gstI g n
    rw [h n (by omega), ih (fun a ha => h a (by omega))]
theorem INVE.count {w x y : Int32} (h : INVE σ) (h1 : τ = σ ∧ x = cntW (decide (σ 0 1 = 0)) w (σ 2 0) (σ 2 1) (σ 5 0) (σ 1 6) (σ 1 7) (lstI (σ 24) (σ 1 5) (nT σ)) (gstI (σ 24) (nT σ)) (if σ 5 0 = 0 ∧ lstI (σ 24) (σ 1 5) (nT σ) = σ 1 5 then 1 else 0) (σ 3 0) (σ 3 1)) (h2 : υ = τ ∧ y = cntW (decide (τ 32 4 = 0)) w (τ 32 0) (τ 32 1) (τ 32 27) (τ 32 29) (τ 32 30) (lstI (τ 35) 99 (nT τ)) (gstI (τ 35) (nT τ)) (if τ 32 27 = 0 ∧ lstI (τ 35) 99 (nT τ) = τ 32 8 then 1 else 0) (τ 32 19) (τ 32 20)) : x = y ∧ INVE υ := by
  obtain ⟨e1, h1⟩ := h1
  obtain ⟨e2, h2⟩ := h2
  rw [e1] at h2
  refine ⟨?_, by rw [e2, e1]; exact h⟩
  have hN := h.1
  rw [h1, h2, h.off, hN.2.1.1, hN.2.1.2.1]
  by_cases hs : σ 0 1 = 0
  · rw [decide_eq_true hs]; exact cntW_same
  obtain ⟨n, R, W, p, src, mk, len, lk, pa, up, ld, A, hr⟩ := h.2.2 hs
  have hn1 : 1 ≤ n := hr.1.1.2.1
  have hR : R ≤ 20 := hr.1.1.2.2.2.2.2.1
  have g : ∀ a, a < n → σ 24 a = σ 35 a := fun a ha => by rw [(hr.rd ha).1, (hr.rd ha).2.1]
  have l : lstI (σ 24) (σ 1 5) n = lstI (σ 35) 99 n := by
    obtain ⟨m, em⟩ : ∃ m, n = m + 1 := ⟨n - 1, by omega⟩
    have t := hr.rd (a := 0) (by omega)
    rw [em]
    refine lstI_eq ⟨?_, ?_⟩ m (fun a ha => g a (by omega))
    · rw [t.1, hr.1.1.2.2.2.1]
      exact i32_le.mpr (by rw [nI_toInt (by omega), nI_toInt (by omega)]; omega)
    · rw [t.1, show (99 : Int32) = nI 99 from rfl]
      exact i32_le.mpr (by rw [nI_toInt (by omega), nI_toInt (by omega)]; omega)
  have q : gstI (σ 24) n = gstI (σ 35) n := gstI_eq n g
  have e5 : σ 1 5 = σ 32 8 := by rw [hr.1.1.2.2.2.1, hr.2.1.1.2.2.2.1]
  rw [← hr.nq hN, l, q, e5, hr.2.2.2.1.2.1.1.1, hr.2.2.2.2.1.2.1.1.1, hr.2.2.2.1.2.1.2.1, hr.2.2.2.1.2.1.2.2, hr.2.2.2.2.1.2.1.2.1, hr.2.2.2.2.1.2.1.2.2, hr.2.2.2.2.2.2.2.1.1, hr.2.2.2.2.2.2.2.1.2]
theorem dA_eq {P Q : Nat → Nat → Bool} {rd : Nat → Nat} : ∀ n, (∀ a r, a < n → r ≤ rd a → P r a = Q r a) → dA P rd n = dA Q rd n := by
  intro n
  induction n with
  | zero => intro _; rfl
  | succ n ih =>
    intro h
    have row : ∀ k, k ≤ rd n + 1 → dR P n k = dR Q n k := by
      intro k
      induction k with
      | zero => intro _; rfl
      | succ k ik =>
        intro hk
        rw [dR_s, dR_s, ik (by omega), h n k (by omega) (by omega)]
    show dA P rd n + dR P n (rd n + 1) = dA Q rd n + dR Q n (rd n + 1)
    rw [ih (fun a r ha hr => h a r (by omega) hr), row _ (Nat.le_refl _)]
abbrev rdC (σ : zSt) : Nat → Nat := fun a => (σ 35 a).toNatClampNeg
theorem w_P_differ5 (G : zG) (σ : zSt) (h : INVE σ) : zI G 2 M_P_differ [zf G 0] σ (fun x τ => τ = σ ∧ x = if σ 0 1 = 0 then -1 else nI (dA (fun r a => decide (σ 30 (r * 12 + a) = σ 31 (r * 12 + a))) (rdC σ) (nT σ))) := s_P_differ5 G σ (nT σ) (rdC σ) h.1.nn.1 h.1.nn.2.2.2 (fun hs a ha => by
  obtain ⟨n, R, W, p, src, mk, len, lk, pa, up, ld, A, hr⟩ := h.2.2 hs
  rw [← hr.nq h.1] at ha
  obtain ⟨t1, t2, t3, t4⟩ := hr.rd ha
  have hR : R ≤ 20 := hr.1.1.2.2.2.2.2.1
  have e : rdC σ a = rdP (aS A) a := by show (σ 35 a).toNatClampNeg = _; rw [t2]; exact nI_clamp (by omega)
  rw [e]; exact ⟨t1, by omega⟩)
theorem w_Mo_differ5 (G : zG) (σ : zSt) (h : INVE σ) : zI G 0 M_Mo_differ [zf G 32] σ (fun x τ => τ = σ ∧ x = if σ 32 4 = 0 then -1 else nI (dA (fun r a => decide (σ 49 (12 * r + a) = σ 50 (12 * r + a))) (rdC σ) (nT σ))) := s_Mo_differ5 G σ (nT σ) (rdC σ) h.1.nn.2.1 h.1.nn.2.2.1 h.1.nn.2.2.2 (fun hs a ha => by
  obtain ⟨n, R, W, p, src, mk, len, lk, pa, up, ld, A, hr⟩ := h.2.2 (fun z => hs (h.2.1.mp z))
  rw [← hr.nq h.1] at ha
  obtain ⟨t1, t2, t3, t4⟩ := hr.rd ha
  have hR : R ≤ 20 := hr.1.1.2.2.2.2.2.1
  have e : rdC σ a = rdP (aS A) a := by show (σ 35 a).toNatClampNeg = _; rw [t2]; exact nI_clamp (by omega)
  rw [e]; exact ⟨t2, by omega⟩)
theorem INVE.differ {x y : Int32} (h : INVE σ) (h1 : τ = σ ∧ x = if σ 0 1 = 0 then -1 else nI (dA (fun r a => decide (σ 30 (r * 12 + a) = σ 31 (r * 12 + a))) (rdC σ) (nT σ))) (h2 : υ = τ ∧ y = if τ 32 4 = 0 then -1 else nI (dA (fun r a => decide (τ 49 (12 * r + a) = τ 50 (12 * r + a))) (rdC τ) (nT τ))) : x = y ∧ INVE υ := by
  obtain ⟨e1, h1⟩ := h1
  obtain ⟨e2, h2⟩ := h2
  rw [e1] at h2
  refine ⟨?_, by rw [e2, e1]; exact h⟩
  rw [h1, h2]
  by_cases hs : σ 0 1 = 0
  · rw [if_pos hs, if_pos (h.2.1.mp hs)]
  rw [if_neg hs, if_neg (fun z => hs (h.2.1.mpr z))]
  obtain ⟨n, R, W, p, src, mk, len, lk, pa, up, ld, A, hr⟩ := h.2.2 hs
  have hR : R ≤ 20 := hr.1.1.2.2.2.2.2.1
  rw [← hr.nq h.1]
  congr 1
  refine dA_eq n (fun a r ha hra => ?_)
  obtain ⟨t1, t2, t3, t4⟩ := hr.rd ha
  have e : rdC σ a = rdP (aS A) a := by show (σ 35 a).toNatClampNeg = _; rw [t2]; exact nI_clamp (by omega)
  rw [e] at hra
  rw [hr.2.2.2.1.2.2.2.1 r a hra ha, hr.2.2.2.2.1.2.2.2.1 r a hra ha, hr.2.2.2.2.2.2.2.2 r a (by omega) ha]
end INVES
