section
-- The reference's start is the pure machine's
/-- the flags before the first round: what lies beyond the nodes stays -/
def S00 (σ : zSt) (n : Nat) : PS := (fun a => if a < n then 0 else (σ 35 a).toNatClampNeg, fun a => (σ 36 a).toInt, fun a => decide (¬ σ 37 a = 0), fun a => decide (¬ σ 38 a = 0), fun a => decide (¬ σ 39 a = 0), fun a => decide (¬ σ 40 a = 0))
theorem S00_rd {σ : zSt} {n c : Nat} (h : c < n) : rdP (S00 σ n) c = 0 := if_pos h
theorem psS_S00 {σ τ : zSt} {n : Nat} (h35 : ∀ a, τ 35 a = if a < n then 0 else σ 35 a) (e36 : τ 36 = σ 36) (e37 : τ 37 = σ 37) (e38 : τ 38 = σ 38) (e39 : τ 39 = σ 39) (e40 : τ 40 = σ 40) : psS τ = S00 σ n := by
  have e : (fun a => (τ 35 a).toNatClampNeg) = fun a => if a < n then 0 else (σ 35 a).toNatClampNeg := by
    funext a
    rw [h35 a]
    by_cases q : a < n
    · rw [if_pos q, if_pos q]; decide
    · rw [if_neg q, if_neg q]
  unfold psS S00
  rw [e, e36, e37, e38, e39, e40]
theorem S00_eq {σ τ : zSt} {n : Nat} (e : ∀ c, 32 ≤ c → τ c = σ c) : S00 τ n = S00 σ n := by
  unfold S00
  rw [e 35 (by decide), e 36 (by decide), e 37 (by decide), e 38 (by decide), e 39 (by decide), e 40 (by decide)]
/-- the reference's frame -/
def MFr (σ : zSt) (W n src : Nat) (lk : Nat → Nat → Bool) (k : Int32) : Prop :=
  (∀ c, c < n → σ 42 c = nI (ldF W n src lk k c) ∧ σ 41 c = encU (upF W n src lk k c)) ∧ (¬ W = 0 → ∀ a b, a < n → b < n → paF W n lk k a b = decide (¬ σ 44 (12 * a + b) = 0)) ∧ σ 32 19 = nI (clN W n lk k) ∧ σ 32 20 = nI (chN W n lk k)
theorem MFr.of {σ τ : zSt} {W n src : Nat} {lk : Nat → Nat → Bool} {k : Int32} (h : MFr σ W n src lk k) (e41 : τ 41 = σ 41) (e42 : τ 42 = σ 42) (e44 : τ 44 = σ 44) (e19 : τ 32 19 = σ 32 19) (e20 : τ 32 20 = σ 32 20) : MFr τ W n src lk k := by
  unfold MFr at h ⊢
  rw [e41, e42, e44, e19, e20]; exact h
theorem MFr.up {σ : zSt} {W n src : Nat} {lk : Nat → Nat → Bool} {k : Int32} (hn : n ≤ 12) (h : MFr σ W n src lk k) : UO σ n ∧ ∀ c, c < n → upS σ c = upF W n src lk k c := by
  refine ⟨fun a ha => ?_, fun c hc => ?_⟩
  · cases hu : upF W n src lk k a with
    | none => exact Or.inl (by rw [(h.1 a ha).2, hu]; rfl)
    | some u =>
      obtain ⟨h1, h2, _⟩ := upF_ok hn ha hu
      exact Or.inr ⟨u, h1, h2, by rw [(h.1 a ha).2, hu]; rfl⟩
  · cases hu : upF W n src lk k c with
    | none => unfold upS; rw [(h.1 c hc).2, hu]; exact if_pos rfl
    | some u =>
      have h1 := (upF_ok hn hc hu).1
      exact upS_to (by omega) (by rw [(h.1 c hc).2, hu]; rfl)
def MSC (n : Nat) (mk : Nat → Int32) (len : Nat → Nat → Int32) (lk : Nat → Nat → Bool) (k : Int32) (S : PS) (pp R W j : Nat) (x : Int32) (τ : zSt) : Prop :=
  MT τ n R W pp (nI j) mk len lk (paF W n lk k) (upF W n j lk k) ∧ MA τ n (aStF n R W pp j mk len lk k S) ∧ x = nI (aL (aStF n R W pp j mk len lk k S)).length ∧ MFr τ W n j lk k ∧ ∀ q b, q ≤ R → b < n → τ 50 (12 * q + b) = (sV pp (nI j) n mk len lk q b).1
def MSE (σ : zSt) (n : Nat) (mk : Nat → Int32) (len : Nat → Nat → Int32) (lk : Nat → Nat → Bool) (C : Prop) (p w s k r x : Int32) (τ : zSt) : Prop :=
  (x = -1 ∧ τ = σ ∧ (SB0 (zNo σ s) p w k r ∨ ¬ C)) ∨ (¬ SB0 (zNo σ s) p w k r ∧ C ∧ MF FMo JMo σ τ ∧ τ 32 4 = 1 ∧ ∃ pp R W j, (p = nI pp ∧ pp ≤ 3) ∧ (r = nI R ∧ 1 ≤ R ∧ R ≤ 20) ∧ (w = nI W ∧ W ≤ 2) ∧ (s = nI j ∧ j < n) ∧ MSC n mk len lk k (S00 σ n) pp R W j x τ)
set_option maxHeartbeats 1000000 in
theorem s_Mo_start4 (G : zG) (σ : zSt) (n : Nat) (v1 v2 v3 v4 v5 : Int32) (mk : Nat → Int32) (len : Nat → Nat → Int32) (lk : Nat → Nat → Bool) (C : Prop) (hLM : LM σ) (hn : σ 32 0 = nI n) (h1n : 1 ≤ n) (hn12 : n ≤ 12) (hmk : ∀ a, a < 12 → σ 34 a = mk a) (hlen : ∀ a b, a < 12 → b < 12 → σ 33 (12 * b + a) = len a b) (hlk : ∀ a b, a < 12 → b < 12 → zLk σ (nI a) (nI b) = lk a b) (hsym : ∀ a b, a < n → b < n → lk a b = lk b a) (hirr : ∀ a, a < n → lk a a = false) (hC : ∀ x, SPR n lk x → (x = zAll (nI n) ↔ C)) : zI G 4 M_Mo_start [zf G 32, .int v1, .int v2, .int v3, .int v4, .int v5] σ (fun x τ => MSE σ n mk len lk C v1 v2 v3 v4 v5 x τ) := by
  refine zSpec.of (by decide) (Nat.le_of_ble_eq_true rfl) rfl (fun X E => ?_)
  have hM : MLB mk len := ⟨fun a ha => by rw [← hmk a ha]; exact hLM.2 a ha, fun a b ha hb => by rw [← hlen a b ha hb]; exact hLM.1 _ (by omega)⟩
  have bad : SB0 (zNo σ v3) v1 v2 v4 v5 ∨ ¬ C → ∃ x : Int32, some (Value.int (-1 : Int32)) = some (Value.int x) ∧ MSE σ n mk len lk C v1 v2 v3 v4 v5 x σ := fun hb => ⟨_, rfl, Or.inl ⟨rfl, rfl, hb⟩⟩
  -- the rounds begin
  have go : ∀ (υ : zSt) (R W pp j : Nat), (¬ SB0 (zNo σ v3) v1 v2 v4 v5 ∧ C ∧ (v1 = nI pp ∧ pp ≤ 3) ∧ (v5 = nI R ∧ 1 ≤ R ∧ R ≤ 20) ∧ (v2 = nI W ∧ W ≤ 2) ∧ (v3 = nI j ∧ j < n) ∧ FRA n W lk (paF W n lk v4) (upF W n j lk v4) (ldF W n j lk v4)) → υ 32 4 = 1 → (∀ q b, q ≤ R → b < n → υ 50 (12 * q + b) = (sV pp (nI j) n mk len lk q b).1) → MFr υ W n j lk v4 → MT υ n R W pp (nI j) mk len lk (paF W n lk v4) (upF W n j lk v4) → MA υ n (A0 pp (nI j) mk (S00 σ n)) → MF FMo JMo σ υ → zZ G M_Mo_start 4 X (fun r τ => ∃ x : Int32, r = some (.int x) ∧ MSE σ n mk len lk C v1 v2 v3 v4 v5 x τ) 302 [(0, zf G 32), (8, .int (0 : Int32))] [] υ := by
    intro υ R W pp j ⟨y1, y2, y3, ⟨y4, hR1, hR20⟩, ⟨y5, hW⟩, y6, hF⟩ h4 h50 hFr hT hA hFσ
    have qs := fun i (hi : i ≤ n) => QS_all (S := S00 σ n) (src := nI j) (p := pp) hn12 hR20 hR1 hW hF hM (fun c u hc hu => ⟨(upF_ok hn12 hc hu).1, (upF_ok hn12 hc hu).2.1⟩) (fun c hc => S00_rd hc) i hi
    refine z_for n (fun i τ => zZ G M_Mo_start 4 X (fun r τ => ∃ x : Int32, r = some (.int x) ∧ MSE σ n mk len lk C v1 v2 v3 v4 v5 x τ) 302 [(0, zf G 32), (8, .int (nI i))] [] τ) (fun i τ => MF FBeg [27, 29, 30] υ τ ∧ MA τ n (aSt n R W pp (nI j) mk len lk (paF W n lk v4) (upF W n j lk v4) (A0 pp (nI j) mk (S00 σ n)) i)) ?_ ?_ 0 υ (Nat.zero_le _) ⟨MF.rf, hA⟩
    · intro a τ ha ⟨k1, k2⟩ ih
      have hTτ : MT τ n R W pp (nI j) mk len lk (paF W n lk v4) (upF W n j lk v4) := hT.of k1 (by decide) (by decide)
      have nτ : τ 32 0 = nI n := hTτ.1.1
      have hq := qs a (by omega)
      have hB := hq.bg hR1 hn12 ha
      obtain ⟨hQ, _, q3, q4⟩ := hq
      obtain ⟨ra, va⟩ := q3 a (Nat.le_refl _) ha
      have l528 := hQ.le528 hn12 hR20 hR1 hF
      have r1 : rdP (aS (aBeg n pp (nI j) mk len lk (upF W n j lk v4) (aSt n R W pp (nI j) mk len lk (paF W n lk v4) (upF W n j lk v4) (A0 pp (nI j) mk (S00 σ n)) a) a)) a = 1 := by
        show fup (rdP (aS (aSt n R W pp (nI j) mk len lk (paF W n lk v4) (upF W n j lk v4) (A0 pp (nI j) mk (S00 σ n)) a))) a (rdP (aS (aSt n R W pp (nI j) mk len lk (paF W n lk v4) (upF W n j lk v4) (A0 pp (nI j) mk (S00 σ n)) a)) a + 1) a = 1
        rw [fup_s, ra]
      refine b_Mo_start_302 E (nI a) τ ⟨fun q => absurd q (by rw [nτ]; exact nI_ge ha (by omega)), fun _ => ⟨_, s_Mo_beginRound2 G τ a 1 hTτ k2 hQ.1.2.2 ha (by omega) hR1 (by omega) (fun _ => va), fun σ1 ⟨m1, m2⟩ => ⟨_, s_Mo_goOn2 G σ1 a (hTτ.of m1 (by decide) (by decide)) hF ha R m2 (hQ.beg hn12 hR20 hM ha hB) (by omega) (by omega), fun σ2 ⟨m3, m4⟩ => ?_⟩⟩⟩
      rw [nI_1]
      exact ih σ2 ⟨(k1.tr m1).tr m3, m4⟩
    · intro τ ⟨k1, k2⟩
      have hTτ : MT τ n R W pp (nI j) mk len lk (paF W n lk v4) (upF W n j lk v4) := hT.of k1 (by decide) (by decide)
      have nτ : τ 32 0 = nI n := hTτ.1.1
      refine b_Mo_start_302 E (nI n) τ ⟨fun _ => ⟨_, rfl, Or.inr ⟨y1, y2, hFσ.tr (k1.mono (by decide) (by decide)), by rw [k1.2 4 (by decide)]; exact h4, pp, R, W, j, y3, ⟨y4, hR1, hR20⟩, ⟨y5, hW⟩, y6, hTτ, k2, k2.2.1.1.1, ?_, fun q b hq hb => by rw [k1.at (by decide)]; exact h50 q b hq hb⟩⟩, fun q => absurd (by rw [nτ]; exact nI_le (Nat.le_refl n) (by omega)) q⟩
      exact hFr.of (k1.at (by decide)) (k1.at (by decide)) (k1.at (by decide)) (k1.2 19 (by decide)) (k1.2 20 (by decide))
  -- the nodes are set
  have set : ∀ (υ : zSt) (R W pp j : Nat), (¬ SB0 (zNo σ v3) v1 v2 v4 v5 ∧ C ∧ (v1 = nI pp ∧ pp ≤ 3) ∧ (v5 = nI R ∧ 1 ≤ R ∧ R ≤ 20) ∧ (v2 = nI W ∧ W ≤ 2) ∧ (v3 = nI j ∧ j < n) ∧ FRA n W lk (paF W n lk v4) (upF W n j lk v4) (ldF W n j lk v4)) → (υ 32 4 = 1 ∧ υ 32 5 = nI pp ∧ υ 32 7 = nI j ∧ υ 32 8 = nI R ∧ υ 32 6 = nI W ∧ υ 32 0 = nI n ∧ υ 32 27 = 0 ∧ υ 32 29 = 0 ∧ υ 32 30 = 0 ∧ υ 32 19 = 1 ∧ υ 32 20 = 0) → MF [44, 45] JMo σ υ → (∀ i, i < 12672 → υ 45 i = 0) → (∀ i, i < 144 → υ 44 i = 0) → zZ G M_Mo_start 4 X (fun r τ => ∃ x : Int32, r = some (.int x) ∧ MSE σ n mk len lk C v1 v2 v3 v4 v5 x τ) 197 [(0, zf G 32), (4, .int v4), (7, .int (zAll (nI n))), (8, .int (0 : Int32))] [] υ := by
    intro υ R W pp j hy ⟨h4, h5, h7, h8, h6, h0, h27, h29, h30, h19, h20⟩ hFσ h45 h44
    have hp3 : pp ≤ 3 := hy.2.2.1.2
    have hR1 : 1 ≤ R := hy.2.2.2.1.2.1
    have hR20 : R ≤ 20 := hy.2.2.2.1.2.2
    have hW2 : W ≤ 2 := hy.2.2.2.2.1.2
    have hjn : j < n := hy.2.2.2.2.2.1.2
    refine z_for n (fun i τ => zZ G M_Mo_start 4 X (fun r τ => ∃ x : Int32, r = some (.int x) ∧ MSE σ n mk len lk C v1 v2 v3 v4 v5 x τ) 197 [(0, zf G 32), (4, .int v4), (7, .int (zAll (nI n))), (8, .int (nI i))] [] τ) (fun i τ => zFr [35, 41, 42, 47, 48, 49] υ τ ∧ (∀ a, a < i → τ 41 a = -2 ∧ τ 42 a = nI a ∧ τ 47 a = first0 pp (decide (nI a = nI j)) (mk a) ∧ τ 48 a = -2 ∧ τ 49 a = first0 pp (decide (nI a = nI j)) (mk a)) ∧ ∀ a, τ 35 a = if a < i then 0 else σ 35 a) ?_ ?_ 0 υ (Nat.zero_le _) ⟨zFr.rf, fun a ha => absurd ha (Nat.not_lt_zero a), fun a => by rw [if_neg (Nat.not_lt_zero a), hFσ.at (by decide)]⟩
    · intro a τ ha ⟨g1, g2, g3⟩ ih
      have nτ : τ 32 0 = nI n := by rw [g1 32 (by decide)]; exact h0
      have ia : vp_in (nI a) 12 := vp_in_nI (by omega) (by decide)
      have ca : (nI a).toNatClampNeg = a := nI_clamp (by omega)
      refine b_Mo_start_197 E v4 (zAll (nI n)) (nI a) τ ⟨fun q => absurd q (by rw [nτ]; exact nI_ge ha (by omega)), fun _ => ⟨ia, fun σ6 e6 => ⟨ia, fun σ7 e7 => ?_⟩⟩⟩
      have f7 : zFr [35, 41, 42, 47, 48, 49] υ σ7 := by rw [e7, e6]; exact (g1.up (by decide)).up (by decide)
      refine ⟨_, s_Mo_first2 G σ7 a a pp (by omega) (by omega) (by rw [f7 32 (by decide)]; exact h5) hp3, fun σ8 ⟨k1, k2, k3⟩ => ⟨vp_in_nI (by omega) (by decide), vp_in_nI (by omega) (by decide), fun σ9 e9 => ⟨ia, fun σ10 e10 => ?_⟩⟩⟩
      rw [nI_1]
      rw [ca] at e6 e7 e9 e10
      rw [f7 32 (by decide), h7, f7 34 (by decide), hFσ.at (c := 34) (by decide), hmk a (by omega)] at k2
      have x41 : σ10 41 = upd (τ 41) a (-2) := by rw [e10, zup_ne (by decide), e9, zup_ne (by decide), k1 41 (by decide), e7, zup_ne (by decide), e6, zup_self]
      have x42 : σ10 42 = upd (τ 42) a (nI a) := by rw [e10, zup_ne (by decide), e9, zup_ne (by decide), k1 42 (by decide), e7, zup_self, e6, zup_ne (by decide)]
      have x35 : σ10 35 = upd (τ 35) a 0 := by rw [e10, zup_self, e9, zup_ne (by decide), k1 35 (by decide), e7, zup_ne (by decide), e6, zup_ne (by decide)]
      have x47 : σ10 47 = upd (τ 47) a (first0 pp (decide (nI a = nI j)) (mk a)) := by rw [e10, zup_ne (by decide), e9, zup_ne (by decide), k2, e7, zup_ne (by decide), e6, zup_ne (by decide)]
      have x48 : σ10 48 = upd (τ 48) a (-2) := by rw [e10, zup_ne (by decide), e9, zup_ne (by decide), k3, e7, zup_ne (by decide), e6, zup_ne (by decide)]
      have x49 : σ10 49 = upd (τ 49) a (first0 pp (decide (nI a = nI j)) (mk a)) := by rw [e10, zup_ne (by decide), e9, zup_self, k2, upd_eq, k1 49 (by decide), e7, zup_ne (by decide), e6, zup_ne (by decide)]
      refine ih σ10 ⟨by rw [e10, e9]; exact ((f7.tr (k1.mono (by decide))).up (by decide)).up (by decide), fun b hb => ?_, fun b => ?_⟩
      · rw [x41, x42, x47, x48, x49]
        by_cases hba : b = a
        · rw [hba, upd_eq, upd_eq, upd_eq, upd_eq, upd_eq]; exact ⟨rfl, rfl, rfl, rfl, rfl⟩
        · rw [upd_ne hba, upd_ne hba, upd_ne hba, upd_ne hba, upd_ne hba]; exact g2 b (by omega)
      · rw [x35]
        by_cases hba : b = a
        · rw [hba, upd_eq, if_pos (show a < a + 1 by omega)]
        · rw [upd_ne hba, g3 b]
          by_cases q : b < a
          · rw [if_pos q, if_pos (show b < a + 1 by omega)]
          · rw [if_neg q, if_neg (show ¬ b < a + 1 by omega)]
    · intro τ ⟨g1, g2, g3⟩
      have e32 : τ 32 = υ 32 := g1 32 (by decide)
      have nτ : τ 32 0 = nI n := by rw [e32]; exact h0
      have wτ : τ 32 6 = nI W := by rw [e32]; exact h6
      have fτ : MF FMo JMo σ τ := (hFσ.mono (by decide) (by decide)).tr ((MF.of (J := JMo) g1 (by decide)).mono (by decide) (fun _ h => h))
      have lkτ : ∀ a b, a < 12 → b < 12 → zLk τ (nI a) (nI b) = lk a b := fun a b ha hb => by rw [← hlk a b ha hb]; unfold zLk; rw [fτ.at (c := 33) (by decide)]
      -- behind the trees
      have last : ∀ ρ : zSt, MF [41, 42, 43, 44] [19, 20] τ ρ → MFr ρ W n j lk v4 → ∃ P : zSt → Prop, zV G 2 M_Mo_step [zf G 32] ρ P ∧ ∀ σ1 : zSt, P σ1 → zZ G M_Mo_start 4 X (fun r τ => ∃ x : Int32, r = some (.int x) ∧ MSE σ n mk len lk C v1 v2 v3 v4 v5 x τ) 302 [(0, zf G 32), (8, .int (0 : Int32))] [] σ1 := by
        intro ρ k1 k2
        have fρ : MF FMo JMo σ ρ := fτ.tr (k1.mono (by decide) (by decide))
        have lm : LM ρ := hLM.of (fρ.at (by decide)) (fρ.at (by decide))
        have n0 : ρ 32 0 = nI n := by rw [k1.2 0 (by decide)]; exact nτ
        have n8 : ρ 32 8 = nI R := by rw [k1.2 8 (by decide), e32]; exact h8
        have n6 : ρ 32 6 = nI W := by rw [k1.2 6 (by decide)]; exact wτ
        have n5 : ρ 32 5 = nI pp := by rw [k1.2 5 (by decide), e32]; exact h5
        have n7 : ρ 32 7 = nI j := by rw [k1.2 7 (by decide), e32]; exact h7
        have n4 : ρ 32 4 = 1 := by rw [k1.2 4 (by decide), e32]; exact h4
        have lkρ : ∀ a b, a < 12 → b < 12 → zLk ρ (nI a) (nI b) = lk a b := fun a b ha hb => by rw [← hlk a b ha hb]; unfold zLk; rw [fρ.at (c := 33) (by decide)]
        refine ⟨_, s_Mo_step2 G ρ n R pp mk len lk n0 hn12 n8 hR20 n5 hp3 lm (fun a ha => by rw [fρ.at (by decide)]; exact hmk a ha) (fun a b ha hb => by rw [fρ.at (by decide)]; exact hlen a b ha hb) lkρ, fun σ1 ⟨⟨m1, m2⟩, m50⟩ => ?_⟩
        rw [n7] at m50
        have q32 : σ1 32 = ρ 32 := m1 32 (by decide)
        have f1 : MFr σ1 W n j lk v4 := k2.of (m1 41 (by decide)) (m1 42 (by decide)) (m1 44 (by decide)) (by rw [q32]) (by rw [q32])
        obtain ⟨u1, u2⟩ := f1.up hn12
        have e1ρ : ∀ c, c ≠ 32 → c ∉ [41, 42, 43, 44] → c ∉ FStep → σ1 c = τ c := fun c c0 c1 c2 => by
          rw [m1 c c2]
          exact k1.at (fun q => by
            rcases List.mem_cons.mp q with e | e
            · exact c0 e
            · exact c1 e)
        refine go σ1 R W pp j hy (by rw [q32]; exact n4) m50 f1 ?_ ?_ (fρ.tr ((MF.of (J := JMo) m1 (by decide)).mono (by decide) (fun _ h => h)))
        · refine ⟨⟨by rw [q32]; exact n0, h1n, hn12, by rw [q32]; exact n8, hR1, hR20, by rw [q32]; exact n6, hW2, u1, lm.of (m1 33 (by decide)) (m1 34 (by decide))⟩, ⟨by rw [q32]; exact n5, hp3, by rw [q32]; exact n7⟩, fun a ha => ?_, fun a b ha hb => ?_, fun a b ha hb => ?_, u2, fun w0 => ⟨fun a b _ _ => ?_, fun c _ => ?_⟩, f1.2.1⟩
          · rw [m1 34 (by decide), fρ.at (by decide)]; exact hmk a ha
          · rw [m1 33 (by decide), fρ.at (by decide)]; exact hlen a b ha hb
          · rw [← lkρ a b (by omega) (by omega)]; unfold zLk; rw [m1 33 (by decide)]
          · unfold paF; rw [if_pos w0]
          · unfold upF; rw [if_pos w0]
        · have z35 : ∀ a, σ1 35 a = if a < n then 0 else σ 35 a := fun a => by rw [e1ρ 35 (by decide) (by decide) (by decide)]; exact g3 a
          have z : ∀ c, c ≠ 32 → c ∉ [41, 42, 43, 44] → c ∉ FStep → c ∉ [35, 41, 42, 47, 48, 49] → c ∉ [44, 45] → σ1 c = σ c := fun c c0 c1 c2 c3 c4 => by
            rw [e1ρ c c0 c1 c2, g1 c c3]
            exact hFσ.at (fun q => by
              rcases List.mem_cons.mp q with e | e
              · exact c0 e
              · exact c4 e)
          refine ⟨⟨psS_S00 z35 (z 36 (by decide) (by decide) (by decide) (by decide) (by decide)) (z 37 (by decide) (by decide) (by decide) (by decide) (by decide)) (z 38 (by decide) (by decide) (by decide) (by decide) (by decide)) (z 39 (by decide) (by decide) (by decide) (by decide) (by decide)) (z 40 (by decide) (by decide) (by decide) (by decide) (by decide)), fun a ha => ?_⟩, ⟨⟨?_, Nat.zero_le _, fun i hi => absurd hi (Nat.not_lt_zero i)⟩, ?_, ?_⟩, fun a ha => ?_, fun r a hr ha => ?_, fun w a b q hw ha hb hq => ?_, fun a b q ha hb hq hc => ?_⟩
          · show σ1 35 a = nI (rdP (S00 σ n) a)
            rw [S00_rd ha, z35 a, if_pos ha]; rfl
          · rw [q32, k1.2 27 (by decide), e32, h27]; rfl
          · rw [q32, k1.2 29 (by decide), e32]; exact h29
          · rw [q32, k1.2 30 (by decide), e32]; exact h30
          · obtain ⟨p1, p2⟩ := m2 a (by omega)
            rw [p1, p2, k1.at (c := 47) (by decide), k1.at (c := 48) (by decide)]
            exact ⟨(g2 a ha).2.2.1, (g2 a ha).2.2.2.1⟩
          · have hr : r ≤ rdP (S00 σ n) a := hr
            rw [S00_rd ha] at hr
            have e : r = 0 := by omega
            rw [e, Nat.mul_zero, Nat.zero_add, e1ρ 49 (by decide) (by decide) (by decide)]
            exact (g2 a ha).2.2.2.2
          · show false = decide (¬ σ1 45 (pl w a b q) = 0)
            rw [e1ρ 45 (by decide) (by decide) (by decide), g1 45 (by decide), h45 _ (pl_lt hw (by omega) (by omega) hq)]
            rfl
          · exact absurd hc (by simp [A0])
      refine b_Mo_start_197 E v4 (zAll (nI n)) (nI n) τ ⟨fun _ => ⟨fun hw1 => ⟨fun hw2 => ?_, fun hw2 => ?_⟩, fun hw1 => ?_⟩, fun q => absurd (by rw [nτ]; exact nI_le (Nat.le_refl n) (by omega)) q⟩
      · -- each node alone
        rw [wτ] at hw1 hw2
        have w0 : W = 0 := by
          rcases Nat.lt_or_ge W 1 with q | q
          · omega
          · rcases Nat.lt_or_ge W 2 with q2 | q2
            · exact absurd (by rw [show W = 1 by omega]; rfl) hw1
            · exact absurd (by rw [show W = 2 by omega]; rfl) hw2
        refine last τ MF.rf ⟨fun c hc => ?_, fun q => absurd w0 q, ?_, ?_⟩
        · unfold ldF upF
          rw [if_pos w0, if_pos w0]
          exact ⟨(g2 c hc).2.1, (g2 c hc).1⟩
        · unfold clN; rw [if_neg (by omega), e32]; exact h19
        · unfold chN; rw [if_neg (by omega), e32]; exact h20
      · -- clusters
        rw [wτ] at hw2
        have w2 : W = 2 := (nI_eq (a := W) (b := 2) (by omega) (by omega)).mp hw2
        have hk : ¬ (v4 < 2 ∨ 8 < v4) := fun q => hy.1 (Or.inr (Or.inr (Or.inr (Or.inr (Or.inr (Or.inr (Or.inr ⟨by rw [hy.2.2.2.2.1.1, w2]; rfl, q⟩)))))))
        have c1 : ¬ v4.toInt < 2 := fun q => hk (Or.inl (i32_lt.mpr (by rw [show (2 : Int32).toInt = 2 by decide]; exact q)))
        have c2 : ¬ 8 < v4.toInt := fun q => hk (Or.inr (i32_lt.mpr (by rw [show (8 : Int32).toInt = 8 by decide]; exact q)))
        have h44τ : ∀ i, i < 144 → τ 44 i = 0 := fun i hi => by rw [g1 44 (by decide)]; exact h44 i hi
        refine ⟨_, s_Mo_makeClusters2 G τ n v4.toInt.toNat v4 lk (i32_of (by omega) (by omega)) (by omega) (by omega) nτ hn12 (fun a b ha hb => lkτ a b (by omega) (by omega)) h44τ (by rw [e32]; exact h20), fun σ2 ⟨k1, k2, k3, k4, k5⟩ => last σ2 k1 ⟨fun c hc => ?_, fun _ a b ha hb => ?_, ?_, ?_⟩⟩
        · obtain ⟨l1, l2, l3⟩ := Ldr_ok (lk := lk) (k := v4) hn12 hc
          obtain ⟨q1, q2⟩ := k3 _ c l1 hc l2 l3
          unfold ldF upF
          rw [if_neg (by omega), if_neg (by omega), if_neg (by omega), if_neg (by omega)]
          exact ⟨q1, q2.trans (upE_enc _)⟩
        · unfold paF
          rw [if_neg (by omega), if_neg (by omega)]
          obtain ⟨p1, p2⟩ := k5 a b ha hb
          cases hb2 : chB n lk (Ldr n lk v4) a b with
          | true =>
            rw [p1 ((chP_n ha hb).mpr hb2)]; rfl
          | false =>
            rw [p2 (fun q => by rw [(chP_n ha hb).mp q] at hb2; exact absurd hb2 (by decide))]; rfl
        · unfold clN; rw [if_pos w2]; exact k2
        · unfold chN; rw [if_pos w2]; exact k4
      · -- the tree of the source
        rw [wτ] at hw1
        have w1 : W = 1 := (nI_eq (a := W) (b := 1) (by omega) (by omega)).mp hw1
        rw [e32, h7]
        refine ⟨_, s_Mo_tree2 G τ n j (zAll (nI n)) lk nτ hn12 hjn (fun a b ha hb => lkτ a b (by omega) (by omega)), fun σ4 ⟨k1, k2, k3, k4, k5⟩ => last σ4 ((MF.of (J := [19, 20]) k1 (by decide)).mono (by decide) (fun _ h => h)) ⟨fun c hc => ?_, fun _ a b ha hb => ?_, ?_, ?_⟩⟩
        · unfold ldF upF
          rw [if_neg (by omega), if_pos w1, if_neg (by omega), if_pos w1]
          exact ⟨k2 c hc (all_in hn12 hc), (k4 c hc (all_in hn12 hc)).2.trans (upE_enc _)⟩
        · unfold paF
          rw [if_neg (by omega), if_pos w1, k1 44 (by decide), g1 44 (by decide), h44 _ (by omega)]
          rfl
        · unfold clN; rw [if_neg (by omega), k1 32 (by decide), e32]; exact h19
        · unfold chN; rw [if_neg (by omega), k1 32 (by decide), e32]; exact h20
  -- what was, is wiped
  have wipe : ∀ (υ : zSt) (R W pp j : Nat), (¬ SB0 (zNo σ v3) v1 v2 v4 v5 ∧ C ∧ (v1 = nI pp ∧ pp ≤ 3) ∧ (v5 = nI R ∧ 1 ≤ R ∧ R ≤ 20) ∧ (v2 = nI W ∧ W ≤ 2) ∧ (v3 = nI j ∧ j < n) ∧ FRA n W lk (paF W n lk v4) (upF W n j lk v4) (ldF W n j lk v4)) → (υ 32 4 = 1 ∧ υ 32 5 = nI pp ∧ υ 32 7 = nI j ∧ υ 32 8 = nI R ∧ υ 32 6 = nI W ∧ υ 32 0 = nI n ∧ υ 32 27 = 0 ∧ υ 32 29 = 0 ∧ υ 32 30 = 0 ∧ υ 32 19 = 1 ∧ υ 32 20 = 0) → MF [44, 45] JMo σ υ → zZ G M_Mo_start 4 X (fun r τ => ∃ x : Int32, r = some (.int x) ∧ MSE σ n mk len lk C v1 v2 v3 v4 v5 x τ) 147 [(0, zf G 32), (4, .int v4), (7, .int (zAll (nI n))), (8, .int (0 : Int32))] [] υ := by
    intro υ R W pp j hy h32 hFσ
    have two : ∀ ρ : zSt, ρ = zfill υ 45 12672 0 → zZ G M_Mo_start 4 X (fun r τ => ∃ x : Int32, r = some (.int x) ∧ MSE σ n mk len lk C v1 v2 v3 v4 v5 x τ) 172 [(0, zf G 32), (4, .int v4), (7, .int (zAll (nI n))), (8, .int (0 : Int32))] [] ρ := by
      intro ρ hρ
      refine z_for 144 (fun i τ => zZ G M_Mo_start 4 X (fun r τ => ∃ x : Int32, r = some (.int x) ∧ MSE σ n mk len lk C v1 v2 v3 v4 v5 x τ) 172 [(0, zf G 32), (4, .int v4), (7, .int (zAll (nI n))), (8, .int (nI i))] [] τ) (fun i τ => τ = zfill ρ 44 i 0) ?_ ?_ 0 ρ (Nat.zero_le _) (zfill_0 ρ 44 0).symm
      · intro i τ hi hI ih
        refine b_Mo_start_172 E v4 (zAll (nI n)) (nI i) τ ⟨fun q => absurd q (nI_ge hi (by decide)), fun _ => ⟨vp_in_nI hi (by decide), fun σ1 e1 => ?_⟩⟩
        rw [nI_1]
        refine ih σ1 ?_
        rw [e1, hI, nI_clamp (by omega), zfill_s]
      · intro τ hI
        refine b_Mo_start_172 E v4 (zAll (nI n)) (nI 144) τ ⟨fun _ => ?_, fun q => absurd (by decide) q⟩
        have t32 : τ 32 = υ 32 := by rw [hI, zfill_ne (by decide), hρ, zfill_ne (by decide)]
        have fr : zFr [44, 45] υ τ := by rw [hI, hρ]; exact (zFr.rf.fill (by decide)).fill (by decide)
        refine set τ R W pp j hy (by rw [t32]; exact h32) (hFσ.tr (MF.of (J := JMo) fr (by decide))) (fun i hi => ?_) (fun i hi => ?_)
        · rw [hI, zfill_ne (by decide), hρ]
          simp [zfill, hi]
        · rw [hI]
          simp [zfill, hi]
    refine z_for 12672 (fun i τ => zZ G M_Mo_start 4 X (fun r τ => ∃ x : Int32, r = some (.int x) ∧ MSE σ n mk len lk C v1 v2 v3 v4 v5 x τ) 147 [(0, zf G 32), (4, .int v4), (7, .int (zAll (nI n))), (8, .int (nI i))] [] τ) (fun i τ => τ = zfill υ 45 i 0) ?_ ?_ 0 υ (Nat.zero_le _) (zfill_0 υ 45 0).symm
    · intro i τ hi hI ih
      refine b_Mo_start_147 E v4 (zAll (nI n)) (nI i) τ ⟨fun q => absurd q (nI_ge hi (by decide)), fun _ => ⟨vp_in_nI hi (by decide), fun σ1 e1 => ?_⟩⟩
      rw [nI_1]
      refine ih σ1 ?_
      rw [e1, hI, nI_clamp (by omega), zfill_s]
    · intro τ hI
      exact b_Mo_start_147 E v4 (zAll (nI n)) (nI 12672) τ ⟨fun _ => two τ hI, fun q => absurd (by decide) q⟩
  -- the answers
  have all_ : ((1 : Int32) <<< ((σ 32 0) &&& 31)) - (1 : Int32) = zAll (nI n) := by rw [hn]; rfl
  have s0 : ¬ SB0 (zNo σ v3) v1 v2 v4 v5 → ¬ v1 < 0 → ¬ (3 : Int32) < v1 → ¬ v2 < 0 → ¬ (2 : Int32) < v2 → zNo σ v3 = false → ¬ v5 < 1 → v5 ≤ 20 → zZ G M_Mo_start 4 X (fun r τ => ∃ x : Int32, r = some (.int x) ∧ MSE σ n mk len lk C v1 v2 v3 v4 v5 x τ) 64 [(0, zf G 32), (1, .int v1), (2, .int v2), (3, .int v3), (4, .int v4), (5, .int v5), (6, .int (0 : Int32))] [] σ := by
    intro nb p0 p3 w1 w2 hno w3 w4
    refine b_Mo_start_64 E v1 v2 v3 v4 v5 0 σ ⟨fun q => absurd rfl q, fun _ => ?_⟩
    rw [all_]
    refine ⟨_, s_Mo_spread2 G σ n _ lk hn h1n hn12 (fun b hb => all_in hn12 hb) (fun a b ha hb => hlk a b (by omega) (by omega)), ?_⟩
    rintro x σ1 ⟨e1, hsp⟩
    refine ⟨fun hx σ3 e3 σ4 e4 σ5 e5 σ6 e6 σ7 e7 σ8 e8 σ9 e9 σ10 e10 σ11 e11 σ12 e12 => ?_, fun hx => by rw [e1]; exact bad (Or.inr (fun c => hx ((hC x hsp).mpr c)))⟩
    have hc : C := (hC x hsp).mp hx
    obtain ⟨pp, hp3, hpp⟩ := nI_of2 (M := 3) (n := 3) (by decide) p0 (Int32.not_lt.mp p3)
    obtain ⟨W, hW, hWe⟩ := nI_of2 (M := 2) (n := 2) (by decide) w1 (Int32.not_lt.mp w2)
    obtain ⟨R, hR1, hR20, hRe⟩ : ∃ R, 1 ≤ R ∧ R ≤ 20 ∧ v5 = nI R := by
      have c1 : ¬ v5.toInt < 1 := fun q => w3 (i32_lt.mpr (by rw [show (1 : Int32).toInt = 1 by decide]; exact q))
      have c2 := i32_le.mp w4
      rw [show (20 : Int32).toInt = 20 by decide] at c2
      refine ⟨v5.toInt.toNat, by omega, by omega, i32_of (by omega) (by omega)⟩
    obtain ⟨j, hj, hje⟩ := zNo_of hno hn hn12
    have f12 : MF [44, 45] JMo σ σ12 := by
      rw [e12, e11, e10, e9, e8, e7, e6, e5, e4, e3, e1]
      exact ((((((((((MF.rf.fld (by decide)).fld (by decide)).fld (by decide)).fld (by decide)).fld (by decide)).fld (by decide)).fld (by decide)).fld (by decide)).fld (by decide)).fld (by decide))
    rw [hx] at hsp
    have hF : FRA n W lk (paF W n lk v4) (upF W n j lk v4) (ldF W n j lk v4) := FRA_F hW hn12 hj hsym hirr hsp
    refine wipe σ12 R W pp j ⟨nb, hc, ⟨hpp, hp3⟩, ⟨hRe, hR1, hR20⟩, ⟨hWe, hW⟩, ⟨hje, hj⟩, hF⟩ ⟨?_, ?_, ?_, ?_, ?_, by rw [f12.2 0 (by decide)]; exact hn, ?_, ?_, ?_, ?_, ?_⟩ f12
    · rw [e12, e11, e10, e9, e8, e7]; simp [zup]
    · rw [← hpp, e12, e11, e10, e9, e8, e7, e6, e5, e4, e3]; simp [zup]
    · rw [← hje, e12, e11, e10, e9, e8, e7, e6, e5]; simp [zup]
    · rw [← hRe, e12, e11, e10, e9, e8, e7, e6]; simp [zup]
    · rw [← hWe, e12, e11, e10, e9, e8, e7, e6, e5, e4]; simp [zup]
    · rw [e12, e11, e10, e9, e8]; simp [zup]
    · rw [e12, e11, e10, e9]; simp [zup]
    · rw [e12, e11, e10]; simp [zup]
    · rw [e12, e11]; simp [zup]
    · rw [e12]; simp [zup]
  have one : SB0 (zNo σ v3) v1 v2 v4 v5 → zZ G M_Mo_start 4 X (fun r τ => ∃ x : Int32, r = some (.int x) ∧ MSE σ n mk len lk C v1 v2 v3 v4 v5 x τ) 64 [(0, zf G 32), (1, .int v1), (2, .int v2), (3, .int v3), (4, .int v4), (5, .int v5), (6, .int (1 : Int32))] [] σ := fun hb => b_Mo_start_64 E v1 v2 v3 v4 v5 1 σ ⟨fun _ => bad (Or.inl hb), fun q => absurd q (by decide)⟩
  refine b_Mo_start_0 E v1 v2 v3 v4 v5 σ ⟨fun h => one (Or.inl h), fun p0 => ⟨fun h => one (Or.inr (Or.inl h)), fun p3 => ⟨fun h => one (Or.inr (Or.inr (Or.inl h))), fun w0 => ⟨fun h => one (Or.inr (Or.inr (Or.inr (Or.inl h)))), fun w2 => ⟨fun h => one (Or.inr (Or.inr (Or.inr (Or.inr (Or.inl h))))), fun hs => ?_⟩⟩⟩⟩⟩
  have nb : (v2 = 2 → ¬ (v4 < 2 ∨ 8 < v4)) → ¬ v5 < 1 → v5 ≤ 20 → ¬ SB0 (zNo σ v3) v1 v2 v4 v5 := by
    intro hk hr1 hr2 q
    rcases q with q | q | q | q | q | q | q | q
    · exact p0 q
    · exact p3 q
    · exact w0 q
    · exact w2 q
    · rw [hs] at q; exact absurd q (by decide)
    · exact hr1 q
    · exact q hr2
    · exact hk q.1 q.2
  have b6 : v5 < 1 → SB0 (zNo σ v3) v1 v2 v4 v5 := fun h => Or.inr (Or.inr (Or.inr (Or.inr (Or.inr (Or.inl h)))))
  have b7 : ¬ v5 ≤ 20 → SB0 (zNo σ v3) v1 v2 v4 v5 := fun h => Or.inr (Or.inr (Or.inr (Or.inr (Or.inr (Or.inr (Or.inl h))))))
  have b8 : (v2 = 2 ∧ (v4 < 2 ∨ 8 < v4)) → SB0 (zNo σ v3) v1 v2 v4 v5 := fun h => Or.inr (Or.inr (Or.inr (Or.inr (Or.inr (Or.inr (Or.inr h))))))
  exact ⟨fun hw => ⟨fun h => one (b6 h), fun w3 => ⟨fun w4 => s0 (nb (fun q => absurd q hw) w3 w4) p0 p3 w0 w2 hs w3 w4, fun h => one (b7 h)⟩⟩, fun hw => ⟨fun h => one (b8 ⟨hw, Or.inl h⟩), fun k2 => ⟨fun h => one (b8 ⟨hw, Or.inr h⟩), fun k8 => ⟨fun h => one (b6 h), fun w3 => ⟨fun w4 => s0 (nb (fun _ q => q.elim k2 k8) w3 w4) p0 p3 w0 w2 hs w3 w4, fun h => one (b7 h)⟩⟩⟩⟩⟩
end
section
-- come and flow on both sides
section FLW
variable (n R W p : Nat) (src : Int32) (mk : Nat → Int32) (len : Nat → Nat → Int32) (lk pa : Nat → Nat → Bool) (up : Nat → Option Nat)
/-- the letter at place i comes -/
def aHan1 (A : AS) (i : Nat) : AS := match (aL A)[i]? with
  | some x => aHandle n R W p src mk len lk pa up A i x.1.toNatClampNeg x.2.1.toNatClampNeg x.2.2.1.toNatClampNeg x.2.2.2.1.toNatClampNeg x.2.2.2.2
  | none => A
def kndA (A : AS) (i : Nat) : Int32 := match (aL A)[i]? with
  | some x => x.1
  | none => -1
/-- k letters come, as long as there are some -/
def aFlow : Nat → AS → Nat → AS
  | 0, A, _ => A
  | k + 1, A, z => if (aL A).length = 0 then A else aFlow k (aHan1 n R W p src mk len lk pa up A (z % (aL A).length)) ((69069 * z + 1) % 2147483648)
end FLW
section FLOW
variable {n R W p : Nat} {src : Int32} {mk : Nat → Int32} {len : Nat → Nat → Int32} {lk pa : Nat → Nat → Bool} {up : Nat → Option Nat} {ld : Nat → Nat} {A : AS}
theorem han1_of {i k f t q : Nat} {x : Int32} (hn : n ≤ 12) (hR : R ≤ 20) (hx : (aL A)[i]? = some (nI k, nI f, nI t, nI q, x)) (hk : k < 7) (hf : f < n) (ht : t < n) (hq : q ≤ R) : aHan1 n R W p src mk len lk pa up A i = aHandle n R W p src mk len lk pa up A i k f t q x ∧ kndA A i = nI k := by
  unfold aHan1 kndA
  rw [hx]
  dsimp only
  rw [nI_clamp (by omega), nI_clamp (by omega), nI_clamp (by omega), nI_clamp (by omega)]
  exact ⟨rfl, rfl⟩
theorem QR_han1 {i : Nat} (hn : n ≤ 12) (hR : R ≤ 20) (hR1 : 1 ≤ R) (hW : W ≤ 2) (hF : FRA n W lk pa up ld) (hM : MLB mk len) (h : QR n R W p lk pa up ld A) {k f t q : Nat} {x : Int32} (hk : k < 7) (hf : f < n) (ht : t < n) (hq1 : 1 ≤ q) (hqR : q ≤ R) (hx : (aL A)[i]? = some (nI k, nI f, nI t, nI q, x)) : QR n R W p lk pa up ld (aHan1 n R W p src mk len lk pa up A i) := by
  rw [(han1_of hn hR hx hk hf ht hqR).1]
  exact h.handle hn hR hR1 hW hF hM hk hf ht hq1 hqR hx
/-- what come and flow have of the class -/
def RC (σ : zSt) (n R W p : Nat) (src : Int32) (mk : Nat → Int32) (len : Nat → Nat → Int32) (lk pa : Nat → Nat → Bool) (up : Nat → Option Nat) (ld : Nat → Nat) (A : AS) : Prop := CT σ n R W p src mk len lk pa up ld ∧ FRA n W lk pa up ld ∧ MLB mk len ∧ CA σ n W pa up A ∧ QR n R W p lk pa up ld A
def RM (σ : zSt) (n R W p : Nat) (src : Int32) (mk : Nat → Int32) (len : Nat → Nat → Int32) (lk pa : Nat → Nat → Bool) (up : Nat → Option Nat) (ld : Nat → Nat) (A : AS) : Prop := MT σ n R W p src mk len lk pa up ∧ FRA n W lk pa up ld ∧ MA σ n A ∧ QR n R W p lk pa up ld A
theorem RUNP.rc {σ : zSt} (h : RUNP σ n R W p src mk len lk pa up ld A) : RC σ n R W p src mk len lk pa up ld A := ⟨h.1, h.2.2.1, h.2.1.mlb, h.2.2.2.1, h.2.2.2.2.2.1⟩
theorem RUNP.rm {σ τ : zSt} (h : RUNP σ n R W p src mk len lk pa up ld A) (e : ∀ c, 32 ≤ c → τ c = σ c) : RM τ n R W p src mk len lk pa up ld A := ⟨h.2.1.hi2 e, h.2.2.1, h.2.2.2.2.1.hi2 e, h.2.2.2.2.2.1⟩
def PCO (n R W p : Nat) (src : Int32) (mk : Nat → Int32) (len : Nat → Nat → Int32) (lk pa : Nat → Nat → Bool) (up : Nat → Option Nat) (ld : Nat → Nat) (A : AS) (σ : zSt) (v x : Int32) (τ : zSt) : Prop :=
  (x = -1 ∧ τ = σ ∧ (σ 0 1 = 0 ∨ v < 0 ∨ σ 5 0 ≤ v)) ∨ (¬ σ 0 1 = 0 ∧ ∃ i, i < (aL A).length ∧ v = nI i ∧ x = kndA A i ∧ RF FR σ τ ∧ CA τ n W pa up (aHan1 n R W p src mk len lk pa up A i) ∧ QR n R W p lk pa up ld (aHan1 n R W p src mk len lk pa up A i))
def MCO (n R W p : Nat) (src : Int32) (mk : Nat → Int32) (len : Nat → Nat → Int32) (lk pa : Nat → Nat → Bool) (up : Nat → Option Nat) (A : AS) (σ : zSt) (v x : Int32) (τ : zSt) : Prop :=
  (x = -1 ∧ τ = σ ∧ (σ 32 4 = 0 ∨ v < 0 ∨ ¬ v < σ 32 27)) ∨ (¬ σ 32 4 = 0 ∧ ∃ i, i < (aL A).length ∧ v = nI i ∧ x = kndA A i ∧ MF FHan [27, 29, 30] σ τ ∧ MA τ n (aHan1 n R W p src mk len lk pa up A i))
theorem e_P_come (G : zG) (σ : zSt) (v : Int32) (hP : ¬ σ 0 1 = 0 → RC σ n R W p src mk len lk pa up ld A) : zI G 7 M_P_come [zf G 0, .int v] σ (fun x τ => PCO n R W p src mk len lk pa up ld A σ v x τ) := by
  refine zSpec.of (by decide) (Nat.le_of_ble_eq_true rfl) rfl (fun X E => ?_)
  refine b_P_come_0 E v σ ⟨_, s_P_hasLetter G σ v, ?_⟩
  rintro b τ ⟨hb, e⟩
  rw [e]
  refine ⟨fun hf => ⟨_, rfl, Or.inl ⟨rfl, rfl, ?_⟩⟩, fun ht => ?_⟩
  · have hf := of_decide_eq_false (hb.symm.trans hf)
    by_cases q1 : σ 0 1 = 0
    · exact Or.inl q1
    · by_cases q2 : v < 0
      · exact Or.inr (Or.inl q2)
      · by_cases q3 : σ 5 0 ≤ v
        · exact Or.inr (Or.inr q3)
        · exact absurd ⟨q1, q2, q3⟩ hf
  · rw [hb] at ht
    have hs := (of_decide_eq_true ht).1
    obtain ⟨hT, hF, hM, hA, hQ⟩ := hP hs
    obtain ⟨i, hi, rfl⟩ := letter_of ht hA.2.1.1
    obtain ⟨⟨_, _, hn, _, hR1, hR, _, hW⟩, _⟩ := id hT
    refine ⟨_, s_Course_bring2 G σ i hT hF hM hA hQ hi, fun x τ ⟨k, f, t, q, z, hx, hk, hf, ht, hq1, hqR, hy, k1, k2⟩ => ⟨_, rfl, Or.inr ⟨hs, i, hi, rfl, ?_, k1, ?_, QR_han1 hn hR hR1 hW hF hM hQ hk hf ht hq1 hqR hx⟩⟩⟩
    · rw [(han1_of (W := W) (p := p) (src := src) (mk := mk) (len := len) (lk := lk) (pa := pa) (up := up) hn hR hx hk hf ht hqR).2]; exact hy
    · rw [(han1_of hn hR hx hk hf ht hqR).1]; exact k2
theorem e_Mo_come (G : zG) (σ : zSt) (v : Int32) (hP : ¬ σ 32 4 = 0 → RM σ n R W p src mk len lk pa up ld A) : zI G 5 M_Mo_come [zf G 32, .int v] σ (fun x τ => MCO n R W p src mk len lk pa up A σ v x τ) := by
  refine zSpec.of (by decide) (Nat.le_of_ble_eq_true rfl) rfl (fun X E => ?_)
  refine b_Mo_come_0 E v σ ⟨fun q => ⟨_, rfl, Or.inl ⟨rfl, rfl, Or.inl q⟩⟩, fun h4 => ⟨fun q => ⟨_, rfl, Or.inl ⟨rfl, rfl, Or.inr (Or.inl q)⟩⟩, fun h0 => ⟨fun hlt => ?_, fun q => ⟨_, rfl, Or.inl ⟨rfl, rfl, Or.inr (Or.inr q)⟩⟩⟩⟩⟩
  obtain ⟨hT, hF, hA, hQ⟩ := hP h4
  have hl := hA.2.1.1.2.1
  rw [hA.2.1.1.1] at hlt
  rcases pk_ix v (n := (aL A).length) (by omega) with q | q | ⟨i, hi, rfl⟩
  · exact absurd q h0
  · exact absurd hlt (Int32.not_lt.mpr q)
  · have hn : n ≤ 12 := hT.1.2.2.1
    have hR : R ≤ 20 := hT.1.2.2.2.2.2.1
    refine ⟨_, s_Mo_handle2 G σ i hT hF hA hQ hi, fun x τ ⟨k, f, t, q, z, hx, hk, hf, ht, hq1, hqR, hy, k1, k2⟩ => ⟨_, rfl, Or.inr ⟨h4, i, hi, rfl, ?_, k1, ?_⟩⟩⟩
    · rw [(han1_of (W := W) (p := p) (src := src) (mk := mk) (len := len) (lk := lk) (pa := pa) (up := up) hn hR hx hk hf ht hqR).2]; exact hy
    · rw [(han1_of hn hR hx hk hf ht hqR).1]; exact k2
def FB (m s : Int32) : Prop := m < 0 ∨ 3000 < m ∨ ¬ 0 ≤ s
def PFO (n R W p : Nat) (src : Int32) (mk : Nat → Int32) (len : Nat → Nat → Int32) (lk pa : Nat → Nat → Bool) (up : Nat → Option Nat) (ld : Nat → Nat) (A : AS) (σ : zSt) (m s : Int32) (τ : zSt) : Prop :=
  (τ = σ ∧ (σ 0 1 = 0 ∨ FB m s)) ∨ (¬ σ 0 1 = 0 ∧ ¬ FB m s ∧ RF FR σ τ ∧ ∃ k z, m = nI k ∧ k ≤ 3000 ∧ s = nI z ∧ z < 2 ^ 31 ∧ CA τ n W pa up (aFlow n R W p src mk len lk pa up k A z) ∧ QR n R W p lk pa up ld (aFlow n R W p src mk len lk pa up k A z))
def MFO (n R W p : Nat) (src : Int32) (mk : Nat → Int32) (len : Nat → Nat → Int32) (lk pa : Nat → Nat → Bool) (up : Nat → Option Nat) (A : AS) (σ : zSt) (m s : Int32) (τ : zSt) : Prop :=
  (τ = σ ∧ (σ 32 4 = 0 ∨ FB m s)) ∨ (¬ σ 32 4 = 0 ∧ ¬ FB m s ∧ MF FHan [27, 29, 30] σ τ ∧ ∃ k z, m = nI k ∧ k ≤ 3000 ∧ s = nI z ∧ z < 2 ^ 31 ∧ MA τ n (aFlow n R W p src mk len lk pa up k A z))
theorem aFlow_0 {k z : Nat} (h : (aL A).length = 0) : aFlow n R W p src mk len lk pa up k A z = A := by
  cases k with
  | zero => rfl
  | succ k => unfold aFlow; rw [if_pos h]
theorem aFlow_s {k z : Nat} (h : ¬ (aL A).length = 0) : aFlow n R W p src mk len lk pa up (k + 1) A z = aFlow n R W p src mk len lk pa up k (aHan1 n R W p src mk len lk pa up A (z % (aL A).length)) ((69069 * z + 1) % 2147483648) := if_neg h
set_option maxHeartbeats 1000000 in
theorem e_P_flow (G : zG) (σ : zSt) (m s : Int32) (hP : ¬ σ 0 1 = 0 → RC σ n R W p src mk len lk pa up ld A) : zI G 7 M_P_flow [zf G 0, .int m, .int s] σ (fun _ τ => PFO n R W p src mk len lk pa up ld A σ m s τ) := by
  refine zSpec.of (by decide) (Nat.le_of_ble_eq_true rfl) rfl (fun X E => ?_)
  have bad : (σ 0 1 = 0 ∨ FB m s) → ∀ y : Int32, ∃ x : Int32, some (Value.int y) = some (Value.int x) ∧ PFO n R W p src mk len lk pa up ld A σ m s σ := fun q y => ⟨_, rfl, Or.inl ⟨rfl, q⟩⟩
  refine b_P_flow_0 E m s σ ⟨fun q => bad (Or.inr (Or.inl q)) _, fun hm => ⟨fun q => bad (Or.inr (Or.inr (Or.inl q))) _, fun hm2 => ⟨fun hs => ?_, fun q => bad (Or.inr (Or.inr (Or.inr q))) _⟩⟩⟩
  have nfb : ¬ FB m s := fun q => by
    rcases q with q | q | q
    · exact hm q
    · exact hm2 q
    · exact q hs
  obtain ⟨k, hk, rfl⟩ := nI_of2 (M := 3000) (n := 3000) (by decide) hm (Int32.not_lt.mp hm2)
  obtain ⟨s0, hs0, rfl⟩ := nI_of (Int32.not_lt.mpr hs)
  by_cases hst : σ 0 1 = 0
  · refine b_P_flow_23 E (nI k) (nI s0).toInt64 0 σ ⟨fun _ => bad (Or.inl hst) _, fun _ => ⟨fun _ => bad (Or.inl hst) _, fun q => absurd hst q⟩⟩
  obtain ⟨hT, hF, hM, hA, hQ⟩ := hP hst
  obtain ⟨⟨_, _, hn, _, hR1, hR, _, hW⟩, _⟩ := id hT
  rw [nI_l hs0]
  refine z_for k (fun i (q : Nat × zSt) => zZ G M_P_flow 7 X (fun r τ => ∃ x : Int32, r = some (.int x) ∧ PFO n R W p src mk len lk pa up ld A σ (nI k) (nI s0) τ) 23 [(0, zf G 0), (1, .int (nI k)), (3, .long (lN q.1)), (5, .int (nI i))] [] q.2) (fun i q => q.1 < 2 ^ 31 ∧ RF FR σ q.2 ∧ ∃ B, CA q.2 n W pa up B ∧ QR n R W p lk pa up ld B ∧ aFlow n R W p src mk len lk pa up (k - i) B q.1 = aFlow n R W p src mk len lk pa up k A s0) ?_ ?_ 0 (s0, σ) (Nat.zero_le _) ⟨hs0, RF.rf, A, hA, hQ, rfl⟩
  · intro i ⟨z, τ⟩ hi ⟨hz, hFr, B, hB, hQB, hE⟩ ih
    dsimp only at hz hFr hB hE ih ⊢
    have hTτ := hT.of hFr
    have st : ¬ τ 0 1 = 0 := by rw [hFr.at (by decide)]; exact hst
    refine b_P_flow_23 E (nI k) (lN z) (nI i) τ ⟨fun q => absurd q (nI_ge hi (by omega)), fun _ => ⟨fun q => absurd q st, fun _ => ?_⟩⟩
    have hl := hB.2.1.1.2.1
    rw [hB.2.1.1.1, nI_l (by omega)]
    refine ⟨fun hp => ?_, fun hp => ?_⟩
    · have h0 : (aL B).length = 0 := by
        rcases Nat.eq_zero_or_pos (aL B).length with e | e
        · exact e
        · exact absurd hp (nI_ge (a := 0) e (by omega))
      rw [aFlow_0 h0] at hE
      exact ⟨_, rfl, Or.inr ⟨hst, nfb, hFr, k, s0, rfl, hk, rfl, hs0, by rw [← hE]; exact hB, by rw [← hE]; exact hQB⟩⟩
    have hpos : 0 < (aL B).length := by
      rcases Nat.eq_zero_or_pos (aL B).length with e | e
      · rw [e] at hp; exact absurd (by decide) hp
      · exact e
    refine ⟨fun e => ?_, ?_⟩
    · have := (lN_eq (a := (aL B).length) (b := 0) (by omega) (by decide)).mp e
      omega
    · have hrem : (lN z - lN z / lN (aL B).length * lN (aL B).length).toInt32 = nI (z % (aL B).length) := by
        rw [pk_lRem (by omega) hpos (by omega), lN_i]
      rw [hrem]
      refine ⟨_, s_Course_bring2 G τ (z % (aL B).length) hTτ hF hM hB hQB (Nat.mod_lt _ hpos), fun x σ1 ⟨kk, f, t, q, y, hx, hkk, hf, ht, hq1, hqR, hy, k1, k2⟩ => ?_⟩
      rw [nI_1]
      have hnext : ((69069 : Int64) * lN z + (1 : Int64)) &&& (2147483647 : Int64) = lN ((69069 * z + 1) % 2147483648) := by
        rw [show (69069 : Int64) = lN 69069 from rfl, show (1 : Int64) = lN 1 from rfl, show (2147483647 : Int64) = lN (2 ^ 31 - 1) from rfl, lN_mul, lN_add]
        apply Int64.toBitVec_inj.mp
        show BitVec.ofNat 64 (69069 * z + 1) &&& BitVec.ofNat 64 (2 ^ 31 - 1) = BitVec.ofNat 64 ((69069 * z + 1) % 2 ^ 31)
        apply BitVec.eq_of_toNat_eq
        simp only [BitVec.toNat_and, BitVec.toNat_ofNat]
        rw [Nat.mod_eq_of_lt (show 69069 * z + 1 < 2 ^ 64 by omega), Nat.mod_eq_of_lt (show 2 ^ 31 - 1 < 2 ^ 64 by decide), Nat.and_two_pow_sub_one_eq_mod, Nat.mod_eq_of_lt (show (69069 * z + 1) % 2 ^ 31 < 2 ^ 64 by omega)]
      rw [hnext]
      refine ih ((69069 * z + 1) % 2147483648, σ1) ⟨Nat.mod_lt _ (by decide), hFr.tr k1, aHan1 n R W p src mk len lk pa up B (z % (aL B).length), ?_, QR_han1 hn hR hR1 hW hF hM hQB hkk hf ht hq1 hqR hx, ?_⟩
      · rw [(han1_of hn hR hx hkk hf ht hqR).1]; exact k2
      · rw [← hE, show k - i = (k - (i + 1)) + 1 by omega, aFlow_s (by omega)]
  · intro ⟨z, τ⟩ ⟨_, hFr, B, hB, hQB, hE⟩
    rw [Nat.sub_self] at hE
    have hE : B = aFlow n R W p src mk len lk pa up k A s0 := hE
    exact b_P_flow_23 E (nI k) (lN z) (nI k) τ ⟨fun _ => ⟨_, rfl, Or.inr ⟨hst, nfb, hFr, k, s0, rfl, hk, rfl, hs0, by rw [← hE]; exact hB, by rw [← hE]; exact hQB⟩⟩, fun q => absurd (nI_le (Nat.le_refl k) (by omega)) q⟩
set_option maxHeartbeats 1000000 in
theorem e_Mo_flow (G : zG) (σ : zSt) (m s : Int32) (hP : ¬ σ 32 4 = 0 → RM σ n R W p src mk len lk pa up ld A) : zI G 5 M_Mo_flow [zf G 32, .int m, .int s] σ (fun _ τ => MFO n R W p src mk len lk pa up A σ m s τ) := by
  refine zSpec.of (by decide) (Nat.le_of_ble_eq_true rfl) rfl (fun X E => ?_)
  have bad : (σ 32 4 = 0 ∨ FB m s) → ∀ y : Int32, ∃ x : Int32, some (Value.int y) = some (Value.int x) ∧ MFO n R W p src mk len lk pa up A σ m s σ := fun q y => ⟨_, rfl, Or.inl ⟨rfl, q⟩⟩
  refine b_Mo_flow_0 E m s σ ⟨fun q => bad (Or.inl q) _, fun hst => ⟨fun q => bad (Or.inr (Or.inl q)) _, fun hm => ⟨fun q => bad (Or.inr (Or.inr (Or.inl q))) _, fun hm2 => ⟨fun hs => ?_, fun q => bad (Or.inr (Or.inr (Or.inr q))) _⟩⟩⟩⟩
  have nfb : ¬ FB m s := fun q => by
    rcases q with q | q | q
    · exact hm q
    · exact hm2 q
    · exact q hs
  obtain ⟨k, hk, rfl⟩ := nI_of2 (M := 3000) (n := 3000) (by decide) hm (Int32.not_lt.mp hm2)
  obtain ⟨s0, hs0, rfl⟩ := nI_of (Int32.not_lt.mpr hs)
  obtain ⟨hT, hF, hA, hQ⟩ := hP hst
  have hM := hT.mlb
  obtain ⟨⟨_, _, hn, _, hR1, hR, _, hW, _⟩, _⟩ := id hT
  rw [nI_l hs0]
  refine z_for k (fun i (q : Nat × zSt) => zZ G M_Mo_flow 5 X (fun r τ => ∃ x : Int32, r = some (.int x) ∧ MFO n R W p src mk len lk pa up A σ (nI k) (nI s0) τ) 30 [(0, zf G 32), (1, .int (nI k)), (3, .long (lN q.1)), (5, .int (nI i))] [] q.2) (fun i q => q.1 < 2 ^ 31 ∧ MF FHan [27, 29, 30] σ q.2 ∧ ∃ B, MA q.2 n B ∧ QR n R W p lk pa up ld B ∧ aFlow n R W p src mk len lk pa up (k - i) B q.1 = aFlow n R W p src mk len lk pa up k A s0) ?_ ?_ 0 (s0, σ) (Nat.zero_le _) ⟨hs0, MF.rf, A, hA, hQ, rfl⟩
  · intro i ⟨z, τ⟩ hi ⟨hz, hFr, B, hB, hQB, hE⟩ ih
    dsimp only at hz hFr hB hE ih ⊢
    have hTτ : MT τ n R W p src mk len lk pa up := hT.of hFr (by decide) (by decide)
    refine b_Mo_flow_30 E (nI k) (lN z) (nI i) τ ⟨fun q => absurd q (nI_ge hi (by omega)), fun _ => ?_⟩
    have hl := hB.2.1.1.2.1
    rw [hB.2.1.1.1, nI_l (by omega)]
    refine ⟨fun hp => ?_, fun hp => ?_⟩
    · have h0 : (aL B).length = 0 := by
        rcases Nat.eq_zero_or_pos (aL B).length with e | e
        · exact e
        · exact absurd hp (nI_ge (a := 0) e (by omega))
      rw [aFlow_0 h0] at hE
      exact ⟨_, rfl, Or.inr ⟨hst, nfb, hFr, k, s0, rfl, hk, rfl, hs0, by rw [← hE]; exact hB⟩⟩
    have hpos : 0 < (aL B).length := by
      rcases Nat.eq_zero_or_pos (aL B).length with e | e
      · rw [e] at hp; exact absurd (by decide) hp
      · exact e
    refine ⟨fun e => ?_, ?_⟩
    · have := (lN_eq (a := (aL B).length) (b := 0) (by omega) (by decide)).mp e
      omega
    · have hrem : (lN z - lN z / lN (aL B).length * lN (aL B).length).toInt32 = nI (z % (aL B).length) := by
        rw [pk_lRem (by omega) hpos (by omega), lN_i]
      rw [hrem]
      refine ⟨_, s_Mo_handle2 G τ (z % (aL B).length) hTτ hF hB hQB (Nat.mod_lt _ hpos), fun x σ1 ⟨kk, f, t, q, y, hx, hkk, hf, ht, hq1, hqR, hy, k1, k2⟩ => ?_⟩
      rw [nI_1]
      have hnext : (((69069 : Int64) * lN z) + (1 : Int64)) - (((69069 : Int64) * lN z) + (1 : Int64)) / (2147483648 : Int64) * (2147483648 : Int64) = lN ((69069 * z + 1) % 2147483648) := by
        rw [show (69069 : Int64) = lN 69069 from rfl, show (1 : Int64) = lN 1 from rfl, show (2147483648 : Int64) = lN 2147483648 from rfl, lN_mul, lN_add, pk_lRem (by omega) (by decide) (by decide)]
      rw [hnext]
      refine ih ((69069 * z + 1) % 2147483648, σ1) ⟨Nat.mod_lt _ (by decide), hFr.tr k1, aHan1 n R W p src mk len lk pa up B (z % (aL B).length), ?_, QR_han1 hn hR hR1 hW hF hM hQB hkk hf ht hq1 hqR hx, ?_⟩
      · rw [(han1_of hn hR hx hkk hf ht hqR).1]; exact k2
      · rw [← hE, show k - i = (k - (i + 1)) + 1 by omega, aFlow_s (by omega)]
  · intro ⟨z, τ⟩ ⟨_, hFr, B, hB, hQB, hE⟩
    rw [Nat.sub_self] at hE
    have hE : B = aFlow n R W p src mk len lk pa up k A s0 := hE
    exact b_Mo_flow_30 E (nI k) (lN z) (nI k) τ ⟨fun _ => ⟨_, rfl, Or.inr ⟨hst, nfb, hFr, k, s0, rfl, hk, rfl, hs0, by rw [← hE]; exact hB⟩⟩, fun q => absurd (nI_le (Nat.le_refl k) (by omega)) q⟩
end FLOW
end
section
-- The readers on both sides, as expressions of the cells
def tell (no off : Bool) (w c0 c1 c2 c3 c4 c5 c6 c7 : Int32) : Int32 := if no = true ∨ w.toInt < 0 ∨ 7 < w.toInt then -1 else if w.toInt = 7 then c7 else if off = true then -1 else if w.toInt = 0 then c0 else if w.toInt = 1 then c1 else if w.toInt = 2 then c2 else if w.toInt = 3 then c3 else if w.toInt = 4 then c4 else if w.toInt = 5 then c5 else c6
def lett (off : Bool) (len v w c0 c1 c2 c3 c4 : Int32) : Int32 := if off = true ∨ v < 0 ∨ len ≤ v ∨ w.toInt < 0 ∨ 4 < w.toInt then -1 else if w.toInt = 0 then c0 else if w.toInt = 1 then c1 else if w.toInt = 2 then c2 else if w.toInt = 3 then c3 else c4
def cntW (off : Bool) (w c0 c1 c2 c3 c4 c5 c6 c7 c8 c9 : Int32) : Int32 := if w.toInt = 0 then c0 else if w.toInt = 1 then c1 else if off = true ∨ w.toInt < 0 ∨ 9 < w.toInt then -1 else if w.toInt = 2 then c2 else if w.toInt = 3 then c3 else if w.toInt = 4 then c4 else if w.toInt = 5 then c5 else if w.toInt = 6 then c6 else if w.toInt = 7 then c7 else if w.toInt = 8 then c8 else c9
def pst (bad : Bool) (r rd c : Int32) : Int32 := if bad = true then -1 else if r ≤ rd then c else -3
def lstI (f : Nat → Int32) (k : Int32) : Nat → Int32
  | 0 => k
  | i + 1 => if f i < lstI f k i then f i else lstI f k i
def gstI (f : Nat → Int32) : Nat → Int32
  | 0 => 0
  | i + 1 => if gstI f i < f i then f i else gstI f i
def dR (P : Nat → Nat → Bool) (a : Nat) : Nat → Nat
  | 0 => 0
  | k + 1 => dR P a k + (if P k a = true then 0 else 1)
def dA (P : Nat → Nat → Bool) (rd : Nat → Nat) : Nat → Nat
  | 0 => 0
  | i + 1 => dA P rd i + dR P i (rd i + 1)
section TELL
variable {no off : Bool} {w c0 c1 c2 c3 c4 c5 c6 c7 : Int32}
theorem tell_bad (h : no = true ∨ w.toInt < 0 ∨ 7 < w.toInt) : tell no off w c0 c1 c2 c3 c4 c5 c6 c7 = -1 := if_pos h
theorem tell_7 (h : no = false) (hw : w.toInt = 7) : tell no off w c0 c1 c2 c3 c4 c5 c6 c7 = c7 := by unfold tell; rw [hw, h]; simp
theorem tell_off (h : no = false) (h0 : ¬ w.toInt < 0) (h7 : ¬ 7 < w.toInt) (hw : ¬ w.toInt = 7) (ho : off = true) : tell no off w c0 c1 c2 c3 c4 c5 c6 c7 = -1 := by
  unfold tell; rw [if_neg (fun q => by rcases q with q | q | q; · rw [h] at q; exact absurd q (by decide)
                                       · exact h0 q
                                       · exact h7 q), if_neg hw, if_pos ho]
theorem tell_0 (h : no = false) (ho : off = false) (hw : w.toInt = 0) : tell no off w c0 c1 c2 c3 c4 c5 c6 c7 = c0 := by unfold tell; rw [hw, h, ho]; simp
theorem tell_1 (h : no = false) (ho : off = false) (hw : w.toInt = 1) : tell no off w c0 c1 c2 c3 c4 c5 c6 c7 = c1 := by unfold tell; rw [hw, h, ho]; simp
theorem tell_2 (h : no = false) (ho : off = false) (hw : w.toInt = 2) : tell no off w c0 c1 c2 c3 c4 c5 c6 c7 = c2 := by unfold tell; rw [hw, h, ho]; simp
theorem tell_3 (h : no = false) (ho : off = false) (hw : w.toInt = 3) : tell no off w c0 c1 c2 c3 c4 c5 c6 c7 = c3 := by unfold tell; rw [hw, h, ho]; simp
theorem tell_4 (h : no = false) (ho : off = false) (hw : w.toInt = 4) : tell no off w c0 c1 c2 c3 c4 c5 c6 c7 = c4 := by unfold tell; rw [hw, h, ho]; simp
theorem tell_5 (h : no = false) (ho : off = false) (hw : w.toInt = 5) : tell no off w c0 c1 c2 c3 c4 c5 c6 c7 = c5 := by unfold tell; rw [hw, h, ho]; simp
theorem tell_6 (h : no = false) (ho : off = false) (hw : w.toInt = 6) : tell no off w c0 c1 c2 c3 c4 c5 c6 c7 = c6 := by unfold tell; rw [hw, h, ho]; simp
theorem tell_same {d0 d1 d2 d3 d4 d5 d6 : Int32} : tell no true w c0 c1 c2 c3 c4 c5 c6 c7 = tell no true w d0 d1 d2 d3 d4 d5 d6 c7 := by unfold tell; simp
end TELL
theorem i0 : (0 : Int32).toInt = 0 := by decide
theorem ilt0 {w : Int32} : w < 0 ↔ w.toInt < 0 := by rw [i32_lt, i0]
theorem s_P_told5 (G : zG) (σ : zSt) (n : Nat) (a w : Int32) (hn : σ 2 0 = nI n) (hle : n ≤ 12) : zI G 1 M_P_told [zf G 0, .int a, .int w] σ (fun x τ => τ = σ ∧ x = tell (!zHas σ a) (decide (σ 0 1 = 0)) w (σ 24 a.toNatClampNeg) (σ 16 a.toNatClampNeg) (σ 17 a.toNatClampNeg) (σ 26 a.toNatClampNeg) (if zSf σ a = true then 1 else 0) (σ 10 a.toNatClampNeg) (σ 9 a.toNatClampNeg) (zBc (σ 7 a.toNatClampNeg))) := by
  refine zSpec.of (by decide) (Nat.le_of_ble_eq_true rfl) rfl (fun X E => ?_)
  have z7 : (7 : Int32).toInt = 7 := by decide
  refine b_P_told_0 E a w σ ⟨fun q => ⟨_, rfl, rfl, (tell_bad (Or.inl (by rw [q]; rfl))).symm⟩, fun ha => ⟨fun q => ⟨_, rfl, rfl, (tell_bad (Or.inr (Or.inl (ilt0.mp q)))).symm⟩, fun h0 => ⟨fun h7 => ?_, fun q => ⟨_, rfl, rfl, (tell_bad (Or.inr (Or.inr (by have := i32_lt.mp (Int32.not_le.mp q); rw [z7] at this; exact this)))).symm⟩⟩⟩⟩
  obtain ⟨j, hj, ej⟩ := zHas_of ha hn hle
  have ij : vp_in a 12 := by rw [ej]; exact vp_in_nI (by omega) (by decide)
  have no : (!zHas σ a) = false := by rw [ha]; rfl
  have w0 : ¬ w.toInt < 0 := fun q => h0 (ilt0.mpr q)
  have w7 : w.toInt ≤ 7 := by have := i32_le.mp h7; rw [z7] at this; exact this
  refine ⟨fun hw => ?_, fun hw => ⟨ij, _, rfl, rfl, (tell_7 no (by rw [hw]; exact z7)).symm⟩⟩
  have w7' : ¬ w.toInt = 7 := fun q => hw (Int32.toInt_inj.mp (by rw [q, z7]))
  refine ⟨fun hs => ?_, fun hs => ⟨_, rfl, rfl, (tell_off no w0 (by omega) w7' (decide_eq_true hs)).symm⟩⟩
  have of : decide (σ 0 1 = 0) = false := decide_eq_false hs
  refine ⟨fun q => ⟨ij, _, rfl, rfl, (tell_0 no of q).symm⟩, fun q => ⟨ij, _, rfl, rfl, (tell_1 no of q).symm⟩, fun q => ⟨ij, _, rfl, rfl, (tell_2 no of q).symm⟩, fun q => ⟨ij, _, rfl, rfl, (tell_3 no of q).symm⟩, fun q => ⟨ij, fun z => ⟨_, rfl, rfl, ?_⟩, fun z => ⟨_, rfl, rfl, ?_⟩⟩, fun q => ⟨ij, _, rfl, rfl, (tell_5 no of q).symm⟩, fun q => ⟨ij, _, rfl, rfl, (tell_6 no of (by omega)).symm⟩⟩
  · rw [tell_4 no of q, z]; rfl
  · rw [tell_4 no of q, z]; rfl
theorem s_Mo_told5 (G : zG) (σ : zSt) (n : Nat) (a w : Int32) (hn : σ 32 0 = nI n) (hle : n ≤ 12) : zI G 1 M_Mo_told [zf G 32, .int a, .int w] σ (fun x τ => τ = σ ∧ x = tell (zNo σ a) (decide (σ 32 4 = 0)) w (σ 35 a.toNatClampNeg) (σ 47 a.toNatClampNeg) (σ 48 a.toNatClampNeg) (σ 36 a.toNatClampNeg) (if σ 37 a.toNatClampNeg = 0 then 0 else 1) (σ 41 a.toNatClampNeg) (σ 42 a.toNatClampNeg) (nI (selL (fun b => zLk σ a (nI b)) n).length)) := by
  refine zSpec.of (by decide) (Nat.le_of_ble_eq_true rfl) rfl (fun X E => ?_)
  have z7 : (7 : Int32).toInt = 7 := by decide
  have loop : zNo σ a = false → ¬ w.toInt < 0 → ¬ 7 < w.toInt → (¬ σ 32 4 = 0 ∨ w.toInt = 7) → zZ G M_Mo_told 1 X (fun r τ => ∃ x : Int32, r = some (.int x) ∧ τ = σ ∧ x = tell (zNo σ a) (decide (σ 32 4 = 0)) w (σ 35 a.toNatClampNeg) (σ 47 a.toNatClampNeg) (σ 48 a.toNatClampNeg) (σ 36 a.toNatClampNeg) (if σ 37 a.toNatClampNeg = 0 then 0 else 1) (σ 41 a.toNatClampNeg) (σ 42 a.toNatClampNeg) (nI (selL (fun b => zLk σ a (nI b)) n).length)) 38 [(0, zf G 32), (1, .int a), (2, .int w), (3, .int (0 : Int32)), (4, .int (0 : Int32))] [] σ := by
    intro no w0 w7 hs
    obtain ⟨j, hj, ej⟩ := zNo_of no hn hle
    have ij : vp_in a 12 := by rw [ej]; exact vp_in_nI (by omega) (by decide)
    have ij2 : vp_in a 24 := by rw [ej]; exact vp_in_nI (by omega) (by decide)
    refine z_for n (fun i τ => zZ G M_Mo_told 1 X (fun r τ => ∃ x : Int32, r = some (.int x) ∧ τ = σ ∧ x = tell (zNo σ a) (decide (σ 32 4 = 0)) w (σ 35 a.toNatClampNeg) (σ 47 a.toNatClampNeg) (σ 48 a.toNatClampNeg) (σ 36 a.toNatClampNeg) (if σ 37 a.toNatClampNeg = 0 then 0 else 1) (σ 41 a.toNatClampNeg) (σ 42 a.toNatClampNeg) (nI (selL (fun b => zLk σ a (nI b)) n).length)) 38 [(0, zf G 32), (1, .int a), (2, .int w), (3, .int (nI (selL (fun b => zLk σ a (nI b)) i).length)), (4, .int (nI i))] [] τ) (fun _ τ => τ = σ) ?_ ?_ 0 σ (Nat.zero_le _) rfl
    · intro i τ hi e ih
      rw [e]
      refine b_Mo_told_38 E a w _ (nI i) σ ⟨fun q => absurd q (by rw [hn]; exact nI_ge hi (by omega)), fun _ => ⟨by rw [ej, zi12']; exact vp_in_nI (by omega) (by decide), fun q => ?_, fun q => ?_⟩⟩
      · have e1 : (selL (fun b => zLk σ a (nI b)) (i + 1)).length = (selL (fun b => zLk σ a (nI b)) i).length := by
          show (selL (fun b => zLk σ a (nI b)) i ++ (if zLk σ a (nI i) = true then [i] else [])).length = _
          rw [if_neg (by rw [q]; decide), List.append_nil]
        have := ih σ rfl
        rw [e1] at this
        rw [Int32.add_zero, nI_1]; exact this
      · have e1 : (selL (fun b => zLk σ a (nI b)) (i + 1)).length = (selL (fun b => zLk σ a (nI b)) i).length + 1 := by
          show (selL (fun b => zLk σ a (nI b)) i ++ (if zLk σ a (nI i) = true then [i] else [])).length = _
          rw [if_pos q, List.length_append]; rfl
        have := ih σ rfl
        rw [e1] at this
        rw [nI_1, nI_1]; exact this
    · intro τ e
      rw [e]
      refine b_Mo_told_38 E a w _ (nI n) σ ⟨fun _ => ?_, fun q => absurd (by rw [hn]; exact nI_le (Nat.le_refl n) (by omega)) q⟩
      have off : ¬ w.toInt = 7 → decide (σ 32 4 = 0) = false := fun q => decide_eq_false (hs.elim id (fun z => absurd z q))
      refine ⟨fun q => ⟨ij, _, rfl, rfl, (tell_0 no (off (by omega)) q).symm⟩, fun q => ⟨ij2, _, rfl, rfl, (tell_1 no (off (by omega)) q).symm⟩, fun q => ⟨ij2, _, rfl, rfl, (tell_2 no (off (by omega)) q).symm⟩, fun q => ⟨ij, _, rfl, rfl, (tell_3 no (off (by omega)) q).symm⟩, fun q => ⟨ij, fun z => ⟨_, rfl, rfl, ?_⟩, fun z => ⟨_, rfl, rfl, ?_⟩⟩, fun q => ⟨ij, _, rfl, rfl, (tell_5 no (off (by omega)) q).symm⟩, fun q => ⟨ij, _, rfl, rfl, (tell_6 no (off (by omega)) q).symm⟩, fun q => ⟨_, rfl, rfl, (tell_7 no (by omega)).symm⟩⟩
      · rw [tell_4 no (off (by omega)) q, if_pos z]
      · rw [tell_4 no (off (by omega)) q, if_neg z]
  refine b_Mo_told_0 E a w σ ⟨fun q => ⟨_, rfl, rfl, (tell_bad (Or.inl q)).symm⟩, fun no => ⟨fun q => ⟨_, rfl, rfl, (tell_bad (Or.inr (Or.inl (ilt0.mp q)))).symm⟩, fun h0 => ⟨fun q => ⟨_, rfl, rfl, (tell_bad (Or.inr (Or.inr (by have := i32_lt.mp q; rw [z7] at this; exact this)))).symm⟩, fun h7 => ?_⟩⟩⟩
  have w0 : ¬ w.toInt < 0 := fun q => h0 (ilt0.mpr q)
  have w7 : ¬ 7 < w.toInt := fun q => h7 (i32_lt.mpr (by rw [z7]; exact q))
  refine ⟨fun hs => loop no w0 w7 (Or.inl hs), fun hs => ⟨fun q => loop no w0 w7 (Or.inr ?_), fun q => ⟨_, rfl, rfl, (tell_off no w0 w7 (fun e => q (i32_le.mpr (by rw [z7, e]; exact Int.le_refl _))) (decide_eq_true hs)).symm⟩⟩⟩
  have := i32_le.mp q
  rw [z7] at this
  omega
theorem s_Mo_noPlace5 (G : zG) (σ : zSt) (a r : Int32) : zB G 1 M_Mo_noPlace [zf G 32, .int a, .int r] σ (fun b τ => τ = σ ∧ b = decide (σ 32 4 = 0 ∨ zNo σ a = true ∨ r < 0 ∨ ¬ r ≤ σ 32 8)) := by
  refine zSpec.of (by decide) (Nat.le_of_ble_eq_true rfl) rfl (fun X E => ?_)
  refine b_Mo_noPlace_0 E a r σ ⟨fun q => ⟨true, rfl, rfl, (decide_eq_true (Or.inl q)).symm⟩, fun h4 => ⟨fun q => ⟨true, rfl, rfl, (decide_eq_true (Or.inr (Or.inl q))).symm⟩, fun hno => ⟨fun q => ⟨true, rfl, rfl, (decide_eq_true (Or.inr (Or.inr (Or.inl q)))).symm⟩, fun h0 => ⟨fun hle => ⟨false, rfl, rfl, (decide_eq_false ?_).symm⟩, fun q => ⟨true, rfl, rfl, (decide_eq_true (Or.inr (Or.inr (Or.inr q)))).symm⟩⟩⟩⟩⟩
  rintro (q | q | q | q)
  · exact h4 q
  · rw [hno] at q; exact absurd q (by decide)
  · exact h0 q
  · exact q hle
/-- whether there is such a node and such a round -/
def hasP (σ : zSt) (a r : Int32) : Bool := decide (¬ σ 0 1 = 0 ∧ zHas σ a = true ∧ ¬ r < 0 ∧ ¬ σ 1 5 < r)
def noM (σ : zSt) (a r : Int32) : Bool := decide (σ 32 4 = 0 ∨ zNo σ a = true ∨ r < 0 ∨ ¬ r ≤ σ 32 8)
theorem s_P_past5 (G : zG) (σ : zSt) (a r : Int32) (hb : hasP σ a r = true → ∃ i j, i < 12 ∧ j ≤ 20 ∧ a = nI i ∧ r = nI j) : zI G 2 M_P_past [zf G 0, .int a, .int r] σ (fun x τ => τ = σ ∧ x = pst (!hasP σ a r) r (σ 24 a.toNatClampNeg) (σ 30 (r * 12 + a).toNatClampNeg)) := by
  refine zSpec.of (by decide) (Nat.le_of_ble_eq_true rfl) rfl (fun X E => ?_)
  refine b_P_past_0 E a r σ ⟨_, s_P_hasRound G σ a r, ?_⟩
  rintro b τ ⟨e, eτ⟩
  have e : b = hasP σ a r := e
  rw [eτ]
  refine ⟨fun ht => ?_, fun hf => ⟨_, rfl, rfl, ?_⟩⟩
  · have ht := e.symm.trans ht
    obtain ⟨i, j, hi, hj, ea, er⟩ := hb ht
    refine ⟨by rw [ea]; exact vp_in_nI hi (by decide), fun q => ⟨by rw [ea, er, zi12]; exact vp_in_nI (by omega) (by decide), _, rfl, rfl, ?_⟩, fun q => ⟨_, rfl, rfl, ?_⟩⟩
    · unfold pst; rw [if_neg (by rw [ht]; decide), if_pos q]
    · unfold pst; rw [if_neg (by rw [ht]; decide), if_neg q]
  · unfold pst; rw [if_pos (by rw [← e, hf]; rfl)]
theorem s_Mo_past5 (G : zG) (σ : zSt) (a r : Int32) (hb : noM σ a r = false → ∃ i j, i < 12 ∧ j ≤ 20 ∧ a = nI i ∧ r = nI j) : zI G 2 M_Mo_past [zf G 32, .int a, .int r] σ (fun x τ => τ = σ ∧ x = pst (noM σ a r) r (σ 35 a.toNatClampNeg) (σ 49 (12 * r + a).toNatClampNeg)) := by
  refine zSpec.of (by decide) (Nat.le_of_ble_eq_true rfl) rfl (fun X E => ?_)
  refine b_Mo_past_0 E a r σ ⟨_, s_Mo_noPlace5 G σ a r, ?_⟩
  rintro b τ ⟨eτ, e⟩
  have e : b = noM σ a r := e
  rw [eτ]
  refine ⟨fun ht => ?_, fun hf => ⟨_, rfl, rfl, ?_⟩⟩
  · have ht := e.symm.trans ht
    obtain ⟨i, j, hi, hj, ea, er⟩ := hb ht
    refine ⟨by rw [ea]; exact vp_in_nI hi (by decide), fun q => ⟨by rw [ea, er, zi12']; exact vp_in_nI (by omega) (by decide), _, rfl, rfl, ?_⟩, fun q => ⟨_, rfl, rfl, ?_⟩⟩
    · unfold pst; rw [if_neg (by rw [ht]; decide), if_pos q]
    · unfold pst; rw [if_neg (by rw [ht]; decide), if_neg q]
  · unfold pst; rw [if_pos (by rw [← e, hf])]
theorem s_P_inStep5 (G : zG) (σ : zSt) (a r : Int32) (hb : hasP σ a r = true → ∃ i j, i < 12 ∧ j ≤ 20 ∧ a = nI i ∧ r = nI j) : zI G 2 M_P_inStep [zf G 0, .int a, .int r] σ (fun x τ => τ = σ ∧ x = pst (!hasP σ a r) 0 0 (σ 31 (r * 12 + a).toNatClampNeg)) := by
  refine zSpec.of (by decide) (Nat.le_of_ble_eq_true rfl) rfl (fun X E => ?_)
  refine b_P_inStep_0 E a r σ ⟨_, s_P_hasRound G σ a r, ?_⟩
  rintro b τ ⟨e, eτ⟩
  have e : b = hasP σ a r := e
  rw [eτ]
  refine ⟨fun hf => ⟨_, rfl, rfl, ?_⟩, fun ht => ?_⟩
  · unfold pst; rw [if_pos (by rw [← e, hf]; rfl)]
  · have ht := e.symm.trans ht
    obtain ⟨i, j, hi, hj, ea, er⟩ := hb ht
    refine ⟨by rw [ea, er, zi12]; exact vp_in_nI (by omega) (by decide), _, rfl, rfl, ?_⟩
    unfold pst; rw [if_neg (by rw [ht]; decide), if_pos (by decide)]
theorem s_Mo_inStep5 (G : zG) (σ : zSt) (a r : Int32) (hb : noM σ a r = false → ∃ i j, i < 12 ∧ j ≤ 20 ∧ a = nI i ∧ r = nI j) : zI G 2 M_Mo_inStep [zf G 32, .int a, .int r] σ (fun x τ => τ = σ ∧ x = pst (noM σ a r) 0 0 (σ 50 (12 * r + a).toNatClampNeg)) := by
  refine zSpec.of (by decide) (Nat.le_of_ble_eq_true rfl) rfl (fun X E => ?_)
  refine b_Mo_inStep_0 E a r σ ⟨_, s_Mo_noPlace5 G σ a r, ?_⟩
  rintro b τ ⟨eτ, e⟩
  have e : b = noM σ a r := e
  rw [eτ]
  refine ⟨fun ht => ?_, fun hf => ⟨_, rfl, rfl, ?_⟩⟩
  · have ht := e.symm.trans ht
    obtain ⟨i, j, hi, hj, ea, er⟩ := hb ht
    refine ⟨by rw [ea, er, zi12']; exact vp_in_nI (by omega) (by decide), _, rfl, rfl, ?_⟩
    unfold pst; rw [if_neg (by rw [ht]; decide), if_pos (by decide)]
  · unfold pst; rw [if_pos (by rw [← e, hf])]
section LETT
variable {off : Bool} {len v w c0 c1 c2 c3 c4 : Int32}
theorem lett_bad (h : off = true ∨ v < 0 ∨ len ≤ v ∨ w.toInt < 0 ∨ 4 < w.toInt) : lett off len v w c0 c1 c2 c3 c4 = -1 := if_pos h
theorem lett_0 (h : off = false) (h1 : ¬ v < 0) (h2 : ¬ len ≤ v) (hw : w.toInt = 0) : lett off len v w c0 c1 c2 c3 c4 = c0 := by unfold lett; rw [hw]; simp [h, h1, h2]
theorem lett_1 (h : off = false) (h1 : ¬ v < 0) (h2 : ¬ len ≤ v) (hw : w.toInt = 1) : lett off len v w c0 c1 c2 c3 c4 = c1 := by unfold lett; rw [hw]; simp [h, h1, h2]
theorem lett_2 (h : off = false) (h1 : ¬ v < 0) (h2 : ¬ len ≤ v) (hw : w.toInt = 2) : lett off len v w c0 c1 c2 c3 c4 = c2 := by unfold lett; rw [hw]; simp [h, h1, h2]
theorem lett_3 (h : off = false) (h1 : ¬ v < 0) (h2 : ¬ len ≤ v) (hw : w.toInt = 3) : lett off len v w c0 c1 c2 c3 c4 = c3 := by unfold lett; rw [hw]; simp [h, h1, h2]
theorem lett_4 (h : off = false) (h1 : ¬ v < 0) (h2 : ¬ len ≤ v) (hw : w.toInt = 4) : lett off len v w c0 c1 c2 c3 c4 = c4 := by unfold lett; rw [hw]; simp [h, h1, h2]
end LETT
theorem s_P_letter5 (G : zG) (σ : zSt) (v w : Int32) (hl : ¬ σ 0 1 = 0 → ∃ l, PV σ l) : zI G 1 M_P_letter [zf G 0, .int v, .int w] σ (fun x τ => τ = σ ∧ x = lett (decide (σ 0 1 = 0)) (σ 5 0) v w (σ 19 v.toNatClampNeg) (σ 20 v.toNatClampNeg) (σ 21 v.toNatClampNeg) (σ 22 v.toNatClampNeg) (σ 23 v.toNatClampNeg)) := by
  refine zSpec.of (by decide) (Nat.le_of_ble_eq_true rfl) rfl (fun X E => ?_)
  refine b_P_letter_0 E v w σ ⟨_, s_P_hasLetter G σ v, ?_⟩
  rintro b τ ⟨hb, eτ⟩
  rw [eτ]
  refine ⟨fun ht => ?_, fun hf => ⟨_, rfl, rfl, (lett_bad ?_).symm⟩⟩
  · rw [hb] at ht
    obtain ⟨h0, h1, h2⟩ := of_decide_eq_true ht
    obtain ⟨l, hP⟩ := hl h0
    obtain ⟨i, hi, ei⟩ := letter_of ht hP
    have ii : vp_in v 528 := by rw [ei]; exact vp_in_nI (by have := hP.2.1; omega) (by decide)
    have of : decide (σ 0 1 = 0) = false := decide_eq_false h0
    exact ⟨fun q => ⟨ii, _, rfl, rfl, (lett_0 of h1 h2 q).symm⟩, fun q => ⟨ii, _, rfl, rfl, (lett_1 of h1 h2 q).symm⟩, fun q => ⟨ii, _, rfl, rfl, (lett_2 of h1 h2 q).symm⟩, fun q => ⟨ii, _, rfl, rfl, (lett_3 of h1 h2 q).symm⟩, fun q => ⟨ii, _, rfl, rfl, (lett_4 of h1 h2 q).symm⟩, fun q => ⟨_, rfl, rfl, (lett_bad (Or.inr (Or.inr (Or.inr q)))).symm⟩⟩
  · have hf := of_decide_eq_false (hb.symm.trans hf)
    by_cases q1 : σ 0 1 = 0
    · exact Or.inl (decide_eq_true q1)
    · by_cases q2 : v < 0
      · exact Or.inr (Or.inl q2)
      · by_cases q3 : σ 5 0 ≤ v
        · exact Or.inr (Or.inr (Or.inl q3))
        · exact absurd ⟨q1, q2, q3⟩ hf
theorem s_Mo_letter5 (G : zG) (σ : zSt) (v w : Int32) (hl : ¬ σ 32 4 = 0 → ∃ l, ML σ l) : zI G 0 M_Mo_letter [zf G 32, .int v, .int w] σ (fun x τ => τ = σ ∧ x = lett (decide (σ 32 4 = 0)) (σ 32 27) v w (σ 51 (5 * v.toNatClampNeg)) (σ 51 (5 * v.toNatClampNeg + 1)) (σ 51 (5 * v.toNatClampNeg + 2)) (σ 51 (5 * v.toNatClampNeg + 3)) (σ 51 (5 * v.toNatClampNeg + 4))) := by
  refine zSpec.of (by decide) (Nat.le_of_ble_eq_true rfl) rfl (fun X E => ?_)
  have z4 : (4 : Int32).toInt = 4 := by decide
  refine b_Mo_letter_0 E v w σ ⟨fun q => ⟨_, rfl, rfl, (lett_bad (Or.inl (decide_eq_true q))).symm⟩, fun h4 => ⟨fun q => ⟨_, rfl, rfl, (lett_bad (Or.inr (Or.inl q))).symm⟩, fun h0 => ⟨fun q => ⟨_, rfl, rfl, (lett_bad (Or.inr (Or.inr (Or.inl q)))).symm⟩, fun hlt => ⟨fun q => ⟨_, rfl, rfl, (lett_bad (Or.inr (Or.inr (Or.inr (Or.inl (ilt0.mp q)))))).symm⟩, fun hw0 => ⟨fun hw4 => ?_, fun q => ⟨_, rfl, rfl, (lett_bad (Or.inr (Or.inr (Or.inr (Or.inr (by have := i32_lt.mp (Int32.not_le.mp q); rw [z4] at this; exact this)))))).symm⟩⟩⟩⟩⟩⟩
  obtain ⟨l, hL⟩ := hl h4
  have hl4 := hL.2.1
  have hlt' := hlt
  rw [hL.1] at hlt'
  have of : decide (σ 32 4 = 0) = false := decide_eq_false h4
  have w0 : ¬ w.toInt < 0 := fun q => hw0 (ilt0.mpr q)
  have w4 : w.toInt ≤ 4 := by have := i32_le.mp hw4; rw [z4] at this; exact this
  rcases pk_ix v (n := l.length) (by omega) with q | q | ⟨i, hi, ei⟩
  · exact absurd q h0
  · exact absurd q hlt'
  have ci : v.toNatClampNeg = i := by rw [ei]; exact nI_clamp (by omega)
  have ew : w = nI w.toInt.toNat := i32_of (by omega) (by omega)
  have ix : ((5 : Int32) * v) + w = nI (5 * i + w.toInt.toNat) := by
    rw [ei, show (5 : Int32) = nI 5 from rfl, pk_mul]
    conv => lhs; rw [ew]
    rw [nI_add]
  rw [ix, nI_clamp (by omega)]
  refine ⟨vp_in_nI (by omega) (by decide), _, rfl, rfl, ?_⟩
  rw [ci]
  have hc : w.toInt = 0 ∨ w.toInt = 1 ∨ w.toInt = 2 ∨ w.toInt = 3 ∨ w.toInt = 4 := by omega
  rcases hc with q | q | q | q | q
  · rw [lett_0 of h0 hlt q, q]; rfl
  · rw [lett_1 of h0 hlt q, q]; rfl
  · rw [lett_2 of h0 hlt q, q]; rfl
  · rw [lett_3 of h0 hlt q, q]; rfl
  · rw [lett_4 of h0 hlt q, q]; rfl
section CNTW
variable {off : Bool} {w c0 c1 c2 c3 c4 c5 c6 c7 c8 c9 : Int32}
theorem cntW_0 (hw : w.toInt = 0) : cntW off w c0 c1 c2 c3 c4 c5 c6 c7 c8 c9 = c0 := if_pos hw
theorem cntW_1 (hw : w.toInt = 1) : cntW off w c0 c1 c2 c3 c4 c5 c6 c7 c8 c9 = c1 := by unfold cntW; rw [hw]; simp
theorem cntW_bad (h0 : ¬ w.toInt = 0) (h1 : ¬ w.toInt = 1) (h : off = true ∨ w.toInt < 0 ∨ 9 < w.toInt) : cntW off w c0 c1 c2 c3 c4 c5 c6 c7 c8 c9 = -1 := by unfold cntW; rw [if_neg h0, if_neg h1, if_pos h]
theorem cntW_2 (h : off = false) (hw : w.toInt = 2) : cntW off w c0 c1 c2 c3 c4 c5 c6 c7 c8 c9 = c2 := by unfold cntW; rw [hw]; simp [h]
theorem cntW_3 (h : off = false) (hw : w.toInt = 3) : cntW off w c0 c1 c2 c3 c4 c5 c6 c7 c8 c9 = c3 := by unfold cntW; rw [hw]; simp [h]
theorem cntW_4 (h : off = false) (hw : w.toInt = 4) : cntW off w c0 c1 c2 c3 c4 c5 c6 c7 c8 c9 = c4 := by unfold cntW; rw [hw]; simp [h]
theorem cntW_5 (h : off = false) (hw : w.toInt = 5) : cntW off w c0 c1 c2 c3 c4 c5 c6 c7 c8 c9 = c5 := by unfold cntW; rw [hw]; simp [h]
theorem cntW_6 (h : off = false) (hw : w.toInt = 6) : cntW off w c0 c1 c2 c3 c4 c5 c6 c7 c8 c9 = c6 := by unfold cntW; rw [hw]; simp [h]
theorem cntW_7 (h : off = false) (hw : w.toInt = 7) : cntW off w c0 c1 c2 c3 c4 c5 c6 c7 c8 c9 = c7 := by unfold cntW; rw [hw]; simp [h]
theorem cntW_8 (h : off = false) (hw : w.toInt = 8) : cntW off w c0 c1 c2 c3 c4 c5 c6 c7 c8 c9 = c8 := by unfold cntW; rw [hw]; simp [h]
theorem cntW_9 (h : off = false) (hw : w.toInt = 9) : cntW off w c0 c1 c2 c3 c4 c5 c6 c7 c8 c9 = c9 := by unfold cntW; rw [hw]; simp [h]
theorem cntW_same {d2 d3 d4 d5 d6 d7 d8 d9 : Int32} : cntW true w c0 c1 c2 c3 c4 c5 c6 c7 c8 c9 = cntW true w c0 c1 d2 d3 d4 d5 d6 d7 d8 d9 := by unfold cntW; simp
end CNTW
theorem s_Course_leastRound5 (G : zG) (σ : zSt) (n : Nat) (hn : σ 2 0 = nI n) (hle : n ≤ 12) : zI G 1 M_Course_leastRound [zf G 1] σ (fun x τ => τ = σ ∧ x = lstI (σ 24) (σ 1 5) n) := by
  refine zSpec.of (by decide) (Nat.le_of_ble_eq_true rfl) rfl (fun X E => ?_)
  refine b_Course_leastRound_0 E σ ?_
  refine z_for n (fun i τ => zZ G M_Course_leastRound 1 X (fun r τ => ∃ x : Int32, r = some (.int x) ∧ τ = σ ∧ x = lstI (σ 24) (σ 1 5) n) 7 [(0, zf G 1), (1, .int (lstI (σ 24) (σ 1 5) i)), (2, .int (nI i))] [] τ) (fun _ τ => τ = σ) ?_ ?_ 0 σ (Nat.zero_le _) rfl
  · intro i τ hi e ih
    rw [e]
    refine b_Course_leastRound_7 E _ (nI i) σ ⟨fun q => absurd q (by rw [hn]; exact nI_ge hi (by omega)), fun _ => ⟨vp_in_nI (by omega) (by decide), ?_⟩⟩
    rw [nI_1, nI_clamp (by omega)]
    exact ih σ rfl
  · intro τ e
    rw [e]
    exact b_Course_leastRound_7 E _ (nI n) σ ⟨fun _ => ⟨_, rfl, rfl, rfl⟩, fun q => absurd (by rw [hn]; exact nI_le (Nat.le_refl n) (by omega)) q⟩
theorem s_Course_greatestRound5 (G : zG) (σ : zSt) (n : Nat) (hn : σ 2 0 = nI n) (hle : n ≤ 12) : zI G 1 M_Course_greatestRound [zf G 1] σ (fun x τ => τ = σ ∧ x = gstI (σ 24) n) := by
  refine zSpec.of (by decide) (Nat.le_of_ble_eq_true rfl) rfl (fun X E => ?_)
  refine b_Course_greatestRound_0 E σ ?_
  refine z_for n (fun i τ => zZ G M_Course_greatestRound 1 X (fun r τ => ∃ x : Int32, r = some (.int x) ∧ τ = σ ∧ x = gstI (σ 24) n) 4 [(0, zf G 1), (1, .int (gstI (σ 24) i)), (2, .int (nI i))] [] τ) (fun _ τ => τ = σ) ?_ ?_ 0 σ (Nat.zero_le _) rfl
  · intro i τ hi e ih
    rw [e]
    refine b_Course_greatestRound_4 E _ (nI i) σ ⟨fun q => absurd q (by rw [hn]; exact nI_ge hi (by omega)), fun _ => ⟨vp_in_nI (by omega) (by decide), ?_⟩⟩
    rw [nI_1, nI_clamp (by omega)]
    exact ih σ rfl
  · intro τ e
    rw [e]
    exact b_Course_greatestRound_4 E _ (nI n) σ ⟨fun _ => ⟨_, rfl, rfl, rfl⟩, fun q => absurd (by rw [hn]; exact nI_le (Nat.le_refl n) (by omega)) q⟩
theorem s_Course_isOver5 (G : zG) (σ : zSt) (n : Nat) (hn : σ 2 0 = nI n) (hle : n ≤ 12) : zB G 2 M_Course_isOver [zf G 1] σ (fun b τ => τ = σ ∧ b = decide (σ 5 0 = 0 ∧ lstI (σ 24) (σ 1 5) n = σ 1 5)) := by
  refine zSpec.of (by decide) (Nat.le_of_ble_eq_true rfl) rfl (fun X E => ?_)
  refine b_Course_isOver_0 E σ ⟨fun q => ⟨false, rfl, rfl, (decide_eq_false (fun z => q z.1)).symm⟩, fun h0 => ⟨_, s_Course_leastRound5 G σ n hn hle, fun x τ ⟨e, ex⟩ => ?_⟩⟩
  rw [e, ex]
  exact ⟨fun q => ⟨false, rfl, rfl, (decide_eq_false (fun z => q z.2)).symm⟩, fun q => ⟨true, rfl, rfl, (decide_eq_true ⟨h0, q⟩).symm⟩⟩
theorem s_P_count5 (G : zG) (σ : zSt) (n : Nat) (w : Int32) (hn : σ 2 0 = nI n) (hle : n ≤ 12) : zI G 3 M_P_count [zf G 0, .int w] σ (fun x τ => τ = σ ∧ x = cntW (decide (σ 0 1 = 0)) w (σ 2 0) (σ 2 1) (σ 5 0) (σ 1 6) (σ 1 7) (lstI (σ 24) (σ 1 5) n) (gstI (σ 24) n) (if σ 5 0 = 0 ∧ lstI (σ 24) (σ 1 5) n = σ 1 5 then 1 else 0) (σ 3 0) (σ 3 1)) := by
  refine zSpec.of (by decide) (Nat.le_of_ble_eq_true rfl) rfl (fun X E => ?_)
  have z1 : (1 : Int32).toInt = 1 := by decide
  refine b_P_count_0 E w σ ⟨fun h0 => ⟨fun h1 => ?_, fun h1 => ⟨_, rfl, rfl, (cntW_1 (by rw [h1]; exact z1)).symm⟩⟩, fun h0 => ⟨_, rfl, rfl, (cntW_0 (by rw [h0]; exact i0)).symm⟩⟩
  have w0 : ¬ w.toInt = 0 := fun q => h0 (Int32.toInt_inj.mp (by rw [q, i0]))
  have w1 : ¬ w.toInt = 1 := fun q => h1 (Int32.toInt_inj.mp (by rw [q, z1]))
  refine ⟨fun hs => ?_, fun hs => ⟨_, rfl, rfl, (cntW_bad w0 w1 (Or.inl (decide_eq_true hs))).symm⟩⟩
  have of : decide (σ 0 1 = 0) = false := decide_eq_false hs
  refine ⟨fun q => ⟨_, rfl, rfl, (cntW_2 of q).symm⟩, fun q => ⟨_, rfl, rfl, (cntW_3 of q).symm⟩, fun q => ⟨_, rfl, rfl, (cntW_4 of q).symm⟩, fun q => ⟨_, s_Course_leastRound5 G σ n hn hle, fun x τ ⟨e, ex⟩ => ⟨_, rfl, e, by rw [cntW_5 of q]; exact ex⟩⟩, fun q => ⟨_, s_Course_greatestRound5 G σ n hn hle, fun x τ ⟨e, ex⟩ => ⟨_, rfl, e, by rw [cntW_6 of q]; exact ex⟩⟩, fun q => ⟨_, s_Course_isOver5 G σ n hn hle, fun b τ ⟨e, eb⟩ => ⟨fun z => ⟨_, rfl, e, ?_⟩, fun z => ⟨_, rfl, e, ?_⟩⟩⟩, fun q => ⟨_, rfl, rfl, (cntW_8 of q).symm⟩, fun q => ⟨_, rfl, rfl, (cntW_9 of q).symm⟩, fun q => ⟨_, rfl, rfl, (cntW_bad w0 w1 (Or.inr (by omega))).symm⟩⟩
  · rw [cntW_7 of q, if_neg (of_decide_eq_false (eb.symm.trans z))]
  · rw [cntW_7 of q, if_pos (of_decide_eq_true (eb.symm.trans z))]
theorem s_Mo_count5 (G : zG) (σ : zSt) (n : Nat) (w : Int32) (hn : σ 32 0 = nI n) (hle : n ≤ 12) : zI G 0 M_Mo_count [zf G 32, .int w] σ (fun x τ => τ = σ ∧ x = cntW (decide (σ 32 4 = 0)) w (σ 32 0) (σ 32 1) (σ 32 27) (σ 32 29) (σ 32 30) (lstI (σ 35) 99 n) (gstI (σ 35) n) (if σ 32 27 = 0 ∧ lstI (σ 35) 99 n = σ 32 8 then 1 else 0) (σ 32 19) (σ 32 20)) := by
  refine zSpec.of (by decide) (Nat.le_of_ble_eq_true rfl) rfl (fun X E => ?_)
  have z1 : (1 : Int32).toInt = 1 := by decide
  have z9 : (9 : Int32).toInt = 9 := by decide
  have loop : ¬ w.toInt < 0 → ¬ 9 < w.toInt → (¬ σ 32 4 = 0 ∨ w.toInt ≤ 1) → zZ G M_Mo_count 0 X (fun r τ => ∃ x : Int32, r = some (.int x) ∧ τ = σ ∧ x = cntW (decide (σ 32 4 = 0)) w (σ 32 0) (σ 32 1) (σ 32 27) (σ 32 29) (σ 32 30) (lstI (σ 35) 99 n) (gstI (σ 35) n) (if σ 32 27 = 0 ∧ lstI (σ 35) 99 n = σ 32 8 then 1 else 0) (σ 32 19) (σ 32 20)) 32 [(0, zf G 32), (1, .int w), (2, .int (99 : Int32)), (3, .int (0 : Int32)), (4, .int (0 : Int32))] [] σ := by
    intro w0 w9 hs
    refine z_for n (fun i τ => zZ G M_Mo_count 0 X (fun r τ => ∃ x : Int32, r = some (.int x) ∧ τ = σ ∧ x = cntW (decide (σ 32 4 = 0)) w (σ 32 0) (σ 32 1) (σ 32 27) (σ 32 29) (σ 32 30) (lstI (σ 35) 99 n) (gstI (σ 35) n) (if σ 32 27 = 0 ∧ lstI (σ 35) 99 n = σ 32 8 then 1 else 0) (σ 32 19) (σ 32 20)) 32 [(0, zf G 32), (1, .int w), (2, .int (lstI (σ 35) 99 i)), (3, .int (gstI (σ 35) i)), (4, .int (nI i))] [] τ) (fun _ τ => τ = σ) ?_ ?_ 0 σ (Nat.zero_le _) rfl
    · intro i τ hi e ih
      rw [e]
      have ii : vp_in (nI i) 12 := vp_in_nI (by omega) (by decide)
      have ci : (nI i).toNatClampNeg = i := nI_clamp (by omega)
      have l1 : lstI (σ 35) 99 i ≤ σ 35 i → lstI (σ 35) 99 (i + 1) = lstI (σ 35) 99 i := fun q => if_neg (Int32.not_lt.mpr q)
      have l2 : ¬ lstI (σ 35) 99 i ≤ σ 35 i → lstI (σ 35) 99 (i + 1) = σ 35 i := fun q => if_pos (Int32.not_le.mp q)
      have m1 : σ 35 i ≤ gstI (σ 35) i → gstI (σ 35) (i + 1) = gstI (σ 35) i := fun q => if_neg (Int32.not_lt.mpr q)
      have m2 : ¬ σ 35 i ≤ gstI (σ 35) i → gstI (σ 35) (i + 1) = σ 35 i := fun q => if_pos (Int32.not_le.mp q)
      have nx := ih σ rfl
      refine b_Mo_count_32 E w _ _ (nI i) σ ⟨fun q => absurd q (by rw [hn]; exact nI_ge hi (by omega)), fun _ => ⟨ii, ?_⟩⟩
      rw [ci, nI_1]
      refine ⟨fun q1 => ⟨ii, fun q2 => ?_, fun q2 => ⟨ii, ?_⟩⟩, fun q1 => ⟨ii, ii, fun q2 => ?_, fun q2 => ⟨ii, ?_⟩⟩⟩
      · rw [l1 q1, m1 q2] at nx; exact nx
      · rw [l1 q1, m2 q2] at nx; exact nx
      · rw [l2 q1, m1 q2] at nx; exact nx
      · rw [l2 q1, m2 q2] at nx; exact nx
    · intro τ e
      rw [e]
      refine b_Mo_count_32 E w _ _ (nI n) σ ⟨fun _ => ?_, fun q => absurd (by rw [hn]; exact nI_le (Nat.le_refl n) (by omega)) q⟩
      have off : ¬ w.toInt ≤ 1 → decide (σ 32 4 = 0) = false := fun q => decide_eq_false (hs.elim id (fun z => absurd z q))
      refine ⟨fun q => ⟨_, rfl, rfl, (cntW_0 q).symm⟩, fun q => ⟨_, rfl, rfl, (cntW_1 q).symm⟩, fun q => ⟨_, rfl, rfl, (cntW_2 (off (by omega)) q).symm⟩, fun q => ⟨_, rfl, rfl, (cntW_3 (off (by omega)) q).symm⟩, fun q => ⟨_, rfl, rfl, (cntW_4 (off (by omega)) q).symm⟩, fun q => ⟨_, rfl, rfl, (cntW_5 (off (by omega)) q).symm⟩, fun q => ⟨_, rfl, rfl, (cntW_6 (off (by omega)) q).symm⟩, fun q => ⟨fun z => ⟨_, rfl, rfl, ?_⟩, fun z => ⟨fun z2 => ⟨_, rfl, rfl, ?_⟩, fun z2 => ⟨_, rfl, rfl, ?_⟩⟩⟩, fun q => ⟨_, rfl, rfl, (cntW_8 (off (by omega)) q).symm⟩, fun q => ⟨_, rfl, rfl, (cntW_9 (off (by omega)) (by omega)).symm⟩⟩
      · rw [cntW_7 (off (by omega)) q, if_neg (fun y => z y.2)]
      · rw [cntW_7 (off (by omega)) q, if_neg (fun y => z2 y.1)]
      · rw [cntW_7 (off (by omega)) q, if_pos ⟨z2, z⟩]
  refine b_Mo_count_0 E w σ ⟨fun q => ⟨_, rfl, rfl, ?_⟩, fun h0 => ⟨fun q => ⟨_, rfl, rfl, ?_⟩, fun h9 => ?_⟩⟩
  · have := ilt0.mp q
    exact (cntW_bad (by omega) (by omega) (Or.inr (Or.inl this))).symm
  · have := i32_lt.mp q
    rw [z9] at this
    exact (cntW_bad (by omega) (by omega) (Or.inr (Or.inr this))).symm
  have w0 : ¬ w.toInt < 0 := fun q => h0 (ilt0.mpr q)
  have w9 : ¬ 9 < w.toInt := fun q => h9 (i32_lt.mpr (by rw [z9]; exact q))
  refine ⟨fun q => loop w0 w9 (Or.inr (by have := i32_le.mp q; rw [z1] at this; exact this)), fun q => ⟨fun hs => loop w0 w9 (Or.inl hs), fun hs => ⟨_, rfl, rfl, ?_⟩⟩⟩
  have : ¬ w.toInt ≤ 1 := fun z => q (i32_le.mpr (by rw [z1]; exact z))
  exact (cntW_bad (by omega) (by omega) (Or.inl (decide_eq_true hs))).symm
theorem dR_s {P : Nat → Nat → Bool} {a k : Nat} : dR P a (k + 1) = dR P a k + (if P k a = true then 0 else 1) := rfl
theorem s_Course_countWrong5 (G : zG) (σ : zSt) (n : Nat) (rd : Nat → Nat) (hn : σ 2 0 = nI n) (hle : n ≤ 12) (hrd : ∀ a, a < n → σ 24 a = nI (rd a) ∧ rd a ≤ 20) : zI G 1 M_Course_countWrong [zf G 1] σ (fun x τ => τ = σ ∧ x = nI (dA (fun r a => decide (σ 30 (r * 12 + a) = σ 31 (r * 12 + a))) rd n)) := by
  generalize hP : (fun r a => decide (σ 30 (r * 12 + a) = σ 31 (r * 12 + a))) = P
  refine zSpec.of (by decide) (Nat.le_of_ble_eq_true rfl) rfl (fun X E => ?_)
  have eP : ∀ r a, P r a = decide (σ 30 (r * 12 + a) = σ 31 (r * 12 + a)) := fun r a => by rw [← hP]
  refine b_Course_countWrong_0 E σ ?_
  refine z_for n (fun i τ => zZ G M_Course_countWrong 1 X (fun r τ => ∃ x : Int32, r = some (.int x) ∧ τ = σ ∧ x = nI (dA P rd n)) 4 [(0, zf G 1), (1, .int (nI (dA P rd i))), (2, .int (nI i))] [] τ) (fun _ τ => τ = σ) ?_ ?_ 0 σ (Nat.zero_le _) rfl
  · intro a τ ha e ih
    rw [e]
    refine b_Course_countWrong_4 E _ (nI a) σ ⟨fun q => absurd q (by rw [hn]; exact nI_ge ha (by omega)), fun _ => ?_⟩
    obtain ⟨r1, r2⟩ := hrd a ha
    have ia : vp_in (nI a) 12 := vp_in_nI (by omega) (by decide)
    have ca : (nI a).toNatClampNeg = a := nI_clamp (by omega)
    refine z_for (rd a + 1) (fun i τ => zZ G M_Course_countWrong 1 X (fun r τ => ∃ x : Int32, r = some (.int x) ∧ τ = σ ∧ x = nI (dA P rd n)) 17 [(0, zf G 1), (1, .int (nI (dA P rd a + dR P a i))), (2, .int (nI a)), (3, .int (nI i))] [] τ) (fun _ τ => τ = σ) ?_ ?_ 0 σ (Nat.zero_le _) rfl
    · intro i τ hi e2 ih2
      rw [e2]
      have nx := ih2 σ rfl
      rw [dR_s] at nx
      have iz : vp_in (nI i * 12 + nI a) 252 := by rw [zi12]; exact vp_in_nI (by omega) (by decide)
      refine b_Course_countWrong_17 E _ (nI a) (nI i) σ ⟨ia, fun q => absurd q ?_, fun _ => ⟨iz, iz, ?_⟩⟩
      · rw [ca, r1]
        exact fun q => by
          have := i32_lt.mp q
          rw [nI_toInt (by omega), nI_toInt (by omega)] at this
          omega
      · rw [zi12, nI_clamp (by omega), nI_1, nI_1]
        refine ⟨fun q => ?_, fun q => ?_⟩
        · rw [if_neg (by rw [eP, decide_eq_false q]; decide), ← Nat.add_assoc] at nx
          exact nx
        · rw [if_pos (by rw [eP, decide_eq_true q]), Nat.add_zero] at nx
          rw [Int32.add_zero]; exact nx
    · intro τ e2
      rw [e2]
      refine b_Course_countWrong_17 E _ (nI a) (nI (rd a + 1)) σ ⟨ia, fun _ => ?_, fun q => absurd ?_ q⟩
      · rw [nI_1]; exact ih σ rfl
      · rw [ca, r1]; exact nI_lt (by omega) (by omega)
  · intro τ e
    rw [e]
    exact b_Course_countWrong_4 E _ (nI n) σ ⟨fun _ => ⟨_, rfl, rfl, rfl⟩, fun q => absurd (by rw [hn]; exact nI_le (Nat.le_refl n) (by omega)) q⟩
theorem s_P_differ5 (G : zG) (σ : zSt) (n : Nat) (rd : Nat → Nat) (hn : σ 2 0 = nI n) (hle : n ≤ 12) (hrd : ¬ σ 0 1 = 0 → ∀ a, a < n → σ 24 a = nI (rd a) ∧ rd a ≤ 20) : zI G 2 M_P_differ [zf G 0] σ (fun x τ => τ = σ ∧ x = if σ 0 1 = 0 then -1 else nI (dA (fun r a => decide (σ 30 (r * 12 + a) = σ 31 (r * 12 + a))) rd n)) := by
  refine zSpec.of (by decide) (Nat.le_of_ble_eq_true rfl) rfl (fun X E => ?_)
  refine b_P_differ_0 E σ ⟨fun hs => ⟨_, rfl, rfl, (if_pos hs).symm⟩, fun hs => ⟨_, s_Course_countWrong5 G σ n rd hn hle (hrd hs), fun x τ ⟨e, ex⟩ => ⟨_, rfl, e, ?_⟩⟩⟩
  rw [if_neg hs]; exact ex
theorem s_Mo_differ5 (G : zG) (σ : zSt) (n : Nat) (rd : Nat → Nat) (hn : σ 32 0 = nI n) (h1 : 1 ≤ n) (hle : n ≤ 12) (hrd : ¬ σ 32 4 = 0 → ∀ a, a < n → σ 35 a = nI (rd a) ∧ rd a ≤ 20) : zI G 0 M_Mo_differ [zf G 32] σ (fun x τ => τ = σ ∧ x = if σ 32 4 = 0 then -1 else nI (dA (fun r a => decide (σ 49 (12 * r + a) = σ 50 (12 * r + a))) rd n)) := by
  generalize hP : (fun r a => decide (σ 49 (12 * r + a) = σ 50 (12 * r + a))) = P
  have eP : ∀ r a, P r a = decide (σ 49 (12 * r + a) = σ 50 (12 * r + a)) := fun r a => by rw [← hP]
  by_cases hs : σ 32 4 = 0
  · rw [if_pos hs]
    refine zSpec.of (by decide) (Nat.le_of_ble_eq_true rfl) rfl (fun X E => ?_)
    refine b_Mo_differ_0 E σ ?_
    exact b_Mo_differ_4 E 0 0 σ ⟨fun _ => ⟨fun _ => ⟨_, rfl, rfl, rfl⟩, fun q => absurd hs q⟩, fun _ => ⟨fun _ => ⟨fun _ => ⟨_, rfl, rfl, rfl⟩, fun q => absurd hs q⟩, fun q => absurd hs q⟩⟩
  rw [if_neg hs]
  refine zSpec.of (by decide) (Nat.le_of_ble_eq_true rfl) rfl (fun X E => ?_)
  refine b_Mo_differ_0 E σ ?_
  have hrd := hrd hs
  refine z_for n (fun i τ => zZ G M_Mo_differ 0 X (fun r τ => ∃ x : Int32, r = some (.int x) ∧ τ = σ ∧ x = nI (dA P rd n)) 4 [(0, zf G 32), (1, .int (nI (dA P rd i))), (2, .int (nI i))] [] τ) (fun _ τ => τ = σ) ?_ ?_ 0 σ (Nat.zero_le _) rfl
  · intro a τ ha e ih
    rw [e]
    refine b_Mo_differ_4 E _ (nI a) σ ⟨fun q => absurd q (by rw [hn]; exact nI_ge ha (by omega)), fun _ => ⟨fun q => absurd q hs, fun _ => ?_⟩⟩
    obtain ⟨r1, r2⟩ := hrd a ha
    have ia : vp_in (nI a) 12 := vp_in_nI (by omega) (by decide)
    have ca : (nI a).toNatClampNeg = a := nI_clamp (by omega)
    refine z_for (rd a + 1) (fun i τ => zZ G M_Mo_differ 0 X (fun r τ => ∃ x : Int32, r = some (.int x) ∧ τ = σ ∧ x = nI (dA P rd n)) 21 [(0, zf G 32), (1, .int (nI (dA P rd a + dR P a i))), (2, .int (nI a)), (3, .int (nI i))] [] τ) (fun _ τ => τ = σ) ?_ ?_ 0 σ (Nat.zero_le _) rfl
    · intro i τ hi e2 ih2
      rw [e2]
      have nx := ih2 σ rfl
      rw [dR_s] at nx
      have iz : vp_in (((12 : Int32) * nI i) + nI a) 252 := by rw [zi12']; exact vp_in_nI (by omega) (by decide)
      refine b_Mo_differ_21 E _ (nI a) (nI i) σ ⟨ia, fun q => absurd q ?_, fun _ => ⟨iz, iz, ?_⟩⟩
      · rw [ca, r1]
        exact fun q => by
          have := i32_lt.mp q
          rw [nI_toInt (by omega), nI_toInt (by omega)] at this
          omega
      · rw [zi12', nI_clamp (by omega), nI_1, nI_1]
        refine ⟨fun q => ?_, fun q => ?_⟩
        · rw [if_neg (by rw [eP, decide_eq_false q]; decide), ← Nat.add_assoc] at nx
          exact nx
        · rw [if_pos (by rw [eP, decide_eq_true q]), Nat.add_zero] at nx
          rw [Int32.add_zero]; exact nx
    · intro τ e2
      rw [e2]
      refine b_Mo_differ_21 E _ (nI a) (nI (rd a + 1)) σ ⟨ia, fun _ => ?_, fun q => absurd ?_ q⟩
      · rw [nI_1]; exact ih σ rfl
      · rw [ca, r1]; exact nI_lt (by omega) (by omega)
  · intro τ e
    rw [e]
    exact b_Mo_differ_4 E _ (nI n) σ ⟨fun _ => ⟨fun q => absurd q hs, fun _ => ⟨_, rfl, rfl, rfl⟩⟩, fun q => absurd (by rw [hn]; exact nI_le (Nat.le_refl n) (by omega)) q⟩
end
section
-- Class and reference answer alike: the invariant of the running
section INVES
variable {σ τ υ : zSt} {n R W p : Nat} {src : Int32} {mk : Nat → Int32} {len : Nat → Nat → Int32} {lk pa : Nat → Nat → Bool} {up : Nat → Option Nat} {ld : Nat → Nat} {A A' : AS}
theorem INVE.par (h : INVE σ) : ∃ (n R W p : Nat) (src : Int32) (mk : Nat → Int32) (len : Nat → Nat → Int32) (lk pa : Nat → Nat → Bool) (up : Nat → Option Nat) (ld : Nat → Nat) (A : AS), ¬ σ 0 1 = 0 → RUNP σ n R W p src mk len lk pa up ld A := by
  by_cases q : σ 0 1 = 0
  · exact ⟨0, 0, 0, 0, 0, fun _ => 0, fun _ _ => 0, fun _ _ => false, fun _ _ => false, fun _ => none, fun _ => 0, A0 0 0 (fun _ => 0) (S00 σ 0), fun z => absurd q z⟩
  · obtain ⟨n, R, W, p, src, mk, len, lk, pa, up, ld, A, hr⟩ := h.2.2 q
    exact ⟨n, R, W, p, src, mk, len, lk, pa, up, ld, A, fun _ => hr⟩
/-- the class's half of a step, then the reference's -/
theorem RUNP.step (h : RUNP σ n R W p src mk len lk pa up ld A) (k1 : RF FR σ τ) (k2 : CA τ n W pa up A') (k3 : MF FHan [27, 29, 30] τ υ) (k4 : MA υ n A') (k5 : QR n R W p lk pa up ld A') : RUNP υ n R W p src mk len lk pa up ld A' := by
  obtain ⟨h1, h2, h3, _, _, _, h7, h8, h9⟩ := h
  have e1 : ∀ c, 32 ≤ c → τ c = σ c := lowFX (FR_x k1)
  have e2 : ∀ c, c < 32 → υ c = τ c := hiMF (k3.mono (by decide) (by decide))
  have e32 : τ 32 = σ 32 := e1 32 (by decide)
  refine ⟨(h1.of k1).lo2 e2, (h2.hi2 e1).of k3 (by decide) (by decide), h3, k2.lo2 e2, k4, k5, ?_, ?_, ?_⟩
  · rw [e2 10 (by decide), e2 9 (by decide), k1.at (c := 10) (by decide), k1.at (c := 9) (by decide), k3.at (c := 41) (by decide), k3.at (c := 42) (by decide), e1 41 (by decide), e1 42 (by decide)]
    exact h7
  · rw [e2 3 (by decide), k1.at (c := 3) (by decide), k3.2 19 (by decide), k3.2 20 (by decide), e32]
    exact h8
  · rw [e2 31 (by decide), k1.at (c := 31) (by decide), k3.at (c := 50) (by decide), e1 50 (by decide)]
    exact h9
theorem INVE.step (h : INVE σ) (hs : ¬ σ 0 1 = 0) (hP : RUNP σ n R W p src mk len lk pa up ld A) (k1 : RF FR σ τ) (k2 : CA τ n W pa up A') (k3 : MF FHan [27, 29, 30] τ υ) (k4 : MA υ n A') (k5 : QR n R W p lk pa up ld A') : INVE υ := by
  have e0 : υ 0 = σ 0 := by rw [hiMF (k3.mono (by decide) (by decide)) 0 (by decide), k1.at (by decide)]
  have e4 : υ 32 4 = σ 32 4 := by rw [k3.2 4 (by decide), k1.at (by decide)]
  exact ⟨(h.1.c (FR_x k1)).m (k3.mono (by decide) (by decide)), by rw [e0, e4]; exact h.2.1, fun _ => ⟨n, R, W, p, src, mk, len, lk, pa, up, ld, A', hP.step k1 k2 k3 k4 k5⟩⟩
theorem PCO.hi {v x : Int32} (h : PCO n R W p src mk len lk pa up ld A σ v x τ) : ∀ c, 32 ≤ c → τ c = σ c := by
  rcases h with ⟨_, e, _⟩ | ⟨_, i, _, _, _, k, _⟩
  · intro c _; rw [e]
  · exact lowFX (FR_x k)
theorem PFO.hi {m s : Int32} (h : PFO n R W p src mk len lk pa up ld A σ m s τ) : ∀ c, 32 ≤ c → τ c = σ c := by
  rcases h with ⟨e, _⟩ | ⟨_, _, k, _⟩
  · intro c _; rw [e]
  · exact lowFX (FR_x k)
theorem w_P_come5 (G : zG) (σ : zSt) (v : Int32) (hP : ¬ σ 0 1 = 0 → RUNP σ n R W p src mk len lk pa up ld A) : zI G 7 M_P_come [zf G 0, .int v] σ (fun x τ => PCO n R W p src mk len lk pa up ld A σ v x τ) := e_P_come G σ v (fun q => (hP q).rc)
theorem w_Mo_come5 (G : zG) (σ τ : zSt) (v : Int32) {x : Int32} (h : INVE σ) (hP : ¬ σ 0 1 = 0 → RUNP σ n R W p src mk len lk pa up ld A) (h1 : PCO n R W p src mk len lk pa up ld A σ v x τ) : zI G 5 M_Mo_come [zf G 32, .int v] τ (fun y υ => MCO n R W p src mk len lk pa up A τ v y υ) := e_Mo_come G τ v (fun q => by
  rw [h1.hi 32 (by decide)] at q
  exact (hP (fun z => q (h.2.1.mp z))).rm h1.hi)
theorem w_P_flow5 (G : zG) (σ : zSt) (m s : Int32) (hP : ¬ σ 0 1 = 0 → RUNP σ n R W p src mk len lk pa up ld A) : zI G 7 M_P_flow [zf G 0, .int m, .int s] σ (fun _ τ => PFO n R W p src mk len lk pa up ld A σ m s τ) := e_P_flow G σ m s (fun q => (hP q).rc)
theorem w_Mo_flow5 (G : zG) (σ τ : zSt) (m s : Int32) (h : INVE σ) (hP : ¬ σ 0 1 = 0 → RUNP σ n R W p src mk len lk pa up ld A) (h1 : PFO n R W p src mk len lk pa up ld A σ m s τ) : zI G 5 M_Mo_flow [zf G 32, .int m, .int s] τ (fun _ υ => MFO n R W p src mk len lk pa up A τ m s υ) := e_Mo_flow G τ m s (fun q => by
  rw [h1.hi 32 (by decide)] at q
  exact (hP (fun z => q (h.2.1.mp z))).rm h1.hi)
theorem nI_n0 {i : Nat} (hi : i < 4000) : ¬ nI i < 0 := fun q => by
  have := ilt0.mp q
  rw [nI_toInt (by omega)] at this
  omega
theorem INVE.come {v x y : Int32} (h : INVE σ) (hP : ¬ σ 0 1 = 0 → RUNP σ n R W p src mk len lk pa up ld A) (h1 : PCO n R W p src mk len lk pa up ld A σ v x τ) (h2 : MCO n R W p src mk len lk pa up A τ v y υ) : x = y ∧ INVE υ := by
  have e32 : τ 32 = σ 32 := h1.hi 32 (by decide)
  rcases h1 with ⟨e1, e2, q1⟩ | ⟨hs, i, hi, ei, ex, k1, k2, k3⟩
  · rcases h2 with ⟨e3, e4, q2⟩ | ⟨hs, i, hi, ei, _⟩
    · exact ⟨by rw [e1, e3], by rw [e4, e2]; exact h⟩
    · exfalso
      rw [e32] at hs
      have hs' : ¬ σ 0 1 = 0 := fun z => hs (h.2.1.mp z)
      have hp := (hP hs').2.2.2.1.2.1.1
      have hl := hp.2.1
      rcases q1 with q | q | q
      · exact hs' q
      · rw [ei] at q; exact nI_n0 (by omega) q
      · rw [ei, hp.1] at q
        exact nI_ge hi (by omega) q
  · have hr := hP hs
    have hl := hr.2.2.2.1.2.1.1.2.1
    rcases h2 with ⟨e3, e4, q2⟩ | ⟨_, i', hi', ei', ey, m1, m2⟩
    · exfalso
      rw [e32] at q2
      rcases q2 with q | q | q
      · exact hs (h.2.1.mpr q)
      · rw [ei] at q; exact nI_n0 (by omega) q
      · rw [ei, hr.2.2.2.2.1.2.1.1.1] at q
        exact q (nI_lt hi (by omega))
    · have e : i' = i := (nI_eq (by omega) (by omega)).mp (ei'.symm.trans ei)
      rw [e] at ey m2
      exact ⟨by rw [ex, ey], h.step hs hr k1 k2 m1 m2 k3⟩
theorem INVE.flow {m s : Int32} (h : INVE σ) (hP : ¬ σ 0 1 = 0 → RUNP σ n R W p src mk len lk pa up ld A) (h1 : PFO n R W p src mk len lk pa up ld A σ m s τ) (h2 : MFO n R W p src mk len lk pa up A τ m s υ) : True ∧ INVE υ := by
  have e32 : τ 32 = σ 32 := h1.hi 32 (by decide)
  refine ⟨trivial, ?_⟩
  rcases h1 with ⟨e2, q1⟩ | ⟨hs, nf, k1, k, z, em, hk, es, hz, k2, k3⟩
  · rcases h2 with ⟨e4, q2⟩ | ⟨hs, nf, _⟩
    · rw [e4, e2]; exact h
    · exfalso
      rw [e32] at hs
      rcases q1 with q | q
      · exact hs (h.2.1.mp q)
      · exact nf q
  · rcases h2 with ⟨e4, q2⟩ | ⟨_, _, m1, k', z', em', hk', es', hz', m2⟩
    · exfalso
      rw [e32] at q2
      rcases q2 with q | q
      · exact hs (h.2.1.mpr q)
      · exact nf q
    · have e : k' = k := (nI_eq (by omega) (by omega)).mp (em'.symm.trans em)
      have ez : z' = z := (nI_eq hz' hz).mp (es'.symm.trans es)
      rw [e, ez] at m2
      exact h.step hs (hP hs) k1 k2 m1 m2 k3
/-- the net's facts as start takes them -/
theorem NET.lk7 (h : NET σ) {a b : Nat} (ha : a < 12) (hb : b < 12) : zIn (σ 7 b) (nI a) = lkT σ a b := by
  rw [h.2.1.2.2.1 b a hb ha]
  exact lkT_sym h.2.2.2.1 hb ha
theorem NET.nn (h : NET σ) : σ 2 0 = nI (nT σ) ∧ σ 32 0 = nI (nT σ) ∧ 1 ≤ nT σ ∧ nT σ ≤ 12 := by
  obtain ⟨⟨n, h1, h2, h3⟩, hL, _⟩ := h
  have e0 : σ 32 0 = nI n := by rw [← hL.1]; exact h1
  have e : nT σ = n := by
    show (σ 32 0).toNatClampNeg = n
    rw [e0]; exact nI_clamp (by omega)
  rw [e]; exact ⟨h1, e0, h2, h3⟩
theorem NET.irr (h : NET σ) {a : Nat} (ha : a < 12) : lkT σ a a = false := by
  show zLk σ (nI a) (nI a) = false
  unfold zLk
  rw [zi12', nI_clamp (by omega), h.2.2.2.2 a ha]
  decide
theorem NET.hi7 (h : NET σ) {a c : Nat} (ha : a < nT σ) (h1 : nT σ ≤ c) (h2 : c < 32) : zIn (σ 7 a) (nI c) = false := by
  obtain ⟨n1, n2, n3, n4⟩ := h.nn
  obtain ⟨_, n', q1, q2, q3⟩ := h.2.2.2.1
  have en : n' = nT σ := (nI_eq (by omega) (by omega)).mp (q1.symm.trans n2)
  rw [en] at q3
  exact q3 a c (by omega) h1 h2
theorem w_P_start5 (G : zG) (σ : zSt) (p w s k r : Int32) (h : INVE σ) : zI G 7 M_P_start [zf G 0, .int p, .int w, .int s, .int k, .int r] σ (fun x τ => PSE σ (nT σ) (σ 34) (lenT σ) (lkT σ) (S00 σ (nT σ)) p w s k r x τ) := by
  have hN := h.1
  obtain ⟨n1, n2, n3, n4⟩ := hN.nn
  refine s_P_start4 G σ (nT σ) p w s k r (σ 34) (lenT σ) (lkT σ) (S00 σ (nT σ)) n1 n3 n4 hN.2.1.2.2.2.1 (fun a b ha hb => ?_) (fun a b ha hb => hN.lk7 ha hb) (fun a b ha hb => lkT_sym hN.2.2.2.1 (by omega) (by omega)) (fun a ha => hN.irr (by omega)) (fun a c ha hc hc2 => hN.hi7 ha hc hc2) ⟨hN.2.2.1.2, fun a b ha hb => hN.2.2.1.1 _ (by omega)⟩ (fun c hc => S00_rd hc)
  rw [hN.2.1.2.2.2.2 _ (by omega), Nat.mul_comm a 12]
  exact hN.2.2.2.1.1 a b ha hb
theorem PSE.hi {mk : Nat → Int32} {len : Nat → Nat → Int32} {lk : Nat → Nat → Bool} {S : PS} {p w s k r x : Int32} (h : PSE σ n mk len lk S p w s k r x τ) : ∀ c, 32 ≤ c → τ c = σ c := by
  rcases h with ⟨_, e, _⟩ | ⟨_, _, hF, _⟩
  · intro c _; rw [e]
  · exact lowFX hF
theorem w_Mo_start5 (G : zG) (σ τ : zSt) (p w s k r : Int32) (h : INVE σ) {x : Int32} (hp : PSE σ (nT σ) (σ 34) (lenT σ) (lkT σ) (S00 σ (nT σ)) p w s k r x τ) : zI G 4 M_Mo_start [zf G 32, .int p, .int w, .int s, .int k, .int r] τ (fun y υ => MSE τ (nT σ) (σ 34) (lenT σ) (lkT σ) (CoT σ) p w s k r y υ) := by
  have hN := h.1
  obtain ⟨n1, n2, n3, n4⟩ := hN.nn
  have e := hp.hi
  have e33 := e 33 (by decide)
  have hC : ∀ x, SPR (nT σ) (lkT σ) x → (x = zAll (nI (nT σ)) ↔ CoT σ) := fun x hx => (conn_iff n4 n3 (fun a b ha hb => hN.2.1.2.2.1 a b (by omega) (by omega)) (fun a c ha hc hc2 => hN.hi7 ha hc hc2) hx).symm
  refine s_Mo_start4 G τ (nT σ) p w s k r (σ 34) (lenT σ) (lkT σ) (CoT σ) (hN.2.2.1.of e33 (e 34 (by decide))) (by rw [e 32 (by decide)]; exact n2) n3 n4 (fun a _ => by rw [e 34 (by decide)]) (fun a b _ _ => by rw [e33]) (fun a b _ _ => ?_) (fun a b ha hb => lkT_sym hN.2.2.2.1 (by omega) (by omega)) (fun a ha => hN.irr (by omega)) hC
  unfold zLk
  rw [e33]
  rfl
theorem INVE.start {p w s k r x y : Int32} (h : INVE σ) (h1 : PSE σ (nT σ) (σ 34) (lenT σ) (lkT σ) (S00 σ (nT σ)) p w s k r x τ) (h2 : MSE τ (nT σ) (σ 34) (lenT σ) (lkT σ) (CoT σ) p w s k r y υ) : x = y ∧ INVE υ := by
  have hN := h.1
  have g1 : σ 2 0 = σ 32 0 := hN.2.1.1
  have e := h1.hi
  obtain ⟨n1, n2, n3, n4⟩ := hN.nn
  have hno : (!zHas σ s) = zNo τ s := by
    rw [zHas_no g1, Bool.not_not]
    unfold zNo
    rw [e 32 (by decide)]
  rcases h1 with ⟨e1, e2, q⟩ | ⟨nb, hc, hF, h01, pp, R, W, j, ⟨p1, p2⟩, ⟨r1, r2, r3⟩, ⟨w1, w2⟩, ⟨s1, s2⟩, c1, c2, c3, c4, c5, ⟨c6, c7⟩, c8⟩
  · rcases h2 with ⟨e3, e4, _⟩ | ⟨nb, hc, _⟩
    · exact ⟨by rw [e1, e3], by rw [e4, e2]; exact h⟩
    · exfalso
      rw [hno] at q
      rcases q with q | q
      · exact nb q
      · exact q hc
  · rcases h2 with ⟨e3, e4, q⟩ | ⟨_, _, hG, h324, pp', R', W', j', ⟨p1', _⟩, ⟨r1', _, _⟩, ⟨w1', _⟩, ⟨s1', _⟩, d1, d2, d3, d4, d5⟩
    · exfalso
      rw [← hno] at q
      rcases q with q | q
      · exact nb q
      · exact q hc
    · have ep : pp' = pp := (nI_eq (by omega) (by omega)).mp (p1'.symm.trans p1)
      have er : R' = R := (nI_eq (by omega) (by omega)).mp (r1'.symm.trans r1)
      have ew : W' = W := (nI_eq (by omega) (by omega)).mp (w1'.symm.trans w1)
      have ej : j' = j := (nI_eq (by omega) (by omega)).mp (s1'.symm.trans s1)
      rw [ep, er, ew, ej] at d1 d2 d3
      rw [ew, ej] at d4
      rw [ep, er, ej] at d5
      rw [S00_eq e] at d2 d3
      have e2 : ∀ c, c < 32 → υ c = τ c := hiMF hG
      have hQ : QR (nT σ) R W pp (lkT σ) (paF W (nT σ) (lkT σ) k) (upF W (nT σ) j (lkT σ) k) (ldF W (nT σ) j (lkT σ) k) (aStF (nT σ) R W pp j (σ 34) (lenT σ) (lkT σ) k (S00 σ (nT σ))) := (QS_all n4 r3 r2 w2 c3 d1.mlb (fun c u hc hu => ⟨(upF_ok n4 hc hu).1, (upF_ok n4 hc hu).2.1⟩) (fun c hc => S00_rd hc) (nT σ) (Nat.le_refl _)).done
      refine ⟨by rw [c4, d3], (hN.c hF).m hG, ⟨fun q => ?_, fun q => ?_⟩, fun _ => ⟨nT σ, R, W, pp, nI j, σ 34, lenT σ, lkT σ, paF W (nT σ) (lkT σ) k, upF W (nT σ) j (lkT σ) k, ldF W (nT σ) j (lkT σ) k, aStF (nT σ) R W pp j (σ 34) (lenT σ) (lkT σ) k (S00 σ (nT σ)), c1.lo2 e2, d1, c3, c2.lo2 e2, d2, hQ, fun c hc => ⟨?_, ?_⟩, ⟨?_, ?_⟩, fun q b hq hb => ?_⟩⟩
      · rw [e2 0 (by decide), h01] at q; exact absurd q (by decide)
      · rw [h324] at q; exact absurd q (by decide)
      · rw [e2 10 (by decide), c5 c hc, (d4.1 c hc).2]
      · rw [e2 9 (by decide), (c1.2.2.2.2.2.1 c hc).1, (d4.1 c hc).1]
      · rw [e2 3 (by decide), c6, d4.2.2.1]
      · rw [e2 3 (by decide), c7, d4.2.2.2]
      · rw [e2 31 (by decide), c8 q b hq hb, d5 q b hq hb]
/-- what the readers need of the running -/
theorem RUNP.nq (h : RUNP σ n R W p src mk len lk pa up ld A) (hN : NET σ) : n = nT σ := by
  obtain ⟨n1, n2, n3, n4⟩ := hN.nn
  have := h.1.1.2.2.1
  exact (nI_eq (by omega) (by omega)).mp (h.1.1.1.symm.trans n1)
theorem RUNP.rd (h : RUNP σ n R W p src mk len lk pa up ld A) {a : Nat} (ha : a < n) : σ 24 a = nI (rdP (aS A) a) ∧ σ 35 a = nI (rdP (aS A) a) ∧ rdP (aS A) a ≤ R ∧ 1 ≤ rdP (aS A) a := ⟨h.2.2.2.1.1 a ha, h.2.2.2.2.1.1.2 a ha, (h.2.2.2.2.2.1.1.1.1.1 a ha).1, h.2.2.2.2.2.1.2.1 a ha⟩
theorem INVE.off (h : INVE σ) : decide (σ 32 4 = 0) = decide (σ 0 1 = 0) := decide_eq_decide.mpr h.2.1.symm
theorem w_P_told5 (G : zG) (σ : zSt) (a w : Int32) (h : INVE σ) : zI G 1 M_P_told [zf G 0, .int a, .int w] σ (fun x τ => τ = σ ∧ x = tell (!zHas σ a) (decide (σ 0 1 = 0)) w (σ 24 a.toNatClampNeg) (σ 16 a.toNatClampNeg) (σ 17 a.toNatClampNeg) (σ 26 a.toNatClampNeg) (if zSf σ a = true then 1 else 0) (σ 10 a.toNatClampNeg) (σ 9 a.toNatClampNeg) (zBc (σ 7 a.toNatClampNeg))) := s_P_told5 G σ (nT σ) a w h.1.nn.1 h.1.nn.2.2.2
theorem w_Mo_told5 (G : zG) (σ : zSt) (a w : Int32) (h : INVE σ) : zI G 1 M_Mo_told [zf G 32, .int a, .int w] σ (fun x τ => τ = σ ∧ x = tell (zNo σ a) (decide (σ 32 4 = 0)) w (σ 35 a.toNatClampNeg) (σ 47 a.toNatClampNeg) (σ 48 a.toNatClampNeg) (σ 36 a.toNatClampNeg) (if σ 37 a.toNatClampNeg = 0 then 0 else 1) (σ 41 a.toNatClampNeg) (σ 42 a.toNatClampNeg) (nI (selL (fun b => zLk σ a (nI b)) (nT σ)).length)) := s_Mo_told5 G σ (nT σ) a w h.1.nn.2.1 h.1.nn.2.2.2
theorem INVE.told {a w x y : Int32} (h : INVE σ) (h1 : τ = σ ∧ x = tell (!zHas σ a) (decide (σ 0 1 = 0)) w (σ 24 a.toNatClampNeg) (σ 16 a.toNatClampNeg) (σ 17 a.toNatClampNeg) (σ 26 a.toNatClampNeg) (if zSf σ a = true then 1 else 0) (σ 10 a.toNatClampNeg) (σ 9 a.toNatClampNeg) (zBc (σ 7 a.toNatClampNeg))) (h2 : υ = τ ∧ y = tell (zNo τ a) (decide (τ 32 4 = 0)) w (τ 35 a.toNatClampNeg) (τ 47 a.toNatClampNeg) (τ 48 a.toNatClampNeg) (τ 36 a.toNatClampNeg) (if τ 37 a.toNatClampNeg = 0 then 0 else 1) (τ 41 a.toNatClampNeg) (τ 42 a.toNatClampNeg) (nI (selL (fun b => zLk τ a (nI b)) (nT τ)).length)) : x = y ∧ INVE υ := by
  obtain ⟨e1, h1⟩ := h1
  obtain ⟨e2, h2⟩ := h2
  rw [e1] at h2
  refine ⟨?_, by rw [e2, e1]; exact h⟩
  have hN := h.1
  obtain ⟨n1, n2, n3, n4⟩ := hN.nn
  rw [h1, h2, h.off, zHas_no hN.2.1.1, Bool.not_not]
  by_cases hno : zNo σ a = true
  · rw [tell_bad (Or.inl hno), tell_bad (Or.inl hno)]
  obtain ⟨j, hj, ej⟩ := zNo_of (Bool.eq_false_iff.mpr hno) n2 n4
  have cj : (nI j).toNatClampNeg = j := nI_clamp (by omega)
  have c7 : zBc (σ 7 j) = nI (selL (fun b => zLk σ (nI j) (nI b)) (nT σ)).length := by
    refine zBc_sel n4 (fun b hb => ?_)
    by_cases q : b < nT σ
    · rw [hN.2.1.2.2.1 j b (by omega) (by omega)]; exact ⟨fun z => ⟨q, z⟩, fun z => z.2⟩
    · rw [hN.hi7 hj (by omega) hb]; exact ⟨fun z => absurd z (by decide), fun z => absurd z.1 q⟩
  rw [ej, cj, c7]
  by_cases hs : σ 0 1 = 0
  · rw [decide_eq_true hs]; exact tell_same
  obtain ⟨n, R, W, p, src, mk, len, lk, pa, up, ld, A, hr⟩ := h.2.2 hs
  have en := hr.nq hN
  rw [← en] at hj
  obtain ⟨t1, t2, t3, t4⟩ := hr.rd hj
  obtain ⟨hC, hM, hF, hA, hB, hQ, h10, _⟩ := hr
  obtain ⟨o1, o2, o3⟩ := op_nn hQ.1 hj t4
  obtain ⟨f1, _, _, _, f5⟩ := hB.fl j
  have o26 := ((hA.2.2.2.2.1 j hj).2 t4).1
  have x26 : σ 26 j = σ 36 j := Int32.toInt_inj.mp (by rw [o26, f5])
  have x4 : (if zSf σ (nI j) = true then (1 : Int32) else 0) = if σ 37 j = 0 then 0 else 1 := by
    rw [zSf_op (by omega) o26]
    by_cases q : opP (aS A) j = 0
    · have hsf : sfP (aS A) j = true := by
        cases z : sfP (aS A) j with
        | true => rfl
        | false => exact absurd ⟨z, q⟩ (hQ.2.2 j hj).1
      rw [hsf] at f1
      rw [if_pos (decide_eq_true q), if_neg (of_decide_eq_true f1.symm)]
    · have hsf : sfP (aS A) j = false := by
        cases z : sfP (aS A) j with
        | false => rfl
        | true => exact absurd (o3 z) q
      rw [hsf] at f1
      rw [if_neg (by rw [decide_eq_false q]; decide), if_pos (Decidable.not_not.mp (of_decide_eq_false f1.symm))]
  rw [x4, x26, t1, t2, (hA.2.2.1 j hj).1, (hA.2.2.1 j hj).2, (hB.2.2.1 j hj).1, (hB.2.2.1 j hj).2, (h10 j hj).1, (h10 j hj).2]
theorem INVE.has {a r : Int32} (h : INVE σ) : (!hasP σ a r) = noM σ a r ∧ (hasP σ a r = true → ∃ i j, i < 12 ∧ j ≤ 20 ∧ a = nI i ∧ r = nI j) := by
  have hN := h.1
  obtain ⟨n1, n2, n3, n4⟩ := hN.nn
  have h5 : ¬ σ 0 1 = 0 → σ 1 5 = σ 32 8 ∧ ∃ R, σ 1 5 = nI R ∧ R ≤ 20 := fun hs => by
    obtain ⟨n, R, W, p, src, mk, len, lk, pa, up, ld, A, hC, hM, _⟩ := h.2.2 hs
    exact ⟨by rw [hC.1.2.2.2.1, hM.1.2.2.2.1], R, hC.1.2.2.2.1, hC.1.2.2.2.2.2.1⟩
  refine ⟨?_, fun q => ?_⟩
  · unfold hasP noM
    by_cases hs : σ 0 1 = 0
    · rw [decide_eq_false (fun q => q.1 hs), decide_eq_true (Or.inl (h.2.1.mp hs))]; rfl
    · have hs4 : ¬ σ 32 4 = 0 := fun q => hs (h.2.1.mpr q)
      have e5 := (h5 hs).1
      have zh := zHas_no hN.2.1.1 a
      by_cases q0 : zNo σ a = true
      · rw [decide_eq_false (fun q => by have z := q.2.1; rw [zh, q0] at z; exact absurd z (by decide)), decide_eq_true (Or.inr (Or.inl q0))]; rfl
      · have q0' : zNo σ a = false := Bool.eq_false_iff.mpr q0
        by_cases q1 : r < 0
        · rw [decide_eq_false (fun q => q.2.2.1 q1), decide_eq_true (Or.inr (Or.inr (Or.inl q1)))]; rfl
        · by_cases q2 : σ 1 5 < r
          · rw [decide_eq_false (fun q => q.2.2.2 q2), decide_eq_true (Or.inr (Or.inr (Or.inr (by rw [← e5]; exact Int32.not_le.mpr q2))))]; rfl
          · rw [decide_eq_true ⟨hs, by rw [zh, q0']; rfl, q1, q2⟩, decide_eq_false (fun q => by
              rcases q with q | q | q | q
              · exact hs4 q
              · exact q0 q
              · exact q1 q
              · exact q (by rw [← e5]; exact Int32.not_lt.mp q2))]; rfl
  · obtain ⟨hs, q1, q2, q3⟩ := of_decide_eq_true q
    obtain ⟨_, R, e5, hR⟩ := h5 hs
    obtain ⟨i, hi, ei⟩ := zHas_of q1 n1 n4
    rw [e5] at q3
    obtain ⟨j, hj, ej⟩ := nI_of2 (M := nI R) (n := R) (nI_toInt (by omega)) q2 (Int32.not_lt.mp q3)
    exact ⟨i, j, by omega, by omega, ei, ej⟩
theorem w_P_past5 (G : zG) (σ : zSt) (a r : Int32) (h : INVE σ) : zI G 2 M_P_past [zf G 0, .int a, .int r] σ (fun x τ => τ = σ ∧ x = pst (!hasP σ a r) r (σ 24 a.toNatClampNeg) (σ 30 (r * 12 + a).toNatClampNeg)) := s_P_past5 G σ a r h.has.2
theorem w_Mo_past5 (G : zG) (σ : zSt) (a r : Int32) (h : INVE σ) : zI G 2 M_Mo_past [zf G 32, .int a, .int r] σ (fun x τ => τ = σ ∧ x = pst (noM σ a r) r (σ 35 a.toNatClampNeg) (σ 49 (12 * r + a).toNatClampNeg)) := s_Mo_past5 G σ a r (fun q => h.has.2 (by rw [← h.has.1] at q; cases z : hasP σ a r with | true => rfl | false => rw [z] at q; exact absurd q (by decide)))
theorem w_P_inStep5 (G : zG) (σ : zSt) (a r : Int32) (h : INVE σ) : zI G 2 M_P_inStep [zf G 0, .int a, .int r] σ (fun x τ => τ = σ ∧ x = pst (!hasP σ a r) 0 0 (σ 31 (r * 12 + a).toNatClampNeg)) := s_P_inStep5 G σ a r h.has.2
theorem w_Mo_inStep5 (G : zG) (σ : zSt) (a r : Int32) (h : INVE σ) : zI G 2 M_Mo_inStep [zf G 32, .int a, .int r] σ (fun x τ => τ = σ ∧ x = pst (noM σ a r) 0 0 (σ 50 (12 * r + a).toNatClampNeg)) := s_Mo_inStep5 G σ a r (fun q => h.has.2 (by rw [← h.has.1] at q; cases z : hasP σ a r with | true => rfl | false => rw [z] at q; exact absurd q (by decide)))
/-- a place that is there, in the running -/
theorem INVE.at {a r : Int32} (h : INVE σ) (q : hasP σ a r = true) : ∃ (i j n R W p : Nat) (src : Int32) (mk : Nat → Int32) (len : Nat → Nat → Int32) (lk pa : Nat → Nat → Bool) (up : Nat → Option Nat) (ld : Nat → Nat) (A : AS), a = nI i ∧ r = nI j ∧ i < n ∧ j ≤ R ∧ R ≤ 20 ∧ n ≤ 12 ∧ RUNP σ n R W p src mk len lk pa up ld A := by
  obtain ⟨i, j, hi, hj, ei, ej⟩ := h.has.2 q
  obtain ⟨hs, q1, q2, q3⟩ := of_decide_eq_true q
  obtain ⟨n, R, W, p, src, mk, len, lk, pa, up, ld, A, hr⟩ := h.2.2 hs
  have hC := hr.1
  have hR : R ≤ 20 := hC.1.2.2.2.2.2.1
  have hn : n ≤ 12 := hC.1.2.2.1
  refine ⟨i, j, n, R, W, p, src, mk, len, lk, pa, up, ld, A, ei, ej, ?_, ?_, hR, hn, hr⟩
  · obtain ⟨i', hi', ei'⟩ := zHas_of q1 hC.1.1 hn
    have : i = i' := (nI_eq (by omega) (by omega)).mp (ei.symm.trans ei')
    omega
  · rw [hC.1.2.2.2.1, ej] at q3
    have := i32_le.mp (Int32.not_lt.mp q3)
    rw [nI_toInt (by omega), nI_toInt (by omega)] at this
    omega
theorem pst_bad {b : Bool} {r rd c : Int32} (h : b = true) : pst b r rd c = -1 := if_pos h
theorem INVE.past {a r x y : Int32} (h : INVE σ) (h1 : τ = σ ∧ x = pst (!hasP σ a r) r (σ 24 a.toNatClampNeg) (σ 30 (r * 12 + a).toNatClampNeg)) (h2 : υ = τ ∧ y = pst (noM τ a r) r (τ 35 a.toNatClampNeg) (τ 49 (12 * r + a).toNatClampNeg)) : x = y ∧ INVE υ := by
  obtain ⟨e1, h1⟩ := h1
  obtain ⟨e2, h2⟩ := h2
  rw [e1] at h2
  refine ⟨?_, by rw [e2, e1]; exact h⟩
  rw [h1, h2, ← h.has.1]
  cases q : hasP σ a r with
  | false => exact (pst_bad rfl).trans (pst_bad rfl).symm
  | true =>
    obtain ⟨i, j, n, R, W, p, src, mk, len, lk, pa, up, ld, A, ei, ej, hi, hj, hR, hn, hr⟩ := h.at q
    obtain ⟨t1, t2, t3, t4⟩ := hr.rd hi
    rw [ei, ej, zi12, zi12', nI_clamp (by omega), nI_clamp (by omega), nI_clamp (by omega), t1, t2]
    unfold pst
    by_cases z : nI j ≤ nI (rdP (aS A) i)
    · rw [if_neg (by decide), if_pos z, if_neg (by decide), if_pos z]
      have z := i32_le.mp z
      rw [nI_toInt (by omega), nI_toInt (by omega)] at z
      rw [hr.2.2.2.1.2.2.2.1 j i (by omega) hi, hr.2.2.2.2.1.2.2.2.1 j i (by omega) hi]
    · rw [if_neg (by decide), if_neg z, if_neg (by decide), if_neg z]
theorem INVE.inStep {a r x y : Int32} (h : INVE σ) (h1 : τ = σ ∧ x = pst (!hasP σ a r) 0 0 (σ 31 (r * 12 + a).toNatClampNeg)) (h2 : υ = τ ∧ y = pst (noM τ a r) 0 0 (τ 50 (12 * r + a).toNatClampNeg)) : x = y ∧ INVE υ := by
  obtain ⟨e1, h1⟩ := h1
  obtain ⟨e2, h2⟩ := h2
  rw [e1] at h2
  refine ⟨?_, by rw [e2, e1]; exact h⟩
  rw [h1, h2, ← h.has.1]
  cases q : hasP σ a r with
  | false => exact (pst_bad rfl).trans (pst_bad rfl).symm
  | true =>
    obtain ⟨i, j, n, R, W, p, src, mk, len, lk, pa, up, ld, A, ei, ej, hi, hj, hR, hn, hr⟩ := h.at q
    rw [ei, ej, zi12, zi12', nI_clamp (by omega), nI_clamp (by omega), hr.2.2.2.2.2.2.2.2 j i hj hi]
theorem w_P_letter5 (G : zG) (σ : zSt) (v w : Int32) (h : INVE σ) : zI G 1 M_P_letter [zf G 0, .int v, .int w] σ (fun x τ => τ = σ ∧ x = lett (decide (σ 0 1 = 0)) (σ 5 0) v w (σ 19 v.toNatClampNeg) (σ 20 v.toNatClampNeg) (σ 21 v.toNatClampNeg) (σ 22 v.toNatClampNeg) (σ 23 v.toNatClampNeg)) := s_P_letter5 G σ v w (fun q => by
  obtain ⟨n, R, W, p, src, mk, len, lk, pa, up, ld, A, hr⟩ := h.2.2 q
  exact ⟨_, hr.2.2.2.1.2.1.1⟩)
theorem w_Mo_letter5 (G : zG) (σ : zSt) (v w : Int32) (h : INVE σ) : zI G 0 M_Mo_letter [zf G 32, .int v, .int w] σ (fun x τ => τ = σ ∧ x = lett (decide (σ 32 4 = 0)) (σ 32 27) v w (σ 51 (5 * v.toNatClampNeg)) (σ 51 (5 * v.toNatClampNeg + 1)) (σ 51 (5 * v.toNatClampNeg + 2)) (σ 51 (5 * v.toNatClampNeg + 3)) (σ 51 (5 * v.toNatClampNeg + 4))) := s_Mo_letter5 G σ v w (fun q => by
  obtain ⟨n, R, W, p, src, mk, len, lk, pa, up, ld, A, hr⟩ := h.2.2 (fun z => q (h.2.1.mp z))
  exact ⟨_, hr.2.2.2.2.1.2.1.1⟩)
theorem lett_same {off : Bool} {len v w c0 c1 c2 c3 c4 d0 d1 d2 d3 d4 : Int32} (h : off = true ∨ v < 0 ∨ len ≤ v) : lett off len v w c0 c1 c2 c3 c4 = lett off len v w d0 d1 d2 d3 d4 := by
  have h' : off = true ∨ v < 0 ∨ len ≤ v ∨ w.toInt < 0 ∨ 4 < w.toInt := by
    rcases h with h | h | h
    · exact Or.inl h
    · exact Or.inr (Or.inl h)
    · exact Or.inr (Or.inr (Or.inl h))
  rw [lett_bad h', lett_bad h']
theorem INVE.letter {v w x y : Int32} (h : INVE σ) (h1 : τ = σ ∧ x = lett (decide (σ 0 1 = 0)) (σ 5 0) v w (σ 19 v.toNatClampNeg) (σ 20 v.toNatClampNeg) (σ 21 v.toNatClampNeg) (σ 22 v.toNatClampNeg) (σ 23 v.toNatClampNeg)) (h2 : υ = τ ∧ y = lett (decide (τ 32 4 = 0)) (τ 32 27) v w (τ 51 (5 * v.toNatClampNeg)) (τ 51 (5 * v.toNatClampNeg + 1)) (τ 51 (5 * v.toNatClampNeg + 2)) (τ 51 (5 * v.toNatClampNeg + 3)) (τ 51 (5 * v.toNatClampNeg + 4))) : x = y ∧ INVE υ := by
  obtain ⟨e1, h1⟩ := h1
  obtain ⟨e2, h2⟩ := h2
  rw [e1] at h2
  refine ⟨?_, by rw [e2, e1]; exact h⟩
  rw [h1, h2, h.off]
  by_cases hs : σ 0 1 = 0
  · rw [lett_bad (Or.inl (decide_eq_true hs)), lett_bad (Or.inl (decide_eq_true hs))]
  obtain ⟨n, R, W, p, src, mk, len, lk, pa, up, ld, A, hr⟩ := h.2.2 hs
  obtain ⟨p1, p2, p3⟩ := hr.2.2.2.1.2.1.1
  obtain ⟨m1, m2, m3⟩ := hr.2.2.2.2.1.2.1.1
  rw [p1, m1]
  rcases pk_ix v (n := (aL A).length) (by omega) with q | q | ⟨i, hi, ei⟩
  · exact lett_same (Or.inr (Or.inl q))
  · exact lett_same (Or.inr (Or.inr q))
  · have ci : v.toNatClampNeg = i := by rw [ei]; exact nI_clamp (by omega)
    have e := Option.some.inj ((p3 i hi).symm.trans (m3 i hi))
    have q0 : σ 19 i = σ 51 (5 * i) := congrArg Prod.fst e
    have q1 : σ 20 i = σ 51 (5 * i + 1) := congrArg (fun z : Lt => z.2.1) e
    have q2 : σ 21 i = σ 51 (5 * i + 2) := congrArg (fun z : Lt => z.2.2.1) e
    have q3 : σ 22 i = σ 51 (5 * i + 3) := congrArg (fun z : Lt => z.2.2.2.1) e
    have q4 : σ 23 i = σ 51 (5 * i + 4) := congrArg (fun z : Lt => z.2.2.2.2) e
    rw [ci, q0, q1, q2, q3, q4]
theorem w_P_count5 (G : zG) (σ : zSt) (w : Int32) (h : INVE σ) : zI G 3 M_P_count [zf G 0, .int w] σ (fun x τ => τ = σ ∧ x = cntW (decide (σ 0 1 = 0)) w (σ 2 0) (σ 2 1) (σ 5 0) (σ 1 6) (σ 1 7) (lstI (σ 24) (σ 1 5) (nT σ)) (gstI (σ 24) (nT σ)) (if σ 5 0 = 0 ∧ lstI (σ 24) (σ 1 5) (nT σ) = σ 1 5 then 1 else 0) (σ 3 0) (σ 3 1)) := s_P_count5 G σ (nT σ) w h.1.nn.1 h.1.nn.2.2.2
theorem w_Mo_count5 (G : zG) (σ : zSt) (w : Int32) (h : INVE σ) : zI G 0 M_Mo_count [zf G 32, .int w] σ (fun x τ => τ = σ ∧ x = cntW (decide (σ 32 4 = 0)) w (σ 32 0) (σ 32 1) (σ 32 27) (σ 32 29) (σ 32 30) (lstI (σ 35) 99 (nT σ)) (gstI (σ 35) (nT σ)) (if σ 32 27 = 0 ∧ lstI (σ 35) 99 (nT σ) = σ 32 8 then 1 else 0) (σ 32 19) (σ 32 20)) := s_Mo_count5 G σ (nT σ) w h.1.nn.2.1 h.1.nn.2.2.2
theorem lstI_eq {f g : Nat → Int32} {k l : Int32} (h0 : f 0 ≤ k ∧ f 0 ≤ l) : ∀ n, (∀ a, a < n + 1 → f a = g a) → lstI f k (n + 1) = lstI g l (n + 1) := by
  intro n
  induction n with
  | zero =>
    intro h
    have e := h 0 (by omega)
    show (if f 0 < k then f 0 else k) = if g 0 < l then g 0 else l
    rw [← e]
    have one : ∀ m : Int32, f 0 ≤ m → (if f 0 < m then f 0 else m) = f 0 := fun m hm => by
      by_cases q : f 0 < m
      · rw [if_pos q]
      · rw [if_neg q]; exact Int32.le_antisymm (Int32.not_lt.mp q) hm
    rw [one k h0.1, one l h0.2]
  | succ n ih =>
    intro h
    have e := h (n + 1) (by omega)
    have i := ih (fun a ha => h a (by omega))
    show (if f (n + 1) < lstI f k (n + 1) then f (n + 1) else lstI f k (n + 1)) = if g (n + 1) < lstI g l (n + 1) then g (n + 1) else lstI g l (n + 1)
    rw [e, i]
theorem gstI_eq {f g : Nat → Int32} : ∀ n, (∀ a, a < n → f a = g a) → gstI f n = gstI g n := by
  intro n
  induction n with
  | zero => intro _; rfl
  | succ n ih =>
    intro h
    show (if gstI f n < f n then f n else gstI f n) = if gstI g n < g n then g n else gstI g n
    rw [h n (by omega), ih (fun a ha => h a (by omega))]
theorem INVE.count {w x y : Int32} (h : INVE σ) (h1 : τ = σ ∧ x = cntW (decide (σ 0 1 = 0)) w (σ 2 0) (σ 2 1) (σ 5 0) (σ 1 6) (σ 1 7) (lstI (σ 24) (σ 1 5) (nT σ)) (gstI (σ 24) (nT σ)) (if σ 5 0 = 0 ∧ lstI (σ 24) (σ 1 5) (nT σ) = σ 1 5 then 1 else 0) (σ 3 0) (σ 3 1)) (h2 : υ = τ ∧ y = cntW (decide (τ 32 4 = 0)) w (τ 32 0) (τ 32 1) (τ 32 27) (τ 32 29) (τ 32 30) (lstI (τ 35) 99 (nT τ)) (gstI (τ 35) (nT τ)) (if τ 32 27 = 0 ∧ lstI (τ 35) 99 (nT τ) = τ 32 8 then 1 else 0) (τ 32 19) (τ 32 20)) : x = y ∧ INVE υ := by
  obtain ⟨e1, h1⟩ := h1
  obtain ⟨e2, h2⟩ := h2
  rw [e1] at h2
  refine ⟨?_, by rw [e2, e1]; exact h⟩
  have hN := h.1
  rw [h1, h2, h.off, hN.2.1.1, hN.2.1.2.1]
  by_cases hs : σ 0 1 = 0
  · rw [decide_eq_true hs]; exact cntW_same
  obtain ⟨n, R, W, p, src, mk, len, lk, pa, up, ld, A, hr⟩ := h.2.2 hs
  have hn1 : 1 ≤ n := hr.1.1.2.1
  have hR : R ≤ 20 := hr.1.1.2.2.2.2.2.1
  have g : ∀ a, a < n → σ 24 a = σ 35 a := fun a ha => by rw [(hr.rd ha).1, (hr.rd ha).2.1]
  have l : lstI (σ 24) (σ 1 5) n = lstI (σ 35) 99 n := by
    obtain ⟨m, em⟩ : ∃ m, n = m + 1 := ⟨n - 1, by omega⟩
    have t := hr.rd (a := 0) (by omega)
    rw [em]
    refine lstI_eq ⟨?_, ?_⟩ m (fun a ha => g a (by omega))
    · rw [t.1, hr.1.1.2.2.2.1]
      exact i32_le.mpr (by rw [nI_toInt (by omega), nI_toInt (by omega)]; omega)
    · rw [t.1, show (99 : Int32) = nI 99 from rfl]
      exact i32_le.mpr (by rw [nI_toInt (by omega), nI_toInt (by omega)]; omega)
  have q : gstI (σ 24) n = gstI (σ 35) n := gstI_eq n g
  have e5 : σ 1 5 = σ 32 8 := by rw [hr.1.1.2.2.2.1, hr.2.1.1.2.2.2.1]
  rw [← hr.nq hN, l, q, e5, hr.2.2.2.1.2.1.1.1, hr.2.2.2.2.1.2.1.1.1, hr.2.2.2.1.2.1.2.1, hr.2.2.2.1.2.1.2.2, hr.2.2.2.2.1.2.1.2.1, hr.2.2.2.2.1.2.1.2.2, hr.2.2.2.2.2.2.2.1.1, hr.2.2.2.2.2.2.2.1.2]
theorem dA_eq {P Q : Nat → Nat → Bool} {rd : Nat → Nat} : ∀ n, (∀ a r, a < n → r ≤ rd a → P r a = Q r a) → dA P rd n = dA Q rd n := by
  intro n
  induction n with
  | zero => intro _; rfl
  | succ n ih =>
    intro h
    have row : ∀ k, k ≤ rd n + 1 → dR P n k = dR Q n k := by
      intro k
      induction k with
      | zero => intro _; rfl
      | succ k ik =>
        intro hk
        rw [dR_s, dR_s, ik (by omega), h n k (by omega) (by omega)]
    show dA P rd n + dR P n (rd n + 1) = dA Q rd n + dR Q n (rd n + 1)
    rw [ih (fun a r ha hr => h a r (by omega) hr), row _ (Nat.le_refl _)]
abbrev rdC (σ : zSt) : Nat → Nat := fun a => (σ 35 a).toNatClampNeg
theorem w_P_differ5 (G : zG) (σ : zSt) (h : INVE σ) : zI G 2 M_P_differ [zf G 0] σ (fun x τ => τ = σ ∧ x = if σ 0 1 = 0 then -1 else nI (dA (fun r a => decide (σ 30 (r * 12 + a) = σ 31 (r * 12 + a))) (rdC σ) (nT σ))) := s_P_differ5 G σ (nT σ) (rdC σ) h.1.nn.1 h.1.nn.2.2.2 (fun hs a ha => by
  obtain ⟨n, R, W, p, src, mk, len, lk, pa, up, ld, A, hr⟩ := h.2.2 hs
  rw [← hr.nq h.1] at ha
  obtain ⟨t1, t2, t3, t4⟩ := hr.rd ha
  have hR : R ≤ 20 := hr.1.1.2.2.2.2.2.1
  have e : rdC σ a = rdP (aS A) a := by show (σ 35 a).toNatClampNeg = _; rw [t2]; exact nI_clamp (by omega)
  rw [e]; exact ⟨t1, by omega⟩)
theorem w_Mo_differ5 (G : zG) (σ : zSt) (h : INVE σ) : zI G 0 M_Mo_differ [zf G 32] σ (fun x τ => τ = σ ∧ x = if σ 32 4 = 0 then -1 else nI (dA (fun r a => decide (σ 49 (12 * r + a) = σ 50 (12 * r + a))) (rdC σ) (nT σ))) := s_Mo_differ5 G σ (nT σ) (rdC σ) h.1.nn.2.1 h.1.nn.2.2.1 h.1.nn.2.2.2 (fun hs a ha => by
  obtain ⟨n, R, W, p, src, mk, len, lk, pa, up, ld, A, hr⟩ := h.2.2 (fun z => hs (h.2.1.mp z))
  rw [← hr.nq h.1] at ha
  obtain ⟨t1, t2, t3, t4⟩ := hr.rd ha
  have hR : R ≤ 20 := hr.1.1.2.2.2.2.2.1
  have e : rdC σ a = rdP (aS A) a := by show (σ 35 a).toNatClampNeg = _; rw [t2]; exact nI_clamp (by omega)
  rw [e]; exact ⟨t2, by omega⟩)
theorem INVE.differ {x y : Int32} (h : INVE σ) (h1 : τ = σ ∧ x = if σ 0 1 = 0 then -1 else nI (dA (fun r a => decide (σ 30 (r * 12 + a) = σ 31 (r * 12 + a))) (rdC σ) (nT σ))) (h2 : υ = τ ∧ y = if τ 32 4 = 0 then -1 else nI (dA (fun r a => decide (τ 49 (12 * r + a) = τ 50 (12 * r + a))) (rdC τ) (nT τ))) : x = y ∧ INVE υ := by
  obtain ⟨e1, h1⟩ := h1
  obtain ⟨e2, h2⟩ := h2
  rw [e1] at h2
  refine ⟨?_, by rw [e2, e1]; exact h⟩
  rw [h1, h2]
  by_cases hs : σ 0 1 = 0
  · rw [if_pos hs, if_pos (h.2.1.mp hs)]
  rw [if_neg hs, if_neg (fun z => hs (h.2.1.mpr z))]
  obtain ⟨n, R, W, p, src, mk, len, lk, pa, up, ld, A, hr⟩ := h.2.2 hs
  have hR : R ≤ 20 := hr.1.1.2.2.2.2.2.1
  rw [← hr.nq h.1]
  congr 1
  refine dA_eq n (fun a r ha hra => ?_)
  obtain ⟨t1, t2, t3, t4⟩ := hr.rd ha
  have e : rdC σ a = rdP (aS A) a := by show (σ 35 a).toNatClampNeg = _; rw [t2]; exact nI_clamp (by omega)
  rw [e] at hra
  rw [hr.2.2.2.1.2.2.2.1 r a hra ha, hr.2.2.2.2.1.2.2.2.1 r a hra ha, hr.2.2.2.2.2.2.2.2 r a (by omega) ha]
end INVES
end
