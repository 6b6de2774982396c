-- The reference's start is the pure machine's
/-- the flags before the first round: what lies beyond the nodes stays -/
def S00 (σ : zSt) (n : Nat) : PS := (fun a => if a < n then 0 else (σ 35 a).toNatClampNeg, fun a => (σ 36 a).toInt, fun a => decide (¬ σ 37 a = 0), fun a => decide (¬ σ 38 a = 0), fun a => decide (¬ σ 39 a = 0), fun a => decide (¬ σ 40 a = 0))
theorem S00_rd {σ : zSt} {n c : Nat} (h : c < n) : rdP (S00 σ n) c = 0 := if_pos h
theorem psS_S00 {σ τ : zSt} {n : Nat} (h35 : ∀ a, τ 35 a = if a < n then 0 else σ 35 a) (e36 : τ 36 = σ 36) (e37 : τ 37 = σ 37) (e38 : τ 38 = σ 38) (e39 : τ 39 = σ 39) (e40 : τ 40 = σ 40) : psS τ = S00 σ n := by
  have e : (fun a => (τ 35 a).toNatClampNeg) = fun a => if a < n then 0 else (σ 35 a).toNatClampNeg := by
    funext a
    rw [h35 a]
    by_cases q : a < n
    · rw [if_pos q, if_pos q]; decide
    · rw [if_neg q, if_neg q]
  unfold psS S00
  rw [e, e36, e37, e38, e39, e40]
theorem S00_eq {σ τ : zSt} {n : Nat} (e : ∀ c, 32 ≤ c → τ c = σ c) : S00 τ n = S00 σ n := by
  unfold S00
  rw [e 35 (by decide), e 36 (by decide), e 37 (by decide), e 38 (by decide), e 39 (by decide), e 40 (by decide)]
/-- the reference's frame -/
def MFr (σ : zSt) (W n src : Nat) (lk : Nat → Nat → Bool) (k : Int32) : Prop :=
  (∀ c, c < n → σ 42 c = nI (ldF W n src lk k c) ∧ σ 41 c = encU (upF W n src lk k c)) ∧ (¬ W = 0 → ∀ a b, a < n → b < n → paF W n lk k a b = decide (¬ σ 44 (12 * a + b) = 0)) ∧ σ 32 19 = nI (clN W n lk k) ∧ σ 32 20 = nI (chN W n lk k)
theorem MFr.of {σ τ : zSt} {W n src : Nat} {lk : Nat → Nat → Bool} {k : Int32} (h : MFr σ W n src lk k) (e41 : τ 41 = σ 41) (e42 : τ 42 = σ 42) (e44 : τ 44 = σ 44) (e19 : τ 32 19 = σ 32 19) (e20 : τ 32 20 = σ 32 20) : MFr τ W n src lk k := by
  unfold MFr at h ⊢
  rw [e41, e42, e44, e19, e20]; exact h
theorem MFr.up {σ : zSt} {W n src : Nat} {lk : Nat → Nat → Bool} {k : Int32} (hn : n ≤ 12) (h : MFr σ W n src lk k) : UO σ n ∧ ∀ c, c < n → upS σ c = upF W n src lk k c := by
  refine ⟨fun a ha => ?_, fun c hc => ?_⟩
  · cases hu : upF W n src lk k a with
    | none => exact Or.inl (by rw [(h.1 a ha).2, hu]; rfl)
    | some u =>
      obtain ⟨h1, h2, _⟩ := upF_ok hn ha hu
      exact Or.inr ⟨u, h1, h2, by rw [(h.1 a ha).2, hu]; rfl⟩
  · cases hu : upF W n src lk k c with
    | none => unfold upS; rw [(h.1 c hc).2, hu]; exact if_pos rfl
    | some u =>
      have h1 := (upF_ok hn hc hu).1
      exact upS_to (by omega) (by rw [(h.1 c hc).2, hu]; rfl)
def MSC (n : Nat) (mk : Nat → Int32) (len : Nat → Nat → Int32) (lk : Nat → Nat → Bool) (k : Int32) (S : PS) (pp R W j : Nat) (x : Int32) (τ : zSt) : Prop :=
  MT τ n R W pp (nI j) mk len lk (paF W n lk k) (upF W n j lk k) ∧ MA τ n (aStF n R W pp j mk len lk k S) ∧ x = nI (aL (aStF n R W pp j mk len lk k S)).length ∧ MFr τ W n j lk k ∧ ∀ q b, q ≤ R → b < n → τ 50 (12 * q + b) = (sV pp (nI j) n mk len lk q b).1
def MSE (σ : zSt) (n : Nat) (mk : Nat → Int32) (len : Nat → Nat → Int32) (lk : Nat → Nat → Bool) (C : Prop) (p w s k r x : Int32) (τ : zSt) : Prop :=
  (x = -1 ∧ τ = σ ∧ (SB0 (zNo σ s) p w k r ∨ ¬ C)) ∨ (¬ SB0 (zNo σ s) p w k r ∧ C ∧ MF FMo JMo σ τ ∧ τ 32 4 = 1 ∧ ∃ pp R W j, (p = nI pp ∧ pp ≤ 3) ∧ (r = nI R ∧ 1 ≤ R ∧ R ≤ 20) ∧ (w = nI W ∧ W ≤ 2) ∧ (s = nI j ∧ j < n) ∧ MSC n mk len lk k (S00 σ n) pp R W j x τ)
set_option maxHeartbeats 1000000 in
theorem s_Mo_start4 (G : zG) (σ : zSt) (n : Nat) (v1 v2 v3 v4 v5 : Int32) (mk : Nat → Int32) (len : Nat → Nat → Int32) (lk : Nat → Nat → Bool) (C : Prop) (hLM : LM σ) (hn : σ 32 0 = nI n) (h1n : 1 ≤ n) (hn12 : n ≤ 12) (hmk : ∀ a, a < 12 → σ 34 a = mk a) (hlen : ∀ a b, a < 12 → b < 12 → σ 33 (12 * b + a) = len a b) (hlk : ∀ a b, a < 12 → b < 12 → zLk σ (nI a) (nI b) = lk a b) (hsym : ∀ a b, a < n → b < n → lk a b = lk b a) (hirr : ∀ a, a < n → lk a a = false) (hC : ∀ x, SPR n lk x → (x = zAll (nI n) ↔ C)) : zI G 4 M_Mo_start [zf G 32, .int v1, .int v2, .int v3, .int v4, .int v5] σ (fun x τ => MSE σ n mk len lk C v1 v2 v3 v4 v5 x τ) := by
  refine zSpec.of (by decide) (Nat.le_of_ble_eq_true rfl) rfl (fun X E => ?_)
  have hM : MLB mk len := ⟨fun a ha => by rw [← hmk a ha]; exact hLM.2 a ha, fun a b ha hb => by rw [← hlen a b ha hb]; exact hLM.1 _ (by omega)⟩
  have bad : SB0 (zNo σ v3) v1 v2 v4 v5 ∨ ¬ C → ∃ x : Int32, some (Value.int (-1 : Int32)) = some (Value.int x) ∧ MSE σ n mk len lk C v1 v2 v3 v4 v5 x σ := fun hb => ⟨_, rfl, Or.inl ⟨rfl, rfl, hb⟩⟩
  -- the rounds begin
  have go : ∀ (υ : zSt) (R W pp j : Nat), (¬ SB0 (zNo σ v3) v1 v2 v4 v5 ∧ C ∧ (v1 = nI pp ∧ pp ≤ 3) ∧ (v5 = nI R ∧ 1 ≤ R ∧ R ≤ 20) ∧ (v2 = nI W ∧ W ≤ 2) ∧ (v3 = nI j ∧ j < n) ∧ FRA n W lk (paF W n lk v4) (upF W n j lk v4) (ldF W n j lk v4)) → υ 32 4 = 1 → (∀ q b, q ≤ R → b < n → υ 50 (12 * q + b) = (sV pp (nI j) n mk len lk q b).1) → MFr υ W n j lk v4 → MT υ n R W pp (nI j) mk len lk (paF W n lk v4) (upF W n j lk v4) → MA υ n (A0 pp (nI j) mk (S00 σ n)) → MF FMo JMo σ υ → zZ G M_Mo_start 4 X (fun r τ => ∃ x : Int32, r = some (.int x) ∧ MSE σ n mk len lk C v1 v2 v3 v4 v5 x τ) 302 [(0, zf G 32), (8, .int (0 : Int32))] [] υ := by
    intro υ R W pp j ⟨y1, y2, y3, ⟨y4, hR1, hR20⟩, ⟨y5, hW⟩, y6, hF⟩ h4 h50 hFr hT hA hFσ
    have qs := fun i (hi : i ≤ n) => QS_all (S := S00 σ n) (src := nI j) (p := pp) hn12 hR20 hR1 hW hF hM (fun c u hc hu => ⟨(upF_ok hn12 hc hu).1, (upF_ok hn12 hc hu).2.1⟩) (fun c hc => S00_rd hc) i hi
    refine z_for n (fun i τ => zZ G M_Mo_start 4 X (fun r τ => ∃ x : Int32, r = some (.int x) ∧ MSE σ n mk len lk C v1 v2 v3 v4 v5 x τ) 302 [(0, zf G 32), (8, .int (nI i))] [] τ) (fun i τ => MF FBeg [27, 29, 30] υ τ ∧ MA τ n (aSt n R W pp (nI j) mk len lk (paF W n lk v4) (upF W n j lk v4) (A0 pp (nI j) mk (S00 σ n)) i)) ?_ ?_ 0 υ (Nat.zero_le _) ⟨MF.rf, hA⟩
    · intro a τ ha ⟨k1, k2⟩ ih
      have hTτ : MT τ n R W pp (nI j) mk len lk (paF W n lk v4) (upF W n j lk v4) := hT.of k1 (by decide) (by decide)
      have nτ : τ 32 0 = nI n := hTτ.1.1
      have hq := qs a (by omega)
      have hB := hq.bg hR1 hn12 ha
      obtain ⟨hQ, _, q3, q4⟩ := hq
      obtain ⟨ra, va⟩ := q3 a (Nat.le_refl _) ha
      have l528 := hQ.le528 hn12 hR20 hR1 hF
      have r1 : rdP (aS (aBeg n pp (nI j) mk len lk (upF W n j lk v4) (aSt n R W pp (nI j) mk len lk (paF W n lk v4) (upF W n j lk v4) (A0 pp (nI j) mk (S00 σ n)) a) a)) a = 1 := by
        show fup (rdP (aS (aSt n R W pp (nI j) mk len lk (paF W n lk v4) (upF W n j lk v4) (A0 pp (nI j) mk (S00 σ n)) a))) a (rdP (aS (aSt n R W pp (nI j) mk len lk (paF W n lk v4) (upF W n j lk v4) (A0 pp (nI j) mk (S00 σ n)) a)) a + 1) a = 1
        rw [fup_s, ra]
      refine b_Mo_start_302 E (nI a) τ ⟨fun q => absurd q (by rw [nτ]; exact nI_ge ha (by omega)), fun _ => ⟨_, s_Mo_beginRound2 G τ a 1 hTτ k2 hQ.1.2.2 ha (by omega) hR1 (by omega) (fun _ => va), fun σ1 ⟨m1, m2⟩ => ⟨_, s_Mo_goOn2 G σ1 a (hTτ.of m1 (by decide) (by decide)) hF ha R m2 (hQ.beg hn12 hR20 hM ha hB) (by omega) (by omega), fun σ2 ⟨m3, m4⟩ => ?_⟩⟩⟩
      rw [nI_1]
      exact ih σ2 ⟨(k1.tr m1).tr m3, m4⟩
    · intro τ ⟨k1, k2⟩
      have hTτ : MT τ n R W pp (nI j) mk len lk (paF W n lk v4) (upF W n j lk v4) := hT.of k1 (by decide) (by decide)
      have nτ : τ 32 0 = nI n := hTτ.1.1
      refine b_Mo_start_302 E (nI n) τ ⟨fun _ => ⟨_, rfl, Or.inr ⟨y1, y2, hFσ.tr (k1.mono (by decide) (by decide)), by rw [k1.2 4 (by decide)]; exact h4, pp, R, W, j, y3, ⟨y4, hR1, hR20⟩, ⟨y5, hW⟩, y6, hTτ, k2, k2.2.1.1.1, ?_, fun q b hq hb => by rw [k1.at (by decide)]; exact h50 q b hq hb⟩⟩, fun q => absurd (by rw [nτ]; exact nI_le (Nat.le_refl n) (by omega)) q⟩
      exact hFr.of (k1.at (by decide)) (k1.at (by decide)) (k1.at (by decide)) (k1.2 19 (by decide)) (k1.2 20 (by decide))
  -- the nodes are set
  have set : ∀ (υ : zSt) (R W pp j : Nat), (¬ SB0 (zNo σ v3) v1 v2 v4 v5 ∧ C ∧ (v1 = nI pp ∧ pp ≤ 3) ∧ (v5 = nI R ∧ 1 ≤ R ∧ R ≤ 20) ∧ (v2 = nI W ∧ W ≤ 2) ∧ (v3 = nI j ∧ j < n) ∧ FRA n W lk (paF W n lk v4) (upF W n j lk v4) (ldF W n j lk v4)) → (υ 32 4 = 1 ∧ υ 32 5 = nI pp ∧ υ 32 7 = nI j ∧ υ 32 8 = nI R ∧ υ 32 6 = nI W ∧ υ 32 0 = nI n ∧ υ 32 27 = 0 ∧ υ 32 29 = 0 ∧ υ 32 30 = 0 ∧ υ 32 19 = 1 ∧ υ 32 20 = 0) → MF [44, 45] JMo σ υ → (∀ i, i < 12672 → υ 45 i = 0) → (∀ i, i < 144 → υ 44 i = 0) → zZ G M_Mo_start 4 X (fun r τ => ∃ x : Int32, r = some (.int x) ∧ MSE σ n mk len lk C v1 v2 v3 v4 v5 x τ) 197 [(0, zf G 32), (4, .int v4), (7, .int (zAll (nI n))), (8, .int (0 : Int32))] [] υ := by
    intro υ R W pp j hy ⟨h4, h5, h7, h8, h6, h0, h27, h29, h30, h19, h20⟩ hFσ h45 h44
    have hp3 : pp ≤ 3 := hy.2.2.1.2
    have hR1 : 1 ≤ R := hy.2.2.2.1.2.1
    have hR20 : R ≤ 20 := hy.2.2.2.1.2.2
    have hW2 : W ≤ 2 := hy.2.2.2.2.1.2
    have hjn : j < n := hy.2.2.2.2.2.1.2
    refine z_for n (fun i τ => zZ G M_Mo_start 4 X (fun r τ => ∃ x : Int32, r = some (.int x) ∧ MSE σ n mk len lk C v1 v2 v3 v4 v5 x τ) 197 [(0, zf G 32), (4, .int v4), (7, .int (zAll (nI n))), (8, .int (nI i))] [] τ) (fun i τ => zFr [35, 41, 42, 47, 48, 49] υ τ ∧ (∀ a, a < i → τ 41 a = -2 ∧ τ 42 a = nI a ∧ τ 47 a = first0 pp (decide (nI a = nI j)) (mk a) ∧ τ 48 a = -2 ∧ τ 49 a = first0 pp (decide (nI a = nI j)) (mk a)) ∧ ∀ a, τ 35 a = if a < i then 0 else σ 35 a) ?_ ?_ 0 υ (Nat.zero_le _) ⟨zFr.rf, fun a ha => absurd ha (Nat.not_lt_zero a), fun a => by rw [if_neg (Nat.not_lt_zero a), hFσ.at (by decide)]⟩
    · intro a τ ha ⟨g1, g2, g3⟩ ih
      have nτ : τ 32 0 = nI n := by rw [g1 32 (by decide)]; exact h0
      have ia : vp_in (nI a) 12 := vp_in_nI (by omega) (by decide)
      have ca : (nI a).toNatClampNeg = a := nI_clamp (by omega)
      refine b_Mo_start_197 E v4 (zAll (nI n)) (nI a) τ ⟨fun q => absurd q (by rw [nτ]; exact nI_ge ha (by omega)), fun _ => ⟨ia, fun σ6 e6 => ⟨ia, fun σ7 e7 => ?_⟩⟩⟩
      have f7 : zFr [35, 41, 42, 47, 48, 49] υ σ7 := by rw [e7, e6]; exact (g1.up (by decide)).up (by decide)
      refine ⟨_, s_Mo_first2 G σ7 a a pp (by omega) (by omega) (by rw [f7 32 (by decide)]; exact h5) hp3, fun σ8 ⟨k1, k2, k3⟩ => ⟨vp_in_nI (by omega) (by decide), vp_in_nI (by omega) (by decide), fun σ9 e9 => ⟨ia, fun σ10 e10 => ?_⟩⟩⟩
      rw [nI_1]
      rw [ca] at e6 e7 e9 e10
      rw [f7 32 (by decide), h7, f7 34 (by decide), hFσ.at (c := 34) (by decide), hmk a (by omega)] at k2
      have x41 : σ10 41 = upd (τ 41) a (-2) := by rw [e10, zup_ne (by decide), e9, zup_ne (by decide), k1 41 (by decide), e7, zup_ne (by decide), e6, zup_self]
      have x42 : σ10 42 = upd (τ 42) a (nI a) := by rw [e10, zup_ne (by decide), e9, zup_ne (by decide), k1 42 (by decide), e7, zup_self, e6, zup_ne (by decide)]
      have x35 : σ10 35 = upd (τ 35) a 0 := by rw [e10, zup_self, e9, zup_ne (by decide), k1 35 (by decide), e7, zup_ne (by decide), e6, zup_ne (by decide)]
      have x47 : σ10 47 = upd (τ 47) a (first0 pp (decide (nI a = nI j)) (mk a)) := by rw [e10, zup_ne (by decide), e9, zup_ne (by decide), k2, e7, zup_ne (by decide), e6, zup_ne (by decide)]
      have x48 : σ10 48 = upd (τ 48) a (-2) := by rw [e10, zup_ne (by decide), e9, zup_ne (by decide), k3, e7, zup_ne (by decide), e6, zup_ne (by decide)]
      have x49 : σ10 49 = upd (τ 49) a (first0 pp (decide (nI a = nI j)) (mk a)) := by rw [e10, zup_ne (by decide), e9, zup_self, k2, upd_eq, k1 49 (by decide), e7, zup_ne (by decide), e6, zup_ne (by decide)]
      refine ih σ10 ⟨by rw [e10, e9]; exact ((f7.tr (k1.mono (by decide))).up (by decide)).up (by decide), fun b hb => ?_, fun b => ?_⟩
      · rw [x41, x42, x47, x48, x49]
        by_cases hba : b = a
        · rw [hba, upd_eq, upd_eq, upd_eq, upd_eq, upd_eq]; exact ⟨rfl, rfl, rfl, rfl, rfl⟩
        · rw [upd_ne hba, upd_ne hba, upd_ne hba, upd_ne hba, upd_ne hba]; exact g2 b (by omega)
      · rw [x35]
        by_cases hba : b = a
        · rw [hba, upd_eq, if_pos (show a < a + 1 by omega)]
        · rw [upd_ne hba, g3 b]
          by_cases q : b < a
          · rw [if_pos q, if_pos (show b < a + 1 by omega)]
          · rw [if_neg q, if_neg (show ¬ b < a + 1 by omega)]
    · intro τ ⟨g1, g2, g3⟩
      have e32 : τ 32 = υ 32 := g1 32 (by decide)
      have nτ : τ 32 0 = nI n := by rw [e32]; exact h0
      have wτ : τ 32 6 = nI W := by rw [e32]; exact h6
      have fτ : MF FMo JMo σ τ := (hFσ.mono (by decide) (by decide)).tr ((MF.of (J := JMo) g1 (by decide)).mono (by decide) (fun _ h => h))
      have lkτ : ∀ a b, a < 12 → b < 12 → zLk τ (nI a) (nI b) = lk a b := fun a b ha hb => by rw [← hlk a b ha hb]; unfold zLk; rw [fτ.at (c := 33) (by decide)]
      -- behind the trees
      have last : ∀ ρ : zSt, MF [41, 42, 43, 44] [19, 20] τ ρ → MFr ρ W n j lk v4 → ∃ P : zSt → Prop, zV G 2 M_Mo_step [zf G 32] ρ P ∧ ∀ σ1 : zSt, P σ1 → zZ G M_Mo_start 4 X (fun r τ => ∃ x : Int32, r = some (.int x) ∧ MSE σ n mk len lk C v1 v2 v3 v4 v5 x τ) 302 [(0, zf G 32), (8, .int (0 : Int32))] [] σ1 := by
        intro ρ k1 k2
        have fρ : MF FMo JMo σ ρ := fτ.tr (k1.mono (by decide) (by decide))
        have lm : LM ρ := hLM.of (fρ.at (by decide)) (fρ.at (by decide))
        have n0 : ρ 32 0 = nI n := by rw [k1.2 0 (by decide)]; exact nτ
        have n8 : ρ 32 8 = nI R := by rw [k1.2 8 (by decide), e32]; exact h8
        have n6 : ρ 32 6 = nI W := by rw [k1.2 6 (by decide)]; exact wτ
        have n5 : ρ 32 5 = nI pp := by rw [k1.2 5 (by decide), e32]; exact h5
        have n7 : ρ 32 7 = nI j := by rw [k1.2 7 (by decide), e32]; exact h7
        have n4 : ρ 32 4 = 1 := by rw [k1.2 4 (by decide), e32]; exact h4
        have lkρ : ∀ a b, a < 12 → b < 12 → zLk ρ (nI a) (nI b) = lk a b := fun a b ha hb => by rw [← hlk a b ha hb]; unfold zLk; rw [fρ.at (c := 33) (by decide)]
        refine ⟨_, s_Mo_step2 G ρ n R pp mk len lk n0 hn12 n8 hR20 n5 hp3 lm (fun a ha => by rw [fρ.at (by decide)]; exact hmk a ha) (fun a b ha hb => by rw [fρ.at (by decide)]; exact hlen a b ha hb) lkρ, fun σ1 ⟨⟨m1, m2⟩, m50⟩ => ?_⟩
        rw [n7] at m50
        have q32 : σ1 32 = ρ 32 := m1 32 (by decide)
        have f1 : MFr σ1 W n j lk v4 := k2.of (m1 41 (by decide)) (m1 42 (by decide)) (m1 44 (by decide)) (by rw [q32]) (by rw [q32])
        obtain ⟨u1, u2⟩ := f1.up hn12
        have e1ρ : ∀ c, c ≠ 32 → c ∉ [41, 42, 43, 44] → c ∉ FStep → σ1 c = τ c := fun c c0 c1 c2 => by
          rw [m1 c c2]
          exact k1.at (fun q => by
            rcases List.mem_cons.mp q with e | e
            · exact c0 e
            · exact c1 e)
        refine go σ1 R W pp j hy (by rw [q32]; exact n4) m50 f1 ?_ ?_ (fρ.tr ((MF.of (J := JMo) m1 (by decide)).mono (by decide) (fun _ h => h)))
        · refine ⟨⟨by rw [q32]; exact n0, h1n, hn12, by rw [q32]; exact n8, hR1, hR20, by rw [q32]; exact n6, hW2, u1, lm.of (m1 33 (by decide)) (m1 34 (by decide))⟩, ⟨by rw [q32]; exact n5, hp3, by rw [q32]; exact n7⟩, fun a ha => ?_, fun a b ha hb => ?_, fun a b ha hb => ?_, u2, fun w0 => ⟨fun a b _ _ => ?_, fun c _ => ?_⟩, f1.2.1⟩
          · rw [m1 34 (by decide), fρ.at (by decide)]; exact hmk a ha
          · rw [m1 33 (by decide), fρ.at (by decide)]; exact hlen a b ha hb
          · rw [← lkρ a b (by omega) (by omega)]; unfold zLk; rw [m1 33 (by decide)]
          · unfold paF; rw [if_pos w0]
          · unfold upF; rw [if_pos w0]
        · have z35 : ∀ a, σ1 35 a = if a < n then 0 else σ 35 a := fun a => by rw [e1ρ 35 (by decide) (by decide) (by decide)]; exact g3 a
          have z : ∀ c, c ≠ 32 → c ∉ [41, 42, 43, 44] → c ∉ FStep → c ∉ [35, 41, 42, 47, 48, 49] → c ∉ [44, 45] → σ1 c = σ c := fun c c0 c1 c2 c3 c4 => by
            rw [e1ρ c c0 c1 c2, g1 c c3]
            exact hFσ.at (fun q => by
              rcases List.mem_cons.mp q with e | e
              · exact c0 e
              · exact c4 e)
          refine ⟨⟨psS_S00 z35 (z 36 (by decide) (by decide) (by decide) (by decide) (by decide)) (z 37 (by decide) (by decide) (by decide) (by decide) (by decide)) (z 38 (by decide) (by decide) (by decide) (by decide) (by decide)) (z 39 (by decide) (by decide) (by decide) (by decide) (by decide)) (z 40 (by decide) (by decide) (by decide) (by decide) (by decide)), fun a ha => ?_⟩, ⟨⟨?_, Nat.zero_le _, fun i hi => absurd hi (Nat.not_lt_zero i)⟩, ?_, ?_⟩, fun a ha => ?_, fun r a hr ha => ?_, fun w a b q hw ha hb hq => ?_, fun a b q ha hb hq hc => ?_⟩
          · show σ1 35 a = nI (rdP (S00 σ n) a)
            rw [S00_rd ha, z35 a, if_pos ha]; rfl
          · rw [q32, k1.2 27 (by decide), e32, h27]; rfl
          · rw [q32, k1.2 29 (by decide), e32]; exact h29
          · rw [q32, k1.2 30 (by decide), e32]; exact h30
          · obtain ⟨p1, p2⟩ := m2 a (by omega)
            rw [p1, p2, k1.at (c := 47) (by decide), k1.at (c := 48) (by decide)]
            exact ⟨(g2 a ha).2.2.1, (g2 a ha).2.2.2.1⟩
          · have hr : r ≤ rdP (S00 σ n) a := hr
            rw [S00_rd ha] at hr
            have e : r = 0 := by omega
            rw [e, Nat.mul_zero, Nat.zero_add, e1ρ 49 (by decide) (by decide) (by decide)]
            exact (g2 a ha).2.2.2.2
          · show false = decide (¬ σ1 45 (pl w a b q) = 0)
            rw [e1ρ 45 (by decide) (by decide) (by decide), g1 45 (by decide), h45 _ (pl_lt hw (by omega) (by omega) hq)]
            rfl
          · exact absurd hc (by simp [A0])
      refine b_Mo_start_197 E v4 (zAll (nI n)) (nI n) τ ⟨fun _ => ⟨fun hw1 => ⟨fun hw2 => ?_, fun hw2 => ?_⟩, fun hw1 => ?_⟩, fun q => absurd (by rw [nτ]; exact nI_le (Nat.le_refl n) (by omega)) q⟩
      · -- each node alone
        rw [wτ] at hw1 hw2
        have w0 : W = 0 := by
          rcases Nat.lt_or_ge W 1 with q | q
          · omega
          · rcases Nat.lt_or_ge W 2 with q2 | q2
            · exact absurd (by rw [show W = 1 by omega]; rfl) hw1
            · exact absurd (by rw [show W = 2 by omega]; rfl) hw2
        refine last τ MF.rf ⟨fun c hc => ?_, fun q => absurd w0 q, ?_, ?_⟩
        · unfold ldF upF
          rw [if_pos w0, if_pos w0]
          exact ⟨(g2 c hc).2.1, (g2 c hc).1⟩
        · unfold clN; rw [if_neg (by omega), e32]; exact h19
        · unfold chN; rw [if_neg (by omega), e32]; exact h20
      · -- clusters
        rw [wτ] at hw2
        have w2 : W = 2 := (nI_eq (a := W) (b := 2) (by omega) (by omega)).mp hw2
        have hk : ¬ (v4 < 2 ∨ 8 < v4) := fun q => hy.1 (Or.inr (Or.inr (Or.inr (Or.inr (Or.inr (Or.inr (Or.inr ⟨by rw [hy.2.2.2.2.1.1, w2]; rfl, q⟩)))))))
        have c1 : ¬ v4.toInt < 2 := fun q => hk (Or.inl (i32_lt.mpr (by rw [show (2 : Int32).toInt = 2 by decide]; exact q)))
        have c2 : ¬ 8 < v4.toInt := fun q => hk (Or.inr (i32_lt.mpr (by rw [show (8 : Int32).toInt = 8 by decide]; exact q)))
        have h44τ : ∀ i, i < 144 → τ 44 i = 0 := fun i hi => by rw [g1 44 (by decide)]; exact h44 i hi
        refine ⟨_, s_Mo_makeClusters2 G τ n v4.toInt.toNat v4 lk (i32_of (by omega) (by omega)) (by omega) (by omega) nτ hn12 (fun a b ha hb => lkτ a b (by omega) (by omega)) h44τ (by rw [e32]; exact h20), fun σ2 ⟨k1, k2, k3, k4, k5⟩ => last σ2 k1 ⟨fun c hc => ?_, fun _ a b ha hb => ?_, ?_, ?_⟩⟩
        · obtain ⟨l1, l2, l3⟩ := Ldr_ok (lk := lk) (k := v4) hn12 hc
          obtain ⟨q1, q2⟩ := k3 _ c l1 hc l2 l3
          unfold ldF upF
          rw [if_neg (by omega), if_neg (by omega), if_neg (by omega), if_neg (by omega)]
          exact ⟨q1, q2.trans (upE_enc _)⟩
        · unfold paF
          rw [if_neg (by omega), if_neg (by omega)]
          obtain ⟨p1, p2⟩ := k5 a b ha hb
          cases hb2 : chB n lk (Ldr n lk v4) a b with
          | true =>
            rw [p1 ((chP_n ha hb).mpr hb2)]; rfl
          | false =>
            rw [p2 (fun q => by rw [(chP_n ha hb).mp q] at hb2; exact absurd hb2 (by decide))]; rfl
        · unfold clN; rw [if_pos w2]; exact k2
        · unfold chN; rw [if_pos w2]; exact k4
      · -- the tree of the source
        rw [wτ] at hw1
        have w1 : W = 1 := (nI_eq (a := W) (b := 1) (by omega) (by omega)).mp hw1
        rw [e32, h7]
        refine ⟨_, s_Mo_tree2 G τ n j (zAll (nI n)) lk nτ hn12 hjn (fun a b ha hb => lkτ a b (by omega) (by omega)), fun σ4 ⟨k1, k2, k3, k4, k5⟩ => last σ4 ((MF.of (J := [19, 20]) k1 (by decide)).mono (by decide) (fun _ h => h)) ⟨fun c hc => ?_, fun _ a b ha hb => ?_, ?_, ?_⟩⟩
        · unfold ldF upF
          rw [if_neg (by omega), if_pos w1, if_neg (by omega), if_pos w1]
          exact ⟨k2 c hc (all_in hn12 hc), (k4 c hc (all_in hn12 hc)).2.trans (upE_enc _)⟩
        · unfold paF
          rw [if_neg (by omega), if_pos w1, k1 44 (by decide), g1 44 (by decide), h44 _ (by omega)]
          rfl
        · unfold clN; rw [if_neg (by omega), k1 32 (by decide), e32]; exact h19
        · unfold chN; rw [if_neg (by omega), k1 32 (by decide), e32]; exact h20
  -- what was, is wiped
  have wipe : ∀ (υ : zSt) (R W pp j : Nat), (¬ SB0 (zNo σ v3) v1 v2 v4 v5 ∧ C ∧ (v1 = nI pp ∧ pp ≤ 3) ∧ (v5 = nI R ∧ 1 ≤ R ∧ R ≤ 20) ∧ (v2 = nI W ∧ W ≤ 2) ∧ (v3 = nI j ∧ j < n) ∧ FRA n W lk (paF W n lk v4) (upF W n j lk v4) (ldF W n j lk v4)) → (υ 32 4 = 1 ∧ υ 32 5 = nI pp ∧ υ 32 7 = nI j ∧ υ 32 8 = nI R ∧ υ 32 6 = nI W ∧ υ 32 0 = nI n ∧ υ 32 27 = 0 ∧ υ 32 29 = 0 ∧ υ 32 30 = 0 ∧ υ 32 19 = 1 ∧ υ 32 20 = 0) → MF [44, 45] JMo σ υ → zZ G M_Mo_start 4 X (fun r τ => ∃ x : Int32, r = some (.int x) ∧ MSE σ n mk len lk C v1 v2 v3 v4 v5 x τ) 147 [(0, zf G 32), (4, .int v4), (7, .int (zAll (nI n))), (8, .int (0 : Int32))] [] υ := by
    intro υ R W pp j hy h32 hFσ
    have two : ∀ ρ : zSt, ρ = zfill υ 45 12672 0 → zZ G M_Mo_start 4 X (fun r τ => ∃ x : Int32, r = some (.int x) ∧ MSE σ n mk len lk C v1 v2 v3 v4 v5 x τ) 172 [(0, zf G 32), (4, .int v4), (7, .int (zAll (nI n))), (8, .int (0 : Int32))] [] ρ := by
      intro ρ hρ
      refine z_for 144 (fun i τ => zZ G M_Mo_start 4 X (fun r τ => ∃ x : Int32, r = some (.int x) ∧ MSE σ n mk len lk C v1 v2 v3 v4 v5 x τ) 172 [(0, zf G 32), (4, .int v4), (7, .int (zAll (nI n))), (8, .int (nI i))] [] τ) (fun i τ => τ = zfill ρ 44 i 0) ?_ ?_ 0 ρ (Nat.zero_le _) (zfill_0 ρ 44 0).symm
      · intro i τ hi hI ih
        refine b_Mo_start_172 E v4 (zAll (nI n)) (nI i) τ ⟨fun q => absurd q (nI_ge hi (by decide)), fun _ => ⟨vp_in_nI hi (by decide), fun σ1 e1 => ?_⟩⟩
        rw [nI_1]
        refine ih σ1 ?_
        rw [e1, hI, nI_clamp (by omega), zfill_s]
      · intro τ hI
        refine b_Mo_start_172 E v4 (zAll (nI n)) (nI 144) τ ⟨fun _ => ?_, fun q => absurd (by decide) q⟩
        have t32 : τ 32 = υ 32 := by rw [hI, zfill_ne (by decide), hρ, zfill_ne (by decide)]
        have fr : zFr [44, 45] υ τ := by rw [hI, hρ]; exact (zFr.rf.fill (by decide)).fill (by decide)
        refine set τ R W pp j hy (by rw [t32]; exact h32) (hFσ.tr (MF.of (J := JMo) fr (by decide))) (fun i hi => ?_) (fun i hi => ?_)
        · rw [hI, zfill_ne (by decide), hρ]
          simp [zfill, hi]
        · rw [hI]
          simp [zfill, hi]
    refine z_for 12672 (fun i τ => zZ G M_Mo_start 4 X (fun r τ => ∃ x : Int32, r = some (.int x) ∧ MSE σ n mk len lk C v1 v2 v3 v4 v5 x τ) 147 [(0, zf G 32), (4, .int v4), (7, .int (zAll (nI n))), (8, .int (nI i))] [] τ) (fun i τ => τ = zfill υ 45 i 0) ?_ ?_ 0 υ (Nat.zero_le _) (zfill_0 υ 45 0).symm
    · intro i τ hi hI ih
      refine b_Mo_start_147 E v4 (zAll (nI n)) (nI i) τ ⟨fun q => absurd q (nI_ge hi (by decide)), fun _ => ⟨vp_in_nI hi (by decide), fun σ1 e1 => ?_⟩⟩
      rw [nI_1]
      refine ih σ1 ?_
      rw [e1, hI, nI_clamp (by omega), zfill_s]
    · intro τ hI
      exact b_Mo_start_147 E v4 (zAll (nI n)) (nI 12672) τ ⟨fun _ => two τ hI, fun q => absurd (by decide) q⟩
  -- the answers
  have all_ : ((1 : Int32) <<< ((σ 32 0) &&& 31)) - (1 : Int32) = zAll (nI n) := by rw [hn]; rfl
  have s0 : ¬ SB0 (zNo σ v3) v1 v2 v4 v5 → ¬ v1 < 0 → ¬ (3 : Int32) < v1 → ¬ v2 < 0 → ¬ (2 : Int32) < v2 → zNo σ v3 = false → ¬ v5 < 1 → v5 ≤ 20 → zZ G M_Mo_start 4 X (fun r τ => ∃ x : Int32, r = some (.int x) ∧ MSE σ n mk len lk C v1 v2 v3 v4 v5 x τ) 64 [(0, zf G 32), (1, .int v1), (2, .int v2), (3, .int v3), (4, .int v4), (5, .int v5), (6, .int (0 : Int32))] [] σ := by
    intro nb p0 p3 w1 w2 hno w3 w4
    refine b_Mo_start_64 E v1 v2 v3 v4 v5 0 σ ⟨fun q => absurd rfl q, fun _ => ?_⟩
    rw [all_]
    refine ⟨_, s_Mo_spread2 G σ n _ lk hn h1n hn12 (fun b hb => all_in hn12 hb) (fun a b ha hb => hlk a b (by omega) (by omega)), ?_⟩
    rintro x σ1 ⟨e1, hsp⟩
    refine ⟨fun hx σ3 e3 σ4 e4 σ5 e5 σ6 e6 σ7 e7 σ8 e8 σ9 e9 σ10 e10 σ11 e11 σ12 e12 => ?_, fun hx => by rw [e1]; exact bad (Or.inr (fun c => hx ((hC x hsp).mpr c)))⟩
    have hc : C := (hC x hsp).mp hx
    obtain ⟨pp, hp3, hpp⟩ := nI_of2 (M := 3) (n := 3) (by decide) p0 (Int32.not_lt.mp p3)
    obtain ⟨W, hW, hWe⟩ := nI_of2 (M := 2) (n := 2) (by decide) w1 (Int32.not_lt.mp w2)
    obtain ⟨R, hR1, hR20, hRe⟩ : ∃ R, 1 ≤ R ∧ R ≤ 20 ∧ v5 = nI R := by
      have c1 : ¬ v5.toInt < 1 := fun q => w3 (i32_lt.mpr (by rw [show (1 : Int32).toInt = 1 by decide]; exact q))
      have c2 := i32_le.mp w4
      rw [show (20 : Int32).toInt = 20 by decide] at c2
      refine ⟨v5.toInt.toNat, by omega, by omega, i32_of (by omega) (by omega)⟩
    obtain ⟨j, hj, hje⟩ := zNo_of hno hn hn12
    have f12 : MF [44, 45] JMo σ σ12 := by
      rw [e12, e11, e10, e9, e8, e7, e6, e5, e4, e3, e1]
      exact ((((((((((MF.rf.fld (by decide)).fld (by decide)).fld (by decide)).fld (by decide)).fld (by decide)).fld (by decide)).fld (by decide)).fld (by decide)).fld (by decide)).fld (by decide))
    rw [hx] at hsp
    have hF : FRA n W lk (paF W n lk v4) (upF W n j lk v4) (ldF W n j lk v4) := FRA_F hW hn12 hj hsym hirr hsp
    refine wipe σ12 R W pp j ⟨nb, hc, ⟨hpp, hp3⟩, ⟨hRe, hR1, hR20⟩, ⟨hWe, hW⟩, ⟨hje, hj⟩, hF⟩ ⟨?_, ?_, ?_, ?_, ?_, by rw [f12.2 0 (by decide)]; exact hn, ?_, ?_, ?_, ?_, ?_⟩ f12
    · rw [e12, e11, e10, e9, e8, e7]; simp [zup]
    · rw [← hpp, e12, e11, e10, e9, e8, e7, e6, e5, e4, e3]; simp [zup]
    · rw [← hje, e12, e11, e10, e9, e8, e7, e6, e5]; simp [zup]
    · rw [← hRe, e12, e11, e10, e9, e8, e7, e6]; simp [zup]
    · rw [← hWe, e12, e11, e10, e9, e8, e7, e6, e5, e4]; simp [zup]
    · rw [e12, e11, e10, e9, e8]; simp [zup]
    · rw [e12, e11, e10, e9]; simp [zup]
    · rw [e12, e11, e10]; simp [zup]
    · rw [e12, e11]; simp [zup]
    · rw [e12]; simp [zup]
  have one : SB0 (zNo σ v3) v1 v2 v4 v5 → zZ G M_Mo_start 4 X (fun r τ => ∃ x : Int32, r = some (.int x) ∧ MSE σ n mk len lk C v1 v2 v3 v4 v5 x τ) 64 [(0, zf G 32), (1, .int v1), (2, .int v2), (3, .int v3), (4, .int v4), (5, .int v5), (6, .int (1 : Int32))] [] σ := fun hb => b_Mo_start_64 E v1 v2 v3 v4 v5 1 σ ⟨fun _ => bad (Or.inl hb), fun q => absurd q (by decide)⟩
  refine b_Mo_start_0 E v1 v2 v3 v4 v5 σ ⟨fun h => one (Or.inl h), fun p0 => ⟨fun h => one (Or.inr (Or.inl h)), fun p3 => ⟨fun h => one (Or.inr (Or.inr (Or.inl h))), fun w0 => ⟨fun h => one (Or.inr (Or.inr (Or.inr (Or.inl h)))), fun w2 => ⟨fun h => one (Or.inr (Or.inr (Or.inr (Or.inr (Or.inl h))))), fun hs => ?_⟩⟩⟩⟩⟩
  have nb : (v2 = 2 → ¬ (v4 < 2 ∨ 8 < v4)) → ¬ v5 < 1 → v5 ≤ 20 → ¬ SB0 (zNo σ v3) v1 v2 v4 v5 := by
    intro hk hr1 hr2 q
    rcases q with q | q | q | q | q | q | q | q
    · exact p0 q
    · exact p3 q
    · exact w0 q
    · exact w2 q
    · rw [hs] at q; exact absurd q (by decide)
    · exact hr1 q
    · exact q hr2
    · exact hk q.1 q.2
  have b6 : v5 < 1 → SB0 (zNo σ v3) v1 v2 v4 v5 := fun h => Or.inr (Or.inr (Or.inr (Or.inr (Or.inr (Or.inl h)))))
  have b7 : ¬ v5 ≤ 20 → SB0 (zNo σ v3) v1 v2 v4 v5 := fun h => Or.inr (Or.inr (Or.inr (Or.inr (Or.inr (Or.inr (Or.inl h))))))
  have b8 : (v2 = 2 ∧ (v4 < 2 ∨ 8 < v4)) → SB0 (zNo σ v3) v1 v2 v4 v5 := fun h => Or.inr (Or.inr (Or.inr (Or.inr (Or.inr (Or.inr (Or.inr h))))))
  exact ⟨fun hw => ⟨fun h => one (b6 h), fun w3 => ⟨fun w4 => s0 (nb (fun q => absurd q hw) w3 w4) p0 p3 w0 w2 hs w3 w4, fun h => one (b7 h)⟩⟩, fun hw => ⟨fun h => one (b8 ⟨hw, Or.inl h⟩), fun k2 => ⟨fun h => one (b8 ⟨hw, Or.inr h⟩), fun k8 => ⟨fun h => one (b6 h), fun w3 => ⟨fun w4 => s0 (nb (fun _ q => q.elim k2 k8) w3 w4) p0 p3 w0 w2 hs w3 w4, fun h => one (b7 h)⟩⟩⟩⟩⟩
