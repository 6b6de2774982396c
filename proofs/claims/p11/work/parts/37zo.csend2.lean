-- The class is the pure machine: sending, counting, the next round
theorem bN_sel {x : Int32} {P : Nat → Bool} : ∀ {k : Nat}, (∀ b, b < k → zIn x (nI b) = P b) → bN x k = (selL P k).length := by
  intro k
  induction k with
  | zero => intro _; rfl
  | succ k ih =>
    intro h
    unfold bN selL
    rw [ih (fun b hb => h b (by omega)), List.length_append, h k (by omega)]
    by_cases e : P k = true
    · rw [if_pos e, if_pos e]; rfl
    · rw [if_neg e, if_neg e]; rfl
theorem zBc_sel {x : Int32} {n : Nat} {P : Nat → Bool} (hn : n ≤ 12) (h : ∀ b, b < 32 → (zIn x (nI b) = true ↔ (b < n ∧ P b = true))) : zBc x = nI (selL P n).length := by
  have h0 : ∀ c, n ≤ c → c < 32 → zIn x (nI c) = false := fun c h1 h2 => by
    cases e : zIn x (nI c) with
    | false => rfl
    | true => have := ((h c h2).mp e).1; omega
  rw [zBc_bN (fun c h1 h2 => h0 c (by omega) h2), bN_cut hn (fun c h1 h2 => h0 c h1 (by omega)), bN_sel (fun b hb => ?_)]
  cases e : zIn x (nI b) with
  | true => exact ((h b (by omega)).mp e).2.symm
  | false =>
    cases e2 : P b with
    | false => rfl
    | true => rw [(h b (by omega)).mpr ⟨hb, e2⟩] at e; exact absurd e (by decide)
/-- τ is σ with the letters m sent -/
def SC (σ τ : zSt) (l m : List Lt) : Prop := RF FPool σ τ ∧ PV τ (l ++ m) ∧ τ 1 6 = σ 1 6 + nI (cNo m) ∧ τ 1 7 = σ 1 7 + nI (cOt m)
theorem SC.rf {σ : zSt} {l : List Lt} (h : PV σ l) : SC σ σ l [] := ⟨RF.rf, by rw [List.append_nil]; exact h, (Int32.add_zero _).symm, (Int32.add_zero _).symm⟩
theorem SC.tr {σ τ υ : zSt} {l m m' : List Lt} (h : SC σ τ l m) (h2 : SC τ υ (l ++ m) m') : SC σ υ l (m ++ m') := by
  obtain ⟨a1, a2, a3, a4⟩ := h
  obtain ⟨b1, b2, b3, b4⟩ := h2
  exact ⟨a1.tr b1, by rw [← List.append_assoc]; exact b2, by rw [b3, a3, cNo_app, ← nI_add, Int32.add_assoc], by rw [b4, a4, cOt_app, ← nI_add, Int32.add_assoc]⟩
theorem s_Course_send2 (G : zG) (σ : zSt) (n a r : Nat) (l : List Lt) (kind recv num : Int32) (P : Nat → Bool) (hn : σ 2 0 = nI n) (hle : n ≤ 12) (hP : PV σ l) (hz : ∀ b, b < n → zIn recv (nI b) = P b) (hl : (l ++ ltrs kind a r num (selL P n)).length ≤ 528) : zV G 1 M_Course_send [zf G 1, .int kind, .int (nI a), .int recv, .int (nI r), .int num] σ (fun τ => SC σ τ l (ltrs kind a r num (selL P n))) := by
  refine zSpec.of (by decide) (Nat.le_of_ble_eq_true rfl) rfl (fun X E => ?_)
  have mono : ∀ i, i < n → P i = true → (l ++ ltrs kind a r num (selL P i)).length < 528 := fun i hi hp => by
    have key : ∀ k, i < k → (selL P i).length < (selL P k).length := fun k => by
      induction k with
      | zero => intro h; exact absurd h (Nat.not_lt_zero i)
      | succ k ih =>
        intro h
        show _ < (selL P k ++ (if P k = true then [k] else [])).length
        rw [List.length_append]
        by_cases e : i = k
        · rw [e] at hp ⊢; rw [if_pos hp]; simp
        · have := ih (by omega); omega
    have h1 := key n hi
    rw [List.length_append, ltrs_len] at hl ⊢
    omega
  refine b_Course_send_0 E kind (nI a) recv (nI r) num σ ?_
  refine z_for n (fun i τ => zZ G M_Course_send 1 X (fun rr τ => rr = none ∧ SC σ τ l (ltrs kind a r num (selL P n))) 3 [(0, zf G 1), (1, .int kind), (2, .int (nI a)), (3, .int recv), (4, .int (nI r)), (5, .int num), (6, .int (nI i))] [] τ) (fun i τ => SC σ τ l (ltrs kind a r num (selL P i))) ?_ ?_ 0 σ (Nat.zero_le _) (SC.rf hP)
  · intro i τ hi g ih
    have nτ : τ 2 0 = nI n := by rw [g.1.at (by decide)]; exact hn
    refine b_Course_send_3 E kind (nI a) recv (nI r) num (nI i) τ ⟨fun q => absurd q (by rw [nτ]; exact nI_ge hi (by omega)), fun _ => ⟨fun hf => ?_, fun ht => ⟨_, s_Pool_add G τ _ kind (nI a) (nI i) (nI r) num g.2.1, fun σ1 ⟨p1, p2⟩ => ?_⟩⟩⟩
    · rw [nI_1]
      refine ih τ ?_
      rw [hz i hi] at hf
      rw [sel_no (by rw [hf]; decide)]; exact g
    · rw [hz i hi] at ht
      unfold padd at p1
      rw [if_pos (mono i hi ht)] at p1
      have fin : ∀ (σ2 υ : zSt) (v w : Int32), σ2 = zup σ1 1 6 v → υ = zup σ2 1 7 w → v = σ1 1 6 + nI (cNo [(kind, nI a, nI i, nI r, num)]) → w = σ2 1 7 + nI (cOt [(kind, nI a, nI i, nI r, num)]) → zZ G M_Course_send 1 X (fun rr τ => rr = none ∧ SC σ τ l (ltrs kind a r num (selL P n))) 3 [(0, zf G 1), (1, .int kind), (2, .int (nI a)), (3, .int recv), (4, .int (nI r)), (5, .int num), (6, .int (nI i + 1))] [] υ := by
        intro σ2 υ v w e2 e3 hv hw
        rw [nI_1]
        refine ih υ ?_
        rw [sel_yes ht]
        refine g.tr ⟨?_, ?_, ?_, ?_⟩
        · rw [e3, e2]; exact ((RF.of p2 (by decide)).cnt (Or.inl rfl)).cnt (Or.inr rfl)
        · refine p1.of (fun c hc => ?_)
          have hc1 : c ≠ 1 := fun e => by rw [e] at hc; revert hc; decide
          rw [e3, e2, zup_ne hc1, zup_ne hc1]
        · rw [e3, zup_self]; unfold upd; rw [if_neg (by decide), e2, zup_self]; unfold upd; rw [if_pos rfl, hv, p2 1 (by decide)]
        · rw [e3, zup_self]; unfold upd; rw [if_pos rfl, hw, e2, zup_self]; unfold upd; rw [if_neg (by decide), p2 1 (by decide)]
      have c0 : ¬ kind = 0 → cNo [(kind, nI a, nI i, nI r, num)] = 0 ∧ cOt [(kind, nI a, nI i, nI r, num)] = 1 := fun hk => cNo_0 (fun y hy => by rw [List.mem_singleton.mp hy]; exact hk)
      have c1 : kind = 0 → cNo [(kind, nI a, nI i, nI r, num)] = 1 ∧ cOt [(kind, nI a, nI i, nI r, num)] = 0 := fun hk => cNo_1 (fun y hy => by rw [List.mem_singleton.mp hy]; exact hk)
      refine ⟨fun hk σ2 e2 => ⟨fun hk2 σ3 e3 => fin σ2 σ3 _ _ e2 e3 (by rw [(c0 hk).1]; rfl) (by rw [(c0 hk).2]; rfl), fun hk2 => absurd hk2 hk⟩, fun hk σ2 e2 => ⟨fun hk2 => absurd hk hk2, fun hk2 σ3 e3 => fin σ2 σ3 _ _ e2 e3 (by rw [(c1 hk).1]; rfl) (by rw [(c1 hk).2]; rfl)⟩⟩
  · intro τ g
    have nτ : τ 2 0 = nI n := by rw [g.1.at (by decide)]; exact hn
    exact b_Course_send_3 E kind (nI a) recv (nI r) num (nI n) τ ⟨fun _ => ⟨rfl, g⟩, fun q => absurd (by rw [nτ]; exact nI_le (Nat.le_refl n) (by omega)) q⟩
/-- what does not change in the running, as the pure machine takes it -/
def CT (σ : zSt) (n R W p : Nat) (src : Int32) (mk : Nat → Int32) (len : Nat → Nat → Int32) (lk pa : Nat → Nat → Bool) (up : Nat → Option Nat) (ld : Nat → Nat) : Prop :=
  (σ 2 0 = nI n ∧ 1 ≤ n ∧ n ≤ 12 ∧ σ 1 5 = nI R ∧ 1 ≤ R ∧ R ≤ 20 ∧ σ 1 4 = nI W ∧ W ≤ 2) ∧ (σ 4 0 = nI p ∧ p ≤ 3 ∧ σ 4 1 = src) ∧ (∀ a, a < 12 → σ 6 a = mk a) ∧ (∀ a b, a < 12 → b < 12 → σ 8 (a * 12 + b) = len a b) ∧ (∀ a b, a < n → b < 32 → (zIn (σ 7 a) (nI b) = true ↔ (b < n ∧ lk a b = true))) ∧ (∀ c, c < n → σ 9 c = nI (ld c) ∧ ∀ d, d < 32 → (zIn (σ 12 c) (nI d) = true ↔ up c = some d)) ∧ (∀ u c, u < n → c < 32 → (zIn (σ 13 u) (nI c) = true ↔ (c < n ∧ up c = some u))) ∧ (∀ a b, a < n → b < 32 → (zIn (σ 14 a) (nI b) = true ↔ (b < n ∧ pa a b = true)))
theorem b_iff {x y : Bool} (h : x = true ↔ y = true) : x = y := by
  cases x <;> cases y <;> simp_all
section CCLS
variable {n R W p : Nat} {src : Int32} {mk : Nat → Int32} {len : Nat → Nat → Int32} {lk pa : Nat → Nat → Bool} {up : Nat → Option Nat} {ld : Nat → Nat} {A : AS}
theorem CT.of {σ τ : zSt} (h : CT σ n R W p src mk len lk pa up ld) (hF : RF FR σ τ) : CT τ n R W p src mk len lk pa up ld := by
  obtain ⟨⟨h1, h2, h3, h4, h5, h6, h7, h8⟩, h9, h10, h11, h12, h13, h14, h15⟩ := h
  refine ⟨⟨by rw [hF.at (by decide)]; exact h1, h2, h3, by rw [hF.2.2]; exact h4, h5, h6, by rw [hF.2.1]; exact h7, h8⟩, ?_, ?_, ?_, ?_, ?_, ?_, ?_⟩
  · rw [hF.at (by decide)]; exact h9
  · rw [hF.at (by decide)]; exact h10
  · rw [hF.at (by decide)]; exact h11
  · rw [hF.at (by decide)]; exact h12
  · rw [hF.at (by decide), hF.at (by decide)]; exact h13
  · rw [hF.at (by decide)]; exact h14
  · rw [hF.at (by decide)]; exact h15
theorem CT.nb {σ : zSt} (h : CT σ n R W p src mk len lk pa up ld) {a : Nat} (ha : a < n) : (∀ b, b < n → zIn (σ 7 a) (nI b) = lk a b) ∧ zBc (σ 7 a) = nI (nbrs n lk a).length := by
  have hn := h.1.2.2.1
  have h5 := fun b hb => h.2.2.2.2.1 a b ha hb
  exact ⟨fun b hb => b_iff ⟨fun q => ((h5 b (by omega)).mp q).2, fun q => (h5 b (by omega)).mpr ⟨hb, q⟩⟩, zBc_sel (P := fun b => lk a b) hn h5⟩
theorem CT.lo {σ : zSt} (h : CT σ n R W p src mk len lk pa up ld) {a : Nat} (ha : a < n) : (∀ c, c < n → zIn (σ 13 a) (nI c) = decide (up c = some a)) ∧ zBc (σ 13 a) = nI (lows n up a).length := by
  have hn := h.1.2.2.1
  have h5 := fun c hc => h.2.2.2.2.2.2.1 a c ha hc
  exact ⟨fun b hb => b_iff ⟨fun q => decide_eq_true ((h5 b (by omega)).mp q).2, fun q => (h5 b (by omega)).mpr ⟨hb, of_decide_eq_true q⟩⟩, zBc_sel (P := fun c => decide (up c = some a)) hn (fun b hb => by rw [h5 b hb, decide_eq_true_eq])⟩
theorem CT.pt {σ : zSt} (h : CT σ n R W p src mk len lk pa up ld) {a : Nat} (ha : a < n) : (∀ b, b < n → zIn (σ 14 a) (nI b) = pa a b) ∧ zBc (σ 14 a) = nI (pars n pa a).length := by
  have hn := h.1.2.2.1
  have h5 := fun b hb => h.2.2.2.2.2.2.2 a b ha hb
  exact ⟨fun b hb => b_iff ⟨fun q => ((h5 b (by omega)).mp q).2, fun q => (h5 b (by omega)).mpr ⟨hb, q⟩⟩, zBc_sel (P := fun b => pa a b) hn h5⟩
theorem CT.ab {σ : zSt} (h : CT σ n R W p src mk len lk pa up ld) {a : Nat} (ha : a < n) : ∀ b, b < n → zIn (σ 12 a) (nI b) = decide (up a = some b) := by
  have hn := h.1.2.2.1
  have h5 := (h.2.2.2.2.2.1 a ha).2
  exact fun b hb => b_iff ⟨fun q => decide_eq_true ((h5 b (by omega)).mp q), fun q => (h5 b (by omega)).mpr (of_decide_eq_true q)⟩
theorem CT.isl {σ : zSt} (h : CT σ n R W p src mk len lk pa up ld) (hF : FRA n W lk pa up ld) {a : Nat} (ha : a < n) : zLd σ (nI a) = decide (up a = none) := by
  have hn := h.1.2.2.1
  have hl := (hF.1 a ha).1
  unfold zLd
  rw [nI_clamp (by omega), (h.2.2.2.2.2.1 a ha).1]
  by_cases e : up a = none
  · rw [decide_eq_true e, decide_eq_true (by rw [(ld_iff hF ha).mpr e])]
  · rw [decide_eq_false e, decide_eq_false (fun q => e ((ld_iff hF ha).mp ((nI_eq (by omega) (by omega)).mp q)))]
/-- the class's state is the pure machine's -/
def CA (σ : zSt) (n W : Nat) (pa : Nat → Nat → Bool) (up : Nat → Option Nat) (A : AS) : Prop :=
  (∀ a, a < n → σ 24 a = nI (rdP (aS A) a)) ∧ (PV σ (aL A) ∧ σ 1 6 = aN A ∧ σ 1 7 = aO A) ∧ (∀ a, a < n → σ 16 a = aV A a ∧ σ 17 a = aQ A a) ∧ (∀ r a, r ≤ rdP (aS A) a → a < n → σ 30 (r * 12 + a) = aU A r a)
  ∧ (∀ a, a < n → (rdP (aS A) a = 0 → σ 26 a = 0) ∧ (1 ≤ rdP (aS A) a → (σ 26 a).toInt = opP (aS A) a ∧ σ 25 a = nI (stg W (aS A) a)))
  ∧ (∀ a, a < n → σ 27 a = nI ((lows n up a).countP (fun c => aC A 2 a c (rdP (aS A) a))) ∧ σ 28 a = nI ((lows n up a).countP (fun c => aC A 3 a c (rdP (aS A) a))))
  ∧ (∀ a r, a < n → (r = rdP (aS A) a ∨ r = rdP (aS A) a + 1) → σ 29 (r % 2 * 12 + a) = nI ((pars n pa a).countP (fun b => aC A 1 a b r)))
  ∧ (∀ a r, a < n → (r = rdP (aS A) a ∨ r = rdP (aS A) a + 1) → ∀ f, f < 12 → σ 18 (r % 2 * 144 + a * 12 + f) = noteR n A a r f)
theorem CA.put {σ τ : zSt} {S : PS} {m : List Lt} (h : CA σ n W pa up A) (hF : RF (25 :: FPool) σ τ) (hr : rdP S = rdP (aS A)) (ho : opP S = opP (aS A)) (hs : ∀ b, b < n → 1 ≤ rdP (aS A) b → τ 25 b = nI (stg W S b)) (hm : ∀ x, x ∈ m → ¬ x.1 = 0) (hL : PV τ (aL A ++ m)) (h6 : τ 1 6 = σ 1 6 + nI (cNo m)) (h7 : τ 1 7 = σ 1 7 + nI (cOt m)) : CA τ n W pa up (aPut A S m) := by
  obtain ⟨a1, ⟨_, a3, a4⟩, a5, a6, a7, a8, a9, a10⟩ := h
  obtain ⟨c1, c2⟩ := cNo_0 hm
  have hr' : rdP (aS (aPut A S m)) = rdP (aS A) := hr
  have ho' : opP (aS (aPut A S m)) = opP (aS A) := ho
  refine ⟨?_, ⟨hL, ?_, ?_⟩, ?_, ?_, ?_, ?_, ?_, ?_⟩
  · rw [hF.at (by decide), hr']; exact a1
  · rw [h6, c1, a3]; exact Int32.add_zero _
  · rw [h7, c2, a4]; rfl
  · rw [hF.at (by decide), hF.at (by decide)]; exact a5
  · rw [hF.at (by decide), hr']; exact a6
  · rw [hF.at (by decide), hr', ho']
    exact fun b hb => ⟨(a7 b hb).1, fun q => ⟨((a7 b hb).2 q).1, hs b hb q⟩⟩
  · rw [hF.at (by decide), hF.at (by decide), hr']; exact a8
  · rw [hF.at (by decide), hr']; exact a9
  · rw [hF.at (by decide), hr']; exact a10
theorem stg_n {S S' : PS} {a b : Nat} (h : sfP S' b = sfP S b ∧ raP S' b = raP S b ∧ fiP S' b = fiP S b ∧ dnP S' b = dnP S b) : stg W S' b = stg W S b := by
  unfold stg; rw [h.1, h.2.1, h.2.2.1, h.2.2.2]
theorem s_Course_hasAllSafes2 (G : zG) (σ : zSt) (a : Nat) (hT : CT σ n R W p src mk len lk pa up ld) (hA : CA σ n W pa up A) (ha : a < n) (hr : rdP (aS A) a ≤ 20) : zB G 1 M_Course_hasAllSafes [zf G 1, .int (nI a)] σ (fun b τ => τ = σ ∧ b = all1 n pa A a) := by
  refine zSpec.of (by decide) (Nat.le_of_ble_eq_true rfl) rfl (fun X E => ?_)
  have hn := hT.1.2.2.1
  have ia : vp_in (nI a) 12 := vp_in_nI (by omega) (by decide)
  have ca : (nI a).toNatClampNeg = a := nI_clamp (by omega)
  have e24 : σ 24 a = nI (rdP (aS A) a) := hA.1 a ha
  have ix : ((σ 24 (nI a).toNatClampNeg) &&& (1 : Int32)) * 12 + nI a = nI (rdP (aS A) a % 2 * 12 + a) := by rw [ca, e24, pand1 _ (by omega), zi12]
  have e29 := hA.2.2.2.2.2.2.1 a _ ha (Or.inl rfl)
  have key : (σ 29 (((σ 24 (nI a).toNatClampNeg) &&& (1 : Int32)) * 12 + nI a).toNatClampNeg = zBc (σ 14 (nI a).toNatClampNeg)) ↔ all1 n pa A a = true := by
    rw [ix, nI_clamp (by omega), e29, ca, (hT.pt ha).2]
    exact cnt_all hn
  refine b_Course_hasAllSafes_0 E (nI a) σ ⟨ia, par12 _ (by omega), ia, fun h => ⟨false, rfl, rfl, ?_⟩, fun h => ⟨true, rfl, rfl, (key.mp h).symm⟩⟩
  cases e : all1 n pa A a with
  | false => rfl
  | true => exact absurd (key.mpr e) h
theorem s_Course_hasAllBelow2 (G : zG) (σ : zSt) (ck a : Nat) (F : Nat → Bool) (hck : zS[ck]? = some (.inl (.int, 12))) (hT : CT σ n R W p src mk len lk pa up ld) (hc : σ ck a = nI ((lows n up a).countP F)) (ha : a < n) : zB G 1 M_Course_hasAllBelow [zf G 1, zf G ck, .int (nI a)] σ (fun b τ => τ = σ ∧ b = (lows n up a).all F) := by
  refine zSpec.of (by decide) (Nat.le_of_ble_eq_true rfl) rfl (fun X E => ?_)
  have hn := hT.1.2.2.1
  have ia : vp_in (nI a) 12 := vp_in_nI (by omega) (by decide)
  have ca : (nI a).toNatClampNeg = a := nI_clamp (by omega)
  have key : (σ ck (nI a).toNatClampNeg = zBc (σ 13 (nI a).toNatClampNeg)) ↔ (lows n up a).all F = true := by
    rw [ca, hc, (hT.lo ha).2]
    exact cnt_all hn
  refine b_Course_hasAllBelow_0 E (nI a) ck hck σ ⟨ia, ia, fun h => ⟨false, rfl, rfl, ?_⟩, fun h => ⟨true, rfl, rfl, (key.mp h).symm⟩⟩
  cases e : (lows n up a).all F with
  | false => rfl
  | true => exact absurd (key.mpr e) h
end CCLS
