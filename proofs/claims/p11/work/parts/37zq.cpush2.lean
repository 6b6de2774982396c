-- The class is the pure machine: a node goes on
section CCLS3
variable {n R W p : Nat} {src : Int32} {mk : Nat → Int32} {len : Nat → Nat → Int32} {lk pa : Nat → Nat → Bool} {up : Nat → Option Nat} {ld : Nat → Nat} {A : AS}
theorem stg_iff {S : PS} {a : Nat} (hW : ¬ W = 0) (h1 : dnP S a = true → fiP S a = true) (h2 : fiP S a = true → raP S a = true) : (stg W S a = 0 ↔ raP S a = false) ∧ (stg W S a = 2 ↔ (fiP S a = true ∧ dnP S a = false)) := by
  unfold stg
  rw [if_neg hW]
  cases hd : dnP S a <;> cases hf : fiP S a <;> cases hr : raP S a <;> simp_all
theorem stg_le {S : PS} {a : Nat} : stg W S a ≤ 3 := by
  unfold stg
  split
  · split <;> omega
  · split
    · omega
    · split
      · omega
      · split <;> omega
theorem zSf_op {σ : zSt} {a : Nat} {o : Int} (ha : a < 12) (h : (σ 26 a).toInt = o) : zSf σ (nI a) = decide (o = 0) := by
  unfold zSf
  rw [nI_clamp (by omega)]
  by_cases e : o = 0
  · rw [decide_eq_true e, decide_eq_true (Int32.toInt_inj.mp (by rw [h, e]; rfl))]
  · rw [decide_eq_false e, decide_eq_false (fun q => e (by rw [← h, q]; rfl))]
theorem CA_safe {σ : zSt} {a : Nat} (hW : ¬ W = 0) (h : CA σ n W pa up A) : CA σ n W pa up (aSafe n W pa A a) := by
  unfold aSafe
  split
  · refine h.put RF.rf rfl rfl (fun b hb hr => ?_) (fun x hx => absurd hx List.not_mem_nil) (by rw [List.append_nil]; exact h.2.1.1) (Int32.add_zero _).symm (Int32.add_zero _).symm
    rw [((h.2.2.2.2.1 b hb).2 hr).2]
    congr 1
    unfold stg
    rw [if_neg hW, if_neg hW]
  · exact h
theorem s_Course_spreadFirm2 (G : zG) (σ : zSt) (a : Nat) (hT : CT σ n R W p src mk len lk pa up ld) (hA : CA σ n W pa up A) (hW : W = 2) (ha : a < n) (hd : dnP (aS A) a = false) (hl : (aL (aFirm n pa up A a)).length ≤ 528) : zV G 2 M_Course_spreadFirm [zf G 1, .int (nI a)] σ (fun τ => RF (25 :: FPool) σ τ ∧ CA τ n W pa up (aFirm n pa up A a)) := by
  refine zSpec.of (by decide) (Nat.le_of_ble_eq_true rfl) rfl (fun X E => ?_)
  have hn12 : n ≤ 12 := hT.1.2.2.1
  have ia : vp_in (nI a) 12 := vp_in_nI (by omega) (by decide)
  have ca : (nI a).toNatClampNeg = a := nI_clamp (by omega)
  have hl : (aL A ++ (ltrs 5 a (rdP (aS A) a) 0 (lows n up a) ++ ltrs 2 a (rdP (aS A) a) 0 (pars n pa a))).length ≤ 528 := hl
  refine b_Course_spreadFirm_0 E (nI a) σ ⟨ia, fun σ1 e1 => ⟨ia, ia, ?_⟩⟩
  rw [ca] at e1
  have f1 : RF (25 :: FPool) σ σ1 := by rw [e1]; exact RF.rf.up (by decide) (by decide)
  have hT1 := hT.of (f1.mono (by decide))
  have P1 : PV σ1 (aL A) := hA.2.1.1.of (fun c hc => by
    rw [e1, zup_ne]; intro e; rw [e] at hc; revert hc; decide)
  have r1 : σ1 24 a = nI (rdP (aS A) a) := by rw [e1, zup_ne (by decide)]; exact hA.1 a ha
  rw [ca, r1]
  refine ⟨_, s_Course_send2 G σ1 n a _ (aL A) 5 (σ1 13 a) 0 (fun c => decide (up c = some a)) hT1.1.1 hn12 P1 (hT1.lo ha).1 (by
    rw [← List.append_assoc, List.length_append] at hl
    exact Nat.le_trans (Nat.le_add_right _ _) hl), fun σ2 g => ⟨ia, ia, ?_⟩⟩
  have f2 : RF (25 :: FPool) σ σ2 := f1.tr (g.1.mono (by decide))
  have hT2 := hT.of (f2.mono (by decide))
  have r2 : σ2 24 a = nI (rdP (aS A) a) := by rw [g.1.at (by decide)]; exact r1
  rw [r2]
  refine ⟨_, s_Course_send2 G σ2 n a _ _ 2 (σ2 14 a) 0 (fun b => pa a b) hT2.1.1 hn12 g.2.1 (hT2.pt ha).1 (by rw [List.append_assoc]; exact hl), fun σ3 k => ⟨rfl, f2.tr (k.1.mono (by decide)), ?_⟩⟩
  have s := g.tr k
  refine hA.put (f2.tr (k.1.mono (by decide))) rfl rfl (fun b hb hr => ?_) (fun x hx => ?_) s.2.1 (by rw [s.2.2.1, e1, zup_ne (by decide)]; rfl) (by rw [s.2.2.2, e1, zup_ne (by decide)]; rfl)
  · rw [s.1.at (by decide), e1, zup_self]
    by_cases e : b = a
    · rw [e, upd_eq]
      have : stg W (setFi (aS A) a) a = 2 := by
        unfold stg
        rw [if_neg (by omega), if_neg (show ¬ dnP (aS A) a = true by rw [hd]; decide), if_pos (show fup (fiP (aS A)) a true a = true from fup_s)]
      rw [this]; rfl
    · rw [upd_ne e, ((hA.2.2.2.2.1 b hb).2 hr).2]
      congr 1
      exact (stg_n (S := aS A) (S' := setFi (aS A) a) (a := a) ⟨rfl, rfl, fup_n e, rfl⟩).symm
  · rcases List.mem_append.mp hx with e | e
    · obtain ⟨b, _, rfl⟩ := ltrs_mem.mp e; exact (show ¬ (5 : Int32) = 0 by decide)
    · obtain ⟨b, _, rfl⟩ := ltrs_mem.mp e; exact (show ¬ (2 : Int32) = 0 by decide)
theorem s_Course_keepWithAll2 (G : zG) (σ : zSt) (a : Nat) (hT : CT σ n R W p src mk len lk pa up ld) (hF : FRA n W lk pa up ld) (hA : CA σ n W pa up A) (hQ : QE n R W p lk pa up ld A) (ha : a < n) (hr : 1 ≤ rdP (aS A) a) (hW : W = 0) : zB G 2 M_Course_keepWithAll [zf G 1, .int (nI a)] σ (fun b τ => RF (25 :: FPool) σ τ ∧ CA τ n W pa up (aOne n W pa up A a) ∧ b = aEnds n W pa up A a) := by
  have e1 : aOne n W pa up A a = aSafe n W pa A a := by
    unfold aOne aDone aRaise mayR mayD
    rw [if_neg (by rw [hW]; simp), if_neg (by rw [hW]; simp)]
  have en : aEnds n W pa up A a = (sfP (aS (aSafe n W pa A a)) a && all1 n pa (aSafe n W pa A a) a) := by unfold aEnds; rw [if_pos hW]
  rw [e1, en]
  refine zSpec.of (by decide) (Nat.le_of_ble_eq_true rfl) rfl (fun X E => ?_)
  have hn12 : n ≤ 12 := hT.1.2.2.1
  have hR20 : R ≤ 20 := hT.1.2.2.2.2.2.1
  have hR1 : 1 ≤ R := hT.1.2.2.2.2.1
  have hrR := (hQ.1.1.1 a ha).1
  have ia : vp_in (nI a) 12 := vp_in_nI (by omega) (by decide)
  have ca : (nI a).toNatClampNeg = a := nI_clamp (by omega)
  obtain ⟨o1, o2, o3⟩ := op_nn hQ ha hr
  have h7 := (hA.2.2.2.2.1 a ha).2 hr
  have eSf := zSf_op (by omega) h7.1
  have st : stg W (aS A) a = if sfP (aS A) a = true then 1 else 0 := by unfold stg; rw [if_pos hW]
  refine b_Course_keepWithAll_0 E (nI a) σ ⟨ia, fun hs => ⟨ia, fun hne => ⟨_, s_Course_hasAllSafes2 G σ a hT hA ha (by omega), ?_⟩, fun he => ⟨ia, fun σ3 e3 => ⟨ia, ia, ?_⟩⟩⟩, fun hs => ?_⟩
  · rintro b τ ⟨rfl, hb⟩
    rw [ca, h7.2, st] at hne
    have hsf : sfP (aS A) a = true := by
      cases e : sfP (aS A) a with
      | true => rfl
      | false => rw [e] at hne; exact absurd rfl hne
    have es : aSafe n W pa A a = A := by unfold aSafe; rw [if_neg (fun q => by rw [hsf] at q; exact absurd q.1 (by decide))]
    rw [es]
    exact ⟨b, rfl, RF.rf, hA, by rw [hb, hsf]; rfl⟩
  · rw [ca] at e3 he
    rw [h7.2, st] at he
    have hsf : sfP (aS A) a = false := by
      cases e : sfP (aS A) a with
      | false => rfl
      | true => rw [e] at he; exact absurd he (by decide)
    rw [eSf] at hs
    have cnd : sfP (aS A) a = false ∧ opP (aS A) a = 0 := ⟨hsf, of_decide_eq_true hs⟩
    have es : aSafe n W pa A a = aPut A (setSf (aS A) a) (ltrs 2 a (rdP (aS A) a) 0 (pars n pa a)) := by unfold aSafe; rw [if_pos cnd, if_pos hW]
    have q1 : QE n R W p lk pa up ld (aSafe n W pa A a) := ⟨QI.safe hn12 hR20 hQ.1 ha hr, hQ.2.safe⟩
    have hl := q1.le528 hn12 hR20 hR1 hF
    rw [es] at hl ⊢
    have f3 : RF (25 :: FPool) σ σ3 := by rw [e3]; exact RF.rf.up (by decide) (by decide)
    have hT3 := hT.of (f3.mono (by decide))
    have P3 : PV σ3 (aL A) := hA.2.1.1.of (fun c hc => by
      rw [e3, zup_ne]; intro e; rw [e] at hc; revert hc; decide)
    have r3 : σ3 24 a = nI (rdP (aS A) a) := by rw [e3, zup_ne (by decide)]; exact hA.1 a ha
    rw [ca, r3]
    refine ⟨_, s_Course_send2 G σ3 n a _ (aL A) 2 (σ3 14 a) 0 (fun b => pa a b) hT3.1.1 hn12 P3 (hT3.pt ha).1 hl, fun σ4 g => ?_⟩
    have f4 : RF (25 :: FPool) σ σ4 := f3.tr (g.1.mono (by decide))
    have A4 : CA σ4 n W pa up (aPut A (setSf (aS A) a) (ltrs 2 a (rdP (aS A) a) 0 (pars n pa a))) := by
      refine hA.put f4 rfl rfl (fun b hb hr' => ?_) (fun x hx => ?_) g.2.1 (by rw [g.2.2.1, e3, zup_ne (by decide)]; rfl) (by rw [g.2.2.2, e3, zup_ne (by decide)]; rfl)
      · rw [g.1.at (by decide), e3, zup_self]
        by_cases e : b = a
        · rw [e, upd_eq]
          have : stg W (setSf (aS A) a) a = 1 := by
            unfold stg
            rw [if_pos hW, if_pos (show fup (sfP (aS A)) a true a = true from fup_s)]
          rw [this]; rfl
        · rw [upd_ne e, ((hA.2.2.2.2.1 b hb).2 hr').2]
          congr 1
          exact (stg_n (S := aS A) (S' := setSf (aS A) a) (a := a) ⟨fup_n e, rfl, rfl, rfl⟩).symm
      · obtain ⟨b, _, rfl⟩ := ltrs_mem.mp hx; exact (show ¬ (2 : Int32) = 0 by decide)
    refine ⟨_, s_Course_hasAllSafes2 G σ4 a (hT.of (f4.mono (by decide))) A4 ha (show rdP (aS A) a ≤ 20 by omega), ?_⟩
    rintro b τ ⟨rfl, hb⟩
    refine ⟨b, rfl, f4, A4, ?_⟩
    rw [hb]
    show _ = (fup (sfP (aS A)) a true a && _)
    rw [fup_s]; rfl
  · rw [eSf] at hs
    have hop := of_decide_eq_false hs
    have hsf : sfP (aS A) a = false := by
      cases e : sfP (aS A) a with
      | false => rfl
      | true => exact absurd (o3 e) hop
    have es : aSafe n W pa A a = A := by unfold aSafe; rw [if_neg (fun q => hop q.2)]
    rw [es, hsf]
    exact ⟨false, rfl, RF.rf, hA, rfl⟩
theorem s_Course_keepInTree2 (G : zG) (σ : zSt) (a : Nat) (hT : CT σ n R W p src mk len lk pa up ld) (hF : FRA n W lk pa up ld) (hA : CA σ n W pa up A) (hQ : QE n R W p lk pa up ld A) (ha : a < n) (hr : 1 ≤ rdP (aS A) a) (hW : ¬ W = 0) : zB G 2 M_Course_keepInTree [zf G 1, .int (nI a)] σ (fun b τ => RF (25 :: FPool) σ τ ∧ CA τ n W pa up (aTree n W pa up A a) ∧ b = (mayR n W up (aSafe n W pa A a) a && decide (up a = none))) := by
  refine zSpec.of (by decide) (Nat.le_of_ble_eq_true rfl) rfl (fun X E => ?_)
  have hn12 : n ≤ 12 := hT.1.2.2.1
  have hR20 : R ≤ 20 := hT.1.2.2.2.2.2.1
  have hR1 : 1 ≤ R := hT.1.2.2.2.2.1
  have hW2 : W ≤ 2 := hT.1.2.2.2.2.2.2.2
  have hrR := (hQ.1.1.1 a ha).1
  have ia : vp_in (nI a) 12 := vp_in_nI (by omega) (by decide)
  have ca : (nI a).toNatClampNeg = a := nI_clamp (by omega)
  obtain ⟨o1, o2, o3⟩ := op_nn hQ ha hr
  have h7 := (hA.2.2.2.2.1 a ha).2 hr
  have eSf := zSf_op (by omega) h7.1
  obtain ⟨_, _, _, n4, n5, _⟩ := (hQ.1.1.1 a ha).2.1 hr
  have sg := stg_iff (W := W) (S := aS A) (a := a) hW n4 n5
  have sle := stg_le (W := W) (S := aS A) (a := a)
  have A1 := CA_safe (a := a) hW hA
  have esf : sfP (aS (aSafe n W pa A a)) a = decide (opP (aS A) a = 0) := aSafe_sf (fun e => by rw [o3 e]; exact Int.le_refl _) o1
  have q1 : QE n R W p lk pa up ld (aSafe n W pa A a) := ⟨QI.safe hn12 hR20 hQ.1 ha hr, hQ.2.safe⟩
  have hun : ∀ u, up a = some u → u < n := fun u hu => ((hQ.1.1.1 a ha).2.2.1 u hu).1
  have no : mayR n W up (aSafe n W pa A a) a = false → ∃ b : Bool, some (Value.int (0 : Int32)) = some (Value.int (zb b)) ∧ RF (25 :: FPool) σ σ ∧ CA σ n W pa up (aTree n W pa up A a) ∧ b = (mayR n W up (aSafe n W pa A a) a && decide (up a = none)) := fun hm => by
    refine ⟨false, rfl, RF.rf, ?_, by rw [hm]; rfl⟩
    unfold aTree
    rw [if_neg (by rw [hm]; decide)]; exact A1
  have e2 : (lows n up a).all (fun c => aC A 2 a c (rdP (aS A) a)) = all2 n up (aSafe n W pa A a) a := by
    unfold all2
    rw [aSafe_rd, sf_safe.2.2.2.2]
  refine b_Course_keepInTree_0 E (nI a) σ ⟨ia, fun hne => no ?_, fun he => ⟨ia, fun hs => no ?_, fun hs => ⟨_, s_Course_hasAllBelow2 G σ 27 a _ rfl hT (hA.2.2.2.2.2.1 a ha).1 ha, ?_⟩⟩⟩
  · rw [ca, h7.2] at hne
    have hra : raP (aS A) a = true := by
      cases e : raP (aS A) a with
      | true => rfl
      | false => rw [sg.1.mpr e] at hne; exact absurd rfl hne
    unfold mayR
    rw [sf_safe.1, hra]; simp
  · rw [eSf] at hs
    unfold mayR
    rw [esf, hs]; simp
  · rintro b τ ⟨rfl, hb⟩
    rw [e2] at hb
    rw [ca, h7.2] at he
    have hra : raP (aS A) a = false := sg.1.mp ((nI_eq (b := 0) (by omega) (by decide)).mp he)
    have hfi : fiP (aS A) a = false := by
      cases e : fiP (aS A) a with
      | false => rfl
      | true => rw [n5 e] at hra; exact absurd hra (by decide)
    have hdn : dnP (aS A) a = false := by
      cases e : dnP (aS A) a with
      | false => rfl
      | true => rw [n4 e] at hfi; exact absurd hfi (by decide)
    refine ⟨fun hbt => ⟨ia, fun σ3 e3 => ⟨ia, ia, ?_⟩⟩, fun hbf => no ?_⟩
    · have hm : mayR n W up (aSafe n W pa A a) a = true := by
        unfold mayR
        rw [← hb, hbt, sf_safe.1, hra, esf, ← eSf, hs, decide_eq_true hW]; rfl
      have et : aTree n W pa up A a = aPut (aSafe n W pa A a) (setRa (aS (aSafe n W pa A a)) a) (ltrs 3 a (rdP (aS A) a) 0 (selL (fun b => decide (up a = some b)) n)) := by unfold aTree; rw [if_pos hm]
      have hl : (aL (aSafe n W pa A a) ++ ltrs 3 a (rdP (aS A) a) 0 (selL (fun b => decide (up a = some b)) n)).length ≤ 528 := by
        by_cases c : W = 1 ∨ ¬ (mayR n W up (aSafe n W pa A a) a = true ∧ up a = none)
        · have q2 : QE n R W p lk pa up ld (aRaise n W pa up (aSafe n W pa A a) a) := ⟨QI.raise hn12 hR20 hW2 q1.1 ha (by rw [aSafe_rd]; exact hr), q1.2.raise⟩
          have := q2.le528 hn12 hR20 hR1 hF
          rw [← aTree_1 hun c, et] at this
          exact this
        · have hu : up a = none := by
            cases e : up a with
            | none => rfl
            | some u => exact absurd (Or.inr (fun q => by rw [e] at q; exact absurd q.2 (by simp))) c
          rw [hu, selL_none]
          show (aL (aSafe n W pa A a) ++ []).length ≤ 528
          rw [List.append_nil]
          exact q1.le528 hn12 hR20 hR1 hF
      rw [ca] at e3
      have f3 : RF (25 :: FPool) τ σ3 := by rw [e3]; exact RF.rf.up (by decide) (by decide)
      have hT3 := hT.of (f3.mono (by decide))
      have P3 : PV σ3 (aL (aSafe n W pa A a)) := A1.2.1.1.of (fun c hc => by
        rw [e3, zup_ne]; intro e; rw [e] at hc; revert hc; decide)
      have r3 : σ3 24 a = nI (rdP (aS A) a) := by rw [e3, zup_ne (by decide)]; exact hA.1 a ha
      rw [ca, r3]
      refine ⟨_, s_Course_send2 G σ3 n a _ _ 3 (σ3 12 a) 0 (fun b => decide (up a = some b)) hT3.1.1 hn12 P3 (hT3.ab ha) hl, fun σ4 g => ⟨ia, ?_⟩⟩
      have f4 : RF (25 :: FPool) τ σ4 := f3.tr (g.1.mono (by decide))
      refine ⟨_, rfl, f4, ?_, by rw [(hT.of (f4.mono (by decide))).isl hF ha, hm, Bool.true_and]⟩
      rw [et]
      refine A1.put f4 rfl rfl (fun b hb' hr' => ?_) (fun x hx => ?_) g.2.1 (by rw [g.2.2.1, e3, zup_ne (by decide)]) (by rw [g.2.2.2, e3, zup_ne (by decide)])
      · rw [g.1.at (by decide), e3, zup_self]
        by_cases e : b = a
        · rw [e, upd_eq]
          have : stg W (setRa (aS (aSafe n W pa A a)) a) a = 1 := by
            unfold stg
            rw [if_neg hW, if_neg (show ¬ dnP (aS (aSafe n W pa A a)) a = true by rw [sf_safe.2.2.1, hdn]; decide), if_neg (show ¬ fiP (aS (aSafe n W pa A a)) a = true by rw [sf_safe.2.1, hfi]; decide), if_pos (show fup (raP (aS (aSafe n W pa A a))) a true a = true from fup_s)]
          rw [this]; rfl
        · rw [upd_ne e, ((A1.2.2.2.2.1 b hb').2 hr').2]
          congr 1
          exact (stg_n (S := aS (aSafe n W pa A a)) (S' := setRa (aS (aSafe n W pa A a)) a) (a := a) ⟨rfl, fup_n e, rfl, rfl⟩).symm
      · obtain ⟨b, _, rfl⟩ := ltrs_mem.mp hx; exact (show ¬ (3 : Int32) = 0 by decide)
    · unfold mayR
      rw [← hb, hbf]; simp
theorem s_Course_keepInClusters2 (G : zG) (σ : zSt) (a : Nat) (hT : CT σ n R W p src mk len lk pa up ld) (hF : FRA n W lk pa up ld) (hA : CA σ n W pa up A) (hQ : QE n R W p lk pa up ld A) (ha : a < n) (hr : 1 ≤ rdP (aS A) a) (hW : W = 2) : zB G 3 M_Course_keepInClusters [zf G 1, .int (nI a)] σ (fun b τ => RF (25 :: FPool) σ τ ∧ CA τ n W pa up (aOne n W pa up A a) ∧ b = aEnds n W pa up A a) := by
  refine zSpec.of (by decide) (Nat.le_of_ble_eq_true rfl) rfl (fun X E => ?_)
  have hn12 : n ≤ 12 := hT.1.2.2.1
  have hR20 : R ≤ 20 := hT.1.2.2.2.2.2.1
  have hR1 : 1 ≤ R := hT.1.2.2.2.2.1
  have hrR := (hQ.1.1.1 a ha).1
  have ia : vp_in (nI a) 12 := vp_in_nI (by omega) (by decide)
  have ca : (nI a).toNatClampNeg = a := nI_clamp (by omega)
  have q1 : QE n R W p lk pa up ld (aSafe n W pa A a) := ⟨QI.safe hn12 hR20 hQ.1 ha hr, hQ.2.safe⟩
  have r1 : rdP (aS (aSafe n W pa A a)) = rdP (aS A) := aSafe_rd
  have q2 : QE n R W p lk pa up ld (aRaise n W pa up (aSafe n W pa A a) a) := ⟨QI.raise hn12 hR20 (by omega) q1.1 ha (by rw [r1]; exact hr), q1.2.raise⟩
  have r2 : rdP (aS (aRaise n W pa up (aSafe n W pa A a) a)) = rdP (aS A) := by rw [aRaise_rd, r1]
  have q3 : QE n R W p lk pa up ld (aOne n W pa up A a) := QE.one hn12 hR20 (by omega) hQ ha hr
  have hun : ∀ u, up a = some u → u < n := fun u hu => ((hQ.1.1.1 a ha).2.2.1 u hu).1
  have en : aEnds n W pa up A a = (mayD n W pa up (aRaise n W pa up (aSafe n W pa A a) a) a && decide (up a = none)) := by unfold aEnds; rw [if_neg (by omega), if_neg (by omega)]
  obtain ⟨_, _, _, n4, n5, _⟩ := (q2.1.1.1 a ha).2.1 (by rw [r2]; exact hr)
  have sg := stg_iff (W := W) (S := aS (aRaise n W pa up (aSafe n W pa A a) a)) (a := a) (by omega) n4 n5
  have sle := stg_le (W := W) (S := aS (aRaise n W pa up (aSafe n W pa A a) a)) (a := a)
  -- behind raising
  have last : ∀ (υ : zSt), RF (25 :: FPool) σ υ → CA υ n W pa up (aRaise n W pa up (aSafe n W pa A a) a) → (vp_in (nI a) 12 ∧ ((¬ (υ 25 (nI a).toNatClampNeg) = (2 : Int32) → ∃ b : Bool, some (Value.int (0 : Int32)) = some (Value.int (zb b)) ∧ RF (25 :: FPool) σ υ ∧ CA υ n W pa up (aOne n W pa up A a) ∧ b = aEnds n W pa up A a) ∧ ((υ 25 (nI a).toNatClampNeg) = (2 : Int32) → (∃ P : Bool → zSt → Prop, zB G 1 M_Course_hasAllSafes [zf G 1, .int (nI a)] υ P ∧ ∀ (b4 : Bool) (σ3 : zSt), P b4 σ3 → ((b4 = false → ∃ b : Bool, some (Value.int (0 : Int32)) = some (Value.int (zb b)) ∧ RF (25 :: FPool) σ σ3 ∧ CA σ3 n W pa up (aOne n W pa up A a) ∧ b = aEnds n W pa up A a) ∧ (b4 = true → (∃ P : Bool → zSt → Prop, zB G 1 M_Course_hasAllBelow [zf G 1, zf G 28, .int (nI a)] σ3 P ∧ ∀ (b6 : Bool) (σ5 : zSt), P b6 σ5 → ((b6 = true → (vp_in (nI a) 12 ∧ ∀ σ7 : zSt, σ7 = zup σ5 25 (nI a).toNatClampNeg (3 : Int32) → (vp_in (nI a) 12 ∧ (vp_in (nI a) 12 ∧ (∃ P : zSt → Prop, zV G 1 M_Course_send [zf G 1, .int (6 : Int32), .int (nI a), .int (σ7 12 (nI a).toNatClampNeg), .int (σ7 24 (nI a).toNatClampNeg), .int (0 : Int32)] σ7 P ∧ ∀ σ8 : zSt, P σ8 → (vp_in (nI a) 12 ∧ ∃ b : Bool, some (Value.int (zb (zLd σ8 (nI a)))) = some (Value.int (zb b)) ∧ RF (25 :: FPool) σ σ8 ∧ CA σ8 n W pa up (aOne n W pa up A a) ∧ b = aEnds n W pa up A a)))))) ∧ (b6 = false → ∃ b : Bool, some (Value.int (0 : Int32)) = some (Value.int (zb b)) ∧ RF (25 :: FPool) σ σ5 ∧ CA σ5 n W pa up (aOne n W pa up A a) ∧ b = aEnds n W pa up A a))))))))) := by
    intro υ fυ Aυ
    have hTυ := hT.of (fυ.mono (by decide))
    have h7 := (Aυ.2.2.2.2.1 a ha).2 (by rw [r2]; exact hr)
    have no : mayD n W pa up (aRaise n W pa up (aSafe n W pa A a) a) a = false → ∃ b : Bool, some (Value.int (0 : Int32)) = some (Value.int (zb b)) ∧ RF (25 :: FPool) σ υ ∧ CA υ n W pa up (aOne n W pa up A a) ∧ b = aEnds n W pa up A a := fun hD => by
      refine ⟨false, rfl, fυ, ?_, by rw [en, hD]; rfl⟩
      unfold aOne aDone
      rw [if_neg (by rw [hD]; decide)]; exact Aυ
    have e3 : (lows n up a).all (fun c => aC (aRaise n W pa up (aSafe n W pa A a) a) 3 a c (rdP (aS (aRaise n W pa up (aSafe n W pa A a) a)) a)) = all3 n up (aRaise n W pa up (aSafe n W pa A a) a) a := rfl
    refine ⟨ia, fun hne => no ?_, fun he => ⟨_, s_Course_hasAllSafes2 G υ a hTυ Aυ ha (by rw [r2]; omega), ?_⟩⟩
    · rw [ca, h7.2] at hne
      cases hD : mayD n W pa up (aRaise n W pa up (aSafe n W pa A a) a) a with
      | false => rfl
      | true =>
        exfalso
        unfold mayD at hD
        rw [Bool.and_eq_true, Bool.and_eq_true, Bool.and_eq_true, Bool.not_eq_true'] at hD
        exact hne (by rw [sg.2.mpr ⟨hD.2.1, hD.2.2.1⟩]; rfl)
    · rw [ca, h7.2] at he
      obtain ⟨hfi, hdn⟩ := sg.2.mp ((nI_eq (b := 2) (by omega) (by decide)).mp he)
      rintro b4 σ3 ⟨rfl, hb4⟩
      refine ⟨fun hz => no ?_, fun hb4t => ⟨_, s_Course_hasAllBelow2 G σ3 28 a _ rfl hTυ (Aυ.2.2.2.2.2.1 a ha).2 ha, ?_⟩⟩
      · unfold mayD; rw [← hb4, hz]; simp
      · rintro b6 σ5 ⟨rfl, hb6⟩
        rw [e3] at hb6
        refine ⟨fun hb6t => ⟨ia, fun σ7 e7 => ⟨ia, ia, ?_⟩⟩, fun hz => no ?_⟩
        · have hD : mayD n W pa up (aRaise n W pa up (aSafe n W pa A a) a) a = true := by
            unfold mayD
            rw [← hb4, ← hb6, hb4t, hb6t, hfi, hdn, decide_eq_true hW]; rfl
          have eO : aOne n W pa up A a = aPut (aRaise n W pa up (aSafe n W pa A a) a) (setDn (aS (aRaise n W pa up (aSafe n W pa A a) a)) a) (ltrs 6 a (rdP (aS A) a) 0 (selL (fun b => decide (up a = some b)) n)) := by
            unfold aOne aDone
            rw [if_pos hD]
            cases hu : up a with
            | some u => dsimp only; rw [selL_up (hun u hu), r2]; rfl
            | none => dsimp only; rw [selL_none]; rfl
          have hl := q3.le528 hn12 hR20 hR1 hF
          rw [eO] at hl
          rw [ca] at e7
          have f7 : RF (25 :: FPool) σ5 σ7 := by rw [e7]; exact RF.rf.up (by decide) (by decide)
          have hT7 := hTυ.of (f7.mono (by decide))
          have P7 : PV σ7 (aL (aRaise n W pa up (aSafe n W pa A a) a)) := Aυ.2.1.1.of (fun c hc => by
            rw [e7, zup_ne]; intro e; rw [e] at hc; revert hc; decide)
          have r7 : σ7 24 a = nI (rdP (aS A) a) := by rw [e7, zup_ne (by decide), Aυ.1 a ha, r2]
          rw [ca, r7]
          refine ⟨_, s_Course_send2 G σ7 n a _ _ 6 (σ7 12 a) 0 (fun b => decide (up a = some b)) hT7.1.1 hn12 P7 (hT7.ab ha) hl, fun σ8 g => ⟨ia, ?_⟩⟩
          have f8 : RF (25 :: FPool) σ5 σ8 := f7.tr (g.1.mono (by decide))
          refine ⟨_, rfl, fυ.tr f8, ?_, by rw [(hTυ.of (f8.mono (by decide))).isl hF ha, en, hD, Bool.true_and]⟩
          rw [eO]
          refine Aυ.put f8 rfl rfl (fun b hb' hr' => ?_) (fun x hx => ?_) g.2.1 (by rw [g.2.2.1, e7, zup_ne (by decide)]) (by rw [g.2.2.2, e7, zup_ne (by decide)])
          · rw [g.1.at (by decide), e7, zup_self]
            by_cases e : b = a
            · rw [e, upd_eq]
              have : stg W (setDn (aS (aRaise n W pa up (aSafe n W pa A a) a)) a) a = 3 := by
                unfold stg
                rw [if_neg (by omega), if_pos (show fup (dnP (aS (aRaise n W pa up (aSafe n W pa A a) a))) a true a = true from fup_s)]
              rw [this]; rfl
            · rw [upd_ne e, ((Aυ.2.2.2.2.1 b hb').2 hr').2]
              congr 1
              exact (stg_n (S := aS (aRaise n W pa up (aSafe n W pa A a) a)) (S' := setDn (aS (aRaise n W pa up (aSafe n W pa A a) a)) a) (a := a) ⟨rfl, rfl, rfl, fup_n e⟩).symm
          · obtain ⟨b, _, rfl⟩ := ltrs_mem.mp hx; exact (show ¬ (6 : Int32) = 0 by decide)
        · unfold mayD; rw [← hb6, hz]; simp
  refine b_Course_keepInClusters_0 E (nI a) σ ⟨_, s_Course_keepInTree2 G σ a hT hF hA hQ ha hr (by omega), fun b σ1 ⟨g1, g2, g3⟩ => ⟨fun hb => last σ1 g1 ?_, fun hb => ?_⟩⟩
  · rw [← aTree_1 hun (Or.inr (fun q => by
      rw [q.1, decide_eq_true q.2, hb] at g3; exact absurd g3 (by decide)))]
    exact g2
  · rw [hb] at g3
    have g3 := g3.symm
    rw [Bool.and_eq_true] at g3
    have hu := of_decide_eq_true g3.2
    have e2 := aTree_2 (pa := pa) g3.1 hu hW
    refine ⟨_, s_Course_spreadFirm2 G σ1 a (hT.of (g1.mono (by decide))) g2 hW ha ?_ (by rw [e2]; exact q2.le528 hn12 hR20 hR1 hF), fun σ9 ⟨k1, k2⟩ => last σ9 (g1.tr k1) (by rw [← e2]; exact k2)⟩
    have hm := g3.1
    have : dnP (aS (aTree n W pa up A a)) a = dnP (aS A) a := by
      unfold aTree
      rw [if_pos hm]
      show dnP (aS (aSafe n W pa A a)) a = _
      rw [sf_safe.2.2.1]
    rw [this]
    unfold mayR at hm
    rw [Bool.and_eq_true, Bool.and_eq_true, Bool.and_eq_true, Bool.not_eq_true', sf_safe.1] at hm
    obtain ⟨_, _, _, m4, m5, _⟩ := (hQ.1.1.1 a ha).2.1 hr
    cases e : dnP (aS A) a with
    | false => rfl
    | true => rw [m5 (m4 e)] at hm; exact absurd hm.2.2.1 (by decide)
theorem s_Course_push2 (G : zG) (σ : zSt) (a : Nat) (hT : CT σ n R W p src mk len lk pa up ld) (hF : FRA n W lk pa up ld) (hM : MLB mk len) (hA : CA σ n W pa up A) (hQ : QE n R W p lk pa up ld A) (ha : a < n) (hr : 1 ≤ rdP (aS A) a) : zV G 5 M_Course_push [zf G 1, .int (nI a)] σ (fun τ => RF FR σ τ ∧ CA τ n W pa up (aGo n R W p src mk len lk pa up R A a)) := by
  generalize hAF : aGo n R W p src mk len lk pa up R A a = AF
  refine zSpec.of (by decide) (Nat.le_of_ble_eq_true rfl) rfl (fun X E => ?_)
  have hn12 : n ≤ 12 := hT.1.2.2.1
  have hR20 : R ≤ 20 := hT.1.2.2.2.2.2.1
  have hR1 : 1 ≤ R := hT.1.2.2.2.2.1
  have hW2 : W ≤ 2 := hT.1.2.2.2.2.2.2.2
  have ia : vp_in (nI a) 12 := vp_in_nI (by omega) (by decide)
  have ca : (nI a).toNatClampNeg = a := nI_clamp (by omega)
  refine b_Course_push_0 E (nI a) σ ?_
  refine z_for R (fun i τ => zZ G M_Course_push 5 X (fun r τ => r = none ∧ RF FR σ τ ∧ CA τ n W pa up AF) 2 [(0, zf G 1), (1, .int (nI a)), (2, .int (nI i))] [] τ) (fun i τ => RF FR σ τ ∧ ∃ B : AS, CA τ n W pa up B ∧ QE n R W p lk pa up ld B ∧ 1 ≤ rdP (aS B) a ∧ aGo n R W p src mk len lk pa up (R - i) B a = AF) ?_ ?_ 0 σ (Nat.zero_le _) ⟨RF.rf, A, hA, hQ, hr, hAF⟩
  · intro i τ hi ⟨fτ, B, hB, qB, rB, gB⟩ ih
    have hTτ := hT.of fτ
    obtain ⟨f', ef⟩ : ∃ f', R - i = f' + 1 := ⟨R - i - 1, by omega⟩
    have ef2 : f' = R - (i + 1) := by omega
    rw [ef] at gB
    unfold aGo at gB
    have q3 : QE n R W p lk pa up ld (aOne n W pa up B a) := QE.one hn12 hR20 hW2 qB ha rB
    have r3 : rdP (aS (aOne n W pa up B a)) = rdP (aS B) := aOne_rd
    have rR := (q3.1.1.1 a ha).1
    -- behind a keep..: the end of the turn
    have tail : ∀ (b : Bool) (υ : zSt), RF (25 :: FPool) τ υ → CA υ n W pa up (aOne n W pa up B a) → b = aEnds n W pa up B a →
        ((b = false → (none : Option Value) = none ∧ RF FR σ υ ∧ CA υ n W pa up AF) ∧ (b = true → (vp_in (nI a) 12 ∧ (((υ 24 (nI a).toNatClampNeg) < (υ 1 5) → (∃ P : zSt → Prop, zV G 4 M_Course_enterNext [zf G 1, .int (nI a)] υ P ∧ ∀ σ3 : zSt, P σ3 → zZ G M_Course_push 5 X (fun r τ => r = none ∧ RF FR σ τ ∧ CA τ n W pa up AF) 2 [(0, zf G 1), (1, .int (nI a)), (2, .int (nI i + 1))] [] σ3)) ∧ (¬ (υ 24 (nI a).toNatClampNeg) < (υ 1 5) → (none : Option Value) = none ∧ RF FR σ υ ∧ CA υ n W pa up AF))))) := by
      intro b υ g1 g2 hb
      have fυ : RF FR σ υ := fτ.tr (g1.mono (by decide))
      have hTυ := hT.of fυ
      have r24 : υ 24 (nI a).toNatClampNeg = nI (rdP (aS (aOne n W pa up B a)) a) := by rw [ca]; exact g2.1 a ha
      have en : ¬ (aEnds n W pa up B a = true ∧ rdP (aS (aOne n W pa up B a)) a < R) → (none : Option Value) = none ∧ RF FR σ υ ∧ CA υ n W pa up AF := fun hs => by
        rw [if_neg hs] at gB
        exact ⟨rfl, fυ, by rw [← gB]; exact g2⟩
      refine ⟨fun hf => en (fun q => by rw [← hb, hf] at q; exact absurd q.1 (by decide)), fun ht => ⟨ia, fun hlt => ?_, fun hnl => en (fun q => hnl ?_)⟩⟩
      · rw [r24, hTυ.1.2.2.2.1] at hlt
        have hltR : rdP (aS (aOne n W pa up B a)) a < R := (nI_ltI (by omega) (by omega)).mp hlt
        have hc : aEnds n W pa up B a = true ∧ rdP (aS (aOne n W pa up B a)) a < R := ⟨by rw [← hb]; exact ht, hltR⟩
        rw [if_pos hc] at gB
        have hBG := BG_ends hn12 hR20 hW2 hF qB.1 ha rB hc.1 hc.2
        refine ⟨_, s_Course_enterNext2 G υ a hTυ hF hM g2 q3 hBG ha (fun e => by rw [r3] at e; omega), fun σ3 ⟨k1, k2⟩ => ?_⟩
        rw [nI_1]
        refine ih σ3 ⟨fυ.tr k1, _, k2, q3.beg hn12 hR20 hM ha hBG, Nat.le_trans (by rw [r3]; exact rB) (beg_rd a), by rw [← ef2]; exact gB⟩
      · rw [r24, hTυ.1.2.2.2.1]
        exact nI_lt q.2 (by omega)
    refine b_Course_push_2 E (nI a) (nI i) τ ⟨fun q => absurd q (by rw [hTτ.1.2.2.2.1]; exact nI_ge hi (by omega)), fun _ => ⟨fun w0 => ⟨fun w1 => ⟨_, s_Course_keepInClusters2 G τ a hTτ hF hB qB ha rB ?_, fun b υ ⟨g1, g2, g3⟩ => tail b υ g1 g2 g3⟩, fun w1 => ?_⟩, fun w0 => ⟨_, s_Course_keepWithAll2 G τ a hTτ hF hB qB ha rB ?_, fun b υ ⟨g1, g2, g3⟩ => tail b υ g1 g2 g3⟩⟩⟩
    · rw [hTτ.1.2.2.2.2.2.2.1] at w0 w1
      have z0 : ¬ W = 0 := fun e => w0 (by rw [e]; rfl)
      have z1 : ¬ W = 1 := fun e => w1 (by rw [e]; rfl)
      omega
    · rw [hTτ.1.2.2.2.2.2.2.1] at w1
      have z1 : W = 1 := (nI_eq (b := 1) (by omega) (by decide)).mp w1
      refine ⟨_, s_Course_keepInTree2 G τ a hTτ hF hB qB ha rB (by omega), fun b υ ⟨g1, g2, g3⟩ => tail b υ g1 ?_ ?_⟩
      · have e1 : aOne n W pa up B a = aTree n W pa up B a := by
          rw [aTree_1 (fun u hu => ((qB.1.1.1 a ha).2.2.1 u hu).1) (Or.inl z1)]
          unfold aOne aDone mayD
          rw [if_neg (by rw [z1]; simp)]
        rw [e1]; exact g2
      · rw [g3]; unfold aEnds; rw [if_neg (by omega), if_pos z1]
    · rw [hTτ.1.2.2.2.2.2.2.1] at w0
      exact (nI_eq (b := 0) (by omega) (by decide)).mp w0
  · intro τ ⟨fτ, B, hB, _, _, gB⟩
    have hTτ := hT.of fτ
    rw [Nat.sub_self] at gB
    exact b_Course_push_2 E (nI a) (nI R) τ ⟨fun _ => ⟨rfl, fτ, by rw [← gB]; exact hB⟩, fun q => absurd (by rw [hTτ.1.2.2.2.1]; exact nI_le (Nat.le_refl R) (by omega)) q⟩
end CCLS3
