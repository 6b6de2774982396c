-- The reference is the pure machine: a node goes on; a letter comes
theorem all_congr2 {f g : Nat → Bool} : ∀ {l : List Nat}, (∀ c, c ∈ l → f c = g c) → l.all f = l.all g := by
  intro l
  induction l with
  | nil => intro _; rfl
  | cons y t ih =>
    intro h
    rw [List.all_cons, List.all_cons, h y List.mem_cons_self, ih (fun c hc => h c (List.mem_cons_of_mem _ hc))]
section MREF3
variable {n R W p : Nat} {src : Int32} {mk : Nat → Int32} {len : Nat → Nat → Int32} {lk pa : Nat → Nat → Bool} {up : Nat → Option Nat} {ld : Nat → Nat} {A : AS}
theorem MA.all {σ : zSt} (h : MA σ n A) {w a q : Nat} {P : Nat → Bool} (hw : w < 4) (ha : a < n) (hq : q < 22) : (selL P n).all (fun c => decide (¬ σ 45 (pl w a c q) = 0)) = (selL P n).all (fun c => aC A w a c q) := all_congr2 (fun c hc => (h.2.2.2.2.1 w a c q hw ha (selL_mem.mp hc).1 hq).symm)
theorem MA.fl {σ : zSt} (h : MA σ n A) (a : Nat) : (sfP (aS A) a = decide (¬ σ 37 a = 0)) ∧ (raP (aS A) a = decide (¬ σ 38 a = 0)) ∧ (fiP (aS A) a = decide (¬ σ 39 a = 0)) ∧ (dnP (aS A) a = decide (¬ σ 40 a = 0)) ∧ opP (aS A) a = (σ 36 a).toInt := by
  rw [← h.1.1]; exact ⟨rfl, rfl, rfl, rfl, rfl⟩
theorem MA_up {σ : zSt} (hT : MT σ n R W p src mk len lk pa up) {a : Nat} (ha : a < n) : (σ 41 a = -2 → up a = none) ∧ (¬ σ 41 a = -2 → ∃ u, u < n ∧ up a = some u ∧ σ 41 a = nI u) := by
  have hu := hT.2.2.2.2.2.1 a ha
  constructor
  · intro h; rw [← hu]; unfold upS; rw [if_pos h]
  · intro h
    rcases hT.1.2.2.2.2.2.2.2.2.1 a ha with e | ⟨u, h1, _, h3⟩
    · exact absurd e h
    · have := hT.1.2.2.1
      exact ⟨u, h1, by rw [← hu]; exact upS_to (by omega) h3, h3⟩
set_option maxHeartbeats 1000000 in
theorem s_Mo_goOn2 (G : zG) (σ : zSt) (a : Nat) (hT : MT σ n R W p src mk len lk pa up) (hF : FRA n W lk pa up ld) (ha : a < n) (f : Nat) (hA : MA σ n A) (hQ : QE n R W p lk pa up ld A) (hr : 1 ≤ rdP (aS A) a) (hf : R - rdP (aS A) a < f) : zV G 3 M_Mo_goOn [zf G 32, .int (nI a)] σ (fun τ => MF FBeg [27, 29, 30] σ τ ∧ MA τ n (aGo n R W p src mk len lk pa up f A a)) := by
  generalize hAF : aGo n R W p src mk len lk pa up f A a = AF
  refine zSpec.of (by decide) (Nat.le_of_ble_eq_true rfl) rfl (fun X E => ?_)
  have hn12 : n ≤ 12 := hT.1.2.2.1
  have hR20 : R ≤ 20 := hT.1.2.2.2.2.2.1
  have hR1 : 1 ≤ R := hT.1.2.2.2.2.1
  have hW2 : W ≤ 2 := hT.1.2.2.2.2.2.2.2.1
  have hMLB := hT.mlb
  have ia : vp_in (nI a) 12 := vp_in_nI (by omega) (by decide)
  have ca : (nI a).toNatClampNeg = a := nI_clamp (by omega)
  have main : ∀ (m : Nat) (τ : zSt) (A : AS) (f : Nat) (more : Int32), R - rdP (aS A) a = m → MF FBeg [27, 29, 30] σ τ → MA τ n A → QE n R W p lk pa up ld A → 1 ≤ rdP (aS A) a → R - rdP (aS A) a < f → aGo n R W p src mk len lk pa up f A a = AF → ¬ more = 0 → zZ G M_Mo_goOn 3 X (fun rr τ => rr = none ∧ MF FBeg [27, 29, 30] σ τ ∧ MA τ n AF) 2 [(0, zf G 32), (1, .int (nI a)), (2, .int more)] [] τ := by
    intro m
    induction m using Nat.strongRecOn with
    | ind m IH =>
      intro τ A f more hm hFτ hA hQ hr hf hAF hmore
      have hrR := (hQ.1.1.1 a ha).1
      obtain ⟨f', rfl⟩ : ∃ f', f = f' + 1 := ⟨f - 1, by omega⟩
      have hT' : ∀ {υ : zSt}, MF FBeg [27, 29, 30] σ υ → MT υ n R W p src mk len lk pa up := fun h => hT.of h (by decide) (by decide)
      unfold aGo at hAF
      have q1 : QE n R W p lk pa up ld (aSafe n W pa A a) := ⟨QI.safe hn12 hR20 hQ.1 ha hr, hQ.2.safe⟩
      have r1 : rdP (aS (aSafe n W pa A a)) = rdP (aS A) := aSafe_rd
      have q2 : QE n R W p lk pa up ld (aRaise n W pa up (aSafe n W pa A a) a) := ⟨QI.raise hn12 hR20 hW2 q1.1 ha (by rw [r1]; exact hr), q1.2.raise⟩
      have r2 : rdP (aS (aRaise n W pa up (aSafe n W pa A a) a)) = rdP (aS A) := by rw [aRaise_rd, r1]
      have q3 : QE n R W p lk pa up ld (aOne n W pa up A a) := QE.one hn12 hR20 hW2 hQ ha hr
      have r3 : rdP (aS (aOne n W pa up A a)) = rdP (aS A) := aOne_rd
      -- 291: another round, perhaps
      have s291 : ∀ (υ : zSt) (v3 : Int32), MF FBeg [27, 29, 30] σ υ → MA υ n (aOne n W pa up A a) → (¬ v3 = 0 ↔ aEnds n W pa up A a = true) → zZ G M_Mo_goOn 3 X (fun rr τ => rr = none ∧ MF FBeg [27, 29, 30] σ τ ∧ MA τ n AF) 291 [(0, zf G 32), (1, .int (nI a)), (2, .int (0 : Int32)), (3, .int v3)] [] υ := by
        intro υ v3 hFυ hAυ hv
        have hTυ := hT' hFυ
        have r35 : υ 35 (nI a).toNatClampNeg = nI (rdP (aS A) a) := by rw [ca, hAυ.1.2 a ha, r3]
        have stop : ¬ (aEnds n W pa up A a = true ∧ rdP (aS (aOne n W pa up A a)) a < R) → zZ G M_Mo_goOn 3 X (fun rr τ => rr = none ∧ MF FBeg [27, 29, 30] σ τ ∧ MA τ n AF) 2 [(0, zf G 32), (1, .int (nI a)), (2, .int (0 : Int32))] [] υ := fun hs => by
          rw [if_neg hs] at hAF
          exact b_Mo_goOn_2 E (nI a) 0 υ ⟨fun _ => ⟨rfl, hFυ, by rw [← hAF]; exact hAυ⟩, fun q => absurd rfl q⟩
        refine b_Mo_goOn_291 E (nI a) 0 v3 υ ⟨fun hz => stop (fun q => hv.mpr q.1 hz), fun hne => ⟨ia, fun hle => stop (fun q => ?_), fun hlt => ⟨ia, ?_⟩⟩⟩
        · rw [r35, hTυ.1.2.2.2.1] at hle
          have := (nI_leI (by omega) (by omega)).mp hle
          rw [r3] at q
          omega
        · rw [r35, hTυ.1.2.2.2.1] at hlt
          have hltR : rdP (aS A) a < R := by
            rcases Nat.lt_or_ge (rdP (aS A) a) R with e | e
            · exact e
            · exact absurd (nI_le e (by omega)) hlt
          rw [r35, nI_1]
          have hc : aEnds n W pa up A a = true ∧ rdP (aS (aOne n W pa up A a)) a < R := ⟨hv.mp hne, by rw [r3]; exact hltR⟩
          have hB := BG_ends hn12 hR20 hW2 hF hQ.1 ha hr hc.1 hc.2
          rw [if_pos hc] at hAF
          have hl := q3.le528 hn12 hR20 hR1 hF
          refine ⟨_, s_Mo_beginRound2 G υ a _ hTυ hAυ q3.1.2.2 ha (by rw [r3]) (by omega) (by omega) (fun e => by rw [r3] at e; omega), fun σ1 ⟨g1, g2⟩ => ?_⟩
          have er : rdP (aS (aBeg n p src mk len lk up (aOne n W pa up A a) a)) a = rdP (aS A) a + 1 := by
            show fup (rdP (aS (aOne n W pa up A a))) a (rdP (aS (aOne n W pa up A a)) a + 1) a = _
            rw [fup_s, r3]
          exact IH (R - rdP (aS (aBeg n p src mk len lk up (aOne n W pa up A a) a)) a) (by omega) σ1 _ f' 1 rfl (hFυ.tr g1) g2 (q3.beg hn12 hR20 hMLB ha hB) (by omega) (by omega) hAF kne_1_0
      -- 202: done?
      have s202 : ∀ (υ : zSt) (v3 : Int32), MF FBeg [27, 29, 30] σ υ → MA υ n (aRaise n W pa up (aSafe n W pa A a) a) → (¬ W = 2 → (¬ v3 = 0 ↔ aEnds n W pa up A a = true)) → (W = 2 → v3 = 0) → zZ G M_Mo_goOn 3 X (fun rr τ => rr = none ∧ MF FBeg [27, 29, 30] σ τ ∧ MA τ n AF) 202 [(0, zf G 32), (1, .int (nI a)), (2, .int (0 : Int32)), (3, .int v3)] [] υ := by
        intro υ v3 hFυ hAυ hv1 hv2
        have hTυ := hT' hFυ
        have wυ := hTυ.1.2.2.2.2.2.2.1
        obtain ⟨fl1, fl2, fl3, fl4, _⟩ := hAυ.fl a
        have no : W = 2 → mayD n W pa up (aRaise n W pa up (aSafe n W pa A a) a) a = false → zZ G M_Mo_goOn 3 X (fun rr τ => rr = none ∧ MF FBeg [27, 29, 30] σ τ ∧ MA τ n AF) 291 [(0, zf G 32), (1, .int (nI a)), (2, .int (0 : Int32)), (3, .int v3)] [] υ := fun w hD => by
          refine s291 υ v3 hFυ ?_ ⟨fun q => absurd (hv2 w) q, fun q => ?_⟩
          · unfold aOne aDone; rw [if_neg (by rw [hD]; decide)]; exact hAυ
          · unfold aEnds at q; rw [if_neg (by omega), if_neg (by omega), hD] at q; simp at q
        refine b_Mo_goOn_202 E (nI a) 0 v3 υ ⟨fun hw => ?_, fun hw => ?_⟩
        · have w : ¬ W = 2 := fun e => hw (by rw [wυ, e]; rfl)
          refine s291 υ v3 hFυ ?_ (hv1 w)
          unfold aOne aDone mayD
          rw [decide_eq_false w, if_neg (by simp)]; exact hAυ
        · have w : W = 2 := by rw [wυ] at hw; exact (nI_eq (by omega) (by decide)).mp hw
          have r35 : υ 35 a = nI (rdP (aS A) a) := by rw [hAυ.1.2 a ha, r2]
          have e1 : (selL (wanP n pa up a 0) n).all (fun c => decide (¬ υ 45 (pl 1 a c (rdP (aS A) a)) = 0)) = all1 n pa (aRaise n W pa up (aSafe n W pa A a) a) a := by
            rw [hAυ.all (by omega) ha (by omega)]; unfold all1; rw [r2]; rfl
          have e3 : (selL (wanP n pa up a 1) n).all (fun c => decide (¬ υ 45 (pl 3 a c (rdP (aS A) a)) = 0)) = all3 n up (aRaise n W pa up (aSafe n W pa A a) a) a := by
            rw [hAυ.all (by omega) ha (by omega)]; unfold all3; rw [r2]; rfl
          refine ⟨ia, fun hz => no w ?_, fun hfi => ⟨ia, fun hd => no w ?_, fun hdn => ⟨_, s_Mo_hasAll2 G υ 1 a _ 0 hTυ (by omega) ha r35 (by omega), ?_⟩⟩⟩
          · rw [ca] at hz
            unfold mayD; rw [fl3, hz]; simp
          · rw [ca] at hd
            unfold mayD; rw [fl4, decide_eq_true hd]; simp
          · rintro b υ' ⟨rfl, hb⟩
            rw [e1] at hb
            rw [ca] at hfi hdn
            refine ⟨fun hz => no w ?_, fun hb1 => ⟨_, s_Mo_hasAll2 G υ' 3 a _ 1 hTυ (by omega) ha r35 (by omega), ?_⟩⟩
            · unfold mayD; rw [← hb, hz]; simp
            · rintro b2 υ'' ⟨rfl, hb2⟩
              rw [e3] at hb2
              refine ⟨fun hz => no w ?_, fun hb3 => ⟨ia, fun σ5 e5 => ⟨ia, ?_⟩⟩⟩
              · unfold mayD; rw [← hb2, hz]; simp
              · have hD : mayD n W pa up (aRaise n W pa up (aSafe n W pa A a) a) a = true := by
                  unfold mayD
                  rw [← hb, ← hb2, hb1, hb3, fl3, fl4, hdn, decide_eq_true hfi, decide_eq_true w]; rfl
                rw [ca] at e5
                have h5 : ∀ c, c ≠ 40 → σ5 c = υ'' c := fun c hc => by rw [e5, zup_ne hc]
                have ep : psS σ5 = setDn (psS υ'') a := psS_dn (h5 35 (by decide)) (h5 36 (by decide)) (h5 37 (by decide)) (h5 38 (by decide)) (h5 39 (by decide)) (by rw [e5, zup_self])
                have hF5 : MF [36, 37, 38, 39, 40, 51] [27, 29, 30] υ'' σ5 := by rw [e5]; exact MF.rf.up (by decide) (by decide)
                have L5 : ML σ5 (aL (aRaise n W pa up (aSafe n W pa A a) a)) := hAυ.2.1.1.of (by rw [h5 32 (by decide)]) (h5 51 (by decide))
                obtain ⟨u1, u2⟩ := MA_up hTυ ha
                refine ⟨fun hu => ?_, fun hu => ⟨ia, ia, ?_⟩⟩
                · rw [ca, h5 41 (by decide)] at hu
                  refine s291 σ5 1 (hFυ.tr (hF5.mono (by decide) (by decide))) ?_ ⟨fun _ => ?_, fun _ => kne_1_0⟩
                  · unfold aOne aDone
                    rw [if_pos hD, u1 hu]
                    refine hAυ.put hF5 (by rw [ep, hAυ.1.1]) rfl (fun x hx => absurd hx List.not_mem_nil) (by rw [List.append_nil]; exact L5) ?_ ?_
                    · rw [h5 32 (by decide)]; exact (Int32.add_zero _).symm
                    · rw [h5 32 (by decide)]; exact (Int32.add_zero _).symm
                  · unfold aEnds
                    rw [if_neg (by omega), if_neg (by omega), hD, decide_eq_true (u1 hu)]; rfl
                · rw [ca, h5 41 (by decide)] at hu
                  obtain ⟨u, un, eu, e41⟩ := u2 hu
                  have hl := q2.le528 hn12 hR20 hR1 hF
                  rw [ca, h5 41 (by decide), e41, h5 35 (by decide), r35]
                  refine ⟨_, s_Mo_send2 G σ5 _ 6 (nI a) (nI u) _ 0 L5 (by omega), fun σ6 ⟨k1, k2, k3, k4⟩ => ?_⟩
                  have hF6 : MF [36, 37, 38, 39, 40, 51] [27, 29, 30] υ'' σ6 := hF5.tr (k1.mono (by decide) (by decide))
                  have ep6 : psS σ6 = setDn (psS υ'') a := by
                    rw [← ep]
                    exact psS_eq (k1.at (by decide)) (k1.at (by decide)) (k1.at (by decide)) (k1.at (by decide)) (k1.at (by decide)) (k1.at (by decide))
                  refine s291 σ6 v3 (hFυ.tr (hF6.mono (by decide) (by decide))) ?_ ⟨fun q => absurd (hv2 w) q, fun q => ?_⟩
                  · unfold aOne aDone
                    rw [if_pos hD, eu]
                    dsimp only
                    rw [r2]
                    refine hAυ.put hF6 (by rw [ep6, hAυ.1.1]) rfl (fun x hx => ?_) k2 (by rw [k3, h5 32 (by decide)]) (by rw [k4, h5 32 (by decide)])
                    rw [List.mem_singleton.mp hx]; exact (show ¬ (6 : Int32) = 0 by decide)
                  · unfold aEnds at q
                    rw [if_neg (by omega), if_neg (by omega), eu] at q
                    simp at q
      -- 79: raised?
      have s79 : ∀ (υ : zSt), MF FBeg [27, 29, 30] σ υ → MA υ n (aSafe n W pa A a) → zZ G M_Mo_goOn 3 X (fun rr τ => rr = none ∧ MF FBeg [27, 29, 30] σ τ ∧ MA τ n AF) 79 [(0, zf G 32), (1, .int (nI a)), (2, .int (0 : Int32))] [] υ := by
        intro υ hFυ hAυ
        have hTυ := hT' hFυ
        have wυ := hTυ.1.2.2.2.2.2.2.1
        obtain ⟨fl1, fl2, fl3, fl4, _⟩ := hAυ.fl a
        have r35 : υ 35 a = nI (rdP (aS A) a) := by rw [hAυ.1.2 a ha, r1]
        have no : ¬ W = 0 → mayR n W up (aSafe n W pa A a) a = false → zZ G M_Mo_goOn 3 X (fun rr τ => rr = none ∧ MF FBeg [27, 29, 30] σ τ ∧ MA τ n AF) 202 [(0, zf G 32), (1, .int (nI a)), (2, .int (0 : Int32)), (3, .int (0 : Int32))] [] υ := fun w0 hM => by
          refine s202 υ 0 hFυ ?_ (fun w2 => ⟨fun q => absurd rfl q, fun q => ?_⟩) (fun _ => rfl)
          · unfold aRaise; rw [if_neg (by rw [hM]; decide)]; exact hAυ
          · unfold aEnds at q; rw [if_neg w0, if_pos (by omega), hM] at q; simp at q
        refine b_Mo_goOn_79 E (nI a) 0 υ ⟨fun hw0 => ?_, fun hw0 => ?_⟩
        · have w0 : ¬ W = 0 := fun e => hw0 (by rw [wυ, e]; rfl)
          have e2 : (selL (wanP n pa up a 1) n).all (fun c => decide (¬ υ 45 (pl 2 a c (rdP (aS A) a)) = 0)) = all2 n up (aSafe n W pa A a) a := by
            rw [hAυ.all (by omega) ha (by omega)]; unfold all2; rw [r1]; rfl
          refine ⟨ia, fun hz => no w0 ?_, fun hsf => ⟨ia, fun hd => no w0 ?_, fun hra => ⟨_, s_Mo_hasAll2 G υ 2 a _ 1 hTυ (by omega) ha r35 (by omega), ?_⟩⟩⟩
          · rw [ca] at hz
            unfold mayR; rw [fl1, hz]; simp
          · rw [ca] at hd
            unfold mayR; rw [fl2, decide_eq_true hd]; simp
          · rintro b υ' ⟨rfl, hb⟩
            rw [e2] at hb
            rw [ca] at hsf hra
            refine ⟨fun hz => no w0 ?_, fun hb1 => ⟨ia, fun σ3 e3 => ⟨ia, ?_⟩⟩⟩
            · unfold mayR; rw [← hb, hz]; simp
            · have hM : mayR n W up (aSafe n W pa A a) a = true := by
                unfold mayR
                rw [← hb, hb1, fl1, fl2, hra, decide_eq_true hsf, decide_eq_true w0]; rfl
              rw [ca] at e3
              have h3 : ∀ c, c ≠ 38 → σ3 c = υ' c := fun c hc => by rw [e3, zup_ne hc]
              have ep : psS σ3 = setRa (psS υ') a := psS_ra (h3 35 (by decide)) (h3 36 (by decide)) (h3 37 (by decide)) (by rw [e3, zup_self]) (h3 39 (by decide)) (h3 40 (by decide))
              have hF3 : MF [36, 37, 38, 39, 40, 51] [27, 29, 30] υ' σ3 := by rw [e3]; exact MF.rf.up (by decide) (by decide)
              have L3 : ML σ3 (aL (aSafe n W pa A a)) := hAυ.2.1.1.of (by rw [h3 32 (by decide)]) (h3 51 (by decide))
              have A3 : MA σ3 n (aPut (aSafe n W pa A a) (setRa (aS (aSafe n W pa A a)) a) []) := by
                refine hAυ.put hF3 (by rw [ep, hAυ.1.1]) rfl (fun x hx => absurd hx List.not_mem_nil) (by rw [List.append_nil]; exact L3) ?_ ?_
                · rw [h3 32 (by decide)]; exact (Int32.add_zero _).symm
                · rw [h3 32 (by decide)]; exact (Int32.add_zero _).symm
              have hl := q1.le528 hn12 hR20 hR1 hF
              obtain ⟨u1, u2⟩ := MA_up hTυ ha
              have F3 : MF FBeg [27, 29, 30] σ σ3 := hFυ.tr (hF3.mono (by decide) (by decide))
              refine ⟨fun hu => ⟨fun hw1 => ?_, fun hw1 => ?_⟩, fun hu => ⟨ia, ia, ?_⟩⟩
              · rw [ca, h3 41 (by decide)] at hu
                have w2 : W = 2 := by
                  have : ¬ W = 1 := fun e => hw1 (by rw [h3 32 (by decide), wυ, e]; rfl)
                  omega
                refine ⟨_, s_Mo_becomeFirm2 G σ3 a (hT' F3) A3 w2 ha (by show ((aL (aSafe n W pa A a)) ++ []).length + 24 ≤ 4000; rw [List.append_nil]; omega), fun σ4 ⟨k1, k2⟩ => ?_⟩
                refine s202 σ4 0 (F3.tr (k1.mono (by decide) (by decide))) ?_ (fun e => absurd w2 e) (fun _ => rfl)
                unfold aRaise
                rw [if_pos hM, u1 hu]
                dsimp only
                rw [if_neg (by omega)]; exact k2
              · rw [ca, h3 41 (by decide)] at hu
                have w1 : W = 1 := by
                  rw [h3 32 (by decide), wυ] at hw1
                  exact (nI_eq (by omega) (by decide)).mp hw1
                refine s202 σ3 1 F3 ?_ (fun _ => ⟨fun _ => ?_, fun _ => kne_1_0⟩) (fun e => by omega)
                · unfold aRaise
                  rw [if_pos hM, u1 hu]
                  dsimp only
                  rw [if_pos w1]; exact A3
                · unfold aEnds
                  rw [if_neg w0, if_pos w1, hM, decide_eq_true (u1 hu)]; rfl
              · rw [ca, h3 41 (by decide)] at hu
                obtain ⟨u, un, eu, e41⟩ := u2 hu
                rw [ca, h3 41 (by decide), e41, h3 35 (by decide), r35]
                refine ⟨_, s_Mo_send2 G σ3 _ 3 (nI a) (nI u) _ 0 L3 (by omega), fun σ6 ⟨k1, k2, k3, k4⟩ => ?_⟩
                have hF6 : MF [36, 37, 38, 39, 40, 51] [27, 29, 30] υ' σ6 := hF3.tr (k1.mono (by decide) (by decide))
                have ep6 : psS σ6 = setRa (psS υ') a := by
                  rw [← ep]
                  exact psS_eq (k1.at (by decide)) (k1.at (by decide)) (k1.at (by decide)) (k1.at (by decide)) (k1.at (by decide)) (k1.at (by decide))
                refine s202 σ6 0 (hFυ.tr (hF6.mono (by decide) (by decide))) ?_ (fun w2 => ⟨fun q => absurd rfl q, fun q => ?_⟩) (fun _ => rfl)
                · unfold aRaise
                  rw [if_pos hM, eu]
                  dsimp only
                  rw [r1]
                  refine hAυ.put hF6 (by rw [ep6, hAυ.1.1]) rfl (fun x hx => ?_) k2 (by rw [k3, h3 32 (by decide)]) (by rw [k4, h3 32 (by decide)])
                  rw [List.mem_singleton.mp hx]; exact (show ¬ (3 : Int32) = 0 by decide)
                · unfold aEnds at q
                  rw [if_neg w0, if_pos (by omega), eu] at q
                  simp at q
        · have w0 : W = 0 := by rw [wυ] at hw0; exact (nI_eq (b := 0) (by omega) (by decide)).mp hw0
          have e1 : (selL (wanP n pa up a 0) n).all (fun c => decide (¬ υ 45 (pl 1 a c (rdP (aS A) a)) = 0)) = all1 n pa (aSafe n W pa A a) a := by
            rw [hAυ.all (by omega) ha (by omega)]; unfold all1; rw [r1]; rfl
          have hAR : MA υ n (aRaise n W pa up (aSafe n W pa A a) a) := by
            unfold aRaise mayR
            rw [if_neg (by rw [w0]; simp)]; exact hAυ
          have en : aEnds n W pa up A a = (sfP (aS (aSafe n W pa A a)) a && all1 n pa (aSafe n W pa A a) a) := by unfold aEnds; rw [if_pos w0]
          refine ⟨ia, fun hz => s202 υ 0 hFυ hAR (fun _ => ⟨fun q => absurd rfl q, fun q => ?_⟩) (fun _ => rfl), fun hsf => ⟨_, s_Mo_hasAll2 G υ 1 a _ 0 hTυ (by omega) ha r35 (by omega), ?_⟩⟩
          · rw [ca] at hz
            rw [en, fl1, hz] at q; simp at q
          · rintro b υ' ⟨rfl, hb⟩
            rw [e1] at hb
            rw [ca] at hsf
            refine ⟨fun hz => s202 υ' 0 hFυ hAR (fun _ => ⟨fun q => absurd rfl q, fun q => ?_⟩) (fun _ => rfl), fun hb1 => s202 υ' 1 hFυ hAR (fun _ => ⟨fun _ => ?_, fun _ => kne_1_0⟩) (fun e => by omega)⟩
            · rw [en, ← hb, hz] at q; simp at q
            · rw [en, ← hb, hb1, fl1, decide_eq_true hsf]; rfl
      -- 2: safe?
      have hTτ := hT' hFτ
      obtain ⟨fl1, _, _, _, flo⟩ := hA.fl a
      refine b_Mo_goOn_2 E (nI a) more τ ⟨fun q => absurd q hmore, fun _ => ⟨ia, fun hs => s79 τ hFτ ?_, fun hsz => ⟨ia, fun ho => s79 τ hFτ ?_, fun hoz => ⟨ia, fun σ1 e1 => ?_⟩⟩⟩⟩
      · rw [ca] at hs
        unfold aSafe
        rw [if_neg (fun q => by rw [fl1, decide_eq_true hs] at q; exact absurd q.1 (by decide))]; exact hA
      · rw [ca] at ho
        unfold aSafe
        rw [if_neg (fun q => ho (Int32.toInt_inj.mp (by rw [← flo, q.2]; rfl)))]; exact hA
      · rw [ca] at e1 hsz hoz
        have h1 : ∀ c, c ≠ 37 → σ1 c = τ c := fun c hc => by rw [e1, zup_ne hc]
        have ep1 : psS σ1 = setSf (psS τ) a := psS_sf (h1 35 (by decide)) (h1 36 (by decide)) (by rw [e1, zup_self]) (h1 38 (by decide)) (h1 39 (by decide)) (h1 40 (by decide))
        have f1 : MF [36, 37, 38, 39, 40, 51] [27, 29, 30] τ σ1 := by rw [e1]; exact MF.rf.up (by decide) (by decide)
        have F1 : MF FBeg [27, 29, 30] σ σ1 := hFτ.tr (f1.mono (by decide) (by decide))
        have hT1 := hT' F1
        have cnd : sfP (aS A) a = false ∧ opP (aS A) a = 0 := ⟨by rw [fl1, hsz]; rfl, by rw [flo, hoz]; rfl⟩
        have L1 : ML σ1 (aL A) := hA.2.1.1.of (by rw [h1 32 (by decide)]) (h1 51 (by decide))
        have hl := hQ.le528 hn12 hR20 hR1 hF
        refine z_for n (fun i ρ => zZ G M_Mo_goOn 3 X (fun rr τ => rr = none ∧ MF FBeg [27, 29, 30] σ τ ∧ MA τ n AF) 35 [(0, zf G 32), (1, .int (nI a)), (2, .int (0 : Int32)), (3, .int (nI i))] [] ρ) (fun i ρ => SN σ1 ρ (aL A) (if W = 0 then ltrs 2 a (rdP (aS A) a) 0 (selL (fun b => pa a b) i) else [])) ?_ ?_ 0 σ1 (Nat.zero_le _) (by
          have : (if W = 0 then ltrs 2 a (rdP (aS A) a) 0 (selL (fun b => pa a b) 0) else []) = [] := by split <;> rfl
          rw [this]; exact SN.rf L1)
        · intro i ρ hi g ih
          have hTρ := hT1.of g.1 (by decide) (by decide)
          have wρ := hTρ.1.2.2.2.2.2.2.1
          have rρ : ρ 35 (nI a).toNatClampNeg = nI (rdP (aS A) a) := by rw [ca, g.1.at (by decide), h1 35 (by decide)]; exact hA.1.2 a ha
          refine b_Mo_goOn_35 E (nI a) 0 (nI i) ρ ⟨fun q => absurd q (by rw [hTρ.1.1]; exact nI_ge hi (by omega)), fun _ => ⟨fun hw => ?_, fun hw => ⟨by rw [zi12']; exact vp_in_nI (by omega) (by decide), fun hlk => ?_, fun hlk => ⟨ia, ?_⟩⟩⟩⟩
          · rw [nI_1]
            have w0 : ¬ W = 0 := fun e => hw (by rw [wρ, e]; rfl)
            refine ih ρ ?_
            rw [if_neg w0] at g ⊢; exact g
          · rw [nI_1]
            have w0 : W = 0 := by rw [wρ] at hw; exact (nI_eq (b := 0) (by omega) (by decide)).mp hw
            refine ih ρ ?_
            rw [if_pos w0] at g ⊢
            rw [hTρ.2.2.2.2.1 a i ha hi] at hlk
            rw [sel_no (by rw [(hTρ.2.2.2.2.2.2.1 w0).1 a i ha hi, hlk]; decide)]; exact g
          · have w0 : W = 0 := by rw [wρ] at hw; exact (nI_eq (b := 0) (by omega) (by decide)).mp hw
            rw [rρ]
            have hlen : (ltrs 2 a (rdP (aS A) a) 0 (selL (fun b => pa a b) i)).length ≤ i := by rw [ltrs_len]; exact selL_len i
            rw [if_pos w0] at g
            refine ⟨_, s_Mo_send2 G ρ _ 2 (nI a) (nI i) _ 0 g.2.1 (by rw [List.length_append]; omega), fun σ7 m => ?_⟩
            rw [nI_1]
            refine ih σ7 ?_
            rw [if_pos w0]
            rw [hTρ.2.2.2.2.1 a i ha hi] at hlk
            rw [sel_yes (by rw [(hTρ.2.2.2.2.2.2.1 w0).1 a i ha hi]; exact hlk)]
            exact g.tr m
        · intro ρ g
          have hTρ := hT1.of g.1 (by decide) (by decide)
          refine b_Mo_goOn_35 E (nI a) 0 (nI n) ρ ⟨fun _ => ?_, fun q => absurd (by rw [hTρ.1.1]; exact nI_le (Nat.le_refl n) (by omega)) q⟩
          have fρ : MF [36, 37, 38, 39, 40, 51] [27, 29, 30] τ ρ := f1.tr (g.1.mono (by decide) (by decide))
          refine s79 ρ (hFτ.tr (fρ.mono (by decide) (by decide))) ?_
          unfold aSafe
          rw [if_pos cnd]
          refine hA.put fρ ?_ rfl (fun x hx => ?_) g.2.1 (by rw [g.2.2.1, h1 32 (by decide)]; rfl) (by rw [g.2.2.2, h1 32 (by decide)]; rfl)
          · rw [← hA.1.1, ← ep1]
            exact psS_eq (g.1.at (by decide)) (g.1.at (by decide)) (g.1.at (by decide)) (g.1.at (by decide)) (g.1.at (by decide)) (g.1.at (by decide))
          · split at hx
            · obtain ⟨b, _, rfl⟩ := ltrs_mem.mp hx; exact (show ¬ (2 : Int32) = 0 by decide)
            · exact absurd hx List.not_mem_nil
  exact b_Mo_goOn_0 E (nI a) σ (main _ σ A f 1 rfl MF.rf hA hQ hr hf hAF kne_1_0)
end MREF3
