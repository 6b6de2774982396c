-- The class is the pure machine: a letter comes (bring)
section CCLS4
variable {n R W p : Nat} {src : Int32} {mk : Nat → Int32} {len : Nat → Nat → Int32} {lk pa : Nat → Nat → Bool} {up : Nat → Option Nat} {ld : Nat → Nat} {A : AS}
/-- nothing came but what cells 27, 28, 29 count -/
theorem CA.came {σ τ : zSt} {w t f q : Nat} (h : CA σ n W pa up A) (hw : ¬ w = 0) (hF : zFr [27, 28, 29] σ τ)
    (h27 : ∀ b, b < n → τ 27 b = nI ((lows n up b).countP (fun c => cmU (aC A) w t f q 2 b c (rdP (aS A) b)))) (h28 : ∀ b, b < n → τ 28 b = nI ((lows n up b).countP (fun c => cmU (aC A) w t f q 3 b c (rdP (aS A) b))))
    (h29 : ∀ b r, b < n → (r = rdP (aS A) b ∨ r = rdP (aS A) b + 1) → τ 29 (r % 2 * 12 + b) = nI ((pars n pa b).countP (fun c => cmU (aC A) w t f q 1 b c r))) : CA τ n W pa up (aCame A w t f q) := by
  obtain ⟨a1, ⟨a2, a3, a4⟩, a5, a6, a7, _, _, a10⟩ := h
  refine ⟨?_, ⟨a2.of (fun c hc => hF c (fun e => by revert hc; revert e; simp only [List.mem_cons, List.not_mem_nil, or_false]; omega)), ?_, ?_⟩, ?_, ?_, ?_, fun b hb => ⟨h27 b hb, h28 b hb⟩, h29, ?_⟩
  · rw [hF 24 (by decide)]; exact a1
  · rw [hF 1 (by decide)]; exact a3
  · rw [hF 1 (by decide)]; exact a4
  · rw [hF 16 (by decide), hF 17 (by decide)]; exact a5
  · rw [hF 30 (by decide)]; exact a6
  · rw [hF 26 (by decide), hF 25 (by decide)]; exact a7
  · intro b r hb hr g hg
    rw [hF 18 (by decide), a10 b r hb hr g hg]
    unfold noteR
    show _ = if g < n ∧ cmU (aC A) w t f q 0 b g r = true then aM A b g r else -2
    rw [cmU_ne (fun z => hw z.1.symm)]
/-- counts that do not change -/
theorem cnt_cm {w w' t f q b r : Nat} {P : Nat → Bool} (h : ¬ (w' = w ∧ b = t ∧ r = q)) : (selL P n).countP (fun c => cmU (aC A) w t f q w' b c r) = (selL P n).countP (fun c => aC A w' b c r) := cnt_eq (fun c _ _ => cmU_ne (fun z => h ⟨z.1, z.2.1, z.2.2.2⟩))
/-- the count that does -/
theorem cnt_c1 {w t f q : Nat} {P : Nat → Bool} (hf : f < n) (hp : P f = true) (h0 : aC A w t f q = false) : (selL P n).countP (fun c => cmU (aC A) w t f q w t c q) = (selL P n).countP (fun c => aC A w t c q) + 1 := by
  have := cnt_up (F := fun c => aC A w t c q) (F' := fun c => cmU (aC A) w t f q w t c q) hp h0 cmU_eq (fun c hc => cmU_ne (fun z => hc z.2.2.1)) n
  rw [if_pos hf] at this; exact this
set_option maxHeartbeats 1000000 in
theorem s_Course_bring2 (G : zG) (σ : zSt) (i : Nat) (hT : CT σ n R W p src mk len lk pa up ld) (hF : FRA n W lk pa up ld) (hM : MLB mk len) (hA : CA σ n W pa up A) (hQ : QR n R W p lk pa up ld A) (hi : i < (aL A).length) : zI G 6 M_Course_bring [zf G 1, .int (nI i)] σ (fun y τ => ∃ (k f t q : Nat) (x : Int32), (aL A)[i]? = some (nI k, nI f, nI t, nI q, x) ∧ k < 7 ∧ f < n ∧ t < n ∧ 1 ≤ q ∧ q ≤ R ∧ y = nI k ∧ RF FR σ τ ∧ CA τ n W pa up (aHandle n R W p src mk len lk pa up A i k f t q x)) := by
  refine zSpec.of (by decide) (Nat.le_of_ble_eq_true rfl) rfl (fun X E => ?_)
  have hn12 : n ≤ 12 := hT.1.2.2.1
  have hR20 : R ≤ 20 := hT.1.2.2.2.2.2.1
  have hR1 : 1 ≤ R := hT.1.2.2.2.2.1
  have hW2 : W ≤ 2 := hT.1.2.2.2.2.2.2.2
  have hP := hQ.1.1.1
  have hX := hQ.1.1.2.1
  have hlen := hQ.1.le528 hn12 hR20 hR1 hF
  have hx : (aL A)[i]? = some (plt σ i) := hA.2.1.1.2.2 i hi
  have hm : plt σ i ∈ aL A := List.mem_of_getElem? hx
  obtain ⟨⟨⟨k, hk, ek⟩, ⟨f, hf, ef⟩, ⟨t, ht, et⟩, ⟨q, hq1, hqR, eq, _⟩⟩, t3, t6, t4, t5⟩ := hP.2.1 _ hm
  have ek' : σ 19 i = nI k := ek
  have ef' : σ 20 i = nI f := ef
  have et' : σ 21 i = nI t := et
  have eq' : σ 22 i = nI q := eq
  have hx2 : (aL A)[i]? = some (nI k, nI f, nI t, nI q, σ 23 i) := by
    rw [hx]; unfold plt; rw [ek', ef', et', eq']
  have ii : vp_in (nI i) 528 := vp_in_nI (by omega) (by decide)
  have ci : (nI i).toNatClampNeg = i := nI_clamp (by omega)
  have it : vp_in (nI t) 12 := vp_in_nI (by omega) (by decide)
  have ct : (nI t).toNatClampNeg = t := nI_clamp (by omega)
  obtain ⟨qa1, qa2⟩ := hQ.1.1.act (src := src) (mk := mk) (len := len) hn12 hR20 hW2 hF hM hQ.2.1 hk hf ht hq1 hqR hx2
  have qa : QE n R W p lk pa up ld (aAct n p src mk len lk pa up (aErase A i) k f t q (σ 23 i)) := ⟨qa1, XN.act hF hQ.1 hR20 hn12 hf ht hq1 hqR hx2⟩
  have ra : 1 ≤ rdP (aS (aAct n p src mk len lk pa up (aErase A i) k f t q (σ 23 i))) t := Nat.le_trans (hQ.2.1 t ht) (qa2 t)
  have hkt : (nI k).toInt = (k : Int) := nI_toInt (by omega)
  have rt := hQ.2.1 t ht
  have rtR := (hP.1 t ht).1
  refine b_Course_bring_0 E (nI i) σ ?_
  rw [ci, ek', ef', et', eq']
  generalize σ 23 i = x at hx2 qa ra qa1 qa2 ⊢
  have last : ∀ υ : zSt, RF FR σ υ → CA υ n W pa up (aAct n p src mk len lk pa up (aErase A i) k f t q x) → zZ G M_Course_bring 6 X (fun r τ => ∃ y : Int32, r = some (.int y) ∧ ∃ (k f t q : Nat) (x : Int32), (aL A)[i]? = some (nI k, nI f, nI t, nI q, x) ∧ k < 7 ∧ f < n ∧ t < n ∧ 1 ≤ q ∧ q ≤ R ∧ y = nI k ∧ RF FR σ τ ∧ CA τ n W pa up (aHandle n R W p src mk len lk pa up A i k f t q x)) 208 [(0, zf G 1), (2, .int (nI k)), (4, .int (nI t))] [] υ := by
    intro υ g1 g2
    exact b_Course_bring_208 E (nI k) (nI t) υ ⟨_, s_Course_push2 G υ t (hT.of g1) hF hM g2 qa ht ra, fun τ ⟨k1, k2⟩ => ⟨_, rfl, k, f, t, q, x, hx2, hk, hf, ht, hq1, hqR, rfl, g1.tr k1, k2⟩⟩
  refine ⟨ii, ii, ii, ii, ii, _, s_Pool_remove G σ (aL A) i hA.2.1.1 hi, fun σ1 ⟨p1, p2⟩ => ?_⟩
  have f1 : RF FR σ σ1 := (RF.of p2 (by decide)).mono (by decide)
  have AE : CA σ1 n W pa up (aErase A i) := by
    obtain ⟨a1, ⟨_, a3, a4⟩, a5, a6, a7, a8, a9, a10⟩ := hA
    refine ⟨?_, ⟨p1, ?_, ?_⟩, ?_, ?_, ?_, ?_, ?_, ?_⟩
    · rw [p2 24 (by decide)]; exact a1
    · rw [p2 1 (by decide)]; exact a3
    · rw [p2 1 (by decide)]; exact a4
    · rw [p2 16 (by decide), p2 17 (by decide)]; exact a5
    · rw [p2 30 (by decide)]; exact a6
    · rw [p2 26 (by decide), p2 25 (by decide)]; exact a7
    · rw [p2 27 (by decide), p2 28 (by decide)]; exact a8
    · rw [p2 29 (by decide)]; exact a9
    · rw [p2 18 (by decide)]; exact a10
  have hT1 := hT.of f1
  refine ⟨fun hk0 => ?_, fun hk1 => ?_, fun hk2 => ?_, fun hk3 => ?_, fun hk4 => ?_, fun hk5 => ?_, fun hk6 => ?_⟩
  · -- NOTE
    have k0 : k = 0 := by omega
    have eA : aAct n p src mk len lk pa up (aErase A i) k f t q x = aNote (aErase A i) t f q x := by unfold aAct; rw [if_pos k0]
    rw [eA] at qa
    have l5 := qa.le528 hn12 hR20 hR1 hF
    rw [k0] at hx2
    obtain ⟨f', t', hf', ht', e1, e2, hl, e3, hr, hr2, hr3⟩ := note_rd hF hP hX (List.mem_of_getElem? hx2) rfl
    have hrR := (hP.1 f' hf').1
    have eff : f = f' := i12 (by omega) (by omega) e1
    have ett : t = t' := i12 (by omega) (by omega) e2
    have eqq : q = rdP (aS A) f' := i12 (by omega) (by omega) e3
    rw [← ett] at hr2 hr3
    have qr : q = rdP (aS A) t ∨ q = rdP (aS A) t + 1 := by have := hr3 rt; omega
    refine ⟨_, s_Play_keepNote2 G σ1 f t q x (by omega) (by omega) (by omega), fun σ2 e2' => ?_⟩
    have f2 : RF FR σ1 σ2 := by rw [e2']; exact RF.rf.up (by decide) (by decide)
    have hT2 := hT1.of f2
    have P2 : PV σ2 ((aL A).eraseIdx i) := p1.of (fun c hc => by
      rw [e2', zup_ne]; intro e; rw [e] at hc; revert hc; decide)
    have el : ltrs 1 t q 0 (selL (fun b => decide (b = f)) n) = [(1, nI t, nI f, nI q, 0)] := by rw [selL_sing hf]; rfl
    refine ⟨_, s_Course_send2 G σ2 n t q ((aL A).eraseIdx i) 1 _ 0 (fun b => decide (b = f)) hT2.1.1 hn12 P2 (fun b hb => zIn_bit (by omega) (by omega)) (by rw [el]; exact l5), fun σ3 g => ?_⟩
    rw [el] at g
    refine last σ3 ((f1.tr f2).tr (g.1.mono (by decide))) ?_
    rw [eA]
    obtain ⟨a1, ⟨_, a3, a4⟩, a5, a6, a7, a8, a9, a10⟩ := AE
    have h2 : ∀ c, c ∉ (1 :: FPool) → c ≠ 18 → σ3 c = σ1 c := fun c b1 b2 => by rw [g.1.at b1, e2', zup_ne b2]
    have cc : ∀ (w b r : Nat) (P : Nat → Bool), ¬ w = 0 → (selL P n).countP (fun c => aC (aNote (aErase A i) t f q x) w b c r) = (selL P n).countP (fun c => aC A w b c r) := fun w b r P hw => cnt_cm (fun z => hw z.1)
    refine ⟨?_, ⟨g.2.1, ?_, ?_⟩, ?_, ?_, ?_, fun b hb => ?_, fun b r hb hr => ?_, fun b r hb hr g' hg' => ?_⟩
    · rw [h2 24 (by decide) (by decide)]; exact a1
    · rw [g.2.2.1, e2', zup_ne (by decide), a3]; exact Int32.add_zero _
    · rw [g.2.2.2, e2', zup_ne (by decide), a4]; rfl
    · rw [h2 16 (by decide) (by decide), h2 17 (by decide) (by decide)]; exact a5
    · rw [h2 30 (by decide) (by decide)]; exact a6
    · rw [h2 26 (by decide) (by decide), h2 25 (by decide) (by decide)]; exact a7
    · rw [h2 27 (by decide) (by decide), h2 28 (by decide) (by decide)]
      have := a8 b hb
      unfold lows at this ⊢
      rw [cc 2 b _ _ (by omega), cc 3 b _ _ (by omega)]; exact this
    · rw [h2 29 (by decide) (by decide)]
      have := a9 b r hb hr
      unfold pars at this ⊢
      rw [cc 1 b _ _ (by omega)]; exact this
    · have hr : r = rdP (aS A) b ∨ r = rdP (aS A) b + 1 := hr
      rw [g.1.at (by decide), e2', zup_self]
      unfold noteR
      show _ = if g' < n ∧ cmU (aC A) 0 t f q 0 b g' r = true then (if b = t ∧ g' = f ∧ r = q then x else aM A b g' r) else -2
      by_cases c : b = t ∧ g' = f ∧ r = q
      · rw [if_pos c, c.1, c.2.1, c.2.2, upd_eq, if_pos ⟨hf, cmU_eq⟩]
      · rw [if_neg c, cmU_ne (fun z => c z.2), upd_ne]
        · exact a10 b r hb hr g' hg'
        · intro e
          have eb : b = t := by omega
          have eg : g' = f := by omega
          have er : r % 2 = q % 2 := by omega
          rw [eb] at hr
          exact c ⟨eb, eg, by omega⟩
  · -- ACK
    have k1 : k = 1 := by omega
    refine ⟨it, it, fun σ4 e4 => last σ4 ?_ ?_⟩
    · rw [e4]; exact f1.up (by decide) (by decide)
    · have eA : aAct n p src mk len lk pa up (aErase A i) k f t q x = mkA (setOp (aS A) t (opP (aS A) t - 1)) (aV A) (aQ A) (aU A) (aC A) (aM A) ((aL A).eraseIdx i) (aN A) (aO A) := by
        unfold aAct; rw [if_neg (by omega), if_pos k1]; rfl
      rw [eA]
      rw [ct] at e4
      have h4 : ∀ c, c ≠ 26 → σ4 c = σ1 c := fun c hc => by rw [e4, zup_ne hc]
      obtain ⟨o1, o2, _⟩ := op_nn hQ.1 ht rt
      obtain ⟨a1, ⟨_, a3, a4⟩, a5, a6, a7, a8, a9, a10⟩ := AE
      refine ⟨?_, ⟨p1.of (fun c hc => h4 c (fun e => by rw [e] at hc; revert hc; decide)), ?_, ?_⟩, ?_, ?_, fun b hb => ?_, ?_, ?_, ?_⟩
      · rw [h4 24 (by decide)]; exact a1
      · rw [h4 1 (by decide)]; exact a3
      · rw [h4 1 (by decide)]; exact a4
      · rw [h4 16 (by decide), h4 17 (by decide)]; exact a5
      · rw [h4 30 (by decide)]; exact a6
      · rw [h4 25 (by decide), e4, zup_self]
        by_cases e : b = t
        · rw [e]
          have h7 := (a7 t ht).2 rt
          refine ⟨fun z => by
            have z : rdP (aS A) t = 0 := z
            omega, fun _ => ⟨?_, h7.2⟩⟩
          have h71 : (σ1 26 t).toInt = opP (aS A) t := h7.1
          rw [upd_eq, i32_dec (by omega), h71]
          exact fup_s.symm
        · rw [upd_ne e]
          have h7 := a7 b hb
          refine ⟨h7.1, fun z => ⟨?_, (h7.2 z).2⟩⟩
          rw [(h7.2 z).1]
          exact (fup_n e).symm
      · rw [h4 27 (by decide), h4 28 (by decide)]; exact a8
      · rw [h4 29 (by decide)]; exact a9
      · rw [h4 18 (by decide)]; exact a10
  · -- SAFE
    have k2 : k = 2 := by omega
    have eA : aAct n p src mk len lk pa up (aErase A i) k f t q x = aCame (aErase A i) 1 t f q := by
      unfold aAct; rw [if_neg (by omega), if_neg (by omega), if_pos k2]
    rw [k2] at hx2
    obtain ⟨f', t', q', s1, s2, s3, s4, s5, s6, s7, s8, s9, s10, s11⟩ := safe_rd hR20 hF hP hX (List.mem_of_getElem? hx2) rfl
    have eff : f = f' := i12 (by omega) (by omega) s5
    have ett : t = t' := i12 (by omega) (by omega) s6
    have eqq : q = q' := i12 (by omega) (by omega) s7
    rw [← eff, ← ett] at s8
    rw [← ett, ← eqq] at s9 s10
    rw [← eff, ← ett, ← eqq] at s11
    have ix : (nI q &&& (1 : Int32)) * 12 + nI t = nI (q % 2 * 12 + t) := by rw [pand1 _ (by omega), zi12]
    refine ⟨by rw [ix]; exact vp_in_nI (by omega) (by decide), by rw [ix]; exact vp_in_nI (by omega) (by decide), fun σ4 e4 => last σ4 ?_ ?_⟩
    · rw [e4]; exact f1.up (by decide) (by decide)
    · rw [eA]
      rw [ix, nI_clamp (by omega)] at e4
      refine AE.came (by omega) (by rw [e4]; exact zFr.rf.up (by decide)) (fun b hb => ?_) (fun b hb => ?_) (fun b r hb hr => ?_)
      · have := (AE.2.2.2.2.2.1 b hb).1
        unfold lows at this ⊢
        rw [cnt_cm (fun z => absurd z.1 (by omega)), e4, zup_ne (by decide)]; exact this
      · have := (AE.2.2.2.2.2.1 b hb).2
        unfold lows at this ⊢
        rw [cnt_cm (fun z => absurd z.1 (by omega)), e4, zup_ne (by decide)]; exact this
      · have hr' : r = rdP (aS A) b ∨ r = rdP (aS A) b + 1 := hr
        have h9 := AE.2.2.2.2.2.2.1 b r hb hr
        unfold pars at h9 ⊢
        rw [e4, zup_self]
        by_cases c : b = t ∧ r = q
        · rw [c.1, c.2] at h9 ⊢
          rw [upd_eq, h9, nI_1]
          congr 1
          exact (cnt_c1 (A := A) hf (by rw [hF.2.2.2.1 t f ht hf]; exact s8) s11).symm
        · rw [cnt_cm (fun z => c ⟨z.2.1, z.2.2⟩), upd_ne]
          · exact h9
          · intro e
            have eb : b = t := by omega
            rw [eb] at hr'
            exact c ⟨eb, by omega⟩
  · -- READY
    have k3 : k = 3 := by omega
    have eA : aAct n p src mk len lk pa up (aErase A i) k f t q x = aCame (aErase A i) 2 t f q := by
      unfold aAct; rw [if_neg (by omega), if_neg (by omega), if_neg (by omega), if_pos k3]
    obtain ⟨c, u, q', z1, z2, z3, z4, z5, z6, z7, z8⟩ := t3 (by rw [ek, k3]; rfl)
    have zc : f = c := i12 (by omega) (by omega) (ef.symm.trans z3)
    have zu : t = u := i12 (by omega) (by omega) (et.symm.trans z4)
    have h20 := (hP.1 c z1).1
    have zq : q = q' := i12 (by omega) (by omega) (eq.symm.trans z6)
    subst zc zu zq
    obtain ⟨g1, g2⟩ := ready_rd (k := 3) (w := 2) hP hX (Or.inl ⟨rfl, rfl⟩) hf z5 hq1 z7 (cX_mem hm (by rw [ek, k3]; rfl) ef et eq)
    have gq : q = rdP (aS A) t := by omega
    refine ⟨it, it, fun σ4 e4 => last σ4 ?_ ?_⟩
    · rw [e4]; exact f1.up (by decide) (by decide)
    · rw [eA]
      rw [ct] at e4
      refine AE.came (by omega) (by rw [e4]; exact zFr.rf.up (by decide)) (fun b hb => ?_) (fun b hb => ?_) (fun b r hb hr => ?_)
      · have h8 := (AE.2.2.2.2.2.1 b hb).1
        have h8 : σ1 27 b = nI ((lows n up b).countP (fun c => aC A 2 b c (rdP (aS A) b))) := h8
        show _ = nI ((lows n up b).countP (fun c => cmU (aC A) 2 t f q 2 b c (rdP (aS A) b)))
        unfold lows at h8 ⊢
        rw [e4, zup_self]
        by_cases e : b = t
        · rw [e] at h8 ⊢
          rw [upd_eq, h8, nI_1, ← gq]
          congr 1
          exact (cnt_c1 (A := A) hf (decide_eq_true z5) g2).symm
        · rw [upd_ne e, cnt_cm (fun z => e z.2.1)]; exact h8
      · have := (AE.2.2.2.2.2.1 b hb).2
        unfold lows at this ⊢
        rw [cnt_cm (fun z => absurd z.1 (by omega)), e4, zup_ne (by decide)]; exact this
      · have := AE.2.2.2.2.2.2.1 b r hb hr
        unfold pars at this ⊢
        rw [cnt_cm (fun z => absurd z.1 (by omega)), e4, zup_ne (by decide)]; exact this
  · -- GO
    have k4 : k = 4 := by omega
    have eA : aAct n p src mk len lk pa up (aErase A i) k f t q x = aBeg n p src mk len lk up (aErase A i) t := by
      unfold aAct; rw [if_neg (by omega), if_neg (by omega), if_neg (by omega), if_neg (by omega), if_pos k4]
    obtain ⟨hB, _⟩ := BG_go hn12 hR20 hW2 hF hQ.1.1 ht hx2 k4
    have hE : QE n R W p lk pa up ld (aErase A i) := ⟨hQ.1.1.erase hx2 (by rw [k4]; exact (show ¬ (4 : Int32) = 0 by decide)) (by rw [k4]; exact (show ¬ (4 : Int32) = 1 by decide)), hQ.1.2.1, fun y hy => hQ.1.2.2 y (List.mem_of_mem_eraseIdx hy)⟩
    refine ⟨_, s_Course_enterNext2 G σ1 t hT1 hF hM AE hE hB ht (fun e => by
      have e : rdP (aS A) t = 0 := e
      omega), fun σ7 ⟨m1, m2⟩ => last σ7 (f1.tr m1) (by rw [eA]; exact m2)⟩
  · -- FIRM
    have k5 : k = 5 := by omega
    obtain ⟨z0, c, u, z1, z2, z3, z4, z5, z6, z7, _⟩ := t5 (by rw [ek, k5]; rfl)
    have zc : t = c := i12 (by omega) (by omega) (et.symm.trans z3)
    subst zc
    have eA : aAct n p src mk len lk pa up (aErase A i) k f t q x = aFirm n pa up (aErase A i) t := by
      unfold aAct; rw [if_neg (by omega), if_neg (by omega), if_neg (by omega), if_neg (by omega), if_neg (by omega), if_pos k5]
    rw [eA] at qa
    refine ⟨_, s_Course_spreadFirm2 G σ1 t hT1 AE z0 ht ?_ (qa.le528 hn12 hR20 hR1 hF), fun σ8 ⟨m1, m2⟩ => last σ8 (f1.tr (m1.mono (by decide))) (by rw [eA]; exact m2)⟩
    show dnP (aS A) t = false
    cases e : dnP (aS A) t with
    | false => rfl
    | true =>
      have := ((hP.1 t ht).2.1 rt).2.2.2.1 e
      rw [z7] at this; exact absurd this (by decide)
  · -- DONE
    have k6 : k = 6 := by omega
    have eA : aAct n p src mk len lk pa up (aErase A i) k f t q x = aCame (aErase A i) 3 t f q := by
      unfold aAct; rw [if_neg (by omega), if_neg (by omega), if_neg (by omega), if_neg (by omega), if_neg (by omega), if_neg (by omega)]
    have w2 : W = 2 := hQ.1.2.2 _ hm (by rw [ek, k6]; rfl)
    obtain ⟨c, u, q', z1, z2, z3, z4, z5, z6, z7, z8⟩ := t6 (by rw [ek, k6]; rfl)
    have zc : f = c := i12 (by omega) (by omega) (ef.symm.trans z3)
    have zu : t = u := i12 (by omega) (by omega) (et.symm.trans z4)
    have h20 := (hP.1 c z1).1
    have zq : q = q' := i12 (by omega) (by omega) (eq.symm.trans z6)
    subst zc zu zq
    obtain ⟨g1, g2⟩ := ready_rd (k := 6) (w := 3) hP hX (Or.inr ⟨rfl, rfl, w2⟩) hf z5 hq1 z7 (cX_mem hm (by rw [ek, k6]; rfl) ef et eq)
    have gq : q = rdP (aS A) t := by omega
    refine ⟨it, it, fun σ4 e4 => last σ4 ?_ ?_⟩
    · rw [e4]; exact f1.up (by decide) (by decide)
    · rw [eA]
      rw [ct] at e4
      refine AE.came (by omega) (by rw [e4]; exact zFr.rf.up (by decide)) (fun b hb => ?_) (fun b hb => ?_) (fun b r hb hr => ?_)
      · have := (AE.2.2.2.2.2.1 b hb).1
        unfold lows at this ⊢
        rw [cnt_cm (fun z => absurd z.1 (by omega)), e4, zup_ne (by decide)]; exact this
      · have h8 := (AE.2.2.2.2.2.1 b hb).2
        have h8 : σ1 28 b = nI ((lows n up b).countP (fun c => aC A 3 b c (rdP (aS A) b))) := h8
        show _ = nI ((lows n up b).countP (fun c => cmU (aC A) 3 t f q 3 b c (rdP (aS A) b)))
        unfold lows at h8 ⊢
        rw [e4, zup_self]
        by_cases e : b = t
        · rw [e] at h8 ⊢
          rw [upd_eq, h8, nI_1, ← gq]
          congr 1
          exact (cnt_c1 (A := A) hf (decide_eq_true z5) g2).symm
        · rw [upd_ne e, cnt_cm (fun z => e z.2.1)]; exact h8
      · have := AE.2.2.2.2.2.2.1 b r hb hr
        unfold pars at this ⊢
        rw [cnt_cm (fun z => absurd z.1 (by omega)), e4, zup_ne (by decide)]; exact this
end CCLS4
