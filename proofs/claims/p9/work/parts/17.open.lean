-- Course: a letter comes; the start
theorem gos_erase {l : List Lt} {i : Nat} {x : Lt} (h : l[i]? = some x) (c : Nat) : gos l c = gos (l.eraseIdx i) c + (if x.1 = 4 ∧ x.2.2.1 = nI c then 1 else 0) := by
  induction l generalizing i with
  | nil => cases h
  | cons y t ih =>
    cases i with
    | zero =>
      cases h
      simp only [List.eraseIdx_cons_zero, gos, List.countP_cons, decide_eq_true_eq]
    | succ j =>
      have h2 := ih (i := j) h
      simp only [List.eraseIdx_cons_succ, gos, List.countP_cons] at h2 ⊢
      omega
theorem LI_erase {l : List Lt} {i : Nat} (h : LI l) : LI (l.eraseIdx i) := fun x hx => h x (List.mem_of_mem_eraseIdx hx)
theorem toInt_4 {x : Int32} (h : x.toInt = 4) : x = 4 := Int32.toInt_inj.mp (by rw [h]; decide)
theorem s_Course_bring (G : zG) (σ : zSt) (n R i : Nat) (rd : Nat → Nat) (l : List Lt) (hS : CS σ n R) (hD : CD σ R rd l) (hG : GI (σ 13) rd l) (hi : i < l.length) : zI G 6 M_Course_bring [zf G 1, .int (nI i)] σ (fun _ τ => RF FR σ τ ∧ ∃ rd', RN τ R rd') := by
  refine zSpec.of (by decide) (Nat.le_of_ble_eq_true rfl) rfl (fun X E => ?_)
  have h528 := hD.2.1.2.1
  have ii : vp_in (nI i) 528 := vp_in_nI (by omega) (by decide)
  have ci : (nI i).toNatClampNeg = i := nI_clamp (by omega)
  have hx : l[i]? = some (plt σ i) := hD.2.1.2.2 i hi
  have hm : plt σ i ∈ l := List.mem_of_getElem? hx
  obtain ⟨⟨f, hf, ef⟩, ⟨t, ht, et⟩⟩ := hD.2.2 _ hm
  have ef' : σ 20 i = nI f := ef
  have et' : σ 21 i = nI t := et
  have it : vp_in (nI t) 12 := vp_in_nI ht (by decide)
  have ct : (nI t).toNatClampNeg = t := nI_clamp (by omega)
  have hge := gos_erase hx
  -- what is left behind the letter
  have keep : ∀ υ, RF FR σ υ → υ 24 = σ 24 → KP (l.eraseIdx i) υ → RN υ R rd := by
    rintro υ hF h24 ⟨l', p1, p2, p3⟩
    refine ⟨l', ⟨fun a ha => by rw [h24]; exact hD.1 a ha, p1, p2⟩, ?_⟩
    rw [hF.at (by decide)]
    refine hG.less (fun c hc => ?_)
    have := p3 c hc
    have := hge c
    omega
  have last : ∀ υ rd1, RF FR σ υ → RN υ R rd1 → zZ G M_Course_bring 6 X (fun r τ => ∃ x : Int32, r = some (.int x) ∧ RF FR σ τ ∧ ∃ rd', RN τ R rd') 208 [(0, zf G 1), (2, .int (σ 19 i)), (4, .int (nI t))] [] υ := by
    intro υ rd1 hF hN
    refine b_Course_bring_208 E (σ 19 i) (nI t) υ ⟨_, s_Course_push G υ n R t rd1 (hS.of hF) hN ht, fun τ ⟨k1, rd2, k2, _⟩ => ⟨_, rfl, hF.tr k1, rd2, k2⟩⟩
  have P1 : ∀ σ1, PV σ1 (l.eraseIdx i) ∧ zFr FPool σ σ1 → RF FR σ σ1 ∧ KP (l.eraseIdx i) σ1 ∧ σ1 24 = σ 24 := fun σ1 h => ⟨(RF.of h.2 (by decide)).mono (by decide), ⟨_, h.1, LI_erase hD.2.2, fun _ _ => Nat.le_refl _⟩, h.2 24 (by decide)⟩
  refine b_Course_bring_0 E (nI i) σ ?_
  rw [ci, ef', et']
  refine ⟨ii, ii, ii, ii, ii, _, s_Pool_remove G σ l i hD.2.1 hi, fun σ1 h1 => ?_⟩
  obtain ⟨q1, q2, q3⟩ := P1 σ1 h1
  have hn1 : σ1 2 0 = nI n := by rw [q1.at (by decide)]; exact hS.1
  refine ⟨fun _ => ?_, fun _ => ?_, fun _ => ?_, fun _ => ?_, fun hk => ?_, fun _ => ?_, fun _ => ?_⟩
  · refine ⟨_, s_Play_keepNote G σ1 f t _ _ hf ht, fun σ2 g2 => ?_⟩
    have hF2 : RF FR σ σ2 := q1.tr ((RF.of g2 (by decide)).mono (by decide))
    refine ⟨_, s_Course_send' G σ2 n t (l.eraseIdx i) 1 _ _ 0 (by rw [hF2.at (by decide)]; exact hS.1) hS.2.2.1 ht (by decide) (q2.of (fun c hc => g2 c (fun h => by rw [List.mem_singleton.mp h] at hc; revert hc; decide))), fun σ3 ⟨g3, g4⟩ => ?_⟩
    have hF3 : RF FR σ σ3 := hF2.tr (g3.mono (by decide))
    exact last σ3 rd hF3 (keep σ3 hF3 (by rw [g3.at (by decide), g2 24 (by decide), q3]) g4)
  · refine ⟨it, it, fun σ4 e4 => ?_⟩
    have hF4 : RF FR σ σ4 := by rw [e4]; exact q1.up (by decide) (by decide)
    exact last σ4 rd hF4 (keep σ4 hF4 (by rw [e4, zup_ne (by decide), q3]) (by rw [e4]; exact q2.up (by decide)))
  · refine ⟨par12 _ ht, par12 _ ht, fun σ4 e4 => ?_⟩
    have hF4 : RF FR σ σ4 := by rw [e4]; exact q1.up (by decide) (by decide)
    exact last σ4 rd hF4 (keep σ4 hF4 (by rw [e4, zup_ne (by decide), q3]) (by rw [e4]; exact q2.up (by decide)))
  · refine ⟨it, it, fun σ4 e4 => ?_⟩
    have hF4 : RF FR σ σ4 := by rw [e4]; exact q1.up (by decide) (by decide)
    exact last σ4 rd hF4 (keep σ4 hF4 (by rw [e4, zup_ne (by decide), q3]) (by rw [e4]; exact q2.up (by decide)))
  · -- GO: the node has an upper that is ahead
    have hk4 : (plt σ i).1 = 4 := toInt_4 hk
    have g1 : gos l t = gos (l.eraseIdx i) t + 1 := by
      rw [hge t, if_pos ⟨hk4, et⟩]
    have hex : ∃ u, u < 12 ∧ zIn (σ 13 u) (nI t) = true := by
      apply Classical.byContradiction
      intro hno
      have hz : ∀ u, u < 12 → zIn (σ 13 u) (nI t) = false := fun u hu => by
        cases hz : zIn (σ 13 u) (nI t) with
        | false => rfl
        | true => exact absurd ⟨u, hu, hz⟩ hno
      have := (hG t ht).2 hz
      omega
    obtain ⟨u0, hu0, hz0⟩ := hex
    have hup := (hG t ht).1 u0 hu0 hz0
    have hR0 := (hD.1 u0 hu0).2
    have hr : rd t < R := by
      have := hS.2.2.2.2.1
      omega
    have hD1 : CD σ1 R rd (l.eraseIdx i) := ⟨fun a ha => by rw [q3]; exact hD.1 a ha, h1.1, LI_erase hD.2.2⟩
    refine ⟨_, s_Course_enterNext G σ1 n R t rd _ (hS.of q1) hD1 ht hr, fun σ7 ⟨k1, l', k2, k3⟩ => ?_⟩
    refine last σ7 _ (q1.tr k1) ⟨l', k2, ?_⟩
    have e13 : σ1 13 = σ 13 := q1.at (by decide)
    have hG1 : GI (σ1 13) rd (l.eraseIdx i) := by
      rw [e13]
      refine hG.less (fun c hc => ?_)
      have := hge c
      omega
    rw [k1.at (by decide)]
    refine GI.enter (hS.of q1).2.2.2.2.2.2.1 hG1 ht (fun u hu hz => ?_) k3
    rw [e13] at hz
    have := (hG t ht).1 u hu hz
    omega
  · refine ⟨_, s_Course_spreadFirm G σ1 n t (l.eraseIdx i) hn1 hS.2.2.1 ht q2, fun σ8 ⟨g1, g2⟩ => ?_⟩
    have hF8 : RF FR σ σ8 := q1.tr (g1.mono (by decide))
    exact last σ8 rd hF8 (keep σ8 hF8 (by rw [g1.at (by decide), q3]) g2)
  · refine ⟨it, it, fun σ4 e4 => ?_⟩
    have hF4 : RF FR σ σ4 := by rw [e4]; exact q1.up (by decide) (by decide)
    exact last σ4 rd hF4 (keep σ4 hF4 (by rw [e4, zup_ne (by decide), q3]) (by rw [e4]; exact q2.up (by decide)))
theorem s_Course_handOut (G : zG) (σ : zSt) (n a : Nat) (r v : Int32) (hn : σ 2 0 = nI n) (hle : n ≤ 12) (ha : a < 12) : zV G 2 M_Course_handOut [zf G 1, .int (nI a), .int r, .int v] σ (fun τ => zFr [18] σ τ) := by
  refine zSpec.of (by decide) (Nat.le_of_ble_eq_true rfl) rfl (fun X E => ?_)
  have ia : vp_in (nI a) 12 := vp_in_nI ha (by decide)
  refine b_Course_handOut_0 E (nI a) r v σ ?_
  refine z_for n (fun i τ => zZ G M_Course_handOut 2 X (fun r τ => r = none ∧ zFr [18] σ τ) 3 [(0, zf G 1), (1, .int (nI a)), (2, .int r), (3, .int v), (4, .int (nI i))] [] τ) (fun _ τ => zFr [18] σ τ) ?_ ?_ 0 σ (Nat.zero_le _) zFr.rf
  · intro i τ hi hI ih
    refine b_Course_handOut_3 E (nI a) r v (nI i) τ ⟨fun q => absurd q (by rw [hI 2 (by decide), hn]; exact nI_ge hi (by omega)), fun _ => ⟨fun _ => ⟨rfl, hI⟩, fun _ => ⟨ia, fun _ => by rw [nI_1]; exact ih τ hI, fun _ => ⟨_, s_Play_keepNote G τ a i r v ha (by omega), fun σ1 g1 => ?_⟩⟩⟩⟩
    rw [nI_1]
    exact ih σ1 (hI.tr g1)
  · intro τ hI
    exact b_Course_handOut_3 E (nI a) r v (nI n) τ ⟨fun _ => ⟨rfl, hI⟩, fun q => absurd (by rw [hI 2 (by decide), hn]; exact nI_le (Nat.le_refl n) (by omega)) q⟩
theorem s_Course_goInStep (G : zG) (σ : zSt) (n R : Nat) (hn : σ 2 0 = nI n) (hle : n ≤ 12) (hR : σ 1 5 = nI R) (hR2 : R ≤ 20) : zV G 4 M_Course_goInStep [zf G 1] σ (fun τ => zFr [16, 17, 18, 31] σ τ) := by
  refine zSpec.of (by decide) (Nat.le_of_ble_eq_true rfl) rfl (fun X E => ?_)
  refine b_Course_goInStep_0 E σ ?_
  have two : ∀ υ, zFr [16, 17, 18, 31] σ υ → zZ G M_Course_goInStep 4 X (fun r τ => r = none ∧ zFr [16, 17, 18, 31] σ τ) 40 [(0, zf G 1), (1, .int (1 : Int32))] [] υ := by
    intro υ hυ
    refine z_for (R + 1) (fun i τ => zZ G M_Course_goInStep 4 X (fun r τ => r = none ∧ zFr [16, 17, 18, 31] σ τ) 40 [(0, zf G 1), (1, .int (nI i))] [] τ) (fun i τ => 1 ≤ i ∧ zFr [16, 17, 18, 31] σ τ) ?_ ?_ 1 υ (by omega) ⟨Nat.le_refl 1, hυ⟩
    · intro r τ hr ⟨hr1, hI⟩ ihr
      refine b_Course_goInStep_40 E (nI r) τ ⟨fun q => absurd q (by rw [hI 1 (by decide), hR]; exact nI_nlt (by omega) (by omega)), fun _ => ?_⟩
      refine z_for n (fun i τ => zZ G M_Course_goInStep 4 X (fun r τ => r = none ∧ zFr [16, 17, 18, 31] σ τ) 50 [(0, zf G 1), (1, .int (nI r)), (2, .int (nI i))] [] τ) (fun _ τ => zFr [16, 17, 18, 31] σ τ) ?_ ?_ 0 τ (Nat.zero_le _) hI
      · intro i τ hi hI ih
        have hi12 : i < 12 := by omega
        refine b_Course_goInStep_50 E (nI r) (nI i) τ ⟨fun q => absurd q (by rw [hI 2 (by decide), hn]; exact nI_ge hi (by omega)), fun _ => ⟨_, s_Play_doRound G τ i _ hi12, fun x σ1 g1 => ⟨_, s_Course_handOut G σ1 n i _ x (by rw [g1 2 (by decide), hI 2 (by decide)]; exact hn) hle hi12, fun σ3 g3 => ⟨vp_in_nI hi12 (by decide), by rw [zi12]; exact vp_in_nI (by omega) (by decide), fun σ4 e4 => ?_⟩⟩⟩⟩
        rw [nI_1]
        refine ih σ4 ?_
        rw [e4]
        exact ((hI.tr (g1.mono (by decide))).tr (g3.mono (by decide))).up (by decide)
      · intro τ hI
        exact b_Course_goInStep_50 E (nI r) (nI n) τ ⟨fun _ => by rw [nI_1]; exact ihr τ ⟨by omega, hI⟩, fun q => absurd (by rw [hI 2 (by decide), hn]; exact nI_le (Nat.le_refl n) (by omega)) q⟩
    · intro τ ⟨_, hI⟩
      exact b_Course_goInStep_40 E (nI (R + 1)) τ ⟨fun _ => ⟨rfl, hI⟩, fun q => absurd (by rw [hI 1 (by decide), hR]; exact nI_lt (by omega) (by omega)) q⟩
  refine z_for n (fun i τ => zZ G M_Course_goInStep 4 X (fun r τ => r = none ∧ zFr [16, 17, 18, 31] σ τ) 2 [(0, zf G 1), (1, .int (nI i))] [] τ) (fun _ τ => zFr [16, 17, 18, 31] σ τ) ?_ ?_ 0 σ (Nat.zero_le _) zFr.rf
  · intro i τ hi hI ih
    refine b_Course_goInStep_2 E (nI i) τ ⟨fun q => absurd q (by rw [hI 2 (by decide), hn]; exact nI_ge hi (by omega)), fun _ => ⟨vp_in_nI (by omega) (by decide), by rw [show (0 : Int32) = nI 0 from rfl, zi12]; exact vp_in_nI (by omega) (by decide), fun σ1 e1 => ?_⟩⟩
    rw [nI_1]
    refine ih σ1 ?_
    rw [e1]; exact hI.up (by decide)
  · intro τ hI
    exact b_Course_goInStep_2 E (nI n) τ ⟨fun _ => two τ hI, fun q => absurd (by rw [hI 2 (by decide), hn]; exact nI_le (Nat.le_refl n) (by omega)) q⟩
theorem s_Course_clear (G : zG) (σ : zSt) : zV G 1 M_Course_clear [zf G 1] σ (fun τ => RF [5, 24, 25, 26, 27, 28, 29] σ τ ∧ PV τ [] ∧ ∀ a, a < 12 → τ 24 a = nI 0) := by
  refine zSpec.of (by decide) (Nat.le_of_ble_eq_true rfl) rfl (fun X E => ?_)
  refine b_Course_clear_0 E σ (fun σ1 e1 σ2 e2 σ3 e3 => ?_)
  refine ⟨_, s_fill G 24 12 rfl (by decide) _ _, fun σ4 e4 => ?_⟩
  refine ⟨_, s_fill G 25 12 rfl (by decide) _ _, fun σ5 e5 => ?_⟩
  refine ⟨_, s_fill G 26 12 rfl (by decide) _ _, fun σ6 e6 => ?_⟩
  refine ⟨_, s_fill G 27 12 rfl (by decide) _ _, fun σ7 e7 => ?_⟩
  refine ⟨_, s_fill G 28 12 rfl (by decide) _ _, fun σ8 e8 => ?_⟩
  refine ⟨_, s_fill G 29 24 rfl (by decide) _ _, fun σ9 e9 => ?_⟩
  have hF3 : RF [5, 24, 25, 26, 27, 28, 29] σ σ3 := by
    rw [e3, e2, e1]
    exact ((RF.rf.up (by decide) (by decide)).cnt (Or.inl rfl)).cnt (Or.inr rfl)
  have h93 : zFr [5, 24, 25, 26, 27, 28, 29] σ3 σ9 := by
    rw [e9, e8, e7, e6, e5, e4]
    exact (((((zFr.rf.fill (by decide)).fill (by decide)).fill (by decide)).fill (by decide)).fill (by decide)).fill (by decide)
  refine ⟨rfl, hF3.tr (RF.of h93 (by decide)), ⟨?_, Nat.zero_le _, fun i hi => absurd hi (Nat.not_lt_zero i)⟩, fun a ha => ?_⟩
  · rw [e9, zfill_ne (by decide), e8, zfill_ne (by decide), e7, zfill_ne (by decide), e6, zfill_ne (by decide), e5, zfill_ne (by decide), e4, zfill_ne (by decide), e3, zup_ne (by decide), e2, zup_ne (by decide), e1]
    simp [zup]
    rfl
  · rw [e9, zfill_ne (by decide), e8, zfill_ne (by decide), e7, zfill_ne (by decide), e6, zfill_ne (by decide), e5, zfill_ne (by decide), e4]
    simp [zfill, ha]
    rfl
abbrev FX : List Nat := [0, 1, 3, 4, 5, 9, 10, 11, 12, 13, 14, 15, 16, 17, 18, 19, 20, 21, 22, 23, 24, 25, 26, 27, 28, 29, 30, 31]
abbrev FO : List Nat := [1, 4, 5, 16, 17, 18, 19, 20, 21, 22, 23, 24, 25, 26, 27, 28, 29, 30, 31]
theorem RF.zFr {L M : List Nat} {σ τ : zSt} (h : RF L σ τ) (hs : ∀ c, c ∈ (1 :: L) → c ∈ M) : zFr M σ τ := h.1.mono hs
theorem s_Course_open (G : zG) (σ : zSt) (n R : Nat) (p w s : Int32) (hn : σ 2 0 = nI n) (h1 : 1 ≤ n) (hle : n ≤ 12) (hR1 : 1 ≤ R) (hR2 : R ≤ 20) (hT : TreeOK σ) (hw : w = 0 → ∀ u, u < 12 → σ 13 u = 0) : zV G 6 M_Course_open [zf G 1, .int p, .int w, .int s, .int (nI R)] σ (fun τ => zFr FO σ τ ∧ CS τ n R ∧ ∃ rd, RN τ R rd) := by
  refine zSpec.of (by decide) (Nat.le_of_ble_eq_true rfl) rfl (fun X E => ?_)
  refine b_Course_open_0 E p w s (nI R) σ (fun σ1 e1 σ2 e2 => ?_)
  have h12 : zFr FO σ σ2 := by rw [e2, e1]; exact (zFr.rf.up (by decide)).up (by decide)
  have hw2 : σ2 1 4 = w := by rw [e2, e1, zup_self, zup_self]; simp [upd]
  have hr2 : σ2 1 5 = nI R := by rw [e2, zup_self]; simp [upd]
  refine ⟨_, s_Play_reset G σ2 p s, fun σ3 g3 => ⟨_, s_Course_goInStep G σ3 n R (by rw [g3 2 (by decide), h12 2 (by decide)]; exact hn) hle (by rw [g3 1 (by decide)]; exact hr2) hR2, fun σ4 g4 => ⟨_, s_Play_reset G σ4 p s, fun σ5 g5 => ⟨_, s_Course_clear G σ5, fun σ6 ⟨g6, p6, r6⟩ => ?_⟩⟩⟩⟩
  have h25 : zFr [4, 16, 17, 18, 31] σ2 σ5 := ((g3.mono (by decide)).tr (g4.mono (by decide))).tr (g5.mono (by decide))
  have h6 : zFr FO σ σ6 := (h12.tr (h25.mono (by decide))).tr (g6.zFr (by decide))
  have w6 : σ6 1 4 = w := by rw [g6.2.1, h25 1 (by decide)]; exact hw2
  have r6' : σ6 1 5 = nI R := by rw [g6.2.2, h25 1 (by decide)]; exact hr2
  have S6 : CS σ6 n R := by
    have e13 : σ6 13 = σ 13 := h6 13 (by decide)
    refine ⟨by rw [h6 2 (by decide)]; exact hn, h1, hle, r6', hR1, hR2, fun c u hc hu hz => ?_, fun h u hu => ?_⟩
    · rw [e13] at hz
      rw [h6 10 (by decide), h6 9 (by decide)]
      exact hT c u hc hu hz
    · rw [e13]; exact hw (w6.symm.trans h) u hu
  have N6 : RN σ6 R (fun _ => 0) := by
    refine ⟨[], ⟨fun a ha => ⟨r6 a ha, Nat.zero_le _⟩, p6, fun x hx => absurd hx List.not_mem_nil⟩, fun c hc => ⟨fun u hu hz => ?_, fun _ => rfl⟩⟩
    show 0 + (0 - 1) ≤ 0 - 1
    omega
  -- the second loop
  have two : ∀ υ rd, RF FR σ6 υ → RN υ R rd → (∀ a, rd a = 0) → zZ G M_Course_open 6 X (fun r τ => r = none ∧ zFr FO σ τ ∧ CS τ n R ∧ ∃ rd, RN τ R rd) 90 [(0, zf G 1), (5, .int (0 : Int32))] [] υ := by
    intro υ rd hF hN h0
    refine z_for n (fun i τ => zZ G M_Course_open 6 X (fun r τ => r = none ∧ zFr FO σ τ ∧ CS τ n R ∧ ∃ rd, RN τ R rd) 90 [(0, zf G 1), (5, .int (nI i))] [] τ) (fun i τ => RF FR σ6 τ ∧ ∃ rd, RN τ R rd ∧ ∀ a, i ≤ a → rd a = 0) ?_ ?_ 0 υ (Nat.zero_le _) ⟨hF, rd, hN, fun a _ => h0 a⟩
    · intro i τ hi ⟨hF, rd, ⟨l, hD, hG⟩, h0⟩ ih
      have hS := S6.of hF
      refine b_Course_open_90 E (nI i) τ ⟨fun q => absurd q (by rw [hS.1]; exact nI_ge hi (by omega)), fun _ => ⟨_, s_Course_enterNext G τ n R i rd l hS hD (by omega) (by rw [h0 i (Nat.le_refl i)]; omega), fun σ1 ⟨k1, l', k2, k3⟩ => ?_⟩⟩
      have hN1 : RN σ1 R (rup rd i (rd i + 1)) := by
        refine ⟨l', k2, ?_⟩
        rw [k1.at (by decide)]
        refine GI.enter hS.2.2.2.2.2.2.1 hG (by omega) (fun u hu hz => ?_) k3
        have := (hG i (by omega)).1 u hu hz
        have := h0 i (Nat.le_refl i)
        omega
      refine ⟨_, s_Course_push G σ1 n R i _ (hS.of k1) hN1 (by omega), fun σ2 ⟨m1, rd2, m2, m3⟩ => ?_⟩
      rw [nI_1]
      refine ih σ2 ⟨(hF.tr k1).tr m1, rd2, m2, fun a ha => ?_⟩
      rw [m3 a (by omega)]
      unfold rup
      rw [if_neg (by omega)]
      exact h0 a (by omega)
    · intro τ ⟨hF, rd, hN, _⟩
      exact b_Course_open_90 E (nI n) τ ⟨fun _ => ⟨rfl, h6.tr (hF.zFr (by decide)), S6.of hF, rd, hN⟩, fun q => absurd (by rw [(S6.of hF).1]; exact nI_le (Nat.le_refl n) (by omega)) q⟩
  refine z_for n (fun i τ => zZ G M_Course_open 6 X (fun r τ => r = none ∧ zFr FO σ τ ∧ CS τ n R ∧ ∃ rd, RN τ R rd) 48 [(0, zf G 1), (5, .int (nI i))] [] τ) (fun _ τ => zFr [30] σ6 τ) ?_ ?_ 0 σ6 (Nat.zero_le _) zFr.rf
  · intro i τ hi hI ih
    refine b_Course_open_48 E (nI i) τ ⟨fun q => absurd q (by rw [hI 2 (by decide), S6.1]; exact nI_ge hi (by omega)), fun _ => ⟨vp_in_nI (by omega) (by decide), by rw [show (0 : Int32) = nI 0 from rfl, zi12]; exact vp_in_nI (by omega) (by decide), fun σ1 e1 => ?_⟩⟩
    rw [nI_1]
    refine ih σ1 ?_
    rw [e1]; exact hI.up (by decide)
  · intro τ hI
    refine b_Course_open_48 E (nI n) τ ⟨fun _ => two τ (fun _ => 0) ((RF.of hI (by decide)).mono (by decide)) ?_ (fun _ => rfl), fun q => absurd (by rw [hI 2 (by decide), S6.1]; exact nI_le (Nat.le_refl n) (by omega)) q⟩
    obtain ⟨l, hD, hG⟩ := N6
    refine ⟨l, ⟨fun a ha => by rw [hI 24 (by decide)]; exact hD.1 a ha, hD.2.1.of (fun c hc => hI c (fun h => by rw [List.mem_singleton.mp h] at hc; revert hc; decide)), hD.2.2⟩, ?_⟩
    rw [hI 13 (by decide)]
    exact hG
