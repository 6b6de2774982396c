-- The reference's act, exactly
theorem upd_same {f : Nat → Int32} {i : Nat} : upd f i (f i) = f := by
  funext j
  unfold upd
  by_cases h : j = i
  · rw [if_pos h, h]
  · rw [if_neg h]
theorem s_Mo_writer2 (G : zG) (σ : zSt) (n a : Nat) (x far : Int32) (hle : n ≤ 12) (ha : a < 12) (hx : AT σ far a n x) : zI G 0 M_Mo_writer [zf G 32, .int (nI a), .int x, .int far] σ (fun y τ => τ = σ ∧ ∃ b, y = nI b ∧ WR n (σ 54) (vb σ far a) x b) := by
  refine zSpec.of (by decide) (Nat.le_of_ble_eq_true rfl) rfl (fun X E => ?_)
  obtain ⟨b0, hb0, ht0, hv0⟩ := hx
  refine b_Mo_writer_0 E (nI a) x far σ ?_
  have body : ∀ i, i ≤ b0 → (∀ c, c < i → ¬ σ 54 c = 0 → ¬ vb σ far a c = x) → ((¬ σ 54 i = 0 → ¬ vb σ far a i = x) → zZ G M_Mo_writer 0 X (fun r τ => ∃ y : Int32, r = some (.int y) ∧ τ = σ ∧ ∃ b, y = nI b ∧ WR n (σ 54) (vb σ far a) x b) 3 [(0, zf G 32), (1, .int (nI a)), (2, .int x), (3, .int far), (4, .int (nI i + 1))] [] σ) → zZ G M_Mo_writer 0 X (fun r τ => ∃ y : Int32, r = some (.int y) ∧ τ = σ ∧ ∃ b, y = nI b ∧ WR n (σ 54) (vb σ far a) x b) 3 [(0, zf G 32), (1, .int (nI a)), (2, .int x), (3, .int far), (4, .int (nI i))] [] σ := by
    intro i hi hI nx
    have ii : vp_in (nI i) 12 := vp_in_nI (by omega) (by decide)
    have ci : (nI i).toNatClampNeg = i := nI_clamp (by omega)
    have cia : (((12 : Int32) * nI i) + nI a).toNatClampNeg = 12 * i + a := by rw [zi12']; exact nI_clamp (by omega)
    have fin : ¬ σ 54 i = 0 → vb σ far a i = x → ∃ y : Int32, some (Value.int (nI i)) = some (Value.int y) ∧ σ = σ ∧ ∃ b, y = nI b ∧ WR n (σ 54) (vb σ far a) x b := fun ht hv => ⟨_, rfl, rfl, i, rfl, by omega, ht, hv, hI⟩
    refine b_Mo_writer_3 E (nI a) x far (nI i) σ ⟨ii, fun h => nx (fun q => absurd (by rw [ci] at h; exact h) q), fun ht => ⟨ii, fun hf => ⟨fun h => fin (by rw [ci] at ht; exact ht) ?_, fun h => nx (fun _ => ?_)⟩, fun hf => ⟨by rw [zi12']; exact vp_in_nI (by omega) (by decide), fun h => fin (by rw [ci] at ht; exact ht) ?_, fun h => nx (fun _ => ?_)⟩⟩⟩
    · rw [ci] at h; unfold vb; rw [if_pos hf]; exact h
    · rw [ci] at h; unfold vb; rw [if_pos hf]; exact h
    · rw [ci, cia] at h; unfold vb; rw [if_neg hf]; exact h
    · rw [ci, cia] at h; unfold vb; rw [if_neg hf]; exact h
  refine z_for b0 (fun i (_ : Unit) => zZ G M_Mo_writer 0 X (fun r τ => ∃ y : Int32, r = some (.int y) ∧ τ = σ ∧ ∃ b, y = nI b ∧ WR n (σ 54) (vb σ far a) x b) 3 [(0, zf G 32), (1, .int (nI a)), (2, .int x), (3, .int far), (4, .int (nI i))] [] σ) (fun i _ => ∀ c, c < i → ¬ σ 54 c = 0 → ¬ vb σ far a c = x) ?_ ?_ 0 () (Nat.zero_le _) (fun c hc => absurd hc (Nat.not_lt_zero c))
  · intro i _ hi hI ih
    refine body i (by omega) hI (fun h => ?_)
    rw [nI_1]
    refine ih () (fun c hc => ?_)
    by_cases e : c = i
    · rw [e]; exact h
    · exact hI c (by omega)
  · intro _ hI
    exact body b0 (Nat.le_refl b0) hI (fun h => absurd hv0.symm (h ht0))
/-- what act leaves: the value and the parent at at_, and the answer -/
def AR (σ τ : zSt) (at_ : Nat) (w : Int32 × Int32 × Int32) (x : Int32) : Prop := zFr [47, 48] σ τ ∧ τ 47 = upd (σ 47) at_ w.1 ∧ τ 48 = upd (σ 48) at_ w.2.1 ∧ x = enc w.2.2
theorem AR0 {σ : zSt} {at_ : Nat} {w : Int32 × Int32 × Int32} {x y : Int32} (hw : w = (σ 47 at_, σ 48 at_, y)) (hx : x = enc y) : AR σ σ at_ w x := by
  rw [hw]; exact ⟨zFr.rf, upd_same.symm, upd_same.symm, hx⟩
theorem AR1 {σ τ : zSt} {at_ : Nat} {w : Int32 × Int32 × Int32} {x y v : Int32} (e : τ = zup σ 47 at_ v) (hw : w = (v, σ 48 at_, y)) (hx : x = enc y) : AR σ τ at_ w x := by
  rw [hw, e]
  exact ⟨zFr.rf.up (by decide), by rw [zup_self], by rw [zup_ne (by decide)]; exact upd_same.symm, hx⟩
theorem AR2 {σ τ υ : zSt} {at_ : Nat} {w : Int32 × Int32 × Int32} {x y v q : Int32} (e : τ = zup σ 47 at_ v) (e2 : υ = zup τ 48 at_ q) (hw : w = (v, q, y)) (hx : x = enc y) : AR σ υ at_ w x := by
  rw [hw, e2, e]
  exact ⟨(zFr.rf.up (by decide)).up (by decide), by rw [zup_ne (by decide), zup_self], by rw [zup_self, zup_ne (by decide)], hx⟩
theorem enc_of {x : Int32} (h : -1 ≤ x.toInt) : x = enc x := by unfold enc; rw [if_neg (ne_m2 h)]
section PACT
variable {p r a : Nat} {me : Bool} {mk : Int32} {len m : Nat → Int32} {v q : Int32}
theorem pAct_1 (h : r = 1) : pAct p r a me mk len m v q = (v, q, note1 p me mk) := by unfold pAct; rw [if_pos h]
theorem pAct_w (h : ¬ r = 1) (hp : p = 0) : pAct p r a me mk len m v q = wAct m v q := by unfold pAct; rw [if_neg h, if_pos hp]
theorem pAct_g (h : ¬ r = 1) (hp : p = 1) : pAct p r a me mk len m v q = gAct m v q := by unfold pAct; rw [if_neg h, if_neg (by omega), if_pos hp]
theorem pAct_i (h : ¬ r = 1) (hp : p = 2) (h2 : r % 2 = 0) : pAct p r a me mk len m v q = iAct m mk a v q := by unfold pAct; rw [if_neg h, if_neg (by omega), if_neg (by omega), if_pos hp, if_pos h2]
theorem pAct_o (h : ¬ r = 1) (hp : p = 2) (h2 : ¬ r % 2 = 0) : pAct p r a me mk len m v q = oAct m mk v q := by unfold pAct; rw [if_neg h, if_neg (by omega), if_neg (by omega), if_pos hp, if_neg h2]
theorem pAct_l (h : ¬ r = 1) (hp : p = 3) : pAct p r a me mk len m v q = lAct m len v q := by unfold pAct; rw [if_neg h, if_neg (by omega), if_neg (by omega), if_neg (by omega)]
end PACT
theorem rem2 : ∀ r, r < 21 → ((nI r - nI r / (2 : Int32) * (2 : Int32) = 0) ↔ r % 2 = 0) := by decide +kernel
set_option maxHeartbeats 1000000 in
theorem s_Mo_act2 (G : zG) (σ : zSt) (n at_ a r p : Nat) (m len : Nat → Int32) (hn : σ 32 0 = nI n) (hle : n ≤ 12) (hat : at_ < 24) (ha : a < 12) (hr1 : 1 ≤ r) (hr2 : r ≤ 20) (hM : LM σ) (hp : σ 32 5 = nI p) (hp3 : p ≤ 3) (hT : NT n (100 + 10 * ((r - 1 : Nat) : Int)) (σ 54) (σ 55) m) (hl : ∀ b, b < n → len b = σ 33 (12 * b + a)) (h1 : r = 1 → (∀ b, b < n → σ 54 b = 0) ∧ (p = 1 → σ 47 at_ = σ 34 a) ∧ (p = 2 → σ 47 at_ = 0)) (hq : p = 0 → ∀ b c, b < 12 → c < 12 → ¬ m b = -2 → ¬ m c = -2 → m b = m c) :
    zI G 1 M_Mo_act [zf G 32, .int (nI at_), .int (nI a), .int (nI r)] σ (fun x τ => AR σ τ at_ (pAct p r a (decide (nI a = σ 32 7)) (σ 34 a) len m (σ 47 at_) (σ 48 at_)) x) := by
  have i1 : vp_in (nI at_) 24 := vp_in_nI hat (by decide)
  have ia : vp_in (nI a) 12 := vp_in_nI ha (by decide)
  have c1 : (nI at_).toNatClampNeg = at_ := nI_clamp (by omega)
  have ca : (nI a).toNatClampNeg = a := nI_clamp (by omega)
  have hma := hM.2 a ha
  have z0 : (0 : Int32).toInt = 0 := by decide
  have z1 : (1 : Int32).toInt = 1 := by decide
  have zm1 : (-1 : Int32).toInt = -1 := by decide
  have pz : ∀ k : Nat, k < 4 → (σ 32 5 = nI k ↔ p = k) := fun k hk => by rw [hp]; exact nI_eq (by omega) (by omega)
  have p0 : σ 32 5 = 0 ↔ p = 0 := pz 0 (by decide)
  have p1 : σ 32 5 = 1 ↔ p = 1 := pz 1 (by decide)
  have p2 : σ 32 5 = 2 ↔ p = 2 := pz 2 (by decide)
  have p3 : σ 32 5 = 3 ↔ p = 3 := pz 3 (by decide)
  have hr : nI r = 1 ↔ r = 1 := nI_eq (a := r) (b := 1) (by omega) (by decide)
  have rm := rem2 r (by omega)
  generalize hW : pAct p r a (decide (nI a = σ 32 7)) (σ 34 a) len m (σ 47 at_) (σ 48 at_) = W
  refine zSpec.of (by decide) (Nat.le_of_ble_eq_true rfl) rfl (fun X E => ?_)
  have encmk : σ 34 a = enc (σ 34 a) := enc_of (by omega)
  have enc2 : (-1000 : Int32) = enc (-2) := rfl
  -- what a note is worth is small
  have hvb : ∀ far b, b < n → ¬ σ 54 b = 0 → -1 ≤ (vb σ far a b).toInt ∧ (vb σ far a b).toInt ≤ 99 + 10 * (r : Int) := by
    intro far b hb ht
    obtain ⟨_, g1, g2⟩ := (hT b (by omega)).1 ⟨hb, ht⟩
    have h3 := hM.1 (12 * b + a) (by omega)
    unfold vb
    by_cases hf : far = 0
    · rw [if_pos hf, i32_add (by omega) (by rw [z0]; decide), z0]
      omega
    · rw [if_neg hf, i32_add (by omega) (by omega)]
      omega
  have wr : ∀ (far x v : Int32) (σ1 : zSt), σ1 = zup σ 47 at_ v → (∃ b, b < n ∧ ¬ σ 54 b = 0 ∧ vb σ far a b = x) → AT σ1 far a n x := by
    rintro far x v σ1 e1 ⟨b, hb, h1, h2⟩
    refine ⟨b, hb, by rw [e1, zup_ne (by decide)]; exact h1, ?_⟩
    rw [← h2]; unfold vb; rw [e1, zup_ne (by decide), zup_ne (by decide)]
  have wr2 : ∀ (far x v : Int32) (σ1 : zSt) (b : Nat), σ1 = zup σ 47 at_ v → WR n (σ1 54) (vb σ1 far a) x b → WR n (σ 54) (vb σ far a) x b := by
    intro far x v σ1 b e1 h
    have q1 : σ1 54 = σ 54 := by rw [e1, zup_ne (by decide)]
    have q2 : vb σ1 far a = vb σ far a := by funext c; unfold vb; rw [e1, zup_ne (by decide), zup_ne (by decide)]
    rw [q1, q2] at h; exact h
  -- behind the loop
  have last : ∀ (far le mo ri : Int32) (sm : Int32), LMR n (σ 54) (vb σ far a) (σ 34 a) a le mo ri → ((sm = 0 → mo ≤ -2000) ∧ (¬ sm = 0 → ¬ mo ≤ -2000)) → (p = 3 → ¬ far = 0) → (¬ p = 3 → far = 0) →
      zZ G M_Mo_act 1 X (fun rr τ => ∃ x : Int32, rr = some (.int x) ∧ AR σ τ at_ W x) 174 [(0, zf G 32), (1, .int (nI at_)), (2, .int (nI a)), (3, .int (nI r)), (4, .int far), (5, .int le), (6, .int mo), (7, .int ri), (8, .int sm)] [] σ := by
    intro far le mo ri sm hL hsm hf3 hf0
    have hu0 : ¬ p = 3 → ∀ b, vb σ far a b = σ 55 b := fun h b => by unfold vb; rw [if_pos (hf0 h), Int32.add_zero]
    have hu3 : p = 3 → ∀ b, b < n → vb σ far a b = σ 55 b + len b := fun h b hb => by unfold vb; rw [if_neg (hf3 h), hl b hb]
    have hub : ∀ b, b < n → ¬ σ 54 b = 0 → -2000 < (vb σ far a b).toInt := fun b hb ht => by have := hvb far b hb ht; omega
    have some_ : ¬ sm = 0 → (∃ b, b < n ∧ ¬ σ 54 b = 0 ∧ vb σ far a b = le) ∧ (∃ b, b < n ∧ ¬ σ 54 b = 0 ∧ vb σ far a b = mo) := fun h => some_of hL (hsm.2 h)
    have none_ : sm = 0 → ∀ b, b < n → σ 54 b = 0 := fun h => none_of hL hub (hsm.1 h)
    have bd : ∀ x, (∃ b, b < n ∧ ¬ σ 54 b = 0 ∧ vb σ far a b = x) → -1 ≤ x.toInt ∧ x.toInt ≤ 99 + 10 * (r : Int) := by
      rintro x ⟨b, hb, h1, rfl⟩
      exact hvb far b hb h1
    have take0 : W = (σ 47 at_, σ 48 at_, -2) → zZ G M_Mo_act 1 X (fun rr τ => ∃ x : Int32, rr = some (.int x) ∧ AR σ τ at_ W x) 382 [(0, zf G 32), (1, .int (nI at_)), (2, .int (nI a)), (4, .int far), (5, .int le), (6, .int mo), (9, .int (0 : Int32))] [] σ := fun h => b_Mo_act_382 E (nI at_) (nI a) far le mo 0 σ ⟨fun q => absurd rfl q, fun _ => ⟨_, rfl, AR0 h enc2⟩⟩
    have take1 : ¬ r = 1 → ¬ p = 2 → ¬ sm = 0 → (p = 1 → ¬ mo ≤ σ 47 at_) → (p = 0 → σ 47 at_ = -2) → (p = 3 → σ 47 at_ = -2 ∨ ¬ σ 47 at_ ≤ le) → zZ G M_Mo_act 1 X (fun rr τ => ∃ x : Int32, rr = some (.int x) ∧ AR σ τ at_ W x) 382 [(0, zf G 32), (1, .int (nI at_)), (2, .int (nI a)), (4, .int far), (5, .int le), (6, .int mo), (9, .int (1 : Int32))] [] σ := by
      intro hr1 hp2 hs k1 k0 k3
      obtain ⟨s1, s2⟩ := some_ hs
      refine b_Mo_act_382 E (nI at_) (nI a) far le mo 1 σ ⟨fun _ => ⟨fun hne => ⟨i1, fun σ1 e1 => ?_⟩, fun he => ⟨i1, fun σ1 e1 => ?_⟩⟩, fun h => absurd h (by decide)⟩
      · rw [c1] at e1
        refine ⟨_, s_Mo_writer2 G σ1 n a le far hle ha (wr far le _ σ1 e1 s1), ?_⟩
        rintro x3 σ2 ⟨e2, b, rfl, hw⟩
        have hw := wr2 far le _ σ1 b e1 hw
        refine ⟨i1, fun σ4 e4 => ?_⟩
        rw [c1, e2] at e4
        have e45 : σ4 32 5 = σ 32 5 := by rw [e4, zup_ne (by decide), e1, zup_ne (by decide)]
        rw [e45]
        have hb := bd le s1
        refine ⟨fun hz => ⟨_, rfl, AR2 e1 e4 (y := le) ?_ (enc_of hb.1)⟩, fun hz => ⟨_, rfl, AR2 e1 e4 (y := le + 1) ?_ (enc_of ?_)⟩⟩
        · have q1 : ¬ p = 1 := fun h => hne (p1.mpr h)
          have q0 : ¬ p = 0 := fun h => hz (p0.mpr h)
          have q3 : p = 3 := by omega
          rw [← hW, pAct_l hr1 q3]
          exact lAct_1 hle hT (hu3 q3) hL hw (ne_m2 hb.1) (k3 q3)
        · have q0 := p0.mp hz
          rw [← hW, pAct_w hr1 q0]
          exact wAct_1 hle hT (hu0 (by omega)) (hq q0) hw (k0 q0)
        · rw [i32_add (by omega) (by rw [z1]; decide), z1]; omega
      · rw [c1] at e1
        refine ⟨_, s_Mo_writer2 G σ1 n a mo far hle ha (wr far mo _ σ1 e1 s2), ?_⟩
        rintro x3 σ2 ⟨e2, b, rfl, hw⟩
        have hw := wr2 far mo _ σ1 b e1 hw
        refine ⟨i1, fun σ4 e4 => ?_⟩
        rw [c1, e2] at e4
        have e45 : σ4 32 5 = σ 32 5 := by rw [e4, zup_ne (by decide), e1, zup_ne (by decide)]
        rw [e45]
        have hb := bd mo s2
        have q1 := p1.mp he
        refine ⟨fun hz => ⟨_, rfl, AR2 e1 e4 (y := mo) ?_ (enc_of hb.1)⟩, fun hz => absurd (p0.mp hz) (by omega)⟩
        rw [← hW, pAct_g hr1 q1]
        exact gAct_1 hle hT (hu0 (by omega)) hL hw (k1 q1)
    have no : ¬ r = 1 → ¬ p = 2 → sm = 0 → W = (σ 47 at_, σ 48 at_, -2) := by
      intro hr1 hp2 hs
      have hm := m_none hT (none_ hs)
      rw [← hW]
      rcases (show p = 0 ∨ p = 1 ∨ p = 3 by omega) with h | h | h
      · rw [pAct_w hr1 h]; exact wAct_0 (Or.inr hm)
      · rw [pAct_g hr1 h]; exact gAct_0 (fun b hb => Or.inl (hm b hb))
      · rw [pAct_l hr1 h]; exact lAct_0 (fun b hb => Or.inl (hm b hb))
    refine b_Mo_act_174 E (nI at_) (nI a) (nI r) far le mo ri sm σ ⟨fun hp2 => ⟨fun hr1 => ⟨fun hs => take0 (no (fun h => hr1 (hr.mpr h)) (fun h => hp2 (p2.mpr h)) hs), fun hs => ⟨fun hne => ⟨i1, fun hv => ?_, fun hv => ⟨fun hf => ?_, fun hf => ⟨i1, fun hv2 => ?_, fun hv2 => ?_⟩⟩⟩, fun he => ⟨i1, fun hv => ?_, fun hv => ?_⟩⟩⟩, fun hr1 => ⟨fun hne => ⟨fun hsrc => ⟨fun hz => ⟨_, rfl, AR0 (y := 0) ?_ rfl⟩, fun hz => ⟨_, rfl, AR0 (y := 1) ?_ rfl⟩⟩, fun hsrc => ⟨_, rfl, AR0 ?_ enc2⟩⟩, fun he => ⟨i1, _, rfl, AR0 (y := σ 34 a) ?_ ?_⟩⟩⟩, fun hp2 => ⟨i1, fun hv => ⟨fun hodd => ⟨fun hs => ⟨ia, _, rfl, AR0 (y := σ 34 a) ?_ (by rw [ca]; exact encmk)⟩, fun hs => ⟨fun hm1 => ⟨ia, _, rfl, AR0 (y := σ 34 a) ?_ (by rw [ca]; exact encmk)⟩, fun hm1 => ⟨i1, fun σ1 e1 => ?_⟩⟩⟩, fun hev => ⟨fun hri => ⟨i1, fun σ5 e5 => ⟨fun _ => ⟨_, rfl, AR1 (v := 1) (y := -1) (by rw [c1] at e5; exact e5) ?_ rfl⟩, fun q => absurd hri q⟩⟩, fun hri => ⟨i1, fun σ6 e6 => ⟨fun q => absurd q hri, fun _ => ⟨_, rfl, AR1 (v := 0) (by rw [c1] at e6; exact e6) ?_ enc2⟩⟩⟩⟩⟩, fun hv => ⟨_, rfl, AR0 ?_ enc2⟩⟩⟩
    · -- value NONE: takes
      rw [c1] at hv
      exact take1 (fun h => hr1 (hr.mpr h)) (fun h => hp2 (p2.mpr h)) hs (fun h => absurd (p1.mpr h) hne) (fun _ => hv) (fun _ => Or.inl hv)
    · -- not far
      rw [c1] at hv
      refine take0 ?_
      have hr1 : ¬ r = 1 := fun h => hr1 (hr.mpr h)
      have q2 : ¬ p = 2 := fun h => hp2 (p2.mpr h)
      have q1 : ¬ p = 1 := fun h => hne (p1.mpr h)
      have q3 : ¬ p = 3 := fun h => hf3 h hf
      rw [← hW, pAct_w hr1 (by omega)]
      exact wAct_0 (Or.inl hv)
    · rw [c1] at hv hv2
      refine take0 ?_
      have hr1 : ¬ r = 1 := fun h => hr1 (hr.mpr h)
      have q3 : p = 3 := by
        by_cases h : p = 3
        · exact h
        · exact absurd (hf0 h) hf
      rw [← hW, pAct_l hr1 q3]
      exact lAct_2 hT (hu3 q3) hL hv hv2
    · rw [c1] at hv hv2
      have q3 : p = 3 := by
        by_cases h : p = 3
        · exact h
        · exact absurd (hf0 h) hf
      exact take1 (fun h => hr1 (hr.mpr h)) (by omega) hs (fun h => by omega) (fun h => by omega) (fun _ => Or.inr hv2)
    · rw [c1] at hv
      refine take0 ?_
      have hr1 : ¬ r = 1 := fun h => hr1 (hr.mpr h)
      have q1 := p1.mp he
      rw [← hW, pAct_g hr1 q1]
      refine gAct_0 (fun b hb => ?_)
      by_cases hcc : b < n ∧ ¬ σ 54 b = 0
      · obtain ⟨k1, _⟩ := (hT b hb).1 hcc
        refine Or.inr (Int32.le_trans ?_ hv)
        rw [k1, ← hu0 (by omega) b]
        exact (hL.2.1 b hcc.1 hcc.2).2
      · exact Or.inl ((hT b hb).2 hcc)
    · rw [c1] at hv
      exact take1 (fun h => hr1 (hr.mpr h)) (fun h => hp2 (p2.mpr h)) hs (fun _ => hv) (fun h => absurd (p1.mp he) (by omega)) (fun h => absurd (p1.mp he) (by omega))
    · -- round 1
      have q0 : ¬ p = 0 := fun h => hz (p0.mpr h)
      have q1 : ¬ p = 1 := fun h => hne (p1.mpr h)
      have q2 : ¬ p = 2 := fun h => hp2 (p2.mpr h)
      rw [← hW, pAct_1 (hr.mp hr1)]
      unfold note1
      rw [if_neg q0, if_pos (by omega), if_pos (decide_eq_true hsrc)]
    · rw [← hW, pAct_1 (hr.mp hr1)]
      unfold note1
      rw [if_pos (p0.mp hz), if_pos (decide_eq_true hsrc)]
    · have q1 : ¬ p = 1 := fun h => hne (p1.mpr h)
      have q2 : ¬ p = 2 := fun h => hp2 (p2.mpr h)
      rw [← hW, pAct_1 (hr.mp hr1)]
      unfold note1
      rw [decide_eq_false hsrc]
      by_cases q0 : p = 0
      · rw [if_pos q0]; rfl
      · rw [if_neg q0, if_pos (by omega)]; rfl
    · have q1 := p1.mp he
      rw [← hW, pAct_1 (hr.mp hr1)]
      unfold note1
      rw [if_neg (by omega), if_neg (by omega)]
    · rw [c1, (h1 (hr.mp hr1)).2.1 (p1.mp he)]; exact encmk
    · -- CHOICE, odd, no notes
      have q2 := p2.mp hp2
      rw [c1] at hv
      rw [← hW]
      by_cases hr1 : r = 1
      · rw [pAct_1 hr1]
        unfold note1
        rw [if_neg (by omega), if_neg (by omega)]
      · rw [pAct_o hr1 q2 (fun h => hodd (rm.mpr h))]
        refine oAct_1 hv (fun b hb => ?_)
        rw [m_none hT (none_ hs) b hb]; decide
    · have q2 := p2.mp hp2
      rw [c1] at hv
      rw [← hW]
      by_cases hr1 : r = 1
      · rw [pAct_1 hr1]
        unfold note1
        rw [if_neg (by omega), if_neg (by omega)]
      · rw [pAct_o hr1 q2 (fun h => hodd (rm.mpr h))]
        exact oAct_1 hv (no_m1 hT (hu0 (by omega)) hL (Or.inr hm1) (Or.inr (some_ hs).1) hle)
    · have q2 := p2.mp hp2
      rw [c1] at hv e1
      have hfar := hf0 (by omega)
      have s1 := (some_ hs).1
      rw [hm1, hfar] at s1
      refine ⟨_, s_Mo_writer2 G σ1 n a (-1) 0 hle ha (wr 0 (-1) _ σ1 e1 s1), ?_⟩
      rintro x3 σ2 ⟨e2, b, rfl, hw⟩
      have hw := wr2 0 (-1) _ σ1 b e1 hw
      refine ⟨i1, fun σ4 e4 => ⟨_, rfl, AR2 (v := 2) e1 (by rw [c1, e2] at e4; exact e4) ?_ enc2⟩⟩
      have hr1 : ¬ r = 1 := fun h => by
        obtain ⟨b, hb, h2, _⟩ := s1
        exact h2 ((h1 h).1 b hb)
      rw [← hW, pAct_o hr1 q2 (fun h => hodd (rm.mpr h))]
      exact oAct_2 hle hT (u := vb σ 0 a) (fun b => by unfold vb; rw [if_pos rfl, Int32.add_zero]) hv hw
    · have q2 := p2.mp hp2
      rw [c1] at hv
      have hev := rm.mp hev
      rw [← hW, pAct_i (by omega) q2 hev]
      exact iAct_1 hv ((rv_iff hT (hu0 (by omega)) hle hL).mp hri)
    · have q2 := p2.mp hp2
      rw [c1] at hv
      have hev := rm.mp hev
      rw [← hW, pAct_i (by omega) q2 hev, iAct_2 hv (fun h => hri ((rv_iff hT (hu0 (by omega)) hle hL).mpr h)), hv]
    · have q2 := p2.mp hp2
      rw [c1] at hv
      have hr1 : ¬ r = 1 := fun h => hv ((h1 h).2.2 q2)
      rw [← hW]
      by_cases h2 : r % 2 = 0
      · rw [pAct_i hr1 q2 h2]; exact iAct_0 hv
      · rw [pAct_o hr1 q2 h2]; exact oAct_0 hv
  -- the loop
  have loop : ∀ far : Int32, (p = 3 → ¬ far = 0) → (¬ p = 3 → far = 0) → zZ G M_Mo_act 1 X (fun rr τ => ∃ x : Int32, rr = some (.int x) ∧ AR σ τ at_ W x) 31 [(0, zf G 32), (1, .int (nI at_)), (2, .int (nI a)), (3, .int (nI r)), (4, .int far), (5, .int (2000 : Int32)), (6, .int (-2000 : Int32)), (7, .int (0 : Int32)), (8, .int (0 : Int32))] [] σ := by
    intro far hf3 hf0
    refine z_for n (fun i (q : Int32 × Int32 × Int32) => zZ G M_Mo_act 1 X (fun rr τ => ∃ x : Int32, rr = some (.int x) ∧ AR σ τ at_ W x) 31 [(0, zf G 32), (1, .int (nI at_)), (2, .int (nI a)), (3, .int (nI r)), (4, .int far), (5, .int q.1), (6, .int q.2.1), (7, .int q.2.2), (8, .int (nI i))] [] σ) (fun i q => LMR i (σ 54) (vb σ far a) (σ 34 a) a q.1 q.2.1 q.2.2) ?_ ?_ 0 (2000, -2000, 0) (Nat.zero_le _) LMR_0
    · intro i ⟨le, mo, ri⟩ hi hI ih
      dsimp only at hI ih ⊢
      have ii : vp_in (nI i) 12 := vp_in_nI (by omega) (by decide)
      have ci : (nI i).toNatClampNeg = i := nI_clamp (by omega)
      have cia : (((12 : Int32) * nI i) + nI a).toNatClampNeg = 12 * i + a := by rw [zi12']; exact nI_clamp (by omega)
      -- the note of node i is looked at
      have see : ∀ v : Int32, ¬ σ 54 i = 0 → v = vb σ far a i → ∀ le' mo' : Int32, ((le' = v ∧ ¬ le ≤ v) ∨ (le' = le ∧ le ≤ v)) → ((mo' = v ∧ ¬ v ≤ mo) ∨ (mo' = mo ∧ v ≤ mo)) → zZ G M_Mo_act 1 X (fun rr τ => ∃ x : Int32, rr = some (.int x) ∧ AR σ τ at_ W x) 113 [(0, zf G 32), (1, .int (nI at_)), (2, .int (nI a)), (3, .int (nI r)), (4, .int far), (5, .int le'), (6, .int mo'), (7, .int ri), (8, .int (nI i)), (9, .int v)] [] σ := by
        intro v ht hv le' mo' hl hm
        have hb := hvb far i hi ht
        have nx : ∀ g : Int32, (¬ g = 0 ↔ (¬ ri = 0 ∨ σ 34 a < v ∨ (v = σ 34 a ∧ a < i))) → zZ G M_Mo_act 1 X (fun rr τ => ∃ x : Int32, rr = some (.int x) ∧ AR σ τ at_ W x) 31 [(0, zf G 32), (1, .int (nI at_)), (2, .int (nI a)), (3, .int (nI r)), (4, .int far), (5, .int le'), (6, .int mo'), (7, .int g), (8, .int (nI i + 1))] [] σ := by
          intro g hg
          rw [nI_1]
          rw [hv] at hl hm hg
          exact ih (le', mo', g) (LMR_take hI ht (by omega) hl hm hg)
        have one : ∀ h : (¬ ri = 0 ∨ σ 34 a < v ∨ (v = σ 34 a ∧ a < i)), (¬ (1 : Int32) = 0 ↔ (¬ ri = 0 ∨ σ 34 a < v ∨ (v = σ 34 a ∧ a < i))) := fun h => ⟨fun _ => h, fun _ => by decide⟩
        have zero : ∀ h : ¬ (¬ ri = 0 ∨ σ 34 a < v ∨ (v = σ 34 a ∧ a < i)), (¬ (0 : Int32) = 0 ↔ (¬ ri = 0 ∨ σ 34 a < v ∨ (v = σ 34 a ∧ a < i))) := fun h => ⟨fun q => absurd rfl q, fun q => absurd q h⟩
        refine b_Mo_act_113 E (nI at_) (nI a) (nI r) far le' mo' ri (nI i) v σ ?_
        rw [ca, nI_leI (a := i) (b := a) (by omega) (by omega)]
        refine ⟨fun h7 => nx 1 (one (Or.inl h7)), fun h7 => ⟨ia, fun h => nx 1 (one (Or.inr (Or.inl h))), fun h => ⟨ia, fun h2 => nx 0 (zero ?_), fun h2 => ⟨fun h3 => nx 0 (zero ?_), fun h3 => nx 1 (one (Or.inr (Or.inr ⟨h2, by omega⟩)))⟩⟩⟩⟩
        · rintro (q | q | q)
          · exact q h7
          · exact h q
          · exact h2 q.1
        · rintro (q | q | q)
          · exact q h7
          · exact h q
          · omega
      refine b_Mo_act_31 E (nI at_) (nI a) (nI r) far le mo ri (nI i) σ ⟨fun q => absurd q (by rw [hn]; exact nI_ge hi (by omega)), fun _ => ⟨ii, fun h54 => ?_, fun ht => ⟨ii, fun hf => ?_, fun hf => ⟨by rw [zi12']; exact vp_in_nI (by omega) (by decide), ?_⟩⟩⟩⟩
      · rw [nI_1]
        exact ih (le, mo, ri) (LMR_skip hI (by rw [ci] at h54; exact h54))
      · rw [ci] at ht ⊢
        have hv : σ 55 i + (0 : Int32) = vb σ far a i := by unfold vb; rw [if_pos hf]
        exact ⟨fun h1 => ⟨fun h2 => see _ ht hv _ _ (Or.inr ⟨rfl, h1⟩) (Or.inr ⟨rfl, h2⟩), fun h2 => see _ ht hv _ _ (Or.inr ⟨rfl, h1⟩) (Or.inl ⟨rfl, h2⟩)⟩, fun h1 => ⟨fun h2 => see _ ht hv _ _ (Or.inl ⟨rfl, h1⟩) (Or.inr ⟨rfl, h2⟩), fun h2 => see _ ht hv _ _ (Or.inl ⟨rfl, h1⟩) (Or.inl ⟨rfl, h2⟩)⟩⟩
      · rw [ci] at ht ⊢
        rw [cia]
        have hv : σ 55 i + σ 33 (12 * i + a) = vb σ far a i := by unfold vb; rw [if_neg hf]
        exact ⟨fun h1 => ⟨fun h2 => see _ ht hv _ _ (Or.inr ⟨rfl, h1⟩) (Or.inr ⟨rfl, h2⟩), fun h2 => see _ ht hv _ _ (Or.inr ⟨rfl, h1⟩) (Or.inl ⟨rfl, h2⟩)⟩, fun h1 => ⟨fun h2 => see _ ht hv _ _ (Or.inl ⟨rfl, h1⟩) (Or.inr ⟨rfl, h2⟩), fun h2 => see _ ht hv _ _ (Or.inl ⟨rfl, h1⟩) (Or.inl ⟨rfl, h2⟩)⟩⟩
    · intro ⟨le, mo, ri⟩ hI
      dsimp only at hI ⊢
      exact b_Mo_act_31 E (nI at_) (nI a) (nI r) far le mo ri (nI n) σ ⟨fun _ => ⟨fun hmo => last far le mo ri 0 hI ⟨fun _ => hmo, fun q => absurd rfl q⟩ hf3 hf0, fun hmo => last far le mo ri 1 hI ⟨fun q => absurd q (by decide), fun _ => hmo⟩ hf3 hf0⟩, fun q => absurd (by rw [hn]; exact nI_le (Nat.le_refl n) (by omega)) q⟩
  exact b_Mo_act_0 E (nI at_) (nI a) (nI r) σ ⟨fun h3 => loop 0 (fun h => absurd (p3.mpr h) h3) (fun _ => rfl), fun h3 => loop 1 (fun _ => by decide) (fun h => absurd (p3.mp h3) h)⟩
