-- The reference: what a node does in a round
theorem i32_add {x y : Int32} (hx : -100000 ≤ x.toInt ∧ x.toInt ≤ 100000) (hy : -100000 ≤ y.toInt ∧ y.toInt ≤ 100000) : (x + y).toInt = x.toInt + y.toInt := by
  rw [Int32.toInt_add]
  exact Int.bmod_eq_of_le (by omega) (by omega)
theorem i32_le {x y : Int32} : x ≤ y ↔ x.toInt ≤ y.toInt := Int32.le_iff_toInt_le
theorem i32_lt {x y : Int32} : x < y ↔ x.toInt < y.toInt := Int32.lt_iff_toInt_lt
/-- a number that a NOTE of round r may bear -/
def NB (r : Nat) (x : Int32) : Prop := -2 ≤ x.toInt ∧ x.toInt ≤ 100 + 10 * (r : Int)
/-- lengths and marks are as the document has them -/
def LM (σ : zSt) : Prop := (∀ i, i < 144 → 0 ≤ (σ 33 i).toInt ∧ (σ 33 i).toInt ≤ 9) ∧ (∀ a, a < 12 → 0 ≤ (σ 34 a).toInt ∧ (σ 34 a).toInt ≤ 99)
theorem LM.of {σ τ : zSt} (h : LM σ) (e1 : τ 33 = σ 33) (e2 : τ 34 = σ 34) : LM τ := ⟨fun i hi => by rw [e1]; exact h.1 i hi, fun a ha => by rw [e2]; exact h.2 a ha⟩
theorem s_Mo_first (G : zG) (σ : zSt) (at_ a : Nat) (hat : at_ < 24) (ha : a < 12) (hM : LM σ) : zV G 0 M_Mo_first [zf G 32, .int (nI at_), .int (nI a)] σ (fun τ => zFr [47, 48] σ τ ∧ (-2 ≤ (τ 47 at_).toInt ∧ (τ 47 at_).toInt ≤ 99) ∧ ∀ j, j ≠ at_ → τ 47 j = σ 47 j) := by
  refine zSpec.of (by decide) (Nat.le_of_ble_eq_true rfl) rfl (fun X E => ?_)
  have i1 : vp_in (nI at_) 24 := vp_in_nI hat (by decide)
  have ia : vp_in (nI a) 12 := vp_in_nI ha (by decide)
  have c1 : (nI at_).toNatClampNeg = at_ := nI_clamp (by omega)
  have ca : (nI a).toNatClampNeg = a := nI_clamp (by omega)
  have fin : ∀ (v w : Int32) (σ1 σ2 : zSt), (-2 ≤ v.toInt ∧ v.toInt ≤ 99) → σ1 = zup σ 47 (nI at_).toNatClampNeg v → σ2 = zup σ1 48 (nI at_).toNatClampNeg w → (none : Option Value) = none ∧ zFr [47, 48] σ σ2 ∧ (-2 ≤ (σ2 47 at_).toInt ∧ (σ2 47 at_).toInt ≤ 99) ∧ ∀ j, j ≠ at_ → σ2 47 j = σ 47 j := by
    intro v w σ1 σ2 hv e1 e2
    rw [c1] at e1
    have e47 : σ2 47 = upd (σ 47) at_ v := by rw [e2, zup_ne (by decide), e1, zup_self]
    refine ⟨rfl, by rw [e2, e1]; exact (zFr.rf.up (by decide)).up (by decide), ?_, fun j hj => ?_⟩
    · rw [e47]; simp only [upd, if_true]; exact hv
    · rw [e47]; simp only [upd, if_neg hj]
  have h2 : (-2 : Int32).toInt = -2 := by decide
  have h0 : (0 : Int32).toInt = 0 := by decide
  have hm := hM.2 a ha
  exact b_Mo_first_0 E (nI at_) (nI a) σ ⟨fun _ => ⟨fun _ => ⟨fun _ => ⟨i1, fun σ1 e1 => ⟨i1, fun σ2 e2 => fin _ _ σ1 σ2 (by rw [h2]; decide) e1 e2⟩⟩, fun _ => ⟨i1, fun σ1 e1 => ⟨i1, fun σ2 e2 => fin _ _ σ1 σ2 (by rw [h0]; decide) e1 e2⟩⟩⟩, fun _ => ⟨i1, fun σ1 e1 => ⟨i1, fun σ2 e2 => fin _ _ σ1 σ2 (by rw [h0]; decide) e1 e2⟩⟩⟩, fun _ => ⟨ia, i1, fun σ1 e1 => ⟨i1, fun σ2 e2 => fin _ _ σ1 σ2 (by rw [ca]; omega) e1 e2⟩⟩⟩
/-- what node b's note is worth to node a -/
def vb (σ : zSt) (far : Int32) (a b : Nat) : Int32 := σ 55 b + (if far = 0 then 0 else σ 33 (12 * b + a))
def AT (σ : zSt) (far : Int32) (a i : Nat) (x : Int32) : Prop := ∃ b, b < i ∧ ¬ σ 54 b = 0 ∧ x = vb σ far a b
theorem s_Mo_writer (G : zG) (σ : zSt) (n a : Nat) (x far : Int32) (hle : n ≤ 12) (ha : a < 12) (hx : AT σ far a n x) : zI G 0 M_Mo_writer [zf G 32, .int (nI a), .int x, .int far] σ (fun _ τ => τ = σ) := by
  refine zSpec.of (by decide) (Nat.le_of_ble_eq_true rfl) rfl (fun X E => ?_)
  obtain ⟨b0, hb0, ht, hv⟩ := hx
  refine b_Mo_writer_0 E (nI a) x far σ ?_
  refine z_for b0 (fun i (_ : Unit) => zZ G M_Mo_writer 0 X (fun r τ => ∃ x : Int32, r = some (.int x) ∧ τ = σ) 3 [(0, zf G 32), (1, .int (nI a)), (2, .int x), (3, .int far), (4, .int (nI i))] [] σ) (fun _ _ => True) ?_ ?_ 0 () (Nat.zero_le _) trivial
  · intro i _ hi _ ih
    have ii : vp_in (nI i) 12 := vp_in_nI (by omega) (by decide)
    have nx : zZ G M_Mo_writer 0 X (fun r τ => ∃ x : Int32, r = some (.int x) ∧ τ = σ) 3 [(0, zf G 32), (1, .int (nI a)), (2, .int x), (3, .int far), (4, .int (nI i + 1))] [] σ := by rw [nI_1]; exact ih () trivial
    exact b_Mo_writer_3 E (nI a) x far (nI i) σ ⟨ii, fun _ => nx, fun _ => ⟨ii, fun _ => ⟨fun _ => ⟨_, rfl, rfl⟩, fun _ => nx⟩, fun _ => ⟨by rw [zi12']; exact vp_in_nI (by omega) (by decide), fun _ => ⟨_, rfl, rfl⟩, fun _ => nx⟩⟩⟩
  · intro _ _
    have ib : vp_in (nI b0) 12 := vp_in_nI (by omega) (by decide)
    have cb : (nI b0).toNatClampNeg = b0 := nI_clamp (by omega)
    have cba : (((12 : Int32) * nI b0) + nI a).toNatClampNeg = 12 * b0 + a := by rw [zi12']; exact nI_clamp (by omega)
    refine b_Mo_writer_3 E (nI a) x far (nI b0) σ ⟨ib, fun q => absurd (by rw [cb] at q; exact q) ht, fun _ => ⟨ib, fun hf => ⟨fun _ => ⟨_, rfl, rfl⟩, fun q => ?_⟩, fun hf => ⟨by rw [zi12']; exact vp_in_nI (by omega) (by decide), fun _ => ⟨_, rfl, rfl⟩, fun q => ?_⟩⟩⟩
    · exfalso; apply q; rw [cb, hv]; simp only [vb, if_pos hf]
    · exfalso; apply q; rw [cb, cba, hv]; simp only [vb, if_neg hf]
theorem s_Mo_act (G : zG) (σ : zSt) (n at_ a r : Nat) (hn : σ 32 0 = nI n) (hle : n ≤ 12) (hat : at_ < 24) (ha : a < 12) (hr1 : 1 ≤ r) (hr2 : r ≤ 20) (hM : LM σ) (hT : ∀ b, b < n → ¬ σ 54 b = 0 → NB (r - 1) (σ 55 b)) (hV : r = 1 → -2 ≤ (σ 47 at_).toInt ∧ (σ 47 at_).toInt ≤ 99) :
    zI G 1 M_Mo_act [zf G 32, .int (nI at_), .int (nI a), .int (nI r)] σ (fun x τ => zFr [47, 48] σ τ ∧ (∀ j, j ≠ at_ → τ 47 j = σ 47 j) ∧ (x = -1000 ∨ NB r x)) := by
  refine zSpec.of (by decide) (Nat.le_of_ble_eq_true rfl) rfl (fun X E => ?_)
  have i1 : vp_in (nI at_) 24 := vp_in_nI hat (by decide)
  have ia : vp_in (nI a) 12 := vp_in_nI ha (by decide)
  have c1 : (nI at_).toNatClampNeg = at_ := nI_clamp (by omega)
  have ca : (nI a).toNatClampNeg = a := nI_clamp (by omega)
  have hma := hM.2 a ha
  have n2000 : (2000 : Int32).toInt = 2000 := by decide
  have m2000 : (-2000 : Int32).toInt = -2000 := by decide
  have z0 : (0 : Int32).toInt = 0 := by decide
  have z1 : (1 : Int32).toInt = 1 := by decide
  have zm1 : (-1 : Int32).toInt = -1 := by decide
  -- what a note is worth is small
  have hvb : ∀ far b, b < n → ¬ σ 54 b = 0 → -2 ≤ (vb σ far a b).toInt ∧ (vb σ far a b).toInt ≤ 99 + 10 * (r : Int) := by
    intro far b hb ht
    obtain ⟨h1, h2⟩ := hT b hb ht
    have h3 := hM.1 (12 * b + a) (by omega)
    unfold vb
    by_cases hf : far = 0
    · rw [if_pos hf, i32_add (by omega) (by rw [z0]; decide), z0]
      omega
    · rw [if_neg hf, i32_add (by omega) (by omega)]
      omega
  -- the ends
  have ret : ∀ (τ : zSt) (x : Int32), zFr [47, 48] σ τ → (∀ j, j ≠ at_ → τ 47 j = σ 47 j) → (x = -1000 ∨ NB r x) → ∃ y : Int32, some (Value.int x) = some (Value.int y) ∧ zFr [47, 48] σ τ ∧ (∀ j, j ≠ at_ → τ 47 j = σ 47 j) ∧ (y = -1000 ∨ NB r y) := fun τ x h1 h2 h3 => ⟨x, rfl, h1, h2, h3⟩
  have ret0 : ∀ (x : Int32), (x = -1000 ∨ NB r x) → ∃ y : Int32, some (Value.int x) = some (Value.int y) ∧ zFr [47, 48] σ σ ∧ (∀ j, j ≠ at_ → σ 47 j = σ 47 j) ∧ (y = -1000 ∨ NB r y) := fun x h => ret σ x zFr.rf (fun _ _ => rfl) h
  have up1 : ∀ (v : Int32) (σ1 : zSt), σ1 = zup σ 47 (nI at_).toNatClampNeg v → zFr [47, 48] σ σ1 ∧ (∀ j, j ≠ at_ → σ1 47 j = σ 47 j) := by
    intro v σ1 e1
    rw [c1] at e1
    refine ⟨by rw [e1]; exact zFr.rf.up (by decide), fun j hj => ?_⟩
    rw [e1, zup_self]; simp only [upd, if_neg hj]
  have up2 : ∀ (v w : Int32) (σ1 σ2 : zSt), σ1 = zup σ 47 (nI at_).toNatClampNeg v → σ2 = zup σ1 48 (nI at_).toNatClampNeg w → zFr [47, 48] σ σ2 ∧ (∀ j, j ≠ at_ → σ2 47 j = σ 47 j) := by
    intro v w σ1 σ2 e1 e2
    obtain ⟨h1, h2⟩ := up1 v σ1 e1
    refine ⟨by rw [e2]; exact h1.up (by decide), fun j hj => ?_⟩
    rw [e2, zup_ne (by decide)]; exact h2 j hj
  have nbm : NB r (σ 34 a) := by unfold NB; omega
  have wr : ∀ (far x v : Int32) (σ1 : zSt), σ1 = zup σ 47 (nI at_).toNatClampNeg v → AT σ far a n x → AT σ1 far a n x := by
    rintro far x v σ1 e1 ⟨b, hb, h1, h2⟩
    refine ⟨b, hb, by rw [e1, zup_ne (by decide)]; exact h1, ?_⟩
    rw [h2]; unfold vb; rw [e1, zup_ne (by decide), zup_ne (by decide)]
  have atb : ∀ far x, AT σ far a n x → NB r x ∧ NB r (x + 1) := by
    rintro far x ⟨b, hb, h1, rfl⟩
    have h := hvb far b hb h1
    unfold NB
    rw [i32_add (by omega) (by rw [z1]; decide), z1]
    omega
  -- behind the loop
  have last : ∀ (far le mo ri : Int32) (sm : Int32), (¬ sm = 0 → AT σ far a n le ∧ AT σ far a n mo) → (σ 32 5 = 2 → far = 0) →
      zZ G M_Mo_act 1 X (fun rr τ => ∃ x : Int32, rr = some (.int x) ∧ zFr [47, 48] σ τ ∧ (∀ j, j ≠ at_ → τ 47 j = σ 47 j) ∧ (x = -1000 ∨ NB r x)) 174 [(0, zf G 32), (1, .int (nI at_)), (2, .int (nI a)), (3, .int (nI r)), (4, .int far), (5, .int le), (6, .int mo), (7, .int ri), (8, .int sm)] [] σ := by
    intro far le mo ri sm hsm hfar
    have take : ∀ tk : Int32, (¬ tk = 0 → AT σ far a n le ∧ AT σ far a n mo) → zZ G M_Mo_act 1 X (fun rr τ => ∃ x : Int32, rr = some (.int x) ∧ zFr [47, 48] σ τ ∧ (∀ j, j ≠ at_ → τ 47 j = σ 47 j) ∧ (x = -1000 ∨ NB r x)) 382 [(0, zf G 32), (1, .int (nI at_)), (2, .int (nI a)), (4, .int far), (5, .int le), (6, .int mo), (9, .int tk)] [] σ := by
      intro tk htk
      refine b_Mo_act_382 E (nI at_) (nI a) far le mo tk σ ⟨fun h9 => ⟨fun _ => ⟨i1, fun σ1 e1 => ⟨_, s_Mo_writer G σ1 n a le far hle ha (wr far le _ σ1 e1 (htk h9).1), ?_⟩⟩, fun _ => ⟨i1, fun σ1 e1 => ⟨_, s_Mo_writer G σ1 n a mo far hle ha (wr far mo _ σ1 e1 (htk h9).2), ?_⟩⟩⟩, fun _ => ret0 _ (Or.inl rfl)⟩
      · rintro x3 σ2 rfl
        refine ⟨i1, fun σ4 e4 => ⟨fun _ => ret σ4 _ (up2 _ _ _ σ4 e1 e4).1 (up2 _ _ _ σ4 e1 e4).2 (Or.inr (atb far le (htk h9).1).1), fun _ => ret σ4 _ (up2 _ _ _ σ4 e1 e4).1 (up2 _ _ _ σ4 e1 e4).2 (Or.inr (atb far le (htk h9).1).2)⟩⟩
      · rintro x3 σ2 rfl
        refine ⟨i1, fun σ4 e4 => ⟨fun _ => ret σ4 _ (up2 _ _ _ σ4 e1 e4).1 (up2 _ _ _ σ4 e1 e4).2 (Or.inr (atb far mo (htk h9).2).1), fun _ => ret σ4 _ (up2 _ _ _ σ4 e1 e4).1 (up2 _ _ _ σ4 e1 e4).2 (Or.inr (atb far mo (htk h9).2).2)⟩⟩
    have take0 := take 0 (fun h => absurd rfl h)
    refine b_Mo_act_174 E (nI at_) (nI a) (nI r) far le mo ri sm σ ⟨fun _ => ⟨fun _ => ⟨fun _ => take0, fun h8 => ⟨fun _ => ⟨i1, fun _ => take 1 (fun _ => hsm h8), fun _ => ⟨fun _ => take0, fun _ => ⟨i1, fun _ => take0, fun _ => take 1 (fun _ => hsm h8)⟩⟩⟩, fun _ => ⟨i1, fun _ => take0, fun _ => take 1 (fun _ => hsm h8)⟩⟩⟩, fun h3 => ⟨fun _ => ⟨fun _ => ⟨fun _ => ret0 _ (Or.inr (by unfold NB; rw [z0]; omega)), fun _ => ret0 _ (Or.inr (by unfold NB; rw [z1]; omega))⟩, fun _ => ret0 _ (Or.inl rfl)⟩, fun _ => ⟨i1, ret0 _ (Or.inr ?_)⟩⟩⟩, fun hp => ⟨i1, fun _ => ⟨fun _ => ⟨fun _ => ⟨ia, ret0 _ (Or.inr (by rw [ca]; exact nbm))⟩, fun h8 => ⟨fun _ => ⟨ia, ret0 _ (Or.inr (by rw [ca]; exact nbm))⟩, fun h5 => ⟨i1, fun σ1 e1 => ⟨_, s_Mo_writer G σ1 n a (-1) 0 hle ha (wr 0 (-1) _ σ1 e1 (by have h := (hsm h8).1; rw [hfar hp, h5] at h; exact h)), ?_⟩⟩⟩⟩, fun _ => ⟨fun _ => ⟨i1, fun σ5 e5 => ⟨fun _ => ret σ5 _ (up1 _ σ5 e5).1 (up1 _ σ5 e5).2 (Or.inr (by unfold NB; rw [zm1]; omega)), fun _ => ret σ5 _ (up1 _ σ5 e5).1 (up1 _ σ5 e5).2 (Or.inl rfl)⟩⟩, fun _ => ⟨i1, fun σ5 e5 => ⟨fun _ => ret σ5 _ (up1 _ σ5 e5).1 (up1 _ σ5 e5).2 (Or.inr (by unfold NB; rw [zm1]; omega)), fun _ => ret σ5 _ (up1 _ σ5 e5).1 (up1 _ σ5 e5).2 (Or.inl rfl)⟩⟩⟩⟩, fun _ => ret0 _ (Or.inl rfl)⟩⟩
    · have hr : r = 1 := (nI_eq (by omega) (by decide)).mp h3
      have h := hV hr
      rw [c1]; unfold NB; omega
    · rintro x3 σ2 rfl
      exact ⟨i1, fun σ4 e4 => ret σ4 _ (up2 _ _ _ σ4 e1 e4).1 (up2 _ _ _ σ4 e1 e4).2 (Or.inl rfl)⟩
  -- the loop
  have loop : ∀ far : Int32, (σ 32 5 = 2 → far = 0) → zZ G M_Mo_act 1 X (fun rr τ => ∃ x : Int32, rr = some (.int x) ∧ zFr [47, 48] σ τ ∧ (∀ j, j ≠ at_ → τ 47 j = σ 47 j) ∧ (x = -1000 ∨ NB r x)) 31 [(0, zf G 32), (1, .int (nI at_)), (2, .int (nI a)), (3, .int (nI r)), (4, .int far), (5, .int (2000 : Int32)), (6, .int (-2000 : Int32)), (7, .int (0 : Int32)), (8, .int (0 : Int32))] [] σ := by
    intro far hfar
    refine z_for n (fun i (q : Int32 × Int32 × Int32) => zZ G M_Mo_act 1 X (fun rr τ => ∃ x : Int32, rr = some (.int x) ∧ zFr [47, 48] σ τ ∧ (∀ j, j ≠ at_ → τ 47 j = σ 47 j) ∧ (x = -1000 ∨ NB r x)) 31 [(0, zf G 32), (1, .int (nI at_)), (2, .int (nI a)), (3, .int (nI r)), (4, .int far), (5, .int q.1), (6, .int q.2.1), (7, .int q.2.2), (8, .int (nI i))] [] σ) (fun i q => (q.1 = 2000 ∧ q.2.1 = -2000) ∨ (AT σ far a i q.1 ∧ AT σ far a i q.2.1)) ?_ ?_ 0 (2000, -2000, 0) (Nat.zero_le _) (Or.inl ⟨rfl, rfl⟩)
    · intro i ⟨le, mo, ri⟩ hi hI ih
      dsimp only at hI ih ⊢
      have ii : vp_in (nI i) 12 := vp_in_nI (by omega) (by decide)
      have ci : (nI i).toNatClampNeg = i := nI_clamp (by omega)
      have cia : (((12 : Int32) * nI i) + nI a).toNatClampNeg = 12 * i + a := by rw [zi12']; exact nI_clamp (by omega)
      have atm : ∀ x, AT σ far a i x → AT σ far a (i + 1) x := fun x ⟨b, hb, h⟩ => ⟨b, by omega, h⟩
      -- the note of node i is looked at
      have see : ∀ v : Int32, ¬ σ 54 i = 0 → v = vb σ far a i → ∀ le' mo' : Int32, (le' = v ∨ (le' = le ∧ le ≤ v)) → (mo' = v ∨ (mo' = mo ∧ v ≤ mo)) → zZ G M_Mo_act 1 X (fun rr τ => ∃ x : Int32, rr = some (.int x) ∧ zFr [47, 48] σ τ ∧ (∀ j, j ≠ at_ → τ 47 j = σ 47 j) ∧ (x = -1000 ∨ NB r x)) 113 [(0, zf G 32), (1, .int (nI at_)), (2, .int (nI a)), (3, .int (nI r)), (4, .int far), (5, .int le'), (6, .int mo'), (7, .int ri), (8, .int (nI i)), (9, .int v)] [] σ := by
        intro v ht hv le' mo' hl hm
        have hb := hvb far i hi ht
        rw [← hv] at hb
        have hv' : AT σ far a (i + 1) v := ⟨i, by omega, ht, hv⟩
        have hI' : AT σ far a (i + 1) le' ∧ AT σ far a (i + 1) mo' := by
          rcases hI with ⟨h1, h2⟩ | ⟨h1, h2⟩
          · constructor
            · rcases hl with h | ⟨_, h⟩
              · rw [h]; exact hv'
              · rw [h1, i32_le, n2000] at h; omega
            · rcases hm with h | ⟨_, h⟩
              · rw [h]; exact hv'
              · rw [h2, i32_le, m2000] at h; omega
          · constructor
            · rcases hl with h | ⟨h, _⟩
              · rw [h]; exact hv'
              · rw [h]; exact atm _ h1
            · rcases hm with h | ⟨h, _⟩
              · rw [h]; exact hv'
              · rw [h]; exact atm _ h2
        have nx : ∀ g : Int32, zZ G M_Mo_act 1 X (fun rr τ => ∃ x : Int32, rr = some (.int x) ∧ zFr [47, 48] σ τ ∧ (∀ j, j ≠ at_ → τ 47 j = σ 47 j) ∧ (x = -1000 ∨ NB r x)) 31 [(0, zf G 32), (1, .int (nI at_)), (2, .int (nI a)), (3, .int (nI r)), (4, .int far), (5, .int le'), (6, .int mo'), (7, .int g), (8, .int (nI i + 1))] [] σ := fun g => by rw [nI_1]; exact ih (le', mo', g) (Or.inr hI')
        exact b_Mo_act_113 E (nI at_) (nI a) (nI r) far le' mo' ri (nI i) v σ ⟨fun _ => nx _, fun _ => ⟨ia, fun _ => nx _, fun _ => ⟨ia, fun _ => nx _, fun _ => ⟨fun _ => nx _, fun _ => nx _⟩⟩⟩⟩
      refine b_Mo_act_31 E (nI at_) (nI a) (nI r) far le mo ri (nI i) σ ⟨fun q => absurd q (by rw [hn]; exact nI_ge hi (by omega)), fun _ => ⟨ii, fun _ => ?_, fun ht => ⟨ii, fun hf => ?_, fun hf => ⟨by rw [zi12']; exact vp_in_nI (by omega) (by decide), ?_⟩⟩⟩⟩
      · rw [nI_1]
        refine ih (le, mo, ri) ?_
        rcases hI with h | ⟨h1, h2⟩
        · exact Or.inl h
        · exact Or.inr ⟨atm _ h1, atm _ h2⟩
      · rw [ci] at ht ⊢
        have hv : σ 55 i + (0 : Int32) = vb σ far a i := by unfold vb; rw [if_pos hf]
        exact ⟨fun h1 => ⟨fun h2 => see _ ht hv _ _ (Or.inr ⟨rfl, h1⟩) (Or.inr ⟨rfl, h2⟩), fun _ => see _ ht hv _ _ (Or.inr ⟨rfl, h1⟩) (Or.inl rfl)⟩, fun _ => ⟨fun h2 => see _ ht hv _ _ (Or.inl rfl) (Or.inr ⟨rfl, h2⟩), fun _ => see _ ht hv _ _ (Or.inl rfl) (Or.inl rfl)⟩⟩
      · rw [ci] at ht ⊢
        rw [cia]
        have hv : σ 55 i + σ 33 (12 * i + a) = vb σ far a i := by unfold vb; rw [if_neg hf]
        exact ⟨fun h1 => ⟨fun h2 => see _ ht hv _ _ (Or.inr ⟨rfl, h1⟩) (Or.inr ⟨rfl, h2⟩), fun _ => see _ ht hv _ _ (Or.inr ⟨rfl, h1⟩) (Or.inl rfl)⟩, fun _ => ⟨fun h2 => see _ ht hv _ _ (Or.inl rfl) (Or.inr ⟨rfl, h2⟩), fun _ => see _ ht hv _ _ (Or.inl rfl) (Or.inl rfl)⟩⟩
    · intro ⟨le, mo, ri⟩ hI
      dsimp only at hI ⊢
      refine b_Mo_act_31 E (nI at_) (nI a) (nI r) far le mo ri (nI n) σ ⟨fun _ => ⟨fun _ => last far le mo ri 0 (fun h => absurd rfl h) hfar, fun hmo => last far le mo ri 1 (fun _ => ?_) hfar⟩, fun q => absurd (by rw [hn]; exact nI_le (Nat.le_refl n) (by omega)) q⟩
      rcases hI with ⟨_, h⟩ | h
      · exact absurd (by rw [h]; exact Int32.le_refl _) hmo
      · exact h
  exact b_Mo_act_0 E (nI at_) (nI a) (nI r) σ ⟨fun _ => loop 0 (fun _ => rfl), fun h3 => loop 1 (fun h2 => by rw [h3] at h2; exact absurd h2 (by decide))⟩
