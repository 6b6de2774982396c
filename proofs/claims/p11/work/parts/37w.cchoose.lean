-- The class chooses links, exactly
theorem jnd_c {n : Nat} {lk : Nat → Nat → Bool} {L : Nat → Nat} {a b x y : Nat} (h : jnd n lk L a b x y) : jnd n lk L a b y x := by
  obtain ⟨c, d, hc, hd, h1, h2, h3, h4, h5⟩ := h
  exact ⟨c, d, hc, hd, h1, h2, h3, h4, h5.symm⟩
theorem two_bits {f : Nat → Int32} {i j x y : Nat} (hi : i < 12) (hj : j < 12) (hij : i ≠ j) (hy : y < 32) : zIn (upd (upd f i (f i ||| ((1 : Int32) <<< (nI j &&& 31)))) j (upd f i (f i ||| ((1 : Int32) <<< (nI j &&& 31))) j ||| ((1 : Int32) <<< (nI i &&& 31))) x) (nI y) = true ↔ (zIn (f x) (nI y) = true ∨ ((x = i ∧ y = j) ∨ (x = j ∧ y = i))) := by
  by_cases ej : x = j
  · rw [ej, upd_eq, upd_ne (Ne.symm hij), zIn_or _ _ hy, zIn_bit (by omega) hy, Bool.or_eq_true, decide_eq_true_eq]
    constructor
    · rintro (q | q)
      · exact Or.inl q
      · exact Or.inr (Or.inr ⟨rfl, q⟩)
    · rintro (q | q | q)
      · exact Or.inl q
      · exact absurd q.1.symm hij
      · exact Or.inr q.2
  · rw [upd_ne ej]
    by_cases ei : x = i
    · rw [ei, upd_eq, zIn_or _ _ hy, zIn_bit (by omega) hy, Bool.or_eq_true, decide_eq_true_eq]
      constructor
      · rintro (q | q)
        · exact Or.inl q
        · exact Or.inr (Or.inl ⟨rfl, q⟩)
      · rintro (q | q | q)
        · exact Or.inl q
        · exact Or.inr q.2
        · exact absurd q.1 hij
    · rw [upd_ne ei]
      constructor
      · exact fun q => Or.inl q
      · rintro (q | q | q)
        · exact q
        · exact absurd q.1 ei
        · exact absurd q.1 ej
theorem s_Frame_choose2 (G : zG) (σ : zSt) (a b i j : Nat) (ha : a < 12) (hb : b < 12) (hi : i < 12) (hj : j < 12) (h1 : σ 9 a = nI i) (h2 : σ 9 b = nI j) : zV G 0 M_Frame_choose [zf G 3, .int (nI a), .int (nI b)] σ (fun τ => zFr [3, 14, 15] σ τ ∧ τ 3 0 = σ 3 0 ∧ τ 3 1 = σ 3 1 + 1 ∧ τ 15 = upd (upd (σ 15) i (σ 15 i ||| ((1 : Int32) <<< (nI j &&& 31)))) j (upd (σ 15) i (σ 15 i ||| ((1 : Int32) <<< (nI j &&& 31))) j ||| ((1 : Int32) <<< (nI i &&& 31))) ∧ τ 14 = upd (upd (σ 14) a (σ 14 a ||| ((1 : Int32) <<< (nI b &&& 31)))) b (upd (σ 14) a (σ 14 a ||| ((1 : Int32) <<< (nI b &&& 31))) b ||| ((1 : Int32) <<< (nI a &&& 31)))) := by
  refine zSpec.of (by decide) (Nat.le_of_ble_eq_true rfl) rfl (fun X E => ?_)
  have ia : vp_in (nI a) 12 := vp_in_nI ha (by decide)
  have ib : vp_in (nI b) 12 := vp_in_nI hb (by decide)
  have ii : vp_in (nI i) 12 := vp_in_nI hi (by decide)
  have ij : vp_in (nI j) 12 := vp_in_nI hj (by decide)
  have ca : (nI a).toNatClampNeg = a := nI_clamp (by omega)
  have cb : (nI b).toNatClampNeg = b := nI_clamp (by omega)
  have ci : (nI i).toNatClampNeg = i := nI_clamp (by omega)
  have cj : (nI j).toNatClampNeg = j := nI_clamp (by omega)
  refine b_Frame_choose_0 E (nI a) (nI b) σ ?_
  rw [ca, cb, h1, h2, ci]
  refine ⟨ia, ii, ib, ii, fun σ1 e1 => ?_⟩
  have k1 : σ1 9 = σ 9 := by rw [e1, zup_ne (by decide)]
  rw [k1, h1, h2, cj]
  refine ⟨ib, ij, ia, ij, fun σ2 e2 => ⟨ia, ia, fun σ3 e3 => ⟨ib, ib, fun σ4 e4 σ5 e5 => ⟨rfl, ?_, ?_, ?_, ?_, ?_⟩⟩⟩⟩
  · rw [e5, e4, e3, e2, e1]
    exact ((((zFr.rf.up (by decide)).up (by decide)).up (by decide)).up (by decide)).up (by decide)
  · rw [e5, zup_self, upd_ne (by decide), e4, zup_ne (by decide), e3, zup_ne (by decide), e2, zup_ne (by decide), e1, zup_ne (by decide)]
  · rw [e5, zup_self, upd_eq, e4, zup_ne (by decide), e3, zup_ne (by decide), e2, zup_ne (by decide), e1, zup_ne (by decide)]
  · rw [e5, zup_ne (by decide), e4, zup_ne (by decide), e3, zup_ne (by decide), e2, zup_self, e1, zup_self]
  · rw [e5, zup_ne (by decide), e4, zup_self, e3, zup_self, e2, zup_ne (by decide), e1, zup_ne (by decide)]
/-- the links before a, b have been looked at -/
def CHI (σ τ : zSt) (n : Nat) (lk : Nat → Nat → Bool) (L : Nat → Nat) (a b : Nat) : Prop :=
  zFr [3, 14, 15] σ τ ∧ τ 3 0 = σ 3 0 ∧ τ 3 1 = nI (cA n lk L a + cR n lk L a b)
  ∧ (∀ x y, x < 12 → y < 32 → (zIn (τ 15 x) (nI y) = true ↔ jnd n lk L a b x y))
  ∧ (∀ x y, x < 12 → y < 32 → (zIn (τ 14 x) (nI y) = true ↔ x < n ∧ y < n ∧ chP n lk L a b x y))
set_option maxHeartbeats 1000000 in
theorem s_Frame_chooseLinks2 (G : zG) (σ : zSt) (n : Nat) (lk : Nat → Nat → Bool) (L : Nat → Nat) (hn : σ 2 0 = nI n) (hle : n ≤ 12) (hL : ∀ c, c < n → σ 9 c = nI (L c) ∧ L c < n) (hlk : ∀ a b, a < n → b < n → zIn (σ 7 a) (nI b) = lk a b) (h0 : ∀ c, c < 12 → σ 14 c = 0 ∧ σ 15 c = 0) (h31 : σ 3 1 = 0) : zV G 1 M_Frame_chooseLinks [zf G 3, zf G 2] σ (fun τ => CHI σ τ n lk L n (n + 1)) := by
  refine zSpec.of (by decide) (Nat.le_of_ble_eq_true rfl) rfl (fun X E => ?_)
  refine b_Frame_chooseLinks_0 E σ ?_
  have s0 : CHI σ σ n lk L 0 1 := by
    refine ⟨zFr.rf, rfl, ?_, fun x y hx hy => ?_, fun x y hx hy => ?_⟩
    · rw [cR_0 1 (by omega)]; exact h31
    · rw [(h0 x hx).2, zIn_0 hy]
      exact ⟨fun q => absurd q (by decide), fun q => absurd q jnd_0⟩
    · rw [(h0 x hx).1, zIn_0 hy]
      exact ⟨fun q => absurd q (by decide), fun q => absurd q.2.2 chP_0⟩
  refine z_for n (fun a τ => zZ G M_Frame_chooseLinks 1 X (fun r τ => r = none ∧ CHI σ τ n lk L n (n + 1)) 2 [(0, zf G 3), (1, zf G 2), (2, .int (nI a))] [] τ) (fun a τ => CHI σ τ n lk L a (a + 1)) ?_ ?_ 0 σ (Nat.zero_le _) s0
  · intro a τ ha hI iha
    refine b_Frame_chooseLinks_2 E (nI a) τ ⟨fun q => absurd q (by rw [hI.1 2 (by decide), hn]; exact nI_ge ha (by omega)), fun _ => ?_⟩
    rw [nI_1]
    refine z_for n (fun b τ => zZ G M_Frame_chooseLinks 1 X (fun r τ => r = none ∧ CHI σ τ n lk L n (n + 1)) 14 [(0, zf G 3), (1, zf G 2), (2, .int (nI a)), (3, .int (nI b))] [] τ) (fun b τ => a < b ∧ CHI σ τ n lk L a b) ?_ ?_ (a + 1) τ (by omega) ⟨by omega, hI⟩
    · intro b τ hb ⟨hab, hF, c0, c1, hj, hp⟩ ihb
      have ia : vp_in (nI a) 12 := vp_in_nI (by omega) (by decide)
      have ib : vp_in (nI b) 12 := vp_in_nI (by omega) (by decide)
      have ca : (nI a).toNatClampNeg = a := nI_clamp (by omega)
      have cb : (nI b).toNatClampNeg = b := nI_clamp (by omega)
      have La : τ 9 a = nI (L a) := by rw [hF 9 (by decide)]; exact (hL a ha).1
      have Lb : τ 9 b = nI (L b) := by rw [hF 9 (by decide)]; exact (hL b hb).1
      have la := (hL a ha).2
      have lb := (hL b hb).2
      have iLa : vp_in (nI (L a)) 12 := vp_in_nI (by omega) (by decide)
      have cLa : (nI (L a)).toNatClampNeg = L a := nI_clamp (by omega)
      have n2 : τ 2 0 = nI n := by rw [hF 2 (by decide)]; exact hn
      have t7 : τ 7 = σ 7 := hF 7 (by decide)
      -- not chosen
      have no : ch1 n lk L a b = false → (∀ x y, (lk a b = true ∧ ¬ L a = L b ∧ ((L a = x ∧ L b = y) ∨ (L a = y ∧ L b = x))) → jnd n lk L a b x y) → zZ G M_Frame_chooseLinks 1 X (fun r τ => r = none ∧ CHI σ τ n lk L n (n + 1)) 14 [(0, zf G 3), (1, zf G 2), (2, .int (nI a)), (3, .int (nI b + 1))] [] τ := by
        intro hc hjn
        rw [nI_1]
        refine ihb τ ⟨by omega, hF, c0, ?_, fun x y hx hy => ?_, fun x y hx hy => ?_⟩
        · have : cR n lk L a (b + 1) = cR n lk L a b := by
            show cR n lk L a b + _ = _
            rw [if_neg (fun q => by rw [hc] at q; exact absurd q.2 (by decide))]; rfl
          rw [this]; exact c1
        · rw [hj x y hx hy, jnd_s ha hb hab]
          exact ⟨fun q => Or.inl q, fun q => q.elim id (hjn x y)⟩
        · rw [hp x y hx hy, chP_s hab]
          refine ⟨fun q => ⟨q.1, q.2.1, Or.inl q.2.2⟩, fun q => ⟨q.1, q.2.1, q.2.2.elim id (fun q => ?_)⟩⟩
          rw [hc] at q; exact absurd q.1 (by decide)
      refine b_Frame_chooseLinks_14 E (nI a) (nI b) τ ?_
      rw [ca, cb, La, Lb, cLa, n2, t7, hlk a b ha hb, nI_eq (a := L a) (b := L b) (by omega) (by omega)]
      refine ⟨fun q => absurd q (nI_ge hb (by omega)), fun _ => ⟨ia, ib, fun hl => no ?_ (fun x y q => absurd hl q.2.1), fun hl => ⟨ia, iLa, ib, fun hz => no ?_ (fun x y q => ?_), fun hz => ⟨ia, fun hk => no ?_ (fun x y q => ?_), fun hk => ⟨_, s_Frame_choose2 G τ a b (L a) (L b) (by omega) (by omega) (by omega) (by omega) La Lb, fun σ1 ⟨g1, g2, g3, g4, g5⟩ => ?_⟩⟩⟩⟩⟩
      · cases hc : ch1 n lk L a b with
        | false => rfl
        | true => exact absurd hl (ch1_iff.mp hc).2.1
      · cases hc : ch1 n lk L a b with
        | false => rfl
        | true =>
          have h1 := (ch1_iff.mp hc).2.2
          rw [(jnd_E hl).mp ((hj (L a) (L b) (by omega) (by omega)).mp hz)] at h1
          exact absurd h1 (by decide)
      · have h1 := (hj (L a) (L b) (by omega) (by omega)).mp hz
        rcases q.2.2 with ⟨p1, p2⟩ | ⟨p1, p2⟩
        · rw [← p1, ← p2]; exact h1
        · rw [← p1, ← p2]; exact jnd_c h1
      · cases hc : ch1 n lk L a b with
        | false => rfl
        | true =>
          have h1 := (ch1_iff.mp hc).1
          rw [hk] at h1; exact absurd h1 (by decide)
      · rw [hk] at q; exact absurd q.1 (by decide)
      · have hE : chE n lk L a b = false := by
          cases he : chE n lk L a b with
          | false => rfl
          | true =>
            have h1 := (hj (L a) (L b) (by omega) (by omega)).mpr ((jnd_E hl).mpr he)
            rw [hz] at h1; exact absurd h1 (by decide)
        have hc : ch1 n lk L a b = true := ch1_iff.mpr ⟨hk, hl, hE⟩
        rw [nI_1]
        refine ihb σ1 ⟨by omega, hF.tr g1, by rw [g2]; exact c0, ?_, fun x y hx hy => ?_, fun x y hx hy => ?_⟩
        · have : cR n lk L a (b + 1) = cR n lk L a b + 1 := by
            show cR n lk L a b + _ = _
            rw [if_pos ⟨hab, hc⟩]
          rw [g3, c1, this, nI_1, Nat.add_assoc]
        · rw [g4, two_bits (by omega) (by omega) hl hy, hj x y hx hy, jnd_s ha hb hab]
          refine or_congr Iff.rfl ⟨fun q => ⟨hk, hl, ?_⟩, fun q => ?_⟩
          · rcases q with ⟨p1, p2⟩ | ⟨p1, p2⟩
            · exact Or.inl ⟨p1.symm, p2.symm⟩
            · exact Or.inr ⟨p2.symm, p1.symm⟩
          · rcases q.2.2 with ⟨p1, p2⟩ | ⟨p1, p2⟩
            · exact Or.inl ⟨p1.symm, p2.symm⟩
            · exact Or.inr ⟨p2.symm, p1.symm⟩
        · rw [g5, two_bits (by omega) (by omega) (by omega) hy, hp x y hx hy, chP_s hab]
          constructor
          · rintro (q | q)
            · exact ⟨q.1, q.2.1, Or.inl q.2.2⟩
            · exact ⟨by omega, by omega, Or.inr ⟨hc, q⟩⟩
          · rintro ⟨q1, q2, q | q⟩
            · exact Or.inl ⟨q1, q2, q⟩
            · exact Or.inr q.2
    · intro τ ⟨_, hF, c0, c1, hj, hp⟩
      refine b_Frame_chooseLinks_14 E (nI a) (nI n) τ ⟨fun _ => ?_, fun q => absurd (by rw [hF 2 (by decide), hn]; exact nI_le (Nat.le_refl n) (by omega)) q⟩
      rw [nI_1]
      refine iha τ ⟨hF, c0, ?_, fun x y hx hy => (hj x y hx hy).trans jnd_r, fun x y hx hy => (hp x y hx hy).trans ⟨fun q => ⟨q.1, q.2.1, (chP_r q.1 q.2.1).mp q.2.2⟩, fun q => ⟨q.1, q.2.1, (chP_r q.1 q.2.1).mpr q.2.2⟩⟩⟩
      rw [cR_0 (a + 1 + 1) (by omega)]
      exact c1
  · intro τ hI
    exact b_Frame_chooseLinks_2 E (nI n) τ ⟨fun _ => ⟨rfl, hI⟩, fun q => absurd (by rw [hI.1 2 (by decide), hn]; exact nI_le (Nat.le_refl n) (by omega)) q⟩
