-- The class's trees, exactly
/-- hang: o is the node under which a comes -/
def HG (σ τ : zSt) (a k : Nat) (o : Option Nat) : Prop := match o with
  | none => τ = σ
  | some b => zFr [10, 11, 12, 13] σ τ ∧ τ 11 = upd (σ 11) a (nI (k + 1)) ∧ τ 10 = upd (σ 10) a (nI b) ∧ τ 12 = upd (σ 12) a ((1 : Int32) <<< (nI b &&& 31)) ∧ τ 13 = upd (σ 13) b (σ 13 b ||| ((1 : Int32) <<< (nI a &&& 31)))
theorem s_Frame_hang2 (G : zG) (σ : zSt) (n a k : Nat) (set : Int32) (hn : σ 2 0 = nI n) (hle : n ≤ 12) (ha : a < 12) (hk : k < 13) : zV G 1 M_Frame_hang [zf G 3, zf G 2, .int (nI a), .int set, .int (nI k)] σ (fun τ => HG σ τ a k (fi (fun b => zIn (σ 7 a &&& set) (nI b) && decide (σ 11 b = nI k)) n)) := by
  have ia : vp_in (nI a) 12 := vp_in_nI ha (by decide)
  have ca : (nI a).toNatClampNeg = a := nI_clamp (by omega)
  generalize hO : fi (fun b => zIn (σ 7 a &&& set) (nI b) && decide (σ 11 b = nI k)) n = O
  refine zSpec.of (by decide) (Nat.le_of_ble_eq_true rfl) rfl (fun X E => ?_)
  refine b_Frame_hang_0 E (nI a) set (nI k) σ ⟨ia, ?_⟩
  rw [ca]
  refine z_for n (fun i (_ : Unit) => zZ G M_Frame_hang 1 X (fun r τ => r = none ∧ HG σ τ a k O) 13 [(0, zf G 3), (1, zf G 2), (2, .int (nI a)), (4, .int (nI k)), (5, .int (σ 7 a &&& set)), (6, .int (nI i))] [] σ) (fun i _ => ∀ c, c < i → (zIn (σ 7 a &&& set) (nI c) && decide (σ 11 c = nI k)) = false) ?_ ?_ 0 () (Nat.zero_le _) (fun c hc => absurd hc (Nat.not_lt_zero c))
  · intro i _ hi hI ih
    have ii : vp_in (nI i) 12 := vp_in_nI (by omega) (by decide)
    have ci : (nI i).toNatClampNeg = i := nI_clamp (by omega)
    have nx : (zIn (σ 7 a &&& set) (nI i) && decide (σ 11 i = nI k)) = false → zZ G M_Frame_hang 1 X (fun r τ => r = none ∧ HG σ τ a k O) 13 [(0, zf G 3), (1, zf G 2), (2, .int (nI a)), (4, .int (nI k)), (5, .int (σ 7 a &&& set)), (6, .int (nI i + 1))] [] σ := fun h => by
      rw [nI_1]
      refine ih () (fun c hc => ?_)
      by_cases e : c = i
      · rw [e]; exact h
      · exact hI c (by omega)
    refine b_Frame_hang_13 E (nI a) (nI k) (σ 7 a &&& set) (nI i) σ ⟨fun q => absurd q (by rw [hn]; exact nI_ge hi (by omega)), fun _ => ⟨fun hz => nx (by rw [hz]; rfl), fun hz => ⟨ii, fun hl => nx (by rw [ci] at hl; rw [decide_eq_false hl, Bool.and_false]), fun hl => ⟨ia, fun σ1 e1 => ⟨ia, fun σ2 e2 => ⟨ia, fun σ3 e3 => ⟨ii, ii, fun σ4 e4 => ⟨rfl, ?_⟩⟩⟩⟩⟩⟩⟩⟩
    rw [ca, nI_1] at e1
    rw [ca] at e2 e3
    rw [ci] at e4 hl
    rw [← hO, fi_at (b := i) hi (by rw [hz, decide_eq_true hl]; rfl) hI]
    have q13 : σ3 13 = σ 13 := by rw [e3, zup_ne (by decide), e2, zup_ne (by decide), e1, zup_ne (by decide)]
    refine ⟨?_, ?_, ?_, ?_, ?_⟩
    · rw [e4, e3, e2, e1]
      exact (((zFr.rf.up (by decide)).up (by decide)).up (by decide)).up (by decide)
    · rw [e4, zup_ne (by decide), e3, zup_ne (by decide), e2, zup_ne (by decide), e1, zup_self]
    · rw [e4, zup_ne (by decide), e3, zup_ne (by decide), e2, zup_self, e1, zup_ne (by decide)]
    · rw [e4, zup_ne (by decide), e3, zup_self, e2, zup_ne (by decide), e1, zup_ne (by decide)]
    · rw [e4, zup_self, q13]
  · intro _ hI
    refine b_Frame_hang_13 E (nI a) (nI k) (σ 7 a &&& set) (nI n) σ ⟨fun _ => ⟨rfl, ?_⟩, fun q => absurd (by rw [hn]; exact nI_le (Nat.le_refl n) (by omega)) q⟩
    rw [← hO, fi_all hI]
    rfl
/-- levels, uppers and lowers of the set's nodes as o says, everything else as it was -/
def GTx (σ τ : zSt) (n : Nat) (set : Int32) (o : Nat → Option (Nat × Option Nat)) : Prop :=
  (∀ c, c < n → zIn set (nI c) = true → τ 11 c = lvE (-2) (o c) ∧ τ 10 c = upE (o c) ∧ τ 12 c = abE (o c))
  ∧ (∀ c, ¬ (c < n ∧ zIn set (nI c) = true) → τ 11 c = σ 11 c ∧ τ 10 c = σ 10 c ∧ τ 12 c = σ 12 c)
  ∧ (∀ u c, u < 12 → c < 32 → (zIn (τ 13 u) (nI c) = true ↔ (zIn (σ 13 u) (nI c) = true ∨ (c < n ∧ zIn set (nI c) = true ∧ (o c).bind Prod.snd = some u))))
def GTE (σ τ : zSt) (n root : Nat) (set : Int32) (S : Nat → Nat → Option (Nat × Option Nat)) : Prop :=
  zFr [9, 10, 11, 12, 13] σ τ ∧ GTx σ τ n set (S n) ∧ ∀ c, τ 9 c = if c < n ∧ zIn set (nI c) = true then nI root else σ 9 c
theorem lvE_k {n root : Nat} {s : Nat → Bool} {lk : Nat → Nat → Bool} {k m b : Nat} (hk : k < 100) (hm : m = k ∨ m = k + 1) : lvE (-2) (tS n root s lk m b) = nI k ↔ (tS n root s lk k b).map Prod.fst = some k := by
  cases hq : tS n root s lk k b with
  | some p =>
    have e : tS n root s lk m b = some p := tS_mono (by omega) hq
    obtain ⟨j, u⟩ := p
    have hj := (tS_ok hq).1
    rw [e]
    show nI j = nI k ↔ some j = some k
    rw [nI_eq (by omega) (by omega)]
    exact ⟨fun h => by rw [h], fun h => Option.some.inj h⟩
  | none =>
    refine ⟨fun h => ?_, fun h => absurd h (by simp)⟩
    exfalso
    rcases hm with e | e
    · rw [e, hq] at h
      exact nI_ne_m2 (by omega) h.symm
    · rw [e] at h
      cases hz : tS n root s lk (k + 1) b with
      | none => rw [hz] at h; exact nI_ne_m2 (by omega) h.symm
      | some p =>
        obtain ⟨j, u⟩ := p
        rw [hz] at h
        have h : nI j = nI k := h
        have hj := (tS_ok hz).1
        have e2 : j = k := (nI_eq (by omega) (by omega)).mp h
        by_cases hs : s b = true
        · cases hf : fi (fun c => s c && (lk b c && decide ((tS n root s lk k c).map Prod.fst = some k))) n with
          | some d =>
            rw [tS_new hq hs hf] at hz
            have := congrArg Prod.fst (Option.some.inj hz)
            have : k + 1 = j := this
            omega
          | none => rw [tS_no hq hs hf] at hz; exact absurd hz (by simp)
        · rw [tS_out hq hs] at hz; exact absurd hz (by simp)
set_option maxHeartbeats 1000000 in
theorem s_Frame_growTree2 (G : zG) (σ : zSt) (n root : Nat) (set : Int32) (lk : Nat → Nat → Bool) (hn : σ 2 0 = nI n) (hle : n ≤ 12) (hr : root < n) (hin : zIn set (nI root) = true) (hlk : ∀ a b, a < n → b < n → zIn (σ 7 a) (nI b) = lk a b) (h0 : ∀ c, c < n → zIn set (nI c) = true → σ 11 c = -2 ∧ σ 10 c = -2 ∧ σ 12 c = 0) : zV G 2 M_Frame_growTree [zf G 3, zf G 2, .int set, .int (nI root)] σ (fun τ => GTE σ τ n root set (tS n root (fun c => zIn set (nI c)) lk)) := by
  have ir : vp_in (nI root) 12 := vp_in_nI (by omega) (by decide)
  have cr : (nI root).toNatClampNeg = root := nI_clamp (by omega)
  generalize hS : tS n root (fun c => zIn set (nI c)) lk = S
  refine zSpec.of (by decide) (Nat.le_of_ble_eq_true rfl) rfl (fun X E => ?_)
  have last : ∀ (υ : zSt), zFr [9, 10, 11, 12, 13] σ υ → GTx σ υ n set (S n) → υ 9 = upd (σ 9) root (nI root) → zZ G M_Frame_growTree 2 X (fun r τ => r = none ∧ GTE σ τ n root set S) 84 [(0, zf G 3), (1, zf G 2), (2, .int set), (3, .int (nI root)), (4, .int (0 : Int32))] [] υ := by
    intro υ hF hG h9
    refine z_for n (fun i τ => zZ G M_Frame_growTree 2 X (fun r τ => r = none ∧ GTE σ τ n root set S) 84 [(0, zf G 3), (1, zf G 2), (2, .int set), (3, .int (nI root)), (4, .int (nI i))] [] τ) (fun i τ => zFr [9] υ τ ∧ ∀ c, τ 9 c = if c < i ∧ zIn set (nI c) = true then nI root else υ 9 c) ?_ ?_ 0 υ (Nat.zero_le _) ⟨zFr.rf, fun c => by rw [if_neg (fun q => absurd q.1 (Nat.not_lt_zero c))]⟩
    · intro i τ hi ⟨hF2, hd⟩ ih
      have ii : vp_in (nI i) 12 := vp_in_nI (by omega) (by decide)
      have ci : (nI i).toNatClampNeg = i := nI_clamp (by omega)
      refine b_Frame_growTree_84 E set (nI root) (nI i) τ ⟨fun q => absurd q (by rw [hF2 2 (by decide), hF 2 (by decide), hn]; exact nI_ge hi (by omega)), fun _ => ⟨fun hz => ?_, fun hz => ⟨ii, fun σ1 e1 => ?_⟩⟩⟩
      · rw [nI_1]
        refine ih τ ⟨hF2, fun c => ?_⟩
        rw [hd c]
        by_cases h : c < i ∧ zIn set (nI c) = true
        · rw [if_pos h, if_pos ⟨by omega, h.2⟩]
        · rw [if_neg h, if_neg]
          rintro ⟨q1, q2⟩
          by_cases e : c = i
          · rw [e, hz] at q2; exact absurd q2 (by decide)
          · exact h ⟨by omega, q2⟩
      · rw [nI_1]
        rw [ci] at e1
        refine ih σ1 ⟨by rw [e1]; exact hF2.up (by decide), fun c => ?_⟩
        rw [e1, zup_self]
        by_cases e : c = i
        · rw [e, upd_eq, if_pos ⟨Nat.lt_succ_self i, hz⟩]
        · rw [upd_ne e, hd c]
          by_cases h : c < i ∧ zIn set (nI c) = true
          · rw [if_pos h, if_pos ⟨by omega, h.2⟩]
          · rw [if_neg h, if_neg (fun q => h ⟨by omega, q.2⟩)]
    · intro τ ⟨hF2, hd⟩
      refine b_Frame_growTree_84 E set (nI root) (nI n) τ ⟨fun _ => ⟨rfl, hF.tr (hF2.mono (by decide)), ⟨fun c hc hz => ?_, fun c hc => ?_, fun u c hu hc => ?_⟩, fun c => ?_⟩, fun q => absurd (by rw [hF2 2 (by decide), hF 2 (by decide), hn]; exact nI_le (Nat.le_refl n) (by omega)) q⟩
      · rw [hF2 11 (by decide), hF2 10 (by decide), hF2 12 (by decide)]; exact hG.1 c hc hz
      · rw [hF2 11 (by decide), hF2 10 (by decide), hF2 12 (by decide)]; exact hG.2.1 c hc
      · rw [hF2 13 (by decide)]; exact hG.2.2 u c hu hc
      · rw [hd c, h9]
        by_cases h : c < n ∧ zIn set (nI c) = true
        · rw [if_pos h, if_pos h]
        · rw [if_neg h, if_neg h, upd_ne (fun e => h (by rw [e]; exact ⟨hr, hin⟩))]
  refine b_Frame_growTree_0 E set (nI root) σ ⟨ir, fun σ1 e1 => ⟨ir, fun σ2 e2 => ?_⟩⟩
  rw [cr] at e1 e2
  have f2 : zFr [9, 10, 11, 12, 13] σ σ2 := by rw [e2, e1]; exact (zFr.rf.up (by decide)).up (by decide)
  have g2 : GTx σ σ2 n set (S 0) := by
    have a11 : σ2 11 = upd (σ 11) root 0 := by rw [e2, zup_ne (by decide), e1, zup_self]
    have a10 : σ2 10 = σ 10 := by rw [e2, zup_ne (by decide), e1, zup_ne (by decide)]
    have a12 : σ2 12 = σ 12 := by rw [e2, zup_ne (by decide), e1, zup_ne (by decide)]
    have a13 : σ2 13 = σ 13 := by rw [e2, zup_ne (by decide), e1, zup_ne (by decide)]
    refine ⟨fun c hc hz => ?_, fun c hc => ?_, fun u c hu hc => ?_⟩
    · obtain ⟨k1, k2, k3⟩ := h0 c hc hz
      rw [a11, a10, a12, ← hS, tS_0]
      by_cases e : c = root
      · rw [if_pos e, e, upd_eq, ← e, k2, k3]; exact ⟨rfl, rfl, rfl⟩
      · rw [if_neg e, upd_ne e, k1, k2, k3]; exact ⟨rfl, rfl, rfl⟩
    · rw [a11, a10, a12, upd_ne (fun e => hc (by rw [e]; exact ⟨hr, hin⟩))]; exact ⟨rfl, rfl, rfl⟩
    · rw [a13, ← hS, tS_0]
      have : ¬ (c < n ∧ zIn set (nI c) = true ∧ (if c = root then some (0, none) else none : Option (Nat × Option Nat)).bind Prod.snd = some u) := by
        rintro ⟨_, _, q⟩
        by_cases e : c = root
        · rw [if_pos e] at q; exact absurd q (by simp)
        · rw [if_neg e] at q; exact absurd q (by simp)
      exact ⟨Or.inl, fun q => q.elim id (fun q => absurd q this)⟩
  have h29 : σ2 9 = upd (σ 9) root (nI root) := by rw [e2, zup_self, e1, zup_ne (by decide)]
  -- the levels
  refine z_for n (fun k τ => zZ G M_Frame_growTree 2 X (fun r τ => r = none ∧ GTE σ τ n root set S) 17 [(0, zf G 3), (1, zf G 2), (2, .int set), (3, .int (nI root)), (4, .int (nI k))] [] τ) (fun k τ => zFr [10, 11, 12, 13] σ2 τ ∧ GTx σ τ n set (S k)) ?_ ?_ 0 σ2 (Nat.zero_le _) ⟨zFr.rf, g2⟩
  · intro k τ hk ⟨hF, hG⟩ ihk
    refine b_Frame_growTree_17 E set (nI root) (nI k) τ ⟨fun q => absurd q (by rw [hF 2 (by decide), f2 2 (by decide), hn]; exact nI_ge hk (by omega)), fun _ => ?_⟩
    refine z_for n (fun i τ => zZ G M_Frame_growTree 2 X (fun r τ => r = none ∧ GTE σ τ n root set S) 29 [(0, zf G 3), (1, zf G 2), (2, .int set), (3, .int (nI root)), (4, .int (nI k)), (5, .int (nI i))] [] τ) (fun i τ => zFr [10, 11, 12, 13] σ2 τ ∧ GTx σ τ n set (fun c => S (if c < i then k + 1 else k) c)) ?_ ?_ 0 τ (Nat.zero_le _) ⟨hF, ?_⟩
    · intro i τ hi ⟨hF, hG⟩ ih
      have hG1 := hG.1
      have hG3 := hG.2.2
      dsimp only at hG1 hG3
      have ii : vp_in (nI i) 12 := vp_in_nI (by omega) (by decide)
      have ci : (nI i).toNatClampNeg = i := nI_clamp (by omega)
      have t7 : τ 7 = σ 7 := by rw [hF 7 (by decide), f2 7 (by decide)]
      -- the same, one node further
      have keep : (zIn set (nI i) = true → S (k + 1) i = S k i) → zZ G M_Frame_growTree 2 X (fun r τ => r = none ∧ GTE σ τ n root set S) 29 [(0, zf G 3), (1, zf G 2), (2, .int set), (3, .int (nI root)), (4, .int (nI k)), (5, .int (nI i + 1))] [] τ := by
        intro he
        rw [nI_1]
        have eo : ∀ c, zIn set (nI c) = true → S (if c < i + 1 then k + 1 else k) c = S (if c < i then k + 1 else k) c := fun c hz => by
          by_cases e : c = i
          · rw [e] at hz ⊢; rw [if_pos (Nat.lt_succ_self i), if_neg (Nat.lt_irrefl i)]; exact he hz
          · by_cases h : c < i
            · rw [if_pos h, if_pos (by omega)]
            · rw [if_neg h, if_neg (by omega)]
        refine ih τ ⟨hF, fun c hc hz => by dsimp only; rw [eo c hz]; exact hG1 c hc hz, hG.2.1, fun u c hu hc => ?_⟩
        rw [hG3 u c hu hc]
        dsimp only
        by_cases hz : zIn set (nI c) = true
        · rw [eo c hz]
        · exact or_congr Iff.rfl ⟨fun q => absurd q.2.1 hz, fun q => absurd q.2.1 hz⟩
      refine b_Frame_growTree_29 E set (nI root) (nI k) (nI i) τ ⟨fun q => absurd q (by rw [hF 2 (by decide), f2 2 (by decide), hn]; exact nI_ge hi (by omega)), fun _ => ⟨fun hz => keep (fun q => ?_), fun hz => ⟨ii, fun hl => keep (fun _ => ?_), fun hl => ?_⟩⟩⟩
      · rw [hz] at q; exact absurd q (by decide)
      · rw [ci, (hG1 i hi hz).1, if_neg (Nat.lt_irrefl i)] at hl
        cases hq : S k i with
        | none => rw [hq] at hl; exact absurd rfl hl
        | some p => rw [← hS] at hq ⊢; exact tS_old hq
      · rw [ci, (hG1 i hi hz).1, if_neg (Nat.lt_irrefl i)] at hl
        have hno : S k i = none := by
          cases hq : S k i with
          | none => rfl
          | some p =>
            exfalso
            rw [hq] at hl
            obtain ⟨j, u⟩ := p
            rw [← hS] at hq
            have := (tS_ok hq).1
            exact nI_ne_m2 (k := j) (by omega) hl
        refine ⟨_, s_Frame_hang2 G τ n i k set (by rw [hF 2 (by decide), f2 2 (by decide)]; exact hn) hle (by omega) (by omega), fun σ5 h5 => ?_⟩
        have efi : fi (fun b => zIn (τ 7 i &&& set) (nI b) && decide (τ 11 b = nI k)) n = fi (fun b => zIn set (nI b) && (lk i b && decide ((S k b).map Prod.fst = some k))) n := by
          refine fi_congr (fun b hb => ?_)
          rw [zIn_and _ _ (by omega), t7, hlk i b hi hb]
          cases hzb : zIn set (nI b) with
          | false => rw [Bool.and_false, Bool.false_and, Bool.false_and]
          | true =>
            rw [Bool.and_true, Bool.true_and, (hG1 b hb hzb).1]
            congr 1
            have := lvE_k (n := n) (root := root) (s := fun c => zIn set (nI c)) (lk := lk) (k := k) (m := if b < i then k + 1 else k) (b := b) (by omega) (by split <;> omega)
            rw [hS] at this
            exact decide_eq_decide.mpr this
        rw [efi] at h5
        rw [nI_1]
        cases hf : fi (fun b => zIn set (nI b) && (lk i b && decide ((S k b).map Prod.fst = some k))) n with
        | none =>
          rw [hf] at h5
          have h5 : σ5 = τ := h5
          have hnew : S (k + 1) i = S k i := by
            rw [hno]
            rw [← hS] at hno hf ⊢
            exact tS_no hno hz hf
          rw [h5]
          have := keep (fun _ => hnew)
          rw [nI_1] at this
          exact this
        | some b =>
          rw [hf] at h5
          obtain ⟨k1, k2, k3, k4, k5⟩ := h5
          have hnew : S (k + 1) i = some (k + 1, some b) := by
            rw [← hS] at hno hf ⊢
            exact tS_new hno hz hf
          have hbn := (fi_some hf).1
          refine ih σ5 ⟨hF.tr k1, fun c hc hzc => ?_, fun c hc => ?_, fun u c hu hc => ?_⟩
          · dsimp only
            rw [k2, k3, k4]
            by_cases e : c = i
            · rw [e, upd_eq, upd_eq, upd_eq, if_pos (Nat.lt_succ_self i), hnew]; exact ⟨rfl, rfl, rfl⟩
            · rw [upd_ne e, upd_ne e, upd_ne e]
              have := hG1 c hc hzc
              by_cases h : c < i
              · rw [if_pos h] at this; rw [if_pos (by omega)]; exact this
              · rw [if_neg h] at this; rw [if_neg (by omega)]; exact this
          · have e : c ≠ i := fun e => hc (by rw [e]; exact ⟨hi, hz⟩)
            rw [k2, k3, k4, upd_ne e, upd_ne e, upd_ne e]
            exact hG.2.1 c hc
          · -- who is below whom
            have old : zIn (τ 13 u) (nI c) = true ↔ (zIn (σ 13 u) (nI c) = true ∨ (c < n ∧ zIn set (nI c) = true ∧ (S (if c < i then k + 1 else k) c).bind Prod.snd = some u)) := hG3 u c hu hc
            dsimp only
            rw [k5]
            by_cases e : c = i
            · rw [e] at old ⊢
              rw [if_neg (Nat.lt_irrefl i), hno] at old
              rw [if_pos (Nat.lt_succ_self i), hnew]
              have old2 : zIn (τ 13 u) (nI i) = true ↔ zIn (σ 13 u) (nI i) = true := old.trans ⟨fun q => q.elim id (fun q => absurd q.2.2 (by simp)), Or.inl⟩
              by_cases eu : u = b
              · rw [eu, upd_eq, zIn_or _ _ (by omega), zIn_bit (by omega) (by omega), decide_eq_true rfl, Bool.or_true]
                exact ⟨fun _ => Or.inr ⟨hi, hz, rfl⟩, fun _ => rfl⟩
              · rw [upd_ne eu, old2]
                exact ⟨Or.inl, fun q => q.elim id (fun q => absurd (Option.some.inj q.2.2).symm eu)⟩
            · have ec : (if c < i + 1 then k + 1 else k) = (if c < i then k + 1 else k) := by
                by_cases h : c < i
                · rw [if_pos h, if_pos (by omega)]
                · rw [if_neg h, if_neg (by omega)]
              rw [ec, ← old]
              by_cases eu : u = b
              · rw [eu, upd_eq, zIn_or _ _ hc, zIn_bit (by omega) hc, decide_eq_false e, Bool.or_false]
              · rw [upd_ne eu]
    · intro τ ⟨hF, hG⟩
      refine b_Frame_growTree_29 E set (nI root) (nI k) (nI n) τ ⟨fun _ => ?_, fun q => absurd (by rw [hF 2 (by decide), f2 2 (by decide), hn]; exact nI_le (Nat.le_refl n) (by omega)) q⟩
      rw [nI_1]
      refine ihk τ ⟨hF, fun c hc hz => ?_, hG.2.1, fun u c hu hc => ?_⟩
      · have := hG.1 c hc hz
        dsimp only at this
        rw [if_pos hc] at this
        exact this
      · rw [hG.2.2 u c hu hc]
        dsimp only
        by_cases hcn : c < n
        · rw [if_pos hcn]
        · exact or_congr Iff.rfl ⟨fun q => absurd q.1 hcn, fun q => absurd q.1 hcn⟩
    · refine ⟨fun c hc hz => ?_, hG.2.1, fun u c hu hc => ?_⟩
      · dsimp only
        rw [if_neg (Nat.not_lt_zero c)]; exact hG.1 c hc hz
      · dsimp only
        rw [if_neg (Nat.not_lt_zero c)]; exact hG.2.2 u c hu hc
  · intro τ ⟨hF, hG⟩
    exact b_Frame_growTree_17 E set (nI root) (nI n) τ ⟨fun _ => last τ (f2.tr (hF.mono (by decide))) hG (by rw [hF 9 (by decide)]; exact h29), fun q => absurd (by rw [hF 2 (by decide), f2 2 (by decide), hn]; exact nI_le (Nat.le_refl n) (by omega)) q⟩
