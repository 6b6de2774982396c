-- Pool: the letters that wait, as a list
abbrev Lt : Type := Int32 × Int32 × Int32 × Int32 × Int32
def plt (σ : zSt) (i : Nat) : Lt := (σ 19 i, σ 20 i, σ 21 i, σ 22 i, σ 23 i)
def PV (σ : zSt) (l : List Lt) : Prop := σ 5 0 = nI l.length ∧ l.length ≤ 528 ∧ ∀ i, i < l.length → l[i]? = some (plt σ i)
abbrev FPool : List Nat := [5, 19, 20, 21, 22, 23]
def padd (l : List Lt) (x : Lt) : List Lt := if l.length < 528 then l ++ [x] else l
theorem PV.of {σ τ : zSt} {l : List Lt} (h : PV σ l) (e : ∀ c, c ∈ FPool → τ c = σ c) : PV τ l := by
  obtain ⟨h1, h2, h3⟩ := h
  refine ⟨by rw [e 5 (by decide)]; exact h1, h2, fun i hi => ?_⟩
  rw [h3 i hi]
  simp only [plt, e 19 (by decide), e 20 (by decide), e 21 (by decide), e 22 (by decide), e 23 (by decide)]
theorem s_Pool_add (G : zG) (σ : zSt) (l : List Lt) (k f t r n : Int32) (h : PV σ l) : zV G 0 M_Pool_add [zf G 5, .int k, .int f, .int t, .int r, .int n] σ (fun τ => PV τ (padd l (k, f, t, r, n)) ∧ zFr FPool σ τ) := by
  refine zSpec.of (by decide) (Nat.le_of_ble_eq_true rfl) rfl (fun X E => ?_)
  obtain ⟨h1, h2, h3⟩ := h
  refine b_Pool_add_0 E k f t r n σ ⟨fun q => ?_, fun q => ?_⟩
  · have hl : l.length < 528 := by
      rw [h1] at q
      exact (nI_ltI (by omega) (by decide)).mp q
    have e5 : ∀ {υ : zSt} {c : Nat} {j : Nat} {v : Int32}, 5 ≠ c → zup υ c j v 5 = υ 5 := fun hc => zup_ne hc
    have i0 : vp_in (σ 5 0) 528 := by rw [h1]; exact vp_in_nI hl (by decide)
    have cl : (nI l.length).toNatClampNeg = l.length := nI_clamp (by omega)
    refine ⟨i0, fun σ1 e1 => ?_⟩
    have g1 : σ1 5 0 = nI l.length := by rw [e1, e5 (by decide), h1]
    refine ⟨by rw [g1, ← h1]; exact i0, fun σ2 e2 => ?_⟩
    have g2 : σ2 5 0 = nI l.length := by rw [e2, e5 (by decide), g1]
    refine ⟨by rw [g2, ← h1]; exact i0, fun σ3 e3 => ?_⟩
    have g3 : σ3 5 0 = nI l.length := by rw [e3, e5 (by decide), g2]
    refine ⟨by rw [g3, ← h1]; exact i0, fun σ4 e4 => ?_⟩
    have g4 : σ4 5 0 = nI l.length := by rw [e4, e5 (by decide), g3]
    refine ⟨by rw [g4, ← h1]; exact i0, fun σ5 e5' => ?_⟩
    have g5 : σ5 5 0 = nI l.length := by rw [e5', e5 (by decide), g4]
    intro σ6 e6
    rw [h1, cl] at e1
    rw [g1, cl] at e2
    rw [g2, cl] at e3
    rw [g3, cl] at e4
    rw [g4, cl] at e5'
    rw [g5, nI_1] at e6
    have at19 : σ6 19 = upd (σ 19) l.length k := by
      rw [e6, zup_ne (by decide), e5', zup_ne (by decide), e4, zup_ne (by decide), e3, zup_ne (by decide), e2, zup_ne (by decide), e1, zup_self]
    have at20 : σ6 20 = upd (σ 20) l.length f := by
      rw [e6, zup_ne (by decide), e5', zup_ne (by decide), e4, zup_ne (by decide), e3, zup_ne (by decide), e2, zup_self, e1, zup_ne (by decide)]
    have at21 : σ6 21 = upd (σ 21) l.length t := by
      rw [e6, zup_ne (by decide), e5', zup_ne (by decide), e4, zup_ne (by decide), e3, zup_self, e2, zup_ne (by decide), e1, zup_ne (by decide)]
    have at22 : σ6 22 = upd (σ 22) l.length r := by
      rw [e6, zup_ne (by decide), e5', zup_ne (by decide), e4, zup_self, e3, zup_ne (by decide), e2, zup_ne (by decide), e1, zup_ne (by decide)]
    have at23 : σ6 23 = upd (σ 23) l.length n := by
      rw [e6, zup_ne (by decide), e5', zup_self, e4, zup_ne (by decide), e3, zup_ne (by decide), e2, zup_ne (by decide), e1, zup_ne (by decide)]
    refine ⟨rfl, ⟨?_, ?_, ?_⟩, ?_⟩
    · rw [e6]; simp [zup, padd, hl]
    · simp [padd, hl]; omega
    · intro i hi
      simp only [padd, hl, if_true, List.length_append, List.length_cons, List.length_nil] at hi ⊢
      simp only [plt, at19, at20, at21, at22, at23]
      by_cases hil : i < l.length
      · rw [List.getElem?_append_left hil, h3 i hil]
        simp [plt, upd, Nat.ne_of_lt hil]
      · have e : i = l.length := by omega
        subst e
        simp [upd]
    · rw [e6, e5', e4, e3, e2, e1]
      exact (((((zFr.rf.up (by decide)).up (by decide)).up (by decide)).up (by decide)).up (by decide)).up (by decide)
  · have hl : ¬ l.length < 528 := by
      rw [h1] at q
      exact fun z => q (nI_lt z (by decide))
    exact ⟨rfl, by simp only [padd, hl, if_false]; exact ⟨h1, h2, h3⟩, zFr.rf⟩
theorem s_Pool_closeGap (G : zG) (σ : zSt) (ck i k : Nat) (hck : zS[ck]? = some (.inl (.int, 528))) (hk : σ 5 0 = nI k) (hi : i ≤ k) (hle : k < 528) : zV G 1 M_Pool_closeGap [zf G 5, zf G ck, .int (nI i)] σ (fun τ => τ = zcpy σ ck (i + 1) i (k - i)) := by
  refine zSpec.of (by decide) (Nat.le_of_ble_eq_true rfl) rfl (fun X E => ?_)
  have e1 : nI i + 1 = nI (i + 1) := nI_1 i
  have e2 : nI k - nI i = nI (k - i) := pk_sub hi
  have c1 : (nI i).toNatClampNeg = i := nI_clamp (by omega)
  have c2 : (nI (i + 1)).toNatClampNeg = i + 1 := nI_clamp (by omega)
  have c3 : (nI (k - i)).toNatClampNeg = k - i := nI_clamp (by omega)
  refine b_Pool_closeGap_0 E (nI i) ck hck σ ?_
  rw [hk, e1, e2, c1, c2, c3]
  refine ⟨⟨nI_pos (by omega), nI_pos (by omega), nI_pos (by omega), by omega, by omega⟩, fun σ1 h1 => ⟨rfl, h1⟩⟩
theorem zcpy_gap {σ : zSt} {c i k j : Nat} (hj : j < k) (hi : i ≤ k) : zcpy σ c (i + 1) i (k - i) c j = if j < i then σ c j else σ c (j + 1) := by
  rw [zcpy_self]
  unfold va_cpy
  by_cases h : j < i
  · have h2 : ¬ (i ≤ j ∧ j < i + (k - i)) := by omega
    rw [if_neg h2, if_pos h]
  · have h2 : i ≤ j ∧ j < i + (k - i) := by omega
    rw [if_pos h2, if_neg h]
    congr 1
    omega
theorem s_Pool_remove (G : zG) (σ : zSt) (l : List Lt) (i : Nat) (h : PV σ l) (hi : i < l.length) : zV G 2 M_Pool_remove [zf G 5, .int (nI i)] σ (fun τ => PV τ (l.eraseIdx i) ∧ zFr FPool σ τ) := by
  refine zSpec.of (by decide) (Nat.le_of_ble_eq_true rfl) rfl (fun X E => ?_)
  obtain ⟨h1, h2, h3⟩ := h
  obtain ⟨k, hk⟩ : ∃ k, l.length = k + 1 := ⟨l.length - 1, by omega⟩
  rw [hk] at h1 h2 hi
  refine b_Pool_remove_0 E (nI i) σ ⟨fun q => absurd q (nI_pos (by omega)), fun _ => ⟨fun _ => ?_, fun q => absurd (by rw [h1]; exact nI_lt hi (by omega)) q⟩⟩
  intro σ1 e1
  rw [h1, show (1 : Int32) = nI 1 from rfl, pk_sub (by omega), Nat.add_sub_cancel] at e1
  have g1 : σ1 5 0 = nI k := by rw [e1]; simp [zup]
  refine ⟨_, s_Pool_closeGap G σ1 19 i k rfl g1 (by omega) (by omega), fun σ2 e2 => ?_⟩
  have g2 : σ2 5 0 = nI k := by rw [e2, zcpy_ne (by decide), g1]
  refine ⟨_, s_Pool_closeGap G σ2 20 i k rfl g2 (by omega) (by omega), fun σ3 e3 => ?_⟩
  have g3 : σ3 5 0 = nI k := by rw [e3, zcpy_ne (by decide), g2]
  refine ⟨_, s_Pool_closeGap G σ3 21 i k rfl g3 (by omega) (by omega), fun σ4 e4 => ?_⟩
  have g4 : σ4 5 0 = nI k := by rw [e4, zcpy_ne (by decide), g3]
  refine ⟨_, s_Pool_closeGap G σ4 22 i k rfl g4 (by omega) (by omega), fun σ5 e5 => ?_⟩
  have g5 : σ5 5 0 = nI k := by rw [e5, zcpy_ne (by decide), g4]
  refine ⟨_, s_Pool_closeGap G σ5 23 i k rfl g5 (by omega) (by omega), fun σ6 e6 => ?_⟩
  have g6 : σ6 5 0 = nI k := by rw [e6, zcpy_ne (by decide), g5]
  have a19 : ∀ j, j < k → σ6 19 j = if j < i then σ 19 j else σ 19 (j + 1) := fun j hj => by
    rw [e6, zcpy_ne (by decide), e5, zcpy_ne (by decide), e4, zcpy_ne (by decide), e3, zcpy_ne (by decide), e2, zcpy_gap hj (by omega), e1, zup_ne (by decide)]
  have a20 : ∀ j, j < k → σ6 20 j = if j < i then σ 20 j else σ 20 (j + 1) := fun j hj => by
    rw [e6, zcpy_ne (by decide), e5, zcpy_ne (by decide), e4, zcpy_ne (by decide), e3, zcpy_gap hj (by omega), e2, zcpy_ne (by decide), e1, zup_ne (by decide)]
  have a21 : ∀ j, j < k → σ6 21 j = if j < i then σ 21 j else σ 21 (j + 1) := fun j hj => by
    rw [e6, zcpy_ne (by decide), e5, zcpy_ne (by decide), e4, zcpy_gap hj (by omega), e3, zcpy_ne (by decide), e2, zcpy_ne (by decide), e1, zup_ne (by decide)]
  have a22 : ∀ j, j < k → σ6 22 j = if j < i then σ 22 j else σ 22 (j + 1) := fun j hj => by
    rw [e6, zcpy_ne (by decide), e5, zcpy_gap hj (by omega), e4, zcpy_ne (by decide), e3, zcpy_ne (by decide), e2, zcpy_ne (by decide), e1, zup_ne (by decide)]
  have a23 : ∀ j, j < k → σ6 23 j = if j < i then σ 23 j else σ 23 (j + 1) := fun j hj => by
    rw [e6, zcpy_gap hj (by omega), e5, zcpy_ne (by decide), e4, zcpy_ne (by decide), e3, zcpy_ne (by decide), e2, zcpy_ne (by decide), e1, zup_ne (by decide)]
  have hlen : (l.eraseIdx i).length = k := by
    rw [List.length_eraseIdx_of_lt (by omega)]; omega
  refine ⟨rfl, ⟨by rw [hlen]; exact g6, by omega, fun j hj => ?_⟩, ?_⟩
  · rw [hlen] at hj
    rw [List.getElem?_eraseIdx]
    simp only [plt, a19 j hj, a20 j hj, a21 j hj, a22 j hj, a23 j hj]
    by_cases hji : j < i
    · simp only [hji, if_true]
      rw [h3 j (by omega)]
      rfl
    · simp only [hji, if_false]
      rw [h3 (j + 1) (by omega)]
      rfl
  · rw [e6, e5, e4, e3, e2, e1]
    exact (((((zFr.rf.up (by decide)).cpy (by decide)).cpy (by decide)).cpy (by decide)).cpy (by decide)).cpy (by decide)
