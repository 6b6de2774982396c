-- The reference is the pure machine: a letter comes (handle)
theorem came_upd {σ : zSt} {n : Nat} {cm : CM} {g : Nat → Int32} {w0 t f q : Nat} (hn : n ≤ 12) (h7 : ∀ w a b r, w < 4 → a < n → b < n → r < 22 → cm w a b r = decide (¬ σ 45 (pl w a b r) = 0)) (ht : t < n) (hf : f < n) (hq : q < 22) (e : g = upd (σ 45) (pl w0 t f q) 1) : ∀ w a b r, w < 4 → a < n → b < n → r < 22 → cmU cm w0 t f q w a b r = decide (¬ g (pl w a b r) = 0) := by
  intro w a b r hw ha hb hr
  rw [e]
  unfold upd
  by_cases c : pl w a b r = pl w0 t f q
  · rw [if_pos c]
    obtain ⟨i1, i2, i3, i4⟩ := pl_inj (by omega) (by omega) hr (by omega) (by omega) hq c
    rw [i1, i2, i3, i4, cmU_eq]; rfl
  · rw [if_neg c, cmU_ne (fun z => c (by rw [z.1, z.2.1, z.2.2.1, z.2.2.2]))]
    exact h7 w a b r hw ha hb hr
section MREF4
variable {n R W p : Nat} {src : Int32} {mk : Nat → Int32} {len : Nat → Nat → Int32} {lk pa : Nat → Nat → Bool} {up : Nat → Option Nat} {ld : Nat → Nat} {A : AS}
theorem MA.came {σ τ : zSt} {w t f q : Nat} (hn : n ≤ 12) (h : MA σ n A) (hw : ¬ w = 0) (ht : t < n) (hf : f < n) (hq : q < 22) (e : τ = zup σ 45 (pl w t f q) 1) : MA τ n (aCame A w t f q) := by
  have h1 : ∀ c, c ≠ 45 → τ c = σ c := fun c hc => by rw [e, zup_ne hc]
  obtain ⟨⟨a1, a2⟩, ⟨a3, a4, a5⟩, a6, a7, a8, a9⟩ := h
  refine ⟨⟨?_, by rw [h1 35 (by decide)]; exact a2⟩, ⟨a3.of (by rw [h1 32 (by decide)]) (h1 51 (by decide)), by rw [h1 32 (by decide)]; exact a4, by rw [h1 32 (by decide)]; exact a5⟩, ?_, ?_, ?_, ?_⟩
  · show _ = aS A
    rw [← a1]
    exact psS_eq (h1 35 (by decide)) (h1 36 (by decide)) (h1 37 (by decide)) (h1 38 (by decide)) (h1 39 (by decide)) (h1 40 (by decide))
  · rw [h1 47 (by decide), h1 48 (by decide)]; exact a6
  · rw [h1 49 (by decide)]; exact a7
  · exact came_upd hn a8 ht hf hq (by rw [e, zup_self])
  · intro x y r hx hy hr hc
    have hc : cmU (aC A) w t f q 0 x y r = true := hc
    rw [cmU_ne (fun z => hw z.1.symm)] at hc
    rw [h1 46 (by decide)]; exact a9 x y r hx hy hr hc
theorem s_Mo_handle2 (G : zG) (σ : zSt) (i : Nat) (hT : MT σ n R W p src mk len lk pa up) (hF : FRA n W lk pa up ld) (hA : MA σ n A) (hQ : QR n R W p lk pa up ld A) (hi : i < (aL A).length) : zI G 4 M_Mo_handle [zf G 32, .int (nI i)] σ (fun y τ => ∃ (k f t q : Nat) (x : Int32), (aL A)[i]? = some (nI k, nI f, nI t, nI q, x) ∧ k < 7 ∧ f < n ∧ t < n ∧ 1 ≤ q ∧ q ≤ R ∧ y = nI k ∧ MF FHan [27, 29, 30] σ τ ∧ MA τ n (aHandle n R W p src mk len lk pa up A i k f t q x)) := by
  refine zSpec.of (by decide) (Nat.le_of_ble_eq_true rfl) rfl (fun X E => ?_)
  have hn12 : n ≤ 12 := hT.1.2.2.1
  have hR20 : R ≤ 20 := hT.1.2.2.2.2.2.1
  have hR1 : 1 ≤ R := hT.1.2.2.2.2.1
  have hW2 : W ≤ 2 := hT.1.2.2.2.2.2.2.2.1
  have hMLB := hT.mlb
  have hP := hQ.1.1.1
  have hlen := hQ.1.le528 hn12 hR20 hR1 hF
  obtain ⟨L1, L2, L3⟩ := hA.2.1.1
  have hx : (aL A)[i]? = some (mlt σ i) := L3 i hi
  have hm : mlt σ i ∈ aL A := List.mem_of_getElem? hx
  obtain ⟨⟨⟨k, hk, ek⟩, ⟨f, hf, ef⟩, ⟨t, ht, et⟩, ⟨q, hq1, hqR, eq, _⟩⟩, _, _, t4, t5⟩ := hP.2.1 _ hm
  have ek' : σ 51 (5 * i) = nI k := ek
  have ef' : σ 51 (5 * i + 1) = nI f := ef
  have et' : σ 51 (5 * i + 2) = nI t := et
  have eq' : σ 51 (5 * i + 3) = nI q := eq
  have hx2 : (aL A)[i]? = some (nI k, nI f, nI t, nI q, σ 51 (5 * i + 4)) := by
    rw [hx]; unfold mlt; rw [ek', ef', et', eq']
  have it : vp_in (nI t) 12 := vp_in_nI (by omega) (by decide)
  have ct : (nI t).toNatClampNeg = t := nI_clamp (by omega)
  obtain ⟨qa1, qa2⟩ := hQ.1.1.act (src := src) (mk := mk) (len := len) hn12 hR20 hW2 hF hMLB hQ.2.1 hk hf ht hq1 hqR hx2
  have qa : QE n R W p lk pa up ld (aAct n p src mk len lk pa up (aErase A i) k f t q (σ 51 (5 * i + 4))) := ⟨qa1, XN.act hF hQ.1 hR20 hn12 hf ht hq1 hqR hx2⟩
  have ra : 1 ≤ rdP (aS (aAct n p src mk len lk pa up (aErase A i) k f t q (σ 51 (5 * i + 4)))) t := Nat.le_trans (hQ.2.1 t ht) (qa2 t)
  have e5 : (5 : Int32) * nI i = nI (5 * i) := by rw [show (5 : Int32) = nI 5 from rfl, pk_mul]
  have q1 : ((5 : Int32) * nI i) + (1 : Int32) = nI (5 * i + 1) := by rw [e5, show (1 : Int32) = nI 1 from rfl, nI_add]
  have q2 : ((5 : Int32) * nI i) + (2 : Int32) = nI (5 * i + 2) := by rw [e5, show (2 : Int32) = nI 2 from rfl, nI_add]
  have q3 : ((5 : Int32) * nI i) + (3 : Int32) = nI (5 * i + 3) := by rw [e5, show (3 : Int32) = nI 3 from rfl, nI_add]
  have q4 : ((5 : Int32) * nI i) + (4 : Int32) = nI (5 * i + 4) := by rw [e5, show (4 : Int32) = nI 4 from rfl, nI_add]
  refine b_Mo_handle_0 E (nI i) σ ⟨by rw [e5]; exact vp_in_nI (by omega) (by decide), by rw [q1]; exact vp_in_nI (by omega) (by decide), by rw [q2]; exact vp_in_nI (by omega) (by decide), by rw [q3]; exact vp_in_nI (by omega) (by decide), by rw [q4]; exact vp_in_nI (by omega) (by decide), ?_⟩
  rw [q1, q2, q3, q4, e5, nI_clamp (show 5 * i < 2 ^ 31 by omega), nI_clamp (show 5 * i + 1 < 2 ^ 31 by omega), nI_clamp (show 5 * i + 2 < 2 ^ 31 by omega), nI_clamp (show 5 * i + 3 < 2 ^ 31 by omega), nI_clamp (show 5 * i + 4 < 2 ^ 31 by omega), ek', ef', et', eq']
  generalize σ 51 (5 * i + 4) = x at hx2 qa ra qa1 qa2 ⊢
  have en : ∀ υ : zSt, MF FHan [27, 29, 30] σ υ → MA υ n (aHandle n R W p src mk len lk pa up A i k f t q x) → ∃ y : Int32, some (Value.int (nI k)) = some (Value.int y) ∧ ∃ (k f t q : Nat) (x : Int32), (aL A)[i]? = some (nI k, nI f, nI t, nI q, x) ∧ k < 7 ∧ f < n ∧ t < n ∧ 1 ≤ q ∧ q ≤ R ∧ y = nI k ∧ MF FHan [27, 29, 30] σ υ ∧ MA υ n (aHandle n R W p src mk len lk pa up A i k f t q x) := fun υ h1 h2 => ⟨_, rfl, k, f, t, q, x, hx2, hk, hf, ht, hq1, hqR, rfl, h1, h2⟩
  -- behind the act, the node goes on
  have fin : ∀ (υ : zSt), MF FHan [27, 29, 30] σ υ → MA υ n (aAct n p src mk len lk pa up (aErase A i) k f t q x) → ∃ P : zSt → Prop, zV G 3 M_Mo_goOn [zf G 32, .int (nI t)] υ P ∧ ∀ σ6 : zSt, P σ6 → ∃ y : Int32, some (Value.int (nI k)) = some (Value.int y) ∧ ∃ (k f t q : Nat) (x : Int32), (aL A)[i]? = some (nI k, nI f, nI t, nI q, x) ∧ k < 7 ∧ f < n ∧ t < n ∧ 1 ≤ q ∧ q ≤ R ∧ y = nI k ∧ MF FHan [27, 29, 30] σ σ6 ∧ MA σ6 n (aHandle n R W p src mk len lk pa up A i k f t q x) := by
    intro υ g1 g2
    exact ⟨_, s_Mo_goOn2 G υ t (hT.of g1 (by decide) (by decide)) hF ht R g2 qa ra (by omega), fun σ6 ⟨m1, m2⟩ => en σ6 (g1.tr (m1.mono (by decide) (by decide))) m2⟩
  -- the letter is taken out
  refine z_for (5 * ((aL A).length - 1)) (fun j τ => zZ G M_Mo_handle 4 X (fun r τ => ∃ y : Int32, r = some (.int y) ∧ ∃ (k f t q : Nat) (x : Int32), (aL A)[i]? = some (nI k, nI f, nI t, nI q, x) ∧ k < 7 ∧ f < n ∧ t < n ∧ 1 ≤ q ∧ q ≤ R ∧ y = nI k ∧ MF FHan [27, 29, 30] σ τ ∧ MA τ n (aHandle n R W p src mk len lk pa up A i k f t q x)) 61 [(0, zf G 32), (2, .int (nI k)), (3, .int (nI f)), (4, .int (nI t)), (5, .int (nI q)), (6, .int x), (7, .int (nI j))] [] τ) (fun j τ => 5 * i ≤ j ∧ zFr [51] σ τ ∧ ∀ m, τ 51 m = if 5 * i ≤ m ∧ m < j then σ 51 (m + 5) else σ 51 m) ?_ ?_ (5 * i) σ (by omega) ⟨Nat.le_refl _, zFr.rf, fun m => by rw [if_neg (by omega)]⟩
  · intro j τ hj ⟨g0, g1, g2⟩ ih
    have e27 : τ 32 27 = nI (aL A).length := by rw [g1 32 (by decide)]; exact L1
    have ej : nI j + (5 : Int32) = nI (j + 5) := by rw [show (5 : Int32) = nI 5 from rfl, nI_add]
    refine b_Mo_handle_61 E _ _ _ _ _ (nI j) τ ⟨fun q => absurd q ?_, fun _ => ⟨by rw [ej]; exact vp_in_nI (by omega) (by decide), vp_in_nI (by omega) (by decide), fun σ11 e11 => ?_⟩⟩
    · rw [e27, ej, show (5 : Int32) = nI 5 from rfl, pk_mul]
      exact nI_ge (by omega) (by omega)
    · rw [nI_1]
      rw [ej, nI_clamp (by omega), nI_clamp (by omega)] at e11
      refine ih σ11 ⟨by omega, by rw [e11]; exact g1.up (by decide), fun m => ?_⟩
      rw [e11, zup_self]
      unfold upd
      by_cases hmj : m = j
      · subst hmj
        rw [if_pos rfl, g2 (m + 5), if_neg (by omega), if_pos ⟨g0, by omega⟩]
      · rw [if_neg hmj, g2 m]
        by_cases c1 : 5 * i ≤ m ∧ m < j
        · rw [if_pos c1, if_pos ⟨c1.1, by omega⟩]
        · rw [if_neg c1, if_neg (by omega)]
  · intro τ ⟨_, g1, g2⟩
    have e27 : τ 32 27 = nI (aL A).length := by rw [g1 32 (by decide)]; exact L1
    have ej : nI (5 * ((aL A).length - 1)) + (5 : Int32) = nI (5 * (aL A).length) := by rw [show (5 : Int32) = nI 5 from rfl, nI_add]; congr 1; omega
    refine b_Mo_handle_61 E _ _ _ _ _ (nI (5 * ((aL A).length - 1))) τ ⟨fun _ σ1 e1 => ?_, fun qq => absurd (by rw [e27, ej, show (5 : Int32) = nI 5 from rfl, pk_mul]; exact nI_le (Nat.le_refl _) (by omega)) qq⟩
    rw [e27, show (1 : Int32) = nI 1 from rfl, pk_sub (by omega)] at e1
    have hF1 : MF FHan [27, 29, 30] σ σ1 := by rw [e1]; exact ((MF.of (J := [27, 29, 30]) g1 (by decide)).fld (by decide)).mono (by decide) (by decide)
    have p51 : ∀ m, σ1 51 m = if 5 * i ≤ m ∧ m < 5 * ((aL A).length - 1) then σ 51 (m + 5) else σ 51 m := fun m => by rw [e1, zup_ne (by decide)]; exact g2 m
    have hle : ((aL A).eraseIdx i).length = (aL A).length - 1 := List.length_eraseIdx_of_lt hi
    have LE : ML σ1 ((aL A).eraseIdx i) := by
      refine ⟨by rw [e1, zup_self, hle]; simp [upd], by omega, fun m hm => ?_⟩
      rw [hle] at hm
      rw [List.getElem?_eraseIdx]
      by_cases hmi : m < i
      · rw [if_pos hmi, L3 m (by omega)]
        simp only [mlt, p51]
        rw [if_neg (by omega), if_neg (by omega), if_neg (by omega), if_neg (by omega), if_neg (by omega)]
      · rw [if_neg hmi, L3 (m + 1) (by omega)]
        simp only [mlt, p51]
        rw [if_pos (by omega), if_pos (by omega), if_pos (by omega), if_pos (by omega), if_pos (by omega)]
        rfl
    have h1 : ∀ c, c ≠ 32 → c ≠ 51 → σ1 c = σ c := fun c a1 a2 => by
      rw [e1, zup_ne a1]; exact g1 c (by simp [a2])
    have AE : MA σ1 n (aErase A i) := by
      obtain ⟨⟨a1, a2⟩, ⟨_, a4, a5⟩, a6, a7, a8, a9⟩ := hA
      refine ⟨⟨?_, by rw [h1 35 (by decide) (by decide)]; exact a2⟩, ⟨LE, ?_, ?_⟩, ?_, ?_, ?_, ?_⟩
      · show _ = aS A
        rw [← a1]
        exact psS_eq (h1 35 (by decide) (by decide)) (h1 36 (by decide) (by decide)) (h1 37 (by decide) (by decide)) (h1 38 (by decide) (by decide)) (h1 39 (by decide) (by decide)) (h1 40 (by decide) (by decide))
      · rw [e1, zup_self, g1 32 (by decide)]; unfold upd; rw [if_neg (by decide)]; exact a4
      · rw [e1, zup_self, g1 32 (by decide)]; unfold upd; rw [if_neg (by decide)]; exact a5
      · rw [h1 47 (by decide) (by decide), h1 48 (by decide) (by decide)]; exact a6
      · rw [h1 49 (by decide) (by decide)]; exact a7
      · rw [h1 45 (by decide) (by decide)]; exact a8
      · rw [h1 46 (by decide) (by decide)]; exact a9
    have hT1 := hT.of hF1 (by decide) (by decide)
    have hkt : (nI k).toInt = (k : Int) := nI_toInt (by omega)
    -- something came
    have cam : ∀ (w : Nat) (σ2 : zSt), w < 4 → w ≠ 0 → σ2 = zup σ1 45 (pl w t f q) 1 → aAct n p src mk len lk pa up (aErase A i) k f t q x = aCame (aErase A i) w t f q → ∃ P : zSt → Prop, zV G 3 M_Mo_goOn [zf G 32, .int (nI t)] σ2 P ∧ ∀ σ6 : zSt, P σ6 → ∃ y : Int32, some (Value.int (nI k)) = some (Value.int y) ∧ ∃ (k f t q : Nat) (x : Int32), (aL A)[i]? = some (nI k, nI f, nI t, nI q, x) ∧ k < 7 ∧ f < n ∧ t < n ∧ 1 ≤ q ∧ q ≤ R ∧ y = nI k ∧ MF FHan [27, 29, 30] σ σ6 ∧ MA σ6 n (aHandle n R W p src mk len lk pa up A i k f t q x) := by
      intro w σ2 hw hw0 e2 eA
      refine fin σ2 (hF1.tr ?_) ?_
      · rw [e2]; exact MF.rf.up (by decide) (by decide)
      · rw [eA]; exact AE.came hn12 hw0 ht hf (by omega) e2
    have plw : ∀ w, w < 4 → ((nI w * 12 + nI t) * 12 + nI f) * 22 + nI q = nI (pl w t f q) ∧ vp_in (nI (pl w t f q)) 12672 ∧ (nI (pl w t f q)).toNatClampNeg = pl w t f q := fun w hw => by
      have := pl_lt (w := w) (a := t) (b := f) (r := q) hw (by omega) (by omega) (by omega)
      exact ⟨pl_nI, vp_in_nI this (by decide), nI_clamp (by omega)⟩
    have s224 : k = 2 ∨ k = 3 ∨ k = 6 → zZ G M_Mo_handle 4 X (fun r τ => ∃ y : Int32, r = some (.int y) ∧ ∃ (k f t q : Nat) (x : Int32), (aL A)[i]? = some (nI k, nI f, nI t, nI q, x) ∧ k < 7 ∧ f < n ∧ t < n ∧ 1 ≤ q ∧ q ≤ R ∧ y = nI k ∧ MF FHan [27, 29, 30] σ τ ∧ MA τ n (aHandle n R W p src mk len lk pa up A i k f t q x)) 224 [(0, zf G 32), (2, .int (nI k)), (3, .int (nI f)), (4, .int (nI t)), (5, .int (nI q))] [] σ1 := by
      intro hkk
      have w1 := plw 1 (by omega)
      have w2 := plw 2 (by omega)
      have w3 := plw 3 (by omega)
      rw [show nI 1 = (1 : Int32) from rfl] at w1
      rw [show nI 2 = (2 : Int32) from rfl] at w2
      rw [show nI 3 = (3 : Int32) from rfl] at w3
      refine b_Mo_handle_224x E (nI k) (nI f) (nI t) (nI q) σ1 ⟨fun h2 => ⟨fun h3 => ⟨by rw [w3.1]; exact w3.2.1, fun σ2 e2 => ?_⟩, fun h3 => ⟨by rw [w2.1]; exact w2.2.1, fun σ2 e2 => ?_⟩⟩, fun h2 => ⟨by rw [w1.1]; exact w1.2.1, fun σ2 e2 => ?_⟩⟩
      · rw [w3.1, w3.2.2] at e2
        have a1 : k ≠ 2 := fun e => h2 (by rw [e]; rfl)
        have a2 : k ≠ 3 := fun e => h3 (by rw [e]; rfl)
        refine cam 3 σ2 (by omega) (by omega) e2 ?_
        unfold aAct
        rw [if_neg (by omega), if_neg (by omega), if_neg (by omega), if_neg (by omega), if_neg (by omega), if_neg (by omega)]
      · rw [w2.1, w2.2.2] at e2
        have k3 : k = 3 := (nI_eq (b := 3) (by omega) (by decide)).mp h3
        refine cam 2 σ2 (by omega) (by omega) e2 ?_
        unfold aAct
        rw [if_neg (by omega), if_neg (by omega), if_neg (by omega), if_pos k3]
      · rw [w1.1, w1.2.2] at e2
        have k2 : k = 2 := (nI_eq (b := 2) (by omega) (by decide)).mp h2
        refine cam 1 σ2 (by omega) (by omega) e2 ?_
        unfold aAct
        rw [if_neg (by omega), if_neg (by omega), if_pos k2]
    refine ⟨fun hk0 => ?_, fun hk1 => ⟨it, it, fun σ5 e5 => ?_⟩, fun hk2 => s224 (by omega), fun hk3 => s224 (by omega), fun hk4 => ?_, fun hk5 => ?_, fun hk6 => s224 (by omega)⟩
    · -- NOTE
      have w0 := plw 0 (by omega)
      rw [show nI 0 = (0 : Int32) from rfl] at w0
      have k0 : k = 0 := by omega
      refine ⟨by rw [w0.1]; exact w0.2.1, fun σ2 e2 => ⟨by rw [w0.1]; exact vp_in_nI (by unfold pl; omega) (by decide), fun σ3 e3 => ?_⟩⟩
      rw [w0.1, w0.2.2] at e2 e3
      have h3 : ∀ c, c ≠ 45 → c ≠ 46 → σ3 c = σ1 c := fun c b1 b2 => by rw [e3, zup_ne b2, e2, zup_ne b1]
      refine ⟨_, s_Mo_send2 G σ3 ((aL A).eraseIdx i) 1 (nI t) (nI f) (nI q) 0 (LE.of (by rw [h3 32 (by decide) (by decide)]) (h3 51 (by decide) (by decide))) (by omega), fun σ4 ⟨m1, m2, m3, m4⟩ => ?_⟩
      have h4 : ∀ c, c ≠ 45 → c ≠ 46 → c ≠ 32 → c ≠ 51 → σ4 c = σ1 c := fun c b1 b2 b3 b4 => by rw [m1.at (by simp [b3, b4]), h3 c b1 b2]
      have eA : aAct n p src mk len lk pa up (aErase A i) k f t q x = aNote (aErase A i) t f q x := by unfold aAct; rw [if_pos k0]
      have eG : aHandle n R W p src mk len lk pa up A i k f t q x = aNote (aErase A i) t f q x := by
        unfold aHandle
        rw [eA]
        refine AtR.go (A := aNote (aErase A i) t f q x) ?_ R
        exact (hQ.2.2 t ht).loc (A' := aNote (aErase A i) t f q x) ⟨⟨rfl, rfl, rfl, rfl, rfl, rfl⟩, (LC_note (A := A) (b := t) (x := x)).2⟩
      refine en σ4 ?_ ?_
      · refine hF1.tr (MF.tr (τ := σ3) ?_ (m1.mono (by decide) (by decide)))
        rw [e3, e2]; exact (MF.rf.up (by decide) (by decide)).up (by decide) (by decide)
      · rw [eG]
        obtain ⟨⟨a1, a2⟩, ⟨_, a4, a5⟩, a6, a7, a8, a9⟩ := AE
        refine ⟨⟨?_, by rw [h4 35 (by decide) (by decide) (by decide) (by decide)]; exact a2⟩, ⟨m2, ?_, ?_⟩, ?_, ?_, ?_, ?_⟩
        · show _ = aS A
          rw [show aS A = psS σ1 from a1.symm]
          exact psS_eq (h4 35 (by decide) (by decide) (by decide) (by decide)) (h4 36 (by decide) (by decide) (by decide) (by decide)) (h4 37 (by decide) (by decide) (by decide) (by decide)) (h4 38 (by decide) (by decide) (by decide) (by decide)) (h4 39 (by decide) (by decide) (by decide) (by decide)) (h4 40 (by decide) (by decide) (by decide) (by decide))
        · rw [m3, h3 32 (by decide) (by decide), a4]; exact Int32.add_zero _
        · rw [m4, h3 32 (by decide) (by decide), a5]; rfl
        · rw [h4 47 (by decide) (by decide) (by decide) (by decide), h4 48 (by decide) (by decide) (by decide) (by decide)]; exact a6
        · rw [h4 49 (by decide) (by decide) (by decide) (by decide)]; exact a7
        · exact came_upd hn12 a8 ht hf (by omega) (by rw [m1.at (by decide), e3, zup_ne (by decide), e2, zup_self])
        · intro y z r hy hz hr hc
          have e46 : σ4 46 = upd (σ1 46) (pl 0 t f q) x := by rw [m1.at (by decide), e3, zup_self, e2, zup_ne (by decide)]
          rw [e46]
          have hc : cmU (aC A) 0 t f q 0 y z r = true := hc
          show upd (σ1 46) (pl 0 t f q) x (pl 0 y z r) = if y = t ∧ z = f ∧ r = q then x else aM A y z r
          unfold upd
          by_cases c : pl 0 y z r = pl 0 t f q
          · obtain ⟨_, i2, i3, i4⟩ := pl_inj (by omega) (by omega) hr (by omega) (by omega) (by omega) c
            rw [if_pos c, if_pos ⟨i2, i3, i4⟩]
          · have c2 : ¬ (y = t ∧ z = f ∧ r = q) := fun z' => c (by rw [z'.1, z'.2.1, z'.2.2])
            rw [if_neg c, if_neg c2]
            rw [cmU_ne (fun z' => c2 z'.2)] at hc
            exact a9 y z r hy hz hr hc
    · -- ACK
      rw [ct] at e5
      have k1 : k = 1 := by omega
      have h5 : ∀ c, c ≠ 36 → σ5 c = σ1 c := fun c hc => by rw [e5, zup_ne hc]
      have hlo := hP.low hn12 hR20 ht (hQ.2.1 t ht)
      have hhi := ((hP.1 t ht).2.1 (hQ.2.1 t ht)).1
      have eS1 : psS σ1 = aS A := AE.1.1
      have eop : opP (aS A) t = (σ1 36 t).toInt := by rw [← eS1]; rfl
      have ep5 : psS σ5 = setOp (aS A) t (opP (aS A) t - 1) := by
        rw [eop, ← i32_dec (x := σ1 36 t) (by omega), ← eS1]
        exact psS_op (h5 35 (by decide)) (by rw [e5, zup_self]) (h5 37 (by decide)) (h5 38 (by decide)) (h5 39 (by decide)) (h5 40 (by decide))
      have eA : aAct n p src mk len lk pa up (aErase A i) k f t q x = mkA (setOp (aS A) t (opP (aS A) t - 1)) (aV A) (aQ A) (aU A) (aC A) (aM A) ((aL A).eraseIdx i) (aN A) (aO A) := by
        unfold aAct; rw [if_neg (by omega), if_pos k1]; rfl
      refine fin σ5 (hF1.tr ?_) ?_
      · rw [e5]; exact MF.rf.up (by decide) (by decide)
      · rw [eA]
        obtain ⟨⟨a1, a2⟩, ⟨_, a4, a5⟩, a6, a7, a8, a9⟩ := AE
        refine ⟨⟨ep5, by rw [h5 35 (by decide)]; exact a2⟩, ⟨LE.of (by rw [h5 32 (by decide)]) (h5 51 (by decide)), by rw [h5 32 (by decide)]; exact a4, by rw [h5 32 (by decide)]; exact a5⟩, ?_, ?_, ?_, ?_⟩
        · rw [h5 47 (by decide), h5 48 (by decide)]; exact a6
        · rw [h5 49 (by decide)]; exact a7
        · rw [h5 45 (by decide)]; exact a8
        · rw [h5 46 (by decide)]; exact a9
    · -- GO
      have k4 : k = 4 := by omega
      obtain ⟨c, u, z1, z2, z3, z4, z5, z6, z7, z8, z9⟩ := t4 (by rw [ek, k4]; rfl)
      have zc : t = c := (nI_eq (by omega) (by omega)).mp (et.symm.trans z3)
      subst zc
      have h20 := (hP.1 t ht).1
      have hu20 := (hP.1 u z2).1
      have zq : q = rdP (aS A) t + 1 := (nI_eq (by omega) (by omega)).mp (eq.symm.trans z5)
      have eA : aAct n p src mk len lk pa up (aErase A i) k f t q x = aBeg n p src mk len lk up (aErase A i) t := by
        unfold aAct; rw [if_neg (by omega), if_neg (by omega), if_neg (by omega), if_neg (by omega), if_pos k4]
      refine ⟨_, s_Mo_beginRound2 G σ1 t q hT1 AE hQ.1.1.2.2.erase ht zq.symm hqR (by show ((aL A).eraseIdx i).length + 24 ≤ 4000; omega) (fun e => by
        have e : rdP (aS A) t = 0 := e
        omega), fun σ7 ⟨m1, m2⟩ => fin σ7 (hF1.tr (m1.mono (by decide) (by decide))) (by rw [eA]; exact m2)⟩
    · -- FIRM
      have k5 : k = 5 := by omega
      obtain ⟨z0, _⟩ := t5 (by rw [ek, k5]; rfl)
      have eA : aAct n p src mk len lk pa up (aErase A i) k f t q x = aFirm n pa up (aErase A i) t := by
        unfold aAct; rw [if_neg (by omega), if_neg (by omega), if_neg (by omega), if_neg (by omega), if_neg (by omega), if_pos k5]
      refine ⟨_, s_Mo_becomeFirm2 G σ1 t hT1 AE z0 ht (by show ((aL A).eraseIdx i).length + 24 ≤ 4000; omega), fun σ9 ⟨m1, m2⟩ => fin σ9 (hF1.tr (m1.mono (by decide) (by decide))) (by rw [eA]; exact m2)⟩
end MREF4
