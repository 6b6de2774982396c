-- The reference is the pure machine: sending
def cNo (m : List Lt) : Nat := m.countP (fun x => decide (x.1 = 0))
def cOt (m : List Lt) : Nat := m.countP (fun x => decide (¬ x.1 = 0))
theorem cNo_app (l m : List Lt) : cNo (l ++ m) = cNo l + cNo m := by unfold cNo; exact List.countP_append
theorem cOt_app (l m : List Lt) : cOt (l ++ m) = cOt l + cOt m := by unfold cOt; exact List.countP_append
theorem cNo_0 {m : List Lt} (h : ∀ x, x ∈ m → ¬ x.1 = 0) : cNo m = 0 ∧ cOt m = m.length := by
  unfold cNo cOt
  exact ⟨List.countP_eq_zero.mpr (fun x hx q => h x hx (of_decide_eq_true q)), List.countP_eq_length.mpr (fun x hx => decide_eq_true (h x hx))⟩
theorem cNo_1 {m : List Lt} (h : ∀ x, x ∈ m → x.1 = 0) : cNo m = m.length ∧ cOt m = 0 := by
  unfold cNo cOt
  exact ⟨List.countP_eq_length.mpr (fun x hx => decide_eq_true (h x hx)), List.countP_eq_zero.mpr (fun x hx q => of_decide_eq_true q (h x hx))⟩
/-- τ is σ with the letters m sent -/
def SN (σ τ : zSt) (l m : List Lt) : Prop := MF [51] [27, 29, 30] σ τ ∧ ML τ (l ++ m) ∧ τ 32 29 = σ 32 29 + nI (cNo m) ∧ τ 32 30 = σ 32 30 + nI (cOt m)
theorem SN.rf {σ : zSt} {l : List Lt} (h : ML σ l) : SN σ σ l [] := ⟨MF.rf, by rw [List.append_nil]; exact h, (Int32.add_zero _).symm, (Int32.add_zero _).symm⟩
theorem SN.tr {σ τ υ : zSt} {l m m' : List Lt} (h : SN σ τ l m) (h2 : SN τ υ (l ++ m) m') : SN σ υ l (m ++ m') := by
  obtain ⟨a1, a2, a3, a4⟩ := h
  obtain ⟨b1, b2, b3, b4⟩ := h2
  exact ⟨a1.tr b1, by rw [← List.append_assoc]; exact b2, by rw [b3, a3, cNo_app, ← nI_add, Int32.add_assoc], by rw [b4, a4, cOt_app, ← nI_add, Int32.add_assoc]⟩
theorem s_Mo_send2 (G : zG) (σ : zSt) (l : List Lt) (k f t r x : Int32) (h : ML σ l) (hl : l.length < 4000) : zV G 0 M_Mo_send [zf G 32, .int k, .int f, .int t, .int r, .int x] σ (fun τ => SN σ τ l [(k, f, t, r, x)]) := by
  refine zSpec.of (by decide) (Nat.le_of_ble_eq_true rfl) rfl (fun X E => ?_)
  obtain ⟨h1, h2, h3⟩ := h
  have e5 : (5 : Int32) * nI l.length = nI (5 * l.length) := by rw [show (5 : Int32) = nI 5 from rfl, pk_mul]
  have idx : ∀ j : Nat, j < 5 → vp_in (nI (5 * l.length + j)) 20000 ∧ (nI (5 * l.length + j)).toNatClampNeg = 5 * l.length + j := fun j hj => ⟨vp_in_nI (by omega) (by decide), nI_clamp (by omega)⟩
  have q0 : (5 : Int32) * nI l.length = nI (5 * l.length + 0) := e5
  have q1 : ((5 : Int32) * nI l.length) + (1 : Int32) = nI (5 * l.length + 1) := by rw [e5, show (1 : Int32) = nI 1 from rfl, nI_add]
  have q2 : ((5 : Int32) * nI l.length) + (2 : Int32) = nI (5 * l.length + 2) := by rw [e5, show (2 : Int32) = nI 2 from rfl, nI_add]
  have q3 : ((5 : Int32) * nI l.length) + (3 : Int32) = nI (5 * l.length + 3) := by rw [e5, show (3 : Int32) = nI 3 from rfl, nI_add]
  have q4 : ((5 : Int32) * nI l.length) + (4 : Int32) = nI (5 * l.length + 4) := by rw [e5, show (4 : Int32) = nI 4 from rfl, nI_add]
  refine b_Mo_send_0 E k f t r x σ ⟨by rw [h1, q0]; exact (idx 0 (by omega)).1, fun σ1 e1 => ?_⟩
  rw [h1, q0, (idx 0 (by omega)).2] at e1
  have g1 : σ1 32 27 = nI l.length := by rw [e1, zup_ne (by decide)]; exact h1
  refine ⟨by rw [g1, q1]; exact (idx 1 (by omega)).1, fun σ2 e2 => ?_⟩
  rw [g1, q1, (idx 1 (by omega)).2] at e2
  have g2 : σ2 32 27 = nI l.length := by rw [e2, zup_ne (by decide)]; exact g1
  refine ⟨by rw [g2, q2]; exact (idx 2 (by omega)).1, fun σ3 e3 => ?_⟩
  rw [g2, q2, (idx 2 (by omega)).2] at e3
  have g3 : σ3 32 27 = nI l.length := by rw [e3, zup_ne (by decide)]; exact g2
  refine ⟨by rw [g3, q3]; exact (idx 3 (by omega)).1, fun σ4 e4 => ?_⟩
  rw [g3, q3, (idx 3 (by omega)).2] at e4
  have g4 : σ4 32 27 = nI l.length := by rw [e4, zup_ne (by decide)]; exact g3
  refine ⟨by rw [g4, q4]; exact (idx 4 (by omega)).1, fun σ5 e5' => ?_⟩
  rw [g4, q4, (idx 4 (by omega)).2] at e5'
  have g5 : σ5 32 27 = nI l.length := by rw [e5', zup_ne (by decide)]; exact g4
  have p5 : ∀ j, σ5 51 j = if j = 5 * l.length + 4 then x else if j = 5 * l.length + 3 then r else if j = 5 * l.length + 2 then t else if j = 5 * l.length + 1 then f else if j = 5 * l.length + 0 then k else σ 51 j := fun j => by
    rw [e5', zup_self, e4, zup_self, e3, zup_self, e2, zup_self, e1, zup_self]; rfl
  have fin : ∀ (j : Nat) (w : Int32) (σ6 σ7 : zSt), (j = 29 ∨ j = 30) → σ6 = zup σ5 32 27 ((σ5 32 27) + (1 : Int32)) → σ7 = zup σ6 32 j w → ((j = 29 ∧ k = 0 ∧ w = σ6 32 29 + 1) ∨ (j = 30 ∧ ¬ k = 0 ∧ w = σ6 32 30 + 1)) → (none : Option Value) = none ∧ SN σ σ7 l [(k, f, t, r, x)] := by
    intro j w σ6 σ7 hj e6 e7 hw
    rw [g5, nI_1] at e6
    refine ⟨rfl, ?_, ⟨?_, ?_, ?_⟩, ?_, ?_⟩
    · rw [e7, e6, e5', e4, e3, e2, e1]
      exact ((((((MF.rf.up (by decide) (by decide)).up (by decide) (by decide)).up (by decide) (by decide)).up (by decide) (by decide)).up (by decide) (by decide)).fld (by decide)).fld (by rcases hj with rfl | rfl <;> decide)
    · rw [e7, zup_self, e6, zup_self]
      unfold upd
      rw [if_neg (by omega), if_pos rfl, List.length_append]
      rfl
    · rw [List.length_append]; show l.length + 1 ≤ 4000; omega
    · intro i hi
      have e51 : σ7 51 = σ5 51 := by rw [e7, zup_ne (by decide), e6, zup_ne (by decide)]
      rw [List.length_append] at hi
      have hi' : i < l.length + 1 := hi
      simp only [mlt, e51, p5]
      rcases Nat.lt_or_ge i l.length with hil | hil
      · rw [List.getElem?_append_left hil, h3 i hil]
        have a0 : ∀ j, j < 5 → ∀ m, m < 5 → 5 * i + j ≠ 5 * l.length + m := fun j hj m hm => by omega
        simp only [mlt]
        congr 1
        have b0 := a0 0 (by omega)
        simp only [Nat.add_zero] at b0
        congr 1
        · rw [if_neg (by omega), if_neg (by omega), if_neg (by omega), if_neg (by omega), if_neg (by omega)]
        · congr 1
          · rw [if_neg (by omega), if_neg (by omega), if_neg (by omega), if_neg (by omega), if_neg (by omega)]
          · congr 1
            · rw [if_neg (by omega), if_neg (by omega), if_neg (by omega), if_neg (by omega), if_neg (by omega)]
            · congr 1
              · rw [if_neg (by omega), if_neg (by omega), if_neg (by omega), if_neg (by omega), if_neg (by omega)]
              · rw [if_neg (by omega), if_neg (by omega), if_neg (by omega), if_neg (by omega), if_neg (by omega)]
      · have e : i = l.length := by omega
        subst e
        simp
    · have z6 : σ6 32 29 = σ 32 29 := by
        rw [e6, zup_self]; unfold upd; rw [if_neg (by decide)]
        rw [e5', zup_ne (by decide), e4, zup_ne (by decide), e3, zup_ne (by decide), e2, zup_ne (by decide), e1, zup_ne (by decide)]
      rw [e7, zup_self]
      unfold upd
      rcases hw with ⟨a1, a2, a3⟩ | ⟨a1, a2, a3⟩
      · rw [if_pos a1.symm, a3, z6, (cNo_1 (m := [(k, f, t, r, x)]) (fun y hy => by rw [List.mem_singleton.mp hy]; exact a2)).1]; rfl
      · rw [if_neg (by omega), z6, (cNo_0 (m := [(k, f, t, r, x)]) (fun y hy => by rw [List.mem_singleton.mp hy]; exact a2)).1]; exact (Int32.add_zero _).symm
    · have z6 : σ6 32 30 = σ 32 30 := by
        rw [e6, zup_self]; unfold upd; rw [if_neg (by decide)]
        rw [e5', zup_ne (by decide), e4, zup_ne (by decide), e3, zup_ne (by decide), e2, zup_ne (by decide), e1, zup_ne (by decide)]
      rw [e7, zup_self]
      unfold upd
      rcases hw with ⟨a1, a2, a3⟩ | ⟨a1, a2, a3⟩
      · rw [if_neg (by omega), z6, (cNo_1 (m := [(k, f, t, r, x)]) (fun y hy => by rw [List.mem_singleton.mp hy]; exact a2)).2]; exact (Int32.add_zero _).symm
      · rw [if_pos a1.symm, a3, z6, (cNo_0 (m := [(k, f, t, r, x)]) (fun y hy => by rw [List.mem_singleton.mp hy]; exact a2)).2]; rfl
  exact fun σ6 e6 => ⟨fun hk σ7 e7 => fin 30 _ σ6 σ7 (Or.inr rfl) e6 e7 (Or.inr ⟨rfl, hk, rfl⟩), fun hk σ7 e7 => fin 29 _ σ6 σ7 (Or.inl rfl) e6 e7 (Or.inl ⟨rfl, hk, rfl⟩)⟩
theorem sel_no {k x : Int32} {a r i : Nat} {P : Nat → Bool} (h : ¬ P i = true) : ltrs k a r x (selL P (i + 1)) = ltrs k a r x (selL P i) := by
  show ltrs k a r x (selL P i ++ (if P i = true then [i] else [])) = _
  rw [if_neg h, List.append_nil]
theorem sel_yes {k x : Int32} {a r i : Nat} {P : Nat → Bool} (h : P i = true) : ltrs k a r x (selL P (i + 1)) = ltrs k a r x (selL P i) ++ [(k, nI a, nI i, nI r, x)] := by
  show ltrs k a r x (selL P i ++ (if P i = true then [i] else [])) = _
  rw [if_pos h]
  unfold ltrs
  rw [List.map_append]
  rfl
theorem all_end {P F : Nat → Bool} {i m : Nat} (hi : i < m) (hp : P i = true) (hf : F i = false) : (selL P m).all F = false := by
  cases h : (selL P m).all F with
  | false => rfl
  | true =>
    have := List.all_eq_true.mp h i (selL_mem.mpr ⟨hi, hp⟩)
    rw [hf] at this; exact absurd this (by decide)
theorem all_step {P F : Nat → Bool} {i : Nat} (h : (selL P i).all F = true) (hf : P i = true → F i = true) : (selL P (i + 1)).all F = true := by
  refine List.all_eq_true.mpr (fun c hc => ?_)
  have h1 := selL_mem.mp hc
  by_cases e : c = i
  · rw [e] at h1 ⊢; exact hf h1.2
  · exact List.all_eq_true.mp h c (selL_mem.mpr ⟨by omega, h1.2⟩)
/-- what does not change in the running, as the pure machine takes it -/
def MT (σ : zSt) (n R W p : Nat) (src : Int32) (mk : Nat → Int32) (len : Nat → Nat → Int32) (lk pa : Nat → Nat → Bool) (up : Nat → Option Nat) : Prop :=
  MS σ n R W ∧ (σ 32 5 = nI p ∧ p ≤ 3 ∧ σ 32 7 = src) ∧ (∀ a, a < 12 → σ 34 a = mk a) ∧ (∀ a b, a < 12 → b < 12 → σ 33 (12 * b + a) = len a b) ∧ (∀ a b, a < n → b < n → zLk σ (nI a) (nI b) = lk a b) ∧ (∀ c, c < n → upS σ c = up c) ∧ (W = 0 → (∀ a b, a < n → b < n → pa a b = lk a b) ∧ ∀ c, c < n → up c = none) ∧ (¬ W = 0 → ∀ a b, a < n → b < n → pa a b = decide (¬ σ 44 (12 * a + b) = 0))
section MREF
variable {n R W p : Nat} {src : Int32} {mk : Nat → Int32} {len : Nat → Nat → Int32} {lk pa : Nat → Nat → Bool} {up : Nat → Option Nat} {A : AS}
theorem MT.of {σ τ : zSt} {L J : List Nat} (h : MT σ n R W p src mk len lk pa up) (hF : MF L J σ τ) (hL : 33 ∉ L ∧ 34 ∉ L ∧ 41 ∉ L ∧ 44 ∉ L) (hJ : 0 ∉ J ∧ 5 ∉ J ∧ 6 ∉ J ∧ 7 ∉ J ∧ 8 ∉ J) : MT τ n R W p src mk len lk pa up := by
  have at' : ∀ c, c ≠ 32 → c ∉ L → τ c = σ c := fun c h1 h2 => hF.at (fun q => by
    rcases List.mem_cons.mp q with e | e
    · exact h1 e
    · exact h2 e)
  have e33 : τ 33 = σ 33 := at' 33 (by decide) hL.1
  have e34 : τ 34 = σ 34 := at' 34 (by decide) hL.2.1
  have e41 : τ 41 = σ 41 := at' 41 (by decide) hL.2.2.1
  have e44 : τ 44 = σ 44 := at' 44 (by decide) hL.2.2.2
  obtain ⟨h1, ⟨h2, h3, h4⟩, h5, h6, h7, h8, h9, h10⟩ := h
  refine ⟨h1.of (hF.2 0 hJ.1) (hF.2 8 hJ.2.2.2.2) (hF.2 6 hJ.2.2.1) e41 e33 e34, ⟨by rw [hF.2 5 hJ.2.1]; exact h2, h3, by rw [hF.2 7 hJ.2.2.2.1]; exact h4⟩, by rw [e34]; exact h5, by rw [e33]; exact h6, fun a b ha hb => ?_, by rw [upS_eq e41]; exact h8, h9, by rw [e44]; exact h10⟩
  rw [← h7 a b ha hb]
  unfold zLk
  rw [e33]
theorem MT.be {σ : zSt} (h : MT σ n R W p src mk len lk pa up) {i a : Nat} (hi : i < n) (ha : a < n) : zBe σ (nI i) (nI a) = decide (up i = some a) := by
  obtain ⟨⟨_, _, hn, _, _, _, _, _, hU, _⟩, _, _, _, _, h8, _⟩ := h
  unfold zBe
  rw [← h8 i hi, nI_clamp (by omega)]
  rcases hU i hi with e | ⟨u, u1, u2, u3⟩
  · unfold upS
    rw [e, if_pos rfl, decide_eq_false (fun q => nI_ne_m2 (show a < 1000 by omega) q.1.symm), decide_eq_false (by simp)]
  · rw [upS_to (by omega) u3, u3]
    by_cases e : u = a
    · rw [decide_eq_true (p := nI u = nI a ∧ ¬ nI i = nI a) ⟨by rw [e], fun q => u2 (by rw [e]; exact ((nI_eq (by omega) (by omega)).mp q).symm)⟩, decide_eq_true (by rw [e])]
    · rw [decide_eq_false (p := nI u = nI a ∧ ¬ nI i = nI a) (fun q => e ((nI_eq (by omega) (by omega)).mp q.1)), decide_eq_false (fun q => e (Option.some.inj q))]
theorem s_Mo_toLower2 (G : zG) (σ : zSt) (a r : Nat) (l : List Lt) (k : Int32) (hT : MT σ n R W p src mk len lk pa up) (ha : a < n) (hL : ML σ l) (hl : l.length + 12 ≤ 4000) : zV G 1 M_Mo_toLower [zf G 32, .int k, .int (nI a), .int (nI r)] σ (fun τ => SN σ τ l (ltrs k a r 0 (lows n up a))) := by
  refine zSpec.of (by decide) (Nat.le_of_ble_eq_true rfl) rfl (fun X E => ?_)
  have hn : n ≤ 12 := hT.1.2.2.1
  refine b_Mo_toLower_0 E k (nI a) (nI r) σ ?_
  refine z_for n (fun i τ => zZ G M_Mo_toLower 1 X (fun rr τ => rr = none ∧ SN σ τ l (ltrs k a r 0 (lows n up a))) 3 [(0, zf G 32), (1, .int k), (2, .int (nI a)), (3, .int (nI r)), (4, .int (nI i))] [] τ) (fun i τ => SN σ τ l (ltrs k a r 0 (selL (fun c => decide (up c = some a)) i))) ?_ ?_ 0 σ (Nat.zero_le _) (SN.rf hL)
  · intro i τ hi hI ih
    have ii : vp_in (nI i) 12 := vp_in_nI (by omega) (by decide)
    have hTτ := hT.of hI.1 (by decide) (by decide)
    have nτ : τ 32 0 = nI n := hTτ.1.1
    have wτ : τ 32 6 = nI W := hTτ.1.2.2.2.2.2.2.1
    have hW := hTτ.1.2.2.2.2.2.2.2.1
    have hz := hTτ.be hi ha
    have hlen : (ltrs k a r 0 (selL (fun c => decide (up c = some a)) i)).length ≤ i := by rw [ltrs_len]; exact selL_len i
    refine b_Mo_toLower_3 E k (nI a) (nI r) (nI i) τ ⟨fun q => absurd q (by rw [nτ]; exact nI_ge hi (by omega)), fun _ => ⟨fun hw => ?_, fun _ => ⟨ii, fun hf => ?_, fun ht => ⟨_, s_Mo_send2 G τ _ k (nI a) (nI i) (nI r) 0 hI.2.1 (by rw [List.length_append]; omega), fun σ1 h1 => ?_⟩⟩⟩⟩
    · rw [nI_1]
      refine ih τ ?_
      have w0 : W = 0 := by
        rw [wτ] at hw
        have := (nI_leI (a := W) (b := 0) (by omega) (by decide)).mp hw
        omega
      rw [sel_no (by rw [(hTτ.2.2.2.2.2.2.1 w0).2 i hi]; simp)]; exact hI
    · rw [nI_1]
      refine ih τ ?_
      rw [hz] at hf
      rw [sel_no (by rw [hf]; decide)]; exact hI
    · rw [nI_1]
      refine ih σ1 ?_
      rw [hz] at ht
      rw [sel_yes ht]; exact hI.tr h1
  · intro τ hI
    have nτ : τ 32 0 = nI n := (hT.of hI.1 (by decide) (by decide)).1.1
    exact b_Mo_toLower_3 E k (nI a) (nI r) (nI n) τ ⟨fun _ => ⟨rfl, hI⟩, fun q => absurd (by rw [nτ]; exact nI_le (Nat.le_refl n) (by omega)) q⟩
/-- what hasAll asks about -/
def wanP (n : Nat) (pa : Nat → Nat → Bool) (up : Nat → Option Nat) (a : Nat) (lo : Int32) : Nat → Bool := if lo = 0 then (fun b => pa a b) else (fun c => decide (up c = some a))
theorem s_Mo_hasAll2 (G : zG) (σ : zSt) (w a q : Nat) (lo : Int32) (hT : MT σ n R W p src mk len lk pa up) (hw : w < 4) (ha : a < n) (hq : σ 35 a = nI q) (hq2 : q < 22) : zB G 1 M_Mo_hasAll [zf G 32, .int (nI w), .int (nI a), .int lo] σ (fun b τ => τ = σ ∧ b = (selL (wanP n pa up a lo) n).all (fun c => decide (¬ σ 45 (pl w a c q) = 0))) := by
  refine zSpec.of (by decide) (Nat.le_of_ble_eq_true rfl) rfl (fun X E => ?_)
  obtain ⟨h1, h2, h3, h4, h5, h6, h7, h8, h9, h10⟩ := hT.1
  have ia : vp_in (nI a) 12 := vp_in_nI (by omega) (by decide)
  have ca : (nI a).toNatClampNeg = a := nI_clamp (by omega)
  refine b_Mo_hasAll_0 E (nI w) (nI a) lo σ ?_
  refine z_for n (fun i (_ : Unit) => zZ G M_Mo_hasAll 1 X (fun rr τ => ∃ b : Bool, rr = some (.int (zb b)) ∧ τ = σ ∧ b = (selL (wanP n pa up a lo) n).all (fun c => decide (¬ σ 45 (pl w a c q) = 0))) 3 [(0, zf G 32), (1, .int (nI w)), (2, .int (nI a)), (3, .int lo), (4, .int (nI i))] [] σ) (fun i _ => (selL (wanP n pa up a lo) i).all (fun c => decide (¬ σ 45 (pl w a c q) = 0)) = true) ?_ ?_ 0 () (Nat.zero_le _) rfl
  · intro i _ hi hI ih
    have ii : vp_in (nI i) 12 := vp_in_nI (by omega) (by decide)
    have ci : (nI i).toNatClampNeg = i := nI_clamp (by omega)
    have iab : vp_in (((12 : Int32) * nI a) + nI i) 144 := by rw [zi12']; exact vp_in_nI (by omega) (by decide)
    have cab : (((12 : Int32) * nI a) + nI i).toNatClampNeg = 12 * a + i := by rw [zi12']; exact nI_clamp (by omega)
    have epl : ((nI w * 12 + nI a) * 12 + nI i) * 22 + (σ 35 (nI a).toNatClampNeg) = nI (pl w a i q) := by rw [ca, hq, pl_nI]
    have hpl := pl_lt (r := q) hw (show a < 12 by omega) (show i < 12 by omega) hq2
    have ipl : vp_in (((nI w * 12 + nI a) * 12 + nI i) * 22 + (σ 35 (nI a).toNatClampNeg)) 12672 := by rw [epl]; exact vp_in_nI hpl (by decide)
    have cpl : (((nI w * 12 + nI a) * 12 + nI i) * 22 + (σ 35 (nI a).toNatClampNeg)).toNatClampNeg = pl w a i q := by rw [epl]; exact nI_clamp (by omega)
    have nx : (wanP n pa up a lo i = true → ¬ σ 45 (pl w a i q) = 0) → zZ G M_Mo_hasAll 1 X (fun rr τ => ∃ b : Bool, rr = some (.int (zb b)) ∧ τ = σ ∧ b = (selL (wanP n pa up a lo) n).all (fun c => decide (¬ σ 45 (pl w a c q) = 0))) 3 [(0, zf G 32), (1, .int (nI w)), (2, .int (nI a)), (3, .int lo), (4, .int (nI i + 1))] [] σ := by
      intro hx
      rw [nI_1]
      exact ih () (all_step hI (fun hp => decide_eq_true (hx hp)))
    have no : wanP n pa up a lo i = true → σ 45 (pl w a i q) = 0 → ∃ b : Bool, some (Value.int (0 : Int32)) = some (Value.int (zb b)) ∧ σ = σ ∧ b = (selL (wanP n pa up a lo) n).all (fun c => decide (¬ σ 45 (pl w a c q) = 0)) := fun hp hz => ⟨false, rfl, rfl, (all_end (F := fun c => decide (¬ σ 45 (pl w a c q) = 0)) hi hp (decide_eq_false (fun k => k hz))).symm⟩
    refine b_Mo_hasAll_3 E (nI w) (nI a) lo (nI i) σ ⟨fun qq => absurd qq (by rw [h1]; exact nI_ge hi (by omega)), fun _ => ⟨fun hlo => ⟨fun hw0 => ⟨iab, fun hc => nx (fun hp => ?_), fun hc => ⟨ia, ipl, fun hne => nx (fun _ => by rw [cpl] at hne; exact hne), fun hz => no ?_ (by rw [cpl] at hz; exact hz)⟩⟩, fun hw0 => ⟨iab, fun hc => nx (fun hp => ?_), fun hc => ⟨ia, ipl, fun hne => nx (fun _ => by rw [cpl] at hne; exact hne), fun hz => no ?_ (by rw [cpl] at hz; exact hz)⟩⟩⟩, fun hlo => ⟨ii, fun hc => nx (fun hp => ?_), fun hc => ⟨ia, ipl, fun hne => nx (fun _ => by rw [cpl] at hne; exact hne), fun hz => no ?_ (by rw [cpl] at hz; exact hz)⟩⟩⟩⟩
    · exfalso
      unfold wanP at hp
      rw [if_pos hlo] at hp
      rw [h7] at hw0
      have hp : pa a i = true := hp
      rw [hT.2.2.2.2.2.2.2 (fun e => hw0 (by rw [e]; rfl)) a i ha hi] at hp
      rw [cab] at hc
      exact of_decide_eq_true hp hc
    · unfold wanP
      rw [if_pos hlo]
      rw [h7] at hw0
      show pa a i = true
      rw [hT.2.2.2.2.2.2.2 (fun e => hw0 (by rw [e]; rfl)) a i ha hi]
      rw [cab] at hc
      exact decide_eq_true hc
    · exfalso
      unfold wanP at hp
      rw [if_pos hlo] at hp
      rw [h7] at hw0
      have w0 : W = 0 := (nI_eq (b := 0) (by omega) (by decide)).mp hw0
      have hp : pa a i = true := hp
      rw [(hT.2.2.2.2.2.2.1 w0).1 a i ha hi, ← hT.2.2.2.2.1 a i ha hi, hc] at hp
      exact absurd hp (by decide)
    · unfold wanP
      rw [if_pos hlo]
      rw [h7] at hw0
      have w0 : W = 0 := (nI_eq (b := 0) (by omega) (by decide)).mp hw0
      show pa a i = true
      rw [(hT.2.2.2.2.2.2.1 w0).1 a i ha hi, ← hT.2.2.2.2.1 a i ha hi]; exact hc
    · exfalso
      unfold wanP at hp
      rw [if_neg hlo] at hp
      rw [hT.be hi ha] at hc
      have hp : decide (up i = some a) = true := hp
      rw [hc] at hp; exact absurd hp (by decide)
    · unfold wanP
      rw [if_neg hlo]
      rw [hT.be hi ha] at hc
      exact hc
  · intro _ hI
    exact b_Mo_hasAll_3 E (nI w) (nI a) lo (nI n) σ ⟨fun _ => ⟨true, rfl, rfl, hI.symm⟩, fun qq => absurd (by rw [h1]; exact nI_le (Nat.le_refl n) (by omega)) qq⟩
/-- the reference's state is the pure machine's -/
def MA (σ : zSt) (n : Nat) (A : AS) : Prop :=
  (psS σ = aS A ∧ ∀ a, a < n → σ 35 a = nI (rdP (aS A) a)) ∧ (ML σ (aL A) ∧ σ 32 29 = aN A ∧ σ 32 30 = aO A) ∧ (∀ a, a < n → σ 47 a = aV A a ∧ σ 48 a = aQ A a) ∧ (∀ r a, r ≤ rdP (aS A) a → a < n → σ 49 (12 * r + a) = aU A r a) ∧ (∀ w a b q, w < 4 → a < n → b < n → q < 22 → aC A w a b q = decide (¬ σ 45 (pl w a b q) = 0)) ∧ (∀ a b q, a < n → b < n → q < 22 → aC A 0 a b q = true → σ 46 (pl 0 a b q) = aM A a b q)
theorem MA.put {σ τ : zSt} {S : PS} {m : List Lt} (h : MA σ n A) (hF : MF [36, 37, 38, 39, 40, 51] [27, 29, 30] σ τ) (hS : psS τ = S) (hr : rdP S = rdP (aS A)) (hm : ∀ x, x ∈ m → ¬ x.1 = 0) (hL : ML τ (aL A ++ m)) (h29 : τ 32 29 = σ 32 29 + nI (cNo m)) (h30 : τ 32 30 = σ 32 30 + nI (cOt m)) : MA τ n (aPut A S m) := by
  obtain ⟨⟨h1, h2⟩, ⟨_, h3, h4⟩, h5, h6, h7, h8⟩ := h
  obtain ⟨c1, c2⟩ := cNo_0 hm
  refine ⟨⟨hS, fun a ha => ?_⟩, ⟨hL, ?_, ?_⟩, fun a ha => ?_, fun r a hr' ha => ?_, fun w a b q hw ha hb hq => ?_, fun a b q ha hb hq hc => ?_⟩
  · rw [hF.at (by decide)]
    show _ = nI (rdP S a)
    rw [hr]; exact h2 a ha
  · rw [h29, c1, h3]; exact Int32.add_zero _
  · rw [h30, c2, h4]; rfl
  · rw [hF.at (by decide), hF.at (by decide)]; exact h5 a ha
  · rw [hF.at (by decide)]
    have hr' : r ≤ rdP S a := hr'
    rw [hr] at hr'
    exact h6 r a hr' ha
  · rw [hF.at (by decide)]; exact h7 w a b q hw ha hb hq
  · rw [hF.at (by decide)]; exact h8 a b q ha hb hq hc
theorem s_Mo_becomeFirm2 (G : zG) (σ : zSt) (a : Nat) (hT : MT σ n R W p src mk len lk pa up) (hA : MA σ n A) (hW : W = 2) (ha : a < n) (hl : (aL A).length + 24 ≤ 4000) :
    zV G 2 M_Mo_becomeFirm [zf G 32, .int (nI a)] σ (fun τ => MF [36, 37, 38, 39, 40, 51] [27, 29, 30] σ τ ∧ MA τ n (aFirm n pa up A a)) := by
  refine zSpec.of (by decide) (Nat.le_of_ble_eq_true rfl) rfl (fun X E => ?_)
  have hn12 : n ≤ 12 := hT.1.2.2.1
  have ia : vp_in (nI a) 12 := vp_in_nI (by omega) (by decide)
  have ca : (nI a).toNatClampNeg = a := nI_clamp (by omega)
  refine b_Mo_becomeFirm_0 E (nI a) σ ⟨ia, fun σ1 e1 => ⟨ia, ?_⟩⟩
  rw [ca] at e1
  have h1 : ∀ c, c ≠ 39 → σ1 c = σ c := fun c hc => by rw [e1, zup_ne hc]
  have f1 : MF [36, 37, 38, 39, 40, 51] [27, 29, 30] σ σ1 := by rw [e1]; exact MF.rf.up (by decide) (by decide)
  have hT1 := hT.of f1 (by decide) (by decide)
  have r1 : σ1 35 a = nI (rdP (aS A) a) := by rw [h1 35 (by decide)]; exact hA.1.2 a ha
  have L1 : ML σ1 (aL A) := hA.2.1.1.of (by rw [h1 32 (by decide)]) (h1 51 (by decide))
  rw [ca, r1]
  have flen : (ltrs 5 a (rdP (aS A) a) 0 (lows n up a)).length ≤ n := by rw [ltrs_len]; exact selL_len n
  refine ⟨_, s_Mo_toLower2 G σ1 a _ (aL A) 5 hT1 ha L1 (by omega), fun σ2 k1 => ?_⟩
  have fin : ∀ τ : zSt, SN σ1 τ (aL A) (ltrs 5 a (rdP (aS A) a) 0 (lows n up a) ++ ltrs 2 a (rdP (aS A) a) 0 (pars n pa a)) → (none : Option Value) = none ∧ MF [36, 37, 38, 39, 40, 51] [27, 29, 30] σ τ ∧ MA τ n (aFirm n pa up A a) := by
    intro τ g
    have fτ : MF [36, 37, 38, 39, 40, 51] [27, 29, 30] σ τ := f1.tr (g.1.mono (by decide) (by decide))
    refine ⟨rfl, fτ, hA.put fτ ?_ rfl (fun x hx => ?_) g.2.1 (by rw [g.2.2.1, h1 32 (by decide)]) (by rw [g.2.2.2, h1 32 (by decide)])⟩
    · rw [← hA.1.1]
      exact psS_fi (by rw [g.1.at (by decide), h1 35 (by decide)]) (by rw [g.1.at (by decide), h1 36 (by decide)]) (by rw [g.1.at (by decide), h1 37 (by decide)]) (by rw [g.1.at (by decide), h1 38 (by decide)]) (by rw [g.1.at (by decide), e1, zup_self]) (by rw [g.1.at (by decide), h1 40 (by decide)])
    · rcases List.mem_append.mp hx with e | e
      · obtain ⟨b, _, rfl⟩ := ltrs_mem.mp e; exact (show ¬ (5 : Int32) = 0 by decide)
      · obtain ⟨b, _, rfl⟩ := ltrs_mem.mp e; exact (show ¬ (2 : Int32) = 0 by decide)
  refine z_for n (fun i τ => zZ G M_Mo_becomeFirm 2 X (fun rr τ => rr = none ∧ MF [36, 37, 38, 39, 40, 51] [27, 29, 30] σ τ ∧ MA τ n (aFirm n pa up A a)) 21 [(0, zf G 32), (1, .int (nI a)), (2, .int (nI i))] [] τ) (fun i τ => SN σ1 τ (aL A) (ltrs 5 a (rdP (aS A) a) 0 (lows n up a) ++ ltrs 2 a (rdP (aS A) a) 0 (selL (fun b => pa a b) i))) ?_ ?_ 0 σ2 (Nat.zero_le _) (by
    show SN σ1 σ2 (aL A) (ltrs 5 a (rdP (aS A) a) 0 (lows n up a) ++ [])
    rw [List.append_nil]; exact k1)
  · intro i τ hi g ih
    have hTτ := hT1.of g.1 (by decide) (by decide)
    have et35 : τ 35 a = nI (rdP (aS A) a) := by rw [g.1.at (by decide)]; exact r1
    have hlen : (ltrs 2 a (rdP (aS A) a) 0 (selL (fun b => pa a b) i)).length ≤ i := by rw [ltrs_len]; exact selL_len i
    have epa := hTτ.2.2.2.2.2.2.2 (by omega) a i ha hi
    have cab : (((12 : Int32) * nI a) + nI i).toNatClampNeg = 12 * a + i := by rw [zi12']; exact nI_clamp (by omega)
    refine b_Mo_becomeFirm_21 E (nI a) (nI i) τ ⟨fun q => absurd q (by rw [hTτ.1.1]; exact nI_ge hi (by omega)), fun _ => ⟨by rw [zi12']; exact vp_in_nI (by omega) (by decide), fun hz => ?_, fun hz => ⟨ia, ?_⟩⟩⟩
    · rw [nI_1]
      refine ih τ ?_
      rw [cab] at hz
      rw [sel_no (by rw [epa, hz]; simp)]; exact g
    · rw [ca, et35]
      refine ⟨_, s_Mo_send2 G τ _ 2 (nI a) (nI i) _ 0 g.2.1 (by rw [List.length_append, List.length_append]; omega), fun σ5 m => ?_⟩
      rw [nI_1]
      refine ih σ5 ?_
      rw [cab] at hz
      rw [sel_yes (by rw [epa]; exact decide_eq_true hz), ← List.append_assoc]
      exact g.tr m
  · intro τ g
    have hTτ := hT1.of g.1 (by decide) (by decide)
    exact b_Mo_becomeFirm_21 E (nI a) (nI n) τ ⟨fun _ => fin τ g, fun q => absurd (by rw [hTτ.1.1]; exact nI_le (Nat.le_refl n) (by omega)) q⟩
end MREF
