-- The reference: a letter comes (handle)
section HANDLE
variable {n R W : Nat} {up : Nat → Option Nat} {c2 c3 c2' c3' : Nat → Nat → Prop} {S : PS} {l : List Lt} {a : Nat}
theorem frs_erase {l : List Lt} {i : Nat} {x : Lt} (h : l[i]? = some x) (c : Nat) : frs l c = frs (l.eraseIdx i) c + (if x.1 = 5 ∧ x.2.2.1 = nI c then 1 else 0) := by
  induction l generalizing i with
  | nil => cases h
  | cons y t ih =>
    cases i with
    | zero =>
      cases h
      simp only [List.eraseIdx_cons_zero, frs, List.countP_cons, decide_eq_true_eq]
    | succ j =>
      have h2 := ih (i := j) h
      simp only [List.eraseIdx_cons_succ, frs, List.countP_cons] at h2 ⊢
      omega
theorem PI.node (h : PI n R W up c2 c3 S l) (hR : R ≤ 20) (ha : a < n) : ph W up S a ≤ (if rdP S a = 0 then 0 else opP S a) + 320 := by
  obtain ⟨n1, n2, n3, -, -⟩ := h.1 a ha
  have b1 := b2i_in (if W = 0 then sfP S a else fiP S a)
  have b2 := b2i_in (raP S a)
  have b3 := b2i_in (dnP S a)
  rw [ph_eq]
  have e1 : ph1 W S a ≤ (if rdP S a = 0 then 0 else opP S a) + 280 := by
    unfold ph1
    by_cases h0 : rdP S a = 0
    · rw [if_pos h0, if_pos h0]; omega
    · rw [if_neg h0, if_neg h0]; omega
  have e2 : ph2 S (up a) ≤ 40 := by
    cases hu : up a with
    | none => simp [ph2]
    | some u =>
      have hu' := (n3 u hu).1
      have h5 := (h.1 u hu').1
      have b4 := b2i_in (fiP S u)
      simp only [ph2]
      by_cases h0 : rdP S u = 0
      · rw [if_pos h0]; omega
      · rw [if_neg h0]; omega
  omega
/-- no node's open falls far below nothing -/
theorem PI.low (h : PI n R W up c2 c3 S l) (hn : n ≤ 12) (hR : R ≤ 20) (ha : a < n) (hr : 1 ≤ rdP S a) : -4000 ≤ opP S a := by
  have h1 : su (ph W up S) n ≤ su (fun b => 332 + (if b = a then ph W up S a - 332 else 0)) n := by
    refine su_le (fun b hb => ?_)
    have e := h.node hR hb
    by_cases hba : b = a
    · simp only [hba, if_true]; omega
    · simp only [hba, if_false]
      by_cases h0 : rdP S b = 0
      · rw [if_pos h0] at e; omega
      · rw [if_neg h0] at e
        have := ((h.1 b hb).2.1 (by omega)).1
        omega
  have h2 : su (fun _ => (332 : Int)) n ≤ n * 332 := su_const (fun _ _ => Int.le_refl _)
  have h3 := h.2.2.2
  have h4 := h.node hR ha
  rw [if_neg (by omega)] at h4
  have e := su_add (f := fun _ => (332 : Int)) (g := fun b => if b = a then ph W up S a - 332 else 0) (n := n)
  rw [su_one ha] at e
  rw [e] at h1
  have h5 : (n : Int) * 332 ≤ 12 * 332 := by omega
  omega
theorem PI.drop {i : Nat} (h : PI n R W up c2 c3 S l) : PI n R W up c2 c3 S (l.eraseIdx i) := by
  obtain ⟨p1, p2, p3⟩ := h.take (i := i)
  refine ⟨p1, p2, p3, ?_⟩
  have h1 := (List.eraseIdx_sublist l i).length_le
  have h2 := h.2.2.2
  omega
theorem PI.swap {i : Nat} {y : Lt} (h : PI n R W up c2 c3 S l) (hi : i < l.length) (hy : VL n R y) (h1 : y.1 = 1) : PI n R W up c2 c3 S (l.eraseIdx i ++ [y]) := by
  obtain ⟨p1, p2, p3⟩ := h.take (i := i)
  have g0 : ∀ c, gos [y] c = 0 := fun c => gos_0 (fun x hx e _ => by
    rw [List.mem_singleton.mp hx, h1] at e; exact absurd e (by decide))
  have f0 : ∀ c, frs [y] c = 0 := fun c => frs_0 (fun x hx e _ => by
    rw [List.mem_singleton.mp hx, h1] at e; exact absurd e (by decide))
  refine ⟨p1, fun x hx => ?_, fun c hc => by rw [gos_app, frs_app, g0, f0]; exact p3 c hc, ?_⟩
  · rcases List.mem_append.mp hx with e | e
    · exact p2 x e
    · rw [List.mem_singleton.mp e]; exact ⟨hy, TL_no (by rw [h1]; decide)⟩
  · rw [List.length_append, List.length_eraseIdx_of_lt hi]
    have h2 := h.2.2.2
    simp
    omega
theorem PI.ack {i : Nat} (h : PI n R W up c2 c3 S l) (hi : i < l.length) (ha : a < n) (hr : 1 ≤ rdP S a) : PI n R W up c2 c3 (setOp S a (opP S a - 1)) (l.eraseIdx i) := by
  obtain ⟨p1, p2, p3⟩ := h.take (i := i)
  refine ⟨fun b hb => ?_, fun x hx => ⟨(p2 x hx).1, (p2 x hx).2.mono rfl rfl (fun _ q => q) (fun _ q => q)⟩, p3, ?_⟩
  · obtain ⟨n1, n2, n3, n4, n5⟩ := p1 b hb
    refine ⟨n1, fun q => ?_, n3, n4, n5⟩
    obtain ⟨k1, k2, k3⟩ := n2 q
    have le : opP (setOp S a (opP S a - 1)) b ≤ opP S b := by
      show fup (opP S) a (opP S a - 1) b ≤ opP S b
      by_cases hba : b = a
      · rw [hba, fup_s]; omega
      · rw [fup_n hba]; exact Int.le_refl _
    exact ⟨by omega, fun e => by have := k2 e; omega, k3⟩
  · rw [List.length_eraseIdx_of_lt hi]
    have h4 := h.2.2.2
    have key := su_up (f := ph W up S) (g := ph W up (setOp S a (opP S a - 1))) (n := n) (a := a) (v := -1) (w := 0) (up := up) ha (fun b hb => ?_) (Or.inl rfl)
    · rw [if_pos rfl] at key; omega
    · rw [ph_eq, ph_eq]
      have e2 : ph2 (setOp S a (opP S a - 1)) (up b) = ph2 S (up b) := rfl
      have e1 : ph1 W S b + (if b = a then -1 else 0) ≤ ph1 W (setOp S a (opP S a - 1)) b := by
        unfold ph1
        show (if rdP S b = 0 then (0 : Int) else _) + _ ≤ (if rdP S b = 0 then (0 : Int) else fup (opP S) a (opP S a - 1) b + 12 * ((rdP S b : Int) - 1 + b2i (if W = 0 then sfP S b else fiP S b)) + ((rdP S b : Int) - 1 + b2i (raP S b)) + ((rdP S b : Int) - 1 + b2i (dnP S b)))
        by_cases hba : b = a
        · subst hba
          rw [if_neg (show ¬ rdP S b = 0 by omega), if_neg (show ¬ rdP S b = 0 by omega), if_pos rfl, fup_s]; omega
        · rw [if_neg hba, fup_n hba]; omega
      rw [e2]
      split <;> omega
theorem PI.cs (h : PI n R W up c2 c3 S l) (m2 : ∀ c q, c2 c q → c2' c q) (m3 : ∀ c q, c3 c q → c3' c q) (k2 : ∀ c, c < n → ∀ q, c2' c q → q ≤ rdP S c ∧ (q = rdP S c → raP S c = true)) (k3 : ∀ c, c < n → ∀ q, c3' c q → q ≤ rdP S c ∧ (q = rdP S c → dnP S c = true)) : PI n R W up c2' c3' S l := by
  refine ⟨fun b hb => ?_, h.2⟩
  obtain ⟨n1, n2, n3, n4, n5⟩ := h.1 b hb
  refine ⟨n1, fun q => ?_, n3, k2 b hb, k3 b hb⟩
  obtain ⟨q1, q2, q3, q4, q5, q6, q7⟩ := n2 q
  exact ⟨q1, q2, q3, q4, q5, fun e c hc hu => m2 _ _ (q6 e c hc hu), fun e c hc hu => m3 _ _ (q7 e c hc hu)⟩
end HANDLE
theorem psS_eq {σ τ : zSt} (e35 : τ 35 = σ 35) (e36 : τ 36 = σ 36) (e37 : τ 37 = σ 37) (e38 : τ 38 = σ 38) (e39 : τ 39 = σ 39) (e40 : τ 40 = σ 40) : psS τ = psS σ := by
  unfold psS
  rw [e35, e36, e37, e38, e39, e40]
theorem upd_nz {f : Nat → Int32} {i j : Nat} (h : ¬ f j = 0) : ¬ upd f i 1 j = 0 := by
  unfold upd
  by_cases e : j = i
  · rw [if_pos e]; decide
  · rw [if_neg e]; exact h
theorem upd_zn {f : Nat → Int32} {i j : Nat} (h : ¬ upd f i 1 j = 0) : j = i ∨ ¬ f j = 0 := by
  unfold upd at h
  by_cases e : j = i
  · exact Or.inl e
  · rw [if_neg e] at h; exact Or.inr h
/-- something came -/
theorem MR_cam {σ τ : zSt} {n R W w t f q : Nat} {v : Int32} {l' : List Lt} (hS : MS σ n R W) (hN : MN σ n) (hP : PI n R W (upS σ) (c2S σ) (c3S σ) (psS σ) l') (ht : t < n) (hf : f < n) (hq : q < 22) (hF : MF [45, 46, 51] [27, 29, 30] σ τ) (e45 : τ 45 = upd (σ 45) (pl w t f q) 1) (e46 : (w = 0 ∧ τ 46 = upd (σ 46) (pl 0 t f q) v ∧ NB q v) ∨ (w ≠ 0 ∧ τ 46 = σ 46))
    (h2 : w = 2 → upS σ f = some t → q ≤ rdP (psS σ) f ∧ (q = rdP (psS σ) f → raP (psS σ) f = true)) (h3 : w = 3 → upS σ f = some t → q ≤ rdP (psS σ) f ∧ (q = rdP (psS σ) f → dnP (psS σ) f = true)) (hM : ML τ l') : psS τ = psS σ ∧ MR τ n R W l' := by
  have hn12 : n ≤ 12 := hS.2.2.1
  have ep : psS τ = psS σ := psS_eq (hF.at (by decide)) (hF.at (by decide)) (hF.at (by decide)) (hF.at (by decide)) (hF.at (by decide)) (hF.at (by decide))
  have e41 : τ 41 = σ 41 := hF.at (by decide)
  have eup : upS τ = upS σ := upS_eq e41
  refine ⟨ep, hS.of (hF.2 0 (by decide)) (hF.2 8 (by decide)) (hF.2 6 (by decide)) e41 (hF.at (by decide)) (hF.at (by decide)), ⟨fun b hb => ?_, fun x y k hx hy hk hne => ?_⟩, hM, ?_⟩
  · rw [ep, hF.at (by decide)]; exact hN.1 b hb
  · rw [e45] at hne
    rcases upd_zn hne with e | e
    · obtain ⟨i1, i2, i3, i4⟩ := pl_inj (by omega) (by omega) hk (by omega) (by omega) hq e
      rcases e46 with ⟨g1, g2, g3⟩ | ⟨g1, _⟩
      · rw [g2, i2, i3, i4]
        unfold upd
        rw [if_pos rfl]; exact g3
      · exact absurd i1.symm g1
    · rcases e46 with ⟨g1, g2, g3⟩ | ⟨g1, g2⟩
      · rw [g2]
        unfold upd
        by_cases ej : pl 0 x y k = pl 0 t f q
        · obtain ⟨_, i2, i3, i4⟩ := pl_inj (by omega) (by omega) hk (by omega) (by omega) hq ej
          rw [if_pos ej, i4]; exact g3
        · rw [if_neg ej]; exact hN.2 x y k hx hy hk e
      · rw [g2]; exact hN.2 x y k hx hy hk e
  · rw [eup, ep]
    refine hP.cs (fun c k ⟨a1, u, a2, a3⟩ => ⟨a1, u, by rw [eup]; exact a2, by rw [e45]; exact upd_nz a3⟩) (fun c k ⟨a1, u, a2, a3⟩ => ⟨a1, u, by rw [eup]; exact a2, by rw [e45]; exact upd_nz a3⟩) (fun c hc k hk => ?_) (fun c hc k hk => ?_)
    · obtain ⟨a1, u, a2, a3⟩ := hk
      rw [eup] at a2
      have hu := (upS_of hS.2.2.2.2.2.2.2.2.1 hn12 hc a2).1
      rw [e45] at a3
      rcases upd_zn a3 with e | e
      · obtain ⟨i1, i2, i3, i4⟩ := pl_inj (by omega) (by omega) a1 (by omega) (by omega) hq e
        subst i2 i3 i4
        exact h2 i1.symm a2
      · exact (hP.1 c hc).2.2.2.1 k ⟨a1, u, a2, e⟩
    · obtain ⟨a1, u, a2, a3⟩ := hk
      rw [eup] at a2
      have hu := (upS_of hS.2.2.2.2.2.2.2.2.1 hn12 hc a2).1
      rw [e45] at a3
      rcases upd_zn a3 with e | e
      · obtain ⟨i1, i2, i3, i4⟩ := pl_inj (by omega) (by omega) a1 (by omega) (by omega) hq e
        subst i2 i3 i4
        exact h3 i1.symm a2
      · exact (hP.1 c hc).2.2.2.2 k ⟨a1, u, a2, e⟩
theorem psS_op {σ τ : zSt} {a : Nat} {v : Int32} (e35 : τ 35 = σ 35) (e36 : τ 36 = upd (σ 36) a v) (e37 : τ 37 = σ 37) (e38 : τ 38 = σ 38) (e39 : τ 39 = σ 39) (e40 : τ 40 = σ 40) : psS τ = setOp (psS σ) a v.toInt := by
  unfold psS
  rw [e35, e36, e37, e38, e39, e40]
  refine Prod.ext rfl (Prod.ext ?_ rfl)
  funext b
  show (upd (σ 36) a v b).toInt = fup (fun a => (σ 36 a).toInt) a v.toInt b
  unfold upd fup
  by_cases h : b = a
  · rw [if_pos h, if_pos h]
  · rw [if_neg h, if_neg h]
theorem i32_dec {x : Int32} (h : -100000 ≤ x.toInt ∧ x.toInt ≤ 100000) : (x - 1).toInt = x.toInt - 1 := by
  have e : x - 1 = x + (-1) := by
    have h1 : (-1 : Int32) = -(1 : Int32) := rfl
    rw [h1, Int32.sub_eq_add_neg]
  have h2 : (-1 : Int32).toInt = -1 := by decide
  rw [e, i32_add h (by rw [h2]; omega), h2]
  omega
theorem i32_of {x : Int32} {k : Nat} (hk : k < 2 ^ 31) (h : x.toInt = (k : Int)) : x = nI k := Int32.toInt_inj.mp (by rw [h, nI_toInt hk])
