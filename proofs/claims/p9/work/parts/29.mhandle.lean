-- The reference: a letter comes (handle)
section HANDLE
variable {n R W : Nat} {up : Nat → Option Nat} {c2 c3 c2' c3' : Nat → Nat → Prop} {S : PS} {l : List Lt} {a : Nat}
theorem frs_erase {l : List Lt} {i : Nat} {x : Lt} (h : l[i]? = some x) (c : Nat) : frs l c = frs (l.eraseIdx i) c + (if x.1 = 5 ∧ x.2.2.1 = nI c then 1 else 0) := by
  induction l generalizing i with
  | nil => cases h
  | cons y t ih =>
    cases i with
    | zero =>
      cases h
      simp only [List.eraseIdx_cons_zero, frs, List.countP_cons, decide_eq_true_eq]
    | succ j =>
      have h2 := ih (i := j) h
      simp only [List.eraseIdx_cons_succ, frs, List.countP_cons] at h2 ⊢
      omega
theorem PI.node (h : PI n R W up c2 c3 S l) (hR : R ≤ 20) (ha : a < n) : ph W up S a ≤ (if rdP S a = 0 then 0 else opP S a) + 320 := by
  obtain ⟨n1, n2, n3, -, -⟩ := h.1 a ha
  have b1 := b2i_in (if W = 0 then sfP S a else fiP S a)
  have b2 := b2i_in (raP S a)
  have b3 := b2i_in (dnP S a)
  rw [ph_eq]
  have e1 : ph1 W S a ≤ (if rdP S a = 0 then 0 else opP S a) + 280 := by
    unfold ph1
    by_cases h0 : rdP S a = 0
    · rw [if_pos h0, if_pos h0]; omega
    · rw [if_neg h0, if_neg h0]; omega
  have e2 : ph2 S (up a) ≤ 40 := by
    cases hu : up a with
    | none => simp [ph2]
    | some u =>
      have hu' := (n3 u hu).1
      have h5 := (h.1 u hu').1
      have b4 := b2i_in (fiP S u)
      simp only [ph2]
      by_cases h0 : rdP S u = 0
      · rw [if_pos h0]; omega
      · rw [if_neg h0]; omega
  omega
/-- no node's open falls far below nothing -/
theorem PI.low (h : PI n R W up c2 c3 S l) (hn : n ≤ 12) (hR : R ≤ 20) (ha : a < n) (hr : 1 ≤ rdP S a) : -4000 ≤ opP S a := by
  have h1 : su (ph W up S) n ≤ su (fun b => 332 + (if b = a then ph W up S a - 332 else 0)) n := by
    refine su_le (fun b hb => ?_)
    have e := h.node hR hb
    by_cases hba : b = a
    · simp only [hba, if_true]; omega
    · simp only [hba, if_false]
      by_cases h0 : rdP S b = 0
      · rw [if_pos h0] at e; omega
      · rw [if_neg h0] at e
        have := ((h.1 b hb).2.1 (by omega)).1
        omega
  have h2 : su (fun _ => (332 : Int)) n ≤ n * 332 := su_const (fun _ _ => Int.le_refl _)
  have h3 := h.2.2.2
  have h4 := h.node hR ha
  rw [if_neg (by omega)] at h4
  have e := su_add (f := fun _ => (332 : Int)) (g := fun b => if b = a then ph W up S a - 332 else 0) (n := n)
  rw [su_one ha] at e
  rw [e] at h1
  have h5 : (n : Int) * 332 ≤ 12 * 332 := by omega
  omega
theorem PI.drop {i : Nat} (h : PI n R W up c2 c3 S l) : PI n R W up c2 c3 S (l.eraseIdx i) := by
  obtain ⟨p1, p2, p3⟩ := h.take (i := i)
  refine ⟨p1, p2, p3, ?_⟩
  have h1 := (List.eraseIdx_sublist l i).length_le
  have h2 := h.2.2.2
  omega
theorem PI.swap {i : Nat} {y : Lt} (h : PI n R W up c2 c3 S l) (hi : i < l.length) (hy : VL n R y) (h1 : y.1 = 1) : PI n R W up c2 c3 S (l.eraseIdx i ++ [y]) := by
  obtain ⟨p1, p2, p3⟩ := h.take (i := i)
  have g0 : ∀ c, gos [y] c = 0 := fun c => gos_0 (fun x hx e _ => by
    rw [List.mem_singleton.mp hx, h1] at e; exact absurd e (by decide))
  have f0 : ∀ c, frs [y] c = 0 := fun c => frs_0 (fun x hx e _ => by
    rw [List.mem_singleton.mp hx, h1] at e; exact absurd e (by decide))
  refine ⟨p1, fun x hx => ?_, fun c hc => by rw [gos_app, frs_app, g0, f0]; exact p3 c hc, ?_⟩
  · rcases List.mem_append.mp hx with e | e
    · exact p2 x e
    · rw [List.mem_singleton.mp e]; exact ⟨hy, TL_no (by rw [h1]; decide)⟩
  · rw [List.length_append, List.length_eraseIdx_of_lt hi]
    have h2 := h.2.2.2
    simp
    omega
theorem PI.ack {i : Nat} (h : PI n R W up c2 c3 S l) (hi : i < l.length) (ha : a < n) (hr : 1 ≤ rdP S a) : PI n R W up c2 c3 (setOp S a (opP S a - 1)) (l.eraseIdx i) := by
  obtain ⟨p1, p2, p3⟩ := h.take (i := i)
  refine ⟨fun b hb => ?_, fun x hx => ⟨(p2 x hx).1, (p2 x hx).2.mono rfl rfl (fun _ q => q) (fun _ q => q)⟩, p3, ?_⟩
  · obtain ⟨n1, n2, n3, n4, n5⟩ := p1 b hb
    refine ⟨n1, fun q => ?_, n3, n4, n5⟩
    obtain ⟨k1, k2, k3⟩ := n2 q
    have le : opP (setOp S a (opP S a - 1)) b ≤ opP S b := by
      show fup (opP S) a (opP S a - 1) b ≤ opP S b
      by_cases hba : b = a
      · rw [hba, fup_s]; omega
      · rw [fup_n hba]; exact Int.le_refl _
    exact ⟨by omega, fun e => by have := k2 e; omega, k3⟩
  · rw [List.length_eraseIdx_of_lt hi]
    have h4 := h.2.2.2
    have key := su_up (f := ph W up S) (g := ph W up (setOp S a (opP S a - 1))) (n := n) (a := a) (v := -1) (w := 0) (up := up) ha (fun b hb => ?_) (Or.inl rfl)
    · rw [if_pos rfl] at key; omega
    · rw [ph_eq, ph_eq]
      have e2 : ph2 (setOp S a (opP S a - 1)) (up b) = ph2 S (up b) := rfl
      have e1 : ph1 W S b + (if b = a then -1 else 0) ≤ ph1 W (setOp S a (opP S a - 1)) b := by
        unfold ph1
        show (if rdP S b = 0 then (0 : Int) else _) + _ ≤ (if rdP S b = 0 then (0 : Int) else fup (opP S) a (opP S a - 1) b + 12 * ((rdP S b : Int) - 1 + b2i (if W = 0 then sfP S b else fiP S b)) + ((rdP S b : Int) - 1 + b2i (raP S b)) + ((rdP S b : Int) - 1 + b2i (dnP S b)))
        by_cases hba : b = a
        · subst hba
          rw [if_neg (show ¬ rdP S b = 0 by omega), if_neg (show ¬ rdP S b = 0 by omega), if_pos rfl, fup_s]; omega
        · rw [if_neg hba, fup_n hba]; omega
      rw [e2]
      split <;> omega
theorem PI.cs (h : PI n R W up c2 c3 S l) (m2 : ∀ c q, c2 c q → c2' c q) (m3 : ∀ c q, c3 c q → c3' c q) (k2 : ∀ c, c < n → ∀ q, c2' c q → q ≤ rdP S c ∧ (q = rdP S c → raP S c = true)) (k3 : ∀ c, c < n → ∀ q, c3' c q → q ≤ rdP S c ∧ (q = rdP S c → dnP S c = true)) : PI n R W up c2' c3' S l := by
  refine ⟨fun b hb => ?_, h.2⟩
  obtain ⟨n1, n2, n3, n4, n5⟩ := h.1 b hb
  refine ⟨n1, fun q => ?_, n3, k2 b hb, k3 b hb⟩
  obtain ⟨q1, q2, q3, q4, q5, q6, q7⟩ := n2 q
  exact ⟨q1, q2, q3, q4, q5, fun e c hc hu => m2 _ _ (q6 e c hc hu), fun e c hc hu => m3 _ _ (q7 e c hc hu)⟩
end HANDLE
theorem psS_eq {σ τ : zSt} (e35 : τ 35 = σ 35) (e36 : τ 36 = σ 36) (e37 : τ 37 = σ 37) (e38 : τ 38 = σ 38) (e39 : τ 39 = σ 39) (e40 : τ 40 = σ 40) : psS τ = psS σ := by
  unfold psS
  rw [e35, e36, e37, e38, e39, e40]
theorem upd_nz {f : Nat → Int32} {i j : Nat} (h : ¬ f j = 0) : ¬ upd f i 1 j = 0 := by
  unfold upd
  by_cases e : j = i
  · rw [if_pos e]; decide
  · rw [if_neg e]; exact h
theorem upd_zn {f : Nat → Int32} {i j : Nat} (h : ¬ upd f i 1 j = 0) : j = i ∨ ¬ f j = 0 := by
  unfold upd at h
  by_cases e : j = i
  · exact Or.inl e
  · rw [if_neg e] at h; exact Or.inr h
/-- something came -/
theorem MR_cam {σ τ : zSt} {n R W w t f q : Nat} {v : Int32} {l' : List Lt} (hS : MS σ n R W) (hN : MN σ n) (hP : PI n R W (upS σ) (c2S σ) (c3S σ) (psS σ) l') (ht : t < n) (hf : f < n) (hq : q < 22) (hF : MF [45, 46, 51] [27, 29, 30] σ τ) (e45 : τ 45 = upd (σ 45) (pl w t f q) 1) (e46 : (w = 0 ∧ τ 46 = upd (σ 46) (pl 0 t f q) v ∧ NB q v) ∨ (w ≠ 0 ∧ τ 46 = σ 46))
    (h2 : w = 2 → upS σ f = some t → q ≤ rdP (psS σ) f ∧ (q = rdP (psS σ) f → raP (psS σ) f = true)) (h3 : w = 3 → upS σ f = some t → q ≤ rdP (psS σ) f ∧ (q = rdP (psS σ) f → dnP (psS σ) f = true)) (hM : ML τ l') : psS τ = psS σ ∧ MR τ n R W l' := by
  have hn12 : n ≤ 12 := hS.2.2.1
  have ep : psS τ = psS σ := psS_eq (hF.at (by decide)) (hF.at (by decide)) (hF.at (by decide)) (hF.at (by decide)) (hF.at (by decide)) (hF.at (by decide))
  have e41 : τ 41 = σ 41 := hF.at (by decide)
  have eup : upS τ = upS σ := upS_eq e41
  refine ⟨ep, hS.of (hF.2 0 (by decide)) (hF.2 8 (by decide)) (hF.2 6 (by decide)) e41 (hF.at (by decide)) (hF.at (by decide)), ⟨fun b hb => ?_, fun x y k hx hy hk hne => ?_⟩, hM, ?_⟩
  · rw [ep, hF.at (by decide)]; exact hN.1 b hb
  · rw [e45] at hne
    rcases upd_zn hne with e | e
    · obtain ⟨i1, i2, i3, i4⟩ := pl_inj (by omega) (by omega) hk (by omega) (by omega) hq e
      rcases e46 with ⟨g1, g2, g3⟩ | ⟨g1, _⟩
      · rw [g2, i2, i3, i4]
        unfold upd
        rw [if_pos rfl]; exact g3
      · exact absurd i1.symm g1
    · rcases e46 with ⟨g1, g2, g3⟩ | ⟨g1, g2⟩
      · rw [g2]
        unfold upd
        by_cases ej : pl 0 x y k = pl 0 t f q
        · obtain ⟨_, i2, i3, i4⟩ := pl_inj (by omega) (by omega) hk (by omega) (by omega) hq ej
          rw [if_pos ej, i4]; exact g3
        · rw [if_neg ej]; exact hN.2 x y k hx hy hk e
      · rw [g2]; exact hN.2 x y k hx hy hk e
  · rw [eup, ep]
    refine hP.cs (fun c k ⟨a1, u, a2, a3⟩ => ⟨a1, u, by rw [eup]; exact a2, by rw [e45]; exact upd_nz a3⟩) (fun c k ⟨a1, u, a2, a3⟩ => ⟨a1, u, by rw [eup]; exact a2, by rw [e45]; exact upd_nz a3⟩) (fun c hc k hk => ?_) (fun c hc k hk => ?_)
    · obtain ⟨a1, u, a2, a3⟩ := hk
      rw [eup] at a2
      have hu := (upS_of hS.2.2.2.2.2.2.2.2.1 hn12 hc a2).1
      rw [e45] at a3
      rcases upd_zn a3 with e | e
      · obtain ⟨i1, i2, i3, i4⟩ := pl_inj (by omega) (by omega) a1 (by omega) (by omega) hq e
        subst i2 i3 i4
        exact h2 i1.symm a2
      · exact (hP.1 c hc).2.2.2.1 k ⟨a1, u, a2, e⟩
    · obtain ⟨a1, u, a2, a3⟩ := hk
      rw [eup] at a2
      have hu := (upS_of hS.2.2.2.2.2.2.2.2.1 hn12 hc a2).1
      rw [e45] at a3
      rcases upd_zn a3 with e | e
      · obtain ⟨i1, i2, i3, i4⟩ := pl_inj (by omega) (by omega) a1 (by omega) (by omega) hq e
        subst i2 i3 i4
        exact h3 i1.symm a2
      · exact (hP.1 c hc).2.2.2.2 k ⟨a1, u, a2, e⟩
theorem psS_op {σ τ : zSt} {a : Nat} {v : Int32} (e35 : τ 35 = σ 35) (e36 : τ 36 = upd (σ 36) a v) (e37 : τ 37 = σ 37) (e38 : τ 38 = σ 38) (e39 : τ 39 = σ 39) (e40 : τ 40 = σ 40) : psS τ = setOp (psS σ) a v.toInt := by
  unfold psS
  rw [e35, e36, e37, e38, e39, e40]
  refine Prod.ext rfl (Prod.ext ?_ rfl)
  funext b
  show (upd (σ 36) a v b).toInt = fup (fun a => (σ 36 a).toInt) a v.toInt b
  unfold upd fup
  by_cases h : b = a
  · rw [if_pos h, if_pos h]
  · rw [if_neg h, if_neg h]
theorem i32_dec {x : Int32} (h : -100000 ≤ x.toInt ∧ x.toInt ≤ 100000) : (x - 1).toInt = x.toInt - 1 := by
  have e : x - 1 = x + (-1) := by
    have h1 : (-1 : Int32) = -(1 : Int32) := rfl
    rw [h1, Int32.sub_eq_add_neg]
  have h2 : (-1 : Int32).toInt = -1 := by decide
  rw [e, i32_add h (by rw [h2]; omega), h2]
  omega
theorem i32_of {x : Int32} {k : Nat} (hk : k < 2 ^ 31) (h : x.toInt = (k : Int)) : x = nI k := Int32.toInt_inj.mp (by rw [h, nI_toInt hk])
theorem kne_1_0 : ¬ (1 : Int32) = 0 := by decide
abbrev FHan : List Nat := [35, 36, 37, 38, 39, 40, 45, 46, 47, 48, 49, 51, 54, 55]
/-- every node has begun; without trees none has an upper -/
def MG (σ : zSt) (n W : Nat) : Prop := (∀ a, a < n → 1 ≤ rdP (psS σ) a) ∧ (W = 0 → ∀ c, c < n → upS σ c = none)
-- the block at 224 with the locals that are there at each way to it
theorem b_Mo_handle_224x {G : zG} {X : zX} {post : Option Value → zSt → Prop} (E : zCtx G M_Mo_handle (zKm G 4 X post) X) (v2 : Int32) (v3 : Int32) (v4 : Int32) (v5 : Int32) (σ : zSt)
    (h : ((¬ v2 = (2 : Int32) → ((¬ v2 = (3 : Int32) → (vp_in ((((3 : Int32) * 12 + v4) * 12 + v3) * 22 + v5) 12672 ∧ ∀ σ1 : zSt, σ1 = zup σ 45 ((((3 : Int32) * 12 + v4) * 12 + v3) * 22 + v5).toNatClampNeg (1 : Int32) → (∃ P : zSt → Prop, zV G 3 M_Mo_goOn [zf G 32, .int v4] σ1 P ∧ ∀ σ2 : zSt, P σ2 → post (some (.int v2)) σ2))) ∧ (v2 = (3 : Int32) → (vp_in ((((2 : Int32) * 12 + v4) * 12 + v3) * 22 + v5) 12672 ∧ ∀ σ3 : zSt, σ3 = zup σ 45 ((((2 : Int32) * 12 + v4) * 12 + v3) * 22 + v5).toNatClampNeg (1 : Int32) → (∃ P : zSt → Prop, zV G 3 M_Mo_goOn [zf G 32, .int v4] σ3 P ∧ ∀ σ4 : zSt, P σ4 → post (some (.int v2)) σ4))))) ∧ (v2 = (2 : Int32) → (vp_in ((((1 : Int32) * 12 + v4) * 12 + v3) * 22 + v5) 12672 ∧ ∀ σ5 : zSt, σ5 = zup σ 45 ((((1 : Int32) * 12 + v4) * 12 + v3) * 22 + v5).toNatClampNeg (1 : Int32) → (∃ P : zSt → Prop, zV G 3 M_Mo_goOn [zf G 32, .int v4] σ5 P ∧ ∀ σ6 : zSt, P σ6 → post (some (.int v2)) σ6))))) :
    zZ G M_Mo_handle 4 X post 224 [(0, zf G 32), (2, .int v2), (3, .int v3), (4, .int v4), (5, .int v5)] [] σ := by
  refine z_aload_n E 0 d_Mo_handle_224 rfl rfl ?_
  refine z_getR E f_Mo_47 d_Mo_handle_225 ?_
  refine z_aload_n E 0 d_Mo_handle_228 rfl rfl ?_
  refine z_iload_n E 1 d_Mo_handle_229 rfl rfl ?_
  refine z_iconst E (v := 2) d_Mo_handle_230 (by decide) ?_
  refine z_icmp_ne E d_Mo_handle_231 (tgt := 238) (by decide) ⟨fun q => ?_, fun q => ?_⟩
  · replace h := h.1 q
    refine z_iload_n E 1 d_Mo_handle_238 rfl rfl ?_
    refine z_iconst E (v := 3) d_Mo_handle_239 (by decide) ?_
    refine z_icmp_ne E d_Mo_handle_240 (tgt := 247) (by decide) ⟨fun q => ?_, fun q => ?_⟩
    · replace h := h.1 q
      refine z_iconst E (v := 3) d_Mo_handle_247 (by decide) ?_
      refine z_iload E 3 d_Mo_handle_248 rfl ?_
      refine z_iload_n E 2 d_Mo_handle_250 rfl rfl ?_
      refine z_iload E 4 d_Mo_handle_251 rfl ?_
      refine z_callVIp [.int (3 : Int32), .int v4, .int v3, .int v5] [zf G 45] E (p_Mo_place G σ (3 : Int32) v4 v3 v5) c_Mo_162 r_Mo_place rfl zrm rfl (Nat.le_of_ble_eq_true rfl) d_Mo_handle_253 ?_
      refine z_iconst E (v := 1) d_Mo_handle_256 (by decide) ?_
      obtain ⟨h0, h⟩ := h
      refine z_zast E rfl d_Mo_handle_257 (y := (1 : Int32)) rfl ⟨h0, fun σ1 e => ?_⟩
      replace h := h σ1 e
      refine z_aload_n E 0 d_Mo_handle_258 rfl rfl ?_
      refine z_iload E 3 d_Mo_handle_259 rfl ?_
      obtain ⟨P, hM, h⟩ := h
      refine z_callVV [.int v4] [] E hM c_Mo_190 r_Mo_goOn rfl zrm rfl (Nat.le_of_ble_eq_true rfl) d_Mo_handle_261 (fun σ2 hp => ?_)
      replace h := h σ2 hp
      refine z_iload_n E 1 d_Mo_handle_264 rfl rfl ?_
      exact z_ireturn E rfl d_Mo_handle_265 h
    · replace h := h.2 q
      refine z_iconst E (v := 2) d_Mo_handle_243 (by decide) ?_
      refine z_goto E d_Mo_handle_244 (tgt := 248) (by decide) ?_
      refine z_iload E 3 d_Mo_handle_248 rfl ?_
      refine z_iload_n E 2 d_Mo_handle_250 rfl rfl ?_
      refine z_iload E 4 d_Mo_handle_251 rfl ?_
      refine z_callVIp [.int (2 : Int32), .int v4, .int v3, .int v5] [zf G 45] E (p_Mo_place G σ (2 : Int32) v4 v3 v5) c_Mo_162 r_Mo_place rfl zrm rfl (Nat.le_of_ble_eq_true rfl) d_Mo_handle_253 ?_
      refine z_iconst E (v := 1) d_Mo_handle_256 (by decide) ?_
      obtain ⟨h0, h⟩ := h
      refine z_zast E rfl d_Mo_handle_257 (y := (1 : Int32)) rfl ⟨h0, fun σ3 e => ?_⟩
      replace h := h σ3 e
      refine z_aload_n E 0 d_Mo_handle_258 rfl rfl ?_
      refine z_iload E 3 d_Mo_handle_259 rfl ?_
      obtain ⟨P, hM, h⟩ := h
      refine z_callVV [.int v4] [] E hM c_Mo_190 r_Mo_goOn rfl zrm rfl (Nat.le_of_ble_eq_true rfl) d_Mo_handle_261 (fun σ4 hp => ?_)
      replace h := h σ4 hp
      refine z_iload_n E 1 d_Mo_handle_264 rfl rfl ?_
      exact z_ireturn E rfl d_Mo_handle_265 h
  · replace h := h.2 q
    refine z_iconst E (v := 1) d_Mo_handle_234 (by decide) ?_
    refine z_goto E d_Mo_handle_235 (tgt := 248) (by decide) ?_
    refine z_iload E 3 d_Mo_handle_248 rfl ?_
    refine z_iload_n E 2 d_Mo_handle_250 rfl rfl ?_
    refine z_iload E 4 d_Mo_handle_251 rfl ?_
    refine z_callVIp [.int (1 : Int32), .int v4, .int v3, .int v5] [zf G 45] E (p_Mo_place G σ (1 : Int32) v4 v3 v5) c_Mo_162 r_Mo_place rfl zrm rfl (Nat.le_of_ble_eq_true rfl) d_Mo_handle_253 ?_
    refine z_iconst E (v := 1) d_Mo_handle_256 (by decide) ?_
    obtain ⟨h0, h⟩ := h
    refine z_zast E rfl d_Mo_handle_257 (y := (1 : Int32)) rfl ⟨h0, fun σ5 e => ?_⟩
    replace h := h σ5 e
    refine z_aload_n E 0 d_Mo_handle_258 rfl rfl ?_
    refine z_iload E 3 d_Mo_handle_259 rfl ?_
    obtain ⟨P, hM, h⟩ := h
    refine z_callVV [.int v4] [] E hM c_Mo_190 r_Mo_goOn rfl zrm rfl (Nat.le_of_ble_eq_true rfl) d_Mo_handle_261 (fun σ6 hp => ?_)
    replace h := h σ6 hp
    refine z_iload_n E 1 d_Mo_handle_264 rfl rfl ?_
    exact z_ireturn E rfl d_Mo_handle_265 h

set_option maxRecDepth 20000 in
set_option maxHeartbeats 4000000 in
theorem s_Mo_handle (G : zG) (σ : zSt) (n R W i : Nat) (l : List Lt) (h : MR σ n R W l) (hg : MG σ n W) (hi : i < l.length) : zI G 4 M_Mo_handle [zf G 32, .int (nI i)] σ (fun _ τ => MF FHan [27, 29, 30] σ τ ∧ MG τ n W ∧ ∃ l', MR τ n R W l') := by
  refine zSpec.of (by decide) (Nat.le_of_ble_eq_true rfl) rfl (fun X E => ?_)
  obtain ⟨hS, hN, hL, hP⟩ := h
  obtain ⟨hg1, hg2⟩ := hg
  have hn12 : n ≤ 12 := hS.2.2.1
  have hR20 : R ≤ 20 := hS.2.2.2.2.2.1
  have hlen := hP.len hn12 hR20
  obtain ⟨L1, L2, L3⟩ := hL
  have hx : l[i]? = some (mlt σ i) := L3 i hi
  have hm : mlt σ i ∈ l := List.mem_of_getElem? hx
  obtain ⟨⟨⟨k, hk, ek⟩, ⟨f, hf, ef⟩, ⟨t, ht, et⟩, ⟨q, hq1, hqR, eq, hnb⟩⟩, t3, t6, t4, t5⟩ := hP.2.1 _ hm
  have ek' : σ 51 (5 * i) = nI k := ek
  have ef' : σ 51 (5 * i + 1) = nI f := ef
  have et' : σ 51 (5 * i + 2) = nI t := et
  have eq' : σ 51 (5 * i + 3) = nI q := eq
  have it : vp_in (nI t) 12 := vp_in_nI (by omega) (by decide)
  have ct : (nI t).toNatClampNeg = t := nI_clamp (by omega)
  have hgt := gos_erase hx
  have hft := frs_erase hx
  have e5 : (5 : Int32) * nI i = nI (5 * i) := by rw [show (5 : Int32) = nI 5 from rfl, pk_mul]
  have q1 : ((5 : Int32) * nI i) + (1 : Int32) = nI (5 * i + 1) := by rw [e5, show (1 : Int32) = nI 1 from rfl, nI_add]
  have q2 : ((5 : Int32) * nI i) + (2 : Int32) = nI (5 * i + 2) := by rw [e5, show (2 : Int32) = nI 2 from rfl, nI_add]
  have q3 : ((5 : Int32) * nI i) + (3 : Int32) = nI (5 * i + 3) := by rw [e5, show (3 : Int32) = nI 3 from rfl, nI_add]
  have q4 : ((5 : Int32) * nI i) + (4 : Int32) = nI (5 * i + 4) := by rw [e5, show (4 : Int32) = nI 4 from rfl, nI_add]
  refine b_Mo_handle_0 E (nI i) σ ⟨by rw [e5]; exact vp_in_nI (by omega) (by decide), by rw [q1]; exact vp_in_nI (by omega) (by decide), by rw [q2]; exact vp_in_nI (by omega) (by decide), by rw [q3]; exact vp_in_nI (by omega) (by decide), by rw [q4]; exact vp_in_nI (by omega) (by decide), ?_⟩
  rw [q1, q2, q3, q4, e5, nI_clamp (show 5 * i < 2 ^ 31 by omega), nI_clamp (show 5 * i + 1 < 2 ^ 31 by omega), nI_clamp (show 5 * i + 2 < 2 ^ 31 by omega), nI_clamp (show 5 * i + 3 < 2 ^ 31 by omega), nI_clamp (show 5 * i + 4 < 2 ^ 31 by omega), ek', ef', et', eq']
  -- behind the act, the node goes on
  have fin : ∀ (υ : zSt) (l2 : List Lt), MF FHan [27, 29, 30] σ υ → MR υ n R W l2 → (∀ b, b < n → 1 ≤ rdP (psS υ) b) → ∃ P : zSt → Prop, zV G 3 M_Mo_goOn [zf G 32, .int (nI t)] υ P ∧ ∀ σ6 : zSt, P σ6 → ∃ x : Int32, some (Value.int (nI k)) = some (Value.int x) ∧ MF FHan [27, 29, 30] σ σ6 ∧ MG σ6 n W ∧ ∃ l', MR σ6 n R W l' := by
    intro υ l2 g1 g2 g3
    have eup : upS υ = upS σ := upS_eq (g1.at (by decide))
    refine ⟨_, s_Mo_goOn G υ n R W t l2 g2 ht (g3 t ht) (by rw [eup]; exact hg2), fun σ6 ⟨m1, l3, m2⟩ => ⟨_, rfl, g1.tr (m1.1.mono (by decide) (by decide)), ⟨fun b hb => ?_, ?_⟩, l3, m2⟩⟩
    · by_cases hbt : b = t
      · rw [hbt]; exact m1.2.2.2
      · rw [m1.2.2.1 b hbt]; exact g3 b hb
    · rw [upS_eq (m1.1.at (c := 41) (by decide)), eup]; exact hg2
  -- the letter is taken out
  refine z_for (5 * (l.length - 1)) (fun j τ => zZ G M_Mo_handle 4 X (fun r τ => ∃ x : Int32, r = some (.int x) ∧ MF FHan [27, 29, 30] σ τ ∧ MG τ n W ∧ ∃ l', MR τ n R W l') 61 [(0, zf G 32), (2, .int (nI k)), (3, .int (nI f)), (4, .int (nI t)), (5, .int (nI q)), (6, .int (σ 51 (5 * i + 4))), (7, .int (nI j))] [] τ) (fun j τ => 5 * i ≤ j ∧ zFr [51] σ τ ∧ ∀ m, τ 51 m = if 5 * i ≤ m ∧ m < j then σ 51 (m + 5) else σ 51 m) ?_ ?_ (5 * i) σ (by omega) ⟨Nat.le_refl _, zFr.rf, fun m => by rw [if_neg (by omega)]⟩
  · intro j τ hj ⟨g0, g1, g2⟩ ih
    have e27 : τ 32 27 = nI l.length := by rw [g1 32 (by decide)]; exact L1
    have ej : nI j + (5 : Int32) = nI (j + 5) := by rw [show (5 : Int32) = nI 5 from rfl, nI_add]
    refine b_Mo_handle_61 E _ _ _ _ _ (nI j) τ ⟨fun q => absurd q ?_, fun _ => ⟨by rw [ej]; exact vp_in_nI (by omega) (by decide), vp_in_nI (by omega) (by decide), fun σ11 e11 => ?_⟩⟩
    · rw [e27, ej, show (5 : Int32) = nI 5 from rfl, pk_mul]
      exact nI_ge (by omega) (by omega)
    · rw [nI_1]
      rw [ej, nI_clamp (by omega), nI_clamp (by omega)] at e11
      refine ih σ11 ⟨by omega, by rw [e11]; exact g1.up (by decide), fun m => ?_⟩
      rw [e11, zup_self]
      unfold upd
      by_cases hmj : m = j
      · subst hmj
        rw [if_pos rfl, g2 (m + 5), if_neg (by omega), if_pos ⟨g0, by omega⟩]
      · rw [if_neg hmj, g2 m]
        by_cases c1 : 5 * i ≤ m ∧ m < j
        · rw [if_pos c1, if_pos ⟨c1.1, by omega⟩]
        · rw [if_neg c1, if_neg (by omega)]
  · intro τ ⟨_, g1, g2⟩
    have e27 : τ 32 27 = nI l.length := by rw [g1 32 (by decide)]; exact L1
    have ej : nI (5 * (l.length - 1)) + (5 : Int32) = nI (5 * l.length) := by rw [show (5 : Int32) = nI 5 from rfl, nI_add]; congr 1; omega
    refine b_Mo_handle_61 E _ _ _ _ _ (nI (5 * (l.length - 1))) τ ⟨fun _ σ1 e1 => ?_, fun qq => absurd (by rw [e27, ej, show (5 : Int32) = nI 5 from rfl, pk_mul]; exact nI_le (Nat.le_refl _) (by omega)) qq⟩
    rw [e27, show (1 : Int32) = nI 1 from rfl, pk_sub (by omega)] at e1
    have hF1 : MF [51] [27, 29, 30] σ σ1 := by rw [e1]; exact (MF.of g1 (by decide)).fld (by decide)
    have p51 : ∀ m, σ1 51 m = if 5 * i ≤ m ∧ m < 5 * (l.length - 1) then σ 51 (m + 5) else σ 51 m := fun m => by rw [e1, zup_ne (by decide)]; exact g2 m
    have hle : (l.eraseIdx i).length = l.length - 1 := List.length_eraseIdx_of_lt hi
    have LE : ML σ1 (l.eraseIdx i) := by
      refine ⟨by rw [e1, zup_self, hle]; simp [upd], by omega, fun m hm => ?_⟩
      rw [hle] at hm
      rw [List.getElem?_eraseIdx]
      by_cases hmi : m < i
      · rw [if_pos hmi, L3 m (by omega)]
        simp only [mlt, p51]
        rw [if_neg (by omega), if_neg (by omega), if_neg (by omega), if_neg (by omega), if_neg (by omega)]
      · rw [if_neg hmi, L3 (m + 1) (by omega)]
        simp only [mlt, p51]
        rw [if_pos (by omega), if_pos (by omega), if_pos (by omega), if_pos (by omega), if_pos (by omega)]
        rfl
    have ep1 : psS σ1 = psS σ := psS_eq (hF1.at (by decide)) (hF1.at (by decide)) (hF1.at (by decide)) (hF1.at (by decide)) (hF1.at (by decide)) (hF1.at (by decide))
    have e41 : σ1 41 = σ 41 := hF1.at (by decide)
    have e45 : σ1 45 = σ 45 := hF1.at (by decide)
    have eup : upS σ1 = upS σ := upS_eq e41
    have hS1 : MS σ1 n R W := hS.of (hF1.2 0 (by decide)) (hF1.2 8 (by decide)) (hF1.2 6 (by decide)) e41 (hF1.at (by decide)) (hF1.at (by decide))
    have hN1 : MN σ1 n := ⟨fun b hb => by rw [ep1, hF1.at (by decide)]; exact hN.1 b hb, fun x y k hx hy hk hne => by rw [e45] at hne; rw [hF1.at (by decide)]; exact hN.2 x y k hx hy hk hne⟩
    have P1 : PI n R W (upS σ1) (c2S σ1) (c3S σ1) (psS σ1) l := by rw [eup, c2S_eq e41 e45, c3S_eq e41 e45, ep1]; exact hP
    rw [← ep1] at hg1 t3 t6 t4 t5
    rw [← eup] at t3 t6 t4 t5
    have fmo : ∀ {υ : zSt}, MF FHan [27, 29, 30] σ1 υ → MF FHan [27, 29, 30] σ υ := fun h => (hF1.mono (by decide) (by decide)).tr h
    have hkt : (nI k).toInt = (k : Int) := nI_toInt (by omega)
    -- something came
    have cam : ∀ (w : Nat) (σ2 : zSt), w < 4 → w ≠ 0 → σ2 = zup σ1 45 (pl w t f q) 1 → (w = 2 → k = 3) → (w = 3 → k = 6) → ∃ P : zSt → Prop, zV G 3 M_Mo_goOn [zf G 32, .int (nI t)] σ2 P ∧ ∀ σ6 : zSt, P σ6 → ∃ x : Int32, some (Value.int (nI k)) = some (Value.int x) ∧ MF FHan [27, 29, 30] σ σ6 ∧ MG σ6 n W ∧ ∃ l', MR σ6 n R W l' := by
      intro w σ2 hw hw0 e2 hw2 hw3
      have hF2 : MF [45, 46, 51] [27, 29, 30] σ1 σ2 := by rw [e2]; exact MF.rf.up (by decide) (by decide)
      have key := MR_cam (w := w) (t := t) (f := f) (q := q) (v := 0) hS1 hN1 (P1.drop (i := i)) ht hf (by omega) hF2 (by rw [e2, zup_self]) (Or.inr ⟨hw0, by rw [e2, zup_ne (by decide)]⟩) (fun e _ => ?_) (fun e _ => ?_) (LE.of (by rw [e2, zup_ne (by decide)]) (by rw [e2, zup_ne (by decide)]))
      · exact fin σ2 _ (fmo (hF2.mono (by decide) (by decide))) key.2 (by rw [key.1]; exact hg1)
      · obtain ⟨c, u, q', z1, z2, z3, z4, z5, z6, z7, z8⟩ := t3 (by rw [ek, hw2 e]; rfl)
        have zc : f = c := (nI_eq (by omega) (by omega)).mp (ef.symm.trans z3)
        have h20 := (P1.1 c z1).1
        have zq : q = q' := (nI_eq (by omega) (by omega)).mp (eq.symm.trans z6)
        rw [zc, zq]; exact ⟨z7, z8⟩
      · obtain ⟨c, u, q', z1, z2, z3, z4, z5, z6, z7, z8⟩ := t6 (by rw [ek, hw3 e]; rfl)
        have zc : f = c := (nI_eq (by omega) (by omega)).mp (ef.symm.trans z3)
        have h20 := (P1.1 c z1).1
        have zq : q = q' := (nI_eq (by omega) (by omega)).mp (eq.symm.trans z6)
        rw [zc, zq]; exact ⟨z7, z8⟩
    have plw : ∀ w, w < 4 → ((nI w * 12 + nI t) * 12 + nI f) * 22 + nI q = nI (pl w t f q) ∧ vp_in (nI (pl w t f q)) 12672 ∧ (nI (pl w t f q)).toNatClampNeg = pl w t f q := fun w hw => by
      have := pl_lt (w := w) (a := t) (b := f) (r := q) hw (by omega) (by omega) (by omega)
      exact ⟨pl_nI, vp_in_nI this (by decide), nI_clamp (by omega)⟩
    have s224 : k = 2 ∨ k = 3 ∨ k = 6 → zZ G M_Mo_handle 4 X (fun r τ => ∃ x : Int32, r = some (.int x) ∧ MF FHan [27, 29, 30] σ τ ∧ MG τ n W ∧ ∃ l', MR τ n R W l') 224 [(0, zf G 32), (2, .int (nI k)), (3, .int (nI f)), (4, .int (nI t)), (5, .int (nI q))] [] σ1 := by
      intro hkk
      have w1 := plw 1 (by omega)
      have w2 := plw 2 (by omega)
      have w3 := plw 3 (by omega)
      rw [show nI 1 = (1 : Int32) from rfl] at w1
      rw [show nI 2 = (2 : Int32) from rfl] at w2
      rw [show nI 3 = (3 : Int32) from rfl] at w3
      refine b_Mo_handle_224x E (nI k) (nI f) (nI t) (nI q) σ1 ⟨fun h2 => ⟨fun h3 => ⟨by rw [w3.1]; exact w3.2.1, fun σ2 e2 => ?_⟩, fun h3 => ⟨by rw [w2.1]; exact w2.2.1, fun σ2 e2 => ?_⟩⟩, fun h2 => ⟨by rw [w1.1]; exact w1.2.1, fun σ2 e2 => ?_⟩⟩
      · rw [w3.1, w3.2.2] at e2
        refine cam 3 σ2 (by omega) (by omega) e2 (fun e => by omega) (fun _ => ?_)
        have a1 : k ≠ 2 := fun e => h2 (by rw [e]; rfl)
        have a2 : k ≠ 3 := fun e => h3 (by rw [e]; rfl)
        omega
      · rw [w2.1, w2.2.2] at e2
        exact cam 2 σ2 (by omega) (by omega) e2 (fun _ => (nI_eq (b := 3) (by omega) (by decide)).mp h3) (fun e => by omega)
      · rw [w1.1, w1.2.2] at e2
        exact cam 1 σ2 (by omega) (by omega) e2 (fun e => by omega) (fun e => by omega)
    refine ⟨fun hk0 => ?_, fun hk1 => ⟨it, it, fun σ5 e5 => ?_⟩, fun hk2 => s224 (by omega), fun hk3 => s224 (by omega), fun hk4 => ?_, fun hk5 => ?_, fun hk6 => s224 (by omega)⟩
    · -- NOTE
      have w0 := plw 0 (by omega)
      rw [show nI 0 = (0 : Int32) from rfl] at w0
      have k0 : k = 0 := by omega
      refine ⟨by rw [w0.1]; exact w0.2.1, fun σ2 e2 => ⟨by rw [w0.1]; exact vp_in_nI (by unfold pl; omega) (by decide), fun σ3 e3 => ?_⟩⟩
      rw [w0.1, w0.2.2] at e2 e3
      refine ⟨_, s_Mo_send G σ3 (l.eraseIdx i) 1 (nI t) (nI f) (nI q) 0 (LE.of (by rw [e3, zup_ne (by decide), e2, zup_ne (by decide)]) (by rw [e3, zup_ne (by decide), e2, zup_ne (by decide)])) (by omega), fun σ4 ⟨m1, m2⟩ => ?_⟩
      have hF4 : MF [45, 46, 51] [27, 29, 30] σ1 σ4 := by
        refine MF.tr (τ := σ3) ?_ (m1.mono (by decide) (by decide))
        rw [e3, e2]; exact (MF.rf.up (by decide) (by decide)).up (by decide) (by decide)
      have key := MR_cam (w := 0) (t := t) (f := f) (q := q) (v := σ 51 (5 * i + 4)) hS1 hN1 (P1.swap (i := i) (y := (1, nI t, nI f, nI q, 0)) hi ⟨⟨1, by omega, rfl⟩, ⟨t, ht, rfl⟩, ⟨f, hf, rfl⟩, ⟨q, hq1, hqR, rfl, fun e => absurd e kne_1_0⟩⟩ rfl) ht hf (by omega) hF4 (by rw [m1.at (by decide), e3, zup_ne (by decide), e2, zup_self]) (Or.inl ⟨rfl, by rw [m1.at (by decide), e3, zup_self, e2, zup_ne (by decide)], hnb (by rw [ek, k0]; rfl)⟩) (fun e => absurd e (by decide)) (fun e => absurd e (by decide)) m2
      exact ⟨_, rfl, fmo (hF4.mono (by decide) (by decide)), ⟨by rw [key.1]; exact hg1, by rw [upS_eq (hF4.at (c := 41) (by decide)), eup]; exact hg2⟩, _, key.2⟩
    · -- ACK
      rw [ct] at e5
      have h5 : ∀ c, c ≠ 36 → σ5 c = σ1 c := fun c hc => by rw [e5, zup_ne hc]
      have hlo := P1.low hn12 hR20 ht (hg1 t ht)
      have hhi := ((P1.1 t ht).2.1 (hg1 t ht)).1
      have eop : opP (psS σ1) t = (σ1 36 t).toInt := rfl
      have ep5 : psS σ5 = setOp (psS σ1) t (opP (psS σ1) t - 1) := by
        rw [eop, ← i32_dec (x := σ1 36 t) (by omega)]
        exact psS_op (h5 35 (by decide)) (by rw [e5, zup_self]) (h5 37 (by decide)) (h5 38 (by decide)) (h5 39 (by decide)) (h5 40 (by decide))
      have hF5 : MF [36, 51] [27, 29, 30] σ1 σ5 := by rw [e5]; exact MF.rf.up (by decide) (by decide)
      exact fin σ5 _ (fmo (hF5.mono (by decide) (by decide))) (MR_mk hS1 hN1 hF5 (by decide) (by decide) ep5 rfl (LE.of (by rw [h5 32 (by decide)]) (h5 51 (by decide))) (P1.ack hi ht (hg1 t ht))) (by rw [ep5]; exact hg1)
    · -- GO
      have k4 : k = 4 := by omega
      obtain ⟨c, u, z1, z2, z3, z4, z5, z6, z7, z8, z9⟩ := t4 (by rw [ek, k4]; rfl)
      have zc : t = c := (nI_eq (by omega) (by omega)).mp (et.symm.trans z3)
      subst zc
      have h20 := (P1.1 t ht).1
      have hu20 := (P1.1 u z2).1
      have zq : q = rdP (psS σ1) t + 1 := (nI_eq (by omega) (by omega)).mp (eq.symm.trans z5)
      have hNL := (P1.1 t ht).2.1 z7
      have hB : BC σ1 n R W t (l.eraseIdx i) := by
        refine ⟨by omega, fun _ => hNL.2.1 (hNL.2.2.1 z8), fun _ c hc hu => ?_, fun v hv => ?_, ?_, ?_, fun e => by omega⟩
        · obtain ⟨y1, y2⟩ := P1.lower ht z7 z8 hc hu
          refine ⟨y1, y2, fun eW => ?_⟩
          have y3 := hNL.2.2.2.2.2.2 (z9 eW) c hc hu
          exact ((P1.1 c hc).2.2.2.2 _ y3).2 y1.symm
        · have : v = u := Option.some.inj (hv.symm.trans z4)
          rw [this]; exact Or.inl z6
        · have a1 := hgt t
          rw [if_pos ⟨by rw [ek, k4]; rfl, et⟩] at a1
          have a2 := (P1.2.2.1 t ht).1
          omega
        · refine frs_0 (fun x hx e1 e2 => ?_)
          obtain ⟨y0, c', u', y1, y2, y3, y4, y5, y6, y7, y8⟩ := (P1.2.1 x (List.mem_of_mem_eraseIdx hx)).2.2.2.2 e1
          have yc : c' = t := (nI_eq (by omega) (by omega)).mp (y3.symm.trans e2)
          subst yc
          have := hNL.2.2.2.1 (z9 y0)
          rw [y7] at this; cases this
      refine ⟨_, s_Mo_beginRound G σ1 n R W t q (l.eraseIdx i) hS1 hN1 LE (Or.inl P1.drop) ht hB zq.symm, fun σ7 ⟨m1, _, ⟨mm, m3⟩, l3, m4⟩ => ?_⟩
      refine fin σ7 l3 (fmo (m1.mono (by decide) (by decide))) m4 (fun b hb => ?_)
      rw [m3]
      show 1 ≤ fup (rdP (psS σ1)) t (rdP (psS σ1) t + 1) b
      by_cases hbt : b = t
      · rw [hbt, fup_s]; omega
      · rw [fup_n hbt]; exact hg1 b hb
    · -- FIRM
      have k5 : k = 5 := by omega
      obtain ⟨z0, c, u, z1, z2, z3, z4, z5, z6, z7, z8⟩ := t5 (by rw [ek, k5]; rfl)
      have zc : t = c := (nI_eq (by omega) (by omega)).mp (et.symm.trans z3)
      subst zc
      have hfr : frs (l.eraseIdx i) t = 0 := by
        have a1 := hft t
        rw [if_pos ⟨by rw [ek, k5]; rfl, et⟩] at a1
        have a2 := (P1.2.2.1 t ht).2
        omega
      refine ⟨_, s_Mo_becomeFirm G σ1 n R W t (l.eraseIdx i) ⟨hS1, hN1, LE, P1.drop⟩ z0 ht z5 z6 z7 hfr (fun v hv => ?_), fun σ9 ⟨m1, m2, l3, m3⟩ => ?_⟩
      · have : v = u := Option.some.inj (hv.symm.trans z4)
        rw [this]; exact z8
      · exact fin σ9 l3 (fmo (m1.mono (by decide) (by decide))) m3 (by rw [m2]; exact hg1)
