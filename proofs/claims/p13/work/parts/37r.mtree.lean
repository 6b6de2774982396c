-- The reference's trees, exactly
def MTx (σ τ : zSt) (n : Nat) (set : Int32) (o : Nat → Option (Nat × Option Nat)) : Prop :=
  (∀ c, c < n → zIn set (nI c) = true → τ 43 c = lvE 99 (o c) ∧ τ 41 c = upE (o c)) ∧ (∀ c, ¬ (c < n ∧ zIn set (nI c) = true) → τ 43 c = σ 43 c ∧ τ 41 c = σ 41 c)
/-- behind the look at the first i nodes -/
def tI (S : Nat → Nat → Option (Nat × Option Nat)) (s : Nat → Bool) (lk : Nat → Nat → Bool) (k a i : Nat) : Option (Nat × Option Nat) := match S k a with
  | some p => some p
  | none => if s a = true then (match fi (fun b => s b && (lk a b && decide ((S k b).map Prod.fst = some k))) i with
      | some b => some (k + 1, some b)
      | none => none) else none
theorem lv99 {k : Nat} (hk : k < 50) : ¬ (99 : Int32) = nI k := fun e => by
  have := (nI_eq (a := 99) (b := k) (by omega) (by omega)).mp e
  omega
set_option maxHeartbeats 1000000 in
theorem s_Mo_tree2 (G : zG) (σ : zSt) (n root : Nat) (set : Int32) (lk : Nat → Nat → Bool) (hn : σ 32 0 = nI n) (hle : n ≤ 12) (hr : root < n) (hlk : ∀ a b, a < n → b < n → zLk σ (nI a) (nI b) = lk a b) : zV G 1 M_Mo_tree [zf G 32, .int (nI root), .int set] σ (fun τ => zFr [41, 42, 43] σ τ ∧ (∀ c, c < n → zIn set (nI c) = true → τ 42 c = nI root) ∧ (∀ c, ¬ (c < n ∧ zIn set (nI c) = true) → τ 42 c = σ 42 c) ∧ MTx σ τ n set (tS n root (fun c => zIn set (nI c)) lk n)) := by
  generalize hS : tS n root (fun c => zIn set (nI c)) lk = S
  refine zSpec.of (by decide) (Nat.le_of_ble_eq_true rfl) rfl (fun X E => ?_)
  have Sok : ∀ {k a j : Nat} {u : Option Nat}, S k a = some (j, u) → j ≤ k := fun h => by rw [← hS] at h; exact (tS_ok h).1
  have Snx : ∀ k a, tI S (fun c => zIn set (nI c)) lk k a n = S (k + 1) a := fun k a => by
    unfold tI
    rw [← hS]
    conv => rhs; rw [tS]
    rfl
  refine b_Mo_tree_0 E (nI root) set σ ?_
  -- the levels
  have steps : ∀ υ : zSt, zFr [41, 42, 43] σ υ → (∀ c, c < n → zIn set (nI c) = true → υ 42 c = nI root) → (∀ c, ¬ (c < n ∧ zIn set (nI c) = true) → υ 42 c = σ 42 c) → MTx σ υ n set (S 0) → zZ G M_Mo_tree 1 X (fun r τ => r = none ∧ zFr [41, 42, 43] σ τ ∧ (∀ c, c < n → zIn set (nI c) = true → τ 42 c = nI root) ∧ (∀ c, ¬ (c < n ∧ zIn set (nI c) = true) → τ 42 c = σ 42 c) ∧ MTx σ τ n set (S n)) 59 [(0, zf G 32), (2, .int set), (3, .int (0 : Int32))] [] υ := by
    intro υ fυ l1 l2 h0
    refine z_for n (fun k τ => zZ G M_Mo_tree 1 X (fun r τ => r = none ∧ zFr [41, 42, 43] σ τ ∧ (∀ c, c < n → zIn set (nI c) = true → τ 42 c = nI root) ∧ (∀ c, ¬ (c < n ∧ zIn set (nI c) = true) → τ 42 c = σ 42 c) ∧ MTx σ τ n set (S n)) 59 [(0, zf G 32), (2, .int set), (3, .int (nI k))] [] τ) (fun k τ => zFr [41, 43] υ τ ∧ MTx σ τ n set (S k)) ?_ ?_ 0 υ (Nat.zero_le _) ⟨zFr.rf, h0⟩
    · intro k τ hk ⟨hF, hG⟩ ihk
      refine b_Mo_tree_59 E set (nI k) τ ⟨fun q => absurd q (by rw [hF 32 (by decide), fυ 32 (by decide), hn]; exact nI_ge hk (by omega)), fun _ => ?_⟩
      refine z_for n (fun a τ => zZ G M_Mo_tree 1 X (fun r τ => r = none ∧ zFr [41, 42, 43] σ τ ∧ (∀ c, c < n → zIn set (nI c) = true → τ 42 c = nI root) ∧ (∀ c, ¬ (c < n ∧ zIn set (nI c) = true) → τ 42 c = σ 42 c) ∧ MTx σ τ n set (S n)) 70 [(0, zf G 32), (2, .int set), (3, .int (nI k)), (4, .int (nI a))] [] τ) (fun a τ => zFr [41, 43] υ τ ∧ MTx σ τ n set (fun c => S (if c < a then k + 1 else k) c)) ?_ ?_ 0 τ (Nat.zero_le _) ⟨hF, ?_⟩
      · intro a τ ha ⟨hF, hG⟩ iha
        have ia : vp_in (nI a) 12 := vp_in_nI (by omega) (by decide)
        have ca : (nI a).toNatClampNeg = a := nI_clamp (by omega)
        refine b_Mo_tree_70 E set (nI k) (nI a) τ ⟨fun q => absurd q (by rw [hF 32 (by decide), fυ 32 (by decide), hn]; exact nI_ge ha (by omega)), fun _ => ?_⟩
        refine z_for n (fun i τ => zZ G M_Mo_tree 1 X (fun r τ => r = none ∧ zFr [41, 42, 43] σ τ ∧ (∀ c, c < n → zIn set (nI c) = true → τ 42 c = nI root) ∧ (∀ c, ¬ (c < n ∧ zIn set (nI c) = true) → τ 42 c = σ 42 c) ∧ MTx σ τ n set (S n)) 82 [(0, zf G 32), (2, .int set), (3, .int (nI k)), (4, .int (nI a)), (5, .int (nI i))] [] τ) (fun i τ => zFr [41, 43] υ τ ∧ MTx σ τ n set (fun c => if c = a then tI S (fun c => zIn set (nI c)) lk k a i else S (if c < a then k + 1 else k) c)) ?_ ?_ 0 τ (Nat.zero_le _) ⟨hF, ?_⟩
        · intro b τ hb ⟨hF, hG⟩ ihb
          have ib : vp_in (nI b) 12 := vp_in_nI (by omega) (by decide)
          have cb : (nI b).toNatClampNeg = b := nI_clamp (by omega)
          -- nothing changes
          have keep : (zIn set (nI a) = true → tI S (fun c => zIn set (nI c)) lk k a (b + 1) = tI S (fun c => zIn set (nI c)) lk k a b) → zZ G M_Mo_tree 1 X (fun r τ => r = none ∧ zFr [41, 42, 43] σ τ ∧ (∀ c, c < n → zIn set (nI c) = true → τ 42 c = nI root) ∧ (∀ c, ¬ (c < n ∧ zIn set (nI c) = true) → τ 42 c = σ 42 c) ∧ MTx σ τ n set (S n)) 82 [(0, zf G 32), (2, .int set), (3, .int (nI k)), (4, .int (nI a)), (5, .int (nI b + 1))] [] τ := by
            intro he
            rw [nI_1]
            refine ihb τ ⟨hF, fun c hc hz => ?_, hG.2⟩
            have := hG.1 c hc hz
            dsimp only at this ⊢
            by_cases e : c = a
            · rw [if_pos e] at this ⊢
              rw [e] at hz
              rw [he hz]; exact this
            · rw [if_neg e] at this ⊢; exact this
          have same : (zIn set (nI b) && (lk a b && decide ((S k b).map Prod.fst = some k))) = false → tI S (fun c => zIn set (nI c)) lk k a (b + 1) = tI S (fun c => zIn set (nI c)) lk k a b := by
            intro hp
            unfold tI
            have : fi (fun b => zIn set (nI b) && (lk a b && decide ((S k b).map Prod.fst = some k))) (b + 1) = fi (fun b => zIn set (nI b) && (lk a b && decide ((S k b).map Prod.fst = some k))) b := by
              conv => lhs; unfold fi
              cases fi (fun b => zIn set (nI b) && (lk a b && decide ((S k b).map Prod.fst = some k))) b with
              | some d => rfl
              | none => dsimp only; rw [hp]; rfl
            rw [this]
          have no129 : (zIn set (nI a) = true → (zIn set (nI b) && (lk a b && decide ((S k b).map Prod.fst = some k))) = false) → zZ G M_Mo_tree 1 X (fun r τ => r = none ∧ zFr [41, 42, 43] σ τ ∧ (∀ c, c < n → zIn set (nI c) = true → τ 42 c = nI root) ∧ (∀ c, ¬ (c < n ∧ zIn set (nI c) = true) → τ 42 c = σ 42 c) ∧ MTx σ τ n set (S n)) 129 [(0, zf G 32), (2, .int set), (3, .int (nI k)), (4, .int (nI a)), (5, .int (nI b)), (6, .int (0 : Int32))] [] τ := fun h => b_Mo_tree_129 E set (nI k) (nI a) (nI b) 0 τ ⟨fun _ => keep (fun hz => same (h hz)), fun q => absurd rfl q⟩
          refine b_Mo_tree_82 E set (nI k) (nI a) (nI b) τ ?_
          have elk : zLk τ (nI a) (nI b) = lk a b := by
            rw [← hlk a b ha hb]
            unfold zLk
            rw [hF 33 (by decide), fυ 33 (by decide)]
          rw [elk]
          refine ⟨fun q => absurd q (by rw [hF 32 (by decide), fυ 32 (by decide), hn]; exact nI_ge hb (by omega)), fun _ => ⟨fun hz => no129 (fun q => ?_), fun hza => ⟨fun hz => no129 (fun _ => by rw [zIn_nt hz]; rfl), fun hzb => ⟨by rw [zi12']; exact vp_in_nI (by omega) (by decide), fun hl => no129 (fun _ => by rw [hl, Bool.false_and, Bool.and_false]), fun hl => ?_⟩⟩⟩⟩
          · rw [zIn_nt hz] at q; exact absurd q (by decide)
          have hza := zIn_t hza
          have hzb := zIn_t hzb
          -- the level of b
          have lb : τ 43 b = nI k ↔ (S k b).map Prod.fst = some k := by
            rw [(hG.1 b hb hzb).1]
            dsimp only
            have base : ∀ m, (m = k ∨ m = k + 1) → (lvE 99 (S m b) = nI k ↔ (S k b).map Prod.fst = some k) := by
              intro m hm
              have h2 := lvE_k (n := n) (root := root) (s := fun c => zIn set (nI c)) (lk := lk) (k := k) (m := m) (b := b) (by omega) hm
              rw [hS] at h2
              rw [← h2]
              cases hq : S m b with
              | none => exact ⟨fun h => absurd h (lv99 (by omega)), fun h => absurd h.symm (nI_ne_m2 (by omega))⟩
              | some p => exact Iff.rfl
            by_cases e : b = a
            · rw [if_pos e]
              cases hq : S k a with
              | some p =>
                have : tI S (fun c => zIn set (nI c)) lk k a b = S k b := by unfold tI; rw [hq, e, hq]
                rw [this]; exact base k (Or.inl rfl)
              | none =>
                rw [e, hq]
                refine ⟨fun h => ?_, fun h => absurd h (by simp)⟩
                exfalso
                unfold tI at h
                rw [hq] at h
                dsimp only at h
                rw [if_pos hza] at h
                cases hf : fi (fun b => zIn set (nI b) && (lk a b && decide ((S k b).map Prod.fst = some k))) a with
                | none => rw [hf] at h; exact lv99 (by omega) h
                | some d =>
                  rw [hf] at h
                  have h : nI (k + 1) = nI k := h
                  have := (nI_eq (by omega) (by omega)).mp h
                  omega
            · rw [if_neg e]
              exact base _ (by split <;> omega)
          refine b_Mo_tree_129 E set (nI k) (nI a) (nI b) 1 τ ⟨fun q => absurd q (by decide), fun _ => ?_⟩
          rw [cb, ca]
          have va := hG.1 a ha hza
          dsimp only at va
          rw [if_pos rfl] at va
          refine ⟨ib, fun hlv => keep (fun _ => same ?_), fun hlv => ⟨ia, fun hle2 => keep (fun _ => ?_), fun hgt => ⟨ia, fun h99 => ⟨ia, fun σ1 e1 => ⟨ia, fun σ2 e2 => ?_⟩⟩, fun hn99 => ⟨ia, fun hup => keep (fun _ => ?_), fun hup => ?_⟩⟩⟩⟩
          · rw [hzb, hl, decide_eq_false (fun q => hlv (lb.mpr q))]; rfl
          · -- a has its level already
            rw [va.1] at hle2
            cases hq : S k a with
            | some p => unfold tI; rw [hq]
            | none =>
              exfalso
              unfold tI at hle2
              rw [hq] at hle2
              dsimp only at hle2
              rw [if_pos hza] at hle2
              cases hf : fi (fun b => zIn set (nI b) && (lk a b && decide ((S k b).map Prod.fst = some k))) b with
              | none =>
                rw [hf] at hle2
                exact nI_ge (a := k) (b := 99) (by omega) (by omega) hle2
              | some d =>
                rw [hf] at hle2
                exact nI_ge (a := k) (b := k + 1) (by omega) (by omega) hle2
          · -- the first one of level k
            rw [nI_1] at e1
            have hno : S k a = none ∧ fi (fun b => zIn set (nI b) && (lk a b && decide ((S k b).map Prod.fst = some k))) b = none := by
              rw [va.1] at h99
              cases hq : S k a with
              | some p =>
                exfalso
                obtain ⟨j, u⟩ := p
                have hj := Sok hq
                unfold tI at h99
                rw [hq] at h99
                exact lv99 (k := j) (by omega) h99.symm
              | none =>
                refine ⟨rfl, ?_⟩
                cases hf : fi (fun b => zIn set (nI b) && (lk a b && decide ((S k b).map Prod.fst = some k))) b with
                | none => rfl
                | some d =>
                  exfalso
                  unfold tI at h99
                  rw [hq] at h99
                  dsimp only at h99
                  rw [if_pos hza, hf] at h99
                  exact lv99 (k := k + 1) (by omega) h99.symm
            have hnew : tI S (fun c => zIn set (nI c)) lk k a (b + 1) = some (k + 1, some b) := by
              have hf1 : fi (fun b => zIn set (nI b) && (lk a b && decide ((S k b).map Prod.fst = some k))) (b + 1) = some b := fi_at (by omega) (by rw [hzb, hl, decide_eq_true (lb.mp hlv)]; rfl) (fi_none hno.2)
              unfold tI
              rw [hno.1]
              dsimp only
              rw [if_pos hza, hf1]
            have q43 : σ2 43 = upd (τ 43) a (nI (k + 1)) := by rw [e2, zup_ne (by decide), e1, zup_self]
            have q41 : σ2 41 = upd (τ 41) a (nI b) := by rw [e2, zup_self, e1, zup_ne (by decide)]
            rw [nI_1]
            refine ihb σ2 ⟨by rw [e2, e1]; exact (hF.up (by decide)).up (by decide), fun c hc hz => ?_, fun c hc => ?_⟩
            · rw [q43, q41]
              dsimp only
              by_cases e : c = a
              · rw [if_pos e, e, upd_eq, upd_eq, hnew]; exact ⟨rfl, rfl⟩
              · rw [if_neg e, upd_ne e, upd_ne e]
                have := hG.1 c hc hz
                dsimp only at this
                rw [if_neg e] at this
                exact this
            · have e : c ≠ a := fun e => hc (by rw [e]; exact ⟨ha, hza⟩)
              rw [q43, q41, upd_ne e, upd_ne e]; exact hG.2 c hc
          · -- an earlier one stays
            cases hq : S k a with
            | some p => unfold tI; rw [hq]
            | none =>
              unfold tI
              rw [hq]
              dsimp only
              rw [if_pos hza, if_pos hza]
              cases hf : fi (fun b => zIn set (nI b) && (lk a b && decide ((S k b).map Prod.fst = some k))) b with
              | none =>
                exfalso
                rw [va.1] at hn99
                unfold tI at hn99
                rw [hq] at hn99
                dsimp only at hn99
                rw [if_pos hza, hf] at hn99
                exact hn99 rfl
              | some d =>
                have : fi (fun b => zIn set (nI b) && (lk a b && decide ((S k b).map Prod.fst = some k))) (b + 1) = some d := by
                  conv => lhs; unfold fi
                  rw [hf]
                rw [this]
          · exfalso
            cases hq : S k a with
            | some p =>
              obtain ⟨j, u⟩ := p
              have hj := Sok hq
              have e43 : τ 43 a = nI j := by rw [va.1]; unfold tI; rw [hq]; rfl
              rw [e43] at hgt
              exact hgt (nI_le hj (by omega))
            | none =>
              cases hf : fi (fun b => zIn set (nI b) && (lk a b && decide ((S k b).map Prod.fst = some k))) b with
              | none =>
                rw [va.1] at hn99
                unfold tI at hn99
                rw [hq] at hn99
                dsimp only at hn99
                rw [if_pos hza, hf] at hn99
                exact hn99 rfl
              | some d =>
                have hd := (fi_some hf).1
                have e41 : τ 41 a = nI d := by
                  rw [va.2]
                  unfold tI
                  rw [hq]
                  dsimp only
                  rw [if_pos hza, hf]; rfl
                rw [e41] at hup
                exact hup (nI_le (by omega) (by omega))
        · intro τ ⟨hF, hG⟩
          refine b_Mo_tree_82 E set (nI k) (nI a) (nI n) τ ⟨fun _ => ?_, fun q => absurd (by rw [hF 32 (by decide), fυ 32 (by decide), hn]; exact nI_le (Nat.le_refl n) (by omega)) q⟩
          rw [nI_1]
          refine iha τ ⟨hF, fun c hc hz => ?_, hG.2⟩
          have := hG.1 c hc hz
          dsimp only at this ⊢
          by_cases e : c = a
          · rw [if_pos e, Snx k a] at this
            rw [if_pos (by omega), e]; exact e ▸ this
          · rw [if_neg e] at this
            by_cases h : c < a
            · rw [if_pos h] at this; rw [if_pos (by omega)]; exact this
            · rw [if_neg h] at this; rw [if_neg (by omega)]; exact this
        · refine ⟨fun c hc hz => ?_, hG.2⟩
          have := hG.1 c hc hz
          dsimp only at this ⊢
          by_cases e : c = a
          · rw [if_pos e]
            have h0 : tI S (fun c => zIn set (nI c)) lk k a 0 = S k a := by
              unfold tI
              cases S k a with
              | some p => rfl
              | none =>
                dsimp only
                rw [← e, if_pos hz]; rfl
            rw [h0]
            rw [e, if_neg (Nat.lt_irrefl a)] at this
            rw [e]; exact this
          · rw [if_neg e]; exact this
      · intro τ ⟨hF, hG⟩
        refine b_Mo_tree_70 E set (nI k) (nI n) τ ⟨fun _ => ?_, fun q => absurd (by rw [hF 32 (by decide), fυ 32 (by decide), hn]; exact nI_le (Nat.le_refl n) (by omega)) q⟩
        rw [nI_1]
        refine ihk τ ⟨hF, fun c hc hz => ?_, hG.2⟩
        have := hG.1 c hc hz
        dsimp only at this
        rw [if_pos hc] at this
        exact this
      · refine ⟨fun c hc hz => ?_, hG.2⟩
        dsimp only
        rw [if_neg (Nat.not_lt_zero c)]; exact hG.1 c hc hz
    · intro τ ⟨hF, hG⟩
      exact b_Mo_tree_59 E set (nI n) τ ⟨fun _ => ⟨rfl, fυ.tr (hF.mono (by decide)), fun c hc hz => by rw [hF 42 (by decide)]; exact l1 c hc hz, fun c hc => by rw [hF 42 (by decide)]; exact l2 c hc, hG⟩, fun q => absurd (by rw [hF 32 (by decide), fυ 32 (by decide), hn]; exact nI_le (Nat.le_refl n) (by omega)) q⟩
  refine z_for n (fun i τ => zZ G M_Mo_tree 1 X (fun r τ => r = none ∧ zFr [41, 42, 43] σ τ ∧ (∀ c, c < n → zIn set (nI c) = true → τ 42 c = nI root) ∧ (∀ c, ¬ (c < n ∧ zIn set (nI c) = true) → τ 42 c = σ 42 c) ∧ MTx σ τ n set (S n)) 2 [(0, zf G 32), (1, .int (nI root)), (2, .int set), (3, .int (nI i))] [] τ) (fun i τ => zFr [41, 42, 43] σ τ ∧ (∀ c, c < i → zIn set (nI c) = true → τ 42 c = nI root ∧ τ 43 c = lvE 99 (S 0 c) ∧ τ 41 c = upE (S 0 c)) ∧ (∀ c, ¬ (c < i ∧ zIn set (nI c) = true) → τ 42 c = σ 42 c ∧ τ 43 c = σ 43 c ∧ τ 41 c = σ 41 c)) ?_ ?_ 0 σ (Nat.zero_le _) ⟨zFr.rf, fun c hc => absurd hc (Nat.not_lt_zero c), fun c _ => ⟨rfl, rfl, rfl⟩⟩
  · intro i τ hi ⟨hF, hG, hO⟩ ih
    have ii : vp_in (nI i) 12 := vp_in_nI (by omega) (by decide)
    have ci : (nI i).toNatClampNeg = i := nI_clamp (by omega)
    refine b_Mo_tree_2 E (nI root) set (nI i) τ ⟨fun q => absurd q (by rw [hF 32 (by decide), hn]; exact nI_ge hi (by omega)), fun _ => ⟨fun hz => ?_, fun hz => ⟨ii, fun σ1 e1 => ?_⟩⟩⟩
    · rw [nI_1]
      have hz := zIn_nt hz
      refine ih τ ⟨hF, fun c hc hzc => ?_, fun c hc => hO c (fun q => hc ⟨by omega, q.2⟩)⟩
      by_cases e : c = i
      · rw [e, hz] at hzc; exact absurd hzc (by decide)
      · exact hG c (by omega) hzc
    · have hz := zIn_t hz
      rw [ci] at e1
      have fin : ∀ (v : Int32) (σ2 σ3 : zSt), v = lvE 99 (S 0 i) → σ2 = zup σ1 43 (nI i).toNatClampNeg v → σ3 = zup σ2 41 (nI i).toNatClampNeg (-2) → zZ G M_Mo_tree 1 X (fun r τ => r = none ∧ zFr [41, 42, 43] σ τ ∧ (∀ c, c < n → zIn set (nI c) = true → τ 42 c = nI root) ∧ (∀ c, ¬ (c < n ∧ zIn set (nI c) = true) → τ 42 c = σ 42 c) ∧ MTx σ τ n set (S n)) 2 [(0, zf G 32), (1, .int (nI root)), (2, .int set), (3, .int (nI i + 1))] [] σ3 := by
        intro v σ2 σ3 hv e2 e3
        rw [ci] at e2 e3
        rw [nI_1]
        have q42 : σ3 42 = upd (τ 42) i (nI root) := by rw [e3, zup_ne (by decide), e2, zup_ne (by decide), e1, zup_self]
        have q43 : σ3 43 = upd (τ 43) i v := by rw [e3, zup_ne (by decide), e2, zup_self, e1, zup_ne (by decide)]
        have q41 : σ3 41 = upd (τ 41) i (-2) := by rw [e3, zup_self, e2, zup_ne (by decide), e1, zup_ne (by decide)]
        refine ih σ3 ⟨by rw [e3, e2, e1]; exact ((hF.up (by decide)).up (by decide)).up (by decide), fun c hc hzc => ?_, fun c hc => ?_⟩
        · rw [q42, q43, q41]
          by_cases e : c = i
          · rw [e, upd_eq, upd_eq, upd_eq]
            refine ⟨rfl, hv, ?_⟩
            rw [← hS, tS_0]
            by_cases e2 : i = root
            · rw [if_pos e2]; rfl
            · rw [if_neg e2]; rfl
          · rw [upd_ne e, upd_ne e, upd_ne e]; exact hG c (by omega) hzc
        · have e : c ≠ i := fun e => hc (by rw [e]; exact ⟨Nat.lt_succ_self i, hz⟩)
          rw [q42, q43, q41, upd_ne e, upd_ne e, upd_ne e]
          exact hO c (fun q => hc ⟨by omega, q.2⟩)
      refine ⟨fun hne => ⟨ii, fun σ2 e2 => ⟨ii, fun σ3 e3 => fin 99 σ2 σ3 ?_ e2 e3⟩⟩, fun he => ⟨ii, fun σ2 e2 => ⟨ii, fun σ3 e3 => fin 0 σ2 σ3 ?_ e2 e3⟩⟩⟩
      · rw [← hS, tS_0, if_neg (fun e => hne (by rw [e]))]; rfl
      · rw [← hS, tS_0, if_pos ((nI_eq (by omega) (by omega)).mp he)]; rfl
  · intro τ ⟨hF, hG, hO⟩
    exact b_Mo_tree_2 E (nI root) set (nI n) τ ⟨fun _ => steps τ hF (fun c hc hz => (hG c hc hz).1) (fun c hc => (hO c hc).1) ⟨fun c hc hz => (hG c hc hz).2, fun c hc => (hO c hc).2⟩, fun q => absurd (by rw [hF 32 (by decide), hn]; exact nI_le (Nat.le_refl n) (by omega)) q⟩
