section
-- The reference: begin, link, mark, sets, trees, clusters
def MF (L J : List Nat) (σ τ : zSt) : Prop := zFr (32 :: L) σ τ ∧ ∀ j, j ∉ J → τ 32 j = σ 32 j
theorem MF.rf {L J : List Nat} {σ : zSt} : MF L J σ σ := ⟨zFr.rf, fun _ _ => rfl⟩
theorem MF.tr {L J : List Nat} {σ τ υ : zSt} (h : MF L J σ τ) (h2 : MF L J τ υ) : MF L J σ υ := ⟨h.1.tr h2.1, fun j hj => (h2.2 j hj).trans (h.2 j hj)⟩
theorem MF.mono {L L2 J J2 : List Nat} {σ τ : zSt} (h : MF L J σ τ) (hs : ∀ c, c ∈ L → c ∈ L2) (hj : ∀ c, c ∈ J → c ∈ J2) : MF L2 J2 σ τ := ⟨h.1.mono (fun c hc => by
  rcases List.mem_cons.mp hc with e | e
  · rw [e]; exact List.mem_cons_self
  · exact List.mem_cons_of_mem _ (hs c e)), fun j hj2 => h.2 j (fun q => hj2 (hj j q))⟩
theorem MF.of {L J : List Nat} {σ τ : zSt} (h : zFr L σ τ) (h1 : 32 ∉ L) : MF L J σ τ := ⟨h.mono (fun c hc => List.mem_cons_of_mem _ hc), fun j _ => by rw [h 32 h1]⟩
theorem MF.up {L J : List Nat} {σ τ : zSt} {c j : Nat} {v : Int32} (h : MF L J σ τ) (hc : c ∈ L) (h1 : 32 ≠ c) : MF L J σ (zup τ c j v) := ⟨h.1.up (List.mem_cons_of_mem _ hc), fun k hk => by rw [zup_ne h1]; exact h.2 k hk⟩
theorem MF.fld {L J : List Nat} {σ τ : zSt} {j : Nat} {v : Int32} (h : MF L J σ τ) (hj : j ∈ J) : MF L J σ (zup τ 32 j v) := ⟨h.1.up List.mem_cons_self, fun k hk => by
  rw [zup_self]; unfold upd; rw [if_neg (fun e => hk (by rw [e]; exact hj))]; exact h.2 k hk⟩
theorem MF.at {L J : List Nat} {σ τ : zSt} (h : MF L J σ τ) {c : Nat} (hc : c ∉ (32 :: L)) : τ c = σ c := h.1 c hc
def mbegin (σ : zSt) (v : Int32) : zSt := zfill (zfill (zup (zup (zup σ 32 0 v) 32 1 0) 32 4 0) 33 144 0) 34 12 0
theorem s_Mo_begin (G : zG) (σ : zSt) (v : Int32) : zI G 0 M_Mo_begin [zf G 32, .int v] σ (fun x τ => (x = -1 ∧ τ = σ ∧ (v < 1 ∨ ¬ v ≤ 12)) ∨ (x = 0 ∧ ¬ v < 1 ∧ v ≤ 12 ∧ τ = mbegin σ v)) := by
  refine zSpec.of (by decide) (Nat.le_of_ble_eq_true rfl) rfl (fun X E => ?_)
  refine b_Mo_begin_0 E v σ ⟨fun h => ⟨_, rfl, Or.inl ⟨rfl, rfl, Or.inl h⟩⟩, fun h => ⟨fun h2 σ1 e1 σ2 e2 σ3 e3 => ?_, fun h2 => ⟨_, rfl, Or.inl ⟨rfl, rfl, Or.inr h2⟩⟩⟩⟩
  have two : ∀ υ, υ = zfill σ3 33 144 0 → zZ G M_Mo_begin 0 X (fun r τ => ∃ x : Int32, r = some (.int x) ∧ ((x = -1 ∧ τ = σ ∧ (v < 1 ∨ ¬ v ≤ 12)) ∨ (x = 0 ∧ ¬ v < 1 ∧ v ≤ 12 ∧ τ = mbegin σ v))) 52 [(0, zf G 32), (2, .int (0 : Int32))] [] υ := by
    intro υ hυ
    refine z_for 12 (fun i τ => zZ G M_Mo_begin 0 X (fun r τ => ∃ x : Int32, r = some (.int x) ∧ ((x = -1 ∧ τ = σ ∧ (v < 1 ∨ ¬ v ≤ 12)) ∨ (x = 0 ∧ ¬ v < 1 ∧ v ≤ 12 ∧ τ = mbegin σ v))) 52 [(0, zf G 32), (2, .int (nI i))] [] τ) (fun i τ => τ = zfill υ 34 i 0) ?_ ?_ 0 υ (Nat.zero_le _) (zfill_0 υ 34 0).symm
    · intro i τ hi hI ih
      refine b_Mo_begin_52 E (nI i) τ ⟨fun q => absurd q (nI_ge hi (by decide)), fun _ => ⟨vp_in_nI hi (by decide), fun σ1 e1 => ?_⟩⟩
      rw [nI_1]
      refine ih σ1 ?_
      rw [e1, hI, nI_clamp (by omega), zfill_s]
    · intro τ hI
      refine b_Mo_begin_52 E (nI 12) τ ⟨fun _ => ⟨_, rfl, Or.inr ⟨rfl, h, h2, ?_⟩⟩, fun q => absurd (by decide) q⟩
      rw [hI, hυ, e3, e2, e1]
      rfl
  refine z_for 144 (fun i τ => zZ G M_Mo_begin 0 X (fun r τ => ∃ x : Int32, r = some (.int x) ∧ ((x = -1 ∧ τ = σ ∧ (v < 1 ∨ ¬ v ≤ 12)) ∨ (x = 0 ∧ ¬ v < 1 ∧ v ≤ 12 ∧ τ = mbegin σ v))) 30 [(0, zf G 32), (2, .int (nI i))] [] τ) (fun i τ => τ = zfill σ3 33 i 0) ?_ ?_ 0 σ3 (Nat.zero_le _) (zfill_0 σ3 33 0).symm
  · intro i τ hi hI ih
    refine b_Mo_begin_30 E (nI i) τ ⟨fun q => absurd q (nI_ge hi (by decide)), fun _ => ⟨vp_in_nI hi (by decide), fun σ1 e1 => ?_⟩⟩
    rw [nI_1]
    refine ih σ1 ?_
    rw [e1, hI, nI_clamp (by omega), zfill_s]
  · intro τ hI
    exact b_Mo_begin_30 E (nI 144) τ ⟨fun _ => two τ hI, fun q => absurd (by decide) q⟩
def mlink (σ : zSt) (a b : Nat) (len : Int32) : zSt := zup (zup (zup (zup σ 32 1 (if zLk σ (nI a) (nI b) = true then σ 32 1 + 0 else σ 32 1 + 1)) 33 (12 * a + b) len) 33 (12 * b + a) len) 32 4 0
theorem s_Mo_link (G : zG) (σ : zSt) (n : Nat) (a b len : Int32) (hn : σ 32 0 = nI n) (hle : n ≤ 12) : zI G 1 M_Mo_link [zf G 32, .int a, .int b, .int len] σ (fun x τ => (x = -1 ∧ τ = σ ∧ (zNo σ a = true ∨ zNo σ b = true ∨ a = b ∨ len < 1 ∨ ¬ len ≤ 9)) ∨ (∃ i j, i < n ∧ j < n ∧ a = nI i ∧ b = nI j ∧ i ≠ j ∧ ¬ len < 1 ∧ len ≤ 9 ∧ τ = mlink σ i j len ∧ x = τ 32 1)) := by
  refine zSpec.of (by decide) (Nat.le_of_ble_eq_true rfl) rfl (fun X E => ?_)
  refine b_Mo_link_0 E a b len σ ⟨fun h => ⟨_, rfl, Or.inl ⟨rfl, rfl, Or.inl h⟩⟩, fun h => ⟨fun h1 => ⟨_, rfl, Or.inl ⟨rfl, rfl, Or.inr (Or.inl h1)⟩⟩, fun h1 => ⟨fun h2 => ⟨_, rfl, Or.inl ⟨rfl, rfl, Or.inr (Or.inr (Or.inl h2))⟩⟩, fun h2 => ⟨fun h3 => ⟨_, rfl, Or.inl ⟨rfl, rfl, Or.inr (Or.inr (Or.inr (Or.inl h3)))⟩⟩, fun h3 => ⟨fun h4 => ?_, fun h4 => ⟨_, rfl, Or.inl ⟨rfl, rfl, Or.inr (Or.inr (Or.inr (Or.inr h4)))⟩⟩⟩⟩⟩⟩⟩
  obtain ⟨i, hi, rfl⟩ := zNo_of h hn hle
  obtain ⟨j, hj, rfl⟩ := zNo_of h1 hn hle
  have iij : vp_in (12 * nI i + nI j) 144 := by rw [zi12']; exact vp_in_nI (by omega) (by decide)
  have iji : vp_in (12 * nI j + nI i) 144 := by rw [zi12']; exact vp_in_nI (by omega) (by decide)
  have cij : (12 * nI i + nI j).toNatClampNeg = 12 * i + j := by rw [zi12']; exact nI_clamp (by omega)
  have cji : (12 * nI j + nI i).toNatClampNeg = 12 * j + i := by rw [zi12']; exact nI_clamp (by omega)
  have hij : i ≠ j := fun e => h2 (by rw [e])
  refine ⟨iij, fun hz σ1 e1 => ⟨iij, fun σ2 e2 => ⟨iji, fun σ3 e3 σ4 e4 => ⟨_, rfl, Or.inr ⟨i, j, hi, hj, rfl, rfl, hij, h3, h4, ?_, rfl⟩⟩⟩⟩, fun hz σ1 e1 => ⟨iij, fun σ2 e2 => ⟨iji, fun σ3 e3 σ4 e4 => ⟨_, rfl, Or.inr ⟨i, j, hi, hj, rfl, rfl, hij, h3, h4, ?_, rfl⟩⟩⟩⟩⟩
  · rw [e4, e3, e2, e1, cij, cji]
    simp only [mlink, hz]
    rfl
  · rw [e4, e3, e2, e1, cij, cji]
    simp only [mlink, hz]
    rfl
theorem s_Mo_mark (G : zG) (σ : zSt) (n : Nat) (a v : Int32) (hn : σ 32 0 = nI n) (hle : n ≤ 12) : zI G 1 M_Mo_mark [zf G 32, .int a, .int v] σ (fun x τ => (x = -1 ∧ τ = σ ∧ (zNo σ a = true ∨ v < 0 ∨ ¬ v ≤ 99)) ∨ (∃ j, j < n ∧ a = nI j ∧ ¬ v < 0 ∧ v ≤ 99 ∧ x = σ 34 j ∧ τ = zup (zup σ 34 j v) 32 4 0)) := by
  refine zSpec.of (by decide) (Nat.le_of_ble_eq_true rfl) rfl (fun X E => ?_)
  refine b_Mo_mark_0 E a v σ ⟨fun h => ⟨_, rfl, Or.inl ⟨rfl, rfl, Or.inl h⟩⟩, fun h => ⟨fun h2 => ⟨_, rfl, Or.inl ⟨rfl, rfl, Or.inr (Or.inl h2)⟩⟩, fun h2 => ⟨fun h3 => ?_, fun h3 => ⟨_, rfl, Or.inl ⟨rfl, rfl, Or.inr (Or.inr h3)⟩⟩⟩⟩⟩
  obtain ⟨j, hj, rfl⟩ := zNo_of h hn hle
  have ij : vp_in (nI j) 12 := vp_in_nI (by omega) (by decide)
  have cj : (nI j).toNatClampNeg = j := nI_clamp (by omega)
  refine ⟨ij, ij, ?_⟩
  rintro σ1 rfl σ2 rfl
  exact ⟨_, rfl, Or.inr ⟨j, hj, rfl, h2, h3, by rw [cj], by rw [cj]⟩⟩
-- how many of the first n bits are not set
def cz (s : Int32) : Nat → Nat
  | 0 => 0
  | k + 1 => cz s k + (if zIn s (nI k) = true then 0 else 1)
theorem cz_le {s t : Int32} {n : Nat} (hn : n ≤ 32) (h : ∀ c, c < n → zIn s (nI c) = true → zIn t (nI c) = true) : cz t n ≤ cz s n := by
  induction n with
  | zero => exact Nat.le_refl _
  | succ k ih =>
    have h1 := ih (by omega) (fun c hc => h c (by omega))
    have h2 := h k (by omega)
    unfold cz
    by_cases hs : zIn s (nI k) = true
    · rw [if_pos hs, if_pos (h2 hs)]; omega
    · rw [if_neg hs]; split <;> omega
theorem cz_lt {s t : Int32} {n b : Nat} (hn : n ≤ 32) (hb : b < n) (h : ∀ c, c < n → zIn s (nI c) = true → zIn t (nI c) = true) (hs : zIn s (nI b) = false) (ht : zIn t (nI b) = true) : cz t n < cz s n := by
  induction n with
  | zero => omega
  | succ k ih =>
    unfold cz
    by_cases hbk : b = k
    · subst hbk
      have h1 : cz t b ≤ cz s b := cz_le (by omega) (fun c hc => h c (by omega))
      rw [if_pos ht, if_neg (by rw [hs]; decide)]; omega
    · have h1 := ih (by omega) (by omega) (fun c hc => h c (by omega))
      have h2 := h k (by omega)
      by_cases hs : zIn s (nI k) = true
      · rw [if_pos hs, if_pos (h2 hs)]; omega
      · rw [if_neg hs]; split <;> omega
theorem zIn_f {s : Int32} {c : Nat} (h : ((s >>> (nI c &&& 31)) &&& (1 : Int32)) = 0) : zIn s (nI c) = false := by simp [zIn, h]
theorem s_Mo_spread (G : zG) (σ : zSt) (n : Nat) (s w : Int32) (hn : σ 32 0 = nI n) (hle : n ≤ 12) : zI G 1 M_Mo_spread [zf G 32, .int s, .int w] σ (fun _ τ => τ = σ) := by
  refine zSpec.of (by decide) (Nat.le_of_ble_eq_true rfl) rfl (fun X E => ?_)
  have main : ∀ (m : Nat) (s more : Int32), cz s n = m → zZ G M_Mo_spread 1 X (fun r τ => ∃ x : Int32, r = some (.int x) ∧ τ = σ) 5 [(0, zf G 32), (2, .int w), (3, .int s), (4, .int more)] [] σ := by
    intro m
    induction m using Nat.strongRecOn with
    | ind m IH =>
      intro s more hm
      refine b_Mo_spread_5 E w s more σ ⟨fun _ => ⟨_, rfl, rfl⟩, fun _ => ?_⟩
      have out : ∀ s' more', (more' = 0 ∨ cz s' n < cz s n) → zZ G M_Mo_spread 1 X (fun r τ => ∃ x : Int32, r = some (.int x) ∧ τ = σ) 5 [(0, zf G 32), (2, .int w), (3, .int s'), (4, .int more')] [] σ := by
        intro s' more' h
        rcases h with h | h
        · exact b_Mo_spread_5 E w s' more' σ ⟨fun _ => ⟨_, rfl, rfl⟩, fun q => absurd h q⟩
        · exact IH _ (by omega) s' more' rfl
      refine z_for n (fun i (q : Int32 × Int32) => zZ G M_Mo_spread 1 X (fun r τ => ∃ x : Int32, r = some (.int x) ∧ τ = σ) 16 [(0, zf G 32), (2, .int w), (3, .int q.1), (4, .int q.2), (5, .int (nI i))] [] σ) (fun _ q => (q.2 = 0 ∨ cz q.1 n < cz s n) ∧ cz q.1 n ≤ cz s n) ?_ ?_ 0 (s, 0) (Nat.zero_le _) ⟨Or.inl rfl, Nat.le_refl _⟩
      · intro a ⟨s1, m1⟩ ha ⟨h1, h2⟩ iha
        dsimp only at h1 h2 iha ⊢
        refine b_Mo_spread_16 E w s1 m1 (nI a) σ ⟨fun q => absurd q (by rw [hn]; exact nI_ge ha (by omega)), fun _ => ?_⟩
        refine z_for n (fun i (q : Int32 × Int32) => zZ G M_Mo_spread 1 X (fun r τ => ∃ x : Int32, r = some (.int x) ∧ τ = σ) 28 [(0, zf G 32), (2, .int w), (3, .int q.1), (4, .int q.2), (5, .int (nI a)), (6, .int (nI i))] [] σ) (fun _ q => (q.2 = 0 ∨ cz q.1 n < cz s n) ∧ cz q.1 n ≤ cz s n) ?_ ?_ 0 (s1, m1) (Nat.zero_le _) ⟨h1, h2⟩
        · intro b ⟨s2, m2⟩ hb ⟨h1, h2⟩ ih
          dsimp only at h1 h2 ih ⊢
          have nx : zZ G M_Mo_spread 1 X (fun r τ => ∃ x : Int32, r = some (.int x) ∧ τ = σ) 28 [(0, zf G 32), (2, .int w), (3, .int s2), (4, .int m2), (5, .int (nI a)), (6, .int (nI b + 1))] [] σ := by rw [nI_1]; exact ih (s2, m2) ⟨h1, h2⟩
          refine b_Mo_spread_28 E w s2 m2 (nI a) (nI b) σ ⟨fun q => absurd q (by rw [hn]; exact nI_ge hb (by omega)), fun _ => ⟨fun _ => nx, fun _ => ⟨by rw [zi12']; exact vp_in_nI (by omega) (by decide), fun _ => nx, fun _ => ⟨fun _ => nx, fun _ => ⟨fun _ => nx, fun hz => ?_⟩⟩⟩⟩⟩
          rw [nI_1]
          have hlt : cz (s2 ||| ((1 : Int32) <<< (nI b &&& 31))) n < cz s2 n := by
            refine cz_lt (b := b) (by omega) hb (fun c hc h => ?_) (zIn_f hz) ?_
            · rw [zIn_or _ _ (by omega), h, Bool.true_or]
            · rw [zIn_or _ _ (by omega), zIn_bit (by omega) (by omega)]; simp
          exact ih (_, 1) ⟨Or.inr (Nat.lt_of_lt_of_le hlt h2), Nat.le_trans (Nat.le_of_lt hlt) h2⟩
        · intro ⟨s2, m2⟩ ⟨h1, h2⟩
          dsimp only at h1 h2 ⊢
          exact b_Mo_spread_28 E w s2 m2 (nI a) (nI n) σ ⟨fun _ => by rw [nI_1]; exact iha (s2, m2) ⟨h1, h2⟩, fun q => absurd (by rw [hn]; exact nI_le (Nat.le_refl n) (by omega)) q⟩
      · intro ⟨s1, m1⟩ ⟨h1, h2⟩
        dsimp only at h1 h2 ⊢
        exact b_Mo_spread_16 E w s1 m1 (nI n) σ ⟨fun _ => out s1 m1 h1, fun q => absurd (by rw [hn]; exact nI_le (Nat.le_refl n) (by omega)) q⟩
  exact b_Mo_spread_0 E s w σ (main _ s 1 rfl)
/-- an upper is none, or another node -/
def UO (σ : zSt) (n : Nat) : Prop := ∀ a, a < n → σ 41 a = -2 ∨ ∃ u, u < n ∧ u ≠ a ∧ σ 41 a = nI u
theorem s_Mo_tree (G : zG) (σ : zSt) (n : Nat) (root set : Int32) (hn : σ 32 0 = nI n) (hle : n ≤ 12) (hU : UO σ n) : zV G 1 M_Mo_tree [zf G 32, .int root, .int set] σ (fun τ => zFr [41, 42, 43] σ τ ∧ UO τ n) := by
  refine zSpec.of (by decide) (Nat.le_of_ble_eq_true rfl) rfl (fun X E => ?_)
  refine b_Mo_tree_0 E root set σ ?_
  have nt : ∀ τ, zFr [41, 42, 43] σ τ → τ 32 0 = nI n := fun τ h => by rw [h 32 (by decide)]; exact hn
  have setU : ∀ (τ υ : zSt) (a u : Nat) (v w : Int32), UO τ n → u < n → u ≠ a → υ = zup (zup τ 43 a w) 41 a v → v = nI u → UO υ n := by
    rintro τ υ a u v w h hu hua rfl rfl b hb
    rw [zup_self, zup_ne (by decide)]
    unfold upd
    by_cases hba : b = a
    · rw [if_pos hba]; exact Or.inr ⟨u, hu, by rw [hba]; exact hua, rfl⟩
    · rw [if_neg hba]; exact h b hb
  have two : ∀ υ, zFr [41, 42, 43] σ υ → UO υ n → zZ G M_Mo_tree 1 X (fun r τ => r = none ∧ zFr [41, 42, 43] σ τ ∧ UO τ n) 59 [(0, zf G 32), (2, .int set), (3, .int (0 : Int32))] [] υ := by
    intro υ h1 h2
    refine z_for n (fun i τ => zZ G M_Mo_tree 1 X (fun r τ => r = none ∧ zFr [41, 42, 43] σ τ ∧ UO τ n) 59 [(0, zf G 32), (2, .int set), (3, .int (nI i))] [] τ) (fun _ τ => zFr [41, 42, 43] σ τ ∧ UO τ n) ?_ ?_ 0 υ (Nat.zero_le _) ⟨h1, h2⟩
    · intro st τ hst ⟨h1, h2⟩ ihs
      refine b_Mo_tree_59 E set (nI st) τ ⟨fun q => absurd q (by rw [nt τ h1]; exact nI_ge hst (by omega)), fun _ => ?_⟩
      refine z_for n (fun i τ => zZ G M_Mo_tree 1 X (fun r τ => r = none ∧ zFr [41, 42, 43] σ τ ∧ UO τ n) 70 [(0, zf G 32), (2, .int set), (3, .int (nI st)), (4, .int (nI i))] [] τ) (fun _ τ => zFr [41, 42, 43] σ τ ∧ UO τ n) ?_ ?_ 0 τ (Nat.zero_le _) ⟨h1, h2⟩
      · intro a τ ha ⟨h1, h2⟩ iha
        refine b_Mo_tree_70 E set (nI st) (nI a) τ ⟨fun q => absurd q (by rw [nt τ h1]; exact nI_ge ha (by omega)), fun _ => ?_⟩
        refine z_for n (fun i τ => zZ G M_Mo_tree 1 X (fun r τ => r = none ∧ zFr [41, 42, 43] σ τ ∧ UO τ n) 82 [(0, zf G 32), (2, .int set), (3, .int (nI st)), (4, .int (nI a)), (5, .int (nI i))] [] τ) (fun _ τ => zFr [41, 42, 43] σ τ ∧ UO τ n) ?_ ?_ 0 τ (Nat.zero_le _) ⟨h1, h2⟩
        · intro b τ hb ⟨h1, h2⟩ ih
          have ia : vp_in (nI a) 12 := vp_in_nI (by omega) (by decide)
          have ib : vp_in (nI b) 12 := vp_in_nI (by omega) (by decide)
          have ca : (nI a).toNatClampNeg = a := nI_clamp (by omega)
          have cb : (nI b).toNatClampNeg = b := nI_clamp (by omega)
          have nx : zZ G M_Mo_tree 1 X (fun r τ => r = none ∧ zFr [41, 42, 43] σ τ ∧ UO τ n) 82 [(0, zf G 32), (2, .int set), (3, .int (nI st)), (4, .int (nI a)), (5, .int (nI b + 1))] [] τ := by rw [nI_1]; exact ih τ ⟨h1, h2⟩
          have tail : ∀ z : Int32, zZ G M_Mo_tree 1 X (fun r τ => r = none ∧ zFr [41, 42, 43] σ τ ∧ UO τ n) 129 [(0, zf G 32), (2, .int set), (3, .int (nI st)), (4, .int (nI a)), (5, .int (nI b)), (6, .int z)] [] τ := by
            intro z
            refine b_Mo_tree_129 E set (nI st) (nI a) (nI b) z τ ⟨fun _ => nx, fun _ => ⟨ib, fun _ => nx, fun hlb => ⟨ia, fun _ => nx, fun hla => ⟨ia, fun _ => ⟨ia, fun σ1 e1 => ⟨ia, fun σ2 e2 => ?_⟩⟩, fun _ => ⟨ia, fun _ => nx, fun _ => ⟨ia, fun σ1 e1 => ⟨ia, fun σ2 e2 => ?_⟩⟩⟩⟩⟩⟩⟩ <;>
            · have hba : b ≠ a := fun e => by
                rw [ca] at hla; rw [cb, e] at hlb
                exact hla (by rw [hlb]; exact Int32.le_refl _)
              rw [ca] at e1 e2
              rw [nI_1]
              refine ih σ2 ⟨by rw [e2, e1]; exact (h1.up (by decide)).up (by decide), setU τ σ2 a b _ _ h2 hb hba (by rw [e2, e1]) rfl⟩
          exact b_Mo_tree_82 E set (nI st) (nI a) (nI b) τ ⟨fun q => absurd q (by rw [nt τ h1]; exact nI_ge hb (by omega)), fun _ => ⟨fun _ => tail _, fun _ => ⟨fun _ => tail _, fun _ => ⟨by rw [zi12']; exact vp_in_nI (by omega) (by decide), fun _ => tail _, fun _ => tail _⟩⟩⟩⟩
        · intro τ ⟨h1, h2⟩
          exact b_Mo_tree_82 E set (nI st) (nI a) (nI n) τ ⟨fun _ => by rw [nI_1]; exact iha τ ⟨h1, h2⟩, fun q => absurd (by rw [nt τ h1]; exact nI_le (Nat.le_refl n) (by omega)) q⟩
      · intro τ ⟨h1, h2⟩
        exact b_Mo_tree_70 E set (nI st) (nI n) τ ⟨fun _ => by rw [nI_1]; exact ihs τ ⟨h1, h2⟩, fun q => absurd (by rw [nt τ h1]; exact nI_le (Nat.le_refl n) (by omega)) q⟩
    · intro τ ⟨h1, h2⟩
      exact b_Mo_tree_59 E set (nI n) τ ⟨fun _ => ⟨rfl, h1, h2⟩, fun q => absurd (by rw [nt τ h1]; exact nI_le (Nat.le_refl n) (by omega)) q⟩
  refine z_for n (fun i τ => zZ G M_Mo_tree 1 X (fun r τ => r = none ∧ zFr [41, 42, 43] σ τ ∧ UO τ n) 2 [(0, zf G 32), (1, .int root), (2, .int set), (3, .int (nI i))] [] τ) (fun _ τ => zFr [41, 42, 43] σ τ ∧ UO τ n) ?_ ?_ 0 σ (Nat.zero_le _) ⟨zFr.rf, hU⟩
  · intro i τ hi ⟨h1, h2⟩ ih
    have ii : vp_in (nI i) 12 := vp_in_nI (by omega) (by decide)
    have ci : (nI i).toNatClampNeg = i := nI_clamp (by omega)
    have fin : ∀ σ1 σ2 σ3 w, σ1 = zup τ 42 (nI i).toNatClampNeg root → σ2 = zup σ1 43 (nI i).toNatClampNeg w → σ3 = zup σ2 41 (nI i).toNatClampNeg (-2) → zZ G M_Mo_tree 1 X (fun r τ => r = none ∧ zFr [41, 42, 43] σ τ ∧ UO τ n) 2 [(0, zf G 32), (1, .int root), (2, .int set), (3, .int (nI i + 1))] [] σ3 := by
      intro σ1 σ2 σ3 w e1 e2 e3
      rw [nI_1]
      refine ih σ3 ⟨by rw [e3, e2, e1]; exact ((h1.up (by decide)).up (by decide)).up (by decide), fun b hb => ?_⟩
      rw [e3, zup_self, e2, zup_ne (by decide), e1, zup_ne (by decide), ci]
      unfold upd
      by_cases hbi : b = i
      · rw [if_pos hbi]; exact Or.inl rfl
      · rw [if_neg hbi]; exact h2 b hb
    exact b_Mo_tree_2 E root set (nI i) τ ⟨fun q => absurd q (by rw [nt τ h1]; exact nI_ge hi (by omega)), fun _ => ⟨fun _ => by rw [nI_1]; exact ih τ ⟨h1, h2⟩, fun _ => ⟨ii, fun σ1 e1 => ⟨fun _ => ⟨ii, fun σ2 e2 => ⟨ii, fun σ3 e3 => fin σ1 σ2 σ3 _ e1 e2 e3⟩⟩, fun _ => ⟨ii, fun σ2 e2 => ⟨ii, fun σ3 e3 => fin σ1 σ2 σ3 _ e1 e2 e3⟩⟩⟩⟩⟩⟩
  · intro τ ⟨h1, h2⟩
    exact b_Mo_tree_2 E root set (nI n) τ ⟨fun _ => two τ h1 h2, fun q => absurd (by rw [nt τ h1]; exact nI_le (Nat.le_refl n) (by omega)) q⟩
theorem s_Mo_bits (G : zG) (σ : zSt) (n : Nat) (s : Int32) (hn : σ 32 0 = nI n) (hle : n ≤ 12) : zI G 0 M_Mo_bits [zf G 32, .int s] σ (fun _ τ => τ = σ) := by
  refine zSpec.of (by decide) (Nat.le_of_ble_eq_true rfl) rfl (fun X E => ?_)
  refine b_Mo_bits_0 E s σ ?_
  refine z_for n (fun i (x : Int32) => zZ G M_Mo_bits 0 X (fun r τ => ∃ x : Int32, r = some (.int x) ∧ τ = σ) 4 [(0, zf G 32), (1, .int s), (2, .int x), (3, .int (nI i))] [] σ) (fun _ _ => True) ?_ ?_ 0 _ (Nat.zero_le _) trivial
  · intro i x hi _ ih
    exact b_Mo_bits_4 E s x (nI i) σ ⟨fun q => absurd q (by rw [hn]; exact nI_ge hi (by omega)), fun _ => by rw [nI_1]; exact ih _ trivial⟩
  · intro x _
    exact b_Mo_bits_4 E s x (nI n) σ ⟨fun _ => ⟨_, rfl, rfl⟩, fun q => absurd (by rw [hn]; exact nI_le (Nat.le_refl n) (by omega)) q⟩
theorem s_Mo_around (G : zG) (σ : zSt) (n : Nat) (s f : Int32) (hn : σ 32 0 = nI n) (hle : n ≤ 12) : zI G 1 M_Mo_around [zf G 32, .int s, .int f] σ (fun x τ => (∃ y, x = y &&& f) ∧ τ = σ) := by
  refine zSpec.of (by decide) (Nat.le_of_ble_eq_true rfl) rfl (fun X E => ?_)
  refine b_Mo_around_0 E s f σ ?_
  refine z_for n (fun i (x : Int32) => zZ G M_Mo_around 1 X (fun r τ => ∃ x : Int32, r = some (.int x) ∧ (∃ y, x = y &&& f) ∧ τ = σ) 5 [(0, zf G 32), (1, .int s), (2, .int f), (3, .int x), (4, .int (nI i))] [] σ) (fun _ _ => True) ?_ ?_ 0 _ (Nat.zero_le _) trivial
  · intro a x ha _ iha
    refine b_Mo_around_5 E s f x (nI a) σ ⟨fun q => absurd q (by rw [hn]; exact nI_ge ha (by omega)), fun _ => ?_⟩
    refine z_for n (fun i (x : Int32) => zZ G M_Mo_around 1 X (fun r τ => ∃ x : Int32, r = some (.int x) ∧ (∃ y, x = y &&& f) ∧ τ = σ) 17 [(0, zf G 32), (1, .int s), (2, .int f), (3, .int x), (4, .int (nI a)), (5, .int (nI i))] [] σ) (fun _ _ => True) ?_ ?_ 0 x (Nat.zero_le _) trivial
    · intro b x hb _ ih
      exact b_Mo_around_17 E s f x (nI a) (nI b) σ ⟨fun q => absurd q (by rw [hn]; exact nI_ge hb (by omega)), fun _ => ⟨fun _ => by rw [nI_1]; exact ih _ trivial, fun _ => ⟨by rw [zi12']; exact vp_in_nI (by omega) (by decide), fun _ => by rw [nI_1]; exact ih _ trivial, fun _ => by rw [nI_1]; exact ih _ trivial⟩⟩⟩
    · intro x _
      exact b_Mo_around_17 E s f x (nI a) (nI n) σ ⟨fun _ => by rw [nI_1]; exact iha _ trivial, fun q => absurd (by rw [hn]; exact nI_le (Nat.le_refl n) (by omega)) q⟩
  · intro x _
    exact b_Mo_around_5 E s f x (nI n) σ ⟨fun _ => ⟨_, rfl, ⟨x, rfl⟩, rfl⟩, fun q => absurd (by rw [hn]; exact nI_le (Nat.le_refl n) (by omega)) q⟩
end
section
-- The reference: chosen links, clusters
theorem s_Mo_choose (G : zG) (σ : zSt) (n : Nat) (hn : σ 32 0 = nI n) (hle : n ≤ 12) : zV G 1 M_Mo_choose [zf G 32] σ (fun τ => MF [44] [20] σ τ) := by
  refine zSpec.of (by decide) (Nat.le_of_ble_eq_true rfl) rfl (fun X E => ?_)
  refine b_Mo_choose_0 E σ ?_
  have nt : ∀ τ, MF [44] [20] σ τ → τ 32 0 = nI n := fun τ h => by rw [h.2 0 (by decide)]; exact hn
  refine z_for n (fun i τ => zZ G M_Mo_choose 1 X (fun r τ => r = none ∧ MF [44] [20] σ τ) 2 [(0, zf G 32), (1, .int (nI i))] [] τ) (fun _ τ => MF [44] [20] σ τ) ?_ ?_ 0 σ (Nat.zero_le _) MF.rf
  · intro a τ ha hI iha
    refine b_Mo_choose_2 E (nI a) τ ⟨fun q => absurd q (by rw [nt τ hI]; exact nI_ge ha (by omega)), fun _ => ?_⟩
    rw [nI_1]
    refine z_for n (fun i τ => zZ G M_Mo_choose 1 X (fun r τ => r = none ∧ MF [44] [20] σ τ) 14 [(0, zf G 32), (1, .int (nI a)), (2, .int (nI i))] [] τ) (fun _ τ => MF [44] [20] σ τ) ?_ ?_ (a + 1) τ (by omega) hI
    · intro b τ hb hI ihb
      have ia : vp_in (nI a) 12 := vp_in_nI (by omega) (by decide)
      have ib : vp_in (nI b) 12 := vp_in_nI (by omega) (by decide)
      have iab : vp_in (((12 : Int32) * nI a) + nI b) 144 := by rw [zi12']; exact vp_in_nI (by omega) (by decide)
      have iba : vp_in (((12 : Int32) * nI b) + nI a) 144 := by rw [zi12']; exact vp_in_nI (by omega) (by decide)
      have fin : ∀ (v v2 w : Int32) (σ1 σ2 σ3 : zSt), σ1 = zup τ 44 (((12 : Int32) * nI a) + nI b).toNatClampNeg v → σ2 = zup σ1 44 (((12 : Int32) * nI b) + nI a).toNatClampNeg v2 → σ3 = zup σ2 32 20 w → zZ G M_Mo_choose 1 X (fun r τ => r = none ∧ MF [44] [20] σ τ) 14 [(0, zf G 32), (1, .int (nI a)), (2, .int (nI b + 1))] [] σ3 := by
        intro v v2 w σ1 σ2 σ3 e1 e2 e3
        rw [nI_1]
        refine ihb σ3 ?_
        rw [e3, e2, e1]
        exact ((hI.up (by decide) (by decide)).up (by decide) (by decide)).fld (by decide)
      -- the loops that ask whether the link is the first
      have ask : ∀ (k : Nat) (f : Int32), k ≤ n → zZ G M_Mo_choose 1 X (fun r τ => r = none ∧ MF [44] [20] σ τ) 55 [(0, zf G 32), (1, .int (nI a)), (2, .int (nI b)), (3, .int f), (4, .int (nI k))] [] τ := by
        intro k f hk
        refine z_for n (fun i (f : Int32) => zZ G M_Mo_choose 1 X (fun r τ => r = none ∧ MF [44] [20] σ τ) 55 [(0, zf G 32), (1, .int (nI a)), (2, .int (nI b)), (3, .int f), (4, .int (nI i))] [] τ) (fun _ _ => True) ?_ ?_ k f hk trivial
        · intro c f hc _ ihc
          refine b_Mo_choose_55 E (nI a) (nI b) f (nI c) τ ⟨fun q => absurd q (by rw [nt τ hI]; exact nI_ge hc (by omega)), fun _ => ⟨fun _ => ⟨iab, fun σ1 e1 => ⟨iba, fun σ2 e2 => ⟨fun _ σ3 e3 => fin _ _ _ σ1 σ2 σ3 e1 e2 e3, fun _ σ3 e3 => fin _ _ _ σ1 σ2 σ3 e1 e2 e3⟩⟩⟩, fun _ => ?_⟩⟩
          rw [nI_1]
          have ic : vp_in (nI c) 12 := vp_in_nI (by omega) (by decide)
          refine z_for n (fun i (f : Int32) => zZ G M_Mo_choose 1 X (fun r τ => r = none ∧ MF [44] [20] σ τ) 74 [(0, zf G 32), (1, .int (nI a)), (2, .int (nI b)), (3, .int f), (4, .int (nI c)), (5, .int (nI i))] [] τ) (fun _ _ => True) ?_ ?_ (c + 1) f (by omega) trivial
          · intro d f hd _ ihd
            have id : vp_in (nI d) 12 := vp_in_nI (by omega) (by decide)
            have nx : ∀ g : Int32, zZ G M_Mo_choose 1 X (fun r τ => r = none ∧ MF [44] [20] σ τ) 74 [(0, zf G 32), (1, .int (nI a)), (2, .int (nI b)), (3, .int g), (4, .int (nI c)), (5, .int (nI d + 1))] [] τ := fun g => by rw [nI_1]; exact ihd g trivial
            have tail : ∀ g : Int32, zZ G M_Mo_choose 1 X (fun r τ => r = none ∧ MF [44] [20] σ τ) 154 [(0, zf G 32), (1, .int (nI a)), (2, .int (nI b)), (3, .int f), (4, .int (nI c)), (5, .int (nI d)), (6, .int g)] [] τ := fun g => b_Mo_choose_154 E (nI a) (nI b) f (nI c) (nI d) g τ ⟨fun _ => nx _, fun _ => ⟨by rw [zi12']; exact vp_in_nI (by omega) (by decide), fun _ => nx _, fun _ => ⟨fun _ => nx _, fun _ => ⟨fun _ => nx _, fun _ => ⟨fun _ => nx _, fun _ => ⟨fun _ => nx _, fun _ => nx _⟩⟩⟩⟩⟩⟩
            exact b_Mo_choose_74 E (nI a) (nI b) f (nI c) (nI d) τ ⟨fun q => absurd q (by rw [nt τ hI]; exact nI_ge hd (by omega)), fun _ => ⟨ic, ia, fun _ => ⟨ic, ib, fun _ => tail _, fun _ => ⟨id, ia, fun _ => tail _, fun _ => tail _⟩⟩, fun _ => ⟨id, ib, fun _ => tail _, fun _ => ⟨ic, ib, fun _ => tail _, fun _ => ⟨id, ia, fun _ => tail _, fun _ => tail _⟩⟩⟩⟩⟩
          · intro f _
            exact b_Mo_choose_74 E (nI a) (nI b) f (nI c) (nI n) τ ⟨fun _ => by rw [nI_1]; exact ihc f trivial, fun q => absurd (by rw [nt τ hI]; exact nI_le (Nat.le_refl n) (by omega)) q⟩
        · intro f _
          exact b_Mo_choose_55 E (nI a) (nI b) f (nI n) τ ⟨fun _ => ⟨iab, fun σ1 e1 => ⟨iba, fun σ2 e2 => ⟨fun _ σ3 e3 => fin _ _ _ σ1 σ2 σ3 e1 e2 e3, fun _ σ3 e3 => fin _ _ _ σ1 σ2 σ3 e1 e2 e3⟩⟩⟩, fun q => absurd (by rw [nt τ hI]; exact nI_le (Nat.le_refl n) (by omega)) q⟩
      exact b_Mo_choose_14 E (nI a) (nI b) τ ⟨fun q => absurd q (by rw [nt τ hI]; exact nI_ge hb (by omega)), fun _ => ⟨iab, fun _ => ask 0 _ (Nat.zero_le _), fun _ => ⟨ia, ib, fun _ => ask 0 _ (Nat.zero_le _), fun _ => ask 0 _ (Nat.zero_le _)⟩⟩⟩
    · intro τ hI
      exact b_Mo_choose_14 E (nI a) (nI n) τ ⟨fun _ => by rw [nI_1]; exact iha τ hI, fun q => absurd (by rw [nt τ hI]; exact nI_le (Nat.le_refl n) (by omega)) q⟩
  · intro τ hI
    exact b_Mo_choose_2 E (nI n) τ ⟨fun _ => ⟨rfl, hI⟩, fun q => absurd (by rw [nt τ hI]; exact nI_le (Nat.le_refl n) (by omega)) q⟩
-- sets of nodes: no bit from n on
def SB (s : Int32) (n : Nat) : Prop := ∀ c, n ≤ c → c < 32 → bt s c = false
theorem SB.and {s t : Int32} {n : Nat} (h : SB s n) : SB (s &&& t) n := fun c h1 h2 => by rw [b_and, h c h1 h2, Bool.false_and]
theorem SB.ex {s : Int32} {n : Nat} (h : SB s n) (h0 : ¬ s = 0) (hn : n ≤ 32) : ∃ c, c < n ∧ zIn s (nI c) = true := by
  apply Classical.byContradiction
  intro hno
  apply h0
  apply b_ext
  intro i hi
  rw [b_0]
  rcases Nat.lt_or_ge i n with h1 | h1
  · cases hb : bt s i with
    | false => rfl
    | true => exact absurd ⟨i, h1, by rw [zIn_bt _ hi]; exact hb⟩ hno
  · exact h i h1 hi
theorem SB_all : ∀ n, n < 13 → SB (zAll (nI n)) n := by
  have key : ∀ n, n < 13 → ∀ c, c < 32 → n ≤ c → bt (zAll (nI n)) c = false := by decide +kernel
  exact fun n hn c h1 h2 => key n hn c h2 h1
-- how many of the first n bits are set
def co (s : Int32) (n : Nat) : Nat := n - cz s n
theorem cz_n (s : Int32) (n : Nat) : cz s n ≤ n := by
  induction n with
  | zero => exact Nat.le_refl _
  | succ k ih => unfold cz; split <;> omega
theorem co_lt {s t : Int32} {n b : Nat} (hn : n ≤ 32) (hb : b < n) (h : ∀ c, c < n → zIn t (nI c) = true → zIn s (nI c) = true) (hs : zIn s (nI b) = true) (ht : zIn t (nI b) = false) : co t n < co s n := by
  have h1 := cz_lt (s := t) (t := s) hn hb h ht hs
  have h2 := cz_n t n
  unfold co
  omega
theorem s_Mo_makeClusters (G : zG) (σ : zSt) (n : Nat) (k : Int32) (hn : σ 32 0 = nI n) (h1n : 1 ≤ n) (hle : n ≤ 12) (hU : UO σ n) : zV G 2 M_Mo_makeClusters [zf G 32, .int k] σ (fun τ => MF [41, 42, 43, 44] [19, 20] σ τ ∧ UO τ n) := by
  refine zSpec.of (by decide) (Nat.le_of_ble_eq_true rfl) rfl (fun X E => ?_)
  refine b_Mo_makeClusters_0 E k σ (fun σ0 e0 => ?_)
  have nt : ∀ τ, MF [41, 42, 43, 44] [19, 20] σ τ → τ 32 0 = nI n := fun τ h => by rw [h.2 0 (by decide)]; exact hn
  -- while (free != 0)
  have main : ∀ (m : Nat) (fr : Int32) (τ : zSt), co fr n = m → SB fr n → MF [41, 42, 43, 44] [19, 20] σ τ → UO τ n → zZ G M_Mo_makeClusters 2 X (fun r τ => r = none ∧ MF [41, 42, 43, 44] [19, 20] σ τ ∧ UO τ n) 14 [(0, zf G 32), (1, .int k), (2, .int fr)] [] τ := by
    intro m
    induction m using Nat.strongRecOn with
    | ind m IH =>
      intro fr τ hm hB hF hUτ
      refine b_Mo_makeClusters_14 E k fr τ ⟨fun _ => ⟨_, s_Mo_choose G τ n (nt τ hF) hle, fun τ1 g1 => ⟨rfl, hF.tr (g1.mono (by decide) (by decide)), fun a ha => ?_⟩⟩, fun hne => ?_⟩
      · rw [g1.at (by decide)]; exact hUτ a ha
      obtain ⟨b, hb, hzb⟩ := hB.ex hne (by omega)
      -- a cluster is grown: the inner while
      have grow : ∀ (m2 : Nat) (fr2 set near : Int32) (rt : Nat) (υ : zSt), co fr2 n = m2 → co fr2 n < m → SB fr2 n → (∃ y, near = y &&& fr2) → rt < 12 → MF [41, 42, 43, 44] [19, 20] σ υ → UO υ n →
          zZ G M_Mo_makeClusters 2 X (fun r τ => r = none ∧ MF [41, 42, 43, 44] [19, 20] σ τ ∧ UO τ n) 55 [(0, zf G 32), (1, .int k), (2, .int fr2), (3, .int (nI rt)), (4, .int set), (5, .int near)] [] υ := by
        intro m2
        induction m2 using Nat.strongRecOn with
        | ind m2 IH2 =>
          intro fr2 set near rt υ hm2 hlt hB2 hnear hrt hFυ hUυ
          have fin : ∀ (σ1 σ2 : zSt) (w : Int32), zFr [41, 42, 43] υ σ1 ∧ UO σ1 n → σ2 = zup σ1 32 19 w → zZ G M_Mo_makeClusters 2 X (fun r τ => r = none ∧ MF [41, 42, 43, 44] [19, 20] σ τ ∧ UO τ n) 14 [(0, zf G 32), (1, .int k), (2, .int fr2)] [] σ2 := by
            intro σ1 σ2 w ⟨g1, g2⟩ e2
            refine IH (co fr2 n) hlt fr2 σ2 rfl hB2 ?_ (fun a ha => ?_)
            · rw [e2]
              exact (hFυ.tr ((MF.of (J := [19, 20]) g1 (by decide)).mono (by decide) (by decide))).fld (by decide)
            · rw [e2, zup_ne (by decide)]; exact g2 a ha
          refine b_Mo_makeClusters_55 E k fr2 (nI rt) set near υ ⟨fun _ => ⟨_, s_Mo_tree G υ n (nI rt) set (nt υ hFυ) hle hUυ, fun σ1 g σ2 e2 => fin σ1 σ2 _ g e2⟩, fun hne2 => ⟨_, s_Mo_bits G υ n near (nt υ hFυ) hle, ?_⟩⟩
          rintro x4 υ rfl
          refine ⟨_, s_Mo_bits G _ n set (nt _ hFυ) hle, ?_⟩
          rintro x6 υ rfl
          refine ⟨fun _ => ⟨_, s_Mo_tree G _ n (nI rt) set (nt _ hFυ) hle hUυ, fun σ1 g σ2 e2 => fin σ1 σ2 _ g e2⟩, fun _ => ⟨_, s_Mo_around G _ n _ _ (nt _ hFυ) hle, ?_⟩⟩
          rintro x10 υ ⟨hx, rfl⟩
          obtain ⟨y, rfl⟩ := hnear
          have hBn : SB (y &&& fr2) n := fun c h1 h2 => by rw [b_and, hB2 c h1 h2, Bool.and_false]
          obtain ⟨c0, hc0, hz0⟩ := hBn.ex hne2 (by omega)
          have hz1 : zIn fr2 (nI c0) = true := by
            rw [zIn_and _ _ (by omega)] at hz0
            revert hz0; cases zIn fr2 (nI c0) <;> simp
          have hdec : co (fr2 &&& ((y &&& fr2) ^^^ (-1 : Int32))) n < co fr2 n := by
            refine co_lt (b := c0) (by omega) hc0 (fun c hc h => ?_) hz1 ?_
            · rw [zIn_and _ _ (by omega)] at h
              revert h; cases zIn fr2 (nI c) <;> simp
            · rw [zIn_and _ _ (by omega), zIn_not _ (by omega), hz0]; simp
          exact IH2 _ (by omega) _ _ x10 rt _ rfl (by omega) hB2.and hx hrt hFυ hUυ
      -- the root: the least free node
      have root : ∀ (i : Nat), i ≤ b → zZ G M_Mo_makeClusters 2 X (fun r τ => r = none ∧ MF [41, 42, 43, 44] [19, 20] σ τ ∧ UO τ n) 20 [(0, zf G 32), (1, .int k), (2, .int fr), (3, .int (nI i))] [] τ := by
        intro i hi
        have found : ∀ i, i < n → zIn fr (nI i) = true → (∃ P : Int32 → zSt → Prop, zI G 1 M_Mo_around [zf G 32, .int ((1 : Int32) <<< (nI i &&& 31)), .int (fr &&& (((1 : Int32) <<< (nI i &&& 31)) ^^^ (-1 : Int32)))] τ P ∧ ∀ (x2 : Int32) (σ1 : zSt), P x2 σ1 → zZ G M_Mo_makeClusters 2 X (fun r τ => r = none ∧ MF [41, 42, 43, 44] [19, 20] σ τ ∧ UO τ n) 55 [(0, zf G 32), (1, .int k), (2, .int (fr &&& (((1 : Int32) <<< (nI i &&& 31)) ^^^ (-1 : Int32)))), (3, .int (nI i)), (4, .int ((1 : Int32) <<< (nI i &&& 31))), (5, .int x2)] [] σ1) := by
          intro i hi hz
          refine ⟨_, s_Mo_around G τ n _ _ (nt τ hF) hle, ?_⟩
          rintro x τ' ⟨hx, rfl⟩
          have hdec : co (fr &&& (((1 : Int32) <<< (nI i &&& 31)) ^^^ (-1 : Int32))) n < co fr n := by
            refine co_lt (b := i) (by omega) hi (fun c hc h => ?_) hz ?_
            · rw [zIn_and _ _ (by omega)] at h
              revert h; cases zIn fr (nI c) <;> simp
            · rw [zIn_and _ _ (by omega), zIn_not _ (by omega), zIn_bit (by omega) (by omega)]; simp
          exact grow _ _ _ x i _ rfl (by omega) hB.and hx (by omega) hF hUτ
        refine z_for b (fun i (_ : Unit) => zZ G M_Mo_makeClusters 2 X (fun r τ => r = none ∧ MF [41, 42, 43, 44] [19, 20] σ τ ∧ UO τ n) 20 [(0, zf G 32), (1, .int k), (2, .int fr), (3, .int (nI i))] [] τ) (fun _ _ => True) ?_ ?_ i () hi trivial
        · intro i _ hib _ ih
          refine b_Mo_makeClusters_20 E k fr (nI i) τ ⟨fun hz => found i (by omega) ?_, fun _ => by rw [nI_1]; exact ih () trivial⟩
          simp [zIn, hz]
        · intro _ _
          refine b_Mo_makeClusters_20 E k fr (nI b) τ ⟨fun _ => found b hb hzb, fun hz => ?_⟩
          rw [zIn_f hz] at hzb
          cases hzb
      exact root 0 (Nat.zero_le _)
  have hF0 : MF [41, 42, 43, 44] [19, 20] σ σ0 := by rw [e0]; exact MF.rf.fld (by decide)
  have hB0 : SB (((1 : Int32) <<< ((σ 32 0) &&& 31)) - (1 : Int32)) n := by
    rw [hn]; exact SB_all n (by omega)
  exact main _ _ σ0 rfl hB0 hF0 (fun a ha => by rw [e0, zup_ne (by decide)]; exact hU a ha)
end
section
-- The reference: what a node does in a round
theorem i32_add {x y : Int32} (hx : -100000 ≤ x.toInt ∧ x.toInt ≤ 100000) (hy : -100000 ≤ y.toInt ∧ y.toInt ≤ 100000) : (x + y).toInt = x.toInt + y.toInt := by
  rw [Int32.toInt_add]
  exact Int.bmod_eq_of_le (by omega) (by omega)
theorem i32_le {x y : Int32} : x ≤ y ↔ x.toInt ≤ y.toInt := Int32.le_iff_toInt_le
theorem i32_lt {x y : Int32} : x < y ↔ x.toInt < y.toInt := Int32.lt_iff_toInt_lt
/-- a number that a NOTE of round r may bear -/
def NB (r : Nat) (x : Int32) : Prop := -2 ≤ x.toInt ∧ x.toInt ≤ 100 + 10 * (r : Int)
/-- lengths and marks are as the document has them -/
def LM (σ : zSt) : Prop := (∀ i, i < 144 → 0 ≤ (σ 33 i).toInt ∧ (σ 33 i).toInt ≤ 9) ∧ (∀ a, a < 12 → 0 ≤ (σ 34 a).toInt ∧ (σ 34 a).toInt ≤ 99)
theorem LM.of {σ τ : zSt} (h : LM σ) (e1 : τ 33 = σ 33) (e2 : τ 34 = σ 34) : LM τ := ⟨fun i hi => by rw [e1]; exact h.1 i hi, fun a ha => by rw [e2]; exact h.2 a ha⟩
theorem s_Mo_first (G : zG) (σ : zSt) (at_ a : Nat) (hat : at_ < 24) (ha : a < 12) (hM : LM σ) : zV G 0 M_Mo_first [zf G 32, .int (nI at_), .int (nI a)] σ (fun τ => zFr [47, 48] σ τ ∧ (-2 ≤ (τ 47 at_).toInt ∧ (τ 47 at_).toInt ≤ 99) ∧ ∀ j, j ≠ at_ → τ 47 j = σ 47 j) := by
  refine zSpec.of (by decide) (Nat.le_of_ble_eq_true rfl) rfl (fun X E => ?_)
  have i1 : vp_in (nI at_) 24 := vp_in_nI hat (by decide)
  have ia : vp_in (nI a) 12 := vp_in_nI ha (by decide)
  have c1 : (nI at_).toNatClampNeg = at_ := nI_clamp (by omega)
  have ca : (nI a).toNatClampNeg = a := nI_clamp (by omega)
  have fin : ∀ (v w : Int32) (σ1 σ2 : zSt), (-2 ≤ v.toInt ∧ v.toInt ≤ 99) → σ1 = zup σ 47 (nI at_).toNatClampNeg v → σ2 = zup σ1 48 (nI at_).toNatClampNeg w → (none : Option Value) = none ∧ zFr [47, 48] σ σ2 ∧ (-2 ≤ (σ2 47 at_).toInt ∧ (σ2 47 at_).toInt ≤ 99) ∧ ∀ j, j ≠ at_ → σ2 47 j = σ 47 j := by
    intro v w σ1 σ2 hv e1 e2
    rw [c1] at e1
    have e47 : σ2 47 = upd (σ 47) at_ v := by rw [e2, zup_ne (by decide), e1, zup_self]
    refine ⟨rfl, by rw [e2, e1]; exact (zFr.rf.up (by decide)).up (by decide), ?_, fun j hj => ?_⟩
    · rw [e47]; simp only [upd, if_true]; exact hv
    · rw [e47]; simp only [upd, if_neg hj]
  have h2 : (-2 : Int32).toInt = -2 := by decide
  have h0 : (0 : Int32).toInt = 0 := by decide
  have hm := hM.2 a ha
  exact b_Mo_first_0 E (nI at_) (nI a) σ ⟨fun _ => ⟨fun _ => ⟨fun _ => ⟨i1, fun σ1 e1 => ⟨i1, fun σ2 e2 => fin _ _ σ1 σ2 (by rw [h2]; decide) e1 e2⟩⟩, fun _ => ⟨i1, fun σ1 e1 => ⟨i1, fun σ2 e2 => fin _ _ σ1 σ2 (by rw [h0]; decide) e1 e2⟩⟩⟩, fun _ => ⟨i1, fun σ1 e1 => ⟨i1, fun σ2 e2 => fin _ _ σ1 σ2 (by rw [h0]; decide) e1 e2⟩⟩⟩, fun _ => ⟨ia, i1, fun σ1 e1 => ⟨i1, fun σ2 e2 => fin _ _ σ1 σ2 (by rw [ca]; omega) e1 e2⟩⟩⟩
/-- what node b's note is worth to node a -/
def vb (σ : zSt) (far : Int32) (a b : Nat) : Int32 := σ 55 b + (if far = 0 then 0 else σ 33 (12 * b + a))
def AT (σ : zSt) (far : Int32) (a i : Nat) (x : Int32) : Prop := ∃ b, b < i ∧ ¬ σ 54 b = 0 ∧ x = vb σ far a b
theorem s_Mo_writer (G : zG) (σ : zSt) (n a : Nat) (x far : Int32) (hle : n ≤ 12) (ha : a < 12) (hx : AT σ far a n x) : zI G 0 M_Mo_writer [zf G 32, .int (nI a), .int x, .int far] σ (fun _ τ => τ = σ) := by
  refine zSpec.of (by decide) (Nat.le_of_ble_eq_true rfl) rfl (fun X E => ?_)
  obtain ⟨b0, hb0, ht, hv⟩ := hx
  refine b_Mo_writer_0 E (nI a) x far σ ?_
  refine z_for b0 (fun i (_ : Unit) => zZ G M_Mo_writer 0 X (fun r τ => ∃ x : Int32, r = some (.int x) ∧ τ = σ) 3 [(0, zf G 32), (1, .int (nI a)), (2, .int x), (3, .int far), (4, .int (nI i))] [] σ) (fun _ _ => True) ?_ ?_ 0 () (Nat.zero_le _) trivial
  · intro i _ hi _ ih
    have ii : vp_in (nI i) 12 := vp_in_nI (by omega) (by decide)
    have nx : zZ G M_Mo_writer 0 X (fun r τ => ∃ x : Int32, r = some (.int x) ∧ τ = σ) 3 [(0, zf G 32), (1, .int (nI a)), (2, .int x), (3, .int far), (4, .int (nI i + 1))] [] σ := by rw [nI_1]; exact ih () trivial
    exact b_Mo_writer_3 E (nI a) x far (nI i) σ ⟨ii, fun _ => nx, fun _ => ⟨ii, fun _ => ⟨fun _ => ⟨_, rfl, rfl⟩, fun _ => nx⟩, fun _ => ⟨by rw [zi12']; exact vp_in_nI (by omega) (by decide), fun _ => ⟨_, rfl, rfl⟩, fun _ => nx⟩⟩⟩
  · intro _ _
    have ib : vp_in (nI b0) 12 := vp_in_nI (by omega) (by decide)
    have cb : (nI b0).toNatClampNeg = b0 := nI_clamp (by omega)
    have cba : (((12 : Int32) * nI b0) + nI a).toNatClampNeg = 12 * b0 + a := by rw [zi12']; exact nI_clamp (by omega)
    refine b_Mo_writer_3 E (nI a) x far (nI b0) σ ⟨ib, fun q => absurd (by rw [cb] at q; exact q) ht, fun _ => ⟨ib, fun hf => ⟨fun _ => ⟨_, rfl, rfl⟩, fun q => ?_⟩, fun hf => ⟨by rw [zi12']; exact vp_in_nI (by omega) (by decide), fun _ => ⟨_, rfl, rfl⟩, fun q => ?_⟩⟩⟩
    · exfalso; apply q; rw [cb, hv]; simp only [vb, if_pos hf]
    · exfalso; apply q; rw [cb, cba, hv]; simp only [vb, if_neg hf]
theorem s_Mo_act (G : zG) (σ : zSt) (n at_ a r : Nat) (hn : σ 32 0 = nI n) (hle : n ≤ 12) (hat : at_ < 24) (ha : a < 12) (hr1 : 1 ≤ r) (hr2 : r ≤ 20) (hM : LM σ) (hT : ∀ b, b < n → ¬ σ 54 b = 0 → NB (r - 1) (σ 55 b)) (hV : r = 1 → -2 ≤ (σ 47 at_).toInt ∧ (σ 47 at_).toInt ≤ 99) :
    zI G 1 M_Mo_act [zf G 32, .int (nI at_), .int (nI a), .int (nI r)] σ (fun x τ => zFr [47, 48] σ τ ∧ (∀ j, j ≠ at_ → τ 47 j = σ 47 j) ∧ (x = -1000 ∨ NB r x)) := by
  refine zSpec.of (by decide) (Nat.le_of_ble_eq_true rfl) rfl (fun X E => ?_)
  have i1 : vp_in (nI at_) 24 := vp_in_nI hat (by decide)
  have ia : vp_in (nI a) 12 := vp_in_nI ha (by decide)
  have c1 : (nI at_).toNatClampNeg = at_ := nI_clamp (by omega)
  have ca : (nI a).toNatClampNeg = a := nI_clamp (by omega)
  have hma := hM.2 a ha
  have n2000 : (2000 : Int32).toInt = 2000 := by decide
  have m2000 : (-2000 : Int32).toInt = -2000 := by decide
  have z0 : (0 : Int32).toInt = 0 := by decide
  have z1 : (1 : Int32).toInt = 1 := by decide
  have zm1 : (-1 : Int32).toInt = -1 := by decide
  -- what a note is worth is small
  have hvb : ∀ far b, b < n → ¬ σ 54 b = 0 → -2 ≤ (vb σ far a b).toInt ∧ (vb σ far a b).toInt ≤ 99 + 10 * (r : Int) := by
    intro far b hb ht
    obtain ⟨h1, h2⟩ := hT b hb ht
    have h3 := hM.1 (12 * b + a) (by omega)
    unfold vb
    by_cases hf : far = 0
    · rw [if_pos hf, i32_add (by omega) (by rw [z0]; decide), z0]
      omega
    · rw [if_neg hf, i32_add (by omega) (by omega)]
      omega
  -- the ends
  have ret : ∀ (τ : zSt) (x : Int32), zFr [47, 48] σ τ → (∀ j, j ≠ at_ → τ 47 j = σ 47 j) → (x = -1000 ∨ NB r x) → ∃ y : Int32, some (Value.int x) = some (Value.int y) ∧ zFr [47, 48] σ τ ∧ (∀ j, j ≠ at_ → τ 47 j = σ 47 j) ∧ (y = -1000 ∨ NB r y) := fun τ x h1 h2 h3 => ⟨x, rfl, h1, h2, h3⟩
  have ret0 : ∀ (x : Int32), (x = -1000 ∨ NB r x) → ∃ y : Int32, some (Value.int x) = some (Value.int y) ∧ zFr [47, 48] σ σ ∧ (∀ j, j ≠ at_ → σ 47 j = σ 47 j) ∧ (y = -1000 ∨ NB r y) := fun x h => ret σ x zFr.rf (fun _ _ => rfl) h
  have up1 : ∀ (v : Int32) (σ1 : zSt), σ1 = zup σ 47 (nI at_).toNatClampNeg v → zFr [47, 48] σ σ1 ∧ (∀ j, j ≠ at_ → σ1 47 j = σ 47 j) := by
    intro v σ1 e1
    rw [c1] at e1
    refine ⟨by rw [e1]; exact zFr.rf.up (by decide), fun j hj => ?_⟩
    rw [e1, zup_self]; simp only [upd, if_neg hj]
  have up2 : ∀ (v w : Int32) (σ1 σ2 : zSt), σ1 = zup σ 47 (nI at_).toNatClampNeg v → σ2 = zup σ1 48 (nI at_).toNatClampNeg w → zFr [47, 48] σ σ2 ∧ (∀ j, j ≠ at_ → σ2 47 j = σ 47 j) := by
    intro v w σ1 σ2 e1 e2
    obtain ⟨h1, h2⟩ := up1 v σ1 e1
    refine ⟨by rw [e2]; exact h1.up (by decide), fun j hj => ?_⟩
    rw [e2, zup_ne (by decide)]; exact h2 j hj
  have nbm : NB r (σ 34 a) := by unfold NB; omega
  have wr : ∀ (far x v : Int32) (σ1 : zSt), σ1 = zup σ 47 (nI at_).toNatClampNeg v → AT σ far a n x → AT σ1 far a n x := by
    rintro far x v σ1 e1 ⟨b, hb, h1, h2⟩
    refine ⟨b, hb, by rw [e1, zup_ne (by decide)]; exact h1, ?_⟩
    rw [h2]; unfold vb; rw [e1, zup_ne (by decide), zup_ne (by decide)]
  have atb : ∀ far x, AT σ far a n x → NB r x ∧ NB r (x + 1) := by
    rintro far x ⟨b, hb, h1, rfl⟩
    have h := hvb far b hb h1
    unfold NB
    rw [i32_add (by omega) (by rw [z1]; decide), z1]
    omega
  -- behind the loop
  have last : ∀ (far le mo ri : Int32) (sm : Int32), (¬ sm = 0 → AT σ far a n le ∧ AT σ far a n mo) → (σ 32 5 = 2 → far = 0) →
      zZ G M_Mo_act 1 X (fun rr τ => ∃ x : Int32, rr = some (.int x) ∧ zFr [47, 48] σ τ ∧ (∀ j, j ≠ at_ → τ 47 j = σ 47 j) ∧ (x = -1000 ∨ NB r x)) 174 [(0, zf G 32), (1, .int (nI at_)), (2, .int (nI a)), (3, .int (nI r)), (4, .int far), (5, .int le), (6, .int mo), (7, .int ri), (8, .int sm)] [] σ := by
    intro far le mo ri sm hsm hfar
    have take : ∀ tk : Int32, (¬ tk = 0 → AT σ far a n le ∧ AT σ far a n mo) → zZ G M_Mo_act 1 X (fun rr τ => ∃ x : Int32, rr = some (.int x) ∧ zFr [47, 48] σ τ ∧ (∀ j, j ≠ at_ → τ 47 j = σ 47 j) ∧ (x = -1000 ∨ NB r x)) 382 [(0, zf G 32), (1, .int (nI at_)), (2, .int (nI a)), (4, .int far), (5, .int le), (6, .int mo), (9, .int tk)] [] σ := by
      intro tk htk
      refine b_Mo_act_382 E (nI at_) (nI a) far le mo tk σ ⟨fun h9 => ⟨fun _ => ⟨i1, fun σ1 e1 => ⟨_, s_Mo_writer G σ1 n a le far hle ha (wr far le _ σ1 e1 (htk h9).1), ?_⟩⟩, fun _ => ⟨i1, fun σ1 e1 => ⟨_, s_Mo_writer G σ1 n a mo far hle ha (wr far mo _ σ1 e1 (htk h9).2), ?_⟩⟩⟩, fun _ => ret0 _ (Or.inl rfl)⟩
      · rintro x3 σ2 rfl
        refine ⟨i1, fun σ4 e4 => ⟨fun _ => ret σ4 _ (up2 _ _ _ σ4 e1 e4).1 (up2 _ _ _ σ4 e1 e4).2 (Or.inr (atb far le (htk h9).1).1), fun _ => ret σ4 _ (up2 _ _ _ σ4 e1 e4).1 (up2 _ _ _ σ4 e1 e4).2 (Or.inr (atb far le (htk h9).1).2)⟩⟩
      · rintro x3 σ2 rfl
        refine ⟨i1, fun σ4 e4 => ⟨fun _ => ret σ4 _ (up2 _ _ _ σ4 e1 e4).1 (up2 _ _ _ σ4 e1 e4).2 (Or.inr (atb far mo (htk h9).2).1), fun _ => ret σ4 _ (up2 _ _ _ σ4 e1 e4).1 (up2 _ _ _ σ4 e1 e4).2 (Or.inr (atb far mo (htk h9).2).2)⟩⟩
    have take0 := take 0 (fun h => absurd rfl h)
    refine b_Mo_act_174 E (nI at_) (nI a) (nI r) far le mo ri sm σ ⟨fun _ => ⟨fun _ => ⟨fun _ => take0, fun h8 => ⟨fun _ => ⟨i1, fun _ => take 1 (fun _ => hsm h8), fun _ => ⟨fun _ => take0, fun _ => ⟨i1, fun _ => take0, fun _ => take 1 (fun _ => hsm h8)⟩⟩⟩, fun _ => ⟨i1, fun _ => take0, fun _ => take 1 (fun _ => hsm h8)⟩⟩⟩, fun h3 => ⟨fun _ => ⟨fun _ => ⟨fun _ => ret0 _ (Or.inr (by unfold NB; rw [z0]; omega)), fun _ => ret0 _ (Or.inr (by unfold NB; rw [z1]; omega))⟩, fun _ => ret0 _ (Or.inl rfl)⟩, fun _ => ⟨i1, ret0 _ (Or.inr ?_)⟩⟩⟩, fun hp => ⟨i1, fun _ => ⟨fun _ => ⟨fun _ => ⟨ia, ret0 _ (Or.inr (by rw [ca]; exact nbm))⟩, fun h8 => ⟨fun _ => ⟨ia, ret0 _ (Or.inr (by rw [ca]; exact nbm))⟩, fun h5 => ⟨i1, fun σ1 e1 => ⟨_, s_Mo_writer G σ1 n a (-1) 0 hle ha (wr 0 (-1) _ σ1 e1 (by have h := (hsm h8).1; rw [hfar hp, h5] at h; exact h)), ?_⟩⟩⟩⟩, fun _ => ⟨fun _ => ⟨i1, fun σ5 e5 => ⟨fun _ => ret σ5 _ (up1 _ σ5 e5).1 (up1 _ σ5 e5).2 (Or.inr (by unfold NB; rw [zm1]; omega)), fun _ => ret σ5 _ (up1 _ σ5 e5).1 (up1 _ σ5 e5).2 (Or.inl rfl)⟩⟩, fun _ => ⟨i1, fun σ5 e5 => ⟨fun _ => ret σ5 _ (up1 _ σ5 e5).1 (up1 _ σ5 e5).2 (Or.inr (by unfold NB; rw [zm1]; omega)), fun _ => ret σ5 _ (up1 _ σ5 e5).1 (up1 _ σ5 e5).2 (Or.inl rfl)⟩⟩⟩⟩, fun _ => ret0 _ (Or.inl rfl)⟩⟩
    · have hr : r = 1 := (nI_eq (by omega) (by decide)).mp h3
      have h := hV hr
      rw [c1]; unfold NB; omega
    · rintro x3 σ2 rfl
      exact ⟨i1, fun σ4 e4 => ret σ4 _ (up2 _ _ _ σ4 e1 e4).1 (up2 _ _ _ σ4 e1 e4).2 (Or.inl rfl)⟩
  -- the loop
  have loop : ∀ far : Int32, (σ 32 5 = 2 → far = 0) → zZ G M_Mo_act 1 X (fun rr τ => ∃ x : Int32, rr = some (.int x) ∧ zFr [47, 48] σ τ ∧ (∀ j, j ≠ at_ → τ 47 j = σ 47 j) ∧ (x = -1000 ∨ NB r x)) 31 [(0, zf G 32), (1, .int (nI at_)), (2, .int (nI a)), (3, .int (nI r)), (4, .int far), (5, .int (2000 : Int32)), (6, .int (-2000 : Int32)), (7, .int (0 : Int32)), (8, .int (0 : Int32))] [] σ := by
    intro far hfar
    refine z_for n (fun i (q : Int32 × Int32 × Int32) => zZ G M_Mo_act 1 X (fun rr τ => ∃ x : Int32, rr = some (.int x) ∧ zFr [47, 48] σ τ ∧ (∀ j, j ≠ at_ → τ 47 j = σ 47 j) ∧ (x = -1000 ∨ NB r x)) 31 [(0, zf G 32), (1, .int (nI at_)), (2, .int (nI a)), (3, .int (nI r)), (4, .int far), (5, .int q.1), (6, .int q.2.1), (7, .int q.2.2), (8, .int (nI i))] [] σ) (fun i q => (q.1 = 2000 ∧ q.2.1 = -2000) ∨ (AT σ far a i q.1 ∧ AT σ far a i q.2.1)) ?_ ?_ 0 (2000, -2000, 0) (Nat.zero_le _) (Or.inl ⟨rfl, rfl⟩)
    · intro i ⟨le, mo, ri⟩ hi hI ih
      dsimp only at hI ih ⊢
      have ii : vp_in (nI i) 12 := vp_in_nI (by omega) (by decide)
      have ci : (nI i).toNatClampNeg = i := nI_clamp (by omega)
      have cia : (((12 : Int32) * nI i) + nI a).toNatClampNeg = 12 * i + a := by rw [zi12']; exact nI_clamp (by omega)
      have atm : ∀ x, AT σ far a i x → AT σ far a (i + 1) x := fun x ⟨b, hb, h⟩ => ⟨b, by omega, h⟩
      -- the note of node i is looked at
      have see : ∀ v : Int32, ¬ σ 54 i = 0 → v = vb σ far a i → ∀ le' mo' : Int32, (le' = v ∨ (le' = le ∧ le ≤ v)) → (mo' = v ∨ (mo' = mo ∧ v ≤ mo)) → zZ G M_Mo_act 1 X (fun rr τ => ∃ x : Int32, rr = some (.int x) ∧ zFr [47, 48] σ τ ∧ (∀ j, j ≠ at_ → τ 47 j = σ 47 j) ∧ (x = -1000 ∨ NB r x)) 113 [(0, zf G 32), (1, .int (nI at_)), (2, .int (nI a)), (3, .int (nI r)), (4, .int far), (5, .int le'), (6, .int mo'), (7, .int ri), (8, .int (nI i)), (9, .int v)] [] σ := by
        intro v ht hv le' mo' hl hm
        have hb := hvb far i hi ht
        rw [← hv] at hb
        have hv' : AT σ far a (i + 1) v := ⟨i, by omega, ht, hv⟩
        have hI' : AT σ far a (i + 1) le' ∧ AT σ far a (i + 1) mo' := by
          rcases hI with ⟨h1, h2⟩ | ⟨h1, h2⟩
          · constructor
            · rcases hl with h | ⟨_, h⟩
              · rw [h]; exact hv'
              · rw [h1, i32_le, n2000] at h; omega
            · rcases hm with h | ⟨_, h⟩
              · rw [h]; exact hv'
              · rw [h2, i32_le, m2000] at h; omega
          · constructor
            · rcases hl with h | ⟨h, _⟩
              · rw [h]; exact hv'
              · rw [h]; exact atm _ h1
            · rcases hm with h | ⟨h, _⟩
              · rw [h]; exact hv'
              · rw [h]; exact atm _ h2
        have nx : ∀ g : Int32, zZ G M_Mo_act 1 X (fun rr τ => ∃ x : Int32, rr = some (.int x) ∧ zFr [47, 48] σ τ ∧ (∀ j, j ≠ at_ → τ 47 j = σ 47 j) ∧ (x = -1000 ∨ NB r x)) 31 [(0, zf G 32), (1, .int (nI at_)), (2, .int (nI a)), (3, .int (nI r)), (4, .int far), (5, .int le'), (6, .int mo'), (7, .int g), (8, .int (nI i + 1))] [] σ := fun g => by rw [nI_1]; exact ih (le', mo', g) (Or.inr hI')
        exact b_Mo_act_113 E (nI at_) (nI a) (nI r) far le' mo' ri (nI i) v σ ⟨fun _ => nx _, fun _ => ⟨ia, fun _ => nx _, fun _ => ⟨ia, fun _ => nx _, fun _ => ⟨fun _ => nx _, fun _ => nx _⟩⟩⟩⟩
      refine b_Mo_act_31 E (nI at_) (nI a) (nI r) far le mo ri (nI i) σ ⟨fun q => absurd q (by rw [hn]; exact nI_ge hi (by omega)), fun _ => ⟨ii, fun _ => ?_, fun ht => ⟨ii, fun hf => ?_, fun hf => ⟨by rw [zi12']; exact vp_in_nI (by omega) (by decide), ?_⟩⟩⟩⟩
      · rw [nI_1]
        refine ih (le, mo, ri) ?_
        rcases hI with h | ⟨h1, h2⟩
        · exact Or.inl h
        · exact Or.inr ⟨atm _ h1, atm _ h2⟩
      · rw [ci] at ht ⊢
        have hv : σ 55 i + (0 : Int32) = vb σ far a i := by unfold vb; rw [if_pos hf]
        exact ⟨fun h1 => ⟨fun h2 => see _ ht hv _ _ (Or.inr ⟨rfl, h1⟩) (Or.inr ⟨rfl, h2⟩), fun _ => see _ ht hv _ _ (Or.inr ⟨rfl, h1⟩) (Or.inl rfl)⟩, fun _ => ⟨fun h2 => see _ ht hv _ _ (Or.inl rfl) (Or.inr ⟨rfl, h2⟩), fun _ => see _ ht hv _ _ (Or.inl rfl) (Or.inl rfl)⟩⟩
      · rw [ci] at ht ⊢
        rw [cia]
        have hv : σ 55 i + σ 33 (12 * i + a) = vb σ far a i := by unfold vb; rw [if_neg hf]
        exact ⟨fun h1 => ⟨fun h2 => see _ ht hv _ _ (Or.inr ⟨rfl, h1⟩) (Or.inr ⟨rfl, h2⟩), fun _ => see _ ht hv _ _ (Or.inr ⟨rfl, h1⟩) (Or.inl rfl)⟩, fun _ => ⟨fun h2 => see _ ht hv _ _ (Or.inl rfl) (Or.inr ⟨rfl, h2⟩), fun _ => see _ ht hv _ _ (Or.inl rfl) (Or.inl rfl)⟩⟩
    · intro ⟨le, mo, ri⟩ hI
      dsimp only at hI ⊢
      refine b_Mo_act_31 E (nI at_) (nI a) (nI r) far le mo ri (nI n) σ ⟨fun _ => ⟨fun _ => last far le mo ri 0 (fun h => absurd rfl h) hfar, fun hmo => last far le mo ri 1 (fun _ => ?_) hfar⟩, fun q => absurd (by rw [hn]; exact nI_le (Nat.le_refl n) (by omega)) q⟩
      rcases hI with ⟨_, h⟩ | h
      · exact absurd (by rw [h]; exact Int32.le_refl _) hmo
      · exact h
  exact b_Mo_act_0 E (nI at_) (nI a) (nI r) σ ⟨fun _ => loop 0 (fun _ => rfl), fun h3 => loop 1 (fun h2 => by rw [h3] at h2; exact absurd h2 (by decide))⟩
end
section
-- The reference: the rounds in step; letters; who has answered
abbrev FStep : List Nat := [47, 48, 50, 52, 53, 54, 55]
theorem zi12p (b : Nat) : (12 : Int32) + nI b = nI (12 + b) := by rw [show (12 : Int32) = nI 12 from rfl, nI_add]
theorem s_Mo_step (G : zG) (σ : zSt) (n R : Nat) (hn : σ 32 0 = nI n) (hle : n ≤ 12) (hR : σ 32 8 = nI R) (hR2 : R ≤ 20) (hM : LM σ) : zV G 2 M_Mo_step [zf G 32] σ (fun τ => zFr FStep σ τ ∧ ∀ j, j < 12 → τ 47 j = σ 47 j) := by
  refine zSpec.of (by decide) (Nat.le_of_ble_eq_true rfl) rfl (fun X E => ?_)
  refine b_Mo_step_0 E σ ?_
  let J : zSt → Prop := fun τ => zFr FStep σ τ ∧ ∀ j, j < 12 → τ 47 j = σ 47 j
  have nt : ∀ τ, J τ → τ 32 0 = nI n := fun τ h => by rw [h.1 32 (by decide)]; exact hn
  have rt : ∀ τ, J τ → τ 32 8 = nI R := fun τ h => by rw [h.1 32 (by decide)]; exact hR
  have lt : ∀ τ, J τ → LM τ := fun τ h => hM.of (h.1 33 (by decide)) (h.1 34 (by decide))
  have jup : ∀ (τ : zSt) (c j : Nat) (v : Int32), J τ → c ∈ FStep → c ≠ 47 → J (zup τ c j v) := fun τ c j v h hc h47 => ⟨h.1.up hc, fun k hk => by rw [zup_ne (Ne.symm h47)]; exact h.2 k hk⟩
  -- the rounds
  have rounds : ∀ (υ : zSt), J υ → (∀ a, a < n → -2 ≤ (υ 47 (12 + a)).toInt ∧ (υ 47 (12 + a)).toInt ≤ 99) → (∀ a, a < n → υ 53 a = -1000) → zZ G M_Mo_step 2 X (fun r τ => r = none ∧ zFr FStep σ τ ∧ ∀ j, j < 12 → τ 47 j = σ 47 j) 51 [(0, zf G 32), (1, .int (1 : Int32))] [] υ := by
    intro υ hJ hv hw
    refine z_for (R + 1) (fun i τ => zZ G M_Mo_step 2 X (fun r τ => r = none ∧ zFr FStep σ τ ∧ ∀ j, j < 12 → τ 47 j = σ 47 j) 51 [(0, zf G 32), (1, .int (nI i))] [] τ) (fun r τ => 1 ≤ r ∧ J τ ∧ (r = 1 → ∀ a, a < n → -2 ≤ (τ 47 (12 + a)).toInt ∧ (τ 47 (12 + a)).toInt ≤ 99) ∧ (∀ a, a < n → τ 53 a = -1000 ∨ NB (r - 1) (τ 53 a))) ?_ ?_ 1 υ (by omega) ⟨Nat.le_refl 1, hJ, fun _ => hv, fun a ha => Or.inl (hw a ha)⟩
    · intro r τ hr ⟨hr1, hJ, hv, hw⟩ ihr
      refine b_Mo_step_51 E (nI r) τ ⟨fun q => absurd q (by rw [rt τ hJ]; exact nI_nlt (by omega) (by omega)), fun _ => ?_⟩
      -- behind the copying
      have acts : ∀ τ : zSt, J τ → (r = 1 → ∀ a, a < n → -2 ≤ (τ 47 (12 + a)).toInt ∧ (τ 47 (12 + a)).toInt ≤ 99) → (∀ a, a < n → τ 52 a = -1000 ∨ NB (r - 1) (τ 52 a)) → zZ G M_Mo_step 2 X (fun r τ => r = none ∧ zFr FStep σ τ ∧ ∀ j, j < 12 → τ 47 j = σ 47 j) 89 [(0, zf G 32), (1, .int (nI r)), (2, .int (0 : Int32))] [] τ := by
        intro τ hJ hv hw
        refine z_for n (fun i τ => zZ G M_Mo_step 2 X (fun r τ => r = none ∧ zFr FStep σ τ ∧ ∀ j, j < 12 → τ 47 j = σ 47 j) 89 [(0, zf G 32), (1, .int (nI r)), (2, .int (nI i))] [] τ) (fun i τ => J τ ∧ (r = 1 → ∀ a, i ≤ a → a < n → -2 ≤ (τ 47 (12 + a)).toInt ∧ (τ 47 (12 + a)).toInt ≤ 99) ∧ (∀ a, a < n → τ 52 a = -1000 ∨ NB (r - 1) (τ 52 a)) ∧ (∀ a, a < i → τ 53 a = -1000 ∨ NB r (τ 53 a))) ?_ ?_ 0 τ (Nat.zero_le _) ⟨hJ, fun h a _ ha => hv h a ha, hw, fun a ha => absurd ha (Nat.not_lt_zero a)⟩
        · intro a τ ha ⟨hJ, hv, hw, hs⟩ iha
          refine b_Mo_step_89 E (nI r) (nI a) τ ⟨fun q => absurd q (by rw [nt τ hJ]; exact nI_ge ha (by omega)), fun _ => ?_⟩
          refine z_for n (fun i τ => zZ G M_Mo_step 2 X (fun r τ => r = none ∧ zFr FStep σ τ ∧ ∀ j, j < 12 → τ 47 j = σ 47 j) 99 [(0, zf G 32), (1, .int (nI r)), (2, .int (nI a)), (3, .int (nI i))] [] τ) (fun i τ2 => (J τ2 ∧ τ2 47 = τ 47 ∧ τ2 52 = τ 52 ∧ τ2 53 = τ 53) ∧ ∀ b, b < i → ¬ τ2 54 b = 0 → NB (r - 1) (τ2 55 b)) ?_ ?_ 0 τ (Nat.zero_le _) ⟨⟨hJ, rfl, rfl, rfl⟩, fun b hb => absurd hb (Nat.not_lt_zero b)⟩
          · intro b τ2 hb ⟨⟨hJ2, e47, e52, e53⟩, ht⟩ ihb
            have ib : vp_in (nI b) 12 := vp_in_nI (by omega) (by decide)
            have cb : (nI b).toNatClampNeg = b := nI_clamp (by omega)
            have fin : ∀ (v : Int32) (σ1 σ2 : zSt), σ1 = zup τ2 54 (nI b).toNatClampNeg v → σ2 = zup σ1 55 (nI b).toNatClampNeg (σ1 52 (nI b).toNatClampNeg) → (¬ v = 0 → ¬ τ2 52 b = -1000) → zZ G M_Mo_step 2 X (fun r τ => r = none ∧ zFr FStep σ τ ∧ ∀ j, j < 12 → τ 47 j = σ 47 j) 99 [(0, zf G 32), (1, .int (nI r)), (2, .int (nI a)), (3, .int (nI b + 1))] [] σ2 := by
              intro v σ1 σ2 e1 e2 hv0
              rw [cb] at e1 e2
              rw [nI_1]
              have x52 : σ1 52 = τ2 52 := by rw [e1, zup_ne (by decide)]
              refine ihb σ2 ⟨⟨?_, ?_, ?_, ?_⟩, fun c hc h54 => ?_⟩
              · rw [e2, e1]; exact jup _ _ _ _ (jup _ _ _ _ hJ2 (by decide) (by decide)) (by decide) (by decide)
              · rw [e2, zup_ne (by decide), e1, zup_ne (by decide), e47]
              · rw [e2, zup_ne (by decide), x52, e52]
              · rw [e2, zup_ne (by decide), e1, zup_ne (by decide), e53]
              · have y54 : σ2 54 = upd (τ2 54) b v := by rw [e2, zup_ne (by decide), e1, zup_self]
                have y55 : σ2 55 = upd (τ2 55) b (τ2 52 b) := by rw [e2, zup_self, x52, e1, zup_ne (by decide)]
                rw [y54] at h54
                rw [y55]
                unfold upd at h54 ⊢
                by_cases hcb : c = b
                · rw [if_pos hcb] at h54 ⊢
                  rcases hw b hb with h | h
                  · rw [← e52] at h; exact absurd h (hv0 h54)
                  · rw [e52]; exact h
                · rw [if_neg hcb] at h54 ⊢
                  exact ht c (by omega) h54
            refine b_Mo_step_99 E (nI r) (nI a) (nI b) τ2 ⟨fun q => absurd q (by rw [nt τ2 hJ2]; exact nI_ge hb (by omega)), fun _ => ⟨by rw [zi12']; exact vp_in_nI (by omega) (by decide), fun _ => ⟨ib, fun σ1 e1 => ⟨ib, ib, fun σ2 e2 => fin 0 σ1 σ2 e1 e2 (fun h => absurd rfl h)⟩⟩, fun _ => ⟨ib, fun _ => ⟨ib, fun σ1 e1 => ⟨ib, ib, fun σ2 e2 => fin 0 σ1 σ2 e1 e2 (fun h => absurd rfl h)⟩⟩, fun h52 => ⟨ib, fun σ1 e1 => ⟨ib, ib, fun σ2 e2 => fin 1 σ1 σ2 e1 e2 (fun _ => by rw [cb] at h52; exact h52)⟩⟩⟩⟩⟩
          · intro τ2 ⟨⟨hJ2, e47, e52, e53⟩, ht⟩
            have ia : vp_in (nI a) 12 := vp_in_nI (by omega) (by decide)
            have ca : (nI a).toNatClampNeg = a := nI_clamp (by omega)
            refine b_Mo_step_99 E (nI r) (nI a) (nI n) τ2 ⟨fun _ => ?_, fun q => absurd (by rw [nt τ2 hJ2]; exact nI_le (Nat.le_refl n) (by omega)) q⟩
            rw [zi12p]
            refine ⟨_, s_Mo_act G τ2 n (12 + a) a r (nt τ2 hJ2) hle (by omega) (by omega) hr1 (by omega) (lt τ2 hJ2) ht (fun h => by rw [e47]; exact hv h a (Nat.le_refl a) ha), fun x σ1 ⟨g1, g2, g3⟩ => ⟨ia, fun σ3 e3 => ⟨vp_in_nI (by omega) (by decide), by rw [zi12']; exact vp_in_nI (by omega) (by decide), fun σ4 e4 => ?_⟩⟩⟩
            rw [nI_1]
            rw [ca] at e3
            have hJ1 : J σ1 := ⟨hJ2.1.tr (g1.mono (by decide)), fun j hj => by rw [g2 j (by omega)]; exact hJ2.2 j hj⟩
            have e4' : σ4 47 = σ1 47 := by rw [e4, zup_ne (by decide), e3, zup_ne (by decide)]
            refine iha σ4 ⟨?_, fun h b hb1 hb2 => ?_, fun b hb => ?_, fun b hb => ?_⟩
            · rw [e4, e3]; exact jup _ _ _ _ (jup _ _ _ _ hJ1 (by decide) (by decide)) (by decide) (by decide)
            · rw [e4', g2 (12 + b) (by omega), e47]; exact hv h b (by omega) hb2
            · rw [e4, zup_ne (by decide), e3, zup_ne (by decide), g1 52 (by decide), e52]; exact hw b hb
            · rw [e4, zup_ne (by decide), e3, zup_self]
              unfold upd
              by_cases hba : b = a
              · rw [if_pos hba]; exact g3
              · rw [if_neg hba, g1 53 (by decide), e53]; exact hs b (by omega)
        · intro τ ⟨hJ, _, _, hs⟩
          refine b_Mo_step_89 E (nI r) (nI n) τ ⟨fun _ => ?_, fun q => absurd (by rw [nt τ hJ]; exact nI_le (Nat.le_refl n) (by omega)) q⟩
          rw [nI_1]
          exact ihr τ ⟨by omega, hJ, fun h => by omega, fun a ha => hs a ha⟩
      refine z_for n (fun i τ => zZ G M_Mo_step 2 X (fun r τ => r = none ∧ zFr FStep σ τ ∧ ∀ j, j < 12 → τ 47 j = σ 47 j) 61 [(0, zf G 32), (1, .int (nI r)), (2, .int (nI i))] [] τ) (fun i τ2 => J τ2 ∧ τ2 47 = τ 47 ∧ τ2 53 = τ 53 ∧ ∀ a, a < i → τ2 52 a = τ 53 a) ?_ ?_ 0 τ (Nat.zero_le _) ⟨hJ, rfl, rfl, fun a ha => absurd ha (Nat.not_lt_zero a)⟩
      · intro i τ2 hi ⟨hJ2, e47, e53, h52⟩ ih
        have ii : vp_in (nI i) 12 := vp_in_nI (by omega) (by decide)
        have ci : (nI i).toNatClampNeg = i := nI_clamp (by omega)
        refine b_Mo_step_61 E (nI r) (nI i) τ2 ⟨fun q => absurd q (by rw [nt τ2 hJ2]; exact nI_ge hi (by omega)), fun _ => ⟨ii, ii, fun σ1 e1 => ?_⟩⟩
        rw [nI_1]
        rw [ci] at e1
        refine ih σ1 ⟨by rw [e1]; exact jup _ _ _ _ hJ2 (by decide) (by decide), by rw [e1, zup_ne (by decide)]; exact e47, by rw [e1, zup_ne (by decide)]; exact e53, fun a ha => ?_⟩
        rw [e1, zup_self]
        unfold upd
        by_cases hai : a = i
        · rw [if_pos hai, e53, hai]
        · rw [if_neg hai]; exact h52 a (by omega)
      · intro τ2 ⟨hJ2, e47, e53, h52⟩
        exact b_Mo_step_61 E (nI r) (nI n) τ2 ⟨fun _ => acts τ2 hJ2 (fun h => by rw [e47]; exact hv h) (fun a ha => by rw [h52 a ha]; exact hw a ha), fun q => absurd (by rw [nt τ2 hJ2]; exact nI_le (Nat.le_refl n) (by omega)) q⟩
    · intro τ ⟨_, hJ, _, _⟩
      exact b_Mo_step_51 E (nI (R + 1)) τ ⟨fun _ => ⟨rfl, hJ⟩, fun q => absurd (by rw [rt τ hJ]; exact nI_lt (by omega) (by omega)) q⟩
  refine z_for n (fun i τ => zZ G M_Mo_step 2 X (fun r τ => r = none ∧ zFr FStep σ τ ∧ ∀ j, j < 12 → τ 47 j = σ 47 j) 2 [(0, zf G 32), (1, .int (nI i))] [] τ) (fun i τ => J τ ∧ (∀ a, a < i → -2 ≤ (τ 47 (12 + a)).toInt ∧ (τ 47 (12 + a)).toInt ≤ 99) ∧ ∀ a, a < i → τ 53 a = -1000) ?_ ?_ 0 σ (Nat.zero_le _) ⟨⟨zFr.rf, fun _ _ => rfl⟩, fun a ha => absurd ha (Nat.not_lt_zero a), fun a ha => absurd ha (Nat.not_lt_zero a)⟩
  · intro i τ hi ⟨hJ, hv, hw⟩ ih
    have ii : vp_in (nI i) 12 := vp_in_nI (by omega) (by decide)
    have ci : (nI i).toNatClampNeg = i := nI_clamp (by omega)
    refine b_Mo_step_2 E (nI i) τ ⟨fun q => absurd q (by rw [nt τ hJ]; exact nI_ge hi (by omega)), fun _ => ?_⟩
    rw [zi12p]
    refine ⟨_, s_Mo_first G τ (12 + i) i (by omega) (by omega) (lt τ hJ), fun σ1 ⟨g1, g2, g3⟩ => ⟨vp_in_nI (by omega) (by decide), vp_in_nI (by omega) (by decide), fun σ2 e2 => ⟨ii, fun σ3 e3 => ?_⟩⟩⟩
    rw [nI_1]
    rw [ci] at e3
    have hJ1 : J σ1 := ⟨hJ.1.tr (g1.mono (by decide)), fun j hj => by rw [g3 j (by omega)]; exact hJ.2 j hj⟩
    refine ih σ3 ⟨by rw [e3, e2]; exact jup _ _ _ _ (jup _ _ _ _ hJ1 (by decide) (by decide)) (by decide) (by decide), fun a ha => ?_, fun a ha => ?_⟩
    · rw [e3, zup_ne (by decide), e2, zup_ne (by decide)]
      by_cases hai : a = i
      · rw [hai]; exact g2
      · rw [g3 (12 + a) (by omega)]; exact hv a (by omega)
    · rw [e3, zup_self]
      unfold upd
      by_cases hai : a = i
      · rw [if_pos hai]
      · rw [if_neg hai, e2, zup_ne (by decide), g1 53 (by decide)]; exact hw a (by omega)
  · intro τ ⟨hJ, hv, hw⟩
    exact b_Mo_step_2 E (nI n) τ ⟨fun _ => rounds τ hJ hv hw, fun q => absurd (by rw [nt τ hJ]; exact nI_le (Nat.le_refl n) (by omega)) q⟩
-- letters
def mlt (σ : zSt) (i : Nat) : Lt := (σ 51 (5 * i), σ 51 (5 * i + 1), σ 51 (5 * i + 2), σ 51 (5 * i + 3), σ 51 (5 * i + 4))
def ML (σ : zSt) (l : List Lt) : Prop := σ 32 27 = nI l.length ∧ l.length ≤ 4000 ∧ ∀ i, i < l.length → l[i]? = some (mlt σ i)
theorem ML.of {σ τ : zSt} {l : List Lt} (h : ML σ l) (e1 : τ 32 27 = σ 32 27) (e2 : τ 51 = σ 51) : ML τ l := by
  obtain ⟨h1, h2, h3⟩ := h
  refine ⟨by rw [e1]; exact h1, h2, fun i hi => ?_⟩
  rw [h3 i hi]
  simp only [mlt, e2]
theorem s_Mo_send (G : zG) (σ : zSt) (l : List Lt) (k f t r x : Int32) (h : ML σ l) (hl : l.length < 4000) : zV G 0 M_Mo_send [zf G 32, .int k, .int f, .int t, .int r, .int x] σ (fun τ => MF [51] [27, 29, 30] σ τ ∧ ML τ (l ++ [(k, f, t, r, x)])) := by
  refine zSpec.of (by decide) (Nat.le_of_ble_eq_true rfl) rfl (fun X E => ?_)
  obtain ⟨h1, h2, h3⟩ := h
  have e5 : (5 : Int32) * nI l.length = nI (5 * l.length) := by rw [show (5 : Int32) = nI 5 from rfl, pk_mul]
  have idx : ∀ j : Nat, j < 5 → vp_in (nI (5 * l.length + j)) 20000 ∧ (nI (5 * l.length + j)).toNatClampNeg = 5 * l.length + j := fun j hj => ⟨vp_in_nI (by omega) (by decide), nI_clamp (by omega)⟩
  have q0 : (5 : Int32) * nI l.length = nI (5 * l.length + 0) := e5
  have q1 : ((5 : Int32) * nI l.length) + (1 : Int32) = nI (5 * l.length + 1) := by rw [e5, show (1 : Int32) = nI 1 from rfl, nI_add]
  have q2 : ((5 : Int32) * nI l.length) + (2 : Int32) = nI (5 * l.length + 2) := by rw [e5, show (2 : Int32) = nI 2 from rfl, nI_add]
  have q3 : ((5 : Int32) * nI l.length) + (3 : Int32) = nI (5 * l.length + 3) := by rw [e5, show (3 : Int32) = nI 3 from rfl, nI_add]
  have q4 : ((5 : Int32) * nI l.length) + (4 : Int32) = nI (5 * l.length + 4) := by rw [e5, show (4 : Int32) = nI 4 from rfl, nI_add]
  refine b_Mo_send_0 E k f t r x σ ⟨by rw [h1, q0]; exact (idx 0 (by omega)).1, fun σ1 e1 => ?_⟩
  rw [h1, q0, (idx 0 (by omega)).2] at e1
  have g1 : σ1 32 27 = nI l.length := by rw [e1, zup_ne (by decide)]; exact h1
  refine ⟨by rw [g1, q1]; exact (idx 1 (by omega)).1, fun σ2 e2 => ?_⟩
  rw [g1, q1, (idx 1 (by omega)).2] at e2
  have g2 : σ2 32 27 = nI l.length := by rw [e2, zup_ne (by decide)]; exact g1
  refine ⟨by rw [g2, q2]; exact (idx 2 (by omega)).1, fun σ3 e3 => ?_⟩
  rw [g2, q2, (idx 2 (by omega)).2] at e3
  have g3 : σ3 32 27 = nI l.length := by rw [e3, zup_ne (by decide)]; exact g2
  refine ⟨by rw [g3, q3]; exact (idx 3 (by omega)).1, fun σ4 e4 => ?_⟩
  rw [g3, q3, (idx 3 (by omega)).2] at e4
  have g4 : σ4 32 27 = nI l.length := by rw [e4, zup_ne (by decide)]; exact g3
  refine ⟨by rw [g4, q4]; exact (idx 4 (by omega)).1, fun σ5 e5' => ?_⟩
  rw [g4, q4, (idx 4 (by omega)).2] at e5'
  have g5 : σ5 32 27 = nI l.length := by rw [e5', zup_ne (by decide)]; exact g4
  have p5 : ∀ j, σ5 51 j = if j = 5 * l.length + 4 then x else if j = 5 * l.length + 3 then r else if j = 5 * l.length + 2 then t else if j = 5 * l.length + 1 then f else if j = 5 * l.length + 0 then k else σ 51 j := fun j => by
    rw [e5', zup_self, e4, zup_self, e3, zup_self, e2, zup_self, e1, zup_self]; rfl
  have fin : ∀ (j : Nat) (w : Int32) (σ6 σ7 : zSt), (j = 29 ∨ j = 30) → σ6 = zup σ5 32 27 ((σ5 32 27) + (1 : Int32)) → σ7 = zup σ6 32 j w → (none : Option Value) = none ∧ MF [51] [27, 29, 30] σ σ7 ∧ ML σ7 (l ++ [(k, f, t, r, x)]) := by
    intro j w σ6 σ7 hj e6 e7
    rw [g5, nI_1] at e6
    refine ⟨rfl, ?_, ?_, ?_, ?_⟩
    · rw [e7, e6, e5', e4, e3, e2, e1]
      exact ((((((MF.rf.up (by decide) (by decide)).up (by decide) (by decide)).up (by decide) (by decide)).up (by decide) (by decide)).up (by decide) (by decide)).fld (by decide)).fld (by rcases hj with rfl | rfl <;> decide)
    · rw [e7, zup_self, e6, zup_self]
      unfold upd
      rw [if_neg (by omega), if_pos rfl, List.length_append]
      rfl
    · rw [List.length_append]; show l.length + 1 ≤ 4000; omega
    · intro i hi
      have e51 : σ7 51 = σ5 51 := by rw [e7, zup_ne (by decide), e6, zup_ne (by decide)]
      rw [List.length_append] at hi
      have hi' : i < l.length + 1 := hi
      simp only [mlt, e51, p5]
      rcases Nat.lt_or_ge i l.length with hil | hil
      · rw [List.getElem?_append_left hil, h3 i hil]
        have a0 : ∀ j, j < 5 → ∀ m, m < 5 → 5 * i + j ≠ 5 * l.length + m := fun j hj m hm => by omega
        simp only [mlt]
        congr 1
        have b0 := a0 0 (by omega)
        simp only [Nat.add_zero] at b0
        congr 1
        · rw [if_neg (by omega), if_neg (by omega), if_neg (by omega), if_neg (by omega), if_neg (by omega)]
        · congr 1
          · rw [if_neg (by omega), if_neg (by omega), if_neg (by omega), if_neg (by omega), if_neg (by omega)]
          · congr 1
            · rw [if_neg (by omega), if_neg (by omega), if_neg (by omega), if_neg (by omega), if_neg (by omega)]
            · congr 1
              · rw [if_neg (by omega), if_neg (by omega), if_neg (by omega), if_neg (by omega), if_neg (by omega)]
              · rw [if_neg (by omega), if_neg (by omega), if_neg (by omega), if_neg (by omega), if_neg (by omega)]
      · have e : i = l.length := by omega
        subst e
        simp
  exact fun σ6 e6 => ⟨fun _ σ7 e7 => fin 30 _ σ6 σ7 (Or.inr rfl) e6 e7, fun _ σ7 e7 => fin 29 _ σ6 σ7 (Or.inl rfl) e6 e7⟩
end
section
-- The reference's protocol, apart from the machine: what holds between two calls, and that each act keeps it
abbrev PS : Type := (Nat → Nat) × (Nat → Int) × (Nat → Bool) × (Nat → Bool) × (Nat → Bool) × (Nat → Bool)
abbrev rdP (S : PS) : Nat → Nat := S.1
abbrev opP (S : PS) : Nat → Int := S.2.1
abbrev sfP (S : PS) : Nat → Bool := S.2.2.1
abbrev raP (S : PS) : Nat → Bool := S.2.2.2.1
abbrev fiP (S : PS) : Nat → Bool := S.2.2.2.2.1
abbrev dnP (S : PS) : Nat → Bool := S.2.2.2.2.2
def fup {α : Type} (f : Nat → α) (a : Nat) (v : α) : Nat → α := fun b => if b = a then v else f b
theorem fup_s {α : Type} {f : Nat → α} {a : Nat} {v : α} : fup f a v a = v := by simp [fup]
theorem fup_n {α : Type} {f : Nat → α} {a b : Nat} {v : α} (h : b ≠ a) : fup f a v b = f b := by simp [fup, h]
def b2i (b : Bool) : Int := if b then 1 else 0
theorem b2i_in (b : Bool) : 0 ≤ b2i b ∧ b2i b ≤ 1 := by cases b <;> simp [b2i]
def su (f : Nat → Int) : Nat → Int
  | 0 => 0
  | k + 1 => su f k + f k
theorem su_le {f g : Nat → Int} {n : Nat} (h : ∀ a, a < n → f a ≤ g a) : su f n ≤ su g n := by
  induction n with
  | zero => exact Int.le_refl _
  | succ k ih =>
    have h1 := ih (fun a ha => h a (by omega))
    have h2 := h k (by omega)
    unfold su; omega
theorem su_add {f g : Nat → Int} {n : Nat} : su (fun a => f a + g a) n = su f n + su g n := by
  induction n with
  | zero => rfl
  | succ k ih => unfold su; rw [ih]; omega
theorem su_one {a : Nat} {v : Int} {n : Nat} (ha : a < n) : su (fun b => if b = a then v else 0) n = v := by
  induction n with
  | zero => omega
  | succ k ih =>
    unfold su
    by_cases hk : a = k
    · subst hk
      have h0 : ∀ m, m ≤ a → su (fun b => if b = a then v else 0) m = 0 := by
        intro m
        induction m with
        | zero => intro _; rfl
        | succ j ihj => intro hj; unfold su; rw [ihj (by omega), if_neg (by omega)]; rfl
      rw [h0 a (Nat.le_refl a), if_pos rfl]; omega
    · rw [ih (by omega), if_neg (Ne.symm hk)]; omega
theorem su_const {n : Nat} {B : Int} {f : Nat → Int} (h : ∀ a, a < n → f a ≤ B) : su f n ≤ n * B := by
  induction n with
  | zero => simp [su]
  | succ k ih =>
    have h1 := ih (fun a ha => h a (by omega))
    have h2 := h k (by omega)
    unfold su
    have : ((k + 1 : Nat) : Int) * B = k * B + B := by rw [Int.natCast_succ, Int.add_mul, Int.one_mul]
    omega
/-- how many nodes have the upper a -/
def cu (up : Nat → Option Nat) (a : Nat) (n : Nat) : Int := su (fun c => if up c = some a then 1 else 0) n
/-- the letters that a node may have waiting at most, and those to it from its upper -/
def ph (W : Nat) (up : Nat → Option Nat) (S : PS) (a : Nat) : Int :=
  (if rdP S a = 0 then 0 else opP S a + 12 * ((rdP S a : Int) - 1 + b2i (if W = 0 then sfP S a else fiP S a)) + ((rdP S a : Int) - 1 + b2i (raP S a)) + ((rdP S a : Int) - 1 + b2i (dnP S a)))
  + (match up a with | none => 0 | some u => if rdP S u = 0 then 0 else ((rdP S u : Int) - 1) + ((rdP S u : Int) - 1 + b2i (fiP S u)))
def frs (l : List Lt) (c : Nat) : Nat := l.countP (fun x => decide (x.1 = 5 ∧ x.2.2.1 = nI c))
/-- a letter, as letters are -/
def VL (n R : Nat) (x : Lt) : Prop := (∃ k, k < 7 ∧ x.1 = nI k) ∧ (∃ f, f < n ∧ x.2.1 = nI f) ∧ (∃ t, t < n ∧ x.2.2.1 = nI t) ∧ (∃ q, 1 ≤ q ∧ q ≤ R ∧ x.2.2.2.1 = nI q ∧ (x.1 = 0 → NB q x.2.2.2.2))
/-- what a letter of the tree says of its nodes -/
def TL (n W : Nat) (up : Nat → Option Nat) (S : PS) (x : Lt) : Prop :=
  (x.1 = 3 → ∃ c u q, c < n ∧ u < n ∧ x.2.1 = nI c ∧ x.2.2.1 = nI u ∧ up c = some u ∧ x.2.2.2.1 = nI q ∧ q ≤ rdP S c ∧ (q = rdP S c → raP S c = true)) ∧
  (x.1 = 6 → ∃ c u q, c < n ∧ u < n ∧ x.2.1 = nI c ∧ x.2.2.1 = nI u ∧ up c = some u ∧ x.2.2.2.1 = nI q ∧ q ≤ rdP S c ∧ (q = rdP S c → dnP S c = true)) ∧
  (x.1 = 4 → ∃ c u, c < n ∧ u < n ∧ x.2.2.1 = nI c ∧ up c = some u ∧ x.2.2.2.1 = nI (rdP S c + 1) ∧ rdP S c + 1 ≤ rdP S u ∧ 1 ≤ rdP S c ∧ raP S c = true ∧ (W = 2 → dnP S c = true)) ∧
  (x.1 = 5 → W = 2 ∧ ∃ c u, c < n ∧ u < n ∧ x.2.2.1 = nI c ∧ up c = some u ∧ 1 ≤ rdP S c ∧ raP S c = true ∧ fiP S c = false ∧ ((rdP S c = rdP S u ∧ fiP S u = true) ∨ rdP S c < rdP S u))
/-- what holds of a node -/
def NL (n R W : Nat) (up : Nat → Option Nat) (c2 c3 : Nat → Nat → Prop) (S : PS) (a : Nat) : Prop :=
  rdP S a ≤ R ∧ (1 ≤ rdP S a → opP S a ≤ 12 ∧ (sfP S a = true → opP S a ≤ 0) ∧ (raP S a = true → sfP S a = true) ∧ (dnP S a = true → fiP S a = true) ∧ (fiP S a = true → raP S a = true) ∧
    (raP S a = true → ∀ c, c < n → up c = some a → c2 c (rdP S a)) ∧ (dnP S a = true → ∀ c, c < n → up c = some a → c3 c (rdP S a))) ∧
  (∀ u, up a = some u → u < n ∧ u ≠ a ∧ (rdP S a ≤ rdP S u ∨ rdP S a ≤ 1) ∧ (1 ≤ rdP S a → fiP S a = true → (rdP S a = rdP S u ∧ fiP S u = true) ∨ rdP S a < rdP S u)) ∧
  (∀ q, c2 a q → q ≤ rdP S a ∧ (q = rdP S a → raP S a = true)) ∧ (∀ q, c3 a q → q ≤ rdP S a ∧ (q = rdP S a → dnP S a = true))
def PI (n R W : Nat) (up : Nat → Option Nat) (c2 c3 : Nat → Nat → Prop) (S : PS) (l : List Lt) : Prop :=
  (∀ a, a < n → NL n R W up c2 c3 S a) ∧ (∀ x, x ∈ l → VL n R x ∧ TL n W up S x) ∧ (∀ c, c < n → gos l c ≤ 1 ∧ frs l c ≤ 1) ∧ (l.length : Int) ≤ su (ph W up S) n
/-- the pool never has more than 3984 letters -/
theorem PI.len {n R W : Nat} {up : Nat → Option Nat} {c2 c3 : Nat → Nat → Prop} {S : PS} {l : List Lt} (h : PI n R W up c2 c3 S l) (hn : n ≤ 12) (hR : R ≤ 20) : l.length ≤ 3984 := by
  have h1 : su (ph W up S) n ≤ n * 332 := by
    refine su_const (fun a ha => ?_)
    obtain ⟨n1, n2, n3, -, -⟩ := h.1 a ha
    have b1 := b2i_in (if W = 0 then sfP S a else fiP S a)
    have b2 := b2i_in (raP S a)
    have b3 := b2i_in (dnP S a)
    unfold ph
    have e1 : (if rdP S a = 0 then (0 : Int) else opP S a + 12 * ((rdP S a : Int) - 1 + b2i (if W = 0 then sfP S a else fiP S a)) + ((rdP S a : Int) - 1 + b2i (raP S a)) + ((rdP S a : Int) - 1 + b2i (dnP S a))) ≤ 292 := by
      by_cases h0 : rdP S a = 0
      · rw [if_pos h0]; omega
      · rw [if_neg h0]
        have := (n2 (by omega)).1
        omega
    have e2 : (match up a with | none => (0 : Int) | some u => if rdP S u = 0 then 0 else ((rdP S u : Int) - 1) + ((rdP S u : Int) - 1 + b2i (fiP S u))) ≤ 40 := by
      cases hu : up a with
      | none => simp
      | some u =>
        have hu' := (n3 u hu).1
        have h5 := (h.1 u hu').1
        have b4 := b2i_in (fiP S u)
        simp only
        by_cases h0 : rdP S u = 0
        · rw [if_pos h0]; omega
        · rw [if_neg h0]; omega
    omega
  have h2 := h.2.2.2
  have h3 : (n : Int) * 332 ≤ 12 * 332 := by omega
  omega
theorem frs_app (l m : List Lt) (c : Nat) : frs (l ++ m) c = frs l c + frs m c := by unfold frs; exact List.countP_append
theorem gos_app (l m : List Lt) (c : Nat) : gos (l ++ m) c = gos l c + gos m c := by unfold gos; exact List.countP_append
/-- letters that are no GO and no FIRM come in -/
theorem PI.send {n R W : Nat} {up : Nat → Option Nat} {c2 c3 : Nat → Nat → Prop} {S S' : PS} {l : List Lt} (h : PI n R W up c2 c3 S l) (m : List Lt)
    (hN : ∀ a, a < n → NL n R W up c2 c3 S' a) (hT : ∀ x, x ∈ l → TL n W up S' x) (hm : ∀ x, x ∈ m → VL n R x ∧ TL n W up S' x) (h45 : ∀ x, x ∈ m → ¬ x.1 = 4 ∧ ¬ x.1 = 5) (hp : su (ph W up S) n + m.length ≤ su (ph W up S') n) : PI n R W up c2 c3 S' (l ++ m) := by
  refine ⟨hN, fun x hx => ?_, fun c hc => ?_, ?_⟩
  · rcases List.mem_append.mp hx with e | e
    · exact ⟨(h.2.1 x e).1, hT x e⟩
    · exact hm x e
  · have g0 : gos m c = 0 := by
      unfold gos; exact List.countP_eq_zero.mpr (fun x hx => by simp [(h45 x hx).1])
    have f0 : frs m c = 0 := by
      unfold frs; exact List.countP_eq_zero.mpr (fun x hx => by simp [(h45 x hx).2])
    rw [gos_app, frs_app, g0, f0]
    exact h.2.2.1 c hc
  · rw [List.length_append]
    have := h.2.2.2
    omega
/-- a letter goes -/
theorem PI.take {n R W : Nat} {up : Nat → Option Nat} {c2 c3 : Nat → Nat → Prop} {S : PS} {l : List Lt} {i : Nat} (h : PI n R W up c2 c3 S l) : (∀ a, a < n → NL n R W up c2 c3 S a) ∧ (∀ x, x ∈ l.eraseIdx i → VL n R x ∧ TL n W up S x) ∧ (∀ c, c < n → gos (l.eraseIdx i) c ≤ 1 ∧ frs (l.eraseIdx i) c ≤ 1) := by
  refine ⟨h.1, fun x hx => h.2.1 x (List.mem_of_mem_eraseIdx hx), fun c hc => ?_⟩
  have s := List.eraseIdx_sublist l i
  have g1 : gos (l.eraseIdx i) c ≤ gos l c := by unfold gos; exact s.countP_le
  have g2 : frs (l.eraseIdx i) c ≤ frs l c := by unfold frs; exact s.countP_le
  have := h.2.2.1 c hc
  omega
end
