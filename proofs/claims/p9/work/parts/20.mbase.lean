-- The reference: begin, link, mark, sets, trees, clusters
def MF (L J : List Nat) (σ τ : zSt) : Prop := zFr (32 :: L) σ τ ∧ ∀ j, j ∉ J → τ 32 j = σ 32 j
theorem MF.rf {L J : List Nat} {σ : zSt} : MF L J σ σ := ⟨zFr.rf, fun _ _ => rfl⟩
theorem MF.tr {L J : List Nat} {σ τ υ : zSt} (h : MF L J σ τ) (h2 : MF L J τ υ) : MF L J σ υ := ⟨h.1.tr h2.1, fun j hj => (h2.2 j hj).trans (h.2 j hj)⟩
theorem MF.mono {L L2 J J2 : List Nat} {σ τ : zSt} (h : MF L J σ τ) (hs : ∀ c, c ∈ L → c ∈ L2) (hj : ∀ c, c ∈ J → c ∈ J2) : MF L2 J2 σ τ := ⟨h.1.mono (fun c hc => by
  rcases List.mem_cons.mp hc with e | e
  · rw [e]; exact List.mem_cons_self
  · exact List.mem_cons_of_mem _ (hs c e)), fun j hj2 => h.2 j (fun q => hj2 (hj j q))⟩
theorem MF.of {L J : List Nat} {σ τ : zSt} (h : zFr L σ τ) (h1 : 32 ∉ L) : MF L J σ τ := ⟨h.mono (fun c hc => List.mem_cons_of_mem _ hc), fun j _ => by rw [h 32 h1]⟩
theorem MF.up {L J : List Nat} {σ τ : zSt} {c j : Nat} {v : Int32} (h : MF L J σ τ) (hc : c ∈ L) (h1 : 32 ≠ c) : MF L J σ (zup τ c j v) := ⟨h.1.up (List.mem_cons_of_mem _ hc), fun k hk => by rw [zup_ne h1]; exact h.2 k hk⟩
theorem MF.fld {L J : List Nat} {σ τ : zSt} {j : Nat} {v : Int32} (h : MF L J σ τ) (hj : j ∈ J) : MF L J σ (zup τ 32 j v) := ⟨h.1.up List.mem_cons_self, fun k hk => by
  rw [zup_self]; unfold upd; rw [if_neg (fun e => hk (by rw [e]; exact hj))]; exact h.2 k hk⟩
theorem MF.at {L J : List Nat} {σ τ : zSt} (h : MF L J σ τ) {c : Nat} (hc : c ∉ (32 :: L)) : τ c = σ c := h.1 c hc
def mbegin (σ : zSt) (v : Int32) : zSt := zfill (zfill (zup (zup (zup σ 32 0 v) 32 1 0) 32 4 0) 33 144 0) 34 12 0
theorem s_Mo_begin (G : zG) (σ : zSt) (v : Int32) : zI G 0 M_Mo_begin [zf G 32, .int v] σ (fun x τ => (x = -1 ∧ τ = σ ∧ (v < 1 ∨ ¬ v ≤ 12)) ∨ (x = 0 ∧ ¬ v < 1 ∧ v ≤ 12 ∧ τ = mbegin σ v)) := by
  refine zSpec.of (by decide) (Nat.le_of_ble_eq_true rfl) rfl (fun X E => ?_)
  refine b_Mo_begin_0 E v σ ⟨fun h => ⟨_, rfl, Or.inl ⟨rfl, rfl, Or.inl h⟩⟩, fun h => ⟨fun h2 σ1 e1 σ2 e2 σ3 e3 => ?_, fun h2 => ⟨_, rfl, Or.inl ⟨rfl, rfl, Or.inr h2⟩⟩⟩⟩
  have two : ∀ υ, υ = zfill σ3 33 144 0 → zZ G M_Mo_begin 0 X (fun r τ => ∃ x : Int32, r = some (.int x) ∧ ((x = -1 ∧ τ = σ ∧ (v < 1 ∨ ¬ v ≤ 12)) ∨ (x = 0 ∧ ¬ v < 1 ∧ v ≤ 12 ∧ τ = mbegin σ v))) 52 [(0, zf G 32), (2, .int (0 : Int32))] [] υ := by
    intro υ hυ
    refine z_for 12 (fun i τ => zZ G M_Mo_begin 0 X (fun r τ => ∃ x : Int32, r = some (.int x) ∧ ((x = -1 ∧ τ = σ ∧ (v < 1 ∨ ¬ v ≤ 12)) ∨ (x = 0 ∧ ¬ v < 1 ∧ v ≤ 12 ∧ τ = mbegin σ v))) 52 [(0, zf G 32), (2, .int (nI i))] [] τ) (fun i τ => τ = zfill υ 34 i 0) ?_ ?_ 0 υ (Nat.zero_le _) (zfill_0 υ 34 0).symm
    · intro i τ hi hI ih
      refine b_Mo_begin_52 E (nI i) τ ⟨fun q => absurd q (nI_ge hi (by decide)), fun _ => ⟨vp_in_nI hi (by decide), fun σ1 e1 => ?_⟩⟩
      rw [nI_1]
      refine ih σ1 ?_
      rw [e1, hI, nI_clamp (by omega), zfill_s]
    · intro τ hI
      refine b_Mo_begin_52 E (nI 12) τ ⟨fun _ => ⟨_, rfl, Or.inr ⟨rfl, h, h2, ?_⟩⟩, fun q => absurd (by decide) q⟩
      rw [hI, hυ, e3, e2, e1]
      rfl
  refine z_for 144 (fun i τ => zZ G M_Mo_begin 0 X (fun r τ => ∃ x : Int32, r = some (.int x) ∧ ((x = -1 ∧ τ = σ ∧ (v < 1 ∨ ¬ v ≤ 12)) ∨ (x = 0 ∧ ¬ v < 1 ∧ v ≤ 12 ∧ τ = mbegin σ v))) 30 [(0, zf G 32), (2, .int (nI i))] [] τ) (fun i τ => τ = zfill σ3 33 i 0) ?_ ?_ 0 σ3 (Nat.zero_le _) (zfill_0 σ3 33 0).symm
  · intro i τ hi hI ih
    refine b_Mo_begin_30 E (nI i) τ ⟨fun q => absurd q (nI_ge hi (by decide)), fun _ => ⟨vp_in_nI hi (by decide), fun σ1 e1 => ?_⟩⟩
    rw [nI_1]
    refine ih σ1 ?_
    rw [e1, hI, nI_clamp (by omega), zfill_s]
  · intro τ hI
    exact b_Mo_begin_30 E (nI 144) τ ⟨fun _ => two τ hI, fun q => absurd (by decide) q⟩
def mlink (σ : zSt) (a b : Nat) (len : Int32) : zSt := zup (zup (zup (zup σ 32 1 (if zLk σ (nI a) (nI b) = true then σ 32 1 + 0 else σ 32 1 + 1)) 33 (12 * a + b) len) 33 (12 * b + a) len) 32 4 0
theorem s_Mo_link (G : zG) (σ : zSt) (n : Nat) (a b len : Int32) (hn : σ 32 0 = nI n) (hle : n ≤ 12) : zI G 1 M_Mo_link [zf G 32, .int a, .int b, .int len] σ (fun x τ => (x = -1 ∧ τ = σ ∧ (zNo σ a = true ∨ zNo σ b = true ∨ a = b ∨ len < 1 ∨ ¬ len ≤ 9)) ∨ (∃ i j, i < n ∧ j < n ∧ a = nI i ∧ b = nI j ∧ i ≠ j ∧ ¬ len < 1 ∧ len ≤ 9 ∧ τ = mlink σ i j len ∧ x = τ 32 1)) := by
  refine zSpec.of (by decide) (Nat.le_of_ble_eq_true rfl) rfl (fun X E => ?_)
  refine b_Mo_link_0 E a b len σ ⟨fun h => ⟨_, rfl, Or.inl ⟨rfl, rfl, Or.inl h⟩⟩, fun h => ⟨fun h1 => ⟨_, rfl, Or.inl ⟨rfl, rfl, Or.inr (Or.inl h1)⟩⟩, fun h1 => ⟨fun h2 => ⟨_, rfl, Or.inl ⟨rfl, rfl, Or.inr (Or.inr (Or.inl h2))⟩⟩, fun h2 => ⟨fun h3 => ⟨_, rfl, Or.inl ⟨rfl, rfl, Or.inr (Or.inr (Or.inr (Or.inl h3)))⟩⟩, fun h3 => ⟨fun h4 => ?_, fun h4 => ⟨_, rfl, Or.inl ⟨rfl, rfl, Or.inr (Or.inr (Or.inr (Or.inr h4)))⟩⟩⟩⟩⟩⟩⟩
  obtain ⟨i, hi, rfl⟩ := zNo_of h hn hle
  obtain ⟨j, hj, rfl⟩ := zNo_of h1 hn hle
  have iij : vp_in (12 * nI i + nI j) 144 := by rw [zi12']; exact vp_in_nI (by omega) (by decide)
  have iji : vp_in (12 * nI j + nI i) 144 := by rw [zi12']; exact vp_in_nI (by omega) (by decide)
  have cij : (12 * nI i + nI j).toNatClampNeg = 12 * i + j := by rw [zi12']; exact nI_clamp (by omega)
  have cji : (12 * nI j + nI i).toNatClampNeg = 12 * j + i := by rw [zi12']; exact nI_clamp (by omega)
  have hij : i ≠ j := fun e => h2 (by rw [e])
  refine ⟨iij, fun hz σ1 e1 => ⟨iij, fun σ2 e2 => ⟨iji, fun σ3 e3 σ4 e4 => ⟨_, rfl, Or.inr ⟨i, j, hi, hj, rfl, rfl, hij, h3, h4, ?_, rfl⟩⟩⟩⟩, fun hz σ1 e1 => ⟨iij, fun σ2 e2 => ⟨iji, fun σ3 e3 σ4 e4 => ⟨_, rfl, Or.inr ⟨i, j, hi, hj, rfl, rfl, hij, h3, h4, ?_, rfl⟩⟩⟩⟩⟩
  · rw [e4, e3, e2, e1, cij, cji]
    simp only [mlink, hz]
    rfl
  · rw [e4, e3, e2, e1, cij, cji]
    simp only [mlink, hz]
    rfl
theorem s_Mo_mark (G : zG) (σ : zSt) (n : Nat) (a v : Int32) (hn : σ 32 0 = nI n) (hle : n ≤ 12) : zI G 1 M_Mo_mark [zf G 32, .int a, .int v] σ (fun x τ => (x = -1 ∧ τ = σ ∧ (zNo σ a = true ∨ v < 0 ∨ ¬ v ≤ 99)) ∨ (∃ j, j < n ∧ a = nI j ∧ ¬ v < 0 ∧ v ≤ 99 ∧ x = σ 34 j ∧ τ = zup (zup σ 34 j v) 32 4 0)) := by
  refine zSpec.of (by decide) (Nat.le_of_ble_eq_true rfl) rfl (fun X E => ?_)
  refine b_Mo_mark_0 E a v σ ⟨fun h => ⟨_, rfl, Or.inl ⟨rfl, rfl, Or.inl h⟩⟩, fun h => ⟨fun h2 => ⟨_, rfl, Or.inl ⟨rfl, rfl, Or.inr (Or.inl h2)⟩⟩, fun h2 => ⟨fun h3 => ?_, fun h3 => ⟨_, rfl, Or.inl ⟨rfl, rfl, Or.inr (Or.inr h3)⟩⟩⟩⟩⟩
  obtain ⟨j, hj, rfl⟩ := zNo_of h hn hle
  have ij : vp_in (nI j) 12 := vp_in_nI (by omega) (by decide)
  have cj : (nI j).toNatClampNeg = j := nI_clamp (by omega)
  refine ⟨ij, ij, ?_⟩
  rintro σ1 rfl σ2 rfl
  exact ⟨_, rfl, Or.inr ⟨j, hj, rfl, h2, h3, by rw [cj], by rw [cj]⟩⟩
-- how many of the first n bits are not set
def cz (s : Int32) : Nat → Nat
  | 0 => 0
  | k + 1 => cz s k + (if zIn s (nI k) = true then 0 else 1)
theorem cz_le {s t : Int32} {n : Nat} (hn : n ≤ 32) (h : ∀ c, c < n → zIn s (nI c) = true → zIn t (nI c) = true) : cz t n ≤ cz s n := by
  induction n with
  | zero => exact Nat.le_refl _
  | succ k ih =>
    have h1 := ih (by omega) (fun c hc => h c (by omega))
    have h2 := h k (by omega)
    unfold cz
    by_cases hs : zIn s (nI k) = true
    · rw [if_pos hs, if_pos (h2 hs)]; omega
    · rw [if_neg hs]; split <;> omega
theorem cz_lt {s t : Int32} {n b : Nat} (hn : n ≤ 32) (hb : b < n) (h : ∀ c, c < n → zIn s (nI c) = true → zIn t (nI c) = true) (hs : zIn s (nI b) = false) (ht : zIn t (nI b) = true) : cz t n < cz s n := by
  induction n with
  | zero => omega
  | succ k ih =>
    unfold cz
    by_cases hbk : b = k
    · subst hbk
      have h1 : cz t b ≤ cz s b := cz_le (by omega) (fun c hc => h c (by omega))
      rw [if_pos ht, if_neg (by rw [hs]; decide)]; omega
    · have h1 := ih (by omega) (by omega) (fun c hc => h c (by omega))
      have h2 := h k (by omega)
      by_cases hs : zIn s (nI k) = true
      · rw [if_pos hs, if_pos (h2 hs)]; omega
      · rw [if_neg hs]; split <;> omega
theorem zIn_f {s : Int32} {c : Nat} (h : ((s >>> (nI c &&& 31)) &&& (1 : Int32)) = 0) : zIn s (nI c) = false := by simp [zIn, h]
theorem s_Mo_spread (G : zG) (σ : zSt) (n : Nat) (s w : Int32) (hn : σ 32 0 = nI n) (hle : n ≤ 12) : zI G 1 M_Mo_spread [zf G 32, .int s, .int w] σ (fun _ τ => τ = σ) := by
  refine zSpec.of (by decide) (Nat.le_of_ble_eq_true rfl) rfl (fun X E => ?_)
  have main : ∀ (m : Nat) (s more : Int32), cz s n = m → zZ G M_Mo_spread 1 X (fun r τ => ∃ x : Int32, r = some (.int x) ∧ τ = σ) 5 [(0, zf G 32), (2, .int w), (3, .int s), (4, .int more)] [] σ := by
    intro m
    induction m using Nat.strongRecOn with
    | ind m IH =>
      intro s more hm
      refine b_Mo_spread_5 E w s more σ ⟨fun _ => ⟨_, rfl, rfl⟩, fun _ => ?_⟩
      have out : ∀ s' more', (more' = 0 ∨ cz s' n < cz s n) → zZ G M_Mo_spread 1 X (fun r τ => ∃ x : Int32, r = some (.int x) ∧ τ = σ) 5 [(0, zf G 32), (2, .int w), (3, .int s'), (4, .int more')] [] σ := by
        intro s' more' h
        rcases h with h | h
        · exact b_Mo_spread_5 E w s' more' σ ⟨fun _ => ⟨_, rfl, rfl⟩, fun q => absurd h q⟩
        · exact IH _ (by omega) s' more' rfl
      refine z_for n (fun i (q : Int32 × Int32) => zZ G M_Mo_spread 1 X (fun r τ => ∃ x : Int32, r = some (.int x) ∧ τ = σ) 16 [(0, zf G 32), (2, .int w), (3, .int q.1), (4, .int q.2), (5, .int (nI i))] [] σ) (fun _ q => (q.2 = 0 ∨ cz q.1 n < cz s n) ∧ cz q.1 n ≤ cz s n) ?_ ?_ 0 (s, 0) (Nat.zero_le _) ⟨Or.inl rfl, Nat.le_refl _⟩
      · intro a ⟨s1, m1⟩ ha ⟨h1, h2⟩ iha
        dsimp only at h1 h2 iha ⊢
        refine b_Mo_spread_16 E w s1 m1 (nI a) σ ⟨fun q => absurd q (by rw [hn]; exact nI_ge ha (by omega)), fun _ => ?_⟩
        refine z_for n (fun i (q : Int32 × Int32) => zZ G M_Mo_spread 1 X (fun r τ => ∃ x : Int32, r = some (.int x) ∧ τ = σ) 28 [(0, zf G 32), (2, .int w), (3, .int q.1), (4, .int q.2), (5, .int (nI a)), (6, .int (nI i))] [] σ) (fun _ q => (q.2 = 0 ∨ cz q.1 n < cz s n) ∧ cz q.1 n ≤ cz s n) ?_ ?_ 0 (s1, m1) (Nat.zero_le _) ⟨h1, h2⟩
        · intro b ⟨s2, m2⟩ hb ⟨h1, h2⟩ ih
          dsimp only at h1 h2 ih ⊢
          have nx : zZ G M_Mo_spread 1 X (fun r τ => ∃ x : Int32, r = some (.int x) ∧ τ = σ) 28 [(0, zf G 32), (2, .int w), (3, .int s2), (4, .int m2), (5, .int (nI a)), (6, .int (nI b + 1))] [] σ := by rw [nI_1]; exact ih (s2, m2) ⟨h1, h2⟩
          refine b_Mo_spread_28 E w s2 m2 (nI a) (nI b) σ ⟨fun q => absurd q (by rw [hn]; exact nI_ge hb (by omega)), fun _ => ⟨fun _ => nx, fun _ => ⟨by rw [zi12']; exact vp_in_nI (by omega) (by decide), fun _ => nx, fun _ => ⟨fun _ => nx, fun _ => ⟨fun _ => nx, fun hz => ?_⟩⟩⟩⟩⟩
          rw [nI_1]
          have hlt : cz (s2 ||| ((1 : Int32) <<< (nI b &&& 31))) n < cz s2 n := by
            refine cz_lt (b := b) (by omega) hb (fun c hc h => ?_) (zIn_f hz) ?_
            · rw [zIn_or _ _ (by omega), h, Bool.true_or]
            · rw [zIn_or _ _ (by omega), zIn_bit (by omega) (by omega)]; simp
          exact ih (_, 1) ⟨Or.inr (Nat.lt_of_lt_of_le hlt h2), Nat.le_trans (Nat.le_of_lt hlt) h2⟩
        · intro ⟨s2, m2⟩ ⟨h1, h2⟩
          dsimp only at h1 h2 ⊢
          exact b_Mo_spread_28 E w s2 m2 (nI a) (nI n) σ ⟨fun _ => by rw [nI_1]; exact iha (s2, m2) ⟨h1, h2⟩, fun q => absurd (by rw [hn]; exact nI_le (Nat.le_refl n) (by omega)) q⟩
      · intro ⟨s1, m1⟩ ⟨h1, h2⟩
        dsimp only at h1 h2 ⊢
        exact b_Mo_spread_16 E w s1 m1 (nI n) σ ⟨fun _ => out s1 m1 h1, fun q => absurd (by rw [hn]; exact nI_le (Nat.le_refl n) (by omega)) q⟩
  exact b_Mo_spread_0 E s w σ (main _ s 1 rfl)
/-- an upper is none, or another node -/
def UO (σ : zSt) (n : Nat) : Prop := ∀ a, a < n → σ 41 a = -2 ∨ ∃ u, u < n ∧ u ≠ a ∧ σ 41 a = nI u
theorem s_Mo_tree (G : zG) (σ : zSt) (n : Nat) (root set : Int32) (hn : σ 32 0 = nI n) (hle : n ≤ 12) (hU : UO σ n) : zV G 1 M_Mo_tree [zf G 32, .int root, .int set] σ (fun τ => zFr [41, 42, 43] σ τ ∧ UO τ n) := by
  refine zSpec.of (by decide) (Nat.le_of_ble_eq_true rfl) rfl (fun X E => ?_)
  refine b_Mo_tree_0 E root set σ ?_
  have nt : ∀ τ, zFr [41, 42, 43] σ τ → τ 32 0 = nI n := fun τ h => by rw [h 32 (by decide)]; exact hn
  have setU : ∀ (τ υ : zSt) (a u : Nat) (v w : Int32), UO τ n → u < n → u ≠ a → υ = zup (zup τ 43 a w) 41 a v → v = nI u → UO υ n := by
    rintro τ υ a u v w h hu hua rfl rfl b hb
    rw [zup_self, zup_ne (by decide)]
    unfold upd
    by_cases hba : b = a
    · rw [if_pos hba]; exact Or.inr ⟨u, hu, by rw [hba]; exact hua, rfl⟩
    · rw [if_neg hba]; exact h b hb
  have two : ∀ υ, zFr [41, 42, 43] σ υ → UO υ n → zZ G M_Mo_tree 1 X (fun r τ => r = none ∧ zFr [41, 42, 43] σ τ ∧ UO τ n) 59 [(0, zf G 32), (2, .int set), (3, .int (0 : Int32))] [] υ := by
    intro υ h1 h2
    refine z_for n (fun i τ => zZ G M_Mo_tree 1 X (fun r τ => r = none ∧ zFr [41, 42, 43] σ τ ∧ UO τ n) 59 [(0, zf G 32), (2, .int set), (3, .int (nI i))] [] τ) (fun _ τ => zFr [41, 42, 43] σ τ ∧ UO τ n) ?_ ?_ 0 υ (Nat.zero_le _) ⟨h1, h2⟩
    · intro st τ hst ⟨h1, h2⟩ ihs
      refine b_Mo_tree_59 E set (nI st) τ ⟨fun q => absurd q (by rw [nt τ h1]; exact nI_ge hst (by omega)), fun _ => ?_⟩
      refine z_for n (fun i τ => zZ G M_Mo_tree 1 X (fun r τ => r = none ∧ zFr [41, 42, 43] σ τ ∧ UO τ n) 70 [(0, zf G 32), (2, .int set), (3, .int (nI st)), (4, .int (nI i))] [] τ) (fun _ τ => zFr [41, 42, 43] σ τ ∧ UO τ n) ?_ ?_ 0 τ (Nat.zero_le _) ⟨h1, h2⟩
      · intro a τ ha ⟨h1, h2⟩ iha
        refine b_Mo_tree_70 E set (nI st) (nI a) τ ⟨fun q => absurd q (by rw [nt τ h1]; exact nI_ge ha (by omega)), fun _ => ?_⟩
        refine z_for n (fun i τ => zZ G M_Mo_tree 1 X (fun r τ => r = none ∧ zFr [41, 42, 43] σ τ ∧ UO τ n) 82 [(0, zf G 32), (2, .int set), (3, .int (nI st)), (4, .int (nI a)), (5, .int (nI i))] [] τ) (fun _ τ => zFr [41, 42, 43] σ τ ∧ UO τ n) ?_ ?_ 0 τ (Nat.zero_le _) ⟨h1, h2⟩
        · intro b τ hb ⟨h1, h2⟩ ih
          have ia : vp_in (nI a) 12 := vp_in_nI (by omega) (by decide)
          have ib : vp_in (nI b) 12 := vp_in_nI (by omega) (by decide)
          have ca : (nI a).toNatClampNeg = a := nI_clamp (by omega)
          have cb : (nI b).toNatClampNeg = b := nI_clamp (by omega)
          have nx : zZ G M_Mo_tree 1 X (fun r τ => r = none ∧ zFr [41, 42, 43] σ τ ∧ UO τ n) 82 [(0, zf G 32), (2, .int set), (3, .int (nI st)), (4, .int (nI a)), (5, .int (nI b + 1))] [] τ := by rw [nI_1]; exact ih τ ⟨h1, h2⟩
          have tail : ∀ z : Int32, zZ G M_Mo_tree 1 X (fun r τ => r = none ∧ zFr [41, 42, 43] σ τ ∧ UO τ n) 129 [(0, zf G 32), (2, .int set), (3, .int (nI st)), (4, .int (nI a)), (5, .int (nI b)), (6, .int z)] [] τ := by
            intro z
            refine b_Mo_tree_129 E set (nI st) (nI a) (nI b) z τ ⟨fun _ => nx, fun _ => ⟨ib, fun _ => nx, fun hlb => ⟨ia, fun _ => nx, fun hla => ⟨ia, fun _ => ⟨ia, fun σ1 e1 => ⟨ia, fun σ2 e2 => ?_⟩⟩, fun _ => ⟨ia, fun _ => nx, fun _ => ⟨ia, fun σ1 e1 => ⟨ia, fun σ2 e2 => ?_⟩⟩⟩⟩⟩⟩⟩ <;>
            · have hba : b ≠ a := fun e => by
                rw [ca] at hla; rw [cb, e] at hlb
                exact hla (by rw [hlb]; exact Int32.le_refl _)
              rw [ca] at e1 e2
              rw [nI_1]
              refine ih σ2 ⟨by rw [e2, e1]; exact (h1.up (by decide)).up (by decide), setU τ σ2 a b _ _ h2 hb hba (by rw [e2, e1]) rfl⟩
          exact b_Mo_tree_82 E set (nI st) (nI a) (nI b) τ ⟨fun q => absurd q (by rw [nt τ h1]; exact nI_ge hb (by omega)), fun _ => ⟨fun _ => tail _, fun _ => ⟨fun _ => tail _, fun _ => ⟨by rw [zi12']; exact vp_in_nI (by omega) (by decide), fun _ => tail _, fun _ => tail _⟩⟩⟩⟩
        · intro τ ⟨h1, h2⟩
          exact b_Mo_tree_82 E set (nI st) (nI a) (nI n) τ ⟨fun _ => by rw [nI_1]; exact iha τ ⟨h1, h2⟩, fun q => absurd (by rw [nt τ h1]; exact nI_le (Nat.le_refl n) (by omega)) q⟩
      · intro τ ⟨h1, h2⟩
        exact b_Mo_tree_70 E set (nI st) (nI n) τ ⟨fun _ => by rw [nI_1]; exact ihs τ ⟨h1, h2⟩, fun q => absurd (by rw [nt τ h1]; exact nI_le (Nat.le_refl n) (by omega)) q⟩
    · intro τ ⟨h1, h2⟩
      exact b_Mo_tree_59 E set (nI n) τ ⟨fun _ => ⟨rfl, h1, h2⟩, fun q => absurd (by rw [nt τ h1]; exact nI_le (Nat.le_refl n) (by omega)) q⟩
  refine z_for n (fun i τ => zZ G M_Mo_tree 1 X (fun r τ => r = none ∧ zFr [41, 42, 43] σ τ ∧ UO τ n) 2 [(0, zf G 32), (1, .int root), (2, .int set), (3, .int (nI i))] [] τ) (fun _ τ => zFr [41, 42, 43] σ τ ∧ UO τ n) ?_ ?_ 0 σ (Nat.zero_le _) ⟨zFr.rf, hU⟩
  · intro i τ hi ⟨h1, h2⟩ ih
    have ii : vp_in (nI i) 12 := vp_in_nI (by omega) (by decide)
    have ci : (nI i).toNatClampNeg = i := nI_clamp (by omega)
    have fin : ∀ σ1 σ2 σ3 w, σ1 = zup τ 42 (nI i).toNatClampNeg root → σ2 = zup σ1 43 (nI i).toNatClampNeg w → σ3 = zup σ2 41 (nI i).toNatClampNeg (-2) → zZ G M_Mo_tree 1 X (fun r τ => r = none ∧ zFr [41, 42, 43] σ τ ∧ UO τ n) 2 [(0, zf G 32), (1, .int root), (2, .int set), (3, .int (nI i + 1))] [] σ3 := by
      intro σ1 σ2 σ3 w e1 e2 e3
      rw [nI_1]
      refine ih σ3 ⟨by rw [e3, e2, e1]; exact ((h1.up (by decide)).up (by decide)).up (by decide), fun b hb => ?_⟩
      rw [e3, zup_self, e2, zup_ne (by decide), e1, zup_ne (by decide), ci]
      unfold upd
      by_cases hbi : b = i
      · rw [if_pos hbi]; exact Or.inl rfl
      · rw [if_neg hbi]; exact h2 b hb
    exact b_Mo_tree_2 E root set (nI i) τ ⟨fun q => absurd q (by rw [nt τ h1]; exact nI_ge hi (by omega)), fun _ => ⟨fun _ => by rw [nI_1]; exact ih τ ⟨h1, h2⟩, fun _ => ⟨ii, fun σ1 e1 => ⟨fun _ => ⟨ii, fun σ2 e2 => ⟨ii, fun σ3 e3 => fin σ1 σ2 σ3 _ e1 e2 e3⟩⟩, fun _ => ⟨ii, fun σ2 e2 => ⟨ii, fun σ3 e3 => fin σ1 σ2 σ3 _ e1 e2 e3⟩⟩⟩⟩⟩⟩
  · intro τ ⟨h1, h2⟩
    exact b_Mo_tree_2 E root set (nI n) τ ⟨fun _ => two τ h1 h2, fun q => absurd (by rw [nt τ h1]; exact nI_le (Nat.le_refl n) (by omega)) q⟩
theorem s_Mo_bits (G : zG) (σ : zSt) (n : Nat) (s : Int32) (hn : σ 32 0 = nI n) (hle : n ≤ 12) : zI G 0 M_Mo_bits [zf G 32, .int s] σ (fun _ τ => τ = σ) := by
  refine zSpec.of (by decide) (Nat.le_of_ble_eq_true rfl) rfl (fun X E => ?_)
  refine b_Mo_bits_0 E s σ ?_
  refine z_for n (fun i (x : Int32) => zZ G M_Mo_bits 0 X (fun r τ => ∃ x : Int32, r = some (.int x) ∧ τ = σ) 4 [(0, zf G 32), (1, .int s), (2, .int x), (3, .int (nI i))] [] σ) (fun _ _ => True) ?_ ?_ 0 _ (Nat.zero_le _) trivial
  · intro i x hi _ ih
    exact b_Mo_bits_4 E s x (nI i) σ ⟨fun q => absurd q (by rw [hn]; exact nI_ge hi (by omega)), fun _ => by rw [nI_1]; exact ih _ trivial⟩
  · intro x _
    exact b_Mo_bits_4 E s x (nI n) σ ⟨fun _ => ⟨_, rfl, rfl⟩, fun q => absurd (by rw [hn]; exact nI_le (Nat.le_refl n) (by omega)) q⟩
theorem s_Mo_around (G : zG) (σ : zSt) (n : Nat) (s f : Int32) (hn : σ 32 0 = nI n) (hle : n ≤ 12) : zI G 1 M_Mo_around [zf G 32, .int s, .int f] σ (fun x τ => (∃ y, x = y &&& f) ∧ τ = σ) := by
  refine zSpec.of (by decide) (Nat.le_of_ble_eq_true rfl) rfl (fun X E => ?_)
  refine b_Mo_around_0 E s f σ ?_
  refine z_for n (fun i (x : Int32) => zZ G M_Mo_around 1 X (fun r τ => ∃ x : Int32, r = some (.int x) ∧ (∃ y, x = y &&& f) ∧ τ = σ) 5 [(0, zf G 32), (1, .int s), (2, .int f), (3, .int x), (4, .int (nI i))] [] σ) (fun _ _ => True) ?_ ?_ 0 _ (Nat.zero_le _) trivial
  · intro a x ha _ iha
    refine b_Mo_around_5 E s f x (nI a) σ ⟨fun q => absurd q (by rw [hn]; exact nI_ge ha (by omega)), fun _ => ?_⟩
    refine z_for n (fun i (x : Int32) => zZ G M_Mo_around 1 X (fun r τ => ∃ x : Int32, r = some (.int x) ∧ (∃ y, x = y &&& f) ∧ τ = σ) 17 [(0, zf G 32), (1, .int s), (2, .int f), (3, .int x), (4, .int (nI a)), (5, .int (nI i))] [] σ) (fun _ _ => True) ?_ ?_ 0 x (Nat.zero_le _) trivial
    · intro b x hb _ ih
      exact b_Mo_around_17 E s f x (nI a) (nI b) σ ⟨fun q => absurd q (by rw [hn]; exact nI_ge hb (by omega)), fun _ => ⟨fun _ => by rw [nI_1]; exact ih _ trivial, fun _ => ⟨by rw [zi12']; exact vp_in_nI (by omega) (by decide), fun _ => by rw [nI_1]; exact ih _ trivial, fun _ => by rw [nI_1]; exact ih _ trivial⟩⟩⟩
    · intro x _
      exact b_Mo_around_17 E s f x (nI a) (nI n) σ ⟨fun _ => by rw [nI_1]; exact iha _ trivial, fun q => absurd (by rw [hn]; exact nI_le (Nat.le_refl n) (by omega)) q⟩
  · intro x _
    exact b_Mo_around_5 E s f x (nI n) σ ⟨fun _ => ⟨_, rfl, ⟨x, rfl⟩, rfl⟩, fun q => absurd (by rw [hn]; exact nI_le (Nat.le_refl n) (by omega)) q⟩
