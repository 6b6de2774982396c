-- The reference's clusters, exactly
theorem bit_of {s : Int32} {c : Nat} : ((s >>> (nI c &&& 31)) &&& (1 : Int32)) = if zIn s (nI c) = true then 1 else 0 := by
  obtain ⟨j, hj, e⟩ := pk_andE (s >>> (nI c &&& 31)) (m := 1) 1 (by decide)
  have hj : j = 0 ∨ j = 1 := by omega
  rcases hj with rfl | rfl
  · rw [zIn_f e, e]; rfl
  · rw [zIn_t e, e]; rfl
theorem s_Mo_bits2 (G : zG) (σ : zSt) (n : Nat) (s : Int32) (hn : σ 32 0 = nI n) (hle : n ≤ 12) : zI G 0 M_Mo_bits [zf G 32, .int s] σ (fun x τ => x = nI (bN s n) ∧ τ = σ) := by
  refine zSpec.of (by decide) (Nat.le_of_ble_eq_true rfl) rfl (fun X E => ?_)
  refine b_Mo_bits_0 E s σ ?_
  refine z_for n (fun i (x : Int32) => zZ G M_Mo_bits 0 X (fun r τ => ∃ x : Int32, r = some (.int x) ∧ x = nI (bN s n) ∧ τ = σ) 4 [(0, zf G 32), (1, .int s), (2, .int x), (3, .int (nI i))] [] σ) (fun i x => x = nI (bN s i)) ?_ ?_ 0 _ (Nat.zero_le _) rfl
  · intro i x hi hI ih
    refine b_Mo_bits_4 E s x (nI i) σ ⟨fun q => absurd q (by rw [hn]; exact nI_ge hi (by omega)), fun _ => ?_⟩
    rw [nI_1, bit_of]
    refine ih _ ?_
    show _ = nI (bN s i + _)
    rw [hI]
    split
    · exact nI_1 _
    · rw [Int32.add_zero, Nat.add_zero]
  · intro x hI
    exact b_Mo_bits_4 E s x (nI n) σ ⟨fun _ => ⟨_, rfl, hI, rfl⟩, fun q => absurd (by rw [hn]; exact nI_le (Nat.le_refl n) (by omega)) q⟩
theorem s_Mo_around2 (G : zG) (σ : zSt) (n : Nat) (s f : Int32) (lk : Nat → Nat → Bool) (hn : σ 32 0 = nI n) (hle : n ≤ 12) (hlk : ∀ a b, a < n → b < n → zLk σ (nI a) (nI b) = lk a b) : zI G 1 M_Mo_around [zf G 32, .int s, .int f] σ (fun x τ => x = ard n lk s &&& f ∧ τ = σ) := by
  refine zSpec.of (by decide) (Nat.le_of_ble_eq_true rfl) rfl (fun X E => ?_)
  refine b_Mo_around_0 E s f σ ?_
  refine z_for n (fun i (x : Int32) => zZ G M_Mo_around 1 X (fun r τ => ∃ x : Int32, r = some (.int x) ∧ x = ard n lk s &&& f ∧ τ = σ) 5 [(0, zf G 32), (1, .int s), (2, .int f), (3, .int x), (4, .int (nI i))] [] σ) (fun a x => ∀ c, c < 32 → (zIn x (nI c) = true ↔ c < n ∧ ∃ a', a' < a ∧ zIn s (nI a') = true ∧ lk a' c = true)) ?_ ?_ 0 _ (Nat.zero_le _) (fun c hc => ?_)
  · intro a x ha hI iha
    refine b_Mo_around_5 E s f x (nI a) σ ⟨fun q => absurd q (by rw [hn]; exact nI_ge ha (by omega)), fun _ => ?_⟩
    refine z_for n (fun i (x : Int32) => zZ G M_Mo_around 1 X (fun r τ => ∃ x : Int32, r = some (.int x) ∧ x = ard n lk s &&& f ∧ τ = σ) 17 [(0, zf G 32), (1, .int s), (2, .int f), (3, .int x), (4, .int (nI a)), (5, .int (nI i))] [] σ) (fun b x => ∀ c, c < 32 → (zIn x (nI c) = true ↔ c < n ∧ ((∃ a', a' < a ∧ zIn s (nI a') = true ∧ lk a' c = true) ∨ (c < b ∧ zIn s (nI a) = true ∧ lk a c = true)))) ?_ ?_ 0 x (Nat.zero_le _) (fun c hc => ?_)
    · intro b x hb hI ih
      have nx : ¬ (zIn s (nI a) = true ∧ lk a b = true) → zZ G M_Mo_around 1 X (fun r τ => ∃ x : Int32, r = some (.int x) ∧ x = ard n lk s &&& f ∧ τ = σ) 17 [(0, zf G 32), (1, .int s), (2, .int f), (3, .int x), (4, .int (nI a)), (5, .int (nI b + 1))] [] σ := by
        intro hno
        rw [nI_1]
        refine ih x (fun c hc => (hI c hc).trans (and_congr Iff.rfl (or_congr Iff.rfl ⟨fun q => ⟨by omega, q.2⟩, fun q => ⟨?_, q.2⟩⟩)))
        by_cases e : c = b
        · rw [e] at q; exact absurd q.2 hno
        · omega
      refine b_Mo_around_17 E s f x (nI a) (nI b) σ ?_
      rw [hlk a b ha hb]
      refine ⟨fun q => absurd q (by rw [hn]; exact nI_ge hb (by omega)), fun _ => ⟨fun hz => nx (fun q => ?_), fun hz => ⟨by rw [zi12']; exact vp_in_nI (by omega) (by decide), fun hl => nx (fun q => ?_), fun hl => ?_⟩⟩⟩
      · rw [zIn_nt hz] at q; exact absurd q.1 (by decide)
      · rw [hl] at q; exact absurd q.2 (by decide)
      · rw [nI_1]
        refine ih _ (fun c hc => ?_)
        rw [zIn_or _ _ hc, zIn_bit (by omega) hc, Bool.or_eq_true, decide_eq_true_eq, hI c hc]
        constructor
        · rintro (q | q)
          · exact ⟨q.1, q.2.imp id (fun q => ⟨by omega, q.2⟩)⟩
          · rw [q]; exact ⟨hb, Or.inr ⟨by omega, zIn_t hz, hl⟩⟩
        · rintro ⟨q1, q | q⟩
          · exact Or.inl ⟨q1, Or.inl q⟩
          · by_cases e : c = b
            · exact Or.inr e
            · exact Or.inl ⟨q1, Or.inr ⟨by omega, q.2⟩⟩
    · intro x hI
      refine b_Mo_around_17 E s f x (nI a) (nI n) σ ⟨fun _ => ?_, fun q => absurd (by rw [hn]; exact nI_le (Nat.le_refl n) (by omega)) q⟩
      rw [nI_1]
      refine iha x (fun c hc => (hI c hc).trans (and_congr_right (fun hcn => ⟨?_, ?_⟩)))
      · rintro (⟨a', h1, h2⟩ | ⟨_, h2⟩)
        · exact ⟨a', by omega, h2⟩
        · exact ⟨a, by omega, h2⟩
      · rintro ⟨a', h1, h2⟩
        by_cases e : a' = a
        · rw [e] at h2
          exact Or.inr ⟨hcn, h2⟩
        · exact Or.inl ⟨a', by omega, h2⟩
    · refine (hI c hc).trans (and_congr Iff.rfl ⟨fun q => Or.inl q, ?_⟩)
      rintro (q | q)
      · exact q
      · exact absurd q.1 (Nat.not_lt_zero c)
  · intro x hI
    refine b_Mo_around_5 E s f x (nI n) σ ⟨fun _ => ⟨_, rfl, ?_, rfl⟩, fun q => absurd (by rw [hn]; exact nI_le (Nat.le_refl n) (by omega)) q⟩
    have : x = ard n lk s := by
      refine in_ext (fun c hc => ?_)
      have h1 := hI c hc
      have h2 := ard_in (lk := lk) (set := s) hle hc
      cases h3 : zIn (ard n lk s) (nI c) with
      | true => exact h1.mpr (h2.mp h3)
      | false =>
        cases h4 : zIn x (nI c) with
        | false => rfl
        | true => rw [h2.mpr (h1.mp h4)] at h3; exact absurd h3 (by decide)
    rw [this]
  · rw [zIn_0 hc]
    exact ⟨fun q => absurd q (by decide), fun ⟨_, a', h, _⟩ => absurd h (Nat.not_lt_zero a')⟩
/-- the leader of a node -/
def Ldr (n : Nat) (lk : Nat → Nat → Bool) (k : Int32) (c : Nat) : Nat := (fi (fun j => ldI n lk k j && zIn (clI n lk k j) (nI c)) n).getD 0
theorem Ldr_of {n : Nat} {lk : Nat → Nat → Bool} {k : Int32} {j c : Nat} (hn : n ≤ 12) (hj : j < n) (hc : c < n) (hl : ldI n lk k j = true) (hz : zIn (clI n lk k j) (nI c) = true) : Ldr n lk k c = j := by
  unfold Ldr
  rw [fi_at (b := j) hj (by rw [hl, hz]; rfl) (fun i hi => ?_)]
  · rfl
  · cases h1 : ldI n lk k i with
    | false => rfl
    | true =>
      cases h2 : zIn (clI n lk k i) (nI c) with
      | false => rfl
      | true =>
        have := clI_one (by omega) (by omega) (by omega) h1 hl h2 hz
        omega
theorem Ldr_ok {n : Nat} {lk : Nat → Nat → Bool} {k : Int32} {c : Nat} (hn : n ≤ 12) (hc : c < n) : Ldr n lk k c < n ∧ ldI n lk k (Ldr n lk k c) = true ∧ zIn (clI n lk k (Ldr n lk k c)) (nI c) = true := by
  obtain ⟨j, hj, hl, hz⟩ := ld_ex (lk := lk) (k := k) hn hc
  rw [Ldr_of hn hj hc hl hz]
  exact ⟨hj, hl, hz⟩
def MMm (σ τ : zSt) (n : Nat) (lk : Nat → Nat → Bool) (k : Int32) (i : Nat) : Prop :=
  MF [41, 42, 43] [19] σ τ ∧ τ 32 19 = nI (cL n lk k i) ∧ (∀ j c, j < i → c < n → ldI n lk k j = true → zIn (clI n lk k j) (nI c) = true → τ 42 c = nI j ∧ τ 41 c = upE (tI2 n lk k j c))
def MCm (σ τ : zSt) (n : Nat) (lk : Nat → Nat → Bool) (k : Int32) : Prop :=
  MF [41, 42, 43, 44] [19, 20] σ τ ∧ τ 32 19 = nI (cL n lk k n) ∧ (∀ j c, j < n → c < n → ldI n lk k j = true → zIn (clI n lk k j) (nI c) = true → τ 42 c = nI j ∧ τ 41 c = upE (tI2 n lk k j c))
  ∧ τ 32 20 = nI (cA n lk (Ldr n lk k) n + cR n lk (Ldr n lk k) n (n + 1)) ∧ (∀ x y, x < n → y < n → (chP n lk (Ldr n lk k) n (n + 1) x y → τ 44 (12 * x + y) = 1) ∧ (¬ chP n lk (Ldr n lk k) n (n + 1) x y → τ 44 (12 * x + y) = 0))
theorem frI_0 {n : Nat} {lk : Nat → Nat → Bool} {k : Int32} {i : Nat} (h : frI n lk k i = 0) : ∀ j, i ≤ j → j < 12 → ldI n lk k j = false ∧ frI n lk k j = 0 ∧ cL n lk k j = cL n lk k i := by
  intro j
  induction j with
  | zero =>
    intro hi hj
    have e : i = 0 := by omega
    rw [e] at h ⊢
    exact ⟨by unfold ldI; rw [h]; exact zIn_0 (by omega), h, rfl⟩
  | succ j ih =>
    intro hi hj
    by_cases e : i = j + 1
    · rw [e] at h ⊢
      exact ⟨by unfold ldI; rw [h]; exact zIn_0 (by omega), h, rfl⟩
    · obtain ⟨h1, h2, h3⟩ := ih (by omega) (by omega)
      have h4 : frI n lk k (j + 1) = 0 := by rw [frI_n h1]; exact h2
      refine ⟨by unfold ldI; rw [h4]; exact zIn_0 (by omega), h4, ?_⟩
      show cL n lk k j + _ = _
      rw [if_neg (by rw [h1]; decide), Nat.add_zero]; exact h3
theorem frI_skip {n : Nat} {lk : Nat → Nat → Bool} {k : Int32} {i : Nat} : ∀ r, i ≤ r → (∀ c, i ≤ c → c < r → zIn (frI n lk k i) (nI c) = false) → frI n lk k r = frI n lk k i ∧ cL n lk k r = cL n lk k i ∧ ∀ c, i ≤ c → c < r → ldI n lk k c = false := by
  intro r
  induction r with
  | zero =>
    intro h _
    have e : i = 0 := by omega
    rw [e]; exact ⟨rfl, rfl, fun c _ h => absurd h (Nat.not_lt_zero c)⟩
  | succ r ih =>
    intro h hz
    by_cases e : i = r + 1
    · rw [e]; exact ⟨rfl, rfl, fun c h1 h2 => by omega⟩
    · obtain ⟨h1, h2, h3⟩ := ih (by omega) (fun c hc hcr => hz c hc (by omega))
      have hl : ldI n lk k r = false := by unfold ldI; rw [h1]; exact hz r (by omega) (by omega)
      refine ⟨by rw [frI_n hl]; exact h1, ?_, fun c hc hcr => ?_⟩
      · show cL n lk k r + _ = _
        rw [if_neg (by rw [hl]; decide), Nat.add_zero]; exact h2
      · by_cases e : c = r
        · rw [e]; exact hl
        · exact h3 c hc (by omega)
theorem hi0_frI {n : Nat} {lk : Nat → Nat → Bool} {k : Int32} (hn : n ≤ 12) : ∀ i, hi0 n (frI n lk k i) := by
  intro i
  induction i with
  | zero =>
    intro c h1 h2
    show zIn (zAll (nI n)) (nI c) = false
    rw [zIn_bt _ h2, zAll_in n (by omega) c h2]
    exact decide_eq_false (by omega)
  | succ i ih =>
    cases hl : ldI n lk k i with
    | true => rw [frI_y hl]; exact ih.and
    | false => rw [frI_n hl]; exact ih
theorem ne0_in {n : Nat} {x : Int32} (hx : hi0 n x) (h : ¬ x = 0) : ∃ c, c < n ∧ zIn x (nI c) = true := by
  apply Classical.byContradiction
  intro q
  apply h
  refine in_ext (fun c hc => ?_)
  rw [zIn_0 hc]
  by_cases hcn : c < n
  · cases hz : zIn x (nI c) with
    | false => rfl
    | true => exact absurd ⟨c, hcn, hz⟩ q
  · exact hx c (by omega) hc
theorem bN_pos {x : Int32} {c : Nat} : ∀ {n : Nat}, c < n → zIn x (nI c) = true → 1 ≤ bN x n := by
  intro n
  induction n with
  | zero => intro h; exact absurd h (Nat.not_lt_zero c)
  | succ n ih =>
    intro h hz
    show 1 ≤ bN x n + _
    by_cases e : c = n
    · rw [e] at hz; rw [if_pos hz]; omega
    · have := ih (by omega) hz
      omega
theorem bN_none {x : Int32} : ∀ {n : Nat}, (∀ c, c < n → zIn x (nI c) = false) → bN x n = 0 := by
  intro n
  induction n with
  | zero => intro _; rfl
  | succ n ih =>
    intro h
    show bN x n + _ = 0
    rw [ih (fun c hc => h c (by omega)), h n (by omega)]; rfl
set_option maxHeartbeats 1000000 in
theorem s_Mo_makeClusters2 (G : zG) (σ : zSt) (n K : Nat) (k : Int32) (lk : Nat → Nat → Bool) (hk : k = nI K) (hK1 : 2 ≤ K) (hK2 : K ≤ 8) (hn : σ 32 0 = nI n) (hle : n ≤ 12) (hlk : ∀ a b, a < n → b < n → zLk σ (nI a) (nI b) = lk a b) (h44 : ∀ j, j < 144 → σ 44 j = 0) (h20 : σ 32 20 = 0) : zV G 2 M_Mo_makeClusters [zf G 32, .int k] σ (fun τ => MCm σ τ n lk k) := by
  refine zSpec.of (by decide) (Nat.le_of_ble_eq_true rfl) rfl (fun X E => ?_)
  refine b_Mo_makeClusters_0 E k σ (fun σ0 e0 => ?_)
  have km : ∀ b, b ≤ 12 → (k - 1) * nI b = nI ((K - 1) * b) := fun b _ => by
    obtain ⟨j, rfl⟩ : ∃ j, K = j + 1 := ⟨K - 1, by omega⟩
    rw [hk, nI_pred, pk_mul]; rfl
  have nt : ∀ τ, MF [41, 42, 43] [19] σ τ → τ 32 0 = nI n := fun τ h => by rw [h.2 0 (by decide)]; exact hn
  have lt : ∀ τ, MF [41, 42, 43] [19] σ τ → ∀ a b, a < n → b < n → zLk τ (nI a) (nI b) = lk a b := fun τ h a b ha hb => by
    rw [← hlk a b ha hb]; unfold zLk; rw [h.at (c := 33) (by decide)]
  have main : ∀ (m i : Nat) (τ : zSt), n - i = m → i ≤ n → MMm σ τ n lk k i → zZ G M_Mo_makeClusters 2 X (fun r τ => r = none ∧ MCm σ τ n lk k) 14 [(0, zf G 32), (1, .int k), (2, .int (frI n lk k i))] [] τ := by
    intro m
    induction m using Nat.strongRecOn with
    | ind m IH =>
      intro i τ hm hin ⟨hF, hc, hcl⟩
      refine b_Mo_makeClusters_14 E k (frI n lk k i) τ ⟨fun hz => ?_, fun hne => ?_⟩
      · have all : ∀ j c, j < n → c < n → ldI n lk k j = true → zIn (clI n lk k j) (nI c) = true → τ 42 c = nI j ∧ τ 41 c = upE (tI2 n lk k j c) := by
          intro j c hj hc2 hl hzc
          refine hcl j c ?_ hc2 hl hzc
          rcases Nat.lt_or_ge j i with q | q
          · exact q
          · rw [(frI_0 hz j q (by omega)).1] at hl; exact absurd hl (by decide)
        have ec : cL n lk k n = cL n lk k i := by
          by_cases e : n = 12
          · rcases Nat.lt_or_ge i n with q | q
            · have h1 := frI_0 hz (n - 1) (by omega) (by omega)
              obtain ⟨n', hn'⟩ : ∃ n', n = n' + 1 := ⟨n - 1, by omega⟩
              have h2 : cL n lk k (n' + 1) = cL n lk k n' + (if ldI n lk k n' = true then 1 else 0) := rfl
              rw [show n - 1 = n' by omega] at h1
              rw [h1.1, if_neg (by decide), Nat.add_zero, h1.2.2] at h2
              rw [← hn'] at h2
              exact h2
            · rw [show i = n by omega]
          · exact (frI_0 hz n hin (by omega)).2.2
        refine ⟨_, s_Mo_choose2 G τ n lk (Ldr n lk k) (nt τ hF) hle (fun c hcn => ?_) (lt τ hF) (fun j hj => by rw [hF.at (by decide)]; exact h44 j hj) (by rw [hF.2 20 (by decide)]; exact h20), fun τ1 ⟨g1, g2, g3⟩ => ⟨rfl, (hF.mono (by decide) (by decide)).tr (g1.mono (by decide) (by decide)), ?_, fun j c hj hcn hl hzc => ?_, g2, g3⟩⟩
        · obtain ⟨q1, q2, q3⟩ := Ldr_ok (lk := lk) (k := k) hle hcn
          exact ⟨(all _ c q1 hcn q2 q3).1, q1⟩
        · rw [g1.2 19 (by decide), hc, ec]
        · rw [g1.at (c := 42) (by decide), g1.at (c := 41) (by decide)]; exact all j c hj hcn hl hzc
      -- the root: the least free node
      obtain ⟨b, hb, hzb⟩ := ne0_in (hi0_frI hle i) hne
      have found : ∀ r, r < n → zIn (frI n lk k i) (nI r) = true → (∀ c, c < r → zIn (frI n lk k i) (nI c) = false) → (∃ P : Int32 → zSt → Prop, zI G 1 M_Mo_around [zf G 32, .int ((1 : Int32) <<< (nI r &&& 31)), .int (frI n lk k i &&& (((1 : Int32) <<< (nI r &&& 31)) ^^^ (-1 : Int32)))] τ P ∧ ∀ (x2 : Int32) (σ1 : zSt), P x2 σ1 → zZ G M_Mo_makeClusters 2 X (fun r τ => r = none ∧ MCm σ τ n lk k) 55 [(0, zf G 32), (1, .int k), (2, .int (frI n lk k i &&& (((1 : Int32) <<< (nI r &&& 31)) ^^^ (-1 : Int32)))), (3, .int (nI r)), (4, .int ((1 : Int32) <<< (nI r &&& 31))), (5, .int x2)] [] σ1) := by
        intro r hr hzr hlow
        have hir : i ≤ r := by
          rcases Nat.lt_or_ge r i with q | q
          · rw [frI_past (by omega) q] at hzr; exact absurd hzr (by decide)
          · exact q
        obtain ⟨ef, ec, el⟩ := frI_skip (n := n) (lk := lk) (k := k) (i := i) r hir (fun c _ hcr => hlow c hcr)
        have hl : ldI n lk k r = true := by unfold ldI; rw [ef]; exact hzr
        -- the cluster is made: its tree
        have fin : ∀ fr2 : Int32, fr2 = frI n lk k i &&& (clI n lk k r ^^^ (-1 : Int32)) → (∃ P : zSt → Prop, zV G 1 M_Mo_tree [zf G 32, .int (nI r), .int (clI n lk k r)] τ P ∧ ∀ σ1 : zSt, P σ1 → (∀ σ2 : zSt, σ2 = zup σ1 32 19 ((σ1 32 19) + (1 : Int32)) → zZ G M_Mo_makeClusters 2 X (fun r τ => r = none ∧ MCm σ τ n lk k) 14 [(0, zf G 32), (1, .int k), (2, .int fr2)] [] σ2)) := by
          intro fr2 hfr
          refine ⟨_, s_Mo_tree2 G τ n r (clI n lk k r) lk (nt τ hF) hle hr (lt τ hF), fun σ1 ⟨g1, g2, g3, g4, g5⟩ σ2 e2 => ?_⟩
          have e1 : fr2 = frI n lk k (r + 1) := by rw [frI_y hl, ef]; exact hfr
          rw [e1]
          refine IH (n - (r + 1)) (by omega) (r + 1) σ2 rfl (by omega) ⟨?_, ?_, fun j c hj hcn hl2 hzc => ?_⟩
          · rw [e2]
            exact (hF.tr ((MF.of (J := [19]) g1 (by decide)).mono (by decide) (fun _ h => h))).fld (by decide)
          · rw [e2, zup_self, upd_eq, g1 32 (by decide), hc, ← ec]
            show nI (cL n lk k r) + 1 = nI (cL n lk k r + _)
            rw [if_pos hl, nI_1]
          · rw [e2, zup_ne (by decide), zup_ne (by decide)]
            by_cases e : j = r
            · rw [e] at hzc ⊢
              exact ⟨g2 c hcn hzc, (g4 c hcn hzc).2⟩
            · have hji : j < i := by
                rcases Nat.lt_or_ge j i with q | q
                · exact q
                · rw [el j q (by omega)] at hl2; exact absurd hl2 (by decide)
              have hno : ¬ (c < n ∧ zIn (clI n lk k r) (nI c) = true) := fun q => e (clI_one (by omega) (by omega) (by omega) hl2 hl hzc q.2)
              rw [g3 c hno, (g5 c hno).2]
              exact hcl j c hji hcn hl2 hzc
        -- a cluster is grown
        have grow : ∀ (t : Nat) (fr2 set near : Int32), co fr2 n ≤ t → fr2 = frI n lk k i &&& (set ^^^ (-1 : Int32)) → near = ard n lk set &&& fr2 → hi0 n set → zIn set (nI r) = true → clS n lk k (frI n lk k i) t set = clI n lk k r → zZ G M_Mo_makeClusters 2 X (fun r τ => r = none ∧ MCm σ τ n lk k) 55 [(0, zf G 32), (1, .int k), (2, .int fr2), (3, .int (nI r)), (4, .int set), (5, .int near)] [] τ := by
          intro t
          induction t with
          | zero =>
            intro fr2 set near hco hfr hnear hB hzr2 hcl2
            have hz : near = 0 := by
              refine in_ext (fun c hc => ?_)
              rw [zIn_0 hc]
              cases hz : zIn near (nI c) with
              | false => rfl
              | true =>
                exfalso
                rw [hnear, zIn_and _ _ hc, Bool.and_eq_true] at hz
                have hcn : c < n := by
                  rcases Nat.lt_or_ge c n with q | q
                  · exact q
                  · rw [hi0_ard hle c q hc] at hz; exact absurd hz.1 (by decide)
                have h1 := co_lt (s := fr2) (t := 0) (n := n) (b := c) (by omega) hcn (fun d hd q => by rw [zIn_0 (by omega)] at q; exact absurd q (by decide)) hz.2 (zIn_0 hc)
                omega
            have e : set = clI n lk k r := hcl2
            refine b_Mo_makeClusters_55 E k fr2 (nI r) set near τ ⟨fun _ => ?_, fun q => absurd hz q⟩
            rw [e]
            exact fin fr2 (by rw [hfr, e])
          | succ t ih =>
            intro fr2 set near hco hfr hnear hB hzr2 hcl2
            have hcf : clF n lk (frI n lk k i) set = near := by
              refine in_ext (fun c hc => ?_)
              unfold clF
              rw [hnear, hfr, zIn_and _ _ hc, zIn_and _ _ hc, zIn_and _ _ hc, zIn_and _ _ hc, Bool.and_assoc]
            have hBn : hi0 n near := by rw [hnear]; exact (hi0_ard hle).and
            have b1 : bN near n = bN near 12 := (bN_cut hle (fun c h1 h2 => hBn c h1 (by omega))).symm
            have b2 : bN set n = bN set 12 := (bN_cut hle (fun c h1 h2 => hB c h1 (by omega))).symm
            have s1 : 1 ≤ bN set 12 := bN_pos (c := r) (by omega) hzr2
            have s2 := bN_le set 12
            have hcl3 : (if (k - 1) * nI (bN set 12) ≤ nI (bN near 12) then clS n lk k (frI n lk k i) t (set ||| near) else set) = clI n lk k r := by
              rw [← hcf]; exact hcl2
            have stop : ¬ (k - 1) * nI (bN set 12) ≤ nI (bN near 12) → (∃ P : zSt → Prop, zV G 1 M_Mo_tree [zf G 32, .int (nI r), .int set] τ P ∧ ∀ σ1 : zSt, P σ1 → (∀ σ2 : zSt, σ2 = zup σ1 32 19 ((σ1 32 19) + (1 : Int32)) → zZ G M_Mo_makeClusters 2 X (fun r τ => r = none ∧ MCm σ τ n lk k) 14 [(0, zf G 32), (1, .int k), (2, .int fr2)] [] σ2)) := by
              intro h
              rw [if_neg h] at hcl3
              rw [hcl3]
              exact fin fr2 (by rw [hfr, hcl3])
            refine b_Mo_makeClusters_55 E k fr2 (nI r) set near τ ⟨fun hz => stop ?_, fun hne2 => ⟨_, s_Mo_bits2 G τ n near (nt τ hF) hle, fun x4 υ ⟨ex4, eυ⟩ => ?_⟩⟩
            · rw [hz, bN_none (fun c hc => zIn_0 (by omega)), km _ s2]
              refine nI_ge (a := 0) ?_ ?_
              · exact Nat.mul_pos (by omega) s1
              · have : (K - 1) * bN set 12 ≤ 7 * 12 := Nat.mul_le_mul (by omega) s2
                omega
            rw [eυ, ex4]
            refine ⟨_, s_Mo_bits2 G τ n set (nt τ hF) hle, fun x6 υ ⟨ex6, eυ⟩ => ?_⟩
            rw [eυ, ex6, b1, b2]
            refine ⟨fun hlt => stop (Int32.not_le.mpr hlt), fun hge => ?_⟩
            have hge := Int32.not_lt.mp hge
            rw [if_pos hge] at hcl3
            refine ⟨_, s_Mo_around2 G τ n (set ||| near) (fr2 &&& (near ^^^ (-1 : Int32))) lk (nt τ hF) hle (lt τ hF), fun x10 υ ⟨ex10, eυ⟩ => ?_⟩
            rw [eυ]
            obtain ⟨c0, hc0, hz0⟩ := ne0_in hBn hne2
            have hz1 : zIn fr2 (nI c0) = true := by
              have := hz0
              rw [hnear, zIn_and _ _ (by omega), Bool.and_eq_true] at this
              exact this.2
            have hdec : co (fr2 &&& (near ^^^ (-1 : Int32))) n < co fr2 n := by
              refine co_lt (b := c0) (by omega) hc0 (fun c hc h => ?_) hz1 ?_
              · rw [zIn_and _ _ (by omega), Bool.and_eq_true] at h; exact h.1
              · rw [zIn_and _ _ (by omega), zIn_not _ (by omega), hz0]; simp
            refine ih _ _ x10 (by omega) ?_ ex10 (hB.or hBn) (by rw [zIn_or _ _ (by omega), hzr2, Bool.true_or]) hcl3
            refine in_ext (fun c hc => ?_)
            rw [hfr, zIn_and _ _ hc, zIn_and _ _ hc, zIn_and _ _ hc, zIn_not _ hc, zIn_not _ hc, zIn_not _ hc, zIn_or _ _ hc]
            cases zIn (frI n lk k i) (nI c) <;> cases zIn set (nI c) <;> cases zIn near (nI c) <;> rfl
        refine ⟨_, s_Mo_around2 G τ n _ _ lk (nt τ hF) hle (lt τ hF), fun x υ ⟨ex, eυ⟩ => ?_⟩
        rw [eυ]
        refine grow n _ _ x ?_ rfl ex (hi0_bit hr hle) (by rw [zIn_bit (by omega) (by omega)]; exact decide_eq_true rfl) ?_
        · unfold co; omega
        · unfold clI; rw [ef]
      refine z_for b (fun j (_ : Unit) => zZ G M_Mo_makeClusters 2 X (fun r τ => r = none ∧ MCm σ τ n lk k) 20 [(0, zf G 32), (1, .int k), (2, .int (frI n lk k i)), (3, .int (nI j))] [] τ) (fun j _ => ∀ c, c < j → zIn (frI n lk k i) (nI c) = false) ?_ ?_ 0 () (Nat.zero_le _) (fun c hc => absurd hc (Nat.not_lt_zero c))
      · intro j _ hj hI ih
        refine b_Mo_makeClusters_20 E k (frI n lk k i) (nI j) τ ⟨fun hz => found j (by omega) (zIn_nf hz) hI, fun hz => ?_⟩
        rw [nI_1]
        refine ih () (fun c hc => ?_)
        by_cases e : c = j
        · rw [e]; exact zIn_f hz
        · exact hI c (by omega)
      · intro _ hI
        refine b_Mo_makeClusters_20 E k (frI n lk k i) (nI b) τ ⟨fun _ => found b hb hzb hI, fun hz => ?_⟩
        rw [zIn_f hz] at hzb; exact absurd hzb (by decide)
  have e1 : ((1 : Int32) <<< ((σ 32 0) &&& 31)) - (1 : Int32) = frI n lk k 0 := by rw [hn]; rfl
  rw [e1]
  refine main n 0 σ0 rfl (Nat.zero_le _) ⟨by rw [e0]; exact MF.rf.fld (by decide), by rw [e0, zup_self, upd_eq]; rfl, fun j c hj => absurd hj (Nat.not_lt_zero j)⟩
