-- The class's clusters, exactly
theorem zAr_ard {σ : zSt} {n : Nat} {lk : Nat → Nat → Bool} {set : Int32} (hn : n ≤ 12) (hlk : ∀ a b, a < n → b < n → zIn (σ 7 a) (nI b) = lk a b) (hhi : ∀ a c, a < n → n ≤ c → c < 32 → zIn (σ 7 a) (nI c) = false) : zAr σ set n = ard n lk set := by
  refine in_ext (fun c hc => ?_)
  have h1 := zAr_in (σ := σ) (set := set) hc n (by omega)
  have h2 := ard_in (lk := lk) (set := set) hn hc
  have h3 : zIn (zAr σ set n) (nI c) = true ↔ zIn (ard n lk set) (nI c) = true := by
    rw [h1, h2]
    constructor
    · rintro ⟨a, ha, q1, q2⟩
      by_cases hcn : c < n
      · exact ⟨hcn, a, ha, q1, by rw [← hlk a c ha hcn]; exact q2⟩
      · rw [hhi a c ha (by omega) hc] at q2; exact absurd q2 (by decide)
    · rintro ⟨hcn, a, ha, q1, q2⟩
      exact ⟨a, ha, q1, by rw [hlk a c ha hcn]; exact q2⟩
  cases h4 : zIn (ard n lk set) (nI c) with
  | true => exact h3.mpr h4
  | false =>
    cases h5 : zIn (zAr σ set n) (nI c) with
    | false => rfl
    | true => rw [h3.mp h5] at h4; exact absurd h4 (by decide)
theorem s_Frame_clusterOf2 (G : zG) (σ : zSt) (n a : Nat) (free k : Int32) (lk : Nat → Nat → Bool) (hn : σ 2 0 = nI n) (hle : n ≤ 12) (ha : a < n) (hlk : ∀ a b, a < n → b < n → zIn (σ 7 a) (nI b) = lk a b) (hhi : ∀ a c, a < n → n ≤ c → c < 32 → zIn (σ 7 a) (nI c) = false) : zI G 2 M_Frame_clusterOf [zf G 2, .int (nI a), .int free, .int k] σ (fun x τ => x = clS n lk k free n ((1 : Int32) <<< (nI a &&& 31)) ∧ τ = σ) := by
  refine zSpec.of (by decide) (Nat.le_of_ble_eq_true rfl) rfl (fun X E => ?_)
  refine b_Frame_clusterOf_0 E (nI a) free k σ ?_
  refine z_for n (fun i (x : Int32) => zZ G M_Frame_clusterOf 2 X (fun r τ => ∃ x : Int32, r = some (.int x) ∧ x = clS n lk k free n ((1 : Int32) <<< (nI a &&& 31)) ∧ τ = σ) 8 [(0, zf G 2), (2, .int free), (3, .int k), (4, .int x), (5, .int (nI i))] [] σ) (fun i x => hi0 n x ∧ clS n lk k free (n - i) x = clS n lk k free n ((1 : Int32) <<< (nI a &&& 31))) ?_ ?_ 0 _ (Nat.zero_le _) ⟨hi0_bit ha hle, rfl⟩
  · intro i x hi ⟨hB, hI⟩ ih
    obtain ⟨t, ht⟩ : ∃ t, n - i = t + 1 := ⟨n - i - 1, by omega⟩
    rw [ht] at hI
    have hI : (if (k - 1) * nI (bN x 12) ≤ nI (bN (clF n lk free x) 12) then clS n lk k free t (x ||| clF n lk free x) else x) = _ := hI
    refine b_Frame_clusterOf_8 E free k x (nI i) σ ⟨fun q => absurd q (by rw [hn]; exact nI_ge hi (by omega)), fun _ => ⟨_, s_Net_around G σ n x hn hle, fun y τ ⟨ey, eτ⟩ => ?_⟩⟩
    rw [ey, eτ, zAr_ard hle hlk hhi]
    have e1 : zBc x = nI (bN x 12) := zBc_bN (fun c h1 h2 => hB c (by omega) h2)
    have e2 : zBc ((ard n lk x &&& free) &&& (x ^^^ (-1 : Int32))) = nI (bN (clF n lk free x) 12) := zBc_bN (x := clF n lk free x) (fun c h1 h2 => hi0_clF hle c (by omega) h2)
    rw [e1, e2]
    refine ⟨fun h => ?_, fun h => ⟨_, rfl, ?_, rfl⟩⟩
    · rw [nI_1]
      rw [if_pos h] at hI
      refine ih _ ⟨hB.or (hi0_clF hle), ?_⟩
      have et : n - (i + 1) = t := by omega
      rw [et]; exact hI
    · rw [if_neg h] at hI; exact hI
  · intro x ⟨hB, hI⟩
    rw [Nat.sub_self] at hI
    exact b_Frame_clusterOf_8 E free k x (nI n) σ ⟨fun _ => ⟨_, rfl, hI, rfl⟩, fun q => absurd (by rw [hn]; exact nI_le (Nat.le_refl n) (by omega)) q⟩
/-- how many clusters -/
def cL (n : Nat) (lk : Nat → Nat → Bool) (k : Int32) : Nat → Nat
  | 0 => 0
  | i + 1 => cL n lk k i + (if ldI n lk k i = true then 1 else 0)
theorem cL_le (n : Nat) (lk : Nat → Nat → Bool) (k : Int32) (i : Nat) : cL n lk k i ≤ i := by
  induction i with
  | zero => exact Nat.le_refl _
  | succ i ih => unfold cL; split <;> omega
/-- the tree of a cluster -/
abbrev tI2 (n : Nat) (lk : Nat → Nat → Bool) (k : Int32) (j c : Nat) : Option (Nat × Option Nat) := tS n j (fun c => zIn (clI n lk k j) (nI c)) lk n c
/-- the clusters of the leaders before i are made -/
def MC (σ τ : zSt) (n : Nat) (lk : Nat → Nat → Bool) (k : Int32) (i : Nat) : Prop :=
  zFr [3, 9, 10, 11, 12, 13] σ τ ∧ τ 3 0 = nI (cL n lk k i) ∧ τ 3 1 = σ 3 1
  ∧ (∀ c, c < n → zIn (frI n lk k i) (nI c) = true → τ 11 c = -2 ∧ τ 10 c = -2 ∧ τ 12 c = 0)
  ∧ (∀ j c, j < i → c < n → ldI n lk k j = true → zIn (clI n lk k j) (nI c) = true → τ 9 c = nI j ∧ τ 10 c = upE (tI2 n lk k j c) ∧ τ 12 c = abE (tI2 n lk k j c))
  ∧ (∀ u c, u < 12 → c < 32 → (zIn (τ 13 u) (nI c) = true ↔ (c < n ∧ τ 10 c = nI u)))
theorem upE_iff {n root : Nat} {s : Nat → Bool} {lk : Nat → Nat → Bool} {k c u : Nat} (hn : n ≤ 12) (hu : u < 12) : upE (tS n root s lk k c) = nI u ↔ (tS n root s lk k c).bind Prod.snd = some u := by
  cases hq : tS n root s lk k c with
  | none => exact ⟨fun h => absurd h.symm (nI_ne_m2 (by omega)), fun h => absurd h (by simp)⟩
  | some p =>
    obtain ⟨j, v⟩ := p
    cases v with
    | none => exact ⟨fun h => absurd h.symm (nI_ne_m2 (by omega)), fun h => absurd h (by simp)⟩
    | some b =>
      have hb : b < n := by
        rcases (tS_ok hq).2 with ⟨_, _, q⟩ | ⟨_, d, i, _, q, hd, _⟩
        · exact absurd q (by simp)
        · rw [Option.some.inj q]; exact hd
      show nI b = nI u ↔ some b = some u
      rw [nI_eq (by omega) (by omega)]
      exact ⟨fun h => by rw [h], fun h => Option.some.inj h⟩
set_option maxHeartbeats 1000000 in
theorem s_Frame_makeClusters2 (G : zG) (σ : zSt) (n : Nat) (k : Int32) (lk : Nat → Nat → Bool) (hn : σ 2 0 = nI n) (hle : n ≤ 12) (hlk : ∀ a b, a < n → b < n → zIn (σ 7 a) (nI b) = lk a b) (hhi : ∀ a c, a < n → n ≤ c → c < 32 → zIn (σ 7 a) (nI c) = false) (h0 : ∀ c, c < 12 → σ 11 c = -2 ∧ σ 10 c = -2 ∧ σ 12 c = 0 ∧ σ 13 c = 0) : zV G 3 M_Frame_makeClusters [zf G 3, zf G 2, .int k] σ (fun τ => MC σ τ n lk k n) := by
  refine zSpec.of (by decide) (Nat.le_of_ble_eq_true rfl) rfl (fun X E => ?_)
  refine b_Frame_makeClusters_0 E k σ (fun σ1 e1 => ?_)
  rw [hn]
  have f1 : zFr [3, 9, 10, 11, 12, 13] σ σ1 := by rw [e1]; exact zFr.rf.up (by decide)
  have m1 : MC σ σ1 n lk k 0 := by
    refine ⟨f1, by rw [e1, zup_self, upd_eq]; rfl, by rw [e1, zup_self, upd_ne (by decide)], fun c hc _ => ?_, fun j c hj => absurd hj (Nat.not_lt_zero j), fun u c hu hc => ?_⟩
    · obtain ⟨a1, a2, a3, _⟩ := h0 c (by omega)
      rw [e1, zup_ne (by decide), zup_ne (by decide), zup_ne (by decide)]
      exact ⟨a1, a2, a3⟩
    · rw [e1, zup_ne (by decide), zup_ne (by decide), (h0 u hu).2.2.2, zIn_0 hc]
      refine ⟨fun q => absurd q (by decide), fun q => ?_⟩
      rw [(h0 c (by omega)).2.1] at q
      exact absurd q.2.symm (nI_ne_m2 (by omega))
  refine z_for n (fun i τ => zZ G M_Frame_makeClusters 3 X (fun r τ => r = none ∧ MC σ τ n lk k n) 13 [(0, zf G 3), (1, zf G 2), (2, .int k), (3, .int (frI n lk k i)), (4, .int (nI i))] [] τ) (fun i τ => MC σ τ n lk k i) ?_ ?_ 0 σ1 (Nat.zero_le _) m1
  · intro i τ hi hM ih
    have hi12 : i < 12 := by omega
    obtain ⟨hF, hc0, hc1, hfr, hcl, h13⟩ := hM
    have n2 : τ 2 0 = nI n := by rw [hF 2 (by decide)]; exact hn
    have t7 : τ 7 = σ 7 := hF 7 (by decide)
    refine b_Frame_makeClusters_13 E k (frI n lk k i) (nI i) τ ⟨fun q => absurd q (by rw [n2]; exact nI_ge hi (by omega)), fun _ => ⟨fun hz => ?_, fun hz => ⟨_, s_Frame_clusterOf2 G τ n i (frI n lk k i) k lk n2 hle hi (by rw [t7]; exact hlk) (by rw [t7]; exact hhi), fun x σ2 ⟨ex, e2⟩ σ3 e3 => ?_⟩⟩⟩
    · rw [nI_1]
      have hl : ldI n lk k i = false := hz
      have ef : frI n lk k (i + 1) = frI n lk k i := frI_n hl
      have ec : cL n lk k (i + 1) = cL n lk k i := by
        show cL n lk k i + _ = _
        rw [if_neg (by rw [hl]; decide)]; rfl
      have := ih τ ⟨hF, by rw [ec]; exact hc0, hc1, by rw [ef]; exact hfr, fun j c hj hc hl2 hzc => ?_, h13⟩
      · rw [ef] at this; exact this
      · by_cases e : j = i
        · rw [e, hl] at hl2; exact absurd hl2 (by decide)
        · exact hcl j c (by omega) hc hl2 hzc
    · have hl : ldI n lk k i = true := hz
      have ex : x = clI n lk k i := ex
      rw [ex]
      rw [e2] at e3
      have f3 : zFr [3] τ σ3 := by rw [e3]; exact zFr.rf.up (by decide)
      refine ⟨_, s_Frame_growTree2 G σ3 n i (clI n lk k i) lk (by rw [f3 2 (by decide)]; exact n2) hle hi (clI_me (by omega)) (by rw [f3 7 (by decide), t7]; exact hlk) (fun c hc hzc => ?_), fun σ4 ⟨g1, ⟨g2, g3, g4⟩, g5⟩ => ?_⟩
      · rw [f3 11 (by decide), f3 10 (by decide), f3 12 (by decide)]
        exact hfr c hc (clI_fr hi12 (by omega) hl hzc)
      · have ef : frI n lk k (i + 1) = frI n lk k i &&& (clI n lk k i ^^^ (-1 : Int32)) := frI_y hl
        rw [← ef, nI_1]
        have c3 : σ4 3 = upd (τ 3) 0 (τ 3 0 + 1) := by rw [g1 3 (by decide), e3, zup_self]
        -- a node that is not in the new cluster keeps what it has
        have keep : ∀ c, ¬ (c < n ∧ zIn (clI n lk k i) (nI c) = true) → σ4 9 c = τ 9 c ∧ σ4 11 c = τ 11 c ∧ σ4 10 c = τ 10 c ∧ σ4 12 c = τ 12 c := fun c hc => by
          obtain ⟨k1, k2, k3⟩ := g3 c hc
          rw [k1, k2, k3, g5 c, if_neg hc, f3 9 (by decide), f3 11 (by decide), f3 10 (by decide), f3 12 (by decide)]
          exact ⟨rfl, rfl, rfl, rfl⟩
        refine ih σ4 ⟨(hF.tr (f3.mono (by decide))).tr (g1.mono (by decide)), ?_, ?_, fun c hc hzc => ?_, fun j c hj hc hl2 hzc => ?_, fun u c hu hc => ?_⟩
        · rw [c3, upd_eq, hc0]
          show nI (cL n lk k i) + 1 = nI (cL n lk k i + _)
          rw [if_pos hl, nI_1]
        · rw [c3, upd_ne (by decide)]; exact hc1
        · have hno : ¬ (c < n ∧ zIn (clI n lk k i) (nI c) = true) := fun q => by
            rw [frI_no (by omega) hl q.2] at hzc; exact absurd hzc (by decide)
          obtain ⟨_, k2, k3, k4⟩ := keep c hno
          rw [k2, k3, k4]
          exact hfr c hc (frI_dn (by omega) hzc)
        · by_cases e : j = i
          · rw [e] at hzc ⊢
            obtain ⟨_, k2, k3⟩ := g2 c hc hzc
            rw [g5 c, if_pos ⟨hc, hzc⟩, k2, k3]
            exact ⟨rfl, rfl, rfl⟩
          · have hno : ¬ (c < n ∧ zIn (clI n lk k i) (nI c) = true) := fun q => e (clI_one (by omega) hi12 (by omega) hl2 hl hzc q.2)
            obtain ⟨k1, _, k3, k4⟩ := keep c hno
            rw [k1, k3, k4]
            exact hcl j c (by omega) hc hl2 hzc
        · rw [g4 u c hu hc, f3 13 (by decide), h13 u c hu hc]
          by_cases hin : c < n ∧ zIn (clI n lk k i) (nI c) = true
          · have e10 : τ 10 c = -2 := (hfr c hin.1 (clI_fr hi12 hc hl hin.2)).2.1
            rw [(g2 c hin.1 hin.2).2.1, e10]
            refine ⟨fun q => q.elim (fun q => absurd q.2.symm (nI_ne_m2 (by omega))) (fun q => ⟨q.1, (upE_iff hle hu).mpr q.2.2⟩), fun q => Or.inr ⟨q.1, hin.2, (upE_iff hle hu).mp q.2⟩⟩
          · rw [(keep c hin).2.2.1]
            exact ⟨fun q => q.elim id (fun q => absurd ⟨q.1, q.2.1⟩ hin), Or.inl⟩
  · intro τ hM
    exact b_Frame_makeClusters_13 E k (frI n lk k n) (nI n) τ ⟨fun _ => ⟨rfl, hM⟩, fun q => absurd (by rw [hM.1 2 (by decide), hn]; exact nI_le (Nat.le_refl n) (by omega)) q⟩
