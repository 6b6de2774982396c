section
-- The class's clusters, exactly
theorem zAr_ard {σ : zSt} {n : Nat} {lk : Nat → Nat → Bool} {set : Int32} (hn : n ≤ 12) (hlk : ∀ a b, a < n → b < n → zIn (σ 7 a) (nI b) = lk a b) (hhi : ∀ a c, a < n → n ≤ c → c < 32 → zIn (σ 7 a) (nI c) = false) : zAr σ set n = ard n lk set := by
  refine in_ext (fun c hc => ?_)
  have h1 := zAr_in (σ := σ) (set := set) hc n (by omega)
  have h2 := ard_in (lk := lk) (set := set) hn hc
  have h3 : zIn (zAr σ set n) (nI c) = true ↔ zIn (ard n lk set) (nI c) = true := by
    rw [h1, h2]
    constructor
    · rintro ⟨a, ha, q1, q2⟩
      by_cases hcn : c < n
      · exact ⟨hcn, a, ha, q1, by rw [← hlk a c ha hcn]; exact q2⟩
      · rw [hhi a c ha (by omega) hc] at q2; exact absurd q2 (by decide)
    · rintro ⟨hcn, a, ha, q1, q2⟩
      exact ⟨a, ha, q1, by rw [hlk a c ha hcn]; exact q2⟩
  cases h4 : zIn (ard n lk set) (nI c) with
  | true => exact h3.mpr h4
  | false =>
    cases h5 : zIn (zAr σ set n) (nI c) with
    | false => rfl
    | true => rw [h3.mp h5] at h4; exact absurd h4 (by decide)
theorem s_Frame_clusterOf2 (G : zG) (σ : zSt) (n a : Nat) (free k : Int32) (lk : Nat → Nat → Bool) (hn : σ 2 0 = nI n) (hle : n ≤ 12) (ha : a < n) (hlk : ∀ a b, a < n → b < n → zIn (σ 7 a) (nI b) = lk a b) (hhi : ∀ a c, a < n → n ≤ c → c < 32 → zIn (σ 7 a) (nI c) = false) : zI G 2 M_Frame_clusterOf [zf G 2, .int (nI a), .int free, .int k] σ (fun x τ => x = clS n lk k free n ((1 : Int32) <<< (nI a &&& 31)) ∧ τ = σ) := by
  refine zSpec.of (by decide) (Nat.le_of_ble_eq_true rfl) rfl (fun X E => ?_)
  refine b_Frame_clusterOf_0 E (nI a) free k σ ?_
  refine z_for n (fun i (x : Int32) => zZ G M_Frame_clusterOf 2 X (fun r τ => ∃ x : Int32, r = some (.int x) ∧ x = clS n lk k free n ((1 : Int32) <<< (nI a &&& 31)) ∧ τ = σ) 8 [(0, zf G 2), (2, .int free), (3, .int k), (4, .int x), (5, .int (nI i))] [] σ) (fun i x => hi0 n x ∧ clS n lk k free (n - i) x = clS n lk k free n ((1 : Int32) <<< (nI a &&& 31))) ?_ ?_ 0 _ (Nat.zero_le _) ⟨hi0_bit ha hle, rfl⟩
  · intro i x hi ⟨hB, hI⟩ ih
    obtain ⟨t, ht⟩ : ∃ t, n - i = t + 1 := ⟨n - i - 1, by omega⟩
    rw [ht] at hI
    have hI : (if (k - 1) * nI (bN x 12) ≤ nI (bN (clF n lk free x) 12) then clS n lk k free t (x ||| clF n lk free x) else x) = _ := hI
    refine b_Frame_clusterOf_8 E free k x (nI i) σ ⟨fun q => absurd q (by rw [hn]; exact nI_ge hi (by omega)), fun _ => ⟨_, s_Net_around G σ n x hn hle, fun y τ ⟨ey, eτ⟩ => ?_⟩⟩
    rw [ey, eτ, zAr_ard hle hlk hhi]
    have e1 : zBc x = nI (bN x 12) := zBc_bN (fun c h1 h2 => hB c (by omega) h2)
    have e2 : zBc ((ard n lk x &&& free) &&& (x ^^^ (-1 : Int32))) = nI (bN (clF n lk free x) 12) := zBc_bN (x := clF n lk free x) (fun c h1 h2 => hi0_clF hle c (by omega) h2)
    rw [e1, e2]
    refine ⟨fun h => ?_, fun h => ⟨_, rfl, ?_, rfl⟩⟩
    · rw [nI_1]
      rw [if_pos h] at hI
      refine ih _ ⟨hB.or (hi0_clF hle), ?_⟩
      have et : n - (i + 1) = t := by omega
      rw [et]; exact hI
    · rw [if_neg h] at hI; exact hI
  · intro x ⟨hB, hI⟩
    rw [Nat.sub_self] at hI
    exact b_Frame_clusterOf_8 E free k x (nI n) σ ⟨fun _ => ⟨_, rfl, hI, rfl⟩, fun q => absurd (by rw [hn]; exact nI_le (Nat.le_refl n) (by omega)) q⟩
/-- how many clusters -/
def cL (n : Nat) (lk : Nat → Nat → Bool) (k : Int32) : Nat → Nat
  | 0 => 0
  | i + 1 => cL n lk k i + (if ldI n lk k i = true then 1 else 0)
theorem cL_le (n : Nat) (lk : Nat → Nat → Bool) (k : Int32) (i : Nat) : cL n lk k i ≤ i := by
  induction i with
  | zero => exact Nat.le_refl _
  | succ i ih => unfold cL; split <;> omega
/-- the tree of a cluster -/
abbrev tI2 (n : Nat) (lk : Nat → Nat → Bool) (k : Int32) (j c : Nat) : Option (Nat × Option Nat) := tS n j (fun c => zIn (clI n lk k j) (nI c)) lk n c
/-- the clusters of the leaders before i are made -/
def MC (σ τ : zSt) (n : Nat) (lk : Nat → Nat → Bool) (k : Int32) (i : Nat) : Prop :=
  zFr [3, 9, 10, 11, 12, 13] σ τ ∧ τ 3 0 = nI (cL n lk k i) ∧ τ 3 1 = σ 3 1
  ∧ (∀ c, c < n → zIn (frI n lk k i) (nI c) = true → τ 11 c = -2 ∧ τ 10 c = -2 ∧ τ 12 c = 0)
  ∧ (∀ j c, j < i → c < n → ldI n lk k j = true → zIn (clI n lk k j) (nI c) = true → τ 9 c = nI j ∧ τ 10 c = upE (tI2 n lk k j c) ∧ τ 12 c = abE (tI2 n lk k j c))
  ∧ (∀ u c, u < 12 → c < 32 → (zIn (τ 13 u) (nI c) = true ↔ (c < n ∧ τ 10 c = nI u)))
theorem upE_iff {n root : Nat} {s : Nat → Bool} {lk : Nat → Nat → Bool} {k c u : Nat} (hn : n ≤ 12) (hu : u < 12) : upE (tS n root s lk k c) = nI u ↔ (tS n root s lk k c).bind Prod.snd = some u := by
  cases hq : tS n root s lk k c with
  | none => exact ⟨fun h => absurd h.symm (nI_ne_m2 (by omega)), fun h => absurd h (by simp)⟩
  | some p =>
    obtain ⟨j, v⟩ := p
    cases v with
    | none => exact ⟨fun h => absurd h.symm (nI_ne_m2 (by omega)), fun h => absurd h (by simp)⟩
    | some b =>
      have hb : b < n := by
        rcases (tS_ok hq).2 with ⟨_, _, q⟩ | ⟨_, d, i, _, q, hd, _⟩
        · exact absurd q (by simp)
        · rw [Option.some.inj q]; exact hd
      show nI b = nI u ↔ some b = some u
      rw [nI_eq (by omega) (by omega)]
      exact ⟨fun h => by rw [h], fun h => Option.some.inj h⟩
set_option maxHeartbeats 1000000 in
theorem s_Frame_makeClusters2 (G : zG) (σ : zSt) (n : Nat) (k : Int32) (lk : Nat → Nat → Bool) (hn : σ 2 0 = nI n) (hle : n ≤ 12) (hlk : ∀ a b, a < n → b < n → zIn (σ 7 a) (nI b) = lk a b) (hhi : ∀ a c, a < n → n ≤ c → c < 32 → zIn (σ 7 a) (nI c) = false) (h0 : ∀ c, c < 12 → σ 11 c = -2 ∧ σ 10 c = -2 ∧ σ 12 c = 0 ∧ σ 13 c = 0) : zV G 3 M_Frame_makeClusters [zf G 3, zf G 2, .int k] σ (fun τ => MC σ τ n lk k n) := by
  refine zSpec.of (by decide) (Nat.le_of_ble_eq_true rfl) rfl (fun X E => ?_)
  refine b_Frame_makeClusters_0 E k σ (fun σ1 e1 => ?_)
  rw [hn]
  have f1 : zFr [3, 9, 10, 11, 12, 13] σ σ1 := by rw [e1]; exact zFr.rf.up (by decide)
  have m1 : MC σ σ1 n lk k 0 := by
    refine ⟨f1, by rw [e1, zup_self, upd_eq]; rfl, by rw [e1, zup_self, upd_ne (by decide)], fun c hc _ => ?_, fun j c hj => absurd hj (Nat.not_lt_zero j), fun u c hu hc => ?_⟩
    · obtain ⟨a1, a2, a3, _⟩ := h0 c (by omega)
      rw [e1, zup_ne (by decide), zup_ne (by decide), zup_ne (by decide)]
      exact ⟨a1, a2, a3⟩
    · rw [e1, zup_ne (by decide), zup_ne (by decide), (h0 u hu).2.2.2, zIn_0 hc]
      refine ⟨fun q => absurd q (by decide), fun q => ?_⟩
      rw [(h0 c (by omega)).2.1] at q
      exact absurd q.2.symm (nI_ne_m2 (by omega))
  refine z_for n (fun i τ => zZ G M_Frame_makeClusters 3 X (fun r τ => r = none ∧ MC σ τ n lk k n) 13 [(0, zf G 3), (1, zf G 2), (2, .int k), (3, .int (frI n lk k i)), (4, .int (nI i))] [] τ) (fun i τ => MC σ τ n lk k i) ?_ ?_ 0 σ1 (Nat.zero_le _) m1
  · intro i τ hi hM ih
    have hi12 : i < 12 := by omega
    obtain ⟨hF, hc0, hc1, hfr, hcl, h13⟩ := hM
    have n2 : τ 2 0 = nI n := by rw [hF 2 (by decide)]; exact hn
    have t7 : τ 7 = σ 7 := hF 7 (by decide)
    refine b_Frame_makeClusters_13 E k (frI n lk k i) (nI i) τ ⟨fun q => absurd q (by rw [n2]; exact nI_ge hi (by omega)), fun _ => ⟨fun hz => ?_, fun hz => ⟨_, s_Frame_clusterOf2 G τ n i (frI n lk k i) k lk n2 hle hi (by rw [t7]; exact hlk) (by rw [t7]; exact hhi), fun x σ2 ⟨ex, e2⟩ σ3 e3 => ?_⟩⟩⟩
    · rw [nI_1]
      have hl : ldI n lk k i = false := hz
      have ef : frI n lk k (i + 1) = frI n lk k i := frI_n hl
      have ec : cL n lk k (i + 1) = cL n lk k i := by
        show cL n lk k i + _ = _
        rw [if_neg (by rw [hl]; decide)]; rfl
      have := ih τ ⟨hF, by rw [ec]; exact hc0, hc1, by rw [ef]; exact hfr, fun j c hj hc hl2 hzc => ?_, h13⟩
      · rw [ef] at this; exact this
      · by_cases e : j = i
        · rw [e, hl] at hl2; exact absurd hl2 (by decide)
        · exact hcl j c (by omega) hc hl2 hzc
    · have hl : ldI n lk k i = true := hz
      have ex : x = clI n lk k i := ex
      rw [ex]
      rw [e2] at e3
      have f3 : zFr [3] τ σ3 := by rw [e3]; exact zFr.rf.up (by decide)
      refine ⟨_, s_Frame_growTree2 G σ3 n i (clI n lk k i) lk (by rw [f3 2 (by decide)]; exact n2) hle hi (clI_me (by omega)) (by rw [f3 7 (by decide), t7]; exact hlk) (fun c hc hzc => ?_), fun σ4 ⟨g1, ⟨g2, g3, g4⟩, g5⟩ => ?_⟩
      · rw [f3 11 (by decide), f3 10 (by decide), f3 12 (by decide)]
        exact hfr c hc (clI_fr hi12 (by omega) hl hzc)
      · have ef : frI n lk k (i + 1) = frI n lk k i &&& (clI n lk k i ^^^ (-1 : Int32)) := frI_y hl
        rw [← ef, nI_1]
        have c3 : σ4 3 = upd (τ 3) 0 (τ 3 0 + 1) := by rw [g1 3 (by decide), e3, zup_self]
        -- a node that is not in the new cluster keeps what it has
        have keep : ∀ c, ¬ (c < n ∧ zIn (clI n lk k i) (nI c) = true) → σ4 9 c = τ 9 c ∧ σ4 11 c = τ 11 c ∧ σ4 10 c = τ 10 c ∧ σ4 12 c = τ 12 c := fun c hc => by
          obtain ⟨k1, k2, k3⟩ := g3 c hc
          rw [k1, k2, k3, g5 c, if_neg hc, f3 9 (by decide), f3 11 (by decide), f3 10 (by decide), f3 12 (by decide)]
          exact ⟨rfl, rfl, rfl, rfl⟩
        refine ih σ4 ⟨(hF.tr (f3.mono (by decide))).tr (g1.mono (by decide)), ?_, ?_, fun c hc hzc => ?_, fun j c hj hc hl2 hzc => ?_, fun u c hu hc => ?_⟩
        · rw [c3, upd_eq, hc0]
          show nI (cL n lk k i) + 1 = nI (cL n lk k i + _)
          rw [if_pos hl, nI_1]
        · rw [c3, upd_ne (by decide)]; exact hc1
        · have hno : ¬ (c < n ∧ zIn (clI n lk k i) (nI c) = true) := fun q => by
            rw [frI_no (by omega) hl q.2] at hzc; exact absurd hzc (by decide)
          obtain ⟨_, k2, k3, k4⟩ := keep c hno
          rw [k2, k3, k4]
          exact hfr c hc (frI_dn (by omega) hzc)
        · by_cases e : j = i
          · rw [e] at hzc ⊢
            obtain ⟨_, k2, k3⟩ := g2 c hc hzc
            rw [g5 c, if_pos ⟨hc, hzc⟩, k2, k3]
            exact ⟨rfl, rfl, rfl⟩
          · have hno : ¬ (c < n ∧ zIn (clI n lk k i) (nI c) = true) := fun q => e (clI_one (by omega) hi12 (by omega) hl2 hl hzc q.2)
            obtain ⟨k1, _, k3, k4⟩ := keep c hno
            rw [k1, k3, k4]
            exact hcl j c (by omega) hc hl2 hzc
        · rw [g4 u c hu hc, f3 13 (by decide), h13 u c hu hc]
          by_cases hin : c < n ∧ zIn (clI n lk k i) (nI c) = true
          · have e10 : τ 10 c = -2 := (hfr c hin.1 (clI_fr hi12 hc hl hin.2)).2.1
            rw [(g2 c hin.1 hin.2).2.1, e10]
            refine ⟨fun q => q.elim (fun q => absurd q.2.symm (nI_ne_m2 (by omega))) (fun q => ⟨q.1, (upE_iff hle hu).mpr q.2.2⟩), fun q => Or.inr ⟨q.1, hin.2, (upE_iff hle hu).mp q.2⟩⟩
          · rw [(keep c hin).2.2.1]
            exact ⟨fun q => q.elim id (fun q => absurd ⟨q.1, q.2.1⟩ hin), Or.inl⟩
  · intro τ hM
    exact b_Frame_makeClusters_13 E k (frI n lk k n) (nI n) τ ⟨fun _ => ⟨rfl, hM⟩, fun q => absurd (by rw [hM.1 2 (by decide), hn]; exact nI_le (Nat.le_refl n) (by omega)) q⟩
end
section
-- The chosen links: pure
section CHO
variable (n : Nat) (lk : Nat → Nat → Bool) (L : Nat → Nat)
/-- c, d is a link before a, b between the same two clusters -/
def eqP (a b c d : Nat) : Bool := lk c d && decide (c < d ∧ (c < a ∨ (c = a ∧ d < b)) ∧ ((L c = L a ∧ L d = L b) ∨ (L c = L b ∧ L d = L a)))
def chE (a b : Nat) : Bool := (fi (fun c => (fi (fun d => eqP lk L a b c d) n).isSome) n).isSome
def ch1 (a b : Nat) : Bool := lk a b && (decide (¬ L a = L b) && !(chE n lk L a b))
def chB (a b : Nat) : Bool := if a < b then ch1 n lk L a b else if b < a then ch1 n lk L b a else false
/-- how many of a row before b, of all rows before a -/
def cR (a : Nat) : Nat → Nat
  | 0 => 0
  | b + 1 => cR a b + (if a < b ∧ ch1 n lk L a b = true then 1 else 0)
def cA : Nat → Nat
  | 0 => 0
  | a + 1 => cA a + cR n lk L a n
end CHO
section CHO2
variable {n : Nat} {lk : Nat → Nat → Bool} {L : Nat → Nat}
theorem chE_iff {a b : Nat} : chE n lk L a b = true ↔ ∃ c d, c < n ∧ d < n ∧ eqP lk L a b c d = true := by
  unfold chE
  rw [fi_ex]
  constructor
  · rintro ⟨c, hc, h⟩
    obtain ⟨d, hd, h2⟩ := fi_ex.mp h
    exact ⟨c, d, hc, hd, h2⟩
  · rintro ⟨c, d, hc, hd, h⟩
    exact ⟨c, hc, fi_ex.mpr ⟨d, hd, h⟩⟩
theorem eqP_iff {a b c d : Nat} : eqP lk L a b c d = true ↔ lk c d = true ∧ c < d ∧ (c < a ∨ (c = a ∧ d < b)) ∧ ((L c = L a ∧ L d = L b) ∨ (L c = L b ∧ L d = L a)) := by
  unfold eqP
  rw [Bool.and_eq_true, decide_eq_true_eq]
theorem ch1_iff {a b : Nat} : ch1 n lk L a b = true ↔ lk a b = true ∧ ¬ L a = L b ∧ chE n lk L a b = false := by
  unfold ch1
  rw [Bool.and_eq_true, Bool.and_eq_true, decide_eq_true_eq, Bool.not_eq_true']
theorem cR_0 {a : Nat} : ∀ b, b ≤ a + 1 → cR n lk L a b = 0 := by
  intro b
  induction b with
  | zero => intro _; rfl
  | succ b ih =>
    intro h
    unfold cR
    rw [ih (by omega), if_neg (fun q => by omega)]
theorem cR_le {a : Nat} (b : Nat) : cR n lk L a b ≤ b := by
  induction b with
  | zero => exact Nat.le_refl _
  | succ b ih => unfold cR; split <;> omega
theorem cA_le (a : Nat) : cA n lk L a ≤ a * n := by
  induction a with
  | zero => simp [cA]
  | succ a ih =>
    have := cR_le (n := n) (lk := lk) (L := L) (a := a) n
    unfold cA
    rw [Nat.succ_mul]
    omega
/-- a link between x's and y's clusters before a, b -/
def jnd (n : Nat) (lk : Nat → Nat → Bool) (L : Nat → Nat) (a b x y : Nat) : Prop := ∃ c d, c < n ∧ d < n ∧ lk c d = true ∧ c < d ∧ (c < a ∨ (c = a ∧ d < b)) ∧ ¬ L c = L d ∧ ((L c = x ∧ L d = y) ∨ (L c = y ∧ L d = x))
theorem jnd_E {a b : Nat} (h : ¬ L a = L b) : jnd n lk L a b (L a) (L b) ↔ chE n lk L a b = true := by
  rw [chE_iff]
  constructor
  · rintro ⟨c, d, hc, hd, h1, h2, h3, _, h5⟩
    exact ⟨c, d, hc, hd, eqP_iff.mpr ⟨h1, h2, h3, h5⟩⟩
  · rintro ⟨c, d, hc, hd, q⟩
    obtain ⟨h1, h2, h3, h5⟩ := eqP_iff.mp q
    refine ⟨c, d, hc, hd, h1, h2, h3, fun e => h ?_, h5⟩
    rcases h5 with ⟨p1, p2⟩ | ⟨p1, p2⟩
    · rw [← p1, ← p2, e]
    · rw [← p1, ← p2, e]
/-- one pair further -/
theorem jnd_s {a b x y : Nat} (ha : a < n) (hb : b < n) (hab : a < b) : jnd n lk L a (b + 1) x y ↔ jnd n lk L a b x y ∨ (lk a b = true ∧ ¬ L a = L b ∧ ((L a = x ∧ L b = y) ∨ (L a = y ∧ L b = x))) := by
  constructor
  · rintro ⟨c, d, hc, hd, h1, h2, h3, h4, h5⟩
    by_cases e : c = a ∧ d = b
    · obtain ⟨e1, e2⟩ := e
      rw [e1, e2] at h1 h4 h5
      exact Or.inr ⟨h1, h4, h5⟩
    · exact Or.inl ⟨c, d, hc, hd, h1, h2, by omega, h4, h5⟩
  · rintro (⟨c, d, hc, hd, h1, h2, h3, h4, h5⟩ | ⟨h1, h4, h5⟩)
    · exact ⟨c, d, hc, hd, h1, h2, by omega, h4, h5⟩
    · exact ⟨a, b, ha, hb, h1, hab, by omega, h4, h5⟩
theorem jnd_r {a x y : Nat} : jnd n lk L a n x y ↔ jnd n lk L (a + 1) (a + 2) x y := by
  constructor
  · rintro ⟨c, d, hc, hd, h1, h2, h3, h4, h5⟩
    exact ⟨c, d, hc, hd, h1, h2, by omega, h4, h5⟩
  · rintro ⟨c, d, hc, hd, h1, h2, h3, h4, h5⟩
    exact ⟨c, d, hc, hd, h1, h2, by omega, h4, h5⟩
theorem jnd_0 {x y : Nat} : ¬ jnd n lk L 0 1 x y := by
  rintro ⟨c, d, hc, hd, h1, h2, h3, h4, h5⟩
  omega
/-- chosen, and looked at before a, b -/
def chP (n : Nat) (lk : Nat → Nat → Bool) (L : Nat → Nat) (a b x y : Nat) : Prop := chB n lk L x y = true ∧ ((x < y ∧ (x < a ∨ (x = a ∧ y < b))) ∨ (y < x ∧ (y < a ∨ (y = a ∧ x < b))))
theorem chP_s {a b x y : Nat} (hab : a < b) : chP n lk L a (b + 1) x y ↔ chP n lk L a b x y ∨ (ch1 n lk L a b = true ∧ ((x = a ∧ y = b) ∨ (x = b ∧ y = a))) := by
  unfold chP
  constructor
  · rintro ⟨h, h2⟩
    by_cases e1 : x = a ∧ y = b
    · refine Or.inr ⟨?_, Or.inl e1⟩
      unfold chB at h
      rw [e1.1, e1.2, if_pos hab] at h
      exact h
    · by_cases e2 : x = b ∧ y = a
      · refine Or.inr ⟨?_, Or.inr e2⟩
        unfold chB at h
        rw [e2.1, e2.2, if_neg (by omega), if_pos hab] at h
        exact h
      · exact Or.inl ⟨h, by omega⟩
  · rintro (⟨h, h2⟩ | ⟨h, e | e⟩)
    · exact ⟨h, by omega⟩
    · refine ⟨?_, by omega⟩
      unfold chB
      rw [e.1, e.2, if_pos hab]; exact h
    · refine ⟨?_, by omega⟩
      unfold chB
      rw [e.1, e.2, if_neg (by omega), if_pos hab]; exact h
theorem chP_r {a x y : Nat} (hx : x < n) (hy : y < n) : chP n lk L a n x y ↔ chP n lk L (a + 1) (a + 2) x y := by
  unfold chP
  constructor
  · rintro ⟨h, h2⟩; exact ⟨h, by omega⟩
  · rintro ⟨h, h2⟩; exact ⟨h, by omega⟩
theorem chP_0 {x y : Nat} : ¬ chP n lk L 0 1 x y := by
  rintro ⟨_, h⟩
  omega
theorem chP_n {x y : Nat} (hx : x < n) (hy : y < n) : chP n lk L n (n + 1) x y ↔ chB n lk L x y = true := by
  unfold chP
  constructor
  · rintro ⟨h, _⟩; exact h
  · intro h
    refine ⟨h, ?_⟩
    by_cases e : x = y
    · exfalso
      unfold chB at h
      rw [if_neg (by omega), if_neg (by omega)] at h
      exact absurd h (by decide)
    · omega
end CHO2
end
section
-- The class chooses links, exactly
theorem jnd_c {n : Nat} {lk : Nat → Nat → Bool} {L : Nat → Nat} {a b x y : Nat} (h : jnd n lk L a b x y) : jnd n lk L a b y x := by
  obtain ⟨c, d, hc, hd, h1, h2, h3, h4, h5⟩ := h
  exact ⟨c, d, hc, hd, h1, h2, h3, h4, h5.symm⟩
theorem two_bits {f : Nat → Int32} {i j x y : Nat} (hi : i < 12) (hj : j < 12) (hij : i ≠ j) (hy : y < 32) : zIn (upd (upd f i (f i ||| ((1 : Int32) <<< (nI j &&& 31)))) j (upd f i (f i ||| ((1 : Int32) <<< (nI j &&& 31))) j ||| ((1 : Int32) <<< (nI i &&& 31))) x) (nI y) = true ↔ (zIn (f x) (nI y) = true ∨ ((x = i ∧ y = j) ∨ (x = j ∧ y = i))) := by
  by_cases ej : x = j
  · rw [ej, upd_eq, upd_ne (Ne.symm hij), zIn_or _ _ hy, zIn_bit (by omega) hy, Bool.or_eq_true, decide_eq_true_eq]
    constructor
    · rintro (q | q)
      · exact Or.inl q
      · exact Or.inr (Or.inr ⟨rfl, q⟩)
    · rintro (q | q | q)
      · exact Or.inl q
      · exact absurd q.1.symm hij
      · exact Or.inr q.2
  · rw [upd_ne ej]
    by_cases ei : x = i
    · rw [ei, upd_eq, zIn_or _ _ hy, zIn_bit (by omega) hy, Bool.or_eq_true, decide_eq_true_eq]
      constructor
      · rintro (q | q)
        · exact Or.inl q
        · exact Or.inr (Or.inl ⟨rfl, q⟩)
      · rintro (q | q | q)
        · exact Or.inl q
        · exact Or.inr q.2
        · exact absurd q.1 hij
    · rw [upd_ne ei]
      constructor
      · exact fun q => Or.inl q
      · rintro (q | q | q)
        · exact q
        · exact absurd q.1 ei
        · exact absurd q.1 ej
theorem s_Frame_choose2 (G : zG) (σ : zSt) (a b i j : Nat) (ha : a < 12) (hb : b < 12) (hi : i < 12) (hj : j < 12) (h1 : σ 9 a = nI i) (h2 : σ 9 b = nI j) : zV G 0 M_Frame_choose [zf G 3, .int (nI a), .int (nI b)] σ (fun τ => zFr [3, 14, 15] σ τ ∧ τ 3 0 = σ 3 0 ∧ τ 3 1 = σ 3 1 + 1 ∧ τ 15 = upd (upd (σ 15) i (σ 15 i ||| ((1 : Int32) <<< (nI j &&& 31)))) j (upd (σ 15) i (σ 15 i ||| ((1 : Int32) <<< (nI j &&& 31))) j ||| ((1 : Int32) <<< (nI i &&& 31))) ∧ τ 14 = upd (upd (σ 14) a (σ 14 a ||| ((1 : Int32) <<< (nI b &&& 31)))) b (upd (σ 14) a (σ 14 a ||| ((1 : Int32) <<< (nI b &&& 31))) b ||| ((1 : Int32) <<< (nI a &&& 31)))) := by
  refine zSpec.of (by decide) (Nat.le_of_ble_eq_true rfl) rfl (fun X E => ?_)
  have ia : vp_in (nI a) 12 := vp_in_nI ha (by decide)
  have ib : vp_in (nI b) 12 := vp_in_nI hb (by decide)
  have ii : vp_in (nI i) 12 := vp_in_nI hi (by decide)
  have ij : vp_in (nI j) 12 := vp_in_nI hj (by decide)
  have ca : (nI a).toNatClampNeg = a := nI_clamp (by omega)
  have cb : (nI b).toNatClampNeg = b := nI_clamp (by omega)
  have ci : (nI i).toNatClampNeg = i := nI_clamp (by omega)
  have cj : (nI j).toNatClampNeg = j := nI_clamp (by omega)
  refine b_Frame_choose_0 E (nI a) (nI b) σ ?_
  rw [ca, cb, h1, h2, ci]
  refine ⟨ia, ii, ib, ii, fun σ1 e1 => ?_⟩
  have k1 : σ1 9 = σ 9 := by rw [e1, zup_ne (by decide)]
  rw [k1, h1, h2, cj]
  refine ⟨ib, ij, ia, ij, fun σ2 e2 => ⟨ia, ia, fun σ3 e3 => ⟨ib, ib, fun σ4 e4 σ5 e5 => ⟨rfl, ?_, ?_, ?_, ?_, ?_⟩⟩⟩⟩
  · rw [e5, e4, e3, e2, e1]
    exact ((((zFr.rf.up (by decide)).up (by decide)).up (by decide)).up (by decide)).up (by decide)
  · rw [e5, zup_self, upd_ne (by decide), e4, zup_ne (by decide), e3, zup_ne (by decide), e2, zup_ne (by decide), e1, zup_ne (by decide)]
  · rw [e5, zup_self, upd_eq, e4, zup_ne (by decide), e3, zup_ne (by decide), e2, zup_ne (by decide), e1, zup_ne (by decide)]
  · rw [e5, zup_ne (by decide), e4, zup_ne (by decide), e3, zup_ne (by decide), e2, zup_self, e1, zup_self]
  · rw [e5, zup_ne (by decide), e4, zup_self, e3, zup_self, e2, zup_ne (by decide), e1, zup_ne (by decide)]
/-- the links before a, b have been looked at -/
def CHI (σ τ : zSt) (n : Nat) (lk : Nat → Nat → Bool) (L : Nat → Nat) (a b : Nat) : Prop :=
  zFr [3, 14, 15] σ τ ∧ τ 3 0 = σ 3 0 ∧ τ 3 1 = nI (cA n lk L a + cR n lk L a b)
  ∧ (∀ x y, x < 12 → y < 32 → (zIn (τ 15 x) (nI y) = true ↔ jnd n lk L a b x y))
  ∧ (∀ x y, x < 12 → y < 32 → (zIn (τ 14 x) (nI y) = true ↔ x < n ∧ y < n ∧ chP n lk L a b x y))
set_option maxHeartbeats 1000000 in
theorem s_Frame_chooseLinks2 (G : zG) (σ : zSt) (n : Nat) (lk : Nat → Nat → Bool) (L : Nat → Nat) (hn : σ 2 0 = nI n) (hle : n ≤ 12) (hL : ∀ c, c < n → σ 9 c = nI (L c) ∧ L c < n) (hlk : ∀ a b, a < n → b < n → zIn (σ 7 a) (nI b) = lk a b) (h0 : ∀ c, c < 12 → σ 14 c = 0 ∧ σ 15 c = 0) (h31 : σ 3 1 = 0) : zV G 1 M_Frame_chooseLinks [zf G 3, zf G 2] σ (fun τ => CHI σ τ n lk L n (n + 1)) := by
  refine zSpec.of (by decide) (Nat.le_of_ble_eq_true rfl) rfl (fun X E => ?_)
  refine b_Frame_chooseLinks_0 E σ ?_
  have s0 : CHI σ σ n lk L 0 1 := by
    refine ⟨zFr.rf, rfl, ?_, fun x y hx hy => ?_, fun x y hx hy => ?_⟩
    · rw [cR_0 1 (by omega)]; exact h31
    · rw [(h0 x hx).2, zIn_0 hy]
      exact ⟨fun q => absurd q (by decide), fun q => absurd q jnd_0⟩
    · rw [(h0 x hx).1, zIn_0 hy]
      exact ⟨fun q => absurd q (by decide), fun q => absurd q.2.2 chP_0⟩
  refine z_for n (fun a τ => zZ G M_Frame_chooseLinks 1 X (fun r τ => r = none ∧ CHI σ τ n lk L n (n + 1)) 2 [(0, zf G 3), (1, zf G 2), (2, .int (nI a))] [] τ) (fun a τ => CHI σ τ n lk L a (a + 1)) ?_ ?_ 0 σ (Nat.zero_le _) s0
  · intro a τ ha hI iha
    refine b_Frame_chooseLinks_2 E (nI a) τ ⟨fun q => absurd q (by rw [hI.1 2 (by decide), hn]; exact nI_ge ha (by omega)), fun _ => ?_⟩
    rw [nI_1]
    refine z_for n (fun b τ => zZ G M_Frame_chooseLinks 1 X (fun r τ => r = none ∧ CHI σ τ n lk L n (n + 1)) 14 [(0, zf G 3), (1, zf G 2), (2, .int (nI a)), (3, .int (nI b))] [] τ) (fun b τ => a < b ∧ CHI σ τ n lk L a b) ?_ ?_ (a + 1) τ (by omega) ⟨by omega, hI⟩
    · intro b τ hb ⟨hab, hF, c0, c1, hj, hp⟩ ihb
      have ia : vp_in (nI a) 12 := vp_in_nI (by omega) (by decide)
      have ib : vp_in (nI b) 12 := vp_in_nI (by omega) (by decide)
      have ca : (nI a).toNatClampNeg = a := nI_clamp (by omega)
      have cb : (nI b).toNatClampNeg = b := nI_clamp (by omega)
      have La : τ 9 a = nI (L a) := by rw [hF 9 (by decide)]; exact (hL a ha).1
      have Lb : τ 9 b = nI (L b) := by rw [hF 9 (by decide)]; exact (hL b hb).1
      have la := (hL a ha).2
      have lb := (hL b hb).2
      have iLa : vp_in (nI (L a)) 12 := vp_in_nI (by omega) (by decide)
      have cLa : (nI (L a)).toNatClampNeg = L a := nI_clamp (by omega)
      have n2 : τ 2 0 = nI n := by rw [hF 2 (by decide)]; exact hn
      have t7 : τ 7 = σ 7 := hF 7 (by decide)
      -- not chosen
      have no : ch1 n lk L a b = false → (∀ x y, (lk a b = true ∧ ¬ L a = L b ∧ ((L a = x ∧ L b = y) ∨ (L a = y ∧ L b = x))) → jnd n lk L a b x y) → zZ G M_Frame_chooseLinks 1 X (fun r τ => r = none ∧ CHI σ τ n lk L n (n + 1)) 14 [(0, zf G 3), (1, zf G 2), (2, .int (nI a)), (3, .int (nI b + 1))] [] τ := by
        intro hc hjn
        rw [nI_1]
        refine ihb τ ⟨by omega, hF, c0, ?_, fun x y hx hy => ?_, fun x y hx hy => ?_⟩
        · have : cR n lk L a (b + 1) = cR n lk L a b := by
            show cR n lk L a b + _ = _
            rw [if_neg (fun q => by rw [hc] at q; exact absurd q.2 (by decide))]; rfl
          rw [this]; exact c1
        · rw [hj x y hx hy, jnd_s ha hb hab]
          exact ⟨fun q => Or.inl q, fun q => q.elim id (hjn x y)⟩
        · rw [hp x y hx hy, chP_s hab]
          refine ⟨fun q => ⟨q.1, q.2.1, Or.inl q.2.2⟩, fun q => ⟨q.1, q.2.1, q.2.2.elim id (fun q => ?_)⟩⟩
          rw [hc] at q; exact absurd q.1 (by decide)
      refine b_Frame_chooseLinks_14 E (nI a) (nI b) τ ?_
      rw [ca, cb, La, Lb, cLa, n2, t7, hlk a b ha hb, nI_eq (a := L a) (b := L b) (by omega) (by omega)]
      refine ⟨fun q => absurd q (nI_ge hb (by omega)), fun _ => ⟨ia, ib, fun hl => no ?_ (fun x y q => absurd hl q.2.1), fun hl => ⟨ia, iLa, ib, fun hz => no ?_ (fun x y q => ?_), fun hz => ⟨ia, fun hk => no ?_ (fun x y q => ?_), fun hk => ⟨_, s_Frame_choose2 G τ a b (L a) (L b) (by omega) (by omega) (by omega) (by omega) La Lb, fun σ1 ⟨g1, g2, g3, g4, g5⟩ => ?_⟩⟩⟩⟩⟩
      · cases hc : ch1 n lk L a b with
        | false => rfl
        | true => exact absurd hl (ch1_iff.mp hc).2.1
      · cases hc : ch1 n lk L a b with
        | false => rfl
        | true =>
          have h1 := (ch1_iff.mp hc).2.2
          rw [(jnd_E hl).mp ((hj (L a) (L b) (by omega) (by omega)).mp hz)] at h1
          exact absurd h1 (by decide)
      · have h1 := (hj (L a) (L b) (by omega) (by omega)).mp hz
        rcases q.2.2 with ⟨p1, p2⟩ | ⟨p1, p2⟩
        · rw [← p1, ← p2]; exact h1
        · rw [← p1, ← p2]; exact jnd_c h1
      · cases hc : ch1 n lk L a b with
        | false => rfl
        | true =>
          have h1 := (ch1_iff.mp hc).1
          rw [hk] at h1; exact absurd h1 (by decide)
      · rw [hk] at q; exact absurd q.1 (by decide)
      · have hE : chE n lk L a b = false := by
          cases he : chE n lk L a b with
          | false => rfl
          | true =>
            have h1 := (hj (L a) (L b) (by omega) (by omega)).mpr ((jnd_E hl).mpr he)
            rw [hz] at h1; exact absurd h1 (by decide)
        have hc : ch1 n lk L a b = true := ch1_iff.mpr ⟨hk, hl, hE⟩
        rw [nI_1]
        refine ihb σ1 ⟨by omega, hF.tr g1, by rw [g2]; exact c0, ?_, fun x y hx hy => ?_, fun x y hx hy => ?_⟩
        · have : cR n lk L a (b + 1) = cR n lk L a b + 1 := by
            show cR n lk L a b + _ = _
            rw [if_pos ⟨hab, hc⟩]
          rw [g3, c1, this, nI_1, Nat.add_assoc]
        · rw [g4, two_bits (by omega) (by omega) hl hy, hj x y hx hy, jnd_s ha hb hab]
          refine or_congr Iff.rfl ⟨fun q => ⟨hk, hl, ?_⟩, fun q => ?_⟩
          · rcases q with ⟨p1, p2⟩ | ⟨p1, p2⟩
            · exact Or.inl ⟨p1.symm, p2.symm⟩
            · exact Or.inr ⟨p2.symm, p1.symm⟩
          · rcases q.2.2 with ⟨p1, p2⟩ | ⟨p1, p2⟩
            · exact Or.inl ⟨p1.symm, p2.symm⟩
            · exact Or.inr ⟨p2.symm, p1.symm⟩
        · rw [g5, two_bits (by omega) (by omega) (by omega) hy, hp x y hx hy, chP_s hab]
          constructor
          · rintro (q | q)
            · exact ⟨q.1, q.2.1, Or.inl q.2.2⟩
            · exact ⟨by omega, by omega, Or.inr ⟨hc, q⟩⟩
          · rintro ⟨q1, q2, q | q⟩
            · exact Or.inl ⟨q1, q2, q⟩
            · exact Or.inr q.2
    · intro τ ⟨_, hF, c0, c1, hj, hp⟩
      refine b_Frame_chooseLinks_14 E (nI a) (nI n) τ ⟨fun _ => ?_, fun q => absurd (by rw [hF 2 (by decide), hn]; exact nI_le (Nat.le_refl n) (by omega)) q⟩
      rw [nI_1]
      refine iha τ ⟨hF, c0, ?_, fun x y hx hy => (hj x y hx hy).trans jnd_r, fun x y hx hy => (hp x y hx hy).trans ⟨fun q => ⟨q.1, q.2.1, (chP_r q.1 q.2.1).mp q.2.2⟩, fun q => ⟨q.1, q.2.1, (chP_r q.1 q.2.1).mpr q.2.2⟩⟩⟩
      rw [cR_0 (a + 1 + 1) (by omega)]
      exact c1
  · intro τ hI
    exact b_Frame_chooseLinks_2 E (nI n) τ ⟨fun _ => ⟨rfl, hI⟩, fun q => absurd (by rw [hI.1 2 (by decide), hn]; exact nI_le (Nat.le_refl n) (by omega)) q⟩
end
section
-- The reference chooses links, exactly
/-- the links before a, b have been looked at -/
def MCI (σ τ : zSt) (n : Nat) (lk : Nat → Nat → Bool) (L : Nat → Nat) (a b : Nat) : Prop :=
  MF [44] [20] σ τ ∧ τ 32 20 = nI (cA n lk L a + cR n lk L a b) ∧ (∀ x y, x < n → y < n → (chP n lk L a b x y → τ 44 (12 * x + y) = 1) ∧ (¬ chP n lk L a b x y → τ 44 (12 * x + y) = 0))
set_option maxHeartbeats 1000000 in
theorem s_Mo_choose2 (G : zG) (σ : zSt) (n : Nat) (lk : Nat → Nat → Bool) (L : Nat → Nat) (hn : σ 32 0 = nI n) (hle : n ≤ 12) (hL : ∀ c, c < n → σ 42 c = nI (L c) ∧ L c < n) (hlk : ∀ a b, a < n → b < n → zLk σ (nI a) (nI b) = lk a b) (h44 : ∀ j, j < 144 → σ 44 j = 0) (h20 : σ 32 20 = 0) : zV G 1 M_Mo_choose [zf G 32] σ (fun τ => MCI σ τ n lk L n (n + 1)) := by
  refine zSpec.of (by decide) (Nat.le_of_ble_eq_true rfl) rfl (fun X E => ?_)
  refine b_Mo_choose_0 E σ ?_
  have s0 : MCI σ σ n lk L 0 1 := ⟨MF.rf, by rw [cR_0 1 (by omega)]; exact h20, fun x y hx hy => ⟨fun q => absurd q chP_0, fun _ => h44 _ (by omega)⟩⟩
  refine z_for n (fun a τ => zZ G M_Mo_choose 1 X (fun r τ => r = none ∧ MCI σ τ n lk L n (n + 1)) 2 [(0, zf G 32), (1, .int (nI a))] [] τ) (fun a τ => MCI σ τ n lk L a (a + 1)) ?_ ?_ 0 σ (Nat.zero_le _) s0
  · intro a τ ha hI iha
    refine b_Mo_choose_2 E (nI a) τ ⟨fun q => absurd q (by rw [hI.1.2 0 (by decide), hn]; exact nI_ge ha (by omega)), fun _ => ?_⟩
    rw [nI_1]
    refine z_for n (fun b τ => zZ G M_Mo_choose 1 X (fun r τ => r = none ∧ MCI σ τ n lk L n (n + 1)) 14 [(0, zf G 32), (1, .int (nI a)), (2, .int (nI b))] [] τ) (fun b τ => a < b ∧ MCI σ τ n lk L a b) ?_ ?_ (a + 1) τ (by omega) ⟨by omega, hI⟩
    · intro b τ hb ⟨hab, hF, hc, hp⟩ ihb
      have ia : vp_in (nI a) 12 := vp_in_nI (by omega) (by decide)
      have ib : vp_in (nI b) 12 := vp_in_nI (by omega) (by decide)
      have ca : (nI a).toNatClampNeg = a := nI_clamp (by omega)
      have cb : (nI b).toNatClampNeg = b := nI_clamp (by omega)
      have iab : vp_in (((12 : Int32) * nI a) + nI b) 144 := by rw [zi12']; exact vp_in_nI (by omega) (by decide)
      have iba : vp_in (((12 : Int32) * nI b) + nI a) 144 := by rw [zi12']; exact vp_in_nI (by omega) (by decide)
      have cab : (((12 : Int32) * nI a) + nI b).toNatClampNeg = 12 * a + b := by rw [zi12']; exact nI_clamp (by omega)
      have cba : (((12 : Int32) * nI b) + nI a).toNatClampNeg = 12 * b + a := by rw [zi12']; exact nI_clamp (by omega)
      have nt : τ 32 0 = nI n := by rw [hF.2 0 (by decide)]; exact hn
      have e42 : τ 42 = σ 42 := hF.at (by decide)
      have elk : ∀ x y, x < n → y < n → zLk τ (nI x) (nI y) = lk x y := fun x y hx hy => by
        rw [← hlk x y hx hy]; unfold zLk; rw [hF.at (c := 33) (by decide)]
      have lA := (hL a ha)
      have lB := (hL b hb)
      -- what was found is written down
      have fin : ∀ (f : Int32), ((f = 0 ∧ ch1 n lk L a b = false) ∨ (f = 1 ∧ ch1 n lk L a b = true)) → ∀ (w : Int32) (σ1 σ2 σ3 : zSt), σ1 = zup τ 44 (((12 : Int32) * nI a) + nI b).toNatClampNeg (vp_nar .boolean f) → σ2 = zup σ1 44 (((12 : Int32) * nI b) + nI a).toNatClampNeg (vp_nar .boolean f) → σ3 = zup σ2 32 20 (σ2 32 20 + w) → w = f → zZ G M_Mo_choose 1 X (fun r τ => r = none ∧ MCI σ τ n lk L n (n + 1)) 14 [(0, zf G 32), (1, .int (nI a)), (2, .int (nI b + 1))] [] σ3 := by
        intro f hf w σ1 σ2 σ3 e1 e2 e3 hw
        rw [cab] at e1
        rw [cba] at e2
        have hnar : vp_nar .boolean f = f := by rcases hf with ⟨h, _⟩ | ⟨h, _⟩ <;> rw [h] <;> decide
        rw [hnar] at e1 e2
        rw [nI_1]
        have e44 : σ3 44 = upd (upd (τ 44) (12 * a + b) f) (12 * b + a) f := by rw [e3, zup_ne (by decide), e2, zup_self, e1, zup_self]
        refine ihb σ3 ⟨by omega, ?_, ?_, fun x y hx hy => ?_⟩
        · rw [e3, e2, e1]
          exact ((hF.up (by decide) (by decide)).up (by decide) (by decide)).fld (by decide)
        · have q : σ2 32 20 = nI (cA n lk L a + cR n lk L a b) := by rw [e2, zup_ne (by decide), e1, zup_ne (by decide)]; exact hc
          rw [e3, zup_self, upd_eq, q, hw]
          show _ = nI (cA n lk L a + (cR n lk L a b + _))
          rcases hf with ⟨h, h2⟩ | ⟨h, h2⟩
          · rw [h, if_neg (fun q => by rw [h2] at q; exact absurd q.2 (by decide)), Int32.add_zero, Nat.add_zero]
          · rw [h, if_pos ⟨hab, h2⟩, nI_1, Nat.add_assoc]
        · rw [e44, chP_s hab]
          by_cases k2 : 12 * x + y = 12 * b + a
          · have x1 : x = b := by omega
            have x2 : y = a := by omega
            rw [k2, upd_eq]
            rcases hf with ⟨h, h2⟩ | ⟨h, h2⟩
            · rw [h]
              refine ⟨fun q => ?_, fun _ => rfl⟩
              exfalso
              rcases q with q | q
              · unfold chP chB at q
                rw [x1, x2, if_neg (by omega), if_pos hab, h2] at q
                exact absurd q.1 (by decide)
              · rw [h2] at q; exact absurd q.1 (by decide)
            · rw [h]
              exact ⟨fun _ => rfl, fun q => absurd (Or.inr ⟨h2, Or.inr ⟨x1, x2⟩⟩) q⟩
          · rw [upd_ne k2]
            by_cases k1 : 12 * x + y = 12 * a + b
            · have x1 : x = a := by omega
              have x2 : y = b := by omega
              rw [k1, upd_eq]
              rcases hf with ⟨h, h2⟩ | ⟨h, h2⟩
              · rw [h]
                refine ⟨fun q => ?_, fun _ => rfl⟩
                exfalso
                rcases q with q | q
                · unfold chP chB at q
                  rw [x1, x2, if_pos hab, h2] at q
                  exact absurd q.1 (by decide)
                · rw [h2] at q; exact absurd q.1 (by decide)
              · rw [h]
                exact ⟨fun _ => rfl, fun q => absurd (Or.inr ⟨h2, Or.inl ⟨x1, x2⟩⟩) q⟩
            · rw [upd_ne k1]
              obtain ⟨p1, p2⟩ := hp x y hx hy
              refine ⟨fun q => p1 (q.elim id (fun q => ?_)), fun q => p2 (fun q2 => q (Or.inl q2))⟩
              exfalso
              rcases q.2 with q | q
              · exact k1 (by rw [q.1, q.2])
              · exact k2 (by rw [q.1, q.2])
      have fin2 : ∀ (f : Int32), ((f = 0 ∧ ch1 n lk L a b = false) ∨ (f = 1 ∧ ch1 n lk L a b = true)) → (vp_in (((12 : Int32) * nI a) + nI b) 144 ∧ ∀ σ1 : zSt, σ1 = zup τ 44 (((12 : Int32) * nI a) + nI b).toNatClampNeg (vp_nar .boolean f) → (vp_in (((12 : Int32) * nI b) + nI a) 144 ∧ ∀ σ2 : zSt, σ2 = zup σ1 44 (((12 : Int32) * nI b) + nI a).toNatClampNeg (vp_nar .boolean f) → ((f = 0 → (∀ σ3 : zSt, σ3 = zup σ2 32 20 ((σ2 32 20) + (0 : Int32)) → zZ G M_Mo_choose 1 X (fun r τ => r = none ∧ MCI σ τ n lk L n (n + 1)) 14 [(0, zf G 32), (1, .int (nI a)), (2, .int (nI b + 1))] [] σ3)) ∧ (¬ f = 0 → (∀ σ4 : zSt, σ4 = zup σ2 32 20 ((σ2 32 20) + (1 : Int32)) → zZ G M_Mo_choose 1 X (fun r τ => r = none ∧ MCI σ τ n lk L n (n + 1)) 14 [(0, zf G 32), (1, .int (nI a)), (2, .int (nI b + 1))] [] σ4))))) := by
        intro f hf
        refine ⟨iab, fun σ1 e1 => ⟨iba, fun σ2 e2 => ⟨fun h0 σ3 e3 => fin f hf 0 σ1 σ2 σ3 e1 e2 e3 h0.symm, fun h0 σ3 e3 => fin f hf 1 σ1 σ2 σ3 e1 e2 e3 ?_⟩⟩⟩
        rcases hf with ⟨h, _⟩ | ⟨h, _⟩
        · exact absurd h h0
        · exact h.symm
      -- the loops that ask whether the link is the first
      have ask : ∀ (f : Int32), ((f = 0 ∧ ch1 n lk L a b = false) ∨ (f = 1 ∧ lk a b = true ∧ ¬ L a = L b)) → zZ G M_Mo_choose 1 X (fun r τ => r = none ∧ MCI σ τ n lk L n (n + 1)) 55 [(0, zf G 32), (1, .int (nI a)), (2, .int (nI b)), (3, .int f), (4, .int (0 : Int32))] [] τ := by
        intro f hf0
        refine z_for n (fun i (f : Int32) => zZ G M_Mo_choose 1 X (fun r τ => r = none ∧ MCI σ τ n lk L n (n + 1)) 55 [(0, zf G 32), (1, .int (nI a)), (2, .int (nI b)), (3, .int f), (4, .int (nI i))] [] τ) (fun c f => (f = 0 ∧ ch1 n lk L a b = false) ∨ (f = 1 ∧ lk a b = true ∧ ¬ L a = L b ∧ ∀ c' d', c' < c → d' < n → eqP lk L a b c' d' = false)) ?_ ?_ 0 f (Nat.zero_le _) (hf0.imp id (fun h => ⟨h.1, h.2.1, h.2.2, fun c' d' h => absurd h (Nat.not_lt_zero c')⟩))
        · intro c f hc hf ihc
          have ic : vp_in (nI c) 12 := vp_in_nI (by omega) (by decide)
          have cc : (nI c).toNatClampNeg = c := nI_clamp (by omega)
          refine b_Mo_choose_55 E (nI a) (nI b) f (nI c) τ ⟨fun q => absurd q (by rw [nt]; exact nI_ge hc (by omega)), fun _ => ⟨fun h0 => ?_, fun h0 => ?_⟩⟩
          · rcases hf with hf | hf
            · exact fin2 f (Or.inl hf)
            · rw [hf.1] at h0; exact absurd h0 (by decide)
          rw [nI_1]
          refine z_for n (fun i (f : Int32) => zZ G M_Mo_choose 1 X (fun r τ => r = none ∧ MCI σ τ n lk L n (n + 1)) 74 [(0, zf G 32), (1, .int (nI a)), (2, .int (nI b)), (3, .int f), (4, .int (nI c)), (5, .int (nI i))] [] τ) (fun d f => c < d ∧ ((f = 0 ∧ ch1 n lk L a b = false) ∨ (f = 1 ∧ lk a b = true ∧ ¬ L a = L b ∧ (∀ c' d', c' < c → d' < n → eqP lk L a b c' d' = false) ∧ ∀ d', d' < d → eqP lk L a b c d' = false))) ?_ ?_ (c + 1) f (by omega) ⟨by omega, hf.imp id (fun h => ⟨h.1, h.2.1, h.2.2.1, h.2.2.2, fun d' hd' => ?_⟩)⟩
          · intro d f hd ⟨hcd, hf⟩ ihd
            have id : vp_in (nI d) 12 := vp_in_nI (by omega) (by decide)
            have cd : (nI d).toNatClampNeg = d := nI_clamp (by omega)
            have n0 : f = 0 → zZ G M_Mo_choose 1 X (fun r τ => r = none ∧ MCI σ τ n lk L n (n + 1)) 74 [(0, zf G 32), (1, .int (nI a)), (2, .int (nI b)), (3, .int (0 : Int32)), (4, .int (nI c)), (5, .int (nI d + 1))] [] τ := fun h => by
              rw [nI_1]
              refine ihd 0 ⟨by omega, Or.inl ⟨rfl, ?_⟩⟩
              rcases hf with hf | hf
              · exact hf.2
              · rw [hf.1] at h; exact absurd h (by decide)
            have n1 : ¬ f = 0 → eqP lk L a b c d = false → zZ G M_Mo_choose 1 X (fun r τ => r = none ∧ MCI σ τ n lk L n (n + 1)) 74 [(0, zf G 32), (1, .int (nI a)), (2, .int (nI b)), (3, .int (1 : Int32)), (4, .int (nI c)), (5, .int (nI d + 1))] [] τ := fun h he => by
              rw [nI_1]
              rcases hf with hf | ⟨_, h2, h3, h4, h5⟩
              · exact absurd hf.1 h
              · refine ihd 1 ⟨by omega, Or.inr ⟨rfl, h2, h3, h4, fun d' hd' => ?_⟩⟩
                by_cases e : d' = d
                · rw [e]; exact he
                · exact h5 d' (by omega)
            have nE : eqP lk L a b c d = true → zZ G M_Mo_choose 1 X (fun r τ => r = none ∧ MCI σ τ n lk L n (n + 1)) 74 [(0, zf G 32), (1, .int (nI a)), (2, .int (nI b)), (3, .int (0 : Int32)), (4, .int (nI c)), (5, .int (nI d + 1))] [] τ := fun he => by
              rw [nI_1]
              refine ihd 0 ⟨by omega, Or.inl ⟨rfl, ?_⟩⟩
              cases hx : ch1 n lk L a b with
              | false => rfl
              | true =>
                have h1 := (ch1_iff.mp hx).2.2
                rw [chE_iff.mpr ⟨c, d, hc, hd, he⟩] at h1
                exact absurd h1 (by decide)
            have noe : ¬ (lk c d = true ∧ c < d ∧ (c < a ∨ (c = a ∧ d < b)) ∧ ((L c = L a ∧ L d = L b) ∨ (L c = L b ∧ L d = L a))) → eqP lk L a b c d = false := fun h => by
              cases hx : eqP lk L a b c d with
              | false => rfl
              | true => exact absurd (eqP_iff.mp hx) h
            -- the question whether c, d is before a, b
            have tail : c < d → ∀ g : Int32, (g = 0 → ¬ ((L c = L a ∧ L d = L b) ∨ (L c = L b ∧ L d = L a))) → (¬ g = 0 → ((L c = L a ∧ L d = L b) ∨ (L c = L b ∧ L d = L a))) → zZ G M_Mo_choose 1 X (fun r τ => r = none ∧ MCI σ τ n lk L n (n + 1)) 154 [(0, zf G 32), (1, .int (nI a)), (2, .int (nI b)), (3, .int f), (4, .int (nI c)), (5, .int (nI d)), (6, .int g)] [] τ := by
              intro hcd g hg0 hg1
              refine b_Mo_choose_154 E (nI a) (nI b) f (nI c) (nI d) g τ ?_
              rw [elk c d hc hd, nI_ltI (a := c) (b := a) (by omega) (by omega), nI_eq (a := c) (b := a) (by omega) (by omega), nI_ltI (a := d) (b := b) (by omega) (by omega)]
              exact ⟨n0, fun h => ⟨by rw [zi12']; exact vp_in_nI (by omega) (by decide), fun hl => n1 h (noe (fun q => by rw [hl] at q; exact absurd q.1 (by decide))), fun hl => ⟨fun h6 => n1 h (noe (fun q => hg0 h6 q.2.2.2)), fun h6 => ⟨fun hca => nE (eqP_iff.mpr ⟨hl, hcd, Or.inl hca, hg1 h6⟩), fun hca => ⟨fun hne => n1 h (noe (fun q => q.2.2.1.elim hca (fun q => hne q.1))), fun he => ⟨fun hdb => nE (eqP_iff.mpr ⟨hl, hcd, Or.inr ⟨he, hdb⟩, hg1 h6⟩), fun hdb => n1 h (noe (fun q => q.2.2.1.elim hca (fun q => hdb q.2)))⟩⟩⟩⟩⟩⟩
            have lC := hL c hc
            have lD := hL d hd
            refine b_Mo_choose_74 E (nI a) (nI b) f (nI c) (nI d) τ ?_
            rw [ca, cb, cc, cd, e42, lA.1, lB.1, lC.1, lD.1, nt, nI_eq (a := L c) (b := L a) (by omega) (by omega), nI_eq (a := L c) (b := L b) (by omega) (by omega), nI_eq (a := L d) (b := L a) (by omega) (by omega), nI_eq (a := L d) (b := L b) (by omega) (by omega)]
            refine ⟨fun q => absurd q (nI_ge hd (by omega)), fun _ => ⟨ic, ia, fun k1 => ⟨ic, ib, fun k2 => tail hcd 0 (fun _ q => q.elim (fun q => k1 q.1) (fun q => k2 q.1)) (fun q => absurd rfl q), fun k2 => ⟨id, ia, fun k3 => tail hcd 0 (fun _ q => q.elim (fun q => k1 q.1) (fun q => k3 q.2)) (fun q => absurd rfl q), fun k3 => tail hcd 1 (fun q => absurd q (by decide)) (fun _ => Or.inr ⟨k2, k3⟩)⟩⟩, fun k1 => ⟨id, ib, fun k2 => tail hcd 1 (fun q => absurd q (by decide)) (fun _ => Or.inl ⟨k1, k2⟩), fun k2 => ⟨ic, ib, fun k3 => tail hcd 0 (fun _ q => q.elim (fun q => k2 q.2) (fun q => k3 q.1)) (fun q => absurd rfl q), fun k3 => ⟨id, ia, fun k4 => tail hcd 0 (fun _ q => q.elim (fun q => k2 q.2) (fun q => k4 q.2)) (fun q => absurd rfl q), fun k4 => tail hcd 1 (fun q => absurd q (by decide)) (fun _ => Or.inr ⟨k3, k4⟩)⟩⟩⟩⟩⟩
          · intro f ⟨_, hf⟩
            refine b_Mo_choose_74 E (nI a) (nI b) f (nI c) (nI n) τ ⟨fun _ => ?_, fun q => absurd (by rw [nt]; exact nI_le (Nat.le_refl n) (by omega)) q⟩
            rw [nI_1]
            refine ihc f (hf.imp id (fun h => ⟨h.1, h.2.1, h.2.2.1, fun c' d' hc' hd' => ?_⟩))
            by_cases e : c' = c
            · rw [e]; exact h.2.2.2.2 d' hd'
            · exact h.2.2.2.1 c' d' (by omega) hd'
          · cases hx : eqP lk L a b c d' with
            | false => rfl
            | true =>
              have := (eqP_iff.mp hx).2.1
              omega
        · intro f hf
          refine b_Mo_choose_55 E (nI a) (nI b) f (nI n) τ ⟨fun _ => fin2 f (hf.imp id (fun h => ⟨h.1, ch1_iff.mpr ⟨h.2.1, h.2.2.1, ?_⟩⟩)), fun q => absurd (by rw [nt]; exact nI_le (Nat.le_refl n) (by omega)) q⟩
          cases hx : chE n lk L a b with
          | false => rfl
          | true =>
            obtain ⟨c, d, hc, hd, q⟩ := chE_iff.mp hx
            rw [h.2.2.2 c d hc hd] at q
            exact absurd q (by decide)
      refine b_Mo_choose_14 E (nI a) (nI b) τ ?_
      rw [ca, cb, e42, lA.1, lB.1, nt, elk a b ha hb, nI_eq (a := L a) (b := L b) (by omega) (by omega)]
      refine ⟨fun q => absurd q (nI_ge hb (by omega)), fun _ => ⟨iab, fun hl => ask 0 (Or.inl ⟨rfl, ?_⟩), fun hl => ⟨ia, ib, fun hl2 => ask 0 (Or.inl ⟨rfl, ?_⟩), fun hl2 => ask 1 (Or.inr ⟨rfl, hl, hl2⟩)⟩⟩⟩
      · cases hx : ch1 n lk L a b with
        | false => rfl
        | true =>
          have h1 := (ch1_iff.mp hx).1
          rw [hl] at h1; exact absurd h1 (by decide)
      · cases hx : ch1 n lk L a b with
        | false => rfl
        | true => exact absurd hl2 (ch1_iff.mp hx).2.1
    · intro τ ⟨_, hF, hc, hp⟩
      refine b_Mo_choose_14 E (nI a) (nI n) τ ⟨fun _ => ?_, fun q => absurd (by rw [hF.2 0 (by decide), hn]; exact nI_le (Nat.le_refl n) (by omega)) q⟩
      rw [nI_1]
      refine iha τ ⟨hF, ?_, fun x y hx hy => ⟨fun q => (hp x y hx hy).1 ((chP_r hx hy).mpr q), fun q => (hp x y hx hy).2 (fun q2 => q ((chP_r hx hy).mp q2))⟩⟩
      rw [cR_0 (a + 1 + 1) (by omega)]
      exact hc
  · intro τ hI
    exact b_Mo_choose_2 E (nI n) τ ⟨fun _ => ⟨rfl, hI⟩, fun q => absurd (by rw [hI.1.2 0 (by decide), hn]; exact nI_le (Nat.le_refl n) (by omega)) q⟩
end
section
-- The reference's clusters, exactly
theorem bit_of {s : Int32} {c : Nat} : ((s >>> (nI c &&& 31)) &&& (1 : Int32)) = if zIn s (nI c) = true then 1 else 0 := by
  obtain ⟨j, hj, e⟩ := pk_andE (s >>> (nI c &&& 31)) (m := 1) 1 (by decide)
  have hj : j = 0 ∨ j = 1 := by omega
  rcases hj with rfl | rfl
  · rw [zIn_f e, e]; rfl
  · rw [zIn_t e, e]; rfl
theorem s_Mo_bits2 (G : zG) (σ : zSt) (n : Nat) (s : Int32) (hn : σ 32 0 = nI n) (hle : n ≤ 12) : zI G 0 M_Mo_bits [zf G 32, .int s] σ (fun x τ => x = nI (bN s n) ∧ τ = σ) := by
  refine zSpec.of (by decide) (Nat.le_of_ble_eq_true rfl) rfl (fun X E => ?_)
  refine b_Mo_bits_0 E s σ ?_
  refine z_for n (fun i (x : Int32) => zZ G M_Mo_bits 0 X (fun r τ => ∃ x : Int32, r = some (.int x) ∧ x = nI (bN s n) ∧ τ = σ) 4 [(0, zf G 32), (1, .int s), (2, .int x), (3, .int (nI i))] [] σ) (fun i x => x = nI (bN s i)) ?_ ?_ 0 _ (Nat.zero_le _) rfl
  · intro i x hi hI ih
    refine b_Mo_bits_4 E s x (nI i) σ ⟨fun q => absurd q (by rw [hn]; exact nI_ge hi (by omega)), fun _ => ?_⟩
    rw [nI_1, bit_of]
    refine ih _ ?_
    show _ = nI (bN s i + _)
    rw [hI]
    split
    · exact nI_1 _
    · rw [Int32.add_zero, Nat.add_zero]
  · intro x hI
    exact b_Mo_bits_4 E s x (nI n) σ ⟨fun _ => ⟨_, rfl, hI, rfl⟩, fun q => absurd (by rw [hn]; exact nI_le (Nat.le_refl n) (by omega)) q⟩
theorem s_Mo_around2 (G : zG) (σ : zSt) (n : Nat) (s f : Int32) (lk : Nat → Nat → Bool) (hn : σ 32 0 = nI n) (hle : n ≤ 12) (hlk : ∀ a b, a < n → b < n → zLk σ (nI a) (nI b) = lk a b) : zI G 1 M_Mo_around [zf G 32, .int s, .int f] σ (fun x τ => x = ard n lk s &&& f ∧ τ = σ) := by
  refine zSpec.of (by decide) (Nat.le_of_ble_eq_true rfl) rfl (fun X E => ?_)
  refine b_Mo_around_0 E s f σ ?_
  refine z_for n (fun i (x : Int32) => zZ G M_Mo_around 1 X (fun r τ => ∃ x : Int32, r = some (.int x) ∧ x = ard n lk s &&& f ∧ τ = σ) 5 [(0, zf G 32), (1, .int s), (2, .int f), (3, .int x), (4, .int (nI i))] [] σ) (fun a x => ∀ c, c < 32 → (zIn x (nI c) = true ↔ c < n ∧ ∃ a', a' < a ∧ zIn s (nI a') = true ∧ lk a' c = true)) ?_ ?_ 0 _ (Nat.zero_le _) (fun c hc => ?_)
  · intro a x ha hI iha
    refine b_Mo_around_5 E s f x (nI a) σ ⟨fun q => absurd q (by rw [hn]; exact nI_ge ha (by omega)), fun _ => ?_⟩
    refine z_for n (fun i (x : Int32) => zZ G M_Mo_around 1 X (fun r τ => ∃ x : Int32, r = some (.int x) ∧ x = ard n lk s &&& f ∧ τ = σ) 17 [(0, zf G 32), (1, .int s), (2, .int f), (3, .int x), (4, .int (nI a)), (5, .int (nI i))] [] σ) (fun b x => ∀ c, c < 32 → (zIn x (nI c) = true ↔ c < n ∧ ((∃ a', a' < a ∧ zIn s (nI a') = true ∧ lk a' c = true) ∨ (c < b ∧ zIn s (nI a) = true ∧ lk a c = true)))) ?_ ?_ 0 x (Nat.zero_le _) (fun c hc => ?_)
    · intro b x hb hI ih
      have nx : ¬ (zIn s (nI a) = true ∧ lk a b = true) → zZ G M_Mo_around 1 X (fun r τ => ∃ x : Int32, r = some (.int x) ∧ x = ard n lk s &&& f ∧ τ = σ) 17 [(0, zf G 32), (1, .int s), (2, .int f), (3, .int x), (4, .int (nI a)), (5, .int (nI b + 1))] [] σ := by
        intro hno
        rw [nI_1]
        refine ih x (fun c hc => (hI c hc).trans (and_congr Iff.rfl (or_congr Iff.rfl ⟨fun q => ⟨by omega, q.2⟩, fun q => ⟨?_, q.2⟩⟩)))
        by_cases e : c = b
        · rw [e] at q; exact absurd q.2 hno
        · omega
      refine b_Mo_around_17 E s f x (nI a) (nI b) σ ?_
      rw [hlk a b ha hb]
      refine ⟨fun q => absurd q (by rw [hn]; exact nI_ge hb (by omega)), fun _ => ⟨fun hz => nx (fun q => ?_), fun hz => ⟨by rw [zi12']; exact vp_in_nI (by omega) (by decide), fun hl => nx (fun q => ?_), fun hl => ?_⟩⟩⟩
      · rw [zIn_nt hz] at q; exact absurd q.1 (by decide)
      · rw [hl] at q; exact absurd q.2 (by decide)
      · rw [nI_1]
        refine ih _ (fun c hc => ?_)
        rw [zIn_or _ _ hc, zIn_bit (by omega) hc, Bool.or_eq_true, decide_eq_true_eq, hI c hc]
        constructor
        · rintro (q | q)
          · exact ⟨q.1, q.2.imp id (fun q => ⟨by omega, q.2⟩)⟩
          · rw [q]; exact ⟨hb, Or.inr ⟨by omega, zIn_t hz, hl⟩⟩
        · rintro ⟨q1, q | q⟩
          · exact Or.inl ⟨q1, Or.inl q⟩
          · by_cases e : c = b
            · exact Or.inr e
            · exact Or.inl ⟨q1, Or.inr ⟨by omega, q.2⟩⟩
    · intro x hI
      refine b_Mo_around_17 E s f x (nI a) (nI n) σ ⟨fun _ => ?_, fun q => absurd (by rw [hn]; exact nI_le (Nat.le_refl n) (by omega)) q⟩
      rw [nI_1]
      refine iha x (fun c hc => (hI c hc).trans (and_congr_right (fun hcn => ⟨?_, ?_⟩)))
      · rintro (⟨a', h1, h2⟩ | ⟨_, h2⟩)
        · exact ⟨a', by omega, h2⟩
        · exact ⟨a, by omega, h2⟩
      · rintro ⟨a', h1, h2⟩
        by_cases e : a' = a
        · rw [e] at h2
          exact Or.inr ⟨hcn, h2⟩
        · exact Or.inl ⟨a', by omega, h2⟩
    · refine (hI c hc).trans (and_congr Iff.rfl ⟨fun q => Or.inl q, ?_⟩)
      rintro (q | q)
      · exact q
      · exact absurd q.1 (Nat.not_lt_zero c)
  · intro x hI
    refine b_Mo_around_5 E s f x (nI n) σ ⟨fun _ => ⟨_, rfl, ?_, rfl⟩, fun q => absurd (by rw [hn]; exact nI_le (Nat.le_refl n) (by omega)) q⟩
    have : x = ard n lk s := by
      refine in_ext (fun c hc => ?_)
      have h1 := hI c hc
      have h2 := ard_in (lk := lk) (set := s) hle hc
      cases h3 : zIn (ard n lk s) (nI c) with
      | true => exact h1.mpr (h2.mp h3)
      | false =>
        cases h4 : zIn x (nI c) with
        | false => rfl
        | true => rw [h2.mpr (h1.mp h4)] at h3; exact absurd h3 (by decide)
    rw [this]
  · rw [zIn_0 hc]
    exact ⟨fun q => absurd q (by decide), fun ⟨_, a', h, _⟩ => absurd h (Nat.not_lt_zero a')⟩
/-- the leader of a node -/
def Ldr (n : Nat) (lk : Nat → Nat → Bool) (k : Int32) (c : Nat) : Nat := (fi (fun j => ldI n lk k j && zIn (clI n lk k j) (nI c)) n).getD 0
theorem Ldr_of {n : Nat} {lk : Nat → Nat → Bool} {k : Int32} {j c : Nat} (hn : n ≤ 12) (hj : j < n) (hc : c < n) (hl : ldI n lk k j = true) (hz : zIn (clI n lk k j) (nI c) = true) : Ldr n lk k c = j := by
  unfold Ldr
  rw [fi_at (b := j) hj (by rw [hl, hz]; rfl) (fun i hi => ?_)]
  · rfl
  · cases h1 : ldI n lk k i with
    | false => rfl
    | true =>
      cases h2 : zIn (clI n lk k i) (nI c) with
      | false => rfl
      | true =>
        have := clI_one (by omega) (by omega) (by omega) h1 hl h2 hz
        omega
theorem Ldr_ok {n : Nat} {lk : Nat → Nat → Bool} {k : Int32} {c : Nat} (hn : n ≤ 12) (hc : c < n) : Ldr n lk k c < n ∧ ldI n lk k (Ldr n lk k c) = true ∧ zIn (clI n lk k (Ldr n lk k c)) (nI c) = true := by
  obtain ⟨j, hj, hl, hz⟩ := ld_ex (lk := lk) (k := k) hn hc
  rw [Ldr_of hn hj hc hl hz]
  exact ⟨hj, hl, hz⟩
def MMm (σ τ : zSt) (n : Nat) (lk : Nat → Nat → Bool) (k : Int32) (i : Nat) : Prop :=
  MF [41, 42, 43] [19] σ τ ∧ τ 32 19 = nI (cL n lk k i) ∧ (∀ j c, j < i → c < n → ldI n lk k j = true → zIn (clI n lk k j) (nI c) = true → τ 42 c = nI j ∧ τ 41 c = upE (tI2 n lk k j c))
def MCm (σ τ : zSt) (n : Nat) (lk : Nat → Nat → Bool) (k : Int32) : Prop :=
  MF [41, 42, 43, 44] [19, 20] σ τ ∧ τ 32 19 = nI (cL n lk k n) ∧ (∀ j c, j < n → c < n → ldI n lk k j = true → zIn (clI n lk k j) (nI c) = true → τ 42 c = nI j ∧ τ 41 c = upE (tI2 n lk k j c))
  ∧ τ 32 20 = nI (cA n lk (Ldr n lk k) n + cR n lk (Ldr n lk k) n (n + 1)) ∧ (∀ x y, x < n → y < n → (chP n lk (Ldr n lk k) n (n + 1) x y → τ 44 (12 * x + y) = 1) ∧ (¬ chP n lk (Ldr n lk k) n (n + 1) x y → τ 44 (12 * x + y) = 0))
theorem frI_0 {n : Nat} {lk : Nat → Nat → Bool} {k : Int32} {i : Nat} (h : frI n lk k i = 0) : ∀ j, i ≤ j → j < 12 → ldI n lk k j = false ∧ frI n lk k j = 0 ∧ cL n lk k j = cL n lk k i := by
  intro j
  induction j with
  | zero =>
    intro hi hj
    have e : i = 0 := by omega
    rw [e] at h ⊢
    exact ⟨by unfold ldI; rw [h]; exact zIn_0 (by omega), h, rfl⟩
  | succ j ih =>
    intro hi hj
    by_cases e : i = j + 1
    · rw [e] at h ⊢
      exact ⟨by unfold ldI; rw [h]; exact zIn_0 (by omega), h, rfl⟩
    · obtain ⟨h1, h2, h3⟩ := ih (by omega) (by omega)
      have h4 : frI n lk k (j + 1) = 0 := by rw [frI_n h1]; exact h2
      refine ⟨by unfold ldI; rw [h4]; exact zIn_0 (by omega), h4, ?_⟩
      show cL n lk k j + _ = _
      rw [if_neg (by rw [h1]; decide), Nat.add_zero]; exact h3
theorem frI_skip {n : Nat} {lk : Nat → Nat → Bool} {k : Int32} {i : Nat} : ∀ r, i ≤ r → (∀ c, i ≤ c → c < r → zIn (frI n lk k i) (nI c) = false) → frI n lk k r = frI n lk k i ∧ cL n lk k r = cL n lk k i ∧ ∀ c, i ≤ c → c < r → ldI n lk k c = false := by
  intro r
  induction r with
  | zero =>
    intro h _
    have e : i = 0 := by omega
    rw [e]; exact ⟨rfl, rfl, fun c _ h => absurd h (Nat.not_lt_zero c)⟩
  | succ r ih =>
    intro h hz
    by_cases e : i = r + 1
    · rw [e]; exact ⟨rfl, rfl, fun c h1 h2 => by omega⟩
    · obtain ⟨h1, h2, h3⟩ := ih (by omega) (fun c hc hcr => hz c hc (by omega))
      have hl : ldI n lk k r = false := by unfold ldI; rw [h1]; exact hz r (by omega) (by omega)
      refine ⟨by rw [frI_n hl]; exact h1, ?_, fun c hc hcr => ?_⟩
      · show cL n lk k r + _ = _
        rw [if_neg (by rw [hl]; decide), Nat.add_zero]; exact h2
      · by_cases e : c = r
        · rw [e]; exact hl
        · exact h3 c hc (by omega)
theorem hi0_frI {n : Nat} {lk : Nat → Nat → Bool} {k : Int32} (hn : n ≤ 12) : ∀ i, hi0 n (frI n lk k i) := by
  intro i
  induction i with
  | zero =>
    intro c h1 h2
    show zIn (zAll (nI n)) (nI c) = false
    rw [zIn_bt _ h2, zAll_in n (by omega) c h2]
    exact decide_eq_false (by omega)
  | succ i ih =>
    cases hl : ldI n lk k i with
    | true => rw [frI_y hl]; exact ih.and
    | false => rw [frI_n hl]; exact ih
theorem ne0_in {n : Nat} {x : Int32} (hx : hi0 n x) (h : ¬ x = 0) : ∃ c, c < n ∧ zIn x (nI c) = true := by
  apply Classical.byContradiction
  intro q
  apply h
  refine in_ext (fun c hc => ?_)
  rw [zIn_0 hc]
  by_cases hcn : c < n
  · cases hz : zIn x (nI c) with
    | false => rfl
    | true => exact absurd ⟨c, hcn, hz⟩ q
  · exact hx c (by omega) hc
theorem bN_pos {x : Int32} {c : Nat} : ∀ {n : Nat}, c < n → zIn x (nI c) = true → 1 ≤ bN x n := by
  intro n
  induction n with
  | zero => intro h; exact absurd h (Nat.not_lt_zero c)
  | succ n ih =>
    intro h hz
    show 1 ≤ bN x n + _
    by_cases e : c = n
    · rw [e] at hz; rw [if_pos hz]; omega
    · have := ih (by omega) hz
      omega
theorem bN_none {x : Int32} : ∀ {n : Nat}, (∀ c, c < n → zIn x (nI c) = false) → bN x n = 0 := by
  intro n
  induction n with
  | zero => intro _; rfl
  | succ n ih =>
    intro h
    show bN x n + _ = 0
    rw [ih (fun c hc => h c (by omega)), h n (by omega)]; rfl
set_option maxHeartbeats 1000000 in
theorem s_Mo_makeClusters2 (G : zG) (σ : zSt) (n K : Nat) (k : Int32) (lk : Nat → Nat → Bool) (hk : k = nI K) (hK1 : 2 ≤ K) (hK2 : K ≤ 8) (hn : σ 32 0 = nI n) (hle : n ≤ 12) (hlk : ∀ a b, a < n → b < n → zLk σ (nI a) (nI b) = lk a b) (h44 : ∀ j, j < 144 → σ 44 j = 0) (h20 : σ 32 20 = 0) : zV G 2 M_Mo_makeClusters [zf G 32, .int k] σ (fun τ => MCm σ τ n lk k) := by
  refine zSpec.of (by decide) (Nat.le_of_ble_eq_true rfl) rfl (fun X E => ?_)
  refine b_Mo_makeClusters_0 E k σ (fun σ0 e0 => ?_)
  have km : ∀ b, b ≤ 12 → (k - 1) * nI b = nI ((K - 1) * b) := fun b _ => by
    obtain ⟨j, rfl⟩ : ∃ j, K = j + 1 := ⟨K - 1, by omega⟩
    rw [hk, nI_pred, pk_mul]; rfl
  have nt : ∀ τ, MF [41, 42, 43] [19] σ τ → τ 32 0 = nI n := fun τ h => by rw [h.2 0 (by decide)]; exact hn
  have lt : ∀ τ, MF [41, 42, 43] [19] σ τ → ∀ a b, a < n → b < n → zLk τ (nI a) (nI b) = lk a b := fun τ h a b ha hb => by
    rw [← hlk a b ha hb]; unfold zLk; rw [h.at (c := 33) (by decide)]
  have main : ∀ (m i : Nat) (τ : zSt), n - i = m → i ≤ n → MMm σ τ n lk k i → zZ G M_Mo_makeClusters 2 X (fun r τ => r = none ∧ MCm σ τ n lk k) 14 [(0, zf G 32), (1, .int k), (2, .int (frI n lk k i))] [] τ := by
    intro m
    induction m using Nat.strongRecOn with
    | ind m IH =>
      intro i τ hm hin ⟨hF, hc, hcl⟩
      refine b_Mo_makeClusters_14 E k (frI n lk k i) τ ⟨fun hz => ?_, fun hne => ?_⟩
      · have all : ∀ j c, j < n → c < n → ldI n lk k j = true → zIn (clI n lk k j) (nI c) = true → τ 42 c = nI j ∧ τ 41 c = upE (tI2 n lk k j c) := by
          intro j c hj hc2 hl hzc
          refine hcl j c ?_ hc2 hl hzc
          rcases Nat.lt_or_ge j i with q | q
          · exact q
          · rw [(frI_0 hz j q (by omega)).1] at hl; exact absurd hl (by decide)
        have ec : cL n lk k n = cL n lk k i := by
          by_cases e : n = 12
          · rcases Nat.lt_or_ge i n with q | q
            · have h1 := frI_0 hz (n - 1) (by omega) (by omega)
              obtain ⟨n', hn'⟩ : ∃ n', n = n' + 1 := ⟨n - 1, by omega⟩
              have h2 : cL n lk k (n' + 1) = cL n lk k n' + (if ldI n lk k n' = true then 1 else 0) := rfl
              rw [show n - 1 = n' by omega] at h1
              rw [h1.1, if_neg (by decide), Nat.add_zero, h1.2.2] at h2
              rw [← hn'] at h2
              exact h2
            · rw [show i = n by omega]
          · exact (frI_0 hz n hin (by omega)).2.2
        refine ⟨_, s_Mo_choose2 G τ n lk (Ldr n lk k) (nt τ hF) hle (fun c hcn => ?_) (lt τ hF) (fun j hj => by rw [hF.at (by decide)]; exact h44 j hj) (by rw [hF.2 20 (by decide)]; exact h20), fun τ1 ⟨g1, g2, g3⟩ => ⟨rfl, (hF.mono (by decide) (by decide)).tr (g1.mono (by decide) (by decide)), ?_, fun j c hj hcn hl hzc => ?_, g2, g3⟩⟩
        · obtain ⟨q1, q2, q3⟩ := Ldr_ok (lk := lk) (k := k) hle hcn
          exact ⟨(all _ c q1 hcn q2 q3).1, q1⟩
        · rw [g1.2 19 (by decide), hc, ec]
        · rw [g1.at (c := 42) (by decide), g1.at (c := 41) (by decide)]; exact all j c hj hcn hl hzc
      -- the root: the least free node
      obtain ⟨b, hb, hzb⟩ := ne0_in (hi0_frI hle i) hne
      have found : ∀ r, r < n → zIn (frI n lk k i) (nI r) = true → (∀ c, c < r → zIn (frI n lk k i) (nI c) = false) → (∃ P : Int32 → zSt → Prop, zI G 1 M_Mo_around [zf G 32, .int ((1 : Int32) <<< (nI r &&& 31)), .int (frI n lk k i &&& (((1 : Int32) <<< (nI r &&& 31)) ^^^ (-1 : Int32)))] τ P ∧ ∀ (x2 : Int32) (σ1 : zSt), P x2 σ1 → zZ G M_Mo_makeClusters 2 X (fun r τ => r = none ∧ MCm σ τ n lk k) 55 [(0, zf G 32), (1, .int k), (2, .int (frI n lk k i &&& (((1 : Int32) <<< (nI r &&& 31)) ^^^ (-1 : Int32)))), (3, .int (nI r)), (4, .int ((1 : Int32) <<< (nI r &&& 31))), (5, .int x2)] [] σ1) := by
        intro r hr hzr hlow
        have hir : i ≤ r := by
          rcases Nat.lt_or_ge r i with q | q
          · rw [frI_past (by omega) q] at hzr; exact absurd hzr (by decide)
          · exact q
        obtain ⟨ef, ec, el⟩ := frI_skip (n := n) (lk := lk) (k := k) (i := i) r hir (fun c _ hcr => hlow c hcr)
        have hl : ldI n lk k r = true := by unfold ldI; rw [ef]; exact hzr
        -- the cluster is made: its tree
        have fin : ∀ fr2 : Int32, fr2 = frI n lk k i &&& (clI n lk k r ^^^ (-1 : Int32)) → (∃ P : zSt → Prop, zV G 1 M_Mo_tree [zf G 32, .int (nI r), .int (clI n lk k r)] τ P ∧ ∀ σ1 : zSt, P σ1 → (∀ σ2 : zSt, σ2 = zup σ1 32 19 ((σ1 32 19) + (1 : Int32)) → zZ G M_Mo_makeClusters 2 X (fun r τ => r = none ∧ MCm σ τ n lk k) 14 [(0, zf G 32), (1, .int k), (2, .int fr2)] [] σ2)) := by
          intro fr2 hfr
          refine ⟨_, s_Mo_tree2 G τ n r (clI n lk k r) lk (nt τ hF) hle hr (lt τ hF), fun σ1 ⟨g1, g2, g3, g4, g5⟩ σ2 e2 => ?_⟩
          have e1 : fr2 = frI n lk k (r + 1) := by rw [frI_y hl, ef]; exact hfr
          rw [e1]
          refine IH (n - (r + 1)) (by omega) (r + 1) σ2 rfl (by omega) ⟨?_, ?_, fun j c hj hcn hl2 hzc => ?_⟩
          · rw [e2]
            exact (hF.tr ((MF.of (J := [19]) g1 (by decide)).mono (by decide) (fun _ h => h))).fld (by decide)
          · rw [e2, zup_self, upd_eq, g1 32 (by decide), hc, ← ec]
            show nI (cL n lk k r) + 1 = nI (cL n lk k r + _)
            rw [if_pos hl, nI_1]
          · rw [e2, zup_ne (by decide), zup_ne (by decide)]
            by_cases e : j = r
            · rw [e] at hzc ⊢
              exact ⟨g2 c hcn hzc, (g4 c hcn hzc).2⟩
            · have hji : j < i := by
                rcases Nat.lt_or_ge j i with q | q
                · exact q
                · rw [el j q (by omega)] at hl2; exact absurd hl2 (by decide)
              have hno : ¬ (c < n ∧ zIn (clI n lk k r) (nI c) = true) := fun q => e (clI_one (by omega) (by omega) (by omega) hl2 hl hzc q.2)
              rw [g3 c hno, (g5 c hno).2]
              exact hcl j c hji hcn hl2 hzc
        -- a cluster is grown
        have grow : ∀ (t : Nat) (fr2 set near : Int32), co fr2 n ≤ t → fr2 = frI n lk k i &&& (set ^^^ (-1 : Int32)) → near = ard n lk set &&& fr2 → hi0 n set → zIn set (nI r) = true → clS n lk k (frI n lk k i) t set = clI n lk k r → zZ G M_Mo_makeClusters 2 X (fun r τ => r = none ∧ MCm σ τ n lk k) 55 [(0, zf G 32), (1, .int k), (2, .int fr2), (3, .int (nI r)), (4, .int set), (5, .int near)] [] τ := by
          intro t
          induction t with
          | zero =>
            intro fr2 set near hco hfr hnear hB hzr2 hcl2
            have hz : near = 0 := by
              refine in_ext (fun c hc => ?_)
              rw [zIn_0 hc]
              cases hz : zIn near (nI c) with
              | false => rfl
              | true =>
                exfalso
                rw [hnear, zIn_and _ _ hc, Bool.and_eq_true] at hz
                have hcn : c < n := by
                  rcases Nat.lt_or_ge c n with q | q
                  · exact q
                  · rw [hi0_ard hle c q hc] at hz; exact absurd hz.1 (by decide)
                have h1 := co_lt (s := fr2) (t := 0) (n := n) (b := c) (by omega) hcn (fun d hd q => by rw [zIn_0 (by omega)] at q; exact absurd q (by decide)) hz.2 (zIn_0 hc)
                omega
            have e : set = clI n lk k r := hcl2
            refine b_Mo_makeClusters_55 E k fr2 (nI r) set near τ ⟨fun _ => ?_, fun q => absurd hz q⟩
            rw [e]
            exact fin fr2 (by rw [hfr, e])
          | succ t ih =>
            intro fr2 set near hco hfr hnear hB hzr2 hcl2
            have hcf : clF n lk (frI n lk k i) set = near := by
              refine in_ext (fun c hc => ?_)
              unfold clF
              rw [hnear, hfr, zIn_and _ _ hc, zIn_and _ _ hc, zIn_and _ _ hc, zIn_and _ _ hc, Bool.and_assoc]
            have hBn : hi0 n near := by rw [hnear]; exact (hi0_ard hle).and
            have b1 : bN near n = bN near 12 := (bN_cut hle (fun c h1 h2 => hBn c h1 (by omega))).symm
            have b2 : bN set n = bN set 12 := (bN_cut hle (fun c h1 h2 => hB c h1 (by omega))).symm
            have s1 : 1 ≤ bN set 12 := bN_pos (c := r) (by omega) hzr2
            have s2 := bN_le set 12
            have hcl3 : (if (k - 1) * nI (bN set 12) ≤ nI (bN near 12) then clS n lk k (frI n lk k i) t (set ||| near) else set) = clI n lk k r := by
              rw [← hcf]; exact hcl2
            have stop : ¬ (k - 1) * nI (bN set 12) ≤ nI (bN near 12) → (∃ P : zSt → Prop, zV G 1 M_Mo_tree [zf G 32, .int (nI r), .int set] τ P ∧ ∀ σ1 : zSt, P σ1 → (∀ σ2 : zSt, σ2 = zup σ1 32 19 ((σ1 32 19) + (1 : Int32)) → zZ G M_Mo_makeClusters 2 X (fun r τ => r = none ∧ MCm σ τ n lk k) 14 [(0, zf G 32), (1, .int k), (2, .int fr2)] [] σ2)) := by
              intro h
              rw [if_neg h] at hcl3
              rw [hcl3]
              exact fin fr2 (by rw [hfr, hcl3])
            refine b_Mo_makeClusters_55 E k fr2 (nI r) set near τ ⟨fun hz => stop ?_, fun hne2 => ⟨_, s_Mo_bits2 G τ n near (nt τ hF) hle, fun x4 υ ⟨ex4, eυ⟩ => ?_⟩⟩
            · rw [hz, bN_none (fun c hc => zIn_0 (by omega)), km _ s2]
              refine nI_ge (a := 0) ?_ ?_
              · exact Nat.mul_pos (by omega) s1
              · have : (K - 1) * bN set 12 ≤ 7 * 12 := Nat.mul_le_mul (by omega) s2
                omega
            rw [eυ, ex4]
            refine ⟨_, s_Mo_bits2 G τ n set (nt τ hF) hle, fun x6 υ ⟨ex6, eυ⟩ => ?_⟩
            rw [eυ, ex6, b1, b2]
            refine ⟨fun hlt => stop (Int32.not_le.mpr hlt), fun hge => ?_⟩
            have hge := Int32.not_lt.mp hge
            rw [if_pos hge] at hcl3
            refine ⟨_, s_Mo_around2 G τ n (set ||| near) (fr2 &&& (near ^^^ (-1 : Int32))) lk (nt τ hF) hle (lt τ hF), fun x10 υ ⟨ex10, eυ⟩ => ?_⟩
            rw [eυ]
            obtain ⟨c0, hc0, hz0⟩ := ne0_in hBn hne2
            have hz1 : zIn fr2 (nI c0) = true := by
              have := hz0
              rw [hnear, zIn_and _ _ (by omega), Bool.and_eq_true] at this
              exact this.2
            have hdec : co (fr2 &&& (near ^^^ (-1 : Int32))) n < co fr2 n := by
              refine co_lt (b := c0) (by omega) hc0 (fun c hc h => ?_) hz1 ?_
              · rw [zIn_and _ _ (by omega), Bool.and_eq_true] at h; exact h.1
              · rw [zIn_and _ _ (by omega), zIn_not _ (by omega), hz0]; simp
            refine ih _ _ x10 (by omega) ?_ ex10 (hB.or hBn) (by rw [zIn_or _ _ (by omega), hzr2, Bool.true_or]) hcl3
            refine in_ext (fun c hc => ?_)
            rw [hfr, zIn_and _ _ hc, zIn_and _ _ hc, zIn_and _ _ hc, zIn_not _ hc, zIn_not _ hc, zIn_not _ hc, zIn_or _ _ hc]
            cases zIn (frI n lk k i) (nI c) <;> cases zIn set (nI c) <;> cases zIn near (nI c) <;> rfl
        refine ⟨_, s_Mo_around2 G τ n _ _ lk (nt τ hF) hle (lt τ hF), fun x υ ⟨ex, eυ⟩ => ?_⟩
        rw [eυ]
        refine grow n _ _ x ?_ rfl ex (hi0_bit hr hle) (by rw [zIn_bit (by omega) (by omega)]; exact decide_eq_true rfl) ?_
        · unfold co; omega
        · unfold clI; rw [ef]
      refine z_for b (fun j (_ : Unit) => zZ G M_Mo_makeClusters 2 X (fun r τ => r = none ∧ MCm σ τ n lk k) 20 [(0, zf G 32), (1, .int k), (2, .int (frI n lk k i)), (3, .int (nI j))] [] τ) (fun j _ => ∀ c, c < j → zIn (frI n lk k i) (nI c) = false) ?_ ?_ 0 () (Nat.zero_le _) (fun c hc => absurd hc (Nat.not_lt_zero c))
      · intro j _ hj hI ih
        refine b_Mo_makeClusters_20 E k (frI n lk k i) (nI j) τ ⟨fun hz => found j (by omega) (zIn_nf hz) hI, fun hz => ?_⟩
        rw [nI_1]
        refine ih () (fun c hc => ?_)
        by_cases e : c = j
        · rw [e]; exact zIn_f hz
        · exact hI c (by omega)
      · intro _ hI
        refine b_Mo_makeClusters_20 E k (frI n lk k i) (nI b) τ ⟨fun _ => found b hb hzb hI, fun hz => ?_⟩
        rw [zIn_f hz] at hzb; exact absurd hzb (by decide)
  have e1 : ((1 : Int32) <<< ((σ 32 0) &&& 31)) - (1 : Int32) = frI n lk k 0 := by rw [hn]; rfl
  rw [e1]
  refine main n 0 σ0 rfl (Nat.zero_le _) ⟨by rw [e0]; exact MF.rf.fld (by decide), by rw [e0, zup_self, upd_eq]; rfl, fun j c hj => absurd hj (Nat.not_lt_zero j)⟩
end
