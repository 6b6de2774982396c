-- come and flow on both sides
section FLW
variable (n R W p : Nat) (src : Int32) (mk : Nat → Int32) (len : Nat → Nat → Int32) (lk pa : Nat → Nat → Bool) (up : Nat → Option Nat)
/-- the letter at place i comes -/
def aHan1 (A : AS) (i : Nat) : AS := match (aL A)[i]? with
  | some x => aHandle n R W p src mk len lk pa up A i x.1.toNatClampNeg x.2.1.toNatClampNeg x.2.2.1.toNatClampNeg x.2.2.2.1.toNatClampNeg x.2.2.2.2
  | none => A
def kndA (A : AS) (i : Nat) : Int32 := match (aL A)[i]? with
  | some x => x.1
  | none => -1
/-- k letters come, as long as there are some -/
def aFlow : Nat → AS → Nat → AS
  | 0, A, _ => A
  | k + 1, A, z => if (aL A).length = 0 then A else aFlow k (aHan1 n R W p src mk len lk pa up A (z % (aL A).length)) ((69069 * z + 1) % 2147483648)
end FLW
section FLOW
variable {n R W p : Nat} {src : Int32} {mk : Nat → Int32} {len : Nat → Nat → Int32} {lk pa : Nat → Nat → Bool} {up : Nat → Option Nat} {ld : Nat → Nat} {A : AS}
theorem han1_of {i k f t q : Nat} {x : Int32} (hn : n ≤ 12) (hR : R ≤ 20) (hx : (aL A)[i]? = some (nI k, nI f, nI t, nI q, x)) (hk : k < 7) (hf : f < n) (ht : t < n) (hq : q ≤ R) : aHan1 n R W p src mk len lk pa up A i = aHandle n R W p src mk len lk pa up A i k f t q x ∧ kndA A i = nI k := by
  unfold aHan1 kndA
  rw [hx]
  dsimp only
  rw [nI_clamp (by omega), nI_clamp (by omega), nI_clamp (by omega), nI_clamp (by omega)]
  exact ⟨rfl, rfl⟩
theorem QR_han1 {i : Nat} (hn : n ≤ 12) (hR : R ≤ 20) (hR1 : 1 ≤ R) (hW : W ≤ 2) (hF : FRA n W lk pa up ld) (hM : MLB mk len) (h : QR n R W p lk pa up ld A) {k f t q : Nat} {x : Int32} (hk : k < 7) (hf : f < n) (ht : t < n) (hq1 : 1 ≤ q) (hqR : q ≤ R) (hx : (aL A)[i]? = some (nI k, nI f, nI t, nI q, x)) : QR n R W p lk pa up ld (aHan1 n R W p src mk len lk pa up A i) := by
  rw [(han1_of hn hR hx hk hf ht hqR).1]
  exact h.handle hn hR hR1 hW hF hM hk hf ht hq1 hqR hx
/-- what come and flow have of the class -/
def RC (σ : zSt) (n R W p : Nat) (src : Int32) (mk : Nat → Int32) (len : Nat → Nat → Int32) (lk pa : Nat → Nat → Bool) (up : Nat → Option Nat) (ld : Nat → Nat) (A : AS) : Prop := CT σ n R W p src mk len lk pa up ld ∧ FRA n W lk pa up ld ∧ MLB mk len ∧ CA σ n W pa up A ∧ QR n R W p lk pa up ld A
def RM (σ : zSt) (n R W p : Nat) (src : Int32) (mk : Nat → Int32) (len : Nat → Nat → Int32) (lk pa : Nat → Nat → Bool) (up : Nat → Option Nat) (ld : Nat → Nat) (A : AS) : Prop := MT σ n R W p src mk len lk pa up ∧ FRA n W lk pa up ld ∧ MA σ n A ∧ QR n R W p lk pa up ld A
theorem RUNP.rc {σ : zSt} (h : RUNP σ n R W p src mk len lk pa up ld A) : RC σ n R W p src mk len lk pa up ld A := ⟨h.1, h.2.2.1, h.2.1.mlb, h.2.2.2.1, h.2.2.2.2.2.1⟩
theorem RUNP.rm {σ τ : zSt} (h : RUNP σ n R W p src mk len lk pa up ld A) (e : ∀ c, 32 ≤ c → τ c = σ c) : RM τ n R W p src mk len lk pa up ld A := ⟨h.2.1.hi2 e, h.2.2.1, h.2.2.2.2.1.hi2 e, h.2.2.2.2.2.1⟩
def PCO (n R W p : Nat) (src : Int32) (mk : Nat → Int32) (len : Nat → Nat → Int32) (lk pa : Nat → Nat → Bool) (up : Nat → Option Nat) (ld : Nat → Nat) (A : AS) (σ : zSt) (v x : Int32) (τ : zSt) : Prop :=
  (x = -1 ∧ τ = σ ∧ (σ 0 1 = 0 ∨ v < 0 ∨ σ 5 0 ≤ v)) ∨ (¬ σ 0 1 = 0 ∧ ∃ i, i < (aL A).length ∧ v = nI i ∧ x = kndA A i ∧ RF FR σ τ ∧ CA τ n W pa up (aHan1 n R W p src mk len lk pa up A i) ∧ QR n R W p lk pa up ld (aHan1 n R W p src mk len lk pa up A i))
def MCO (n R W p : Nat) (src : Int32) (mk : Nat → Int32) (len : Nat → Nat → Int32) (lk pa : Nat → Nat → Bool) (up : Nat → Option Nat) (A : AS) (σ : zSt) (v x : Int32) (τ : zSt) : Prop :=
  (x = -1 ∧ τ = σ ∧ (σ 32 4 = 0 ∨ v < 0 ∨ ¬ v < σ 32 27)) ∨ (¬ σ 32 4 = 0 ∧ ∃ i, i < (aL A).length ∧ v = nI i ∧ x = kndA A i ∧ MF FHan [27, 29, 30] σ τ ∧ MA τ n (aHan1 n R W p src mk len lk pa up A i))
theorem e_P_come (G : zG) (σ : zSt) (v : Int32) (hP : ¬ σ 0 1 = 0 → RC σ n R W p src mk len lk pa up ld A) : zI G 7 M_P_come [zf G 0, .int v] σ (fun x τ => PCO n R W p src mk len lk pa up ld A σ v x τ) := by
  refine zSpec.of (by decide) (Nat.le_of_ble_eq_true rfl) rfl (fun X E => ?_)
  refine b_P_come_0 E v σ ⟨_, s_P_hasLetter G σ v, ?_⟩
  rintro b τ ⟨hb, e⟩
  rw [e]
  refine ⟨fun hf => ⟨_, rfl, Or.inl ⟨rfl, rfl, ?_⟩⟩, fun ht => ?_⟩
  · have hf := of_decide_eq_false (hb.symm.trans hf)
    by_cases q1 : σ 0 1 = 0
    · exact Or.inl q1
    · by_cases q2 : v < 0
      · exact Or.inr (Or.inl q2)
      · by_cases q3 : σ 5 0 ≤ v
        · exact Or.inr (Or.inr q3)
        · exact absurd ⟨q1, q2, q3⟩ hf
  · rw [hb] at ht
    have hs := (of_decide_eq_true ht).1
    obtain ⟨hT, hF, hM, hA, hQ⟩ := hP hs
    obtain ⟨i, hi, rfl⟩ := letter_of ht hA.2.1.1
    obtain ⟨⟨_, _, hn, _, hR1, hR, _, hW⟩, _⟩ := id hT
    refine ⟨_, s_Course_bring2 G σ i hT hF hM hA hQ hi, fun x τ ⟨k, f, t, q, z, hx, hk, hf, ht, hq1, hqR, hy, k1, k2⟩ => ⟨_, rfl, Or.inr ⟨hs, i, hi, rfl, ?_, k1, ?_, QR_han1 hn hR hR1 hW hF hM hQ hk hf ht hq1 hqR hx⟩⟩⟩
    · rw [(han1_of (W := W) (p := p) (src := src) (mk := mk) (len := len) (lk := lk) (pa := pa) (up := up) hn hR hx hk hf ht hqR).2]; exact hy
    · rw [(han1_of hn hR hx hk hf ht hqR).1]; exact k2
theorem e_Mo_come (G : zG) (σ : zSt) (v : Int32) (hP : ¬ σ 32 4 = 0 → RM σ n R W p src mk len lk pa up ld A) : zI G 5 M_Mo_come [zf G 32, .int v] σ (fun x τ => MCO n R W p src mk len lk pa up A σ v x τ) := by
  refine zSpec.of (by decide) (Nat.le_of_ble_eq_true rfl) rfl (fun X E => ?_)
  refine b_Mo_come_0 E v σ ⟨fun q => ⟨_, rfl, Or.inl ⟨rfl, rfl, Or.inl q⟩⟩, fun h4 => ⟨fun q => ⟨_, rfl, Or.inl ⟨rfl, rfl, Or.inr (Or.inl q)⟩⟩, fun h0 => ⟨fun hlt => ?_, fun q => ⟨_, rfl, Or.inl ⟨rfl, rfl, Or.inr (Or.inr q)⟩⟩⟩⟩⟩
  obtain ⟨hT, hF, hA, hQ⟩ := hP h4
  have hl := hA.2.1.1.2.1
  rw [hA.2.1.1.1] at hlt
  rcases pk_ix v (n := (aL A).length) (by omega) with q | q | ⟨i, hi, rfl⟩
  · exact absurd q h0
  · exact absurd hlt (Int32.not_lt.mpr q)
  · have hn : n ≤ 12 := hT.1.2.2.1
    have hR : R ≤ 20 := hT.1.2.2.2.2.2.1
    refine ⟨_, s_Mo_handle2 G σ i hT hF hA hQ hi, fun x τ ⟨k, f, t, q, z, hx, hk, hf, ht, hq1, hqR, hy, k1, k2⟩ => ⟨_, rfl, Or.inr ⟨h4, i, hi, rfl, ?_, k1, ?_⟩⟩⟩
    · rw [(han1_of (W := W) (p := p) (src := src) (mk := mk) (len := len) (lk := lk) (pa := pa) (up := up) hn hR hx hk hf ht hqR).2]; exact hy
    · rw [(han1_of hn hR hx hk hf ht hqR).1]; exact k2
def FB (m s : Int32) : Prop := m < 0 ∨ 3000 < m ∨ ¬ 0 ≤ s
def PFO (n R W p : Nat) (src : Int32) (mk : Nat → Int32) (len : Nat → Nat → Int32) (lk pa : Nat → Nat → Bool) (up : Nat → Option Nat) (ld : Nat → Nat) (A : AS) (σ : zSt) (m s : Int32) (τ : zSt) : Prop :=
  (τ = σ ∧ (σ 0 1 = 0 ∨ FB m s)) ∨ (¬ σ 0 1 = 0 ∧ ¬ FB m s ∧ RF FR σ τ ∧ ∃ k z, m = nI k ∧ k ≤ 3000 ∧ s = nI z ∧ z < 2 ^ 31 ∧ CA τ n W pa up (aFlow n R W p src mk len lk pa up k A z) ∧ QR n R W p lk pa up ld (aFlow n R W p src mk len lk pa up k A z))
def MFO (n R W p : Nat) (src : Int32) (mk : Nat → Int32) (len : Nat → Nat → Int32) (lk pa : Nat → Nat → Bool) (up : Nat → Option Nat) (A : AS) (σ : zSt) (m s : Int32) (τ : zSt) : Prop :=
  (τ = σ ∧ (σ 32 4 = 0 ∨ FB m s)) ∨ (¬ σ 32 4 = 0 ∧ ¬ FB m s ∧ MF FHan [27, 29, 30] σ τ ∧ ∃ k z, m = nI k ∧ k ≤ 3000 ∧ s = nI z ∧ z < 2 ^ 31 ∧ MA τ n (aFlow n R W p src mk len lk pa up k A z))
theorem aFlow_0 {k z : Nat} (h : (aL A).length = 0) : aFlow n R W p src mk len lk pa up k A z = A := by
  cases k with
  | zero => rfl
  | succ k => unfold aFlow; rw [if_pos h]
theorem aFlow_s {k z : Nat} (h : ¬ (aL A).length = 0) : aFlow n R W p src mk len lk pa up (k + 1) A z = aFlow n R W p src mk len lk pa up k (aHan1 n R W p src mk len lk pa up A (z % (aL A).length)) ((69069 * z + 1) % 2147483648) := if_neg h
set_option maxHeartbeats 1000000 in
theorem e_P_flow (G : zG) (σ : zSt) (m s : Int32) (hP : ¬ σ 0 1 = 0 → RC σ n R W p src mk len lk pa up ld A) : zI G 7 M_P_flow [zf G 0, .int m, .int s] σ (fun _ τ => PFO n R W p src mk len lk pa up ld A σ m s τ) := by
  refine zSpec.of (by decide) (Nat.le_of_ble_eq_true rfl) rfl (fun X E => ?_)
  have bad : (σ 0 1 = 0 ∨ FB m s) → ∀ y : Int32, ∃ x : Int32, some (Value.int y) = some (Value.int x) ∧ PFO n R W p src mk len lk pa up ld A σ m s σ := fun q y => ⟨_, rfl, Or.inl ⟨rfl, q⟩⟩
  refine b_P_flow_0 E m s σ ⟨fun q => bad (Or.inr (Or.inl q)) _, fun hm => ⟨fun q => bad (Or.inr (Or.inr (Or.inl q))) _, fun hm2 => ⟨fun hs => ?_, fun q => bad (Or.inr (Or.inr (Or.inr q))) _⟩⟩⟩
  have nfb : ¬ FB m s := fun q => by
    rcases q with q | q | q
    · exact hm q
    · exact hm2 q
    · exact q hs
  obtain ⟨k, hk, rfl⟩ := nI_of2 (M := 3000) (n := 3000) (by decide) hm (Int32.not_lt.mp hm2)
  obtain ⟨s0, hs0, rfl⟩ := nI_of (Int32.not_lt.mpr hs)
  by_cases hst : σ 0 1 = 0
  · refine b_P_flow_23 E (nI k) (nI s0).toInt64 0 σ ⟨fun _ => bad (Or.inl hst) _, fun _ => ⟨fun _ => bad (Or.inl hst) _, fun q => absurd hst q⟩⟩
  obtain ⟨hT, hF, hM, hA, hQ⟩ := hP hst
  obtain ⟨⟨_, _, hn, _, hR1, hR, _, hW⟩, _⟩ := id hT
  rw [nI_l hs0]
  refine z_for k (fun i (q : Nat × zSt) => zZ G M_P_flow 7 X (fun r τ => ∃ x : Int32, r = some (.int x) ∧ PFO n R W p src mk len lk pa up ld A σ (nI k) (nI s0) τ) 23 [(0, zf G 0), (1, .int (nI k)), (3, .long (lN q.1)), (5, .int (nI i))] [] q.2) (fun i q => q.1 < 2 ^ 31 ∧ RF FR σ q.2 ∧ ∃ B, CA q.2 n W pa up B ∧ QR n R W p lk pa up ld B ∧ aFlow n R W p src mk len lk pa up (k - i) B q.1 = aFlow n R W p src mk len lk pa up k A s0) ?_ ?_ 0 (s0, σ) (Nat.zero_le _) ⟨hs0, RF.rf, A, hA, hQ, rfl⟩
  · intro i ⟨z, τ⟩ hi ⟨hz, hFr, B, hB, hQB, hE⟩ ih
    dsimp only at hz hFr hB hE ih ⊢
    have hTτ := hT.of hFr
    have st : ¬ τ 0 1 = 0 := by rw [hFr.at (by decide)]; exact hst
    refine b_P_flow_23 E (nI k) (lN z) (nI i) τ ⟨fun q => absurd q (nI_ge hi (by omega)), fun _ => ⟨fun q => absurd q st, fun _ => ?_⟩⟩
    have hl := hB.2.1.1.2.1
    rw [hB.2.1.1.1, nI_l (by omega)]
    refine ⟨fun hp => ?_, fun hp => ?_⟩
    · have h0 : (aL B).length = 0 := by
        rcases Nat.eq_zero_or_pos (aL B).length with e | e
        · exact e
        · exact absurd hp (nI_ge (a := 0) e (by omega))
      rw [aFlow_0 h0] at hE
      exact ⟨_, rfl, Or.inr ⟨hst, nfb, hFr, k, s0, rfl, hk, rfl, hs0, by rw [← hE]; exact hB, by rw [← hE]; exact hQB⟩⟩
    have hpos : 0 < (aL B).length := by
      rcases Nat.eq_zero_or_pos (aL B).length with e | e
      · rw [e] at hp; exact absurd (by decide) hp
      · exact e
    refine ⟨fun e => ?_, ?_⟩
    · have := (lN_eq (a := (aL B).length) (b := 0) (by omega) (by decide)).mp e
      omega
    · have hrem : (lN z - lN z / lN (aL B).length * lN (aL B).length).toInt32 = nI (z % (aL B).length) := by
        rw [pk_lRem (by omega) hpos (by omega), lN_i]
      rw [hrem]
      refine ⟨_, s_Course_bring2 G τ (z % (aL B).length) hTτ hF hM hB hQB (Nat.mod_lt _ hpos), fun x σ1 ⟨kk, f, t, q, y, hx, hkk, hf, ht, hq1, hqR, hy, k1, k2⟩ => ?_⟩
      rw [nI_1]
      have hnext : ((69069 : Int64) * lN z + (1 : Int64)) &&& (2147483647 : Int64) = lN ((69069 * z + 1) % 2147483648) := by
        rw [show (69069 : Int64) = lN 69069 from rfl, show (1 : Int64) = lN 1 from rfl, show (2147483647 : Int64) = lN (2 ^ 31 - 1) from rfl, lN_mul, lN_add]
        apply Int64.toBitVec_inj.mp
        show BitVec.ofNat 64 (69069 * z + 1) &&& BitVec.ofNat 64 (2 ^ 31 - 1) = BitVec.ofNat 64 ((69069 * z + 1) % 2 ^ 31)
        apply BitVec.eq_of_toNat_eq
        simp only [BitVec.toNat_and, BitVec.toNat_ofNat]
        rw [Nat.mod_eq_of_lt (show 69069 * z + 1 < 2 ^ 64 by omega), Nat.mod_eq_of_lt (show 2 ^ 31 - 1 < 2 ^ 64 by decide), Nat.and_two_pow_sub_one_eq_mod, Nat.mod_eq_of_lt (show (69069 * z + 1) % 2 ^ 31 < 2 ^ 64 by omega)]
      rw [hnext]
      refine ih ((69069 * z + 1) % 2147483648, σ1) ⟨Nat.mod_lt _ (by decide), hFr.tr k1, aHan1 n R W p src mk len lk pa up B (z % (aL B).length), ?_, QR_han1 hn hR hR1 hW hF hM hQB hkk hf ht hq1 hqR hx, ?_⟩
      · rw [(han1_of hn hR hx hkk hf ht hqR).1]; exact k2
      · rw [← hE, show k - i = (k - (i + 1)) + 1 by omega, aFlow_s (by omega)]
  · intro ⟨z, τ⟩ ⟨_, hFr, B, hB, hQB, hE⟩
    rw [Nat.sub_self] at hE
    have hE : B = aFlow n R W p src mk len lk pa up k A s0 := hE
    exact b_P_flow_23 E (nI k) (lN z) (nI k) τ ⟨fun _ => ⟨_, rfl, Or.inr ⟨hst, nfb, hFr, k, s0, rfl, hk, rfl, hs0, by rw [← hE]; exact hB, by rw [← hE]; exact hQB⟩⟩, fun q => absurd (nI_le (Nat.le_refl k) (by omega)) q⟩
set_option maxHeartbeats 1000000 in
theorem e_Mo_flow (G : zG) (σ : zSt) (m s : Int32) (hP : ¬ σ 32 4 = 0 → RM σ n R W p src mk len lk pa up ld A) : zI G 5 M_Mo_flow [zf G 32, .int m, .int s] σ (fun _ τ => MFO n R W p src mk len lk pa up A σ m s τ) := by
  refine zSpec.of (by decide) (Nat.le_of_ble_eq_true rfl) rfl (fun X E => ?_)
  have bad : (σ 32 4 = 0 ∨ FB m s) → ∀ y : Int32, ∃ x : Int32, some (Value.int y) = some (Value.int x) ∧ MFO n R W p src mk len lk pa up A σ m s σ := fun q y => ⟨_, rfl, Or.inl ⟨rfl, q⟩⟩
  refine b_Mo_flow_0 E m s σ ⟨fun q => bad (Or.inl q) _, fun hst => ⟨fun q => bad (Or.inr (Or.inl q)) _, fun hm => ⟨fun q => bad (Or.inr (Or.inr (Or.inl q))) _, fun hm2 => ⟨fun hs => ?_, fun q => bad (Or.inr (Or.inr (Or.inr q))) _⟩⟩⟩⟩
  have nfb : ¬ FB m s := fun q => by
    rcases q with q | q | q
    · exact hm q
    · exact hm2 q
    · exact q hs
  obtain ⟨k, hk, rfl⟩ := nI_of2 (M := 3000) (n := 3000) (by decide) hm (Int32.not_lt.mp hm2)
  obtain ⟨s0, hs0, rfl⟩ := nI_of (Int32.not_lt.mpr hs)
  obtain ⟨hT, hF, hA, hQ⟩ := hP hst
  have hM := hT.mlb
  obtain ⟨⟨_, _, hn, _, hR1, hR, _, hW, _⟩, _⟩ := id hT
  rw [nI_l hs0]
  refine z_for k (fun i (q : Nat × zSt) => zZ G M_Mo_flow 5 X (fun r τ => ∃ x : Int32, r = some (.int x) ∧ MFO n R W p src mk len lk pa up A σ (nI k) (nI s0) τ) 30 [(0, zf G 32), (1, .int (nI k)), (3, .long (lN q.1)), (5, .int (nI i))] [] q.2) (fun i q => q.1 < 2 ^ 31 ∧ MF FHan [27, 29, 30] σ q.2 ∧ ∃ B, MA q.2 n B ∧ QR n R W p lk pa up ld B ∧ aFlow n R W p src mk len lk pa up (k - i) B q.1 = aFlow n R W p src mk len lk pa up k A s0) ?_ ?_ 0 (s0, σ) (Nat.zero_le _) ⟨hs0, MF.rf, A, hA, hQ, rfl⟩
  · intro i ⟨z, τ⟩ hi ⟨hz, hFr, B, hB, hQB, hE⟩ ih
    dsimp only at hz hFr hB hE ih ⊢
    have hTτ : MT τ n R W p src mk len lk pa up := hT.of hFr (by decide) (by decide)
    refine b_Mo_flow_30 E (nI k) (lN z) (nI i) τ ⟨fun q => absurd q (nI_ge hi (by omega)), fun _ => ?_⟩
    have hl := hB.2.1.1.2.1
    rw [hB.2.1.1.1, nI_l (by omega)]
    refine ⟨fun hp => ?_, fun hp => ?_⟩
    · have h0 : (aL B).length = 0 := by
        rcases Nat.eq_zero_or_pos (aL B).length with e | e
        · exact e
        · exact absurd hp (nI_ge (a := 0) e (by omega))
      rw [aFlow_0 h0] at hE
      exact ⟨_, rfl, Or.inr ⟨hst, nfb, hFr, k, s0, rfl, hk, rfl, hs0, by rw [← hE]; exact hB⟩⟩
    have hpos : 0 < (aL B).length := by
      rcases Nat.eq_zero_or_pos (aL B).length with e | e
      · rw [e] at hp; exact absurd (by decide) hp
      · exact e
    refine ⟨fun e => ?_, ?_⟩
    · have := (lN_eq (a := (aL B).length) (b := 0) (by omega) (by decide)).mp e
      omega
    · have hrem : (lN z - lN z / lN (aL B).length * lN (aL B).length).toInt32 = nI (z % (aL B).length) := by
        rw [pk_lRem (by omega) hpos (by omega), lN_i]
      rw [hrem]
      refine ⟨_, s_Mo_handle2 G τ (z % (aL B).length) hTτ hF hB hQB (Nat.mod_lt _ hpos), fun x σ1 ⟨kk, f, t, q, y, hx, hkk, hf, ht, hq1, hqR, hy, k1, k2⟩ => ?_⟩
      rw [nI_1]
      have hnext : (((69069 : Int64) * lN z) + (1 : Int64)) - (((69069 : Int64) * lN z) + (1 : Int64)) / (2147483648 : Int64) * (2147483648 : Int64) = lN ((69069 * z + 1) % 2147483648) := by
        rw [show (69069 : Int64) = lN 69069 from rfl, show (1 : Int64) = lN 1 from rfl, show (2147483648 : Int64) = lN 2147483648 from rfl, lN_mul, lN_add, pk_lRem (by omega) (by decide) (by decide)]
      rw [hnext]
      refine ih ((69069 * z + 1) % 2147483648, σ1) ⟨Nat.mod_lt _ (by decide), hFr.tr k1, aHan1 n R W p src mk len lk pa up B (z % (aL B).length), ?_, QR_han1 hn hR hR1 hW hF hM hQB hkk hf ht hq1 hqR hx, ?_⟩
      · rw [(han1_of hn hR hx hkk hf ht hqR).1]; exact k2
      · rw [← hE, show k - i = (k - (i + 1)) + 1 by omega, aFlow_s (by omega)]
  · intro ⟨z, τ⟩ ⟨_, hFr, B, hB, hQB, hE⟩
    rw [Nat.sub_self] at hE
    have hE : B = aFlow n R W p src mk len lk pa up k A s0 := hE
    exact b_Mo_flow_30 E (nI k) (lN z) (nI k) τ ⟨fun _ => ⟨_, rfl, Or.inr ⟨hst, nfb, hFr, k, s0, rfl, hk, rfl, hs0, by rw [← hE]; exact hB⟩⟩, fun q => absurd (nI_le (Nat.le_refl k) (by omega)) q⟩
end FLOW
