section
-- The frame: who is whose upper, leader, partner; the class's setUp, exactly
section FRF
variable (W n src : Nat) (lk : Nat → Nat → Bool) (k : Int32)
def upF (c : Nat) : Option Nat := if W = 0 then none else if W = 1 then (tS n src (fun c => zIn (zAll (nI n)) (nI c)) lk n c).bind Prod.snd else (tI2 n lk k (Ldr n lk k c) c).bind Prod.snd
def ldF (c : Nat) : Nat := if W = 0 then c else if W = 1 then src else Ldr n lk k c
def paF (a b : Nat) : Bool := if W = 0 then lk a b else if W = 1 then false else chB n lk (Ldr n lk k) a b
def clN : Nat := if W = 2 then cL n lk k n else 1
def chN : Nat := if W = 2 then cA n lk (Ldr n lk k) n + cR n lk (Ldr n lk k) n (n + 1) else 0
end FRF
def encU (o : Option Nat) : Int32 := match o with
  | some b => nI b
  | none => -2
theorem upE_enc (o : Option (Nat × Option Nat)) : upE o = encU (o.bind Prod.snd) := by
  cases o with
  | none => rfl
  | some p =>
    obtain ⟨j, u⟩ := p
    cases u with
    | none => rfl
    | some b => rfl
theorem encU_iff {o : Option Nat} {u : Nat} (ho : ∀ b, o = some b → b < 12) (hu : u < 12) : encU o = nI u ↔ o = some u := by
  cases o with
  | none => exact ⟨fun h => absurd h.symm (nI_ne_m2 (by omega)), fun h => absurd h (by simp)⟩
  | some b =>
    have := ho b rfl
    show nI b = nI u ↔ some b = some u
    rw [nI_eq (by omega) (by omega)]
    exact ⟨fun h => by rw [h], fun h => Option.some.inj h⟩
theorem abE_in {n root : Nat} {s : Nat → Bool} {lk : Nat → Nat → Bool} {t c d : Nat} (hn : n ≤ 12) (hd : d < 32) : zIn (abE (tS n root s lk t c)) (nI d) = true ↔ (tS n root s lk t c).bind Prod.snd = some d := by
  cases hq : tS n root s lk t c with
  | none =>
    show zIn 0 (nI d) = true ↔ _
    rw [zIn_0 hd]
    exact ⟨fun h => absurd h (by decide), fun h => absurd h (by simp)⟩
  | some p =>
    obtain ⟨j, u⟩ := p
    cases u with
    | none =>
      show zIn 0 (nI d) = true ↔ _
      rw [zIn_0 hd]
      exact ⟨fun h => absurd h (by decide), fun h => absurd h (by simp)⟩
    | some b =>
      have hb : b < n := by
        rcases (tS_ok hq).2 with ⟨_, _, q⟩ | ⟨_, e, i, _, q, hd, _⟩
        · exact absurd q (by simp)
        · rw [Option.some.inj q]; exact hd
      show zIn ((1 : Int32) <<< (nI b &&& 31)) (nI d) = true ↔ some b = some d
      rw [zIn_bit (by omega) hd, decide_eq_true_eq]
      exact ⟨fun h => by rw [h], fun h => (Option.some.inj h).symm⟩
/-- an upper is another node of the net, linked, and who has one is no root -/
theorem tS_up {n root : Nat} {s : Nat → Bool} {lk : Nat → Nat → Bool} {t c u : Nat} (h : (tS n root s lk t c).bind Prod.snd = some u) : u < n ∧ u ≠ c ∧ c ≠ root ∧ s c = true ∧ s u = true ∧ lk c u = true := by
  cases hq : tS n root s lk t c with
  | none => rw [hq] at h; exact absurd h (by simp)
  | some p =>
    obtain ⟨j, v⟩ := p
    rw [hq] at h
    have h : v = some u := h
    rcases (tS_ok hq).2 with ⟨_, _, q⟩ | ⟨hs, b, i, e1, e2, hb, hsb, hlb, w, hw⟩
    · rw [q] at h; exact absurd h (by simp)
    · rw [e2] at h
      have eb : b = u := Option.some.inj h
      rw [eb] at hb hsb hlb hw
      refine ⟨hb, fun e => ?_, fun e => ?_, hs, hsb, hlb⟩
      · rw [e] at hw
        have hle : i ≤ t := by have := (tS_ok hq).1; omega
        have := tS_mono hle hw
        rw [hq] at this
        have := congrArg Prod.fst (Option.some.inj this)
        have : j = i := this
        omega
      · have h0 : tS n root s lk 0 c = some (0, none) := by rw [tS_0, if_pos e]
        have := tS_mono (Nat.zero_le t) h0
        rw [hq] at this
        have := congrArg Prod.fst (Option.some.inj this)
        have : j = 0 := this
        omega
theorem upF_ok {W n src : Nat} {lk : Nat → Nat → Bool} {k : Int32} {c u : Nat} (hn : n ≤ 12) (hc : c < n) (h : upF W n src lk k c = some u) : u < n ∧ u ≠ c ∧ lk c u = true ∧ ldF W n src lk k u = ldF W n src lk k c ∧ ¬ ldF W n src lk k c = c ∧ ¬ W = 0 := by
  unfold upF at h
  by_cases w0 : W = 0
  · rw [if_pos w0] at h; exact absurd h (by simp)
  · rw [if_neg w0] at h
    unfold ldF
    rw [if_neg w0, if_neg w0]
    by_cases w1 : W = 1
    · rw [if_pos w1] at h
      rw [if_pos w1, if_pos w1]
      obtain ⟨h1, h2, h3, _, _, h6⟩ := tS_up h
      exact ⟨h1, h2, h6, rfl, Ne.symm h3, w0⟩
    · rw [if_neg w1] at h
      rw [if_neg w1, if_neg w1]
      obtain ⟨h1, h2, h3, h4, h5, h6⟩ := tS_up h
      obtain ⟨l1, l2, l3⟩ := Ldr_ok (lk := lk) (k := k) hn hc
      exact ⟨h1, h2, h6, Ldr_of hn l1 h1 l2 h5, Ne.symm h3, w0⟩
/-- the class's frame -/
def CFr (σ : zSt) (W n src : Nat) (lk : Nat → Nat → Bool) (k : Int32) : Prop :=
  (∀ c, c < n → σ 9 c = nI (ldF W n src lk k c) ∧ σ 10 c = encU (upF W n src lk k c) ∧ ∀ d, d < 32 → (zIn (σ 12 c) (nI d) = true ↔ upF W n src lk k c = some d))
  ∧ (∀ u c, u < 12 → c < 32 → (zIn (σ 13 u) (nI c) = true ↔ (c < n ∧ upF W n src lk k c = some u)))
  ∧ (∀ a b, a < n → b < 32 → (zIn (σ 14 a) (nI b) = true ↔ (b < n ∧ paF W n lk k a b = true)))
  ∧ σ 3 0 = nI (clN W n lk k) ∧ σ 3 1 = nI (chN W n lk k)
theorem CFr.tree {σ : zSt} {W n src : Nat} {lk : Nat → Nat → Bool} {k : Int32} (hn : n ≤ 12) (hs : src < 12) (h : CFr σ W n src lk k) : TreeOK σ ∧ (W = 0 → ∀ u, u < 12 → ∀ c, c < 32 → zIn (σ 13 u) (nI c) = false) := by
  refine ⟨fun c u hc hu hz => ?_, fun w0 u hu c hc => ?_⟩
  · obtain ⟨hcn, hup⟩ := (h.2.1 u c hu (by omega)).mp hz
    obtain ⟨h1, h2, h3, h4, h5, h6⟩ := upF_ok hn hcn hup
    obtain ⟨k1, k2, _⟩ := h.1 c hcn
    refine ⟨by rw [k2, hup]; rfl, h2, fun e => ?_⟩
    rw [k1] at e
    have hl : ldF W n src lk k c < 12 := by
      unfold ldF
      split
      · omega
      · split
        · exact hs
        · have := (Ldr_ok (lk := lk) (k := k) hn hcn).1
          omega
    exact h5 ((nI_eq (by omega) (by omega)).mp e)
  · cases hz : zIn (σ 13 u) (nI c) with
    | false => rfl
    | true =>
      exfalso
      have := ((h.2.1 u c hu hc).mp hz).2
      unfold upF at this
      rw [if_pos w0] at this
      exact absurd this (by simp)
theorem s_Frame_clear2 (G : zG) (σ : zSt) : zV G 1 M_Frame_clear [zf G 3] σ (fun τ => zFr FFrame σ τ ∧ τ 3 0 = 1 ∧ τ 3 1 = 0 ∧ ∀ c, c < 12 → τ 9 c = -2 ∧ τ 10 c = -2 ∧ τ 11 c = -2 ∧ τ 12 c = 0 ∧ τ 13 c = 0 ∧ τ 14 c = 0 ∧ τ 15 c = 0) := by
  refine zSpec.of (by decide) (Nat.le_of_ble_eq_true rfl) rfl (fun X E => ?_)
  refine b_Frame_clear_0 E σ ?_
  rintro σ1 e1 σ2 e2
  refine ⟨_, s_fill G 9 12 rfl (by decide) _ _, fun σ3 e3 => ?_⟩
  refine ⟨_, s_fill G 10 12 rfl (by decide) _ _, fun σ4 e4 => ?_⟩
  refine ⟨_, s_fill G 11 12 rfl (by decide) _ _, fun σ5 e5 => ?_⟩
  refine ⟨_, s_fill G 12 12 rfl (by decide) _ _, fun σ6 e6 => ?_⟩
  refine ⟨_, s_fill G 13 12 rfl (by decide) _ _, fun σ7 e7 => ?_⟩
  refine ⟨_, s_fill G 14 12 rfl (by decide) _ _, fun σ8 e8 => ?_⟩
  refine ⟨_, s_fill G 15 12 rfl (by decide) _ _, fun σ9 e9 => ?_⟩
  have e3c : σ9 3 = upd (upd (σ 3) 0 1) 1 0 := by
    rw [e9, zfill_ne (by decide), e8, zfill_ne (by decide), e7, zfill_ne (by decide), e6, zfill_ne (by decide), e5, zfill_ne (by decide), e4, zfill_ne (by decide), e3, zfill_ne (by decide), e2, zup_self, e1, zup_self]
  refine ⟨rfl, ?_, by rw [e3c, upd_ne (by decide), upd_eq], by rw [e3c, upd_eq], fun c hc => ⟨?_, ?_, ?_, ?_, ?_, ?_, ?_⟩⟩
  · rw [e9, e8, e7, e6, e5, e4, e3, e2, e1]
    exact ((((((((zFr.rf.up (by decide)).up (by decide)).fill (by decide)).fill (by decide)).fill (by decide)).fill (by decide)).fill (by decide)).fill (by decide)).fill (by decide)
  · rw [e9, zfill_ne (by decide), e8, zfill_ne (by decide), e7, zfill_ne (by decide), e6, zfill_ne (by decide), e5, zfill_ne (by decide), e4, zfill_ne (by decide), e3]; simp [zfill, hc]
  · rw [e9, zfill_ne (by decide), e8, zfill_ne (by decide), e7, zfill_ne (by decide), e6, zfill_ne (by decide), e5, zfill_ne (by decide), e4]; simp [zfill, hc]
  · rw [e9, zfill_ne (by decide), e8, zfill_ne (by decide), e7, zfill_ne (by decide), e6, zfill_ne (by decide), e5]; simp [zfill, hc]
  · rw [e9, zfill_ne (by decide), e8, zfill_ne (by decide), e7, zfill_ne (by decide), e6]; simp [zfill, hc]
  · rw [e9, zfill_ne (by decide), e8, zfill_ne (by decide), e7]; simp [zfill, hc]
  · rw [e9, zfill_ne (by decide), e8]; simp [zfill, hc]
  · rw [e9]; simp [zfill, hc]
theorem s_Frame_standAlone2 (G : zG) (σ : zSt) (n : Nat) (hn : σ 2 0 = nI n) (hle : n ≤ 12) : zV G 0 M_Frame_standAlone [zf G 3, zf G 2] σ (fun τ => zFr [9, 14] σ τ ∧ ∀ c, c < n → τ 9 c = nI c ∧ τ 14 c = σ 7 c) := by
  refine zSpec.of (by decide) (Nat.le_of_ble_eq_true rfl) rfl (fun X E => ?_)
  refine b_Frame_standAlone_0 E σ ?_
  refine z_for n (fun i τ => zZ G M_Frame_standAlone 0 X (fun r τ => r = none ∧ zFr [9, 14] σ τ ∧ ∀ c, c < n → τ 9 c = nI c ∧ τ 14 c = σ 7 c) 2 [(0, zf G 3), (1, zf G 2), (2, .int (nI i))] [] τ) (fun i τ => zFr [9, 14] σ τ ∧ ∀ c, c < i → τ 9 c = nI c ∧ τ 14 c = σ 7 c) ?_ ?_ 0 σ (Nat.zero_le _) ⟨zFr.rf, fun c hc => absurd hc (Nat.not_lt_zero c)⟩
  · intro i τ hi ⟨hF, hI⟩ ih
    have ii : vp_in (nI i) 12 := vp_in_nI (by omega) (by decide)
    have ci : (nI i).toNatClampNeg = i := nI_clamp (by omega)
    refine b_Frame_standAlone_2 E (nI i) τ ⟨fun q => absurd q (by rw [hF 2 (by decide), hn]; exact nI_ge hi (by omega)), fun _ => ⟨ii, fun σ1 e1 => ⟨ii, ii, fun σ2 e2 => ?_⟩⟩⟩
    rw [nI_1]
    rw [ci] at e1 e2
    have q9 : σ2 9 = upd (τ 9) i (nI i) := by rw [e2, zup_ne (by decide), e1, zup_self]
    have q14 : σ2 14 = upd (τ 14) i (σ 7 i) := by rw [e2, zup_self, e1, zup_ne (by decide), zup_ne (by decide), hF 7 (by decide)]
    refine ih σ2 ⟨by rw [e2, e1]; exact (hF.up (by decide)).up (by decide), fun c hc => ?_⟩
    rw [q9, q14]
    by_cases e : c = i
    · rw [e, upd_eq, upd_eq]; exact ⟨rfl, rfl⟩
    · rw [upd_ne e, upd_ne e]; exact hI c (by omega)
  · intro τ ⟨hF, hI⟩
    exact b_Frame_standAlone_2 E (nI n) τ ⟨fun _ => ⟨rfl, hF, hI⟩, fun q => absurd (by rw [hF 2 (by decide), hn]; exact nI_le (Nat.le_refl n) (by omega)) q⟩
set_option maxHeartbeats 1000000 in
theorem s_Frame_setUp2 (G : zG) (σ : zSt) (W n s : Nat) (k : Int32) (lk : Nat → Nat → Bool) (hW : W ≤ 2) (hn : σ 2 0 = nI n) (hle : n ≤ 12) (hs : s < n) (hlk : ∀ a b, a < n → b < n → zIn (σ 7 a) (nI b) = lk a b) (hhi : ∀ a c, a < n → n ≤ c → c < 32 → zIn (σ 7 a) (nI c) = false) : zV G 4 M_Frame_setUp [zf G 3, zf G 2, .int (nI W), .int (nI s), .int k] σ (fun τ => zFr FFrame σ τ ∧ CFr τ W n s lk k) := by
  refine zSpec.of (by decide) (Nat.le_of_ble_eq_true rfl) rfl (fun X E => ?_)
  refine b_Frame_setUp_0 E (nI W) (nI s) k σ ⟨_, s_Frame_clear2 G σ, fun σ1 ⟨g1, g2, g3, g4⟩ => ?_⟩
  have hn1 : σ1 2 0 = nI n := by rw [g1 2 (by decide)]; exact hn
  have h7 : σ1 7 = σ 7 := g1 7 (by decide)
  have w0 : nI W = 0 ↔ W = 0 := nI_eq (a := W) (b := 0) (by omega) (by omega)
  have w1 : nI W = 1 ↔ W = 1 := nI_eq (a := W) (b := 1) (by omega) (by omega)
  rw [w0, w1]
  refine ⟨fun h0 => ⟨fun h1 => ?_, fun h1 => ?_⟩, fun h0 => ?_⟩
  · -- clusters
    have hW2 : W = 2 := by omega
    refine ⟨_, s_Frame_makeClusters2 G σ1 n k lk hn1 hle (by rw [h7]; exact hlk) (by rw [h7]; exact hhi) (fun c hc => ⟨(g4 c hc).2.2.1, (g4 c hc).2.1, (g4 c hc).2.2.2.1, (g4 c hc).2.2.2.2.1⟩), fun σ2 ⟨k1, k2, k3, _, k5, k6⟩ => ?_⟩
    have hL : ∀ c, c < n → σ2 9 c = nI (Ldr n lk k c) ∧ σ2 10 c = upE (tI2 n lk k (Ldr n lk k c) c) ∧ σ2 12 c = abE (tI2 n lk k (Ldr n lk k c) c) := fun c hc => by
      obtain ⟨l1, l2, l3⟩ := Ldr_ok (lk := lk) (k := k) hle hc
      exact k5 _ c l1 hc l2 l3
    refine ⟨_, s_Frame_chooseLinks2 G σ2 n lk (Ldr n lk k) (by rw [k1 2 (by decide)]; exact hn1) hle (fun c hc => ⟨(hL c hc).1, (Ldr_ok hle hc).1⟩) (by rw [k1 7 (by decide), h7]; exact hlk) (fun c hc => by rw [k1 14 (by decide), k1 15 (by decide)]; exact ⟨(g4 c hc).2.2.2.2.2.1, (g4 c hc).2.2.2.2.2.2⟩) (k3.trans g3), fun σ3 ⟨m1, m2, m3, m4, m5⟩ => ⟨rfl, (g1.tr (k1.mono (by decide))).tr (m1.mono (by decide)), ⟨fun c hc => ?_, fun u c hu hc => ?_, fun a b ha hb => ?_, ?_, ?_⟩⟩⟩
    · obtain ⟨q1, q2, q3⟩ := hL c hc
      unfold ldF upF
      rw [if_neg h0, if_neg h1, if_neg h0, if_neg h1, m1 9 (by decide), m1 10 (by decide), m1 12 (by decide), q1, q2, q3]
      exact ⟨rfl, upE_enc _, fun d hd => abE_in hle hd⟩
    · rw [m1 13 (by decide), k6 u c hu hc]
      refine and_congr_right (fun hcn => ?_)
      unfold upF
      rw [if_neg h0, if_neg h1, (hL c hcn).2.1]
      exact upE_iff hle hu
    · unfold paF
      rw [if_neg h0, if_neg h1]
      rw [m5 a b (by omega) hb]
      exact ⟨fun q => ⟨q.2.1, (chP_n ha q.2.1).mp q.2.2⟩, fun q => ⟨ha, q.1, (chP_n ha q.1).mpr q.2⟩⟩
    · unfold clN; rw [if_pos hW2, m2, k2]
    · unfold chN; rw [if_pos hW2]; exact m3
  · -- the tree of the source
    rw [hn1]
    have ha : ∀ c, c < n → zIn (zAll (nI n)) (nI c) = true := fun c hc => all_in hle hc
    refine ⟨_, s_Frame_growTree2 G σ1 n s (zAll (nI n)) lk hn1 hle hs (ha s hs) (by rw [h7]; exact hlk) (fun c hc _ => ⟨(g4 c (by omega)).2.2.1, (g4 c (by omega)).2.1, (g4 c (by omega)).2.2.2.1⟩), fun σ2 ⟨k1, ⟨k2, k3, k4⟩, k5⟩ => ⟨rfl, g1.tr (k1.mono (by decide)), ⟨fun c hc => ?_, fun u c hu hc => ?_, fun a b ha2 hb => ?_, ?_, ?_⟩⟩⟩
    · obtain ⟨_, q2, q3⟩ := k2 c hc (ha c hc)
      unfold ldF upF
      rw [if_neg h0, if_pos h1, if_neg h0, if_pos h1, k5 c, if_pos ⟨hc, ha c hc⟩, q2, q3]
      exact ⟨rfl, upE_enc _, fun d hd => abE_in hle hd⟩
    · rw [k4 u c hu hc, (g4 u hu).2.2.2.2.1, zIn_0 hc]
      unfold upF
      rw [if_neg h0, if_pos h1]
      exact ⟨fun q => q.elim (fun q => absurd q (by decide)) (fun q => ⟨q.1, q.2.2⟩), fun q => Or.inr ⟨q.1, ha c q.1, q.2⟩⟩
    · unfold paF
      rw [if_neg h0, if_pos h1, k1 14 (by decide), (g4 a (by omega)).2.2.2.2.2.1, zIn_0 hb]
      exact ⟨fun q => absurd q (by decide), fun q => absurd q.2 (by decide)⟩
    · unfold clN; rw [if_neg (by omega), k1 3 (by decide)]; exact g2
    · unfold chN; rw [if_neg (by omega), k1 3 (by decide)]; exact g3
  · -- each node alone
    refine ⟨_, s_Frame_standAlone2 G σ1 n hn1 hle, fun σ2 ⟨k1, k2⟩ => ⟨rfl, g1.tr (k1.mono (by decide)), ⟨fun c hc => ?_, fun u c hu hc => ?_, fun a b ha hb => ?_, ?_, ?_⟩⟩⟩
    · unfold ldF upF
      rw [if_pos h0, if_pos h0, (k2 c hc).1, k1 10 (by decide), k1 12 (by decide), (g4 c (by omega)).2.1, (g4 c (by omega)).2.2.2.1]
      exact ⟨rfl, rfl, fun d hd => by rw [zIn_0 hd]; exact ⟨fun q => absurd q (by decide), fun q => absurd q (by simp)⟩⟩
    · unfold upF
      rw [if_pos h0, k1 13 (by decide), (g4 u hu).2.2.2.2.1, zIn_0 hc]
      exact ⟨fun q => absurd q (by decide), fun q => absurd q.2 (by simp)⟩
    · unfold paF
      rw [if_pos h0, (k2 a ha).2, h7]
      by_cases hbn : b < n
      · rw [hlk a b ha hbn]
        exact ⟨fun q => ⟨hbn, q⟩, fun q => q.2⟩
      · rw [hhi a b ha (by omega) hb]
        exact ⟨fun q => absurd q (by decide), fun q => absurd q.1 hbn⟩
    · unfold clN; rw [if_neg (by omega), k1 3 (by decide)]; exact g2
    · unfold chN; rw [if_neg (by omega), k1 3 (by decide)]; exact g3
end
section
-- The running: what class and reference need of it beyond PI; pure
abbrev CM : Type := Nat → Nat → Nat → Nat → Bool
/-- b is safe in round r -/
def SfR (S : PS) (b r : Nat) : Prop := r < rdP S b ∨ (r = rdP S b ∧ sfP S b = true)
/-- f has sent its SAFEs of round q -/
def FlR (W : Nat) (S : PS) (f q : Nat) : Prop := q < rdP S f ∨ (q = rdP S f ∧ (if W = 0 then sfP S f else fiP S f) = true)
def cN (l : List Lt) (a : Nat) : Nat := l.countP (fun x => decide (x.1 = 0 ∧ x.2.1 = nI a))
def cK (l : List Lt) (a : Nat) : Nat := l.countP (fun x => decide (x.1 = 1 ∧ x.2.2.1 = nI a))
def cX (k : Int32) (l : List Lt) (f t q : Nat) : Nat := l.countP (fun x => decide (x.1 = k ∧ x.2.1 = nI f ∧ x.2.2.1 = nI t ∧ x.2.2.2.1 = nI q))
def b2n (b : Bool) : Nat := if b = true then 1 else 0
/-- NOTEs and ACKs are of the round of who wrote, and open counts them -/
def X1 (n : Nat) (lk : Nat → Nat → Bool) (S : PS) (l : List Lt) : Prop :=
  (∀ x, x ∈ l → x.1 = 0 → ∃ f t, f < n ∧ t < n ∧ x.2.1 = nI f ∧ x.2.2.1 = nI t ∧ lk f t = true ∧ x.2.2.2.1 = nI (rdP S f) ∧ 1 ≤ rdP S f)
  ∧ (∀ x, x ∈ l → x.1 = 1 → ∃ f t, f < n ∧ t < n ∧ x.2.1 = nI f ∧ x.2.2.1 = nI t ∧ lk t f = true ∧ x.2.2.2.1 = nI (rdP S t) ∧ 1 ≤ rdP S t)
  ∧ ∀ a, a < n → 1 ≤ rdP S a → opP S a = ((cN l a + cK l a : Nat) : Int)
/-- SAFEs: sent once, by who may -/
def X3 (n R W : Nat) (pa : Nat → Nat → Bool) (S : PS) (cm : CM) (l : List Lt) : Prop :=
  (∀ x, x ∈ l → x.1 = 2 → ∃ f t q, f < n ∧ t < n ∧ 1 ≤ q ∧ x.2.1 = nI f ∧ x.2.2.1 = nI t ∧ x.2.2.2.1 = nI q ∧ pa f t = true ∧ FlR W S f q)
  ∧ (∀ f t q, f < n → t < n → cm 1 t f q = true → 1 ≤ q ∧ pa f t = true ∧ FlR W S f q)
  ∧ ∀ f t q, f < n → t < n → q ≤ R → cX 2 l f t q + b2n (cm 1 t f q) ≤ 1
/-- all SAFEs of the rounds before have come -/
def X4 (n W : Nat) (pa : Nat → Nat → Bool) (S : PS) (cm : CM) : Prop :=
  ∀ t f, t < n → f < n → pa t f = true → (∀ q, 1 ≤ q → q < rdP S t → cm 1 t f q = true) ∧ (W = 2 → 1 ≤ rdP S t → dnP S t = true → cm 1 t f (rdP S t) = true)
/-- all READYs and DONEs of the rounds before have come, each once -/
def X5 (n R W : Nat) (up : Nat → Option Nat) (S : PS) (cm : CM) (l : List Lt) : Prop :=
  ∀ u c, u < n → c < n → up c = some u → (∀ q, 1 ≤ q → q < rdP S u → cm 2 u c q = true ∧ (W = 2 → cm 3 u c q = true)) ∧ (∀ q, q ≤ R → cX 3 l c u q + b2n (cm 2 u c q) ≤ 1 ∧ cX 6 l c u q + b2n (cm 3 u c q) ≤ 1)
/-- when a leader is behind round r, all who are linked to its nodes were safe in r -/
def XV (n : Nat) (lk : Nat → Nat → Bool) (ld : Nat → Nat) (S : PS) : Prop :=
  ∀ x b r, x < n → b < n → lk x b = true → 1 ≤ r → r + 1 ≤ rdP S (ld x) → SfR S b r
def QX (n R W : Nat) (lk pa : Nat → Nat → Bool) (up : Nat → Option Nat) (ld : Nat → Nat) (S : PS) (cm : CM) (l : List Lt) : Prop :=
  X1 n lk S l ∧ X3 n R W pa S cm l ∧ X4 n W pa S cm ∧ X5 n R W up S cm l ∧ XV n lk ld S
/-- PI's sets of what came, out of cm -/
def k2 (up : Nat → Option Nat) (cm : CM) (c q : Nat) : Prop := q < 22 ∧ ∃ u, up c = some u ∧ cm 2 u c q = true
def k3 (up : Nat → Option Nat) (cm : CM) (c q : Nat) : Prop := q < 22 ∧ ∃ u, up c = some u ∧ cm 3 u c q = true
theorem cN_app (l m : List Lt) (a : Nat) : cN (l ++ m) a = cN l a + cN m a := by unfold cN; exact List.countP_append
theorem cK_app (l m : List Lt) (a : Nat) : cK (l ++ m) a = cK l a + cK m a := by unfold cK; exact List.countP_append
theorem cX_app (k : Int32) (l m : List Lt) (f t q : Nat) : cX k (l ++ m) f t q = cX k l f t q + cX k m f t q := by unfold cX; exact List.countP_append
theorem cN_0 {l : List Lt} {a : Nat} (h : ∀ x, x ∈ l → x.1 = 0 → x.2.1 = nI a → False) : cN l a = 0 := by
  unfold cN; exact List.countP_eq_zero.mpr (fun x hx q => by have := of_decide_eq_true q; exact h x hx this.1 this.2)
theorem cK_0 {l : List Lt} {a : Nat} (h : ∀ x, x ∈ l → x.1 = 1 → x.2.2.1 = nI a → False) : cK l a = 0 := by
  unfold cK; exact List.countP_eq_zero.mpr (fun x hx q => by have := of_decide_eq_true q; exact h x hx this.1 this.2)
theorem cX_0 {k : Int32} {l : List Lt} {f t q : Nat} (h : ∀ x, x ∈ l → x.1 = k → x.2.1 = nI f → x.2.2.1 = nI t → x.2.2.2.1 = nI q → False) : cX k l f t q = 0 := by
  unfold cX; exact List.countP_eq_zero.mpr (fun x hx p => by have := of_decide_eq_true p; exact h x hx this.1 this.2.1 this.2.2.1 this.2.2.2)
theorem cN_mem {l : List Lt} {a : Nat} {x : Lt} (hx : x ∈ l) (h0 : x.1 = 0) (h1 : x.2.1 = nI a) : 1 ≤ cN l a := by
  unfold cN; exact List.countP_pos_iff.mpr ⟨x, hx, decide_eq_true ⟨h0, h1⟩⟩
theorem cK_mem {l : List Lt} {a : Nat} {x : Lt} (hx : x ∈ l) (h0 : x.1 = 1) (h1 : x.2.2.1 = nI a) : 1 ≤ cK l a := by
  unfold cK; exact List.countP_pos_iff.mpr ⟨x, hx, decide_eq_true ⟨h0, h1⟩⟩
theorem cX_mem {k : Int32} {l : List Lt} {f t q : Nat} {x : Lt} (hx : x ∈ l) (h0 : x.1 = k) (h1 : x.2.1 = nI f) (h2 : x.2.2.1 = nI t) (h3 : x.2.2.2.1 = nI q) : 1 ≤ cX k l f t q := by
  unfold cX; exact List.countP_pos_iff.mpr ⟨x, hx, decide_eq_true ⟨h0, h1, h2, h3⟩⟩
section QXU
variable {n R W : Nat} {lk pa : Nat → Nat → Bool} {up : Nat → Option Nat} {ld : Nat → Nat} {S : PS} {cm : CM} {l : List Lt}
/-- up the tree: the rounds do not fall -/
theorem rd_up (hP : PI n R W up (k2 up cm) (k3 up cm) S l) {c u : Nat} (hc : c < n) (h : up c = some u) : u < n ∧ (rdP S c ≤ rdP S u ∨ rdP S c ≤ 1) := by
  obtain ⟨_, _, h3, _⟩ := hP.1 c hc
  obtain ⟨q1, _, q2, _⟩ := h3 u h
  exact ⟨q1, q2⟩
/-- who may be reached by going up -/
def Reach (n : Nat) (up : Nat → Option Nat) (root : Nat) : Nat → Nat → Prop
  | 0, c => c = root
  | d + 1, c => ∃ u, up c = some u ∧ Reach n up root d u
theorem reach_rd (hP : PI n R W up (k2 up cm) (k3 up cm) S l) {root : Nat} : ∀ d c, c < n → Reach n up root d c → ∀ r, 1 ≤ r → r + 1 ≤ rdP S c → r + 1 ≤ rdP S root := by
  intro d
  induction d with
  | zero => intro c _ h r _ hr; rw [show root = c from (show c = root from h).symm]; exact hr
  | succ d ih =>
    intro c hc h r h1 hr
    obtain ⟨u, hu, h2⟩ := h
    obtain ⟨q1, q2⟩ := rd_up hP hc hu
    exact ih u q1 h2 r h1 (by omega)
/-- neighbours are never more than a round apart, and who is ahead knows that the other is safe -/
theorem T_of (hP : PI n R W up (k2 up cm) (k3 up cm) S l) (hX : QX n R W lk pa up ld S cm l) (hr : ∀ c, c < n → ∃ d, Reach n up (ld c) d c) {a b r : Nat} (ha : a < n) (hb : b < n) (hl : lk a b = true) (h1 : 1 ≤ r) (h2 : r + 1 ≤ rdP S a) : SfR S b r := by
  obtain ⟨d, hd⟩ := hr a ha
  exact hX.2.2.2.2 a b r ha hb hl h1 (reach_rd hP d a ha hd r h1 h2)
/-- what is below a raised node is raised -/
def RaR (S : PS) (x r : Nat) : Prop := r < rdP S x ∨ (r = rdP S x ∧ raP S x = true)
def DnR (S : PS) (x r : Nat) : Prop := r < rdP S x ∨ (r = rdP S x ∧ dnP S x = true)
theorem ra_dn (hR : R ≤ 20) (hP : PI n R W up (k2 up cm) (k3 up cm) S l) (hX : QX n R W lk pa up ld S cm l) {c u r : Nat} (hc : c < n) (hu : up c = some u) (h1 : 1 ≤ r) (h : RaR S u r) : RaR S c r := by
  obtain ⟨hun, _⟩ := rd_up hP hc hu
  have hru := (hP.1 u hun).1
  have key : k2 up cm c r := by
    rcases h with h | ⟨h, h2⟩
    · exact ⟨by omega, u, hu, ((hX.2.2.2.1 u c hun hc hu).1 r h1 h).1⟩
    · have := (hP.1 u hun).2.1 (by omega)
      have := this.2.2.2.2.2.1 h2 c hc hu
      rw [← h] at this; exact this
  obtain ⟨q1, q2⟩ := (hP.1 c hc).2.2.2.1 r key
  rcases Nat.lt_or_ge r (rdP S c) with q | q
  · exact Or.inl q
  · have e : r = rdP S c := by omega
    exact Or.inr ⟨e, q2 e⟩
theorem dn_dn (hW : W = 2) (hR : R ≤ 20) (hP : PI n R W up (k2 up cm) (k3 up cm) S l) (hX : QX n R W lk pa up ld S cm l) {c u r : Nat} (hc : c < n) (hu : up c = some u) (h1 : 1 ≤ r) (h : DnR S u r) : DnR S c r := by
  obtain ⟨hun, _⟩ := rd_up hP hc hu
  have hru := (hP.1 u hun).1
  have key : k3 up cm c r := by
    rcases h with h | ⟨h, h2⟩
    · exact ⟨by omega, u, hu, ((hX.2.2.2.1 u c hun hc hu).1 r h1 h).2 hW⟩
    · have := (hP.1 u hun).2.1 (by omega)
      have := this.2.2.2.2.2.2 h2 c hc hu
      rw [← h] at this; exact this
  obtain ⟨q1, q2⟩ := (hP.1 c hc).2.2.2.2 r key
  rcases Nat.lt_or_ge r (rdP S c) with q | q
  · exact Or.inl q
  · have e : r = rdP S c := by omega
    exact Or.inr ⟨e, q2 e⟩
theorem ra_all (hR : R ≤ 20) (hP : PI n R W up (k2 up cm) (k3 up cm) S l) (hX : QX n R W lk pa up ld S cm l) {root r : Nat} (h1 : 1 ≤ r) (h : RaR S root r) : ∀ d c, c < n → Reach n up root d c → RaR S c r := by
  intro d
  induction d with
  | zero => intro c _ hc; rw [show c = root from hc]; exact h
  | succ d ih =>
    intro c hc hd
    obtain ⟨u, hu, h2⟩ := hd
    exact ra_dn hR hP hX hc hu h1 (ih u (rd_up hP hc hu).1 h2)
theorem dn_all (hW : W = 2) (hR : R ≤ 20) (hP : PI n R W up (k2 up cm) (k3 up cm) S l) (hX : QX n R W lk pa up ld S cm l) {root r : Nat} (h1 : 1 ≤ r) (h : DnR S root r) : ∀ d c, c < n → Reach n up root d c → DnR S c r := by
  intro d
  induction d with
  | zero => intro c _ hc; rw [show c = root from hc]; exact h
  | succ d ih =>
    intro c hc hd
    obtain ⟨u, hu, h2⟩ := hd
    exact dn_dn hW hR hP hX hc hu h1 (ih u (rd_up hP hc hu).1 h2)
theorem ra_sf (hP : PI n R W up (k2 up cm) (k3 up cm) S l) {c r : Nat} (hc : c < n) (h1 : 1 ≤ r) (h : RaR S c r) : SfR S c r := by
  rcases h with h | ⟨h, h2⟩
  · exact Or.inl h
  · exact Or.inr ⟨h, ((hP.1 c hc).2.1 (by omega)).2.2.1 h2⟩
/-- who has sent its SAFEs of q in way 2: its leader was raised in q -/
theorem fl_ra (hW : W = 2) (hP : PI n R W up (k2 up cm) (k3 up cm) S l) {root : Nat} : ∀ d y, y < n → Reach n up root d y → ∀ q, 1 ≤ q → FlR W S y q → RaR S root q := by
  intro d
  induction d with
  | zero =>
    intro y hy hd q h1 h
    have e : y = root := hd
    rw [← e]
    rcases h with h | ⟨h, h2⟩
    · exact Or.inl h
    · rw [if_neg (by omega)] at h2
      exact Or.inr ⟨h, ((hP.1 y hy).2.1 (by omega)).2.2.2.2.1 h2⟩
  | succ d ih =>
    intro y hy hd q h1 h
    obtain ⟨u, hu, h2⟩ := hd
    obtain ⟨q1, q2⟩ := rd_up hP hy hu
    refine ih u q1 h2 q h1 ?_
    rcases h with h | ⟨h, h3⟩
    · exact Or.inl (by omega)
    · rw [if_neg (by omega)] at h3
      have hn := ((hP.1 y hy).2.2.1 u hu).2.2.2 (by omega) h3
      rcases hn with ⟨e, h4⟩ | e
      · refine Or.inr ⟨by omega, ?_⟩
        rw [if_neg (by omega)]; exact h4
      · exact Or.inl (by omega)
end QXU
end
section
-- A leader begins its next round: all around its cluster are safe; pure
section VNEW
variable {n R W : Nat} {lk pa : Nat → Nat → Bool} {up : Nat → Option Nat} {ld : Nat → Nat} {S : PS} {cm : CM} {l : List Lt}
/-- what the frame is, as the running needs it -/
def FRA (n W : Nat) (lk pa : Nat → Nat → Bool) (up : Nat → Option Nat) (ld : Nat → Nat) : Prop :=
  (∀ c, c < n → ld c < n ∧ ∃ d, Reach n up (ld c) d c)
  ∧ (∀ a b, a < n → b < n → lk a b = lk b a) ∧ (∀ a b, a < n → b < n → pa a b = true → lk a b = true) ∧ (∀ a b, a < n → b < n → pa a b = pa b a) ∧ (∀ a, a < n → lk a a = false)
  ∧ (W = 0 → (∀ c, c < n → ld c = c) ∧ (∀ a b, a < n → b < n → pa a b = lk a b) ∧ ∀ c, c < n → up c = none)
  ∧ (W = 1 → (∀ a b, a < n → b < n → ld a = ld b) ∧ ∀ a b, a < n → b < n → pa a b = false)
  ∧ (W = 2 → ∀ x b, x < n → b < n → lk x b = true → ¬ ld x = ld b → ∃ x' y', x' < n ∧ y' < n ∧ ld x' = ld x ∧ ld y' = ld b ∧ pa x' y' = true)
  ∧ (∀ c, c < n → up (ld c) = none)
theorem V_new (hW : W ≤ 2) (hR : R ≤ 20) (hF : FRA n W lk pa up ld) (hP : PI n R W up (k2 up cm) (k3 up cm) S l) (hX : QX n R W lk pa up ld S cm l) {a : Nat} (ha : a < n) (hr : 1 ≤ rdP S a)
    (h0 : W = 0 → ∀ b, b < n → lk a b = true → cm 1 a b (rdP S a) = true) (h1 : W = 1 → raP S a = true) (h2 : W = 2 → dnP S a = true) {x b : Nat} (hx : x < n) (hb : b < n) (hl : lk x b = true) (he : ld x = a) : SfR S b (rdP S a) := by
  obtain ⟨f1, f2, f3, f3b, f3c, f4, f5, f6, _⟩ := hF
  rcases (show W = 0 ∨ W = 1 ∨ W = 2 by omega) with hw | hw | hw
  · have ex : x = a := ((f4 hw).1 x hx).symm.trans he
    rw [ex] at hl
    obtain ⟨_, _, h⟩ := hX.2.1.2.1 b a (rdP S a) hb ha (h0 hw b hb hl)
    unfold FlR at h
    rw [if_pos hw] at h
    exact h
  · have eb : ld b = a := ((f5 hw).1 b x hb hx).trans he
    obtain ⟨d, hd⟩ := (f1 b hb).2
    rw [eb] at hd
    exact ra_sf hP hb hr (ra_all hR hP hX hr (Or.inr ⟨rfl, h1 hw⟩) d b hb hd)
  · have dall : ∀ c, c < n → ld c = a → DnR S c (rdP S a) := fun c hc e => by
      obtain ⟨d, hd⟩ := (f1 c hc).2
      rw [e] at hd
      exact dn_all hw hR hP hX hr (Or.inr ⟨rfl, h2 hw⟩) d c hc hd
    by_cases eb : ld b = a
    · refine ra_sf hP hb hr ?_
      rcases dall b hb eb with q | ⟨q, q2⟩
      · exact Or.inl q
      · have hn := (hP.1 b hb).2.1 (by omega)
        exact Or.inr ⟨q, hn.2.2.2.2.1 (hn.2.2.2.1 q2)⟩
    · obtain ⟨x', y', hx', hy', e1, e2, hp⟩ := f6 hw x b hx hb hl (fun e => eb (e.symm.trans he))
      have hcm : cm 1 x' y' (rdP S a) = true := by
        have h4 := hX.2.2.1 x' y' hx' hy' hp
        rcases dall x' hx' (e1.trans he) with q | ⟨q, q2⟩
        · exact h4.1 _ hr q
        · rw [q]; exact h4.2 hw (by omega) q2
      obtain ⟨_, _, hfl⟩ := hX.2.1.2.1 y' x' (rdP S a) hy' hx' hcm
      obtain ⟨d, hd⟩ := (f1 y' hy').2
      have hra := fl_ra hw hP d y' hy' hd (rdP S a) hr hfl
      obtain ⟨d2, hd2⟩ := (f1 b hb).2
      rw [← e2] at hd2
      exact ra_sf hP hb hr (ra_all hR hP hX hr hra d2 b hb hd2)
/-- a letter comes while its round is meant -/
theorem note_rd (hF : FRA n W lk pa up ld) (hP : PI n R W up (k2 up cm) (k3 up cm) S l) (hX : QX n R W lk pa up ld S cm l) {x : Lt} (hx : x ∈ l) (h0 : x.1 = 0) : ∃ f t, f < n ∧ t < n ∧ x.2.1 = nI f ∧ x.2.2.1 = nI t ∧ lk f t = true ∧ x.2.2.2.1 = nI (rdP S f) ∧ 1 ≤ rdP S f ∧ rdP S f ≤ rdP S t + 1 ∧ (1 ≤ rdP S t → rdP S t ≤ rdP S f) := by
  obtain ⟨f, t, hf, ht, e1, e2, hl, e3, h1⟩ := hX.1.1 x hx h0
  have reach := fun c hc => (hF.1 c hc).2
  refine ⟨f, t, hf, ht, e1, e2, hl, e3, h1, ?_, fun ht1 => ?_⟩
  · rcases Nat.lt_or_ge (rdP S f) 2 with q | q
    · omega
    · have := T_of hP hX reach hf ht hl (r := rdP S f - 1) (by omega) (by omega)
      rcases this with q2 | ⟨q2, _⟩ <;> omega
  · rcases Nat.lt_or_ge (rdP S f) (rdP S t) with q | q
    · exfalso
      have := T_of hP hX reach ht hf (by rw [hF.2.1 t f ht hf]; exact hl) (r := rdP S f) h1 (by omega)
      rcases this with q2 | ⟨_, q2⟩
      · omega
      · have ho := ((hP.1 f hf).2.1 h1).2.1 q2
        have hc := hX.1.2.2 f hf h1
        have := cN_mem hx h0 e1
        omega
    · exact q
theorem safe_rd (hR : R ≤ 20) (hF : FRA n W lk pa up ld) (hP : PI n R W up (k2 up cm) (k3 up cm) S l) (hX : QX n R W lk pa up ld S cm l) {x : Lt} (hx : x ∈ l) (h2 : x.1 = 2) : ∃ f t q, f < n ∧ t < n ∧ 1 ≤ q ∧ q ≤ R ∧ x.2.1 = nI f ∧ x.2.2.1 = nI t ∧ x.2.2.2.1 = nI q ∧ pa f t = true ∧ q ≤ rdP S t + 1 ∧ rdP S t ≤ q ∧ cm 1 t f q = false := by
  obtain ⟨f, t, q, hf, ht, h1, e1, e2, e3, hp, hfl⟩ := hX.2.1.1 x hx h2
  have hrf := (hP.1 f hf).1
  have hqr : q ≤ R := by rcases hfl with h | h <;> omega
  have hcm : cm 1 t f q = false := by
    have k1 := hX.2.1.2.2 f t q hf ht hqr
    have k2 := cX_mem hx h2 e1 e2 e3
    cases h : cm 1 t f q with
    | false => rfl
    | true =>
      rw [h] at k1
      have : b2n true = 1 := rfl
      omega
  refine ⟨f, t, q, hf, ht, h1, hqr, e1, e2, e3, hp, ?_, ?_, hcm⟩
  · rcases Nat.lt_or_ge (rdP S f) 2 with h | h
    · rcases hfl with h | h <;> omega
    · have := T_of hP hX (fun c hc => (hF.1 c hc).2) hf ht (hF.2.2.1 f t hf ht hp) (r := rdP S f - 1) (by omega) (by omega)
      rcases this with q2 | ⟨q2, _⟩ <;> rcases hfl with h | h <;> omega
  · rcases Nat.lt_or_ge q (rdP S t) with h | h
    · exfalso
      rw [hF.2.2.2.1 f t hf ht] at hp
      have := (hX.2.2.1 t f ht hf hp).1 q h1 h
      rw [hcm] at this; exact absurd this (by decide)
    · exact h
end VNEW
end
section
-- Each act keeps the running's invariants; pure
section QXO
variable {n R W : Nat} {lk pa : Nat → Nat → Bool} {up : Nat → Option Nat} {ld : Nat → Nat} {S S' : PS} {cm : CM} {l : List Lt} {a : Nat}
theorem b2n_le (b : Bool) : b2n b ≤ 1 := by cases b <;> decide
/-- letters of other kinds do not count -/
theorem X1.app (h : X1 n lk S l) (e1 : rdP S' = rdP S) (e2 : opP S' = opP S) (m : List Lt) (hm : ∀ x, x ∈ m → ¬ x.1 = 0 ∧ ¬ x.1 = 1) : X1 n lk S' (l ++ m) := by
  obtain ⟨h1, h2, h3⟩ := h
  refine ⟨fun x hx h0 => ?_, fun x hx h0 => ?_, fun b hb hr => ?_⟩
  · rw [e1]
    rcases List.mem_append.mp hx with q | q
    · exact h1 x q h0
    · exact absurd h0 (hm x q).1
  · rw [e1]
    rcases List.mem_append.mp hx with q | q
    · exact h2 x q h0
    · exact absurd h0 (hm x q).2
  · rw [e1] at hr
    rw [e2, h3 b hb hr, cN_app, cK_app, cN_0 (fun x hx q _ => (hm x hx).1 q), cK_0 (fun x hx q _ => (hm x hx).2 q)]
    rfl
theorem X3.app (h : X3 n R W pa S cm l) (hf : ∀ f q, FlR W S f q → FlR W S' f q) (m : List Lt) (hm : ∀ x, x ∈ m → ¬ x.1 = 2) : X3 n R W pa S' cm (l ++ m) := by
  obtain ⟨h1, h2, h3⟩ := h
  refine ⟨fun x hx h0 => ?_, fun f t q hf1 ht hc => ?_, fun f t q hf1 ht hq => ?_⟩
  · rcases List.mem_append.mp hx with q | q
    · obtain ⟨f, t, r, q1, q2, q3, q4, q5, q6, q7, q8⟩ := h1 x q h0
      exact ⟨f, t, r, q1, q2, q3, q4, q5, q6, q7, hf f r q8⟩
    · exact absurd h0 (hm x q)
  · obtain ⟨q1, q2, q3⟩ := h2 f t q hf1 ht hc
    exact ⟨q1, q2, hf f q q3⟩
  · rw [cX_app, cX_0 (l := m) (fun x hx q _ _ _ => hm x hx q)]
    exact h3 f t q hf1 ht hq
/-- the SAFEs of a in its round, each partner's once -/
def SafeL (n : Nat) (pa : Nat → Nat → Bool) (a r : Nat) (m : List Lt) : Prop := (∀ x, x ∈ m → ∃ b, b < n ∧ pa a b = true ∧ x = (2, nI a, nI b, nI r, 0)) ∧ ∀ b, b < n → cX 2 m a b r ≤ 1
theorem X3.safe (hn : n ≤ 12) (hR : R ≤ 20) (h : X3 n R W pa S cm l) (hf : ∀ f q, FlR W S f q → FlR W S' f q) (ha : a < n) (hr1 : 1 ≤ rdP S a) (hrR : rdP S a ≤ R) (hno : ¬ (if W = 0 then sfP S a else fiP S a) = true) (hfl : FlR W S' a (rdP S a)) (m : List Lt) (hm : SafeL n pa a (rdP S a) m) : X3 n R W pa S' cm (l ++ m) := by
  obtain ⟨h1, h2, h3⟩ := h
  refine ⟨fun x hx h0 => ?_, fun f t q hf1 ht hc => ?_, fun f t q hf1 ht hq => ?_⟩
  · rcases List.mem_append.mp hx with q | q
    · obtain ⟨f, t, r, q1, q2, q3, q4, q5, q6, q7, q8⟩ := h1 x q h0
      exact ⟨f, t, r, q1, q2, q3, q4, q5, q6, q7, hf f r q8⟩
    · obtain ⟨b, hb, hp, rfl⟩ := hm.1 x q
      exact ⟨a, b, rdP S a, ha, hb, hr1, rfl, rfl, rfl, hp, hfl⟩
  · obtain ⟨q1, q2, q3⟩ := h2 f t q hf1 ht hc
    exact ⟨q1, q2, hf f q q3⟩
  · rw [cX_app]
    by_cases hz : f = a ∧ q = rdP S a
    · obtain ⟨e1, e2⟩ := hz
      rw [e1, e2]
      have old : cX 2 l a t (rdP S a) = 0 := by
        refine cX_0 (fun x hx k1 k2 k3 k4 => ?_)
        obtain ⟨f', t', r', q1, q2, q3, q4, q5, q6, q7, q8⟩ := h1 x hx k1
        have ef : f' = a := (nI_eq (by omega) (by omega)).mp (q4.symm.trans k2)
        rw [ef] at q8
        have hr' : r' ≤ rdP S a := by rcases q8 with h | h <;> omega
        have er : r' = rdP S a := (nI_eq (by omega) (by omega)).mp (q6.symm.trans k4)
        rw [er] at q8
        rcases q8 with h | h
        · omega
        · exact hno h.2
      have oc : cm 1 t a (rdP S a) = false := by
        cases hc : cm 1 t a (rdP S a) with
        | false => rfl
        | true =>
          obtain ⟨_, _, q8⟩ := h2 a t (rdP S a) ha ht hc
          rcases q8 with h | h
          · omega
          · exact absurd h.2 hno
      have := hm.2 t ht
      rw [old, oc]
      have : b2n false = 0 := rfl
      omega
    · have : cX 2 m f t q = 0 := by
        refine cX_0 (fun x hx k1 k2 k3 k4 => ?_)
        obtain ⟨b, hb, hp, rfl⟩ := hm.1 x hx
        have ef : a = f := (nI_eq (by omega) (by omega)).mp k2
        have er : rdP S a = q := (nI_eq (by omega) (by omega)).mp k4
        exact hz ⟨ef.symm, er.symm⟩
      rw [this]
      exact h3 f t q hf1 ht hq
theorem X5.app (h : X5 n R W up S cm l) (e1 : rdP S' = rdP S) (m : List Lt) (hm : ∀ x, x ∈ m → ¬ x.1 = 3 ∧ ¬ x.1 = 6) : X5 n R W up S' cm (l ++ m) := by
  intro u c hu hc huc
  obtain ⟨h1, h2⟩ := h u c hu hc huc
  refine ⟨fun q q1 q2 => h1 q q1 (by rw [e1] at q2; exact q2), fun q hq => ?_⟩
  rw [cX_app, cX_app, cX_0 (l := m) (fun x hx q _ _ _ => (hm x hx).1 q), cX_0 (l := m) (fun x hx q _ _ _ => (hm x hx).2 q)]
  exact h2 q hq
theorem XV.mono (h : XV n lk ld S) (hs : ∀ b r, SfR S b r → SfR S' b r) (e1 : rdP S' = rdP S) : XV n lk ld S' := fun x b r hx hb hl h1 h2 => hs b r (h x b r hx hb hl h1 (by rw [e1] at h2; exact h2))
theorem SfR_sf {b r : Nat} (h : SfR S b r) : SfR (setSf S a) b r := by
  rcases h with h | ⟨h, h2⟩
  · exact Or.inl h
  · exact Or.inr ⟨h, fup_t h2⟩
theorem FlR_sf {b r : Nat} (h : FlR W S b r) : FlR W (setSf S a) b r := by
  rcases h with h | ⟨h, h2⟩
  · exact Or.inl h
  · refine Or.inr ⟨h, ?_⟩
    by_cases w : W = 0
    · rw [if_pos w] at h2 ⊢; exact fup_t h2
    · rw [if_neg w] at h2 ⊢; exact h2
theorem FlR_fi {b r : Nat} (h : FlR W S b r) : FlR W (setFi S a) b r := by
  rcases h with h | ⟨h, h2⟩
  · exact Or.inl h
  · refine Or.inr ⟨h, ?_⟩
    by_cases w : W = 0
    · rw [if_pos w] at h2 ⊢; exact h2
    · rw [if_neg w] at h2 ⊢; exact fup_t h2
/-- a becomes safe -/
theorem QX.safe (hn : n ≤ 12) (hR : R ≤ 20) (h : QX n R W lk pa up ld S cm l) (ha : a < n) (hr1 : 1 ≤ rdP S a) (hrR : rdP S a ≤ R) (hs : sfP S a = false) (m : List Lt) (hm : (W = 0 ∧ SafeL n pa a (rdP S a) m) ∨ (¬ W = 0 ∧ m = [])) : QX n R W lk pa up ld (setSf S a) cm (l ++ m) := by
  obtain ⟨x1, x3, x4, x5, xv⟩ := h
  have kinds : ∀ x, x ∈ m → x.1 = 2 := fun x hx => by
    rcases hm with ⟨_, h⟩ | ⟨_, h⟩
    · obtain ⟨b, _, _, rfl⟩ := h.1 x hx; rfl
    · rw [h] at hx; exact absurd hx List.not_mem_nil
  refine ⟨x1.app rfl rfl m (fun x hx => ⟨fun q => ?_, fun q => ?_⟩), ?_, x4, x5.app rfl m (fun x hx => ⟨fun q => ?_, fun q => ?_⟩), xv.mono (fun b r h => SfR_sf h) rfl⟩
  · rw [kinds x hx] at q; exact absurd q (by decide)
  · rw [kinds x hx] at q; exact absurd q (by decide)
  · rcases hm with ⟨w, h⟩ | ⟨w, h⟩
    · refine x3.safe hn hR (fun f q h => FlR_sf h) ha hr1 hrR ?_ ?_ m h
      · rw [if_pos w, hs]; decide
      · refine Or.inr ⟨rfl, ?_⟩
        rw [if_pos w]; exact fup_s
    · rw [h]
      exact x3.app (fun f q h => FlR_sf h) [] (fun x hx => absurd hx List.not_mem_nil)
  · rw [kinds x hx] at q; exact absurd q (by decide)
  · rw [kinds x hx] at q; exact absurd q (by decide)
/-- a is raised: READY to its upper -/
theorem QX.raise (hn : n ≤ 12) (hR : R ≤ 20) (hP : PI n R W up (k2 up cm) (k3 up cm) S l) (h : QX n R W lk pa up ld S cm l) (ha : a < n) (hr1 : 1 ≤ rdP S a) (hra : raP S a = false) (m : List Lt) (hm : m = [] ∨ ∃ u, up a = some u ∧ m = [(3, nI a, nI u, nI (rdP S a), 0)]) : QX n R W lk pa up ld (setRa S a) cm (l ++ m) := by
  obtain ⟨x1, x3, x4, x5, xv⟩ := h
  have hrR := (hP.1 a ha).1
  have kinds : ∀ x, x ∈ m → x.1 = 3 := fun x hx => by
    rcases hm with h | ⟨u, _, h⟩
    · rw [h] at hx; exact absurd hx List.not_mem_nil
    · rw [h] at hx; rw [List.mem_singleton.mp hx]
  have no : ∀ k : Int32, ¬ k = 3 → ∀ x, x ∈ m → ¬ x.1 = k := fun k hk x hx q => hk (q.symm.trans (kinds x hx))
  refine ⟨x1.app rfl rfl m (fun x hx => ⟨no 0 (by decide) x hx, no 1 (by decide) x hx⟩), x3.app (fun f q h => h) m (no 2 (by decide)), x4, fun u c hu hc huc => ?_, xv.mono (fun b r h => h) rfl⟩
  obtain ⟨h1, h2⟩ := x5 u c hu hc huc
  refine ⟨h1, fun q hq => ?_⟩
  obtain ⟨g1, g2⟩ := h2 q hq
  rw [cX_app, cX_app, cX_0 (k := 6) (l := m) (fun x hx q _ _ _ => no 6 (by decide) x hx q)]
  refine ⟨?_, g2⟩
  rcases hm with e | ⟨v, hv, e⟩
  · rw [e]; exact g1
  · by_cases hz : c = a ∧ q = rdP S a
    · obtain ⟨e1, e2⟩ := hz
      rw [e1, e2]
      have old : cX 3 l a u (rdP S a) = 0 := by
        refine cX_0 (fun x hx q1 q2 q3 q4 => ?_)
        obtain ⟨c', u', r', p1, p2, p3, p4, p5, p6, p7, p8⟩ := (hP.2.1 x hx).2.1 q1
        have ec : c' = a := (nI_eq (by omega) (by omega)).mp (p3.symm.trans q2)
        rw [ec] at p7 p8
        have er : r' = rdP S a := (nI_eq (by omega) (by omega)).mp (p6.symm.trans q4)
        rw [p8 er] at hra; exact absurd hra (by decide)
      have oc : cm 2 u a (rdP S a) = false := by
        cases hcm : cm 2 u a (rdP S a) with
        | false => rfl
        | true =>
          have := (hP.1 a ha).2.2.2.1 (rdP S a) ⟨by omega, u, by rw [e1] at huc; exact huc, hcm⟩
          rw [this.2 rfl] at hra; exact absurd hra (by decide)
      rw [old, oc, e]
      have h3 : cX 3 [(3, nI a, nI v, nI (rdP S a), 0)] a u (rdP S a) ≤ 1 := by
        unfold cX; exact List.countP_le_length
      have : b2n false = 0 := rfl
      omega
    · have : cX 3 m c u q = 0 := by
        refine cX_0 (fun x hx q1 q2 q3 q4 => ?_)
        rw [e] at hx
        rw [List.mem_singleton.mp hx] at q2 q4
        have ec : a = c := (nI_eq (by omega) (by omega)).mp q2
        have er : rdP S a = q := (nI_eq (by omega) (by omega)).mp q4
        exact hz ⟨ec.symm, er.symm⟩
      rw [this]; exact g1
/-- a is firm: FIRMs to its lowers, SAFEs to its partners -/
theorem QX.firm (hn : n ≤ 12) (hR : R ≤ 20) (hW : W = 2) (h : QX n R W lk pa up ld S cm l) (ha : a < n) (hr1 : 1 ≤ rdP S a) (hrR : rdP S a ≤ R) (hfi : fiP S a = false) (F m : List Lt) (hF : ∀ x, x ∈ F → x.1 = 5) (hm : SafeL n pa a (rdP S a) m) : QX n R W lk pa up ld (setFi S a) cm (l ++ F ++ m) := by
  obtain ⟨x1, x3, x4, x5, xv⟩ := h
  have kinds : ∀ x, x ∈ F ++ m → x.1 = 5 ∨ x.1 = 2 := fun x hx => by
    rcases List.mem_append.mp hx with q | q
    · exact Or.inl (hF x q)
    · obtain ⟨b, _, _, rfl⟩ := hm.1 x q; exact Or.inr rfl
  have no : ∀ k : Int32, ¬ k = 5 → ¬ k = 2 → ∀ x, x ∈ F ++ m → ¬ x.1 = k := fun k hk hk2 x hx q => by
    rcases kinds x hx with h | h
    · exact hk (q.symm.trans h)
    · exact hk2 (q.symm.trans h)
  refine ⟨?_, ?_, x4, ?_, xv.mono (fun b r h => h) rfl⟩
  · rw [List.append_assoc]
    exact x1.app rfl rfl _ (fun x hx => ⟨no 0 (by decide) (by decide) x hx, no 1 (by decide) (by decide) x hx⟩)
  · have y3 : X3 n R W pa S cm (l ++ F) := x3.app (fun f q h => h) F (fun x hx q => by rw [hF x hx] at q; exact absurd q (by decide))
    refine y3.safe hn hR (fun f q h => FlR_fi h) ha hr1 hrR ?_ ?_ m hm
    · rw [if_neg (by omega), hfi]; decide
    · refine Or.inr ⟨rfl, ?_⟩
      rw [if_neg (by omega)]; exact fup_s
  · rw [List.append_assoc]
    exact x5.app rfl _ (fun x hx => ⟨no 3 (by decide) (by decide) x hx, no 6 (by decide) (by decide) x hx⟩)
/-- a is done: DONE to its upper -/
theorem QX.done (hn : n ≤ 12) (hR : R ≤ 20) (hP : PI n R W up (k2 up cm) (k3 up cm) S l) (h : QX n R W lk pa up ld S cm l) (ha : a < n) (hr1 : 1 ≤ rdP S a) (hdn : dnP S a = false) (hc1 : ∀ f, f < n → pa a f = true → cm 1 a f (rdP S a) = true) (m : List Lt) (hm : m = [] ∨ ∃ u, up a = some u ∧ m = [(6, nI a, nI u, nI (rdP S a), 0)]) : QX n R W lk pa up ld (setDn S a) cm (l ++ m) := by
  obtain ⟨x1, x3, x4, x5, xv⟩ := h
  have hrR := (hP.1 a ha).1
  have kinds : ∀ x, x ∈ m → x.1 = 6 := fun x hx => by
    rcases hm with h | ⟨u, _, h⟩
    · rw [h] at hx; exact absurd hx List.not_mem_nil
    · rw [h] at hx; rw [List.mem_singleton.mp hx]
  have no : ∀ k : Int32, ¬ k = 6 → ∀ x, x ∈ m → ¬ x.1 = k := fun k hk x hx q => hk (q.symm.trans (kinds x hx))
  refine ⟨x1.app rfl rfl m (fun x hx => ⟨no 0 (by decide) x hx, no 1 (by decide) x hx⟩), x3.app (fun f q h => h) m (no 2 (by decide)), fun t f ht hf hp => ?_, fun u c hu hc huc => ?_, xv.mono (fun b r h => h) rfl⟩
  · refine ⟨(x4 t f ht hf hp).1, fun w hr hd => ?_⟩
    by_cases e : t = a
    · rw [e] at hp ⊢; exact hc1 f hf hp
    · refine (x4 t f ht hf hp).2 w hr ?_
      have hd : fup (dnP S) a true t = true := hd
      rw [fup_n e] at hd; exact hd
  obtain ⟨h1, h2⟩ := x5 u c hu hc huc
  refine ⟨h1, fun q hq => ?_⟩
  obtain ⟨g1, g2⟩ := h2 q hq
  rw [cX_app, cX_app, cX_0 (k := 3) (l := m) (fun x hx q _ _ _ => no 3 (by decide) x hx q)]
  refine ⟨g1, ?_⟩
  rcases hm with e | ⟨v, hv, e⟩
  · rw [e]; exact g2
  · by_cases hz : c = a ∧ q = rdP S a
    · obtain ⟨e1, e2⟩ := hz
      rw [e1, e2]
      have old : cX 6 l a u (rdP S a) = 0 := by
        refine cX_0 (fun x hx q1 q2 q3 q4 => ?_)
        obtain ⟨c', u', r', p1, p2, p3, p4, p5, p6, p7, p8⟩ := (hP.2.1 x hx).2.2.1 q1
        have ec : c' = a := (nI_eq (by omega) (by omega)).mp (p3.symm.trans q2)
        rw [ec] at p7 p8
        have er : r' = rdP S a := (nI_eq (by omega) (by omega)).mp (p6.symm.trans q4)
        rw [p8 er] at hdn; exact absurd hdn (by decide)
      have oc : cm 3 u a (rdP S a) = false := by
        cases hcm : cm 3 u a (rdP S a) with
        | false => rfl
        | true =>
          have := (hP.1 a ha).2.2.2.2 (rdP S a) ⟨by omega, u, by rw [e1] at huc; exact huc, hcm⟩
          rw [this.2 rfl] at hdn; exact absurd hdn (by decide)
      rw [old, oc, e]
      have h3 : cX 6 [(6, nI a, nI v, nI (rdP S a), 0)] a u (rdP S a) ≤ 1 := by
        unfold cX; exact List.countP_le_length
      have : b2n false = 0 := rfl
      omega
    · have : cX 6 m c u q = 0 := by
        refine cX_0 (fun x hx q1 q2 q3 q4 => ?_)
        rw [e] at hx
        rw [List.mem_singleton.mp hx] at q2 q4
        have ec : a = c := (nI_eq (by omega) (by omega)).mp q2
        have er : rdP S a = q := (nI_eq (by omega) (by omega)).mp q4
        exact hz ⟨ec.symm, er.symm⟩
      rw [this]; exact g2
end QXO
end
section
-- A node begins a round, a letter comes: the running's invariants; pure
section QXB
variable {n R W : Nat} {lk pa : Nat → Nat → Bool} {up : Nat → Option Nat} {ld : Nat → Nat} {S : PS} {cm : CM} {l : List Lt} {a : Nat}
theorem SfR_rd {m : Int} {b r : Nat} (h : SfR S b r) : SfR (setRd S a m) b r := by
  by_cases e : b = a
  · rw [e] at h ⊢
    refine Or.inl ?_
    show r < fup (rdP S) a (rdP S a + 1) a
    rw [fup_s]
    rcases h with h | ⟨h, _⟩ <;> omega
  · rcases h with h | ⟨h, h2⟩
    · refine Or.inl ?_
      show r < fup (rdP S) a (rdP S a + 1) b
      rw [fup_n e]; exact h
    · refine Or.inr ⟨?_, ?_⟩
      · show r = fup (rdP S) a (rdP S a + 1) b
        rw [fup_n e]; exact h
      · show fup (sfP S) a false b = true
        rw [fup_n e]; exact h2
theorem FlR_rd {m : Int} {b r : Nat} (h : FlR W S b r) : FlR W (setRd S a m) b r := by
  by_cases e : b = a
  · rw [e] at h ⊢
    refine Or.inl ?_
    show r < fup (rdP S) a (rdP S a + 1) a
    rw [fup_s]
    rcases h with h | ⟨h, _⟩ <;> omega
  · rcases h with h | ⟨h, h2⟩
    · refine Or.inl ?_
      show r < fup (rdP S) a (rdP S a + 1) b
      rw [fup_n e]; exact h
    · refine Or.inr ⟨?_, ?_⟩
      · show r = fup (rdP S) a (rdP S a + 1) b
        rw [fup_n e]; exact h
      · show (if W = 0 then fup (sfP S) a false b else fup (fiP S) a false b) = true
        rw [fup_n e, fup_n e]; exact h2
theorem QX.begin (hn : n ≤ 12) (hR : R ≤ 20) (h : QX n R W lk pa up ld S cm l) (ha : a < n) (hrR : rdP S a + 1 ≤ R) (hrd : ∀ b, b < n → rdP S b ≤ R) (hop : 1 ≤ rdP S a → opP S a = 0)
    (h1 : 1 ≤ rdP S a → ∀ f, f < n → pa a f = true → cm 1 a f (rdP S a) = true) (h2 : 1 ≤ rdP S a → ∀ c, c < n → up c = some a → cm 2 a c (rdP S a) = true ∧ (W = 2 → cm 3 a c (rdP S a) = true))
    (hV : 1 ≤ rdP S a → ∀ x b, x < n → b < n → ld x = a → lk x b = true → SfR S b (rdP S a)) (w : Int32) (Gl N : List Lt) (hG : ∀ x, x ∈ Gl → x.1 = 4) (hN : ∀ x, x ∈ N → ∃ b, b < n ∧ lk a b = true ∧ x = (0, nI a, nI b, nI (rdP S a + 1), w)) : QX n R W lk pa up ld (setRd S a (N.length : Int)) cm (l ++ Gl ++ N) := by
  obtain ⟨x1, x3, x4, x5, xv⟩ := h
  have rse : rdP (setRd S a (N.length : Int)) a = rdP S a + 1 := fup_s
  have rno : ∀ {b : Nat}, b ≠ a → rdP (setRd S a (N.length : Int)) b = rdP S b := fun hb => fup_n hb
  have kinds : ∀ x, x ∈ Gl ++ N → x.1 = 4 ∨ x.1 = 0 := fun x hx => by
    rcases List.mem_append.mp hx with q | q
    · exact Or.inl (hG x q)
    · obtain ⟨b, _, _, rfl⟩ := hN x q; exact Or.inr rfl
  have no : ∀ k : Int32, ¬ k = 4 → ¬ k = 0 → ∀ x, x ∈ Gl ++ N → ¬ x.1 = k := fun k hk hk2 x hx q => by
    rcases kinds x hx with h | h
    · exact hk (q.symm.trans h)
    · exact hk2 (q.symm.trans h)
  -- nothing of a's old round waits
  have z : cN l a = 0 ∧ cK l a = 0 := by
    rcases Nat.eq_zero_or_pos (rdP S a) with q | q
    · constructor
      · refine cN_0 (fun x hx q1 q2 => ?_)
        obtain ⟨f, t, hf, _, e1, _, _, _, e3⟩ := x1.1 x hx q1
        have : f = a := (nI_eq (by omega) (by omega)).mp (e1.symm.trans q2)
        rw [this] at e3; omega
      · refine cK_0 (fun x hx q1 q2 => ?_)
        obtain ⟨f, t, _, ht, _, e1, _, _, e3⟩ := x1.2.1 x hx q1
        have : t = a := (nI_eq (by omega) (by omega)).mp (e1.symm.trans q2)
        rw [this] at e3; omega
    · have e1 := x1.2.2 a ha q
      have e2 := hop q
      omega
  refine ⟨⟨fun x hx h0 => ?_, fun x hx h0 => ?_, fun b hb hr => ?_⟩, ?_, fun t f ht hf hp => ?_, fun u c hu hc huc => ?_, fun x b r hx hb hl h1r h2r => ?_⟩
  · rw [List.append_assoc] at hx
    rcases List.mem_append.mp hx with q | q
    · obtain ⟨f, t, hf, ht, e1, e2, e3, e4, e5⟩ := x1.1 x q h0
      have hfa : f ≠ a := fun e => by
        have := cN_mem q h0 (by rw [e1, e])
        omega
      exact ⟨f, t, hf, ht, e1, e2, e3, by rw [rno hfa]; exact e4, by rw [rno hfa]; exact e5⟩
    · rcases List.mem_append.mp q with q | q
      · rw [hG x q] at h0; exact absurd h0 (by decide)
      · obtain ⟨b, hb, hl, rfl⟩ := hN x q
        exact ⟨a, b, ha, hb, rfl, rfl, hl, by rw [rse], by rw [rse]; omega⟩
  · rw [List.append_assoc] at hx
    rcases List.mem_append.mp hx with q | q
    · obtain ⟨f, t, hf, ht, e1, e2, e3, e4, e5⟩ := x1.2.1 x q h0
      have hta : t ≠ a := fun e => by
        have := cK_mem q h0 (by rw [e2, e])
        omega
      exact ⟨f, t, hf, ht, e1, e2, e3, by rw [rno hta]; exact e4, by rw [rno hta]; exact e5⟩
    · exact absurd h0 (no 1 (by decide) (by decide) x q)
  · rw [List.append_assoc, cN_app, cK_app, cN_app, cK_0 (l := Gl ++ N) (fun x hx q _ => no 1 (by decide) (by decide) x hx q), cN_0 (l := Gl) (fun x hx q _ => by rw [hG x hx] at q; exact absurd q (by decide))]
    by_cases e : b = a
    · rw [e, z.1, z.2]
      have : cN N a = N.length := by
        unfold cN
        refine List.countP_eq_length.mpr (fun x hx => ?_)
        obtain ⟨b, _, _, rfl⟩ := hN x hx
        exact decide_eq_true ⟨rfl, rfl⟩
      rw [this]
      show fup (opP S) a (N.length : Int) a = _
      rw [fup_s]
      omega
    · rw [rno e] at hr
      have : cN N b = 0 := cN_0 (fun x hx _ q => by
        obtain ⟨c, _, _, rfl⟩ := hN x hx
        exact e ((nI_eq (by omega) (by omega)).mp q).symm)
      rw [this]
      show fup (opP S) a (N.length : Int) b = _
      rw [fup_n e, x1.2.2 b hb hr]
      omega
  · rw [List.append_assoc]
    exact x3.app (fun f q h => FlR_rd h) _ (no 2 (by decide) (by decide))
  · obtain ⟨g1, g2⟩ := x4 t f ht hf hp
    by_cases e : t = a
    · rw [e] at hp g1 ⊢
      refine ⟨fun q q1 q2 => ?_, fun _ _ hd => ?_⟩
      · rw [rse] at q2
        by_cases eq : q = rdP S a
        · rw [eq] at q1 ⊢; exact h1 q1 f hf hp
        · exact g1 q q1 (by omega)
      · have hd : fup (dnP S) a false a = true := hd
        rw [fup_s] at hd; exact absurd hd (by decide)
    · refine ⟨fun q q1 q2 => g1 q q1 (by rw [rno e] at q2; exact q2), fun w hr hd => ?_⟩
      rw [rno e] at hr ⊢
      have hd : fup (dnP S) a false t = true := hd
      rw [fup_n e] at hd
      exact g2 w hr hd
  · obtain ⟨g1, g2⟩ := x5 u c hu hc huc
    refine ⟨fun q q1 q2 => ?_, fun q hq => ?_⟩
    · by_cases e : u = a
      · rw [e, rse] at q2
        by_cases eq : q = rdP S a
        · rw [e] at huc ⊢
          rw [eq] at q1 ⊢; exact h2 q1 c hc huc
        · exact g1 q q1 (by rw [e]; omega)
      · exact g1 q q1 (by rw [rno e] at q2; exact q2)
    · rw [List.append_assoc, cX_app 3 l, cX_app 6 l, cX_0 (l := Gl ++ N) (fun x hx q _ _ _ => no 3 (by decide) (by decide) x hx q), cX_0 (l := Gl ++ N) (fun x hx q _ _ _ => no 6 (by decide) (by decide) x hx q)]
      exact g2 q hq
  · refine SfR_rd ?_
    by_cases e : ld x = a
    · rw [e, rse] at h2r
      by_cases eq : r = rdP S a
      · rw [eq] at h1r ⊢; exact hV h1r x b hx hb e hl
      · exact xv x b r hx hb hl h1r (by rw [e]; omega)
    · exact xv x b r hx hb hl h1r (by rw [rno e] at h2r; exact h2r)
theorem cP_erase {P : Lt → Bool} {i : Nat} {x : Lt} (h : l[i]? = some x) : l.countP P = (l.eraseIdx i).countP P + (if P x = true then 1 else 0) := by
  have hi : i < l.length := by
    rcases Nat.lt_or_ge i l.length with q | q
    · exact q
    · rw [List.getElem?_eq_none q] at h; exact absurd h (by simp)
  have e : l = l.take i ++ x :: l.drop (i + 1) := by
    have hx : l[i] = x := by
      rw [List.getElem?_eq_getElem hi] at h
      exact Option.some.inj h
    rw [← hx, List.getElem_cons_drop hi, List.take_append_drop]
  have e2 : l.eraseIdx i = l.take i ++ l.drop (i + 1) := List.eraseIdx_eq_take_drop_succ l i
  rw [e2]
  conv => lhs; rw [e]
  rw [List.countP_append, List.countP_append, List.countP_cons]
  omega
/-- a letter goes: nothing grows -/
theorem X3.less (h : X3 n R W pa S cm l) {i : Nat} : X3 n R W pa S cm (l.eraseIdx i) := by
  obtain ⟨h1, h2, h3⟩ := h
  refine ⟨fun x hx => h1 x (List.mem_of_mem_eraseIdx hx), h2, fun f t q hf ht hq => ?_⟩
  have := h3 f t q hf ht hq
  have : cX 2 (l.eraseIdx i) f t q ≤ cX 2 l f t q := by unfold cX; exact (List.eraseIdx_sublist l i).countP_le
  omega
theorem X5.less (h : X5 n R W up S cm l) {i : Nat} : X5 n R W up S cm (l.eraseIdx i) := by
  intro u c hu hc huc
  obtain ⟨h1, h2⟩ := h u c hu hc huc
  refine ⟨h1, fun q hq => ?_⟩
  have := h2 q hq
  have k1 : cX 3 (l.eraseIdx i) c u q ≤ cX 3 l c u q := by unfold cX; exact (List.eraseIdx_sublist l i).countP_le
  have k2 : cX 6 (l.eraseIdx i) c u q ≤ cX 6 l c u q := by unfold cX; exact (List.eraseIdx_sublist l i).countP_le
  omega
theorem X1.less (h : X1 n lk S l) {i : Nat} {x : Lt} (hx : l[i]? = some x) (h0 : ¬ x.1 = 0) (h1 : ¬ x.1 = 1) : X1 n lk S (l.eraseIdx i) := by
  obtain ⟨k1, k2, k3⟩ := h
  refine ⟨fun y hy => k1 y (List.mem_of_mem_eraseIdx hy), fun y hy => k2 y (List.mem_of_mem_eraseIdx hy), fun b hb hr => ?_⟩
  rw [k3 b hb hr]
  have e1 : cN l b = cN (l.eraseIdx i) b := by
    unfold cN; rw [cP_erase hx, if_neg (fun q => h0 (of_decide_eq_true q).1)]; rfl
  have e2 : cK l b = cK (l.eraseIdx i) b := by
    unfold cK; rw [cP_erase hx, if_neg (fun q => h1 (of_decide_eq_true q).1)]; rfl
  rw [e1, e2]
/-- a GO or a FIRM comes (what it does, comes behind) -/
theorem QX.drop (h : QX n R W lk pa up ld S cm l) {i : Nat} {x : Lt} (hx : l[i]? = some x) (h0 : ¬ x.1 = 0) (h1 : ¬ x.1 = 1) : QX n R W lk pa up ld S cm (l.eraseIdx i) := ⟨h.1.less hx h0 h1, h.2.1.less, h.2.2.1, h.2.2.2.1.less, h.2.2.2.2⟩
/-- came, with one more -/
def cmU (cm : CM) (w a b q : Nat) : CM := fun w' a' b' q' => if w' = w ∧ a' = a ∧ b' = b ∧ q' = q then true else cm w' a' b' q'
theorem cmU_up {w a b q w' a' b' q' : Nat} (h : cm w' a' b' q' = true) : cmU cm w a b q w' a' b' q' = true := by
  unfold cmU; split
  · rfl
  · exact h
theorem cmU_ne {w a b q w' a' b' q' : Nat} (h : ¬ (w' = w ∧ a' = a ∧ b' = b ∧ q' = q)) : cmU cm w a b q w' a' b' q' = cm w' a' b' q' := by unfold cmU; rw [if_neg h]
theorem cmU_eq {w a b q : Nat} : cmU cm w a b q w a b q = true := by unfold cmU; rw [if_pos ⟨rfl, rfl, rfl, rfl⟩]
/-- a NOTE comes: an ACK goes back -/
theorem QX.note (hn : n ≤ 12) (h : QX n R W lk pa up ld S cm l) {i f t : Nat} {v : Int32} (hf : f < n) (ht : t < n) (hl : lk f t = true) (hr : 1 ≤ rdP S f) (hx : l[i]? = some (0, nI f, nI t, nI (rdP S f), v)) : QX n R W lk pa up ld S (cmU cm 0 t f (rdP S f)) (l.eraseIdx i ++ [(1, nI t, nI f, nI (rdP S f), 0)]) := by
  obtain ⟨x1, x3, x4, x5, xv⟩ := h
  have e : ∀ w' a' b' q', ¬ w' = 0 → cmU cm 0 t f (rdP S f) w' a' b' q' = cm w' a' b' q' := fun w' a' b' q' h => cmU_ne (fun q => h q.1)
  have y3 : X3 n R W pa S (cmU cm 0 t f (rdP S f)) (l.eraseIdx i) := by
    obtain ⟨h1, h2, h3⟩ := x3.less (i := i)
    exact ⟨h1, fun f' t' q hf ht hc => h2 f' t' q hf ht (by rw [e 1 _ _ _ (by decide)] at hc; exact hc), fun f' t' q hf ht hq => by rw [e 1 _ _ _ (by decide)]; exact h3 f' t' q hf ht hq⟩
  have y5 : X5 n R W up S (cmU cm 0 t f (rdP S f)) (l.eraseIdx i) := by
    intro u c hu hc huc
    obtain ⟨h1, h2⟩ := x5.less (i := i) u c hu hc huc
    exact ⟨fun q q1 q2 => by rw [e 2 _ _ _ (by decide), e 3 _ _ _ (by decide)]; exact h1 q q1 q2, fun q hq => by rw [e 2 _ _ _ (by decide), e 3 _ _ _ (by decide)]; exact h2 q hq⟩
  have kinds : ∀ k : Int32, ¬ k = 1 → ∀ x, x ∈ ([(1, nI t, nI f, nI (rdP S f), 0)] : List Lt) → ¬ x.1 = k := fun k hk x hx q => by
    rw [List.mem_singleton.mp hx] at q; exact hk q.symm
  refine ⟨⟨fun x hx h0 => ?_, fun x hx h0 => ?_, fun b hb hrb => ?_⟩, y3.app (fun f q h => h) _ (kinds 2 (by decide)), fun t' f' ht hf hp => ?_, y5.app rfl _ (fun x hx => ⟨kinds 3 (by decide) x hx, kinds 6 (by decide) x hx⟩), xv⟩
  · rcases List.mem_append.mp hx with q | q
    · exact x1.1 x (List.mem_of_mem_eraseIdx q) h0
    · exact absurd h0 (kinds 0 (by decide) x q)
  · rcases List.mem_append.mp hx with q | q
    · exact x1.2.1 x (List.mem_of_mem_eraseIdx q) h0
    · rw [List.mem_singleton.mp q]
      exact ⟨t, f, ht, hf, rfl, rfl, hl, rfl, hr⟩
  · rw [x1.2.2 b hb hrb, cN_app, cK_app, cN_0 (l := [(1, nI t, nI f, nI (rdP S f), 0)]) (fun x hx q _ => kinds 0 (by decide) x hx q)]
    have e1 : cN l b = cN (l.eraseIdx i) b + (if b = f then 1 else 0) := by
      unfold cN
      rw [cP_erase hx]
      congr 1
      by_cases eb : b = f
      · rw [if_pos eb, if_pos (decide_eq_true ⟨rfl, by rw [eb]⟩)]
      · rw [if_neg eb, if_neg (fun q => eb ((nI_eq (by omega) (by omega)).mp (of_decide_eq_true q).2).symm)]
    have e2 : cK l b = cK (l.eraseIdx i) b := by
      unfold cK; rw [cP_erase hx, if_neg (fun q => absurd (of_decide_eq_true q).1 (show ¬ (0 : Int32) = 1 by decide))]; rfl
    have e3 : cK [((1, nI t, nI f, nI (rdP S f), 0) : Lt)] b = if b = f then 1 else 0 := by
      unfold cK
      rw [List.countP_singleton]
      by_cases eb : b = f
      · rw [if_pos eb, if_pos (decide_eq_true ⟨rfl, by rw [eb]⟩)]
      · rw [if_neg eb, if_neg (fun q => eb ((nI_eq (by omega) (by omega)).mp (of_decide_eq_true q).2).symm)]
    rw [e1, e2, e3]
    omega
  · rw [show ∀ q, cmU cm 0 t f (rdP S f) 1 t' f' q = cm 1 t' f' q from fun q => e 1 _ _ _ (by decide)]
    refine ⟨fun q q1 q2 => ?_, (x4 t' f' ht hf hp).2⟩
    rw [e 1 _ _ _ (by decide)]; exact (x4 t' f' ht hf hp).1 q q1 q2
/-- an ACK comes -/
theorem QX.ack (hn : n ≤ 12) (h : QX n R W lk pa up ld S cm l) {i f t : Nat} {r v : Int32} (ht : t < n) (hx : l[i]? = some (1, nI f, nI t, r, v)) : QX n R W lk pa up ld (setOp S t (opP S t - 1)) cm (l.eraseIdx i) := by
  obtain ⟨x1, x3, x4, x5, xv⟩ := h
  refine ⟨⟨fun x hx h0 => x1.1 x (List.mem_of_mem_eraseIdx hx) h0, fun x hx h0 => x1.2.1 x (List.mem_of_mem_eraseIdx hx) h0, fun b hb hrb => ?_⟩, x3.less, x4, x5.less, xv⟩
  have e0 := x1.2.2 b hb hrb
  have e1 : cN l b = cN (l.eraseIdx i) b := by
    unfold cN; rw [cP_erase hx, if_neg (fun q => absurd (of_decide_eq_true q).1 (show ¬ (1 : Int32) = 0 by decide))]; rfl
  have e2 : cK l b = cK (l.eraseIdx i) b + (if b = t then 1 else 0) := by
    unfold cK
    rw [cP_erase hx]
    congr 1
    by_cases eb : b = t
    · rw [if_pos eb, if_pos (decide_eq_true ⟨rfl, by rw [eb]⟩)]
    · rw [if_neg eb, if_neg (fun q => eb ((nI_eq (by omega) (by omega)).mp (of_decide_eq_true q).2).symm)]
  show fup (opP S) t (opP S t - 1) b = _
  by_cases eb : b = t
  · rw [eb, fup_s]
    rw [eb, if_pos rfl] at e2
    rw [eb] at e0 e1
    rw [e0, e1, e2]; omega
  · rw [fup_n eb, e0, e1, e2, if_neg eb]; rfl
/-- a SAFE, READY or DONE comes -/
theorem QX.came (hn : n ≤ 12) (hR : R ≤ 20) (h : QX n R W lk pa up ld S cm l) {i f t q w : Nat} {k v : Int32} (hf : f < n) (ht : t < n) (hq1 : 1 ≤ q) (hqR : q ≤ R) (hx : l[i]? = some (k, nI f, nI t, nI q, v)) (hk : (k = 2 ∧ w = 1 ∧ pa f t = true ∧ FlR W S f q) ∨ (k = 3 ∧ w = 2) ∨ (k = 6 ∧ w = 3)) : QX n R W lk pa up ld S (cmU cm w t f q) (l.eraseIdx i) := by
  obtain ⟨x1, x3, x4, x5, xv⟩ := h
  have k01 : ¬ k = 0 ∧ ¬ k = 1 := by
    rcases hk with ⟨h, _⟩ | ⟨h, _⟩ | ⟨h, _⟩ <;> rw [h] <;> decide
  have cnt : ∀ (k' : Int32) f' t' q', f' < n → t' < n → q' ≤ R → cX k' l f' t' q' = cX k' (l.eraseIdx i) f' t' q' + (if k = k' ∧ f = f' ∧ t = t' ∧ q = q' then 1 else 0) := by
    intro k' f' t' q' hf' ht' hq'
    unfold cX
    rw [cP_erase hx]
    congr 1
    by_cases e : k = k' ∧ f = f' ∧ t = t' ∧ q = q'
    · rw [if_pos e, if_pos (decide_eq_true ⟨e.1, by rw [e.2.1], by rw [e.2.2.1], by rw [e.2.2.2]⟩)]
    · rw [if_neg e, if_neg]
      intro p
      obtain ⟨p1, p2, p3, p4⟩ := of_decide_eq_true p
      exact e ⟨p1, (nI_eq (by omega) (by omega)).mp p2, (nI_eq (by omega) (by omega)).mp p3, (nI_eq (by omega) (by omega)).mp p4⟩
  -- a count and what came change places
  have swap : ∀ (k' : Int32) (w' f' t' q' : Nat), f' < n → t' < n → q' ≤ R → (w' = w → k' = k) → cX k' l f' t' q' + b2n (cm w' t' f' q') ≤ 1 → cX k' (l.eraseIdx i) f' t' q' + b2n (cmU cm w t f q w' t' f' q') ≤ 1 := by
    intro k' w' f' t' q' hf' ht' hq' hkw hle
    have := cnt k' f' t' q' hf' ht' hq'
    by_cases e : w' = w ∧ t' = t ∧ f' = f ∧ q' = q
    · obtain ⟨e1, e2, e3, e4⟩ := e
      rw [if_pos ⟨(hkw e1).symm, e3.symm, e2.symm, e4.symm⟩] at this
      have h1 := b2n_le (cmU cm w t f q w' t' f' q')
      omega
    · rw [cmU_ne e]
      omega
  refine ⟨x1.less hx k01.1 k01.2, ⟨fun x hx => x3.1 x (List.mem_of_mem_eraseIdx hx), fun f' t' q' hf' ht' hc => ?_, fun f' t' q' hf' ht' hq' => ?_⟩, fun t' f' ht' hf' hp => ⟨fun q' h1 h2 => cmU_up ((x4 t' f' ht' hf' hp).1 q' h1 h2), fun hw hr hd => cmU_up ((x4 t' f' ht' hf' hp).2 hw hr hd)⟩, fun u c hu hc huc => ⟨fun q' h1 h2 => ?_, fun q' hq' => ?_⟩, xv⟩
  · by_cases e : 1 = w ∧ t' = t ∧ f' = f ∧ q' = q
    · rcases hk with ⟨_, _, h3, h4⟩ | ⟨_, h⟩ | ⟨_, h⟩
      · rw [e.2.1, e.2.2.1, e.2.2.2]; exact ⟨hq1, h3, h4⟩
      · omega
      · omega
    · rw [cmU_ne e] at hc; exact x3.2.1 f' t' q' hf' ht' hc
  · refine swap 2 1 f' t' q' hf' ht' hq' (fun e => ?_) (x3.2.2 f' t' q' hf' ht' hq')
    rcases hk with ⟨h, _⟩ | ⟨_, h⟩ | ⟨_, h⟩
    · exact h.symm
    · omega
    · omega
  · obtain ⟨g1, g2⟩ := (x5 u c hu hc huc).1 q' h1 h2
    exact ⟨cmU_up g1, fun hw => cmU_up (g2 hw)⟩
  · obtain ⟨g1, g2⟩ := (x5 u c hu hc huc).2 q' hq'
    refine ⟨swap 3 2 c u q' hc hu hq' (fun e => ?_) g1, swap 6 3 c u q' hc hu hq' (fun e => ?_) g2⟩
    · rcases hk with ⟨_, h, _⟩ | ⟨h, _⟩ | ⟨_, h⟩
      · omega
      · exact h.symm
      · omega
    · rcases hk with ⟨_, h, _⟩ | ⟨_, h⟩ | ⟨h, _⟩
      · omega
      · omega
      · exact h.symm
end QXB
end
