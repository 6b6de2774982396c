-- The frame: who is whose upper, leader, partner; the class's setUp, exactly
section FRF
variable (W n src : Nat) (lk : Nat → Nat → Bool) (k : Int32)
def upF (c : Nat) : Option Nat := if W = 0 then none else if W = 1 then (tS n src (fun c => zIn (zAll (nI n)) (nI c)) lk n c).bind Prod.snd else (tI2 n lk k (Ldr n lk k c) c).bind Prod.snd
def ldF (c : Nat) : Nat := if W = 0 then c else if W = 1 then src else Ldr n lk k c
def paF (a b : Nat) : Bool := if W = 0 then lk a b else if W = 1 then false else chB n lk (Ldr n lk k) a b
def clN : Nat := if W = 2 then cL n lk k n else 1
def chN : Nat := if W = 2 then cA n lk (Ldr n lk k) n + cR n lk (Ldr n lk k) n (n + 1) else 0
end FRF
def encU (o : Option Nat) : Int32 := match o with
  | some b => nI b
  | none => -2
theorem upE_enc (o : Option (Nat × Option Nat)) : upE o = encU (o.bind Prod.snd) := by
  cases o with
  | none => rfl
  | some p =>
    obtain ⟨j, u⟩ := p
    cases u with
    | none => rfl
    | some b => rfl
theorem encU_iff {o : Option Nat} {u : Nat} (ho : ∀ b, o = some b → b < 12) (hu : u < 12) : encU o = nI u ↔ o = some u := by
  cases o with
  | none => exact ⟨fun h => absurd h.symm (nI_ne_m2 (by omega)), fun h => absurd h (by simp)⟩
  | some b =>
    have := ho b rfl
    show nI b = nI u ↔ some b = some u
    rw [nI_eq (by omega) (by omega)]
    exact ⟨fun h => by rw [h], fun h => Option.some.inj h⟩
theorem abE_in {n root : Nat} {s : Nat → Bool} {lk : Nat → Nat → Bool} {t c d : Nat} (hn : n ≤ 12) (hd : d < 32) : zIn (abE (tS n root s lk t c)) (nI d) = true ↔ (tS n root s lk t c).bind Prod.snd = some d := by
  cases hq : tS n root s lk t c with
  | none =>
    show zIn 0 (nI d) = true ↔ _
    rw [zIn_0 hd]
    exact ⟨fun h => absurd h (by decide), fun h => absurd h (by simp)⟩
  | some p =>
    obtain ⟨j, u⟩ := p
    cases u with
    | none =>
      show zIn 0 (nI d) = true ↔ _
      rw [zIn_0 hd]
      exact ⟨fun h => absurd h (by decide), fun h => absurd h (by simp)⟩
    | some b =>
      have hb : b < n := by
        rcases (tS_ok hq).2 with ⟨_, _, q⟩ | ⟨_, e, i, _, q, hd, _⟩
        · exact absurd q (by simp)
        · rw [Option.some.inj q]; exact hd
      show zIn ((1 : Int32) <<< (nI b &&& 31)) (nI d) = true ↔ some b = some d
      rw [zIn_bit (by omega) hd, decide_eq_true_eq]
      exact ⟨fun h => by rw [h], fun h => (Option.some.inj h).symm⟩
/-- an upper is another node of the net, linked, and who has one is no root -/
theorem tS_up {n root : Nat} {s : Nat → Bool} {lk : Nat → Nat → Bool} {t c u : Nat} (h : (tS n root s lk t c).bind Prod.snd = some u) : u < n ∧ u ≠ c ∧ c ≠ root ∧ s c = true ∧ s u = true ∧ lk c u = true := by
  cases hq : tS n root s lk t c with
  | none => rw [hq] at h; exact absurd h (by simp)
  | some p =>
    obtain ⟨j, v⟩ := p
    rw [hq] at h
    have h : v = some u := h
    rcases (tS_ok hq).2 with ⟨_, _, q⟩ | ⟨hs, b, i, e1, e2, hb, hsb, hlb, w, hw⟩
    · rw [q] at h; exact absurd h (by simp)
    · rw [e2] at h
      have eb : b = u := Option.some.inj h
      rw [eb] at hb hsb hlb hw
      refine ⟨hb, fun e => ?_, fun e => ?_, hs, hsb, hlb⟩
      · rw [e] at hw
        have hle : i ≤ t := by have := (tS_ok hq).1; omega
        have := tS_mono hle hw
        rw [hq] at this
        have := congrArg Prod.fst (Option.some.inj this)
        have : j = i := this
        omega
      · have h0 : tS n root s lk 0 c = some (0, none) := by rw [tS_0, if_pos e]
        have := tS_mono (Nat.zero_le t) h0
        rw [hq] at this
        have := congrArg Prod.fst (Option.some.inj this)
        have : j = 0 := this
        omega
theorem upF_ok {W n src : Nat} {lk : Nat → Nat → Bool} {k : Int32} {c u : Nat} (hn : n ≤ 12) (hc : c < n) (h : upF W n src lk k c = some u) : u < n ∧ u ≠ c ∧ lk c u = true ∧ ldF W n src lk k u = ldF W n src lk k c ∧ ¬ ldF W n src lk k c = c ∧ ¬ W = 0 := by
  unfold upF at h
  by_cases w0 : W = 0
  · rw [if_pos w0] at h; exact absurd h (by simp)
  · rw [if_neg w0] at h
    unfold ldF
    rw [if_neg w0, if_neg w0]
    by_cases w1 : W = 1
    · rw [if_pos w1] at h
      rw [if_pos w1, if_pos w1]
      obtain ⟨h1, h2, h3, _, _, h6⟩ := tS_up h
      exact ⟨h1, h2, h6, rfl, Ne.symm h3, w0⟩
    · rw [if_neg w1] at h
      rw [if_neg w1, if_neg w1]
      obtain ⟨h1, h2, h3, h4, h5, h6⟩ := tS_up h
      obtain ⟨l1, l2, l3⟩ := Ldr_ok (lk := lk) (k := k) hn hc
      exact ⟨h1, h2, h6, Ldr_of hn l1 h1 l2 h5, Ne.symm h3, w0⟩
/-- the class's frame -/
def CFr (σ : zSt) (W n src : Nat) (lk : Nat → Nat → Bool) (k : Int32) : Prop :=
  (∀ c, c < n → σ 9 c = nI (ldF W n src lk k c) ∧ σ 10 c = encU (upF W n src lk k c) ∧ ∀ d, d < 32 → (zIn (σ 12 c) (nI d) = true ↔ upF W n src lk k c = some d))
  ∧ (∀ u c, u < 12 → c < 32 → (zIn (σ 13 u) (nI c) = true ↔ (c < n ∧ upF W n src lk k c = some u)))
  ∧ (∀ a b, a < n → b < 32 → (zIn (σ 14 a) (nI b) = true ↔ (b < n ∧ paF W n lk k a b = true)))
  ∧ σ 3 0 = nI (clN W n lk k) ∧ σ 3 1 = nI (chN W n lk k)
theorem CFr.tree {σ : zSt} {W n src : Nat} {lk : Nat → Nat → Bool} {k : Int32} (hn : n ≤ 12) (hs : src < 12) (h : CFr σ W n src lk k) : TreeOK σ ∧ (W = 0 → ∀ u, u < 12 → ∀ c, c < 32 → zIn (σ 13 u) (nI c) = false) := by
  refine ⟨fun c u hc hu hz => ?_, fun w0 u hu c hc => ?_⟩
  · obtain ⟨hcn, hup⟩ := (h.2.1 u c hu (by omega)).mp hz
    obtain ⟨h1, h2, h3, h4, h5, h6⟩ := upF_ok hn hcn hup
    obtain ⟨k1, k2, _⟩ := h.1 c hcn
    refine ⟨by rw [k2, hup]; rfl, h2, fun e => ?_⟩
    rw [k1] at e
    have hl : ldF W n src lk k c < 12 := by
      unfold ldF
      split
      · omega
      · split
        · exact hs
        · have := (Ldr_ok (lk := lk) (k := k) hn hcn).1
          omega
    exact h5 ((nI_eq (by omega) (by omega)).mp e)
  · cases hz : zIn (σ 13 u) (nI c) with
    | false => rfl
    | true =>
      exfalso
      have := ((h.2.1 u c hu hc).mp hz).2
      unfold upF at this
      rw [if_pos w0] at this
      exact absurd this (by simp)
theorem s_Frame_clear2 (G : zG) (σ : zSt) : zV G 1 M_Frame_clear [zf G 3] σ (fun τ => zFr FFrame σ τ ∧ τ 3 0 = 1 ∧ τ 3 1 = 0 ∧ ∀ c, c < 12 → τ 9 c = -2 ∧ τ 10 c = -2 ∧ τ 11 c = -2 ∧ τ 12 c = 0 ∧ τ 13 c = 0 ∧ τ 14 c = 0 ∧ τ 15 c = 0) := by
  refine zSpec.of (by decide) (Nat.le_of_ble_eq_true rfl) rfl (fun X E => ?_)
  refine b_Frame_clear_0 E σ ?_
  rintro σ1 e1 σ2 e2
  refine ⟨_, s_fill G 9 12 rfl (by decide) _ _, fun σ3 e3 => ?_⟩
  refine ⟨_, s_fill G 10 12 rfl (by decide) _ _, fun σ4 e4 => ?_⟩
  refine ⟨_, s_fill G 11 12 rfl (by decide) _ _, fun σ5 e5 => ?_⟩
  refine ⟨_, s_fill G 12 12 rfl (by decide) _ _, fun σ6 e6 => ?_⟩
  refine ⟨_, s_fill G 13 12 rfl (by decide) _ _, fun σ7 e7 => ?_⟩
  refine ⟨_, s_fill G 14 12 rfl (by decide) _ _, fun σ8 e8 => ?_⟩
  refine ⟨_, s_fill G 15 12 rfl (by decide) _ _, fun σ9 e9 => ?_⟩
  have e3c : σ9 3 = upd (upd (σ 3) 0 1) 1 0 := by
    rw [e9, zfill_ne (by decide), e8, zfill_ne (by decide), e7, zfill_ne (by decide), e6, zfill_ne (by decide), e5, zfill_ne (by decide), e4, zfill_ne (by decide), e3, zfill_ne (by decide), e2, zup_self, e1, zup_self]
  refine ⟨rfl, ?_, by rw [e3c, upd_ne (by decide), upd_eq], by rw [e3c, upd_eq], fun c hc => ⟨?_, ?_, ?_, ?_, ?_, ?_, ?_⟩⟩
  · rw [e9, e8, e7, e6, e5, e4, e3, e2, e1]
    exact ((((((((zFr.rf.up (by decide)).up (by decide)).fill (by decide)).fill (by decide)).fill (by decide)).fill (by decide)).fill (by decide)).fill (by decide)).fill (by decide)
  · rw [e9, zfill_ne (by decide), e8, zfill_ne (by decide), e7, zfill_ne (by decide), e6, zfill_ne (by decide), e5, zfill_ne (by decide), e4, zfill_ne (by decide), e3]; simp [zfill, hc]
  · rw [e9, zfill_ne (by decide), e8, zfill_ne (by decide), e7, zfill_ne (by decide), e6, zfill_ne (by decide), e5, zfill_ne (by decide), e4]; simp [zfill, hc]
  · rw [e9, zfill_ne (by decide), e8, zfill_ne (by decide), e7, zfill_ne (by decide), e6, zfill_ne (by decide), e5]; simp [zfill, hc]
  · rw [e9, zfill_ne (by decide), e8, zfill_ne (by decide), e7, zfill_ne (by decide), e6]; simp [zfill, hc]
  · rw [e9, zfill_ne (by decide), e8, zfill_ne (by decide), e7]; simp [zfill, hc]
  · rw [e9, zfill_ne (by decide), e8]; simp [zfill, hc]
  · rw [e9]; simp [zfill, hc]
theorem s_Frame_standAlone2 (G : zG) (σ : zSt) (n : Nat) (hn : σ 2 0 = nI n) (hle : n ≤ 12) : zV G 0 M_Frame_standAlone [zf G 3, zf G 2] σ (fun τ => zFr [9, 14] σ τ ∧ ∀ c, c < n → τ 9 c = nI c ∧ τ 14 c = σ 7 c) := by
  refine zSpec.of (by decide) (Nat.le_of_ble_eq_true rfl) rfl (fun X E => ?_)
  refine b_Frame_standAlone_0 E σ ?_
  refine z_for n (fun i τ => zZ G M_Frame_standAlone 0 X (fun r τ => r = none ∧ zFr [9, 14] σ τ ∧ ∀ c, c < n → τ 9 c = nI c ∧ τ 14 c = σ 7 c) 2 [(0, zf G 3), (1, zf G 2), (2, .int (nI i))] [] τ) (fun i τ => zFr [9, 14] σ τ ∧ ∀ c, c < i → τ 9 c = nI c ∧ τ 14 c = σ 7 c) ?_ ?_ 0 σ (Nat.zero_le _) ⟨zFr.rf, fun c hc => absurd hc (Nat.not_lt_zero c)⟩
  · intro i τ hi ⟨hF, hI⟩ ih
    have ii : vp_in (nI i) 12 := vp_in_nI (by omega) (by decide)
    have ci : (nI i).toNatClampNeg = i := nI_clamp (by omega)
    refine b_Frame_standAlone_2 E (nI i) τ ⟨fun q => absurd q (by rw [hF 2 (by decide), hn]; exact nI_ge hi (by omega)), fun _ => ⟨ii, fun σ1 e1 => ⟨ii, ii, fun σ2 e2 => ?_⟩⟩⟩
    rw [nI_1]
    rw [ci] at e1 e2
    have q9 : σ2 9 = upd (τ 9) i (nI i) := by rw [e2, zup_ne (by decide), e1, zup_self]
    have q14 : σ2 14 = upd (τ 14) i (σ 7 i) := by rw [e2, zup_self, e1, zup_ne (by decide), zup_ne (by decide), hF 7 (by decide)]
    refine ih σ2 ⟨by rw [e2, e1]; exact (hF.up (by decide)).up (by decide), fun c hc => ?_⟩
    rw [q9, q14]
    by_cases e : c = i
    · rw [e, upd_eq, upd_eq]; exact ⟨rfl, rfl⟩
    · rw [upd_ne e, upd_ne e]; exact hI c (by omega)
  · intro τ ⟨hF, hI⟩
    exact b_Frame_standAlone_2 E (nI n) τ ⟨fun _ => ⟨rfl, hF, hI⟩, fun q => absurd (by rw [hF 2 (by decide), hn]; exact nI_le (Nat.le_refl n) (by omega)) q⟩
set_option maxHeartbeats 1000000 in
theorem s_Frame_setUp2 (G : zG) (σ : zSt) (W n s : Nat) (k : Int32) (lk : Nat → Nat → Bool) (hW : W ≤ 2) (hn : σ 2 0 = nI n) (hle : n ≤ 12) (hs : s < n) (hlk : ∀ a b, a < n → b < n → zIn (σ 7 a) (nI b) = lk a b) (hhi : ∀ a c, a < n → n ≤ c → c < 32 → zIn (σ 7 a) (nI c) = false) : zV G 4 M_Frame_setUp [zf G 3, zf G 2, .int (nI W), .int (nI s), .int k] σ (fun τ => zFr FFrame σ τ ∧ CFr τ W n s lk k) := by
  refine zSpec.of (by decide) (Nat.le_of_ble_eq_true rfl) rfl (fun X E => ?_)
  refine b_Frame_setUp_0 E (nI W) (nI s) k σ ⟨_, s_Frame_clear2 G σ, fun σ1 ⟨g1, g2, g3, g4⟩ => ?_⟩
  have hn1 : σ1 2 0 = nI n := by rw [g1 2 (by decide)]; exact hn
  have h7 : σ1 7 = σ 7 := g1 7 (by decide)
  have w0 : nI W = 0 ↔ W = 0 := nI_eq (a := W) (b := 0) (by omega) (by omega)
  have w1 : nI W = 1 ↔ W = 1 := nI_eq (a := W) (b := 1) (by omega) (by omega)
  rw [w0, w1]
  refine ⟨fun h0 => ⟨fun h1 => ?_, fun h1 => ?_⟩, fun h0 => ?_⟩
  · -- clusters
    have hW2 : W = 2 := by omega
    refine ⟨_, s_Frame_makeClusters2 G σ1 n k lk hn1 hle (by rw [h7]; exact hlk) (by rw [h7]; exact hhi) (fun c hc => ⟨(g4 c hc).2.2.1, (g4 c hc).2.1, (g4 c hc).2.2.2.1, (g4 c hc).2.2.2.2.1⟩), fun σ2 ⟨k1, k2, k3, _, k5, k6⟩ => ?_⟩
    have hL : ∀ c, c < n → σ2 9 c = nI (Ldr n lk k c) ∧ σ2 10 c = upE (tI2 n lk k (Ldr n lk k c) c) ∧ σ2 12 c = abE (tI2 n lk k (Ldr n lk k c) c) := fun c hc => by
      obtain ⟨l1, l2, l3⟩ := Ldr_ok (lk := lk) (k := k) hle hc
      exact k5 _ c l1 hc l2 l3
    refine ⟨_, s_Frame_chooseLinks2 G σ2 n lk (Ldr n lk k) (by rw [k1 2 (by decide)]; exact hn1) hle (fun c hc => ⟨(hL c hc).1, (Ldr_ok hle hc).1⟩) (by rw [k1 7 (by decide), h7]; exact hlk) (fun c hc => by rw [k1 14 (by decide), k1 15 (by decide)]; exact ⟨(g4 c hc).2.2.2.2.2.1, (g4 c hc).2.2.2.2.2.2⟩) (k3.trans g3), fun σ3 ⟨m1, m2, m3, m4, m5⟩ => ⟨rfl, (g1.tr (k1.mono (by decide))).tr (m1.mono (by decide)), ⟨fun c hc => ?_, fun u c hu hc => ?_, fun a b ha hb => ?_, ?_, ?_⟩⟩⟩
    · obtain ⟨q1, q2, q3⟩ := hL c hc
      unfold ldF upF
      rw [if_neg h0, if_neg h1, if_neg h0, if_neg h1, m1 9 (by decide), m1 10 (by decide), m1 12 (by decide), q1, q2, q3]
      exact ⟨rfl, upE_enc _, fun d hd => abE_in hle hd⟩
    · rw [m1 13 (by decide), k6 u c hu hc]
      refine and_congr_right (fun hcn => ?_)
      unfold upF
      rw [if_neg h0, if_neg h1, (hL c hcn).2.1]
      exact upE_iff hle hu
    · unfold paF
      rw [if_neg h0, if_neg h1]
      rw [m5 a b (by omega) hb]
      exact ⟨fun q => ⟨q.2.1, (chP_n ha q.2.1).mp q.2.2⟩, fun q => ⟨ha, q.1, (chP_n ha q.1).mpr q.2⟩⟩
    · unfold clN; rw [if_pos hW2, m2, k2]
    · unfold chN; rw [if_pos hW2]; exact m3
  · -- the tree of the source
    rw [hn1]
    have ha : ∀ c, c < n → zIn (zAll (nI n)) (nI c) = true := fun c hc => all_in hle hc
    refine ⟨_, s_Frame_growTree2 G σ1 n s (zAll (nI n)) lk hn1 hle hs (ha s hs) (by rw [h7]; exact hlk) (fun c hc _ => ⟨(g4 c (by omega)).2.2.1, (g4 c (by omega)).2.1, (g4 c (by omega)).2.2.2.1⟩), fun σ2 ⟨k1, ⟨k2, k3, k4⟩, k5⟩ => ⟨rfl, g1.tr (k1.mono (by decide)), ⟨fun c hc => ?_, fun u c hu hc => ?_, fun a b ha2 hb => ?_, ?_, ?_⟩⟩⟩
    · obtain ⟨_, q2, q3⟩ := k2 c hc (ha c hc)
      unfold ldF upF
      rw [if_neg h0, if_pos h1, if_neg h0, if_pos h1, k5 c, if_pos ⟨hc, ha c hc⟩, q2, q3]
      exact ⟨rfl, upE_enc _, fun d hd => abE_in hle hd⟩
    · rw [k4 u c hu hc, (g4 u hu).2.2.2.2.1, zIn_0 hc]
      unfold upF
      rw [if_neg h0, if_pos h1]
      exact ⟨fun q => q.elim (fun q => absurd q (by decide)) (fun q => ⟨q.1, q.2.2⟩), fun q => Or.inr ⟨q.1, ha c q.1, q.2⟩⟩
    · unfold paF
      rw [if_neg h0, if_pos h1, k1 14 (by decide), (g4 a (by omega)).2.2.2.2.2.1, zIn_0 hb]
      exact ⟨fun q => absurd q (by decide), fun q => absurd q.2 (by decide)⟩
    · unfold clN; rw [if_neg (by omega), k1 3 (by decide)]; exact g2
    · unfold chN; rw [if_neg (by omega), k1 3 (by decide)]; exact g3
  · -- each node alone
    refine ⟨_, s_Frame_standAlone2 G σ1 n hn1 hle, fun σ2 ⟨k1, k2⟩ => ⟨rfl, g1.tr (k1.mono (by decide)), ⟨fun c hc => ?_, fun u c hu hc => ?_, fun a b ha hb => ?_, ?_, ?_⟩⟩⟩
    · unfold ldF upF
      rw [if_pos h0, if_pos h0, (k2 c hc).1, k1 10 (by decide), k1 12 (by decide), (g4 c (by omega)).2.1, (g4 c (by omega)).2.2.2.1]
      exact ⟨rfl, rfl, fun d hd => by rw [zIn_0 hd]; exact ⟨fun q => absurd q (by decide), fun q => absurd q (by simp)⟩⟩
    · unfold upF
      rw [if_pos h0, k1 13 (by decide), (g4 u hu).2.2.2.2.1, zIn_0 hc]
      exact ⟨fun q => absurd q (by decide), fun q => absurd q.2 (by simp)⟩
    · unfold paF
      rw [if_pos h0, (k2 a ha).2, h7]
      by_cases hbn : b < n
      · rw [hlk a b ha hbn]
        exact ⟨fun q => ⟨hbn, q⟩, fun q => q.2⟩
      · rw [hhi a b ha (by omega) hb]
        exact ⟨fun q => absurd q (by decide), fun q => absurd q.1 hbn⟩
    · unfold clN; rw [if_neg (by omega), k1 3 (by decide)]; exact g2
    · unfold chN; rw [if_neg (by omega), k1 3 (by decide)]; exact g3
