-- The pure machine: a node begins a round, goes on, a letter comes
theorem pAct_wave {r a : Nat} {me : Bool} {mk : Int32} {len m : Nat → Int32} {v q : Int32} (hr : 1 ≤ r) (hm : ∀ b, b < 12 → m b = -2 ∨ m b = nI (r - 1)) : (pAct 0 r a me mk len m v q).2.2 = -2 ∨ (pAct 0 r a me mk len m v q).2.2 = nI r := by
  unfold pAct
  split
  · rename_i h1
    show note1 0 me mk = -2 ∨ note1 0 me mk = nI r
    rw [h1]
    unfold note1
    rw [if_pos rfl]
    split
    · exact Or.inr rfl
    · exact Or.inl rfl
  · rename_i h1
    show (wAct m v q).2.2 = -2 ∨ (wAct m v q).2.2 = nI r
    unfold wAct
    split
    · cases hf : fi (fun b => decide (¬ m b = -2)) 12 with
      | none => exact Or.inl rfl
      | some b =>
        obtain ⟨hb, h2⟩ := fi_some hf
        have h2 := of_decide_eq_true h2
        rcases hm b hb with h3 | h3
        · exact absurd h3 h2
        · refine Or.inr ?_
          show m b + 1 = nI r
          rw [h3, nI_1]
          congr 1; omega
    · exact Or.inl rfl
section QIB
variable {n R W p : Nat} {src : Int32} {mk : Nat → Int32} {len : Nat → Nat → Int32} {lk pa : Nat → Nat → Bool} {up : Nat → Option Nat} {ld : Nat → Nat} {A : AS} {a : Nat}
/-- a may begin its next round -/
def BG (n R W : Nat) (lk pa : Nat → Nat → Bool) (up : Nat → Option Nat) (ld : Nat → Nat) (A : AS) (a : Nat) : Prop :=
  rdP (aS A) a + 1 ≤ R ∧ (∀ u, up a = some u → rdP (aS A) a + 1 ≤ rdP (aS A) u ∨ rdP (aS A) a = 0) ∧ gos (aL A) a = 0 ∧ frs (aL A) a = 0
  ∧ (1 ≤ rdP (aS A) a → opP (aS A) a = 0 ∧ (∀ c, c < n → up c = some a → rdP (aS A) c = rdP (aS A) a ∧ raP (aS A) c = true ∧ (W = 2 → dnP (aS A) c = true)) ∧ (∀ f, f < n → pa a f = true → aC A 1 a f (rdP (aS A) a) = true)
    ∧ (∀ c, c < n → up c = some a → aC A 2 a c (rdP (aS A) a) = true ∧ (W = 2 → aC A 3 a c (rdP (aS A) a) = true)) ∧ ∀ x b, x < n → b < n → ld x = a → lk x b = true → SfR (aS A) b (rdP (aS A) a))
/-- marks and lengths as they are -/
def MLB (mk : Nat → Int32) (len : Nat → Nat → Int32) : Prop := (∀ a, a < 12 → 0 ≤ (mk a).toInt ∧ (mk a).toInt ≤ 99) ∧ ∀ a b, a < 12 → b < 12 → 0 ≤ (len a b).toInt ∧ (len a b).toInt ≤ 9
theorem act_WB (hn : n ≤ 12) (hR : R ≤ 20) (hM : MLB mk len) (hN : NI p A) (ha : a < n) (hr : rdP (aS A) a + 1 ≤ R) : WB (rdP (aS A) a + 1) (actA n p src mk len A a).2.2 ∧ (p = 0 → (actA n p src mk len A a).2.2 = -2 ∨ (actA n p src mk len A a).2.2 = nI (rdP (aS A) a + 1)) := by
  constructor
  · unfold actA
    refine pAct_bd (by omega) (by omega) (hM.1 a (by omega)) (fun b hb => hM.2 a b (by omega) hb) (fun b hb => ?_)
    unfold noteF
    by_cases h : ¬ rdP (aS A) a + 1 = 1 ∧ b < n ∧ aC A 0 a b (rdP (aS A) a + 1 - 1) = true
    · rw [if_pos h]
      exact Or.inr (hN.2 a b _ h.2.2).1
    · rw [if_neg h]; exact Or.inl rfl
  · intro hp
    unfold actA
    rw [hp]
    refine pAct_wave (by omega) (fun b hb => ?_)
    unfold noteF
    by_cases h : ¬ rdP (aS A) a + 1 = 1 ∧ b < n ∧ aC A 0 a b (rdP (aS A) a + 1 - 1) = true
    · rw [if_pos h]
      exact Or.inr ((hN.2 a b _ h.2.2).2 hp)
    · rw [if_neg h]; exact Or.inl rfl
theorem begN_mem {x : Lt} (h : x ∈ begN n p src mk len lk A a) : ¬ (actA n p src mk len A a).2.2 = -2 ∧ ∃ b, b < n ∧ lk a b = true ∧ x = (0, nI a, nI b, nI (rdP (aS A) a + 1), (actA n p src mk len A a).2.2) := by
  unfold begN at h
  by_cases e : (actA n p src mk len A a).2.2 = -2
  · rw [if_pos e] at h; exact absurd h List.not_mem_nil
  · rw [if_neg e] at h
    obtain ⟨b, hb, q⟩ := ltrs_mem.mp h
    have := selL_mem.mp hb
    exact ⟨e, b, this.1, this.2, q⟩
theorem begN_len : (begN n p src mk len lk A a).length ≤ n := by
  unfold begN
  split
  · exact Nat.zero_le _
  · rw [ltrs_len]; exact selL_len n
theorem QI.beg (hn : n ≤ 12) (hR : R ≤ 20) (hM : MLB mk len) (h : QI n R W p lk pa up ld A) (ha : a < n) (hB : BG n R W lk pa up ld A a) : QI n R W p lk pa up ld (aBeg n p src mk len lk up A a) := by
  obtain ⟨hP, hX, hN⟩ := h
  obtain ⟨b1, b2, b3, b4, b5⟩ := hB
  obtain ⟨w1, w2⟩ := act_WB (src := src) hn hR hM hN ha b1
  obtain ⟨f1, f2, f3⟩ := low_FL (up := up) (k := 4) (r := rdP (aS A) a + 1) hn ha
  have hG : ∀ x, x ∈ begG n up A a → ∃ c, c < n ∧ up c = some a ∧ x = (4, nI a, nI c, nI (rdP (aS A) a + 1), 0) := fun x hx => by
    unfold begG at hx
    split at hx
    · exact absurd hx List.not_mem_nil
    · exact f1 x hx
  refine ⟨?_, ?_, ?_⟩
  · refine hP.begin hn ha b1 (fun h => by rw [(b5 h).1]; exact Int.le_refl _) (fun h => (b5 h).2.1) b2 b3 b4 _ _ hG (fun c hc => ?_) ?_ (fun x hx => ?_) (Nat.le_trans begN_len hn)
    · unfold begG
      split
      · exact Nat.zero_le _
      · refine Nat.le_trans ?_ (f2 c hc)
        unfold gos
        exact List.countP_mono_left (fun x _ q => decide_eq_true (of_decide_eq_true q).2)
    · unfold begG
      by_cases e : rdP (aS A) a = 0
      · rw [if_pos e, if_pos e]; exact Int.le_refl _
      · rw [if_neg e, if_neg e]; exact f3
    · obtain ⟨e, b, hb, hl, rfl⟩ := begN_mem hx
      refine ⟨⟨⟨0, by omega, rfl⟩, ⟨a, ha, rfl⟩, ⟨b, hb, rfl⟩, _, by omega, b1, rfl, fun _ => ?_⟩, rfl⟩
      rcases w1 with h | h
      · exact absurd h e
      · refine ⟨?_, h.2⟩
        show -2 ≤ (actA n p src mk len A a).2.2.toInt
        omega
  · exact hX.begin hn hR ha b1 (fun b hb => (hP.1 b hb).1) (fun h => (b5 h).1) (fun h => (b5 h).2.2.1) (fun h => (b5 h).2.2.2.1) (fun h => (b5 h).2.2.2.2) _ _ _ (fun x hx => by obtain ⟨c, _, _, rfl⟩ := hG x hx; rfl) (fun x hx => (begN_mem hx).2)
  · refine ⟨fun x hx h0 => ?_, hN.2⟩
    rcases List.mem_append.mp hx with q | q
    · rcases List.mem_append.mp q with q | q
      · exact hN.1 x q h0
      · obtain ⟨c, _, _, rfl⟩ := hG x q
        exact absurd h0 (show ¬ (4 : Int32) = 0 by decide)
    · obtain ⟨e, b, hb, hl, rfl⟩ := begN_mem q
      refine ⟨?_, fun hp => ?_⟩
      · show -1 ≤ (actA n p src mk len A a).2.2.toInt ∧ (actA n p src mk len A a).2.2.toInt ≤ 100 + 10 * (nI (rdP (aS A) a + 1)).toInt
        rw [nI_toInt (by omega)]
        rcases w1 with h | h
        · exact absurd h e
        · exact h
      · rcases w2 hp with h | h
        · exact absurd h e
        · exact h
/-- open is never below 0, and 0 when safe -/
theorem op_0 (h : QI n R W p lk pa up ld A) (ha : a < n) (hr : 1 ≤ rdP (aS A) a) : 0 ≤ opP (aS A) a ∧ (sfP (aS A) a = true → opP (aS A) a = 0) := by
  have h1 := h.2.1.1.2.2 a ha hr
  refine ⟨by omega, fun hs => ?_⟩
  have := ((h.1.1 a ha).2.1 hr).2.1 hs
  omega
/-- a root whose round has ended may begin the next one -/
theorem BG_root (hn : n ≤ 12) (hR : R ≤ 20) (hW : W ≤ 2) (hF : FRA n W lk pa up ld) (h : QI n R W p lk pa up ld A) (ha : a < n) (hr : 1 ≤ rdP (aS A) a) (hrR : rdP (aS A) a < R) (hu : up a = none)
    (h0 : W = 0 → sfP (aS A) a = true ∧ all1 n pa A a = true) (h1 : W = 1 → raP (aS A) a = true) (h2 : W = 2 → dnP (aS A) a = true) : BG n R W lk pa up ld A a := by
  have hP := h.1
  have hX := h.2.1
  have hNL := (hP.1 a ha).2.1 hr
  have hra : ¬ W = 0 → raP (aS A) a = true := fun w => by
    rcases (show W = 1 ∨ W = 2 by omega) with e | e
    · exact h1 e
    · exact hNL.2.2.2.2.1 (hNL.2.2.2.1 (h2 e))
  refine ⟨by omega, fun u hu' => by rw [hu] at hu'; exact absurd hu' (by simp), (hP.root hn ha hu).1, (hP.root hn ha hu).2, fun _ => ⟨?_, fun c hc huc => ?_, fun f hf hp => ?_, fun c hc huc => ?_, fun x b hx hb he hl => ?_⟩⟩
  · refine (op_0 h ha hr).2 ?_
    by_cases w : W = 0
    · exact (h0 w).1
    · exact hNL.2.2.1 (hra w)
  · by_cases w : W = 0
    · rw [(hF.2.2.2.2.2.1 w).2.2 c hc] at huc; exact absurd huc (by simp)
    · obtain ⟨q1, q2⟩ := hP.lower ha hr (hra w) hc huc
      refine ⟨q1, q2, fun w2 => ?_⟩
      have := hNL.2.2.2.2.2.2 (h2 w2) c hc huc
      exact ((hP.1 c hc).2.2.2.2 _ this).2 q1.symm
  · rcases (show W = 0 ∨ W = 1 ∨ W = 2 by omega) with w | w | w
    · exact all_1 (h0 w).2 f hf hp
    · rw [(hF.2.2.2.2.2.2.1 w).2 a f ha hf] at hp; exact absurd hp (by decide)
    · exact (hX.2.2.1 a f ha hf hp).2 w hr (h2 w)
  · by_cases w : W = 0
    · rw [(hF.2.2.2.2.2.1 w).2.2 c hc] at huc; exact absurd huc (by simp)
    · obtain ⟨_, u, q1, q2⟩ := hNL.2.2.2.2.2.1 (hra w) c hc huc
      rw [huc] at q1
      rw [← Option.some.inj q1] at q2
      refine ⟨q2, fun w2 => ?_⟩
      obtain ⟨_, u', p1, p2⟩ := hNL.2.2.2.2.2.2 (h2 w2) c hc huc
      rw [huc] at p1
      rw [← Option.some.inj p1] at p2
      exact p2
  · refine V_new hW hR hF hP hX ha hr (fun w b hb hl => ?_) h1 h2 hx hb hl he
    rw [← (hF.2.2.2.2.2.1 w).2.1 a b ha hb] at hl
    exact all_1 (h0 w).2 b hb hl
/-- where aEnds says so, the node may begin -/
theorem BG_ends (hn : n ≤ 12) (hR : R ≤ 20) (hW : W ≤ 2) (hF : FRA n W lk pa up ld) (h : QI n R W p lk pa up ld A) (ha : a < n) (hr : 1 ≤ rdP (aS A) a) (he : aEnds n W pa up A a = true) (hrR : rdP (aS (aOne n W pa up A a)) a < R) : BG n R W lk pa up ld (aOne n W pa up A a) a := by
  have hQ := QI.one hn hR hW h ha hr
  have hr' : 1 ≤ rdP (aS (aOne n W pa up A a)) a := by rw [aOne_rd]; exact hr
  unfold aEnds at he
  rcases (show W = 0 ∨ W = 1 ∨ W = 2 by omega) with w | w | w
  · rw [if_pos w, Bool.and_eq_true] at he
    have e1 : aOne n W pa up A a = aSafe n W pa A a := by
      unfold aOne aDone aRaise mayR mayD
      rw [if_neg (by rw [w]; simp), if_neg (by rw [w]; simp)]
    refine BG_root hn hR hW hF hQ ha hr' hrR ((hF.2.2.2.2.2.1 w).2.2 a ha) (fun _ => by rw [e1]; exact he) (fun q => by omega) (fun q => by omega)
  · rw [if_neg (by omega), if_pos w, Bool.and_eq_true, decide_eq_true_eq] at he
    refine BG_root hn hR hW hF hQ ha hr' hrR he.2 (fun q => by omega) (fun _ => ?_) (fun q => by omega)
    unfold aOne aDone mayD
    rw [if_neg (by rw [w]; simp)]
    unfold aRaise
    rw [if_pos he.1, he.2]
    dsimp only
    rw [if_pos w]
    exact fup_s
  · rw [if_neg (by omega), if_neg (by omega), Bool.and_eq_true, decide_eq_true_eq] at he
    refine BG_root hn hR hW hF hQ ha hr' hrR he.2 (fun q => by omega) (fun q => by omega) (fun _ => ?_)
    unfold aOne aDone
    rw [if_pos he.1, he.2]
    exact fup_s
theorem QI.go (hn : n ≤ 12) (hR : R ≤ 20) (hW : W ≤ 2) (hF : FRA n W lk pa up ld) (hM : MLB mk len) (ha : a < n) : ∀ f (A : AS), QI n R W p lk pa up ld A → 1 ≤ rdP (aS A) a → QI n R W p lk pa up ld (aGo n R W p src mk len lk pa up f A a) ∧ (∀ b, rdP (aS A) b ≤ rdP (aS (aGo n R W p src mk len lk pa up f A a)) b) := by
  intro f
  induction f with
  | zero => intro A h _; exact ⟨h, fun b => Nat.le_refl _⟩
  | succ f ih =>
    intro A h hr
    have hQ := QI.one hn hR hW h ha hr
    unfold aGo
    by_cases hc : aEnds n W pa up A a = true ∧ rdP (aS (aOne n W pa up A a)) a < R
    · rw [if_pos hc]
      have hB := BG_ends hn hR hW hF h ha hr hc.1 hc.2
      have e : ∀ b, rdP (aS (aOne n W pa up A a)) b ≤ rdP (aS (aBeg n p src mk len lk up (aOne n W pa up A a) a)) b := fun b => by
        show _ ≤ fup (rdP (aS (aOne n W pa up A a))) a (rdP (aS (aOne n W pa up A a)) a + 1) b
        by_cases e : b = a
        · rw [e, fup_s]; omega
        · rw [fup_n e]; exact Nat.le_refl _
      obtain ⟨q1, q2⟩ := ih _ (hQ.beg hn hR hM ha hB) (Nat.le_trans (by rw [aOne_rd]; exact hr) (e a))
      exact ⟨q1, fun b => Nat.le_trans (by rw [← aOne_rd (n := n) (W := W) (pa := pa) (up := up) (A := A) (a := a)]; exact e b) (q2 b)⟩
    · rw [if_neg hc]; exact ⟨hQ, fun b => by rw [aOne_rd]; exact Nat.le_refl _⟩
end QIB
