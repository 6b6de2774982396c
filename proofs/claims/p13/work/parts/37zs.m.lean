section
-- The frame is as the running needs it: pure
def bsI (f : Nat → Bool) : Nat → Int32
  | 0 => 0
  | k + 1 => if f k = true then bsI f k ||| ((1 : Int32) <<< (nI k &&& 31)) else bsI f k
theorem bsI_in {f : Nat → Bool} {c : Nat} (hc : c < 32) : ∀ k, k ≤ 32 → (zIn (bsI f k) (nI c) = true ↔ c < k ∧ f c = true) := by
  intro k
  induction k with
  | zero =>
    intro _
    unfold bsI
    rw [zIn_0 hc]
    exact ⟨fun h => absurd h (by decide), fun h => absurd h.1 (Nat.not_lt_zero c)⟩
  | succ k ih =>
    intro hk
    have ih := ih (by omega)
    unfold bsI
    by_cases h : f k = true
    · rw [if_pos h, zIn_or _ _ hc, zIn_bit (by omega) hc, Bool.or_eq_true, decide_eq_true_eq, ih]
      constructor
      · rintro (⟨q1, q2⟩ | q)
        · exact ⟨by omega, q2⟩
        · rw [q]; exact ⟨by omega, h⟩
      · rintro ⟨q1, q2⟩
        by_cases e : c = k
        · exact Or.inr e
        · exact Or.inl ⟨by omega, q2⟩
    · rw [if_neg h, ih]
      constructor
      · rintro ⟨q1, q2⟩; exact ⟨by omega, q2⟩
      · rintro ⟨q1, q2⟩
        by_cases e : c = k
        · rw [e] at q2; exact absurd q2 h
        · exact ⟨by omega, q2⟩
section FRP
variable {n : Nat} {lk : Nat → Nat → Bool}
/-- in a connected net a set that holds one node and goes along the links holds all -/
theorem conn_all (hn : n ≤ 12) (hsym : ∀ a b, a < n → b < n → lk a b = lk b a) (hS : SPR n lk (zAll (nI n))) {T : Nat → Bool} {r : Nat} (hr : r < n) (hT : T r = true) (hC : ∀ a b, a < n → b < n → T b = true → lk b a = true → T a = true) : ∀ a, a < n → T a = true := by
  obtain ⟨_, _, hm, _⟩ := hS
  have key : ∀ U : Nat → Bool, U 0 = true → (∀ a b, a < n → b < n → U b = true → lk b a = true → U a = true) → ∀ a, a < n → U a = true := by
    intro U h0 hU a ha
    have := hm (bsI U n) ((bsI_in (by omega) n (by omega)).mpr ⟨by omega, h0⟩) (fun x y hx hy h1 h2 => (bsI_in (by omega) n (by omega)).mpr ⟨hy, hU y x hy hx ((bsI_in (by omega) n (by omega)).mp h1).2 h2⟩) a ha (all_in hn ha)
    exact ((bsI_in (by omega) n (by omega)).mp this).2
  cases h0 : T 0 with
  | true => exact key T h0 hC
  | false =>
    exfalso
    have := key (fun c => !(T c)) (by rw [h0]; rfl) (fun a b ha hb h1 h2 => ?_) r hr
    · rw [hT] at this; exact absurd this (by decide)
    · cases h3 : T a with
      | false => rfl
      | true =>
        rw [hC b a hb ha h3 (by rw [hsym a b ha hb]; exact h2)] at h1
        exact absurd h1 (by decide)
variable {root : Nat} {s : Nat → Bool}
theorem tS_set {k a : Nat} (hr : s root = true) (h : (tS n root s lk k a).isSome = true) : s a = true := by
  cases hq : tS n root s lk k a with
  | none => rw [hq] at h; exact absurd h (by simp)
  | some p =>
    obtain ⟨j, u⟩ := p
    rcases (tS_ok hq).2 with ⟨e, _⟩ | ⟨e, _⟩
    · rw [e]; exact hr
    · exact e
/-- every node that hangs together with the root has a level -/
theorem tS_all (hrn : root < n) (hr : s root = true) (hH : ∀ T : Nat → Bool, T root = true → (∀ a b, a < n → b < n → s a = true → s b = true → T b = true → lk a b = true → T a = true) → ∀ a, a < n → s a = true → T a = true) : ∀ a, a < n → s a = true → ∃ p, tS n root s lk n a = some p := by
  have cl := chain_cl (n := n) (fun k a => (tS n root s lk k a).isSome) s lk ⟨root, hrn, by show (tS n root s lk 0 root).isSome = true; rw [tS_0, if_pos rfl]; rfl⟩ (fun k a h => by
      cases hq : tS n root s lk k a with
      | none => rw [hq] at h; exact absurd h (by simp)
      | some p => rw [tS_old hq]; rfl) (fun k a b ha hb hs h hl => tS_next hs (tS_set hr h) hb hl h) (fun k a ha h => by
      cases hq : tS n root s lk k a with
      | some p => exact Or.inl rfl
      | none =>
        refine Or.inr ?_
        by_cases hs : s a = true
        · cases hf : fi (fun b => s b && (lk a b && decide ((tS n root s lk k b).map Prod.fst = some k))) n with
          | none => rw [tS_no hq hs hf] at h; exact absurd h (by simp)
          | some b =>
            obtain ⟨hb, hp⟩ := fi_some hf
            rw [Bool.and_eq_true, Bool.and_eq_true, decide_eq_true_eq] at hp
            refine ⟨b, hb, hs, ?_, hp.2.1⟩
            cases hz : tS n root s lk k b with
            | none => rw [hz] at hp; exact absurd hp.2.2 (by simp)
            | some q => rfl
        · rw [tS_out hq hs] at h; exact absurd h (by simp))
  intro a ha hs
  have := hH (fun c => (tS n root s lk (n - 1) c).isSome) (by
    have h0 : tS n root s lk 0 root = some (0, none) := by rw [tS_0, if_pos rfl]
    show (tS n root s lk (n - 1) root).isSome = true
    rw [tS_mono (Nat.zero_le _) h0]; rfl) (fun a b ha hb h1 _ h3 h4 => cl a b ha hb h1 h3 h4) a ha hs
  cases hq : tS n root s lk (n - 1) a with
  | none =>
    have this : (tS n root s lk (n - 1) a).isSome = true := this
    rw [hq] at this; exact absurd this (by simp)
  | some p => exact ⟨p, tS_mono (by omega) hq⟩
/-- who has a level reaches the root by going up -/
theorem tS_reach {up : Nat → Option Nat} (hup : ∀ c, c < n → s c = true → up c = (tS n root s lk n c).bind Prod.snd) (hrn : root < n) (hr : s root = true) : ∀ j c u, c < n → tS n root s lk n c = some (j, u) → Reach n up root j c := by
  intro j
  induction j with
  | zero =>
    intro c u hc h
    rcases (tS_ok h).2 with ⟨e, _⟩ | ⟨_, b, i, e, _⟩
    · exact e
    · omega
  | succ j ih =>
    intro c u hc h
    obtain ⟨h1, h2⟩ := tS_ok h
    rcases h2 with ⟨_, e, _⟩ | ⟨hs, b, i, e, e2, hb, hsb, hlb, v, hv⟩
    · omega
    · have ei : i = j := by omega
      rw [ei] at hv
      refine ⟨b, ?_, ih b v hb (tS_mono (by omega) hv)⟩
      rw [hup c hc hs, h, e2]; rfl
end FRP
/-- of the links between two clusters one is chosen -/
theorem ch_ex {n : Nat} {lk : Nat → Nat → Bool} {L : Nat → Nat} (hsym : ∀ a b, a < n → b < n → lk a b = lk b a) (hirr : ∀ a, a < n → lk a a = false) {X Y : Nat} (hXY : ¬ X = Y) : ∀ m a b, a < n → b < n → a < b → lk a b = true → ((L a = X ∧ L b = Y) ∨ (L a = Y ∧ L b = X)) → a * n + b = m → ∃ x y, x < n ∧ y < n ∧ L x = X ∧ L y = Y ∧ chB n lk L x y = true := by
  intro m
  induction m using Nat.strongRecOn with
  | ind m IH =>
    intro a b ha hb hab hl hL hm
    have hne : ¬ L a = L b := by rcases hL with ⟨h1, h2⟩ | ⟨h1, h2⟩ <;> (rw [h1, h2]; first | exact hXY | exact fun e => hXY e.symm)
    cases hE : chE n lk L a b with
    | false =>
      have h1 : ch1 n lk L a b = true := ch1_iff.mpr ⟨hl, hne, hE⟩
      rcases hL with ⟨q1, q2⟩ | ⟨q1, q2⟩
      · exact ⟨a, b, ha, hb, q1, q2, by unfold chB; rw [if_pos hab]; exact h1⟩
      · exact ⟨b, a, hb, ha, q2, q1, by unfold chB; rw [if_neg (by omega), if_pos hab]; exact h1⟩
    | true =>
      obtain ⟨c, d, hc, hd, q⟩ := chE_iff.mp hE
      obtain ⟨p1, p2, p3, p4⟩ := eqP_iff.mp q
      have hlt : c * n + d < a * n + b := by
        rcases p3 with z | ⟨z1, z2⟩
        · have h1 : (c + 1) * n ≤ a * n := Nat.mul_le_mul_right n (by omega)
          rw [Nat.succ_mul] at h1
          omega
        · rw [z1]; omega
      refine IH (c * n + d) (by omega) c d hc hd p2 p1 ?_ rfl
      rcases p4 with ⟨z1, z2⟩ | ⟨z1, z2⟩ <;> rcases hL with ⟨q1, q2⟩ | ⟨q1, q2⟩
      · exact Or.inl ⟨z1.trans q1, z2.trans q2⟩
      · exact Or.inr ⟨z1.trans q1, z2.trans q2⟩
      · exact Or.inr ⟨z1.trans q2, z2.trans q1⟩
      · exact Or.inl ⟨z1.trans q2, z2.trans q1⟩
theorem chB_sym {n : Nat} {lk : Nat → Nat → Bool} {L : Nat → Nat} (a b : Nat) : chB n lk L a b = chB n lk L b a := by
  unfold chB
  rcases Nat.lt_trichotomy a b with h | h | h
  · rw [if_pos h, if_neg (by omega), if_pos h]
  · rw [h]
  · rw [if_neg (by omega), if_pos h, if_pos h]
theorem FRA_F {W n src : Nat} {lk : Nat → Nat → Bool} {k : Int32} (hW : W ≤ 2) (hn : n ≤ 12) (hs : src < n) (hsym : ∀ a b, a < n → b < n → lk a b = lk b a) (hirr : ∀ a, a < n → lk a a = false) (hS : SPR n lk (zAll (nI n))) : FRA n W lk (paF W n lk k) (upF W n src lk k) (ldF W n src lk k) := by
  have root0 : ∀ (r : Nat) (s : Nat → Bool), (tS n r s lk n r).bind Prod.snd = none := fun r s => by
    have h0 : tS n r s lk 0 r = some (0, none) := by rw [tS_0, if_pos rfl]
    rw [tS_mono (Nat.zero_le n) h0]; rfl
  have lead : ∀ c, c < n → Ldr n lk k (Ldr n lk k c) = Ldr n lk k c := fun c hc => by
    obtain ⟨l1, l2, l3⟩ := Ldr_ok (lk := lk) (k := k) hn hc
    exact Ldr_of hn l1 l1 l2 (clI_me (by omega))
  refine ⟨fun c hc => ?_, hsym, fun a b ha hb hp => ?_, fun a b ha hb => ?_, hirr, fun w => ⟨fun c _ => ?_, fun a b _ _ => ?_, fun c _ => ?_⟩, fun w => ⟨fun a b _ _ => ?_, fun a b _ _ => ?_⟩, fun w x b hx hb hl hne => ?_, fun c hc => ?_⟩
  · rcases (show W = 0 ∨ W = 1 ∨ W = 2 by omega) with w | w | w
    · have e : ldF W n src lk k c = c := by unfold ldF; rw [if_pos w]
      rw [e]; exact ⟨hc, 0, rfl⟩
    · have e : ldF W n src lk k c = src := by unfold ldF; rw [if_neg (by omega), if_pos w]
      rw [e]
      refine ⟨hs, ?_⟩
      have hset : ∀ d, d < n → zIn (zAll (nI n)) (nI d) = true := fun d hd => all_in hn hd
      obtain ⟨⟨j, u⟩, hp⟩ := tS_all (n := n) (lk := lk) (root := src) (s := fun c => zIn (zAll (nI n)) (nI c)) hs (hset src hs) (fun T hT hC a ha _ => conn_all hn hsym hS hs hT (fun a b ha hb h1 h2 => hC a b ha hb (hset a ha) (hset b hb) h1 (by rw [hsym a b ha hb]; exact h2)) a ha) c hc (hset c hc)
      exact ⟨j, tS_reach (up := upF W n src lk k) (fun d hd _ => by unfold upF; rw [if_neg (by omega), if_pos w]) hs (hset src hs) j c u hc hp⟩
    · have e : ldF W n src lk k c = Ldr n lk k c := by unfold ldF; rw [if_neg (by omega), if_neg (by omega)]
      rw [e]
      obtain ⟨l1, l2, l3⟩ := Ldr_ok (lk := lk) (k := k) hn hc
      refine ⟨l1, ?_⟩
      have hme := clI_me (n := n) (lk := lk) (k := k) (i := Ldr n lk k c) (by omega)
      have hH : Hang n lk (Ldr n lk k c) (clI n lk k (Ldr n lk k c)) := by
        unfold clI
        refine Hang_clS hn n _ (fun T hT _ a ha hz => ?_)
        rw [zIn_bit (by omega) (by omega)] at hz
        rw [of_decide_eq_true hz]; exact hT
      obtain ⟨⟨j, u⟩, hp⟩ := tS_all (n := n) (lk := lk) (root := Ldr n lk k c) (s := fun d => zIn (clI n lk k (Ldr n lk k c)) (nI d)) l1 hme (fun T hT hC a ha hz => hH T hT (fun a b ha hb h1 h2 h3 h4 => hC a b ha hb h1 h2 h3 (by rw [hsym a b ha hb]; exact h4)) a ha hz) c hc l3
      refine ⟨j, tS_reach (up := upF W n src lk k) (fun d hd hz => ?_) l1 hme j c u hc hp⟩
      unfold upF
      rw [if_neg (by omega), if_neg (by omega), Ldr_of hn l1 hd l2 hz]
  · rcases (show W = 0 ∨ W = 1 ∨ W = 2 by omega) with w | w | w
    · unfold paF at hp; rw [if_pos w] at hp; exact hp
    · unfold paF at hp; rw [if_neg (by omega), if_pos w] at hp; exact absurd hp (by decide)
    · unfold paF at hp
      rw [if_neg (by omega), if_neg (by omega)] at hp
      unfold chB at hp
      split at hp
      · exact (ch1_iff.mp hp).1
      · split at hp
        · rw [hsym a b ha hb]; exact (ch1_iff.mp hp).1
        · exact absurd hp (by decide)
  · unfold paF
    split
    · exact hsym a b ha hb
    · split
      · rfl
      · exact chB_sym a b
  · unfold ldF; rw [if_pos w]
  · unfold paF; rw [if_pos w]
  · unfold upF; rw [if_pos w]
  · unfold ldF; rw [if_neg (by omega), if_pos w, if_neg (by omega), if_pos w]
  · unfold paF; rw [if_neg (by omega), if_pos w]
  · have e : ∀ c, ldF W n src lk k c = Ldr n lk k c := fun c => by unfold ldF; rw [if_neg (by omega), if_neg (by omega)]
    have ep : ∀ a b, paF W n lk k a b = chB n lk (Ldr n lk k) a b := fun a b => by unfold paF; rw [if_neg (by omega), if_neg (by omega)]
    rw [e, e] at hne
    have hxb : x ≠ b := fun q => hne (by rw [q])
    obtain ⟨x', y', h1, h2, h3, h4, h5⟩ : ∃ x' y', x' < n ∧ y' < n ∧ Ldr n lk k x' = Ldr n lk k x ∧ Ldr n lk k y' = Ldr n lk k b ∧ chB n lk (Ldr n lk k) x' y' = true := by
      rcases Nat.lt_or_ge x b with h | h
      · exact ch_ex hsym hirr hne _ x b hx hb h hl (Or.inl ⟨rfl, rfl⟩) rfl
      · exact ch_ex hsym hirr hne _ b x hb hx (by omega) (by rw [hsym b x hb hx]; exact hl) (Or.inr ⟨rfl, rfl⟩) rfl
    exact ⟨x', y', h1, h2, by rw [e, e]; exact h3, by rw [e, e]; exact h4, by rw [ep]; exact h5⟩
  · rcases (show W = 0 ∨ W = 1 ∨ W = 2 by omega) with w | w | w
    · unfold upF; rw [if_pos w]
    · have e : ldF W n src lk k c = src := by unfold ldF; rw [if_neg (by omega), if_pos w]
      rw [e]
      unfold upF
      rw [if_neg (by omega), if_pos w]
      exact root0 _ _
    · have e : ldF W n src lk k c = Ldr n lk k c := by unfold ldF; rw [if_neg (by omega), if_neg (by omega)]
      rw [e]
      unfold upF
      rw [if_neg (by omega), if_neg (by omega), lead c hc]
      exact root0 _ _
end
section
-- The pure machine: the start
/-- before the first round; S is what the rest of the flags may be -/
def A0 (p : Nat) (src : Int32) (mk : Nat → Int32) (S : PS) : AS := mkA S (fun a => first0 p (decide (nI a = src)) (mk a)) (fun _ => -2) (fun _ a => first0 p (decide (nI a = src)) (mk a)) (fun _ _ _ _ => false) (fun _ _ _ => 0) [] 0 0
section ASTD
variable (n R W p : Nat) (src : Int32) (mk : Nat → Int32) (len : Nat → Nat → Int32) (lk pa : Nat → Nat → Bool) (up : Nat → Option Nat)
/-- the nodes before i have begun -/
def aSt (A : AS) : Nat → AS
  | 0 => A
  | i + 1 => aGo n R W p src mk len lk pa up R (aBeg n p src mk len lk up (aSt A i) i) i
end ASTD
section AST
variable {n R W p : Nat} {src : Int32} {mk : Nat → Int32} {len : Nat → Nat → Int32} {lk pa : Nat → Nat → Bool} {up : Nat → Option Nat} {ld : Nat → Nat} {A : AS} {a : Nat} {S : PS}
theorem aV_put {S : PS} {m : List Lt} : aV (aPut A S m) = aV A ∧ aC (aPut A S m) = aC A := ⟨rfl, rfl⟩
theorem aV_one : aV (aOne n W pa up A a) = aV A ∧ aC (aOne n W pa up A a) = aC A := by
  have h1 : ∀ B : AS, aV (aSafe n W pa B a) = aV B ∧ aC (aSafe n W pa B a) = aC B := fun B => by unfold aSafe; split <;> exact ⟨rfl, rfl⟩
  have h2 : ∀ B : AS, aV (aRaise n W pa up B a) = aV B ∧ aC (aRaise n W pa up B a) = aC B := fun B => by
    unfold aRaise
    split
    · split
      · exact ⟨rfl, rfl⟩
      · split <;> exact ⟨rfl, rfl⟩
    · exact ⟨rfl, rfl⟩
  have h3 : ∀ B : AS, aV (aDone n W pa up B a) = aV B ∧ aC (aDone n W pa up B a) = aC B := fun B => by
    unfold aDone
    split
    · split <;> exact ⟨rfl, rfl⟩
    · exact ⟨rfl, rfl⟩
  unfold aOne
  exact ⟨by rw [(h3 _).1, (h2 _).1, (h1 _).1], by rw [(h3 _).2, (h2 _).2, (h1 _).2]⟩
theorem aV_beg : (∀ b, b ≠ a → aV (aBeg n p src mk len lk up A a) b = aV A b) ∧ aC (aBeg n p src mk len lk up A a) = aC A := ⟨fun b hb => fup_n hb, rfl⟩
theorem aV_go : ∀ f (A : AS), (∀ b, b ≠ a → aV (aGo n R W p src mk len lk pa up f A a) b = aV A b) ∧ aC (aGo n R W p src mk len lk pa up f A a) = aC A := by
  intro f
  induction f with
  | zero => intro A; exact ⟨fun _ _ => rfl, rfl⟩
  | succ f ih =>
    intro A
    unfold aGo
    split
    · obtain ⟨i1, i2⟩ := ih (aBeg n p src mk len lk up (aOne n W pa up A a) a)
      obtain ⟨b1, b2⟩ := aV_beg (n := n) (p := p) (src := src) (mk := mk) (len := len) (lk := lk) (up := up) (A := aOne n W pa up A a) (a := a)
      obtain ⟨o1, o2⟩ := aV_one (n := n) (W := W) (pa := pa) (up := up) (A := A) (a := a)
      exact ⟨fun b hb => by rw [i1 b hb, b1 b hb, o1], by rw [i2, b2, o2]⟩
    · obtain ⟨o1, o2⟩ := aV_one (n := n) (W := W) (pa := pa) (up := up) (A := A) (a := a)
      exact ⟨fun b _ => by rw [o1], o2⟩
/-- nothing has begun: all holds -/
theorem QE_0 (hup : ∀ c u, c < n → up c = some u → u < n ∧ u ≠ c) (hF : FRA n W lk pa up ld) (hS : ∀ c, c < n → rdP S c = 0) : QE n R W p lk pa up ld (A0 p src mk S) := by
  refine ⟨⟨⟨fun a ha => ⟨?_, fun h => ?_, fun u hu => ?_, fun q h => ?_, fun q h => ?_⟩, fun x hx => absurd hx List.not_mem_nil, fun c _ => ⟨Nat.zero_le _, Nat.zero_le _⟩, ?_⟩, ⟨⟨fun x hx => absurd hx List.not_mem_nil, fun x hx => absurd hx List.not_mem_nil, fun a ha h => ?_⟩, ⟨fun x hx => absurd hx List.not_mem_nil, fun f t q _ _ h => absurd h (by simp [A0]), fun f t q _ _ _ => ?_⟩, fun t f ht hf _ => ⟨fun q h1 h2 => ?_, fun _ h => ?_⟩, fun u c hu hc hcu => ⟨fun q h1 h2 => ?_, fun q _ => ?_⟩, fun x b r hx hb _ h1 h2 => ?_⟩, ⟨fun x hx => absurd hx List.not_mem_nil, fun a b q h => absurd h (by simp [A0])⟩⟩, fun t f q h => absurd h (by simp [A0]), fun x hx => absurd hx List.not_mem_nil⟩
  · show rdP S a ≤ R
    rw [hS a ha]; exact Nat.zero_le _
  · have h : 1 ≤ rdP S a := h
    rw [hS a ha] at h; omega
  · obtain ⟨h1, h2⟩ := hup a u ha hu
    refine ⟨h1, h2, Or.inr ?_, fun h => ?_⟩
    · show rdP S a ≤ 1
      rw [hS a ha]; omega
    · have h : 1 ≤ rdP S a := h
      rw [hS a ha] at h; omega
  · obtain ⟨_, u, _, h3⟩ := h
    exact absurd h3 (by simp [A0])
  · obtain ⟨_, u, _, h3⟩ := h
    exact absurd h3 (by simp [A0])
  · have key : su (fun _ => 0) n ≤ su (ph W up S) n := by
      refine su_le (fun a ha => ?_)
      rw [ph_eq]
      have e1 : ph1 W S a = 0 := by unfold ph1; rw [if_pos (hS a ha)]
      have e2 : ph2 S (up a) = 0 := by
        cases hu : up a with
        | none => rfl
        | some u =>
          simp only [ph2]; rw [if_pos (hS u (hup a u ha hu).1)]
      rw [e1, e2]; decide
    have z : ∀ m, su (fun _ => (0 : Int)) m = 0 := by
      intro m; induction m with
      | zero => rfl
      | succ k ih => unfold su; rw [ih]; rfl
    rw [z n] at key
    exact key
  · have h : 1 ≤ rdP S a := h
    rw [hS a ha] at h; omega
  · show cX 2 [] f t q + b2n false ≤ 1
    exact Nat.zero_le _
  · have h2 : q < rdP S t := h2
    rw [hS t ht] at h2; omega
  · have h : 1 ≤ rdP S t := h
    rw [hS t ht] at h; omega
  · have h2 : q < rdP S u := h2
    rw [hS u hu] at h2; omega
  · exact ⟨show cX 3 [] c u q + b2n false ≤ 1 from Nat.zero_le _, show cX 6 [] c u q + b2n false ≤ 1 from Nat.zero_le _⟩
  · have h2 : r + 1 ≤ rdP S (ld x) := h2
    rw [hS _ (hF.1 x hx).1] at h2; omega
/-- what holds when the nodes before i have begun -/
def QS (n R W p : Nat) (src : Int32) (mk : Nat → Int32) (lk pa : Nat → Nat → Bool) (up : Nat → Option Nat) (ld : Nat → Nat) (A : AS) (i : Nat) : Prop := QE n R W p lk pa up ld A ∧ (∀ c, c < i → 1 ≤ rdP (aS A) c ∧ AtR n R W pa up A c) ∧ (∀ c, i ≤ c → c < n → rdP (aS A) c = 0 ∧ aV A c = first0 p (decide (nI c = src)) (mk c)) ∧ ∀ w t f q, aC A w t f q = false
theorem QS.bg (hR1 : 1 ≤ R) (hn : n ≤ 12) (h : QS n R W p src mk lk pa up ld A a) (ha : a < n) : BG n R W lk pa up ld A a := by
  obtain ⟨hQ, _, h3, _⟩ := h
  have ra := (h3 a (Nat.le_refl _) ha).1
  have hP := hQ.1.1
  refine ⟨by omega, fun u _ => Or.inr ra, gos_0 (fun x hx e1 e2 => ?_), frs_0 (fun x hx e1 e2 => ?_), fun e => by omega⟩
  · obtain ⟨c, u, q1, q2, q3, q4, q5, q6, q7, _⟩ := (hP.2.1 x hx).2.2.2.1 e1
    have ec : c = a := i12 (by omega) (by omega) (q3.symm.trans e2)
    rw [ec, ra] at q7; omega
  · obtain ⟨_, c, u, q1, q2, q3, q4, q5, _⟩ := (hP.2.1 x hx).2.2.2.2 e1
    have ec : c = a := i12 (by omega) (by omega) (q3.symm.trans e2)
    rw [ec, ra] at q5; omega
theorem QS.next (hn : n ≤ 12) (hR : R ≤ 20) (hR1 : 1 ≤ R) (hW : W ≤ 2) (hF : FRA n W lk pa up ld) (hM : MLB mk len) (h : QS n R W p src mk lk pa up ld A a) (ha : a < n) : QS n R W p src mk lk pa up ld (aGo n R W p src mk len lk pa up R (aBeg n p src mk len lk up A a) a) (a + 1) := by
  have hB := h.bg hR1 hn ha
  obtain ⟨hQ, h2, h3, h4⟩ := h
  have ra := (h3 a (Nat.le_refl _) ha).1
  have q1 := hQ.beg (src := src) (mk := mk) (len := len) hn hR hM ha hB
  have r1 : rdP (aS (aBeg n p src mk len lk up A a)) a = 1 := by
    show fup (rdP (aS A)) a (rdP (aS A) a + 1) a = 1
    rw [fup_s, ra]
  have q2 := QE.go (src := src) hn hR hW hF hM ha R q1 (by omega)
  have g := QI.go (src := src) hn hR hW hF hM ha R _ q1.1 (by omega)
  obtain ⟨v1, v2⟩ := aV_go (n := n) (R := R) (W := W) (p := p) (src := src) (mk := mk) (len := len) (lk := lk) (pa := pa) (up := up) (a := a) R (aBeg n p src mk len lk up A a)
  refine ⟨q2, fun c hc => ?_, fun c hc hcn => ?_, fun w t f q => ?_⟩
  · by_cases e : c = a
    · rw [e]
      exact ⟨by have := g.2 a; omega, AtR_go R _ (by omega) (by omega)⟩
    · have hl : LC A (aGo n R W p src mk len lk pa up R (aBeg n p src mk len lk up A a) a) c := (LC_beg e).tr (LC_go e R _)
      obtain ⟨k1, k2⟩ := h2 c (by omega)
      exact ⟨by rw [hl.1.1]; exact k1, k2.loc hl⟩
  · have e : c ≠ a := by omega
    have hl : LC A (aGo n R W p src mk len lk pa up R (aBeg n p src mk len lk up A a) a) c := (LC_beg e).tr (LC_go e R _)
    obtain ⟨k1, k2⟩ := h3 c (by omega) hcn
    exact ⟨by rw [hl.1.1]; exact k1, by rw [v1 c e, aV_beg.1 c e]; exact k2⟩
  · rw [v2, aV_beg.2]; exact h4 w t f q
theorem QS_all (hn : n ≤ 12) (hR : R ≤ 20) (hR1 : 1 ≤ R) (hW : W ≤ 2) (hF : FRA n W lk pa up ld) (hM : MLB mk len) (hup : ∀ c u, c < n → up c = some u → u < n ∧ u ≠ c) (hS : ∀ c, c < n → rdP S c = 0) : ∀ i, i ≤ n → QS n R W p src mk lk pa up ld (aSt n R W p src mk len lk pa up (A0 p src mk S) i) i := by
  intro i
  induction i with
  | zero => intro _; exact ⟨QE_0 hup hF hS, fun c hc => absurd hc (Nat.not_lt_zero c), fun c _ hc => ⟨hS c hc, rfl⟩, fun _ _ _ _ => rfl⟩
  | succ i ih => intro hi; exact QS.next hn hR hR1 hW hF hM (ih (by omega)) (by omega)
theorem QS.done (h : QS n R W p src mk lk pa up ld A n) : QR n R W p lk pa up ld A := ⟨h.1, fun c hc => (h.2.1 c hc).1, fun c hc => (h.2.1 c hc).2⟩
end AST
end
section
-- Both sides at once: the two nets, and the running
section SIDES
variable {n R W p : Nat} {src : Int32} {mk : Nat → Int32} {len : Nat → Nat → Int32} {lk pa : Nat → Nat → Bool} {up : Nat → Option Nat} {ld : Nat → Nat} {A : AS} {σ τ υ : zSt}
theorem CT.lo2 (h : CT σ n R W p src mk len lk pa up ld) (e : ∀ c, c < 32 → τ c = σ c) : CT τ n R W p src mk len lk pa up ld := by
  unfold CT at h ⊢
  rw [e 2 (by decide), e 1 (by decide), e 4 (by decide), e 6 (by decide), e 8 (by decide), e 7 (by decide), e 9 (by decide), e 12 (by decide), e 13 (by decide), e 14 (by decide)]
  exact h
theorem CA.lo2 (h : CA σ n W pa up A) (e : ∀ c, c < 32 → τ c = σ c) : CA τ n W pa up A := by
  have hp : PV τ (aL A) := h.2.1.1.of (fun c hc => e c (by revert c; decide))
  unfold CA at h ⊢
  rw [e 24 (by decide), e 1 (by decide), e 16 (by decide), e 17 (by decide), e 30 (by decide), e 26 (by decide), e 25 (by decide), e 27 (by decide), e 28 (by decide), e 29 (by decide), e 18 (by decide)]
  exact ⟨h.1, ⟨hp, h.2.1.2⟩, h.2.2⟩
theorem MT.hi2 (h : MT σ n R W p src mk len lk pa up) (e : ∀ c, 32 ≤ c → τ c = σ c) : MT τ n R W p src mk len lk pa up := by
  obtain ⟨h1, ⟨h2, h3, h4⟩, h5, h6, h7, h8, h9, h10⟩ := h
  have e32 := e 32 (by decide)
  have e33 := e 33 (by decide)
  have e41 := e 41 (by decide)
  refine ⟨h1.of (by rw [e32]) (by rw [e32]) (by rw [e32]) e41 e33 (e 34 (by decide)), ⟨by rw [e32]; exact h2, h3, by rw [e32]; exact h4⟩, by rw [e 34 (by decide)]; exact h5, by rw [e33]; exact h6, fun a b ha hb => ?_, by rw [upS_eq e41]; exact h8, h9, by rw [e 44 (by decide)]; exact h10⟩
  rw [← h7 a b ha hb]
  unfold zLk
  rw [e33]
theorem MA.hi2 (h : MA σ n A) (e : ∀ c, 32 ≤ c → τ c = σ c) : MA τ n A := by
  have ep : psS τ = psS σ := psS_eq (e 35 (by decide)) (e 36 (by decide)) (e 37 (by decide)) (e 38 (by decide)) (e 39 (by decide)) (e 40 (by decide))
  have hl : ML τ (aL A) := h.2.1.1.of (by rw [e 32 (by decide)]) (e 51 (by decide))
  unfold MA at h ⊢
  rw [ep, e 35 (by decide), e 32 (by decide), e 47 (by decide), e 48 (by decide), e 49 (by decide), e 45 (by decide), e 46 (by decide)]
  exact ⟨h.1, ⟨hl, h.2.1.2⟩, h.2.2⟩
end SIDES
def DG (σ : zSt) : Prop := ∀ a, a < 12 → σ 33 (12 * a + a) = 0
def NET (σ : zSt) : Prop := (∃ n, σ 2 0 = nI n ∧ 1 ≤ n ∧ n ≤ 12) ∧ LK σ ∧ LM σ ∧ SY σ ∧ DG σ
/-- class and reference run as the same pure machine -/
def RUNP (σ : zSt) (n R W p : Nat) (src : Int32) (mk : Nat → Int32) (len : Nat → Nat → Int32) (lk pa : Nat → Nat → Bool) (up : Nat → Option Nat) (ld : Nat → Nat) (A : AS) : Prop :=
  CT σ n R W p src mk len lk pa up ld ∧ MT σ n R W p src mk len lk pa up ∧ FRA n W lk pa up ld ∧ CA σ n W pa up A ∧ MA σ n A ∧ QR n R W p lk pa up ld A ∧ (∀ c, c < n → σ 10 c = σ 41 c ∧ σ 9 c = σ 42 c) ∧ (σ 3 0 = σ 32 19 ∧ σ 3 1 = σ 32 20) ∧ ∀ q b, q ≤ R → b < n → σ 31 (q * 12 + b) = σ 50 (12 * q + b)
def RUN (σ : zSt) : Prop := ∃ (n R W p : Nat) (src : Int32) (mk : Nat → Int32) (len : Nat → Nat → Int32) (lk pa : Nat → Nat → Bool) (up : Nat → Option Nat) (ld : Nat → Nat) (A : AS), RUNP σ n R W p src mk len lk pa up ld A
def INVE (σ : zSt) : Prop := NET σ ∧ (σ 0 1 = 0 ↔ σ 32 4 = 0) ∧ (¬ σ 0 1 = 0 → RUN σ)
section NETS
variable {σ τ υ : zSt}
theorem NET.of (h : NET σ) (e2 : τ 2 = σ 2) (e0 : τ 32 0 = σ 32 0) (e1 : τ 32 1 = σ 32 1) (e7 : τ 7 = σ 7) (e33 : τ 33 = σ 33) (e6 : τ 6 = σ 6) (e34 : τ 34 = σ 34) (e8 : τ 8 = σ 8) : NET τ := by
  obtain ⟨⟨n, h1, h2⟩, h3, h4, h5, h6⟩ := h
  exact ⟨⟨n, by rw [e2]; exact h1, h2⟩, h3.of e2 e0 e1 e7 e33 e6 e34 e8, h4.of e33 e34, h5.of e7 e33 e0, fun a ha => by rw [e33]; exact h6 a ha⟩
theorem NET.c (h : NET σ) (hF : zFr FX σ τ) : NET τ := h.of (hF 2 (by decide)) (by rw [hF 32 (by decide)]) (by rw [hF 32 (by decide)]) (hF 7 (by decide)) (hF 33 (by decide)) (hF 6 (by decide)) (hF 34 (by decide)) (hF 8 (by decide))
theorem NET.m (h : NET σ) (hF : MF FMo JMo σ τ) : NET τ := h.of (hF.at (by decide)) (hF.2 0 (by decide)) (hF.2 1 (by decide)) (hF.at (by decide)) (hF.at (by decide)) (hF.at (by decide)) (hF.at (by decide)) (hF.at (by decide))
theorem NET_begin {v : Int32} (h1 : ¬ v < 1) (h2 : v ≤ 12) : NET (mbegin (zup (nclear σ v) 0 1 0) v) := by
  have hI : CI (mbegin (zup (nclear σ v) 0 1 0) v) := CI.of (CI_begin (σ := σ) h1 h2) (fun c hc => by
    unfold mbegin
    rw [zfill_ne (by omega), zfill_ne (by omega), zup_ne (by omega), zup_ne (by omega), zup_ne (by omega)])
  refine ⟨hI.1, LK_begin, LM_begin, SY_begin h1 h2, fun a ha => ?_⟩
  have hk : 12 * a + a < 144 := by omega
  unfold mbegin
  rw [zfill_ne (by decide)]
  simp [zfill, hk]
theorem NET_0 : NET (mbegin s0 1) := by
  refine ⟨s0_CI.1, INVL_0.2, LM_begin, SY_0, fun a ha => ?_⟩
  have hk : 12 * a + a < 144 := by omega
  unfold mbegin
  rw [zfill_ne (by decide)]
  simp [zfill, hk]
theorem NET.link {n i j : Nat} {len : Int32} (h : NET σ) (hn : σ 2 0 = nI n) (hle : n ≤ 12) (hi : i < n) (hj : j < n) (hij : i ≠ j) (h1 : ¬ len < 1) (h2 : len ≤ 9) : NET (mlink (zup (njoin σ i j len) 0 1 0) i j len) := by
  obtain ⟨⟨n', q1, q2, q3⟩, hL, hM, hS, hD⟩ := h
  have u2 : mlink (zup (njoin σ i j len) 0 1 0) i j len 2 0 = σ 2 0 := by
    unfold mlink
    rw [zup_ne (by decide), zup_ne (by decide), zup_ne (by decide), zup_ne (by decide), zup_ne (by decide), njoin_2]
  have u33 : mlink (zup (njoin σ i j len) 0 1 0) i j len 33 = upd (upd (σ 33) (12 * i + j) len) (12 * j + i) len := by
    unfold mlink
    rw [zup_ne (by decide), zup_self, zup_self, zup_ne (by decide), zup_ne (by decide), njoin_hi 33 (by decide)]
  have u34 : mlink (zup (njoin σ i j len) 0 1 0) i j len 34 = σ 34 := by
    unfold mlink
    rw [zup_ne (by decide), zup_ne (by decide), zup_ne (by decide), zup_ne (by decide), zup_ne (by decide), njoin_hi 34 (by decide)]
  have c1 : ¬ len.toInt < 1 := fun q => h1 (i32_lt.mpr (by rw [show (1 : Int32).toInt = 1 by decide]; exact q))
  have c2 := i32_le.mp h2
  rw [show (9 : Int32).toInt = 9 by decide] at c2
  refine ⟨⟨n', by rw [u2]; exact q1, q2, q3⟩, (LK_link hL (by omega) (by omega) hij h1).1, ⟨fun k hk => ?_, fun a ha => ?_⟩, SY_link hS (by rw [← hL.1]; exact hn) hle hi hj hij, fun a ha => ?_⟩
  · rw [u33]
    unfold upd
    split
    · omega
    · split
      · omega
      · exact hM.1 k hk
  · rw [u34]; exact hM.2 a ha
  · rw [u33]
    unfold upd
    rw [if_neg (by omega), if_neg (by omega)]
    exact hD a ha
theorem NET.mark {j : Nat} {v : Int32} (h : NET σ) (h1 : ¬ v < 0) (h2 : v ≤ 99) : NET (zup (zup (zup (zup σ 6 j v) 0 1 0) 34 j v) 32 4 0) := by
  obtain ⟨⟨n', q1, q2, q3⟩, hL, hM, hS, hD⟩ := h
  have c1 : ¬ v.toInt < 0 := fun q => h1 (i32_lt.mpr (by rw [show (0 : Int32).toInt = 0 by decide]; exact q))
  have c2 := i32_le.mp h2
  rw [show (99 : Int32).toInt = 99 by decide] at c2
  have u : ∀ c, c ≠ 6 → c ≠ 0 → c ≠ 34 → c ≠ 32 → zup (zup (zup (zup σ 6 j v) 0 1 0) 34 j v) 32 4 0 c = σ c := fun c k1 k2 k3 k4 => by
    rw [zup_ne k4, zup_ne k3, zup_ne k2, zup_ne k1]
  refine ⟨⟨n', by rw [u 2 (by decide) (by decide) (by decide) (by decide)]; exact q1, q2, q3⟩, LK_mark hL, ⟨fun k hk => ?_, fun a ha => ?_⟩, hS.of (u 7 (by decide) (by decide) (by decide) (by decide)) (u 33 (by decide) (by decide) (by decide) (by decide)) (by simp [zup]), fun a ha => ?_⟩
  · rw [u 33 (by decide) (by decide) (by decide) (by decide)]; exact hM.1 k hk
  · rw [zup_ne (by decide), zup_self, zup_ne (by decide), zup_ne (by decide)]
    unfold upd
    split
    · omega
    · exact hM.2 a ha
  · rw [u 33 (by decide) (by decide) (by decide) (by decide)]; exact hD a ha
theorem INVE_off (h : NET τ) (h0 : τ 0 1 = 0) (h4 : τ 32 4 = 0) : INVE τ := ⟨h, ⟨fun _ => h4, fun _ => h0⟩, fun q => absurd h0 q⟩
theorem INVE_0 : INVE (mbegin s0 1) := INVE_off NET_0 (by unfold mbegin; rw [zfill_ne (by decide), zfill_ne (by decide)]; rfl) (by unfold mbegin; rw [zfill_ne (by decide), zfill_ne (by decide)]; simp [zup])
theorem INVE.begin {v x y : Int32} (h : INVE σ) (h1 : (x = -1 ∧ τ = σ ∧ (v < 1 ∨ ¬ v ≤ 12)) ∨ (x = 0 ∧ ¬ v < 1 ∧ v ≤ 12 ∧ τ = zup (nclear σ v) 0 1 0)) (h2 : (y = -1 ∧ υ = τ ∧ (v < 1 ∨ ¬ v ≤ 12)) ∨ (y = 0 ∧ ¬ v < 1 ∧ v ≤ 12 ∧ υ = mbegin τ v)) : x = y ∧ INVE υ := by
  rcases h1 with ⟨e1, e2, q1⟩ | ⟨e1, q1, q2, e2⟩
  · rcases h2 with ⟨e3, e4, q3⟩ | ⟨e3, q3, q4, e4⟩
    · exact ⟨by rw [e1, e3], by rw [e4, e2]; exact h⟩
    · rcases q1 with q | q
      · exact absurd q q3
      · exact absurd q4 q
  · rcases h2 with ⟨e3, e4, q3⟩ | ⟨e3, q3, q4, e4⟩
    · rcases q3 with q | q
      · exact absurd q q1
      · exact absurd q2 q
    · refine ⟨by rw [e1, e3], ?_⟩
      rw [e4, e2]
      refine INVE_off (NET_begin q1 q2) ?_ ?_
      · simp [mbegin, zfill, zup]
      · simp [mbegin, zfill, zup]
/-- between link's two calls the reference's net is as it was -/
theorem INVE.n2 (h : INVE σ) (e : τ 32 0 = σ 32 0) : ∃ m, τ 32 0 = nI m ∧ m ≤ 12 := by
  obtain ⟨⟨⟨n, q1, q2, q3⟩, hL, _⟩, _⟩ := h
  exact ⟨n, by rw [e, ← hL.1]; exact q1, q3⟩
theorem link_32 {n : Nat} {x a b len : Int32} (h1 : (x = -1 ∧ τ = σ ∧ (zHas σ a = false ∨ zHas σ b = false ∨ a = b ∨ len < 1 ∨ ¬ len ≤ 9)) ∨ (∃ i j, i < n ∧ j < n ∧ a = nI i ∧ b = nI j ∧ i ≠ j ∧ ¬ len < 1 ∧ len ≤ 9 ∧ τ = zup (njoin σ i j len) 0 1 0 ∧ x = τ 2 1)) : τ 32 0 = σ 32 0 := by
  rcases h1 with ⟨_, e, _⟩ | ⟨i, j, _, _, _, _, _, _, _, e, _⟩
  · rw [e]
  · rw [e, zup_ne (by decide), njoin_hi 32 (by decide)]
theorem mark_32 {n : Nat} {x a v : Int32} (h1 : (x = -1 ∧ τ = σ ∧ (zHas σ a = false ∨ v < 0 ∨ ¬ v ≤ 99)) ∨ (∃ j, j < n ∧ a = nI j ∧ ¬ v < 0 ∧ v ≤ 99 ∧ x = σ 6 j ∧ τ = zup (zup σ 6 j v) 0 1 0)) : τ 32 0 = σ 32 0 := by
  rcases h1 with ⟨_, e, _⟩ | ⟨j, _, _, _, _, _, e⟩
  · rw [e]
  · rw [e, zup_ne (by decide), zup_ne (by decide)]
theorem INVE.link {n m : Nat} {x y a b len : Int32} (h : INVE σ) (hn : σ 2 0 = nI n) (hln : n ≤ 12) (hm : τ 32 0 = nI m) (hlm : m ≤ 12) (h1 : (x = -1 ∧ τ = σ ∧ (zHas σ a = false ∨ zHas σ b = false ∨ a = b ∨ len < 1 ∨ ¬ len ≤ 9)) ∨ (∃ i j, i < n ∧ j < n ∧ a = nI i ∧ b = nI j ∧ i ≠ j ∧ ¬ len < 1 ∧ len ≤ 9 ∧ τ = zup (njoin σ i j len) 0 1 0 ∧ x = τ 2 1)) (h2 : (y = -1 ∧ υ = τ ∧ (zNo τ a = true ∨ zNo τ b = true ∨ a = b ∨ len < 1 ∨ ¬ len ≤ 9)) ∨ (∃ i j, i < m ∧ j < m ∧ a = nI i ∧ b = nI j ∧ i ≠ j ∧ ¬ len < 1 ∧ len ≤ 9 ∧ υ = mlink τ i j len ∧ y = υ 32 1)) : x = y ∧ INVE υ := by
  have g1 : σ 2 0 = σ 32 0 := h.1.2.1.1
  rcases h1 with ⟨e1, e2, q⟩ | ⟨i, j, hi, hj, ea, eb, hij, q1, q2, e2, e1⟩
  · rcases h2 with ⟨e3, e4, _⟩ | ⟨i, j, hi, hj, ea, eb, hij, q1, q2, e4, e3⟩
    · exact ⟨by rw [e1, e3], by rw [e4, e2]; exact h⟩
    · exfalso
      rw [e2] at hm
      rcases q with q | q | q | q | q
      · rw [zHas_no g1, ea, zNo_in hm hlm hi] at q; exact absurd q (by decide)
      · rw [zHas_no g1, eb, zNo_in hm hlm hj] at q; exact absurd q (by decide)
      · rw [ea, eb] at q; exact hij (nI_in12 (by omega) (by omega) q)
      · exact q1 q
      · exact q q2
  · have hn3 : τ 32 0 = nI n := by rw [e2, zup_ne (by decide), njoin_hi 32 (Nat.le_refl 32), ← g1]; exact hn
    rcases h2 with ⟨e3, e4, q⟩ | ⟨i', j', hi', hj', ea', eb', _, _, _, e4, e3⟩
    · exfalso
      rcases q with q | q | q | q | q
      · rw [ea, zNo_in hn3 hln hi] at q; exact absurd q (by decide)
      · rw [eb, zNo_in hn3 hln hj] at q; exact absurd q (by decide)
      · rw [ea, eb] at q; exact hij (nI_in12 (by omega) (by omega) q)
      · exact q1 q
      · exact q q2
    · have ei : i' = i := nI_in12 (by omega) (by omega) (ea'.symm.trans ea)
      have ej : j' = j := nI_in12 (by omega) (by omega) (eb'.symm.trans eb)
      rw [ei, ej, e2] at e4
      refine ⟨?_, ?_⟩
      · rw [e1, e3, e4, e2]
        exact (LK_link (len := len) h.1.2.1 (show i < 12 by omega) (show j < 12 by omega) hij q1).2
      · rw [e4]
        refine INVE_off (h.1.link hn hln hi hj hij q1 q2) ?_ ?_
        · simp [mlink, zup]
        · simp [mlink, zup]
theorem INVE.mark {n m : Nat} {x y a v : Int32} (h : INVE σ) (hn : σ 2 0 = nI n) (hln : n ≤ 12) (hm : τ 32 0 = nI m) (hlm : m ≤ 12) (h1 : (x = -1 ∧ τ = σ ∧ (zHas σ a = false ∨ v < 0 ∨ ¬ v ≤ 99)) ∨ (∃ j, j < n ∧ a = nI j ∧ ¬ v < 0 ∧ v ≤ 99 ∧ x = σ 6 j ∧ τ = zup (zup σ 6 j v) 0 1 0)) (h2 : (y = -1 ∧ υ = τ ∧ (zNo τ a = true ∨ v < 0 ∨ ¬ v ≤ 99)) ∨ (∃ j, j < m ∧ a = nI j ∧ ¬ v < 0 ∧ v ≤ 99 ∧ y = τ 34 j ∧ υ = zup (zup τ 34 j v) 32 4 0)) : x = y ∧ INVE υ := by
  have g1 : σ 2 0 = σ 32 0 := h.1.2.1.1
  rcases h1 with ⟨e1, e2, q⟩ | ⟨i, hi, ea, q1, q2, e1, e2⟩
  · rcases h2 with ⟨e3, e4, _⟩ | ⟨i, hi, ea, q1, q2, e3, e4⟩
    · exact ⟨by rw [e1, e3], by rw [e4, e2]; exact h⟩
    · exfalso
      rw [e2] at hm
      rcases q with q | q | q
      · rw [zHas_no g1, ea, zNo_in hm hlm hi] at q; exact absurd q (by decide)
      · exact q1 q
      · exact q q2
  · have hn3 : τ 32 0 = nI n := by rw [e2, zup_ne (by decide), zup_ne (by decide), ← g1]; exact hn
    rcases h2 with ⟨e3, e4, q⟩ | ⟨i', hi', ea', _, _, e3, e4⟩
    · exfalso
      rcases q with q | q | q
      · rw [ea, zNo_in hn3 hln hi] at q; exact absurd q (by decide)
      · exact q1 q
      · exact q q2
    · have ei : i' = i := nI_in12 (by omega) (by omega) (ea'.symm.trans ea)
      rw [ei, e2] at e4
      refine ⟨?_, ?_⟩
      · rw [e1, e3, ei, e2, zup_ne (by decide), zup_ne (by decide)]
        exact h.1.2.1.2.2.2.1 i (by omega)
      · rw [e4]
        refine INVE_off (h.1.mark q1 q2) ?_ ?_
        · simp [zup]
        · simp [zup]
end NETS
end
section
-- The class's start is the pure machine's
theorem s_Course_clear2 (G : zG) (σ : zSt) : zV G 1 M_Course_clear [zf G 1] σ (fun τ => RF [5, 24, 25, 26, 27, 28, 29] σ τ ∧ PV τ [] ∧ (τ 1 6 = 0 ∧ τ 1 7 = 0) ∧ (∀ a, a < 12 → τ 24 a = 0 ∧ τ 26 a = 0 ∧ τ 27 a = 0 ∧ τ 28 a = 0) ∧ ∀ k, k < 24 → τ 29 k = 0) := by
  refine zSpec.of (by decide) (Nat.le_of_ble_eq_true rfl) rfl (fun X E => ?_)
  refine b_Course_clear_0 E σ (fun σ1 e1 σ2 e2 σ3 e3 => ?_)
  refine ⟨_, s_fill G 24 12 rfl (by decide) _ _, fun σ4 e4 => ?_⟩
  refine ⟨_, s_fill G 25 12 rfl (by decide) _ _, fun σ5 e5 => ?_⟩
  refine ⟨_, s_fill G 26 12 rfl (by decide) _ _, fun σ6 e6 => ?_⟩
  refine ⟨_, s_fill G 27 12 rfl (by decide) _ _, fun σ7 e7 => ?_⟩
  refine ⟨_, s_fill G 28 12 rfl (by decide) _ _, fun σ8 e8 => ?_⟩
  refine ⟨_, s_fill G 29 24 rfl (by decide) _ _, fun σ9 e9 => ?_⟩
  have hF3 : RF [5, 24, 25, 26, 27, 28, 29] σ σ3 := by
    rw [e3, e2, e1]
    exact ((RF.rf.up (by decide) (by decide)).cnt (Or.inl rfl)).cnt (Or.inr rfl)
  have h93 : zFr [24, 25, 26, 27, 28, 29] σ3 σ9 := by
    rw [e9, e8, e7, e6, e5, e4]
    exact (((((zFr.rf.fill (by decide)).fill (by decide)).fill (by decide)).fill (by decide)).fill (by decide)).fill (by decide)
  refine ⟨rfl, hF3.tr ((RF.of h93 (by decide)).mono (by decide)), ⟨?_, Nat.zero_le _, fun i hi => absurd hi (Nat.not_lt_zero i)⟩, ⟨?_, ?_⟩, fun a ha => ⟨?_, ?_, ?_, ?_⟩, fun k hk => ?_⟩
  · rw [h93 5 (by decide), e3, zup_ne (by decide), e2, zup_ne (by decide), e1, zup_self, upd_eq]
    rfl
  · rw [h93 1 (by decide), e3, zup_self, upd_ne (by decide), e2, zup_self, upd_eq]
  · rw [h93 1 (by decide), e3, zup_self, upd_eq]
  · rw [e9, zfill_ne (by decide), e8, zfill_ne (by decide), e7, zfill_ne (by decide), e6, zfill_ne (by decide), e5, zfill_ne (by decide), e4]; simp [zfill, ha]
  · rw [e9, zfill_ne (by decide), e8, zfill_ne (by decide), e7, zfill_ne (by decide), e6]; simp [zfill, ha]
  · rw [e9, zfill_ne (by decide), e8, zfill_ne (by decide), e7]; simp [zfill, ha]
  · rw [e9, zfill_ne (by decide), e8]; simp [zfill, ha]
  · rw [e9]; simp [zfill, hk]
section CST
variable {n R W p : Nat} {src : Int32} {mk : Nat → Int32} {len : Nat → Nat → Int32} {lk pa : Nat → Nat → Bool} {up : Nat → Option Nat} {ld : Nat → Nat} {S : PS}
/-- the class's state before the first round -/
theorem CA_0 {σ : zSt} (hn : n ≤ 12) (hS : ∀ c, c < n → rdP S c = 0) (h24 : ∀ a, a < 12 → σ 24 a = 0 ∧ σ 26 a = 0 ∧ σ 27 a = 0 ∧ σ 28 a = 0) (h29 : ∀ k, k < 24 → σ 29 k = 0) (hP : PV σ []) (h6 : σ 1 6 = 0) (h7 : σ 1 7 = 0) (h16 : ∀ b, b < 12 → σ 16 b = first0 p (decide (nI b = src)) (mk b)) (h17 : ∀ b, b < 12 → σ 17 b = -2) (h18 : ∀ k, k < 288 → σ 18 k = -2) (h30 : ∀ b, b < n → σ 30 b = σ 16 b) : CA σ n W pa up (A0 p src mk S) := by
  have cf : ∀ (l : List Nat), l.countP (fun _ => false) = 0 := fun l => List.countP_eq_zero.mpr (fun x _ q => absurd q (by decide))
  refine ⟨fun a ha => ?_, ⟨hP, h6, h7⟩, fun a ha => ⟨h16 a (by omega), h17 a (by omega)⟩, fun r a hr ha => ?_, fun a ha => ⟨fun _ => (h24 a (by omega)).2.1, fun h => ?_⟩, fun a ha => ?_, fun a r ha hr => ?_, fun a r ha hr f hf => ?_⟩
  · show σ 24 a = nI (rdP S a)
    rw [hS a ha, (h24 a (by omega)).1]; rfl
  · have hr : r ≤ rdP S a := hr
    rw [hS a ha] at hr
    have e : r = 0 := by omega
    rw [e, Nat.zero_mul, Nat.zero_add, h30 a ha]
    exact h16 a (by omega)
  · have h : 1 ≤ rdP S a := h
    rw [hS a ha] at h; omega
  · refine ⟨?_, ?_⟩
    · rw [(h24 a (by omega)).2.2.1]
      show (0 : Int32) = nI ((lows n up a).countP (fun _ => false))
      rw [cf]; rfl
    · rw [(h24 a (by omega)).2.2.2]
      show (0 : Int32) = nI ((lows n up a).countP (fun _ => false))
      rw [cf]; rfl
  · rw [h29 _ (by have := Nat.mod_lt r (show 0 < 2 by decide); omega)]
    show (0 : Int32) = nI ((pars n pa a).countP (fun _ => false))
    rw [cf]; rfl
  · rw [h18 _ (by have := Nat.mod_lt r (show 0 < 2 by decide); omega)]
    unfold noteR
    rw [if_neg (fun q => absurd q.2 (by simp [A0]))]
theorem s_Course_open4 (G : zG) (σ : zSt) (hp3 : p ≤ 3) (hmk : ∀ a, a < 12 → σ 6 a = mk a) (hlen : ∀ a b, a < 12 → b < 12 → σ 8 (a * 12 + b) = len a b) (hlk : ∀ a b, a < 12 → b < 12 → zIn (σ 7 b) (nI a) = lk a b) (hlk2 : ∀ a b, a < n → b < 32 → (zIn (σ 7 a) (nI b) = true ↔ (b < n ∧ lk a b = true))) (hn : σ 2 0 = nI n) (h1 : 1 ≤ n) (hle : n ≤ 12) (hR1 : 1 ≤ R) (hR2 : R ≤ 20) (hW : W ≤ 2) (h9 : ∀ c, c < n → σ 9 c = nI (ld c) ∧ ∀ d, d < 32 → (zIn (σ 12 c) (nI d) = true ↔ up c = some d)) (h13 : ∀ u c, u < n → c < 32 → (zIn (σ 13 u) (nI c) = true ↔ (c < n ∧ up c = some u))) (h14 : ∀ a b, a < n → b < 32 → (zIn (σ 14 a) (nI b) = true ↔ (b < n ∧ pa a b = true))) (hF : FRA n W lk pa up ld) (hM : MLB mk len) (hup : ∀ c u, c < n → up c = some u → u < n ∧ u ≠ c) (hS : ∀ c, c < n → rdP S c = 0) : zV G 6 M_Course_open [zf G 1, .int (nI p), .int (nI W), .int src, .int (nI R)] σ (fun τ => zFr FO σ τ ∧ CT τ n R W p src mk len lk pa up ld ∧ CA τ n W pa up (aSt n R W p src mk len lk pa up (A0 p src mk S) n) ∧ ∀ q b, q ≤ R → b < n → τ 31 (q * 12 + b) = (sV p src n mk len lk q b).1) := by
  refine zSpec.of (by decide) (Nat.le_of_ble_eq_true rfl) rfl (fun X E => ?_)
  refine b_Course_open_0 E (nI p) (nI W) src (nI R) σ (fun σ1 e1 σ2 e2 => ?_)
  have h12 : zFr FO σ σ2 := by rw [e2, e1]; exact (zFr.rf.up (by decide)).up (by decide)
  have hw2 : σ2 1 4 = nI W := by rw [e2, e1, zup_self, zup_self]; simp [upd]
  have hr2 : σ2 1 5 = nI R := by rw [e2, zup_self]; simp [upd]
  refine ⟨_, s_Play_reset2 G σ2 p src hp3, fun σ3 ⟨g3, gp, gs, gv, gq, gn⟩ => ⟨_, s_Course_goInStep2 G σ3 n R p mk len lk (by rw [g3 2 (by decide), h12 2 (by decide)]; exact hn) hle (by rw [g3 1 (by decide)]; exact hr2) hR2 gp hp3 (fun a ha => by rw [g3 6 (by decide), h12 6 (by decide)]; exact hmk a ha) (fun a b ha hb => by rw [g3 8 (by decide), h12 8 (by decide)]; exact hlen a b ha hb) (fun a b ha hb => by rw [g3 7 (by decide), h12 7 (by decide)]; exact hlk a b ha hb) (fun b hb => by rw [gs, gv b hb, h12 6 (by decide), hmk b hb]) gq gn, fun σ4 ⟨g4, g31⟩ => ⟨_, s_Play_reset2 G σ4 p src hp3, fun σ5 ⟨g5, gp5, gs5, gv5, gq5, gn5⟩ => ⟨_, s_Course_clear2 G σ5, fun σ6 ⟨g6, p6, ⟨z6, z7⟩, r6, s6⟩ => ?_⟩⟩⟩⟩
  have h25 : zFr [4, 16, 17, 18, 31] σ2 σ5 := ((g3.mono (by decide)).tr (g4.mono (by decide))).tr (g5.mono (by decide))
  have e31 : ∀ q b, q ≤ R → b < n → σ6 31 (q * 12 + b) = (sV p src n mk len lk q b).1 := fun q b hq hb => by
    rw [g6.1 31 (by decide), g5 31 (by decide), g31 q b hq hb, gs]
  have h6 : zFr FO σ σ6 := (h12.tr (h25.mono (by decide))).tr (g6.zFr (by decide))
  have w6 : σ6 1 4 = nI W := by rw [g6.2.1, h25 1 (by decide)]; exact hw2
  have r6' : σ6 1 5 = nI R := by rw [g6.2.2, h25 1 (by decide)]; exact hr2
  have e4 : σ6 4 = σ5 4 := g6.at (by decide)
  have e46 : σ4 6 = σ 6 := by rw [g4 6 (by decide), g3 6 (by decide), h12 6 (by decide)]
  have T6 : CT σ6 n R W p src mk len lk pa up ld := by
    refine ⟨⟨by rw [h6 2 (by decide)]; exact hn, h1, hle, r6', hR1, hR2, w6, hW⟩, ⟨by rw [e4]; exact gp5, hp3, by rw [e4]; exact gs5⟩, ?_, ?_, ?_, ?_, ?_, ?_⟩
    · rw [h6 6 (by decide)]; exact hmk
    · rw [h6 8 (by decide)]; exact hlen
    · rw [h6 7 (by decide)]; exact hlk2
    · rw [h6 9 (by decide), h6 12 (by decide)]; exact h9
    · rw [h6 13 (by decide)]; exact h13
    · rw [h6 14 (by decide)]; exact h14
  have f16 : ∀ b, b < 12 → σ6 16 b = first0 p (decide (nI b = src)) (mk b) := fun b hb => by rw [g6.at (by decide), gv5 b hb, e46, hmk b hb]
  have f17 : ∀ b, b < 12 → σ6 17 b = -2 := fun b hb => by rw [g6.at (by decide)]; exact gq5 b hb
  have f18 : ∀ k, k < 288 → σ6 18 k = -2 := fun k hk => by rw [g6.at (by decide)]; exact gn5 k hk
  have qs := fun i (hi : i ≤ n) => QS_all (S := S) (src := src) (p := p) hle hR2 hR1 hW hF hM hup hS i hi
  -- the second loop
  have two : ∀ υ, RF FR σ6 υ → CA υ n W pa up (A0 p src mk S) → zZ G M_Course_open 6 X (fun r τ => r = none ∧ zFr FO σ τ ∧ CT τ n R W p src mk len lk pa up ld ∧ CA τ n W pa up (aSt n R W p src mk len lk pa up (A0 p src mk S) n) ∧ ∀ q b, q ≤ R → b < n → τ 31 (q * 12 + b) = (sV p src n mk len lk q b).1) 90 [(0, zf G 1), (5, .int (0 : Int32))] [] υ := by
    intro υ hFr hC
    refine z_for n (fun i τ => zZ G M_Course_open 6 X (fun r τ => r = none ∧ zFr FO σ τ ∧ CT τ n R W p src mk len lk pa up ld ∧ CA τ n W pa up (aSt n R W p src mk len lk pa up (A0 p src mk S) n) ∧ ∀ q b, q ≤ R → b < n → τ 31 (q * 12 + b) = (sV p src n mk len lk q b).1) 90 [(0, zf G 1), (5, .int (nI i))] [] τ) (fun i τ => RF FR σ6 τ ∧ CA τ n W pa up (aSt n R W p src mk len lk pa up (A0 p src mk S) i)) ?_ ?_ 0 υ (Nat.zero_le _) ⟨hFr, hC⟩
    · intro i τ hi ⟨k1, k2⟩ ih
      have hT := T6.of k1
      have hq := qs i (by omega)
      have hB := hq.bg hR1 hle hi
      obtain ⟨hQ, _, q3, q4⟩ := hq
      have ra := (q3 i (Nat.le_refl _) hi).1
      have r1 : rdP (aS (aBeg n p src mk len lk up (aSt n R W p src mk len lk pa up (A0 p src mk S) i) i)) i = 1 := by
        show fup (rdP (aS (aSt n R W p src mk len lk pa up (A0 p src mk S) i))) i (rdP (aS (aSt n R W p src mk len lk pa up (A0 p src mk S) i)) i + 1) i = 1
        rw [fup_s, ra]
      refine b_Course_open_90 E (nI i) τ ⟨fun q => absurd q (by rw [hT.1.1]; exact nI_ge hi (by omega)), fun _ => ⟨_, s_Course_enterNext2 G τ i hT hF hM k2 hQ hB hi (fun _ w b q => q4 w i b q), fun σ1 ⟨m1, m2⟩ => ⟨_, s_Course_push2 G σ1 i (hT.of m1) hF hM m2 (hQ.beg hle hR2 hM hi hB) hi (by omega), fun σ2 ⟨m3, m4⟩ => ?_⟩⟩⟩
      rw [nI_1]
      exact ih σ2 ⟨(k1.tr m1).tr m3, m4⟩
    · intro τ ⟨k1, k2⟩
      have hT := T6.of k1
      exact b_Course_open_90 E (nI n) τ ⟨fun _ => ⟨rfl, h6.tr (k1.zFr (by decide)), hT, k2, fun q b hq hb => by rw [k1.at (by decide)]; exact e31 q b hq hb⟩, fun q => absurd (by rw [hT.1.1]; exact nI_le (Nat.le_refl n) (by omega)) q⟩
  refine z_for n (fun i τ => zZ G M_Course_open 6 X (fun r τ => r = none ∧ zFr FO σ τ ∧ CT τ n R W p src mk len lk pa up ld ∧ CA τ n W pa up (aSt n R W p src mk len lk pa up (A0 p src mk S) n) ∧ ∀ q b, q ≤ R → b < n → τ 31 (q * 12 + b) = (sV p src n mk len lk q b).1) 48 [(0, zf G 1), (5, .int (nI i))] [] τ) (fun i τ => zFr [30] σ6 τ ∧ ∀ b, b < i → τ 30 b = σ6 16 b) ?_ ?_ 0 σ6 (Nat.zero_le _) ⟨zFr.rf, fun b hb => absurd hb (Nat.not_lt_zero b)⟩
  · intro i τ hi ⟨hI, hv⟩ ih
    refine b_Course_open_48 E (nI i) τ ⟨fun q => absurd q (by rw [hI 2 (by decide), T6.1.1]; exact nI_ge hi (by omega)), fun _ => ⟨vp_in_nI (by omega) (by decide), by rw [show (0 : Int32) = nI 0 from rfl, zi12]; exact vp_in_nI (by omega) (by decide), fun σ1 e1 => ?_⟩⟩
    rw [show (0 : Int32) = nI 0 from rfl, zi12, nI_clamp (by omega), nI_clamp (by omega), Nat.zero_mul, Nat.zero_add] at e1
    rw [nI_1]
    refine ih σ1 ⟨by rw [e1]; exact hI.up (by decide), fun b hb => ?_⟩
    rw [e1, zup_self]
    by_cases e : b = i
    · rw [e, upd_eq, hI 16 (by decide)]
    · rw [upd_ne e]; exact hv b (by omega)
  · intro τ ⟨hI, hv⟩
    refine b_Course_open_48 E (nI n) τ ⟨fun _ => two τ ((RF.of hI (by decide)).mono (by decide)) ?_, fun q => absurd (by rw [hI 2 (by decide), T6.1.1]; exact nI_le (Nat.le_refl n) (by omega)) q⟩
    refine CA_0 hle hS ?_ ?_ ?_ ?_ ?_ ?_ ?_ ?_ ?_
    · rw [hI 24 (by decide), hI 26 (by decide), hI 27 (by decide), hI 28 (by decide)]; exact r6
    · rw [hI 29 (by decide)]; exact s6
    · exact p6.of (fun c hc => hI c (fun h => by rw [List.mem_singleton.mp h] at hc; revert hc; decide))
    · rw [hI 1 (by decide)]; exact z6
    · rw [hI 1 (by decide)]; exact z7
    · rw [hI 16 (by decide)]; exact f16
    · rw [hI 17 (by decide)]; exact f17
    · rw [hI 18 (by decide)]; exact f18
    · rw [hI 16 (by decide)]; exact hv
end CST
/-- the state behind an accepted start -/
abbrev aStF (n R W p j : Nat) (mk : Nat → Int32) (len : Nat → Nat → Int32) (lk : Nat → Nat → Bool) (k : Int32) (S : PS) : AS := aSt n R W p (nI j) mk len lk (paF W n lk k) (upF W n j lk k) (A0 p (nI j) mk S) n
def CSE (n : Nat) (mk : Nat → Int32) (len : Nat → Nat → Int32) (lk : Nat → Nat → Bool) (k : Int32) (S : PS) (pp R W j : Nat) (x : Int32) (τ : zSt) : Prop :=
  CT τ n R W pp (nI j) mk len lk (paF W n lk k) (upF W n j lk k) (ldF W n j lk k) ∧ CA τ n W (paF W n lk k) (upF W n j lk k) (aStF n R W pp j mk len lk k S) ∧ FRA n W lk (paF W n lk k) (upF W n j lk k) (ldF W n j lk k) ∧ x = nI (aL (aStF n R W pp j mk len lk k S)).length ∧ (∀ c, c < n → τ 10 c = encU (upF W n j lk k c)) ∧ (τ 3 0 = nI (clN W n lk k) ∧ τ 3 1 = nI (chN W n lk k)) ∧ ∀ q b, q ≤ R → b < n → τ 31 (q * 12 + b) = (sV pp (nI j) n mk len lk q b).1
def PSE (σ : zSt) (n : Nat) (mk : Nat → Int32) (len : Nat → Nat → Int32) (lk : Nat → Nat → Bool) (S : PS) (p w s k r x : Int32) (τ : zSt) : Prop :=
  (x = -1 ∧ τ = σ ∧ (SB0 (!zHas σ s) p w k r ∨ ¬ zRe σ n (n - 1) = zAll (nI n))) ∨ (¬ SB0 (!zHas σ s) p w k r ∧ zRe σ n (n - 1) = zAll (nI n) ∧ zFr FX σ τ ∧ τ 0 1 = 1 ∧ ∃ pp R W j, (p = nI pp ∧ pp ≤ 3) ∧ (r = nI R ∧ 1 ≤ R ∧ R ≤ 20) ∧ (w = nI W ∧ W ≤ 2) ∧ (s = nI j ∧ j < n) ∧ CSE n mk len lk k S pp R W j x τ)
theorem s_P_start4 (G : zG) (σ : zSt) (n : Nat) (p w s k r : Int32) (mk : Nat → Int32) (len : Nat → Nat → Int32) (lk : Nat → Nat → Bool) (S : PS) (hn : σ 2 0 = nI n) (h1 : 1 ≤ n) (hle : n ≤ 12) (hmk : ∀ a, a < 12 → σ 6 a = mk a) (hlen : ∀ a b, a < 12 → b < 12 → σ 8 (a * 12 + b) = len a b) (hlk : ∀ a b, a < 12 → b < 12 → zIn (σ 7 b) (nI a) = lk a b) (hsym : ∀ a b, a < n → b < n → lk a b = lk b a) (hirr : ∀ a, a < n → lk a a = false) (hhi : ∀ a c, a < n → n ≤ c → c < 32 → zIn (σ 7 a) (nI c) = false) (hM : MLB mk len) (hS : ∀ c, c < n → rdP S c = 0) : zI G 7 M_P_start [zf G 0, .int p, .int w, .int s, .int k, .int r] σ (fun x τ => PSE σ n mk len lk S p w s k r x τ) := by
  refine zSpec.of (by decide) (Nat.le_of_ble_eq_true rfl) rfl (fun X E => ?_)
  have bad : SB0 (!zHas σ s) p w k r ∨ ¬ zRe σ n (n - 1) = zAll (nI n) → ∃ x : Int32, some (Value.int (-1 : Int32)) = some (Value.int x) ∧ PSE σ n mk len lk S p w s k r x σ := fun hb => ⟨_, rfl, Or.inl ⟨rfl, rfl, hb⟩⟩
  have hl7 : ∀ a b, a < n → b < n → zIn (σ 7 a) (nI b) = lk a b := fun a b ha hb => by rw [hlk b a (by omega) (by omega)]; exact hsym b a hb ha
  have hlk2 : ∀ a b, a < n → b < 32 → (zIn (σ 7 a) (nI b) = true ↔ (b < n ∧ lk a b = true)) := fun a b ha hb => by
    by_cases e : b < n
    · rw [hl7 a b ha e]; exact ⟨fun q => ⟨e, q⟩, fun q => q.2⟩
    · rw [hhi a b ha (by omega) hb]; exact ⟨fun q => absurd q (by decide), fun q => absurd q.1 e⟩
  have go : ¬ SB0 (!zHas σ s) p w k r → ∀ pp, p = nI pp → pp ≤ 3 → ∀ W, w = nI W → W ≤ 2 → zHas σ s = true → ¬ r < 1 → r ≤ 20 → zZ G M_P_start 7 X (fun rr τ => ∃ x : Int32, rr = some (.int x) ∧ PSE σ n mk len lk S p w s k r x τ) 69 [(0, zf G 0), (1, .int p), (2, .int w), (3, .int s), (4, .int k), (5, .int r)] [] σ := by
    intro nb pp hpp hp3 W hWe hW hs hr1 hr2
    obtain ⟨j, hj, es⟩ := zHas_of hs hn hle
    obtain ⟨R, hR, er⟩ := nI_of2 (M := 20) (n := 20) (by decide) (fun e => hr1 (Int32.lt_of_lt_of_le e (by decide))) hr2
    have hR1 : 1 ≤ R := by
      rcases Nat.lt_or_ge R 1 with e | e
      · exact absurd (by rw [er]; exact nI_lt e (by decide)) hr1
      · exact e
    refine b_P_start_69 E p w s k r σ ⟨_, s_Net_isConnected G σ n hn h1 hle, ?_⟩
    rintro b τ ⟨hcb, eτ⟩
    rw [eτ]
    refine ⟨fun hbt => ?_, fun hbf => bad (Or.inr (of_decide_eq_false (hcb.symm.trans hbf)))⟩
    have hco : zRe σ n (n - 1) = zAll (nI n) := of_decide_eq_true (hcb.symm.trans hbt)
    have hSP : SPR n lk (zAll (nI n)) := by
      rw [← hco]
      exact ⟨zRe_0 _ hle, zRe_cl hle h1 hl7, fun T h0 hC b hb h => zRe_sub hle hl7 h0 hC _ b hb h, zRe_hi hle h1 hhi _⟩
    have hF : FRA n W lk (paF W n lk k) (upF W n j lk k) (ldF W n j lk k) := FRA_F hW hle hj hsym hirr hSP
    have c1 : zV G 4 M_Frame_setUp [zf G 3, zf G 2, .int w, .int s, .int k] σ (fun τ => zFr FFrame σ τ ∧ CFr τ W n j lk k) := by
      rw [es, hWe]; exact s_Frame_setUp2 G σ W n j k lk hW hn hle hj hl7 hhi
    have c2 : ∀ σ3 : zSt, zFr FFrame σ σ3 → CFr σ3 W n j lk k → zV G 6 M_Course_open [zf G 1, .int p, .int w, .int s, .int r] σ3 (fun τ => zFr FO σ3 τ ∧ CT τ n R W pp (nI j) mk len lk (paF W n lk k) (upF W n j lk k) (ldF W n j lk k) ∧ CA τ n W (paF W n lk k) (upF W n j lk k) (aStF n R W pp j mk len lk k S) ∧ ∀ q b, q ≤ R → b < n → τ 31 (q * 12 + b) = (sV pp (nI j) n mk len lk q b).1) := by
      intro σ3 g1 ⟨f1, f2, f3, _⟩
      rw [hpp, er, es, hWe]
      exact s_Course_open4 G σ3 hp3 (fun a ha => by rw [g1 6 (by decide)]; exact hmk a ha) (fun a b ha hb => by rw [g1 8 (by decide)]; exact hlen a b ha hb) (fun a b ha hb => by rw [g1 7 (by decide)]; exact hlk a b ha hb) (fun a b ha hb => by rw [g1 7 (by decide)]; exact hlk2 a b ha hb) (by rw [g1 2 (by decide)]; exact hn) h1 hle hR1 hR hW (fun c hc => ⟨(f1 c hc).1, (f1 c hc).2.2⟩) (fun u c hu hc => f2 u c (by omega) hc) f3 hF hM (fun c u hc hu => ⟨(upF_ok hle hc hu).1, (upF_ok hle hc hu).2.1⟩) hS
    refine ⟨_, c1, fun σ3 ⟨g1, g2⟩ => ⟨_, c2 σ3 g1 g2, fun σ4 ⟨k1, k2, k3, k31⟩ σ5 e5 => ⟨_, rfl, Or.inr ⟨nb, hco, ?_, by rw [e5, zup_self, upd_eq], pp, R, W, j, ⟨hpp, hp3⟩, ⟨er, hR1, hR⟩, ⟨hWe, hW⟩, ⟨es, hj⟩, ?_⟩⟩⟩⟩
    · rw [e5]
      exact ((g1.mono (by decide)).tr (k1.mono (by decide))).up (by decide)
    · have h50 : ∀ c, c ≠ 0 → σ5 c = σ4 c := fun c hc => by rw [e5, zup_ne hc]
      have t5 : CT σ5 n R W pp (nI j) mk len lk (paF W n lk k) (upF W n j lk k) (ldF W n j lk k) := by
        unfold CT at k2 ⊢
        rw [h50 2 (by decide), h50 1 (by decide), h50 4 (by decide), h50 6 (by decide), h50 8 (by decide), h50 7 (by decide), h50 9 (by decide), h50 12 (by decide), h50 13 (by decide), h50 14 (by decide)]
        exact k2
      have a5 : CA σ5 n W (paF W n lk k) (upF W n j lk k) (aStF n R W pp j mk len lk k S) := by
        have hp : PV σ5 (aL (aStF n R W pp j mk len lk k S)) := k3.2.1.1.of (fun c hc => h50 c (fun e => by rw [e] at hc; revert hc; decide))
        unfold CA at k3 ⊢
        rw [h50 24 (by decide), h50 1 (by decide), h50 16 (by decide), h50 17 (by decide), h50 30 (by decide), h50 26 (by decide), h50 25 (by decide), h50 27 (by decide), h50 28 (by decide), h50 29 (by decide), h50 18 (by decide)]
        exact ⟨k3.1, ⟨hp, k3.2.1.2⟩, k3.2.2⟩
      obtain ⟨f1, f2, f3, f4, f5⟩ := g2
      refine ⟨t5, a5, hF, a5.2.1.1.1, fun c hc => ?_, ⟨?_, ?_⟩, fun q b hq hb => ?_⟩
      · rw [h50 10 (by decide), k1 10 (by decide)]; exact (f1 c hc).2.1
      · rw [h50 3 (by decide), k1 3 (by decide)]; exact f4
      · rw [h50 3 (by decide), k1 3 (by decide)]; exact f5
      · rw [h50 31 (by decide)]; exact k31 q b hq hb
  refine b_P_start_0 E p w s k r σ ?_
  refine ⟨fun h => bad (Or.inl (Or.inl h)), fun p0 => ⟨fun h => bad (Or.inl (Or.inr (Or.inl h))), fun p3 => ⟨fun h => bad (Or.inl (Or.inr (Or.inr (Or.inl h)))), fun w0 => ⟨fun w2 => ⟨fun h => bad (Or.inl (Or.inr (Or.inr (Or.inr (Or.inr (Or.inl (by rw [h]; rfl))))))), fun hs => ⟨fun h => bad (Or.inl (Or.inr (Or.inr (Or.inr (Or.inr (Or.inr (Or.inl h))))))), fun hr1 => ⟨fun hr2 => ?_, fun h => bad (Or.inl (Or.inr (Or.inr (Or.inr (Or.inr (Or.inr (Or.inr (Or.inl h))))))))⟩⟩⟩, fun h => bad (Or.inl (Or.inr (Or.inr (Or.inr (Or.inl (Int32.not_le.mp h))))))⟩⟩⟩⟩
  obtain ⟨pp, hp3, hpp⟩ := nI_of2 (M := 3) (n := 3) (by decide) p0 (Int32.not_lt.mp p3)
  obtain ⟨W, hW, hWe⟩ := nI_of2 (M := 2) (n := 2) (by decide) w0 w2
  have nb : (w = 2 → ¬ (k < 2 ∨ 8 < k)) → ¬ SB0 (!zHas σ s) p w k r := by
    intro hk q
    rcases q with q | q | q | q | q | q | q | q
    · exact p0 q
    · exact p3 q
    · exact w0 q
    · exact absurd w2 (Int32.not_le.mpr q)
    · rw [hs] at q; exact absurd q (by decide)
    · exact hr1 q
    · exact q hr2
    · exact hk q.1 q.2
  refine ⟨fun h => go (nb (fun q => absurd q h)) pp hpp hp3 W hWe hW hs hr1 hr2, fun hw2 => ⟨fun h => bad (Or.inl (Or.inr (Or.inr (Or.inr (Or.inr (Or.inr (Or.inr (Or.inr ⟨hw2, Or.inl h⟩)))))))), fun k2 => ⟨fun k8 => go (nb (fun _ q => q.elim k2 (fun q => absurd k8 (Int32.not_le.mpr q)))) pp hpp hp3 W hWe hW hs hr1 hr2, fun h => bad (Or.inl (Or.inr (Or.inr (Or.inr (Or.inr (Or.inr (Or.inr (Or.inr ⟨hw2, Or.inr (Int32.not_le.mp h)⟩))))))))⟩⟩⟩
end
