-- The frame is as the running needs it: pure
def bsI (f : Nat → Bool) : Nat → Int32
  | 0 => 0
  | k + 1 => if f k = true then bsI f k ||| ((1 : Int32) <<< (nI k &&& 31)) else bsI f k
theorem bsI_in {f : Nat → Bool} {c : Nat} (hc : c < 32) : ∀ k, k ≤ 32 → (zIn (bsI f k) (nI c) = true ↔ c < k ∧ f c = true) := by
  intro k
  induction k with
  | zero =>
    intro _
    unfold bsI
    rw [zIn_0 hc]
    exact ⟨fun h => absurd h (by decide), fun h => absurd h.1 (Nat.not_lt_zero c)⟩
  | succ k ih =>
    intro hk
    have ih := ih (by omega)
    unfold bsI
    by_cases h : f k = true
    · rw [if_pos h, zIn_or _ _ hc, zIn_bit (by omega) hc, Bool.or_eq_true, decide_eq_true_eq, ih]
      constructor
      · rintro (⟨q1, q2⟩ | q)
        · exact ⟨by omega, q2⟩
        · rw [q]; exact ⟨by omega, h⟩
      · rintro ⟨q1, q2⟩
        by_cases e : c = k
        · exact Or.inr e
        · exact Or.inl ⟨by omega, q2⟩
    · rw [if_neg h, ih]
      constructor
      · rintro ⟨q1, q2⟩; exact ⟨by omega, q2⟩
      · rintro ⟨q1, q2⟩
        by_cases e : c = k
        · rw [e] at q2; exact absurd q2 h
        · exact ⟨by omega, q2⟩
section FRP
variable {n : Nat} {lk : Nat → Nat → Bool}
/-- in a connected net a set that holds one node and goes along the links holds all -/
theorem conn_all (hn : n ≤ 12) (hsym : ∀ a b, a < n → b < n → lk a b = lk b a) (hS : SPR n lk (zAll (nI n))) {T : Nat → Bool} {r : Nat} (hr : r < n) (hT : T r = true) (hC : ∀ a b, a < n → b < n → T b = true → lk b a = true → T a = true) : ∀ a, a < n → T a = true := by
  obtain ⟨_, _, hm, _⟩ := hS
  have key : ∀ U : Nat → Bool, U 0 = true → (∀ a b, a < n → b < n → U b = true → lk b a = true → U a = true) → ∀ a, a < n → U a = true := by
    intro U h0 hU a ha
    have := hm (bsI U n) ((bsI_in (by omega) n (by omega)).mpr ⟨by omega, h0⟩) (fun x y hx hy h1 h2 => (bsI_in (by omega) n (by omega)).mpr ⟨hy, hU y x hy hx ((bsI_in (by omega) n (by omega)).mp h1).2 h2⟩) a ha (all_in hn ha)
    exact ((bsI_in (by omega) n (by omega)).mp this).2
  cases h0 : T 0 with
  | true => exact key T h0 hC
  | false =>
    exfalso
    have := key (fun c => !(T c)) (by rw [h0]; rfl) (fun a b ha hb h1 h2 => ?_) r hr
    · rw [hT] at this; exact absurd this (by decide)
    · cases h3 : T a with
      | false => rfl
      | true =>
        rw [hC b a hb ha h3 (by rw [hsym a b ha hb]; exact h2)] at h1
        exact absurd h1 (by decide)
variable {root : Nat} {s : Nat → Bool}
theorem tS_set {k a : Nat} (hr : s root = true) (h : (tS n root s lk k a).isSome = true) : s a = true := by
  cases hq : tS n root s lk k a with
  | none => rw [hq] at h; exact absurd h (by simp)
  | some p =>
    obtain ⟨j, u⟩ := p
    rcases (tS_ok hq).2 with ⟨e, _⟩ | ⟨e, _⟩
    · rw [e]; exact hr
    · exact e
/-- every node that hangs together with the root has a level -/
theorem tS_all (hrn : root < n) (hr : s root = true) (hH : ∀ T : Nat → Bool, T root = true → (∀ a b, a < n → b < n → s a = true → s b = true → T b = true → lk a b = true → T a = true) → ∀ a, a < n → s a = true → T a = true) : ∀ a, a < n → s a = true → ∃ p, tS n root s lk n a = some p := by
  have cl := chain_cl (n := n) (fun k a => (tS n root s lk k a).isSome) s lk ⟨root, hrn, by show (tS n root s lk 0 root).isSome = true; rw [tS_0, if_pos rfl]; rfl⟩ (fun k a h => by
      cases hq : tS n root s lk k a with
      | none => rw [hq] at h; exact absurd h (by simp)
      | some p => rw [tS_old hq]; rfl) (fun k a b ha hb hs h hl => tS_next hs (tS_set hr h) hb hl h) (fun k a ha h => by
      cases hq : tS n root s lk k a with
      | some p => exact Or.inl rfl
      | none =>
        refine Or.inr ?_
        by_cases hs : s a = true
        · cases hf : fi (fun b => s b && (lk a b && decide ((tS n root s lk k b).map Prod.fst = some k))) n with
          | none => rw [tS_no hq hs hf] at h; exact absurd h (by simp)
          | some b =>
            obtain ⟨hb, hp⟩ := fi_some hf
            rw [Bool.and_eq_true, Bool.and_eq_true, decide_eq_true_eq] at hp
            refine ⟨b, hb, hs, ?_, hp.2.1⟩
            cases hz : tS n root s lk k b with
            | none => rw [hz] at hp; exact absurd hp.2.2 (by simp)
            | some q => rfl
        · rw [tS_out hq hs] at h; exact absurd h (by simp))
  intro a ha hs
  have := hH (fun c => (tS n root s lk (n - 1) c).isSome) (by
    have h0 : tS n root s lk 0 root = some (0, none) := by rw [tS_0, if_pos rfl]
    show (tS n root s lk (n - 1) root).isSome = true
    rw [tS_mono (Nat.zero_le _) h0]; rfl) (fun a b ha hb h1 _ h3 h4 => cl a b ha hb h1 h3 h4) a ha hs
  cases hq : tS n root s lk (n - 1) a with
  | none =>
    have this : (tS n root s lk (n - 1) a).isSome = true := this
    rw [hq] at this; exact absurd this (by simp)
  | some p => exact ⟨p, tS_mono (by omega) hq⟩
/-- who has a level reaches the root by going up -/
theorem tS_reach {up : Nat → Option Nat} (hup : ∀ c, c < n → s c = true → up c = (tS n root s lk n c).bind Prod.snd) (hrn : root < n) (hr : s root = true) : ∀ j c u, c < n → tS n root s lk n c = some (j, u) → Reach n up root j c := by
  intro j
  induction j with
  | zero =>
    intro c u hc h
    rcases (tS_ok h).2 with ⟨e, _⟩ | ⟨_, b, i, e, _⟩
    · exact e
    · omega
  | succ j ih =>
    intro c u hc h
    obtain ⟨h1, h2⟩ := tS_ok h
    rcases h2 with ⟨_, e, _⟩ | ⟨hs, b, i, e, e2, hb, hsb, hlb, v, hv⟩
    · omega
    · have ei : i = j := by omega
      rw [ei] at hv
      refine ⟨b, ?_, ih b v hb (tS_mono (by omega) hv)⟩
      rw [hup c hc hs, h, e2]; rfl
end FRP
/-- of the links between two clusters one is chosen -/
theorem ch_ex {n : Nat} {lk : Nat → Nat → Bool} {L : Nat → Nat} (hsym : ∀ a b, a < n → b < n → lk a b = lk b a) (hirr : ∀ a, a < n → lk a a = false) {X Y : Nat} (hXY : ¬ X = Y) : ∀ m a b, a < n → b < n → a < b → lk a b = true → ((L a = X ∧ L b = Y) ∨ (L a = Y ∧ L b = X)) → a * n + b = m → ∃ x y, x < n ∧ y < n ∧ L x = X ∧ L y = Y ∧ chB n lk L x y = true := by
  intro m
  induction m using Nat.strongRecOn with
  | ind m IH =>
    intro a b ha hb hab hl hL hm
    have hne : ¬ L a = L b := by rcases hL with ⟨h1, h2⟩ | ⟨h1, h2⟩ <;> (rw [h1, h2]; first | exact hXY | exact fun e => hXY e.symm)
    cases hE : chE n lk L a b with
    | false =>
      have h1 : ch1 n lk L a b = true := ch1_iff.mpr ⟨hl, hne, hE⟩
      rcases hL with ⟨q1, q2⟩ | ⟨q1, q2⟩
      · exact ⟨a, b, ha, hb, q1, q2, by unfold chB; rw [if_pos hab]; exact h1⟩
      · exact ⟨b, a, hb, ha, q2, q1, by unfold chB; rw [if_neg (by omega), if_pos hab]; exact h1⟩
    | true =>
      obtain ⟨c, d, hc, hd, q⟩ := chE_iff.mp hE
      obtain ⟨p1, p2, p3, p4⟩ := eqP_iff.mp q
      have hlt : c * n + d < a * n + b := by
        rcases p3 with z | ⟨z1, z2⟩
        · have h1 : (c + 1) * n ≤ a * n := Nat.mul_le_mul_right n (by omega)
          rw [Nat.succ_mul] at h1
          omega
        · rw [z1]; omega
      refine IH (c * n + d) (by omega) c d hc hd p2 p1 ?_ rfl
      rcases p4 with ⟨z1, z2⟩ | ⟨z1, z2⟩ <;> rcases hL with ⟨q1, q2⟩ | ⟨q1, q2⟩
      · exact Or.inl ⟨z1.trans q1, z2.trans q2⟩
      · exact Or.inr ⟨z1.trans q1, z2.trans q2⟩
      · exact Or.inr ⟨z1.trans q2, z2.trans q1⟩
      · exact Or.inl ⟨z1.trans q2, z2.trans q1⟩
theorem chB_sym {n : Nat} {lk : Nat → Nat → Bool} {L : Nat → Nat} (a b : Nat) : chB n lk L a b = chB n lk L b a := by
  unfold chB
  rcases Nat.lt_trichotomy a b with h | h | h
  · rw [if_pos h, if_neg (by omega), if_pos h]
  · rw [h]
  · rw [if_neg (by omega), if_pos h, if_pos h]
theorem FRA_F {W n src : Nat} {lk : Nat → Nat → Bool} {k : Int32} (hW : W ≤ 2) (hn : n ≤ 12) (hs : src < n) (hsym : ∀ a b, a < n → b < n → lk a b = lk b a) (hirr : ∀ a, a < n → lk a a = false) (hS : SPR n lk (zAll (nI n))) : FRA n W lk (paF W n lk k) (upF W n src lk k) (ldF W n src lk k) := by
  have root0 : ∀ (r : Nat) (s : Nat → Bool), (tS n r s lk n r).bind Prod.snd = none := fun r s => by
    have h0 : tS n r s lk 0 r = some (0, none) := by rw [tS_0, if_pos rfl]
    rw [tS_mono (Nat.zero_le n) h0]; rfl
  have lead : ∀ c, c < n → Ldr n lk k (Ldr n lk k c) = Ldr n lk k c := fun c hc => by
    obtain ⟨l1, l2, l3⟩ := Ldr_ok (lk := lk) (k := k) hn hc
    exact Ldr_of hn l1 l1 l2 (clI_me (by omega))
  refine ⟨fun c hc => ?_, hsym, fun a b ha hb hp => ?_, fun a b ha hb => ?_, hirr, fun w => ⟨fun c _ => ?_, fun a b _ _ => ?_, fun c _ => ?_⟩, fun w => ⟨fun a b _ _ => ?_, fun a b _ _ => ?_⟩, fun w x b hx hb hl hne => ?_, fun c hc => ?_⟩
  · rcases (show W = 0 ∨ W = 1 ∨ W = 2 by omega) with w | w | w
    · have e : ldF W n src lk k c = c := by unfold ldF; rw [if_pos w]
      rw [e]; exact ⟨hc, 0, rfl⟩
    · have e : ldF W n src lk k c = src := by unfold ldF; rw [if_neg (by omega), if_pos w]
      rw [e]
      refine ⟨hs, ?_⟩
      have hset : ∀ d, d < n → zIn (zAll (nI n)) (nI d) = true := fun d hd => all_in hn hd
      obtain ⟨⟨j, u⟩, hp⟩ := tS_all (n := n) (lk := lk) (root := src) (s := fun c => zIn (zAll (nI n)) (nI c)) hs (hset src hs) (fun T hT hC a ha _ => conn_all hn hsym hS hs hT (fun a b ha hb h1 h2 => hC a b ha hb (hset a ha) (hset b hb) h1 (by rw [hsym a b ha hb]; exact h2)) a ha) c hc (hset c hc)
      exact ⟨j, tS_reach (up := upF W n src lk k) (fun d hd _ => by unfold upF; rw [if_neg (by omega), if_pos w]) hs (hset src hs) j c u hc hp⟩
    · have e : ldF W n src lk k c = Ldr n lk k c := by unfold ldF; rw [if_neg (by omega), if_neg (by omega)]
      rw [e]
      obtain ⟨l1, l2, l3⟩ := Ldr_ok (lk := lk) (k := k) hn hc
      refine ⟨l1, ?_⟩
      have hme := clI_me (n := n) (lk := lk) (k := k) (i := Ldr n lk k c) (by omega)
      have hH : Hang n lk (Ldr n lk k c) (clI n lk k (Ldr n lk k c)) := by
        unfold clI
        refine Hang_clS hn n _ (fun T hT _ a ha hz => ?_)
        rw [zIn_bit (by omega) (by omega)] at hz
        rw [of_decide_eq_true hz]; exact hT
      obtain ⟨⟨j, u⟩, hp⟩ := tS_all (n := n) (lk := lk) (root := Ldr n lk k c) (s := fun d => zIn (clI n lk k (Ldr n lk k c)) (nI d)) l1 hme (fun T hT hC a ha hz => hH T hT (fun a b ha hb h1 h2 h3 h4 => hC a b ha hb h1 h2 h3 (by rw [hsym a b ha hb]; exact h4)) a ha hz) c hc l3
      refine ⟨j, tS_reach (up := upF W n src lk k) (fun d hd hz => ?_) l1 hme j c u hc hp⟩
      unfold upF
      rw [if_neg (by omega), if_neg (by omega), Ldr_of hn l1 hd l2 hz]
  · rcases (show W = 0 ∨ W = 1 ∨ W = 2 by omega) with w | w | w
    · unfold paF at hp; rw [if_pos w] at hp; exact hp
    · unfold paF at hp; rw [if_neg (by omega), if_pos w] at hp; exact absurd hp (by decide)
    · unfold paF at hp
      rw [if_neg (by omega), if_neg (by omega)] at hp
      unfold chB at hp
      split at hp
      · exact (ch1_iff.mp hp).1
      · split at hp
        · rw [hsym a b ha hb]; exact (ch1_iff.mp hp).1
        · exact absurd hp (by decide)
  · unfold paF
    split
    · exact hsym a b ha hb
    · split
      · rfl
      · exact chB_sym a b
  · unfold ldF; rw [if_pos w]
  · unfold paF; rw [if_pos w]
  · unfold upF; rw [if_pos w]
  · unfold ldF; rw [if_neg (by omega), if_pos w, if_neg (by omega), if_pos w]
  · unfold paF; rw [if_neg (by omega), if_pos w]
  · have e : ∀ c, ldF W n src lk k c = Ldr n lk k c := fun c => by unfold ldF; rw [if_neg (by omega), if_neg (by omega)]
    have ep : ∀ a b, paF W n lk k a b = chB n lk (Ldr n lk k) a b := fun a b => by unfold paF; rw [if_neg (by omega), if_neg (by omega)]
    rw [e, e] at hne
    have hxb : x ≠ b := fun q => hne (by rw [q])
    obtain ⟨x', y', h1, h2, h3, h4, h5⟩ : ∃ x' y', x' < n ∧ y' < n ∧ Ldr n lk k x' = Ldr n lk k x ∧ Ldr n lk k y' = Ldr n lk k b ∧ chB n lk (Ldr n lk k) x' y' = true := by
      rcases Nat.lt_or_ge x b with h | h
      · exact ch_ex hsym hirr hne _ x b hx hb h hl (Or.inl ⟨rfl, rfl⟩) rfl
      · exact ch_ex hsym hirr hne _ b x hb hx (by omega) (by rw [hsym b x hb hx]; exact hl) (Or.inr ⟨rfl, rfl⟩) rfl
    exact ⟨x', y', h1, h2, by rw [e, e]; exact h3, by rw [e, e]; exact h4, by rw [ep]; exact h5⟩
  · rcases (show W = 0 ∨ W = 1 ∨ W = 2 by omega) with w | w | w
    · unfold upF; rw [if_pos w]
    · have e : ldF W n src lk k c = src := by unfold ldF; rw [if_neg (by omega), if_pos w]
      rw [e]
      unfold upF
      rw [if_neg (by omega), if_pos w]
      exact root0 _ _
    · have e : ldF W n src lk k c = Ldr n lk k c := by unfold ldF; rw [if_neg (by omega), if_neg (by omega)]
      rw [e]
      unfold upF
      rw [if_neg (by omega), if_neg (by omega), lead c hc]
      exact root0 _ _
