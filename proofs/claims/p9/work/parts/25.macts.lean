-- The acts of the reference's protocol keep PI
def ph1 (W : Nat) (S : PS) (a : Nat) : Int := if rdP S a = 0 then 0 else opP S a + 12 * ((rdP S a : Int) - 1 + b2i (if W = 0 then sfP S a else fiP S a)) + ((rdP S a : Int) - 1 + b2i (raP S a)) + ((rdP S a : Int) - 1 + b2i (dnP S a))
def ph2 (S : PS) (o : Option Nat) : Int := match o with | none => 0 | some u => if rdP S u = 0 then 0 else ((rdP S u : Int) - 1) + ((rdP S u : Int) - 1 + b2i (fiP S u))
theorem ph_eq (W : Nat) (up : Nat → Option Nat) (S : PS) (a : Nat) : ph W up S a = ph1 W S a + ph2 S (up a) := rfl
theorem su_up {f g : Nat → Int} {n a : Nat} {v w : Int} {up : Nat → Option Nat} (ha : a < n) (h : ∀ b, b < n → f b + ((if up b = some a then w else 0) + (if b = a then v else 0)) ≤ g b) (hw : w = 0 ∨ w = 1) : su f n + ((if w = 0 then 0 else cu up a n) + v) ≤ su g n := by
  have h1 := su_le h
  rw [su_add, su_add, su_one ha] at h1
  have h2 : su (fun b => if up b = some a then w else 0) n = if w = 0 then 0 else cu up a n := by
    rcases hw with rfl | rfl
    · rw [if_pos rfl]
      have : ∀ m, su (fun b => if up b = some a then (0 : Int) else 0) m = 0 := by
        intro m; induction m with
        | zero => rfl
        | succ k ih => unfold su; rw [ih]; simp
      exact this n
    · rw [if_neg (by decide)]; rfl
  rw [h2] at h1
  exact h1
theorem TL.mono {n W : Nat} {up : Nat → Option Nat} {S S' : PS} {x : Lt} (h : TL n W up S x) (e1 : rdP S' = rdP S) (e2 : fiP S' = fiP S) (h1 : ∀ b, raP S b = true → raP S' b = true) (h2 : ∀ b, dnP S b = true → dnP S' b = true) : TL n W up S' x := by
  obtain ⟨t1, t2, t3, t4⟩ := h
  unfold TL
  rw [e1, e2]
  refine ⟨fun hx => ?_, fun hx => ?_, fun hx => ?_, fun hx => ?_⟩
  · obtain ⟨c, u, q, g1, g2, g3, g4, g5, g6, g7, g8⟩ := t1 hx
    exact ⟨c, u, q, g1, g2, g3, g4, g5, g6, g7, fun e => h1 c (g8 e)⟩
  · obtain ⟨c, u, q, g1, g2, g3, g4, g5, g6, g7, g8⟩ := t2 hx
    exact ⟨c, u, q, g1, g2, g3, g4, g5, g6, g7, fun e => h2 c (g8 e)⟩
  · obtain ⟨c, u, g1, g2, g3, g4, g5, g6, g7, g8, g9⟩ := t3 hx
    exact ⟨c, u, g1, g2, g3, g4, g5, g6, g7, h1 c g8, fun e => h2 c (g9 e)⟩
  · obtain ⟨g0, c, u, g1, g2, g3, g4, g5, g6, g7, g8⟩ := t4 hx
    exact ⟨g0, c, u, g1, g2, g3, g4, g5, h1 c g6, g7, g8⟩
theorem TL_no {n W : Nat} {up : Nat → Option Nat} {S : PS} {x : Lt} (h : ¬ x.1 = 3 ∧ ¬ x.1 = 6 ∧ ¬ x.1 = 4 ∧ ¬ x.1 = 5) : TL n W up S x := ⟨fun e => absurd e h.1, fun e => absurd e h.2.1, fun e => absurd e h.2.2.1, fun e => absurd e h.2.2.2⟩
theorem kne_3_0 : ¬ (3 : Int32) = 0 := by decide
theorem kne_3_4 : ¬ (3 : Int32) = 4 := by decide
theorem kne_3_5 : ¬ (3 : Int32) = 5 := by decide
theorem kne_3_6 : ¬ (3 : Int32) = 6 := by decide
theorem kne_4_0 : ¬ (4 : Int32) = 0 := by decide
theorem kne_4_3 : ¬ (4 : Int32) = 3 := by decide
theorem kne_4_5 : ¬ (4 : Int32) = 5 := by decide
theorem kne_4_6 : ¬ (4 : Int32) = 6 := by decide
theorem kne_5_0 : ¬ (5 : Int32) = 0 := by decide
theorem kne_5_3 : ¬ (5 : Int32) = 3 := by decide
theorem kne_5_4 : ¬ (5 : Int32) = 4 := by decide
theorem kne_5_6 : ¬ (5 : Int32) = 6 := by decide
theorem kne_6_0 : ¬ (6 : Int32) = 0 := by decide
theorem kne_6_3 : ¬ (6 : Int32) = 3 := by decide
theorem kne_6_4 : ¬ (6 : Int32) = 4 := by decide
theorem kne_6_5 : ¬ (6 : Int32) = 5 := by decide
section ACTS
variable {n R W : Nat} {up : Nat → Option Nat} {c2 c3 : Nat → Nat → Prop} {S : PS} {l : List Lt} {a : Nat}
abbrev setSf (S : PS) (a : Nat) : PS := (rdP S, opP S, fup (sfP S) a true, raP S, fiP S, dnP S)
abbrev setRa (S : PS) (a : Nat) : PS := (rdP S, opP S, sfP S, fup (raP S) a true, fiP S, dnP S)
abbrev setFi (S : PS) (a : Nat) : PS := (rdP S, opP S, sfP S, raP S, fup (fiP S) a true, dnP S)
abbrev setDn (S : PS) (a : Nat) : PS := (rdP S, opP S, sfP S, raP S, fiP S, fup (dnP S) a true)
abbrev setOp (S : PS) (a : Nat) (v : Int) : PS := (rdP S, fup (opP S) a v, sfP S, raP S, fiP S, dnP S)
abbrev setRd (S : PS) (a : Nat) (m : Int) : PS := (fup (rdP S) a (rdP S a + 1), fup (opP S) a m, fup (sfP S) a false, fup (raP S) a false, fup (fiP S) a false, fup (dnP S) a false)
theorem fup_t {f : Nat → Bool} {a b : Nat} (h : f b = true) : fup f a true b = true := by
  unfold fup; by_cases e : b = a
  · rw [if_pos e]
  · rw [if_neg e]; exact h
/-- a node becomes safe; in way 0 it tells so -/
theorem PI.safe (h : PI n R W up c2 c3 S l) (ha : a < n) (hr : 1 ≤ rdP S a) (ho : opP S a ≤ 0) (hs : sfP S a = false) (m : List Lt) (hm : ∀ x, x ∈ m → VL n R x ∧ x.1 = 2) (hl : (m.length : Int) ≤ if W = 0 then 12 else 0) : PI n R W up c2 c3 (setSf S a) (l ++ m) := by
  refine h.send m (fun b hb => ?_) (fun x hx => ((h.2.1 x hx).2).mono rfl rfl (fun _ q => q) (fun _ q => q)) (fun x hx => ⟨(hm x hx).1, TL_no (by rw [(hm x hx).2]; decide)⟩) (fun x hx => by rw [(hm x hx).2]; decide) ?_
  · obtain ⟨n1, n2, n3, n4, n5⟩ := h.1 b hb
    refine ⟨n1, fun q => ?_, n3, n4, n5⟩
    obtain ⟨k1, k2, k3, k4⟩ := n2 q
    refine ⟨k1, fun e => ?_, fun e => fup_t (k3 e), k4⟩
    by_cases hba : b = a
    · rw [hba]; exact ho
    · have e' : fup (sfP S) a true b = true := e
      rw [fup_n hba] at e'
      exact k2 e'
  · have key := su_up (f := ph W up S) (g := ph W up (setSf S a)) (n := n) (a := a) (v := if W = 0 then 12 else 0) (w := 0) (up := up) ha (fun b hb => ?_) (Or.inl rfl)
    · rw [if_pos rfl] at key; omega
    · rw [ph_eq, ph_eq]
      have e2 : ph2 (setSf S a) (up b) = ph2 S (up b) := rfl
      have e1 : ph1 W S b + (if b = a then (if W = 0 then 12 else 0) else 0) ≤ ph1 W (setSf S a) b := by
        unfold ph1
        show (if rdP S b = 0 then (0 : Int) else _) + _ ≤ (if rdP S b = 0 then (0 : Int) else opP S b + 12 * ((rdP S b : Int) - 1 + b2i (if W = 0 then fup (sfP S) a true b else fiP S b)) + ((rdP S b : Int) - 1 + b2i (raP S b)) + ((rdP S b : Int) - 1 + b2i (dnP S b)))
        by_cases hba : b = a
        · subst hba
          rw [if_neg (show ¬ rdP S b = 0 by omega), if_neg (show ¬ rdP S b = 0 by omega), if_pos rfl, fup_s]
          by_cases hW : W = 0
          · rw [if_pos hW, if_pos hW, if_pos hW, hs]; simp only [b2i, if_true]; simp; omega
          · rw [if_neg hW, if_neg hW, if_neg hW]; omega
        · rw [if_neg hba, fup_n hba]; omega
      rw [e2]
      split <;> omega
/-- a node that is safe and has its lowers' READYs raises; if it has an upper it sends a READY -/
theorem PI.raise (h : PI n R W up c2 c3 S l) (ha : a < n) (hr : 1 ≤ rdP S a) (hs : sfP S a = true) (hra : raP S a = false) (hc : ∀ c, c < n → up c = some a → c2 c (rdP S a)) (m : List Lt) (hm : m = [] ∨ ∃ u, up a = some u ∧ m = [(3, nI a, nI u, nI (rdP S a), 0)]) : PI n R W up c2 c3 (setRa S a) (l ++ m) := by
  have hN : ∀ b, b < n → NL n R W up c2 c3 (setRa S a) b := by
    intro b hb
    obtain ⟨n1, n2, n3, n4, n5⟩ := h.1 b hb
    refine ⟨n1, fun q => ?_, n3, fun q hq => ⟨(n4 q hq).1, fun e => fup_t ((n4 q hq).2 e)⟩, n5⟩
    obtain ⟨k1, k2, k3, k4, k5, k6, k7⟩ := n2 q
    refine ⟨k1, k2, fun e => ?_, k4, fun e => fup_t (k5 e), fun e => ?_, k7⟩
    · by_cases hba : b = a
      · rw [hba]; exact hs
      · have e' : fup (raP S) a true b = true := e
        rw [fup_n hba] at e'; exact k3 e'
    · by_cases hba : b = a
      · rw [hba]; exact hc
      · have e' : fup (raP S) a true b = true := e
        rw [fup_n hba] at e'; exact k6 e'
  have hT : ∀ x, x ∈ l → TL n W up (setRa S a) x := fun x hx => ((h.2.1 x hx).2).mono rfl rfl (fun _ q => fup_t q) (fun _ q => q)
  have hR := (h.1 a ha).1
  refine h.send m hN hT (fun x hx => ?_) (fun x hx => ?_) ?_
  · rcases hm with rfl | ⟨u, hu, rfl⟩
    · cases hx
    · rw [List.mem_singleton.mp hx]
      have hun := ((h.1 a ha).2.2.1 u hu).1
      refine ⟨⟨⟨3, by omega, rfl⟩, ⟨a, ha, rfl⟩, ⟨u, hun, rfl⟩, ⟨rdP S a, hr, hR, rfl, fun e => absurd e kne_3_0⟩⟩, fun _ => ⟨a, u, rdP S a, ha, hun, rfl, rfl, hu, rfl, Nat.le_refl _, fun _ => fup_s⟩, fun e => absurd e kne_3_6, fun e => absurd e kne_3_4, fun e => absurd e kne_3_5⟩
  · rcases hm with rfl | ⟨u, hu, rfl⟩
    · cases hx
    · rw [List.mem_singleton.mp hx]; exact ⟨kne_3_4, kne_3_5⟩
  · have hl : (m.length : Int) ≤ 1 := by
      rcases hm with rfl | ⟨u, _, rfl⟩ <;> simp
    have key := su_up (f := ph W up S) (g := ph W up (setRa S a)) (n := n) (a := a) (v := 1) (w := 0) (up := up) ha (fun b hb => ?_) (Or.inl rfl)
    · rw [if_pos rfl] at key; omega
    · rw [ph_eq, ph_eq]
      have e2 : ph2 (setRa S a) (up b) = ph2 S (up b) := rfl
      have e1 : ph1 W S b + (if b = a then 1 else 0) ≤ ph1 W (setRa S a) b := by
        unfold ph1
        show (if rdP S b = 0 then (0 : Int) else _) + _ ≤ (if rdP S b = 0 then (0 : Int) else opP S b + 12 * ((rdP S b : Int) - 1 + b2i (if W = 0 then sfP S b else fiP S b)) + ((rdP S b : Int) - 1 + b2i (fup (raP S) a true b)) + ((rdP S b : Int) - 1 + b2i (dnP S b)))
        by_cases hba : b = a
        · subst hba
          rw [if_neg (show ¬ rdP S b = 0 by omega), if_neg (show ¬ rdP S b = 0 by omega), if_pos rfl, fup_s, hra]; simp only [b2i, if_true]; simp; omega
        · rw [if_neg hba, fup_n hba]; omega
      rw [e2]
      split <;> omega
/-- a node that is firm and has its lowers' DONEs is done; if it has an upper it sends a DONE -/
theorem PI.done (h : PI n R W up c2 c3 S l) (ha : a < n) (hr : 1 ≤ rdP S a) (hs : fiP S a = true) (hdn : dnP S a = false) (hc : ∀ c, c < n → up c = some a → c3 c (rdP S a)) (m : List Lt) (hm : m = [] ∨ ∃ u, up a = some u ∧ m = [(6, nI a, nI u, nI (rdP S a), 0)]) : PI n R W up c2 c3 (setDn S a) (l ++ m) := by
  have hN : ∀ b, b < n → NL n R W up c2 c3 (setDn S a) b := by
    intro b hb
    obtain ⟨n1, n2, n3, n4, n5⟩ := h.1 b hb
    refine ⟨n1, fun q => ?_, n3, n4, fun q hq => ⟨(n5 q hq).1, fun e => fup_t ((n5 q hq).2 e)⟩⟩
    obtain ⟨k1, k2, k3, k4, k5, k6, k7⟩ := n2 q
    refine ⟨k1, k2, k3, fun e => ?_, k5, k6, fun e => ?_⟩
    · by_cases hba : b = a
      · rw [hba]; exact hs
      · have e' : fup (dnP S) a true b = true := e
        rw [fup_n hba] at e'; exact k4 e'
    · by_cases hba : b = a
      · rw [hba]; exact hc
      · have e' : fup (dnP S) a true b = true := e
        rw [fup_n hba] at e'; exact k7 e'
  have hT : ∀ x, x ∈ l → TL n W up (setDn S a) x := fun x hx => ((h.2.1 x hx).2).mono rfl rfl (fun _ q => q) (fun _ q => fup_t q)
  have hR := (h.1 a ha).1
  refine h.send m hN hT (fun x hx => ?_) (fun x hx => ?_) ?_
  · rcases hm with rfl | ⟨u, hu, rfl⟩
    · cases hx
    · rw [List.mem_singleton.mp hx]
      have hun := ((h.1 a ha).2.2.1 u hu).1
      refine ⟨⟨⟨6, by omega, rfl⟩, ⟨a, ha, rfl⟩, ⟨u, hun, rfl⟩, ⟨rdP S a, hr, hR, rfl, fun e => absurd e kne_6_0⟩⟩, fun e => absurd e kne_6_3, fun _ => ⟨a, u, rdP S a, ha, hun, rfl, rfl, hu, rfl, Nat.le_refl _, fun _ => fup_s⟩, fun e => absurd e kne_6_4, fun e => absurd e kne_6_5⟩
  · rcases hm with rfl | ⟨u, hu, rfl⟩
    · cases hx
    · rw [List.mem_singleton.mp hx]; exact ⟨kne_6_4, kne_6_5⟩
  · have hl : (m.length : Int) ≤ 1 := by
      rcases hm with rfl | ⟨u, _, rfl⟩ <;> simp
    have key := su_up (f := ph W up S) (g := ph W up (setDn S a)) (n := n) (a := a) (v := 1) (w := 0) (up := up) ha (fun b hb => ?_) (Or.inl rfl)
    · rw [if_pos rfl] at key; omega
    · rw [ph_eq, ph_eq]
      have e2 : ph2 (setDn S a) (up b) = ph2 S (up b) := rfl
      have e1 : ph1 W S b + (if b = a then 1 else 0) ≤ ph1 W (setDn S a) b := by
        unfold ph1
        show (if rdP S b = 0 then (0 : Int) else _) + _ ≤ (if rdP S b = 0 then (0 : Int) else opP S b + 12 * ((rdP S b : Int) - 1 + b2i (if W = 0 then sfP S b else fiP S b)) + ((rdP S b : Int) - 1 + b2i (raP S b)) + ((rdP S b : Int) - 1 + b2i (fup (dnP S) a true b)))
        by_cases hba : b = a
        · subst hba
          rw [if_neg (show ¬ rdP S b = 0 by omega), if_neg (show ¬ rdP S b = 0 by omega), if_pos rfl, fup_s, hdn]; simp only [b2i, if_true]; simp; omega
        · rw [if_neg hba, fup_n hba]; omega
      rw [e2]
      split <;> omega
theorem gos_mem {l : List Lt} {c : Nat} {x : Lt} (h : x ∈ l) (h1 : x.1 = 4) (h2 : x.2.2.1 = nI c) : 1 ≤ gos l c := by
  unfold gos; exact List.countP_pos_iff.mpr ⟨x, h, by simp [h1, h2]⟩
theorem frs_mem {l : List Lt} {c : Nat} {x : Lt} (h : x ∈ l) (h1 : x.1 = 5) (h2 : x.2.2.1 = nI c) : 1 ≤ frs l c := by
  unfold frs; exact List.countP_pos_iff.mpr ⟨x, h, by simp [h1, h2]⟩
theorem gos_0 {l : List Lt} {c : Nat} (h : ∀ x, x ∈ l → x.1 = 4 → x.2.2.1 = nI c → False) : gos l c = 0 := by
  unfold gos; exact List.countP_eq_zero.mpr (fun x hx => by simp; intro a b; exact h x hx a b)
theorem frs_0 {l : List Lt} {c : Nat} (h : ∀ x, x ∈ l → x.1 = 5 → x.2.2.1 = nI c → False) : frs l c = 0 := by
  unfold frs; exact List.countP_eq_zero.mpr (fun x hx => by simp; intro a b; exact h x hx a b)
/-- the lowers of a node that has raised stand in its round, and have raised -/
theorem PI.lower (h : PI n R W up c2 c3 S l) (ha : a < n) (hr : 1 ≤ rdP S a) (hra : raP S a = true) {c : Nat} (hc : c < n) (hu : up c = some a) : rdP S c = rdP S a ∧ raP S c = true := by
  have h1 := ((h.1 a ha).2.1 hr).2.2.2.2.2.1 hra c hc hu
  have h2 := (h.1 c hc).2.2.2.1 _ h1
  have h3 := ((h.1 c hc).2.2.1 a hu).2.2.1
  have e : rdP S a = rdP S c := by omega
  exact ⟨e.symm, h2.2 e⟩
/-- a node becomes firm: FIRMs to its lowers, SAFEs over chosen links -/
theorem PI.firm (hW : W = 2) (h : PI n R W up c2 c3 S l) (hn : n ≤ 12) (ha : a < n) (hr : 1 ≤ rdP S a) (hra : raP S a = true) (hfi : fiP S a = false) (hfa : frs l a = 0) (hup : ∀ u, up a = some u → (rdP S a = rdP S u ∧ fiP S u = true) ∨ rdP S a < rdP S u)
    (F M : List Lt) (hF : ∀ x, x ∈ F → ∃ c, c < n ∧ up c = some a ∧ x = (5, nI a, nI c, nI (rdP S a), 0)) (hF1 : ∀ c, c < n → frs F c ≤ 1) (hF2 : (F.length : Int) ≤ cu up a n) (hM : ∀ x, x ∈ M → VL n R x ∧ x.1 = 2) (hM2 : M.length ≤ 12) : PI n R W up c2 c3 (setFi S a) (l ++ F ++ M) := by
  have hR := (h.1 a ha).1
  have low := fun {c : Nat} (hc : c < n) (hu : up c = some a) => h.lower ha hr hra hc hu
  -- no lower is firm, nor has a FIRM waiting
  have nfl : ∀ c, c < n → up c = some a → fiP S c = false := by
    intro c hc hu
    cases hf : fiP S c with
    | false => rfl
    | true =>
      have h1 := ((h.1 c hc).2.2.1 a hu).2.2.2 (by rw [(low hc hu).1]; exact hr) hf
      rw [hfi] at h1
      have h2 := (low hc hu).1
      rcases h1 with h1 | h1
      · cases h1.2
      · omega
  have nwl : ∀ c, c < n → up c = some a → frs l c = 0 := by
    intro c hc hu
    refine frs_0 (fun x hx e1 e2 => ?_)
    obtain ⟨_, c', u', g1, g2, g3, g4, g5, g6, g7, g8⟩ := (h.2.1 x hx).2.2.2.2 e1
    have ec : c' = c := (nI_eq (by omega) (by omega)).mp (g3.symm.trans e2)
    subst ec
    have eu : u' = a := Option.some.inj (g4.symm.trans hu)
    subst eu
    rw [hfi, (low hc hu).1] at g8
    rcases g8 with g8 | g8
    · cases g8.2
    · omega
  have fno : ∀ {b : Nat}, b ≠ a → fiP (setFi S a) b = fiP S b := fun hb => fup_n hb
  have fmo : ∀ {b : Nat}, fiP S b = true → fiP (setFi S a) b = true := fun hb => fup_t hb
  refine ⟨fun b hb => ?_, fun x hx => ?_, fun c hc => ?_, ?_⟩
  · obtain ⟨n1, n2, n3, n4, n5⟩ := h.1 b hb
    refine ⟨n1, fun q => ?_, fun u hu => ?_, n4, n5⟩
    · obtain ⟨k1, k2, k3, k4, k5, k6, k7⟩ := n2 q
      refine ⟨k1, k2, k3, fun e => fmo (k4 e), fun e => ?_, k6, k7⟩
      by_cases hba : b = a
      · rw [hba]; exact hra
      · rw [fno hba] at e; exact k5 e
    · obtain ⟨m1, m2, m3, m4⟩ := n3 u hu
      refine ⟨m1, m2, m3, fun q e => ?_⟩
      by_cases hba : b = a
      · subst hba
        rcases hup u hu with g | g
        · exact Or.inl ⟨g.1, fmo g.2⟩
        · exact Or.inr g
      · rw [fno hba] at e
        rcases m4 q e with g | g
        · exact Or.inl ⟨g.1, fmo g.2⟩
        · exact Or.inr g
  · rcases List.mem_append.mp hx with hx | hx
    · rcases List.mem_append.mp hx with hx | hx
      · obtain ⟨v, t1, t2, t3, t4⟩ := h.2.1 x hx
        refine ⟨v, t1, t2, t3, fun e => ?_⟩
        obtain ⟨g0, c, u, g1, g2, g3, g4, g5, g6, g7, g8⟩ := t4 e
        have hca : c ≠ a := fun ec => by
          have := frs_mem hx e g3
          rw [ec, hfa] at this
          omega
        refine ⟨g0, c, u, g1, g2, g3, g4, g5, g6, by rw [fno hca]; exact g7, ?_⟩
        rcases g8 with g8 | g8
        · exact Or.inl ⟨g8.1, fmo g8.2⟩
        · exact Or.inr g8
      · obtain ⟨c, hc, hu, rfl⟩ := hF x hx
        have hca := ((h.1 c hc).2.2.1 a hu).2.1
        refine ⟨⟨⟨5, by omega, rfl⟩, ⟨a, ha, rfl⟩, ⟨c, hc, rfl⟩, ⟨rdP S a, hr, hR, rfl, fun e => absurd e kne_5_0⟩⟩, fun e => absurd e kne_5_3, fun e => absurd e kne_5_6, fun e => absurd e kne_5_4, fun _ => ⟨hW, c, a, hc, ha, rfl, hu, by rw [(low hc hu).1]; exact hr, (low hc hu).2, by rw [fno (Ne.symm hca)]; exact nfl c hc hu, Or.inl ⟨(low hc hu).1, fup_s⟩⟩⟩
    · exact ⟨(hM x hx).1, TL_no (by rw [(hM x hx).2]; decide)⟩
  · have gF : gos F c = 0 := gos_0 (fun x hx e1 _ => by obtain ⟨c', _, _, rfl⟩ := hF x hx; exact absurd e1 kne_5_4)
    have gM : gos M c = 0 := gos_0 (fun x hx e1 _ => by rw [(hM x hx).2] at e1; exact absurd e1 (by decide))
    have fM : frs M c = 0 := frs_0 (fun x hx e1 _ => by rw [(hM x hx).2] at e1; exact absurd e1 (by decide))
    rw [gos_app, gos_app, frs_app, frs_app, gF, gM, fM]
    have h1 := h.2.2.1 c hc
    refine ⟨h1.1, ?_⟩
    by_cases hu : up c = some a
    · rw [nwl c hc hu]; have := hF1 c hc; omega
    · have fF : frs F c = 0 := frs_0 (fun x hx _ e2 => by
        obtain ⟨c', hc', hu', rfl⟩ := hF x hx
        have ec : c' = c := (nI_eq (by omega) (by omega)).mp e2
        exact hu (by rw [← ec]; exact hu'))
      rw [fF]; omega
  · rw [List.length_append, List.length_append]
    have h4 := h.2.2.2
    have key := su_up (f := ph W up S) (g := ph W up (setFi S a)) (n := n) (a := a) (v := 12) (w := 1) (up := up) ha (fun b hb => ?_) (Or.inr rfl)
    · rw [if_neg (by decide)] at key; omega
    · rw [ph_eq, ph_eq]
      have e1 : ph1 W S b + (if b = a then 12 else 0) ≤ ph1 W (setFi S a) b := by
        unfold ph1
        show (if rdP S b = 0 then (0 : Int) else _) + _ ≤ (if rdP S b = 0 then (0 : Int) else opP S b + 12 * ((rdP S b : Int) - 1 + b2i (if W = 0 then sfP S b else fup (fiP S) a true b)) + ((rdP S b : Int) - 1 + b2i (raP S b)) + ((rdP S b : Int) - 1 + b2i (dnP S b)))
        have hW0 : ¬ W = 0 := by omega
        rw [if_neg hW0, if_neg hW0]
        by_cases hba : b = a
        · subst hba
          rw [if_neg (show ¬ rdP S b = 0 by omega), if_neg (show ¬ rdP S b = 0 by omega), if_pos rfl, fup_s, hfi]; simp only [b2i, if_true]; simp; omega
        · rw [if_neg hba, fup_n hba]; omega
      have e2 : ph2 S (up b) + (if up b = some a then 1 else 0) ≤ ph2 (setFi S a) (up b) := by
        cases hu : up b with
        | none => simp [ph2]
        | some u =>
          show (if rdP S u = 0 then (0 : Int) else ((rdP S u : Int) - 1) + ((rdP S u : Int) - 1 + b2i (fiP S u))) + _ ≤ (if rdP S u = 0 then (0 : Int) else ((rdP S u : Int) - 1) + ((rdP S u : Int) - 1 + b2i (fup (fiP S) a true u)))
          by_cases hua : u = a
          · subst hua
            rw [if_pos rfl, if_neg (show ¬ rdP S u = 0 by omega), if_neg (show ¬ rdP S u = 0 by omega), fup_s, hfi]; simp [b2i]; omega
          · rw [if_neg (fun e => hua (Option.some.inj e)), fup_n hua]; omega
      omega
/-- a node begins its next round: GOs to its lowers, NOTEs -/
theorem PI.begin (h : PI n R W up c2 c3 S l) (hn : n ≤ 12) (ha : a < n) (hrR : rdP S a + 1 ≤ R) (hop : 1 ≤ rdP S a → opP S a ≤ 0) (hlow : 1 ≤ rdP S a → ∀ c, c < n → up c = some a → rdP S c = rdP S a ∧ raP S c = true ∧ (W = 2 → dnP S c = true))
    (hup : ∀ u, up a = some u → rdP S a + 1 ≤ rdP S u ∨ rdP S a = 0) (hga : gos l a = 0) (hfa : frs l a = 0)
    (Gl N : List Lt) (hG : ∀ x, x ∈ Gl → ∃ c, c < n ∧ up c = some a ∧ x = (4, nI a, nI c, nI (rdP S a + 1), 0)) (hG1 : ∀ c, c < n → gos Gl c ≤ 1) (hG2 : (Gl.length : Int) ≤ if rdP S a = 0 then 0 else cu up a n) (hN : ∀ x, x ∈ N → VL n R x ∧ x.1 = 0) (hN2 : N.length ≤ 12) : PI n R W up c2 c3 (setRd S a (N.length : Int)) (l ++ Gl ++ N) := by
  have rno : ∀ {b : Nat}, b ≠ a → rdP (setRd S a (N.length : Int)) b = rdP S b := fun hb => fup_n hb
  have rse : rdP (setRd S a (N.length : Int)) a = rdP S a + 1 := fup_s
  have rmo : ∀ b, rdP S b ≤ rdP (setRd S a (N.length : Int)) b := fun b => by
    by_cases hba : b = a
    · rw [hba, rse]; omega
    · rw [rno hba]; exact Nat.le_refl _
  have ono : ∀ {b : Nat}, b ≠ a → opP (setRd S a (N.length : Int)) b = opP S b := fun hb => fup_n hb
  have sno : ∀ {b : Nat}, b ≠ a → sfP (setRd S a (N.length : Int)) b = sfP S b := fun hb => fup_n hb
  have ano : ∀ {b : Nat}, b ≠ a → raP (setRd S a (N.length : Int)) b = raP S b := fun hb => fup_n hb
  have fno : ∀ {b : Nat}, b ≠ a → fiP (setRd S a (N.length : Int)) b = fiP S b := fun hb => fup_n hb
  have dno : ∀ {b : Nat}, b ≠ a → dnP (setRd S a (N.length : Int)) b = dnP S b := fun hb => fup_n hb
  have ase : raP (setRd S a (N.length : Int)) a = false := fup_s
  have sse : sfP (setRd S a (N.length : Int)) a = false := fup_s
  have fse : fiP (setRd S a (N.length : Int)) a = false := fup_s
  have dse : dnP (setRd S a (N.length : Int)) a = false := fup_s
  have ose : opP (setRd S a (N.length : Int)) a = (N.length : Int) := fup_s
  have g1a : ∀ x, x ∈ Gl → 1 ≤ rdP S a := fun x hx => by
    rcases Nat.eq_zero_or_pos (rdP S a) with e | e
    · rw [if_pos e] at hG2
      have := List.length_pos_of_mem hx
      omega
    · exact e
  refine ⟨fun b hb => ?_, fun x hx => ?_, fun c hc => ?_, ?_⟩
  · obtain ⟨n1, n2, n3, n4, n5⟩ := h.1 b hb
    by_cases hba : b = a
    · subst hba
      refine ⟨by rw [rse]; exact hrR, fun _ => ?_, fun u hu => ?_, fun q hq => ?_, fun q hq => ?_⟩
      · rw [ose, sse, ase, fse, dse]
        exact ⟨by omega, fun e => absurd e Bool.false_ne_true, fun e => absurd e Bool.false_ne_true, fun e => absurd e Bool.false_ne_true, fun e => absurd e Bool.false_ne_true, fun e => absurd e Bool.false_ne_true, fun e => absurd e Bool.false_ne_true⟩
      · obtain ⟨m1, m2, m3, m4⟩ := n3 u hu
        refine ⟨m1, m2, ?_, fun _ e => by rw [fse] at e; cases e⟩
        rw [rse, rno m2]
        have := hup u hu
        omega
      · rw [rse]; have := (n4 q hq).1; exact ⟨by omega, fun e => by omega⟩
      · rw [rse]; have := (n5 q hq).1; exact ⟨by omega, fun e => by omega⟩
    · refine ⟨by rw [rno hba]; exact n1, fun q => ?_, fun u hu => ?_, fun q hq => ?_, fun q hq => ?_⟩
      · rw [rno hba] at q ⊢
        rw [ono hba, sno hba, ano hba, fno hba, dno hba]
        exact n2 q
      · obtain ⟨m1, m2, m3, m4⟩ := n3 u hu
        rw [rno hba, fno hba]
        refine ⟨m1, m2, ?_, fun q e => ?_⟩
        · have := rmo u; omega
        · by_cases hua : u = a
          · subst hua
            rw [rse]
            rcases m4 q e with g | g
            · exact Or.inr (by omega)
            · exact Or.inr (by omega)
          · rw [rno hua, fno hua]; exact m4 q e
      · rw [rno hba, ano hba]; exact n4 q hq
      · rw [rno hba, dno hba]; exact n5 q hq
  · rcases List.mem_append.mp hx with hx | hx
    · rcases List.mem_append.mp hx with hx | hx
      · obtain ⟨v, t1, t2, t3, t4⟩ := h.2.1 x hx
        refine ⟨v, fun e => ?_, fun e => ?_, fun e => ?_, fun e => ?_⟩
        · obtain ⟨c, u, q, g1, g2, g3, g4, g5, g6, g7, g8⟩ := t1 e
          refine ⟨c, u, q, g1, g2, g3, g4, g5, g6, Nat.le_trans g7 (rmo c), fun eq => ?_⟩
          by_cases hca : c = a
          · rw [hca, rse] at eq; rw [hca] at g7; omega
          · rw [rno hca] at eq; rw [ano hca]; exact g8 eq
        · obtain ⟨c, u, q, g1, g2, g3, g4, g5, g6, g7, g8⟩ := t2 e
          refine ⟨c, u, q, g1, g2, g3, g4, g5, g6, Nat.le_trans g7 (rmo c), fun eq => ?_⟩
          by_cases hca : c = a
          · rw [hca, rse] at eq; rw [hca] at g7; omega
          · rw [rno hca] at eq; rw [dno hca]; exact g8 eq
        · obtain ⟨c, u, g1, g2, g3, g4, g5, g6, g7, g8, g9⟩ := t3 e
          have hca : c ≠ a := fun ec => by
            have := gos_mem hx e g3
            rw [ec, hga] at this; omega
          refine ⟨c, u, g1, g2, g3, g4, by rw [rno hca]; exact g5, by rw [rno hca]; exact Nat.le_trans g6 (rmo u), by rw [rno hca]; exact g7, by rw [ano hca]; exact g8, fun eW => by rw [dno hca]; exact g9 eW⟩
        · obtain ⟨g0, c, u, g1, g2, g3, g4, g5, g6, g7, g8⟩ := t4 e
          have hca : c ≠ a := fun ec => by
            have := frs_mem hx e g3
            rw [ec, hfa] at this; omega
          refine ⟨g0, c, u, g1, g2, g3, g4, by rw [rno hca]; exact g5, by rw [ano hca]; exact g6, by rw [fno hca]; exact g7, ?_⟩
          rw [rno hca]
          by_cases hua : u = a
          · subst hua
            rw [rse]; exact Or.inr (by omega)
          · rw [rno hua, fno hua]; exact g8
      · obtain ⟨c, hc, hu, rfl⟩ := hG x hx
        have hr := g1a _ hx
        have hca := Ne.symm ((h.1 c hc).2.2.1 a hu).2.1
        obtain ⟨l1, l2, l3⟩ := hlow hr c hc hu
        refine ⟨⟨⟨4, by omega, rfl⟩, ⟨a, ha, rfl⟩, ⟨c, hc, rfl⟩, ⟨rdP S a + 1, by omega, hrR, rfl, fun e => absurd e kne_4_0⟩⟩, fun e => absurd e kne_4_3, fun e => absurd e kne_4_6, fun _ => ⟨c, a, hc, ha, rfl, hu, by rw [rno hca, l1], by rw [rno hca, rse, l1]; exact Nat.le_refl _, by rw [rno hca, l1]; exact hr, by rw [ano hca]; exact l2, fun eW => by rw [dno hca]; exact l3 eW⟩, fun e => absurd e kne_4_5⟩
    · exact ⟨(hN x hx).1, TL_no (by rw [(hN x hx).2]; decide)⟩
  · have gN : gos N c = 0 := gos_0 (fun x hx e1 _ => by rw [(hN x hx).2] at e1; exact absurd e1 (by decide))
    have fN : frs N c = 0 := frs_0 (fun x hx e1 _ => by rw [(hN x hx).2] at e1; exact absurd e1 (by decide))
    have fG : frs Gl c = 0 := frs_0 (fun x hx e1 _ => by obtain ⟨c', _, _, rfl⟩ := hG x hx; exact absurd e1 kne_4_5)
    rw [gos_app, gos_app, frs_app, frs_app, gN, fN, fG]
    have h1 := h.2.2.1 c hc
    refine ⟨?_, h1.2⟩
    by_cases hu : up c = some a
    · have g0 : gos l c = 0 ∨ gos Gl c = 0 := by
        rcases Nat.eq_zero_or_pos (rdP S a) with e | e
        · right
          exact gos_0 (fun x hx _ _ => by have := g1a x hx; omega)
        · left
          refine gos_0 (fun x hx e1 e2 => ?_)
          obtain ⟨c', u', q1, q2, q3, q4, q5, q6, q7, q8, q9⟩ := (h.2.1 x hx).2.2.2.1 e1
          have ec : c' = c := (nI_eq (by omega) (by omega)).mp (q3.symm.trans e2)
          subst ec
          have eu : u' = a := Option.some.inj (q4.symm.trans hu)
          subst eu
          have := (hlow e c' hc hu).1
          omega
      have := hG1 c hc
      omega
    · have gG : gos Gl c = 0 := gos_0 (fun x hx _ e2 => by
        obtain ⟨c', hc', hu', rfl⟩ := hG x hx
        have ec : c' = c := (nI_eq (by omega) (by omega)).mp e2
        exact hu (by rw [← ec]; exact hu'))
      omega
  · rw [List.length_append, List.length_append]
    have h4 := h.2.2.2
    have key := su_up (f := ph W up S) (g := ph W up (setRd S a (N.length : Int))) (n := n) (a := a) (v := (N.length : Int)) (w := if rdP S a = 0 then 0 else 1) (up := up) ha (fun b hb => ?_) (by by_cases e : rdP S a = 0 <;> simp [e])
    · by_cases e : rdP S a = 0
      · rw [if_pos e] at key hG2; rw [if_pos rfl] at key; omega
      · rw [if_neg e] at key hG2; rw [if_neg (by decide)] at key; omega
    · rw [ph_eq, ph_eq]
      have e1 : ph1 W S b + (if b = a then (N.length : Int) else 0) ≤ ph1 W (setRd S a (N.length : Int)) b := by
        by_cases hba : b = a
        · subst hba
          unfold ph1
          rw [rse, ose, sse, ase, fse, dse, if_pos rfl, if_neg (show ¬ rdP S b + 1 = 0 by omega)]
          have b1 := b2i_in (if W = 0 then sfP S b else fiP S b)
          have b2 := b2i_in (raP S b)
          have b3 := b2i_in (dnP S b)
          have e0 : (if W = 0 then false else false) = false := by split <;> rfl
          rw [e0]
          have z : b2i false = 0 := rfl
          rw [z]
          by_cases hr0 : rdP S b = 0
          · rw [if_pos hr0, hr0]; simp
          · rw [if_neg hr0]
            have := hop (by omega)
            push_cast
            omega
        · unfold ph1
          rw [rno hba, ono hba, sno hba, ano hba, fno hba, dno hba, if_neg hba]; omega
      have e2 : ph2 S (up b) + (if up b = some a then (if rdP S a = 0 then 0 else 1) else 0) ≤ ph2 (setRd S a (N.length : Int)) (up b) := by
        cases hu : up b with
        | none => simp [ph2]
        | some u =>
          show (if rdP S u = 0 then (0 : Int) else ((rdP S u : Int) - 1) + ((rdP S u : Int) - 1 + b2i (fiP S u))) + _ ≤ (if rdP (setRd S a (N.length : Int)) u = 0 then (0 : Int) else ((rdP (setRd S a (N.length : Int)) u : Int) - 1) + ((rdP (setRd S a (N.length : Int)) u : Int) - 1 + b2i (fiP (setRd S a (N.length : Int)) u)))
          by_cases hua : u = a
          · subst hua
            have b1 := b2i_in (fiP S u)
            rw [if_pos rfl, rse, fse, if_neg (show ¬ rdP S u + 1 = 0 by omega)]
            have z : b2i false = 0 := rfl
            rw [z]
            by_cases hr0 : rdP S u = 0
            · rw [if_pos hr0, if_pos hr0, hr0]; simp
            · rw [if_neg hr0, if_neg hr0]; push_cast; omega
          · rw [if_neg (fun e => hua (Option.some.inj e)), rno hua, fno hua]; omega
      omega
end ACTS
