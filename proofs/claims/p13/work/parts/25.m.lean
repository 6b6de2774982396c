section
-- The acts of the reference's protocol keep PI
def ph1 (W : Nat) (S : PS) (a : Nat) : Int := if rdP S a = 0 then 0 else opP S a + 12 * ((rdP S a : Int) - 1 + b2i (if W = 0 then sfP S a else fiP S a)) + ((rdP S a : Int) - 1 + b2i (raP S a)) + ((rdP S a : Int) - 1 + b2i (dnP S a))
def ph2 (S : PS) (o : Option Nat) : Int := match o with | none => 0 | some u => if rdP S u = 0 then 0 else ((rdP S u : Int) - 1) + ((rdP S u : Int) - 1 + b2i (fiP S u))
theorem ph_eq (W : Nat) (up : Nat → Option Nat) (S : PS) (a : Nat) : ph W up S a = ph1 W S a + ph2 S (up a) := rfl
theorem su_up {f g : Nat → Int} {n a : Nat} {v w : Int} {up : Nat → Option Nat} (ha : a < n) (h : ∀ b, b < n → f b + ((if up b = some a then w else 0) + (if b = a then v else 0)) ≤ g b) (hw : w = 0 ∨ w = 1) : su f n + ((if w = 0 then 0 else cu up a n) + v) ≤ su g n := by
  have h1 := su_le h
  rw [su_add, su_add, su_one ha] at h1
  have h2 : su (fun b => if up b = some a then w else 0) n = if w = 0 then 0 else cu up a n := by
    rcases hw with rfl | rfl
    · rw [if_pos rfl]
      have : ∀ m, su (fun b => if up b = some a then (0 : Int) else 0) m = 0 := by
        intro m; induction m with
        | zero => rfl
        | succ k ih => unfold su; rw [ih]; simp
      exact this n
    · rw [if_neg (by decide)]; rfl
  rw [h2] at h1
  exact h1
theorem TL.mono {n W : Nat} {up : Nat → Option Nat} {S S' : PS} {x : Lt} (h : TL n W up S x) (e1 : rdP S' = rdP S) (e2 : fiP S' = fiP S) (h1 : ∀ b, raP S b = true → raP S' b = true) (h2 : ∀ b, dnP S b = true → dnP S' b = true) : TL n W up S' x := by
  obtain ⟨t1, t2, t3, t4⟩ := h
  unfold TL
  rw [e1, e2]
  refine ⟨fun hx => ?_, fun hx => ?_, fun hx => ?_, fun hx => ?_⟩
  · obtain ⟨c, u, q, g1, g2, g3, g4, g5, g6, g7, g8⟩ := t1 hx
    exact ⟨c, u, q, g1, g2, g3, g4, g5, g6, g7, fun e => h1 c (g8 e)⟩
  · obtain ⟨c, u, q, g1, g2, g3, g4, g5, g6, g7, g8⟩ := t2 hx
    exact ⟨c, u, q, g1, g2, g3, g4, g5, g6, g7, fun e => h2 c (g8 e)⟩
  · obtain ⟨c, u, g1, g2, g3, g4, g5, g6, g7, g8, g9⟩ := t3 hx
    exact ⟨c, u, g1, g2, g3, g4, g5, g6, g7, h1 c g8, fun e => h2 c (g9 e)⟩
  · obtain ⟨g0, c, u, g1, g2, g3, g4, g5, g6, g7, g8⟩ := t4 hx
    exact ⟨g0, c, u, g1, g2, g3, g4, g5, h1 c g6, g7, g8⟩
theorem TL_no {n W : Nat} {up : Nat → Option Nat} {S : PS} {x : Lt} (h : ¬ x.1 = 3 ∧ ¬ x.1 = 6 ∧ ¬ x.1 = 4 ∧ ¬ x.1 = 5) : TL n W up S x := ⟨fun e => absurd e h.1, fun e => absurd e h.2.1, fun e => absurd e h.2.2.1, fun e => absurd e h.2.2.2⟩
theorem kne_3_0 : ¬ (3 : Int32) = 0 := by decide
theorem kne_3_4 : ¬ (3 : Int32) = 4 := by decide
theorem kne_3_5 : ¬ (3 : Int32) = 5 := by decide
theorem kne_3_6 : ¬ (3 : Int32) = 6 := by decide
theorem kne_4_0 : ¬ (4 : Int32) = 0 := by decide
theorem kne_4_3 : ¬ (4 : Int32) = 3 := by decide
theorem kne_4_5 : ¬ (4 : Int32) = 5 := by decide
theorem kne_4_6 : ¬ (4 : Int32) = 6 := by decide
theorem kne_5_0 : ¬ (5 : Int32) = 0 := by decide
theorem kne_5_3 : ¬ (5 : Int32) = 3 := by decide
theorem kne_5_4 : ¬ (5 : Int32) = 4 := by decide
theorem kne_5_6 : ¬ (5 : Int32) = 6 := by decide
theorem kne_6_0 : ¬ (6 : Int32) = 0 := by decide
theorem kne_6_3 : ¬ (6 : Int32) = 3 := by decide
theorem kne_6_4 : ¬ (6 : Int32) = 4 := by decide
theorem kne_6_5 : ¬ (6 : Int32) = 5 := by decide
section ACTS
variable {n R W : Nat} {up : Nat → Option Nat} {c2 c3 : Nat → Nat → Prop} {S : PS} {l : List Lt} {a : Nat}
abbrev setSf (S : PS) (a : Nat) : PS := (rdP S, opP S, fup (sfP S) a true, raP S, fiP S, dnP S)
abbrev setRa (S : PS) (a : Nat) : PS := (rdP S, opP S, sfP S, fup (raP S) a true, fiP S, dnP S)
abbrev setFi (S : PS) (a : Nat) : PS := (rdP S, opP S, sfP S, raP S, fup (fiP S) a true, dnP S)
abbrev setDn (S : PS) (a : Nat) : PS := (rdP S, opP S, sfP S, raP S, fiP S, fup (dnP S) a true)
abbrev setOp (S : PS) (a : Nat) (v : Int) : PS := (rdP S, fup (opP S) a v, sfP S, raP S, fiP S, dnP S)
abbrev setRd (S : PS) (a : Nat) (m : Int) : PS := (fup (rdP S) a (rdP S a + 1), fup (opP S) a m, fup (sfP S) a false, fup (raP S) a false, fup (fiP S) a false, fup (dnP S) a false)
theorem fup_t {f : Nat → Bool} {a b : Nat} (h : f b = true) : fup f a true b = true := by
  unfold fup; by_cases e : b = a
  · rw [if_pos e]
  · rw [if_neg e]; exact h
/-- a node becomes safe; in way 0 it tells so -/
theorem PI.safe (h : PI n R W up c2 c3 S l) (ha : a < n) (hr : 1 ≤ rdP S a) (ho : opP S a ≤ 0) (hs : sfP S a = false) (m : List Lt) (hm : ∀ x, x ∈ m → VL n R x ∧ x.1 = 2) (hl : (m.length : Int) ≤ if W = 0 then 12 else 0) : PI n R W up c2 c3 (setSf S a) (l ++ m) := by
  refine h.send m (fun b hb => ?_) (fun x hx => ((h.2.1 x hx).2).mono rfl rfl (fun _ q => q) (fun _ q => q)) (fun x hx => ⟨(hm x hx).1, TL_no (by rw [(hm x hx).2]; decide)⟩) (fun x hx => by rw [(hm x hx).2]; decide) ?_
  · obtain ⟨n1, n2, n3, n4, n5⟩ := h.1 b hb
    refine ⟨n1, fun q => ?_, n3, n4, n5⟩
    obtain ⟨k1, k2, k3, k4⟩ := n2 q
    refine ⟨k1, fun e => ?_, fun e => fup_t (k3 e), k4⟩
    by_cases hba : b = a
    · rw [hba]; exact ho
    · have e' : fup (sfP S) a true b = true := e
      rw [fup_n hba] at e'
      exact k2 e'
  · have key := su_up (f := ph W up S) (g := ph W up (setSf S a)) (n := n) (a := a) (v := if W = 0 then 12 else 0) (w := 0) (up := up) ha (fun b hb => ?_) (Or.inl rfl)
    · rw [if_pos rfl] at key; omega
    · rw [ph_eq, ph_eq]
      have e2 : ph2 (setSf S a) (up b) = ph2 S (up b) := rfl
      have e1 : ph1 W S b + (if b = a then (if W = 0 then 12 else 0) else 0) ≤ ph1 W (setSf S a) b := by
        unfold ph1
        show (if rdP S b = 0 then (0 : Int) else _) + _ ≤ (if rdP S b = 0 then (0 : Int) else opP S b + 12 * ((rdP S b : Int) - 1 + b2i (if W = 0 then fup (sfP S) a true b else fiP S b)) + ((rdP S b : Int) - 1 + b2i (raP S b)) + ((rdP S b : Int) - 1 + b2i (dnP S b)))
        by_cases hba : b = a
        · subst hba
          rw [if_neg (show ¬ rdP S b = 0 by omega), if_neg (show ¬ rdP S b = 0 by omega), if_pos rfl, fup_s]
          by_cases hW : W = 0
          · rw [if_pos hW, if_pos hW, if_pos hW, hs]; simp only [b2i, if_true]; simp; omega
          · rw [if_neg hW, if_neg hW, if_neg hW]; omega
        · rw [if_neg hba, fup_n hba]; omega
      rw [e2]
      split <;> omega
/-- a node that is safe and has its lowers' READYs raises; if it has an upper it sends a READY -/
theorem PI.raise (h : PI n R W up c2 c3 S l) (ha : a < n) (hr : 1 ≤ rdP S a) (hs : sfP S a = true) (hra : raP S a = false) (hc : ∀ c, c < n → up c = some a → c2 c (rdP S a)) (m : List Lt) (hm : m = [] ∨ ∃ u, up a = some u ∧ m = [(3, nI a, nI u, nI (rdP S a), 0)]) : PI n R W up c2 c3 (setRa S a) (l ++ m) := by
  have hN : ∀ b, b < n → NL n R W up c2 c3 (setRa S a) b := by
    intro b hb
    obtain ⟨n1, n2, n3, n4, n5⟩ := h.1 b hb
    refine ⟨n1, fun q => ?_, n3, fun q hq => ⟨(n4 q hq).1, fun e => fup_t ((n4 q hq).2 e)⟩, n5⟩
    obtain ⟨k1, k2, k3, k4, k5, k6, k7⟩ := n2 q
    refine ⟨k1, k2, fun e => ?_, k4, fun e => fup_t (k5 e), fun e => ?_, k7⟩
    · by_cases hba : b = a
      · rw [hba]; exact hs
      · have e' : fup (raP S) a true b = true := e
        rw [fup_n hba] at e'; exact k3 e'
    · by_cases hba : b = a
      · rw [hba]; exact hc
      · have e' : fup (raP S) a true b = true := e
        rw [fup_n hba] at e'; exact k6 e'
  have hT : ∀ x, x ∈ l → TL n W up (setRa S a) x := fun x hx => ((h.2.1 x hx).2).mono rfl rfl (fun _ q => fup_t q) (fun _ q => q)
  have hR := (h.1 a ha).1
  refine h.send m hN hT (fun x hx => ?_) (fun x hx => ?_) ?_
  · rcases hm with rfl | ⟨u, hu, rfl⟩
    · cases hx
    · rw [List.mem_singleton.mp hx]
      have hun := ((h.1 a ha).2.2.1 u hu).1
      refine ⟨⟨⟨3, by omega, rfl⟩, ⟨a, ha, rfl⟩, ⟨u, hun, rfl⟩, ⟨rdP S a, hr, hR, rfl, fun e => absurd e kne_3_0⟩⟩, fun _ => ⟨a, u, rdP S a, ha, hun, rfl, rfl, hu, rfl, Nat.le_refl _, fun _ => fup_s⟩, fun e => absurd e kne_3_6, fun e => absurd e kne_3_4, fun e => absurd e kne_3_5⟩
  · rcases hm with rfl | ⟨u, hu, rfl⟩
    · cases hx
    · rw [List.mem_singleton.mp hx]; exact ⟨kne_3_4, kne_3_5⟩
  · have hl : (m.length : Int) ≤ 1 := by
      rcases hm with rfl | ⟨u, _, rfl⟩ <;> simp
    have key := su_up (f := ph W up S) (g := ph W up (setRa S a)) (n := n) (a := a) (v := 1) (w := 0) (up := up) ha (fun b hb => ?_) (Or.inl rfl)
    · rw [if_pos rfl] at key; omega
    · rw [ph_eq, ph_eq]
      have e2 : ph2 (setRa S a) (up b) = ph2 S (up b) := rfl
      have e1 : ph1 W S b + (if b = a then 1 else 0) ≤ ph1 W (setRa S a) b := by
        unfold ph1
        show (if rdP S b = 0 then (0 : Int) else _) + _ ≤ (if rdP S b = 0 then (0 : Int) else opP S b + 12 * ((rdP S b : Int) - 1 + b2i (if W = 0 then sfP S b else fiP S b)) + ((rdP S b : Int) - 1 + b2i (fup (raP S) a true b)) + ((rdP S b : Int) - 1 + b2i (dnP S b)))
        by_cases hba : b = a
        · subst hba
          rw [if_neg (show ¬ rdP S b = 0 by omega), if_neg (show ¬ rdP S b = 0 by omega), if_pos rfl, fup_s, hra]; simp only [b2i, if_true]; simp; omega
        · rw [if_neg hba, fup_n hba]; omega
      rw [e2]
      split <;> omega
/-- a node that is firm and has its lowers' DONEs is done; if it has an upper it sends a DONE -/
theorem PI.done (h : PI n R W up c2 c3 S l) (ha : a < n) (hr : 1 ≤ rdP S a) (hs : fiP S a = true) (hdn : dnP S a = false) (hc : ∀ c, c < n → up c = some a → c3 c (rdP S a)) (m : List Lt) (hm : m = [] ∨ ∃ u, up a = some u ∧ m = [(6, nI a, nI u, nI (rdP S a), 0)]) : PI n R W up c2 c3 (setDn S a) (l ++ m) := by
  have hN : ∀ b, b < n → NL n R W up c2 c3 (setDn S a) b := by
    intro b hb
    obtain ⟨n1, n2, n3, n4, n5⟩ := h.1 b hb
    refine ⟨n1, fun q => ?_, n3, n4, fun q hq => ⟨(n5 q hq).1, fun e => fup_t ((n5 q hq).2 e)⟩⟩
    obtain ⟨k1, k2, k3, k4, k5, k6, k7⟩ := n2 q
    refine ⟨k1, k2, k3, fun e => ?_, k5, k6, fun e => ?_⟩
    · by_cases hba : b = a
      · rw [hba]; exact hs
      · have e' : fup (dnP S) a true b = true := e
        rw [fup_n hba] at e'; exact k4 e'
    · by_cases hba : b = a
      · rw [hba]; exact hc
      · have e' : fup (dnP S) a true b = true := e
        rw [fup_n hba] at e'; exact k7 e'
  have hT : ∀ x, x ∈ l → TL n W up (setDn S a) x := fun x hx => ((h.2.1 x hx).2).mono rfl rfl (fun _ q => q) (fun _ q => fup_t q)
  have hR := (h.1 a ha).1
  refine h.send m hN hT (fun x hx => ?_) (fun x hx => ?_) ?_
  · rcases hm with rfl | ⟨u, hu, rfl⟩
    · cases hx
    · rw [List.mem_singleton.mp hx]
      have hun := ((h.1 a ha).2.2.1 u hu).1
      refine ⟨⟨⟨6, by omega, rfl⟩, ⟨a, ha, rfl⟩, ⟨u, hun, rfl⟩, ⟨rdP S a, hr, hR, rfl, fun e => absurd e kne_6_0⟩⟩, fun e => absurd e kne_6_3, fun _ => ⟨a, u, rdP S a, ha, hun, rfl, rfl, hu, rfl, Nat.le_refl _, fun _ => fup_s⟩, fun e => absurd e kne_6_4, fun e => absurd e kne_6_5⟩
  · rcases hm with rfl | ⟨u, hu, rfl⟩
    · cases hx
    · rw [List.mem_singleton.mp hx]; exact ⟨kne_6_4, kne_6_5⟩
  · have hl : (m.length : Int) ≤ 1 := by
      rcases hm with rfl | ⟨u, _, rfl⟩ <;> simp
    have key := su_up (f := ph W up S) (g := ph W up (setDn S a)) (n := n) (a := a) (v := 1) (w := 0) (up := up) ha (fun b hb => ?_) (Or.inl rfl)
    · rw [if_pos rfl] at key; omega
    · rw [ph_eq, ph_eq]
      have e2 : ph2 (setDn S a) (up b) = ph2 S (up b) := rfl
      have e1 : ph1 W S b + (if b = a then 1 else 0) ≤ ph1 W (setDn S a) b := by
        unfold ph1
        show (if rdP S b = 0 then (0 : Int) else _) + _ ≤ (if rdP S b = 0 then (0 : Int) else opP S b + 12 * ((rdP S b : Int) - 1 + b2i (if W = 0 then sfP S b else fiP S b)) + ((rdP S b : Int) - 1 + b2i (raP S b)) + ((rdP S b : Int) - 1 + b2i (fup (dnP S) a true b)))
        by_cases hba : b = a
        · subst hba
          rw [if_neg (show ¬ rdP S b = 0 by omega), if_neg (show ¬ rdP S b = 0 by omega), if_pos rfl, fup_s, hdn]; simp only [b2i, if_true]; simp; omega
        · rw [if_neg hba, fup_n hba]; omega
      rw [e2]
      split <;> omega
theorem gos_mem {l : List Lt} {c : Nat} {x : Lt} (h : x ∈ l) (h1 : x.1 = 4) (h2 : x.2.2.1 = nI c) : 1 ≤ gos l c := by
  unfold gos; exact List.countP_pos_iff.mpr ⟨x, h, by simp [h1, h2]⟩
theorem frs_mem {l : List Lt} {c : Nat} {x : Lt} (h : x ∈ l) (h1 : x.1 = 5) (h2 : x.2.2.1 = nI c) : 1 ≤ frs l c := by
  unfold frs; exact List.countP_pos_iff.mpr ⟨x, h, by simp [h1, h2]⟩
theorem gos_0 {l : List Lt} {c : Nat} (h : ∀ x, x ∈ l → x.1 = 4 → x.2.2.1 = nI c → False) : gos l c = 0 := by
  unfold gos; exact List.countP_eq_zero.mpr (fun x hx => by simp; intro a b; exact h x hx a b)
theorem frs_0 {l : List Lt} {c : Nat} (h : ∀ x, x ∈ l → x.1 = 5 → x.2.2.1 = nI c → False) : frs l c = 0 := by
  unfold frs; exact List.countP_eq_zero.mpr (fun x hx => by simp; intro a b; exact h x hx a b)
/-- the lowers of a node that has raised stand in its round, and have raised -/
theorem PI.lower (h : PI n R W up c2 c3 S l) (ha : a < n) (hr : 1 ≤ rdP S a) (hra : raP S a = true) {c : Nat} (hc : c < n) (hu : up c = some a) : rdP S c = rdP S a ∧ raP S c = true := by
  have h1 := ((h.1 a ha).2.1 hr).2.2.2.2.2.1 hra c hc hu
  have h2 := (h.1 c hc).2.2.2.1 _ h1
  have h3 := ((h.1 c hc).2.2.1 a hu).2.2.1
  have e : rdP S a = rdP S c := by omega
  exact ⟨e.symm, h2.2 e⟩
/-- a node becomes firm: FIRMs to its lowers, SAFEs over chosen links -/
theorem PI.firm (hW : W = 2) (h : PI n R W up c2 c3 S l) (hn : n ≤ 12) (ha : a < n) (hr : 1 ≤ rdP S a) (hra : raP S a = true) (hfi : fiP S a = false) (hfa : frs l a = 0) (hup : ∀ u, up a = some u → (rdP S a = rdP S u ∧ fiP S u = true) ∨ rdP S a < rdP S u)
    (F M : List Lt) (hF : ∀ x, x ∈ F → ∃ c, c < n ∧ up c = some a ∧ x = (5, nI a, nI c, nI (rdP S a), 0)) (hF1 : ∀ c, c < n → frs F c ≤ 1) (hF2 : (F.length : Int) ≤ cu up a n) (hM : ∀ x, x ∈ M → VL n R x ∧ x.1 = 2) (hM2 : M.length ≤ 12) : PI n R W up c2 c3 (setFi S a) (l ++ F ++ M) := by
  have hR := (h.1 a ha).1
  have low := fun {c : Nat} (hc : c < n) (hu : up c = some a) => h.lower ha hr hra hc hu
  -- no lower is firm, nor has a FIRM waiting
  have nfl : ∀ c, c < n → up c = some a → fiP S c = false := by
    intro c hc hu
    cases hf : fiP S c with
    | false => rfl
    | true =>
      have h1 := ((h.1 c hc).2.2.1 a hu).2.2.2 (by rw [(low hc hu).1]; exact hr) hf
      rw [hfi] at h1
      have h2 := (low hc hu).1
      rcases h1 with h1 | h1
      · cases h1.2
      · omega
  have nwl : ∀ c, c < n → up c = some a → frs l c = 0 := by
    intro c hc hu
    refine frs_0 (fun x hx e1 e2 => ?_)
    obtain ⟨_, c', u', g1, g2, g3, g4, g5, g6, g7, g8⟩ := (h.2.1 x hx).2.2.2.2 e1
    have ec : c' = c := (nI_eq (by omega) (by omega)).mp (g3.symm.trans e2)
    subst ec
    have eu : u' = a := Option.some.inj (g4.symm.trans hu)
    subst eu
    rw [hfi, (low hc hu).1] at g8
    rcases g8 with g8 | g8
    · cases g8.2
    · omega
  have fno : ∀ {b : Nat}, b ≠ a → fiP (setFi S a) b = fiP S b := fun hb => fup_n hb
  have fmo : ∀ {b : Nat}, fiP S b = true → fiP (setFi S a) b = true := fun hb => fup_t hb
  refine ⟨fun b hb => ?_, fun x hx => ?_, fun c hc => ?_, ?_⟩
  · obtain ⟨n1, n2, n3, n4, n5⟩ := h.1 b hb
    refine ⟨n1, fun q => ?_, fun u hu => ?_, n4, n5⟩
    · obtain ⟨k1, k2, k3, k4, k5, k6, k7⟩ := n2 q
      refine ⟨k1, k2, k3, fun e => fmo (k4 e), fun e => ?_, k6, k7⟩
      by_cases hba : b = a
      · rw [hba]; exact hra
      · rw [fno hba] at e; exact k5 e
    · obtain ⟨m1, m2, m3, m4⟩ := n3 u hu
      refine ⟨m1, m2, m3, fun q e => ?_⟩
      by_cases hba : b = a
      · subst hba
        rcases hup u hu with g | g
        · exact Or.inl ⟨g.1, fmo g.2⟩
        · exact Or.inr g
      · rw [fno hba] at e
        rcases m4 q e with g | g
        · exact Or.inl ⟨g.1, fmo g.2⟩
        · exact Or.inr g
  · rcases List.mem_append.mp hx with hx | hx
    · rcases List.mem_append.mp hx with hx | hx
      · obtain ⟨v, t1, t2, t3, t4⟩ := h.2.1 x hx
        refine ⟨v, t1, t2, t3, fun e => ?_⟩
        obtain ⟨g0, c, u, g1, g2, g3, g4, g5, g6, g7, g8⟩ := t4 e
        have hca : c ≠ a := fun ec => by
          have := frs_mem hx e g3
          rw [ec, hfa] at this
          omega
        refine ⟨g0, c, u, g1, g2, g3, g4, g5, g6, by rw [fno hca]; exact g7, ?_⟩
        rcases g8 with g8 | g8
        · exact Or.inl ⟨g8.1, fmo g8.2⟩
        · exact Or.inr g8
      · obtain ⟨c, hc, hu, rfl⟩ := hF x hx
        have hca := ((h.1 c hc).2.2.1 a hu).2.1
        refine ⟨⟨⟨5, by omega, rfl⟩, ⟨a, ha, rfl⟩, ⟨c, hc, rfl⟩, ⟨rdP S a, hr, hR, rfl, fun e => absurd e kne_5_0⟩⟩, fun e => absurd e kne_5_3, fun e => absurd e kne_5_6, fun e => absurd e kne_5_4, fun _ => ⟨hW, c, a, hc, ha, rfl, hu, by rw [(low hc hu).1]; exact hr, (low hc hu).2, by rw [fno (Ne.symm hca)]; exact nfl c hc hu, Or.inl ⟨(low hc hu).1, fup_s⟩⟩⟩
    · exact ⟨(hM x hx).1, TL_no (by rw [(hM x hx).2]; decide)⟩
  · have gF : gos F c = 0 := gos_0 (fun x hx e1 _ => by obtain ⟨c', _, _, rfl⟩ := hF x hx; exact absurd e1 kne_5_4)
    have gM : gos M c = 0 := gos_0 (fun x hx e1 _ => by rw [(hM x hx).2] at e1; exact absurd e1 (by decide))
    have fM : frs M c = 0 := frs_0 (fun x hx e1 _ => by rw [(hM x hx).2] at e1; exact absurd e1 (by decide))
    rw [gos_app, gos_app, frs_app, frs_app, gF, gM, fM]
    have h1 := h.2.2.1 c hc
    refine ⟨h1.1, ?_⟩
    by_cases hu : up c = some a
    · rw [nwl c hc hu]; have := hF1 c hc; omega
    · have fF : frs F c = 0 := frs_0 (fun x hx _ e2 => by
        obtain ⟨c', hc', hu', rfl⟩ := hF x hx
        have ec : c' = c := (nI_eq (by omega) (by omega)).mp e2
        exact hu (by rw [← ec]; exact hu'))
      rw [fF]; omega
  · rw [List.length_append, List.length_append]
    have h4 := h.2.2.2
    have key := su_up (f := ph W up S) (g := ph W up (setFi S a)) (n := n) (a := a) (v := 12) (w := 1) (up := up) ha (fun b hb => ?_) (Or.inr rfl)
    · rw [if_neg (by decide)] at key; omega
    · rw [ph_eq, ph_eq]
      have e1 : ph1 W S b + (if b = a then 12 else 0) ≤ ph1 W (setFi S a) b := by
        unfold ph1
        show (if rdP S b = 0 then (0 : Int) else _) + _ ≤ (if rdP S b = 0 then (0 : Int) else opP S b + 12 * ((rdP S b : Int) - 1 + b2i (if W = 0 then sfP S b else fup (fiP S) a true b)) + ((rdP S b : Int) - 1 + b2i (raP S b)) + ((rdP S b : Int) - 1 + b2i (dnP S b)))
        have hW0 : ¬ W = 0 := by omega
        rw [if_neg hW0, if_neg hW0]
        by_cases hba : b = a
        · subst hba
          rw [if_neg (show ¬ rdP S b = 0 by omega), if_neg (show ¬ rdP S b = 0 by omega), if_pos rfl, fup_s, hfi]; simp only [b2i, if_true]; simp; omega
        · rw [if_neg hba, fup_n hba]; omega
      have e2 : ph2 S (up b) + (if up b = some a then 1 else 0) ≤ ph2 (setFi S a) (up b) := by
        cases hu : up b with
        | none => simp [ph2]
        | some u =>
          show (if rdP S u = 0 then (0 : Int) else ((rdP S u : Int) - 1) + ((rdP S u : Int) - 1 + b2i (fiP S u))) + _ ≤ (if rdP S u = 0 then (0 : Int) else ((rdP S u : Int) - 1) + ((rdP S u : Int) - 1 + b2i (fup (fiP S) a true u)))
          by_cases hua : u = a
          · subst hua
            rw [if_pos rfl, if_neg (show ¬ rdP S u = 0 by omega), if_neg (show ¬ rdP S u = 0 by omega), fup_s, hfi]; simp [b2i]; omega
          · rw [if_neg (fun e => hua (Option.some.inj e)), fup_n hua]; omega
      omega
/-- a node begins its next round: GOs to its lowers, NOTEs -/
theorem PI.begin (h : PI n R W up c2 c3 S l) (hn : n ≤ 12) (ha : a < n) (hrR : rdP S a + 1 ≤ R) (hop : 1 ≤ rdP S a → opP S a ≤ 0) (hlow : 1 ≤ rdP S a → ∀ c, c < n → up c = some a → rdP S c = rdP S a ∧ raP S c = true ∧ (W = 2 → dnP S c = true))
    (hup : ∀ u, up a = some u → rdP S a + 1 ≤ rdP S u ∨ rdP S a = 0) (hga : gos l a = 0) (hfa : frs l a = 0)
    (Gl N : List Lt) (hG : ∀ x, x ∈ Gl → ∃ c, c < n ∧ up c = some a ∧ x = (4, nI a, nI c, nI (rdP S a + 1), 0)) (hG1 : ∀ c, c < n → gos Gl c ≤ 1) (hG2 : (Gl.length : Int) ≤ if rdP S a = 0 then 0 else cu up a n) (hN : ∀ x, x ∈ N → VL n R x ∧ x.1 = 0) (hN2 : N.length ≤ 12) : PI n R W up c2 c3 (setRd S a (N.length : Int)) (l ++ Gl ++ N) := by
  have rno : ∀ {b : Nat}, b ≠ a → rdP (setRd S a (N.length : Int)) b = rdP S b := fun hb => fup_n hb
  have rse : rdP (setRd S a (N.length : Int)) a = rdP S a + 1 := fup_s
  have rmo : ∀ b, rdP S b ≤ rdP (setRd S a (N.length : Int)) b := fun b => by
    by_cases hba : b = a
    · rw [hba, rse]; omega
    · rw [rno hba]; exact Nat.le_refl _
  have ono : ∀ {b : Nat}, b ≠ a → opP (setRd S a (N.length : Int)) b = opP S b := fun hb => fup_n hb
  have sno : ∀ {b : Nat}, b ≠ a → sfP (setRd S a (N.length : Int)) b = sfP S b := fun hb => fup_n hb
  have ano : ∀ {b : Nat}, b ≠ a → raP (setRd S a (N.length : Int)) b = raP S b := fun hb => fup_n hb
  have fno : ∀ {b : Nat}, b ≠ a → fiP (setRd S a (N.length : Int)) b = fiP S b := fun hb => fup_n hb
  have dno : ∀ {b : Nat}, b ≠ a → dnP (setRd S a (N.length : Int)) b = dnP S b := fun hb => fup_n hb
  have ase : raP (setRd S a (N.length : Int)) a = false := fup_s
  have sse : sfP (setRd S a (N.length : Int)) a = false := fup_s
  have fse : fiP (setRd S a (N.length : Int)) a = false := fup_s
  have dse : dnP (setRd S a (N.length : Int)) a = false := fup_s
  have ose : opP (setRd S a (N.length : Int)) a = (N.length : Int) := fup_s
  have g1a : ∀ x, x ∈ Gl → 1 ≤ rdP S a := fun x hx => by
    rcases Nat.eq_zero_or_pos (rdP S a) with e | e
    · rw [if_pos e] at hG2
      have := List.length_pos_of_mem hx
      omega
    · exact e
  refine ⟨fun b hb => ?_, fun x hx => ?_, fun c hc => ?_, ?_⟩
  · obtain ⟨n1, n2, n3, n4, n5⟩ := h.1 b hb
    by_cases hba : b = a
    · subst hba
      refine ⟨by rw [rse]; exact hrR, fun _ => ?_, fun u hu => ?_, fun q hq => ?_, fun q hq => ?_⟩
      · rw [ose, sse, ase, fse, dse]
        exact ⟨by omega, fun e => absurd e Bool.false_ne_true, fun e => absurd e Bool.false_ne_true, fun e => absurd e Bool.false_ne_true, fun e => absurd e Bool.false_ne_true, fun e => absurd e Bool.false_ne_true, fun e => absurd e Bool.false_ne_true⟩
      · obtain ⟨m1, m2, m3, m4⟩ := n3 u hu
        refine ⟨m1, m2, ?_, fun _ e => by rw [fse] at e; cases e⟩
        rw [rse, rno m2]
        have := hup u hu
        omega
      · rw [rse]; have := (n4 q hq).1; exact ⟨by omega, fun e => by omega⟩
      · rw [rse]; have := (n5 q hq).1; exact ⟨by omega, fun e => by omega⟩
    · refine ⟨by rw [rno hba]; exact n1, fun q => ?_, fun u hu => ?_, fun q hq => ?_, fun q hq => ?_⟩
      · rw [rno hba] at q ⊢
        rw [ono hba, sno hba, ano hba, fno hba, dno hba]
        exact n2 q
      · obtain ⟨m1, m2, m3, m4⟩ := n3 u hu
        rw [rno hba, fno hba]
        refine ⟨m1, m2, ?_, fun q e => ?_⟩
        · have := rmo u; omega
        · by_cases hua : u = a
          · subst hua
            rw [rse]
            rcases m4 q e with g | g
            · exact Or.inr (by omega)
            · exact Or.inr (by omega)
          · rw [rno hua, fno hua]; exact m4 q e
      · rw [rno hba, ano hba]; exact n4 q hq
      · rw [rno hba, dno hba]; exact n5 q hq
  · rcases List.mem_append.mp hx with hx | hx
    · rcases List.mem_append.mp hx with hx | hx
      · obtain ⟨v, t1, t2, t3, t4⟩ := h.2.1 x hx
        refine ⟨v, fun e => ?_, fun e => ?_, fun e => ?_, fun e => ?_⟩
        · obtain ⟨c, u, q, g1, g2, g3, g4, g5, g6, g7, g8⟩ := t1 e
          refine ⟨c, u, q, g1, g2, g3, g4, g5, g6, Nat.le_trans g7 (rmo c), fun eq => ?_⟩
          by_cases hca : c = a
          · rw [hca, rse] at eq; rw [hca] at g7; omega
          · rw [rno hca] at eq; rw [ano hca]; exact g8 eq
        · obtain ⟨c, u, q, g1, g2, g3, g4, g5, g6, g7, g8⟩ := t2 e
          refine ⟨c, u, q, g1, g2, g3, g4, g5, g6, Nat.le_trans g7 (rmo c), fun eq => ?_⟩
          by_cases hca : c = a
          · rw [hca, rse] at eq; rw [hca] at g7; omega
          · rw [rno hca] at eq; rw [dno hca]; exact g8 eq
        · obtain ⟨c, u, g1, g2, g3, g4, g5, g6, g7, g8, g9⟩ := t3 e
          have hca : c ≠ a := fun ec => by
            have := gos_mem hx e g3
            rw [ec, hga] at this; omega
          refine ⟨c, u, g1, g2, g3, g4, by rw [rno hca]; exact g5, by rw [rno hca]; exact Nat.le_trans g6 (rmo u), by rw [rno hca]; exact g7, by rw [ano hca]; exact g8, fun eW => by rw [dno hca]; exact g9 eW⟩
        · obtain ⟨g0, c, u, g1, g2, g3, g4, g5, g6, g7, g8⟩ := t4 e
          have hca : c ≠ a := fun ec => by
            have := frs_mem hx e g3
            rw [ec, hfa] at this; omega
          refine ⟨g0, c, u, g1, g2, g3, g4, by rw [rno hca]; exact g5, by rw [ano hca]; exact g6, by rw [fno hca]; exact g7, ?_⟩
          rw [rno hca]
          by_cases hua : u = a
          · subst hua
            rw [rse]; exact Or.inr (by omega)
          · rw [rno hua, fno hua]; exact g8
      · obtain ⟨c, hc, hu, rfl⟩ := hG x hx
        have hr := g1a _ hx
        have hca := Ne.symm ((h.1 c hc).2.2.1 a hu).2.1
        obtain ⟨l1, l2, l3⟩ := hlow hr c hc hu
        refine ⟨⟨⟨4, by omega, rfl⟩, ⟨a, ha, rfl⟩, ⟨c, hc, rfl⟩, ⟨rdP S a + 1, by omega, hrR, rfl, fun e => absurd e kne_4_0⟩⟩, fun e => absurd e kne_4_3, fun e => absurd e kne_4_6, fun _ => ⟨c, a, hc, ha, rfl, hu, by rw [rno hca, l1], by rw [rno hca, rse, l1]; exact Nat.le_refl _, by rw [rno hca, l1]; exact hr, by rw [ano hca]; exact l2, fun eW => by rw [dno hca]; exact l3 eW⟩, fun e => absurd e kne_4_5⟩
    · exact ⟨(hN x hx).1, TL_no (by rw [(hN x hx).2]; decide)⟩
  · have gN : gos N c = 0 := gos_0 (fun x hx e1 _ => by rw [(hN x hx).2] at e1; exact absurd e1 (by decide))
    have fN : frs N c = 0 := frs_0 (fun x hx e1 _ => by rw [(hN x hx).2] at e1; exact absurd e1 (by decide))
    have fG : frs Gl c = 0 := frs_0 (fun x hx e1 _ => by obtain ⟨c', _, _, rfl⟩ := hG x hx; exact absurd e1 kne_4_5)
    rw [gos_app, gos_app, frs_app, frs_app, gN, fN, fG]
    have h1 := h.2.2.1 c hc
    refine ⟨?_, h1.2⟩
    by_cases hu : up c = some a
    · have g0 : gos l c = 0 ∨ gos Gl c = 0 := by
        rcases Nat.eq_zero_or_pos (rdP S a) with e | e
        · right
          exact gos_0 (fun x hx _ _ => by have := g1a x hx; omega)
        · left
          refine gos_0 (fun x hx e1 e2 => ?_)
          obtain ⟨c', u', q1, q2, q3, q4, q5, q6, q7, q8, q9⟩ := (h.2.1 x hx).2.2.2.1 e1
          have ec : c' = c := (nI_eq (by omega) (by omega)).mp (q3.symm.trans e2)
          subst ec
          have eu : u' = a := Option.some.inj (q4.symm.trans hu)
          subst eu
          have := (hlow e c' hc hu).1
          omega
      have := hG1 c hc
      omega
    · have gG : gos Gl c = 0 := gos_0 (fun x hx _ e2 => by
        obtain ⟨c', hc', hu', rfl⟩ := hG x hx
        have ec : c' = c := (nI_eq (by omega) (by omega)).mp e2
        exact hu (by rw [← ec]; exact hu'))
      omega
  · rw [List.length_append, List.length_append]
    have h4 := h.2.2.2
    have key := su_up (f := ph W up S) (g := ph W up (setRd S a (N.length : Int))) (n := n) (a := a) (v := (N.length : Int)) (w := if rdP S a = 0 then 0 else 1) (up := up) ha (fun b hb => ?_) (by by_cases e : rdP S a = 0 <;> simp [e])
    · by_cases e : rdP S a = 0
      · rw [if_pos e] at key hG2; rw [if_pos rfl] at key; omega
      · rw [if_neg e] at key hG2; rw [if_neg (by decide)] at key; omega
    · rw [ph_eq, ph_eq]
      have e1 : ph1 W S b + (if b = a then (N.length : Int) else 0) ≤ ph1 W (setRd S a (N.length : Int)) b := by
        by_cases hba : b = a
        · subst hba
          unfold ph1
          rw [rse, ose, sse, ase, fse, dse, if_pos rfl, if_neg (show ¬ rdP S b + 1 = 0 by omega)]
          have b1 := b2i_in (if W = 0 then sfP S b else fiP S b)
          have b2 := b2i_in (raP S b)
          have b3 := b2i_in (dnP S b)
          have e0 : (if W = 0 then false else false) = false := by split <;> rfl
          rw [e0]
          have z : b2i false = 0 := rfl
          rw [z]
          by_cases hr0 : rdP S b = 0
          · rw [if_pos hr0, hr0]; simp
          · rw [if_neg hr0]
            have := hop (by omega)
            push_cast
            omega
        · unfold ph1
          rw [rno hba, ono hba, sno hba, ano hba, fno hba, dno hba, if_neg hba]; omega
      have e2 : ph2 S (up b) + (if up b = some a then (if rdP S a = 0 then 0 else 1) else 0) ≤ ph2 (setRd S a (N.length : Int)) (up b) := by
        cases hu : up b with
        | none => simp [ph2]
        | some u =>
          show (if rdP S u = 0 then (0 : Int) else ((rdP S u : Int) - 1) + ((rdP S u : Int) - 1 + b2i (fiP S u))) + _ ≤ (if rdP (setRd S a (N.length : Int)) u = 0 then (0 : Int) else ((rdP (setRd S a (N.length : Int)) u : Int) - 1) + ((rdP (setRd S a (N.length : Int)) u : Int) - 1 + b2i (fiP (setRd S a (N.length : Int)) u)))
          by_cases hua : u = a
          · subst hua
            have b1 := b2i_in (fiP S u)
            rw [if_pos rfl, rse, fse, if_neg (show ¬ rdP S u + 1 = 0 by omega)]
            have z : b2i false = 0 := rfl
            rw [z]
            by_cases hr0 : rdP S u = 0
            · rw [if_pos hr0, if_pos hr0, hr0]; simp
            · rw [if_neg hr0, if_neg hr0]; push_cast; omega
          · rw [if_neg (fun e => hua (Option.some.inj e)), rno hua, fno hua]; omega
      omega
end ACTS
end
section
-- The reference's state, in the protocol's words
def upS (σ : zSt) : Nat → Option Nat := fun c => if σ 41 c = -2 then none else some (σ 41 c).toNatClampNeg
def pl (w a b r : Nat) : Nat := ((w * 12 + a) * 12 + b) * 22 + r
def c2S (σ : zSt) (c q : Nat) : Prop := q < 22 ∧ ∃ u, upS σ c = some u ∧ ¬ σ 45 (pl 2 u c q) = 0
def c3S (σ : zSt) (c q : Nat) : Prop := q < 22 ∧ ∃ u, upS σ c = some u ∧ ¬ σ 45 (pl 3 u c q) = 0
def psS (σ : zSt) : PS := (fun a => (σ 35 a).toNatClampNeg, fun a => (σ 36 a).toInt, fun a => decide (¬ σ 37 a = 0), fun a => decide (¬ σ 38 a = 0), fun a => decide (¬ σ 39 a = 0), fun a => decide (¬ σ 40 a = 0))
def MS (σ : zSt) (n R W : Nat) : Prop := σ 32 0 = nI n ∧ 1 ≤ n ∧ n ≤ 12 ∧ σ 32 8 = nI R ∧ 1 ≤ R ∧ R ≤ 20 ∧ σ 32 6 = nI W ∧ W ≤ 2 ∧ UO σ n ∧ LM σ
def MN (σ : zSt) (n : Nat) : Prop := (∀ a, a < n → σ 35 a = nI (rdP (psS σ) a)) ∧ ∀ a b q, a < n → b < n → q < 22 → ¬ σ 45 (pl 0 a b q) = 0 → NB q (σ 46 (pl 0 a b q))
def MR (σ : zSt) (n R W : Nat) (l : List Lt) : Prop := MS σ n R W ∧ MN σ n ∧ ML σ l ∧ PI n R W (upS σ) (c2S σ) (c3S σ) (psS σ) l
theorem upS_of {σ : zSt} {n c u : Nat} (hU : UO σ n) (hn : n ≤ 12) (hc : c < n) (h : upS σ c = some u) : u < n ∧ u ≠ c ∧ σ 41 c = nI u := by
  unfold upS at h
  rcases hU c hc with e | ⟨v, h1, h2, h3⟩
  · rw [if_pos e] at h; cases h
  · rw [if_neg (by rw [h3]; exact nI_ne_m2 (by omega)), h3, nI_clamp (by omega)] at h
    cases h
    exact ⟨h1, h2, h3⟩
theorem upS_to {σ : zSt} {c u : Nat} (hu : u < 12) (h : σ 41 c = nI u) : upS σ c = some u := by
  unfold upS
  rw [if_neg (by rw [h]; exact nI_ne_m2 (by omega)), h, nI_clamp (by omega)]
theorem MS.of {σ τ : zSt} {n R W : Nat} (h : MS σ n R W) (e0 : τ 32 0 = σ 32 0) (e8 : τ 32 8 = σ 32 8) (e6 : τ 32 6 = σ 32 6) (e41 : τ 41 = σ 41) (e33 : τ 33 = σ 33) (e34 : τ 34 = σ 34) : MS τ n R W := by
  obtain ⟨h1, h2, h3, h4, h5, h6, h7, h8, h9, h10⟩ := h
  exact ⟨by rw [e0]; exact h1, h2, h3, by rw [e8]; exact h4, h5, h6, by rw [e6]; exact h7, h8, fun a ha => by rw [e41]; exact h9 a ha, h10.of e33 e34⟩
theorem upS_eq {σ τ : zSt} (e : τ 41 = σ 41) : upS τ = upS σ := by unfold upS; rw [e]
theorem c2S_eq {σ τ : zSt} (e : τ 41 = σ 41) (e2 : τ 45 = σ 45) : c2S τ = c2S σ := by unfold c2S; rw [upS_eq e, e2]
theorem c3S_eq {σ τ : zSt} (e : τ 41 = σ 41) (e2 : τ 45 = σ 45) : c3S τ = c3S σ := by unfold c3S; rw [upS_eq e, e2]
def cto (l : List Lt) (c : Nat) : Nat := l.countP (fun x => decide (x.2.2.1 = nI c))
theorem gos_cto (l : List Lt) (c : Nat) : gos l c ≤ cto l c := by
  unfold gos cto
  exact List.countP_mono_left (fun x _ h => by simp at h ⊢; exact h.2)
theorem frs_cto (l : List Lt) (c : Nat) : frs l c ≤ cto l c := by
  unfold frs cto
  exact List.countP_mono_left (fun x _ h => by simp at h ⊢; exact h.2)
theorem cto_app (l m : List Lt) (c : Nat) : cto (l ++ m) c = cto l c + cto m c := by unfold cto; exact List.countP_append
theorem s_Mo_toLower (G : zG) (σ : zSt) (n R W a : Nat) (l : List Lt) (k r : Int32) (hS : MS σ n R W) (ha : a < n) (hL : ML σ l) (hl : l.length + 12 < 4000) : zV G 1 M_Mo_toLower [zf G 32, .int k, .int (nI a), .int r] σ (fun τ => MF [51] [27, 29, 30] σ τ ∧ ∃ F, ML τ (l ++ F) ∧ (∀ x, x ∈ F → ∃ c, c < n ∧ upS σ c = some a ∧ x = (k, nI a, nI c, r, 0)) ∧ (∀ c, c < n → cto F c ≤ 1) ∧ (F.length : Int) ≤ cu (upS σ) a n ∧ F.length ≤ n) := by
  refine zSpec.of (by decide) (Nat.le_of_ble_eq_true rfl) rfl (fun X E => ?_)
  obtain ⟨h1, h2, h3, h4, h5, h6, h7, h8, h9, h10⟩ := hS
  refine b_Mo_toLower_0 E k (nI a) r σ ?_
  refine z_for n (fun i τ => zZ G M_Mo_toLower 1 X (fun rr τ => rr = none ∧ MF [51] [27, 29, 30] σ τ ∧ ∃ F, ML τ (l ++ F) ∧ (∀ x, x ∈ F → ∃ c, c < n ∧ upS σ c = some a ∧ x = (k, nI a, nI c, r, 0)) ∧ (∀ c, c < n → cto F c ≤ 1) ∧ (F.length : Int) ≤ cu (upS σ) a n ∧ F.length ≤ n) 3 [(0, zf G 32), (1, .int k), (2, .int (nI a)), (3, .int r), (4, .int (nI i))] [] τ) (fun i τ => MF [51] [27, 29, 30] σ τ ∧ ∃ F, ML τ (l ++ F) ∧ (∀ x, x ∈ F → ∃ c, c < i ∧ c < n ∧ upS σ c = some a ∧ x = (k, nI a, nI c, r, 0)) ∧ (∀ c, c < n → cto F c ≤ 1) ∧ (F.length : Int) ≤ cu (upS σ) a i ∧ F.length ≤ i) ?_ ?_ 0 σ (Nat.zero_le _) ⟨MF.rf, [], by rw [List.append_nil]; exact hL, fun x hx => absurd hx List.not_mem_nil, fun c _ => Nat.zero_le _, Int.le_refl _, Nat.le_refl _⟩
  · intro i τ hi ⟨hF, F, g1, g2, g3, g4, g5⟩ ih
    have ii : vp_in (nI i) 12 := vp_in_nI (by omega) (by decide)
    have ci : (nI i).toNatClampNeg = i := nI_clamp (by omega)
    have e41 : τ 41 = σ 41 := hF.at (by decide)
    have mono : cu (upS σ) a i ≤ cu (upS σ) a (i + 1) := by
      show _ ≤ cu (upS σ) a i + (if upS σ i = some a then 1 else 0)
      split <;> omega
    have nx : zZ G M_Mo_toLower 1 X (fun rr τ => rr = none ∧ MF [51] [27, 29, 30] σ τ ∧ ∃ F, ML τ (l ++ F) ∧ (∀ x, x ∈ F → ∃ c, c < n ∧ upS σ c = some a ∧ x = (k, nI a, nI c, r, 0)) ∧ (∀ c, c < n → cto F c ≤ 1) ∧ (F.length : Int) ≤ cu (upS σ) a n ∧ F.length ≤ n) 3 [(0, zf G 32), (1, .int k), (2, .int (nI a)), (3, .int r), (4, .int (nI i + 1))] [] τ := by
      rw [nI_1]
      exact ih τ ⟨hF, F, g1, fun x hx => by obtain ⟨c, p1, p2⟩ := g2 x hx; exact ⟨c, by omega, p2⟩, g3, by omega, by omega⟩
    refine b_Mo_toLower_3 E k (nI a) r (nI i) τ ⟨fun q => absurd q (by rw [hF.2 0 (by decide), h1]; exact nI_ge hi (by omega)), fun _ => ⟨fun _ => nx, fun _ => ⟨ii, fun _ => nx, fun hz => ⟨_, s_Mo_send G τ (l ++ F) k (nI a) (nI i) r 0 g1 (by rw [List.length_append]; omega), fun σ1 ⟨k1, k2⟩ => ?_⟩⟩⟩⟩
    have hup : upS σ i = some a := by
      simp only [zBe, decide_eq_true_eq] at hz
      rw [ci, e41] at hz
      exact upS_to (by omega) hz.1
    rw [nI_1]
    refine ih σ1 ⟨hF.tr k1, F ++ [(k, nI a, nI i, r, 0)], by rw [← List.append_assoc]; exact k2, fun x hx => ?_, fun c hc => ?_, ?_, ?_⟩
    · rcases List.mem_append.mp hx with e | e
      · obtain ⟨c, p1, p2⟩ := g2 x e; exact ⟨c, by omega, p2⟩
      · rw [List.mem_singleton.mp e]; exact ⟨i, by omega, hi, hup, rfl⟩
    · rw [cto_app]
      by_cases hci : c = i
      · subst hci
        have z : cto F c = 0 := by
          unfold cto
          refine List.countP_eq_zero.mpr (fun x hx => ?_)
          obtain ⟨c', p1, p2, p3, rfl⟩ := g2 x hx
          simp
          intro e
          have := (nI_eq (by omega) (by omega)).mp e
          omega
        rw [z]
        have : cto [(k, nI a, nI c, r, 0)] c ≤ 1 := by unfold cto; exact List.countP_le_length
        omega
      · have z : cto [(k, nI a, nI i, r, (0 : Int32))] c = 0 := by
          unfold cto
          refine List.countP_eq_zero.mpr (fun x hx => ?_)
          rw [List.mem_singleton.mp hx]
          simp
          intro e
          exact hci ((nI_eq (by omega) (by omega)).mp e).symm
        rw [z]; have := g3 c hc; omega
    · rw [List.length_append]
      show _ ≤ cu (upS σ) a i + (if upS σ i = some a then 1 else 0)
      rw [if_pos hup]
      simp
      omega
    · rw [List.length_append]; simp; omega
  · intro τ ⟨hF, F, g1, g2, g3, g4, g5⟩
    exact b_Mo_toLower_3 E k (nI a) r (nI n) τ ⟨fun _ => ⟨rfl, hF, F, g1, fun x hx => by obtain ⟨c, _, p2⟩ := g2 x hx; exact ⟨c, p2⟩, g3, g4, g5⟩, fun q => absurd (by rw [hF.2 0 (by decide), h1]; exact nI_le (Nat.le_refl n) (by omega)) q⟩
theorem pl_nI {w a b r : Nat} : ((nI w * 12 + nI a) * 12 + nI b) * 22 + nI r = nI (pl w a b r) := by
  rw [show (12 : Int32) = nI 12 from rfl, show (22 : Int32) = nI 22 from rfl, pk_mul, nI_add, pk_mul, nI_add, pk_mul, nI_add]
  rfl
theorem pl_lt {w a b r : Nat} (hw : w < 4) (ha : a < 12) (hb : b < 12) (hr : r < 22) : pl w a b r < 12672 := by unfold pl; omega
theorem pl_inj {w a b r w' a' b' r' : Nat} (ha : a < 12) (hb : b < 12) (hr : r < 22) (ha' : a' < 12) (hb' : b' < 12) (hr' : r' < 22) (h : pl w a b r = pl w' a' b' r') : w = w' ∧ a = a' ∧ b = b' ∧ r = r' := by
  unfold pl at h; omega
theorem s_Mo_hasAll (G : zG) (σ : zSt) (n R W w a q : Nat) (lo : Int32) (hS : MS σ n R W) (hw : w < 4) (ha : a < n) (hq : σ 35 a = nI q) (hq2 : q < 22) : zB G 1 M_Mo_hasAll [zf G 32, .int (nI w), .int (nI a), .int lo] σ (fun b τ => τ = σ ∧ (b = true → ¬ lo = 0 → ∀ c, c < n → upS σ c = some a → ¬ σ 45 (pl w a c q) = 0)) := by
  refine zSpec.of (by decide) (Nat.le_of_ble_eq_true rfl) rfl (fun X E => ?_)
  obtain ⟨h1, h2, h3, h4, h5, h6, h7, h8, h9, h10⟩ := hS
  have ia : vp_in (nI a) 12 := vp_in_nI (by omega) (by decide)
  have ca : (nI a).toNatClampNeg = a := nI_clamp (by omega)
  refine b_Mo_hasAll_0 E (nI w) (nI a) lo σ ?_
  refine z_for n (fun i (_ : Unit) => zZ G M_Mo_hasAll 1 X (fun rr τ => ∃ b : Bool, rr = some (.int (zb b)) ∧ τ = σ ∧ (b = true → ¬ lo = 0 → ∀ c, c < n → upS σ c = some a → ¬ σ 45 (pl w a c q) = 0)) 3 [(0, zf G 32), (1, .int (nI w)), (2, .int (nI a)), (3, .int lo), (4, .int (nI i))] [] σ) (fun i _ => ¬ lo = 0 → ∀ c, c < i → upS σ c = some a → ¬ σ 45 (pl w a c q) = 0) ?_ ?_ 0 () (Nat.zero_le _) (fun _ c hc => absurd hc (Nat.not_lt_zero c))
  · intro i _ hi hI ih
    have ii : vp_in (nI i) 12 := vp_in_nI (by omega) (by decide)
    have ci : (nI i).toNatClampNeg = i := nI_clamp (by omega)
    have no : ∃ b : Bool, some (Value.int (0 : Int32)) = some (Value.int (zb b)) ∧ σ = σ ∧ (b = true → ¬ lo = 0 → ∀ c, c < n → upS σ c = some a → ¬ σ 45 (pl w a c q) = 0) := ⟨false, rfl, rfl, fun e => by cases e⟩
    have iab : vp_in (((12 : Int32) * nI a) + nI i) 144 := by rw [zi12']; exact vp_in_nI (by omega) (by decide)
    have epl : ((nI w * 12 + nI a) * 12 + nI i) * 22 + (σ 35 (nI a).toNatClampNeg) = nI (pl w a i q) := by rw [ca, hq, pl_nI]
    have hpl := pl_lt (r := q) hw (show a < 12 by omega) (show i < 12 by omega) hq2
    have ipl : vp_in (((nI w * 12 + nI a) * 12 + nI i) * 22 + (σ 35 (nI a).toNatClampNeg)) 12672 := by rw [epl]; exact vp_in_nI hpl (by decide)
    have cpl : (((nI w * 12 + nI a) * 12 + nI i) * 22 + (σ 35 (nI a).toNatClampNeg)).toNatClampNeg = pl w a i q := by rw [epl]; exact nI_clamp (by omega)
    have nx : (¬ lo = 0 → upS σ i = some a → ¬ σ 45 (pl w a i q) = 0) → zZ G M_Mo_hasAll 1 X (fun rr τ => ∃ b : Bool, rr = some (.int (zb b)) ∧ τ = σ ∧ (b = true → ¬ lo = 0 → ∀ c, c < n → upS σ c = some a → ¬ σ 45 (pl w a c q) = 0)) 3 [(0, zf G 32), (1, .int (nI w)), (2, .int (nI a)), (3, .int lo), (4, .int (nI i + 1))] [] σ := by
      intro hx
      rw [nI_1]
      refine ih () (fun hlo c hc hu => ?_)
      by_cases hci : c = i
      · rw [hci] at hu ⊢; exact hx hlo hu
      · exact hI hlo c (by omega) hu
    refine b_Mo_hasAll_3 E (nI w) (nI a) lo (nI i) σ ⟨fun qq => absurd qq (by rw [h1]; exact nI_ge hi (by omega)), fun _ => ⟨fun hlo => ⟨fun _ => ⟨iab, fun _ => nx (fun h => absurd hlo h), fun _ => ⟨ia, ipl, fun _ => nx (fun h => absurd hlo h), fun _ => no⟩⟩, fun _ => ⟨iab, fun _ => nx (fun h => absurd hlo h), fun _ => ⟨ia, ipl, fun _ => nx (fun h => absurd hlo h), fun _ => no⟩⟩⟩, fun hlo => ⟨ii, fun hz => nx (fun _ hu => ?_), fun _ => ⟨ia, ipl, fun hne => nx (fun _ _ => by rw [cpl] at hne; exact hne), fun _ => no⟩⟩⟩⟩
    exfalso
    obtain ⟨_, p2, p3⟩ := upS_of h9 h3 hi hu
    simp only [zBe, decide_eq_false_iff_not] at hz
    rw [ci] at hz
    exact hz ⟨p3, fun e => p2 ((nI_eq (by omega) (by omega)).mp e).symm⟩
  · intro _ hI
    exact b_Mo_hasAll_3 E (nI w) (nI a) lo (nI n) σ ⟨fun _ => ⟨true, rfl, rfl, fun _ => hI⟩, fun qq => absurd (by rw [h1]; exact nI_le (Nat.le_refl n) (by omega)) qq⟩
end
section
-- The reference: becomeFirm, beginRound
theorem kne_2_0 : ¬ (2 : Int32) = 0 := by decide
theorem NB_0 (r : Nat) : NB r 0 := by
  have h : (0 : Int32).toInt = 0 := by decide
  unfold NB; rw [h]; omega
theorem psS_fi {σ τ : zSt} {a : Nat} (e35 : τ 35 = σ 35) (e36 : τ 36 = σ 36) (e37 : τ 37 = σ 37) (e38 : τ 38 = σ 38) (e39 : τ 39 = upd (σ 39) a 1) (e40 : τ 40 = σ 40) : psS τ = setFi (psS σ) a := by
  unfold psS
  rw [e35, e36, e37, e38, e39, e40]
  refine Prod.ext rfl (Prod.ext rfl (Prod.ext rfl (Prod.ext rfl (Prod.ext ?_ rfl))))
  funext b
  show decide (¬ upd (σ 39) a 1 b = 0) = fup (fun a => decide (¬ σ 39 a = 0)) a true b
  unfold upd fup
  by_cases h : b = a
  · rw [if_pos h, if_pos h]; decide
  · rw [if_neg h, if_neg h]
theorem s_Mo_becomeFirm (G : zG) (σ : zSt) (n R W a : Nat) (l : List Lt) (h : MR σ n R W l) (hW : W = 2) (ha : a < n) (hr : 1 ≤ rdP (psS σ) a) (hra : raP (psS σ) a = true) (hfi : fiP (psS σ) a = false) (hfa : frs l a = 0) (hup : ∀ u, upS σ a = some u → (rdP (psS σ) a = rdP (psS σ) u ∧ fiP (psS σ) u = true) ∨ rdP (psS σ) a < rdP (psS σ) u) :
    zV G 2 M_Mo_becomeFirm [zf G 32, .int (nI a)] σ (fun τ => MF [39, 51] [27, 29, 30] σ τ ∧ psS τ = setFi (psS σ) a ∧ ∃ l', MR τ n R W l') := by
  refine zSpec.of (by decide) (Nat.le_of_ble_eq_true rfl) rfl (fun X E => ?_)
  obtain ⟨hS, hN, hL, hP⟩ := h
  have hn12 : n ≤ 12 := hS.2.2.1
  have hR20 : R ≤ 20 := hS.2.2.2.2.2.1
  have ia : vp_in (nI a) 12 := vp_in_nI (by omega) (by decide)
  have ca : (nI a).toNatClampNeg = a := nI_clamp (by omega)
  have hlen := hP.len hn12 hR20
  have hRa := (hP.1 a ha).1
  refine b_Mo_becomeFirm_0 E (nI a) σ ⟨ia, fun σ1 e1 => ⟨ia, ?_⟩⟩
  rw [ca] at e1
  have h1 : ∀ c, c ≠ 39 → σ1 c = σ c := fun c hc => by rw [e1, zup_ne hc]
  have hS1 : MS σ1 n R W := hS.of (by rw [h1 32 (by decide)]) (by rw [h1 32 (by decide)]) (by rw [h1 32 (by decide)]) (h1 41 (by decide)) (h1 33 (by decide)) (h1 34 (by decide))
  have up1 : upS σ1 = upS σ := upS_eq (h1 41 (by decide))
  have r1 : σ1 35 a = nI (rdP (psS σ) a) := by rw [h1 35 (by decide)]; exact hN.1 a ha
  rw [ca, r1]
  refine ⟨_, s_Mo_toLower G σ1 n R W a l 5 _ hS1 ha (hL.of (by rw [h1 32 (by decide)]) (h1 51 (by decide))) (by omega), fun σ2 ⟨k1, F, k2, k3, k4, k5, k6⟩ => ?_⟩
  rw [up1] at k3 k5
  -- room: a dozen letters more
  have room : l.length + F.length + 12 ≤ 3984 := by
    have hq := hP.firm hW hn12 ha hr hra hfi hfa hup F (List.replicate 12 (2, nI a, nI a, nI (rdP (psS σ) a), 0)) k3 (fun c hc => Nat.le_trans (frs_cto F c) (k4 c hc)) k5 (fun x hx => by
      rw [(List.mem_replicate.mp hx).2]
      exact ⟨⟨⟨2, by omega, rfl⟩, ⟨a, ha, rfl⟩, ⟨a, ha, rfl⟩, ⟨_, hr, hRa, rfl, fun e => absurd e kne_2_0⟩⟩, rfl⟩) (by simp)
    have := hq.len hn12 hR20
    simp at this
    omega
  have fin : ∀ (τ : zSt) (M : List Lt), MF [51] [27, 29, 30] σ1 τ → ML τ (l ++ F ++ M) → (∀ x, x ∈ M → VL n R x ∧ x.1 = 2) → M.length ≤ 12 → (none : Option Value) = none ∧ MF [39, 51] [27, 29, 30] σ τ ∧ psS τ = setFi (psS σ) a ∧ ∃ l', MR τ n R W l' := by
    intro τ M g1 g2 g3 g4
    have et : ∀ c, c ≠ 32 → c ≠ 51 → τ c = σ1 c := fun c a1 a2 => g1.at (by simp [a1, a2])
    have e39 : τ 39 = upd (σ 39) a 1 := by rw [et 39 (by decide) (by decide), e1, zup_self]
    have ep : psS τ = setFi (psS σ) a := psS_fi (by rw [et 35 (by decide) (by decide), h1 35 (by decide)]) (by rw [et 36 (by decide) (by decide), h1 36 (by decide)]) (by rw [et 37 (by decide) (by decide), h1 37 (by decide)]) (by rw [et 38 (by decide) (by decide), h1 38 (by decide)]) e39 (by rw [et 40 (by decide) (by decide), h1 40 (by decide)])
    have e41 : τ 41 = σ 41 := by rw [et 41 (by decide) (by decide), h1 41 (by decide)]
    have e45 : τ 45 = σ 45 := by rw [et 45 (by decide) (by decide), h1 45 (by decide)]
    have hFs : MF [39, 51] [27, 29, 30] σ τ := by
      refine MF.tr (τ := σ1) ?_ (g1.mono (by decide) (by decide))
      rw [e1]; exact MF.rf.up (by decide) (by decide)
    refine ⟨rfl, hFs, ep, l ++ F ++ M, ?_, ⟨?_, ?_⟩, g2, ?_⟩
    · exact hS.of (hFs.2 0 (by decide)) (hFs.2 8 (by decide)) (hFs.2 6 (by decide)) e41 (hFs.at (by decide)) (hFs.at (by decide))
    · intro b hb
      rw [ep, et 35 (by decide) (by decide), h1 35 (by decide)]
      exact hN.1 b hb
    · intro x y q hx hy hq hne
      rw [e45] at hne
      rw [et 46 (by decide) (by decide), h1 46 (by decide)]
      exact hN.2 x y q hx hy hq hne
    · rw [upS_eq e41, c2S_eq e41 e45, c3S_eq e41 e45, ep]
      exact hP.firm hW hn12 ha hr hra hfi hfa hup F M k3 (fun c hc => Nat.le_trans (frs_cto F c) (k4 c hc)) k5 g3 g4
  refine z_for n (fun i τ => zZ G M_Mo_becomeFirm 2 X (fun rr τ => rr = none ∧ MF [39, 51] [27, 29, 30] σ τ ∧ psS τ = setFi (psS σ) a ∧ ∃ l', MR τ n R W l') 21 [(0, zf G 32), (1, .int (nI a)), (2, .int (nI i))] [] τ) (fun i τ => MF [51] [27, 29, 30] σ1 τ ∧ ∃ M, ML τ (l ++ F ++ M) ∧ (∀ x, x ∈ M → VL n R x ∧ x.1 = 2) ∧ M.length ≤ i) ?_ ?_ 0 σ2 (Nat.zero_le _) ⟨k1, [], by rw [List.append_nil]; exact k2, fun x hx => absurd hx List.not_mem_nil, Nat.le_refl _⟩
  · intro i τ hi ⟨g1, M, g2, g3, g4⟩ ih
    have et35 : τ 35 a = nI (rdP (psS σ) a) := by rw [g1.at (by decide)]; exact r1
    refine b_Mo_becomeFirm_21 E (nI a) (nI i) τ ⟨fun q => absurd q (by rw [g1.2 0 (by decide), h1 32 (by decide), hS.1]; exact nI_ge hi (by omega)), fun _ => ⟨by rw [zi12']; exact vp_in_nI (by omega) (by decide), fun _ => ?_, fun _ => ⟨ia, ?_⟩⟩⟩
    · rw [nI_1]; exact ih τ ⟨g1, M, g2, g3, by omega⟩
    · rw [ca, et35]
      refine ⟨_, s_Mo_send G τ (l ++ F ++ M) 2 (nI a) (nI i) _ 0 g2 (by rw [List.length_append, List.length_append]; omega), fun σ5 ⟨m1, m2⟩ => ?_⟩
      rw [nI_1]
      refine ih σ5 ⟨g1.tr m1, M ++ [(2, nI a, nI i, nI (rdP (psS σ) a), 0)], by rw [← List.append_assoc]; exact m2, fun x hx => ?_, by rw [List.length_append]; simp; omega⟩
      rcases List.mem_append.mp hx with e | e
      · exact g3 x e
      · rw [List.mem_singleton.mp e]
        exact ⟨⟨⟨2, by omega, rfl⟩, ⟨a, ha, rfl⟩, ⟨i, hi, rfl⟩, ⟨_, hr, hRa, rfl, fun e => absurd e kne_2_0⟩⟩, rfl⟩
  · intro τ ⟨g1, M, g2, g3, g4⟩
    exact b_Mo_becomeFirm_21 E (nI a) (nI n) τ ⟨fun _ => fin τ M g1 g2 g3 (by omega), fun q => absurd (by rw [g1.2 0 (by decide), h1 32 (by decide), hS.1]; exact nI_le (Nat.le_refl n) (by omega)) q⟩
theorem psS_rd {σ τ : zSt} {a r m : Nat} (hr : r < 1000) (hrd : rdP (psS σ) a + 1 = r) (hm : m < 1000) (e35 : τ 35 = upd (σ 35) a (nI r)) (e36 : τ 36 = upd (σ 36) a (nI m)) (e37 : τ 37 = upd (σ 37) a 0) (e38 : τ 38 = upd (σ 38) a 0) (e39 : τ 39 = upd (σ 39) a 0) (e40 : τ 40 = upd (σ 40) a 0) : psS τ = setRd (psS σ) a (m : Int) := by
  unfold psS
  rw [e35, e36, e37, e38, e39, e40]
  have key : ∀ (c : Nat) (b : Nat), decide (¬ upd (σ c) a 0 b = 0) = fup (fun a => decide (¬ σ c a = 0)) a false b := by
    intro c b
    unfold upd fup
    by_cases h : b = a
    · rw [if_pos h, if_pos h]; decide
    · rw [if_neg h, if_neg h]
  refine Prod.ext ?_ (Prod.ext ?_ (Prod.ext ?_ (Prod.ext ?_ (Prod.ext ?_ ?_))))
  · funext b
    show (upd (σ 35) a (nI r) b).toNatClampNeg = fup (fun a => (σ 35 a).toNatClampNeg) a (rdP (psS σ) a + 1) b
    unfold upd fup
    by_cases h : b = a
    · rw [if_pos h, if_pos h, hrd]; exact nI_clamp (by omega)
    · rw [if_neg h, if_neg h]
  · funext b
    show (upd (σ 36) a (nI m) b).toInt = fup (fun a => (σ 36 a).toInt) a (m : Int) b
    unfold upd fup
    by_cases h : b = a
    · rw [if_pos h, if_pos h]; exact nI_toInt (by omega)
    · rw [if_neg h, if_neg h]
  · funext b; exact key 37 b
  · funext b; exact key 38 b
  · funext b; exact key 39 b
  · funext b; exact key 40 b
abbrev FBeg : List Nat := [35, 36, 37, 38, 39, 40, 47, 48, 49, 51, 54, 55]
/-- what must hold before a node begins its next round -/
def BC (σ : zSt) (n R W a : Nat) (l : List Lt) : Prop := rdP (psS σ) a + 1 ≤ R ∧ (1 ≤ rdP (psS σ) a → opP (psS σ) a ≤ 0) ∧ (1 ≤ rdP (psS σ) a → ∀ c, c < n → upS σ c = some a → rdP (psS σ) c = rdP (psS σ) a ∧ raP (psS σ) c = true ∧ (W = 2 → dnP (psS σ) c = true)) ∧ (∀ u, upS σ a = some u → rdP (psS σ) a + 1 ≤ rdP (psS σ) u ∨ rdP (psS σ) a = 0) ∧ gos l a = 0 ∧ frs l a = 0 ∧ (rdP (psS σ) a = 0 → -2 ≤ (σ 47 a).toInt ∧ (σ 47 a).toInt ≤ 99)
theorem s_Mo_beginRound (G : zG) (σ : zSt) (n R W a r : Nat) (l : List Lt) (hS : MS σ n R W) (hN : MN σ n) (hL : ML σ l) (hP : PI n R W (upS σ) (c2S σ) (c3S σ) (psS σ) l ∨ ((∀ b, b < n → NL n R W (upS σ) (c2S σ) (c3S σ) (psS σ) b) ∧ (∀ x, x ∈ l → VL n R x ∧ TL n W (upS σ) (psS σ) x) ∧ (∀ c, c < n → gos l c ≤ 1 ∧ frs l c ≤ 1) ∧ (l.length : Int) ≤ su (ph W (upS σ) (psS σ)) n)) (ha : a < n) (hB : BC σ n R W a l) (hr : rdP (psS σ) a + 1 = r) :
    zV G 2 M_Mo_beginRound [zf G 32, .int (nI a), .int (nI r)] σ (fun τ => MF FBeg [27, 29, 30] σ τ ∧ (∀ j, j ≠ a → τ 47 j = σ 47 j) ∧ (∃ m : Int, psS τ = setRd (psS σ) a m) ∧ ∃ l', MR τ n R W l') := by
  have hP : PI n R W (upS σ) (c2S σ) (c3S σ) (psS σ) l := by rcases hP with h | h <;> exact h
  refine zSpec.of (by decide) (Nat.le_of_ble_eq_true rfl) rfl (fun X E => ?_)
  obtain ⟨b1, b2, b3, b4, b5, b6, b7⟩ := hB
  have hn12 : n ≤ 12 := hS.2.2.1
  have hR20 : R ≤ 20 := hS.2.2.2.2.2.1
  have ia : vp_in (nI a) 12 := vp_in_nI (by omega) (by decide)
  have ca : (nI a).toNatClampNeg = a := nI_clamp (by omega)
  have hlen := hP.len hn12 hR20
  have hr1 : 1 ≤ r := by omega
  have hr20 : r ≤ 20 := by omega
  -- behind the GOs
  have rest : ∀ (υ : zSt) (Gl : List Lt), MF [51] [27, 29, 30] σ υ → ML υ (l ++ Gl) → (∀ x, x ∈ Gl → ∃ c, c < n ∧ upS σ c = some a ∧ x = (4, nI a, nI c, nI (rdP (psS σ) a + 1), 0)) → (∀ c, c < n → gos Gl c ≤ 1) → ((Gl.length : Int) ≤ if rdP (psS σ) a = 0 then 0 else cu (upS σ) a n) →
      ∀ σ1 σ2 σ3 σ4 σ5 σ6 : zSt, σ1 = zup υ 35 (nI a).toNatClampNeg (nI r) → σ2 = zup σ1 37 (nI a).toNatClampNeg 0 → σ3 = zup σ2 38 (nI a).toNatClampNeg 0 → σ4 = zup σ3 39 (nI a).toNatClampNeg 0 → σ5 = zup σ4 40 (nI a).toNatClampNeg 0 → σ6 = zup σ5 36 (nI a).toNatClampNeg 0 →
      zZ G M_Mo_beginRound 2 X (fun rr τ => rr = none ∧ MF FBeg [27, 29, 30] σ τ ∧ (∀ j, j ≠ a → τ 47 j = σ 47 j) ∧ (∃ m : Int, psS τ = setRd (psS σ) a m) ∧ ∃ l', MR τ n R W l') 56 [(0, zf G 32), (1, .int (nI a)), (2, .int (nI r)), (3, .int (0 : Int32))] [] σ6 := by
    intro υ Gl f1 f2 f3 f4 f5 σ1 σ2 σ3 σ4 σ5 σ6 e1 e2 e3 e4 e5 e6
    rw [ca] at e1 e2 e3 e4 e5 e6
    have room : l.length + Gl.length + 12 ≤ 3984 := by
      have hq := hP.begin hn12 ha b1 b2 b3 b4 b5 b6 Gl (List.replicate 12 (0, nI a, nI a, nI r, 0)) f3 f4 f5 (fun x hx => by
        rw [(List.mem_replicate.mp hx).2]
        exact ⟨⟨⟨0, by omega, rfl⟩, ⟨a, ha, rfl⟩, ⟨a, ha, rfl⟩, ⟨r, hr1, by omega, rfl, fun _ => NB_0 r⟩⟩, rfl⟩) (by simp)
      have := hq.len hn12 hR20
      simp at this
      omega
    have hF6 : MF FBeg [27, 29, 30] σ σ6 := by
      rw [e6, e5, e4, e3, e2, e1]
      exact ((((((f1.mono (by decide) (by decide)).up (by decide) (by decide)).up (by decide) (by decide)).up (by decide) (by decide)).up (by decide) (by decide)).up (by decide) (by decide)).up (by decide) (by decide)
    have u35 : σ6 35 = upd (σ 35) a (nI r) := by rw [e6, zup_ne (by decide), e5, zup_ne (by decide), e4, zup_ne (by decide), e3, zup_ne (by decide), e2, zup_ne (by decide), e1, zup_self, f1.at (by decide)]
    have u36 : σ6 36 = upd (σ 36) a (nI 0) := by rw [e6, zup_self, e5, zup_ne (by decide), e4, zup_ne (by decide), e3, zup_ne (by decide), e2, zup_ne (by decide), e1, zup_ne (by decide), f1.at (by decide)]; rfl
    have u37 : σ6 37 = upd (σ 37) a 0 := by rw [e6, zup_ne (by decide), e5, zup_ne (by decide), e4, zup_ne (by decide), e3, zup_ne (by decide), e2, zup_self, e1, zup_ne (by decide), f1.at (by decide)]
    have u38 : σ6 38 = upd (σ 38) a 0 := by rw [e6, zup_ne (by decide), e5, zup_ne (by decide), e4, zup_ne (by decide), e3, zup_self, e2, zup_ne (by decide), e1, zup_ne (by decide), f1.at (by decide)]
    have u39 : σ6 39 = upd (σ 39) a 0 := by rw [e6, zup_ne (by decide), e5, zup_ne (by decide), e4, zup_self, e3, zup_ne (by decide), e2, zup_ne (by decide), e1, zup_ne (by decide), f1.at (by decide)]
    have u40 : σ6 40 = upd (σ 40) a 0 := by rw [e6, zup_ne (by decide), e5, zup_self, e4, zup_ne (by decide), e3, zup_ne (by decide), e2, zup_ne (by decide), e1, zup_ne (by decide), f1.at (by decide)]
    have h6u : ∀ c, c ≠ 35 → c ≠ 36 → c ≠ 37 → c ≠ 38 → c ≠ 39 → c ≠ 40 → σ6 c = υ c := fun c a1 a2 a3 a4 a5 a6 => by
      rw [e6, zup_ne a2, e5, zup_ne a6, e4, zup_ne a5, e3, zup_ne a4, e2, zup_ne a3, e1, zup_ne a1]
    have L6 : ML σ6 (l ++ Gl) := f2.of (by rw [h6u 32 (by decide) (by decide) (by decide) (by decide) (by decide) (by decide)]) (h6u 51 (by decide) (by decide) (by decide) (by decide) (by decide) (by decide))
    have n6 : σ6 32 0 = nI n := by rw [hF6.2 0 (by decide)]; exact hS.1
    -- the notes
    have notes : ∀ (x : Int32) (τ : zSt), (x = -1000 ∨ NB r x) → zFr [47, 48, 49, 54, 55] σ6 τ → (∀ j, j ≠ a → τ 47 j = σ6 47 j) → zZ G M_Mo_beginRound 2 X (fun rr τ => rr = none ∧ MF FBeg [27, 29, 30] σ τ ∧ (∀ j, j ≠ a → τ 47 j = σ 47 j) ∧ (∃ m : Int, psS τ = setRd (psS σ) a m) ∧ ∃ l', MR τ n R W l') 166 [(0, zf G 32), (1, .int (nI a)), (2, .int (nI r)), (3, .int x), (4, .int (0 : Int32))] [] τ := by
      intro x τ hx g1 g2
      have fin : ∀ (ρ : zSt) (N : List Lt), MF [36, 51] [27, 29, 30] τ ρ → ML ρ (l ++ Gl ++ N) → ρ 36 = upd (σ 36) a (nI N.length) → (∀ y, y ∈ N → VL n R y ∧ y.1 = 0) → N.length ≤ 12 → (none : Option Value) = none ∧ MF FBeg [27, 29, 30] σ ρ ∧ (∀ j, j ≠ a → ρ 47 j = σ 47 j) ∧ (∃ m : Int, psS ρ = setRd (psS σ) a m) ∧ ∃ l', MR ρ n R W l' := by
        intro ρ N k1 k2 k3 k4 k5
        have c6 : ∀ c, c ∉ [32, 36, 51, 47, 48, 49, 54, 55] → ρ c = σ6 c := fun c hc => by
          rw [k1.at (fun q => hc (by simp only [List.mem_cons, List.not_mem_nil, or_false] at q ⊢; omega)), g1 c (fun q => hc (by simp only [List.mem_cons, List.not_mem_nil, or_false] at q ⊢; omega))]
        have hFρ : MF FBeg [27, 29, 30] σ ρ := (hF6.tr ((MF.of (J := [27, 29, 30]) g1 (by decide)).mono (by decide) (by decide))).tr (k1.mono (by decide) (by decide))
        have ep : psS ρ = setRd (psS σ) a (N.length : Int) := psS_rd (r := r) (m := N.length) (by omega) hr (by omega) (by rw [c6 35 (by decide)]; exact u35) k3 (by rw [c6 37 (by decide)]; exact u37) (by rw [c6 38 (by decide)]; exact u38) (by rw [c6 39 (by decide)]; exact u39) (by rw [c6 40 (by decide)]; exact u40)
        have e41 : ρ 41 = σ 41 := hFρ.at (by decide)
        have e45 : ρ 45 = σ 45 := hFρ.at (by decide)
        refine ⟨rfl, hFρ, fun j hj => ?_, ⟨_, ep⟩, l ++ Gl ++ N, ?_, ⟨?_, ?_⟩, k2, ?_⟩
        · rw [k1.at (by decide), g2 j hj, h6u 47 (by decide) (by decide) (by decide) (by decide) (by decide) (by decide), f1.at (by decide)]
        · exact hS.of (hFρ.2 0 (by decide)) (hFρ.2 8 (by decide)) (hFρ.2 6 (by decide)) e41 (hFρ.at (by decide)) (hFρ.at (by decide))
        · intro b hb
          rw [ep, c6 35 (by decide), u35]
          show upd (σ 35) a (nI r) b = nI (fup (rdP (psS σ)) a (rdP (psS σ) a + 1) b)
          unfold upd fup
          by_cases hba : b = a
          · rw [if_pos hba, if_pos hba, hr]
          · rw [if_neg hba, if_neg hba]; exact hN.1 b hb
        · intro y z q hy hz hq hne
          rw [e45] at hne
          rw [hFρ.at (by decide)]
          exact hN.2 y z q hy hz hq hne
        · rw [upS_eq e41, c2S_eq e41 e45, c3S_eq e41 e45, ep]
          exact hP.begin hn12 ha b1 b2 b3 b4 b5 b6 Gl N f3 f4 f5 k4 k5
      refine z_for n (fun i ρ => zZ G M_Mo_beginRound 2 X (fun rr τ => rr = none ∧ MF FBeg [27, 29, 30] σ τ ∧ (∀ j, j ≠ a → τ 47 j = σ 47 j) ∧ (∃ m : Int, psS τ = setRd (psS σ) a m) ∧ ∃ l', MR τ n R W l') 166 [(0, zf G 32), (1, .int (nI a)), (2, .int (nI r)), (3, .int x), (4, .int (nI i))] [] ρ) (fun i ρ => MF [36, 51] [27, 29, 30] τ ρ ∧ ∃ N, ML ρ (l ++ Gl ++ N) ∧ ρ 36 = upd (σ 36) a (nI N.length) ∧ (∀ y, y ∈ N → VL n R y ∧ y.1 = 0) ∧ N.length ≤ i) ?_ ?_ 0 τ (Nat.zero_le _) ⟨MF.rf, [], by rw [List.append_nil]; exact L6.of (by rw [g1 32 (by decide)]) (g1 51 (by decide)), by rw [g1 36 (by decide)]; exact u36, fun y hy => absurd hy List.not_mem_nil, Nat.le_refl _⟩
      · intro i ρ hi ⟨k1, N, k2, k3, k4, k5⟩ ih
        have nρ : ρ 32 0 = nI n := by rw [k1.2 0 (by decide), g1 32 (by decide)]; exact n6
        refine b_Mo_beginRound_166 E (nI a) (nI r) x (nI i) ρ ⟨fun q => absurd q (by rw [nρ]; exact nI_ge hi (by omega)), fun _ => ⟨fun _ => fin ρ N k1 k2 k3 k4 (by omega), fun hne => ⟨by rw [zi12']; exact vp_in_nI (by omega) (by decide), fun _ => ?_, fun _ => ⟨_, s_Mo_send G ρ (l ++ Gl ++ N) 0 (nI a) (nI i) (nI r) x k2 (by rw [List.length_append, List.length_append]; omega), fun σ7 ⟨m1, m2⟩ => ⟨ia, ia, fun σ8 e8 => ?_⟩⟩⟩⟩⟩
        · rw [nI_1]; exact ih ρ ⟨k1, N, k2, k3, k4, by omega⟩
        · rw [ca] at e8
          rw [nI_1]
          have o7 : σ7 36 a = nI N.length := by rw [m1.at (by decide), k3]; simp [upd]
          rw [o7, nI_1] at e8
          refine ih σ8 ⟨?_, N ++ [(0, nI a, nI i, nI r, x)], ?_, ?_, fun y hy => ?_, by rw [List.length_append]; simp; omega⟩
          · rw [e8]; exact (k1.tr (m1.mono (by decide) (by decide))).up (by decide) (by decide)
          · rw [← List.append_assoc]
            exact m2.of (by rw [e8, zup_ne (by decide)]) (by rw [e8, zup_ne (by decide)])
          · rw [e8, zup_self, m1.at (by decide), k3, List.length_append]
            funext j
            unfold upd
            by_cases hja : j = a
            · simp [hja]
            · simp [hja]
          · rcases List.mem_append.mp hy with e | e
            · exact k4 y e
            · rw [List.mem_singleton.mp e]
              refine ⟨⟨⟨0, by omega, rfl⟩, ⟨a, ha, rfl⟩, ⟨i, hi, rfl⟩, ⟨r, hr1, by omega, rfl, fun _ => ?_⟩⟩, rfl⟩
              rcases hx with h | h
              · exact absurd h hne
              · exact h
      · intro ρ ⟨k1, N, k2, k3, k4, k5⟩
        have nρ : ρ 32 0 = nI n := by rw [k1.2 0 (by decide), g1 32 (by decide)]; exact n6
        exact b_Mo_beginRound_166 E (nI a) (nI r) x (nI n) ρ ⟨fun _ => fin ρ N k1 k2 k3 k4 (by omega), fun q => absurd (by rw [nρ]; exact nI_le (Nat.le_refl n) (by omega)) q⟩
    -- what the node takes
    refine z_for n (fun i τ => zZ G M_Mo_beginRound 2 X (fun rr τ => rr = none ∧ MF FBeg [27, 29, 30] σ τ ∧ (∀ j, j ≠ a → τ 47 j = σ 47 j) ∧ (∃ m : Int, psS τ = setRd (psS σ) a m) ∧ ∃ l', MR τ n R W l') 56 [(0, zf G 32), (1, .int (nI a)), (2, .int (nI r)), (3, .int (nI i))] [] τ) (fun i τ => zFr [54, 55] σ6 τ ∧ ∀ b, b < i → ¬ τ 54 b = 0 → NB (r - 1) (τ 55 b)) ?_ ?_ 0 σ6 (Nat.zero_le _) ⟨zFr.rf, fun b hb => absurd hb (Nat.not_lt_zero b)⟩
    · intro b τ hb ⟨g1, g2⟩ ih
      have ib : vp_in (nI b) 12 := vp_in_nI (by omega) (by decide)
      have cb : (nI b).toNatClampNeg = b := nI_clamp (by omega)
      have erp : nI r - (1 : Int32) = nI (r - 1) := by rw [show (1 : Int32) = nI 1 from rfl, pk_sub hr1]
      have epl : (((0 : Int32) * 12 + nI a) * 12 + nI b) * 22 + (nI r - (1 : Int32)) = nI (pl 0 a b (r - 1)) := by rw [erp, show (0 : Int32) = nI 0 from rfl, pl_nI]
      have hpl : pl 0 a b (r - 1) < 3168 := by unfold pl; omega
      have e45 : σ6 45 = σ 45 := hF6.at (by decide)
      have e46 : σ6 46 = σ 46 := hF6.at (by decide)
      have tail : ∀ (v : Int32) (σ4 : zSt), σ4 = zup τ 54 (nI b).toNatClampNeg v → (¬ v = 0 → ¬ σ 45 (pl 0 a b (r - 1)) = 0) → zZ G M_Mo_beginRound 2 X (fun rr τ => rr = none ∧ MF FBeg [27, 29, 30] σ τ ∧ (∀ j, j ≠ a → τ 47 j = σ 47 j) ∧ (∃ m : Int, psS τ = setRd (psS σ) a m) ∧ ∃ l', MR τ n R W l') 98 [(0, zf G 32), (1, .int (nI a)), (2, .int (nI r)), (3, .int (nI b))] [] σ4 := by
        intro v σ4 e4 hv
        rw [cb] at e4
        have t54 : σ4 54 = upd (τ 54) b v := by rw [e4, zup_self]
        have go : ∀ (w : Int32) (σ5 : zSt), σ5 = zup σ4 55 (nI b).toNatClampNeg w → (¬ σ4 54 b = 0 → NB (r - 1) w) → zZ G M_Mo_beginRound 2 X (fun rr τ => rr = none ∧ MF FBeg [27, 29, 30] σ τ ∧ (∀ j, j ≠ a → τ 47 j = σ 47 j) ∧ (∃ m : Int, psS τ = setRd (psS σ) a m) ∧ ∃ l', MR τ n R W l') 56 [(0, zf G 32), (1, .int (nI a)), (2, .int (nI r)), (3, .int (nI b + 1))] [] σ5 := by
          intro w σ5 e5 hw
          rw [cb] at e5
          rw [nI_1]
          refine ih σ5 ⟨by rw [e5, e4]; exact (g1.up (by decide)).up (by decide), fun c hc hne => ?_⟩
          have x54 : σ5 54 = σ4 54 := by rw [e5, zup_ne (by decide)]
          have x55 : σ5 55 = upd (τ 55) b w := by rw [e5, zup_self, e4, zup_ne (by decide)]
          rw [x54] at hne
          rw [x55]
          unfold upd
          by_cases hcb : c = b
          · rw [if_pos hcb]; rw [hcb] at hne; exact hw hne
          · rw [if_neg hcb]
            rw [t54] at hne
            unfold upd at hne
            rw [if_neg hcb] at hne
            exact g2 c (by omega) hne
        refine b_Mo_beginRound_98 E (nI a) (nI r) (nI b) σ4 ⟨ib, fun hz => ⟨ib, fun σ5 e5 => go _ σ5 e5 (fun h => absurd (by rw [cb] at hz; exact hz) h)⟩, fun hz => ⟨by rw [epl]; exact vp_in_nI hpl (by decide), ib, fun σ5 e5 => go _ σ5 e5 (fun h => ?_)⟩⟩
        rw [epl, nI_clamp (by omega), e4, zup_ne (by decide), g1 46 (by decide), e46]
        rw [t54] at h
        have hv' : ¬ v = 0 := by simpa [upd] using h
        exact hN.2 a b (r - 1) ha hb (by omega) (hv hv')
      refine b_Mo_beginRound_56 E (nI a) (nI r) (nI b) τ ⟨fun q => absurd q (by rw [g1 32 (by decide), n6]; exact nI_ge hb (by omega)), fun _ => ⟨fun _ => ⟨ib, fun σ4 e4 => tail 0 σ4 e4 (fun h => absurd rfl h)⟩, fun _ => ⟨by rw [epl]; exact vp_in_nI (by omega) (by decide), fun _ => ⟨ib, fun σ4 e4 => tail 0 σ4 e4 (fun h => absurd rfl h)⟩, fun hne => ⟨ib, fun σ4 e4 => tail 1 σ4 e4 (fun _ => ?_)⟩⟩⟩⟩
      rw [epl, nI_clamp (by omega), g1 45 (by decide), e45] at hne
      exact hne
    · intro τ ⟨g1, g2⟩
      have nτ : τ 32 0 = nI n := by rw [g1 32 (by decide)]; exact n6
      have e47 : τ 47 = σ 47 := by rw [g1 47 (by decide), h6u 47 (by decide) (by decide) (by decide) (by decide) (by decide) (by decide), f1.at (by decide)]
      have lm : LM τ := hS.2.2.2.2.2.2.2.2.2.of (by rw [g1 33 (by decide)]; exact hF6.at (by decide)) (by rw [g1 34 (by decide)]; exact hF6.at (by decide))
      refine b_Mo_beginRound_56 E (nI a) (nI r) (nI n) τ ⟨fun _ => ⟨_, s_Mo_act G τ n a a r nτ hn12 (by omega) (by omega) hr1 hr20 lm g2 (fun h => by rw [e47]; exact b7 (by omega)), fun x σ1 ⟨k1, k2, k3⟩ => ⟨vp_in_nI (by omega) (by decide), by rw [zi12']; exact vp_in_nI (by omega) (by decide), fun σ3 e3 => ?_⟩⟩, fun q => absurd (by rw [nτ]; exact nI_le (Nat.le_refl n) (by omega)) q⟩
      refine notes x σ3 k3 ?_ (fun j hj => ?_)
      · rw [e3]; exact ((g1.mono (by decide)).tr (k1.mono (by decide))).up (by decide)
      · rw [e3, zup_ne (by decide), k2 j hj, g1 47 (by decide)]
  refine b_Mo_beginRound_0 E (nI a) (nI r) σ ⟨fun hle => ⟨ia, fun σ1 e1 => ⟨ia, fun σ2 e2 => ⟨ia, fun σ3 e3 => ⟨ia, fun σ4 e4 => ⟨ia, fun σ5 e5 => ⟨ia, fun σ6 e6 => ?_⟩⟩⟩⟩⟩⟩, fun hgt => ⟨_, s_Mo_toLower G σ n R W a l 4 (nI r) hS ha hL (by omega), fun υ ⟨f1, F, f2, f3, f4, f5, f6⟩ => ⟨ia, fun σ1 e1 => ⟨ia, fun σ2 e2 => ⟨ia, fun σ3 e3 => ⟨ia, fun σ4 e4 => ⟨ia, fun σ5 e5 => ⟨ia, fun σ6 e6 => ?_⟩⟩⟩⟩⟩⟩⟩⟩
  · exact rest σ [] MF.rf (by rw [List.append_nil]; exact hL) (fun x hx => absurd hx List.not_mem_nil) (fun c _ => Nat.zero_le _) (by
      have : rdP (psS σ) a = 0 := by
        have h1 : r ≤ 1 := (nI_leI (by omega) (by decide)).mp hle
        omega
      rw [if_pos this]; exact Int.le_refl _) σ1 σ2 σ3 σ4 σ5 σ6 e1 e2 e3 e4 e5 e6
  · refine rest υ F f1 f2 (fun x hx => by obtain ⟨c, p1, p2, p3⟩ := f3 x hx; exact ⟨c, p1, p2, by rw [p3, hr]⟩) (fun c hc => Nat.le_trans (gos_cto F c) (f4 c hc)) ?_ σ1 σ2 σ3 σ4 σ5 σ6 e1 e2 e3 e4 e5 e6
    have : ¬ rdP (psS σ) a = 0 := fun e => hgt (nI_le (a := r) (b := 1) (by omega) (by decide))
    rw [if_neg this]; exact f5
end
section
-- The reference: goOn
theorem flag_up {f : Nat → Int32} {a : Nat} : (fun b => decide (¬ upd f a 1 b = 0)) = fup (fun b => decide (¬ f b = 0)) a true := by
  funext b
  unfold upd fup
  by_cases h : b = a
  · rw [if_pos h, if_pos h]; decide
  · rw [if_neg h, if_neg h]
theorem psS_sf {σ τ : zSt} {a : Nat} (e35 : τ 35 = σ 35) (e36 : τ 36 = σ 36) (e37 : τ 37 = upd (σ 37) a 1) (e38 : τ 38 = σ 38) (e39 : τ 39 = σ 39) (e40 : τ 40 = σ 40) : psS τ = setSf (psS σ) a := by
  unfold psS
  rw [e35, e36, e37, e38, e39, e40, flag_up]
theorem psS_ra {σ τ : zSt} {a : Nat} (e35 : τ 35 = σ 35) (e36 : τ 36 = σ 36) (e37 : τ 37 = σ 37) (e38 : τ 38 = upd (σ 38) a 1) (e39 : τ 39 = σ 39) (e40 : τ 40 = σ 40) : psS τ = setRa (psS σ) a := by
  unfold psS
  rw [e35, e36, e37, e38, e39, e40, flag_up]
theorem psS_dn {σ τ : zSt} {a : Nat} (e35 : τ 35 = σ 35) (e36 : τ 36 = σ 36) (e37 : τ 37 = σ 37) (e38 : τ 38 = σ 38) (e39 : τ 39 = σ 39) (e40 : τ 40 = upd (σ 40) a 1) : psS τ = setDn (psS σ) a := by
  unfold psS
  rw [e35, e36, e37, e38, e39, e40, flag_up]
theorem MR_mk {σ τ : zSt} {n R W : Nat} {L J : List Nat} {S' : PS} {l' : List Lt} (hS : MS σ n R W) (hN : MN σ n) (hF : MF L J σ τ) (hL : 33 ∉ L ∧ 34 ∉ L ∧ 35 ∉ L ∧ 41 ∉ L ∧ 45 ∉ L ∧ 46 ∉ L) (hJ : 0 ∉ J ∧ 6 ∉ J ∧ 8 ∉ J) (ep : psS τ = S') (hr : rdP S' = rdP (psS σ)) (hM : ML τ l') (hP : PI n R W (upS σ) (c2S σ) (c3S σ) S' l') : MR τ n R W l' := by
  have at' : ∀ c, c ≠ 32 → c ∉ L → τ c = σ c := fun c h1 h2 => hF.at (fun q => by
    rcases List.mem_cons.mp q with e | e
    · exact h1 e
    · exact h2 e)
  have e41 : τ 41 = σ 41 := at' 41 (by decide) hL.2.2.2.1
  have e45 : τ 45 = σ 45 := at' 45 (by decide) hL.2.2.2.2.1
  refine ⟨hS.of (hF.2 0 hJ.1) (hF.2 8 hJ.2.2) (hF.2 6 hJ.2.1) e41 (at' 33 (by decide) hL.1) (at' 34 (by decide) hL.2.1), ⟨fun b hb => ?_, fun x y q hx hy hq hne => ?_⟩, hM, ?_⟩
  · rw [ep, hr, at' 35 (by decide) hL.2.2.1]; exact hN.1 b hb
  · rw [e45] at hne
    rw [at' 46 (by decide) hL.2.2.2.2.2]
    exact hN.2 x y q hx hy hq hne
  · rw [upS_eq e41, c2S_eq e41 e45, c3S_eq e41 e45, ep]; exact hP
/-- no letter of the tree waits for a node without an upper -/
theorem PI.root {n R W : Nat} {up : Nat → Option Nat} {c2 c3 : Nat → Nat → Prop} {S : PS} {l : List Lt} {a : Nat} (h : PI n R W up c2 c3 S l) (hn : n ≤ 12) (ha : a < n) (hu : up a = none) : gos l a = 0 ∧ frs l a = 0 := by
  constructor
  · refine gos_0 (fun x hx e1 e2 => ?_)
    obtain ⟨c, u, q1, q2, q3, q4, _⟩ := (h.2.1 x hx).2.2.2.1 e1
    have ec : c = a := (nI_eq (by omega) (by omega)).mp (q3.symm.trans e2)
    rw [ec, hu] at q4; cases q4
  · refine frs_0 (fun x hx e1 e2 => ?_)
    obtain ⟨_, c, u, q1, q2, q3, q4, _⟩ := (h.2.1 x hx).2.2.2.2 e1
    have ec : c = a := (nI_eq (by omega) (by omega)).mp (q3.symm.trans e2)
    rw [ec, hu] at q4; cases q4
theorem c2S_of {σ : zSt} {n a q : Nat} (hq : q < 22) (h : ∀ c, c < n → upS σ c = some a → ¬ σ 45 (pl 2 a c q) = 0) : ∀ c, c < n → upS σ c = some a → c2S σ c q := fun c hc hu => ⟨hq, a, hu, h c hc hu⟩
theorem c3S_of {σ : zSt} {n a q : Nat} (hq : q < 22) (h : ∀ c, c < n → upS σ c = some a → ¬ σ 45 (pl 3 a c q) = 0) : ∀ c, c < n → upS σ c = some a → c3S σ c q := fun c hc hu => ⟨hq, a, hu, h c hc hu⟩
/-- goOn changes the node a alone -/
def GJ (σ τ : zSt) (a : Nat) : Prop := MF FBeg [27, 29, 30] σ τ ∧ (∀ j, j ≠ a → τ 47 j = σ 47 j) ∧ (∀ b, b ≠ a → rdP (psS τ) b = rdP (psS σ) b) ∧ 1 ≤ rdP (psS τ) a
theorem s_Mo_goOn (G : zG) (σ : zSt) (n R W a : Nat) (l : List Lt) (h : MR σ n R W l) (ha : a < n) (hr : 1 ≤ rdP (psS σ) a) (hW0 : W = 0 → ∀ c, c < n → upS σ c = none) : zV G 3 M_Mo_goOn [zf G 32, .int (nI a)] σ (fun τ => GJ σ τ a ∧ ∃ l', MR τ n R W l') := by
  refine zSpec.of (by decide) (Nat.le_of_ble_eq_true rfl) rfl (fun X E => ?_)
  have hn12 : n ≤ 12 := h.1.2.2.1
  have hR20 : R ≤ 20 := h.1.2.2.2.2.2.1
  have hW2 : W ≤ 2 := h.1.2.2.2.2.2.2.2.1
  have ia : vp_in (nI a) 12 := vp_in_nI (by omega) (by decide)
  have ca : (nI a).toNatClampNeg = a := nI_clamp (by omega)
  have main : ∀ (m : Nat) (τ : zSt) (l1 : List Lt) (more : Int32), R - rdP (psS τ) a = m → GJ σ τ a → MR τ n R W l1 → zZ G M_Mo_goOn 3 X (fun rr τ => rr = none ∧ GJ σ τ a ∧ ∃ l', MR τ n R W l') 2 [(0, zf G 32), (1, .int (nI a)), (2, .int more)] [] τ := by
    intro m
    induction m using Nat.strongRecOn with
    | ind m IH =>
      intro τ l1 more hm hJ hM
      -- the end without another round
      have stop : ∀ (υ : zSt) (l2 : List Lt), GJ σ υ a → MR υ n R W l2 → zZ G M_Mo_goOn 3 X (fun rr τ => rr = none ∧ GJ σ τ a ∧ ∃ l', MR τ n R W l') 2 [(0, zf G 32), (1, .int (nI a)), (2, .int (0 : Int32))] [] υ := fun υ l2 h1 h2 => b_Mo_goOn_2 E (nI a) 0 υ ⟨fun _ => ⟨rfl, h1, l2, h2⟩, fun q => absurd rfl q⟩
      -- 291: another round, perhaps
      have s291 : ∀ (υ : zSt) (l2 : List Lt) (v3 : Int32), GJ σ υ a → MR υ n R W l2 → rdP (psS υ) a = rdP (psS τ) a → (¬ v3 = 0 → (W = 0 ∧ sfP (psS υ) a = true) ∨ (W = 1 ∧ raP (psS υ) a = true ∧ upS υ a = none) ∨ (W = 2 ∧ dnP (psS υ) a = true ∧ upS υ a = none)) → zZ G M_Mo_goOn 3 X (fun rr τ => rr = none ∧ GJ σ τ a ∧ ∃ l', MR τ n R W l') 291 [(0, zf G 32), (1, .int (nI a)), (2, .int (0 : Int32)), (3, .int v3)] [] υ := by
        intro υ l2 v3 hJυ hMυ hrυ hv
        obtain ⟨hS, hN, hL, hP⟩ := hMυ
        have eup : upS υ = upS σ := upS_eq (hJυ.1.at (by decide))
        have r35 : υ 35 (nI a).toNatClampNeg = nI (rdP (psS υ) a) := by rw [ca]; exact hN.1 a ha
        have hra : 1 ≤ rdP (psS υ) a := hJυ.2.2.2
        have hRa := (hP.1 a ha).1
        refine b_Mo_goOn_291 E (nI a) 0 v3 υ ⟨fun _ => stop υ l2 hJυ ⟨hS, hN, hL, hP⟩, fun hne => ⟨ia, fun _ => stop υ l2 hJυ ⟨hS, hN, hL, hP⟩, fun hlt => ⟨ia, ?_⟩⟩⟩
        rw [r35, nI_1]
        rw [r35, hS.2.2.2.1] at hlt
        have hltR : rdP (psS υ) a < R := by
          rcases Nat.lt_or_ge (rdP (psS υ) a) R with e | e
          · exact e
          · exact absurd (nI_le e (by omega)) hlt
        have hNL := (hP.1 a ha).2.1 hra
        have upn : upS υ a = none := by
          rcases hv hne with ⟨e, _⟩ | ⟨_, _, e⟩ | ⟨_, _, e⟩
          · rw [eup]; exact hW0 e a ha
          · exact e
          · exact e
        have hB : BC υ n R W a l2 := by
          refine ⟨by omega, fun _ => ?_, fun _ c hc hu => ?_, fun u hu => ?_, (hP.root hn12 ha upn).1, (hP.root hn12 ha upn).2, fun e => by omega⟩
          · rcases hv hne with ⟨_, e⟩ | ⟨_, e, _⟩ | ⟨_, e, _⟩
            · exact hNL.2.1 e
            · exact hNL.2.1 (hNL.2.2.1 e)
            · exact hNL.2.1 (hNL.2.2.1 (hNL.2.2.2.2.1 (hNL.2.2.2.1 e)))
          · rcases hv hne with ⟨e, _⟩ | ⟨e0, e, _⟩ | ⟨e0, e, _⟩
            · rw [eup, hW0 e c hc] at hu; cases hu
            · obtain ⟨p1, p2⟩ := hP.lower ha hra e hc hu
              exact ⟨p1, p2, fun e2 => by omega⟩
            · obtain ⟨p1, p2⟩ := hP.lower ha hra (hNL.2.2.2.2.1 (hNL.2.2.2.1 e)) hc hu
              refine ⟨p1, p2, fun _ => ?_⟩
              have h3 := hNL.2.2.2.2.2.2 e c hc hu
              exact ((hP.1 c hc).2.2.2.2 _ h3).2 p1.symm
          · rw [upn] at hu; cases hu
        refine ⟨_, s_Mo_beginRound G υ n R W a _ l2 hS hN hL (Or.inl hP) ha hB rfl, fun σ1 ⟨g1, g2, ⟨mm, g3⟩, l3, g4⟩ => ?_⟩
        have er : rdP (psS σ1) a = rdP (psS υ) a + 1 := by rw [g3]; exact fup_s
        refine IH (R - rdP (psS σ1) a) (by omega) σ1 l3 1 rfl ⟨hJυ.1.tr g1, fun j hj => by rw [g2 j hj]; exact hJυ.2.1 j hj, fun b hb => ?_, by omega⟩ g4
        rw [g3, ← hJυ.2.2.1 b hb]; exact fup_n hb
      -- 202: done?
      have s202 : ∀ (υ : zSt) (l2 : List Lt) (v3 : Int32), GJ σ υ a → MR υ n R W l2 → rdP (psS υ) a = rdP (psS τ) a → (¬ v3 = 0 → (W = 0 ∧ sfP (psS υ) a = true) ∨ (W = 1 ∧ raP (psS υ) a = true ∧ upS υ a = none)) → zZ G M_Mo_goOn 3 X (fun rr τ => rr = none ∧ GJ σ τ a ∧ ∃ l', MR τ n R W l') 202 [(0, zf G 32), (1, .int (nI a)), (2, .int (0 : Int32)), (3, .int v3)] [] υ := by
        intro υ l2 v3 hJυ hMυ hrυ hv
        have on := s291 υ l2 v3 hJυ hMυ hrυ (fun e => by
          rcases hv e with q | q
          · exact Or.inl q
          · exact Or.inr (Or.inl q))
        obtain ⟨hS, hN, hL, hP⟩ := hMυ
        have hra : 1 ≤ rdP (psS υ) a := hJυ.2.2.2
        have hRa := (hP.1 a ha).1
        have hlen := hP.len hn12 hR20
        refine b_Mo_goOn_202 E (nI a) 0 v3 υ ⟨fun _ => on, fun hw => ⟨ia, fun _ => on, fun hfi => ⟨ia, fun _ => on, fun hdn => ⟨_, s_Mo_hasAll G υ n R W 1 a _ 0 hS (by omega) ha (hN.1 a ha) (by omega), ?_⟩⟩⟩⟩
        rintro b υ' ⟨rfl, _⟩
        refine ⟨fun _ => on, fun _ => ⟨_, s_Mo_hasAll G υ' n R W 3 a _ 1 hS (by omega) ha (hN.1 a ha) (by omega), ?_⟩⟩
        rintro b υ'' ⟨rfl, hall⟩
        refine ⟨fun _ => on, fun hb => ⟨ia, fun σ5 e5 => ⟨ia, ?_⟩⟩⟩
        have hW2' : W = 2 := by
          rw [hS.2.2.2.2.2.2.1] at hw
          exact (nI_eq (by omega) (by decide)).mp hw
        rw [ca] at e5 hfi hdn
        have h5 : ∀ c, c ≠ 40 → σ5 c = υ'' c := fun c hc => by rw [e5, zup_ne hc]
        have ep : psS σ5 = setDn (psS υ'') a := psS_dn (h5 35 (by decide)) (h5 36 (by decide)) (h5 37 (by decide)) (h5 38 (by decide)) (h5 39 (by decide)) (by rw [e5, zup_self])
        have hf : fiP (psS υ'') a = true := decide_eq_true hfi
        have hd : dnP (psS υ'') a = false := by
          show decide (¬ υ'' 40 a = 0) = false
          rw [hdn]; decide
        have hc3 := c3S_of (by omega) (hall hb (by decide))
        have hF5 : MF [40, 51] [27, 29, 30] υ'' σ5 := by rw [e5]; exact MF.rf.up (by decide) (by decide)
        have gj : ∀ ρ : zSt, MF [40, 51] [27, 29, 30] υ'' ρ → psS ρ = setDn (psS υ'') a → GJ σ ρ a := fun ρ k1 k2 => ⟨hJυ.1.tr (k1.mono (by decide) (by decide)), fun j hj => by rw [k1.at (by decide)]; exact hJυ.2.1 j hj, fun b hb => by rw [k2]; exact hJυ.2.2.1 b hb, by rw [k2]; exact hJυ.2.2.2⟩
        refine ⟨fun hu => ?_, fun hu => ⟨ia, ia, ?_⟩⟩
        · rw [ca, h5 41 (by decide)] at hu
          refine s291 σ5 l2 1 (gj σ5 hF5 ep) (MR_mk hS hN hF5 (by decide) (by decide) ep rfl (hL.of (by rw [h5 32 (by decide)]) (h5 51 (by decide))) (by have := hP.done ha hra hf hd hc3 [] (Or.inl rfl); rw [List.append_nil] at this; exact this)) (by rw [ep]; exact hrυ) (fun _ => Or.inr (Or.inr ⟨hW2', by rw [ep]; exact fup_s, ?_⟩))
          unfold upS; rw [h5 41 (by decide), if_pos hu]
        · rw [ca, h5 41 (by decide)] at hu
          rcases hS.2.2.2.2.2.2.2.2.1 a ha with e | ⟨u, hu1, hu2, hu3⟩
          · exact absurd e hu
          · rw [ca, h5 41 (by decide), hu3, h5 35 (by decide), hN.1 a ha]
            refine ⟨_, s_Mo_send G σ5 l2 6 (nI a) (nI u) _ 0 (hL.of (by rw [h5 32 (by decide)]) (h5 51 (by decide))) (by omega), fun σ6 ⟨k1, k2⟩ => ?_⟩
            have ep6 : psS σ6 = setDn (psS υ'') a := by
              rw [← ep]; unfold psS
              rw [k1.at (c := 35) (by decide), k1.at (c := 36) (by decide), k1.at (c := 37) (by decide), k1.at (c := 38) (by decide), k1.at (c := 39) (by decide), k1.at (c := 40) (by decide)]
            have hF6 : MF [40, 51] [27, 29, 30] υ'' σ6 := hF5.tr (k1.mono (by decide) (by decide))
            have hv0 : v3 = 0 := by
              rcases Classical.em (v3 = 0) with e | e
              · exact e
              · rcases hv e with ⟨q, _⟩ | ⟨q, _⟩ <;> omega
            refine s291 σ6 _ v3 (gj σ6 hF6 ep6) (MR_mk hS hN hF6 (by decide) (by decide) ep6 rfl k2 (hP.done ha hra hf hd hc3 [(6, nI a, nI u, nI (rdP (psS υ'') a), 0)] (Or.inr ⟨u, upS_to (by omega) hu3, rfl⟩))) (by rw [ep6]; exact hrυ) (fun e => absurd hv0 e)
      -- 79: raised?
      have s79 : ∀ (υ : zSt) (l2 : List Lt), GJ σ υ a → MR υ n R W l2 → rdP (psS υ) a = rdP (psS τ) a → zZ G M_Mo_goOn 3 X (fun rr τ => rr = none ∧ GJ σ τ a ∧ ∃ l', MR τ n R W l') 79 [(0, zf G 32), (1, .int (nI a)), (2, .int (0 : Int32))] [] υ := by
        intro υ l2 hJυ hMυ hrυ
        have on := s202 υ l2 0 hJυ hMυ hrυ (fun e => absurd rfl e)
        have hMυ' := hMυ
        obtain ⟨hS, hN, hL, hP⟩ := hMυ
        have hra : 1 ≤ rdP (psS υ) a := hJυ.2.2.2
        have hRa := (hP.1 a ha).1
        have hlen := hP.len hn12 hR20
        refine b_Mo_goOn_79 E (nI a) 0 υ ⟨fun hw0 => ⟨ia, fun _ => on, fun hsf => ⟨ia, fun _ => on, fun hrz => ⟨_, s_Mo_hasAll G υ n R W 2 a _ 1 hS (by omega) ha (hN.1 a ha) (by omega), ?_⟩⟩⟩, fun hw0 => ⟨ia, fun _ => on, fun hsf => ⟨_, s_Mo_hasAll G υ n R W 1 a _ 0 hS (by omega) ha (hN.1 a ha) (by omega), ?_⟩⟩⟩
        · rintro b υ' ⟨rfl, hall⟩
          refine ⟨fun _ => on, fun hb => ⟨ia, fun σ3 e3 => ⟨ia, ?_⟩⟩⟩
          rw [ca] at e3 hsf hrz
          have h3 : ∀ c, c ≠ 38 → σ3 c = υ' c := fun c hc => by rw [e3, zup_ne hc]
          have ep : psS σ3 = setRa (psS υ') a := psS_ra (h3 35 (by decide)) (h3 36 (by decide)) (h3 37 (by decide)) (by rw [e3, zup_self]) (h3 39 (by decide)) (h3 40 (by decide))
          have hs : sfP (psS υ') a = true := decide_eq_true hsf
          have hr0 : raP (psS υ') a = false := by
            show decide (¬ υ' 38 a = 0) = false
            rw [hrz]; decide
          have hc2 := c2S_of (by omega) (hall hb (by decide))
          have hF3 : MF [38, 51] [27, 29, 30] υ' σ3 := by rw [e3]; exact MF.rf.up (by decide) (by decide)
          have gj : ∀ ρ : zSt, MF [38, 51] [27, 29, 30] υ' ρ → psS ρ = setRa (psS υ') a → GJ σ ρ a := fun ρ k1 k2 => ⟨hJυ.1.tr (k1.mono (by decide) (by decide)), fun j hj => by rw [k1.at (by decide)]; exact hJυ.2.1 j hj, fun b hb => by rw [k2]; exact hJυ.2.2.1 b hb, by rw [k2]; exact hJυ.2.2.2⟩
          have M3 : MR σ3 n R W l2 := MR_mk hS hN hF3 (by decide) (by decide) ep rfl (hL.of (by rw [h3 32 (by decide)]) (h3 51 (by decide))) (by have := hP.raise ha hra hs hr0 hc2 [] (Or.inl rfl); rw [List.append_nil] at this; exact this)
          refine ⟨fun hu => ⟨fun hw1 => ?_, fun hw1 => ?_⟩, fun hu => ⟨ia, ia, ?_⟩⟩
          · -- the root of a cluster becomes firm
            rw [ca, h3 41 (by decide)] at hu
            have upn : upS σ3 a = none := by unfold upS; rw [h3 41 (by decide), if_pos hu]
            have hW2' : W = 2 := by
              rw [h3 32 (by decide), hS.2.2.2.2.2.2.1] at hw1
              rw [hS.2.2.2.2.2.2.1] at hw0
              have a1 : W ≠ 0 := fun e => hw0 (by rw [e]; rfl)
              have a2 : W ≠ 1 := fun e => hw1 (by rw [e]; rfl)
              omega
            have hf0 : fiP (psS υ') a = false := by
              cases hf : fiP (psS υ') a with
              | false => rfl
              | true =>
                have := ((hP.1 a ha).2.1 hra).2.2.2.2.1 hf
                rw [hr0] at this; cases this
            refine ⟨_, s_Mo_becomeFirm G σ3 n R W a l2 M3 hW2' ha (by rw [ep]; exact hra) (by rw [ep]; exact fup_s) (by rw [ep]; exact hf0) (M3.2.2.2.root hn12 ha upn).2 (fun u hu' => by rw [upn] at hu'; cases hu'), fun σ4 ⟨k1, k2, l3, k3⟩ => ?_⟩
            refine s202 σ4 l3 0 ⟨hJυ.1.tr ((hF3.mono (by decide) (by decide)).tr (k1.mono (by decide) (by decide))), fun j hj => by rw [k1.at (by decide), hF3.at (by decide)]; exact hJυ.2.1 j hj, fun b hb => by rw [k2, ep]; exact hJυ.2.2.1 b hb, by rw [k2, ep]; exact hJυ.2.2.2⟩ k3 (by rw [k2, ep]; exact hrυ) (fun e => absurd rfl e)
          · rw [ca, h3 41 (by decide)] at hu
            have upn : upS σ3 a = none := by unfold upS; rw [h3 41 (by decide), if_pos hu]
            have hW1 : W = 1 := by
              rw [h3 32 (by decide), hS.2.2.2.2.2.2.1] at hw1
              exact (nI_eq (by omega) (by decide)).mp hw1
            exact s202 σ3 l2 1 (gj σ3 hF3 ep) M3 (by rw [ep]; exact hrυ) (fun _ => Or.inr ⟨hW1, by rw [ep]; exact fup_s, upn⟩)
          · rw [ca, h3 41 (by decide)] at hu
            rcases hS.2.2.2.2.2.2.2.2.1 a ha with e | ⟨u, hu1, hu2, hu3⟩
            · exact absurd e hu
            · rw [ca, h3 41 (by decide), hu3, h3 35 (by decide), hN.1 a ha]
              refine ⟨_, s_Mo_send G σ3 l2 3 (nI a) (nI u) _ 0 (hL.of (by rw [h3 32 (by decide)]) (h3 51 (by decide))) (by omega), fun σ6 ⟨k1, k2⟩ => ?_⟩
              have ep6 : psS σ6 = setRa (psS υ') a := by
                rw [← ep]; unfold psS
                rw [k1.at (c := 35) (by decide), k1.at (c := 36) (by decide), k1.at (c := 37) (by decide), k1.at (c := 38) (by decide), k1.at (c := 39) (by decide), k1.at (c := 40) (by decide)]
              have hF6 : MF [38, 51] [27, 29, 30] υ' σ6 := hF3.tr (k1.mono (by decide) (by decide))
              exact s202 σ6 _ 0 (gj σ6 hF6 ep6) (MR_mk hS hN hF6 (by decide) (by decide) ep6 rfl k2 (hP.raise ha hra hs hr0 hc2 [(3, nI a, nI u, nI (rdP (psS υ') a), 0)] (Or.inr ⟨u, upS_to (by omega) hu3, rfl⟩))) (by rw [ep6]; exact hrυ) (fun e => absurd rfl e)
        · rintro b υ' ⟨rfl, _⟩
          rw [ca] at hsf
          have hW : W = 0 := by
            rw [hS.2.2.2.2.2.2.1] at hw0
            exact (nI_eq (by omega) (by decide)).mp hw0
          exact ⟨fun _ => on, fun _ => s202 υ' l2 1 hJυ hMυ' hrυ (fun _ => Or.inl ⟨hW, decide_eq_true hsf⟩)⟩
      -- 2: safe?
      have hMτ := hM
      obtain ⟨hS, hN, hL, hP⟩ := hM
      have hra : 1 ≤ rdP (psS τ) a := hJ.2.2.2
      have hRa := (hP.1 a ha).1
      have hlen := hP.len hn12 hR20
      have on := s79 τ l1 hJ hMτ rfl
      refine b_Mo_goOn_2 E (nI a) more τ ⟨fun _ => ⟨rfl, hJ, l1, hMτ⟩, fun _ => ⟨ia, fun _ => on, fun hsz => ⟨ia, fun _ => on, fun hoz => ⟨ia, fun σ1 e1 => ?_⟩⟩⟩⟩
      rw [ca] at e1 hsz hoz
      have h1 : ∀ c, c ≠ 37 → σ1 c = τ c := fun c hc => by rw [e1, zup_ne hc]
      have ep1 : psS σ1 = setSf (psS τ) a := psS_sf (h1 35 (by decide)) (h1 36 (by decide)) (by rw [e1, zup_self]) (h1 38 (by decide)) (h1 39 (by decide)) (h1 40 (by decide))
      have hs0 : sfP (psS τ) a = false := by
        show decide (¬ τ 37 a = 0) = false
        rw [hsz]; decide
      have ho0 : opP (psS τ) a ≤ 0 := by
        show (τ 36 a).toInt ≤ 0
        rw [hoz]; decide
      refine z_for n (fun i ρ => zZ G M_Mo_goOn 3 X (fun rr τ => rr = none ∧ GJ σ τ a ∧ ∃ l', MR τ n R W l') 35 [(0, zf G 32), (1, .int (nI a)), (2, .int (0 : Int32)), (3, .int (nI i))] [] ρ) (fun i ρ => MF [51] [27, 29, 30] σ1 ρ ∧ ∃ M, ML ρ (l1 ++ M) ∧ (∀ x, x ∈ M → VL n R x ∧ x.1 = 2) ∧ M.length ≤ i ∧ (¬ W = 0 → M = [])) ?_ ?_ 0 σ1 (Nat.zero_le _) ⟨MF.rf, [], by rw [List.append_nil]; exact hL.of (by rw [h1 32 (by decide)]) (h1 51 (by decide)), fun x hx => absurd hx List.not_mem_nil, Nat.le_refl _, fun _ => rfl⟩
      · intro i ρ hi ⟨g1, M, g2, g3, g4, g5⟩ ih
        have nρ : ρ 32 0 = nI n := by rw [g1.2 0 (by decide), h1 32 (by decide)]; exact hS.1
        have wρ : ρ 32 6 = nI W := by rw [g1.2 6 (by decide), h1 32 (by decide)]; exact hS.2.2.2.2.2.2.1
        have rρ : ρ 35 (nI a).toNatClampNeg = nI (rdP (psS τ) a) := by rw [ca, g1.at (by decide), h1 35 (by decide)]; exact hN.1 a ha
        have nx : zZ G M_Mo_goOn 3 X (fun rr τ => rr = none ∧ GJ σ τ a ∧ ∃ l', MR τ n R W l') 35 [(0, zf G 32), (1, .int (nI a)), (2, .int (0 : Int32)), (3, .int (nI i + 1))] [] ρ := by
          rw [nI_1]; exact ih ρ ⟨g1, M, g2, g3, by omega, g5⟩
        refine b_Mo_goOn_35 E (nI a) 0 (nI i) ρ ⟨fun q => absurd q (by rw [nρ]; exact nI_ge hi (by omega)), fun _ => ⟨fun _ => nx, fun hw => ⟨by rw [zi12']; exact vp_in_nI (by omega) (by decide), fun _ => nx, fun _ => ⟨ia, ?_⟩⟩⟩⟩
        rw [rρ]
        refine ⟨_, s_Mo_send G ρ (l1 ++ M) 2 (nI a) (nI i) _ 0 g2 (by rw [List.length_append]; omega), fun σ7 ⟨m1, m2⟩ => ?_⟩
        rw [nI_1]
        refine ih σ7 ⟨g1.tr m1, M ++ [(2, nI a, nI i, nI (rdP (psS τ) a), 0)], by rw [← List.append_assoc]; exact m2, fun x hx => ?_, by rw [List.length_append]; simp; omega, fun hne => ?_⟩
        · rcases List.mem_append.mp hx with e | e
          · exact g3 x e
          · rw [List.mem_singleton.mp e]
            exact ⟨⟨⟨2, by omega, rfl⟩, ⟨a, ha, rfl⟩, ⟨i, hi, rfl⟩, ⟨_, hra, hRa, rfl, fun e => absurd e kne_2_0⟩⟩, rfl⟩
        · exfalso
          rw [wρ] at hw
          exact hne ((nI_eq (b := 0) (by omega) (by decide)).mp hw)
      · intro ρ ⟨g1, M, g2, g3, g4, g5⟩
        have nρ : ρ 32 0 = nI n := by rw [g1.2 0 (by decide), h1 32 (by decide)]; exact hS.1
        refine b_Mo_goOn_35 E (nI a) 0 (nI n) ρ ⟨fun _ => ?_, fun q => absurd (by rw [nρ]; exact nI_le (Nat.le_refl n) (by omega)) q⟩
        have ep : psS ρ = setSf (psS τ) a := by
          rw [← ep1]; unfold psS
          rw [g1.at (c := 35) (by decide), g1.at (c := 36) (by decide), g1.at (c := 37) (by decide), g1.at (c := 38) (by decide), g1.at (c := 39) (by decide), g1.at (c := 40) (by decide)]
        have hFρ : MF [37, 51] [27, 29, 30] τ ρ := by
          refine MF.tr (τ := σ1) ?_ (g1.mono (by decide) (by decide))
          rw [e1]; exact MF.rf.up (by decide) (by decide)
        refine s79 ρ _ ⟨hJ.1.tr (hFρ.mono (by decide) (by decide)), fun j hj => by rw [hFρ.at (by decide)]; exact hJ.2.1 j hj, fun b hb => by rw [ep]; exact hJ.2.2.1 b hb, by rw [ep]; exact hJ.2.2.2⟩ (MR_mk hS hN hFρ (by decide) (by decide) ep rfl g2 (hP.safe ha hra ho0 hs0 M g3 ?_)) (by rw [ep])
        by_cases e : W = 0
        · rw [if_pos e]; omega
        · rw [if_neg e, g5 e]; simp
  refine b_Mo_goOn_0 E (nI a) σ (main _ σ l 1 rfl ⟨MF.rf, fun _ _ => rfl, fun _ _ => rfl, hr⟩ h)
end
section
-- The reference: a letter comes (handle)
section HANDLE
variable {n R W : Nat} {up : Nat → Option Nat} {c2 c3 c2' c3' : Nat → Nat → Prop} {S : PS} {l : List Lt} {a : Nat}
theorem frs_erase {l : List Lt} {i : Nat} {x : Lt} (h : l[i]? = some x) (c : Nat) : frs l c = frs (l.eraseIdx i) c + (if x.1 = 5 ∧ x.2.2.1 = nI c then 1 else 0) := by
  induction l generalizing i with
  | nil => cases h
  | cons y t ih =>
    cases i with
    | zero =>
      cases h
      simp only [List.eraseIdx_cons_zero, frs, List.countP_cons, decide_eq_true_eq]
    | succ j =>
      have h2 := ih (i := j) h
      simp only [List.eraseIdx_cons_succ, frs, List.countP_cons] at h2 ⊢
      omega
theorem PI.node (h : PI n R W up c2 c3 S l) (hR : R ≤ 20) (ha : a < n) : ph W up S a ≤ (if rdP S a = 0 then 0 else opP S a) + 320 := by
  obtain ⟨n1, n2, n3, -, -⟩ := h.1 a ha
  have b1 := b2i_in (if W = 0 then sfP S a else fiP S a)
  have b2 := b2i_in (raP S a)
  have b3 := b2i_in (dnP S a)
  rw [ph_eq]
  have e1 : ph1 W S a ≤ (if rdP S a = 0 then 0 else opP S a) + 280 := by
    unfold ph1
    by_cases h0 : rdP S a = 0
    · rw [if_pos h0, if_pos h0]; omega
    · rw [if_neg h0, if_neg h0]; omega
  have e2 : ph2 S (up a) ≤ 40 := by
    cases hu : up a with
    | none => simp [ph2]
    | some u =>
      have hu' := (n3 u hu).1
      have h5 := (h.1 u hu').1
      have b4 := b2i_in (fiP S u)
      simp only [ph2]
      by_cases h0 : rdP S u = 0
      · rw [if_pos h0]; omega
      · rw [if_neg h0]; omega
  omega
/-- no node's open falls far below nothing -/
theorem PI.low (h : PI n R W up c2 c3 S l) (hn : n ≤ 12) (hR : R ≤ 20) (ha : a < n) (hr : 1 ≤ rdP S a) : -4000 ≤ opP S a := by
  have h1 : su (ph W up S) n ≤ su (fun b => 332 + (if b = a then ph W up S a - 332 else 0)) n := by
    refine su_le (fun b hb => ?_)
    have e := h.node hR hb
    by_cases hba : b = a
    · simp only [hba, if_true]; omega
    · simp only [hba, if_false]
      by_cases h0 : rdP S b = 0
      · rw [if_pos h0] at e; omega
      · rw [if_neg h0] at e
        have := ((h.1 b hb).2.1 (by omega)).1
        omega
  have h2 : su (fun _ => (332 : Int)) n ≤ n * 332 := su_const (fun _ _ => Int.le_refl _)
  have h3 := h.2.2.2
  have h4 := h.node hR ha
  rw [if_neg (by omega)] at h4
  have e := su_add (f := fun _ => (332 : Int)) (g := fun b => if b = a then ph W up S a - 332 else 0) (n := n)
  rw [su_one ha] at e
  rw [e] at h1
  have h5 : (n : Int) * 332 ≤ 12 * 332 := by omega
  omega
theorem PI.drop {i : Nat} (h : PI n R W up c2 c3 S l) : PI n R W up c2 c3 S (l.eraseIdx i) := by
  obtain ⟨p1, p2, p3⟩ := h.take (i := i)
  refine ⟨p1, p2, p3, ?_⟩
  have h1 := (List.eraseIdx_sublist l i).length_le
  have h2 := h.2.2.2
  omega
theorem PI.swap {i : Nat} {y : Lt} (h : PI n R W up c2 c3 S l) (hi : i < l.length) (hy : VL n R y) (h1 : y.1 = 1) : PI n R W up c2 c3 S (l.eraseIdx i ++ [y]) := by
  obtain ⟨p1, p2, p3⟩ := h.take (i := i)
  have g0 : ∀ c, gos [y] c = 0 := fun c => gos_0 (fun x hx e _ => by
    rw [List.mem_singleton.mp hx, h1] at e; exact absurd e (by decide))
  have f0 : ∀ c, frs [y] c = 0 := fun c => frs_0 (fun x hx e _ => by
    rw [List.mem_singleton.mp hx, h1] at e; exact absurd e (by decide))
  refine ⟨p1, fun x hx => ?_, fun c hc => by rw [gos_app, frs_app, g0, f0]; exact p3 c hc, ?_⟩
  · rcases List.mem_append.mp hx with e | e
    · exact p2 x e
    · rw [List.mem_singleton.mp e]; exact ⟨hy, TL_no (by rw [h1]; decide)⟩
  · rw [List.length_append, List.length_eraseIdx_of_lt hi]
    have h2 := h.2.2.2
    simp
    omega
theorem PI.ack {i : Nat} (h : PI n R W up c2 c3 S l) (hi : i < l.length) (ha : a < n) (hr : 1 ≤ rdP S a) : PI n R W up c2 c3 (setOp S a (opP S a - 1)) (l.eraseIdx i) := by
  obtain ⟨p1, p2, p3⟩ := h.take (i := i)
  refine ⟨fun b hb => ?_, fun x hx => ⟨(p2 x hx).1, (p2 x hx).2.mono rfl rfl (fun _ q => q) (fun _ q => q)⟩, p3, ?_⟩
  · obtain ⟨n1, n2, n3, n4, n5⟩ := p1 b hb
    refine ⟨n1, fun q => ?_, n3, n4, n5⟩
    obtain ⟨k1, k2, k3⟩ := n2 q
    have le : opP (setOp S a (opP S a - 1)) b ≤ opP S b := by
      show fup (opP S) a (opP S a - 1) b ≤ opP S b
      by_cases hba : b = a
      · rw [hba, fup_s]; omega
      · rw [fup_n hba]; exact Int.le_refl _
    exact ⟨by omega, fun e => by have := k2 e; omega, k3⟩
  · rw [List.length_eraseIdx_of_lt hi]
    have h4 := h.2.2.2
    have key := su_up (f := ph W up S) (g := ph W up (setOp S a (opP S a - 1))) (n := n) (a := a) (v := -1) (w := 0) (up := up) ha (fun b hb => ?_) (Or.inl rfl)
    · rw [if_pos rfl] at key; omega
    · rw [ph_eq, ph_eq]
      have e2 : ph2 (setOp S a (opP S a - 1)) (up b) = ph2 S (up b) := rfl
      have e1 : ph1 W S b + (if b = a then -1 else 0) ≤ ph1 W (setOp S a (opP S a - 1)) b := by
        unfold ph1
        show (if rdP S b = 0 then (0 : Int) else _) + _ ≤ (if rdP S b = 0 then (0 : Int) else fup (opP S) a (opP S a - 1) b + 12 * ((rdP S b : Int) - 1 + b2i (if W = 0 then sfP S b else fiP S b)) + ((rdP S b : Int) - 1 + b2i (raP S b)) + ((rdP S b : Int) - 1 + b2i (dnP S b)))
        by_cases hba : b = a
        · subst hba
          rw [if_neg (show ¬ rdP S b = 0 by omega), if_neg (show ¬ rdP S b = 0 by omega), if_pos rfl, fup_s]; omega
        · rw [if_neg hba, fup_n hba]; omega
      rw [e2]
      split <;> omega
theorem PI.cs (h : PI n R W up c2 c3 S l) (m2 : ∀ c q, c2 c q → c2' c q) (m3 : ∀ c q, c3 c q → c3' c q) (k2 : ∀ c, c < n → ∀ q, c2' c q → q ≤ rdP S c ∧ (q = rdP S c → raP S c = true)) (k3 : ∀ c, c < n → ∀ q, c3' c q → q ≤ rdP S c ∧ (q = rdP S c → dnP S c = true)) : PI n R W up c2' c3' S l := by
  refine ⟨fun b hb => ?_, h.2⟩
  obtain ⟨n1, n2, n3, n4, n5⟩ := h.1 b hb
  refine ⟨n1, fun q => ?_, n3, k2 b hb, k3 b hb⟩
  obtain ⟨q1, q2, q3, q4, q5, q6, q7⟩ := n2 q
  exact ⟨q1, q2, q3, q4, q5, fun e c hc hu => m2 _ _ (q6 e c hc hu), fun e c hc hu => m3 _ _ (q7 e c hc hu)⟩
end HANDLE
theorem psS_eq {σ τ : zSt} (e35 : τ 35 = σ 35) (e36 : τ 36 = σ 36) (e37 : τ 37 = σ 37) (e38 : τ 38 = σ 38) (e39 : τ 39 = σ 39) (e40 : τ 40 = σ 40) : psS τ = psS σ := by
  unfold psS
  rw [e35, e36, e37, e38, e39, e40]
theorem upd_nz {f : Nat → Int32} {i j : Nat} (h : ¬ f j = 0) : ¬ upd f i 1 j = 0 := by
  unfold upd
  by_cases e : j = i
  · rw [if_pos e]; decide
  · rw [if_neg e]; exact h
theorem upd_zn {f : Nat → Int32} {i j : Nat} (h : ¬ upd f i 1 j = 0) : j = i ∨ ¬ f j = 0 := by
  unfold upd at h
  by_cases e : j = i
  · exact Or.inl e
  · rw [if_neg e] at h; exact Or.inr h
/-- something came -/
theorem MR_cam {σ τ : zSt} {n R W w t f q : Nat} {v : Int32} {l' : List Lt} (hS : MS σ n R W) (hN : MN σ n) (hP : PI n R W (upS σ) (c2S σ) (c3S σ) (psS σ) l') (ht : t < n) (hf : f < n) (hq : q < 22) (hF : MF [45, 46, 51] [27, 29, 30] σ τ) (e45 : τ 45 = upd (σ 45) (pl w t f q) 1) (e46 : (w = 0 ∧ τ 46 = upd (σ 46) (pl 0 t f q) v ∧ NB q v) ∨ (w ≠ 0 ∧ τ 46 = σ 46))
    (h2 : w = 2 → upS σ f = some t → q ≤ rdP (psS σ) f ∧ (q = rdP (psS σ) f → raP (psS σ) f = true)) (h3 : w = 3 → upS σ f = some t → q ≤ rdP (psS σ) f ∧ (q = rdP (psS σ) f → dnP (psS σ) f = true)) (hM : ML τ l') : psS τ = psS σ ∧ MR τ n R W l' := by
  have hn12 : n ≤ 12 := hS.2.2.1
  have ep : psS τ = psS σ := psS_eq (hF.at (by decide)) (hF.at (by decide)) (hF.at (by decide)) (hF.at (by decide)) (hF.at (by decide)) (hF.at (by decide))
  have e41 : τ 41 = σ 41 := hF.at (by decide)
  have eup : upS τ = upS σ := upS_eq e41
  refine ⟨ep, hS.of (hF.2 0 (by decide)) (hF.2 8 (by decide)) (hF.2 6 (by decide)) e41 (hF.at (by decide)) (hF.at (by decide)), ⟨fun b hb => ?_, fun x y k hx hy hk hne => ?_⟩, hM, ?_⟩
  · rw [ep, hF.at (by decide)]; exact hN.1 b hb
  · rw [e45] at hne
    rcases upd_zn hne with e | e
    · obtain ⟨i1, i2, i3, i4⟩ := pl_inj (by omega) (by omega) hk (by omega) (by omega) hq e
      rcases e46 with ⟨g1, g2, g3⟩ | ⟨g1, _⟩
      · rw [g2, i2, i3, i4]
        unfold upd
        rw [if_pos rfl]; exact g3
      · exact absurd i1.symm g1
    · rcases e46 with ⟨g1, g2, g3⟩ | ⟨g1, g2⟩
      · rw [g2]
        unfold upd
        by_cases ej : pl 0 x y k = pl 0 t f q
        · obtain ⟨_, i2, i3, i4⟩ := pl_inj (by omega) (by omega) hk (by omega) (by omega) hq ej
          rw [if_pos ej, i4]; exact g3
        · rw [if_neg ej]; exact hN.2 x y k hx hy hk e
      · rw [g2]; exact hN.2 x y k hx hy hk e
  · rw [eup, ep]
    refine hP.cs (fun c k ⟨a1, u, a2, a3⟩ => ⟨a1, u, by rw [eup]; exact a2, by rw [e45]; exact upd_nz a3⟩) (fun c k ⟨a1, u, a2, a3⟩ => ⟨a1, u, by rw [eup]; exact a2, by rw [e45]; exact upd_nz a3⟩) (fun c hc k hk => ?_) (fun c hc k hk => ?_)
    · obtain ⟨a1, u, a2, a3⟩ := hk
      rw [eup] at a2
      have hu := (upS_of hS.2.2.2.2.2.2.2.2.1 hn12 hc a2).1
      rw [e45] at a3
      rcases upd_zn a3 with e | e
      · obtain ⟨i1, i2, i3, i4⟩ := pl_inj (by omega) (by omega) a1 (by omega) (by omega) hq e
        subst i2 i3 i4
        exact h2 i1.symm a2
      · exact (hP.1 c hc).2.2.2.1 k ⟨a1, u, a2, e⟩
    · obtain ⟨a1, u, a2, a3⟩ := hk
      rw [eup] at a2
      have hu := (upS_of hS.2.2.2.2.2.2.2.2.1 hn12 hc a2).1
      rw [e45] at a3
      rcases upd_zn a3 with e | e
      · obtain ⟨i1, i2, i3, i4⟩ := pl_inj (by omega) (by omega) a1 (by omega) (by omega) hq e
        subst i2 i3 i4
        exact h3 i1.symm a2
      · exact (hP.1 c hc).2.2.2.2 k ⟨a1, u, a2, e⟩
theorem psS_op {σ τ : zSt} {a : Nat} {v : Int32} (e35 : τ 35 = σ 35) (e36 : τ 36 = upd (σ 36) a v) (e37 : τ 37 = σ 37) (e38 : τ 38 = σ 38) (e39 : τ 39 = σ 39) (e40 : τ 40 = σ 40) : psS τ = setOp (psS σ) a v.toInt := by
  unfold psS
  rw [e35, e36, e37, e38, e39, e40]
  refine Prod.ext rfl (Prod.ext ?_ rfl)
  funext b
  show (upd (σ 36) a v b).toInt = fup (fun a => (σ 36 a).toInt) a v.toInt b
  unfold upd fup
  by_cases h : b = a
  · rw [if_pos h, if_pos h]
  · rw [if_neg h, if_neg h]
theorem i32_dec {x : Int32} (h : -100000 ≤ x.toInt ∧ x.toInt ≤ 100000) : (x - 1).toInt = x.toInt - 1 := by
  have e : x - 1 = x + (-1) := by
    have h1 : (-1 : Int32) = -(1 : Int32) := rfl
    rw [h1, Int32.sub_eq_add_neg]
  have h2 : (-1 : Int32).toInt = -1 := by decide
  rw [e, i32_add h (by rw [h2]; omega), h2]
  omega
theorem i32_of {x : Int32} {k : Nat} (hk : k < 2 ^ 31) (h : x.toInt = (k : Int)) : x = nI k := Int32.toInt_inj.mp (by rw [h, nI_toInt hk])
theorem kne_1_0 : ¬ (1 : Int32) = 0 := by decide
abbrev FHan : List Nat := [35, 36, 37, 38, 39, 40, 45, 46, 47, 48, 49, 51, 54, 55]
/-- every node has begun; without trees none has an upper -/
def MG (σ : zSt) (n W : Nat) : Prop := (∀ a, a < n → 1 ≤ rdP (psS σ) a) ∧ (W = 0 → ∀ c, c < n → upS σ c = none)
-- the block at 224 with the locals that are there at each way to it
theorem b_Mo_handle_224x {G : zG} {X : zX} {post : Option Value → zSt → Prop} (E : zCtx G M_Mo_handle (zKm G 4 X post) X) (v2 : Int32) (v3 : Int32) (v4 : Int32) (v5 : Int32) (σ : zSt)
    (h : ((¬ v2 = (2 : Int32) → ((¬ v2 = (3 : Int32) → (vp_in ((((3 : Int32) * 12 + v4) * 12 + v3) * 22 + v5) 12672 ∧ ∀ σ1 : zSt, σ1 = zup σ 45 ((((3 : Int32) * 12 + v4) * 12 + v3) * 22 + v5).toNatClampNeg (1 : Int32) → (∃ P : zSt → Prop, zV G 3 M_Mo_goOn [zf G 32, .int v4] σ1 P ∧ ∀ σ2 : zSt, P σ2 → post (some (.int v2)) σ2))) ∧ (v2 = (3 : Int32) → (vp_in ((((2 : Int32) * 12 + v4) * 12 + v3) * 22 + v5) 12672 ∧ ∀ σ3 : zSt, σ3 = zup σ 45 ((((2 : Int32) * 12 + v4) * 12 + v3) * 22 + v5).toNatClampNeg (1 : Int32) → (∃ P : zSt → Prop, zV G 3 M_Mo_goOn [zf G 32, .int v4] σ3 P ∧ ∀ σ4 : zSt, P σ4 → post (some (.int v2)) σ4))))) ∧ (v2 = (2 : Int32) → (vp_in ((((1 : Int32) * 12 + v4) * 12 + v3) * 22 + v5) 12672 ∧ ∀ σ5 : zSt, σ5 = zup σ 45 ((((1 : Int32) * 12 + v4) * 12 + v3) * 22 + v5).toNatClampNeg (1 : Int32) → (∃ P : zSt → Prop, zV G 3 M_Mo_goOn [zf G 32, .int v4] σ5 P ∧ ∀ σ6 : zSt, P σ6 → post (some (.int v2)) σ6))))) :
    zZ G M_Mo_handle 4 X post 224 [(0, zf G 32), (2, .int v2), (3, .int v3), (4, .int v4), (5, .int v5)] [] σ := by
  refine z_aload_n E 0 d_Mo_handle_224 rfl rfl ?_
  refine z_getR E f_Mo_47 d_Mo_handle_225 ?_
  refine z_aload_n E 0 d_Mo_handle_228 rfl rfl ?_
  refine z_iload_n E 1 d_Mo_handle_229 rfl rfl ?_
  refine z_iconst E (v := 2) d_Mo_handle_230 (by decide) ?_
  refine z_icmp_ne E d_Mo_handle_231 (tgt := 238) (by decide) ⟨fun q => ?_, fun q => ?_⟩
  · replace h := h.1 q
    refine z_iload_n E 1 d_Mo_handle_238 rfl rfl ?_
    refine z_iconst E (v := 3) d_Mo_handle_239 (by decide) ?_
    refine z_icmp_ne E d_Mo_handle_240 (tgt := 247) (by decide) ⟨fun q => ?_, fun q => ?_⟩
    · replace h := h.1 q
      refine z_iconst E (v := 3) d_Mo_handle_247 (by decide) ?_
      refine z_iload E 3 d_Mo_handle_248 rfl ?_
      refine z_iload_n E 2 d_Mo_handle_250 rfl rfl ?_
      refine z_iload E 4 d_Mo_handle_251 rfl ?_
      refine z_callVIp [.int (3 : Int32), .int v4, .int v3, .int v5] [zf G 45] E (p_Mo_place G σ (3 : Int32) v4 v3 v5) c_Mo_162 r_Mo_place rfl zrm rfl (Nat.le_of_ble_eq_true rfl) d_Mo_handle_253 ?_
      refine z_iconst E (v := 1) d_Mo_handle_256 (by decide) ?_
      obtain ⟨h0, h⟩ := h
      refine z_zast E rfl d_Mo_handle_257 (y := (1 : Int32)) rfl ⟨h0, fun σ1 e => ?_⟩
      replace h := h σ1 e
      refine z_aload_n E 0 d_Mo_handle_258 rfl rfl ?_
      refine z_iload E 3 d_Mo_handle_259 rfl ?_
      obtain ⟨P, hM, h⟩ := h
      refine z_callVV [.int v4] [] E hM c_Mo_190 r_Mo_goOn rfl zrm rfl (Nat.le_of_ble_eq_true rfl) d_Mo_handle_261 (fun σ2 hp => ?_)
      replace h := h σ2 hp
      refine z_iload_n E 1 d_Mo_handle_264 rfl rfl ?_
      exact z_ireturn E rfl d_Mo_handle_265 h
    · replace h := h.2 q
      refine z_iconst E (v := 2) d_Mo_handle_243 (by decide) ?_
      refine z_goto E d_Mo_handle_244 (tgt := 248) (by decide) ?_
      refine z_iload E 3 d_Mo_handle_248 rfl ?_
      refine z_iload_n E 2 d_Mo_handle_250 rfl rfl ?_
      refine z_iload E 4 d_Mo_handle_251 rfl ?_
      refine z_callVIp [.int (2 : Int32), .int v4, .int v3, .int v5] [zf G 45] E (p_Mo_place G σ (2 : Int32) v4 v3 v5) c_Mo_162 r_Mo_place rfl zrm rfl (Nat.le_of_ble_eq_true rfl) d_Mo_handle_253 ?_
      refine z_iconst E (v := 1) d_Mo_handle_256 (by decide) ?_
      obtain ⟨h0, h⟩ := h
      refine z_zast E rfl d_Mo_handle_257 (y := (1 : Int32)) rfl ⟨h0, fun σ3 e => ?_⟩
      replace h := h σ3 e
      refine z_aload_n E 0 d_Mo_handle_258 rfl rfl ?_
      refine z_iload E 3 d_Mo_handle_259 rfl ?_
      obtain ⟨P, hM, h⟩ := h
      refine z_callVV [.int v4] [] E hM c_Mo_190 r_Mo_goOn rfl zrm rfl (Nat.le_of_ble_eq_true rfl) d_Mo_handle_261 (fun σ4 hp => ?_)
      replace h := h σ4 hp
      refine z_iload_n E 1 d_Mo_handle_264 rfl rfl ?_
      exact z_ireturn E rfl d_Mo_handle_265 h
  · replace h := h.2 q
    refine z_iconst E (v := 1) d_Mo_handle_234 (by decide) ?_
    refine z_goto E d_Mo_handle_235 (tgt := 248) (by decide) ?_
    refine z_iload E 3 d_Mo_handle_248 rfl ?_
    refine z_iload_n E 2 d_Mo_handle_250 rfl rfl ?_
    refine z_iload E 4 d_Mo_handle_251 rfl ?_
    refine z_callVIp [.int (1 : Int32), .int v4, .int v3, .int v5] [zf G 45] E (p_Mo_place G σ (1 : Int32) v4 v3 v5) c_Mo_162 r_Mo_place rfl zrm rfl (Nat.le_of_ble_eq_true rfl) d_Mo_handle_253 ?_
    refine z_iconst E (v := 1) d_Mo_handle_256 (by decide) ?_
    obtain ⟨h0, h⟩ := h
    refine z_zast E rfl d_Mo_handle_257 (y := (1 : Int32)) rfl ⟨h0, fun σ5 e => ?_⟩
    replace h := h σ5 e
    refine z_aload_n E 0 d_Mo_handle_258 rfl rfl ?_
    refine z_iload E 3 d_Mo_handle_259 rfl ?_
    obtain ⟨P, hM, h⟩ := h
    refine z_callVV [.int v4] [] E hM c_Mo_190 r_Mo_goOn rfl zrm rfl (Nat.le_of_ble_eq_true rfl) d_Mo_handle_261 (fun σ6 hp => ?_)
    replace h := h σ6 hp
    refine z_iload_n E 1 d_Mo_handle_264 rfl rfl ?_
    exact z_ireturn E rfl d_Mo_handle_265 h

set_option maxRecDepth 20000 in
set_option maxHeartbeats 4000000 in
theorem s_Mo_handle (G : zG) (σ : zSt) (n R W i : Nat) (l : List Lt) (h : MR σ n R W l) (hg : MG σ n W) (hi : i < l.length) : zI G 4 M_Mo_handle [zf G 32, .int (nI i)] σ (fun _ τ => MF FHan [27, 29, 30] σ τ ∧ MG τ n W ∧ ∃ l', MR τ n R W l') := by
  refine zSpec.of (by decide) (Nat.le_of_ble_eq_true rfl) rfl (fun X E => ?_)
  obtain ⟨hS, hN, hL, hP⟩ := h
  obtain ⟨hg1, hg2⟩ := hg
  have hn12 : n ≤ 12 := hS.2.2.1
  have hR20 : R ≤ 20 := hS.2.2.2.2.2.1
  have hlen := hP.len hn12 hR20
  obtain ⟨L1, L2, L3⟩ := hL
  have hx : l[i]? = some (mlt σ i) := L3 i hi
  have hm : mlt σ i ∈ l := List.mem_of_getElem? hx
  obtain ⟨⟨⟨k, hk, ek⟩, ⟨f, hf, ef⟩, ⟨t, ht, et⟩, ⟨q, hq1, hqR, eq, hnb⟩⟩, t3, t6, t4, t5⟩ := hP.2.1 _ hm
  have ek' : σ 51 (5 * i) = nI k := ek
  have ef' : σ 51 (5 * i + 1) = nI f := ef
  have et' : σ 51 (5 * i + 2) = nI t := et
  have eq' : σ 51 (5 * i + 3) = nI q := eq
  have it : vp_in (nI t) 12 := vp_in_nI (by omega) (by decide)
  have ct : (nI t).toNatClampNeg = t := nI_clamp (by omega)
  have hgt := gos_erase hx
  have hft := frs_erase hx
  have e5 : (5 : Int32) * nI i = nI (5 * i) := by rw [show (5 : Int32) = nI 5 from rfl, pk_mul]
  have q1 : ((5 : Int32) * nI i) + (1 : Int32) = nI (5 * i + 1) := by rw [e5, show (1 : Int32) = nI 1 from rfl, nI_add]
  have q2 : ((5 : Int32) * nI i) + (2 : Int32) = nI (5 * i + 2) := by rw [e5, show (2 : Int32) = nI 2 from rfl, nI_add]
  have q3 : ((5 : Int32) * nI i) + (3 : Int32) = nI (5 * i + 3) := by rw [e5, show (3 : Int32) = nI 3 from rfl, nI_add]
  have q4 : ((5 : Int32) * nI i) + (4 : Int32) = nI (5 * i + 4) := by rw [e5, show (4 : Int32) = nI 4 from rfl, nI_add]
  refine b_Mo_handle_0 E (nI i) σ ⟨by rw [e5]; exact vp_in_nI (by omega) (by decide), by rw [q1]; exact vp_in_nI (by omega) (by decide), by rw [q2]; exact vp_in_nI (by omega) (by decide), by rw [q3]; exact vp_in_nI (by omega) (by decide), by rw [q4]; exact vp_in_nI (by omega) (by decide), ?_⟩
  rw [q1, q2, q3, q4, e5, nI_clamp (show 5 * i < 2 ^ 31 by omega), nI_clamp (show 5 * i + 1 < 2 ^ 31 by omega), nI_clamp (show 5 * i + 2 < 2 ^ 31 by omega), nI_clamp (show 5 * i + 3 < 2 ^ 31 by omega), nI_clamp (show 5 * i + 4 < 2 ^ 31 by omega), ek', ef', et', eq']
  -- behind the act, the node goes on
  have fin : ∀ (υ : zSt) (l2 : List Lt), MF FHan [27, 29, 30] σ υ → MR υ n R W l2 → (∀ b, b < n → 1 ≤ rdP (psS υ) b) → ∃ P : zSt → Prop, zV G 3 M_Mo_goOn [zf G 32, .int (nI t)] υ P ∧ ∀ σ6 : zSt, P σ6 → ∃ x : Int32, some (Value.int (nI k)) = some (Value.int x) ∧ MF FHan [27, 29, 30] σ σ6 ∧ MG σ6 n W ∧ ∃ l', MR σ6 n R W l' := by
    intro υ l2 g1 g2 g3
    have eup : upS υ = upS σ := upS_eq (g1.at (by decide))
    refine ⟨_, s_Mo_goOn G υ n R W t l2 g2 ht (g3 t ht) (by rw [eup]; exact hg2), fun σ6 ⟨m1, l3, m2⟩ => ⟨_, rfl, g1.tr (m1.1.mono (by decide) (by decide)), ⟨fun b hb => ?_, ?_⟩, l3, m2⟩⟩
    · by_cases hbt : b = t
      · rw [hbt]; exact m1.2.2.2
      · rw [m1.2.2.1 b hbt]; exact g3 b hb
    · rw [upS_eq (m1.1.at (c := 41) (by decide)), eup]; exact hg2
  -- the letter is taken out
  refine z_for (5 * (l.length - 1)) (fun j τ => zZ G M_Mo_handle 4 X (fun r τ => ∃ x : Int32, r = some (.int x) ∧ MF FHan [27, 29, 30] σ τ ∧ MG τ n W ∧ ∃ l', MR τ n R W l') 61 [(0, zf G 32), (2, .int (nI k)), (3, .int (nI f)), (4, .int (nI t)), (5, .int (nI q)), (6, .int (σ 51 (5 * i + 4))), (7, .int (nI j))] [] τ) (fun j τ => 5 * i ≤ j ∧ zFr [51] σ τ ∧ ∀ m, τ 51 m = if 5 * i ≤ m ∧ m < j then σ 51 (m + 5) else σ 51 m) ?_ ?_ (5 * i) σ (by omega) ⟨Nat.le_refl _, zFr.rf, fun m => by rw [if_neg (by omega)]⟩
  · intro j τ hj ⟨g0, g1, g2⟩ ih
    have e27 : τ 32 27 = nI l.length := by rw [g1 32 (by decide)]; exact L1
    have ej : nI j + (5 : Int32) = nI (j + 5) := by rw [show (5 : Int32) = nI 5 from rfl, nI_add]
    refine b_Mo_handle_61 E _ _ _ _ _ (nI j) τ ⟨fun q => absurd q ?_, fun _ => ⟨by rw [ej]; exact vp_in_nI (by omega) (by decide), vp_in_nI (by omega) (by decide), fun σ11 e11 => ?_⟩⟩
    · rw [e27, ej, show (5 : Int32) = nI 5 from rfl, pk_mul]
      exact nI_ge (by omega) (by omega)
    · rw [nI_1]
      rw [ej, nI_clamp (by omega), nI_clamp (by omega)] at e11
      refine ih σ11 ⟨by omega, by rw [e11]; exact g1.up (by decide), fun m => ?_⟩
      rw [e11, zup_self]
      unfold upd
      by_cases hmj : m = j
      · subst hmj
        rw [if_pos rfl, g2 (m + 5), if_neg (by omega), if_pos ⟨g0, by omega⟩]
      · rw [if_neg hmj, g2 m]
        by_cases c1 : 5 * i ≤ m ∧ m < j
        · rw [if_pos c1, if_pos ⟨c1.1, by omega⟩]
        · rw [if_neg c1, if_neg (by omega)]
  · intro τ ⟨_, g1, g2⟩
    have e27 : τ 32 27 = nI l.length := by rw [g1 32 (by decide)]; exact L1
    have ej : nI (5 * (l.length - 1)) + (5 : Int32) = nI (5 * l.length) := by rw [show (5 : Int32) = nI 5 from rfl, nI_add]; congr 1; omega
    refine b_Mo_handle_61 E _ _ _ _ _ (nI (5 * (l.length - 1))) τ ⟨fun _ σ1 e1 => ?_, fun qq => absurd (by rw [e27, ej, show (5 : Int32) = nI 5 from rfl, pk_mul]; exact nI_le (Nat.le_refl _) (by omega)) qq⟩
    rw [e27, show (1 : Int32) = nI 1 from rfl, pk_sub (by omega)] at e1
    have hF1 : MF [51] [27, 29, 30] σ σ1 := by rw [e1]; exact (MF.of g1 (by decide)).fld (by decide)
    have p51 : ∀ m, σ1 51 m = if 5 * i ≤ m ∧ m < 5 * (l.length - 1) then σ 51 (m + 5) else σ 51 m := fun m => by rw [e1, zup_ne (by decide)]; exact g2 m
    have hle : (l.eraseIdx i).length = l.length - 1 := List.length_eraseIdx_of_lt hi
    have LE : ML σ1 (l.eraseIdx i) := by
      refine ⟨by rw [e1, zup_self, hle]; simp [upd], by omega, fun m hm => ?_⟩
      rw [hle] at hm
      rw [List.getElem?_eraseIdx]
      by_cases hmi : m < i
      · rw [if_pos hmi, L3 m (by omega)]
        simp only [mlt, p51]
        rw [if_neg (by omega), if_neg (by omega), if_neg (by omega), if_neg (by omega), if_neg (by omega)]
      · rw [if_neg hmi, L3 (m + 1) (by omega)]
        simp only [mlt, p51]
        rw [if_pos (by omega), if_pos (by omega), if_pos (by omega), if_pos (by omega), if_pos (by omega)]
        rfl
    have ep1 : psS σ1 = psS σ := psS_eq (hF1.at (by decide)) (hF1.at (by decide)) (hF1.at (by decide)) (hF1.at (by decide)) (hF1.at (by decide)) (hF1.at (by decide))
    have e41 : σ1 41 = σ 41 := hF1.at (by decide)
    have e45 : σ1 45 = σ 45 := hF1.at (by decide)
    have eup : upS σ1 = upS σ := upS_eq e41
    have hS1 : MS σ1 n R W := hS.of (hF1.2 0 (by decide)) (hF1.2 8 (by decide)) (hF1.2 6 (by decide)) e41 (hF1.at (by decide)) (hF1.at (by decide))
    have hN1 : MN σ1 n := ⟨fun b hb => by rw [ep1, hF1.at (by decide)]; exact hN.1 b hb, fun x y k hx hy hk hne => by rw [e45] at hne; rw [hF1.at (by decide)]; exact hN.2 x y k hx hy hk hne⟩
    have P1 : PI n R W (upS σ1) (c2S σ1) (c3S σ1) (psS σ1) l := by rw [eup, c2S_eq e41 e45, c3S_eq e41 e45, ep1]; exact hP
    rw [← ep1] at hg1 t3 t6 t4 t5
    rw [← eup] at t3 t6 t4 t5
    have fmo : ∀ {υ : zSt}, MF FHan [27, 29, 30] σ1 υ → MF FHan [27, 29, 30] σ υ := fun h => (hF1.mono (by decide) (by decide)).tr h
    have hkt : (nI k).toInt = (k : Int) := nI_toInt (by omega)
    -- something came
    have cam : ∀ (w : Nat) (σ2 : zSt), w < 4 → w ≠ 0 → σ2 = zup σ1 45 (pl w t f q) 1 → (w = 2 → k = 3) → (w = 3 → k = 6) → ∃ P : zSt → Prop, zV G 3 M_Mo_goOn [zf G 32, .int (nI t)] σ2 P ∧ ∀ σ6 : zSt, P σ6 → ∃ x : Int32, some (Value.int (nI k)) = some (Value.int x) ∧ MF FHan [27, 29, 30] σ σ6 ∧ MG σ6 n W ∧ ∃ l', MR σ6 n R W l' := by
      intro w σ2 hw hw0 e2 hw2 hw3
      have hF2 : MF [45, 46, 51] [27, 29, 30] σ1 σ2 := by rw [e2]; exact MF.rf.up (by decide) (by decide)
      have key := MR_cam (w := w) (t := t) (f := f) (q := q) (v := 0) hS1 hN1 (P1.drop (i := i)) ht hf (by omega) hF2 (by rw [e2, zup_self]) (Or.inr ⟨hw0, by rw [e2, zup_ne (by decide)]⟩) (fun e _ => ?_) (fun e _ => ?_) (LE.of (by rw [e2, zup_ne (by decide)]) (by rw [e2, zup_ne (by decide)]))
      · exact fin σ2 _ (fmo (hF2.mono (by decide) (by decide))) key.2 (by rw [key.1]; exact hg1)
      · obtain ⟨c, u, q', z1, z2, z3, z4, z5, z6, z7, z8⟩ := t3 (by rw [ek, hw2 e]; rfl)
        have zc : f = c := (nI_eq (by omega) (by omega)).mp (ef.symm.trans z3)
        have h20 := (P1.1 c z1).1
        have zq : q = q' := (nI_eq (by omega) (by omega)).mp (eq.symm.trans z6)
        rw [zc, zq]; exact ⟨z7, z8⟩
      · obtain ⟨c, u, q', z1, z2, z3, z4, z5, z6, z7, z8⟩ := t6 (by rw [ek, hw3 e]; rfl)
        have zc : f = c := (nI_eq (by omega) (by omega)).mp (ef.symm.trans z3)
        have h20 := (P1.1 c z1).1
        have zq : q = q' := (nI_eq (by omega) (by omega)).mp (eq.symm.trans z6)
        rw [zc, zq]; exact ⟨z7, z8⟩
    have plw : ∀ w, w < 4 → ((nI w * 12 + nI t) * 12 + nI f) * 22 + nI q = nI (pl w t f q) ∧ vp_in (nI (pl w t f q)) 12672 ∧ (nI (pl w t f q)).toNatClampNeg = pl w t f q := fun w hw => by
      have := pl_lt (w := w) (a := t) (b := f) (r := q) hw (by omega) (by omega) (by omega)
      exact ⟨pl_nI, vp_in_nI this (by decide), nI_clamp (by omega)⟩
    have s224 : k = 2 ∨ k = 3 ∨ k = 6 → zZ G M_Mo_handle 4 X (fun r τ => ∃ x : Int32, r = some (.int x) ∧ MF FHan [27, 29, 30] σ τ ∧ MG τ n W ∧ ∃ l', MR τ n R W l') 224 [(0, zf G 32), (2, .int (nI k)), (3, .int (nI f)), (4, .int (nI t)), (5, .int (nI q))] [] σ1 := by
      intro hkk
      have w1 := plw 1 (by omega)
      have w2 := plw 2 (by omega)
      have w3 := plw 3 (by omega)
      rw [show nI 1 = (1 : Int32) from rfl] at w1
      rw [show nI 2 = (2 : Int32) from rfl] at w2
      rw [show nI 3 = (3 : Int32) from rfl] at w3
      refine b_Mo_handle_224x E (nI k) (nI f) (nI t) (nI q) σ1 ⟨fun h2 => ⟨fun h3 => ⟨by rw [w3.1]; exact w3.2.1, fun σ2 e2 => ?_⟩, fun h3 => ⟨by rw [w2.1]; exact w2.2.1, fun σ2 e2 => ?_⟩⟩, fun h2 => ⟨by rw [w1.1]; exact w1.2.1, fun σ2 e2 => ?_⟩⟩
      · rw [w3.1, w3.2.2] at e2
        refine cam 3 σ2 (by omega) (by omega) e2 (fun e => by omega) (fun _ => ?_)
        have a1 : k ≠ 2 := fun e => h2 (by rw [e]; rfl)
        have a2 : k ≠ 3 := fun e => h3 (by rw [e]; rfl)
        omega
      · rw [w2.1, w2.2.2] at e2
        exact cam 2 σ2 (by omega) (by omega) e2 (fun _ => (nI_eq (b := 3) (by omega) (by decide)).mp h3) (fun e => by omega)
      · rw [w1.1, w1.2.2] at e2
        exact cam 1 σ2 (by omega) (by omega) e2 (fun e => by omega) (fun e => by omega)
    refine ⟨fun hk0 => ?_, fun hk1 => ⟨it, it, fun σ5 e5 => ?_⟩, fun hk2 => s224 (by omega), fun hk3 => s224 (by omega), fun hk4 => ?_, fun hk5 => ?_, fun hk6 => s224 (by omega)⟩
    · -- NOTE
      have w0 := plw 0 (by omega)
      rw [show nI 0 = (0 : Int32) from rfl] at w0
      have k0 : k = 0 := by omega
      refine ⟨by rw [w0.1]; exact w0.2.1, fun σ2 e2 => ⟨by rw [w0.1]; exact vp_in_nI (by unfold pl; omega) (by decide), fun σ3 e3 => ?_⟩⟩
      rw [w0.1, w0.2.2] at e2 e3
      refine ⟨_, s_Mo_send G σ3 (l.eraseIdx i) 1 (nI t) (nI f) (nI q) 0 (LE.of (by rw [e3, zup_ne (by decide), e2, zup_ne (by decide)]) (by rw [e3, zup_ne (by decide), e2, zup_ne (by decide)])) (by omega), fun σ4 ⟨m1, m2⟩ => ?_⟩
      have hF4 : MF [45, 46, 51] [27, 29, 30] σ1 σ4 := by
        refine MF.tr (τ := σ3) ?_ (m1.mono (by decide) (by decide))
        rw [e3, e2]; exact (MF.rf.up (by decide) (by decide)).up (by decide) (by decide)
      have key := MR_cam (w := 0) (t := t) (f := f) (q := q) (v := σ 51 (5 * i + 4)) hS1 hN1 (P1.swap (i := i) (y := (1, nI t, nI f, nI q, 0)) hi ⟨⟨1, by omega, rfl⟩, ⟨t, ht, rfl⟩, ⟨f, hf, rfl⟩, ⟨q, hq1, hqR, rfl, fun e => absurd e kne_1_0⟩⟩ rfl) ht hf (by omega) hF4 (by rw [m1.at (by decide), e3, zup_ne (by decide), e2, zup_self]) (Or.inl ⟨rfl, by rw [m1.at (by decide), e3, zup_self, e2, zup_ne (by decide)], hnb (by rw [ek, k0]; rfl)⟩) (fun e => absurd e (by decide)) (fun e => absurd e (by decide)) m2
      exact ⟨_, rfl, fmo (hF4.mono (by decide) (by decide)), ⟨by rw [key.1]; exact hg1, by rw [upS_eq (hF4.at (c := 41) (by decide)), eup]; exact hg2⟩, _, key.2⟩
    · -- ACK
      rw [ct] at e5
      have h5 : ∀ c, c ≠ 36 → σ5 c = σ1 c := fun c hc => by rw [e5, zup_ne hc]
      have hlo := P1.low hn12 hR20 ht (hg1 t ht)
      have hhi := ((P1.1 t ht).2.1 (hg1 t ht)).1
      have eop : opP (psS σ1) t = (σ1 36 t).toInt := rfl
      have ep5 : psS σ5 = setOp (psS σ1) t (opP (psS σ1) t - 1) := by
        rw [eop, ← i32_dec (x := σ1 36 t) (by omega)]
        exact psS_op (h5 35 (by decide)) (by rw [e5, zup_self]) (h5 37 (by decide)) (h5 38 (by decide)) (h5 39 (by decide)) (h5 40 (by decide))
      have hF5 : MF [36, 51] [27, 29, 30] σ1 σ5 := by rw [e5]; exact MF.rf.up (by decide) (by decide)
      exact fin σ5 _ (fmo (hF5.mono (by decide) (by decide))) (MR_mk hS1 hN1 hF5 (by decide) (by decide) ep5 rfl (LE.of (by rw [h5 32 (by decide)]) (h5 51 (by decide))) (P1.ack hi ht (hg1 t ht))) (by rw [ep5]; exact hg1)
    · -- GO
      have k4 : k = 4 := by omega
      obtain ⟨c, u, z1, z2, z3, z4, z5, z6, z7, z8, z9⟩ := t4 (by rw [ek, k4]; rfl)
      have zc : t = c := (nI_eq (by omega) (by omega)).mp (et.symm.trans z3)
      subst zc
      have h20 := (P1.1 t ht).1
      have hu20 := (P1.1 u z2).1
      have zq : q = rdP (psS σ1) t + 1 := (nI_eq (by omega) (by omega)).mp (eq.symm.trans z5)
      have hNL := (P1.1 t ht).2.1 z7
      have hB : BC σ1 n R W t (l.eraseIdx i) := by
        refine ⟨by omega, fun _ => hNL.2.1 (hNL.2.2.1 z8), fun _ c hc hu => ?_, fun v hv => ?_, ?_, ?_, fun e => by omega⟩
        · obtain ⟨y1, y2⟩ := P1.lower ht z7 z8 hc hu
          refine ⟨y1, y2, fun eW => ?_⟩
          have y3 := hNL.2.2.2.2.2.2 (z9 eW) c hc hu
          exact ((P1.1 c hc).2.2.2.2 _ y3).2 y1.symm
        · have : v = u := Option.some.inj (hv.symm.trans z4)
          rw [this]; exact Or.inl z6
        · have a1 := hgt t
          rw [if_pos ⟨by rw [ek, k4]; rfl, et⟩] at a1
          have a2 := (P1.2.2.1 t ht).1
          omega
        · refine frs_0 (fun x hx e1 e2 => ?_)
          obtain ⟨y0, c', u', y1, y2, y3, y4, y5, y6, y7, y8⟩ := (P1.2.1 x (List.mem_of_mem_eraseIdx hx)).2.2.2.2 e1
          have yc : c' = t := (nI_eq (by omega) (by omega)).mp (y3.symm.trans e2)
          subst yc
          have := hNL.2.2.2.1 (z9 y0)
          rw [y7] at this; cases this
      refine ⟨_, s_Mo_beginRound G σ1 n R W t q (l.eraseIdx i) hS1 hN1 LE (Or.inl P1.drop) ht hB zq.symm, fun σ7 ⟨m1, _, ⟨mm, m3⟩, l3, m4⟩ => ?_⟩
      refine fin σ7 l3 (fmo (m1.mono (by decide) (by decide))) m4 (fun b hb => ?_)
      rw [m3]
      show 1 ≤ fup (rdP (psS σ1)) t (rdP (psS σ1) t + 1) b
      by_cases hbt : b = t
      · rw [hbt, fup_s]; omega
      · rw [fup_n hbt]; exact hg1 b hb
    · -- FIRM
      have k5 : k = 5 := by omega
      obtain ⟨z0, c, u, z1, z2, z3, z4, z5, z6, z7, z8⟩ := t5 (by rw [ek, k5]; rfl)
      have zc : t = c := (nI_eq (by omega) (by omega)).mp (et.symm.trans z3)
      subst zc
      have hfr : frs (l.eraseIdx i) t = 0 := by
        have a1 := hft t
        rw [if_pos ⟨by rw [ek, k5]; rfl, et⟩] at a1
        have a2 := (P1.2.2.1 t ht).2
        omega
      refine ⟨_, s_Mo_becomeFirm G σ1 n R W t (l.eraseIdx i) ⟨hS1, hN1, LE, P1.drop⟩ z0 ht z5 z6 z7 hfr (fun v hv => ?_), fun σ9 ⟨m1, m2, l3, m3⟩ => ?_⟩
      · have : v = u := Option.some.inj (hv.symm.trans z4)
        rw [this]; exact z8
      · exact fin σ9 l3 (fmo (m1.mono (by decide) (by decide))) m3 (by rw [m2]; exact hg1)
end
