-- The class's pool has room: at most 528 letters wait; pure
def suN (f : Nat → Nat) : Nat → Nat
  | 0 => 0
  | k + 1 => suN f k + f k
theorem suN_le {f : Nat → Nat} {B : Nat} : ∀ {m : Nat}, (∀ j, j < m → f j ≤ B) → suN f m ≤ m * B := by
  intro m
  induction m with
  | zero => intro _; simp [suN]
  | succ m ih =>
    intro h
    have h1 := ih (fun j hj => h j (by omega))
    have h2 := h m (by omega)
    show suN f m + f m ≤ _
    rw [Nat.succ_mul]; omega
theorem suN_mono {f g : Nat → Nat} : ∀ {m : Nat}, (∀ j, j < m → f j ≤ g j) → suN f m ≤ suN g m := by
  intro m
  induction m with
  | zero => intro _; exact Nat.le_refl _
  | succ m ih =>
    intro h
    have h1 := ih (fun j hj => h j (by omega))
    have h2 := h m (by omega)
    show suN f m + f m ≤ suN g m + g m
    omega
theorem suN_ge {f : Nat → Nat} : ∀ {m j : Nat}, j < m → f j ≤ suN f m := by
  intro m
  induction m with
  | zero => intro j hj; omega
  | succ m ih =>
    intro j hj
    show f j ≤ suN f m + f m
    by_cases e : j = m
    · rw [e]; omega
    · have := ih (j := j) (by omega); omega
theorem suN_add {f g : Nat → Nat} : ∀ m, suN (fun j => f j + g j) m = suN f m + suN g m := by
  intro m
  induction m with
  | zero => rfl
  | succ m ih =>
    show suN (fun j => f j + g j) m + (f m + g m) = (suN f m + f m) + (suN g m + g m)
    rw [ih]; omega
/-- what falls into classes is counted by them -/
theorem cnt_le (C : Nat → Lt → Bool) (P : Lt → Bool) (m : Nat) : ∀ l : List Lt, (∀ x, x ∈ l → P x = true → ∃ j, j < m ∧ C j x = true) → l.countP P ≤ suN (fun j => l.countP (C j)) m := by
  intro l
  induction l with
  | nil => intro _; exact Nat.zero_le _
  | cons x l ih =>
    intro h
    have h1 := ih (fun y hy hp => h y (List.mem_cons_of_mem _ hy) hp)
    have e : suN (fun j => (x :: l).countP (C j)) m = suN (fun j => l.countP (C j)) m + suN (fun j => if C j x = true then 1 else 0) m := by
      rw [← suN_add]
      congr 1
      funext j
      rw [List.countP_cons]
    rw [e, List.countP_cons]
    by_cases hp : P x = true
    · obtain ⟨j, hj, hc⟩ := h x List.mem_cons_self hp
      have h2 : (if C j x = true then 1 else 0) ≤ suN (fun j => if C j x = true then 1 else 0) m := suN_ge (f := fun j => if C j x = true then 1 else 0) hj
      rw [if_pos hc] at h2
      rw [if_pos hp]; omega
    · rw [if_neg hp]; omega
section ROOM
variable {n R W : Nat} {lk pa : Nat → Nat → Bool} {up : Nat → Option Nat} {ld : Nat → Nat} {S : PS} {cm : CM} {l : List Lt}
theorem tree_le (k : Int32) (C : Nat → Lt → Bool) (hn : n ≤ 12) (h1 : ∀ j, j < n → l.countP (C j) ≤ 1) (h2 : ∀ x, x ∈ l → x.1 = k → ∃ j, j < n ∧ C j x = true) : l.countP (fun x => decide (x.1 = k)) ≤ 12 := by
  have a := cnt_le C (fun x => decide (x.1 = k)) n l (fun x hx hp => h2 x hx (of_decide_eq_true hp))
  have b := suN_le (B := 1) h1
  omega
/-- READY and DONE wait in the upper's round alone -/
theorem ready_rd (hP : PI n R W up (k2 up cm) (k3 up cm) S l) (hX : QX n R W lk pa up ld S cm l) {c u q : Nat} {k : Int32} {w : Nat} (hk : (k = 3 ∧ w = 2) ∨ (k = 6 ∧ w = 3 ∧ W = 2)) (hc : c < n) (hu : up c = some u) (hq1 : 1 ≤ q) (hq : q ≤ rdP S c) (hw : 1 ≤ cX k l c u q) : q = max (rdP S u) 1 ∧ cm w u c q = false := by
  obtain ⟨hun, hr⟩ := rd_up hP hc hu
  have hRc := (hP.1 c hc).1
  obtain ⟨g1, g2⟩ := hX.2.2.2.1 u c hun hc hu
  obtain ⟨b1, b2⟩ := g2 q (by omega)
  have key : cm w u c q = false := by
    cases hz : cm w u c q with
    | false => rfl
    | true =>
      have : b2n true = 1 := rfl
      rcases hk with ⟨e1, e2⟩ | ⟨e1, e2, _⟩
      · rw [e1] at hw; rw [e2] at hz; rw [hz] at b1; omega
      · rw [e1] at hw; rw [e2] at hz; rw [hz] at b2; omega
  refine ⟨?_, key⟩
  rcases Nat.lt_or_ge q (rdP S u) with h | h
  · exfalso
    obtain ⟨c1, c2⟩ := g1 q hq1 h
    rcases hk with ⟨e1, e2⟩ | ⟨e1, e2, e3⟩
    · rw [e2, c1] at key; exact absurd key (by decide)
    · rw [e2, c2 e3] at key; exact absurd key (by decide)
  · rcases Nat.le_total (rdP S u) 1 with q1 | q1
    · rw [Nat.max_eq_right q1]; omega
    · rw [Nat.max_eq_left q1]; omega
theorem room528 (hn : n ≤ 12) (hR : R ≤ 20) (hR1 : 1 ≤ R) (hF : FRA n W lk pa up ld) (hP : PI n R W up (k2 up cm) (k3 up cm) S l) (hX : QX n R W lk pa up ld S cm l) (h6 : ∀ x, x ∈ l → x.1 = 6 → W = 2) : l.length ≤ 528 := by
  have vl := fun x hx => (hP.2.1 x hx).1
  have tl := fun x hx => (hP.2.1 x hx).2
  -- by kinds
  have all : l.length ≤ suN (fun k => l.countP (fun x => decide (x.1 = nI k))) 7 := by
    have := cnt_le (fun k x => decide (x.1 = nI k)) (fun _ => true) 7 l (fun x hx _ => by
      obtain ⟨k, hk, e⟩ := (vl x hx).1
      exact ⟨k, hk, decide_eq_true e⟩)
    rw [List.countP_true] at this
    exact this
  have e7 : suN (fun k => l.countP (fun x => decide (x.1 = nI k))) 7 = l.countP (fun x => decide (x.1 = nI 0)) + l.countP (fun x => decide (x.1 = nI 1)) + l.countP (fun x => decide (x.1 = nI 2)) + l.countP (fun x => decide (x.1 = nI 3)) + l.countP (fun x => decide (x.1 = nI 4)) + l.countP (fun x => decide (x.1 = nI 5)) + l.countP (fun x => decide (x.1 = nI 6)) := by
    show 0 + l.countP (fun x => decide (x.1 = nI 0)) + l.countP (fun x => decide (x.1 = nI 1)) + l.countP (fun x => decide (x.1 = nI 2)) + l.countP (fun x => decide (x.1 = nI 3)) + l.countP (fun x => decide (x.1 = nI 4)) + l.countP (fun x => decide (x.1 = nI 5)) + l.countP (fun x => decide (x.1 = nI 6)) = _
    rw [Nat.zero_add]
  -- NOTEs and ACKs
  have na : l.countP (fun x => decide (x.1 = nI 0)) + l.countP (fun x => decide (x.1 = nI 1)) ≤ 144 := by
    have a0 := cnt_le (fun j x => decide (x.1 = 0 ∧ x.2.1 = nI j)) (fun x => decide (x.1 = nI 0)) n l (fun x hx hp => by
      obtain ⟨f, t, hf, _, e, _⟩ := hX.1.1 x hx (of_decide_eq_true hp)
      exact ⟨f, hf, decide_eq_true ⟨of_decide_eq_true hp, e⟩⟩)
    have a1 := cnt_le (fun j x => decide (x.1 = 1 ∧ x.2.2.1 = nI j)) (fun x => decide (x.1 = nI 1)) n l (fun x hx hp => by
      obtain ⟨f, t, _, ht, _, e, _⟩ := hX.1.2.1 x hx (of_decide_eq_true hp)
      exact ⟨t, ht, decide_eq_true ⟨of_decide_eq_true hp, e⟩⟩)
    have b : suN (fun j => cN l j + cK l j) n ≤ n * 12 := suN_le (fun j hj => by
      rcases Nat.eq_zero_or_pos (rdP S j) with q | q
      · have z1 : cN l j = 0 := cN_0 (fun x hx k1 k2 => by
          obtain ⟨f, t, hf, _, e1, _, _, _, e5⟩ := hX.1.1 x hx k1
          have : f = j := (nI_eq (by omega) (by omega)).mp (e1.symm.trans k2)
          rw [this] at e5; omega)
        have z2 : cK l j = 0 := cK_0 (fun x hx k1 k2 => by
          obtain ⟨f, t, _, ht, _, e1, _, _, e5⟩ := hX.1.2.1 x hx k1
          have : t = j := (nI_eq (by omega) (by omega)).mp (e1.symm.trans k2)
          rw [this] at e5; omega)
        rw [z1, z2]; omega
      · have h2 := hX.1.2.2 j hj q
        have h3 := ((hP.1 j hj).2.1 q).1
        omega)
    rw [suN_add] at b
    have c0 : suN (fun j => l.countP (fun x => decide (x.1 = 0 ∧ x.2.1 = nI j))) n = suN (cN l) n := rfl
    have c1 : suN (fun j => l.countP (fun x => decide (x.1 = 1 ∧ x.2.2.1 = nI j))) n = suN (cK l) n := rfl
    have d : n * 12 ≤ 144 := by omega
    have : suN (fun j => cN l j) n = suN (cN l) n := rfl
    have : suN (fun j => cK l j) n = suN (cK l) n := rfl
    omega
  -- SAFEs: two rounds for each two nodes
  have sa : l.countP (fun x => decide (x.1 = nI 2)) ≤ 288 := by
    have a2 := cnt_le (fun j x => decide (x.1 = 2 ∧ x.2.1 = nI (j / 24) ∧ x.2.2.1 = nI (j / 2 % 12) ∧ x.2.2.2.1 = nI (rdP S (j / 2 % 12) + j % 2))) (fun x => decide (x.1 = nI 2)) 288 l (fun x hx hp => by
      obtain ⟨f, t, q, hf, ht, _, _, e1, e2, e3, _, q1, q2, _⟩ := safe_rd hR hF hP hX hx (of_decide_eq_true hp)
      refine ⟨(f * 12 + t) * 2 + (q - rdP S t), by omega, decide_eq_true ⟨of_decide_eq_true hp, ?_, ?_, ?_⟩⟩
      · rw [e1]; congr 1; omega
      · rw [e2]; congr 1; omega
      · have ht2 : ((f * 12 + t) * 2 + (q - rdP S t)) / 2 % 12 = t := by omega
        rw [ht2, e3]; congr 1; omega)
    have b2 := suN_le (f := fun j => l.countP (fun x => decide (x.1 = 2 ∧ x.2.1 = nI (j / 24) ∧ x.2.2.1 = nI (j / 2 % 12) ∧ x.2.2.2.1 = nI (rdP S (j / 2 % 12) + j % 2)))) (B := 1) (m := 288) (fun j hj => by
      show cX 2 l (j / 24) (j / 2 % 12) (rdP S (j / 2 % 12) + j % 2) ≤ 1
      by_cases hh : j / 24 < n ∧ j / 2 % 12 < n ∧ rdP S (j / 2 % 12) + j % 2 ≤ R
      · have := hX.2.1.2.2 (j / 24) (j / 2 % 12) _ hh.1 hh.2.1 hh.2.2
        omega
      · rw [cX_0 (fun x hx k1 k2 k3 k4 => ?_)]
        · omega
        · obtain ⟨f, t, q, hf, ht, _, hqR, e1, e2, e3, _, q1, q2, _⟩ := safe_rd hR hF hP hX hx k1
          have ef : f = j / 24 := (nI_eq (by omega) (by omega)).mp (e1.symm.trans k2)
          have et : t = j / 2 % 12 := (nI_eq (by omega) (by omega)).mp (e2.symm.trans k3)
          have hrt := (hP.1 t ht).1
          rw [et] at hrt
          have eq : q = rdP S (j / 2 % 12) + j % 2 := (nI_eq (by omega) (by omega)).mp (e3.symm.trans k4)
          exact hh ⟨by omega, by omega, by omega⟩)
    omega
  -- the letters of the trees
  have re : l.countP (fun x => decide (x.1 = nI 3)) ≤ 12 := by
    refine tree_le (nI 3) (fun j x => decide (x.1 = 3 ∧ x.2.1 = nI j ∧ x.2.2.1 = nI ((up j).getD 0) ∧ x.2.2.2.1 = nI (max (rdP S ((up j).getD 0)) 1))) hn (fun j hj => ?_) (fun x hx hk => ?_)
    · show cX 3 l j ((up j).getD 0) (max (rdP S ((up j).getD 0)) 1) ≤ 1
      cases hu : up j with
      | none =>
        rw [cX_0 (fun x hx k1 k2 k3 k4 => ?_)]
        · omega
        · obtain ⟨c, u, q, hc, _, e1, _, e3, _⟩ := (tl x hx).1 k1
          have : c = j := (nI_eq (by omega) (by omega)).mp (e1.symm.trans k2)
          rw [this, hu] at e3; exact absurd e3 (by simp)
      | some u =>
        have hun := (rd_up hP hj hu).1
        have := ((hX.2.2.2.1 u j hun hj hu).2 (max (rdP S u) 1) (by have := (hP.1 u hun).1; rcases Nat.le_total (rdP S u) 1 with q1 | q1 <;> omega)).1
        show cX 3 l j u (max (rdP S u) 1) ≤ 1
        omega
    · obtain ⟨c, u, q, hc, hu, e1, e2, e3, e4, e5, _⟩ := (tl x hx).1 hk
      obtain ⟨q', hq1, hq2, e6, _⟩ := (vl x hx).2.2.2
      have eq : q' = q := (nI_eq (by omega) (by have := (hP.1 c hc).1; omega)).mp (e6.symm.trans e4)
      have hr := (ready_rd hP hX (Or.inl ⟨rfl, rfl⟩) hc e3 (by omega) e5 (cX_mem hx hk e1 e2 e4)).1
      refine ⟨c, hc, decide_eq_true ⟨hk, e1, ?_, ?_⟩⟩
      · rw [e3]; exact e2
      · rw [e3, e4, hr]; rfl
  have dn : l.countP (fun x => decide (x.1 = nI 6)) ≤ 12 := by
    refine tree_le (nI 6) (fun j x => decide (x.1 = 6 ∧ x.2.1 = nI j ∧ x.2.2.1 = nI ((up j).getD 0) ∧ x.2.2.2.1 = nI (max (rdP S ((up j).getD 0)) 1))) hn (fun j hj => ?_) (fun x hx hk => ?_)
    · show cX 6 l j ((up j).getD 0) (max (rdP S ((up j).getD 0)) 1) ≤ 1
      cases hu : up j with
      | none =>
        rw [cX_0 (fun x hx k1 k2 k3 k4 => ?_)]
        · omega
        · obtain ⟨c, u, q, hc, _, e1, _, e3, _⟩ := (tl x hx).2.1 k1
          have : c = j := (nI_eq (by omega) (by omega)).mp (e1.symm.trans k2)
          rw [this, hu] at e3; exact absurd e3 (by simp)
      | some u =>
        have hun := (rd_up hP hj hu).1
        have := ((hX.2.2.2.1 u j hun hj hu).2 (max (rdP S u) 1) (by have := (hP.1 u hun).1; rcases Nat.le_total (rdP S u) 1 with q1 | q1 <;> omega)).2
        show cX 6 l j u (max (rdP S u) 1) ≤ 1
        omega
    · obtain ⟨c, u, q, hc, hu, e1, e2, e3, e4, e5, _⟩ := (tl x hx).2.1 hk
      obtain ⟨q', hq1, hq2, e6, _⟩ := (vl x hx).2.2.2
      have eq : q' = q := (nI_eq (by omega) (by have := (hP.1 c hc).1; omega)).mp (e6.symm.trans e4)
      have hr := (ready_rd hP hX (Or.inr ⟨rfl, rfl, h6 x hx hk⟩) hc e3 (by omega) e5 (cX_mem hx hk e1 e2 e4)).1
      refine ⟨c, hc, decide_eq_true ⟨hk, e1, ?_, ?_⟩⟩
      · rw [e3]; exact e2
      · rw [e3, e4, hr]; rfl
  have go : l.countP (fun x => decide (x.1 = nI 4)) ≤ 12 := by
    refine tree_le (nI 4) (fun j x => decide (x.1 = 4 ∧ x.2.2.1 = nI j)) hn (fun j hj => (hP.2.2.1 j hj).1) (fun x hx hk => ?_)
    obtain ⟨c, u, hc, _, e, _⟩ := (tl x hx).2.2.1 hk
    exact ⟨c, hc, decide_eq_true ⟨hk, e⟩⟩
  have fi : l.countP (fun x => decide (x.1 = nI 5)) ≤ 12 := by
    refine tree_le (nI 5) (fun j x => decide (x.1 = 5 ∧ x.2.2.1 = nI j)) hn (fun j hj => (hP.2.2.1 j hj).2) (fun x hx hk => ?_)
    obtain ⟨_, c, u, hc, _, e, _⟩ := (tl x hx).2.2.2 hk
    exact ⟨c, hc, decide_eq_true ⟨hk, e⟩⟩
  omega
end ROOM
