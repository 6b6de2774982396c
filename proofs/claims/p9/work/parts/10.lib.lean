-- loops that count up; fills; frames; numbers
theorem z_for {S : Type} (n : Nat) (F : Nat → S → Prop) (I : Nat → S → Prop) (hs : ∀ i s, i < n → I i s → (∀ s', I (i + 1) s' → F (i + 1) s') → F i s) (hx : ∀ s, I n s → F n s) : ∀ i s, i ≤ n → I i s → F i s := by
  intro i s hi
  induction hk : n - i generalizing i s with
  | zero =>
    intro h
    have e : i = n := by omega
    subst e
    exact hx s h
  | succ k ih =>
    intro h
    exact hs i s (by omega) h (fun s' h' => ih (i + 1) s' (by omega) (by omega) h')
def zfill (σ : zSt) (c n : Nat) (v : Int32) : zSt := fun a b => if a = c ∧ b < n then v else σ a b
theorem zfill_0 (σ : zSt) (c : Nat) (v : Int32) : zfill σ c 0 v = σ := by
  funext a b; simp [zfill]
theorem zfill_s (σ : zSt) (c i : Nat) (v : Int32) : zup (zfill σ c i v) c i v = zfill σ c (i + 1) v := by
  funext a b
  unfold zup zfill
  by_cases ha : a = c
  · by_cases hb : b = i
    · subst ha; subst hb; simp
    · by_cases hl : b < i
      · have h2 : b < i + 1 := by omega
        simp [ha, hb, hl, h2]
      · have h2 : ¬ b < i + 1 := by omega
        simp [ha, hb, hl, h2]
  · simp [ha]
theorem s_fill (G : zG) (ck n : Nat) (hck : zS[ck]? = some (.inl (.int, n))) (hn : n < 2 ^ 31) (v : Int32) (σ : zSt) : zV G 0 M_JArrays_fill [zf G ck, .int v] σ (fun τ => τ = zfill σ ck n v) := by
  refine zSpec.of (by decide) (Nat.le_of_ble_eq_true rfl) rfl (fun X E => ?_)
  refine b_JArrays_fill_0 E v ck n hck σ ?_
  refine z_for n (fun i τ => zZ G M_JArrays_fill 0 X (fun r τ => r = none ∧ τ = zfill σ ck n v) 5 [(0, zf G ck), (1, .int v), (2, .int (nI i)), (3, .int (nI n))] [] τ) (fun i τ => τ = zfill σ ck i v) ?_ ?_ 0 σ (Nat.zero_le _) (zfill_0 σ ck v).symm
  · intro i τ hi hI ih
    refine b_JArrays_fill_5 E v (nI i) (nI n) ck n hck τ ⟨fun q => absurd q (nI_ge hi hn), fun _ => ⟨vp_in_nI hi hn, fun σ1 h1 => ?_⟩⟩
    rw [nI_1]
    refine ih σ1 ?_
    rw [h1, hI, nI_clamp (by omega), zfill_s]
  · intro τ hI
    exact b_JArrays_fill_5 E v (nI n) (nI n) ck n hck τ ⟨fun _ => ⟨rfl, hI⟩, fun q => absurd (nI_le (Nat.le_refl n) hn) q⟩
/-- τ is σ but for the cells of the list -/
def zFr (l : List Nat) (σ τ : zSt) : Prop := ∀ c, c ∉ l → τ c = σ c
theorem zFr.rf {l : List Nat} {σ : zSt} : zFr l σ σ := fun _ _ => rfl
theorem zFr.tr {l : List Nat} {σ τ υ : zSt} (h : zFr l σ τ) (h2 : zFr l τ υ) : zFr l σ υ := fun c hc => (h2 c hc).trans (h c hc)
theorem zFr.mono {l m : List Nat} {σ τ : zSt} (h : zFr l σ τ) (hs : ∀ c, c ∈ l → c ∈ m) : zFr m σ τ := fun c hc => h c (fun q => hc (hs c q))
theorem zFr.up {l : List Nat} {σ τ : zSt} {c j : Nat} {v : Int32} (h : zFr l σ τ) (hc : c ∈ l) : zFr l σ (zup τ c j v) := fun k hk => by
  rw [zup_ne (fun e => hk (by rw [e]; exact hc))]; exact h k hk
theorem zfill_ne {σ : zSt} {c n : Nat} {v : Int32} {k : Nat} (h : k ≠ c) : zfill σ c n v k = σ k := by
  funext b; simp [zfill, h]
theorem zFr.fill {l : List Nat} {σ τ : zSt} {c n : Nat} {v : Int32} (h : zFr l σ τ) (hc : c ∈ l) : zFr l σ (zfill τ c n v) := fun k hk => by
  rw [zfill_ne (fun e => hk (by rw [e]; exact hc))]; exact h k hk
theorem zFr.cpy {l : List Nat} {σ τ : zSt} {c sp dp n : Nat} (h : zFr l σ τ) (hc : c ∈ l) : zFr l σ (zcpy τ c sp dp n) := fun k hk => by
  rw [zcpy_ne (fun e => hk (by rw [e]; exact hc))]; exact h k hk
theorem zi12 (a b : Nat) : nI a * 12 + nI b = nI (a * 12 + b) := by
  rw [show (12 : Int32) = nI 12 from rfl, pk_mul, nI_add]
theorem zi12' (a b : Nat) : 12 * nI a + nI b = nI (12 * a + b) := by
  rw [show (12 : Int32) = nI 12 from rfl, pk_mul, nI_add]
theorem zHas_of {σ : zSt} {a : Int32} {n : Nat} (h : zHas σ a = true) (hn : σ 2 0 = nI n) (hle : n ≤ 12) : ∃ j, j < n ∧ a = nI j := by
  simp only [zHas, decide_eq_true_eq] at h
  rw [hn] at h
  rcases pk_ix a (n := n) (by omega) with h1 | h1 | h1
  · exact absurd h1 h.1
  · exact absurd h1 h.2
  · exact h1
theorem zNo_of {σ : zSt} {a : Int32} {n : Nat} (h : zNo σ a = false) (hn : σ 32 0 = nI n) (hle : n ≤ 12) : ∃ j, j < n ∧ a = nI j := by
  simp only [zNo, decide_eq_false_iff_not, not_or, Decidable.not_not] at h
  rw [hn] at h
  rcases pk_ix a (n := n) (by omega) with h1 | h1 | h1
  · exact absurd h1 h.1
  · exact absurd h.2 (Int32.not_lt.mpr h1)
  · exact h1
