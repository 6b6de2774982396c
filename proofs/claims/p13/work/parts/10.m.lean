section
-- loops that count up; fills; frames; numbers
theorem z_for {S : Type} (n : Nat) (F : Nat → S → Prop) (I : Nat → S → Prop) (hs : ∀ i s, i < n → I i s → (∀ s', I (i + 1) s' → F (i + 1) s') → F i s) (hx : ∀ s, I n s → F n s) : ∀ i s, i ≤ n → I i s → F i s := by
  intro i s hi
  induction hk : n - i generalizing i s with
  | zero =>
    intro h
    have e : i = n := by omega
    subst e
    exact hx s h
  | succ k ih =>
    intro h
    exact hs i s (by omega) h (fun s' h' => ih (i + 1) s' (by omega) (by omega) h')
def zfill (σ : zSt) (c n : Nat) (v : Int32) : zSt := fun a b => if a = c ∧ b < n then v else σ a b
theorem zfill_0 (σ : zSt) (c : Nat) (v : Int32) : zfill σ c 0 v = σ := by
  funext a b; simp [zfill]
theorem zfill_s (σ : zSt) (c i : Nat) (v : Int32) : zup (zfill σ c i v) c i v = zfill σ c (i + 1) v := by
  funext a b
  unfold zup zfill
  by_cases ha : a = c
  · by_cases hb : b = i
    · subst ha; subst hb; simp
    · by_cases hl : b < i
      · have h2 : b < i + 1 := by omega
        simp [ha, hb, hl, h2]
      · have h2 : ¬ b < i + 1 := by omega
        simp [ha, hb, hl, h2]
  · simp [ha]
theorem s_fill (G : zG) (ck n : Nat) (hck : zS[ck]? = some (.inl (.int, n))) (hn : n < 2 ^ 31) (v : Int32) (σ : zSt) : zV G 0 M_JArrays_fill [zf G ck, .int v] σ (fun τ => τ = zfill σ ck n v) := by
  refine zSpec.of (by decide) (Nat.le_of_ble_eq_true rfl) rfl (fun X E => ?_)
  refine b_JArrays_fill_0 E v ck n hck σ ?_
  refine z_for n (fun i τ => zZ G M_JArrays_fill 0 X (fun r τ => r = none ∧ τ = zfill σ ck n v) 5 [(0, zf G ck), (1, .int v), (2, .int (nI i)), (3, .int (nI n))] [] τ) (fun i τ => τ = zfill σ ck i v) ?_ ?_ 0 σ (Nat.zero_le _) (zfill_0 σ ck v).symm
  · intro i τ hi hI ih
    refine b_JArrays_fill_5 E v (nI i) (nI n) ck n hck τ ⟨fun q => absurd q (nI_ge hi hn), fun _ => ⟨vp_in_nI hi hn, fun σ1 h1 => ?_⟩⟩
    rw [nI_1]
    refine ih σ1 ?_
    rw [h1, hI, nI_clamp (by omega), zfill_s]
  · intro τ hI
    exact b_JArrays_fill_5 E v (nI n) (nI n) ck n hck τ ⟨fun _ => ⟨rfl, hI⟩, fun q => absurd (nI_le (Nat.le_refl n) hn) q⟩
/-- τ is σ but for the cells of the list -/
def zFr (l : List Nat) (σ τ : zSt) : Prop := ∀ c, c ∉ l → τ c = σ c
theorem zFr.rf {l : List Nat} {σ : zSt} : zFr l σ σ := fun _ _ => rfl
theorem zFr.tr {l : List Nat} {σ τ υ : zSt} (h : zFr l σ τ) (h2 : zFr l τ υ) : zFr l σ υ := fun c hc => (h2 c hc).trans (h c hc)
theorem zFr.mono {l m : List Nat} {σ τ : zSt} (h : zFr l σ τ) (hs : ∀ c, c ∈ l → c ∈ m) : zFr m σ τ := fun c hc => h c (fun q => hc (hs c q))
theorem zFr.up {l : List Nat} {σ τ : zSt} {c j : Nat} {v : Int32} (h : zFr l σ τ) (hc : c ∈ l) : zFr l σ (zup τ c j v) := fun k hk => by
  rw [zup_ne (fun e => hk (by rw [e]; exact hc))]; exact h k hk
theorem zfill_ne {σ : zSt} {c n : Nat} {v : Int32} {k : Nat} (h : k ≠ c) : zfill σ c n v k = σ k := by
  funext b; simp [zfill, h]
theorem zFr.fill {l : List Nat} {σ τ : zSt} {c n : Nat} {v : Int32} (h : zFr l σ τ) (hc : c ∈ l) : zFr l σ (zfill τ c n v) := fun k hk => by
  rw [zfill_ne (fun e => hk (by rw [e]; exact hc))]; exact h k hk
theorem zFr.cpy {l : List Nat} {σ τ : zSt} {c sp dp n : Nat} (h : zFr l σ τ) (hc : c ∈ l) : zFr l σ (zcpy τ c sp dp n) := fun k hk => by
  rw [zcpy_ne (fun e => hk (by rw [e]; exact hc))]; exact h k hk
theorem zi12 (a b : Nat) : nI a * 12 + nI b = nI (a * 12 + b) := by
  rw [show (12 : Int32) = nI 12 from rfl, pk_mul, nI_add]
theorem zi12' (a b : Nat) : 12 * nI a + nI b = nI (12 * a + b) := by
  rw [show (12 : Int32) = nI 12 from rfl, pk_mul, nI_add]
theorem zHas_of {σ : zSt} {a : Int32} {n : Nat} (h : zHas σ a = true) (hn : σ 2 0 = nI n) (hle : n ≤ 12) : ∃ j, j < n ∧ a = nI j := by
  simp only [zHas, decide_eq_true_eq] at h
  rw [hn] at h
  rcases pk_ix a (n := n) (by omega) with h1 | h1 | h1
  · exact absurd h1 h.1
  · exact absurd h1 h.2
  · exact h1
theorem zNo_of {σ : zSt} {a : Int32} {n : Nat} (h : zNo σ a = false) (hn : σ 32 0 = nI n) (hle : n ≤ 12) : ∃ j, j < n ∧ a = nI j := by
  simp only [zNo, decide_eq_false_iff_not, not_or, Decidable.not_not] at h
  rw [hn] at h
  rcases pk_ix a (n := n) (by omega) with h1 | h1 | h1
  · exact absurd h1 h.1
  · exact absurd h.2 (Int32.not_lt.mpr h1)
  · exact h1
end
section
-- bits: the first family of kit/laws/BITS.to-paste (a text given for pasting); then isIn in its words
def bt (x : Int32) (i : Nat) : Bool := x.toBitVec.getLsbD i
theorem b_ext {x y : Int32} (h : ∀ i, i < 32 → bt x i = bt y i) : x = y := Int32.toBitVec_inj.mp (BitVec.eq_of_getLsbD_eq (fun i hi => h i hi))
theorem b_or (x y : Int32) (i : Nat) : bt (x ||| y) i = (bt x i || bt y i) := by unfold bt; rw [Int32.toBitVec_or, BitVec.getLsbD_or]
theorem b_and (x y : Int32) (i : Nat) : bt (x &&& y) i = (bt x i && bt y i) := by unfold bt; rw [Int32.toBitVec_and, BitVec.getLsbD_and]
theorem b_xor (x y : Int32) (i : Nat) : bt (x ^^^ y) i = (bt x i ^^ bt y i) := by unfold bt; rw [Int32.toBitVec_xor, BitVec.getLsbD_xor]
theorem b_big {x : Int32} {i : Nat} (h : 32 ≤ i) : bt x i = false := BitVec.getLsbD_of_ge _ _ h
theorem b_m1 : ∀ i, i < 32 → bt (-1) i = true := by decide +kernel
theorem b_0 (i : Nat) : bt 0 i = false := BitVec.getLsbD_zero
theorem s_l : ∀ n, n < 32 → ((nI n &&& 31).toBitVec.smod 32).toNat = n := by decide +kernel
theorem s_u : ∀ n, n < 32 → (((nI n).toUInt32 &&& Int32.toUInt32 31).toBitVec % 32).toNat = n := by decide +kernel
theorem b_shl (n : Nat) (hn : n < 32) (x : Int32) {i : Nat} (hi : i < 32) : bt (x <<< (nI n &&& 31)) i = (decide (n ≤ i) && bt x (i - n)) := by
  unfold bt
  rw [Int32.toBitVec_shiftLeft]
  show (x.toBitVec <<< ((nI n &&& 31).toBitVec.smod 32).toNat).getLsbD i = _
  rw [s_l n hn, BitVec.getLsbD_shiftLeft]
  rcases Nat.lt_or_ge i n with h | h
  · simp [h, Nat.not_le.mpr h]
  · simp [hi, h, Nat.not_lt.mpr h]
theorem b_ushr (n : Nat) (hn : n < 32) (x : Int32) (i : Nat) : bt ((x.toUInt32 >>> ((nI n).toUInt32 &&& Int32.toUInt32 31)).toInt32) i = bt x (n + i) := by
  show (x.toUInt32 >>> ((nI n).toUInt32 &&& Int32.toUInt32 31)).toBitVec.getLsbD i = x.toUInt32.toBitVec.getLsbD (n + i)
  rw [UInt32.toBitVec_shiftRight]
  show (x.toUInt32.toBitVec >>> (((nI n).toUInt32 &&& Int32.toUInt32 31).toBitVec % 32).toNat).getLsbD i = _
  rw [s_u n hn, BitVec.getLsbD_ushiftRight]
theorem b_sshr (n : Nat) (hn : n < 32) (x : Int32) {i : Nat} (hi : i < 32) : bt (x >>> (nI n &&& 31)) i = if n + i < 32 then bt x (n + i) else bt x 31 := by
  unfold bt
  rw [Int32.toBitVec_shiftRight]
  show (x.toBitVec.sshiftRight ((nI n &&& 31).toBitVec.smod 32).toNat).getLsbD i = _
  rw [s_l n hn, BitVec.getLsbD_sshiftRight, BitVec.msb_eq_getLsbD_last]
  simp [hi]
theorem b_one (i : Nat) : bt 1 i = decide (i = 0) := by
  rcases Nat.lt_or_ge i 32 with h | h
  · exact (by decide +kernel : ∀ i, i < 32 → bt 1 i = decide (i = 0)) i h
  · rw [b_big h, decide_eq_false (by omega)]
theorem zIn_bt (s : Int32) {c : Nat} (hc : c < 32) : zIn s (nI c) = bt s c := by
  have h0 : bt ((s >>> (nI c &&& 31)) &&& 1) 0 = bt s c := by
    rw [b_and, b_sshr c hc s (by decide), b_one]
    simp [hc]
  have hz : ((s >>> (nI c &&& 31)) &&& 1) = 0 ↔ bt s c = false := by
    constructor
    · intro e
      rw [← h0, e, b_0]
    · intro e
      apply b_ext
      intro i hi
      rw [b_0]
      by_cases hi0 : i = 0
      · subst hi0; rw [h0, e]
      · rw [b_and, b_one, decide_eq_false hi0, Bool.and_false]
  unfold zIn
  cases hb : bt s c with
  | true => simp [hz, hb]
  | false => simp [hz, hb]
theorem bt_bit {n c : Nat} (hn : n < 32) (hc : c < 32) : bt ((1 : Int32) <<< (nI n &&& 31)) c = decide (c = n) := by
  rw [b_shl n hn 1 hc, b_one]
  by_cases h : c = n
  · subst h; simp
  · by_cases h2 : n ≤ c
    · have : ¬ (c - n = 0) := by omega
      simp [h, this]
    · simp [h, h2]
theorem zIn_or (x y : Int32) {c : Nat} (hc : c < 32) : zIn (x ||| y) (nI c) = (zIn x (nI c) || zIn y (nI c)) := by
  rw [zIn_bt _ hc, zIn_bt _ hc, zIn_bt _ hc, b_or]
theorem zIn_and (x y : Int32) {c : Nat} (hc : c < 32) : zIn (x &&& y) (nI c) = (zIn x (nI c) && zIn y (nI c)) := by
  rw [zIn_bt _ hc, zIn_bt _ hc, zIn_bt _ hc, b_and]
theorem zIn_not (x : Int32) {c : Nat} (hc : c < 32) : zIn (x ^^^ (-1 : Int32)) (nI c) = !(zIn x (nI c)) := by
  rw [zIn_bt _ hc, zIn_bt _ hc, b_xor, b_m1 c hc, Bool.xor_true]
theorem zIn_bit {n c : Nat} (hn : n < 32) (hc : c < 32) : zIn ((1 : Int32) <<< (nI n &&& 31)) (nI c) = decide (c = n) := by
  rw [zIn_bt _ hc, bt_bit hn hc]
theorem zIn_0 {c : Nat} (hc : c < 32) : zIn 0 (nI c) = false := by
  rw [zIn_bt _ hc, b_0]
end
section
-- Net, and begin, link, mark
def nclear (σ : zSt) (v : Int32) : zSt := zfill (zfill (zfill (zup (zup σ 2 0 v) 2 1 0) 6 12 0) 7 12 0) 8 144 0
theorem s_Net_clear (G : zG) (σ : zSt) (v : Int32) : zV G 1 M_Net_clear [zf G 2, .int v] σ (fun τ => τ = nclear σ v) := by
  refine zSpec.of (by decide) (Nat.le_of_ble_eq_true rfl) rfl (fun X E => ?_)
  refine b_Net_clear_0 E v σ ?_
  rintro σ1 rfl σ2 rfl
  refine ⟨_, s_fill G 6 12 rfl (by decide) 0 _, ?_⟩
  rintro σ3 rfl
  refine ⟨_, s_fill G 7 12 rfl (by decide) 0 _, ?_⟩
  rintro σ4 rfl
  refine ⟨_, s_fill G 8 144 rfl (by decide) 0 _, ?_⟩
  rintro σ5 rfl
  exact ⟨rfl, rfl⟩
def njoin0 (σ : zSt) (a b : Nat) : zSt := if zIn (σ 7 a) (nI b) = true then σ else zup σ 2 1 ((σ 2 1) + 1)
def njoin (σ : zSt) (a b : Nat) (len : Int32) : zSt :=
  let σ1 := zup (njoin0 σ a b) 7 a ((njoin0 σ a b) 7 a ||| ((1 : Int32) <<< (nI b &&& 31)))
  let σ2 := zup σ1 7 b (σ1 7 b ||| ((1 : Int32) <<< (nI a &&& 31)))
  zup (zup σ2 8 (a * 12 + b) len) 8 (b * 12 + a) len
theorem s_Net_join (G : zG) (σ : zSt) (a b : Nat) (len : Int32) (ha : a < 12) (hb : b < 12) : zV G 1 M_Net_join [zf G 2, .int (nI a), .int (nI b), .int len] σ (fun τ => τ = njoin σ a b len) := by
  refine zSpec.of (by decide) (Nat.le_of_ble_eq_true rfl) rfl (fun X E => ?_)
  have ia : vp_in (nI a) 12 := vp_in_nI ha (by decide)
  have ib : vp_in (nI b) 12 := vp_in_nI hb (by decide)
  have iab : vp_in (nI a * 12 + nI b) 144 := by rw [zi12]; exact vp_in_nI (by omega) (by decide)
  have iba : vp_in (nI b * 12 + nI a) 144 := by rw [zi12]; exact vp_in_nI (by omega) (by decide)
  have ca : (nI a).toNatClampNeg = a := nI_clamp (by omega)
  have cb : (nI b).toNatClampNeg = b := nI_clamp (by omega)
  have cab : (nI a * 12 + nI b).toNatClampNeg = a * 12 + b := by rw [zi12]; exact nI_clamp (by omega)
  have cba : (nI b * 12 + nI a).toNatClampNeg = b * 12 + a := by rw [zi12]; exact nI_clamp (by omega)
  refine b_Net_join_0 E (nI a) (nI b) len σ ⟨ia, fun h => ⟨ia, ia, ?_⟩, fun h => ?_⟩
  · rintro σ1 rfl
    refine ⟨ib, ib, ?_⟩
    rintro σ2 rfl
    refine ⟨iab, ?_⟩
    rintro σ3 rfl
    refine ⟨iba, ?_⟩
    rintro σ4 rfl
    refine ⟨rfl, ?_⟩
    rw [ca] at h
    simp only [njoin, njoin0, h, ca, cb, cab, cba, if_true]
  · rintro σ5 rfl
    refine ⟨ia, ia, ?_⟩
    rintro σ1 rfl
    refine ⟨ib, ib, ?_⟩
    rintro σ2 rfl
    refine ⟨iab, ?_⟩
    rintro σ3 rfl
    refine ⟨iba, ?_⟩
    rintro σ4 rfl
    refine ⟨rfl, ?_⟩
    rw [ca] at h
    simp [njoin, njoin0, h, ca, cb, cab, cba]
theorem s_P_begin (G : zG) (σ : zSt) (v : Int32) : zI G 2 M_P_begin [zf G 0, .int v] σ (fun x τ => (x = -1 ∧ τ = σ ∧ (v < 1 ∨ ¬ v ≤ 12)) ∨ (x = 0 ∧ ¬ v < 1 ∧ v ≤ 12 ∧ τ = zup (nclear σ v) 0 1 0)) := by
  refine zSpec.of (by decide) (Nat.le_of_ble_eq_true rfl) rfl (fun X E => ?_)
  refine b_P_begin_0 E v σ ⟨fun h => ⟨_, rfl, Or.inl ⟨rfl, rfl, Or.inl h⟩⟩, fun h => ⟨fun h2 => ⟨_, s_Net_clear G σ v, ?_⟩, fun h2 => ⟨_, rfl, Or.inl ⟨rfl, rfl, Or.inr h2⟩⟩⟩⟩
  rintro σ1 rfl σ2 rfl
  exact ⟨_, rfl, Or.inr ⟨rfl, h, h2, rfl⟩⟩
theorem s_P_mark (G : zG) (σ : zSt) (n : Nat) (a v : Int32) (hn : σ 2 0 = nI n) (hle : n ≤ 12) : zI G 1 M_P_mark [zf G 0, .int a, .int v] σ (fun x τ => (x = -1 ∧ τ = σ ∧ (zHas σ a = false ∨ v < 0 ∨ ¬ v ≤ 99)) ∨ (∃ j, j < n ∧ a = nI j ∧ ¬ v < 0 ∧ v ≤ 99 ∧ x = σ 6 j ∧ τ = zup (zup σ 6 j v) 0 1 0)) := by
  refine zSpec.of (by decide) (Nat.le_of_ble_eq_true rfl) rfl (fun X E => ?_)
  refine b_P_mark_0 E a v σ ⟨fun h => ⟨_, rfl, Or.inl ⟨rfl, rfl, Or.inl h⟩⟩, fun h => ⟨fun h2 => ⟨_, rfl, Or.inl ⟨rfl, rfl, Or.inr (Or.inl h2)⟩⟩, fun h2 => ⟨fun h3 => ?_, fun h3 => ⟨_, rfl, Or.inl ⟨rfl, rfl, Or.inr (Or.inr h3)⟩⟩⟩⟩⟩
  obtain ⟨j, hj, rfl⟩ := zHas_of h hn hle
  have ij : vp_in (nI j) 12 := vp_in_nI (by omega) (by decide)
  have cj : (nI j).toNatClampNeg = j := nI_clamp (by omega)
  refine ⟨ij, ij, ?_⟩
  rintro σ1 rfl σ2 rfl
  exact ⟨_, rfl, Or.inr ⟨j, hj, rfl, h2, h3, by rw [cj], by rw [cj]⟩⟩
theorem s_P_link (G : zG) (σ : zSt) (n : Nat) (a b len : Int32) (hn : σ 2 0 = nI n) (hle : n ≤ 12) : zI G 2 M_P_link [zf G 0, .int a, .int b, .int len] σ (fun x τ => (x = -1 ∧ τ = σ ∧ (zHas σ a = false ∨ zHas σ b = false ∨ a = b ∨ len < 1 ∨ ¬ len ≤ 9)) ∨ (∃ i j, i < n ∧ j < n ∧ a = nI i ∧ b = nI j ∧ i ≠ j ∧ ¬ len < 1 ∧ len ≤ 9 ∧ τ = zup (njoin σ i j len) 0 1 0 ∧ x = τ 2 1)) := by
  refine zSpec.of (by decide) (Nat.le_of_ble_eq_true rfl) rfl (fun X E => ?_)
  refine b_P_link_0 E a b len σ ⟨fun h => ⟨_, rfl, Or.inl ⟨rfl, rfl, Or.inl h⟩⟩, fun h => ⟨fun h1 => ⟨_, rfl, Or.inl ⟨rfl, rfl, Or.inr (Or.inl h1)⟩⟩, fun h1 => ⟨fun h2 => ⟨_, rfl, Or.inl ⟨rfl, rfl, Or.inr (Or.inr (Or.inl h2))⟩⟩, fun h2 => ⟨fun h3 => ⟨_, rfl, Or.inl ⟨rfl, rfl, Or.inr (Or.inr (Or.inr (Or.inl h3)))⟩⟩, fun h3 => ⟨fun h4 => ?_, fun h4 => ⟨_, rfl, Or.inl ⟨rfl, rfl, Or.inr (Or.inr (Or.inr (Or.inr h4)))⟩⟩⟩⟩⟩⟩⟩
  obtain ⟨i, hi, rfl⟩ := zHas_of h hn hle
  obtain ⟨j, hj, rfl⟩ := zHas_of h1 hn hle
  refine ⟨_, s_Net_join G σ i j len (by omega) (by omega), ?_⟩
  rintro σ1 rfl σ2 rfl
  exact ⟨_, rfl, Or.inr ⟨i, j, hi, hj, rfl, rfl, fun e => h2 (by rw [e]), h3, h4, rfl, rfl⟩⟩
-- around, isConnected
def zAr (σ : zSt) (set : Int32) : Nat → Int32
  | 0 => 0
  | k + 1 => if zIn set (nI k) = true then zAr σ set k ||| σ 7 k else zAr σ set k
theorem s_Net_around (G : zG) (σ : zSt) (n : Nat) (set : Int32) (hn : σ 2 0 = nI n) (hle : n ≤ 12) : zI G 1 M_Net_around [zf G 2, .int set] σ (fun x τ => x = zAr σ set n ∧ τ = σ) := by
  refine zSpec.of (by decide) (Nat.le_of_ble_eq_true rfl) rfl (fun X E => ?_)
  refine b_Net_around_0 E set σ ?_
  refine z_for n (fun i (f : Int32) => zZ G M_Net_around 1 X (fun r τ => ∃ x : Int32, r = some (.int x) ∧ x = zAr σ set n ∧ τ = σ) 4 [(0, zf G 2), (1, .int set), (2, .int f), (3, .int (nI i))] [] σ) (fun i f => f = zAr σ set i) ?_ ?_ 0 0 (Nat.zero_le _) rfl
  · intro i f hi hI ih
    refine b_Net_around_4 E set f (nI i) σ ⟨fun q => absurd q (by rw [hn]; exact nI_ge hi (by omega)), fun _ => ⟨fun q => ?_, fun q => ⟨vp_in_nI (by omega) (by decide), ?_⟩⟩⟩
    · rw [nI_1]
      exact ih f (by rw [hI]; simp [zAr, q])
    · rw [nI_1]
      refine ih _ ?_
      rw [hI, nI_clamp (by omega)]
      simp [zAr, q]
  · intro f hI
    exact b_Net_around_4 E set f (nI n) σ ⟨fun _ => ⟨f, rfl, hI, rfl⟩, fun q => absurd (by rw [hn]; exact nI_le (Nat.le_refl n) (by omega)) q⟩
def zRe (σ : zSt) (n : Nat) : Nat → Int32
  | 0 => 1
  | k + 1 => zRe σ n k ||| zAr σ (zRe σ n k) n
theorem s_Net_isConnected (G : zG) (σ : zSt) (n : Nat) (hn : σ 2 0 = nI n) (h1 : 1 ≤ n) (hle : n ≤ 12) : zB G 2 M_Net_isConnected [zf G 2] σ (fun b τ => b = decide (zRe σ n (n - 1) = zAll (nI n)) ∧ τ = σ) := by
  refine zSpec.of (by decide) (Nat.le_of_ble_eq_true rfl) rfl (fun X E => ?_)
  refine b_Net_isConnected_0 E σ ?_
  refine z_for n (fun i (f : Int32) => zZ G M_Net_isConnected 2 X (fun r τ => ∃ b : Bool, r = some (.int (zb b)) ∧ b = decide (zRe σ n (n - 1) = zAll (nI n)) ∧ τ = σ) 4 [(0, zf G 2), (1, .int f), (2, .int (nI i))] [] σ) (fun i f => f = zRe σ n (i - 1) ∧ 1 ≤ i) ?_ ?_ 1 1 h1 ⟨rfl, Nat.le_refl 1⟩
  · intro i f hi hI ih
    refine b_Net_isConnected_4 E f (nI i) σ ⟨fun q => absurd q (by rw [hn]; exact nI_ge hi (by omega)), fun _ => ⟨_, s_Net_around G σ n f hn hle, ?_⟩⟩
    rintro x τ ⟨rfl, rfl⟩
    rw [nI_1]
    refine ih _ ⟨?_, by omega⟩
    obtain ⟨k, rfl⟩ : ∃ k, i = k + 1 := ⟨i - 1, by omega⟩
    rw [hI.1]
    rfl
  · intro f hI
    refine b_Net_isConnected_4 E f (nI n) σ ⟨fun _ => ⟨fun q => ⟨false, rfl, ?_, rfl⟩, fun q => ⟨true, rfl, ?_, rfl⟩⟩, fun q => absurd (by rw [hn]; exact nI_le (Nat.le_refl n) (by omega)) q⟩
    · rw [hn, hI.1] at q
      exact (decide_eq_false q).symm
    · rw [hn, hI.1] at q
      exact (decide_eq_true q).symm
end
section
-- Play: which cells each method may change (safety)
theorem ix288 {w i : Nat} (hw : w + 12 ≤ 288) (hi : i < 12) : vp_in (nI w + nI i) 288 := by rw [nI_add]; exact vp_in_nI (by omega) (by decide)
theorem ix144 {a i : Nat} (ha : a < 12) (hi : i < 12) : vp_in (nI a * 12 + nI i) 144 := by rw [zi12]; exact vp_in_nI (by omega) (by decide)
theorem s_Play_takeWave (G : zG) (σ : zSt) (a w : Nat) (ha : a < 12) (hw : w + 12 ≤ 288) : zI G 0 M_Play_takeWave [zf G 4, .int (nI a), .int (nI w)] σ (fun _ τ => zFr [16, 17] σ τ) := by
  refine zSpec.of (by decide) (Nat.le_of_ble_eq_true rfl) rfl (fun X E => ?_)
  have ia : vp_in (nI a) 12 := vp_in_nI ha (by decide)
  refine b_Play_takeWave_0 E (nI a) (nI w) σ ?_
  refine z_for 12 (fun i τ => zZ G M_Play_takeWave 0 X (fun r τ => ∃ x : Int32, r = some (.int x) ∧ zFr [16, 17] σ τ) 2 [(0, zf G 4), (1, .int (nI a)), (2, .int (nI w)), (3, .int (nI i))] [] τ) (fun _ τ => zFr [16, 17] σ τ) ?_ ?_ 0 σ (Nat.zero_le _) zFr.rf
  · intro i τ hi hI ih
    have ii := ix288 hw hi
    refine b_Play_takeWave_2 E (nI a) (nI w) (nI i) τ ⟨fun _ => ⟨_, rfl, hI⟩, fun _ => ⟨ia, fun _ => ⟨_, rfl, hI⟩, fun _ => ⟨ii, fun _ => ?_, fun _ => ⟨ii, ia, ?_⟩⟩⟩⟩
    · rw [nI_1]; exact ih τ hI
    · rintro σ1 rfl
      refine ⟨ia, ?_⟩
      rintro σ2 rfl
      exact ⟨ia, _, rfl, (hI.up (by decide)).up (by decide)⟩
  · intro τ hI
    exact b_Play_takeWave_2 E (nI a) (nI w) (nI 12) τ ⟨fun _ => ⟨_, rfl, hI⟩, fun q => absurd (by decide) q⟩
theorem s_Play_takeGreatest (G : zG) (σ : zSt) (a w : Nat) (ha : a < 12) (hw : w + 12 ≤ 288) : zI G 0 M_Play_takeGreatest [zf G 4, .int (nI a), .int (nI w)] σ (fun _ τ => zFr [16, 17] σ τ) := by
  refine zSpec.of (by decide) (Nat.le_of_ble_eq_true rfl) rfl (fun X E => ?_)
  have ia : vp_in (nI a) 12 := vp_in_nI ha (by decide)
  refine b_Play_takeGreatest_0 E (nI a) (nI w) σ ⟨ia, ?_⟩
  generalize σ 16 (nI a).toNatClampNeg = b0
  refine z_for 12 (fun i τ => zZ G M_Play_takeGreatest 0 X (fun r τ => ∃ x : Int32, r = some (.int x) ∧ zFr [16, 17] σ τ) 10 [(0, zf G 4), (1, .int (nI a)), (2, .int (nI w)), (3, .int b0), (4, .int (nI i))] [] τ) (fun _ τ => zFr [16, 17] σ τ) ?_ ?_ 0 σ (Nat.zero_le _) zFr.rf
  · intro i τ hi hI ih
    have ii := ix288 hw hi
    refine b_Play_takeGreatest_10 E (nI a) (nI w) b0 (nI i) τ ⟨fun q => absurd q (nI_ge hi (by decide)), fun _ => ⟨ii, fun _ => ?_, fun _ => ⟨ii, ia, fun _ => ?_, fun _ => ⟨ii, ia, ?_⟩⟩⟩⟩
    · rw [nI_1]; exact ih τ hI
    · rw [nI_1]; exact ih τ hI
    · rintro σ1 rfl
      refine ⟨ia, ?_⟩
      rintro σ2 rfl
      rw [nI_1]
      exact ih _ ((hI.up (by decide)).up (by decide))
  · intro τ hI
    exact b_Play_takeGreatest_10 E (nI a) (nI w) b0 (nI 12) τ ⟨fun _ => ⟨ia, fun _ => ⟨ia, _, rfl, hI⟩, fun _ => ⟨_, rfl, hI⟩⟩, fun q => absurd (by decide) q⟩
theorem s_Play_tryIn (G : zG) (σ : zSt) (a w : Nat) (ha : a < 12) (hw : w + 12 ≤ 288) : zI G 0 M_Play_tryIn [zf G 4, zf G 2, .int (nI a), .int (nI w)] σ (fun _ τ => zFr [16, 17] σ τ) := by
  refine zSpec.of (by decide) (Nat.le_of_ble_eq_true rfl) rfl (fun X E => ?_)
  have ia : vp_in (nI a) 12 := vp_in_nI ha (by decide)
  refine b_Play_tryIn_0 E (nI a) (nI w) σ ⟨ia, fun _ => ?_, fun _ => ⟨_, rfl, zFr.rf⟩⟩
  refine z_for 12 (fun i τ => zZ G M_Play_tryIn 0 X (fun r τ => ∃ x : Int32, r = some (.int x) ∧ zFr [16, 17] σ τ) 15 [(0, zf G 4), (1, zf G 2), (2, .int (nI a)), (3, .int (nI w)), (4, .int (nI i))] [] τ) (fun _ τ => zFr [16, 17] σ τ) ?_ ?_ 0 σ (Nat.zero_le _) zFr.rf
  · intro i τ hi hI ih
    have ii := ix288 hw hi
    have nx : zZ G M_Play_tryIn 0 X (fun r τ => ∃ x : Int32, r = some (.int x) ∧ zFr [16, 17] σ τ) 15 [(0, zf G 4), (1, zf G 2), (2, .int (nI a)), (3, .int (nI w)), (4, .int (nI i + 1))] [] τ := by rw [nI_1]; exact ih τ hI
    have en : ∀ x : Int32, ∃ y : Int32, some (Value.int x) = some (Value.int y) ∧ zFr [16, 17] σ τ := fun x => ⟨x, rfl, hI⟩
    exact b_Play_tryIn_15 E (nI a) (nI w) (nI i) τ ⟨fun q => absurd q (nI_ge hi (by decide)), fun _ => ⟨ii, ia, fun _ => ⟨fun _ => nx, fun _ => ⟨ia, fun _ => en _, fun _ => nx⟩⟩, fun _ => ⟨fun _ => ⟨fun _ => nx, fun _ => ⟨ia, fun _ => en _, fun _ => nx⟩⟩, fun _ => ⟨fun _ => nx, fun _ => ⟨ia, fun _ => en _, fun _ => en _⟩⟩⟩⟩⟩
  · intro τ hI
    refine b_Play_tryIn_15 E (nI a) (nI w) (nI 12) τ ⟨fun _ => ⟨ia, ?_⟩, fun q => absurd (by decide) q⟩
    rintro σ1 rfl
    exact ⟨_, rfl, hI.up (by decide)⟩
theorem s_Play_tryOut (G : zG) (σ : zSt) (a w : Nat) (ha : a < 12) (hw : w + 12 ≤ 288) : zI G 0 M_Play_tryOut [zf G 4, zf G 2, .int (nI a), .int (nI w)] σ (fun _ τ => zFr [16, 17] σ τ) := by
  refine zSpec.of (by decide) (Nat.le_of_ble_eq_true rfl) rfl (fun X E => ?_)
  have ia : vp_in (nI a) 12 := vp_in_nI ha (by decide)
  refine b_Play_tryOut_0 E (nI a) (nI w) σ ⟨ia, fun _ => ?_, fun _ => ⟨_, rfl, zFr.rf⟩⟩
  refine z_for 12 (fun i τ => zZ G M_Play_tryOut 0 X (fun r τ => ∃ x : Int32, r = some (.int x) ∧ zFr [16, 17] σ τ) 15 [(0, zf G 4), (1, zf G 2), (2, .int (nI a)), (3, .int (nI w)), (4, .int (nI i))] [] τ) (fun _ τ => zFr [16, 17] σ τ) ?_ ?_ 0 σ (Nat.zero_le _) zFr.rf
  · intro i τ hi hI ih
    have ii := ix288 hw hi
    refine b_Play_tryOut_15 E (nI a) (nI w) (nI i) τ ⟨fun q => absurd q (nI_ge hi (by decide)), fun _ => ⟨ii, fun _ => ?_, fun _ => ⟨ia, ?_⟩⟩⟩
    · rw [nI_1]; exact ih τ hI
    · rintro σ1 rfl
      refine ⟨ia, ?_⟩
      rintro σ2 rfl
      exact ⟨_, rfl, (hI.up (by decide)).up (by decide)⟩
  · intro τ hI
    exact b_Play_tryOut_15 E (nI a) (nI w) (nI 12) τ ⟨fun _ => ⟨ia, _, rfl, hI⟩, fun q => absurd (by decide) q⟩
theorem s_Play_takeLengths (G : zG) (σ : zSt) (a w : Nat) (ha : a < 12) (hw : w + 12 ≤ 288) : zI G 1 M_Play_takeLengths [zf G 4, zf G 2, .int (nI a), .int (nI w)] σ (fun _ τ => zFr [16, 17] σ τ) := by
  refine zSpec.of (by decide) (Nat.le_of_ble_eq_true rfl) rfl (fun X E => ?_)
  have ia : vp_in (nI a) 12 := vp_in_nI ha (by decide)
  refine b_Play_takeLengths_0 E (nI a) (nI w) σ ⟨ia, ?_⟩
  generalize σ 16 (nI a).toNatClampNeg = b0
  refine z_for 12 (fun i τ => zZ G M_Play_takeLengths 1 X (fun r τ => ∃ x : Int32, r = some (.int x) ∧ zFr [16, 17] σ τ) 11 [(0, zf G 4), (1, zf G 2), (2, .int (nI a)), (3, .int (nI w)), (4, .int b0), (5, .int (nI i))] [] τ) (fun _ τ => zFr [16, 17] σ τ) ?_ ?_ 0 σ (Nat.zero_le _) zFr.rf
  · intro i τ hi hI ih
    have ii := ix288 hw hi
    have tail : ∀ x y : Int32, zZ G M_Play_takeLengths 1 X (fun r τ => ∃ x : Int32, r = some (.int x) ∧ zFr [16, 17] σ τ) 70 [(0, zf G 4), (1, zf G 2), (2, .int (nI a)), (3, .int (nI w)), (4, .int b0), (5, .int (nI i)), (6, .int x), (7, .int y)] [] τ := by
      intro x y
      refine b_Play_takeLengths_70 E (nI a) (nI w) b0 (nI i) x y τ ⟨ii, fun _ => ?_, fun _ => ⟨fun _ => ?_, fun _ => ⟨ia, ?_⟩⟩⟩
      · rw [nI_1]; exact ih τ hI
      · rw [nI_1]; exact ih τ hI
      · rintro σ1 rfl
        refine ⟨ia, ?_⟩
        rintro σ2 rfl
        rw [nI_1]
        exact ih _ ((hI.up (by decide)).up (by decide))
    exact b_Play_takeLengths_11 E (nI a) (nI w) b0 (nI i) τ ⟨fun q => absurd q (nI_ge hi (by decide)), fun _ => ⟨ii, ix144 ha hi, ia, fun _ => tail _ _, fun _ => ⟨ia, fun _ => tail _ _, fun _ => tail _ _⟩⟩⟩
  · intro τ hI
    exact b_Play_takeLengths_11 E (nI a) (nI w) b0 (nI 12) τ ⟨fun _ => ⟨ia, fun _ => ⟨ia, _, rfl, hI⟩, fun _ => ⟨_, rfl, hI⟩⟩, fun q => absurd (by decide) q⟩
theorem s_Play_laterNote (G : zG) (σ : zSt) (a w : Nat) (r : Int32) (ha : a < 12) (hw : w + 12 ≤ 288) : zI G 2 M_Play_laterNote [zf G 4, zf G 2, .int (nI a), .int r, .int (nI w)] σ (fun _ τ => zFr [16, 17] σ τ) := by
  refine zSpec.of (by decide) (Nat.le_of_ble_eq_true rfl) rfl (fun X E => ?_)
  exact b_Play_laterNote_0 E (nI a) r (nI w) σ ⟨fun _ => ⟨_, s_Play_takeWave G σ a w ha hw, fun _ _ h => ⟨_, rfl, h⟩⟩, fun _ => ⟨_, s_Play_takeGreatest G σ a w ha hw, fun _ _ h => ⟨_, rfl, h⟩⟩, fun _ => ⟨fun _ => ⟨_, s_Play_tryOut G σ a w ha hw, fun _ _ h => ⟨_, rfl, h⟩⟩, fun _ => ⟨_, s_Play_tryIn G σ a w ha hw, fun _ _ h => ⟨_, rfl, h⟩⟩⟩, fun _ => ⟨_, s_Play_takeLengths G σ a w ha hw, fun _ _ h => ⟨_, rfl, h⟩⟩⟩
theorem s_Play_firstNote (G : zG) (σ : zSt) (a : Nat) (ha : a < 12) : zI G 0 M_Play_firstNote [zf G 4, zf G 2, .int (nI a)] σ (fun _ τ => τ = σ) := by
  refine zSpec.of (by decide) (Nat.le_of_ble_eq_true rfl) rfl (fun X E => ?_)
  have ia : vp_in (nI a) 12 := vp_in_nI ha (by decide)
  exact b_Play_firstNote_0 E (nI a) σ ⟨fun _ => ⟨fun _ => ⟨_, rfl, rfl⟩, fun _ => ⟨_, rfl, rfl⟩⟩, fun _ => ⟨fun _ => ⟨_, rfl, rfl⟩, fun _ => ⟨_, rfl, rfl⟩⟩, fun _ => ⟨ia, _, rfl, rfl⟩⟩
theorem s_Play_firstValue (G : zG) (σ : zSt) (a : Nat) (ha : a < 12) : zI G 0 M_Play_firstValue [zf G 4, zf G 2, .int (nI a)] σ (fun _ τ => τ = σ) := by
  refine zSpec.of (by decide) (Nat.le_of_ble_eq_true rfl) rfl (fun X E => ?_)
  have ia : vp_in (nI a) 12 := vp_in_nI ha (by decide)
  exact b_Play_firstValue_0 E (nI a) σ ⟨fun _ => ⟨ia, _, rfl, rfl⟩, fun _ => ⟨_, rfl, rfl⟩, fun _ => ⟨fun _ => ⟨_, rfl, rfl⟩, fun _ => ⟨_, rfl, rfl⟩⟩⟩
theorem s_Play_reset (G : zG) (σ : zSt) (p s : Int32) : zV G 1 M_Play_reset [zf G 4, zf G 2, .int p, .int s] σ (fun τ => zFr [4, 16, 17, 18] σ τ) := by
  refine zSpec.of (by decide) (Nat.le_of_ble_eq_true rfl) rfl (fun X E => ?_)
  refine b_Play_reset_0 E p s σ ?_
  rintro σ1 rfl σ2 rfl
  refine ⟨_, s_fill G 17 12 rfl (by decide) _ _, ?_⟩
  rintro σ3 rfl
  refine ⟨_, s_fill G 18 288 rfl (by decide) _ _, ?_⟩
  rintro σ4 rfl
  refine z_for 12 (fun i τ => zZ G M_Play_reset 1 X (fun r τ => r = none ∧ zFr [4, 16, 17, 18] σ τ) 31 [(0, zf G 4), (1, zf G 2), (4, .int (nI i))] [] τ) (fun _ τ => zFr [4, 16, 17, 18] σ τ) ?_ ?_ 0 _ (Nat.zero_le _) ((((zFr.rf.up (by decide)).up (by decide)).fill (by decide)).fill (by decide))
  · intro i τ hi hI ih
    refine b_Play_reset_31 E (nI i) τ ⟨fun q => absurd q (nI_ge hi (by decide)), fun _ => ⟨_, s_Play_firstValue G τ i hi, ?_⟩⟩
    rintro x σ1 rfl
    refine ⟨vp_in_nI hi (by decide), ?_⟩
    rintro σ3 rfl
    rw [nI_1]
    exact ih _ (hI.up (by decide))
  · intro τ hI
    exact b_Play_reset_31 E (nI 12) τ ⟨fun _ => ⟨rfl, hI⟩, fun q => absurd (by decide) q⟩
theorem noteRow_of (r : Int32) (a : Nat) : ∃ w, (r &&& 1) * 144 + nI a * 12 = nI (w * 144 + a * 12) ∧ w < 2 := by
  obtain ⟨j, hj, e⟩ := pk_andE r (m := 1) 1 (by decide)
  refine ⟨j, ?_, hj⟩
  rw [e, show (144 : Int32) = nI 144 from rfl, show (12 : Int32) = nI 12 from rfl, pk_mul, pk_mul, nI_add]
theorem s_Play_keepNote (G : zG) (σ : zSt) (a b : Nat) (r v : Int32) (ha : a < 12) (hb : b < 12) : zV G 1 M_Play_keepNote [zf G 4, .int (nI a), .int (nI b), .int r, .int v] σ (fun τ => zFr [18] σ τ) := by
  refine zSpec.of (by decide) (Nat.le_of_ble_eq_true rfl) rfl (fun X E => ?_)
  obtain ⟨w, e, hw⟩ := noteRow_of r b
  refine b_Play_keepNote_0 E (nI a) (nI b) r v σ ⟨by rw [e, nI_add]; exact vp_in_nI (by omega) (by decide), ?_⟩
  rintro σ1 rfl
  exact ⟨rfl, zFr.rf.up (by decide)⟩
theorem s_Play_doRound (G : zG) (σ : zSt) (a : Nat) (r : Int32) (ha : a < 12) : zI G 3 M_Play_doRound [zf G 4, zf G 2, .int (nI a), .int r] σ (fun _ τ => zFr [16, 17, 18] σ τ) := by
  refine zSpec.of (by decide) (Nat.le_of_ble_eq_true rfl) rfl (fun X E => ?_)
  obtain ⟨w, e, hw⟩ := noteRow_of (r - 1) a
  have tail : ∀ (x : Int32) (υ : zSt), zFr [16, 17, 18] σ υ → zZ G M_Play_doRound 3 X (fun r τ => ∃ x : Int32, r = some (.int x) ∧ zFr [16, 17, 18] σ τ) 37 [(0, zf G 4), (4, .int (nI (w * 144 + a * 12))), (5, .int x), (6, .int (0 : Int32))] [] υ := by
    intro x υ hυ
    refine z_for 12 (fun i τ => zZ G M_Play_doRound 3 X (fun r τ => ∃ x : Int32, r = some (.int x) ∧ zFr [16, 17, 18] σ τ) 37 [(0, zf G 4), (4, .int (nI (w * 144 + a * 12))), (5, .int x), (6, .int (nI i))] [] τ) (fun _ τ => zFr [16, 17, 18] σ τ) ?_ ?_ 0 υ (Nat.zero_le _) hυ
    · intro i τ hi hI ih
      refine b_Play_doRound_37 E (nI (w * 144 + a * 12)) x (nI i) τ ⟨fun q => absurd q (nI_ge hi (by decide)), fun _ => ⟨ix288 (by omega) hi, ?_⟩⟩
      rintro σ1 rfl
      rw [nI_1]
      exact ih _ (hI.up (by decide))
    · intro τ hI
      exact b_Play_doRound_37 E (nI (w * 144 + a * 12)) x (nI 12) τ ⟨fun _ => ⟨_, rfl, hI⟩, fun q => absurd (by decide) q⟩
  refine b_Play_doRound_0 E (nI a) r σ ⟨fun _ => ?_, fun _ => ?_⟩
  · rw [e]
    refine ⟨_, s_Play_laterNote G σ a _ r ha (by omega), fun x τ h => tail x τ (h.mono (by decide))⟩
  · refine ⟨_, s_Play_firstNote G σ a ha, ?_⟩
    rintro x τ rfl
    rw [e]
    exact tail x _ zFr.rf
end
section
-- Pool: the letters that wait, as a list
abbrev Lt : Type := Int32 × Int32 × Int32 × Int32 × Int32
def plt (σ : zSt) (i : Nat) : Lt := (σ 19 i, σ 20 i, σ 21 i, σ 22 i, σ 23 i)
def PV (σ : zSt) (l : List Lt) : Prop := σ 5 0 = nI l.length ∧ l.length ≤ 528 ∧ ∀ i, i < l.length → l[i]? = some (plt σ i)
abbrev FPool : List Nat := [5, 19, 20, 21, 22, 23]
def padd (l : List Lt) (x : Lt) : List Lt := if l.length < 528 then l ++ [x] else l
theorem PV.of {σ τ : zSt} {l : List Lt} (h : PV σ l) (e : ∀ c, c ∈ FPool → τ c = σ c) : PV τ l := by
  obtain ⟨h1, h2, h3⟩ := h
  refine ⟨by rw [e 5 (by decide)]; exact h1, h2, fun i hi => ?_⟩
  rw [h3 i hi]
  simp only [plt, e 19 (by decide), e 20 (by decide), e 21 (by decide), e 22 (by decide), e 23 (by decide)]
theorem s_Pool_add (G : zG) (σ : zSt) (l : List Lt) (k f t r n : Int32) (h : PV σ l) : zV G 0 M_Pool_add [zf G 5, .int k, .int f, .int t, .int r, .int n] σ (fun τ => PV τ (padd l (k, f, t, r, n)) ∧ zFr FPool σ τ) := by
  refine zSpec.of (by decide) (Nat.le_of_ble_eq_true rfl) rfl (fun X E => ?_)
  obtain ⟨h1, h2, h3⟩ := h
  refine b_Pool_add_0 E k f t r n σ ⟨fun q => ?_, fun q => ?_⟩
  · have hl : l.length < 528 := by
      rw [h1] at q
      exact (nI_ltI (by omega) (by decide)).mp q
    have e5 : ∀ {υ : zSt} {c : Nat} {j : Nat} {v : Int32}, 5 ≠ c → zup υ c j v 5 = υ 5 := fun hc => zup_ne hc
    have i0 : vp_in (σ 5 0) 528 := by rw [h1]; exact vp_in_nI hl (by decide)
    have cl : (nI l.length).toNatClampNeg = l.length := nI_clamp (by omega)
    refine ⟨i0, fun σ1 e1 => ?_⟩
    have g1 : σ1 5 0 = nI l.length := by rw [e1, e5 (by decide), h1]
    refine ⟨by rw [g1, ← h1]; exact i0, fun σ2 e2 => ?_⟩
    have g2 : σ2 5 0 = nI l.length := by rw [e2, e5 (by decide), g1]
    refine ⟨by rw [g2, ← h1]; exact i0, fun σ3 e3 => ?_⟩
    have g3 : σ3 5 0 = nI l.length := by rw [e3, e5 (by decide), g2]
    refine ⟨by rw [g3, ← h1]; exact i0, fun σ4 e4 => ?_⟩
    have g4 : σ4 5 0 = nI l.length := by rw [e4, e5 (by decide), g3]
    refine ⟨by rw [g4, ← h1]; exact i0, fun σ5 e5' => ?_⟩
    have g5 : σ5 5 0 = nI l.length := by rw [e5', e5 (by decide), g4]
    intro σ6 e6
    rw [h1, cl] at e1
    rw [g1, cl] at e2
    rw [g2, cl] at e3
    rw [g3, cl] at e4
    rw [g4, cl] at e5'
    rw [g5, nI_1] at e6
    have at19 : σ6 19 = upd (σ 19) l.length k := by
      rw [e6, zup_ne (by decide), e5', zup_ne (by decide), e4, zup_ne (by decide), e3, zup_ne (by decide), e2, zup_ne (by decide), e1, zup_self]
    have at20 : σ6 20 = upd (σ 20) l.length f := by
      rw [e6, zup_ne (by decide), e5', zup_ne (by decide), e4, zup_ne (by decide), e3, zup_ne (by decide), e2, zup_self, e1, zup_ne (by decide)]
    have at21 : σ6 21 = upd (σ 21) l.length t := by
      rw [e6, zup_ne (by decide), e5', zup_ne (by decide), e4, zup_ne (by decide), e3, zup_self, e2, zup_ne (by decide), e1, zup_ne (by decide)]
    have at22 : σ6 22 = upd (σ 22) l.length r := by
      rw [e6, zup_ne (by decide), e5', zup_ne (by decide), e4, zup_self, e3, zup_ne (by decide), e2, zup_ne (by decide), e1, zup_ne (by decide)]
    have at23 : σ6 23 = upd (σ 23) l.length n := by
      rw [e6, zup_ne (by decide), e5', zup_self, e4, zup_ne (by decide), e3, zup_ne (by decide), e2, zup_ne (by decide), e1, zup_ne (by decide)]
    refine ⟨rfl, ⟨?_, ?_, ?_⟩, ?_⟩
    · rw [e6]; simp [zup, padd, hl]
    · simp [padd, hl]; omega
    · intro i hi
      simp only [padd, hl, if_true, List.length_append, List.length_cons, List.length_nil] at hi ⊢
      simp only [plt, at19, at20, at21, at22, at23]
      by_cases hil : i < l.length
      · rw [List.getElem?_append_left hil, h3 i hil]
        simp [plt, upd, Nat.ne_of_lt hil]
      · have e : i = l.length := by omega
        subst e
        simp [upd]
    · rw [e6, e5', e4, e3, e2, e1]
      exact (((((zFr.rf.up (by decide)).up (by decide)).up (by decide)).up (by decide)).up (by decide)).up (by decide)
  · have hl : ¬ l.length < 528 := by
      rw [h1] at q
      exact fun z => q (nI_lt z (by decide))
    exact ⟨rfl, by simp only [padd, hl, if_false]; exact ⟨h1, h2, h3⟩, zFr.rf⟩
theorem s_Pool_closeGap (G : zG) (σ : zSt) (ck i k : Nat) (hck : zS[ck]? = some (.inl (.int, 528))) (hk : σ 5 0 = nI k) (hi : i ≤ k) (hle : k < 528) : zV G 1 M_Pool_closeGap [zf G 5, zf G ck, .int (nI i)] σ (fun τ => τ = zcpy σ ck (i + 1) i (k - i)) := by
  refine zSpec.of (by decide) (Nat.le_of_ble_eq_true rfl) rfl (fun X E => ?_)
  have e1 : nI i + 1 = nI (i + 1) := nI_1 i
  have e2 : nI k - nI i = nI (k - i) := pk_sub hi
  have c1 : (nI i).toNatClampNeg = i := nI_clamp (by omega)
  have c2 : (nI (i + 1)).toNatClampNeg = i + 1 := nI_clamp (by omega)
  have c3 : (nI (k - i)).toNatClampNeg = k - i := nI_clamp (by omega)
  refine b_Pool_closeGap_0 E (nI i) ck hck σ ?_
  rw [hk, e1, e2, c1, c2, c3]
  refine ⟨⟨nI_pos (by omega), nI_pos (by omega), nI_pos (by omega), by omega, by omega⟩, fun σ1 h1 => ⟨rfl, h1⟩⟩
theorem zcpy_gap {σ : zSt} {c i k j : Nat} (hj : j < k) (hi : i ≤ k) : zcpy σ c (i + 1) i (k - i) c j = if j < i then σ c j else σ c (j + 1) := by
  rw [zcpy_self]
  unfold va_cpy
  by_cases h : j < i
  · have h2 : ¬ (i ≤ j ∧ j < i + (k - i)) := by omega
    rw [if_neg h2, if_pos h]
  · have h2 : i ≤ j ∧ j < i + (k - i) := by omega
    rw [if_pos h2, if_neg h]
    congr 1
    omega
theorem s_Pool_remove (G : zG) (σ : zSt) (l : List Lt) (i : Nat) (h : PV σ l) (hi : i < l.length) : zV G 2 M_Pool_remove [zf G 5, .int (nI i)] σ (fun τ => PV τ (l.eraseIdx i) ∧ zFr FPool σ τ) := by
  refine zSpec.of (by decide) (Nat.le_of_ble_eq_true rfl) rfl (fun X E => ?_)
  obtain ⟨h1, h2, h3⟩ := h
  obtain ⟨k, hk⟩ : ∃ k, l.length = k + 1 := ⟨l.length - 1, by omega⟩
  rw [hk] at h1 h2 hi
  refine b_Pool_remove_0 E (nI i) σ ⟨fun q => absurd q (nI_pos (by omega)), fun _ => ⟨fun _ => ?_, fun q => absurd (by rw [h1]; exact nI_lt hi (by omega)) q⟩⟩
  intro σ1 e1
  rw [h1, show (1 : Int32) = nI 1 from rfl, pk_sub (by omega), Nat.add_sub_cancel] at e1
  have g1 : σ1 5 0 = nI k := by rw [e1]; simp [zup]
  refine ⟨_, s_Pool_closeGap G σ1 19 i k rfl g1 (by omega) (by omega), fun σ2 e2 => ?_⟩
  have g2 : σ2 5 0 = nI k := by rw [e2, zcpy_ne (by decide), g1]
  refine ⟨_, s_Pool_closeGap G σ2 20 i k rfl g2 (by omega) (by omega), fun σ3 e3 => ?_⟩
  have g3 : σ3 5 0 = nI k := by rw [e3, zcpy_ne (by decide), g2]
  refine ⟨_, s_Pool_closeGap G σ3 21 i k rfl g3 (by omega) (by omega), fun σ4 e4 => ?_⟩
  have g4 : σ4 5 0 = nI k := by rw [e4, zcpy_ne (by decide), g3]
  refine ⟨_, s_Pool_closeGap G σ4 22 i k rfl g4 (by omega) (by omega), fun σ5 e5 => ?_⟩
  have g5 : σ5 5 0 = nI k := by rw [e5, zcpy_ne (by decide), g4]
  refine ⟨_, s_Pool_closeGap G σ5 23 i k rfl g5 (by omega) (by omega), fun σ6 e6 => ?_⟩
  have g6 : σ6 5 0 = nI k := by rw [e6, zcpy_ne (by decide), g5]
  have a19 : ∀ j, j < k → σ6 19 j = if j < i then σ 19 j else σ 19 (j + 1) := fun j hj => by
    rw [e6, zcpy_ne (by decide), e5, zcpy_ne (by decide), e4, zcpy_ne (by decide), e3, zcpy_ne (by decide), e2, zcpy_gap hj (by omega), e1, zup_ne (by decide)]
  have a20 : ∀ j, j < k → σ6 20 j = if j < i then σ 20 j else σ 20 (j + 1) := fun j hj => by
    rw [e6, zcpy_ne (by decide), e5, zcpy_ne (by decide), e4, zcpy_ne (by decide), e3, zcpy_gap hj (by omega), e2, zcpy_ne (by decide), e1, zup_ne (by decide)]
  have a21 : ∀ j, j < k → σ6 21 j = if j < i then σ 21 j else σ 21 (j + 1) := fun j hj => by
    rw [e6, zcpy_ne (by decide), e5, zcpy_ne (by decide), e4, zcpy_gap hj (by omega), e3, zcpy_ne (by decide), e2, zcpy_ne (by decide), e1, zup_ne (by decide)]
  have a22 : ∀ j, j < k → σ6 22 j = if j < i then σ 22 j else σ 22 (j + 1) := fun j hj => by
    rw [e6, zcpy_ne (by decide), e5, zcpy_gap hj (by omega), e4, zcpy_ne (by decide), e3, zcpy_ne (by decide), e2, zcpy_ne (by decide), e1, zup_ne (by decide)]
  have a23 : ∀ j, j < k → σ6 23 j = if j < i then σ 23 j else σ 23 (j + 1) := fun j hj => by
    rw [e6, zcpy_gap hj (by omega), e5, zcpy_ne (by decide), e4, zcpy_ne (by decide), e3, zcpy_ne (by decide), e2, zcpy_ne (by decide), e1, zup_ne (by decide)]
  have hlen : (l.eraseIdx i).length = k := by
    rw [List.length_eraseIdx_of_lt (by omega)]; omega
  refine ⟨rfl, ⟨by rw [hlen]; exact g6, by omega, fun j hj => ?_⟩, ?_⟩
  · rw [hlen] at hj
    rw [List.getElem?_eraseIdx]
    simp only [plt, a19 j hj, a20 j hj, a21 j hj, a22 j hj, a23 j hj]
    by_cases hji : j < i
    · simp only [hji, if_true]
      rw [h3 j (by omega)]
      rfl
    · simp only [hji, if_false]
      rw [h3 (j + 1) (by omega)]
      rfl
  · rw [e6, e5, e4, e3, e2, e1]
    exact (((((zFr.rf.up (by decide)).cpy (by decide)).cpy (by decide)).cpy (by decide)).cpy (by decide)).cpy (by decide)
end
section
-- Frame: who is below whom; safety, and the two facts that the running needs
abbrev FFrame : List Nat := [3, 9, 10, 11, 12, 13, 14, 15]
/-- (a) who is in a 'below' has that upper and a level of one or more; (b) a leader of itself has level 0 -/
def TI (σ : zSt) : Prop := (∀ c u, c < 12 → u < 12 → zIn (σ 13 u) (nI c) = true → σ 10 c = nI u ∧ u ≠ c ∧ ∃ k, k < 13 ∧ σ 11 c = nI (k + 1)) ∧ (∀ c, c < 12 → σ 9 c = nI c → σ 11 c = 0)
def TreeOK (σ : zSt) : Prop := ∀ c u, c < 12 → u < 12 → zIn (σ 13 u) (nI c) = true → σ 10 c = nI u ∧ u ≠ c ∧ ¬ σ 9 c = nI c
theorem nI_ne_m2 {k : Nat} (hk : k < 1000) : ¬ nI k = (-2 : Int32) := by
  intro e
  have h1 := nI_toInt (n := k) (by omega)
  rw [e] at h1
  have h2 : ((-2 : Int32)).toInt = -2 := by decide
  omega
theorem TI.ok {σ : zSt} (h : TI σ) : TreeOK σ := by
  intro c u hc hu hz
  obtain ⟨h1, h0, k, hk, h2⟩ := h.1 c u hc hu hz
  refine ⟨h1, h0, fun e => ?_⟩
  have h3 := h.2 c hc e
  rw [h2] at h3
  exact nI_ne0 (by omega) (by omega) h3
theorem s_Frame_clear (G : zG) (σ : zSt) : zV G 1 M_Frame_clear [zf G 3] σ (fun τ => zFr FFrame σ τ ∧ TI τ ∧ (∀ c, c < 12 → τ 11 c = -2) ∧ (∀ u, u < 12 → τ 13 u = 0)) := by
  refine zSpec.of (by decide) (Nat.le_of_ble_eq_true rfl) rfl (fun X E => ?_)
  refine b_Frame_clear_0 E σ ?_
  rintro σ1 e1 σ2 e2
  refine ⟨_, s_fill G 9 12 rfl (by decide) _ _, fun σ3 e3 => ?_⟩
  refine ⟨_, s_fill G 10 12 rfl (by decide) _ _, fun σ4 e4 => ?_⟩
  refine ⟨_, s_fill G 11 12 rfl (by decide) _ _, fun σ5 e5 => ?_⟩
  refine ⟨_, s_fill G 12 12 rfl (by decide) _ _, fun σ6 e6 => ?_⟩
  refine ⟨_, s_fill G 13 12 rfl (by decide) _ _, fun σ7 e7 => ?_⟩
  refine ⟨_, s_fill G 14 12 rfl (by decide) _ _, fun σ8 e8 => ?_⟩
  refine ⟨_, s_fill G 15 12 rfl (by decide) _ _, fun σ9 e9 => ?_⟩
  have lv : ∀ c, c < 12 → σ9 11 c = -2 := fun c hc => by
    rw [e9, zfill_ne (by decide), e8, zfill_ne (by decide), e7, zfill_ne (by decide), e6, zfill_ne (by decide), e5]
    simp [zfill, hc]
  have ld : ∀ c, c < 12 → σ9 9 c = -2 := fun c hc => by
    rw [e9, zfill_ne (by decide), e8, zfill_ne (by decide), e7, zfill_ne (by decide), e6, zfill_ne (by decide), e5, zfill_ne (by decide), e4, zfill_ne (by decide), e3]
    simp [zfill, hc]
  have bl : ∀ u, u < 12 → σ9 13 u = 0 := fun c hc => by
    rw [e9, zfill_ne (by decide), e8, zfill_ne (by decide), e7]
    simp [zfill, hc]
  refine ⟨rfl, ?_, ⟨fun c u hc hu hz => ?_, fun c hc h9 => absurd (h9.symm.trans (ld c hc)) (nI_ne_m2 (by omega))⟩, lv, bl⟩
  · rw [e9, e8, e7, e6, e5, e4, e3, e2, e1]
    exact ((((((((zFr.rf.up (by decide)).up (by decide)).fill (by decide)).fill (by decide)).fill (by decide)).fill (by decide)).fill (by decide)).fill (by decide)).fill (by decide)
  · rw [bl u hu, zIn_0 (by omega)] at hz
    cases hz
theorem s_Frame_standAlone (G : zG) (σ : zSt) (n : Nat) (hn : σ 2 0 = nI n) (hle : n ≤ 12) (hb : ∀ u, u < 12 → σ 13 u = 0) : zV G 0 M_Frame_standAlone [zf G 3, zf G 2] σ (fun τ => zFr FFrame σ τ ∧ TreeOK τ ∧ ∀ u, u < 12 → τ 13 u = 0) := by
  refine zSpec.of (by decide) (Nat.le_of_ble_eq_true rfl) rfl (fun X E => ?_)
  refine b_Frame_standAlone_0 E σ ?_
  have hp : ∀ τ, zFr [9, 14] σ τ → zFr FFrame σ τ ∧ TreeOK τ ∧ ∀ u, u < 12 → τ 13 u = 0 := fun τ h => by
    have h13 : τ 13 = σ 13 := h 13 (by decide)
    refine ⟨h.mono (by decide), fun c u hc hu hz => ?_, fun u hu => by rw [h13]; exact hb u hu⟩
    rw [h13, hb u hu, zIn_0 (by omega)] at hz
    cases hz
  refine z_for n (fun i τ => zZ G M_Frame_standAlone 0 X (fun r τ => r = none ∧ zFr FFrame σ τ ∧ TreeOK τ ∧ ∀ u, u < 12 → τ 13 u = 0) 2 [(0, zf G 3), (1, zf G 2), (2, .int (nI i))] [] τ) (fun _ τ => zFr [9, 14] σ τ) ?_ ?_ 0 σ (Nat.zero_le _) zFr.rf
  · intro i τ hi hI ih
    have ii : vp_in (nI i) 12 := vp_in_nI (by omega) (by decide)
    refine b_Frame_standAlone_2 E (nI i) τ ⟨fun q => absurd q (by rw [hI 2 (by decide), hn]; exact nI_ge hi (by omega)), fun _ => ⟨ii, fun σ1 e1 => ⟨ii, ii, fun σ2 e2 => ?_⟩⟩⟩
    rw [nI_1]
    refine ih σ2 ?_
    rw [e2, e1]
    exact (hI.up (by decide)).up (by decide)
  · intro τ hI
    exact b_Frame_standAlone_2 E (nI n) τ ⟨fun _ => ⟨rfl, hp τ hI⟩, fun q => absurd (by rw [hI 2 (by decide), hn]; exact nI_le (Nat.le_refl n) (by omega)) q⟩
/-- hang: the node stays without a level, or it gets level k+1 and an upper; nothing else changes its level -/
theorem s_Frame_hang (G : zG) (σ : zSt) (n a k : Nat) (set : Int32) (hn : σ 2 0 = nI n) (hle : n ≤ 12) (ha : a < 12) (hk : k < 13) (hT : TI σ) (hl : σ 11 a = -2) : zV G 1 M_Frame_hang [zf G 3, zf G 2, .int (nI a), .int set, .int (nI k)] σ (fun τ => zFr [10, 11, 12, 13] σ τ ∧ TI τ ∧ ∀ c, c ≠ a → τ 11 c = σ 11 c) := by
  refine zSpec.of (by decide) (Nat.le_of_ble_eq_true rfl) rfl (fun X E => ?_)
  have ia : vp_in (nI a) 12 := vp_in_nI ha (by decide)
  refine b_Frame_hang_0 E (nI a) set (nI k) σ ⟨ia, ?_⟩
  generalize σ 7 (nI a).toNatClampNeg &&& set = cand
  refine z_for n (fun i (_ : Unit) => zZ G M_Frame_hang 1 X (fun r τ => r = none ∧ zFr [10, 11, 12, 13] σ τ ∧ TI τ ∧ ∀ c, c ≠ a → τ 11 c = σ 11 c) 13 [(0, zf G 3), (1, zf G 2), (2, .int (nI a)), (4, .int (nI k)), (5, .int cand), (6, .int (nI i))] [] σ) (fun _ _ => True) ?_ ?_ 0 () (Nat.zero_le _) trivial
  · intro i _ hi _ ih
    have ii : vp_in (nI i) 12 := vp_in_nI (by omega) (by decide)
    have ca : (nI a).toNatClampNeg = a := nI_clamp (by omega)
    have ci : (nI i).toNatClampNeg = i := nI_clamp (by omega)
    refine b_Frame_hang_13 E (nI a) (nI k) cand (nI i) σ ⟨fun q => absurd q (by rw [hn]; exact nI_ge hi (by omega)), fun _ => ⟨fun _ => by rw [nI_1]; exact ih () trivial, fun _ => ⟨ii, fun _ => by rw [nI_1]; exact ih () trivial, fun hlv => ⟨ia, fun σ1 e1 => ⟨ia, fun σ2 e2 => ⟨ia, fun σ3 e3 => ⟨ii, ii, fun σ4 e4 => ?_⟩⟩⟩⟩⟩⟩⟩
    rw [ca, nI_1] at e1
    rw [ca] at e2 e3
    rw [ci] at e4
    have a11 : ∀ c, σ4 11 c = if c = a then nI (k + 1) else σ 11 c := fun c => by
      rw [e4, zup_ne (by decide), e3, zup_ne (by decide), e2, zup_ne (by decide), e1, zup_self]
      simp [upd]
    have a10 : ∀ c, σ4 10 c = if c = a then nI i else σ 10 c := fun c => by
      rw [e4, zup_ne (by decide), e3, zup_ne (by decide), e2, zup_self, e1, zup_ne (by decide)]
      simp [upd]
    have a13 : ∀ u, σ4 13 u = if u = i then σ 13 i ||| ((1 : Int32) <<< (nI a &&& 31)) else σ 13 u := fun u => by
      have e0 : σ3 13 = σ 13 := by rw [e3, zup_ne (by decide), e2, zup_ne (by decide), e1, zup_ne (by decide)]
      rw [e4, zup_self, e0]
      simp [upd]
    have a9 : σ4 9 = σ 9 := by rw [e4, zup_ne (by decide), e3, zup_ne (by decide), e2, zup_ne (by decide), e1, zup_ne (by decide)]
    have na : ∀ u, u < 12 → zIn (σ 13 u) (nI a) = false := fun u hu => by
      cases hz : zIn (σ 13 u) (nI a) with
      | false => rfl
      | true =>
        obtain ⟨_, _, k2, hk2, h2⟩ := hT.1 a u ha hu hz
        rw [hl] at h2
        exact absurd h2.symm (nI_ne_m2 (by omega))
    refine ⟨rfl, ?_, ⟨fun c u hc hu hz => ?_, fun c hc h9 => ?_⟩, fun c hc => ?_⟩
    · rw [e4, e3, e2, e1]
      exact (((zFr.rf.up (by decide)).up (by decide)).up (by decide)).up (by decide)
    · rw [a10, a11]
      by_cases hca : c = a
      · subst hca
        simp only [if_true]
        have hic : i ≠ c := fun e => by
          rw [ci, e, hl] at hlv
          exact nI_ne_m2 (by omega) hlv.symm
        by_cases hui : u = i
        · exact ⟨by rw [hui], by rw [hui]; exact hic, k, hk, rfl⟩
        · rw [a13, if_neg hui, na u hu] at hz
          cases hz
      · simp only [hca, if_false]
        refine hT.1 c u hc hu ?_
        rw [a13] at hz
        by_cases hui : u = i
        · rw [if_pos hui, zIn_or _ _ (by omega), zIn_bit (by omega) (by omega), decide_eq_false hca, Bool.or_false] at hz
          rw [hui]; exact hz
        · rwa [if_neg hui] at hz
    · rw [a9] at h9
      rw [a11]
      by_cases hca : c = a
      · subst hca
        exact absurd ((hT.2 c hc h9).symm.trans hl) (by decide)
      · simp only [hca, if_false]
        exact hT.2 c hc h9
    · rw [a11, if_neg hc]
  · intro _ _
    exact b_Frame_hang_13 E (nI a) (nI k) cand (nI n) σ ⟨fun _ => ⟨rfl, zFr.rf, hT, fun _ _ => rfl⟩, fun q => absurd (by rw [hn]; exact nI_le (Nat.le_refl n) (by omega)) q⟩
/-- growTree: who is in the set gets the leader root; the levels of the others stay -/
theorem s_Frame_growTree (G : zG) (σ : zSt) (n root : Nat) (set : Int32) (hn : σ 2 0 = nI n) (hle : n ≤ 12) (hr : root < 12) (hT : TI σ) (hl : σ 11 root = -2) (hin : zIn set (nI root) = true) : zV G 2 M_Frame_growTree [zf G 3, zf G 2, .int set, .int (nI root)] σ (fun τ => zFr [9, 10, 11, 12, 13] σ τ ∧ TI τ ∧ (∀ c, c < 12 → zIn set (nI c) = false → τ 11 c = σ 11 c ∧ τ 9 c = σ 9 c) ∧ (∀ c, c < n → zIn set (nI c) = true → τ 9 c = nI root)) := by
  refine zSpec.of (by decide) (Nat.le_of_ble_eq_true rfl) rfl (fun X E => ?_)
  have ir : vp_in (nI root) 12 := vp_in_nI hr (by decide)
  have cr : (nI root).toNatClampNeg = root := nI_clamp (by omega)
  have nr : ∀ u, u < 12 → zIn (σ 13 u) (nI root) = false := fun u hu => by
    cases hz : zIn (σ 13 u) (nI root) with
    | false => rfl
    | true =>
      obtain ⟨_, _, k2, hk2, h2⟩ := hT.1 root u hr hu hz
      rw [hl] at h2
      exact absurd h2.symm (nI_ne_m2 (by omega))
  -- the invariant of the three loops
  let J : zSt → Prop := fun τ => zFr [9, 10, 11, 12, 13] σ τ ∧ TI τ ∧ τ 11 root = 0 ∧ (∀ c, c < 12 → zIn set (nI c) = false → τ 11 c = σ 11 c ∧ τ 9 c = σ 9 c)
  have hp : ∀ (i : Nat) (υ : zSt), i ≤ n → J υ → (∀ c, c < i → zIn set (nI c) = true → υ 9 c = nI root) → zZ G M_Frame_growTree 2 X (fun r τ => r = none ∧ zFr [9, 10, 11, 12, 13] σ τ ∧ TI τ ∧ (∀ c, c < 12 → zIn set (nI c) = false → τ 11 c = σ 11 c ∧ τ 9 c = σ 9 c) ∧ (∀ c, c < n → zIn set (nI c) = true → τ 9 c = nI root)) 84 [(0, zf G 3), (1, zf G 2), (2, .int set), (3, .int (nI root)), (4, .int (nI i))] [] υ := by
    intro i υ hi hJ hd
    refine z_for n (fun i τ => zZ G M_Frame_growTree 2 X (fun r τ => r = none ∧ zFr [9, 10, 11, 12, 13] σ τ ∧ TI τ ∧ (∀ c, c < 12 → zIn set (nI c) = false → τ 11 c = σ 11 c ∧ τ 9 c = σ 9 c) ∧ (∀ c, c < n → zIn set (nI c) = true → τ 9 c = nI root)) 84 [(0, zf G 3), (1, zf G 2), (2, .int set), (3, .int (nI root)), (4, .int (nI i))] [] τ) (fun i τ => J τ ∧ ∀ c, c < i → zIn set (nI c) = true → τ 9 c = nI root) ?_ ?_ i υ hi ⟨hJ, hd⟩
    · intro i τ hi ⟨hJ, hd⟩ ih
      have ii : vp_in (nI i) 12 := vp_in_nI (by omega) (by decide)
      have ci : (nI i).toNatClampNeg = i := nI_clamp (by omega)
      refine b_Frame_growTree_84 E set (nI root) (nI i) τ ⟨fun q => absurd q (by rw [hJ.1 2 (by decide), hn]; exact nI_ge hi (by omega)), fun _ => ⟨fun q => ?_, fun q => ⟨ii, fun σ1 e1 => ?_⟩⟩⟩
      · rw [nI_1]
        refine ih τ ⟨hJ, fun c hc hz => ?_⟩
        by_cases hci : c = i
        · subst hci; rw [q] at hz; cases hz
        · exact hd c (by omega) hz
      · rw [nI_1]
        rw [ci] at e1
        have a9 : ∀ c, σ1 9 c = if c = i then nI root else τ 9 c := fun c => by rw [e1, zup_self]; simp [upd]
        have a11 : σ1 11 = τ 11 := by rw [e1, zup_ne (by decide)]
        refine ih σ1 ⟨⟨by rw [e1]; exact hJ.1.up (by decide), ⟨fun c u hc hu hz => ?_, fun c hc h9 => ?_⟩, by rw [a11]; exact hJ.2.2.1, fun c hc hz => ?_⟩, fun c hc hz => ?_⟩
        · rw [e1, zup_ne (by decide)] at hz
          rw [a11, e1, zup_ne (by decide)]
          exact hJ.2.1.1 c u hc hu hz
        · rw [a11]
          rw [a9] at h9
          by_cases hci : c = i
          · rw [if_pos hci] at h9
            have : root = c := (nI_eq (by omega) (by omega)).mp h9
            rw [← this]; exact hJ.2.2.1
          · rw [if_neg hci] at h9
            exact hJ.2.1.2 c hc h9
        · have hci : c ≠ i := fun e => by rw [e, q] at hz; cases hz
          rw [a11, a9, if_neg hci]
          exact hJ.2.2.2 c hc hz
        · rw [a9]
          by_cases hci : c = i
          · rw [if_pos hci]
          · rw [if_neg hci]; exact hd c (by omega) hz
    · intro τ ⟨hJ, hd⟩
      exact b_Frame_growTree_84 E set (nI root) (nI n) τ ⟨fun _ => ⟨rfl, hJ.1, hJ.2.1, hJ.2.2.2, hd⟩, fun q => absurd (by rw [hJ.1 2 (by decide), hn]; exact nI_le (Nat.le_refl n) (by omega)) q⟩
  refine b_Frame_growTree_0 E set (nI root) σ ⟨ir, fun σ1 e1 => ⟨ir, fun σ2 e2 => ?_⟩⟩
  rw [cr] at e1 e2
  have a11 : ∀ c, σ2 11 c = if c = root then 0 else σ 11 c := fun c => by
    rw [e2, zup_ne (by decide), e1, zup_self]; simp [upd]
  have a9 : ∀ c, σ2 9 c = if c = root then nI root else σ 9 c := fun c => by
    rw [e2, zup_self, e1, zup_ne (by decide)]; simp [upd]
  have hJ0 : J σ2 := by
    refine ⟨by rw [e2, e1]; exact (zFr.rf.up (by decide)).up (by decide), ⟨fun c u hc hu hz => ?_, fun c hc h9 => ?_⟩, by rw [a11, if_pos rfl], fun c hc hz => ?_⟩
    · have hz' : zIn (σ 13 u) (nI c) = true := by rw [e2, zup_ne (by decide), e1, zup_ne (by decide)] at hz; exact hz
      have hcr : c ≠ root := fun e => by rw [e, nr u hu] at hz'; cases hz'
      rw [a11, if_neg hcr, e2, zup_ne (by decide), e1, zup_ne (by decide)]
      exact hT.1 c u hc hu hz'
    · rw [a9] at h9
      rw [a11]
      by_cases hcr : c = root
      · rw [if_pos hcr]
      · rw [if_neg hcr] at h9 ⊢
        exact hT.2 c hc h9
    · have hcr : c ≠ root := fun e => by rw [e, hin] at hz; cases hz
      rw [a11, a9, if_neg hcr, if_neg hcr]
      exact ⟨rfl, rfl⟩
  -- the levels
  refine z_for n (fun k τ => zZ G M_Frame_growTree 2 X (fun r τ => r = none ∧ zFr [9, 10, 11, 12, 13] σ τ ∧ TI τ ∧ (∀ c, c < 12 → zIn set (nI c) = false → τ 11 c = σ 11 c ∧ τ 9 c = σ 9 c) ∧ (∀ c, c < n → zIn set (nI c) = true → τ 9 c = nI root)) 17 [(0, zf G 3), (1, zf G 2), (2, .int set), (3, .int (nI root)), (4, .int (nI k))] [] τ) (fun _ τ => J τ) ?_ ?_ 0 σ2 (Nat.zero_le _) hJ0
  · intro k τ hk hJ ihk
    refine b_Frame_growTree_17 E set (nI root) (nI k) τ ⟨fun q => absurd q (by rw [hJ.1 2 (by decide), hn]; exact nI_ge hk (by omega)), fun _ => ?_⟩
    refine z_for n (fun i τ => zZ G M_Frame_growTree 2 X (fun r τ => r = none ∧ zFr [9, 10, 11, 12, 13] σ τ ∧ TI τ ∧ (∀ c, c < 12 → zIn set (nI c) = false → τ 11 c = σ 11 c ∧ τ 9 c = σ 9 c) ∧ (∀ c, c < n → zIn set (nI c) = true → τ 9 c = nI root)) 29 [(0, zf G 3), (1, zf G 2), (2, .int set), (3, .int (nI root)), (4, .int (nI k)), (5, .int (nI i))] [] τ) (fun _ τ => J τ) ?_ ?_ 0 τ (Nat.zero_le _) hJ
    · intro i τ hi hJ ih
      have ii : vp_in (nI i) 12 := vp_in_nI (by omega) (by decide)
      have ci : (nI i).toNatClampNeg = i := nI_clamp (by omega)
      refine b_Frame_growTree_29 E set (nI root) (nI k) (nI i) τ ⟨fun q => absurd q (by rw [hJ.1 2 (by decide), hn]; exact nI_ge hi (by omega)), fun _ => ⟨fun q => by rw [nI_1]; exact ih τ hJ, fun hz => ⟨ii, fun q => by rw [nI_1]; exact ih τ hJ, fun hlv => ?_⟩⟩⟩
      rw [ci] at hlv
      refine ⟨_, s_Frame_hang G τ n i k set (by rw [hJ.1 2 (by decide)]; exact hn) hle (by omega) (by omega) hJ.2.1 hlv, fun σ5 ⟨g1, g2, g3⟩ => ?_⟩
      rw [nI_1]
      refine ih σ5 ⟨hJ.1.tr (g1.mono (by decide)), g2, ?_, fun c hc hzc => ?_⟩
      · have hri : root ≠ i := fun e => by
          have h0 := hJ.2.2.1
          rw [e, hlv] at h0
          exact absurd h0 (by decide)
        rw [g3 root hri]; exact hJ.2.2.1
      · have hci : c ≠ i := fun e => by rw [e, hz] at hzc; cases hzc
        rw [g3 c hci, g1 9 (by decide)]
        exact hJ.2.2.2 c hc hzc
    · intro τ hJ
      refine b_Frame_growTree_29 E set (nI root) (nI k) (nI n) τ ⟨fun _ => by rw [nI_1]; exact ihk τ hJ, fun q => absurd (by rw [hJ.1 2 (by decide), hn]; exact nI_le (Nat.le_refl n) (by omega)) q⟩
  · intro τ hJ
    refine b_Frame_growTree_17 E set (nI root) (nI n) τ ⟨fun _ => hp 0 τ (Nat.zero_le _) hJ (fun c hc => absurd hc (Nat.not_lt_zero c)), fun q => absurd (by rw [hJ.1 2 (by decide), hn]; exact nI_le (Nat.le_refl n) (by omega)) q⟩
theorem s_Frame_clusterOf (G : zG) (σ : zSt) (n a : Nat) (free k : Int32) (hn : σ 2 0 = nI n) (hle : n ≤ 12) (ha : a < 12) : zI G 2 M_Frame_clusterOf [zf G 2, .int (nI a), .int free, .int k] σ (fun x τ => zIn x (nI a) = true ∧ τ = σ) := by
  refine zSpec.of (by decide) (Nat.le_of_ble_eq_true rfl) rfl (fun X E => ?_)
  refine b_Frame_clusterOf_0 E (nI a) free k σ ?_
  refine z_for n (fun i (x : Int32) => zZ G M_Frame_clusterOf 2 X (fun r τ => ∃ x : Int32, r = some (.int x) ∧ zIn x (nI a) = true ∧ τ = σ) 8 [(0, zf G 2), (2, .int free), (3, .int k), (4, .int x), (5, .int (nI i))] [] σ) (fun _ x => zIn x (nI a) = true) ?_ ?_ 0 _ (Nat.zero_le _) (by rw [zIn_bit (by omega) (by omega)]; simp)
  · intro i x hi hI ih
    refine b_Frame_clusterOf_8 E free k x (nI i) σ ⟨fun q => absurd q (by rw [hn]; exact nI_ge hi (by omega)), fun _ => ⟨_, s_Net_around G σ n x hn hle, ?_⟩⟩
    rintro y τ ⟨rfl, rfl⟩
    refine ⟨fun _ => ?_, fun _ => ⟨_, rfl, hI, rfl⟩⟩
    rw [nI_1]
    exact ih _ (by rw [zIn_or _ _ (by omega), hI, Bool.true_or])
  · intro x hI
    exact b_Frame_clusterOf_8 E free k x (nI n) σ ⟨fun _ => ⟨_, rfl, hI, rfl⟩, fun q => absurd (by rw [hn]; exact nI_le (Nat.le_refl n) (by omega)) q⟩
theorem s_Frame_makeClusters (G : zG) (σ : zSt) (n : Nat) (k : Int32) (hn : σ 2 0 = nI n) (hle : n ≤ 12) (hT : TI σ) (hl : ∀ c, c < 12 → σ 11 c = -2) : zV G 3 M_Frame_makeClusters [zf G 3, zf G 2, .int k] σ (fun τ => zFr FFrame σ τ ∧ TI τ ∧ ∀ c, c < n → ∃ j, j < 12 ∧ τ 9 c = nI j) := by
  refine zSpec.of (by decide) (Nat.le_of_ble_eq_true rfl) rfl (fun X E => ?_)
  refine b_Frame_makeClusters_0 E k σ (fun σ0 e0 => ?_)
  have h0 : ∀ c, c ≠ 3 → σ0 c = σ c := fun c hc => by rw [e0, zup_ne hc]
  refine z_for n (fun i (s : Int32 × zSt) => zZ G M_Frame_makeClusters 3 X (fun r τ => r = none ∧ zFr FFrame σ τ ∧ TI τ ∧ ∀ c, c < n → ∃ j, j < 12 ∧ τ 9 c = nI j) 13 [(0, zf G 3), (1, zf G 2), (2, .int k), (3, .int s.1), (4, .int (nI i))] [] s.2) (fun i s => zFr FFrame σ s.2 ∧ TI s.2 ∧ (∀ c, c < 12 → zIn s.1 (nI c) = true → s.2 11 c = -2) ∧ (∀ c, c < n → zIn s.1 (nI c) = false → c < i → ∃ j, j < 12 ∧ s.2 9 c = nI j) ∧ (∀ c, c < n → zIn s.1 (nI c) = false → i ≤ c → ∃ j, j < 12 ∧ s.2 9 c = nI j) ∧ (∀ c, c < i → zIn s.1 (nI c) = false)) ?_ ?_ 0 (zAll (σ 2 0), σ0) (Nat.zero_le _) ?_
  · intro i ⟨fr, τ⟩ hi ⟨g1, g2, g3, g4, g5, g6⟩ ih
    dsimp only at g1 g2 g3 g4 g5 g6
    have hn' : τ 2 0 = nI n := by rw [g1 2 (by decide)]; exact hn
    refine b_Frame_makeClusters_13 E k fr (nI i) τ ⟨fun q => absurd q (by rw [hn']; exact nI_ge hi (by omega)), fun _ => ⟨fun hz => ?_, fun hz => ⟨_, s_Frame_clusterOf G τ n i fr k hn' hle (by omega), ?_⟩⟩⟩
    · rw [nI_1]
      refine ih (fr, τ) ⟨g1, g2, g3, fun c hc hzc hci => ?_, fun c hc hzc hci => g5 c hc hzc (by omega), fun c hc => ?_⟩
      · rcases Nat.lt_or_ge c i with h | h
        · exact g4 c hc hzc h
        · exact g5 c hc hzc h
      · by_cases hci : c = i
        · rw [hci]; exact hz
        · exact g6 c (by omega)
    · rintro cl τ' ⟨hcl, rfl⟩ σ3 e3
      have hT3 : TI σ3 := by
        have e : ∀ c, c ≠ 3 → σ3 c = τ' c := fun c hc => by rw [e3, zup_ne hc]
        exact ⟨fun c u hc hu hz => by
          rw [e 13 (by decide)] at hz
          rw [e 10 (by decide), e 11 (by decide)]
          exact g2.1 c u hc hu hz, fun c hc h9 => by
          rw [e 9 (by decide)] at h9
          rw [e 11 (by decide)]
          exact g2.2 c hc h9⟩
      have e11 : σ3 11 = τ' 11 := by rw [e3, zup_ne (by decide)]
      have e9 : σ3 9 = τ' 9 := by rw [e3, zup_ne (by decide)]
      refine ⟨_, s_Frame_growTree G σ3 n i cl (by rw [e3, zup_ne (by decide)]; exact hn') hle (by omega) hT3 (by rw [e11]; exact g3 i (by omega) hz) hcl, ?_⟩
      rintro σ4 ⟨k1, k2, k3, k4⟩
      rw [nI_1]
      have led : ∀ c, c < n → zIn (fr &&& (cl ^^^ (-1 : Int32))) (nI c) = false → (zIn fr (nI c) = false → ∃ j, j < 12 ∧ τ' 9 c = nI j) → ∃ j, j < 12 ∧ σ4 9 c = nI j := by
        intro c hc hzc hold
        cases hin : zIn cl (nI c) with
        | true => exact ⟨i, by omega, k4 c hc hin⟩
        | false =>
          rw [(k3 c (by omega) hin).2, e9]
          apply hold
          rw [zIn_and _ _ (by omega), zIn_not _ (by omega), hin] at hzc
          simpa using hzc
      refine ih (fr &&& (cl ^^^ (-1 : Int32)), σ4) ⟨?_, k2, fun c hc hzc => ?_, fun c hc hzc hci => led c hc hzc ?_, fun c hc hzc hci => led c hc hzc ?_, fun c hc => ?_⟩
      · refine g1.tr ?_
        have h3 : zFr FFrame τ' σ3 := by rw [e3]; exact zFr.rf.up (by decide)
        exact h3.tr (k1.mono (by decide))
      · dsimp only at hzc ⊢
        rw [zIn_and _ _ (by omega), zIn_not _ (by omega)] at hzc
        have h1 : zIn fr (nI c) = true := by revert hzc; cases zIn fr (nI c) <;> simp
        have h2 : zIn cl (nI c) = false := by revert hzc; cases zIn cl (nI c) <;> simp
        rw [(k3 c hc h2).1, e11]
        exact g3 c hc h1
      · intro hf
        rcases Nat.lt_or_ge c i with h | h
        · exact g4 c hc hf h
        · exact g5 c hc hf h
      · intro hf
        exact g5 c hc hf (by omega)
      · dsimp only
        rw [zIn_and _ _ (by omega), zIn_not _ (by omega)]
        by_cases hci : c = i
        · rw [hci, hcl]; simp
        · rw [g6 c (by omega)]; simp
  · intro ⟨fr, τ⟩ ⟨g1, g2, g3, g4, g5, g6⟩
    dsimp only at g1 g2 g3 g4 g5 g6
    exact b_Frame_makeClusters_13 E k fr (nI n) τ ⟨fun _ => ⟨rfl, g1, g2, fun c hc => g4 c hc (g6 c hc) hc⟩, fun q => absurd (by rw [g1 2 (by decide), hn]; exact nI_le (Nat.le_refl n) (by omega)) q⟩
  · refine ⟨by rw [e0]; exact zFr.rf.up (by decide), ⟨fun c u hc hu hz => ?_, fun c hc h9 => ?_⟩, fun c hc _ => ?_, fun c _ _ hci => absurd hci (Nat.not_lt_zero c), fun c hc hz _ => ?_, fun c hc => absurd hc (Nat.not_lt_zero c)⟩
    · dsimp only at hz ⊢
      rw [h0 13 (by decide)] at hz
      rw [h0 10 (by decide), h0 11 (by decide)]
      exact hT.1 c u hc hu hz
    · dsimp only at h9 ⊢
      rw [h0 9 (by decide)] at h9
      rw [h0 11 (by decide)]
      exact hT.2 c hc h9
    · dsimp only
      rw [h0 11 (by decide)]; exact hl c hc
    · exfalso
      dsimp only at hz
      rw [hn] at hz
      have key : ∀ n, n < 13 → ∀ c, c < n → zIn (zAll (nI n)) (nI c) = true := by decide +kernel
      rw [key n (by omega) c hc] at hz
      cases hz
theorem s_Frame_choose (G : zG) (σ : zSt) (a b i j : Nat) (ha : a < 12) (hb : b < 12) (hi : i < 12) (hj : j < 12) (h1 : σ 9 a = nI i) (h2 : σ 9 b = nI j) : zV G 0 M_Frame_choose [zf G 3, .int (nI a), .int (nI b)] σ (fun τ => zFr [3, 14, 15] σ τ) := by
  refine zSpec.of (by decide) (Nat.le_of_ble_eq_true rfl) rfl (fun X E => ?_)
  have ia : vp_in (nI a) 12 := vp_in_nI ha (by decide)
  have ib : vp_in (nI b) 12 := vp_in_nI hb (by decide)
  have ca : (nI a).toNatClampNeg = a := nI_clamp (by omega)
  have cb : (nI b).toNatClampNeg = b := nI_clamp (by omega)
  have ii : vp_in (σ 9 (nI a).toNatClampNeg) 12 := by rw [ca, h1]; exact vp_in_nI hi (by decide)
  refine b_Frame_choose_0 E (nI a) (nI b) σ ⟨ia, ii, ib, ii, fun σ1 e1 => ?_⟩
  have ij : vp_in (σ1 9 (nI b).toNatClampNeg) 12 := by rw [e1, zup_ne (by decide), cb, h2]; exact vp_in_nI hj (by decide)
  refine ⟨ib, ij, ia, ij, fun σ2 e2 => ⟨ia, ia, fun σ3 e3 => ⟨ib, ib, fun σ4 e4 σ5 e5 => ⟨rfl, ?_⟩⟩⟩⟩
  rw [e5, e4, e3, e2, e1]
  exact ((((zFr.rf.up (by decide)).up (by decide)).up (by decide)).up (by decide)).up (by decide)
theorem s_Frame_chooseLinks (G : zG) (σ : zSt) (n : Nat) (hn : σ 2 0 = nI n) (hle : n ≤ 12) (hl : ∀ c, c < n → ∃ j, j < 12 ∧ σ 9 c = nI j) : zV G 1 M_Frame_chooseLinks [zf G 3, zf G 2] σ (fun τ => zFr [3, 14, 15] σ τ) := by
  refine zSpec.of (by decide) (Nat.le_of_ble_eq_true rfl) rfl (fun X E => ?_)
  refine b_Frame_chooseLinks_0 E σ ?_
  refine z_for n (fun i τ => zZ G M_Frame_chooseLinks 1 X (fun r τ => r = none ∧ zFr [3, 14, 15] σ τ) 2 [(0, zf G 3), (1, zf G 2), (2, .int (nI i))] [] τ) (fun _ τ => zFr [3, 14, 15] σ τ) ?_ ?_ 0 σ (Nat.zero_le _) zFr.rf
  · intro a τ ha hI iha
    refine b_Frame_chooseLinks_2 E (nI a) τ ⟨fun q => absurd q (by rw [hI 2 (by decide), hn]; exact nI_ge ha (by omega)), fun _ => ?_⟩
    rw [nI_1]
    refine z_for n (fun i τ => zZ G M_Frame_chooseLinks 1 X (fun r τ => r = none ∧ zFr [3, 14, 15] σ τ) 14 [(0, zf G 3), (1, zf G 2), (2, .int (nI a)), (3, .int (nI i))] [] τ) (fun _ τ => zFr [3, 14, 15] σ τ) ?_ ?_ (a + 1) τ (by omega) hI
    · intro b τ hb hI ih
      have ia : vp_in (nI a) 12 := vp_in_nI (by omega) (by decide)
      have ib : vp_in (nI b) 12 := vp_in_nI (by omega) (by decide)
      have ca : (nI a).toNatClampNeg = a := nI_clamp (by omega)
      have cb : (nI b).toNatClampNeg = b := nI_clamp (by omega)
      obtain ⟨i, hi, e1⟩ := hl a ha
      obtain ⟨j, hj, e2⟩ := hl b hb
      have nx : zZ G M_Frame_chooseLinks 1 X (fun r τ => r = none ∧ zFr [3, 14, 15] σ τ) 14 [(0, zf G 3), (1, zf G 2), (2, .int (nI a)), (3, .int (nI b + 1))] [] τ := by rw [nI_1]; exact ih τ hI
      refine b_Frame_chooseLinks_14 E (nI a) (nI b) τ ⟨fun q => absurd q (by rw [hI 2 (by decide), hn]; exact nI_ge hb (by omega)), fun _ => ⟨ia, ib, fun _ => nx, fun _ => ⟨ia, by rw [ca, hI 9 (by decide), e1]; exact vp_in_nI hi (by decide), ib, fun _ => nx, fun _ => ⟨ia, fun _ => nx, fun _ => ⟨_, s_Frame_choose G τ a b i j (by omega) (by omega) hi hj (by rw [hI 9 (by decide)]; exact e1) (by rw [hI 9 (by decide)]; exact e2), fun σ1 g1 => ?_⟩⟩⟩⟩⟩
      rw [nI_1]
      exact ih σ1 (hI.tr g1)
    · intro τ hI
      exact b_Frame_chooseLinks_14 E (nI a) (nI n) τ ⟨fun _ => by rw [nI_1]; exact iha τ hI, fun q => absurd (by rw [hI 2 (by decide), hn]; exact nI_le (Nat.le_refl n) (by omega)) q⟩
  · intro τ hI
    exact b_Frame_chooseLinks_2 E (nI n) τ ⟨fun _ => ⟨rfl, hI⟩, fun q => absurd (by rw [hI 2 (by decide), hn]; exact nI_le (Nat.le_refl n) (by omega)) q⟩
theorem s_Frame_setUp (G : zG) (σ : zSt) (n s : Nat) (way k : Int32) (hn : σ 2 0 = nI n) (hle : n ≤ 12) (hs : s < n) : zV G 4 M_Frame_setUp [zf G 3, zf G 2, .int way, .int (nI s), .int k] σ (fun τ => zFr FFrame σ τ ∧ TreeOK τ ∧ (way = 0 → ∀ u, u < 12 → τ 13 u = 0)) := by
  refine zSpec.of (by decide) (Nat.le_of_ble_eq_true rfl) rfl (fun X E => ?_)
  refine b_Frame_setUp_0 E way (nI s) k σ ⟨_, s_Frame_clear G σ, fun σ1 ⟨g1, g2, g3, g4⟩ => ?_⟩
  have hn1 : σ1 2 0 = nI n := by rw [g1 2 (by decide)]; exact hn
  refine ⟨fun hw => ⟨fun _ => ?_, fun _ => ?_⟩, fun _ => ?_⟩
  · refine ⟨_, s_Frame_makeClusters G σ1 n k hn1 hle g2 g3, fun σ2 ⟨k1, k2, k3⟩ => ?_⟩
    refine ⟨_, s_Frame_chooseLinks G σ2 n (by rw [k1 2 (by decide)]; exact hn1) hle k3, fun σ3 m1 => ⟨rfl, (g1.tr k1).tr (m1.mono (by decide)), fun c u hc hu hz => ?_, fun e => absurd e hw⟩⟩
    rw [m1 13 (by decide)] at hz
    rw [m1 10 (by decide), m1 9 (by decide)]
    exact k2.ok c u hc hu hz
  · rw [hn1]
    have key : ∀ n, n < 13 → ∀ c, c < n → zIn (zAll (nI n)) (nI c) = true := by decide +kernel
    refine ⟨_, s_Frame_growTree G σ1 n s (zAll (nI n)) hn1 hle (by omega) g2 (g3 s (by omega)) (key n (by omega) s hs), fun σ2 ⟨k1, k2, _, _⟩ => ⟨rfl, g1.tr (k1.mono (by decide)), k2.ok, fun e => absurd e hw⟩⟩
  · exact ⟨_, s_Frame_standAlone G σ1 n hn1 hle g4, fun σ2 ⟨k1, k2, k3⟩ => ⟨rfl, g1.tr k1, k2, fun _ => k3⟩⟩
end
