-- bits: the first family of kit/laws/BITS.to-paste (a text given for pasting); then isIn in its words
def bt (x : Int32) (i : Nat) : Bool := x.toBitVec.getLsbD i
theorem b_ext {x y : Int32} (h : ∀ i, i < 32 → bt x i = bt y i) : x = y := Int32.toBitVec_inj.mp (BitVec.eq_of_getLsbD_eq (fun i hi => h i hi))
theorem b_or (x y : Int32) (i : Nat) : bt (x ||| y) i = (bt x i || bt y i) := by unfold bt; rw [Int32.toBitVec_or, BitVec.getLsbD_or]
theorem b_and (x y : Int32) (i : Nat) : bt (x &&& y) i = (bt x i && bt y i) := by unfold bt; rw [Int32.toBitVec_and, BitVec.getLsbD_and]
theorem b_xor (x y : Int32) (i : Nat) : bt (x ^^^ y) i = (bt x i ^^ bt y i) := by unfold bt; rw [Int32.toBitVec_xor, BitVec.getLsbD_xor]
theorem b_big {x : Int32} {i : Nat} (h : 32 ≤ i) : bt x i = false := BitVec.getLsbD_of_ge _ _ h
theorem b_m1 : ∀ i, i < 32 → bt (-1) i = true := by decide +kernel
theorem b_0 (i : Nat) : bt 0 i = false := BitVec.getLsbD_zero
theorem s_l : ∀ n, n < 32 → ((nI n &&& 31).toBitVec.smod 32).toNat = n := by decide +kernel
theorem s_u : ∀ n, n < 32 → (((nI n).toUInt32 &&& Int32.toUInt32 31).toBitVec % 32).toNat = n := by decide +kernel
theorem b_shl (n : Nat) (hn : n < 32) (x : Int32) {i : Nat} (hi : i < 32) : bt (x <<< (nI n &&& 31)) i = (decide (n ≤ i) && bt x (i - n)) := by
  unfold bt
  rw [Int32.toBitVec_shiftLeft]
  show (x.toBitVec <<< ((nI n &&& 31).toBitVec.smod 32).toNat).getLsbD i = _
  rw [s_l n hn, BitVec.getLsbD_shiftLeft]
  rcases Nat.lt_or_ge i n with h | h
  · simp [h, Nat.not_le.mpr h]
  · simp [hi, h, Nat.not_lt.mpr h]
theorem b_ushr (n : Nat) (hn : n < 32) (x : Int32) (i : Nat) : bt ((x.toUInt32 >>> ((nI n).toUInt32 &&& Int32.toUInt32 31)).toInt32) i = bt x (n + i) := by
  show (x.toUInt32 >>> ((nI n).toUInt32 &&& Int32.toUInt32 31)).toBitVec.getLsbD i = x.toUInt32.toBitVec.getLsbD (n + i)
  rw [UInt32.toBitVec_shiftRight]
  show (x.toUInt32.toBitVec >>> (((nI n).toUInt32 &&& Int32.toUInt32 31).toBitVec % 32).toNat).getLsbD i = _
  rw [s_u n hn, BitVec.getLsbD_ushiftRight]
theorem b_sshr (n : Nat) (hn : n < 32) (x : Int32) {i : Nat} (hi : i < 32) : bt (x >>> (nI n &&& 31)) i = if n + i < 32 then bt x (n + i) else bt x 31 := by
  unfold bt
  rw [Int32.toBitVec_shiftRight]
  show (x.toBitVec.sshiftRight ((nI n &&& 31).toBitVec.smod 32).toNat).getLsbD i = _
  rw [s_l n hn, BitVec.getLsbD_sshiftRight, BitVec.msb_eq_getLsbD_last]
  simp [hi]
theorem b_one (i : Nat) : bt 1 i = decide (i = 0) := by
  rcases Nat.lt_or_ge i 32 with h | h
  · exact (by decide +kernel : ∀ i, i < 32 → bt 1 i = decide (i = 0)) i h
  · rw [b_big h, decide_eq_false (by omega)]
theorem zIn_bt (s : Int32) {c : Nat} (hc : c < 32) : zIn s (nI c) = bt s c := by
  have h0 : bt ((s >>> (nI c &&& 31)) &&& 1) 0 = bt s c := by
    rw [b_and, b_sshr c hc s (by decide), b_one]
    simp [hc]
  have hz : ((s >>> (nI c &&& 31)) &&& 1) = 0 ↔ bt s c = false := by
    constructor
    · intro e
      rw [← h0, e, b_0]
    · intro e
      apply b_ext
      intro i hi
      rw [b_0]
      by_cases hi0 : i = 0
      · subst hi0; rw [h0, e]
      · rw [b_and, b_one, decide_eq_false hi0, Bool.and_false]
  unfold zIn
  cases hb : bt s c with
  | true => simp [hz, hb]
  | false => simp [hz, hb]
theorem bt_bit {n c : Nat} (hn : n < 32) (hc : c < 32) : bt ((1 : Int32) <<< (nI n &&& 31)) c = decide (c = n) := by
  rw [b_shl n hn 1 hc, b_one]
  by_cases h : c = n
  · subst h; simp
  · by_cases h2 : n ≤ c
    · have : ¬ (c - n = 0) := by omega
      simp [h, this]
    · simp [h, h2]
theorem zIn_or (x y : Int32) {c : Nat} (hc : c < 32) : zIn (x ||| y) (nI c) = (zIn x (nI c) || zIn y (nI c)) := by
  rw [zIn_bt _ hc, zIn_bt _ hc, zIn_bt _ hc, b_or]
theorem zIn_and (x y : Int32) {c : Nat} (hc : c < 32) : zIn (x &&& y) (nI c) = (zIn x (nI c) && zIn y (nI c)) := by
  rw [zIn_bt _ hc, zIn_bt _ hc, zIn_bt _ hc, b_and]
theorem zIn_not (x : Int32) {c : Nat} (hc : c < 32) : zIn (x ^^^ (-1 : Int32)) (nI c) = !(zIn x (nI c)) := by
  rw [zIn_bt _ hc, zIn_bt _ hc, b_xor, b_m1 c hc, Bool.xor_true]
theorem zIn_bit {n c : Nat} (hn : n < 32) (hc : c < 32) : zIn ((1 : Int32) <<< (nI n &&& 31)) (nI c) = decide (c = n) := by
  rw [zIn_bt _ hc, bt_bit hn hc]
theorem zIn_0 {c : Nat} (hc : c < 32) : zIn 0 (nI c) = false := by
  rw [zIn_bt _ hc, b_0]
