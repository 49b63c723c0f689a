/-! ===== Int32 by its bits: bt x i ===== -/
def bt (x : Int32) (i : Nat) : Bool := x.toBitVec.getLsbD i
theorem b_ext {x y : Int32} (h : ∀ i, i < 32 → bt x i = bt y i) : x = y := Int32.toBitVec_inj.mp (BitVec.eq_of_getLsbD_eq (fun i hi => h i hi))
theorem b_or (x y : Int32) (i : Nat) : bt (x ||| y) i = (bt x i || bt y i) := by unfold bt; rw [Int32.toBitVec_or, BitVec.getLsbD_or]
theorem b_and (x y : Int32) (i : Nat) : bt (x &&& y) i = (bt x i && bt y i) := by unfold bt; rw [Int32.toBitVec_and, BitVec.getLsbD_and]
theorem b_xor (x y : Int32) (i : Nat) : bt (x ^^^ y) i = (bt x i ^^ bt y i) := by unfold bt; rw [Int32.toBitVec_xor, BitVec.getLsbD_xor]
theorem b_big {x : Int32} {i : Nat} (h : 32 ≤ i) : bt x i = false := BitVec.getLsbD_of_ge _ _ h
theorem b_255 (i : Nat) : bt 255 i = decide (i < 8) := by
  rcases Nat.lt_or_ge i 32 with h | h
  · exact (by decide +kernel : ∀ i, i < 32 → bt 255 i = decide (i < 8)) i h
  · rw [b_big h, decide_eq_false (by omega)]
theorem b_65535 (i : Nat) : bt 65535 i = decide (i < 16) := by
  rcases Nat.lt_or_ge i 32 with h | h
  · exact (by decide +kernel : ∀ i, i < 32 → bt 65535 i = decide (i < 16)) i h
  · rw [b_big h, decide_eq_false (by omega)]
theorem b_m1 : ∀ i, i < 32 → bt (-1) i = true := by decide +kernel
theorem b_0 (i : Nat) : bt 0 i = false := BitVec.getLsbD_zero
theorem s_l : ∀ n, n < 32 → ((nI n &&& 31).toBitVec.smod 32).toNat = n := by decide +kernel
theorem s_u : ∀ n, n < 32 → (((nI n).toUInt32 &&& Int32.toUInt32 31).toBitVec % 32).toNat = n := by decide +kernel
theorem b_shl (n : Nat) (hn : n < 32) (x : Int32) {i : Nat} (hi : i < 32) : bt (x <<< (nI n &&& 31)) i = (decide (n ≤ i) && bt x (i - n)) := by
  unfold bt
  rw [Int32.toBitVec_shiftLeft]
  show (x.toBitVec <<< ((nI n &&& 31).toBitVec.smod 32).toNat).getLsbD i = _
  rw [s_l n hn, BitVec.getLsbD_shiftLeft]
  rcases Nat.lt_or_ge i n with h | h
  · simp [h, Nat.not_le.mpr h]
  · simp [hi, h, Nat.not_lt.mpr h]
theorem b_ushr (n : Nat) (hn : n < 32) (x : Int32) (i : Nat) : bt ((x.toUInt32 >>> ((nI n).toUInt32 &&& Int32.toUInt32 31)).toInt32) i = bt x (n + i) := by
  show (x.toUInt32 >>> ((nI n).toUInt32 &&& Int32.toUInt32 31)).toBitVec.getLsbD i = x.toUInt32.toBitVec.getLsbD (n + i)
  rw [UInt32.toBitVec_shiftRight]
  show (x.toUInt32.toBitVec >>> (((nI n).toUInt32 &&& Int32.toUInt32 31).toBitVec % 32).toNat).getLsbD i = _
  rw [s_u n hn, BitVec.getLsbD_ushiftRight]
theorem b_sshr (n : Nat) (hn : n < 32) (x : Int32) {i : Nat} (hi : i < 32) : bt (x >>> (nI n &&& 31)) i = if n + i < 32 then bt x (n + i) else bt x 31 := by
  unfold bt
  rw [Int32.toBitVec_shiftRight]
  show (x.toBitVec.sshiftRight ((nI n &&& 31).toBitVec.smod 32).toNat).getLsbD i = _
  rw [s_l n hn, BitVec.getLsbD_sshiftRight, BitVec.msb_eq_getLsbD_last]
  simp [hi]
/-! one bit of a set -/
theorem b_1 (i : Nat) : bt 1 i = decide (i = 0) := by
  rcases Nat.lt_or_ge i 32 with h | h
  · exact (by decide +kernel : ∀ i, i < 32 → bt 1 i = decide (i = 0)) i h
  · rw [b_big h, decide_eq_false (by omega)]
theorem bitv_bt {x : Int32} {k : Nat} (hk : k < 32) : bitv x (nI k) = if bt x k = true then 1 else 0 := by
  apply b_ext
  intro i hi
  unfold bitv
  rw [b_and, b_sshr k hk x hi, b_1]
  by_cases h0 : i = 0
  · subst h0
    rw [if_pos (by omega), Nat.add_zero]
    cases hb : bt x k
    · simp [b_0]
    · simp [b_1]
  · rw [decide_eq_false h0, Bool.and_false]
    cases hb : bt x k
    · simp [b_0]
    · simp [b_1, h0]
theorem bt_sh1 {k i : Nat} (hk : k < 32) (hi : i < 32) : bt (sh1 (nI k)) i = decide (i = k) := by
  unfold sh1
  rw [b_shl k hk 1 hi, b_1]
  by_cases h : i = k
  · subst h
    simp
  · rw [decide_eq_false h]
    rcases Nat.lt_or_ge i k with g | g
    · simp [Nat.not_le.mpr g]
    · rw [decide_eq_false (p := i - k = 0) (by omega), Bool.and_false]
theorem bitv_or {x : Int32} {k i : Nat} (hk : k < 32) (hi : i < 32) : bitv (x ||| sh1 (nI k)) (nI i) = if i = k then 1 else bitv x (nI i) := by
  rw [bitv_bt hi, bitv_bt hi, b_or, bt_sh1 hk hi]
  by_cases h : i = k <;> simp [h]
theorem bitv_an {x : Int32} {k i : Nat} (hk : k < 32) (hi : i < 32) : bitv (x &&& (sh1 (nI k) ^^^ (-1))) (nI i) = if i = k then 0 else bitv x (nI i) := by
  rw [bitv_bt hi, bitv_bt hi, b_and, b_xor, bt_sh1 hk hi, b_m1 i hi]
  by_cases h : i = k <;> simp [h]
theorem bitv_wb {x z : Int32} {k i : Nat} (hk : k < 32) (hi : i < 32) : bitv (if z = 0 then x &&& (sh1 (nI k) ^^^ (-1)) else x ||| sh1 (nI k)) (nI i) = if i = k then (if z = 0 then 0 else 1) else bitv x (nI i) := by
  by_cases hz : z = 0
  · rw [if_pos hz, if_pos hz, bitv_an hk hi]
  · rw [if_neg hz, if_neg hz, bitv_or hk hi]
theorem bitv_01 {x : Int32} {k : Nat} (hk : k < 32) : bitv x (nI k) = 0 ∨ bitv x (nI k) = 1 := by
  rw [bitv_bt hk]
  by_cases h : bt x k = true
  · right
    rw [if_pos h]
  · left
    rw [if_neg h]
theorem bitv_0 {k : Nat} (hk : k < 32) : bitv 0 (nI k) = 0 := by
  rw [bitv_bt hk, b_0]
  rfl
