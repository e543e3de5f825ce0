/-! how many BITS a mask has -/
theorem q_toNat {x : Nat} (h : x < 2147483648) : (q32 (x : Int)).toBitVec.toNat = x := by
  have h1 : (q32 (x : Int)).toInt = x := q32_t ⟨by omega, by omega⟩
  have h2 : (q32 (x : Int)).toBitVec.toInt = x := h1
  rw [BitVec.toInt_eq_toNat_cond] at h2
  have h3 := (q32 (x : Int)).toBitVec.isLt
  split at h2 <;> omega
theorem bAnd_nat {a b : Nat} (ha : a < 2147483648) (hb : b < 2147483648) : bAnd (a : Int) (b : Int) = ((a &&& b : Nat) : Int) := by
  unfold bAnd
  show BitVec.toInt ((q32 (a : Int)).toBitVec &&& (q32 (b : Int)).toBitVec) = _
  have h1 : a &&& b ≤ a := Nat.and_le_left
  rw [BitVec.toInt_eq_toNat_cond, BitVec.toNat_and, q_toNat ha, q_toNat hb, if_pos (by omega)]
theorem ush_k : ∀ k : Nat, k < 32 → ((q32 (k : Int)).toUInt32 &&& Int32.toUInt32 31).toNat = k := by decide +kernel
theorem bUshr_nat {x k : Nat} (hx : x < 2147483648) (hk : k < 32) : bUshr (x : Int) (k : Int) = ((x / 2 ^ k : Nat) : Int) := by
  unfold bUshr
  have h0 : ((q32 (x : Int)).toUInt32 >>> ((q32 (k : Int)).toUInt32 &&& Int32.toUInt32 31)).toNat = x / 2 ^ k := by
    rw [UInt32.toNat_shiftRight, ush_k k hk, Nat.mod_eq_of_lt hk, Nat.shiftRight_eq_div_pow]
    have : (q32 (x : Int)).toUInt32.toNat = x := q_toNat hx
    rw [this]
  have h1 : x / 2 ^ k ≤ x := Nat.div_le_self _ _
  show BitVec.toInt (((q32 (x : Int)).toUInt32 >>> ((q32 (k : Int)).toUInt32 &&& Int32.toUInt32 31)).toBitVec) = _
  have h2 : (((q32 (x : Int)).toUInt32 >>> ((q32 (k : Int)).toUInt32 &&& Int32.toUInt32 31)).toBitVec).toNat = x / 2 ^ k := h0
  rw [BitVec.toInt_eq_toNat_cond, h2, if_pos (by omega)]
theorem land_256 {a b c d : Nat} (hb : b < 256) (hd : d < 256) : (256 * a + b) &&& (256 * c + d) = 256 * (a &&& c) + (b &&& d) := by
  have hbd : b &&& d < 256 := Nat.lt_of_le_of_lt Nat.and_le_left hb
  apply Nat.eq_of_testBit_eq
  intro i
  have e : 256 = 2 ^ 8 := rfl
  rw [Nat.testBit_and, e, Nat.testBit_two_pow_mul_add _ hb, Nat.testBit_two_pow_mul_add _ hd, Nat.testBit_two_pow_mul_add _ hbd]
  split
  · rw [Nat.testBit_and]
  · rw [Nat.testBit_and]
