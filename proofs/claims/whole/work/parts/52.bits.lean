/-! BITS of masks -/
theorem tb_bOr (x y : Int) (k : Nat) : tb (bOr x y) k = (tb x k || tb y k) := by
  unfold tb bOr
  rw [q32_of, Int32.toBitVec_or, BitVec.getLsbD_or]
theorem tb_bAnd (x y : Int) (k : Nat) : tb (bAnd x y) k = (tb x k && tb y k) := by
  unfold tb bAnd
  rw [q32_of, Int32.toBitVec_and, BitVec.getLsbD_and]
theorem tb_shl1 : ∀ f : Nat, f < 24 → ∀ k : Nat, k < 32 → tb (bShl 1 (f : Int)) k = decide (k = f) := by decide +kernel
theorem shl1_rng : ∀ f : Nat, f < 24 → 0 ≤ bShl 1 (f : Int) ∧ bShl 1 (f : Int) < 16777216 := by decide +kernel
theorem in32_bOr (x y : Int) : in32 (bOr x y) := by
  unfold in32 bOr
  exact ⟨Int32.le_toInt _, by have := Int32.toInt_lt (q32 x ||| q32 y); omega⟩
theorem in32_bAnd (x y : Int) : in32 (bAnd x y) := by
  unfold in32 bAnd
  exact ⟨Int32.le_toInt _, by have := Int32.toInt_lt (q32 x &&& q32 y); omega⟩
theorem tb_ext {x y : Int} (hx : in32 x) (hy : in32 y) (h : ∀ k, k < 32 → tb x k = tb y k) : x = y := by
  rw [← q32_inj hx hy]
  apply Int32.toBitVec_inj.mp
  apply BitVec.eq_of_getLsbD_eq
  intro i hi
  exact h i hi
theorem tb_nat {x : Int} (h : 0 ≤ x ∧ x < 2147483648) (k : Nat) : tb x k = x.toNat.testBit k := by
  unfold tb
  have e : (q32 x).toBitVec.toNat = x.toNat := by
    have h1 : (q32 x).toInt = x := q32_t ⟨by omega, by omega⟩
    have h2 : (q32 x).toBitVec.toInt = x := h1
    rw [BitVec.toInt_eq_toNat_cond] at h2
    have h3 := (q32 x).toBitVec.isLt
    split at h2 <;> omega
  rw [BitVec.getLsbD, e]
theorem tb_hi {x : Int} {n k : Nat} (h : 0 ≤ x ∧ x < 2147483648) (h2 : x < 2 ^ n) (hk : n ≤ k) : tb x k = false := by
  rw [tb_nat h]
  apply Nat.testBit_lt_two_pow
  have h3 : x.toNat < 2 ^ n := by
    have : ((x.toNat : Nat) : Int) < ((2 ^ n : Nat) : Int) := by rw [Int.toNat_of_nonneg h.1]; exact_mod_cast h2
    exact_mod_cast this
  exact Nat.lt_of_lt_of_le h3 (Nat.pow_le_pow_right (by omega) hk)
theorem tb_lo {x : Int} (hx : in32 x) {n : Nat} (hn : n ≤ 31) (h : ∀ k, n ≤ k → k < 32 → tb x k = false) : 0 ≤ x ∧ x < 2 ^ n := by
  have h1 : (q32 x).toBitVec.toInt = x := q32_t hx
  have h2 : (q32 x).toBitVec.toNat < 2 ^ n := by
    apply Nat.lt_pow_two_of_testBit
    intro i hi
    rcases Nat.lt_or_ge i 32 with q | q
    · exact h i hi q
    · exact BitVec.getLsbD_of_ge _ _ q
  have h3 : 2 ^ n ≤ 2 ^ 31 := Nat.pow_le_pow_right (by omega) hn
  rw [BitVec.toInt_eq_toNat_cond] at h1
  rw [if_pos (by omega)] at h1
  refine ⟨by omega, ?_⟩
  rw [← h1]
  exact_mod_cast h2
theorem and1 (b : BitVec 32) : (b &&& 1#32).toInt = if b.getLsbD 0 then 1 else 0 := by
  rw [BitVec.and_one_eq_setWidth_ofBool_getLsbD]
  cases b.getLsbD 0 <;> decide
theorem sh_k : ∀ k : Nat, k < 32 → ((q32 (k : Int) &&& 31).toBitVec.smod 32#32).toNat = k := by decide +kernel
theorem bit_at {x : Int} {k : Nat} (hk : k < 32) : bAnd (bShr x (k : Int)) 1 = if tb x k then 1 else 0 := by
  unfold bAnd bShr
  rw [q32_of]
  show (BitVec.toInt ((q32 x >>> (q32 (k : Int) &&& 31)).toBitVec &&& (q32 1).toBitVec)) = _
  have e1 : (q32 1).toBitVec = 1#32 := by decide +kernel
  rw [e1, and1]
  have e2 : (q32 x >>> (q32 (k : Int) &&& 31)).toBitVec.getLsbD 0 = tb x k := by
    show ((q32 x).toBitVec.sshiftRight' ((q32 (k : Int) &&& 31).toBitVec.smod 32#32)).getLsbD 0 = _
    rw [BitVec.sshiftRight', sh_k k hk, BitVec.getLsbD_sshiftRight]
    unfold tb
    simp [hk]
  rw [e2]
