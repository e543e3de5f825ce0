/-! numbers: an int of the machine is the Int that it stands for -/
abbrev q32 (x : Int) : Int32 := Int32.ofInt x
abbrev q64 (x : Int) : Int64 := Int64.ofInt x
def in32 (x : Int) : Prop := -2147483648 ≤ x ∧ x ≤ 2147483647
def in64 (x : Int) : Prop := -9223372036854775808 ≤ x ∧ x ≤ 9223372036854775807
theorem bm32 (x : Int) : x.bmod 4294967296 = wr x := by unfold Int.bmod wr; dsimp only; split <;> omega
theorem bm64 (x : Int) : x.bmod 18446744073709551616 = wrL x := by unfold Int.bmod wrL; dsimp only; split <;> omega
theorem wr_in (x : Int) : in32 (wr x) := by unfold in32 wr; omega
theorem wrL_in (x : Int) : in64 (wrL x) := by unfold in64 wrL; omega
theorem wrB_in (x : Int) : in32 (wrB x) := by unfold in32 wrB; omega
theorem wrS_in (x : Int) : in32 (wrS x) := by unfold in32 wrS; omega
theorem wr_id {x : Int} (h : in32 x) : wr x = x := by unfold in32 at h; unfold wr; omega
theorem wrL_id {x : Int} (h : in64 x) : wrL x = x := by unfold in64 at h; unfold wrL; omega
theorem in64_of {x : Int} (h : in32 x) : in64 x := by unfold in32 at h; unfold in64; omega
theorem i32_in (x : Int32) : in32 x.toInt := by
  have h1 := Int32.le_toInt x
  have h2 := Int32.toInt_le x
  have e1 : Int32.minValue.toInt = -2147483648 := by decide +kernel
  have e2 : Int32.maxValue.toInt = 2147483647 := by decide +kernel
  unfold in32; omega
theorem i64_in (x : Int64) : in64 x.toInt := by
  have h1 := Int64.le_toInt x
  have h2 := Int64.toInt_le x
  have e1 : Int64.minValue.toInt = -9223372036854775808 := by decide +kernel
  have e2 : Int64.maxValue.toInt = 9223372036854775807 := by decide +kernel
  unfold in64; omega
theorem q32_toInt (x : Int) : (q32 x).toInt = wr x := by rw [Int32.toInt_ofInt]; exact bm32 x
theorem q64_toInt (x : Int) : (q64 x).toInt = wrL x := by rw [Int64.toInt_ofInt]; exact bm64 x
theorem q32_t {x : Int} (h : in32 x) : (q32 x).toInt = x := by rw [q32_toInt, wr_id h]
theorem q64_t {x : Int} (h : in64 x) : (q64 x).toInt = x := by rw [q64_toInt, wrL_id h]
theorem q32_of (x : Int32) : q32 x.toInt = x := Int32.ofInt_toInt x
theorem q64_of (x : Int64) : q64 x.toInt = x := Int64.ofInt_toInt x
theorem q32_wr (x : Int) : q32 (wr x) = q32 x := Int32.toInt_inj.mp (by rw [q32_toInt, q32_toInt, wr_id (wr_in x)])
theorem q32_eq {x y : Int} (h : wr x = wr y) : q32 x = q32 y := Int32.toInt_inj.mp (by rw [q32_toInt, q32_toInt, h])
theorem q32_inj {x y : Int} (hx : in32 x) (hy : in32 y) : q32 x = q32 y ↔ x = y := by
  constructor
  · intro h
    have := congrArg Int32.toInt h
    rwa [q32_t hx, q32_t hy] at this
  · intro h; rw [h]
theorem q32_lt {x y : Int} (hx : in32 x) (hy : in32 y) : q32 x < q32 y ↔ x < y := by rw [Int32.lt_iff_toInt_lt, q32_t hx, q32_t hy]
theorem q32_le {x y : Int} (hx : in32 x) (hy : in32 y) : q32 x ≤ q32 y ↔ x ≤ y := by rw [Int32.le_iff_toInt_le, q32_t hx, q32_t hy]
theorem q32_0 : q32 0 = 0 := by decide +kernel
theorem in32_0 : in32 0 := by unfold in32; omega
theorem q32_add (x y : Int) : q32 x + q32 y = q32 (wr (x + y)) := Int32.toInt_inj.mp (by
  rw [Int32.toInt_add, q32_toInt, q32_toInt, q32_toInt]
  (try rw [show (2 : Nat) ^ 32 = 4294967296 from rfl])
  rw [bm32]; unfold wr; omega)
theorem q32_sub (x y : Int) : q32 x - q32 y = q32 (wr (x - y)) := Int32.toInt_inj.mp (by
  rw [Int32.toInt_sub, q32_toInt, q32_toInt, q32_toInt]
  (try rw [show (2 : Nat) ^ 32 = 4294967296 from rfl])
  rw [bm32]; unfold wr; omega)
theorem q32_mul (x y : Int) : q32 x * q32 y = q32 (wr (x * y)) := by
  rw [q32_wr]
  exact (Int32.ofInt_mul x y).symm
theorem q32_i2l {x : Int} (h : in32 x) : (q32 x).toInt64 = q64 x := Int64.toInt_inj.mp (by rw [Int32.toInt_toInt64, q32_t h, q64_t (in64_of h)])
theorem q64_l2i (x : Int) : (q64 x).toInt32 = q32 (wr x) := Int32.toInt_inj.mp (by
  rw [Int64.toInt_toInt32, q64_toInt, q32_toInt]
  (try rw [show (2 : Nat) ^ 32 = 4294967296 from rfl])
  rw [bm32]; unfold wrL wr; omega)
theorem q32_i2b (x : Int) : (q32 x).toInt8.toInt32 = q32 (wrB x) := Int32.toInt_inj.mp (by
  rw [Int8.toInt_toInt32, Int32.toInt_toInt8, q32_toInt, q32_toInt]
  (try rw [show (2 : Nat) ^ 8 = 256 from rfl])
  unfold Int.bmod wrB wr; dsimp only; split <;> omega)
theorem q32_i2s (x : Int) : (q32 x).toInt16.toInt32 = q32 (wrS x) := Int32.toInt_inj.mp (by
  rw [Int16.toInt_toInt32, Int32.toInt_toInt16, q32_toInt, q32_toInt]
  (try rw [show (2 : Nat) ^ 16 = 65536 from rfl])
  unfold Int.bmod wrS wr; dsimp only; split <;> omega)
def bAnd (x y : Int) : Int := (q32 x &&& q32 y).toInt
def bOr (x y : Int) : Int := (q32 x ||| q32 y).toInt
def bXor (x y : Int) : Int := (q32 x ^^^ q32 y).toInt
def bShl (x y : Int) : Int := (q32 x <<< (q32 y &&& 31)).toInt
def bShr (x y : Int) : Int := (q32 x >>> (q32 y &&& 31)).toInt
def bUshr (x y : Int) : Int := ((q32 x).toUInt32 >>> ((q32 y).toUInt32 &&& Int32.toUInt32 31)).toInt32.toInt
def bDiv (x y : Int) : Int := (q32 x / q32 y).toInt
def bRem (x y : Int) : Int := (q32 x - q32 x / q32 y * q32 y).toInt
def lAnd (x y : Int) : Int := (q64 x &&& q64 y).toInt
def lOr (x y : Int) : Int := (q64 x ||| q64 y).toInt
def lAdd (x y : Int) : Int := (q64 x + q64 y).toInt
def lShl (x y : Int) : Int := (q64 x <<< ((q32 y).toInt64 &&& 63)).toInt
def lShr (x y : Int) : Int := (q64 x >>> ((q32 y).toInt64 &&& 63)).toInt
theorem q64_lt {x y : Int} (hx : in64 x) (hy : in64 y) : q64 x < q64 y ↔ x < y := by rw [Int64.lt_iff_toInt_lt, q64_t hx, q64_t hy]
theorem q64_inj {x y : Int} (hx : in64 x) (hy : in64 y) : q64 x = q64 y ↔ x = y := by
  constructor
  · intro h
    have := congrArg Int64.toInt h
    rwa [q64_t hx, q64_t hy] at this
  · intro h; rw [h]
theorem q32_clamp {i : Int} (h0 : 0 ≤ i) (h1 : in32 i) : (q32 i).toNatClampNeg = i.toNat := by
  show (q32 i).toInt.toNat = _
  rw [q32_t h1]
theorem q32_vp {i : Int} {n : Nat} (h1 : in32 i) (h : 0 ≤ i ∧ i < (n : Int)) : vp_in (q32 i) n := by
  unfold vp_in
  rintro (q | q)
  · rw [← q32_0, q32_lt h1 in32_0] at q; omega
  · rw [q32_clamp h.1 h1] at q; omega
