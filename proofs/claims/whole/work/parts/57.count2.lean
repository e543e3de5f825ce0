def V3 (c b a : Nat) : Nat := 65536 * c + 256 * b + a
theorem land3 {a b c m : Nat} (ha : a < 256) (hb : b < 256) (hc : c < 256) (hm : m < 256) : V3 c b a &&& (16843009 * m) = V3 (c &&& m) (b &&& m) (a &&& m) := by
  have e1 : V3 c b a = 256 * (256 * (256 * 0 + c) + b) + a := by unfold V3; omega
  have e2 : 16843009 * m = 256 * (256 * (256 * m + m) + m) + m := by omega
  rw [e1, e2, land_256 ha hm, land_256 hb hm, land_256 hc hm, Nat.zero_and]
  unfold V3
  omega
theorem p1 : ∀ a, a < 256 → ∀ h, h < 2 → (a / 2 + 128 * h) &&& 85 = (a / 2) &&& 85 := by decide +kernel
theorem p2 : ∀ a, a < 256 → ∀ h, h < 4 → (a / 4 + 64 * h) &&& 51 = (a / 4) &&& 51 := by decide +kernel
theorem p3 : ∀ a, a < 69 → ∀ h, h < 5 → (a + (a / 16 + 16 * h)) &&& 15 = (a + a / 16) &&& 15 := by decide +kernel
def pT1 (a : Nat) : Nat := a - ((a / 2) &&& 85)
def pT2 (a : Nat) : Nat := (a &&& 51) + ((a / 4) &&& 51)
def pT3 (a : Nat) : Nat := (a + a / 16) &&& 15
theorem t_ok : ∀ a, a < 256 → (a / 2) &&& 85 ≤ a ∧ pT1 a < 256 ∧ pT2 (pT1 a) < 69 ∧ pT2 (pT1 a) % 16 < 5 ∧ pT3 (pT2 (pT1 a)) = cnt (Nat.testBit a) 8 := by decide +kernel
theorem and63 : ∀ a, a < 64 → a &&& 63 = a := by decide +kernel
theorem V3_lt {a b c : Nat} (ha : a < 256) (hb : b < 256) (hc : c < 256) : V3 c b a < 16777216 := by unfold V3; omega
theorem bc_nat {a b c : Nat} (ha : a < 256) (hb : b < 256) (hc : c < 256) (μ : Mem) : f_J6_bitCount_0f7a4 [vI ((V3 c b a : Nat) : Int)] μ = some (some (vI ((cnt (Nat.testBit a) 8 + cnt (Nat.testBit b) 8 + cnt (Nat.testBit c) 8 : Nat) : Int)), μ) := by
  have mA : (1431655765 : Int) = ((16843009 * 85 : Nat) : Int) := by decide
  have mB : (858993459 : Int) = ((16843009 * 51 : Nat) : Int) := by decide
  have mC : (252645135 : Int) = ((16843009 * 15 : Nat) : Int) := by decide
  have n1 : (1 : Int) = ((1 : Nat) : Int) := rfl
  obtain ⟨a1, a2, a3, a4, a5⟩ := t_ok a ha
  obtain ⟨b1, b2, b3, b4, b5⟩ := t_ok b hb
  obtain ⟨c1, c2, c3, c4, c5⟩ := t_ok c hc
  have x1 : bAnd (bUshr ((V3 c b a : Nat) : Int) 1) 1431655765 = ((V3 ((c / 2) &&& 85) ((b / 2) &&& 85) ((a / 2) &&& 85) : Nat) : Int) := by
    have hx := V3_lt ha hb hc
    have e : V3 c b a / 2 ^ 1 = V3 (c / 2) (b / 2 + 128 * (c % 2)) (a / 2 + 128 * (b % 2)) := by unfold V3; omega
    rw [mA, n1, bUshr_nat (by omega) (by omega), e, bAnd_nat (by unfold V3; omega) (by omega), land3 (by omega) (by omega) (by omega) (by omega), p1 a ha _ (by omega), p1 b hb _ (by omega)]
  have x2 : wr (((V3 c b a : Nat) : Int) - ((V3 ((c / 2) &&& 85) ((b / 2) &&& 85) ((a / 2) &&& 85) : Nat) : Int)) = ((V3 (pT1 c) (pT1 b) (pT1 a) : Nat) : Int) := by
    have hx := V3_lt ha hb hc
    rw [wr_eq (by unfold V3; omega) (by omega)]
    unfold pT1 V3
    omega
  have x3 : bAnd ((V3 (pT1 c) (pT1 b) (pT1 a) : Nat) : Int) 858993459 = ((V3 (pT1 c &&& 51) (pT1 b &&& 51) (pT1 a &&& 51) : Nat) : Int) := by
    have hx := V3_lt a2 b2 c2
    rw [mB, bAnd_nat (by omega) (by omega), land3 a2 b2 c2 (by omega)]
  have x4 : bAnd (bUshr ((V3 (pT1 c) (pT1 b) (pT1 a) : Nat) : Int) 2) 858993459 = ((V3 ((pT1 c / 4) &&& 51) ((pT1 b / 4) &&& 51) ((pT1 a / 4) &&& 51) : Nat) : Int) := by
    have hx := V3_lt a2 b2 c2
    have e : V3 (pT1 c) (pT1 b) (pT1 a) / 2 ^ 2 = V3 (pT1 c / 4) (pT1 b / 4 + 64 * (pT1 c % 4)) (pT1 a / 4 + 64 * (pT1 b % 4)) := by unfold V3; omega
    rw [mB, show (2 : Int) = ((2 : Nat) : Int) from rfl, bUshr_nat (by omega) (by omega), e, bAnd_nat (by unfold V3; omega) (by omega), land3 (by omega) (by omega) (by omega) (by omega), p2 _ a2 _ (by omega), p2 _ b2 _ (by omega)]
  have x5 : wr (((V3 (pT1 c &&& 51) (pT1 b &&& 51) (pT1 a &&& 51) : Nat) : Int) + ((V3 ((pT1 c / 4) &&& 51) ((pT1 b / 4) &&& 51) ((pT1 a / 4) &&& 51) : Nat) : Int)) = ((V3 (pT2 (pT1 c)) (pT2 (pT1 b)) (pT2 (pT1 a)) : Nat) : Int) := by
    have q1 : (pT1 c &&& 51) + ((pT1 c / 4) &&& 51) = pT2 (pT1 c) := rfl
    have q2 : (pT1 b &&& 51) + ((pT1 b / 4) &&& 51) = pT2 (pT1 b) := rfl
    have q3 : (pT1 a &&& 51) + ((pT1 a / 4) &&& 51) = pT2 (pT1 a) := rfl
    rw [wr_eq (by unfold V3; omega) (by unfold V3; omega)]
    unfold V3
    omega
  rw [q_J6_bitCount_0f7a4, x1, x2, x3, x4, x5]
  generalize pT2 (pT1 a) = A at *
  generalize pT2 (pT1 b) = B at *
  generalize pT2 (pT1 c) = C at *
  have e4 : V3 C B A / 2 ^ 4 = V3 (C / 16) (B / 16 + 16 * (C % 16)) (A / 16 + 16 * (B % 16)) := by unfold V3; omega
  have x6 : bAnd (wr (((V3 C B A : Nat) : Int) + bUshr ((V3 C B A : Nat) : Int) 4)) 252645135 = ((V3 (pT3 C) (pT3 B) (pT3 A) : Nat) : Int) := by
    have hx : V3 C B A < 16777216 := V3_lt (by omega) (by omega) (by omega)
    rw [mC, show (4 : Int) = ((4 : Nat) : Int) from rfl, bUshr_nat (by omega) (by omega), e4, wr_eq (by unfold V3; omega) (by unfold V3; omega)]
    have e5 : ((V3 C B A : Nat) : Int) + ((V3 (C / 16) (B / 16 + 16 * (C % 16)) (A / 16 + 16 * (B % 16)) : Nat) : Int) = ((V3 (C + C / 16) (B + (B / 16 + 16 * (C % 16))) (A + (A / 16 + 16 * (B % 16))) : Nat) : Int) := by unfold V3; omega
    rw [e5, bAnd_nat (by unfold V3; omega) (by omega), land3 (by omega) (by omega) (by omega) (by omega), p3 A a3 _ (by omega), p3 B b3 _ (by omega)]
    rfl
  rw [x6, a5, b5, c5]
  have ka := cnt_le (Nat.testBit a) 8
  have kb := cnt_le (Nat.testBit b) 8
  have kc := cnt_le (Nat.testBit c) 8
  generalize cnt (Nat.testBit a) 8 = A at *
  generalize cnt (Nat.testBit b) 8 = B at *
  generalize cnt (Nat.testBit c) 8 = C at *
  have hx : V3 C B A < 16777216 := V3_lt (by omega) (by omega) (by omega)
  have e8 : V3 C B A / 2 ^ 8 = 256 * C + B := by unfold V3; omega
  have x7 : wr (((V3 C B A : Nat) : Int) + bUshr ((V3 C B A : Nat) : Int) 8) = ((V3 C (B + C) (A + B) : Nat) : Int) := by
    rw [show (8 : Int) = ((8 : Nat) : Int) from rfl, bUshr_nat (by omega) (by omega), e8, wr_eq (by unfold V3; omega) (by unfold V3; omega)]
    unfold V3
    omega
  have e16 : V3 C (B + C) (A + B) / 2 ^ 16 = C := by unfold V3; omega
  have x8 : wr (((V3 C (B + C) (A + B) : Nat) : Int) + bUshr ((V3 C (B + C) (A + B) : Nat) : Int) 16) = ((V3 C (B + C) (A + B + C) : Nat) : Int) := by
    rw [show (16 : Int) = ((16 : Nat) : Int) from rfl, bUshr_nat (by unfold V3; omega) (by omega), e16, wr_eq (by unfold V3; omega) (by unfold V3; omega)]
    unfold V3
    omega
  rw [x7, x8, show (63 : Int) = ((63 : Nat) : Int) from rfl, bAnd_nat (by unfold V3; omega) (by omega)]
  have e63 : V3 C (B + C) (A + B + C) &&& 63 = A + B + C := by
    have q1 : V3 C (B + C) (A + B + C) = 256 * (256 * C + (B + C)) + (A + B + C) := by unfold V3; omega
    have q2 : (63 : Nat) = 256 * 0 + 63 := rfl
    rw [q1, q2, land_256 (by omega) (by omega), Nat.and_zero, and63 _ (by omega)]
    omega
  rw [e63]
