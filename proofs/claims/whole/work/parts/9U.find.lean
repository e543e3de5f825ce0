/-! sim find -/
def tz34 (v0 v1 : Int) : Int := if v0 ≤ 256 then if v0 ≤ 16 then if v0 ≤ 4 then wr (v1 + (bUshr v0 1)) else wr ((wr (v1 + 2)) + (bUshr (bUshr v0 2) 1)) else if (bUshr v0 4) ≤ 4 then wr ((wr (v1 + 4)) + (bUshr (bUshr v0 4) 1)) else wr ((wr (wr (v1 + 4) + 2)) + (bUshr (bUshr (bUshr v0 4) 2) 1)) else if (bUshr v0 8) ≤ 16 then if (bUshr v0 8) ≤ 4 then wr ((wr (v1 + 8)) + (bUshr (bUshr v0 8) 1)) else wr ((wr (wr (v1 + 8) + 2)) + (bUshr (bUshr (bUshr v0 8) 2) 1)) else if (bUshr (bUshr v0 8) 4) ≤ 4 then wr ((wr (wr (v1 + 8) + 4)) + (bUshr (bUshr (bUshr v0 8) 4) 1)) else wr ((wr (wr (wr (v1 + 8) + 4) + 2)) + (bUshr (bUshr (bUshr (bUshr v0 8) 4) 2) 1))
theorem tz34_e (v0 v1 : Int) (μ : Mem) : e_J6_numberOfTrailingZeros_0f7a4_34 v0 v1 μ = some (some (vI (tz34 v0 v1)), μ) := by
  rw [q_J6_numberOfTrailingZeros_0f7a4_34]
  unfold tz34
  by_cases a : v0 ≤ 256
  · rw [if_pos a, if_pos a]
    by_cases b : v0 ≤ 16
    · rw [if_pos b, if_pos b]
      by_cases c : v0 ≤ 4
      · rw [if_pos c, if_pos c]
      · rw [if_neg c, if_neg c]
    · rw [if_neg b, if_neg b]
      by_cases c : bUshr v0 4 ≤ 4
      · rw [if_pos c, if_pos c]
      · rw [if_neg c, if_neg c]
  · rw [if_neg a, if_neg a]
    by_cases b : bUshr v0 8 ≤ 16
    · rw [if_pos b, if_pos b]
      by_cases c : bUshr v0 8 ≤ 4
      · rw [if_pos c, if_pos c]
      · rw [if_neg c, if_neg c]
    · rw [if_neg b, if_neg b]
      by_cases c : bUshr (bUshr v0 8) 4 ≤ 4
      · rw [if_pos c, if_pos c]
      · rw [if_neg c, if_neg c]
def tzv (v : Int) : Int := if v ≤ 0 then bAnd v 32 else if v ≤ 65536 then tz34 v 1 else tz34 (bUshr v 16) (wr (1 + 16))
theorem tzv_k : ∀ k : Nat, k < 24 → tzv (2 ^ k - 1) = (k : Int) := by decide +kernel
theorem tz_core {m k : Nat} (hm : m < 16777216) (hk24 : k < 24) (hk : m.testBit k = true) (hl : ∀ j, j < k → m.testBit j = false) : bAnd (bXor (m : Int) (-1)) (wr ((m : Int) - 1)) = 2 ^ k - 1 := by
  have e1 : m % 2 ^ (k + 1) = 2 ^ k := by
    apply Nat.eq_of_testBit_eq
    intro j
    rw [Nat.testBit_mod_two_pow, Nat.testBit_two_pow]
    by_cases q : j < k
    · rw [hl j q]; simp; omega
    · by_cases z : j = k
      · subst z; rw [hk]; simp
      · have : ¬ j < k + 1 := by omega
        simp [this]; omega
  have e2 : m = 2 ^ (k + 1) * (m / 2 ^ (k + 1)) + 2 ^ k := by rw [← e1]; exact (Nat.div_add_mod _ _).symm
  obtain ⟨y, ey⟩ : ∃ y, y = m / 2 ^ (k + 1) := ⟨_, rfl⟩
  rw [← ey] at e2
  have p1 : 0 < 2 ^ k := Nat.two_pow_pos k
  have p2 : (2 : Nat) ^ (k + 1) = 2 * 2 ^ k := by rw [Nat.pow_succ]; omega
  have e3 : m - 1 = 2 ^ (k + 1) * y + (2 ^ k - 1) := by omega
  have pk : (2 : Nat) ^ k ≤ 2 ^ 23 := Nat.pow_le_pow_right (by omega) (by omega)
  have c23 : (2 : Nat) ^ 23 = 8388608 := by decide
  have cst : ((2 ^ k - 1 : Nat) : Int) = 2 ^ k - 1 := by
    rw [Int.ofNat_sub p1]
    simp
  rw [← cst, wr_eq (by omega) (by omega), show (m : Int) - 1 = ((m - 1 : Nat) : Int) by omega]
  refine tb_ext (by unfold bAnd; exact i32_in _) (by unfold in32; omega) (fun j hj => ?_)
  rw [tb_bAnd, tb_bXor, tb_m1 j hj, tb_nat (x := (m : Int)) (by omega), tb_nat (x := ((m - 1 : Nat) : Int)) (by omega), tb_nat (x := ((2 ^ k - 1 : Nat) : Int)) (by omega), show ((m : Int)).toNat = m by omega, show (((m - 1 : Nat) : Int)).toNat = m - 1 by omega, show (((2 ^ k - 1 : Nat) : Int)).toNat = 2 ^ k - 1 by omega, Nat.testBit_two_pow_sub_one]
  have b1 : m.testBit j = if j < k + 1 then (2 ^ k).testBit j else y.testBit (j - (k + 1)) := by
    conv => lhs; rw [e2]
    exact Nat.testBit_two_pow_mul_add y (by omega) j
  have b2 : (m - 1).testBit j = if j < k + 1 then (2 ^ k - 1).testBit j else y.testBit (j - (k + 1)) := by
    rw [e3]
    exact Nat.testBit_two_pow_mul_add y (by omega) j
  rw [b1, b2, Nat.testBit_two_pow_sub_one, Nat.testBit_two_pow]
  by_cases q : j < k
  · rw [if_pos (by omega), if_pos (by omega)]
    have : ¬ k = j := by omega
    simp [q, this]
  · by_cases z : k = j
    · rw [if_pos (by omega), if_pos (by omega)]; simp [z]
    · rw [if_neg (by omega), if_neg (by omega)]; simp [q]
theorem s_tz {m : Int} {k : Nat} (hm : 0 ≤ m ∧ m < 16777216) (hk24 : k < 24) (hk : tb m k = true) (hl : ∀ j, j < k → tb m j = false) (μ : Mem) : f_J6_numberOfTrailingZeros_0f7a4 [vI m] μ = some (some (vI (k : Int)), μ) := by
  obtain ⟨x, rfl⟩ : ∃ x : Nat, m = (x : Int) := ⟨m.toNat, by omega⟩
  have ht : ∀ k, tb (x : Int) k = x.testBit k := fun k => by rw [tb_nat (by omega)]; rfl
  rw [ht] at hk
  have c := tz_core (m := x) (k := k) (by omega) hk24 hk (fun j hj => by rw [← ht]; exact hl j hj)
  have v := tzv_k k hk24
  rw [q_J6_numberOfTrailingZeros_0f7a4, c, tz34_e, tz34_e]
  unfold tzv at v
  rw [← v]
  by_cases a : (2 ^ k - 1 : Int) ≤ 0
  · rw [if_pos a, if_pos a]
  · rw [if_neg a, if_neg a]
    by_cases b : (2 ^ k - 1 : Int) ≤ 65536
    · rw [if_pos b, if_pos b]
    · rw [if_neg b, if_neg b]
/-- the first one of some, or -4 -/
def fsP (P : Nat → Bool) : Nat → Int
  | 0 => -4
  | n + 1 => if fsP P n = -4 then (if P n then (n : Int) else -4) else fsP P n
theorem fsP_spec (P : Nat → Bool) : ∀ n, (fsP P n = -4 ∧ ∀ k, k < n → P k = false) ∨ ∃ k : Nat, k < n ∧ fsP P n = (k : Int) ∧ P k = true ∧ ∀ j, j < k → P j = false
  | 0 => Or.inl ⟨rfl, fun k hk => by omega⟩
  | n + 1 => by
    have e : fsP P (n + 1) = if fsP P n = -4 then (if P n then (n : Int) else -4) else fsP P n := rfl
    rcases fsP_spec P n with ⟨h1, h2⟩ | ⟨k, h1, h2, h3, h4⟩
    · rw [e, if_pos h1]
      cases hn : P n with
      | true => rw [if_pos rfl]; exact Or.inr ⟨n, by omega, rfl, hn, h2⟩
      | false =>
        rw [if_neg (by decide)]
        refine Or.inl ⟨rfl, fun k hk => ?_⟩
        by_cases z : k = n
        · rw [z]; exact hn
        · exact h2 k (by omega)
    · rw [e, if_neg (by omega)]
      exact Or.inr ⟨k, by omega, h2, h3, h4⟩
noncomputable def pL (ν : Mem) (how : Int) (e : Nat) (k : Nat) : Bool := @decide (k ≠ e ∧ LIKE ν how e k) (Classical.propDecidable _)
theorem pL_t {ν : Mem} {how : Int} {e k : Nat} : pL ν how e k = true ↔ (k ≠ e ∧ LIKE ν how e k) := by
  unfold pL
  exact @decide_eq_true_iff _ (Classical.propDecidable _)
theorem pL_f {ν : Mem} {how : Int} {e k : Nat} (h : ¬ (k ≠ e ∧ LIKE ν how e k)) : pL ν how e k = false := by
  cases q : pL ν how e k with
  | false => rfl
  | true => exact absurd (pL_t.mp q) h
theorem r_find42 {μ ν : Mem} {e n : Nat} {how what : Int} (hW : RelW μ ν) (hS : RelS μ ν) (hn : ν 0 5 = (n : Int)) (he : e < n) : ∀ (j i : Nat) (X : Mem) (o7 : Option AV), i + j = n → FrR ν X → ∃ X', e_X12_find_42 e how what (cnt (pL ν how e) i) (fsP (pL ν how e) i) i o7 X = some (some (vI (if what = 0 then (cnt (pL ν how e) n : Int) else fsP (pL ν how e) n)), X') ∧ FrR ν X'
  | 0, i, X, o7, hj, hF => by
    obtain rfl : i = n := by omega
    have h5 : X 0 5 = (i : Int) := by rw [(frR_M hF).2.2.1]; exact hn
    rw [q_X12_find_42, h5, if_neg (by omega)]
    by_cases q : what = 0
    · rw [if_pos q, if_pos q]; exact ⟨X, rfl, hF⟩
    · rw [if_neg q, if_neg q]; exact ⟨X, rfl, hF⟩
  | j + 1, i, X, o7, hj, hF => by
    have h24 := hS.2.1
    have h5 : X 0 5 = (n : Int) := by rw [(frR_M hF).2.2.1]; exact hn
    have hc := cnt_le (pL ν how e) i
    have ec : cnt (pL ν how e) (i + 1) = cnt (pL ν how e) i + (if pL ν how e i then 1 else 0) := rfl
    have ef : fsP (pL ν how e) (i + 1) = if fsP (pL ν how e) i = -4 then (if pL ν how e i then (i : Int) else -4) else fsP (pL ν how e) i := rfl
    have no : ∀ (X1 : Mem) (p7 : Option AV), FrR ν X1 → pL ν how e i = false → ∃ X', e_X12_find_42 e how what (wr ((cnt (pL ν how e) i : Int) + 0)) (fsP (pL ν how e) i) ((i + 1 : Nat) : Int) p7 X1 = some (some (vI (if what = 0 then (cnt (pL ν how e) n : Int) else fsP (pL ν how e) n)), X') ∧ FrR ν X' := fun X1 p7 f hp => by
      have ec' : cnt (pL ν how e) (i + 1) = cnt (pL ν how e) i := by rw [ec, hp]; rfl
      have ef' : fsP (pL ν how e) (i + 1) = fsP (pL ν how e) i := by
        rw [ef, hp]
        by_cases z : fsP (pL ν how e) i = -4
        · rw [if_pos z, z]; rfl
        · rw [if_neg z]
      rw [wr_eq (by omega) (by omega), Int.add_zero, ← ec', ← ef']
      exact r_find42 hW hS hn he j (i + 1) X1 p7 (by omega) f
    rw [q_X12_find_42, h5, if_pos (by omega), w20c (i := i) (by omega)]
    by_cases q : i = e
    · subst q
      rw [if_pos rfl]
      exact no X _ hF (pL_f (fun w => w.1 rfl))
    · obtain ⟨r, X1, a1, a2, a3, a4⟩ := r_areLike (X := X) (how := how) (e := e) (f := i) hW hS (frR_M hF) (by omega) (by omega)
      have F1 := frR_trans hF a2
      rw [if_neg (by omega), a1, cI_t]
      by_cases z : r = 0
      · rw [if_pos z]
        exact no X1 _ F1 (pL_f (fun w => by have := a4.mpr w.2; omega))
      · have hp : pL ν how e i = true := pL_t.mpr ⟨q, a4.mp (by omega)⟩
        rw [hp, if_pos rfl] at ec
        rw [hp, if_pos rfl] at ef
        rw [if_neg z, w20c (i := cnt (pL ν how e) i) (by omega), ← ec]
        by_cases y : fsP (pL ν how e) i = -4
        · rw [if_pos y] at ef
          rw [if_pos y, ← ef]
          exact r_find42 hW hS hn he j (i + 1) X1 _ (by omega) F1
        · rw [if_neg y] at ef
          rw [if_neg y, ← ef]
          exact r_find42 hW hS hn he j (i + 1) X1 _ (by omega) F1
theorem s_all16 {ν : Mem} {A B : List Int} {e n : Nat} {how : Int} (h7 : 0 ≤ how ∧ how ≤ 7) (hn : ν 0 5 = (n : Int)) (he : e < n) (hr : rdy ν how e = some (A, B)) : ∀ (j i : Nat) (μ : Mem) (o2 : Option AV) (m : Int), i + j = n → RelW μ ν → RelS μ ν → μ 780 10 = how → TH μ 781 A → TH μ 783 B → MK m (fun k => k < i ∧ pL ν how e k = true) → ∃ (m' : Int) (μ' : Mem), e_X0_allLike_16 e o2 m i μ = some (some (vI m'), μ') ∧ Fr μ μ' SLk ∧ MK m' (fun k => k < n ∧ pL ν how e k = true)
  | 0, i, μ, o2, m, hj, hW, hS, hh, tA, tB, hm => by
    obtain rfl : i = n := by omega
    rw [q_X0_allLike_16, hS.2.2.1, hn, if_neg (by omega)]
    exact ⟨m, μ, rfl, Fr.rf, hm⟩
  | j + 1, i, μ, o2, m, hj, hW, hS, hh, tA, tB, hm => by
    have h24 := hS.2.1
    have no : ∀ (μ1 : Mem) (p2 : Option AV), Fr μ μ1 SLk → pL ν how e i = false → ∃ (m' : Int) (μ' : Mem), e_X0_allLike_16 e p2 m ((i + 1 : Nat) : Int) μ1 = some (some (vI m'), μ') ∧ Fr μ μ' SLk ∧ MK m' (fun k => k < n ∧ pL ν how e k = true) := fun μ1 p2 f hp => by
      obtain ⟨m', μ', a1, a2, a3⟩ := s_all16 h7 hn he hr j (i + 1) μ1 p2 m (by omega) (hW.kept (fun c _ _ => f c (by unfold SLk; omega))) (hS.kept (f 23 (by unfold SLk; omega)) (fun c _ _ => f c (by unfold SLk; omega))) (by rw [f 780 (by unfold SLk; omega)]; exact hh) (tA.kept f (by unfold SLk; omega) (by unfold SLk; omega)) (tB.kept f (by unfold SLk; omega) (by unfold SLk; omega)) ⟨hm.1, fun k hk => (hm.2 k hk).trans ⟨fun w => ⟨by omega, w.2⟩, fun w => ⟨by
        by_cases z : k = i
        · rw [z, hp] at w; cases w.2
        · omega, w.2⟩⟩⟩
      exact ⟨m', μ', a1, f.trans a2, a3⟩
    rw [q_X0_allLike_16, hS.2.2.1, hn, if_pos (by omega), w20c (i := i) (by omega)]
    by_cases q : i = e
    · subst q
      rw [if_pos rfl]
      exact no μ _ Fr.rf (pL_f (fun w => w.1 rfl))
    · obtain ⟨r, μ1, a1, a2, a3, a4⟩ := s_isLike (e := e) (f := i) hW hS h7 (by omega) (by omega) hr hh tA tB
      rw [if_neg (by omega), a1, cI_t]
      by_cases z : r = 0
      · rw [if_pos z]
        exact no μ1 _ a2 (pL_f (fun w => by have := a4.mpr w.2; omega))
      · have hp : pL ν how e i = true := pL_t.mpr ⟨q, a4.mp (by omega)⟩
        rw [if_neg z]
        obtain ⟨m', μ', b1, b2, b3⟩ := s_all16 h7 hn he hr j (i + 1) μ1 (kl o2) (bOr m (bShl 1 (i : Int))) (by omega) (hW.kept (fun c _ _ => a2 c (by unfold SLk; omega))) (hS.kept (a2 23 (by unfold SLk; omega)) (fun c _ _ => a2 c (by unfold SLk; omega))) (by rw [a2 780 (by unfold SLk; omega)]; exact hh) (tA.kept a2 (by unfold SLk; omega) (by unfold SLk; omega)) (tB.kept a2 (by unfold SLk; omega) (by unfold SLk; omega)) ⟨(hm.or (MK.shl (f := i) (by omega))).1, fun k hk => ((hm.or (MK.shl (f := i) (by omega))).2 k hk).trans ⟨fun w => by
          rcases w with w | w
          · exact ⟨by omega, w.2⟩
          · rw [w]; exact ⟨by omega, hp⟩, fun w => by
          by_cases y : k = i
          · exact Or.inr y
          · exact Or.inl ⟨by omega, w.2⟩⟩⟩
        exact ⟨m', μ', b1, a2.trans b2, b3⟩
theorem sim_find (μ ν : Mem) (x1 x2 x3 : Int) (_ : in32 x1) (_ : in32 x2) (_ : in32 x3) (h : Rel μ ν) : Sm Rel f_X11_find f_X12_find [vI x1, vI x2, vI x3] μ ν := by
  unfold Sm
  have hS := h.2.2.2.1
  have hW := h.2.2.1
  have h24 := hS.2.1
  have h00 := hS.1
  rw [q_X11_find, q_X12_find]
  by_cases hx : ¬ (0 ≤ x1 ∧ x1 < ν 0 5)
  · rw [get_f hS hx, cR_n, isS_f hS hx, cI_t, if_pos rfl]
    exact ⟨-1, μ, ν, rfl, rfl, h⟩
  replace hx := Decidable.not_not.mp hx
  obtain ⟨e, rfl⟩ : ∃ e : Nat, x1 = (e : Int) := ⟨x1.toNat, by omega⟩
  obtain ⟨n, hn⟩ : ∃ n : Nat, ν 0 5 = (n : Int) := ⟨(ν 0 5).toNat, by omega⟩
  rw [get_t hS hx, cR_s, isS_t hS hx, cI_t, if_neg ten, s_in, cI_t]
  by_cases h7 : ¬ (0 ≤ x2 ∧ x2 ≤ 7)
  · rw [if_neg h7, if_pos rfl]
    refine ⟨-1, μ, ν, ?_, rfl, h⟩
    by_cases q : x2 < 0
    · rw [if_pos q]
    · rw [if_neg q, if_neg (show ¬ x2 ≤ 7 by omega)]
  replace h7 := Decidable.not_not.mp h7
  rw [if_pos h7, if_neg ten, if_neg (show ¬ x2 < 0 by omega), if_pos h7.2, s_in, cI_t]
  by_cases h1 : ¬ (0 ≤ x3 ∧ x3 ≤ 1)
  · rw [if_neg h1, if_pos rfl]
    refine ⟨-1, μ, ν, ?_, rfl, h⟩
    by_cases q : x3 < 0
    · rw [if_pos q]
    · rw [if_neg q, if_neg (show ¬ x3 ≤ 1 by omega)]
  replace h1 := Decidable.not_not.mp h1
  rw [if_pos h1, if_neg ten, if_neg (show ¬ x3 < 0 by omega), if_pos h1.2]
  obtain ⟨X', b1, b2⟩ := r_find42 (e := e) (how := x2) (what := x3) hW hS hn (by omega) n 0 ν none (by omega) frR_rf
  have b1' : e_X12_find_42 e x2 x3 0 (-4) 0 none ν = _ := b1
  rw [b1']
  obtain ⟨μ1, a1, a2, a3, a4⟩ := s_begin hW hS h7 hx.2
  have all : ∃ (m : Int) (μ' : Mem), f_X0_allLike [vR 0 780, vI e, vI x2] μ = some (some (vI m), μ') ∧ Fr μ μ' scr ∧ MK m (fun k => k < n ∧ pL ν x2 e k = true) := by
    rw [q_X0_allLike, a1, cI_t]
    cases hr : rdy ν x2 e with
    | none =>
      rw [if_neg (show ¬ (none : Option (List Int × List Int)).isSome = true by decide), if_pos rfl]
      refine ⟨0, μ1, rfl, a2, by unfold in32; omega, fun k hk => ?_⟩
      rw [tb_0]
      refine ⟨fun w => (by cases w), fun w => ?_⟩
      obtain ⟨_, A, B, C, D, z, _⟩ := pL_t.mp w.2
      rw [hr] at z; cases z
    | some AB =>
      obtain ⟨A, B⟩ := AB
      obtain ⟨tA, tB⟩ := a4 A B hr
      obtain ⟨hW1, hS1⟩ := rel_WS h a2
      obtain ⟨m', μ2, c1, c2, c3⟩ := s_all16 h7 hn (by omega) hr n 0 μ1 (some (vI x2)) 0 (by omega) hW1 hS1 a3 tA tB ⟨by unfold in32; omega, fun k hk => by rw [tb_0]; exact ⟨fun w => (by cases w), fun w => by omega⟩⟩
      have c1' : e_X0_allLike_16 e (some (vI x2)) 0 0 μ1 = _ := c1
      rw [if_pos (show (some (A, B)).isSome = true from rfl), if_neg ten, c1']
      exact ⟨m', μ2, rfl, a2.trans (scr_Lk c2), c3⟩
  obtain ⟨m, μ2, c1, c2, c3⟩ := all
  have hR := rel_scrR (rel_scr h c2) b2
  have hrg := c3.rng (fun k w => by have := w.1; omega)
  have tbk : ∀ k, k < n → tb m k = pL ν x2 e k := fun k hk => by
    cases z : pL ν x2 e k with
    | true => exact (c3.2 k (by omega)).mpr ⟨hk, z⟩
    | false =>
      cases y : tb m k with
      | false => rfl
      | true => have := ((c3.2 k (by omega)).mp y).2; rw [z] at this; cases this
  have tbh : ∀ k, n ≤ k → k < 24 → tb m k = false := fun k hk h2 => by
    cases y : tb m k with
    | false => rfl
    | true => have := ((c3.2 k (by omega)).mp y).1; omega
  rw [c1, cI_t]
  by_cases q : x3 = 0
  · rw [if_pos q, if_pos q, s_pop24 hrg, cI_t, cnt_ext (show n ≤ 24 by omega) tbk tbh]
    exact ⟨_, μ2, X', rfl, rfl, hR⟩
  · rw [if_neg q, if_neg q]
    rcases fsP_spec (pL ν x2 e) n with ⟨z1, z2⟩ | ⟨k, z1, z2, z3, z4⟩
    · have m0 : m = 0 := by
        refine tb_ext c3.1 (by unfold in32; omega) (fun k hk => ?_)
        rw [tb_0]
        cases y : tb m k with
        | false => rfl
        | true =>
          have w : k < n ∧ pL ν x2 e k = true := (c3.2 k hk).mp y
          rw [z2 k w.1] at w; cases w.2
      rw [if_pos m0, z1]
      exact ⟨_, μ2, X', rfl, rfl, hR⟩
    · have t1 : tb m k = true := by rw [tbk k z1]; exact z3
      have m0 : ¬ m = 0 := fun y => by rw [y, tb_0] at t1; cases t1
      rw [if_neg m0, s_tz hrg (by omega) t1 (fun j hj => by rw [tbk j (by omega)]; exact z4 j hj), cI_t, z2]
      exact ⟨_, μ2, X', rfl, rfl, hR⟩
