/-! read -/
theorem s_cell {μ ν : Mem} (hC : RelC μ ν) {k i : Nat} (hk : k < 4) (h51 : ν 51 k ≠ -4) (hi : (i : Int) < ν 52 k) : f_X5_cell [vR 5 796, vI k, vI i] μ = some (some (vI (ν 53 (90 * k + i))), μ) := by
  rcases hC k hk with ⟨_, c⟩ | ⟨c1, c2, c3, c4, c5, c6, c7⟩
  · exact absurd c h51
  rw [q_X5_cell, s_isSheetC, cI_t, if_pos (show 0 ≤ (k : Int) ∧ (k : Int) ≤ 3 by omega), if_neg ten, if_neg (by omega), gk (lnC 803) 4 rfl (by omega) (by omega), show ((k : Int)).toNat = k by omega, c1, if_pos hi, gk (lnC 797) 4 rfl (by omega) (by omega), gk _ 90 (lnC_row hk) (by omega) (by omega), show ((i : Int)).toNat = i by omega, show 797 + 1 + k = 798 + k by omega, c7 i hi]
def shS (ν : Mem) (k : Nat) (a : Int) (x : Nat) : Int := ν 53 (90 * k + a.toNat + x)
theorem read_loop {μ0 ν : Mem} {e n k : Nat} {v4 : Int} {o1 o3 : Option AV} (hW : RelW μ0 ν) (hS : RelS μ0 ν) (hC : RelC μ0 ν) (he : (e : Int) < ν 0 5) (ho : ν 7 e = 1 ∨ ν 7 e = 3) (hk : k < 4) (h51 : ν 51 k ≠ -4) (hn : n ≤ 20) (hin : 0 < n → 0 ≤ v4 ∧ v4 + 3 * (n : Int) ≤ ν 52 k) : ∀ (j i : Nat) (μ ν1 : Mem) (Ts : Nat → List Int) (o6 o7 o8 o9 : Option AV), i + j = n → Fr μ0 μ (rwF 211) → RwK μ ν 211 e i Ts → FrV ν ν1 → RT ν1 20 36 (Ts i) →
    (∀ q, q < i → μ 212 q = shS ν k v4 (3 * q) ∧ μ 213 q = (if shS ν k v4 (3 * q) = 2 then -4 else shS ν k v4 (3 * q + 1)) ∧ μ 214 q = shS ν k v4 (3 * q + 2)) →
    (∃ (q : Nat) (μ' ν' : Mem), q < n ∧ e_X11_goBySheet_11 o1 k v4 n i o6 o7 o8 μ = some (some (vI q), μ') ∧ e_X12_read_112 e k o3 v4 n i o9 ν1 = some (some (vI (-100 - (q : Int))), ν') ∧ Fr μ0 μ' (rwF 211) ∧ FrV ν ν') ∨
    (∃ (μ' ν' : Mem) (Ts' : Nat → List Int) (o : Option AV), e_X11_goBySheet_11 o1 k v4 n i o6 o7 o8 μ = some (some (vI n), μ') ∧ e_X12_read_112 e k o3 v4 n i o9 ν1 = e_X12_read_112 e k o3 v4 n n o ν' ∧ Fr μ0 μ' (rwF 211) ∧ FrV ν ν' ∧ RwK μ' ν 211 e n Ts' ∧ RT ν' 20 36 (Ts' n) ∧
      (∀ q, q < n → μ' 212 q = shS ν k v4 (3 * q) ∧ μ' 213 q = (if shS ν k v4 (3 * q) = 2 then -4 else shS ν k v4 (3 * q + 1)) ∧ μ' 214 q = shS ν k v4 (3 * q + 2)))
  | 0, i, μ, ν1, Ts, o6, o7, o8, o9, hj, hF, hR, hV, hT, hE => by
    obtain rfl : i = n := by omega
    refine Or.inr ⟨μ, ν1, Ts, o9, ?_, rfl, hF, hV, hR, hT, hE⟩
    rw [q_X11_goBySheet_11, if_neg (by omega)]
  | j + 1, i, μ, ν1, Ts, o6, o7, o8, o9, hj, hF, hR, hV, hT, hE => by
    obtain ⟨q1, q2⟩ := hin (by omega)
    obtain ⟨a, rfl⟩ : ∃ a : Nat, v4 = (a : Int) := ⟨v4.toNat, by omega⟩
    have h52 : ν 52 k ≤ 90 := by
      rcases hC k hk with ⟨_, c⟩ | ⟨_, _, c, _⟩
      · exact absurd c h51
      · exact c
    have hWm : RelW μ ν := hW.kept (fun c _ _ => hF c (by unfold rwF; omega))
    have hSm : RelS μ ν := hS.kept (hF 23 (by unfold rwF; omega)) (fun c _ _ => hF c (by unfold rwF; omega))
    have hCm : RelC μ ν := hC.kept (fun c _ _ => hF c (by unfold rwF; omega))
    have sh : ∀ x, shS ν k (a : Int) x = ν 53 (90 * k + (a + x)) := fun x => by unfold shS; rw [show ((a : Int)).toNat = a by omega, Nat.add_assoc]
    have v53 : ν1 53 = ν 53 := hV.1 53 (by omega) (by omega)
    rw [q_X11_goBySheet_11, if_pos (show (i : Int) < (n : Int) by omega), wr_eq (x := 3 * (i : Int)) (by omega) (by omega), wr_eq (x := (a : Int) + 3 * (i : Int)) (by omega) (by omega), wr_eq (x := (a : Int) + 3 * (i : Int) + 1) (by omega) (by omega), wr_eq (x := (a : Int) + 3 * (i : Int) + 2) (by omega) (by omega), show (a : Int) + 3 * (i : Int) = ((a + 3 * i : Nat) : Int) by omega, show ((a + 3 * i : Nat) : Int) + 1 = ((a + (3 * i + 1) : Nat) : Int) by omega, show ((a + 3 * i : Nat) : Int) + 2 = ((a + (3 * i + 2) : Nat) : Int) by omega, s_cell hCm hk h51 (by omega), cI_t, s_cell hCm hk h51 (by omega), cI_t, s_cell hCm hk h51 (by omega), cI_t, ← sh (3 * i), ← sh (3 * i + 1), ← sh (3 * i + 2)]
    rw [q_X12_read_112, if_pos (show (i : Int) < (n : Int) by omega), wr_eq (x := 3 * (i : Int)) (by omega) (by omega), wr_eq (x := 90 * (k : Int)) (by omega) (by omega), wr_eq (x := 90 * (k : Int) + (a : Int)) (by omega) (by omega), wr_eq (x := 90 * (k : Int) + (a : Int) + 3 * (i : Int)) (by omega) (by omega), wr_eq (x := 90 * (k : Int) + (a : Int) + 3 * (i : Int) + 1) (by omega) (by omega), wr_eq (x := 90 * (k : Int) + (a : Int) + 3 * (i : Int) + 2) (by omega) (by omega), gk (lnR 53) 360 rfl (by omega) (by omega), s_in, cI_t, gk (lnR 53) 360 rfl (by omega) (by omega), gk (lnR 53) 360 rfl (by omega) (by omega), show (90 * (k : Int) + (a : Int) + 3 * (i : Int)).toNat = 90 * k + (a + 3 * i) by omega, show (90 * (k : Int) + (a : Int) + 3 * (i : Int) + 1).toNat = 90 * k + (a + (3 * i + 1)) by omega, show (90 * (k : Int) + (a : Int) + 3 * (i : Int) + 2).toNat = 90 * k + (a + (3 * i + 2)) by omega, v53, ← sh (3 * i), ← sh (3 * i + 1), ← sh (3 * i + 2), wr_eq (x := -100 - (i : Int)) (by omega) (by omega)]
    generalize hs0 : shS ν k (a : Int) (3 * i) = s0
    generalize hs1 : shS ν k (a : Int) (3 * i + 1) = s1
    generalize hs2 : shS ν k (a : Int) (3 * i + 2) = s2
    by_cases hr : ¬ (0 ≤ s0 ∧ s0 ≤ 3)
    · rw [if_neg hr, if_pos rfl]
      refine Or.inl ⟨i, μ, ν1, by omega, ?_, rfl, hF, hV⟩
      by_cases h0 : s0 < 0
      · rw [if_pos h0]
      · rw [if_neg h0, if_neg (show ¬ s0 ≤ 3 by omega)]
    replace hr := Decidable.not_not.mp hr
    rw [if_pos hr, if_neg ten, if_neg (show ¬ s0 < 0 by omega), if_pos hr.2]
    obtain ⟨r, μ', r2, ν2, b1, b2, b3, b4, b5⟩ := lock (kind := s0) (which := s1) (place := s2) (Or.inr rfl) hWm hSm hR (by omega) hV hT hr (fun _ y => by
      rw [y, show ((e : Int)).toNat = e by omega]
      omega)
    rw [b1, cI_t, b2, cI_t]
    rcases b5 with ⟨d1, d2, d3⟩ | ⟨T', d1, d2, d3, d4, d5, d6, d7, d8, d9⟩
    · rw [if_pos d1, if_pos d2]
      exact Or.inl ⟨i, μ', ν2, by omega, rfl, rfl, hF.trans b3, b4⟩
    · rw [if_neg (show ¬ r < 0 by omega), if_neg (show ¬ r2 < 0 by omega)]
      obtain ⟨ν3, g1, g2, g3⟩ := s_goes d4
      rw [g1, cV_t, wr_eq (x := (i : Int) + 1) (by omega) (by omega), show (i : Int) + 1 = ((i + 1 : Nat) : Int) by omega]
      exact read_loop hW hS hC he ho hk h51 hn hin j (i + 1) μ' ν3 _ _ _ _ _ (by omega) (hF.trans b3) d5 (frV_trans b4 (frV_G g2)) (by unfold exT; rw [if_pos rfl]; exact g3) (fun q hq => by
        by_cases y : q = i
        · rw [y, hs0, hs1, hs2]
          exact ⟨d6, d7, d8⟩
        · obtain ⟨z1, z2, z3⟩ := d9 q (by omega)
          have z1' : μ' 212 q = μ 212 q := z1
          have z2' : μ' 213 q = μ 213 q := z2
          have z3' : μ' 214 q = μ 214 q := z3
          rw [z1', z2', z3']
          exact hE q (by omega))
theorem lAdd_eq {x y : Int} (hx : in32 x) (hy : in32 y) : lAdd x y = x + y := by
  unfold in32 at hx hy
  unfold lAdd
  rw [Int64.toInt_add, q64_t (by unfold in64; omega), q64_t (by unfold in64; omega)]
  unfold Int.bmod
  dsimp only
  split <;> omega
theorem s_faultOf {μ ν : Mem} (hC : RelC μ ν) {k : Nat} (hk : k < 4) (lane a n : Int) (ha : in32 a) (hn : 0 ≤ n ∧ n ≤ 60) : f_X5_faultOf [vR 5 796, vI k, vI lane, vI a, vI n] μ = some (some (vI (if ν 51 k = -4 then 1 else if ν 51 k = lane then (if n = 0 then 0 else if a < 0 then 2 else if a + n ≤ ν 52 k then 0 else 2) else 3)), μ) := by
  unfold in32 at ha
  rw [q_X5_faultOf, q_X5_cellsOf, s_isSheetC, cI_t, if_pos (show 0 ≤ (k : Int) ∧ (k : Int) ≤ 3 by omega), if_neg ten, gk (lnC 803) 4 rfl (by omega) (by omega), cI_t, show ((k : Int)).toNat = k by omega, gk (lnC 802) 4 rfl (by omega) (by omega), gk (lnC 803) 4 rfl (by omega) (by omega)]
  rcases hC k hk with ⟨c1, c2⟩ | ⟨c1, c2, c3, c4, c5, c6, c7⟩
  · rw [c1, if_pos (by omega), if_pos c2]
  · rw [c1, c4, if_neg (by omega), if_neg (show ¬ ν 51 k = -4 by omega), wr_eq (x := ν 52 k - n) (by omega) (by omega)]
    by_cases h1 : ν 51 k = lane
    · rw [if_pos h1, if_pos h1]
      by_cases h2 : n = 0
      · rw [if_pos h2, if_pos h2]
      · rw [if_neg h2, if_neg h2]
        by_cases h3 : a < 0
        · rw [if_pos h3, if_pos h3]
        · rw [if_neg h3, if_neg h3]
          by_cases h4 : a + n ≤ ν 52 k
          · rw [if_pos h4, if_pos (by omega)]
          · rw [if_neg h4, if_neg (by omega)]
    · rw [if_neg h1, if_neg h1]
theorem s_read261 {ν : Mem} {e n m k : Nat} {v4 : Int} {o3 o7 : Option AV} (hk : k < 4) (hn : n ≤ 20) (hm : m + n ≤ 200) (hin : 0 < n → 0 ≤ v4 ∧ v4 + 3 * (n : Int) ≤ 90) : ∀ (j i : Nat), i + j = n → e_X12_read_261 e k o3 v4 n i o7 (tr3 ν m i (fun q => shS ν k v4 (3 * q)) (fun q => if shS ν k v4 (3 * q) = 2 then -4 else shS ν k v4 (3 * q + 1)) (fun q => shS ν k v4 (3 * q + 2))) = e_X12_read_261 e k o3 v4 n n o7 (tr3 ν m n (fun q => shS ν k v4 (3 * q)) (fun q => if shS ν k v4 (3 * q) = 2 then -4 else shS ν k v4 (3 * q + 1)) (fun q => shS ν k v4 (3 * q + 2)))
  | 0, i, hj => by
    obtain rfl : i = n := by omega
    rfl
  | j + 1, i, hj => by
    obtain ⟨q1, q2⟩ := hin (by omega)
    obtain ⟨a, rfl⟩ : ∃ a : Nat, v4 = (a : Int) := ⟨v4.toNat, by omega⟩
    rw [← s_read261 (e := e) (o3 := o3) (o7 := o7) hk hn hm hin j (i + 1) (by omega), ← tr3_s]
    have sh : ∀ x, shS ν k (a : Int) x = ν 53 (90 * k + (a + x)) := fun x => by unfold shS; rw [show ((a : Int)).toNat = a by omega, Nat.add_assoc]
    generalize hX : tr3 ν m i (fun q => shS ν k (a : Int) (3 * q)) (fun q => if shS ν k (a : Int) (3 * q) = 2 then -4 else shS ν k (a : Int) (3 * q + 1)) (fun q => shS ν k (a : Int) (3 * q + 2)) = X
    have T10 : X 0 16 = ((m + i : Nat) : Int) := by rw [← hX]; exact tr3_c
    have T53 : X 53 = ν 53 := by rw [← hX]; exact tr3_o (by omega)
    rw [q_X12_read_261, if_pos (by omega), wr_eq (x := 3 * (i : Int)) (by omega) (by omega), wr_eq (x := 90 * (k : Int)) (by omega) (by omega), wr_eq (x := 90 * (k : Int) + (a : Int)) (by omega) (by omega), wr_eq (x := 90 * (k : Int) + (a : Int) + 3 * (i : Int)) (by omega) (by omega), wr_eq (x := 90 * (k : Int) + (a : Int) + 3 * (i : Int) + 1) (by omega) (by omega), gk (lnR 53) 360 rfl (by omega) (by omega), T10, gk (lnR 14) 200 rfl (by omega) (by omega), up_cell (c := 14) (c' := 0) (by omega), T10, gk (lnR 14) 200 rfl (by omega) (by omega), up_same, gk (lnR 53) 360 rfl (by omega) (by omega), up_cell (c := 14) (c' := 53) (by omega), T53, show (90 * (k : Int) + (a : Int) + 3 * (i : Int)).toNat = 90 * k + (a + 3 * i) by omega, show (90 * (k : Int) + (a : Int) + 3 * (i : Int) + 1).toNat = 90 * k + (a + (3 * i + 1)) by omega, ← sh (3 * i), ← sh (3 * i + 1), show (((m + i : Nat) : Int)).toNat = m + i by omega]
    have L : ∀ w : Int, e_X12_read_339 e k o3 a n i o7 15 ((m + i : Nat) : Int) w (up X 14 (m + i) (shS ν k (a : Int) (3 * i))) = e_X12_read_261 e k o3 a n ((i + 1 : Nat) : Int) o7 (up (up (up (up X 14 (m + i) (shS ν k (a : Int) (3 * i))) 15 (m + i) w) 16 (m + i) (shS ν k (a : Int) (3 * i + 2))) 0 16 ((m + (i + 1) : Nat) : Int)) := fun w => by
      rw [q_X12_read_339, gk (lnR 15) 200 rfl (by omega) (by omega), wr_eq (x := 3 * (i : Int)) (by omega) (by omega), wr_eq (x := 90 * (k : Int)) (by omega) (by omega), wr_eq (x := 90 * (k : Int) + (a : Int)) (by omega) (by omega), wr_eq (x := 90 * (k : Int) + (a : Int) + 3 * (i : Int)) (by omega) (by omega), wr_eq (x := 90 * (k : Int) + (a : Int) + 3 * (i : Int) + 2) (by omega) (by omega), gk (lnR 53) 360 rfl (by omega) (by omega), up_cell (c := 15) (c' := 0) (by omega), up_cell (c := 14) (c' := 0) (by omega), T10, gk (lnR 16) 200 rfl (by omega) (by omega), up_cell (c := 16) (c' := 0) (by omega), up_cell (c := 15) (c' := 0) (by omega), up_cell (c := 14) (c' := 0) (by omega), T10, up_cell (c := 15) (c' := 53) (by omega), up_cell (c := 14) (c' := 53) (by omega), T53, show (90 * (k : Int) + (a : Int) + 3 * (i : Int) + 2).toNat = 90 * k + (a + (3 * i + 2)) by omega, ← sh (3 * i + 2), wr_eq (x := (i : Int) + 1) (by omega) (by omega), wr_eq (x := ((m + i : Nat) : Int) + 1) (by omega) (by omega), show (i : Int) + 1 = ((i + 1 : Nat) : Int) by omega, show ((m + i : Nat) : Int) + 1 = ((m + (i + 1) : Nat) : Int) by omega, show (((m + i : Nat) : Int)).toNat = m + i by omega]
    by_cases q : shS ν k (a : Int) (3 * i) = 2
    · rw [if_pos q, if_pos q, L]
    · rw [if_neg q, if_neg q, L]
theorem sim_read (μ ν : Mem) (x1 x2 x3 x4 x5 : Int) (_ : in32 x1) (_ : in32 x2) (_ : in32 x3) (h4 : in32 x4) (_ : in32 x5) (h : Rel μ ν) : Sm Rel f_X11_read f_X12_read [vI x1, vI x2, vI x3, vI x4, vI x5] μ ν := by
  unfold Sm
  have hS := h.2.2.2.1
  have h24 := hS.2.1
  have h4' : -2147483648 ≤ x4 ∧ x4 ≤ 2147483647 := h4
  rw [q_X11_read, q_X12_read]
  by_cases hx : ¬ (0 ≤ x1 ∧ x1 < ν 0 5)
  · rw [get_f hS hx, cR_n, isS_f hS hx, cI_t, if_pos rfl]
    exact ⟨-1, μ, ν, rfl, rfl, h⟩
  replace hx := Decidable.not_not.mp hx
  obtain ⟨e, rfl⟩ : ∃ e : Nat, x1 = (e : Int) := ⟨x1.toNat, by omega⟩
  rw [get_t hS hx, cR_s, isS_t hS hx, cI_t, if_neg ten, s_isSheetC, cI_t, s_isSheet, cI_t]
  by_cases hs1 : ¬ (0 ≤ x2 ∧ x2 ≤ 3)
  · rw [if_neg hs1, if_pos rfl, if_neg (show ¬ ((0 ≤ x2 ∧ x2 ≤ 3) ∧ 0 ≤ x3 ∧ x3 ≤ 2) from fun q => hs1 q.1), if_pos rfl]
    exact ⟨-1, μ, ν, rfl, rfl, h⟩
  replace hs1 := Decidable.not_not.mp hs1
  rw [if_pos hs1, if_neg ten, s_isLaneC, cI_t]
  by_cases hs2 : ¬ (0 ≤ x3 ∧ x3 ≤ 2)
  · rw [if_neg hs2, if_pos rfl, if_neg (show ¬ ((0 ≤ x2 ∧ x2 ≤ 3) ∧ 0 ≤ x3 ∧ x3 ≤ 2) from fun q => hs2 q.2), if_pos rfl]
    exact ⟨-1, μ, ν, rfl, rfl, h⟩
  replace hs2 := Decidable.not_not.mp hs2
  rw [if_pos hs2, if_neg ten, if_pos (show (0 ≤ x2 ∧ x2 ≤ 3) ∧ 0 ≤ x3 ∧ x3 ≤ 2 from ⟨hs1, hs2⟩), if_neg ten, s_in, cI_t]
  by_cases h5 : ¬ (0 ≤ x5 ∧ x5 ≤ 20)
  · rw [if_neg h5, if_pos rfl]
    refine ⟨-1, μ, ν, ?_, rfl, h⟩
    by_cases q : x5 < 0
    · rw [if_pos q]
    · rw [if_neg q, if_neg (show ¬ x5 ≤ 20 by omega)]
  replace h5 := Decidable.not_not.mp h5
  obtain ⟨n, rfl⟩ : ∃ n : Nat, x5 = (n : Int) := ⟨x5.toNat, by omega⟩
  obtain ⟨k, rfl⟩ : ∃ k : Nat, x2 = (k : Int) := ⟨x2.toNat, by omega⟩
  have hC := h.2.2.2.2.2.2.2.2.2
  rw [if_pos h5, if_neg ten, if_neg (show ¬ (n : Int) < 0 by omega), if_pos h5.2, show ((e : Int)).toNat = e by omega, s_isOpenC hS hx.2, cI_t, s_isOpenR (by omega), cI_t]
  by_cases ho : ¬ (ν 7 e = 1 ∨ ν 7 e = 3)
  · rw [if_neg ho, if_pos rfl, if_pos rfl]
    exact ⟨-2, μ, ν, rfl, rfl, h⟩
  replace ho := Decidable.not_not.mp ho
  rw [if_pos ho, if_neg ten, if_neg ten, wr_eq (x := 3 * (n : Int)) (by omega) (by omega), s_faultOf hC (by omega) x3 x4 _ h4 (by omega), cI_t, gk (lnR 51) 4 rfl (by omega) (by omega), gk (lnR 51) 4 rfl (by omega) (by omega), gk (lnR 52) 4 rfl (by omega) (by omega), show ((k : Int)).toNat = k by omega, lAdd_eq h4 (by unfold in32; omega)]
  by_cases h51 : ν 51 k = -4
  · rw [if_pos h51, if_neg (by decide), if_neg (show ¬ ν 51 k = x3 by omega), if_pos h51]
    exact ⟨_, μ, ν, rfl, rfl, h⟩
  rw [if_neg h51]
  by_cases hl : ¬ ν 51 k = x3
  · rw [if_neg hl, if_neg (by decide), if_neg hl, if_neg h51]
    exact ⟨_, μ, ν, rfl, rfl, h⟩
  replace hl := Decidable.not_not.mp hl
  rw [if_pos hl, if_pos hl]
  have h52 : 0 ≤ ν 52 k ∧ ν 52 k ≤ 90 := by
    rcases hC k (by omega) with ⟨_, c⟩ | ⟨_, c0, c, _⟩
    · exact absurd c h51
    · exact ⟨c0, c⟩
  have main : (0 < n → 0 ≤ x4 ∧ x4 + 3 * (n : Int) ≤ ν 52 k) → ∃ r μ' ν', cI (f_X11_goBySheet [vR 11 0, vI e, vI k, vI x4, vI n] μ) (fun x12 μ11 => if x12 < (n : Int) then some (some (vI (wr ((-100) - x12))), μ11) else cI (f_X1_arrived [vR 1 211] μ11) (fun x14 μ13 => if x14 = 0 then some (some (vI 0), μ13) else cI (f_X11_tell [vR 11 0, vR 1 211] μ13) (fun x16 μ15 => if x16 = (-3) then some (some (vI (-3)), μ15) else some (some (vI 1), μ15)))) = some (some (vI r), μ') ∧ cV (f_X12_begins [vR 12 0, vI e] ν) (fun μ9 => e_X12_read_112 e k (some (vI x3)) x4 n 0 none μ9) = some (some (vI r), ν') ∧ Rel μ' ν' := by
    intro hin
    have hs := hS.2.2.2.2.2.2.2.2 e hx.2
    obtain ⟨μ1, a1, a2, a3⟩ := rwK_begin (v0 := 211) (Or.inr rfl) hS hx.2
    obtain ⟨ν1, b1, b2, b3⟩ := s_begins (ν := ν) (e := e) (by omega) (by have := hs.1; unfold okS at this; rw [show 2 * e + 0 = 2 * e by omega] at this; omega)
    rw [q_X11_goBySheet, a1, cV_t, b1, cV_t]
    have LL := read_loop (o1 := some (vI e)) (o3 := some (vI x3)) h.2.2.1 hS hC hx.2 ho (by omega) h51 (by omega) hin n 0 μ1 ν1 _ none none none none (by omega) a2 a3 (frV_G b2) b3 (fun q hq => by omega)
    rw [show ((0 : Nat) : Int) = 0 from rfl] at LL
    rcases LL with ⟨q, μ', ν', c1, c2, c3, c4, c5⟩ | ⟨μ', ν', Ts, o, c1, c2, c3, c4, c5, c6, c7⟩
    · rw [c2, cI_t, c3, if_pos (by omega), wr_eq (x := -100 - (q : Int)) (by omega) (by omega)]
      exact ⟨_, _, _, rfl, rfl, rel_scrR (rel_scr h (c4.mono (fun c hc => by unfold rwF at hc; unfold scr; omega))) (frV_R c5)⟩
    · have hr1 : Rel μ' ν := rel_scr h (c3.mono (fun c hc => by unfold rwF at hc; unfold scr; omega))
      have hr : Rel μ' ν' := rel_scrR hr1 (frV_R c4)
      have hM := frV_M c4
      have hSr := hr1.2.2.2.1
      obtain ⟨d1, d2, d3, d4, d5, d6, d7⟩ := c5
      rw [c1, cI_t, if_neg (show ¬ (n : Int) < (n : Int) by omega), c2, s_arrived (v0 := 211) (n := n) (Or.inr rfl) hSr hx.2 d1 d2 d3 d5, cI_t, q_X12_read_112, if_neg (show ¬ (n : Int) < (n : Int) by omega), s_isAtRight (e := e) (by omega) (by rw [frM_c hM (by omega)]; have := hs.2.1.1; omega) c6 (isT_ne d6.1), cI_t, frM_sL hM]
      by_cases qr : Ts n = sL ν e 1
      · rw [if_pos qr, if_neg ten, if_neg ten]
        have hS' := hr.2.2.2.1
        obtain ⟨m, hm⟩ : ∃ m : Nat, ν' 0 16 = (m : Int) := ⟨(ν' 0 16).toNat, by have := hS'.2.2.2.1; omega⟩
        have m200 := hS'.2.2.2.2.1
        have hA := s_tell (v0 := 211) (n := n) (m := m) (e := e) (Ts := Ts) hr (Or.inr rfl) (by rw [hM.2.2.1]; exact hx.2) d1 d2 d3 hm (by rw [frM_c hM (by omega)]; exact ho) (by rw [frM_sL hM]; exact d4) (by rw [frM_sL hM]; exact qr) (fun i hi => by
          rw [frM_stp hM, frM_ptw hM]
          exact d7 i hi)
        rw [hm, wr_eq (x := (m : Int) + (n : Int)) (by omega) (by omega)]
        by_cases hmn : m + n ≤ 200
        · rw [if_pos hmn] at hA
          obtain ⟨μ2, f1, f2⟩ := hA
          have tl := turns_le hr.2.2.2.2.2.2.1 hS'
          have s15 := hS'.2.2.2.2.2.2.1
          rw [f1, cI_t, if_neg (by omega), if_pos (show (m : Int) + (n : Int) ≤ 200 by omega), gk (lnR 10) 24 rfl (by omega) (by omega), gk (lnR 11) 24 rfl (by omega) (by omega), show ((e : Int)).toNat = e by omega]
          have sh : ∀ x, shS (up (up ν' 10 e (m : Int)) 11 e (n : Int)) k x4 x = shS ν k x4 x := fun x => by
            unfold shS
            rw [up_cell (by omega), up_cell (by omega), c4.1 53 (by omega) (by omega)]
          have L := s_read261 (ν := up (up ν' 10 e (m : Int)) 11 e (n : Int)) (e := e) (n := n) (m := m) (k := k) (v4 := x4) (o3 := some (vI x3)) (o7 := o) (by omega) d3 hmn (fun q => by have := hin q; omega) n 0 (by omega)
          rw [tr3_0 (by rw [up_cell (by omega), up_cell (by omega)]; exact hm)] at L
          simp only [sh] at L
          have L' : e_X12_read_261 e k (some (vI x3)) x4 n 0 o (up (up ν' 10 e (m : Int)) 11 e (n : Int)) = _ := L
          rw [L', q_X12_read_261, if_neg (by omega), s_fin (ν := ν') (m := m) (n := n) (by omega) (by omega) ⟨hr.2.1.2.2.1, hr.2.1.2.2.2⟩ rfl, telR_k45, telR_45, telR_45]
          have ee : ∀ z, telR ν' e m n (μ' (211 + 1)) (μ' (211 + 2)) (μ' (211 + 3)) z = telR ν' e m n (fun q => shS ν k x4 (3 * q)) (fun q => if shS ν k x4 (3 * q) = 2 then -4 else shS ν k x4 (3 * q + 1)) (fun q => shS ν k x4 (3 * q + 2)) z := fun z => by
            funext c j
            unfold telR
            by_cases y : m ≤ j ∧ j < m + n
            · rw [(c7 (j - m) (by omega)).1, (c7 (j - m) (by omega)).2.1, (c7 (j - m) (by omega)).2.2]
            · rw [if_neg (show ¬ (c = 14 ∧ m ≤ j ∧ j < m + n) by omega), if_neg (show ¬ (c = 15 ∧ m ≤ j ∧ j < m + n) by omega), if_neg (show ¬ (c = 16 ∧ m ≤ j ∧ j < m + n) by omega), if_neg (show ¬ (c = 14 ∧ m ≤ j ∧ j < m + n) by omega), if_neg (show ¬ (c = 15 ∧ m ≤ j ∧ j < m + n) by omega), if_neg (show ¬ (c = 16 ∧ m ≤ j ∧ j < m + n) by omega)]
          rw [ee] at f2
          by_cases y : ν' 0 45 = (e : Int)
          · rw [if_pos y]
            rw [if_pos y] at f2
            exact ⟨_, _, _, rfl, rfl, f2⟩
          · rw [if_neg y]
            rw [if_neg y] at f2
            exact ⟨_, _, _, rfl, rfl, f2⟩
        · rw [if_neg hmn] at hA
          rw [hA, cI_t, if_pos rfl, if_neg (show ¬ ((m : Int) + (n : Int) ≤ 200) by omega)]
          exact ⟨_, _, _, rfl, rfl, hr⟩
      · rw [if_neg qr, if_pos rfl, if_pos rfl]
        exact ⟨_, _, _, rfl, rfl, hr⟩
  by_cases n0 : n = 0
  · rw [if_pos (show 3 * (n : Int) = 0 by omega), if_pos rfl, if_pos (show (n : Int) ≤ 0 by omega)]
    exact main (fun q => by omega)
  · rw [if_neg (show ¬ 3 * (n : Int) = 0 by omega), if_neg (show ¬ (n : Int) ≤ 0 by omega)]
    by_cases a0 : x4 < 0
    · rw [if_pos a0, if_neg (by decide), if_pos a0]
      exact ⟨_, μ, ν, rfl, rfl, h⟩
    · rw [if_neg a0, if_neg a0]
      by_cases a1 : x4 + 3 * (n : Int) ≤ ν 52 k
      · rw [if_pos a1, if_pos rfl, if_pos (by split <;> omega)]
        exact main (fun _ => ⟨by omega, a1⟩)
      · rw [if_neg a1, if_neg (by decide), if_neg (by split <;> omega)]
        exact ⟨_, μ, ν, rfl, rfl, h⟩
