/-! feed -/
theorem lAnd_255 (y : Int) : lAnd y 255 = y % 256 := by
  unfold lAnd
  show BitVec.toInt ((q64 y).toBitVec &&& (q64 255).toBitVec) = _
  have e1 : (q64 255).toBitVec = 255#64 := by decide +kernel
  have e2 : (q64 y).toBitVec = BitVec.ofInt 64 y := rfl
  have e3 : (BitVec.ofInt 64 y &&& 255#64).toNat = (y % 18446744073709551616).toNat % 256 := by
    rw [BitVec.toNat_and, BitVec.toNat_ofInt]
    show (y % 18446744073709551616).toNat &&& (2 ^ 8 - 1) = _
    rw [Nat.and_two_pow_sub_one_eq_mod]
  rw [e1, e2, BitVec.toInt_eq_toNat_cond, e3, if_pos (by omega)]
  omega
theorem rel_T {μ μ' ν ν' : Mem} (h : Rel μ ν) (kc : ∀ c, c ≠ 151 → c ≠ 152 → μ' c = μ c) (kr : ∀ c, c ≠ 0 → c ≠ 18 → ν' c = ν c) (k0 : ∀ j, j ≠ 25 → j ≠ 30 → j ≠ 26 → ν' 0 j = ν 0 j) (hT' : RelT μ' ν') : Rel μ' ν' := by
  obtain ⟨hT, hH, hW, hS, hP, hI, hD, hL, hG, hC⟩ := h
  have m : FrM ν ν' := ⟨fun c _ _ => kr c (by omega) (by omega), k0 0 (by omega) (by omega) (by omega), k0 5 (by omega) (by omega) (by omega), k0 23 (by omega) (by omega) (by omega)⟩
  have h24 := hS.2.1
  refine ⟨hT', ?_, (hW.kept (fun c _ _ => kc c (by omega) (by omega))).keptR m, (hS.kept (kc 23 (by omega) (by omega)) (fun c _ _ => kc c (by omega) (by omega))).keptR m (k0 15 (by omega) (by omega) (by omega)) (k0 16 (by omega) (by omega) (by omega)), (hP.kept (kc 25 (by omega) (by omega)) (kc 26 (by omega) (by omega)) (kc 27 (by omega) (by omega))).keptR m (k0 16 (by omega) (by omega) (by omega)), (hI.kept (fun c _ _ => kc c (by omega) (by omega))).keptR m (k0 45 (by omega) (by omega) (by omega)) (k0 46 (by omega) (by omega) (by omega)) (kr 26 (by omega) (by omega)) (kr 27 (by omega) (by omega)) (kr 28 (by omega) (by omega)), (hD.kept (kc 23 (by omega) (by omega)) (kc 28 (by omega) (by omega)) (kc 29 (by omega) (by omega)) (kc 30 (by omega) (by omega))).keptR m (k0 16 (by omega) (by omega) (by omega)) (k0 22 (by omega) (by omega) (by omega)) (kr 17 (by omega) (by omega)), (hL.kept h24 (fun c _ _ => kc c (by omega) (by omega))).keptR m (k0 15 (by omega) (by omega) (by omega)), RelG.keptR (μ := μ') hG m (k0 68 (by omega) (by omega) (by omega)) (kr 42 (by omega) (by omega)) (kr 43 (by omega) (by omega)), (hC.kept (fun c _ _ => kc c (by omega) (by omega))).keptR (kr 51 (by omega) (by omega)) (kr 52 (by omega) (by omega)) (kr 53 (by omega) (by omega))⟩
  unfold RelH at *
  rw [kc 0 (by omega) (by omega), k0 21 (by omega) (by omega) (by omega), k0 22 (by omega) (by omega) (by omega)]
  exact hH
theorem feed_loop {μ0 ν0 : Mem} {v : Int} : ∀ (j i t : Nat) (μ ν : Mem) (o o2 : Option AV), i + j = 8 → t + j ≤ 240 → μ 151 8 = (t : Int) → ν 0 25 = (t : Int) → μ 151 9 = ν 0 30 → (∀ x : Nat, x < t → 0 ≤ ν 18 x ∧ ν 18 x ≤ 255 ∧ μ 152 x = wrB (ν 18 x)) → (∀ c, c ≠ 151 → c ≠ 152 → μ c = μ0 c) → (∀ c, c ≠ 0 → c ≠ 18 → ν c = ν0 c) → (∀ k, k ≠ 25 → ν 0 k = ν0 0 k) →
    ∃ μ' ν', e_X7_append_14 v o i μ = some (some (vI 1), μ') ∧ e_X12_feed_19 v o2 (56 - 8 * (i : Int)) ν = some (some (vI ((t + j : Nat) : Int)), ν') ∧ μ' 151 8 = ((t + j : Nat) : Int) ∧ ν' 0 25 = ((t + j : Nat) : Int) ∧ μ' 151 9 = ν' 0 30 ∧ (∀ x : Nat, x < t + j → 0 ≤ ν' 18 x ∧ ν' 18 x ≤ 255 ∧ μ' 152 x = wrB (ν' 18 x)) ∧ (∀ c, c ≠ 151 → c ≠ 152 → μ' c = μ0 c) ∧ (∀ c, c ≠ 0 → c ≠ 18 → ν' c = ν0 c) ∧ (∀ k, k ≠ 25 → ν' 0 k = ν0 0 k)
  | 0, i, t, μ, ν, o, o2, hj, ht, h1, h2, h3, h4, h5, h6, h7 => by
    obtain rfl : i = 8 := by omega
    refine ⟨μ, ν, ?_, ?_, h1, h2, h3, h4, h5, h6, h7⟩
    · rw [q_X7_append_14, if_neg (by omega), gz_1]
    · rw [q_X12_feed_19, if_pos (by omega), h2]
      rfl
  | j + 1, i, t, μ, ν, o, o2, hj, ht, h1, h2, h3, h4, h5, h6, h7 => by
    rw [q_X7_append_14, if_pos (by omega), h1, gk (lnC 152) 240 rfl (by omega) (by omega), up_cell (c := 152) (c' := 151) (by omega), h1, q_X12_feed_19, if_neg (by omega), h2, gk (lnR 18) 240 rfl (by omega) (by omega), up_cell (c := 18) (c' := 0) (by omega), h2, wr_eq (x := 8 * (i : Int)) (by omega) (by omega), wr_eq (x := 56 - 8 * (i : Int)) (by omega) (by omega), wr_eq (x := (i : Int) + 1) (by omega) (by omega), wr_eq (x := (t : Int) + 1) (by omega) (by omega), wr_eq (x := 56 - 8 * (i : Int) + -8) (by omega) (by omega), show (i : Int) + 1 = ((i + 1 : Nat) : Int) by omega, show (t : Int) + 1 = ((t + 1 : Nat) : Int) by omega, show 56 - 8 * (i : Int) + -8 = 56 - 8 * ((i + 1 : Nat) : Int) by omega, show ((t : Int)).toNat = t by omega, lAnd_255, show t + (j + 1) = t + 1 + j by omega]
    generalize lShr v (56 - 8 * (i : Int)) = y
    have w1 : wr (y % 256) = y % 256 := wr_eq (by omega) (by omega)
    have w2 : wrB (wrB (wr y)) = wrB (y % 256) := by unfold wrB wr; omega
    rw [w1, w2]
    refine feed_loop j (i + 1) (t + 1) _ _ _ _ (by omega) (by omega) (up_same _ _ _ _) (up_same _ _ _ _) ?_ (fun x hx => ?_) (fun c a b => ?_) (fun c a b => ?_) (fun k a => ?_)
    · rw [up_slot (show (9 : Nat) ≠ 8 by omega), up_cell (c := 152) (by omega), up_slot (show (30 : Nat) ≠ 25 by omega), up_cell (c := 18) (by omega)]
      exact h3
    · rw [up_cell (c := 0) (by omega), up_cell (c := 151) (by omega), up_if, up_if]
      by_cases q : x = t
      · rw [if_pos q, if_pos q]
        exact ⟨by omega, by omega, rfl⟩
      · rw [if_neg q, if_neg q]
        exact h4 x (by omega)
    · rw [up_cell a, up_cell b]
      exact h5 c a b
    · rw [up_cell a, up_cell b]
      exact h6 c a b
    · rw [up_slot a, up_cell (by omega)]
      exact h7 k a
theorem sim_feed (μ ν : Mem) (v : Int) (_ : in64 v) (h : Rel μ ν) : Sm Rel f_X11_feed f_X12_feed [vL v] μ ν := by
  unfold Sm
  obtain ⟨t1, t2, t3, t4, t5⟩ := h.1
  rw [q_X11_feed, q_X12_feed, q_X7_append, t1, wr_eq (x := ν 0 25 + 8) (by omega) (by omega), gz_0]
  by_cases q : ν 0 25 ≤ 232
  · rw [if_pos q, if_pos (show ν 0 25 + 8 ≤ 240 by omega)]
    obtain ⟨t, ht⟩ : ∃ t : Nat, ν 0 25 = (t : Int) := ⟨(ν 0 25).toNat, by omega⟩
    obtain ⟨μ', ν', a1, a2, a3, a4, a5, a6, a7, a8, a9⟩ := feed_loop (μ0 := μ) (ν0 := ν) (v := v) 8 0 t μ ν none none (by omega) (by omega) (by omega) ht t4 (fun x hx => t5 x (by omega)) (fun _ _ _ => rfl) (fun _ _ _ => rfl) (fun _ _ => rfl)
    have a1' : e_X7_append_14 v none 0 μ = _ := a1
    have a2' : e_X12_feed_19 v none 56 ν = _ := a2
    rw [a1', cI_t, if_neg ten, a2', a3]
    refine ⟨_, _, _, rfl, rfl, rel_T h a7 a8 (fun j b _ _ => a9 j b) ⟨by rw [a3, a4], by omega, by omega, a5, fun i hi => a6 i (by omega)⟩⟩
  · rw [if_neg q, if_neg (show ¬ ν 0 25 + 8 ≤ 240 by omega), cI_t, if_pos rfl]
    exact ⟨_, _, _, rfl, rfl, h⟩
