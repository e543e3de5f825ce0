/-! THE CALLS: lay, undo, stepOf, prove, as -/
theorem rel_I {μ μ' ν ν' : Mem} (h : Rel μ ν) (kc : ∀ c, (c < 163 ∨ 211 ≤ c) → μ' c = μ c) (kr : ∀ c, c ≠ 0 → ¬ (26 ≤ c ∧ c ≤ 28) → ν' c = ν c) (k0 : ∀ j, j ≠ 45 → j ≠ 46 → ν' 0 j = ν 0 j) (hI' : RelI μ' ν') : Rel μ' ν' := by
  obtain ⟨hT, hH, hW, hS, hP, hI, hD, hL, hG, hC⟩ := h
  have m : FrM ν ν' := ⟨fun c _ _ => kr c (by omega) (by omega), k0 0 (by omega) (by omega), k0 5 (by omega) (by omega), k0 23 (by omega) (by omega)⟩
  have h24 := hS.2.1
  refine ⟨(hT.kept (μ' := μ') (by rw [kc 151 (by omega)]) (by rw [kc 151 (by omega)]) (kc 152 (by omega))).keptR (k0 25 (by omega) (by omega)) (k0 30 (by omega) (by omega)) (kr 18 (by omega) (by omega)), ?_, (hW.kept (fun c _ _ => kc c (by omega))).keptR m, (hS.kept (kc 23 (by omega)) (fun c _ _ => kc c (by omega))).keptR m (k0 15 (by omega) (by omega)) (k0 16 (by omega) (by omega)), (hP.kept (kc 25 (by omega)) (kc 26 (by omega)) (kc 27 (by omega))).keptR m (k0 16 (by omega) (by omega)), hI', (hD.kept (kc 23 (by omega)) (kc 28 (by omega)) (kc 29 (by omega)) (kc 30 (by omega))).keptR m (k0 16 (by omega) (by omega)) (k0 22 (by omega) (by omega)) (kr 17 (by omega) (by omega)), (hL.kept h24 (fun c _ _ => kc c (by omega))).keptR m (k0 15 (by omega) (by omega)), RelG.keptR (μ := μ') hG m (k0 68 (by omega) (by omega)) (kr 42 (by omega) (by omega)) (kr 43 (by omega) (by omega)), (hC.kept (fun c _ _ => kc c (by omega))).keptR (kr 51 (by omega) (by omega)) (kr 52 (by omega) (by omega)) (kr 53 (by omega) (by omega))⟩
  unfold RelH at *
  rw [kc 0 (by omega), k0 21 (by omega) (by omega), k0 22 (by omega) (by omega)]
  exact hH
theorem rel_C {μ μ' ν ν' : Mem} (h : Rel μ ν) (kc : ∀ c, c < 796 → μ' c = μ c) (kr : ∀ c, c ≠ 51 → c ≠ 52 → c ≠ 53 → ν' c = ν c) (hC' : RelC μ' ν') : Rel μ' ν' := by
  obtain ⟨hT, hH, hW, hS, hP, hI, hD, hL, hG, hC⟩ := h
  have k0 : ∀ j, ν' 0 j = ν 0 j := fun j => by rw [kr 0 (by omega) (by omega) (by omega)]
  have m : FrM ν ν' := ⟨fun c _ _ => kr c (by omega) (by omega) (by omega), k0 0, k0 5, k0 23⟩
  have h24 := hS.2.1
  refine ⟨(hT.kept (μ' := μ') (by rw [kc 151 (by omega)]) (by rw [kc 151 (by omega)]) (kc 152 (by omega))).keptR (k0 25) (k0 30) (kr 18 (by omega) (by omega) (by omega)), ?_, (hW.kept (fun c _ _ => kc c (by omega))).keptR m, (hS.kept (kc 23 (by omega)) (fun c _ _ => kc c (by omega))).keptR m (k0 15) (k0 16), (hP.kept (kc 25 (by omega)) (kc 26 (by omega)) (kc 27 (by omega))).keptR m (k0 16), (hI.kept (fun c _ _ => kc c (by omega))).keptR m (k0 45) (k0 46) (kr 26 (by omega) (by omega) (by omega)) (kr 27 (by omega) (by omega) (by omega)) (kr 28 (by omega) (by omega) (by omega)), (hD.kept (kc 23 (by omega)) (kc 28 (by omega)) (kc 29 (by omega)) (kc 30 (by omega))).keptR m (k0 16) (k0 22) (kr 17 (by omega) (by omega) (by omega)), (hL.kept h24 (fun c _ _ => kc c (by omega))).keptR m (k0 15), RelG.keptR (μ := μ') hG m (k0 68) (kr 42 (by omega) (by omega) (by omega)) (kr 43 (by omega) (by omega) (by omega)), hC'⟩
  unfold RelH at *
  rw [kc 0 (by omega), k0 21, k0 22]
  exact hH
theorem sim_lay (μ ν : Mem) (x1 x2 x3 : Int) (_ : in32 x1) (_ : in32 x2) (_ : in32 x3) (h : Rel μ ν) : Sm Rel f_X11_lay f_X12_lay [vI x1, vI x2, vI x3] μ ν := by
  unfold Sm
  rw [q_X11_lay, q_X12_lay, s_isSheetC, s_isSheet, cI_t, cI_t]
  by_cases h1 : ¬ (0 ≤ x1 ∧ x1 ≤ 3)
  · rw [if_neg h1, if_neg (show ¬ ((0 ≤ x1 ∧ x1 ≤ 3) ∧ (0 : Int) ≤ 0 ∧ (0 : Int) ≤ 2) from fun q => h1 q.1), if_pos rfl, if_pos rfl]
    exact ⟨-1, μ, ν, rfl, rfl, h⟩
  replace h1 := Decidable.not_not.mp h1
  rw [if_pos h1, if_pos (show (0 ≤ x1 ∧ x1 ≤ 3) ∧ (0 : Int) ≤ 0 ∧ (0 : Int) ≤ 2 from ⟨h1, by omega⟩), if_neg ten, if_neg ten, q_X5_write, s_isSheetC, cI_t, if_pos h1, if_neg ten]
  obtain ⟨k, rfl⟩ : ∃ k : Nat, x1 = (k : Int) := ⟨x1.toNat, by omega⟩
  have hk : k < 4 := by omega
  rw [show ((k : Int)).toNat = k by omega, gk (lnC 803) 4 rfl (by omega) (by omega), gk (lnR 51) 4 rfl (by omega) (by omega)]
  have hC := h.2.2.2.2.2.2.2.2.2
  rcases hC k hk with ⟨c1, c2⟩ | ⟨c1, c2, c3, c4, c5, c6, c7⟩
  · rw [c1, c2, if_pos (by decide), if_pos rfl]
    exact ⟨-11, μ, ν, rfl, rfl, h⟩
  rw [c1, if_neg (by omega), if_neg (show ¬ ν 51 k = -4 by omega), gk (lnR 52) 4 rfl (by omega) (by omega), s_in, cI_t, wr_eq (by omega) (by omega)]
  by_cases h2 : ¬ (0 ≤ x2 ∧ x2 ≤ ν 52 k - 1)
  · rw [if_neg h2, if_pos rfl]
    refine ⟨-12, μ, ν, ?_, rfl, h⟩
    by_cases h3 : x2 < 0
    · rw [if_pos h3]
      rfl
    · rw [if_neg h3, gk (lnC 803) 4 rfl (by omega) (by omega), if_neg (by omega)]
      rfl
  replace h2 := Decidable.not_not.mp h2
  rw [if_pos h2, if_neg ten, if_neg (show ¬ x2 < 0 by omega), gk (lnC 803) 4 rfl (by omega) (by omega), if_pos (show x2 < ν 52 k by omega), gk (lnC 797) 4 rfl (by omega) (by omega), gk (lnC 802) 4 rfl (by omega) (by omega), c4, q_X5_lowest]
  obtain ⟨j, rfl⟩ : ∃ j : Nat, x2 = (j : Int) := ⟨x2.toNat, by omega⟩
  have w1 : wr (90 * (k : Int)) = 90 * (k : Int) := wr_eq (by omega) (by omega)
  have w2 : wr (90 * (k : Int) + j) = 90 * (k : Int) + j := wr_eq (by omega) (by omega)
  have w3 : (90 * (k : Int) + j).toNat = 90 * k + j := by omega
  have w4 : ((j : Int)).toNat = j := by omega
  have fin : ∀ v : Int, ∃ r μ' ν', cI (cI (some (some (vI v), μ)) fun x4 μ3 => gi (j : Int) (lnC (797 + 1 + k)) (some (some (vI 1), up μ3 (797 + 1 + k) ((j : Int)).toNat x4))) (fun x4 μ3 => some (some (vI x4), μ3)) = some (some (vI r), μ') ∧ gi (90 * (k : Int) + j) (lnR 53) (some (some (vI 1), up ν 53 (90 * (k : Int) + j).toNat v)) = some (some (vI r), ν') ∧ Rel μ' ν' := by
    intro v
    rw [cI_t, gk _ 90 (lnC_row hk) (by omega) (by omega), cI_t, gk (lnR 53) 360 rfl (by omega) (by omega), w3, w4]
    refine ⟨1, _, _, rfl, rfl, rel_C h (fun c hc => up_cell (by omega)) (fun c _ _ q => up_cell q) ?_⟩
    intro i hi
    rw [up_cell (show 803 ≠ 797 + 1 + k by omega), up_cell (show 802 ≠ 797 + 1 + k by omega), up_cell (show 51 ≠ 53 by omega), up_cell (show 52 ≠ 53 by omega)]
    rcases hC i hi with hc | ⟨d1, d2, d3, d4, d5, d6, d7⟩
    · exact Or.inl hc
    · refine Or.inr ⟨d1, d2, d3, d4, d5, d6, fun y hy => ?_⟩
      by_cases hik : i = k
      · subst hik
        by_cases hyj : y = j
        · subst hyj
          rw [up_same, up_same]
        · rw [up_slot hyj, up_slot (by omega)]
          exact d7 y hy
      · rw [up_cell (show 798 + i ≠ 797 + 1 + k by omega), up_slot (by omega)]
        exact d7 y hy
  rw [w1, w2, gk (lnR 51) 4 rfl (by omega) (by omega)]
  by_cases l0 : ν 51 k = 0
  · rw [if_pos l0, if_pos l0]
    exact fin _
  · rw [if_neg l0, if_neg l0, gk (lnR 51) 4 rfl (by omega) (by omega)]
    by_cases l1 : ν 51 k = 1
    · rw [if_pos l1, if_pos l1]
      exact fin _
    · rw [if_neg l1, if_neg l1]
      exact fin _
theorem sim_undo (μ ν : Mem) (h : Rel μ ν) : Sm Rel f_X11_undo f_X12_undo [] μ ν := by
  unfold Sm
  rw [q_X11_undo, q_X12_undo, q_X1_goBack]
  have hI := h.2.2.2.2.2.1
  rcases hI with ⟨a, b, c⟩ | ⟨h1, h2, h3, h4, h5, h6, h7, Ts, h8, h9, h10⟩
  · rw [if_pos c, if_pos a]
    exact ⟨-4, μ, ν, rfl, rfl, h⟩
  · rw [h5, if_neg (show ¬ ν 0 45 = -4 by omega)]
    by_cases h0 : ν 0 46 = 0
    · rw [if_pos h0, if_pos h0]
      exact ⟨-4, μ, ν, rfl, rfl, h⟩
    · rw [if_neg h0, if_neg h0, wr_eq (by omega) (by omega), up_same, up_same, cI_t]
      refine ⟨_, _, _, rfl, rfl, rel_I h (fun c hc => up_cell (by omega)) (fun c hc _ => up_cell hc) (fun j _ q => up_slot q) (Or.inr ⟨h1, h2, h3, h4, ?_, ?_, ?_, Ts, ?_, fun i hi => ?_, fun i hi => ?_⟩)⟩
      · rfl
      · show 0 ≤ ν 0 46 - 1; omega
      · show ν 0 46 - 1 ≤ 20; omega
      · exact h8
      · have hi2 : (i : Int) ≤ ν 0 46 - 1 := hi
        exact (h9 i (by omega)).kept (S := fun c => c = 163) (fun c hc => up_cell hc) (by omega) (by omega)
      · have hi2 : (i : Int) < ν 0 46 - 1 := hi
        have m : FrM ν (up ν 0 46 (ν 0 46 - 1)) := frM_up0 (by omega)
        have h11 := h10 i (by omega)
        rw [frM_stp m, frM_ptw m]
        exact h11
theorem sim_stepOf (μ ν : Mem) (x1 x2 x3 : Int) (_ : in32 x1) (_ : in32 x2) (_ : in32 x3) (h : Rel μ ν) : Sm Rel f_X11_stepOf f_X12_stepOf [vI x1, vI x2, vI x3] μ ν := by
  unfold Sm
  rw [q_X11_stepOf, q_X12_stepOf]
  obtain ⟨hT, hH, hW, hS, hP, hI, hD, hL, hG, hC⟩ := id h
  by_cases he : ¬ (0 ≤ x1 ∧ x1 < ν 0 5)
  · rw [get_f hS he, isS_f hS he, cR_n, cI_t, if_pos rfl]
    exact ⟨-1, μ, ν, rfl, rfl, h⟩
  replace he := Decidable.not_not.mp he
  rw [get_t hS he, isS_t hS he, cR_s, cI_t, if_neg ten, s_in, cI_t]
  by_cases hk : ¬ (0 ≤ x3 ∧ x3 ≤ 2)
  · rw [if_neg hk, if_pos rfl]
    refine ⟨-1, μ, ν, ?_, rfl, h⟩
    split
    · rfl
    · split
      · rfl
      · rw [if_neg (by omega)]
  replace hk := Decidable.not_not.mp hk
  rw [if_pos hk, if_neg ten, if_neg (show ¬ x3 < 0 by omega), if_pos hk.2]
  by_cases h2 : x2 < 0
  · rw [if_pos h2, if_pos h2]
    exact ⟨-1, μ, ν, rfl, rfl, h⟩
  rw [if_neg h2, if_neg h2]
  obtain ⟨e, rfl⟩ : ∃ e : Nat, x1 = (e : Int) := ⟨x1.toNat, by omega⟩
  obtain ⟨n1, n2, n3, p1, p2, p3, -, -, hs9⟩ := id hS
  obtain ⟨-, -, -, -, s1, s2, s3, -, -, s4, s5, -, -⟩ := hs9 e he.2
  rw [show ((e : Int)).toNat = e by omega, gk (lnR 10) 24 rfl (by omega) (by omega)]
  by_cases hsh : ν 7 e < 2
  · obtain ⟨a, b, -⟩ := s4 hsh
    rw [a, b, if_pos rfl, if_pos (by decide)]
    exact ⟨-4, μ, ν, rfl, rfl, h⟩
  · obtain ⟨a1, a2, a3, a4, a5, a6⟩ := s5 (by omega)
    rw [a6, if_neg (show ¬ ν 11 e < 0 by omega), if_neg (show ¬ ν 10 e = -4 by omega), gk (lnR 11) 24 rfl (by omega) (by omega)]
    by_cases h3 : ¬ (x2 < ν 11 e)
    · rw [if_neg h3, if_neg h3]
      exact ⟨-1, μ, ν, rfl, rfl, h⟩
    replace h3 := Decidable.not_not.mp h3
    rw [if_pos h3, if_pos h3, gk (lnR 10) 24 rfl (by omega) (by omega), a5, wr_eq (by omega) (by omega), q_X3_toldAt, p3, if_neg (show ¬ ν 10 e + x2 < 0 by omega), if_pos (show ν 10 e + x2 < ν 0 16 by omega)]
    obtain ⟨b1, b2, b3, -⟩ := hP (ν 10 e + x2).toNat (by omega)
    by_cases z0 : x3 = 0
    · rw [if_pos z0, if_pos z0, gk (lnC 25) 200 rfl (by omega) (by omega), gk (lnR 14) 200 rfl (by omega) (by omega), b1]
      exact ⟨_, μ, ν, rfl, rfl, h⟩
    · rw [if_neg z0, if_neg z0]
      by_cases z1 : x3 = 1
      · rw [if_pos z1, if_pos z1, gk (lnC 26) 200 rfl (by omega) (by omega), gk (lnR 15) 200 rfl (by omega) (by omega), b2]
        exact ⟨_, μ, ν, rfl, rfl, h⟩
      · rw [if_neg z1, if_neg z1, gk (lnC 27) 200 rfl (by omega) (by omega), gk (lnR 16) 200 rfl (by omega) (by omega), b3]
        exact ⟨_, μ, ν, rfl, rfl, h⟩
theorem turns_le {μ ν : Mem} (h : RelD μ ν) (hS : RelS μ ν) : 0 ≤ μ 23 7 ∧ μ 23 7 ≤ 424 := by
  obtain ⟨a, b, -⟩ := h
  obtain ⟨n1, n2, -, p1, p2, -⟩ := hS
  have c1 : ∀ (P : Nat → Bool) (n : Nat), cnt P n ≤ n := by
    intro P n
    induction n with
    | zero => exact Nat.le_refl _
    | succ n ih => unfold cnt; split <;> omega
  have c2 := c1 (fun e => decide (ν 7 e = 2 ∧ ν 11 e = 0)) (ν 0 5).toNat
  omega
theorem s_stateOn38 {μ : Mem} {e : Nat} {d st0 : Int} (ht : 0 ≤ μ 23 7 ∧ μ 23 7 ≤ 424) : ∀ (j : Nat) (i : Nat) (o : Option AV), (μ 23 7).toNat = i + j → e_X3_stateOn_38 e d o (asC μ e d st0 i) i μ = some (some (vI (asC μ e d st0 (μ 23 7).toNat)), μ)
  | 0, i, o, hj => by
    rw [q_X3_stateOn_38, if_neg (by omega), hj]
    rfl
  | j + 1, i, o, hj => by
    rw [q_X3_stateOn_38, if_pos (by omega), gk (lnC 29) 424 rfl (by omega) (by omega), wr_eq (by omega) (by omega), show ((i : Int)).toNat = i by omega, show (i : Int) + 1 = ((i + 1 : Nat) : Int) by omega, gk (lnC 28) 424 rfl (by omega) (by omega), gk (lnC 30) 424 rfl (by omega) (by omega)]
    have e1 : asC μ e d st0 (i + 1) = if μ 29 i = (e : Int) ∧ μ 28 i ≤ d then μ 30 i else asC μ e d st0 i := rfl
    by_cases h1 : μ 29 i = (e : Int)
    · rw [if_pos h1]
      by_cases h2 : μ 28 i ≤ d
      · rw [if_pos h2]
        rw [if_pos ⟨h1, h2⟩] at e1
        rw [← e1]
        exact s_stateOn38 ht j (i + 1) _ (by omega)
      · rw [if_neg h2]
        rw [if_neg (fun q => h2 q.2)] at e1
        rw [← e1]
        exact s_stateOn38 ht j (i + 1) _ (by omega)
    · rw [if_neg h1]
      rw [if_neg (fun q => h1 q.1)] at e1
      rw [← e1]
      exact s_stateOn38 ht j (i + 1) _ (by omega)
theorem s_as24 {ν : Mem} {e : Nat} (he : e < 24) (hb : ∀ d : Nat, d < 1000 → 0 ≤ ν 17 (1000 * e + d) ∧ ν 17 (1000 * e + d) ≤ 4) : ∀ (d : Nat) (o : Option AV), d < 1000 → e_X12_as_24 e o d ν = some (some (vI (asR ν e d)), ν)
  | 0, o, hd => by
    have hb0 := hb 0 hd
    rw [Nat.add_zero] at hb0
    rw [q_X12_as_24, if_neg (show ¬ ((0 : Nat) : Int) < 0 by omega), wr_eq (x := 1000 * (e : Int)) (by omega) (by omega), wr_eq (x := 1000 * (e : Int) + ((0 : Nat) : Int)) (by omega) (by omega), show (1000 * (e : Int) + ((0 : Nat) : Int)).toNat = 1000 * e by omega, gk (lnR 17) 24000 rfl (by omega) (by omega), if_neg (show ¬ ((0 : Nat) : Int) < 0 by omega), gk (lnR 17) 24000 rfl (by omega) (by omega)]
    unfold asR
    by_cases h0 : ν 17 (1000 * e) = 0
    · rw [if_pos h0, if_pos h0, wr_eq (by omega) (by omega), q_X12_as_24, if_pos (by omega), if_pos (by omega)]
    · rw [if_neg h0, if_neg h0, wr_eq (by omega) (by omega)]
  | d + 1, o, hd => by
    have hb0 := hb (d + 1) hd
    rw [q_X12_as_24, if_neg (show ¬ ((d + 1 : Nat) : Int) < 0 by omega), wr_eq (x := 1000 * (e : Int)) (by omega) (by omega), wr_eq (x := 1000 * (e : Int) + ((d + 1 : Nat) : Int)) (by omega) (by omega), show (1000 * (e : Int) + ((d + 1 : Nat) : Int)).toNat = 1000 * e + (d + 1) by omega, gk (lnR 17) 24000 rfl (by omega) (by omega), if_neg (show ¬ ((d + 1 : Nat) : Int) < 0 by omega), gk (lnR 17) 24000 rfl (by omega) (by omega)]
    unfold asR
    by_cases h0 : ν 17 (1000 * e + (d + 1)) = 0
    · rw [if_pos h0, if_pos h0, wr_eq (by omega) (by omega), show ((d + 1 : Nat) : Int) + -1 = (d : Int) by omega]
      exact s_as24 he hb d _ (by omega)
    · rw [if_neg h0, if_neg h0, wr_eq (by omega) (by omega)]
theorem sim_as (μ ν : Mem) (x1 x2 : Int) (_ : in32 x1) (_ : in32 x2) (h : Rel μ ν) : Sm Rel f_X11_as f_X12_as [vI x1, vI x2] μ ν := by
  unfold Sm
  rw [q_X11_as, q_X12_as]
  obtain ⟨hT, hH, hW, hS, hP, hI, hD, hL, hG, hC⟩ := id h
  by_cases he : ¬ (0 ≤ x1 ∧ x1 < ν 0 5)
  · rw [get_f hS he, isS_f hS he, cR_n, cI_t, if_pos rfl]
    exact ⟨-1, μ, ν, rfl, rfl, h⟩
  replace he := Decidable.not_not.mp he
  rw [get_t hS he, isS_t hS he, cR_s, cI_t, if_neg ten, s_in, cI_t]
  by_cases hk : ¬ (0 ≤ x2 ∧ x2 ≤ 999)
  · rw [if_neg hk, if_pos rfl]
    refine ⟨-1, μ, ν, ?_, rfl, h⟩
    split
    · rfl
    · rw [if_neg (by omega)]
  replace hk := Decidable.not_not.mp hk
  rw [if_pos hk, if_neg ten, if_neg (show ¬ x2 < 0 by omega), if_pos hk.2, q_X3_stateOn, get_t hS he, cR_s]
  obtain ⟨e, rfl⟩ : ∃ e : Nat, x1 = (e : Int) := ⟨x1.toNat, by omega⟩
  obtain ⟨d, rfl⟩ : ∃ d : Nat, x2 = (d : Int) := ⟨x2.toNat, by omega⟩
  have h24 := hS.2.1
  have ht := turns_le hD hS
  have hs := hS.2.2.2.2.2.2.2.2 e he.2
  obtain ⟨-, -, -, d4, d5⟩ := hD
  obtain ⟨-, -, d6⟩ := d5 e he.2
  have d7 := d6 d (by omega)
  rw [s_as24 (by omega) (fun y hy => (d4 e y (by omega) hy).1) d _ (by omega), ← d7, show ((e : Int)).toNat = e by omega, hs.2.2.2.2.2.2.2.2.1, hs.2.2.2.2.1]
  by_cases h1 : (d : Int) < ν 9 e
  · rw [if_pos h1, if_pos h1]
    exact ⟨-4, μ, ν, rfl, rfl, h⟩
  · rw [if_neg h1, if_neg h1]
    have e0 : ∀ (o : Option AV), (if ν 7 e = 0 then e_X3_stateOn_38 e d o 0 0 μ else e_X3_stateOn_38 e d o 1 0 μ) = e_X3_stateOn_38 e d o (asC μ e d (ν 7 e) 0) (0 : Nat) μ := by
      intro o
      unfold asC
      split <;> rfl
    rw [e0, s_stateOn38 ht (μ 23 7).toNat 0 _ (by omega), cI_t]
    exact ⟨_, μ, ν, rfl, rfl, h⟩
