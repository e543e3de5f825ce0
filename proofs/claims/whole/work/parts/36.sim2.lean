/-! THE CALLS: sheet, lay, undo, stepOf, prove -/
theorem s_isSheetC (k : Int) (μ : Mem) : f_X5_isSheet [vR 5 796, vI k] μ = some (some (vI (if 0 ≤ k ∧ k ≤ 3 then 1 else 0)), μ) := by
  rw [q_X5_isSheet, gz_0, gz_1]
  by_cases h : 0 ≤ k ∧ k ≤ 3
  · rw [if_pos h, if_neg (by omega), if_pos (by omega)]
  · rw [if_neg h]
    split
    · rfl
    · rw [if_neg (by omega)]
theorem s_isLaneC (k : Int) (μ : Mem) : f_X5_isLane [vR 5 796, vI k] μ = some (some (vI (if 0 ≤ k ∧ k ≤ 2 then 1 else 0)), μ) := by
  rw [q_X5_isLane, gz_0, gz_1]
  by_cases h : 0 ≤ k ∧ k ≤ 2
  · rw [if_pos h, if_neg (by omega), if_pos (by omega)]
  · rw [if_neg h]
    split
    · rfl
    · rw [if_neg (by omega)]
theorem lnC_row {k : Nat} (h : k < 4) : lnC (797 + 1 + k) = 90 := by
  rcases (show k = 0 ∨ k = 1 ∨ k = 2 ∨ k = 3 by omega) with rfl | rfl | rfl | rfl <;> rfl
theorem s_renew37 {k : Nat} (hk : k < 4) {n : Int} (hn : n ≤ 90) : ∀ (j : Nat) (i : Int) (o : Option AV) (μ : Mem), 0 ≤ i → n - i = (j : Int) → ∃ μ', e_X5_renew_37 k o n i μ = some (some (vI 1), μ') ∧ (∀ c, c ≠ 798 + k → μ' c = μ c) ∧ (∀ x : Nat, i ≤ (x : Int) → (x : Int) < n → μ' (798 + k) x = 0) ∧ ∀ x : Nat, (x : Int) < i → μ' (798 + k) x = μ (798 + k) x
  | 0, i, o, μ, h0, hj => ⟨μ, by rw [q_X5_renew_37, if_neg (by omega)], fun _ _ => rfl, fun x h1 h2 => by omega, fun _ _ => rfl⟩
  | j + 1, i, o, μ, h0, hj => by
    obtain ⟨μ', e1, e2, e3, e4⟩ := s_renew37 hk hn j (i + 1) o (up μ (797 + 1 + k) i.toNat 0) (by omega) (by omega)
    refine ⟨μ', ?_, fun c hc => ?_, fun x h1 h2 => ?_, fun x h1 => ?_⟩
    · rw [q_X5_renew_37, if_pos (by omega), gk (lnC 797) 4 rfl (by omega) (by omega), show ((k : Int)).toNat = k by omega, gk _ 90 (lnC_row hk) (by omega) (by omega), wr_eq (by omega) (by omega)]
      exact e1
    · rw [e2 c hc]
      exact up_cell (by omega)
    · by_cases hx : (x : Int) = i
      · rw [e4 x (by omega)]
        have : x = i.toNat := by omega
        subst this
        exact up_same _ _ _ _
      · exact e3 x (by omega) h2
    · rw [e4 x (by omega)]
      exact up_slot (by omega)
theorem s_sheet40 {k : Nat} (hk : k < 4) : ∀ (j : Nat) (i : Int) (o2 o3 : Option AV) (ν : Mem), 0 ≤ i → 90 - i = (j : Int) → ∃ ν', e_X12_sheet_40 k o2 o3 i ν = some (some (vI 1), ν') ∧ (∀ c, c ≠ 53 → ν' c = ν c) ∧ (∀ x : Nat, (x : Int) < 90 → i ≤ (x : Int) → ν' 53 (90 * k + x) = 0) ∧ (∀ x : Nat, (x : Int) < i → ν' 53 (90 * k + x) = ν 53 (90 * k + x)) ∧ ∀ y : Nat, (y < 90 * k ∨ 90 * k + 90 ≤ y) → ν' 53 y = ν 53 y
  | 0, i, o2, o3, ν, h0, hj => ⟨ν, by rw [q_X12_sheet_40, if_neg (by omega)], fun _ _ => rfl, fun x h1 h2 => by omega, fun _ _ => rfl, fun _ _ => rfl⟩
  | j + 1, i, o2, o3, ν, h0, hj => by
    obtain ⟨ν', e1, e2, e3, e4, e5⟩ := s_sheet40 hk j (i + 1) o2 (kl o3) (up ν 53 (90 * k + i.toNat) 0) (by omega) (by omega)
    refine ⟨ν', ?_, fun c hc => ?_, fun x h1 h2 => ?_, fun x h1 => ?_, fun y hy => ?_⟩
    · rw [q_X12_sheet_40, if_pos (by omega), wr_eq (x := 90 * (k : Int)) (by omega) (by omega), wr_eq (x := 90 * (k : Int) + i) (by omega) (by omega), gk (lnR 53) 360 rfl (by omega) (by omega), wr_eq (by omega) (by omega), show (90 * (k : Int) + i).toNat = 90 * k + i.toNat by omega]
      exact e1
    · rw [e2 c hc]
      exact up_cell hc
    · by_cases hx : (x : Int) = i
      · rw [e4 x (by omega)]
        have : x = i.toNat := by omega
        subst this
        exact up_same _ _ _ _
      · exact e3 x h1 (by omega)
    · rw [e4 x (by omega)]
      exact up_slot (by omega)
    · rw [e5 y hy]
      exact up_slot (by omega)
theorem sim_sheet (μ ν : Mem) (x1 x2 x3 : Int) (_ : in32 x1) (_ : in32 x2) (_ : in32 x3) (h : Rel μ ν) : Sm Rel f_X11_sheet f_X12_sheet [vI x1, vI x2, vI x3] μ ν := by
  unfold Sm
  rw [q_X11_sheet, q_X12_sheet, s_isSheetC, s_isSheet, cI_t, cI_t]
  obtain ⟨hT, hH, hW, hS, hP, hI, hD, hL, hG, hC⟩ := id h
  by_cases h1 : ¬ (0 ≤ x1 ∧ x1 ≤ 3)
  · rw [if_neg h1, if_neg (show ¬ ((0 ≤ x1 ∧ x1 ≤ 3) ∧ 0 ≤ x2 ∧ x2 ≤ 2) from fun q => h1 q.1), if_pos rfl, if_pos rfl]
    exact ⟨-1, μ, ν, rfl, rfl, h⟩
  replace h1 := Decidable.not_not.mp h1
  by_cases h2 : ¬ (0 ≤ x2 ∧ x2 ≤ 2)
  · rw [if_pos h1, if_neg (show ¬ ((0 ≤ x1 ∧ x1 ≤ 3) ∧ 0 ≤ x2 ∧ x2 ≤ 2) from fun q => h2 q.2), if_neg ten, if_pos rfl, s_isLaneC, cI_t, if_neg h2, if_pos rfl]
    exact ⟨-1, μ, ν, rfl, rfl, h⟩
  replace h2 := Decidable.not_not.mp h2
  rw [if_pos h1, if_pos (show (0 ≤ x1 ∧ x1 ≤ 3) ∧ 0 ≤ x2 ∧ x2 ≤ 2 from ⟨h1, h2⟩), if_neg ten, if_neg ten, s_isLaneC, cI_t, if_pos h2, if_neg ten]
  by_cases h3 : ¬ (x3 ≤ 90)
  · rw [if_neg h3, if_neg h3]
    exact ⟨-1, μ, ν, rfl, rfl, h⟩
  replace h3 := Decidable.not_not.mp h3
  rw [if_pos h3, if_pos h3]
  by_cases h4 : x3 < 0
  · rw [if_pos h4, if_pos h4]
    exact ⟨-14, μ, ν, rfl, rfl, h⟩
  rw [if_neg h4, if_neg h4]
  obtain ⟨k, rfl⟩ : ∃ k : Nat, x1 = (k : Int) := ⟨x1.toNat, by omega⟩
  have hk : k < 4 := by omega
  obtain ⟨μ', e1, e2, e3, -⟩ := s_renew37 hk h3 x3.toNat 0 (some (vI x2)) (up (up μ 802 k x2) 803 k x3) (by omega) (by omega)
  obtain ⟨ν', d1, d2, d3, -, d5⟩ := s_sheet40 hk 90 0 (some (vI x2)) (some (vI x3)) (up (up ν 51 k x2) 52 k x3) (by omega) (by omega)
  refine ⟨1, μ', ν', ?_, ?_, ?_⟩
  · rw [q_X5_renew, s_isSheetC, cI_t, if_pos h1, if_neg ten, if_neg h4, if_pos h3, gk (lnC 802) 4 rfl (by omega) (by omega), gk (lnC 803) 4 rfl (by omega) (by omega), show ((k : Int)).toNat = k by omega, e1]
    rfl
  · rw [gk (lnR 51) 4 rfl (by omega) (by omega), gk (lnR 52) 4 rfl (by omega) (by omega), show ((k : Int)).toNat = k by omega]
    exact d1
  · have kc : ∀ c, c < 796 → μ' c = μ c := fun c hc => by rw [e2 c (by omega), up_cell (by omega), up_cell (by omega)]
    have kr : ∀ c, c ≠ 51 → c ≠ 52 → c ≠ 53 → ν' c = ν c := fun c q1 q2 q3 => by rw [d2 c q3, up_cell q2, up_cell q1]
    have m : FrM ν ν' := ⟨fun c _ _ => kr c (by omega) (by omega) (by omega), by rw [kr 0 (by omega) (by omega) (by omega)], by rw [kr 0 (by omega) (by omega) (by omega)], by rw [kr 0 (by omega) (by omega) (by omega)]⟩
    have k0 : ν' 0 = ν 0 := kr 0 (by omega) (by omega) (by omega)
    have k0' : ∀ j, ν' 0 j = ν 0 j := fun j => by rw [k0]
    have h24 := hS.2.1
    refine ⟨(hT.kept (μ' := μ') (by rw [kc 151 (by omega)]) (by rw [kc 151 (by omega)]) (kc 152 (by omega))).keptR (k0' 25) (k0' 30) (kr 18 (by omega) (by omega) (by omega)), ?_, (hW.kept (fun c _ _ => kc c (by omega))).keptR m, (hS.kept (kc 23 (by omega)) (fun c _ _ => kc c (by omega))).keptR m (k0' 15) (k0' 16), (hP.kept (kc 25 (by omega)) (kc 26 (by omega)) (kc 27 (by omega))).keptR m (k0' 16), (hI.kept (fun c _ _ => kc c (by omega))).keptR m (k0' 45) (k0' 46) (kr 26 (by omega) (by omega) (by omega)) (kr 27 (by omega) (by omega) (by omega)) (kr 28 (by omega) (by omega) (by omega)), (hD.kept (kc 23 (by omega)) (kc 28 (by omega)) (kc 29 (by omega)) (kc 30 (by omega))).keptR m (k0' 16) (k0' 22) (kr 17 (by omega) (by omega) (by omega)), (hL.kept h24 (fun c _ _ => kc c (by omega))).keptR m (k0' 15), RelG.keptR (μ := μ') hG m (k0' 68) (kr 42 (by omega) (by omega) (by omega)) (kr 43 (by omega) (by omega) (by omega)), ?_⟩
    · unfold RelH at *
      rw [kc 0 (by omega), k0' 21, k0' 22]
      exact hH
    · intro j hj
      by_cases hjk : j = k
      · subst hjk
        refine Or.inr ⟨?_, ?_, ?_, ?_, ?_, ?_, fun i hi => ?_⟩
        all_goals (try rw [d2 52 (by omega), up_same])
        all_goals (try rw [d2 51 (by omega), up_cell (show 51 ≠ 52 by omega), up_same])
        · rw [e2 803 (by omega), up_same]
        · omega
        · omega
        · rw [e2 802 (by omega), up_cell (show 802 ≠ 803 by omega), up_same]
        · omega
        · omega
        · rw [d2 52 (by omega), up_same] at hi
          rw [e3 i (by omega) hi, d3 i (by omega) (by omega)]
      · have q1 : μ' 803 j = μ 803 j := by rw [e2 803 (by omega), up_slot hjk, up_cell (by omega)]
        have q2 : μ' 802 j = μ 802 j := by rw [e2 802 (by omega), up_cell (show 802 ≠ 803 by omega), up_slot hjk]
        have q3 : ν' 51 j = ν 51 j := by rw [d2 51 (by omega), up_cell (show 51 ≠ 52 by omega), up_slot hjk]
        have q4 : ν' 52 j = ν 52 j := by rw [d2 52 (by omega), up_slot hjk, up_cell (show 52 ≠ 51 by omega)]
        have q5 : μ' (798 + j) = μ (798 + j) := by rw [e2 (798 + j) (by omega), up_cell (by omega), up_cell (by omega)]
        have q6 : ∀ i : Nat, i < 90 → ν' 53 (90 * j + i) = ν 53 (90 * j + i) := fun i hi => by rw [d5 _ (by omega), up_cell (show 53 ≠ 52 by omega), up_cell (show 53 ≠ 51 by omega)]
        rw [q1, q2, q3, q4, q5]
        rcases hC j hj with hc | ⟨c1, c2, c3, c4, c5, c6, c7⟩
        · exact Or.inl hc
        · exact Or.inr ⟨c1, c2, c3, c4, c5, c6, fun i hi => by rw [q6 i (by omega)]; exact c7 i hi⟩
