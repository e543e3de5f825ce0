theorem s_kindAt {μ : Mem} {v0 n i : Nat} (hv : rwV v0) (h8 : μ v0 8 = (n : Int)) (hn : n ≤ 20) (hi : i < n) : f_X1_kindAt [vR 1 v0, vI i] μ = some (some (vI (μ (v0 + 1) i)), μ) := by
  obtain ⟨l1, l2, l3, l4, l5⟩ := rw_ln hv
  rw [q_X1_kindAt, h8, if_neg (by omega), if_pos (by omega), gk (lnC (v0 + 1)) 20 l1 (by omega) (by omega), show ((i : Int)).toNat = i by omega]
theorem s_whichAt {μ : Mem} {v0 n i : Nat} (hv : rwV v0) (h8 : μ v0 8 = (n : Int)) (hn : n ≤ 20) (hi : i < n) : f_X1_whichAt [vR 1 v0, vI i] μ = some (some (vI (μ (v0 + 2) i)), μ) := by
  obtain ⟨l1, l2, l3, l4, l5⟩ := rw_ln hv
  rw [q_X1_whichAt, h8, if_neg (by omega), if_pos (by omega), gk (lnC (v0 + 2)) 20 l2 (by omega) (by omega), show ((i : Int)).toNat = i by omega]
theorem s_placeAt {μ : Mem} {v0 n i : Nat} (hv : rwV v0) (h8 : μ v0 8 = (n : Int)) (hn : n ≤ 20) (hi : i < n) : f_X1_placeAt [vR 1 v0, vI i] μ = some (some (vI (μ (v0 + 3) i)), μ) := by
  obtain ⟨l1, l2, l3, l4, l5⟩ := rw_ln hv
  rw [q_X1_placeAt, h8, if_neg (by omega), if_pos (by omega), gk (lnC (v0 + 3)) 20 l3 (by omega) (by omega), show ((i : Int)).toNat = i by omega]
theorem s_told49 {μ : Mem} {v0 n m v3 : Nat} {d : Int} (hv : rwV v0) (h8 : μ v0 8 = (n : Int)) (hn : n ≤ 20) (hm : m + n ≤ 200) : ∀ (j i : Nat), i + j = n → e_X3_tellProof_49 v0 d v3 i (tl3 μ m i (μ (v0 + 1)) (μ (v0 + 2)) (μ (v0 + 3))) = e_X3_tellProof_49 v0 d v3 n (tl3 μ m n (μ (v0 + 1)) (μ (v0 + 2)) (μ (v0 + 3)))
  | 0, i, hj => by
    obtain rfl : i = n := by omega
    rfl
  | j + 1, i, hj => by
    have hv2 : 163 ≤ v0 := by unfold rwV at hv; omega
    have T : ∀ c, 163 ≤ c → tl3 μ m i (μ (v0 + 1)) (μ (v0 + 2)) (μ (v0 + 3)) c = μ c := fun c hc => tl3_o (by omega)
    rw [← s_told49 hv h8 hn hm j (i + 1) (by omega), ← tl3_s]
    have T10 : tl3 μ m i (μ (v0 + 1)) (μ (v0 + 2)) (μ (v0 + 3)) 23 10 = ((m + i : Nat) : Int) := tl3_10
    generalize hX : tl3 μ m i (μ (v0 + 1)) (μ (v0 + 2)) (μ (v0 + 3)) = X at T T10 ⊢
    have X8 : X v0 8 = (n : Int) := by rw [T v0 hv2]; exact h8
    have u25 : ∀ (m : Mem) (i : Nat) (v : Int) (c : Nat), c ≠ 25 → up m 25 i v c = m c := fun m i v c h => up_cell h
    have u26 : ∀ (m : Mem) (i : Nat) (v : Int) (c : Nat), c ≠ 26 → up m 26 i v c = m c := fun m i v c h => up_cell h
    have u27 : ∀ (m : Mem) (i : Nat) (v : Int) (c : Nat), c ≠ 27 → up m 27 i v c = m c := fun m i v c h => up_cell h
    rw [q_X3_tellProof_49, X8, if_pos (by omega), s_kindAt hv X8 hn (by omega), cI_t, T10, gk (lnC 25) 200 rfl (by omega) (by omega), s_whichAt hv (by rw [u25 _ _ _ _ (by omega)]; exact X8) hn (by omega), cI_t, u25 _ _ _ 23 (by omega), T10, gk (lnC 26) 200 rfl (by omega) (by omega), s_placeAt hv (by rw [u26 _ _ _ _ (by omega), u25 _ _ _ _ (by omega)]; exact X8) hn (by omega), cI_t, u26 _ _ _ 23 (by omega), u25 _ _ _ 23 (by omega), T10, gk (lnC 27) 200 rfl (by omega) (by omega), u27 _ _ _ 23 (by omega), u26 _ _ _ 23 (by omega), u25 _ _ _ 23 (by omega), T10, u25 _ _ _ (v0 + 2) (by omega), u26 _ _ _ (v0 + 3) (by omega), u25 _ _ _ (v0 + 3) (by omega), T (v0 + 1) (by omega), T (v0 + 2) (by omega), T (v0 + 3) (by omega), wr_eq (x := (i : Int) + 1) (by omega) (by omega), wr_eq (x := ((m + i : Nat) : Int) + 1) (by omega) (by omega), show (i : Int) + 1 = ((i + 1 : Nat) : Int) by omega, show ((m + i : Nat) : Int) + 1 = ((m + (i + 1) : Nat) : Int) by omega, show (((m + i : Nat) : Int)).toNat = m + i by omega]
/-- THE CLASS tells the PROOF of e that stands in a row -/
theorem s_tellProof {μ ν : Mem} {v0 n m t e : Nat} {Ts : Nat → List Int} (h : Rel μ ν) (hv : rwV v0) (he : (e : Int) < ν 0 5) (h7 : μ v0 7 = (e : Int)) (h8 : μ v0 8 = (n : Int)) (hn : n ≤ 20) (hm : ν 0 16 = (m : Int)) (ht : μ 23 7 = (t : Int)) (ho : ν 7 e = 1 ∨ ν 7 e = 3)
    (hst : ∀ i, i < n → stp ν (μ (v0 + 1) i) (μ (v0 + 2) i) (μ (v0 + 3) i) (Ts i) = .inr (Ts (i + 1)) ∧ 0 ≤ μ (v0 + 1) i ∧ μ (v0 + 1) i ≤ 3 ∧ μ (v0 + 4) i = ptw ν (μ (v0 + 1) i) (μ (v0 + 2) i) (μ (v0 + 3) i) (Ts i)) :
    if m + n ≤ 200 then ∃ un pu, f_X3_tellProof [vR 3 23, vR 1 v0, vI (ν 0 22)] μ = some (some (vI 1), telC μ e m n t (μ (v0 + 1)) (μ (v0 + 2)) (μ (v0 + 3)) (ν 0 22) un pu) ∧ MK un (fun f => (∃ i, i < n ∧ μ (v0 + 1) i ≤ 1 ∧ μ (v0 + 2) i = (f : Int)) ∨ ∃ g : Nat, (∃ i, i < n ∧ μ (v0 + 1) i ≤ 1 ∧ μ (v0 + 2) i = (g : Int)) ∧ Relation.TransGen (USE ν) g f) ∧ MK pu (fun v => ∃ i, i < n ∧ ptw ν (μ (v0 + 1) i) (μ (v0 + 2) i) (μ (v0 + 3) i) (Ts i) = (v : Int))
    else f_X3_tellProof [vR 3 23, vR 1 v0, vI (ν 0 22)] μ = some (some (vI 0), μ) := by
  obtain ⟨hT, hH, hW, hS, hP, hI, hD, hL, hG, hCC⟩ := h
  have h24 := hS.2.1
  have he24 : e < 24 := by omega
  have hv2 : 163 ≤ v0 := by unfold rwV at hv; omega
  have s10 : μ 23 10 = (m : Int) := hS.2.2.2.2.2.1.trans hm
  have m200 := hS.2.2.2.2.1
  have hs8 := hS.2.2.2.2.2.2.2.1
  rw [q_X3_tellProof, h7, get_t hS ⟨by omega, he⟩, cR_s, show ((e : Int)).toNat = e by omega, h8, s10, wr_eq (x := 200 - (m : Int)) (by omega) (by have := hS.2.2.2.2.1; omega), gz_0]
  by_cases hmn : m + n ≤ 200
  · rw [if_pos hmn, if_pos (show (n : Int) ≤ 200 - (m : Int) by omega), up_cell (c' := v0) (by omega), h8]
    have T0 := s_told49 (μ := up (up μ (31 + 5 * e) 5 (m : Int)) (31 + 5 * e) 6 (n : Int)) (v3 := 31 + 5 * e) (d := ν 0 22) hv (by rw [up_cell (by omega), up_cell (by omega)]; exact h8) hn hmn n 0 (by omega)
    rw [tl3_0 (by rw [up_cell (by omega), up_cell (by omega)]; exact s10)] at T0
    have T0' : e_X3_tellProof_49 v0 (ν 0 22) (31 + 5 * e) 0 (up (up μ (31 + 5 * e) 5 (m : Int)) (31 + 5 * e) 6 (n : Int)) = _ := T0
    rw [T0', up_cell (c' := v0 + 1) (by omega), up_cell (c' := v0 + 1) (by omega), up_cell (c' := v0 + 2) (by omega), up_cell (c' := v0 + 2) (by omega), up_cell (c' := v0 + 3) (by omega), up_cell (c' := v0 + 3) (by omega)]
    generalize hk : μ (v0 + 1) = k at *
    generalize hw : μ (v0 + 2) = w at *
    generalize hp : μ (v0 + 3) = p at *
    generalize hX : tl3 (up (up μ (31 + 5 * e) 5 (m : Int)) (31 + 5 * e) 6 (n : Int)) m n k w p = X
    have XR : ∀ c, 151 ≤ c → X c = μ c := fun c hc => by rw [← hX, tl3_o (by omega), up_cell (by omega), up_cell (by omega)]
    have X23 : ∀ j, j ≠ 10 → X 23 j = μ 23 j := fun j hj => by rw [← hX, tl3_23 hj, up_cell (by omega), up_cell (by omega)]
    have XS : ∀ f : Nat, f < 24 → ∀ j, j ≠ 5 → j ≠ 6 → X (31 + 5 * f) j = μ (31 + 5 * f) j := fun f hf j a b => by rw [← hX, tl3_o (by omega), up_slot b, up_slot a]
    have X8 : X v0 8 = (n : Int) := by rw [XR v0 (by omega)]; exact h8
    have p7 : ∀ (pu : Int) (c : Nat), 151 ≤ c → up X (31 + 5 * e) 10 pu c = μ c := fun pu c hc => by rw [up_cell (by omega), XR c hc]
    obtain ⟨pu, a1, a2⟩ := s_putting (μ := X) hv X8 hn (fun i hi => by
      rw [XR (v0 + 4) (by omega), (hst i hi).2.2.2]
      have q := ptw_rng hW (hst i hi).1
      have w4 := hW.2.1
      omega)
    obtain ⟨us, b1, b2⟩ := s_using (μ := up X (31 + 5 * e) 10 pu) hv (by rw [p7 _ _ (by omega)]; exact h8) hn (fun i hi => by
      rw [p7 _ _ (by omega), p7 _ _ (by omega), hk, hw]
      refine ⟨(hst i hi).2.1, fun q => ?_⟩
      have := stp_which q (hst i hi).1
      omega)
    rw [p7 _ _ (by omega), p7 _ _ (by omega), hk, hw] at b2
    obtain ⟨un, c1, c2⟩ := s_closed (μ' := up X (31 + 5 * e) 10 pu) hS hP hL (by rw [up_cell (by omega), X23 9 (by omega)]) (fun f hf => by rw [up_slot (by omega), up_slot (by omega), XS f hf 2 (by omega) (by omega), XS f hf 9 (by omega) (by omega)]; exact ⟨rfl, rfl⟩) b2 (fun g ⟨i, q1, q2, q3⟩ => by
      have := stp_which q2 (hst i q1).1
      omega)
    have t424 : t < 424 := by
      have hb := hD.2.1
      rw [ht, hm] at hb
      have q := cnt_lt (P := fun f => decide (ν 7 f = 2 ∧ ν 11 f = 0)) (Q := fun _ => true) (k := e) (ν 0 5).toNat (fun _ _ _ => rfl) (by omega) rfl (by rw [decide_eq_true_iff]; omega)
      have q2 := cnt_le (fun _ => true) (ν 0 5).toNat
      omega
    have M7 : up (up (up (up X (31 + 5 * e) 10 pu) (31 + 5 * e) 9 un) (31 + 5 * e) 8 (μ 23 8)) 23 8 (μ 23 8 + 1) v0 7 = (e : Int) := by
      rw [up_cell (by omega), up_cell (by omega), up_cell (by omega), up_cell (by omega), XR v0 (by omega)]
      exact h7
    have s8 := hS.2.2.2.2.2.2.1
    have tt : ∀ c, c ≠ 23 → up (up (up X (31 + 5 * e) 10 pu) (31 + 5 * e) 9 un) (31 + 5 * e) 8 (μ 23 8) 23 = X 23 := fun c _ => by rw [up_cell (by omega), up_cell (by omega), up_cell (by omega)]
    refine ⟨un, pu, ?_, c2, a2.congr (fun v => exists_congr (fun i => and_congr_right (fun hi => by rw [XR (v0 + 4) (by omega), (hst i hi).2.2.2])))⟩
    rw [q_X3_tellProof_49, X8, if_neg (by omega), a1, cI_t, b1, cI_t, c1, cI_t, up_cell (c := 31 + 5 * e) (c' := 23) (by omega), up_cell (c := 31 + 5 * e) (c' := 23) (by omega), X23 8 (by omega), up_cell (c := 31 + 5 * e) (c' := 23) (by omega), up_cell (c := 31 + 5 * e) (c' := 23) (by omega), up_cell (c := 31 + 5 * e) (c' := 23) (by omega), X23 8 (by omega), wr_eq (x := μ 23 8 + 1) (by omega) (by omega), M7]
    have Y7 : ∀ (v : Int), up (up (up (up (up X (31 + 5 * e) 10 pu) (31 + 5 * e) 9 un) (31 + 5 * e) 8 (μ 23 8)) 23 8 (μ 23 8 + 1)) (31 + 5 * e) 2 v 23 7 = (t : Int) := fun v => by
      rw [up_cell (by omega), up_slot (by omega), up_cell (by omega), up_cell (by omega), up_cell (by omega), X23 7 (by omega)]
      exact ht
    rw [q_X3_turn, gk (lnC 24) 24 rfl (by omega) (by omega), show ((e : Int)).toNat = e by omega]
    generalize hY : up (up (up (up (up X (31 + 5 * e) 10 pu) (31 + 5 * e) 9 un) (31 + 5 * e) 8 (μ 23 8)) 23 8 (μ 23 8 + 1)) (31 + 5 * e) 2 2 = Y
    have Y7' : Y 23 7 = (t : Int) := by rw [← hY]; exact Y7 2
    have v28 : ∀ (m : Mem) (i : Nat) (v : Int), up m 28 i v 23 = m 23 := fun m i v => up_cell (by omega)
    have v29 : ∀ (m : Mem) (i : Nat) (v : Int), up m 29 i v 23 = m 23 := fun m i v => up_cell (by omega)
    have v30 : ∀ (m : Mem) (i : Nat) (v : Int), up m 30 i v 23 = m 23 := fun m i v => up_cell (by omega)
    have d1 := hH.2.2.1
    have d2 := hH.2.2.2
    have wS : wrS (wrS (ν 0 22)) = ν 0 22 := by unfold wrS; omega
    have wB : wrB (wrB (e : Int)) = (e : Int) := by unfold wrB; omega
    have wB2 : wrB (wrB 2) = 2 := by decide
    simp only [v28, v29, v30, Y7', wS, wB, wB2]
    rw [if_pos (show (t : Int) < 424 by omega), gk (lnC 29) 424 rfl (by omega) (by omega), gk (lnC 28) 424 rfl (by omega) (by omega), gk (lnC 30) 424 rfl (by omega) (by omega), cV_t, gz_1, wr_eq (x := (t : Int) + 1) (by omega) (by omega), show ((t : Int)).toNat = t by omega, show (t : Int) + 1 = ((t + 1 : Nat) : Int) by omega]
    congr 2
    rw [← hY, ← hX]
    funext c j
    have U : ∀ (μ : Mem) (c i c' i' : Nat) (v : Int), up μ c i v c' i' = if c' = c ∧ i' = i then v else μ c' i' := fun _ _ _ _ _ _ => rfl
    unfold telC
    by_cases c25 : 25 ≤ c ∧ c ≤ 27
    · rw [up_cell (by omega), up_cell (by omega), up_cell (by omega), up_cell (by omega), up_cell (by omega), up_cell (by omega), up_cell (by omega), up_cell (by omega), up_cell (by omega)]
      unfold tl3
      rw [up_cell (by omega), up_cell (by omega)]
      by_cases q : m ≤ j ∧ j < m + n
      · by_cases q1 : c = 25
        · rw [if_pos (show c = 25 ∧ m ≤ j ∧ j < m + n from ⟨q1, q⟩), if_pos (show c = 25 ∧ m ≤ j ∧ j < m + n from ⟨q1, q⟩)]
        · rw [if_neg (show ¬ (c = 25 ∧ m ≤ j ∧ j < m + n) by omega), if_neg (show ¬ (c = 25 ∧ m ≤ j ∧ j < m + n) by omega)]
          by_cases q2 : c = 26
          · rw [if_pos (show c = 26 ∧ m ≤ j ∧ j < m + n from ⟨q2, q⟩), if_pos (show c = 26 ∧ m ≤ j ∧ j < m + n from ⟨q2, q⟩)]
          · rw [if_neg (show ¬ (c = 26 ∧ m ≤ j ∧ j < m + n) by omega), if_neg (show ¬ (c = 26 ∧ m ≤ j ∧ j < m + n) by omega), if_pos (show c = 27 ∧ m ≤ j ∧ j < m + n from ⟨by omega, q⟩), if_pos (show c = 27 ∧ m ≤ j ∧ j < m + n from ⟨by omega, q⟩)]
      · rw [if_neg (by omega), if_neg (by omega), if_neg (by omega), if_neg (by omega), if_neg (by omega), if_neg (by omega), if_neg (by omega), if_neg (by omega), if_neg (by omega), if_neg (by omega), if_neg (by omega), if_neg (by omega), if_neg (by omega), if_neg (by omega), if_neg (by omega), if_neg (by omega), if_neg (by omega), if_neg (by omega), if_neg (by omega)]
    · rw [if_neg (show ¬ (c = 25 ∧ _) by omega), if_neg (show ¬ (c = 26 ∧ _) by omega), if_neg (show ¬ (c = 27 ∧ _) by omega)]
      by_cases cs : c = 31 + 5 * e
      · subst cs
        rw [up_cell (by omega), up_cell (by omega), up_cell (by omega), up_cell (by omega), if_neg (show ¬ (31 + 5 * e = 23 ∧ j = 7) by omega), if_neg (show ¬ (31 + 5 * e = 23 ∧ j = 8) by omega), if_neg (show ¬ (31 + 5 * e = 23 ∧ j = 10) by omega), if_neg (show ¬ (31 + 5 * e = 28 ∧ _) by omega), if_neg (show ¬ (31 + 5 * e = 29 ∧ _) by omega), if_neg (show ¬ (31 + 5 * e = 30 ∧ _) by omega), up_if, up_cell (c := 23) (by omega), up_if, up_if, up_if, tl3_o (by omega), up_if, up_if]
        simp only [true_and]
        by_cases j2 : j = 2
        · rw [if_pos j2, if_pos j2]
        rw [if_neg j2, if_neg j2]
        by_cases j5 : j = 5
        · rw [if_neg (show ¬ j = 8 by omega), if_neg (show ¬ j = 9 by omega), if_neg (show ¬ j = 10 by omega), if_neg (show ¬ j = 6 by omega), if_pos j5, if_pos j5]
        by_cases j6 : j = 6
        · rw [if_neg (show ¬ j = 8 by omega), if_neg (show ¬ j = 9 by omega), if_neg (show ¬ j = 10 by omega), if_pos j6, if_neg j5, if_pos j6]
        rw [if_neg j5, if_neg j6, if_neg j5, if_neg j6]
      · by_cases c23 : c = 23
        · subst c23
          rw [up_if, up_cell (c := 30) (by omega), up_cell (c := 28) (by omega), up_cell (c := 29) (by omega), up_cell (c := 31 + 5 * e) (by omega), up_if, up_cell (c := 31 + 5 * e) (by omega), up_cell (c := 31 + 5 * e) (by omega), up_cell (c := 31 + 5 * e) (by omega)]
          unfold tl3
          rw [up_cell (c := 31 + 5 * e) (by omega), up_cell (c := 31 + 5 * e) (by omega)]
          simp [show ¬ 23 = 31 + 5 * e by omega]
        · rw [up_cell c23, U, U, U, up_cell cs, up_cell c23, up_cell cs, up_cell cs, up_cell cs, tl3_o (by omega), up_cell cs, up_cell cs, if_neg (show ¬ (c = 31 + 5 * e ∧ j = 2) by omega), if_neg (show ¬ (c = 31 + 5 * e ∧ j = 5) by omega), if_neg (show ¬ (c = 31 + 5 * e ∧ j = 6) by omega), if_neg (show ¬ (c = 31 + 5 * e ∧ j = 8) by omega), if_neg (show ¬ (c = 31 + 5 * e ∧ j = 9) by omega), if_neg (show ¬ (c = 31 + 5 * e ∧ j = 10) by omega), if_neg (show ¬ (c = 23 ∧ j = 7) by omega), if_neg (show ¬ (c = 23 ∧ j = 8) by omega), if_neg (show ¬ (c = 23 ∧ j = 10) by omega)]
          by_cases a28 : c = 28 ∧ j = t
          · rw [if_neg (show ¬ (c = 30 ∧ _) by omega), if_pos a28, if_pos a28]
          by_cases a29 : c = 29 ∧ j = t
          · rw [if_neg (show ¬ (c = 30 ∧ _) by omega), if_neg a28, if_pos a29, if_neg a28, if_pos a29]
          rw [if_neg a28, if_neg a29, if_neg a28, if_neg a29]
  · rw [if_neg hmn, if_neg (show ¬ (n : Int) ≤ 200 - (m : Int) by omega)]
