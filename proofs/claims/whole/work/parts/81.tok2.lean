/-! a token is taken: the class, the reference -/
theorem s_advance {μ ν : Mem} {p : Nat} (hT : TC μ ν) (hp : (p : Int) ≤ ν 0 25) (h7 : μ 151 7 = (p : Int)) : ∃ f t k μ', TK ν p f t k ∧ (f : Int) ≤ ν 0 25 ∧ (t : Int) ≤ ν 0 25 + 1 ∧ FrTp μ μ' ∧ μ' 151 6 = (f : Int) ∧ ((tok1 k f t ∧ f_X7_advance [vR 7 151] μ = some (some (vI 1), μ') ∧ μ' 151 5 = k ∧ μ' 151 7 = (t : Int) ∧ μ' 151 9 = μ 151 9 ∧ (t : Int) ≤ ν 0 25) ∨ (¬ tok1 k f t ∧ f_X7_advance [vR 7 151] μ = some (some (vI 0), μ') ∧ μ' 151 9 = 1)) := by
  obtain ⟨n, hn⟩ : ∃ n : Nat, ν 0 25 = (n : Int) := ⟨(ν 0 25).toNat, by have := hT.2.1; omega⟩
  have hb := hT.2.2.1
  have T0 : TC (up μ 151 6 (μ 151 7)) ν := hT.fr (frTp_up (by omega))
  obtain ⟨f, a1, a2, a3⟩ := s_adv8 hn (n - p) p _ (by omega) T0 (by rw [up_same]; exact h7)
  rw [q_X7_advance, a3]
  obtain ⟨X, hX⟩ : ∃ X, X = up (up (up μ 151 6 (μ 151 7)) 151 6 (f : Int)) 151 7 (f : Int) := ⟨_, rfl⟩
  have FX : FrTp μ X := by
    rw [hX]
    exact frTp_trans (frTp_trans (frTp_up (by omega)) (frTp_up (by omega))) (frTp_up (by omega))
  have X6 : X 151 6 = (f : Int) := by rw [hX, up_slot (by omega), up_same]
  have X7 : X 151 7 = (f : Int) := by rw [hX, up_same]
  have X9 : X 151 9 = μ 151 9 := by rw [hX, up_slot (by omega), up_slot (by omega), up_slot (by omega)]
  have TX : TC X ν := hT.fr FX
  rw [q_X7_advance_45, up_same, ← hX, X6, s_tkind TX, cI_t, up_same]
  generalize hk : cls (lk ν f) = k
  have hkr := cls_rng (lk ν f)
  rw [hk] at hkr
  have FY : FrTp μ (up X 151 5 k) := frTp_trans FX (frTp_up (by omega))
  by_cases k5 : k = 5
  · rw [if_pos k5, q_X7_fails, gz_0, cI_t, gz_0]
    refine ⟨f, f, k, _, ⟨a1, hk.symm, fun z => by omega, fun _ => rfl, fun z => by omega⟩, by omega, by omega, frTp_trans FY (frTp_up (by omega)), by rw [up_slot (by omega), up_slot (by omega)]; exact X6, Or.inr ⟨fun z => z.1 k5, rfl, up_same _ _ _ _⟩⟩
  · rw [if_neg k5]
    by_cases k0 : k = 0
    · rw [if_pos k0, gz_1]
      exact ⟨f, f, k, _, ⟨a1, hk.symm, fun z => by omega, fun _ => rfl, fun z => by omega⟩, by omega, by omega, FY, by rw [up_slot (by omega)]; exact X6, Or.inl ⟨⟨k5, fun z => by omega⟩, rfl, up_same _ _ _ _, by rw [up_slot (by omega)]; exact X7, by rw [up_slot (by omega)]; exact X9, by omega⟩⟩
    · have fn : f < n := by
        rcases lk_C hT f with ⟨z, _⟩ | ⟨z, _⟩
        · rw [z] at hk
          exact absurd hk.symm k0
        · omega
      rw [if_neg k0, up_slot (show (7 : Nat) ≠ 5 by omega), X7, up_slot (show (5 : Nat) ≠ 7 by omega), up_same, up_same, up_slot (show (6 : Nat) ≠ 7 by omega), up_slot (show (6 : Nat) ≠ 5 by omega), X6, wr_eq (x := (f : Int) + 1) (by omega) (by omega), show (f : Int) + 1 = ((f + 1 : Nat) : Int) by omega]
      obtain ⟨Y, hY⟩ : ∃ Y, Y = up (up X 151 5 k) 151 7 ((f + 1 : Nat) : Int) := ⟨_, rfl⟩
      have FYY : FrTp μ Y := by rw [hY]; exact frTp_trans FY (frTp_up (by omega))
      have Y6 : Y 151 6 = (f : Int) := by rw [hY, up_slot (by omega), up_slot (by omega)]; exact X6
      have Y5 : Y 151 5 = k := by rw [hY, up_slot (by omega), up_same]
      have Y7 : Y 151 7 = ((f + 1 : Nat) : Int) := by rw [hY, up_same]
      have Y9 : Y 151 9 = μ 151 9 := by rw [hY, up_slot (by omega), up_slot (by omega)]; exact X9
      rw [← hY]
      by_cases k12 : k = 1 ∨ k = 2
      · obtain ⟨q, μ', b1, b2, b3, b4, b5, b6, b7, b8⟩ := s_adv114 hn (f := f) k12 (n - (f + 1)) (f + 1) Y (by omega) (hT.fr FYY) Y7 Y6 Y5 (by omega)
        have br : (if k = 1 then e_X7_advance_114 Y else if k = 2 then e_X7_advance_114 Y else if k = 2 then if (wr (((f + 1 : Nat) : Int) - (f : Int))) = 1 then gz 1 (some (some (vI 1), Y)) else cI (f_X7_fails [vR 7 151, vI 1] Y) (fun x4 μ3 => if x4 = 0 then gz 0 (some (some (vI 0), μ3)) else gz 1 (some (some (vI 1), μ3))) else gz 1 (some (some (vI 1), Y))) = e_X7_advance_114 Y := by
          by_cases z : k = 1
          · rw [if_pos z]
          · rw [if_neg z, if_pos (by omega)]
        rw [br, b4]
        have tk : TK ν p f q k := ⟨a1, hk.symm, fun _ => ⟨by have := b1.1; omega, fun i x y => by
          by_cases z : i = f
          · rw [z]; exact hk
          · exact b1.2.1 i (by omega) y, b1.2.2⟩, fun z => by omega, fun z => by omega⟩
        by_cases z : k = 2 ∧ q ≠ f + 1
        · rw [if_pos z] at b8 ⊢
          exact ⟨f, q, k, μ', tk, by omega, by omega, frTp_trans FYY b3, b5, Or.inr ⟨fun w => z.2 (w.2 z.1), rfl, b8⟩⟩
        · rw [if_neg z] at b8 ⊢
          exact ⟨f, q, k, μ', tk, by omega, by omega, frTp_trans FYY b3, b5, Or.inl ⟨⟨k5, fun w => Decidable.not_not.mp (fun y => z ⟨w, y⟩)⟩, rfl, b6, b7, by rw [b8]; exact Y9, by omega⟩⟩
      · rw [if_neg (show ¬ k = 1 by omega), if_neg (show ¬ k = 2 by omega), if_neg (show ¬ k = 2 by omega), gz_1]
        exact ⟨f, f + 1, k, Y, ⟨a1, hk.symm, fun z => absurd z k12, fun z => by omega, fun _ => rfl⟩, by omega, by omega, FYY, Y6, Or.inl ⟨⟨k5, fun z => by omega⟩, rfl, Y5, Y7, Y9, by omega⟩⟩
/-! the reference's next -/
def FrN (ν ν' : Mem) : Prop := (∀ c, c ≠ 0 → ν' c = ν c) ∧ ∀ k, ¬ (26 ≤ k ∧ k ≤ 31) → ν' 0 k = ν 0 k
theorem frN_rf {ν : Mem} : FrN ν ν := ⟨fun _ _ => rfl, fun _ _ => rfl⟩
theorem frN_trans {ν ν1 ν2 : Mem} (h : FrN ν ν1) (h2 : FrN ν1 ν2) : FrN ν ν2 := ⟨fun c a => (h2.1 c a).trans (h.1 c a), fun k a => (h2.2 k a).trans (h.2 k a)⟩
theorem frN_up {ν : Mem} {k : Nat} {v : Int} (h : 26 ≤ k ∧ k ≤ 31) : FrN ν (up ν 0 k v) := ⟨fun c a => up_cell a, fun j a => up_slot (fun e => a (by rw [e]; exact h))⟩
theorem frN_lk {ν ν' : Mem} (h : FrN ν ν') : lk ν' = lk ν := by
  funext p
  unfold lk
  rw [h.2 25 (by omega), h.1 18 (by omega)]
theorem s_look1 {ν : Mem} (h : 0 ≤ ν 0 25 ∧ ν 0 25 ≤ 240) (p : Nat) : f_X12_look [vR 12 0, vI (p : Int)] ν = some (some (vI (lk ν p)), ν) := by
  rw [q_X12_look]
  unfold lk
  by_cases q : (p : Int) < ν 0 25
  · rw [if_pos q, if_pos q, gk (lnR 18) 240 rfl (by omega) (by omega), show ((p : Int)).toNat = p by omega]
  · rw [if_neg q, if_neg q]
/-- the reference has a token in hand -/
def TokR (ν' : Mem) (ν : Mem) (f t : Nat) (k : Int) : Prop := (tok1 k f t ∧ ν' 0 30 = 0 ∧ ν' 0 26 = (t : Int) ∧ ν' 0 27 = (f : Int) ∧ ν' 0 28 = (if k = 4 then 3 else k) ∧ (k = 2 → ν' 0 29 = lk ν f - 48) ∧ (k = 3 → ν' 0 29 = 61) ∧ (k = 4 → ν' 0 29 = 59)) ∨ (¬ tok1 k f t ∧ ν' 0 30 = 1 ∧ ν' 0 31 = (f : Int) ∧ ν' 0 27 = (f : Int))
theorem s_n82 {ν : Mem} {n : Nat} (hn : ν 0 25 = (n : Int)) (hn2 : n ≤ 240) {o : Option AV} : ∀ (j p : Nat) (ν1 : Mem), p + j = n → FrN ν ν1 → ν1 0 26 = (p : Int) → ∃ q, RN ν 1 p q ∧ q ≤ n ∧ e_X12_next_82 o ν1 = some (none, up ν1 0 26 (q : Int))
  | j, p, ν1, hj, hF, h26 => by
    have b : 0 ≤ ν1 0 25 ∧ ν1 0 25 ≤ 240 := by rw [hF.2 25 (by omega)]; omega
    have c1 : cls (lk ν p) = 1 ↔ (97 ≤ lk ν p ∧ lk ν p ≤ 122) := by
      unfold cls
      by_cases z : 97 ≤ lk ν p ∧ lk ν p ≤ 122
      · rw [if_neg (by omega), if_pos z]; exact ⟨fun _ => z, fun _ => rfl⟩
      · refine ⟨fun w => absurd w ?_, fun w => absurd w z⟩
        split
        · decide
        · split
          · decide
          · split
            · decide
            · split <;> decide
    rw [q_X12_next_82, h26, s_look1 b, cI_t, s_in, cI_t, frN_lk hF]
    by_cases q : 97 ≤ lk ν p ∧ lk ν p ≤ 122
    · match j, hj with
      | 0, hj =>
        have : lk ν p = -1 := lk_n (by omega)
        omega
      | j + 1, hj =>
        obtain ⟨r, a1, a2, a3⟩ := s_n82 hn hn2 (o := o) j (p + 1) (up ν1 0 26 ((p + 1 : Nat) : Int)) (by omega) (frN_trans hF (frN_up (by omega))) (up_same _ _ _ _)
        refine ⟨r, ⟨by have := a1.1; omega, fun i x y => ?_, a1.2.2⟩, a2, ?_⟩
        · by_cases z : i = p
          · rw [z]; exact c1.mpr q
          · exact a1.2.1 i (by omega) y
        · rw [if_pos q, if_neg ten, h26, wr_eq (x := (p : Int) + 1) (by omega) (by omega), show (p : Int) + 1 = ((p + 1 : Nat) : Int) by omega, a3]
          congr 2
          funext c k
          unfold up
          by_cases z : c = 0 ∧ k = 26
          · rw [if_pos z, if_pos z]
          · rw [if_neg z, if_neg z, if_neg z]
    · rw [if_neg q, if_pos rfl]
      exact ⟨p, ⟨Nat.le_refl _, fun i x y => by omega, fun z => q (c1.mp z)⟩, by omega, by rw [← h26, up_self]⟩
theorem s_n143 {ν : Mem} {n f : Nat} (hn : ν 0 25 = (n : Int)) (hn2 : n ≤ 240) {o : Option AV} : ∀ (j p : Nat) (ν1 : Mem), p + j = n → FrN ν ν1 → ν1 0 26 = (p : Int) → ν1 0 27 = (f : Int) → ν1 0 30 = 0 → f ≤ p → ∃ q ν', RN ν 2 p q ∧ q ≤ n ∧ e_X12_next_143 o ν1 = some (none, ν') ∧ FrN ν ν' ∧ ν' 0 26 = (q : Int) ∧ ν' 0 27 = (f : Int) ∧ ν' 0 28 = ν1 0 28 ∧ ν' 0 29 = ν1 0 29 ∧ ((q = f + 1 ∧ ν' 0 30 = 0) ∨ (q ≠ f + 1 ∧ ν' 0 30 = 1 ∧ ν' 0 31 = (f : Int)))
  | j, p, ν1, hj, hF, h26, h27, h30, hfp => by
    have b : 0 ≤ ν1 0 25 ∧ ν1 0 25 ≤ 240 := by rw [hF.2 25 (by omega)]; omega
    have c1 : cls (lk ν p) = 2 ↔ (48 ≤ lk ν p ∧ lk ν p ≤ 57) := by
      unfold cls
      by_cases z : 48 ≤ lk ν p ∧ lk ν p ≤ 57
      · rw [if_neg (by omega), if_neg (by omega), if_pos z]; exact ⟨fun _ => z, fun _ => rfl⟩
      · refine ⟨fun w => absurd w ?_, fun w => absurd w z⟩
        split
        · decide
        · split
          · decide
          · split
            · decide
            · split <;> decide
    rw [q_X12_next_143, h26, s_look1 b, cI_t, s_in, cI_t, frN_lk hF]
    by_cases q : 48 ≤ lk ν p ∧ lk ν p ≤ 57
    · match j, hj with
      | 0, hj =>
        have : lk ν p = -1 := lk_n (by omega)
        omega
      | j + 1, hj =>
        obtain ⟨r, ν', a1, a2, a3, a4, a5, a6, a7, a8, a9⟩ := s_n143 hn hn2 (f := f) (o := o) j (p + 1) (up ν1 0 26 ((p + 1 : Nat) : Int)) (by omega) (frN_trans hF (frN_up (by omega))) (up_same _ _ _ _) (by rw [up_slot (by omega)]; exact h27) (by rw [up_slot (by omega)]; exact h30) (by omega)
        refine ⟨r, ν', ⟨by have := a1.1; omega, fun i x y => ?_, a1.2.2⟩, a2, ?_, a4, a5, a6, by rw [a7, up_slot (by omega)], by rw [a8, up_slot (by omega)], a9⟩
        · by_cases z : i = p
          · rw [z]; exact c1.mpr q
          · exact a1.2.1 i (by omega) y
        · rw [if_pos q, if_neg ten, h26, wr_eq (x := (p : Int) + 1) (by omega) (by omega), show (p : Int) + 1 = ((p + 1 : Nat) : Int) by omega]
          exact a3
    · rw [if_neg q, if_pos rfl, h26, h27, wr_eq (x := (p : Int) - (f : Int)) (by omega) (by omega), q_X12_wants, if_neg ten, cV_t, q_X12_wants, if_pos rfl, if_pos h30, cV_t]
      have rn : RN ν 2 p p := ⟨Nat.le_refl _, fun i x y => by omega, fun z => q (c1.mp z)⟩
      by_cases w : p = f + 1
      · rw [if_pos (by omega)]
        exact ⟨p, ν1, rn, by omega, rfl, hF, h26, h27, rfl, rfl, Or.inl ⟨w, h30⟩⟩
      · rw [if_neg (by omega)]
        refine ⟨p, _, rn, by omega, rfl, frN_trans hF (frN_trans (frN_up (by omega)) (frN_up (by omega))), ?_, ?_, ?_, ?_, Or.inr ⟨w, ?_, ?_⟩⟩
        · rw [up_slot (by omega), up_slot (by omega)]; exact h26
        · rw [up_slot (by omega), up_slot (by omega)]; exact h27
        · rw [up_slot (by omega), up_slot (by omega)]
        · rw [up_slot (by omega), up_slot (by omega)]
        · rw [up_slot (by omega), up_same]
        · rw [up_same, up_slot (by omega)]; exact h27
theorem r_n8 {ν : Mem} {n : Nat} (hn : ν 0 25 = (n : Int)) (hn2 : n ≤ 240) (hb : ∀ i : Nat, (i : Int) < ν 0 25 → 0 ≤ ν 18 i) {o : Option AV} : ∀ (j p : Nat) (ν1 : Mem), p + j = n → FrN ν ν1 → ν1 0 26 = (p : Int) → ν1 0 30 = 0 → ∃ f t k ν', TK ν p f t k ∧ f ≤ n ∧ (tok1 k f t → t ≤ n) ∧ e_X12_next_8 o ν1 = some (none, ν') ∧ FrN ν ν' ∧ TokR ν' ν f t k
  | j, p, ν1, hj, hF, h26, h30 => by
    have b : 0 ≤ ν1 0 25 ∧ ν1 0 25 ≤ 240 := by rw [hF.2 25 (by omega)]; omega
    rw [q_X12_next_8, h26, s_look1 b, cI_t, h26, frN_lk hF]
    by_cases q : lk ν p = 32
    · rw [if_pos q, wr_eq (x := (p : Int) + 1) (by omega) (by omega), show (p : Int) + 1 = ((p + 1 : Nat) : Int) by omega]
      match j, hj with
      | 0, hj =>
        have : lk ν p = -1 := lk_n (by omega)
        omega
      | j + 1, hj =>
        obtain ⟨f, t, k, ν', a1, a2, a3, a4, a5, a6⟩ := r_n8 hn hn2 hb (o := o) j (p + 1) (up ν1 0 26 ((p + 1 : Nat) : Int)) (by omega) (frN_trans hF (frN_up (by omega))) (up_same _ _ _ _) (by rw [up_slot (by omega)]; exact h30)
        refine ⟨f, t, k, ν', ⟨⟨by have := a1.1.1; omega, fun i x y => ?_, a1.1.2.2⟩, a1.2⟩, a2, a3, a4, a5, a6⟩
        by_cases z : i = p
        · rw [z]; exact q
        · exact a1.1.2.1 i (by omega) y
    · have sk : SK ν p p := ⟨Nat.le_refl _, fun i x y => by omega, q⟩
      rw [if_neg q, up_slot (show (26 : Nat) ≠ 27 by omega), h26]
      have F1 : FrN ν (up ν1 0 27 (p : Int)) := frN_trans hF (frN_up (by omega))
      have b1 : 0 ≤ up ν1 0 27 (p : Int) 0 25 ∧ up ν1 0 27 (p : Int) 0 25 ≤ 240 := by rw [F1.2 25 (by omega)]; omega
      rw [s_look1 b1, cI_t, frN_lk F1]
      have hlk : lk ν p = -1 ∨ (0 ≤ lk ν p ∧ p < n) := by
        unfold lk
        by_cases z : (p : Int) < ν 0 25
        · rw [if_pos z]; exact Or.inr ⟨hb p z, by omega⟩
        · rw [if_neg z]; exact Or.inl rfl
      have hcl : cls (lk ν p) = cls (lk ν p) := rfl
      by_cases c0 : lk ν p < 0
      · have ek : cls (lk ν p) = 0 := by unfold cls; rw [if_pos c0]
        rw [if_pos c0]
        refine ⟨p, p, 0, _, ⟨sk, ek.symm, fun z => by omega, fun _ => rfl, fun z => by omega⟩, by omega, fun _ => by omega, rfl, frN_trans F1 (frN_up (by omega)), Or.inl ⟨⟨by decide, fun z => by omega⟩, ?_, ?_, ?_, ?_, fun z => by omega, fun z => by omega, fun z => by omega⟩⟩
        · rw [up_slot (by omega), up_slot (by omega)]; exact h30
        · rw [up_slot (by omega), up_slot (by omega)]; exact h26
        · rw [up_slot (by omega), up_same]
        · rw [up_same]; rfl
      · rw [if_neg c0, s_in, cI_t]
        have pn : p < n := by omega
        by_cases c1 : 97 ≤ lk ν p ∧ lk ν p ≤ 122
        · have ek : cls (lk ν p) = 1 := by unfold cls; rw [if_neg c0, if_pos c1]
          rw [if_pos c1, if_neg ten]
          have F2 : FrN ν (up (up ν1 0 27 (p : Int)) 0 28 1) := frN_trans F1 (frN_up (by omega))
          obtain ⟨t, d1, d2, d3⟩ := s_n82 hn hn2 (o := some (vI (lk ν p))) (n - p) p _ (by omega) F2 (by rw [up_slot (by omega), up_slot (by omega)]; exact h26)
          refine ⟨p, t, 1, _, ⟨sk, ek.symm, fun _ => d1, fun z => by omega, fun z => by omega⟩, by omega, fun _ => d2, d3, frN_trans F2 (frN_up (by omega)), Or.inl ⟨⟨by decide, fun z => by omega⟩, ?_, ?_, ?_, ?_, fun z => by omega, fun z => by omega, fun z => by omega⟩⟩
          · rw [up_slot (by omega), up_slot (by omega), up_slot (by omega)]; exact h30
          · rw [up_same]
          · rw [up_slot (by omega), up_slot (by omega), up_same]
          · rw [up_slot (by omega), up_same]; rfl
        · rw [if_neg c1, if_pos rfl, s_in, cI_t]
          by_cases c2 : 48 ≤ lk ν p ∧ lk ν p ≤ 57
          · have ek : cls (lk ν p) = 2 := by unfold cls; rw [if_neg c0, if_neg c1, if_pos c2]
            rw [if_pos c2, if_neg ten, wr_eq (x := lk ν p - 48) (by omega) (by omega)]
            have F2 : FrN ν (up (up (up ν1 0 27 (p : Int)) 0 28 2) 0 29 (lk ν p - 48)) := frN_trans F1 (frN_trans (frN_up (by omega)) (frN_up (by omega)))
            obtain ⟨t, ν', d1, d2, d3, d4, d5, d6, d7, d8, d9⟩ := s_n143 hn hn2 (f := p) (o := some (vI (lk ν p))) (n - p) p _ (by omega) F2 (by rw [up_slot (by omega), up_slot (by omega), up_slot (by omega)]; exact h26) (by rw [up_slot (by omega), up_slot (by omega), up_same]) (by rw [up_slot (by omega), up_slot (by omega), up_slot (by omega)]; exact h30) (Nat.le_refl _)
            refine ⟨p, t, 2, ν', ⟨sk, ek.symm, fun _ => d1, fun z => by omega, fun z => by omega⟩, by omega, fun _ => d2, d3, d4, ?_⟩
            rcases d9 with ⟨g1, g2⟩ | ⟨g1, g2, g3⟩
            · refine Or.inl ⟨⟨by decide, fun _ => g1⟩, g2, d5, d6, ?_, fun _ => ?_, fun z => by omega, fun z => by omega⟩
              · rw [d7, up_slot (by omega), up_same]; rfl
              · rw [d8, up_same]
            · exact Or.inr ⟨fun z => g1 (z.2 rfl), g2, g3, d6⟩
          · rw [if_neg c2, if_pos rfl]
            have w1 : ∀ X : Mem, f_X12_wants [vR 12 0, vI 1, vI 1] X = some (none, X) := fun X => by rw [q_X12_wants, if_neg ten]
            rw [w1, cV_t]
            have e26 : ∀ v : Int, up (up (up ν1 0 27 (p : Int)) 0 28 3) 0 29 v 0 26 = (p : Int) := fun v => by rw [up_slot (by omega), up_slot (by omega), up_slot (by omega)]; exact h26
            have e30 : ∀ v : Int, up (up (up ν1 0 27 (p : Int)) 0 28 3) 0 29 v 0 30 = 0 := fun v => by rw [up_slot (by omega), up_slot (by omega), up_slot (by omega)]; exact h30
            have F2 : ∀ v : Int, FrN ν (up (up (up ν1 0 27 (p : Int)) 0 28 3) 0 29 v) := fun v => frN_trans F1 (frN_trans (frN_up (by omega)) (frN_up (by omega)))
            rw [e26, wr_eq (x := (p : Int) + 1) (by omega) (by omega), show (p : Int) + 1 = ((p + 1 : Nat) : Int) by omega]
            by_cases c3 : lk ν p = 61
            · have ek : cls (lk ν p) = 3 := by unfold cls; rw [if_neg c0, if_neg c1, if_neg c2, if_pos c3]
              rw [if_pos c3]
              refine ⟨p, p + 1, 3, _, ⟨sk, ek.symm, fun z => by omega, fun z => by omega, fun _ => rfl⟩, by omega, fun _ => by omega, rfl, frN_trans (F2 _) (frN_up (by omega)), Or.inl ⟨⟨by decide, fun z => by omega⟩, ?_, ?_, ?_, ?_, fun z => by omega, fun _ => ?_, fun z => by omega⟩⟩
              · rw [up_slot (by omega)]; exact e30 _
              · rw [up_same]
              · rw [up_slot (by omega), up_slot (by omega), up_slot (by omega), up_same]
              · rw [up_slot (by omega), up_slot (by omega), up_same]; rfl
              · rw [up_slot (by omega), up_same]; exact c3
            · rw [if_neg c3]
              by_cases c4 : lk ν p = 59
              · have ek : cls (lk ν p) = 4 := by unfold cls; rw [if_neg c0, if_neg c1, if_neg c2, if_neg c3, if_pos c4]
                rw [if_pos c4]
                refine ⟨p, p + 1, 4, _, ⟨sk, ek.symm, fun z => by omega, fun z => by omega, fun _ => rfl⟩, by omega, fun _ => by omega, rfl, frN_trans (F2 _) (frN_up (by omega)), Or.inl ⟨⟨by decide, fun z => by omega⟩, ?_, ?_, ?_, ?_, fun z => by omega, fun z => by omega, fun _ => ?_⟩⟩
                · rw [up_slot (by omega)]; exact e30 _
                · rw [up_same]
                · rw [up_slot (by omega), up_slot (by omega), up_slot (by omega), up_same]
                · rw [up_slot (by omega), up_slot (by omega), up_same]; rfl
                · rw [up_slot (by omega), up_same]; exact c4
              · have ek : cls (lk ν p) = 5 := by unfold cls; rw [if_neg c0, if_neg c1, if_neg c2, if_neg c3, if_neg c4]
                rw [if_neg c4, q_X12_wants, if_pos rfl, e30, if_pos rfl, cV_t]
                refine ⟨p, p, 5, _, ⟨sk, ek.symm, fun z => by omega, fun _ => rfl, fun z => by omega⟩, by omega, fun _ => by omega, rfl, frN_trans (F2 _) (frN_trans (frN_up (by omega)) (frN_trans (frN_up (by omega)) (frN_up (by omega)))), Or.inr ⟨fun z => z.1 rfl, ?_, ?_, ?_⟩⟩
                · rw [up_slot (by omega), up_slot (by omega), up_same]
                · rw [up_slot (by omega), up_same, up_slot (by omega), up_slot (by omega), up_slot (by omega), up_same]
                · rw [up_slot (by omega), up_slot (by omega), up_slot (by omega), up_slot (by omega), up_slot (by omega), up_same]
theorem r_next {ν ν1 : Mem} {p : Nat} (h25 : 0 ≤ ν 0 25 ∧ ν 0 25 ≤ 240) (hb : ∀ i : Nat, (i : Int) < ν 0 25 → 0 ≤ ν 18 i) (hF : FrN ν ν1) (hp : (p : Int) ≤ ν 0 25) (h26 : ν1 0 26 = (p : Int)) (h30 : ν1 0 30 = 0) : ∃ f t k ν', TK ν p f t k ∧ (f : Int) ≤ ν 0 25 ∧ (tok1 k f t → (t : Int) ≤ ν 0 25) ∧ f_X12_next [vR 12 0] ν1 = some (none, ν') ∧ FrN ν ν' ∧ TokR ν' ν f t k := by
  obtain ⟨n, hn⟩ : ∃ n : Nat, ν 0 25 = (n : Int) := ⟨(ν 0 25).toNat, by omega⟩
  obtain ⟨f, t, k, ν', a1, a2, a3, a4, a5, a6⟩ := r_n8 hn (by omega) hb (o := none) (n - p) p ν1 (by omega) hF h26 h30
  refine ⟨f, t, k, ν', a1, by omega, fun z => by have := a3 z; omega, ?_, a5, a6⟩
  rw [q_X12_next, h30, if_pos (by decide)]
  exact a4
