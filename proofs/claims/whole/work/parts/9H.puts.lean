/-! putsIn of the reference, the rows -/
theorem w20 {w : Nat} (h : w < 4) : wr (20 * (w : Int)) = ((20 * w : Nat) : Int) := by
  rw [wr_eq (by omega) (by omega)]
  omega
theorem w20b {w i : Nat} (h : w < 4) (hi : i < 20) : wr (((20 * w : Nat) : Int) + (i : Int)) = ((20 * w + i : Nat) : Int) := by
  rw [wr_eq (by omega) (by omega)]
  omega
theorem w20c {i : Nat} (hi : i < 10000) : wr ((i : Int) + 1) = ((i + 1 : Nat) : Int) := by
  rw [wr_eq (by omega) (by omega)]
  omega
section PI2
variable {T : List Int}
theorem p95 {M : List Int} {o1 : Option AV} {w t2 e2 P : Nat} (hw : w < 4) (h12 : P + 1 ≤ t2) (h2e : t2 ≤ e2) (he : e2 ≤ T.length) (hT : T.length ≤ 200) (hM : M.length ≤ 20) : ∀ (j i : Nat) (X : Mem) (o7 o8 : Option AV), i + j = M.length → RHL X 46 T → X 3 w = (M.length : Int) → (∀ i x, M[i]? = some x → X 4 (20 * w + i) = x) → BL X (T.take P ++ sb2 ((T.drop (P + 1)).take (t2 - (P + 1))) ((T.drop t2).take (e2 - t2)) (M.take i)) → ∃ X' o7' o8', e_X12_putsIn_95 o1 w ((P + 1 : Nat) : Int) t2 e2 i o7 o8 X = e_X12_putsIn_201 o1 (some (vI (w : Int))) (some (vI ((P + 1 : Nat) : Int))) (some (vI (t2 : Int))) (some (vI (e2 : Int))) e2 o7' o8' X' ∧ FrB X X' ∧ BL X' (T.take P ++ sb2 ((T.drop (P + 1)).take (t2 - (P + 1))) ((T.drop t2).take (e2 - t2)) M)
  | 0, i, X, o7, o8, hj, hR, h3, h4, hB => by
    obtain rfl : i = M.length := by omega
    rw [q_X12_putsIn_95, gk (lnR 3) 4 rfl (by omega) (by omega), show ((w : Int)).toNat = w by omega, h3, if_neg (by omega)]
    rw [List.take_length] at hB
    exact ⟨X, o7, o8, rfl, frB_rf, hB⟩
  | j + 1, i, X, o7, o8, hj, hR, h3, h4, hB => by
    have hi : i < M.length := by omega
    obtain ⟨A, eA⟩ : ∃ A, A = (T.drop (P + 1)).take (t2 - (P + 1)) := ⟨_, rfl⟩
    obtain ⟨B, eB⟩ : ∃ B, B = (T.drop t2).take (e2 - t2) := ⟨_, rfl⟩
    have lA : A.length ≤ 200 := by rw [eA, List.length_take, List.length_drop]; omega
    have lB : B.length ≤ 200 := by rw [eB, List.length_take, List.length_drop]; omega
    have lS := sb2_len lA lB (M.take i)
    rw [List.length_take] at lS
    have lL : (T.take P ++ sb2 A B (M.take i)).length ≤ 5000 := by rw [List.length_append, List.length_take]; omega
    have eS : sb2 A B (M.take (i + 1)) = sb2 A B (M.take i) ++ (if M[i] < 23 then [M[i]] else if M[i] = 23 then A else B) := by
      rw [take_s hi, sb2_app]
      have : sb2 A B [M[i]] = (if M[i] < 23 then [M[i]] else if M[i] = 23 then A else B) ++ [] := rfl
      rw [this, List.append_nil]
    have nx : ∀ (X1 : Mem) (p7 p8 : Option AV), FrB X X1 → BL X1 (T.take P ++ sb2 A B (M.take (i + 1))) → ∃ X' o7' o8', e_X12_putsIn_95 o1 w ((P + 1 : Nat) : Int) t2 e2 ((i + 1 : Nat) : Int) p7 p8 X1 = e_X12_putsIn_201 o1 (some (vI (w : Int))) (some (vI ((P + 1 : Nat) : Int))) (some (vI (t2 : Int))) (some (vI (e2 : Int))) e2 o7' o8' X' ∧ FrB X X' ∧ BL X' (T.take P ++ sb2 A B M) := fun X1 p7 p8 f1 b1 => by
      rw [eA, eB] at b1
      obtain ⟨X2, a1, a2, b2, b3, b4⟩ := p95 (o1 := o1) hw h12 h2e he hT hM j (i + 1) X1 p7 p8 (by omega) (hR.kept (f1.1 46 (by omega) (by omega))) (by rw [f1.1 3 (by omega) (by omega)]; exact h3) (by rw [f1.1 4 (by omega) (by omega)]; exact h4) b1
      rw [← eA, ← eB] at b4
      exact ⟨X2, a1, a2, b2, frB_trans f1 b3, b4⟩
    have e4 : X 4 (20 * w + i) = M[i] := h4 i _ (List.getElem?_eq_getElem hi)
    rw [← eA, ← eB] at hB ⊢
    rw [q_X12_putsIn_95, gk (lnR 3) 4 rfl (by omega) (by omega), show ((w : Int)).toNat = w by omega, h3, if_pos (by omega), w20 hw, w20b hw (by omega), gk (lnR 4) 80 rfl (by omega) (by omega), show (((20 * w + i : Nat) : Int)).toNat = 20 * w + i by omega, e4]
    by_cases q : M[i] < 23
    · obtain ⟨X1, a1, a2, a3⟩ := r_builds hB (by omega) M[i]
      rw [if_pos q, a1, cV_t, if_neg (by omega), q_X12_putsIn_148, if_pos q, w20c (by omega)]
      refine nx X1 _ _ a2 ?_
      rw [eS, if_pos q, ← List.append_assoc]
      exact a3
    · rw [if_neg q]
      by_cases q2 : M[i] = 23
      · rw [if_pos q2]
        obtain ⟨X1, p7, p8, a1, a2, a3⟩ := p148 (T := T) (o1 := o1) (w := w) (one := ((P + 1 : Nat) : Int)) (two := t2) (en := e2) (v6 := i) (v7 := M[i]) (a := P + 1) (b := t2) (by omega) hT (by omega) (by rw [if_pos q2]) (t2 - (P + 1)) (P + 1) X (T.take P ++ sb2 A B (M.take i)) (by omega) (Nat.le_refl _) (by omega) hR (by rw [Nat.sub_self, List.take_zero, List.append_nil]; exact hB)
        rw [a1, w20c (by omega)]
        refine nx X1 _ _ a2 ?_
        rw [eS, if_neg q, if_pos q2, ← List.append_assoc]
        rw [← eA] at a3
        exact a3
      · rw [if_neg q2]
        obtain ⟨X1, p7, p8, a1, a2, a3⟩ := p148 (T := T) (o1 := o1) (w := w) (one := ((P + 1 : Nat) : Int)) (two := t2) (en := e2) (v6 := i) (v7 := M[i]) (a := t2) (b := e2) (by omega) hT (by omega) (by rw [if_neg q2]) (e2 - t2) t2 X (T.take P ++ sb2 A B (M.take i)) (by omega) (Nat.le_refl _) (by omega) hR (by rw [Nat.sub_self, List.take_zero, List.append_nil]; exact hB)
        rw [a1, w20c (by omega)]
        refine nx X1 _ _ a2 ?_
        rw [eS, if_neg q, if_neg q2, ← List.append_assoc]
        rw [← eB] at a3
        exact a3
end PI2
