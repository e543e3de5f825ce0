/-! putsIn and widens of the reference -/
section PI2
variable {T : List Int}
theorem p238 {L : List Int} {o1 o2 o3 o4 o7 o8 : Option AV} : ∀ (j i : Nat) (X : Mem) (o5 : Option AV), i + j = min L.length 200 → L.length ≤ 9000 → BL X L → (∀ k x, k < i → L[k]? = some x → X 46 k = x) → ∃ X', e_X12_putsIn_238 o1 o2 o3 o4 o5 i o7 o8 X = some (none, X') ∧ (∀ c, c ≠ 46 → X' c = X c) ∧ ∀ k x, k < 200 → L[k]? = some x → X' 46 k = x
  | 0, i, X, o5, hj, hl, hB, h => by
    refine ⟨X, ?_, fun _ _ => rfl, fun k x hk hx => h k x ?_ hx⟩
    · rw [q_X12_putsIn_238, hB.1]
      by_cases q : L.length < 200
      · rw [if_neg (by omega)]
      · rw [if_neg (show ¬ (i : Int) < 200 by omega), ite_self]
    · have : k < L.length := by
        by_cases z : k < L.length
        · exact z
        · rw [List.getElem?_eq_none (by omega)] at hx; cases hx
      omega
  | j + 1, i, X, o5, hj, hl, hB, h => by
    have hi : i < L.length := by omega
    have e47 : X 47 i = L[i] := hB.2 i _ (by omega) (List.getElem?_eq_getElem hi)
    rw [q_X12_putsIn_238, hB.1, if_pos (by omega), if_pos (by omega), gk (lnR 47) 200 rfl (by omega) (by omega), gk (lnR 46) 200 rfl (by omega) (by omega), show ((i : Int)).toNat = i by omega, e47, wr_eq (by omega) (by omega), show (i : Int) + 1 = ((i + 1 : Nat) : Int) by omega]
    obtain ⟨X', a1, a2, a3⟩ := p238 j (i + 1) (up X 46 i L[i]) (kl o5) (by omega) hl ⟨by rw [up_cell (by omega)]; exact hB.1, by rw [up_cell (by omega)]; exact hB.2⟩ (fun k x hk hx => by
      rw [up_if]
      by_cases z : k = i
      · rw [if_pos z]; subst z; rw [List.getElem?_eq_getElem hi] at hx; exact Option.some.inj hx
      · rw [if_neg z]; exact h k x (by omega) hx)
    exact ⟨X', a1, fun c hc => by rw [a2 c hc, up_cell hc], a3⟩


def FrWd (X X' : Mem) : Prop := (∀ c, c ≠ 46 → c ≠ 47 → c ≠ 0 → X' c = X c) ∧ ∀ k, k ≠ 74 → k ≠ 76 → X' 0 k = X 0 k
theorem frWd_rf {X : Mem} : FrWd X X := ⟨fun _ _ _ _ => rfl, fun _ _ _ => rfl⟩
theorem frWd_trans {X X1 X2 : Mem} (h : FrWd X X1) (h2 : FrWd X1 X2) : FrWd X X2 := ⟨fun c a b d => (h2.1 c a b d).trans (h.1 c a b d), fun k a b => (h2.2 k a b).trans (h.2 k a b)⟩
theorem frWd_M {X X' : Mem} (h : FrWd X X') : FrM X X' := ⟨fun c _ _ => h.1 c (by omega) (by omega) (by omega), h.2 0 (by omega) (by omega), h.2 5 (by omega) (by omega), h.2 23 (by omega) (by omega)⟩
theorem frB_Wd {X X' : Mem} (h : FrB X X') : FrWd X X' := ⟨fun c _ b d => h.1 c b d, fun k _ b => h.2 k b⟩
theorem frM_trans {X X1 X2 : Mem} (h : FrM X X1) (h2 : FrM X1 X2) : FrM X X2 := ⟨fun c a b => (h2.1 c a b).trans (h.1 c a b), h2.2.1.trans h.2.1, h2.2.2.1.trans h.2.2.1, h2.2.2.2.trans h.2.2.2⟩
theorem pcore {M : List Int} {X : Mem} {w t2 e2 P : Nat} (hw : w < 4) (h12 : P + 1 ≤ t2) (h2e : t2 ≤ e2) (he : e2 ≤ T.length) (hT : T.length ≤ 200) (hM : M.length ≤ 20) (hR : RHL X 46 T) (h74 : X 0 74 = (T.length : Int)) (h3 : X 3 w = (M.length : Int)) (h4 : ∀ i x, M[i]? = some x → X 4 (20 * w + i) = x) : ∃ X', e_X12_putsIn_69 P w ((P + 1 : Nat) : Int) t2 e2 0 none none (up X 0 76 0) = some (none, X') ∧ FrWd X X' ∧ ∃ L, L = T.take P ++ sb2 ((T.drop (P + 1)).take (t2 - (P + 1))) ((T.drop t2).take (e2 - t2)) M ++ T.drop e2 ∧ L.length ≤ 9000 ∧ X' 0 74 = (L.length : Int) ∧ ∀ k x, k < 200 → L[k]? = some x → X' 46 k = x := by
  have f0 : FrB X (up X 0 76 0) := ⟨fun c _ b => up_cell b, fun k hk => up_slot hk⟩
  obtain ⟨X1, a1, a2, a3⟩ := p69 (T := T) (P := P) (w := w) (one := ((P + 1 : Nat) : Int)) (two := t2) (en := e2) (o7 := none) (o8 := none) (by omega) hT P 0 (up X 0 76 0) (by omega) (hR.kept (up_cell (by omega))) ⟨by rw [up_same]; rfl, fun i x _ hx => by rw [List.take_zero] at hx; cases hx⟩
  have a1' : e_X12_putsIn_69 P w ((P + 1 : Nat) : Int) t2 e2 0 none none (up X 0 76 0) = _ := a1
  have f1 := frB_trans f0 a2
  obtain ⟨X2, p7, p8, b1, b2, b3⟩ := p95 (T := T) (M := M) (o1 := some (vI (P : Int))) hw h12 h2e he hT hM M.length 0 X1 none none (by omega) (hR.kept (f1.1 46 (by omega) (by omega))) (by rw [f1.1 3 (by omega) (by omega)]; exact h3) (by rw [f1.1 4 (by omega) (by omega)]; exact h4) (by rw [List.take_zero, show sb2 ((T.drop (P + 1)).take (t2 - (P + 1))) ((T.drop t2).take (e2 - t2)) [] = [] from rfl, List.append_nil]; exact a3)
  have b1' : e_X12_putsIn_95 (some (vI (P : Int))) w ((P + 1 : Nat) : Int) t2 e2 0 none none X1 = _ := b1
  have f2 := frB_trans f1 b2
  obtain ⟨A, eA⟩ : ∃ A, A = (T.drop (P + 1)).take (t2 - (P + 1)) := ⟨_, rfl⟩
  obtain ⟨B, eB⟩ : ∃ B, B = (T.drop t2).take (e2 - t2) := ⟨_, rfl⟩
  rw [← eA, ← eB] at b3 ⊢
  have lA : A.length ≤ 200 := by rw [eA, List.length_take, List.length_drop]; omega
  have lB : B.length ≤ 200 := by rw [eB, List.length_take, List.length_drop]; omega
  have lS := sb2_len lA lB M
  have lL : (T.take P ++ sb2 A B M).length ≤ 5000 := by rw [List.length_append, List.length_take]; omega
  obtain ⟨L0, eL⟩ : ∃ L0, L0 = T.take P ++ sb2 A B M := ⟨_, rfl⟩
  rw [← eL] at b3 lL ⊢
  clear lS lA lB eA eB
  obtain ⟨X3, o5, c1, c2, c3⟩ := p201 (T := T) (o1 := some (vI (P : Int))) (o2 := some (vI (w : Int))) (o3 := some (vI ((P + 1 : Nat) : Int))) (o4 := some (vI (t2 : Int))) (o7 := p7) (o8 := p8) he hT (T.length - e2) e2 X2 L0 (some (vI (e2 : Int))) (by omega) (Nat.le_refl _) (by omega) (by rw [f2.2 74 (by omega)]; exact h74) (hR.kept (f2.1 46 (by omega) (by omega))) (by rw [Nat.sub_self, List.take_zero, List.append_nil]; exact b3)
  have f3 := frB_trans f2 c2
  have lF : (L0 ++ T.drop e2).length ≤ 9000 := by rw [List.length_append, List.length_drop]; omega
  obtain ⟨X4, d1, d2, d3⟩ := p238 (L := L0 ++ T.drop e2) (o1 := some (vI (P : Int))) (o2 := some (vI (w : Int))) (o3 := some (vI ((P + 1 : Nat) : Int))) (o4 := some (vI (t2 : Int))) (o7 := p7) (o8 := p8) (min (L0 ++ T.drop e2).length 200) 0 (up X3 0 74 (X3 0 76)) o5 (by omega) lF ⟨by rw [up_slot (by omega)]; exact c3.1, by rw [up_cell (by omega)]; exact c3.2⟩ (fun k x hk _ => by omega)
  have d1' : e_X12_putsIn_238 (some (vI (P : Int))) (some (vI (w : Int))) (some (vI ((P + 1 : Nat) : Int))) (some (vI (t2 : Int))) o5 0 p7 p8 (up X3 0 74 (X3 0 76)) = _ := d1
  refine ⟨X4, by rw [a1', b1', c1, d1'], ⟨fun c p q r => ?_, fun k p q => ?_⟩, L0 ++ T.drop e2, rfl, lF, ?_, d3⟩
  · rw [d2 c p, up_cell r, f3.1 c q r]
  · rw [d2 0 (by omega), up_slot p, f3.2 k q]
  · rw [d2 0 (by omega), up_same, c3.1]
end PI2
theorem dtk {T : List Int} (p : Nat) : (T.drop p).take (T.length - p) = T.drop p := List.take_of_length_le (by rw [List.length_drop]; exact Nat.le_refl _)
theorem r_putsIn {μ ν X : Mem} {T : List Int} {P : Nat} (hW : RelW μ ν) (hM : FrM ν X) (hR : RHL X 46 T) (h74 : X 0 74 = (T.length : Int)) (hT : isT (ar ν) 1 T) (hl : T.length ≤ 200) (hP : P < T.length) (hw : wb ν T[P] ≠ -4) : ∃ X', f_X12_putsIn [vR 12 0, vI P] X = some (none, X') ∧ FrWd X X' ∧ (wiT ν T P).length ≤ 9000 ∧ X' 0 74 = ((wiT ν T P).length : Int) ∧ ∀ i x, i < 200 → (wiT ν T P)[i]? = some x → X' 46 i = x := by
  obtain ⟨q1, q2, q3, q4, q5⟩ := wb_ar hW hw
  obtain ⟨g1, g2, g3, ⟨m1, g4⟩, g5, g6, g7, g8⟩ := wi_geo hT hP q2
  have hc := hW.RCa.kept hM
  have h4 : 0 ≤ X 0 23 ∧ X 0 23 ≤ 4 := hc.2.1
  have har : ar X = ar ν := hc.1
  have hav : ∀ x, ar X x = -4 ∨ ar X x = 0 ∨ ar X x = 1 ∨ ar X x = 2 := by rw [har]; exact hc.2.2
  have eP : atL T P = T[P] := atL_in (by omega) (by rw [show ((P : Int)).toNat = P by omega]; exact List.getElem?_eq_getElem hP)
  obtain ⟨w, ew⟩ : ∃ w : Nat, wb ν T[P] = (w : Int) := ⟨(wb ν T[P]).toNat, by omega⟩
  have h0 := hW.2.1
  rw [ew] at q1 q3 q4
  rw [show ((w : Int)).toNat = w by omega] at q1 q4
  have hw4 : w < 4 := by omega
  have hlen : (mL ν w).length = (ν 3 w).toNat := sg_len ..
  have ht : ((P + 1 : Nat) : Int) + (tl (ar ν) 1 (T.drop (P + 1)) : Int) = (twoP ν T P : Int) := by unfold twoP; omega
  have w1 : f_X12_wordBy [vR 12 0, vI T[P]] X = some (some (vI (w : Int)), X) := by rw [s_wordBy h4, frM_wb hM, ew]
  have w2 : f_X12_endAt [vR 12 0, vR 20 46, vI ((P + 1 : Nat) : Int), vI (T.length : Int)] X = some (some (vI (twoP ν T P : Int)), X) := by
    rw [s_endAtR h4 hav hR (by decide) (Nat.le_refl _) (by omega) (m := m1) (by rw [dtk, har]; exact g4), har, ht]
  have core := fun (e2 : Nat) (h2 : twoP ν T P ≤ e2) (h3 : e2 ≤ T.length) => pcore (T := T) (M := mL ν w) (X := X) (w := w) (t2 := twoP ν T P) (e2 := e2) (P := P) hw4 g1 h2 h3 hl (by rw [hlen]; have := q4.2.2.2.2.1; omega) hR h74 (by rw [frM_c hM (by omega), hlen]; have := q4.2.2.2.1; omega) (fun i x hx => by
    have hi : i < (ν 3 w).toNat := by
      by_cases z : i < (mL ν w).length
      · omega
      · rw [List.getElem?_eq_none (by omega)] at hx; cases hx
    rw [frM_c hM (by omega)]
    have hx' : (mL ν w)[i]? = some (ν 4 (20 * w + i)) := sg_get hi
    rw [hx'] at hx
    exact Option.some.inj hx)
  have e1 : wiT ν T P = T.take P ++ sb2 ((T.drop (P + 1)).take (twoP ν T P - (P + 1))) ((T.drop (twoP ν T P)).take (endP ν T P - twoP ν T P)) (mL ν w) ++ T.drop (endP ν T P) := by unfold wiT; rw [eP, ew, show ((w : Int)).toNat = w by omega]
  obtain ⟨X', a1, a2, L, a3, a4, a5, a6⟩ := core (endP ν T P) g2 g3
  rw [← e1] at a3
  subst a3
  refine ⟨X', ?_, a2, a4, a5, a6⟩
  rw [q_X12_putsIn, gk (lnR 46) 200 rfl (by omega) (by omega), show ((P : Int)).toNat = P by omega, hR.get hP, w1, cI_t, h74, w20c (by omega), w2, cI_t, gk (lnR 2) 4 rfl (by omega) (by omega), show ((w : Int)).toNat = w by omega, frM_c hM (show 1 ≤ 2 ∧ 2 ≤ 16 by omega)]
  by_cases z : ν 2 w = 2
  · obtain ⟨⟨m2, z1⟩, z2, z3⟩ := g7 (by omega)
    have w3 : f_X12_endAt [vR 12 0, vR 20 46, vI (twoP ν T P : Int), vI (T.length : Int)] X = some (some (vI (endP ν T P : Int)), X) := by
      rw [s_endAtR h4 hav hR (by decide) (Nat.le_refl _) (by omega) (m := m2) (by rw [dtk, har]; exact z1), har, show (twoP ν T P : Int) + (tl (ar ν) 1 (T.drop (twoP ν T P)) : Int) = (endP ν T P : Int) by omega]
    rw [if_pos z, h74, w3, cI_t]
    exact a1
  · rw [if_neg z]
    rw [g6 (by omega)] at a1
    exact a1
