/-! rename of the class; tidies of the reference -/
def sgm (k : Nat) : Nat := if k = 2 then 3 else if k = 3 then 2 else k
theorem sgm_lt {k : Nat} (h : k < 6) : sgm k < 6 := by unfold sgm; split <;> (try split) <;> omega
theorem ren_tab : ∀ k, k < 6 → ∀ j, j < 3 → sCt 4 (3 * k + j) = prm (sgm k) j := by decide
theorem s_ren8 {t u k : Nat} {T : List Int} (hk : k < 6) (hL : LT T) (hl : T.length ≤ lnC (u + 1)) (ht : t ≠ u ∧ t ≠ u + 1 ∧ t + 1 ≠ u) {o0 : Option AV} : ∀ (j i : Nat) (μ : Mem) (o5 o6 o7 : Option AV), i + j = T.length → TH μ t T → TH μ u ((T.take i).map (rnR (sgm k))) → ∃ μ', e_X0_rename_8 o0 t ((3 * k : Nat) : Int) u i o5 o6 o7 μ = some (none, μ') ∧ Fr μ μ' (tS u) ∧ TH μ' u (T.map (rnR (sgm k)))
  | 0, i, μ, o5, o6, o7, hj, hT, hU => by
    obtain rfl : i = T.length := by omega
    rw [List.take_length] at hU
    rw [q_X0_rename_8, hT.1, if_neg (by omega)]
    exact ⟨μ, rfl, Fr.rf, hU⟩
  | j + 1, i, μ, o5, o6, o7, hj, hT, hU => by
    have hi : i < T.length := by omega
    have h4 := hT.le
    have hc := hL _ (List.getElem_mem hi)
    have hb : 0 ≤ rnR (sgm k) T[i] ∧ rnR (sgm k) T[i] ≤ 25 := rnR_b (by unfold sgm; split <;> (try split) <;> omega) hc
    have hlm : ((T.take i).map (rnR (sgm k))).length = i := by rw [List.length_map, List.length_take]; omega
    obtain ⟨μ1, a1, a2, a3⟩ := s_add (x := rnR (sgm k) T[i]) hU (by omega) (by omega)
    have hT1 := hT.kept a3 (by unfold tS; omega) (by unfold tS; omega)
    have ea : (T.take i).map (rnR (sgm k)) ++ [rnR (sgm k) T[i]] = (T.take (i + 1)).map (rnR (sgm k)) := by rw [take_s hi, List.map_append]; rfl
    rw [ea] at a2
    have nx : ∀ p5 p6 p7 : Option AV, ∃ μ', e_X0_rename_8 o0 t ((3 * k : Nat) : Int) u ((i + 1 : Nat) : Int) p5 p6 p7 μ1 = some (none, μ') ∧ Fr μ μ' (tS u) ∧ TH μ' u (T.map (rnR (sgm k))) := fun p5 p6 p7 => by
      obtain ⟨μ', b1, b2, b3⟩ := s_ren8 hk hL hl ht (o0 := o0) j (i + 1) μ1 p5 p6 p7 (by omega) hT1 a2
      exact ⟨μ', b1, a3.trans b2, b3⟩
    rw [q_X0_rename_8, hT.1, if_pos (by omega), s_at hT, cI_t, atL_n hi, w20c (by omega)]
    by_cases q : T[i] < 23
    · have er : rnR (sgm k) T[i] = T[i] := by unfold rnR; rw [if_pos q]
      rw [er] at a1
      rw [if_pos q, a1, cI_t]
      exact nx _ _ _
    · have er : rnR (sgm k) T[i] = 23 + prm (sgm k) (T[i] - 23).toNat := by unfold rnR; rw [if_neg q]
      have hp := prm_b (sgm k) (sgm_lt hk) (T[i] - 23).toNat (by omega)
      rw [if_neg q, wr_eq (x := ((3 * k : Nat) : Int) + T[i]) (by omega) (by omega), wr_eq (x := ((3 * k : Nat) : Int) + T[i] - 23) (by omega) (by omega), if_neg (by omega), show ((sLn 4 : Nat) : Int) = 18 from rfl, if_pos (by omega), gk (sLn 4) 18 rfl (by omega) (by omega), show (((3 * k : Nat) : Int) + T[i] - 23).toNat = 3 * k + (T[i] - 23).toNat by omega, ren_tab k hk _ (by omega), wr_eq (by omega) (by omega), ← er, a1, cI_t]
      exact nx _ _ _
theorem s_rename {μ : Mem} {t u k : Nat} {T : List Int} (hk : k < 6) (hL : LT T) (hl : T.length ≤ lnC (u + 1)) (ht : t ≠ u ∧ t ≠ u + 1 ∧ t + 1 ≠ u) (hT : TH μ t T) : ∃ μ', f_X0_rename [vR 0 780, vR 8 t, vI ((3 * k : Nat) : Int), vR 8 u] μ = some (none, μ') ∧ Fr μ μ' (tS u) ∧ TH μ' u (T.map (rnR (sgm k))) := by
  have f0 : Fr μ (up μ u 1 0) (tS u) := Fr.up (Or.inl rfl)
  obtain ⟨μ', a1, a2, a3⟩ := s_ren8 hk hL hl ht (o0 := some (vR 0 780)) T.length 0 (up μ u 1 0) none none none (by omega) (hT.kept f0 (by unfold tS; omega) (by unfold tS; omega)) (by rw [List.take_zero]; exact TH_nil)
  have a1' : e_X0_rename_8 (some (vR 0 780)) t ((3 * k : Nat) : Int) u 0 none none none (up μ u 1 0) = _ := a1
  exact ⟨μ', by rw [q_X0_rename, a1'], f0.trans a2, a3⟩
theorem ren_v : ∀ o : Nat, o < 6 → ∀ k : Nat, k < 3 → (if (bRem (o : Int) 2) = 0 then (if (k : Int) = 0 then wr (23 + (bDiv (o : Int) 2)) else if (k : Int) = 1 then wr (23 + (bRem (wr ((bDiv (o : Int) 2) + 1)) 3)) else wr (23 + (wr ((wr (3 - (bDiv (o : Int) 2))) - (bRem (wr ((bDiv (o : Int) 2) + 1)) 3))))) else (if (k : Int) = 0 then wr (23 + (bDiv (o : Int) 2)) else if (k : Int) = 1 then wr (23 + (bRem (wr ((bDiv (o : Int) 2) + 2)) 3)) else wr (23 + (wr ((wr (3 - (bDiv (o : Int) 2))) - (bRem (wr ((bDiv (o : Int) 2) + 2)) 3)))))) = 23 + prm o k := by decide +kernel
theorem r_renamed {o k : Nat} (ho : o < 6) (hk : k < 3) (X : Mem) : f_X12_renamed [vI (k : Int), vI (o : Int)] X = some (some (vI (23 + prm o k)), X) := by
  have n2 : ¬ (2 : Int) = 0 := by decide
  have n3 : ¬ (3 : Int) = 0 := by decide
  have hv := ren_v o ho k hk
  rw [q_X12_renamed, gn_t n2, gn_t n2, gn_t n3, gn_t n3, ← hv]
  by_cases q : bRem (o : Int) 2 = 0
  · rw [if_pos q, if_pos q]
    by_cases z : (k : Int) = 0
    · rw [if_pos z, if_pos z]
    · rw [if_neg z, if_neg z]
      by_cases y : (k : Int) = 1
      · rw [if_pos y, if_pos y]
      · rw [if_neg y, if_neg y]
  · rw [if_neg q, if_neg q]
    by_cases z : (k : Int) = 0
    · rw [if_pos z, if_pos z]
    · rw [if_neg z, if_neg z]
      by_cases y : (k : Int) = 1
      · rw [if_pos y, if_pos y]
      · rw [if_neg y, if_neg y]
/-- frame: rows 48 and 49 alone -/
def FrT (X X' : Mem) : Prop := ∀ c, c ≠ 48 → c ≠ 49 → X' c = X c
theorem frT_rf {X : Mem} : FrT X X := fun _ _ _ => rfl
theorem frT_trans {X X1 X2 : Mem} (h : FrT X X1) (h2 : FrT X1 X2) : FrT X X2 := fun c a b => (h2 c a b).trans (h c a b)
theorem frT_M {X X' : Mem} (h : FrT X X') : FrM X X' := ⟨fun c _ _ => h c (by omega) (by omega), by rw [h 0 (by omega) (by omega)], by rw [h 0 (by omega) (by omega)], by rw [h 0 (by omega) (by omega)]⟩
theorem r_t11 {k o : Nat} {T : List Int} {v3 : Int} (hk : k < 4) (ho : o < 6) (hL : LT T) (hl : T.length ≤ 200) : ∀ (j i : Nat) (X : Mem) (o6 o7 o8 o9 : Option AV), i + j = T.length → (∀ i x, T[i]? = some x → X 44 (200 * k + i) = x) → (∀ q x, q < i → (T.map (rnR o))[q]? = some x → X 48 q = x) → ∃ X' o6', e_X12_tidies_11 k o v3 T.length i o6 o7 o8 o9 X = e_X12_tidies_73 (some (vI k)) (some (vI o)) v3 T.length ((T.length : Int) - 1) o6' o7 o8 o9 X' ∧ FrT X X' ∧ RHL X' 48 (T.map (rnR o))
  | 0, i, X, o6, o7, o8, o9, hj, h44, h => by
    obtain rfl : i = T.length := by omega
    rw [q_X12_tidies_11, if_neg (by omega), wr_eq (by omega) (by omega)]
    refine ⟨X, o6, rfl, frT_rf, show _ ≤ 200 by rw [List.length_map]; exact hl, fun q x hx => h q x ?_ hx⟩
    by_cases z : q < T.length
    · exact z
    · rw [List.getElem?_eq_none (by rw [List.length_map]; omega)] at hx; cases hx
  | j + 1, i, X, o6, o7, o8, o9, hj, h44, h => by
    have hi : i < T.length := by omega
    have hc := hL _ (List.getElem_mem hi)
    have e44 := h44 i _ (List.getElem?_eq_getElem hi)
    have nx : ∀ p6 : Option AV, ∃ X' o6', e_X12_tidies_11 k o v3 T.length ((i + 1 : Nat) : Int) p6 o7 o8 o9 (up X 48 i (rnR o T[i])) = e_X12_tidies_73 (some (vI k)) (some (vI o)) v3 T.length ((T.length : Int) - 1) o6' o7 o8 o9 X' ∧ FrT X X' ∧ RHL X' 48 (T.map (rnR o)) := fun p6 => by
      obtain ⟨X', o6', a1, a2, a3⟩ := r_t11 (v3 := v3) hk ho hL hl j (i + 1) (up X 48 i (rnR o T[i])) p6 o7 o8 o9 (by omega) (by rw [up_cell (by omega)]; exact h44) (fun q x hq hx => by
        rw [up_if]
        by_cases z : q = i
        · rw [if_pos z]; subst z; rw [List.getElem?_map, List.getElem?_eq_getElem hi] at hx; exact Option.some.inj hx
        · rw [if_neg z]; exact h q x (by omega) hx)
      exact ⟨X', o6', a1, fun c p q => by rw [a2 c p q, up_cell p], a3⟩
    rw [q_X12_tidies_11, if_pos (by omega), wr_eq (x := 200 * (k : Int)) (by omega) (by omega), wr_eq (x := 200 * (k : Int) + (i : Int)) (by omega) (by omega), gk (lnR 44) 800 rfl (by omega) (by omega), show (200 * (k : Int) + (i : Int)).toNat = 200 * k + i by omega, e44, w20c (by omega), show ((i : Int)).toNat = i by omega]
    by_cases q : T[i] < 23
    · have er : rnR o T[i] = T[i] := by unfold rnR; rw [if_pos q]
      rw [er] at nx
      rw [if_pos q, gk (lnR 48) 200 rfl (by omega) (by omega)]
      exact nx _
    · have er : rnR o T[i] = 23 + prm o (T[i] - 23).toNat := by unfold rnR; rw [if_neg q]
      rw [if_neg q, wr_eq (x := T[i] - 23) (by omega) (by omega), show T[i] - 23 = (((T[i] - 23).toNat : Nat) : Int) by omega, r_renamed ho (by omega), cI_t, ← er, gk (lnR 48) 200 rfl (by omega) (by omega)]
      exact nx _
theorem r_less {X : Mem} {f m s : Nat} {U : List Int} (hU : RHL X 48 U) (h200 : U.length ≤ 200) (hm : m ≤ s) (hs : s ≤ U.length) : ∀ (j i : Nat), f + i + j = m → e_X12_isLess_3 f m ((m - f : Nat) : Int) ((s - m : Nat) : Int) i X = some (some (vI (if cl ((U.drop (f + i)).take (m - (f + i))) ((U.drop (m + i)).take (s - (m + i))) then 1 else 0)), X)
  | 0, i, hj => by
    have n1 : ¬ ((i : Int) < ((m - f : Nat) : Int)) := by omega
    rw [q_X12_isLess_3, if_neg n1, if_neg n1, gz_0, seg_n (U := U) (i := f + i) (m := m) (by omega)]
    rfl
  | j + 1, i, hj => by
    have p1 : ((i : Int) < ((m - f : Nat) : Int)) := by omega
    by_cases q : m + i < s
    · have p2 : ((i : Int) < ((s - m : Nat) : Int)) := by omega
      rw [q_X12_isLess_3]
      simp only [if_pos p1, if_pos p2]
      rw [wr_eq (x := (f : Int) + (i : Int)) (by omega) (by omega), wr_eq (x := (m : Int) + (i : Int)) (by omega) (by omega), gk (lnR 48) 200 rfl (by omega) (by omega), gk (lnR 48) 200 rfl (by omega) (by omega), gk (lnR 48) 200 rfl (by omega) (by omega), gk (lnR 48) 200 rfl (by omega) (by omega), show ((f : Int) + (i : Int)).toNat = f + i by omega, show ((m : Int) + (i : Int)).toNat = m + i by omega, hU.get (show f + i < U.length by omega), hU.get (show m + i < U.length by omega), seg_c (U := U) (i := f + i) (m := m) (by omega) (by omega), seg_c (U := U) (i := m + i) (m := s) (by omega) (by omega), gz_0, gz_1, w20c (by omega)]
      unfold cl
      by_cases z : U[f + i] = U[m + i]
      · rw [if_pos z, if_pos z]
        exact r_less hU h200 hm hs j (i + 1) (by omega)
      · rw [if_neg z, if_neg z]
        by_cases y : U[m + i] < U[f + i]
        · rw [if_pos y, if_pos (by simp; omega)]
        · rw [if_neg y, if_neg (by simp; omega)]
    · have n2 : ¬ ((i : Int) < ((s - m : Nat) : Int)) := by omega
      rw [q_X12_isLess_3]
      simp only [if_pos p1, if_neg n2]
      rw [gz_0, seg_n (U := U) (i := m + i) (m := s) (by omega), cl_nr]
      rfl
