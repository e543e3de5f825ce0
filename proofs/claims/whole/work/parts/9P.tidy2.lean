/-! tidies of the reference: mates change places -/
section T3
variable {o1 o2 : Option AV} {v3 v4 v5 : Int} {a b e : Nat}
theorem t153 (he : e ≤ 200) : ∀ (j i : Nat) (X : Mem), i + j = e → a ≤ i → (∀ q, a ≤ q → q < i → X 49 q = X 48 q) → ∃ X', e_X12_tidies_153 o1 o2 v3 v4 v5 a b e i X = e_X12_tidies_183 o1 o2 v3 v4 v5 a b e 0 X' ∧ (∀ c, c ≠ 49 → X' c = X c) ∧ ∀ q, a ≤ q → q < e → X' 49 q = X 48 q
  | 0, i, X, hj, ha, h => by
    obtain rfl : i = e := by omega
    rw [q_X12_tidies_153, if_neg (by omega)]
    exact ⟨X, rfl, fun _ _ => rfl, h⟩
  | j + 1, i, X, hj, ha, h => by
    rw [q_X12_tidies_153, if_pos (by omega), gk (lnR 48) 200 rfl (by omega) (by omega), gk (lnR 49) 200 rfl (by omega) (by omega), show ((i : Int)).toNat = i by omega, w20c (by omega)]
    obtain ⟨X', a1, a2, a3⟩ := t153 he j (i + 1) (up X 49 i (X 48 i)) (by omega) (by omega) (fun q h1 h2 => by
      rw [up_if, up_cell (by omega)]
      by_cases z : q = i
      · rw [if_pos z, z]
      · rw [if_neg z]; exact h q h1 (by omega))
    exact ⟨X', a1, fun c hc => by rw [a2 c hc, up_cell hc], fun q h1 h2 => by rw [a3 q h1 h2, up_cell (by omega)]⟩
theorem t183 (hb : b ≤ e) (hab : a ≤ b) (he : e ≤ 200) : ∀ (j i : Nat) (X : Mem), i + j = e - b → ∃ X', e_X12_tidies_183 o1 o2 v3 v4 v5 a b e i X = e_X12_tidies_222 o1 o2 v3 v4 v5 a b e 0 X' ∧ (∀ c, c ≠ 48 → X' c = X c) ∧ (∀ q, (q < a + i ∨ a + (e - b) ≤ q) → X' 48 q = X 48 q) ∧ ∀ q, i ≤ q → q < e - b → X' 48 (a + q) = X 49 (b + q)
  | 0, i, X, hj => by
    rw [q_X12_tidies_183, wr_eq (x := (e : Int) - (b : Int)) (by omega) (by omega), if_neg (by omega)]
    exact ⟨X, rfl, fun _ _ => rfl, fun _ _ => rfl, fun q h1 h2 => by omega⟩
  | j + 1, i, X, hj => by
    rw [q_X12_tidies_183, wr_eq (x := (e : Int) - (b : Int)) (by omega) (by omega), if_pos (by omega), wr_eq (x := (b : Int) + (i : Int)) (by omega) (by omega), wr_eq (x := (a : Int) + (i : Int)) (by omega) (by omega), gk (lnR 49) 200 rfl (by omega) (by omega), gk (lnR 48) 200 rfl (by omega) (by omega), show ((a : Int) + (i : Int)).toNat = a + i by omega, show ((b : Int) + (i : Int)).toNat = b + i by omega, w20c (by omega)]
    obtain ⟨X', a1, a2, a3, a4⟩ := t183 hb hab he j (i + 1) (up X 48 (a + i) (X 49 (b + i))) (by omega)
    refine ⟨X', a1, fun c hc => by rw [a2 c hc, up_cell hc], fun q hq => by rw [a3 q (by omega), up_slot (by omega)], fun q h1 h2 => ?_⟩
    by_cases z : q = i
    · rw [z, a3 _ (by omega), up_same]
    · rw [a4 q (by omega) h2, up_cell (by omega)]
theorem t222 (hb : b ≤ e) (hab : a ≤ b) (he : e ≤ 200) : ∀ (j i : Nat) (X : Mem), i + j = b - a → ∃ X' o9, e_X12_tidies_222 o1 o2 v3 v4 v5 a b e i X = e_X12_tidies_73 o1 o2 v3 v4 (wr (v5 + (-1))) (some (vI a)) (some (vI b)) (some (vI e)) o9 X' ∧ (∀ c, c ≠ 48 → X' c = X c) ∧ (∀ q, (q < a + (e - b) + i ∨ e ≤ q) → X' 48 q = X 48 q) ∧ ∀ q, i ≤ q → q < b - a → X' 48 (a + (e - b) + q) = X 49 (a + q)
  | 0, i, X, hj => by
    rw [q_X12_tidies_222, wr_eq (x := (b : Int) - (a : Int)) (by omega) (by omega), if_neg (by omega)]
    exact ⟨X, _, rfl, fun _ _ => rfl, fun _ _ => rfl, fun q h1 h2 => by omega⟩
  | j + 1, i, X, hj => by
    rw [q_X12_tidies_222, wr_eq (x := (b : Int) - (a : Int)) (by omega) (by omega), if_pos (by omega), wr_eq (x := (a : Int) + (i : Int)) (by omega) (by omega), wr_eq (x := (a : Int) + (e : Int)) (by omega) (by omega), wr_eq (x := (a : Int) + (e : Int) - (b : Int)) (by omega) (by omega), wr_eq (x := (a : Int) + (e : Int) - (b : Int) + (i : Int)) (by omega) (by omega), gk (lnR 49) 200 rfl (by omega) (by omega), gk (lnR 48) 200 rfl (by omega) (by omega), show ((a : Int) + (i : Int)).toNat = a + i by omega, show ((a : Int) + (e : Int) - (b : Int) + (i : Int)).toNat = a + (e - b) + i by omega, w20c (by omega)]
    obtain ⟨X', o9, a1, a2, a3, a4⟩ := t222 hb hab he j (i + 1) (up X 48 (a + (e - b) + i) (X 49 (a + i))) (by omega)
    refine ⟨X', o9, a1, fun c hc => by rw [a2 c hc, up_cell hc], fun q hq => by rw [a3 q (by omega), up_slot (by omega)], fun q h1 h2 => ?_⟩
    by_cases z : q = i
    · rw [z, a3 _ (by omega), up_same]
    · rw [a4 q (by omega) h2, up_cell (by omega)]
theorem r_swap {U : List Int} {X : Mem} (hU : RHL X 48 U) (h200 : U.length ≤ 200) (hab : a ≤ b) (hb : b ≤ e) (he : e ≤ U.length) : ∃ X' o9, e_X12_tidies_153 o1 o2 v3 v4 v5 a b e a X = e_X12_tidies_73 o1 o2 v3 v4 (wr (v5 + (-1))) (some (vI a)) (some (vI b)) (some (vI e)) o9 X' ∧ FrT X X' ∧ RHL X' 48 (U.take a ++ (((U.drop b).take (e - b) ++ (U.drop a).take (b - a)) ++ U.drop e)) := by
  obtain ⟨X1, a1, a2, a3⟩ := t153 (o1 := o1) (o2 := o2) (v3 := v3) (v4 := v4) (v5 := v5) (a := a) (b := b) (e := e) (by omega) (e - a) a X (by omega) (Nat.le_refl _) (fun q h1 h2 => by omega)
  obtain ⟨X2, b1, b2, b3, b4⟩ := t183 (o1 := o1) (o2 := o2) (v3 := v3) (v4 := v4) (v5 := v5) hb hab (by omega) (e - b) 0 X1 (by omega)
  obtain ⟨X3, o9, c1, c2, c3, c4⟩ := t222 (o1 := o1) (o2 := o2) (v3 := v3) (v4 := v4) (v5 := v5) hb hab (by omega) (b - a) 0 X2 (by omega)
  have b1' : e_X12_tidies_183 o1 o2 v3 v4 v5 a b e 0 X1 = _ := b1
  have c1' : e_X12_tidies_222 o1 o2 v3 v4 v5 a b e 0 X2 = _ := c1
  have lB : ((U.drop b).take (e - b)).length = e - b := by rw [List.length_take, List.length_drop]; omega
  have lA : ((U.drop a).take (b - a)).length = b - a := by rw [List.length_take, List.length_drop]; omega
  obtain ⟨W, eW⟩ : ∃ W, W = (U.drop b).take (e - b) ++ (U.drop a).take (b - a) := ⟨_, rfl⟩
  have lW : W.length = e - a := by rw [eW, List.length_append, lA, lB]; omega
  rw [← eW]
  refine ⟨X3, o9, by rw [a1, b1', c1'], fun c p q => by rw [c2 c p, b2 c p, a2 c q], ?_, ?_⟩
  · rw [List.length_append, List.length_append, List.length_take, List.length_drop, lW]
    show _ ≤ 200
    omega
  · intro i x hx
    have k48 : ∀ q x, U[q]? = some x → X1 48 q = x := fun q x h => by rw [a2 48 (by omega)]; exact hU.2 q x h
    have k49 : ∀ q x, a ≤ q → q < e → U[q]? = some x → X1 49 q = x := fun q x h1 h2 h => by rw [a3 q h1 h2]; exact hU.2 q x h
    rw [show e = a + W.length by omega] at hx
    rcases app3 (by omega) hx with ⟨z1, z2⟩ | ⟨z1, z2, z3⟩ | ⟨z1, z2⟩
    · rw [c3 i (by omega), b3 i (by omega)]; exact k48 i x z2
    · rw [eW] at z3
      by_cases y : i - a < e - b
      · rw [List.getElem?_append_left (by omega), List.getElem?_take, if_pos y, List.getElem?_drop] at z3
        have := b4 (i - a) (by omega) y
        rw [show a + (i - a) = i by omega] at this
        rw [c3 i (by omega), this]
        exact k49 _ x (by omega) (by omega) z3
      · rw [List.getElem?_append_right (by omega), lB, List.getElem?_take, if_pos (by omega), List.getElem?_drop] at z3
        have := c4 (i - a - (e - b)) (by omega) (by omega)
        rw [show a + (e - b) + (i - a - (e - b)) = i by omega] at this
        rw [this, b2 49 (by omega)]
        exact k49 _ x (by omega) (by omega) z3
    · rw [c3 i (by omega), b3 i (by omega)]; exact k48 i x z2
end T3
theorem r_sort73 {μ ν : Mem} {T : List Int} (hW : RelW μ ν) (hT : isT (ar ν) 1 T) (h200 : T.length ≤ 200) {o1 o2 : Option AV} : ∀ (p : Nat) (X : Mem) (o6 o7 o8 o9 : Option AV), p ≤ T.length → FrM ν X → RHL X 48 (T.take p ++ srt (ar ν) (T.drop p)) → ∃ X', e_X12_tidies_73 o1 o2 1 T.length ((p : Int) - 1) o6 o7 o8 o9 X = some (none, X') ∧ FrT X X' ∧ RHL X' 48 (srt (ar ν) T)
  | 0, X, o6, o7, o8, o9, hp, hM, hH => by
    rw [List.take_zero, List.nil_append, List.drop_zero] at hH
    rw [q_X12_tidies_73, if_pos (by omega)]
    exact ⟨X, rfl, frT_rf, hH⟩
  | p + 1, X, o6, o7, o8, o9, hp, hM, hH => by
    have hp' : p < T.length := by omega
    obtain ⟨x, ex⟩ : ∃ x, x = T[p] := ⟨_, rfl⟩
    obtain ⟨S, eS⟩ : ∃ S, S = srt (ar ν) (T.drop (p + 1)) := ⟨_, rfl⟩
    obtain ⟨k, hk⟩ := isT_drop T 1 p hT hp'
    rw [List.drop_eq_getElem_cons hp', ← ex] at hk
    obtain ⟨hk0, hk1⟩ := hk
    have hS0 := srt_isT (ar_12 ν) _ _ hk1
    rw [← eS] at hS0
    have lS : S.length = T.length - (p + 1) := by rw [eS, srt_len, List.length_drop]
    rw [← eS] at hH
    obtain ⟨U, eU⟩ : ∃ U, U = T.take (p + 1) ++ S := ⟨_, rfl⟩
    have lU : U.length = T.length := by rw [eU, List.length_append, List.length_take, lS]; omega
    have dU : ∀ q, U.drop (p + 1 + q) = S.drop q := fun q => by
      rw [eU, List.drop_append, List.length_take, List.drop_eq_nil_of_le (by rw [List.length_take]; omega), List.nil_append, show p + 1 + q - min (p + 1) T.length = q by omega]
    have tU : U.take (p + 1) = T.take p ++ [x] := by
      rw [eU, List.take_append_of_le_length (by rw [List.length_take]; omega), List.take_take, show min (p + 1) (p + 1) = p + 1 by omega, take_s hp', ← ex]
    have uX : U[p]? = some x := by
      rw [eU, List.getElem?_append_left (by rw [List.length_take]; omega), List.getElem?_take, if_pos (by omega), List.getElem?_eq_getElem hp', ex]
    rw [← eU] at hH
    have hs : srt (ar ν) (T.drop p) = sw (ar ν) x S := by rw [List.drop_eq_getElem_cons hp', ← ex, eS]; rfl
    have keep : ¬ (x = 12 ∧ cmp (ar ν) S = true) → RHL X 48 (T.take p ++ srt (ar ν) (T.drop p)) := fun h => by
      rw [hs]
      unfold sw
      rw [if_neg h, show T.take p ++ x :: S = U by rw [eU, take_s hp', ← ex, List.append_assoc]; rfl]
      exact hH
    rw [show ((p + 1 : Nat) : Int) - 1 = (p : Int) by omega, q_X12_tidies_73, if_neg (by omega), if_neg (by decide), gk (lnR 48) 200 rfl (by omega) (by omega), show ((p : Int)).toNat = p by omega, hH.2 p x uX]
    by_cases q : x = 12
    · rw [q, ar_12] at hS0
      have hS2 : isT (ar ν) (k + 2) S := hS0
      have hc := hW.RCa.kept hM
      have har : ar X = ar ν := hc.1
      have hav : ∀ x, ar X x = -4 ∨ ar X x = 0 ∨ ar X x = 1 ∨ ar X x = 2 := by rw [har]; exact hc.2.2
      obtain ⟨g1, g2, g3, g4, g5⟩ := geo2 hS2
      have u2 := tl_le (a := ar ν) S 2
      have hsp := (isT_split S 1 (k + 1) (by rw [show 1 + (k + 1) = k + 2 by omega]; exact hS2)).2
      have w2 : f_X12_endAt [vR 12 0, vR 20 48, vI ((p + 1 : Nat) : Int), vI (T.length : Int)] X = some (some (vI ((p + 1 + tl (ar ν) 1 S : Nat) : Int)), X) := by
        rw [← lU, s_endAtR hc.2.1 hav hH (by decide) (Nat.le_refl _) (by omega) (m := k + 1) (by rw [dtk, har, show p + 1 = p + 1 + 0 by omega, dU, List.drop_zero]; exact hS2), har, show p + 1 = p + 1 + 0 by omega, dU, List.drop_zero]
        rfl
      have w3 : f_X12_endAt [vR 12 0, vR 20 48, vI ((p + 1 + tl (ar ν) 1 S : Nat) : Int), vI (T.length : Int)] X = some (some (vI ((p + 1 + tl (ar ν) 2 S : Nat) : Int)), X) := by
        rw [← lU, s_endAtR hc.2.1 hav hH (by decide) (Nat.le_refl _) (by omega) (m := k) (by rw [dtk, har, dU]; exact hsp), har, dU, show ((p + 1 + tl (ar ν) 1 S : Nat) : Int) + (tl (ar ν) 1 (S.drop (tl (ar ν) 1 S)) : Int) = ((p + 1 + tl (ar ν) 2 S : Nat) : Int) by omega]
      have hl := r_less (f := p + 1) (m := p + 1 + tl (ar ν) 1 S) (s := p + 1 + tl (ar ν) 2 S) hH (by omega) (by omega) (by omega) (tl (ar ν) 1 S) 0 (by omega)
      have eA : (U.drop (p + 1 + 0)).take (p + 1 + tl (ar ν) 1 S - (p + 1 + 0)) = S.take (tl (ar ν) 1 S) := by rw [dU 0, List.drop_zero]; congr 1; omega
      have eB : (U.drop (p + 1 + tl (ar ν) 1 S + 0)).take (p + 1 + tl (ar ν) 2 S - (p + 1 + tl (ar ν) 1 S + 0)) = (S.drop (tl (ar ν) 1 S)).take (tl (ar ν) 1 (S.drop (tl (ar ν) 1 S))) := by
        show (U.drop (p + 1 + tl (ar ν) 1 S)).take (p + 1 + tl (ar ν) 2 S - (p + 1 + tl (ar ν) 1 S)) = _
        rw [dU]; congr 1; omega
      have ec : cl (S.take (tl (ar ν) 1 S)) ((S.drop (tl (ar ν) 1 S)).take (tl (ar ν) 1 (S.drop (tl (ar ν) 1 S)))) = cmp (ar ν) S := rfl
      rw [eA, eB, ec] at hl
      have hl' : e_X12_isLess_3 ((p + 1 : Nat) : Int) ((p + 1 + tl (ar ν) 1 S : Nat) : Int) ((p + 1 + tl (ar ν) 1 S - (p + 1) : Nat) : Int) ((p + 1 + tl (ar ν) 2 S - (p + 1 + tl (ar ν) 1 S) : Nat) : Int) 0 X = _ := hl
      rw [if_pos q, w20c (by omega), w2, cI_t, w3, cI_t, wr_eq (x := ((p + 1 + tl (ar ν) 1 S : Nat) : Int) - ((p + 1 : Nat) : Int)) (by omega) (by omega), wr_eq (x := ((p + 1 + tl (ar ν) 2 S : Nat) : Int) - ((p + 1 + tl (ar ν) 1 S : Nat) : Int)) (by omega) (by omega), show ((p + 1 + tl (ar ν) 1 S : Nat) : Int) - ((p + 1 : Nat) : Int) = ((p + 1 + tl (ar ν) 1 S - (p + 1) : Nat) : Int) by omega, show ((p + 1 + tl (ar ν) 2 S : Nat) : Int) - ((p + 1 + tl (ar ν) 1 S : Nat) : Int) = ((p + 1 + tl (ar ν) 2 S - (p + 1 + tl (ar ν) 1 S) : Nat) : Int) by omega, q_X12_isLess, hl', cI_t]
      by_cases z : cmp (ar ν) S = true
      · rw [if_pos z, if_neg (by decide)]
        obtain ⟨X2, o9', c1, c2, c3⟩ := r_swap (o1 := o1) (o2 := o2) (v3 := 1) (v4 := T.length) (v5 := p) (a := p + 1) (b := p + 1 + tl (ar ν) 1 S) (e := p + 1 + tl (ar ν) 2 S) hH (by omega) (by omega) (by omega) (by omega)
        rw [c1, wr_eq (x := (p : Int) + (-1)) (by omega) (by omega), show (p : Int) + (-1) = (p : Int) - 1 by omega]
        have eA' : (U.drop (p + 1)).take (p + 1 + tl (ar ν) 1 S - (p + 1)) = S.take (tl (ar ν) 1 S) := eA
        have eB' : (U.drop (p + 1 + tl (ar ν) 1 S)).take (p + 1 + tl (ar ν) 2 S - (p + 1 + tl (ar ν) 1 S)) = (S.drop (tl (ar ν) 1 S)).take (tl (ar ν) 1 (S.drop (tl (ar ν) 1 S))) := eB
        rw [eA', eB', tU, dU, ← g4] at c3
        obtain ⟨X3, d1, d2, d3⟩ := r_sort73 hW hT h200 (o1 := o1) (o2 := o2) p X2 (some (vI ((p + 1 : Nat) : Int))) (some (vI ((p + 1 + tl (ar ν) 1 S : Nat) : Int))) (some (vI ((p + 1 + tl (ar ν) 2 S : Nat) : Int))) o9' (by omega) (frM_trans hM (frT_M c2)) (by
          rw [hs]
          unfold sw swp
          rw [if_pos ⟨q, z⟩, show ∀ l : List Int, T.take p ++ x :: l = (T.take p ++ [x]) ++ l from fun l => by rw [List.append_assoc]; rfl, ← List.append_assoc (List.take _ (List.drop _ S))]
          exact c3)
        exact ⟨X3, d1, frT_trans c2 d2, d3⟩
      · rw [if_neg z, if_pos rfl, wr_eq (x := (p : Int) + (-1)) (by omega) (by omega), show (p : Int) + (-1) = (p : Int) - 1 by omega]
        exact r_sort73 hW hT h200 p X _ _ _ _ (by omega) hM (keep (fun h => z h.2))
    · rw [if_neg q, wr_eq (x := (p : Int) + (-1)) (by omega) (by omega), show (p : Int) + (-1) = (p : Int) - 1 by omega]
      exact r_sort73 hW hT h200 p X _ _ _ _ (by omega) hM (keep (fun h => q h.1))
theorem r_tidies {μ ν X : Mem} {T : List Int} {k o : Nat} {v3 : Int} (hW : RelW μ ν) (hM : FrM ν X) (hk : k < 4) (ho : o < 6) (hv : v3 = 0 ∨ v3 = 1) (hD : WD X k (some T)) (hT : isT (ar ν) 1 T) (hL : LT T) : ∃ X', f_X12_tidies [vR 12 0, vI k, vI o, vI v3] X = some (none, X') ∧ FrT X X' ∧ RHL X' 48 (tdy ν (v3 = 1) o T) := by
  obtain ⟨d1, d2, d3⟩ := hD
  obtain ⟨X1, o6, a1, a2, a3⟩ := r_t11 (v3 := v3) hk ho hL d1 T.length 0 X none none none none (by omega) d3 (fun q x hq _ => by omega)
  have a1' : e_X12_tidies_11 k o v3 T.length 0 none none none none X = _ := a1
  have hok := map_ok ho hT hL
  rw [q_X12_tidies, gk (lnR 45) 4 rfl (by omega) (by omega), show ((k : Int)).toNat = k by omega, d2, a1']
  unfold tdy
  rcases hv with q | q
  · rw [q, q_X12_tidies_73, if_pos (rfl : (0 : Int) = 0), ite_self, if_neg (by decide)]
    exact ⟨X1, rfl, a2, a3⟩
  · rw [q, if_pos rfl]
    have lm : (T.map (rnR o)).length = T.length := List.length_map ..
    obtain ⟨X2, b1, b2, b3⟩ := r_sort73 hW hok.1 (by omega) (o1 := some (vI k)) (o2 := some (vI o)) (T.map (rnR o)).length X1 o6 none none none (Nat.le_refl _) (frM_trans hM (frT_M a2)) (by rw [List.take_length, List.drop_length, show srt (ar ν) [] = [] from rfl, List.append_nil]; exact a3)
    rw [lm] at b1
    exact ⟨X2, b1, frT_trans a2 b2, b3⟩
