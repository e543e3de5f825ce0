/-! a SAYING is added -/
theorem lnC_s : ∀ e : Nat, e < 24 → lnC (32 + 5 * e + 1) = 20 ∧ lnC (34 + 5 * e + 1) = 20 := by decide
theorem s_addS {μ : Mem} {S : Nat} {st hand day : Int} {l1 l2 : List Int} (hS : S < 24) (h9 : μ 23 9 = (S : Int)) (h1 : TH μ 153 l1) (h2 : TH μ 155 l2) (k1 : l1.length ≤ 20) (k2 : l2.length ≤ 20) (b1 : BY l1) (b2 : BY l2) : ∃ μ', f_X3_add [vR 3 23, vR 8 153, vR 8 155, vI st, vI hand, vI day] μ = some (none, μ') ∧ (∀ x, x ≠ 23 → ¬ (31 + 5 * S ≤ x ∧ x ≤ 35 + 5 * S) → μ' x = μ x) ∧ (∀ k, μ' 23 k = if k = 9 then ((S + 1 : Nat) : Int) else μ 23 k) ∧ TH μ' (32 + 5 * S) l1 ∧ TH μ' (34 + 5 * S) l2 ∧ μ' (31 + 5 * S) 2 = st ∧ μ' (31 + 5 * S) 3 = hand ∧ μ' (31 + 5 * S) 4 = day ∧ μ' (31 + 5 * S) 6 = -4 := by
  obtain ⟨ln1, ln2⟩ := lnC_s S hS
  obtain ⟨A, a1, a2, a3⟩ := s_copy (t := 31 + 5 * S + 1) h1 b1 (by unfold tS; omega) (by unfold tS; omega) (by rw [show 31 + 5 * S + 1 + 1 = 32 + 5 * S + 1 by omega, ln1]; exact k1)
  have h2A : TH A 155 l2 := h2.kept a3 (by unfold tS; omega) (by unfold tS; omega)
  obtain ⟨B, c1, c2, c3⟩ := s_copy (t := 31 + 5 * S + 3) h2A b2 (by unfold tS; omega) (by unfold tS; omega) (by rw [show 31 + 5 * S + 3 + 1 = 34 + 5 * S + 1 by omega, ln2]; exact k2)
  have B9 : ∀ k, B 23 k = μ 23 k := fun k => by rw [c3 23 (by unfold tS; omega), a3 23 (by unfold tS; omega)]
  obtain ⟨X, hX⟩ : ∃ X, X = up (up (up (up B (31 + 5 * S) 2 st) (31 + 5 * S) 3 hand) (31 + 5 * S) 4 day) (31 + 5 * S) 6 (-4) := ⟨_, rfl⟩
  have Xo : ∀ x, x ≠ 31 + 5 * S → X x = B x := fun x hx => by rw [hX, up_cell hx, up_cell hx, up_cell hx, up_cell hx]
  refine ⟨up X 23 9 ((S + 1 : Nat) : Int), ?_, fun x p q => ?_, fun k => ?_, ?_, ?_, ?_, ?_, ?_, ?_⟩
  · rw [q_X3_add, h9, if_pos (by omega), gk (lnC 24) 24 rfl (by omega) (by omega), show ((S : Int)).toNat = S by omega, a1, cV_t, c1, cV_t, ← hX, Xo 23 (by omega), B9, h9, wr_eq (by omega) (by omega), show (S : Int) + 1 = ((S + 1 : Nat) : Int) by omega]
  · rw [up_cell p, Xo x (by omega), c3 x (by unfold tS; omega), a3 x (by unfold tS; omega)]
  · rw [up_if, Xo 23 (by omega), B9]
  · have : TH B (31 + 5 * S + 1) l1 := a2.kept c3 (by unfold tS; omega) (by unfold tS; omega)
    rw [show 31 + 5 * S + 1 = 32 + 5 * S by omega] at this
    exact this.kept (S := fun x => x = 23 ∨ x = 31 + 5 * S) (fun x hx => by rw [up_cell (fun z => hx (Or.inl z)), Xo x (fun z => hx (Or.inr z))]) (by omega) (by omega)
  · have := c2
    rw [show 31 + 5 * S + 3 = 34 + 5 * S by omega] at this
    exact this.kept (S := fun x => x = 23 ∨ x = 31 + 5 * S) (fun x hx => by rw [up_cell (fun z => hx (Or.inl z)), Xo x (fun z => hx (Or.inr z))]) (by omega) (by omega)
  · rw [up_cell (by omega), hX, up_slot (by omega), up_slot (by omega), up_slot (by omega), up_same]
  · rw [up_cell (by omega), hX, up_slot (by omega), up_slot (by omega), up_same]
  · rw [up_cell (by omega), hX, up_slot (by omega), up_same]
  · rw [up_cell (by omega), hX, up_same]
theorem r_keepsS16 {e k len : Nat} {l : List Int} (he : e < 24) (hk : k ≤ 1) (hl : l.length = len) (hl20 : len ≤ 20) : ∀ (j i : Nat) (ν : Mem), i + j = len → ν 0 33 = (len : Int) → RHL ν 19 l → (∀ q, q < i → ∀ x, l[q]? = some x → ν 5 (40 * e + 20 * k + q) = x) → ∃ ν', e_X12_keepsSide_16 e k i ν = some (none, ν') ∧ (∀ c, c ≠ 5 → ν' c = ν c) ∧ (∀ q, q < len → ∀ x, l[q]? = some x → ν' 5 (40 * e + 20 * k + q) = x) ∧ ∀ j, ¬ (40 * e + 20 * k ≤ j ∧ j < 40 * e + 20 * k + 20) → ν' 5 j = ν 5 j
  | 0, i, ν, hj, h33, hR, hE => by
    obtain rfl : i = len := by omega
    rw [q_X12_keepsSide_16, h33, if_neg (by omega)]
    exact ⟨ν, rfl, fun _ _ => rfl, hE, fun _ _ => rfl⟩
  | j + 1, i, ν, hj, h33, hR, hE => by
    have hi : i < l.length := by omega
    rw [q_X12_keepsSide_16, h33, if_pos (by omega), gk (lnR 19) 20 rfl (by omega) (by omega), wr_eq (x := 40 * (e : Int)) (by omega) (by omega), wr_eq (x := 20 * (k : Int)) (by omega) (by omega), wr_eq (x := 40 * (e : Int) + 20 * (k : Int)) (by omega) (by omega), wr_eq (x := 40 * (e : Int) + 20 * (k : Int) + (i : Int)) (by omega) (by omega), gk (lnR 5) 960 rfl (by omega) (by omega), show (40 * (e : Int) + 20 * (k : Int) + (i : Int)).toNat = 40 * e + 20 * k + i by omega, show ((i : Int)).toNat = i by omega, wr_eq (x := (i : Int) + 1) (by omega) (by omega), show (i : Int) + 1 = ((i + 1 : Nat) : Int) by omega, hR.get hi]
    obtain ⟨ν', a1, a2, a3, a4⟩ := r_keepsS16 he hk hl hl20 j (i + 1) (up ν 5 (40 * e + 20 * k + i) l[i]) (by omega) (by rw [up_cell (by omega)]; exact h33) (hR.kept (up_cell (by omega))) (fun q hq x hx => by
      rw [up_if]
      by_cases z : 40 * e + 20 * k + q = 40 * e + 20 * k + i
      · rw [if_pos z]
        have : q = i := by omega
        subst this
        rw [List.getElem?_eq_getElem hi] at hx
        exact Option.some.inj hx
      · rw [if_neg z]
        exact hE q (by omega) x hx)
    exact ⟨ν', a1, fun c hc => by rw [a2 c hc, up_cell hc], a3, fun k hk => by rw [a4 k hk, up_slot (by omega)]⟩
theorem r_keepsS {ν : Mem} {e k : Nat} {l : List Int} (he : e < 24) (hk : k ≤ 1) (hl20 : l.length ≤ 20) (h33 : ν 0 33 = (l.length : Int)) (hR : RHL ν 19 l) : ∃ ν', f_X12_keepsSide [vR 12 0, vI (e : Int), vI (k : Int)] ν = some (none, ν') ∧ (∀ c, c ≠ 5 → c ≠ 6 → ν' c = ν c) ∧ (∀ j, ν' 6 j = if j = 2 * e + k then (l.length : Int) else ν 6 j) ∧ sL ν' e k = l ∧ ∀ j, ¬ (40 * e + 20 * k ≤ j ∧ j < 40 * e + 20 * k + 20) → ν' 5 j = ν 5 j := by
  obtain ⟨ν', a1, a2, a3, a4⟩ := r_keepsS16 he hk rfl hl20 l.length 0 (up ν 6 (2 * e + k) (l.length : Int)) (by omega) (by rw [up_cell (by omega)]; exact h33) (hR.kept (up_cell (by omega))) (fun q hq => by omega)
  have a1' : e_X12_keepsSide_16 e k 0 (up ν 6 (2 * e + k) (l.length : Int)) = _ := a1
  have e6 : ∀ j, ν' 6 j = if j = 2 * e + k then (l.length : Int) else ν 6 j := fun j => by rw [a2 6 (by omega), up_if]
  refine ⟨ν', ?_, fun c p q => by rw [a2 c p, up_cell q], e6, ?_, fun j hj => by rw [a4 j hj, up_cell (by omega)]⟩
  · rw [q_X12_keepsSide, wr_eq (x := 2 * (e : Int)) (by omega) (by omega), wr_eq (x := 2 * (e : Int) + (k : Int)) (by omega) (by omega), gk (lnR 6) 48 rfl (by omega) (by omega), show (2 * (e : Int) + (k : Int)).toNat = 2 * e + k by omega, h33, a1']
  · unfold sL
    rw [e6, if_pos rfl, show ((l.length : Int)).toNat = l.length by omega]
    refine List.ext_getElem? (fun q => ?_)
    by_cases z : q < l.length
    · rw [sg_get z, List.getElem?_eq_getElem z, a3 q z _ (List.getElem?_eq_getElem z)]
    · rw [List.getElem?_eq_none (by rw [sg_len]; omega), List.getElem?_eq_none (by omega)]
section ADDS
variable {μ0 ν0 μ ν μ' ν' : Mem} {S : Nat}
/-- the rest of the sides are untouched -/
theorem sL_far {ν ν' : Mem} {e k : Nat} {g j : Nat} (h20 : (ν 6 (2 * g + j)).toNat ≤ 20) (hj : j ≤ 1) (hk : k ≤ 1) (hne : ¬ (g = e ∧ j = k)) (h6 : ν' 6 (2 * g + j) = ν 6 (2 * g + j)) (h5 : ∀ x, ¬ (40 * e + 20 * k ≤ x ∧ x < 40 * e + 20 * k + 20) → ν' 5 x = ν 5 x) : sL ν' g j = sL ν g j := by
  unfold sL
  rw [h6]
  refine List.ext_getElem? (fun q => ?_)
  by_cases z : q < (ν 6 (2 * g + j)).toNat
  · rw [sg_get z, sg_get z, h5 _ (by omega)]
  · rw [List.getElem?_eq_none (by rw [sg_len]; omega), List.getElem?_eq_none (by rw [sg_len]; omega)]
theorem TX.side {k : Nat} {v : Int} (h : TX μ0 ν0 μ ν) (hS : ν 0 34 = (S : Int)) (hk : k ≤ 1) (rc : ∀ c, c ≠ 5 → c ≠ 6 → ν' c = ν c) (r6 : ∀ j, ν' 6 j = if j = 2 * S + k then v else ν 6 j) (r5 : ∀ j, ¬ (40 * S + 20 * k ≤ j ∧ j < 40 * S + 20 * k + 20) → ν' 5 j = ν 5 j) : TX μ0 ν0 μ ν' := by
  obtain ⟨oc, ⟨a1, a2, a3, a4⟩, hRW, d, e, f, g, new⟩ := h
  have arE : ar ν' = ar ν := by
    funext x
    unfold ar wb
    rw [rc 0 (by omega) (by omega), rc 1 (by omega) (by omega), rc 2 (by omega) (by omega)]
  refine ⟨oc, ⟨fun x x1 x2 => by rw [rc x (by omega) (by omega)]; exact a1 x x1 x2, fun j k1 k2 k3 k4 => by rw [rc 0 (by omega) (by omega)]; exact a2 j k1 k2 k3 k4, fun w hw => ?_, fun x hx => ?_⟩, ?_, by rw [rc 0 (by omega) (by omega)]; exact d, by rw [rc 0 (by omega) (by omega)]; exact e, by rw [rc 0 (by omega) (by omega)]; exact f, by rw [rc 0 (by omega) (by omega)]; exact g, fun x x1 x2 => ?_⟩
  · rw [rc 1 (by omega) (by omega), rc 2 (by omega) (by omega), rc 3 (by omega) (by omega), rc 4 (by omega) (by omega)]
    exact a3 w hw
  · obtain ⟨b1, b2, b3⟩ := a4 x hx
    rw [rc 7 (by omega) (by omega)]
    refine ⟨b1, fun j hj => ?_, fun i hi => ?_⟩
    · rw [r6, if_neg (by omega)]; exact b2 j hj
    · rw [r5 _ (by omega)]; exact b3 i hi
  · have hv : VW ν' = fun c j => if c = 5 ∨ c = 6 then ν' c j else VW ν c j := by
      funext c j
      unfold VW
      rw [rc 0 (by omega) (by omega)]
      by_cases z : c = 5 ∨ c = 6
      · rw [if_pos z, up_ne (by omega)]
      · rw [if_neg z]
        unfold up
        rw [rc c (by omega) (by omega)]
    have e1 : VW ν' 1 = VW ν 1 := by unfold VW; rw [up_cell (by omega), up_cell (by omega), rc 1 (by omega) (by omega)]
    have e2 : VW ν' 2 = VW ν 2 := by unfold VW; rw [up_cell (by omega), up_cell (by omega), rc 2 (by omega) (by omega)]
    have e3 : VW ν' 3 = VW ν 3 := by unfold VW; rw [up_cell (by omega), up_cell (by omega), rc 3 (by omega) (by omega)]
    have e4 : VW ν' 4 = VW ν 4 := by unfold VW; rw [up_cell (by omega), up_cell (by omega), rc 4 (by omega) (by omega)]
    have e0 : VW ν' 0 = VW ν 0 := by unfold VW; funext j; unfold up; rw [rc 0 (by omega) (by omega)]
    have em : mL (VW ν') = mL (VW ν) := by funext w; unfold mL; rw [e3]; exact sg_congr e4
    have ew : wb (VW ν') = wb (VW ν) := by funext x; unfold wb; rw [e1, e0]
    have ea : ar (VW ν') = ar (VW ν) := by funext x; unfold ar; rw [ew, e2]
    have ef : fcL (VW ν') = fcL (VW ν) := by funext w; unfold fcL; rw [e1, e2]
    unfold RelW okW at hRW ⊢
    rw [e0, e1, e2, e3, em, ew, ea, ef]
    exact hRW
  · rw [rc 0 (by omega) (by omega)] at x2
    have q := new x x1 x2
    have xS : x ≠ S := by omega
    have q0 := q.1.2.1
    have q1 := q.2.1.2.1
    unfold okS at q ⊢
    rw [arE, rc 7 (by omega) (by omega), sL_far (e := S) (k := k) (g := x) (j := 0) (by omega) (by omega) hk (by omega) (by rw [r6, if_neg (by omega)]) r5, sL_far (e := S) (k := k) (g := x) (j := 1) (by omega) (by omega) hk (by omega) (by rw [r6, if_neg (by omega)]) r5, r6, r6, if_neg (by omega), if_neg (by omega)]
    exact q
theorem TX.addS {st : Int} (h : TX μ0 ν0 μ ν) (h4 : ν0 0 0 ≤ 4) (h24 : ν0 0 5 ≤ 24) (hS : ν 0 34 = (S : Int)) (hS4 : S < 24) (o0 : okS ν S 0) (o1 : okS ν S 1) (hst : st = 0 ∨ st = 1)
    (c0 : ∀ x, x ≠ 23 → ¬ (31 + 5 * S ≤ x ∧ x ≤ 35 + 5 * S) → μ' x = μ x) (c1 : ∀ k, μ' 23 k = if k = 9 then ((S + 1 : Nat) : Int) else μ 23 k) (c2 : TH μ' (32 + 5 * S) (sL ν S 0)) (c3 : TH μ' (34 + 5 * S) (sL ν S 1)) (c4 : μ' (31 + 5 * S) 2 = st) (c5 : μ' (31 + 5 * S) 3 = ν0 0 21) (c6 : μ' (31 + 5 * S) 4 = ν0 0 22) (c7 : μ' (31 + 5 * S) 6 = -4) : TX μ0 ν0 μ' (up (up ν 7 S st) 0 34 ((S + 1 : Nat) : Int)) := by
  obtain ⟨oc, ⟨a1, a2, a3, a4⟩, hRW, d, e, f, g, new⟩ := h
  obtain ⟨X, hX⟩ : ∃ X, X = up (up ν 7 S st) 0 34 ((S + 1 : Nat) : Int) := ⟨_, rfl⟩
  have Xo : ∀ x, x ≠ 0 → x ≠ 7 → X x = ν x := fun x p q => by rw [hX, up_cell p, up_cell q]
  have X0 : ∀ k, X 0 k = if k = 34 then ((S + 1 : Nat) : Int) else ν 0 k := fun k => by rw [hX, up_if, up_cell (by omega)]
  have X7 : ∀ k, X 7 k = if k = S then st else ν 7 k := fun k => by rw [hX, up_cell (by omega), up_if]
  rw [← hX]
  clear hX
  have Z : ∀ k, k ≠ 34 → X 0 k = ν 0 k := fun k hk => by rw [X0, if_neg hk]
  have wbE : wb X = wb ν := by funext x; unfold wb; rw [Z 23 (by omega), Xo 1 (by omega) (by omega)]
  have arE : ar X = ar ν := by funext x; unfold ar; rw [wbE, Xo 2 (by omega) (by omega)]
  have sLE : sL X = sL ν := by funext a b; unfold sL; rw [Xo 6 (by omega) (by omega)]; exact sg_congr (Xo 5 (by omega) (by omega))
  refine ⟨?_, ⟨fun x x1 x2 => by rw [Xo x (by omega) (by omega)]; exact a1 x x1 x2, fun k k1 k2 k3 k4 => by rw [Z k k4]; exact a2 k k1 k2 k3 k4, fun w hw => ?_, fun x hx => ?_⟩, ?_, by rw [Z 23 (by omega)]; exact d, by rw [X0, if_pos rfl]; omega, by rw [X0, if_pos rfl]; omega, by rw [X0, if_pos rfl, c1, if_pos rfl], fun x x1 x2 => ?_⟩
  · obtain ⟨b1, b2, b3, b4, b5⟩ := oc
    refine ⟨fun x hx => by rw [c0 x (by omega) (by omega)]; exact b1 x hx, fun k hk => by rw [c1, if_neg hk]; exact b2 k hk, fun x hx j hj => by rw [c0 _ (by omega) (by omega)]; exact b3 x hx j hj, fun k k1 k2 k3 k4 => by rw [c0 151 (by omega) (by omega)]; exact b4 k k1 k2 k3 k4, fun w hw => ?_⟩
    rw [c0 2 (by omega) (by omega), c0 3 (by omega) (by omega)]
    obtain ⟨p1, p2, p3⟩ := b5 w hw
    exact ⟨p1, p2, fun j hj => by rw [c0 _ (by omega) (by omega)]; exact p3 j hj⟩
  · rw [Xo 1 (by omega) (by omega), Xo 2 (by omega) (by omega), Xo 3 (by omega) (by omega), Xo 4 (by omega) (by omega)]
    exact a3 w hw
  · rw [Xo 5 (by omega) (by omega), Xo 6 (by omega) (by omega), X7, if_neg (by omega)]
    exact a4 x hx
  · have v0 : VW X 0 0 = VW ν 0 0 := by unfold VW; rw [up_same, up_same, Z 23 (by omega)]
    have v23 : VW X 0 23 = VW ν 0 23 := by unfold VW; rw [up_slot (by omega), up_slot (by omega), Z 23 (by omega)]
    have vc : ∀ c, 1 ≤ c → c ≤ 4 → VW X c = VW ν c := fun c p q => by unfold VW; rw [up_cell (by omega), up_cell (by omega), Xo c (by omega) (by omega)]
    have em : mL (VW X) = mL (VW ν) := by funext w; unfold mL; rw [vc 3 (by omega) (by omega)]; exact sg_congr (vc 4 (by omega) (by omega))
    have ef : fcL (VW X) = fcL (VW ν) := by funext w; unfold fcL; rw [vc 1 (by omega) (by omega), vc 2 (by omega) (by omega)]
    have hk := hRW.kept (μ' := μ') (fun c p q => c0 c (by omega) (by omega))
    unfold RelW okW at hk ⊢
    rw [v0, v23, vc 1 (by omega) (by omega), vc 2 (by omega) (by omega), vc 3 (by omega) (by omega), em, ef, VW_wb, VW_ar, wbE, arE, ← VW_wb ν, ← VW_ar ν]
    exact hk
  · rw [X0, if_pos rfl] at x2
    unfold okS at o0 o1 ⊢
    rw [sLE, arE, Xo 6 (by omega) (by omega), X7]
    by_cases z : x = S
    · subst z
      rw [if_pos rfl]
      exact ⟨o0, o1, c2, c3, c4, hst, c5, c6, c7⟩
    · rw [if_neg z]
      have q := new x x1 (by omega)
      unfold okS TH at q
      unfold TH
      rw [c0 (31 + 5 * x) (by omega) (by omega), c0 (32 + 5 * x) (by omega) (by omega), c0 (32 + 5 * x + 1) (by omega) (by omega), c0 (34 + 5 * x) (by omega) (by omega), c0 (34 + 5 * x + 1) (by omega) (by omega)]
      exact q
end ADDS
