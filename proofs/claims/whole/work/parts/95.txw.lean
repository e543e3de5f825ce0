theorem wbF_congr {f g : Nat → Int} {x : Int} : ∀ n, (∀ k, k < n → f k = g k) → wbF f x n = wbF g x n
  | 0, _ => rfl
  | n + 1, h => by
    unfold wbF
    rw [h n (by omega), wbF_congr n (fun k hk => h k (by omega))]
/-- room for a WORD with a letter that is free -/
theorem room_W {μ ν : Mem} (hW : RelW μ ν) {c : Int} (hc : 0 ≤ c ∧ c ≤ 3) (hb : wb ν c = -4) : ν 0 0 < 4 := by
  rcases (show ν 0 0 < 4 ∨ ν 0 0 = 4 by have := hW.2.1; omega) with z | z
  · exact z
  · have l := fun (w : Nat) (hw : w < 4) => (hW.2.2.2.2.1 w (by omega)).1
    have ne : ∀ w : Nat, w < 4 → ν 1 w ≠ c := fun w hw q => by
      have := wb_of hW (w := w) (by omega)
      rw [q] at this
      omega
    have inj := fun (v w : Nat) (hv : v < 4) (hw : w < 4) => hW.2.2.2.2.2.1 v w (by omega) (by omega)
    have a0 := l 0 (by omega); have a1 := l 1 (by omega); have a2 := l 2 (by omega); have a3 := l 3 (by omega)
    unfold okW at a0 a1 a2 a3
    have n0 := ne 0 (by omega); have n1 := ne 1 (by omega); have n2 := ne 2 (by omega); have n3 := ne 3 (by omega)
    have d01 : ν 1 0 ≠ ν 1 1 := fun q => by have := inj 0 1 (by omega) (by omega) q; omega
    have d02 : ν 1 0 ≠ ν 1 2 := fun q => by have := inj 0 2 (by omega) (by omega) q; omega
    have d03 : ν 1 0 ≠ ν 1 3 := fun q => by have := inj 0 3 (by omega) (by omega) q; omega
    have d12 : ν 1 1 ≠ ν 1 2 := fun q => by have := inj 1 2 (by omega) (by omega) q; omega
    have d13 : ν 1 1 ≠ ν 1 3 := fun q => by have := inj 1 3 (by omega) (by omega) q; omega
    have d23 : ν 1 2 ≠ ν 1 3 := fun q => by have := inj 2 3 (by omega) (by omega) q; omega
    omega
theorem TX.addW {μ0 ν0 μ ν μ' ν' : Mem} {W : Nat} {c n : Int} {l : List Int} (h : TX μ0 ν0 μ ν) (h4 : ν0 0 0 ≤ 4) (h24 : ν0 0 5 ≤ 24) (hW : ν 0 23 = (W : Int)) (hW4 : W < 4) (hc : 0 ≤ c ∧ c ≤ 3) (hb : wb ν c = -4) (hn : n = 1 ∨ n = 2) (hok : okRw ν n (W : Int) l) (hl : LT l) (hl20 : l.length ≤ 20)
    (c0 : ∀ x, x ≠ 1 → x ≠ 2 → x ≠ 3 → x ≠ 4 → ¬ (7 + 4 * W ≤ x ∧ x ≤ 10 + 4 * W) → μ' x = μ x) (c1 : ∀ k, μ' 1 k = if k = 5 then ((W + 1 : Nat) : Int) else μ 1 k) (c2 : ∀ j, μ' 2 j = if j = W then c else μ 2 j) (c3 : ∀ j, μ' 3 j = if j = W then n else μ 3 j) (c4 : ∀ j, μ' 4 j = if j = c.toNat then (W : Int) else μ 4 j) (c5 : TH μ' (9 + 4 * W) l) (c6 : TH μ' (7 + 4 * W) (if n = 1 then [c, 23] else [c, 23, 24]))
    (r0 : ∀ x, x ≠ 0 → x ≠ 1 → x ≠ 2 → x ≠ 3 → x ≠ 4 → ν' x = ν x) (rz : ∀ k, ν' 0 k = if k = 23 then ((W + 1 : Nat) : Int) else ν 0 k) (r1 : ∀ j, ν' 1 j = if j = W then c else ν 1 j) (r2 : ∀ j, ν' 2 j = if j = W then n else ν 2 j) (r3 : ∀ j, ν' 3 j = if j = W then (l.length : Int) else ν 3 j) (rm : mL ν' W = l) (r4 : ∀ k, ¬ (20 * W ≤ k ∧ k < 20 * W + 20) → ν' 4 k = ν 4 k) : TX μ0 ν0 μ' ν' := by
  obtain ⟨oc, orr, hRW, d, e, f, g, new⟩ := h
  have z23 : ν' 0 23 = ((W + 1 : Nat) : Int) := by rw [rz, if_pos rfl]
  have zo : ∀ k, k ≠ 23 → ν' 0 k = ν 0 k := fun k hk => by rw [rz, if_neg hk]
  have wbN : ∀ x, wb ν' x = if x = c then (W : Int) else wb ν x := fun x => by
    unfold wb
    rw [z23, hW, show (((W + 1 : Nat) : Int)).toNat = W + 1 by omega, show ((W : Int)).toNat = W by omega]
    have : wbF (ν' 1) x (W + 1) = if ν' 1 W = x then (W : Int) else wbF (ν' 1) x W := rfl
    rw [this, r1, if_pos rfl, wbF_congr (g := ν 1) W (fun k hk => by rw [r1, if_neg (by omega)])]
    by_cases z : c = x
    · rw [if_pos z, if_pos z.symm]
    · rw [if_neg z, if_neg (fun y => z y.symm)]
  have wr := fun x => wb_range hRW x
  rw [VW_wb] at wr
  have v0 : VW ν 0 0 = (W : Int) := by unfold VW; rw [up_same]; exact hW
  have v1 : VW ν 1 = ν 1 := by unfold VW; exact up_cell (by omega)
  have arN' : ∀ x, 0 ≤ ar ν x → ar ν' x = ar ν x := fun x hx => by
    have xc : x ≠ c := fun z => by
      unfold ar at hx
      rw [if_neg (by omega), if_neg (by omega), z, if_pos hb] at hx
      omega
    unfold ar at hx ⊢
    rw [wbN, if_neg xc]
    by_cases q : 23 ≤ x ∨ x = 14
    · rw [if_pos q, if_pos q]
    · rw [if_neg q] at hx ⊢
      rw [if_neg q]
      by_cases q2 : x = 12
      · rw [if_pos q2, if_pos q2]
      · rw [if_neg q2] at hx ⊢
        rw [if_neg q2]
        by_cases b : wb ν x = -4
        · rw [if_pos b, if_pos b]
        · rw [if_neg b, if_neg b, r2, if_neg]
          have := wr x
          rw [v0] at this
          omega
  have isN : ∀ L m, isT (ar ν) m L → isT (ar ν') m L := fun L m hL => isT_congr L m (fun x hx => (arN' x (isT_ar L m hL x hx)).symm) hL
  have sLN : sL ν' = sL ν := by
    funext a b
    unfold sL
    rw [r0 6 (by omega) (by omega) (by omega) (by omega) (by omega)]
    exact sg_congr (r0 5 (by omega) (by omega) (by omega) (by omega) (by omega))
  have mLN : ∀ w : Nat, w < W → (ν 3 w).toNat ≤ 20 → mL ν' w = mL ν w := fun w hw h20 => by
    unfold mL
    rw [r3, if_neg (by omega)]
    refine List.ext_getElem? (fun q => ?_)
    by_cases z : q < (ν 3 w).toNat
    · rw [sg_get z, sg_get z, r4 _ (by omega)]
    · rw [List.getElem?_eq_none (by rw [sg_len]; omega), List.getElem?_eq_none (by rw [sg_len]; omega)]
  refine ⟨?_, ?_, ?_, by rw [z23]; omega, by rw [zo 34 (by omega)]; exact e, by rw [zo 34 (by omega)]; exact f, by rw [zo 34 (by omega), c0 23 (by omega) (by omega) (by omega) (by omega) (by omega)]; exact g, ?_⟩
  · obtain ⟨a1, a2, a3, a4, a5⟩ := oc
    refine ⟨fun x hx => by rw [c0 x (by omega) (by omega) (by omega) (by omega) (by omega)]; exact a1 x hx, fun k hk => by rw [c0 23 (by omega) (by omega) (by omega) (by omega) (by omega)]; exact a2 k hk, fun x hx j hj => by rw [c0 _ (by omega) (by omega) (by omega) (by omega) (by omega)]; exact a3 x hx j hj, fun k k1 k2 k3 k4 => by rw [c0 151 (by omega) (by omega) (by omega) (by omega) (by omega)]; exact a4 k k1 k2 k3 k4, fun w hw => ?_⟩
    have ww : w < W := by omega
    rw [c2, c3, if_neg (by omega), if_neg (by omega)]
    obtain ⟨b1, b2, b3⟩ := a5 w hw
    exact ⟨b1, b2, fun j hj => by rw [c0 _ (by omega) (by omega) (by omega) (by omega) (by omega)]; exact b3 j hj⟩
  · obtain ⟨a1, a2, a3, a4⟩ := orr
    refine ⟨fun x x1 x2 => by rw [r0 x (by omega) (by omega) (by omega) (by omega) (by omega)]; exact a1 x x1 x2, fun k k1 k2 k3 k4 => by rw [zo k k1]; exact a2 k k1 k2 k3 k4, fun w hw => ?_, fun x hx => ?_⟩
    · have ww : w < W := by omega
      rw [r1, r2, r3, if_neg (by omega), if_neg (by omega), if_neg (by omega)]
      obtain ⟨b1, b2, b3, b4⟩ := a3 w hw
      exact ⟨b1, b2, b3, fun i hi => by rw [r4 _ (by omega)]; exact b4 i hi⟩
    · rw [r0 5 (by omega) (by omega) (by omega) (by omega) (by omega), r0 6 (by omega) (by omega) (by omega) (by omega) (by omega), r0 7 (by omega) (by omega) (by omega) (by omega) (by omega)]
      exact a4 x hx
  · obtain ⟨a1, a2, a3, a4, a5, a6, a7⟩ := hRW
    have V0 : VW ν' 0 0 = ((W + 1 : Nat) : Int) := by unfold VW; rw [up_same]; exact z23
    have Vc : ∀ x, x ≠ 0 → VW ν' x = ν' x := fun x hx => by unfold VW; exact up_cell hx
    have Vc0 : ∀ x, x ≠ 0 → VW ν x = ν x := fun x hx => by unfold VW; exact up_cell hx
    have V23 : VW ν' 0 23 = ((W + 1 : Nat) : Int) := by unfold VW; rw [up_slot (by omega)]; exact z23
    refine ⟨by omega, by omega, by omega, by rw [c1, if_pos rfl, V0], fun w hw => ?_, fun v w hv hw hvw => ?_, fun k hk => ?_⟩
    · rw [V0] at hw
      unfold okW fcL
      rw [VW_mL, VW_ar, Vc 1 (by omega), Vc 2 (by omega), Vc 3 (by omega)]
      by_cases z : w = W
      · subst z
        rw [r1, r2, r3, c2, c3, if_pos rfl, if_pos rfl, if_pos rfl, if_pos rfl, if_pos rfl, rm]
        have hne := isT_ne hok.2
        have hpos : 0 < l.length := List.length_pos_iff.mpr hne
        refine ⟨⟨hc.1, hc.2, hn, by omega, by omega, hl, isN l 1 hok.2, fun x hx => ?_⟩, rfl, rfl, c5, c6⟩
        rcases hok.1 x hx with y | y | y | ⟨y1, y2, y3⟩
        · exact Or.inl y
        · exact Or.inr (Or.inl y)
        · exact Or.inr (Or.inr (Or.inl y))
        · rcases wr x with q | ⟨q1, q2, q3⟩
          · exact absurd q y2
          · rw [v1] at q3
            exact Or.inr (Or.inr (Or.inr ⟨(wb ν x).toNat, by omega, by rw [r1, if_neg (by omega)]; exact q3⟩))
      · have ww : w < W := by omega
        obtain ⟨b1, b2, b3, b4, b5⟩ := a5 w (by rw [v0]; omega)
        unfold okW at b1
        unfold fcL at b5
        rw [VW_mL] at b4
        rw [VW_mL, VW_ar, Vc0 1 (by omega), Vc0 2 (by omega), Vc0 3 (by omega)] at b1
        rw [Vc0 1 (by omega), Vc0 2 (by omega)] at b5
        rw [Vc0 1 (by omega)] at b2
        rw [Vc0 2 (by omega)] at b3
        have m20 : (ν 3 w).toNat ≤ 20 := by have := b1.2.2.2.2.1; omega
        rw [r1, r2, r3, c2, c3, if_neg z, if_neg z, if_neg z, if_neg z, if_neg z, mLN w ww m20]
        refine ⟨⟨b1.1, b1.2.1, b1.2.2.1, b1.2.2.2.1, b1.2.2.2.2.1, b1.2.2.2.2.2.1, isN _ _ b1.2.2.2.2.2.2.1, fun x hx => ?_⟩, b2, b3, ?_, ?_⟩
        · rcases b1.2.2.2.2.2.2.2 x hx with y | y | y | ⟨v, y1, y2⟩
          · exact Or.inl y
          · exact Or.inr (Or.inl y)
          · exact Or.inr (Or.inr (Or.inl y))
          · exact Or.inr (Or.inr (Or.inr ⟨v, y1, by rw [r1, if_neg (by omega)]; exact y2⟩))
        · unfold TH at b4 ⊢
          rw [c0 (9 + 4 * w) (by omega) (by omega) (by omega) (by omega) (by omega), c0 (9 + 4 * w + 1) (by omega) (by omega) (by omega) (by omega) (by omega)]
          exact b4
        · unfold TH at b5 ⊢
          rw [c0 (7 + 4 * w) (by omega) (by omega) (by omega) (by omega) (by omega), c0 (7 + 4 * w + 1) (by omega) (by omega) (by omega) (by omega) (by omega)]
          exact b5
    · rw [V0] at hv hw
      rw [Vc 1 (by omega), r1, r1] at hvw
      have fresh : ∀ w : Nat, w < W → ν 1 w ≠ c := fun w hw q => by
        have := wb_of (μ := μ) (ν := VW ν) ⟨a1, a2, a3, a4, a5, a6, a7⟩ (w := w) (by rw [v0]; omega)
        rw [VW_wb, v1, q, hb] at this
        omega
      by_cases p : v = W
      · by_cases q : w = W
        · omega
        · rw [if_pos p, if_neg q] at hvw
          exact absurd hvw.symm (fresh w (by omega))
      · by_cases q : w = W
        · rw [if_neg p, if_pos q] at hvw
          exact absurd hvw (fresh v (by omega))
        · rw [if_neg p, if_neg q] at hvw
          exact a6 v w (by rw [v0]; omega) (by rw [v0]; omega) (by rw [v1]; exact hvw)
    · rw [c4, VW_wb, wbN]
      have := a7 k hk
      rw [VW_wb] at this
      by_cases z : k = c.toNat
      · rw [if_pos z, if_pos (by omega)]
      · rw [if_neg z, if_neg (by omega)]
        exact this
  · intro x x1 x2
    rw [zo 34 (by omega)] at x2
    have q := new x x1 x2
    unfold okS TH at q ⊢
    rw [sLN, r0 6 (by omega) (by omega) (by omega) (by omega) (by omega), r0 7 (by omega) (by omega) (by omega) (by omega) (by omega), c0 (31 + 5 * x) (by omega) (by omega) (by omega) (by omega) (by omega), c0 (32 + 5 * x) (by omega) (by omega) (by omega) (by omega) (by omega), c0 (32 + 5 * x + 1) (by omega) (by omega) (by omega) (by omega) (by omega), c0 (34 + 5 * x) (by omega) (by omega) (by omega) (by omega) (by omega), c0 (34 + 5 * x + 1) (by omega) (by omega) (by omega) (by omega) (by omega)]
    obtain ⟨⟨q1, q2, q3, q4⟩, ⟨p1, p2, p3, p4⟩, rest⟩ := q
    exact ⟨⟨q1, q2, q3, isN _ _ q4⟩, ⟨p1, p2, p3, isN _ _ p4⟩, rest⟩
