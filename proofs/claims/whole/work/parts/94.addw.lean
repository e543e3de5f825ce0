/-! a WORD is added -/
theorem lnC_f {w : Nat} (h : w < 4) : lnC (7 + 4 * w + 1) = 3 ∧ lnC (9 + 4 * w + 1) = 20 := by
  rcases (show w = 0 ∨ w = 1 ∨ w = 2 ∨ w = 3 by omega) with rfl | rfl | rfl | rfl <;> exact ⟨rfl, rfl⟩
theorem s_addW {μ : Mem} {W : Nat} {c n : Int} {l : List Int} (hW : W < 4) (h5 : μ 1 5 = (W : Int)) (hc : 0 ≤ c ∧ c ≤ 3) (hn : n = 1 ∨ n = 2) (hT : TH μ 153 l) (hl : l.length ≤ 20) (hB : BY l) : ∃ μ', f_X9_add [vR 9 1, vI c, vI n, vR 8 153] μ = some (none, μ') ∧ (∀ x, x ≠ 1 → x ≠ 2 → x ≠ 3 → x ≠ 4 → ¬ (7 + 4 * W ≤ x ∧ x ≤ 10 + 4 * W) → μ' x = μ x) ∧ (∀ k, μ' 1 k = if k = 5 then ((W + 1 : Nat) : Int) else μ 1 k) ∧ (∀ j, μ' 2 j = if j = W then c else μ 2 j) ∧ (∀ j, μ' 3 j = if j = W then n else μ 3 j) ∧ (∀ j, μ' 4 j = if j = c.toNat then (W : Int) else μ 4 j) ∧ TH μ' (9 + 4 * W) l ∧ TH μ' (7 + 4 * W) (if n = 1 then [c, 23] else [c, 23, 24]) := by
  obtain ⟨ln3, ln20⟩ := lnC_f hW
  have u1 : ∀ (m : Mem) (x i : Nat) (v : Int), x ≠ 1 → up m x i v 1 5 = m 1 5 := fun m x i v hx => by rw [up_cell (by omega)]
  obtain ⟨A, hA⟩ : ∃ A, A = up (up (up μ 2 W c) 3 W n) 4 c.toNat (W : Int) := ⟨_, rfl⟩
  have A5 : A 1 5 = (W : Int) := by rw [hA, up_cell (by omega), up_cell (by omega), up_cell (by omega)]; exact h5
  have Ao : ∀ x, x ≠ 2 → x ≠ 3 → x ≠ 4 → A x = μ x := fun x p q r => by rw [hA, up_cell r, up_cell q, up_cell p]
  have TA : TH A 153 l := hT.kept (S := fun x => x < 5) (fun x hx => Ao x (by omega) (by omega) (by omega)) (by omega) (by omega)
  obtain ⟨B, b1, b2, b3⟩ := s_copy (t := 9 + 4 * W) TA hB (by unfold tS; omega) (by unfold tS; omega) (by rw [ln20]; exact hl)
  have B5 : B 1 5 = (W : Int) := by rw [b3 1 (by unfold tS; omega)]; exact A5
  have T0 : TH (up B (7 + 4 * W) 1 0) (7 + 4 * W) [] := ⟨by rw [up_same]; rfl, by rw [ln3]; exact Nat.zero_le _, fun i x hx => by cases hx⟩
  obtain ⟨C, c1, c2, c3⟩ := s_add (x := c) T0 (by rw [ln3]; decide) (by omega)
  obtain ⟨D, d1, d2, d3⟩ := s_add (x := 23) c2 (by rw [ln3]; show 1 < 3; omega) (by omega)
  have C5 : C 1 5 = (W : Int) := by rw [c3 1 (by unfold tS; omega), up_cell (by omega)]; exact B5
  have D5 : D 1 5 = (W : Int) := by rw [d3 1 (by unfold tS; omega)]; exact C5
  have start : f_X9_add [vR 9 1, vI c, vI n, vR 8 153] μ = e_X9_add_88 (some (vI c)) n (some (vR 8 153)) (7 + 4 * W) 0 C := by
    rw [q_X9_add, h5, if_pos (by omega), if_neg (by omega), if_pos (by omega), gk (lnC 2) 4 rfl (by omega) (by omega), u1 _ 2 _ _ (by omega), h5, gk (lnC 3) 4 rfl (by omega) (by omega), u1 _ 3 _ _ (by omega), u1 _ 2 _ _ (by omega), h5, gk (lnC 4) 4 rfl (by omega) (by omega), show ((W : Int)).toNat = W by omega, ← hA, A5, gk (lnC 6) 4 rfl (by omega) (by omega), show ((W : Int)).toNat = W by omega, b1, cV_t, B5, gk (lnC 5) 4 rfl (by omega) (by omega), show ((W : Int)).toNat = W by omega, c1, cI_t]
  have fin : ∀ (E : Mem) (L : List Int), (∀ x, ¬ tS (7 + 4 * W) x → E x = B x) → TH E (7 + 4 * W) L → (∀ x, x ≠ 1 → x ≠ 2 → x ≠ 3 → x ≠ 4 → ¬ (7 + 4 * W ≤ x ∧ x ≤ 10 + 4 * W) → up E 1 5 ((W + 1 : Nat) : Int) x = μ x) ∧ (∀ k, up E 1 5 ((W + 1 : Nat) : Int) 1 k = if k = 5 then ((W + 1 : Nat) : Int) else μ 1 k) ∧ (∀ j, up E 1 5 ((W + 1 : Nat) : Int) 2 j = if j = W then c else μ 2 j) ∧ (∀ j, up E 1 5 ((W + 1 : Nat) : Int) 3 j = if j = W then n else μ 3 j) ∧ (∀ j, up E 1 5 ((W + 1 : Nat) : Int) 4 j = if j = c.toNat then (W : Int) else μ 4 j) ∧ TH (up E 1 5 ((W + 1 : Nat) : Int)) (9 + 4 * W) l ∧ TH (up E 1 5 ((W + 1 : Nat) : Int)) (7 + 4 * W) L := fun E L hE hL => by
    refine ⟨fun x p1 p2 p3 p4 p5 => ?_, fun k => ?_, fun j => ?_, fun j => ?_, fun j => ?_, ?_, ?_⟩
    · rw [up_cell p1, hE x (by unfold tS; omega), b3 x (by unfold tS; omega), Ao x p2 p3 p4]
    · rw [up_if, hE 1 (by unfold tS; omega), b3 1 (by unfold tS; omega), Ao 1 (by omega) (by omega) (by omega)]
    · rw [up_cell (by omega), hE 2 (by unfold tS; omega), b3 2 (by unfold tS; omega), hA, up_cell (by omega), up_cell (by omega), up_if]
    · rw [up_cell (by omega), hE 3 (by unfold tS; omega), b3 3 (by unfold tS; omega), hA, up_cell (by omega), up_if, up_cell (by omega)]
    · rw [up_cell (by omega), hE 4 (by unfold tS; omega), b3 4 (by unfold tS; omega), hA, up_if, up_cell (by omega), up_cell (by omega)]
    · refine b2.kept (S := fun x => x = 1 ∨ tS (7 + 4 * W) x) (fun x hx => ?_) (by unfold tS; omega) (by unfold tS; omega)
      rw [up_cell (fun z => hx (Or.inl z)), hE x (fun z => hx (Or.inr z))]
    · exact hL.kept (S := fun x => x = 1) (fun x hx => up_cell hx) (by omega) (by omega)
  have CB : ∀ x, ¬ tS (7 + 4 * W) x → C x = B x := fun x hx => by rw [c3 x hx, up_cell (fun z => hx (Or.inl z))]
  have DB : ∀ x, ¬ tS (7 + 4 * W) x → D x = B x := fun x hx => by rw [d3 x hx, CB x hx]
  rcases hn with rfl | rfl
  · have e1 : e_X9_add_88 (some (vI c)) 1 (some (vR 8 153)) (7 + 4 * W) 0 C = some (none, up D 1 5 ((W + 1 : Nat) : Int)) := by
      rw [q_X9_add_88, if_pos (by decide), if_pos (by decide), show wr (23 + 0) = 23 by decide, d1, cI_t, show wr (0 + 1) = 1 by decide, q_X9_add_88, if_neg (by decide), D5, wr_eq (by omega) (by omega), show (W : Int) + 1 = ((W + 1 : Nat) : Int) by omega]
    obtain ⟨f1, f2, f3, f4, f5, f6, f7⟩ := fin D [c, 23] DB d2
    exact ⟨_, start.trans e1, f1, f2, f3, f4, f5, f6, f7⟩
  · obtain ⟨E, e1, e2, e3⟩ := s_add (x := 24) d2 (by rw [ln3]; show 2 < 3; omega) (by omega)
    have E5 : E 1 5 = (W : Int) := by rw [e3 1 (by unfold tS; omega)]; exact D5
    have e4 : e_X9_add_88 (some (vI c)) 2 (some (vR 8 153)) (7 + 4 * W) 0 C = some (none, up E 1 5 ((W + 1 : Nat) : Int)) := by
      rw [q_X9_add_88, if_pos (by decide), if_pos (by decide), show wr (23 + 0) = 23 by decide, d1, cI_t, show wr (0 + 1) = 1 by decide, q_X9_add_88, if_pos (by decide), if_pos (by decide), show wr (23 + 1) = 24 by decide, e1, cI_t, show wr (1 + 1) = 2 by decide, q_X9_add_88, if_neg (by decide), E5, wr_eq (by omega) (by omega), show (W : Int) + 1 = ((W + 1 : Nat) : Int) by omega]
    obtain ⟨f1, f2, f3, f4, f5, f6, f7⟩ := fin E [c, 23, 24] (fun x hx => by rw [e3 x hx, DB x hx]) e2
    exact ⟨_, start.trans e4, f1, f2, f3, f4, f5, f6, f7⟩
/-- the reference adds a WORD -/
theorem r_addW {ν : Mem} {W : Nat} {c n : Int} {l : List Int} {o1 : Option AV} (hW : W < 4) (h23 : ν 0 23 = (W : Int)) (h30 : ν 0 30 = 0) (hl : l.length ≤ 20) (h33 : ν 0 33 = (l.length : Int)) (hR : RHL ν 19 l) : ∃ ν', e_X12_readWord_175 o1 c n ν = some (none, ν') ∧ (∀ x, x ≠ 0 → x ≠ 1 → x ≠ 2 → x ≠ 3 → x ≠ 4 → ν' x = ν x) ∧ (∀ k, ν' 0 k = if k = 23 then ((W + 1 : Nat) : Int) else ν 0 k) ∧ (∀ j, ν' 1 j = if j = W then c else ν 1 j) ∧ (∀ j, ν' 2 j = if j = W then n else ν 2 j) ∧ (∀ j, ν' 3 j = if j = W then (l.length : Int) else ν 3 j) ∧ mL ν' W = l ∧ (∀ k, ¬ (20 * W ≤ k ∧ k < 20 * W + 20) → ν' 4 k = ν 4 k) := by
  obtain ⟨A, hA⟩ : ∃ A, A = up (up ν 1 W c) 2 W n := ⟨_, rfl⟩
  have A0 : ∀ k, A 0 k = ν 0 k := fun k => by rw [hA, up_cell (by omega), up_cell (by omega)]
  obtain ⟨ν', a1, a2, a3, a4⟩ := r_keepsM12 hW rfl hl l.length 0 (up A 3 W (l.length : Int)) (by omega) (by rw [up_cell (by omega), A0]; exact h33) (hR.kept (by rw [up_cell (by omega), hA, up_cell (by omega), up_cell (by omega)])) (fun q hq => by omega)
  have a1' : e_X12_keepsMeaning_12 W 0 (up A 3 W (l.length : Int)) = _ := a1
  have n23 : ν' 0 23 = (W : Int) := by rw [a2 0 (by omega), up_cell (by omega), A0]; exact h23
  have e3 : ∀ j, up ν' 0 23 ((W + 1 : Nat) : Int) 3 j = if j = W then (l.length : Int) else ν 3 j := fun j => by
    rw [up_cell (by omega), a2 3 (by omega), up_if, hA, up_cell (by omega), up_cell (by omega)]
  refine ⟨up ν' 0 23 ((W + 1 : Nat) : Int), ?_, fun x p0 p1 p2 p3 p4 => ?_, fun k => ?_, fun j => ?_, fun j => ?_, e3, ?_, fun k hk => ?_⟩
  · rw [q_X12_readWord_175, h30, if_pos rfl, h23, gk (lnR 1) 4 rfl (by omega) (by omega), up_cell (c := 1) (c' := 0) (by omega), h23, gk (lnR 2) 4 rfl (by omega) (by omega), show ((W : Int)).toNat = W by omega, ← hA, A0, h23, q_X12_keepsMeaning, gk (lnR 3) 4 rfl (by omega) (by omega), A0, h33, show ((W : Int)).toNat = W by omega, a1', cV_t, n23, wr_eq (by omega) (by omega), show (W : Int) + 1 = ((W + 1 : Nat) : Int) by omega]
  · rw [up_cell p0, a2 x p4, up_cell p3, hA, up_cell p2, up_cell p1]
  · rw [up_if, a2 0 (by omega), up_cell (by omega), A0]
  · rw [up_cell (by omega), a2 1 (by omega), up_cell (by omega), hA, up_cell (by omega), up_if]
  · rw [up_cell (by omega), a2 2 (by omega), up_cell (by omega), hA, up_if, up_cell (by omega)]
  · unfold mL
    rw [e3, if_pos rfl, show ((l.length : Int)).toNat = l.length by omega]
    refine List.ext_getElem? (fun q => ?_)
    by_cases z : q < l.length
    · rw [sg_get z, List.getElem?_eq_getElem z, up_cell (by omega), a3 q z _ (List.getElem?_eq_getElem z)]
    · rw [List.getElem?_eq_none (by rw [sg_len]; omega), List.getElem?_eq_none (by omega)]
  · rw [up_cell (by omega), a4 k hk, up_cell (by omega), hA, up_cell (by omega), up_cell (by omega)]
