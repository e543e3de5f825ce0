/-! THE REFERENCE: a STEP -/
def FrG (c0 k0 : Nat) (ν ν' : Mem) : Prop := (∀ c, c ≠ c0 → c ≠ 0 → ν' c = ν c) ∧ ∀ k, k ≠ k0 → ν' 0 k = ν 0 k
theorem frG_rf {c0 k0 : Nat} {ν : Mem} : FrG c0 k0 ν ν := ⟨fun _ _ _ => rfl, fun _ _ => rfl⟩
theorem frG_trans {c0 k0 : Nat} {ν ν1 ν2 : Mem} (h : FrG c0 k0 ν ν1) (h2 : FrG c0 k0 ν1 ν2) : FrG c0 k0 ν ν2 := ⟨fun c h3 h4 => (h2.1 c h3 h4).trans (h.1 c h3 h4), fun k hk => (h2.2 k hk).trans (h.2 k hk)⟩
theorem frG_up {c0 k0 i : Nat} {v : Int} {ν : Mem} (h : c0 ≠ 0) : FrG c0 k0 ν (up ν c0 i v) := ⟨fun _ h1 _ => up_cell h1, fun _ _ => by rw [up_cell (Ne.symm h)]⟩
theorem frG_up0 {c0 k0 : Nat} {v : Int} {ν : Mem} : FrG c0 k0 ν (up ν 0 k0 v) := ⟨fun _ _ h => up_cell h, fun _ h => up_slot h⟩
theorem RT.keptG {c0 k0 : Nat} {ν ν' : Mem} {c k : Nat} {l : List Int} (h : RT ν c k l) (hf : FrG c0 k0 ν ν') (hc : c ≠ c0) (hc0 : c ≠ 0) (hk : k ≠ k0) : RT ν' c k l := ⟨h.1.kept (hf.1 c hc hc0), by rw [hf.2 k hk]; exact h.2⟩
theorem frG_M {c0 k0 : Nat} {ν ν' : Mem} (h : FrG c0 k0 ν ν') (hc : 17 ≤ c0) (hk : 24 ≤ k0) : FrM ν ν' := ⟨fun c _ _ => h.1 c (by omega) (by omega), h.2 0 (by omega), h.2 5 (by omega), h.2 23 (by omega)⟩
theorem up_self {ν : Mem} {c i : Nat} : up ν c i (ν c i) = ν := by
  funext c' i'
  unfold up
  split
  · rename_i h
    rw [h.1, h.2]
  · rfl
/-- a row is filled with a list up to a place -/
def FL (ν : Mem) (c : Nat) (l : List Int) (i : Nat) : Prop := ∀ j, j < i → ∀ x, l[j]? = some x → ν c j = x
theorem FL.up {ν : Mem} {c : Nat} {l : List Int} {i : Nat} {x : Int} (h : FL ν c l i) (hx : l[i]? = some x) : FL (up ν c i x) c l (i + 1) := by
  intro j hj y hy
  by_cases e : j = i
  · subst e
    rw [hx] at hy
    rw [up_same]
    exact Option.some.inj hy
  · rw [up_slot e]
    exact h j (by omega) y hy
theorem FL.rt {ν : Mem} {c : Nat} {l : List Int} (h : FL ν c l l.length) (hl : l.length ≤ lnR c) : RHL ν c l := ⟨hl, fun i x hx => h i (by
  rcases Nat.lt_or_ge i l.length with q | q
  · exact q
  · rw [List.getElem?_eq_none q] at hx; cases hx) x hx⟩
theorem s_cs1 {e k n : Nat} {l : List Int} (he : e < 24) (hk : k ≤ 1) (hn : n ≤ 20) (hl : l.length = n) : ∀ (j i : Nat) (o6 : Option AV) (ν : Mem), i + j = n → l = sg ν 5 (40 * e + 20 * k) n → FL ν 24 l i → ∃ ν', e_X12_copiesSide_15 e k 1 n i o6 ν = some (none, ν') ∧ FrG 24 42 ν ν' ∧ RT ν' 24 42 l
  | 0, i, o6, ν, hj, hs, hF => by
    obtain rfl : i = n := by omega
    rw [q_X12_copiesSide_15, if_neg (by omega), if_neg ten, if_neg ten, up_self]
    refine ⟨_, rfl, frG_up0, ?_, by rw [up_same, hl]⟩
    subst hl
    exact (FL.rt hF hn).kept (up_cell (by decide))
  | j + 1, i, o6, ν, hj, hs, hF => by
    have hx : l[i]? = some (ν 5 (40 * e + 20 * k + i)) := by rw [hs]; exact sg_get (by omega)
    rw [q_X12_copiesSide_15, if_pos (by omega), wr_eq (x := 40 * (e : Int)) (by omega) (by omega), wr_eq (x := 20 * (k : Int)) (by omega) (by omega), wr_eq (x := 40 * (e : Int) + 20 * (k : Int)) (by omega) (by omega), wr_eq (x := 40 * (e : Int) + 20 * (k : Int) + (i : Int)) (by omega) (by omega), gk (lnR 5) 960 rfl (by omega) (by omega), if_neg ten, gk (lnR 24) 20 rfl (by omega) (by omega), show (40 * (e : Int) + 20 * (k : Int) + (i : Int)).toNat = 40 * e + 20 * k + i by omega, show ((i : Int)).toNat = i by omega, wr_eq (x := (i : Int) + 1) (by omega) (by omega), show (i : Int) + 1 = ((i + 1 : Nat) : Int) by omega]
    obtain ⟨ν', r1, r2, r3⟩ := s_cs1 he hk hn hl j (i + 1) (some (vI (ν 5 (40 * e + 20 * k + i)))) (up ν 24 i (ν 5 (40 * e + 20 * k + i))) (by omega) (by rw [sg_congr (up_cell (by decide))]; exact hs) (hF.up hx)
    exact ⟨ν', r1, frG_trans (frG_up (by decide)) r2, r3⟩
theorem s_copiesSide1 {ν : Mem} {e k : Nat} (he : e < 24) (hk : k ≤ 1) (hn : 0 ≤ ν 6 (2 * e + k) ∧ ν 6 (2 * e + k) ≤ 20) : ∃ ν', f_X12_copiesSide [vR 12 0, vI e, vI k, vI 1] ν = some (none, ν') ∧ FrG 24 42 ν ν' ∧ RT ν' 24 42 (sL ν e k) := by
  rw [q_X12_copiesSide, wr_eq (x := 2 * (e : Int)) (by omega) (by omega), wr_eq (x := 2 * (e : Int) + (k : Int)) (by omega) (by omega), gk (lnR 6) 48 rfl (by omega) (by omega), show (2 * (e : Int) + (k : Int)).toNat = 2 * e + k by omega]
  have h := s_cs1 (e := e) (k := k) (n := (ν 6 (2 * e + k)).toNat) (l := sL ν e k) he hk (by omega) (by unfold sL; rw [sg_len]) (ν 6 (2 * e + k)).toNat 0 none ν (by omega) rfl (fun j hj => by omega)
  rw [show (((ν 6 (2 * e + k)).toNat : Nat) : Int) = ν 6 (2 * e + k) by omega] at h
  exact h
theorem s_cm1 {w n : Nat} {l : List Int} (hw : w < 4) (hn : n ≤ 20) (hl : l.length = n) : ∀ (j i : Nat) (ν : Mem), i + j = n → ν 3 w = (n : Int) → l = sg ν 4 (20 * w) n → FL ν 24 l i → ∃ ν', e_X12_copiesMeaning_2 w 1 i ν = some (none, ν') ∧ FrG 24 42 ν ν' ∧ RT ν' 24 42 l
  | 0, i, ν, hj, h3, hs, hF => by
    obtain rfl : i = n := by omega
    rw [q_X12_copiesMeaning_2, gk (lnR 3) 4 rfl (by omega) (by omega), show ((w : Int)).toNat = w by omega, h3, if_neg (by omega), if_neg ten, gk (lnR 3) 4 rfl (by omega) (by omega), if_neg ten, up_self]
    refine ⟨_, rfl, frG_up0, ?_, by rw [up_same, hl]⟩
    subst hl
    exact (FL.rt hF hn).kept (up_cell (by decide))
  | j + 1, i, ν, hj, h3, hs, hF => by
    have hx : l[i]? = some (ν 4 (20 * w + i)) := by rw [hs]; exact sg_get (by omega)
    rw [q_X12_copiesMeaning_2, gk (lnR 3) 4 rfl (by omega) (by omega), show ((w : Int)).toNat = w by omega, h3, if_pos (by omega), if_neg ten, wr_eq (x := 20 * (w : Int)) (by omega) (by omega), wr_eq (x := 20 * (w : Int) + (i : Int)) (by omega) (by omega), gk (lnR 4) 80 rfl (by omega) (by omega), gk (lnR 24) 20 rfl (by omega) (by omega), show (20 * (w : Int) + (i : Int)).toNat = 20 * w + i by omega, show ((i : Int)).toNat = i by omega, wr_eq (x := (i : Int) + 1) (by omega) (by omega), show (i : Int) + 1 = ((i + 1 : Nat) : Int) by omega]
    obtain ⟨ν', r1, r2, r3⟩ := s_cm1 hw hn hl j (i + 1) (up ν 24 i (ν 4 (20 * w + i))) (by omega) (by rw [up_cell (by decide)]; exact h3) (by rw [sg_congr (up_cell (by decide))]; exact hs) (hF.up hx)
    exact ⟨ν', r1, frG_trans (frG_up (by decide)) r2, r3⟩
theorem s_copiesMeaning1 {ν : Mem} {w : Nat} (hw : w < 4) (hn : 0 ≤ ν 3 w ∧ ν 3 w ≤ 20) : ∃ ν', f_X12_copiesMeaning [vR 12 0, vI w, vI 1] ν = some (none, ν') ∧ FrG 24 42 ν ν' ∧ RT ν' 24 42 (mL ν w) := by
  rw [q_X12_copiesMeaning]
  exact s_cm1 (w := w) (n := (ν 3 w).toNat) (l := mL ν w) hw (by omega) (by unfold mL; rw [sg_len]) (ν 3 w).toNat 0 ν (by omega) (by omega) rfl (fun j hj => by omega)
theorem s_cw1 {w n : Nat} {l : List Int} (hw : w < 4) (hn : n ≤ 2) (hl : l.length = n + 1) : ∀ (j i : Nat) (o4 : Option AV) (ν : Mem), i + j = n + 1 → ν 2 w = (n : Int) → (l[0]? = some (ν 1 w)) → (∀ i, 1 ≤ i → i ≤ n → l[i]? = some (22 + (i : Int))) → FL ν 24 l i → ∃ ν', e_X12_copiesWord_2 w 1 i o4 ν = some (none, ν') ∧ FrG 24 42 ν ν' ∧ RT ν' 24 42 l
  | 0, i, o4, ν, hj, h3, h0, h1, hF => by
    obtain rfl : i = n + 1 := by omega
    rw [q_X12_copiesWord_2, gk (lnR 2) 4 rfl (by omega) (by omega), show ((w : Int)).toNat = w by omega, h3, if_neg (by omega), if_neg ten, gk (lnR 2) 4 rfl (by omega) (by omega), if_neg ten, up_self]
    refine ⟨_, rfl, frG_up0, ?_, by rw [up_same, wr_eq (by omega) (by omega), hl]; omega⟩
    rw [← hl] at hF
    exact (FL.rt hF (by rw [hl]; exact Nat.le_trans (Nat.succ_le_succ hn) (show 3 ≤ 20 by decide))).kept (up_cell (by decide))
  | j + 1, i, o4, ν, hj, h3, h0, h1, hF => by
    rw [q_X12_copiesWord_2, gk (lnR 2) 4 rfl (by omega) (by omega), show ((w : Int)).toNat = w by omega, h3, if_pos (by omega)]
    by_cases hi : i = 0
    · subst hi
      rw [if_pos (show ((0 : Nat) : Int) = 0 by rfl), gk (lnR 1) 4 rfl (by omega) (by omega), if_neg ten, gk (lnR 24) 20 rfl (by omega) (by omega), show ((0 : Nat) : Int).toNat = 0 by rfl, wr_eq (x := ((0 : Nat) : Int) + 1) (by omega) (by omega), show ((0 : Nat) : Int) + 1 = ((0 + 1 : Nat) : Int) by omega]
      obtain ⟨ν', r1, r2, r3⟩ := s_cw1 hw hn hl j 1 (some (vI (ν 1 w))) (up ν 24 0 (ν 1 w)) (by omega) (by rw [up_cell (by decide)]; exact h3) (by rw [up_cell (by decide)]; exact h0) h1 (hF.up h0)
      exact ⟨ν', r1, frG_trans (frG_up (by decide)) r2, r3⟩
    · rw [if_neg (by omega), if_neg ten, gk (lnR 24) 20 rfl (by omega) (by omega), show ((i : Int)).toNat = i by omega, wr_eq (x := (i : Int) + 1) (by omega) (by omega), wr_eq (x := 23 + (i : Int)) (by omega) (by omega), wr_eq (x := 23 + (i : Int) - 1) (by omega) (by omega), show (i : Int) + 1 = ((i + 1 : Nat) : Int) by omega, show 23 + (i : Int) - 1 = 22 + (i : Int) by omega]
      obtain ⟨ν', r1, r2, r3⟩ := s_cw1 hw hn hl j (i + 1) (some (vI (22 + (i : Int)))) (up ν 24 i (22 + (i : Int))) (by omega) (by rw [up_cell (by decide)]; exact h3) (by rw [up_cell (by decide)]; exact h0) h1 (hF.up (h1 i (by omega) (by omega)))
      exact ⟨ν', r1, frG_trans (frG_up (by decide)) r2, r3⟩
theorem s_copiesWord1 {ν : Mem} {w : Nat} (hw : w < 4) (hn : ν 2 w = 1 ∨ ν 2 w = 2) : ∃ ν', f_X12_copiesWord [vR 12 0, vI w, vI 1] ν = some (none, ν') ∧ FrG 24 42 ν ν' ∧ RT ν' 24 42 (fcL ν w) := by
  rw [q_X12_copiesWord]
  refine s_cw1 (w := w) (n := (ν 2 w).toNat) (l := fcL ν w) hw (by omega) ?_ ((ν 2 w).toNat + 1) 0 none ν (by omega) (by omega) ?_ ?_ (fun j hj => by omega)
  · unfold fcL
    rcases hn with h | h
    · rw [h]; rfl
    · rw [h]; rfl
  · unfold fcL
    split <;> rfl
  · intro i h1 h2
    unfold fcL
    rcases hn with h | h
    · rw [h] at h2 ⊢
      obtain rfl : i = 1 := by have : (1 : Int).toNat = 1 := rfl; omega
      rfl
    · rw [h] at h2 ⊢
      have : (2 : Int).toNat = 2 := rfl
      obtain rfl | rfl : i = 1 ∨ i = 2 := by omega
      · rfl
      · rfl
theorem s_cs0 {e k n : Nat} {l : List Int} (he : e < 24) (hk : k ≤ 1) (hn : n ≤ 20) (hl : l.length = n) : ∀ (j i : Nat) (o6 : Option AV) (ν : Mem), i + j = n → l = sg ν 5 (40 * e + 20 * k) n → FL ν 25 l i → ∃ ν', e_X12_copiesSide_15 e k 0 n i o6 ν = some (none, ν') ∧ FrG 25 44 ν ν' ∧ RT ν' 25 44 l
  | 0, i, o6, ν, hj, hs, hF => by
    obtain rfl : i = n := by omega
    rw [q_X12_copiesSide_15, if_neg (by omega), if_pos rfl, if_pos rfl, up_self]
    refine ⟨_, rfl, frG_up0, ?_, by rw [up_same, hl]⟩
    subst hl
    exact (FL.rt hF hn).kept (up_cell (by decide))
  | j + 1, i, o6, ν, hj, hs, hF => by
    have hx : l[i]? = some (ν 5 (40 * e + 20 * k + i)) := by rw [hs]; exact sg_get (by omega)
    rw [q_X12_copiesSide_15, if_pos (by omega), wr_eq (x := 40 * (e : Int)) (by omega) (by omega), wr_eq (x := 20 * (k : Int)) (by omega) (by omega), wr_eq (x := 40 * (e : Int) + 20 * (k : Int)) (by omega) (by omega), wr_eq (x := 40 * (e : Int) + 20 * (k : Int) + (i : Int)) (by omega) (by omega), gk (lnR 5) 960 rfl (by omega) (by omega), if_pos rfl, gk (lnR 25) 20 rfl (by omega) (by omega), show (40 * (e : Int) + 20 * (k : Int) + (i : Int)).toNat = 40 * e + 20 * k + i by omega, show ((i : Int)).toNat = i by omega, wr_eq (x := (i : Int) + 1) (by omega) (by omega), show (i : Int) + 1 = ((i + 1 : Nat) : Int) by omega]
    obtain ⟨ν', r1, r2, r3⟩ := s_cs0 he hk hn hl j (i + 1) (some (vI (ν 5 (40 * e + 20 * k + i)))) (up ν 25 i (ν 5 (40 * e + 20 * k + i))) (by omega) (by rw [sg_congr (up_cell (by decide))]; exact hs) (hF.up hx)
    exact ⟨ν', r1, frG_trans (frG_up (by decide)) r2, r3⟩
theorem s_copiesSide0 {ν : Mem} {e k : Nat} (he : e < 24) (hk : k ≤ 1) (hn : 0 ≤ ν 6 (2 * e + k) ∧ ν 6 (2 * e + k) ≤ 20) : ∃ ν', f_X12_copiesSide [vR 12 0, vI e, vI k, vI 0] ν = some (none, ν') ∧ FrG 25 44 ν ν' ∧ RT ν' 25 44 (sL ν e k) := by
  rw [q_X12_copiesSide, wr_eq (x := 2 * (e : Int)) (by omega) (by omega), wr_eq (x := 2 * (e : Int) + (k : Int)) (by omega) (by omega), gk (lnR 6) 48 rfl (by omega) (by omega), show (2 * (e : Int) + (k : Int)).toNat = 2 * e + k by omega]
  have h := s_cs0 (e := e) (k := k) (n := (ν 6 (2 * e + k)).toNat) (l := sL ν e k) he hk (by omega) (by unfold sL; rw [sg_len]) (ν 6 (2 * e + k)).toNat 0 none ν (by omega) rfl (fun j hj => by omega)
  rw [show (((ν 6 (2 * e + k)).toNat : Nat) : Int) = ν 6 (2 * e + k) by omega] at h
  exact h
theorem s_cm0 {w n : Nat} {l : List Int} (hw : w < 4) (hn : n ≤ 20) (hl : l.length = n) : ∀ (j i : Nat) (ν : Mem), i + j = n → ν 3 w = (n : Int) → l = sg ν 4 (20 * w) n → FL ν 25 l i → ∃ ν', e_X12_copiesMeaning_2 w 0 i ν = some (none, ν') ∧ FrG 25 44 ν ν' ∧ RT ν' 25 44 l
  | 0, i, ν, hj, h3, hs, hF => by
    obtain rfl : i = n := by omega
    rw [q_X12_copiesMeaning_2, gk (lnR 3) 4 rfl (by omega) (by omega), show ((w : Int)).toNat = w by omega, h3, if_neg (by omega), if_pos rfl, if_pos rfl, gk (lnR 3) 4 rfl (by omega) (by omega), up_self]
    refine ⟨_, rfl, frG_up0, ?_, by rw [up_same, h3, hl]⟩
    subst hl
    exact (FL.rt hF hn).kept (up_cell (by decide))
  | j + 1, i, ν, hj, h3, hs, hF => by
    have hx : l[i]? = some (ν 4 (20 * w + i)) := by rw [hs]; exact sg_get (by omega)
    rw [q_X12_copiesMeaning_2, gk (lnR 3) 4 rfl (by omega) (by omega), show ((w : Int)).toNat = w by omega, h3, if_pos (by omega), if_pos rfl, wr_eq (x := 20 * (w : Int)) (by omega) (by omega), wr_eq (x := 20 * (w : Int) + (i : Int)) (by omega) (by omega), gk (lnR 4) 80 rfl (by omega) (by omega), gk (lnR 25) 20 rfl (by omega) (by omega), show (20 * (w : Int) + (i : Int)).toNat = 20 * w + i by omega, show ((i : Int)).toNat = i by omega, wr_eq (x := (i : Int) + 1) (by omega) (by omega), show (i : Int) + 1 = ((i + 1 : Nat) : Int) by omega]
    obtain ⟨ν', r1, r2, r3⟩ := s_cm0 hw hn hl j (i + 1) (up ν 25 i (ν 4 (20 * w + i))) (by omega) (by rw [up_cell (by decide)]; exact h3) (by rw [sg_congr (up_cell (by decide))]; exact hs) (hF.up hx)
    exact ⟨ν', r1, frG_trans (frG_up (by decide)) r2, r3⟩
theorem s_copiesMeaning0 {ν : Mem} {w : Nat} (hw : w < 4) (hn : 0 ≤ ν 3 w ∧ ν 3 w ≤ 20) : ∃ ν', f_X12_copiesMeaning [vR 12 0, vI w, vI 0] ν = some (none, ν') ∧ FrG 25 44 ν ν' ∧ RT ν' 25 44 (mL ν w) := by
  rw [q_X12_copiesMeaning]
  exact s_cm0 (w := w) (n := (ν 3 w).toNat) (l := mL ν w) hw (by omega) (by unfold mL; rw [sg_len]) (ν 3 w).toNat 0 ν (by omega) (by omega) rfl (fun j hj => by omega)
theorem s_cw0 {w n : Nat} {l : List Int} (hw : w < 4) (hn : n ≤ 2) (hl : l.length = n + 1) : ∀ (j i : Nat) (o4 : Option AV) (ν : Mem), i + j = n + 1 → ν 2 w = (n : Int) → (l[0]? = some (ν 1 w)) → (∀ i, 1 ≤ i → i ≤ n → l[i]? = some (22 + (i : Int))) → FL ν 25 l i → ∃ ν', e_X12_copiesWord_2 w 0 i o4 ν = some (none, ν') ∧ FrG 25 44 ν ν' ∧ RT ν' 25 44 l
  | 0, i, o4, ν, hj, h3, h0, h1, hF => by
    obtain rfl : i = n + 1 := by omega
    rw [q_X12_copiesWord_2, gk (lnR 2) 4 rfl (by omega) (by omega), show ((w : Int)).toNat = w by omega, h3, if_neg (by omega), if_pos rfl, if_pos rfl, gk (lnR 2) 4 rfl (by omega) (by omega), up_self]
    refine ⟨_, rfl, frG_up0, ?_, by rw [up_same, h3, wr_eq (by omega) (by omega), hl]; omega⟩
    rw [← hl] at hF
    exact (FL.rt hF (by rw [hl]; exact Nat.le_trans (Nat.succ_le_succ hn) (show 3 ≤ 20 by decide))).kept (up_cell (by decide))
  | j + 1, i, o4, ν, hj, h3, h0, h1, hF => by
    rw [q_X12_copiesWord_2, gk (lnR 2) 4 rfl (by omega) (by omega), show ((w : Int)).toNat = w by omega, h3, if_pos (by omega)]
    by_cases hi : i = 0
    · subst hi
      rw [if_pos (show ((0 : Nat) : Int) = 0 by rfl), gk (lnR 1) 4 rfl (by omega) (by omega), if_pos rfl, gk (lnR 25) 20 rfl (by omega) (by omega), show ((0 : Nat) : Int).toNat = 0 by rfl, wr_eq (x := ((0 : Nat) : Int) + 1) (by omega) (by omega), show ((0 : Nat) : Int) + 1 = ((0 + 1 : Nat) : Int) by omega]
      obtain ⟨ν', r1, r2, r3⟩ := s_cw0 hw hn hl j 1 (some (vI (ν 1 w))) (up ν 25 0 (ν 1 w)) (by omega) (by rw [up_cell (by decide)]; exact h3) (by rw [up_cell (by decide)]; exact h0) h1 (hF.up h0)
      exact ⟨ν', r1, frG_trans (frG_up (by decide)) r2, r3⟩
    · rw [if_neg (by omega), if_pos rfl, gk (lnR 25) 20 rfl (by omega) (by omega), show ((i : Int)).toNat = i by omega, wr_eq (x := (i : Int) + 1) (by omega) (by omega), wr_eq (x := 23 + (i : Int)) (by omega) (by omega), wr_eq (x := 23 + (i : Int) - 1) (by omega) (by omega), show (i : Int) + 1 = ((i + 1 : Nat) : Int) by omega, show 23 + (i : Int) - 1 = 22 + (i : Int) by omega]
      obtain ⟨ν', r1, r2, r3⟩ := s_cw0 hw hn hl j (i + 1) (some (vI (22 + (i : Int)))) (up ν 25 i (22 + (i : Int))) (by omega) (by rw [up_cell (by decide)]; exact h3) (by rw [up_cell (by decide)]; exact h0) h1 (hF.up (h1 i (by omega) (by omega)))
      exact ⟨ν', r1, frG_trans (frG_up (by decide)) r2, r3⟩
theorem s_copiesWord0 {ν : Mem} {w : Nat} (hw : w < 4) (hn : ν 2 w = 1 ∨ ν 2 w = 2) : ∃ ν', f_X12_copiesWord [vR 12 0, vI w, vI 0] ν = some (none, ν') ∧ FrG 25 44 ν ν' ∧ RT ν' 25 44 (fcL ν w) := by
  rw [q_X12_copiesWord]
  refine s_cw0 (w := w) (n := (ν 2 w).toNat) (l := fcL ν w) hw (by omega) ?_ ((ν 2 w).toNat + 1) 0 none ν (by omega) (by omega) ?_ ?_ (fun j hj => by omega)
  · unfold fcL
    rcases hn with h | h
    · rw [h]; rfl
    · rw [h]; rfl
  · unfold fcL
    split <;> rfl
  · intro i h1 h2
    unfold fcL
    rcases hn with h | h
    · rw [h] at h2 ⊢
      obtain rfl : i = 1 := by have : (1 : Int).toNat = 1 := rfl; omega
      rfl
    · rw [h] at h2 ⊢
      have : (2 : Int).toNat = 2 := rfl
      obtain rfl | rfl : i = 1 ∨ i = 2 := by omega
      · rfl
      · rfl
