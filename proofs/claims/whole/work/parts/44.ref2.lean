/-! THE REFERENCE: fits -/
def RCa (ν : Mem) (a : Int → Int) : Prop := ar ν = a ∧ (0 ≤ ν 0 23 ∧ ν 0 23 ≤ 4) ∧ ∀ x, a x = -4 ∨ a x = 0 ∨ a x = 1 ∨ a x = 2
theorem RCa.kept {ν ν' : Mem} {a : Int → Int} (h : RCa ν a) (hf : FrM ν ν') : RCa ν' a := ⟨by rw [frM_ar hf]; exact h.1, by rw [hf.2.2.2]; exact h.2.1, h.2.2⟩
theorem RelW.RCa {μ ν : Mem} (h : RelW μ ν) : RCa ν (ar ν) := ⟨rfl, by have := h.1; have := h.2.1; have := h.2.2.1; omega, ar_vals h⟩
def SGR (ν : Mem) (T : List Int) (σ : Nat → Option (List Int)) : Prop := ∀ k, k < 3 → (σ k = none ∧ ν 22 k = -4) ∨ ∃ a b : Nat, a ≤ b ∧ b ≤ T.length ∧ ν 22 k = (a : Int) ∧ ν 23 k = (b : Int) - (a : Int) ∧ σ k = some ((T.drop a).take (b - a))
theorem RHL.kept {ν ν' : Mem} {c : Nat} {l : List Int} (h : RHL ν c l) (hc : ν' c = ν c) : RHL ν' c l := ⟨h.1, by rw [hc]; exact h.2⟩
/-- only cells from 17 on have changed, and no number of the object -/
theorem frM_of {ν ν' : Mem} (h : ∀ c, c < 17 → ν' c = ν c) : FrM ν ν' := ⟨fun c _ h2 => h c (by omega), by rw [h 0 (by omega)], by rw [h 0 (by omega)], by rw [h 0 (by omega)]⟩
theorem s_fits26R {a : Int → Int} {E : Nat} {T pat : List Int} (hLT : LT pat) (hE : E ≤ T.length) (h20 : T.length ≤ 20) :
    ∀ (ps : List Int) (i p m : Nat) (o1 o5 o6 : Option AV) (ν : Mem) (σ : Nat → Option (List Int)), pat.drop i = ps → i ≤ pat.length → p ≤ E → isT a m ps → isT a m ((T.drop p).take (E - p)) → RCa ν a → RHL ν 20 T → RHL ν 24 pat → ν 0 42 = (pat.length : Int) → SGR ν T σ →
      ∃ ν', e_X12_fits_26 o1 E p i o5 o6 ν = some (some (vI (if (fit a ps ((T.drop p).take (E - p)) σ).isSome then 1 else 0)), ν') ∧ (∀ c, c ≠ 22 → c ≠ 23 → ν' c = ν c) ∧ ∀ σ', fit a ps ((T.drop p).take (E - p)) σ = some σ' → SGR ν' T σ'
  | [], i, p, m, o1, o5, o6, ν, σ, hi, hil, hp, hm, hm2, hR, hT, hP, hPl, hσ => by
    have hm0 : m = 0 := by
      cases m with
      | zero => rfl
      | succ m => cases hm
    subst hm0
    have hs : (T.drop p).take (E - p) = [] := by
      cases hq : (T.drop p).take (E - p) with
      | nil => rfl
      | cons a b => rw [hq] at hm2; cases hm2
    have hpE : p = E := by
      have := seg_len (p := p) hE
      rw [hs] at this
      simp at this
      omega
    have hlen : pat.length ≤ i := by
      have := congrArg List.length hi
      simp at this
      omega
    rw [q_X12_fits_26, hPl, if_neg (by omega), if_pos (by omega), gz_1, hs]
    exact ⟨ν, rfl, fun _ _ _ => rfl, fun σ' h => by cases h; exact hσ⟩
  | x :: ps, i, p, m, o1, o5, o6, ν, σ, hi, hil, hp, hm, hm2, hR, hT, hP, hPl, hσ => by
    cases m with
    | zero => cases hm
    | succ m =>
    obtain ⟨hax, hm3⟩ := hm
    have hilt : i < pat.length := by
      rcases Nat.lt_or_ge i pat.length with q | q
      · exact q
      · rw [List.drop_eq_nil_of_le q] at hi; cases hi
    have hx : pat[i] = x := by
      rw [List.drop_eq_getElem_cons hilt] at hi
      exact (List.cons.inj hi).1
    have hi2 : pat.drop (i + 1) = ps := by
      rw [List.drop_eq_getElem_cons hilt] at hi
      exact (List.cons.inj hi).2
    have hxr := hLT x (by rw [← hx]; exact List.getElem_mem hilt)
    have hpE : p < E := by
      rcases Nat.lt_or_ge p E with q | q
      · exact q
      · rw [show E - p = 0 by omega, List.take_zero] at hm2
        cases hm2
    have hpT : p < T.length := by omega
    have hs : (T.drop p).take (E - p) = T[p] :: (T.drop (p + 1)).take (E - (p + 1)) := by
      rw [List.drop_eq_getElem_cons hpT, show E - p = (E - (p + 1)) + 1 by omega, List.take_succ_cons]
    have hpl : pat.length ≤ 20 := hP.1
    have hPx : ν 24 i = x := by rw [hP.get hilt, hx]
    rw [q_X12_fits_26, hPl, if_pos (by omega), if_pos (by omega), gk (lnR 24) 20 rfl (by omega) (by omega), show ((i : Int)).toNat = i by omega, hPx]
    by_cases h23 : ¬ 23 ≤ x
    · rw [if_pos (show x < 23 by omega), gk (lnR 20) 20 rfl (by omega) (by omega), gk (lnR 24) 20 rfl (by omega) (by omega), show ((p : Int)).toNat = p by omega, hT.get hpT]
      have hfit : fit a (x :: ps) ((T.drop p).take (E - p)) σ = if T[p] = x then fit a ps ((T.drop (p + 1)).take (E - (p + 1))) σ else none := by
        rw [hs]
        show (if 23 ≤ x then _ else if T[p] = x then fit a ps _ σ else none) = _
        rw [if_neg h23]
      rw [hfit]
      by_cases hxe : T[p] = x
      · rw [if_pos hxe, if_pos hxe, wr_eq (by omega) (by omega), wr_eq (by omega) (by omega), show (p : Int) + 1 = ((p + 1 : Nat) : Int) by omega, show (i : Int) + 1 = ((i + 1 : Nat) : Int) by omega]
        rw [hs] at hm2
        have hm4 := hm2.2
        rw [hxe] at hm4
        exact s_fits26R hLT hE h20 ps (i + 1) (p + 1) _ _ _ _ ν σ hi2 (by omega) (by omega) hm3 hm4 hR hT hP hPl hσ
      · rw [if_neg hxe, if_neg hxe, gz_0]
        exact ⟨ν, rfl, fun _ _ _ => rfl, fun σ' h => by cases h⟩
    · replace h23 := Decidable.not_not.mp h23
      have hax0 : a x = 0 := by rw [← hR.1]; exact ar_name h23
      obtain ⟨k, hk⟩ : ∃ k : Nat, x - 23 = (k : Int) := ⟨(x - 23).toNat, by omega⟩
      have hk3 : k < 3 := by omega
      have hend := s_endAtR (ν := ν) hR.2.1 (by rw [hR.1]; exact hR.2.2) hT (by decide) hE (Nat.le_of_lt hpE) (by rw [hR.1]; exact hm2)
      rw [hR.1] at hend
      rw [if_neg (show ¬ x < 23 by omega), gk (lnR 24) 20 rfl (by omega) (by omega), hend, cI_t, wr_eq (x := x - 23) (by omega) (by omega), hk, show ((k : Int)).toNat = k by omega, gk (lnR 22) 3 rfl (by omega) (by omega)]
      rw [hax0] at hm3
      have hm3' : isT a m ps := hm3
      have hsplit := drop_take_split (T := T) hE (Nat.le_of_lt hpE)
      have htl : tl a 1 (T.drop p) = tl a 1 ((T.drop p).take (E - p)) := by
        rw [hsplit, tl_app _ _ 1 m (by rw [Nat.add_comm]; exact hm2), ← hsplit]
      have hsp := isT_split ((T.drop p).take (E - p)) 1 m (by rw [Nat.add_comm]; exact hm2)
      have hle := tl_le (a := a) ((T.drop p).take (E - p)) 1
      rw [seg_len hE] at hle
      have hpos : 1 ≤ tl a 1 (T.drop p) := tl_pos (n := 0) (by rw [List.drop_eq_getElem_cons hpT]; exact fun q => by cases q)
      generalize hn : tl a 1 (T.drop p) = n at *
      have hu : ((T.drop p).take (E - p)).take n = (T.drop p).take n := seg_take (by omega)
      have hd : ((T.drop p).take (E - p)).drop n = (T.drop (p + n)).take (E - (p + n)) := seg_drop
      rw [← htl, hd] at hsp
      have hfit : fit a (x :: ps) ((T.drop p).take (E - p)) σ = (match σ k with
          | none => fit a ps ((T.drop (p + n)).take (E - (p + n))) (bnd σ k ((T.drop p).take n))
          | some u => if u = (T.drop p).take n then fit a ps ((T.drop (p + n)).take (E - (p + n))) σ else none) := by
        rw [← hu, ← hd, htl]
        rw [hs]
        show (if 23 ≤ x then (match σ (x - 23).toNat with
          | none => _
          | some u => _) else _) = _
        rw [if_pos h23, hk]
        rfl
      rw [hfit, wr_eq (x := (p : Int) + (n : Int) - (p : Int)) (by omega) (by omega), wr_eq (x := (i : Int) + 1) (by omega) (by omega), show (p : Int) + (n : Int) - (p : Int) = (n : Int) by omega, show (p : Int) + (n : Int) = ((p + n : Nat) : Int) by omega, show (i : Int) + 1 = ((i + 1 : Nat) : Int) by omega]
      rcases hσ k hk3 with ⟨s1, s2⟩ | ⟨a0, b0, s1, s2, s3, s4, s5⟩
      · rw [s1, s2, if_pos rfl, gk (lnR 22) 3 rfl (by omega) (by omega), gk (lnR 23) 3 rfl (by omega) (by omega)]
        have hf : ∀ c, c ≠ 22 → c ≠ 23 → up (up ν 22 k (p : Int)) 23 k (n : Int) c = ν c := fun c q1 q2 => by rw [up_cell q2, up_cell q1]
        have g1 : up (up ν 22 k (p : Int)) 23 k (n : Int) 22 k = (p : Int) := by rw [up_cell (show 22 ≠ 23 by omega), up_same]
        have g2 : up (up ν 22 k (p : Int)) 23 k (n : Int) 23 k = (n : Int) := up_same _ _ _ _
        have g3 : ∀ j, j ≠ k → up (up ν 22 k (p : Int)) 23 k (n : Int) 22 j = ν 22 j := fun j hj => by rw [up_cell (show 22 ≠ 23 by omega), up_slot hj]
        have g4 : ∀ j, j ≠ k → up (up ν 22 k (p : Int)) 23 k (n : Int) 23 j = ν 23 j := fun j hj => by rw [up_slot hj, up_cell (show 23 ≠ 22 by omega)]
        generalize up (up ν 22 k (p : Int)) 23 k (n : Int) = ν2 at *
        have hσ2 : SGR ν2 T (bnd σ k ((T.drop p).take n)) := by
          intro j hj
          by_cases hjk : j = k
          · subst hjk
            refine Or.inr ⟨p, p + n, by omega, by omega, g1, by rw [g2]; omega, ?_⟩
            show (if j = j then some ((T.drop p).take n) else σ j) = _
            rw [if_pos rfl, show p + n - p = n by omega]
          · have eb : bnd σ k ((T.drop p).take n) j = σ j := if_neg hjk
            rw [g3 j hjk, g4 j hjk, eb]
            exact hσ j hj
        obtain ⟨ν', r1, r2, r3⟩ := s_fits26R hLT hE h20 ps (i + 1) (p + n) m o1 (some (vI (k : Int))) (some (vI ((p + n : Nat) : Int))) ν2 (bnd σ k ((T.drop p).take n)) hi2 (by omega) (by omega) hm3' hsp.2 (hR.kept (frM_of (fun c hc => hf c (by omega) (by omega)))) (hT.kept (hf 20 (by omega) (by omega))) (hP.kept (hf 24 (by omega) (by omega))) (by rw [hf 0 (by omega) (by omega)]; exact hPl) hσ2
        exact ⟨ν', r1, fun c q1 q2 => (r2 c q1 q2).trans (hf c q1 q2), r3⟩
      · rw [s5, s3, s4, if_neg (by omega), gk (lnR 23) 3 rfl (by omega) (by omega)]
        have hl1 : ((T.drop a0).take (b0 - a0)).length = b0 - a0 := seg_len s2
        have hl2 : ((T.drop p).take n).length = n := by rw [List.length_take, List.length_drop]; omega
        by_cases hlen : (b0 : Int) - (a0 : Int) = (n : Int)
        · have e2 : b0 - a0 = n := by omega
          rw [if_pos hlen, gk (lnR 22) 3 rfl (by omega) (by omega), s_alike hT (by omega) (by omega), cI_t, e2]
          by_cases hue : (T.drop a0).take n = (T.drop p).take n
          · rw [if_pos hue, if_neg ten]
            show ∃ ν', _ = some (some (vI (if (if _ = _ then _ else none).isSome = true then 1 else 0)), ν') ∧ _
            rw [if_pos hue]
            obtain ⟨ν', r1, r2, r3⟩ := s_fits26R hLT hE h20 ps (i + 1) (p + n) m o1 (some (vI (k : Int))) (some (vI ((p + n : Nat) : Int))) ν σ hi2 (by omega) (by omega) hm3' hsp.2 hR hT hP hPl hσ
            exact ⟨ν', r1, r2, fun σ' hq => r3 σ' (by simpa [hue] using hq)⟩
          · rw [if_neg hue, if_pos rfl, gz_0]
            refine ⟨ν, ?_, fun _ _ _ => rfl, fun σ' hq => ?_⟩
            · simp [hue]
            · simp [hue] at hq
        · rw [if_neg hlen, gz_0]
          have hne : ¬ (T.drop a0).take (b0 - a0) = (T.drop p).take n := fun q => by
            have := congrArg List.length q
            rw [hl1, hl2] at this
            omega
          refine ⟨ν, ?_, fun _ _ _ => rfl, fun σ' hq => ?_⟩
          · simp [hne]
          · simp [hne] at hq
theorem s_fits2R {P E : Int} : ∀ (j i : Nat) (o4 o5 o6 : Option AV) (ν : Mem), i + j = 3 → (∀ k, k < i → ν 22 k = -4) → ∃ ν', e_X12_fits_2 P E i o4 o5 o6 ν = e_X12_fits_26 (some (vI P)) E P 0 o5 o6 ν' ∧ (∀ c, c ≠ 22 → ν' c = ν c) ∧ ∀ k, k < 3 → ν' 22 k = -4
  | 0, i, o4, o5, o6, ν, hj, h => by
    rw [q_X12_fits_2, if_neg (by omega)]
    exact ⟨ν, rfl, fun _ _ => rfl, fun k hk => h k (by omega)⟩
  | j + 1, i, o4, o5, o6, ν, hj, h => by
    rw [q_X12_fits_2, if_pos (by omega), gk (lnR 22) 3 rfl (by omega) (by omega), wr_eq (by omega) (by omega), show ((i : Int)).toNat = i by omega, show (i : Int) + 1 = ((i + 1 : Nat) : Int) by omega]
    obtain ⟨ν', r1, r2, r3⟩ := s_fits2R (P := P) (E := E) j (i + 1) o4 o5 o6 (up ν 22 i (-4)) (by omega) (fun k hk => by
      by_cases e : k = i
      · subst e; exact up_same _ _ _ _
      · rw [up_slot e]; exact h k (by omega))
    exact ⟨ν', r1, fun c hc => (r2 c hc).trans (up_cell hc), r3⟩
theorem s_fitsR {ν : Mem} {a : Int → Int} {P : Nat} {T pat : List Int} (hLT : LT pat) (hP : P < T.length) (hw : isT a 1 T) (hwp : isT a 1 pat) (hR : RCa ν a) (hT : RHL ν 20 T) (hPt : RHL ν 24 pat) (hPl : ν 0 42 = (pat.length : Int)) :
    ∃ ν', f_X12_fits [vR 12 0, vI P, vI ((P + tl a 1 (T.drop P) : Nat) : Int)] ν = some (some (vI (if (fit a pat ((T.drop P).take (tl a 1 (T.drop P))) (fun _ => none)).isSome then 1 else 0)), ν') ∧ (∀ c, c ≠ 22 → c ≠ 23 → ν' c = ν c) ∧ ∀ σ', fit a pat ((T.drop P).take (tl a 1 (T.drop P))) (fun _ => none) = some σ' → SGR ν' T σ' := by
  obtain ⟨k, hk⟩ := isT_drop T 1 P hw hP
  have hsp := isT_split (T.drop P) 1 k (by rw [Nat.add_comm]; exact hk)
  have hle := tl_le (a := a) (T.drop P) 1
  rw [List.length_drop] at hle
  obtain ⟨ν1, r1, r2, r3⟩ := s_fits2R (P := (P : Int)) (E := ((P + tl a 1 (T.drop P) : Nat) : Int)) 3 0 none none none ν (by omega) (fun k hk => by omega)
  rw [q_X12_fits]
  have r1' : e_X12_fits_2 (P : Int) ((P + tl a 1 (T.drop P) : Nat) : Int) 0 none none none ν = _ := r1
  rw [r1']
  have h := s_fits26R (a := a) (E := P + tl a 1 (T.drop P)) (T := T) (pat := pat) hLT (by omega) hT.1 pat 0 P 1 (some (vI (P : Int))) none none ν1 (fun _ => none) rfl (by omega) (by omega) hwp (by rw [show P + tl a 1 (T.drop P) - P = tl a 1 (T.drop P) by omega]; exact hsp.1) (hR.kept (frM_of (fun c hc => r2 c (by omega)))) (hT.kept (r2 20 (by omega))) (hPt.kept (r2 24 (by omega))) (by rw [r2 0 (by omega)]; exact hPl) (fun k hk => Or.inl ⟨rfl, r3 k hk⟩)
  rw [show P + tl a 1 (T.drop P) - P = tl a 1 (T.drop P) by omega] at h
  obtain ⟨ν', q1, q2, q3⟩ := h
  exact ⟨ν', q1, fun c c1 c2 => (q2 c c1 c2).trans (r2 c c1), q3⟩
