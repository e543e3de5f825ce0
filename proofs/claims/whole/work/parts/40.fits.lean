/-! THE STEPPER of the class: fits -/
/-- the stepper looks at the TERM t, which is T -/
def FC (μ ν : Mem) (t : Nat) (T : List Int) : Prop := μ 157 2 = (t : Int) ∧ TH μ t T ∧ T.length ≤ 20 ∧ ∀ q, q < T.length → μ 160 q = (q : Int) + (tl (ar ν) 1 (T.drop q) : Int)
/-- what the names stand for, as the class holds it -/
def SG (μ : Mem) (T : List Int) (σ : Nat → Option (List Int)) : Prop := ∀ k, k < 3 → (σ k = none ∧ μ 161 k = -4) ∨ ∃ a b : Nat, a ≤ b ∧ b ≤ T.length ∧ μ 161 k = (a : Int) ∧ μ 162 k = (b : Int) ∧ σ k = some ((T.drop a).take (b - a))
def nS : Nat → Prop := fun c => c = 161 ∨ c = 162
def tOk (t : Nat) : Prop := ¬ nS t ∧ ¬ nS (t + 1) ∧ t ≠ 157 ∧ t + 1 ≠ 157 ∧ t ≠ 160 ∧ t + 1 ≠ 160
theorem FC.kept {μ μ' ν : Mem} {t : Nat} {T : List Int} (h : FC μ ν t T) (hf : Fr μ μ' nS) (ht : tOk t) : FC μ' ν t T := by
  obtain ⟨h1, h2, h3, h4⟩ := h
  have e1 : μ' 157 = μ 157 := hf 157 (by unfold nS; omega)
  have e2 : μ' 160 = μ 160 := hf 160 (by unfold nS; omega)
  refine ⟨by rw [e1]; exact h1, h2.kept hf ht.1 ht.2.1, h3, by rw [e2]; exact h4⟩
theorem ar_name {ν : Mem} {x : Int} (h : 23 ≤ x) : ar ν x = 0 := by unfold ar; rw [if_pos (Or.inl h)]
theorem drop_take_split {T : List Int} {p E : Nat} (hE : E ≤ T.length) (hp : p ≤ E) : T.drop p = (T.drop p).take (E - p) ++ T.drop E := by
  have h := (List.take_append_drop (E - p) (T.drop p)).symm
  rw [List.drop_drop, show p + (E - p) = E by omega] at h
  exact h
theorem seg_len {T : List Int} {p E : Nat} (hE : E ≤ T.length) : ((T.drop p).take (E - p)).length = E - p := by
  rw [List.length_take, List.length_drop]
  omega
theorem seg_drop {T : List Int} {p E n : Nat} : ((T.drop p).take (E - p)).drop n = (T.drop (p + n)).take (E - (p + n)) := by
  rw [List.drop_take, List.drop_drop, show E - p - n = E - (p + n) by omega]
theorem seg_take {T : List Int} {p E n : Nat} (h : n ≤ E - p) : ((T.drop p).take (E - p)).take n = (T.drop p).take n := by
  rw [List.take_take, Nat.min_eq_left h]
theorem s_fits26 {ν : Mem} {t sh P E : Nat} {T pat : List Int} (ht : tOk t) (hsh : tOk sh) (hLT : LT pat) (hP : P < T.length) (hE : E ≤ T.length) (hEP : E = P + tl (ar ν) 1 (T.drop P)) :
    ∀ (ps : List Int) (i p m : Nat) (o5 o6 o7 o8 : Option AV) (μ : Mem) (σ : Nat → Option (List Int)), pat.drop i = ps → i ≤ pat.length → p ≤ E → isT (ar ν) m ps → isT (ar ν) m ((T.drop p).take (E - p)) → FC μ ν t T → TH μ sh pat → SG μ T σ →
      ∃ μ', e_X6_fits_26 sh P p i o5 o6 o7 o8 μ = some (some (vI (if (fit (ar ν) ps ((T.drop p).take (E - p)) σ).isSome then 1 else 0)), μ') ∧ Fr μ μ' nS ∧ ∀ σ', fit (ar ν) ps ((T.drop p).take (E - p)) σ = some σ' → SG μ' T σ'
  | [], i, p, m, o5, o6, o7, o8, μ, σ, hi, hil, hp, hm, hm2, hF, hS, hσ => by
    have hm0 : m = 0 := by
      cases m with
      | zero => rfl
      | succ m => cases hm
    subst hm0
    have hs : (T.drop p).take (E - p) = [] := by
      cases hq : (T.drop p).take (E - p) with
      | nil => rfl
      | cons a b => rw [hq] at hm2; cases hm2
    have hpE : p = E := by
      have := seg_len (p := p) hE
      rw [hs] at this
      simp at this
      omega
    have hlen : pat.length ≤ i := by
      have := congrArg List.length hi
      simp at this
      omega
    rw [q_X6_fits_26, hS.1, if_neg (by omega), s_endAtC hF.1 hF.2.1 hF.2.2.1 hP, cI_t, hF.2.2.2 P hP, if_pos (by omega), gz_1, hs]
    exact ⟨μ, rfl, Fr.rf, fun σ' h => by cases h; exact hσ⟩
  | x :: ps, i, p, m, o5, o6, o7, o8, μ, σ, hi, hil, hp, hm, hm2, hF, hS, hσ => by
    cases m with
    | zero => cases hm
    | succ m =>
    obtain ⟨hax, hm3⟩ := hm
    have hilt : i < pat.length := by
      rcases Nat.lt_or_ge i pat.length with q | q
      · exact q
      · rw [List.drop_eq_nil_of_le q] at hi; cases hi
    have hx : pat[i] = x := by
      rw [List.drop_eq_getElem_cons hilt] at hi
      exact (List.cons.inj hi).1
    have hi2 : pat.drop (i + 1) = ps := by
      rw [List.drop_eq_getElem_cons hilt] at hi
      exact (List.cons.inj hi).2
    have hxr := hLT x (by rw [← hx]; exact List.getElem_mem hilt)
    have hpE : p < E := by
      rcases Nat.lt_or_ge p E with q | q
      · exact q
      · rw [show E - p = 0 by omega, List.take_zero] at hm2
        cases hm2
    have hpT : p < T.length := by omega
    have hs : (T.drop p).take (E - p) = T[p] :: (T.drop (p + 1)).take (E - (p + 1)) := by
      rw [List.drop_eq_getElem_cons hpT, show E - p = (E - (p + 1)) + 1 by omega, List.take_succ_cons]
    have hF1 := hF.1
    have hpl : pat.length ≤ 424 := hS.le
    have h20 := hF.2.2.1
    rw [q_X6_fits_26, hS.1, if_pos (by omega), hF1, show ((t : Int)).toNat = t by omega, hF.2.1.1, if_pos (by omega), s_at hS, cI_t, atL_in (x := x) (by omega) (by rw [show ((i : Int)).toNat = i by omega, ← hx]; exact List.getElem?_eq_getElem hilt), wr_eq (x := x - 23) (by omega) (by omega)]
    by_cases h23 : ¬ 23 ≤ x
    · -- a sign that must be the same
      rw [if_pos (show x - 23 < 0 by omega), q_X6_fits_73, s_at hS, cI_t, hF1, show ((t : Int)).toNat = t by omega, s_at hF.2.1, cI_t, atL_in (x := x) (by omega) (by rw [show ((i : Int)).toNat = i by omega, ← hx]; exact List.getElem?_eq_getElem hilt), atL_in (x := T[p]) (by omega) (by rw [show ((p : Int)).toNat = p by omega]; exact List.getElem?_eq_getElem hpT)]
      have hfit : fit (ar ν) (x :: ps) ((T.drop p).take (E - p)) σ = if T[p] = x then fit (ar ν) ps ((T.drop (p + 1)).take (E - (p + 1))) σ else none := by
        rw [hs]
        show (if 23 ≤ x then _ else if T[p] = x then fit (ar ν) ps _ σ else none) = _
        rw [if_neg h23]
      rw [hfit]
      by_cases hxe : T[p] = x
      · rw [if_pos hxe.symm, if_pos hxe, wr_eq (by omega) (by omega), wr_eq (by omega) (by omega), show (p : Int) + 1 = ((p + 1 : Nat) : Int) by omega, show (i : Int) + 1 = ((i + 1 : Nat) : Int) by omega]
        rw [hs] at hm2
        have hm4 := hm2.2
        rw [hxe] at hm4
        exact s_fits26 ht hsh hLT hP hE hEP ps (i + 1) (p + 1) _ _ _ _ _ μ σ hi2 (by omega) (by omega) hm3 hm4 hF hS hσ
      · rw [if_neg (fun q => hxe q.symm), if_neg hxe, gz_0]
        exact ⟨μ, rfl, Fr.rf, fun σ' h => by cases h⟩
    · -- a name
      replace h23 := Decidable.not_not.mp h23
      have hax0 : ar ν x = 0 := ar_name h23
      rw [if_neg (show ¬ x - 23 < 0 by omega), if_pos (show x - 23 < 3 by omega), s_endAtC hF1 hF.2.1 h20 hpT, cI_t, hF.2.2.2 p hpT]
      obtain ⟨k, hk⟩ : ∃ k : Nat, x - 23 = (k : Int) := ⟨(x - 23).toNat, by omega⟩
      have hk3 : k < 3 := by omega
      rw [hk, show ((k : Int)).toNat = k by omega, gk (lnC 161) 3 rfl (by omega) (by omega)]
      rw [hax0] at hm3
      have hm3' : isT (ar ν) m ps := hm3
      -- the TERM at p
      have hsplit := drop_take_split (T := T) hE (Nat.le_of_lt hpE)
      have htl : tl (ar ν) 1 (T.drop p) = tl (ar ν) 1 ((T.drop p).take (E - p)) := by
        rw [hsplit]
        rw [tl_app _ _ 1 m (by rw [Nat.add_comm]; exact hm2)]
        rw [← hsplit]
      have hsp := isT_split ((T.drop p).take (E - p)) 1 m (by rw [Nat.add_comm]; exact hm2)
      have hle := tl_le (a := ar ν) ((T.drop p).take (E - p)) 1
      rw [seg_len hE] at hle
      have hpos : 1 ≤ tl (ar ν) 1 (T.drop p) := tl_pos (n := 0) (by rw [List.drop_eq_getElem_cons hpT]; exact fun q => by cases q)
      generalize hn : tl (ar ν) 1 (T.drop p) = n at *
      have hu : ((T.drop p).take (E - p)).take n = (T.drop p).take n := seg_take (by omega)
      have hd : ((T.drop p).take (E - p)).drop n = (T.drop (p + n)).take (E - (p + n)) := seg_drop
      rw [← htl, hd] at hsp
      have hfit : fit (ar ν) (x :: ps) ((T.drop p).take (E - p)) σ = (match σ k with
          | none => fit (ar ν) ps ((T.drop (p + n)).take (E - (p + n))) (bnd σ k ((T.drop p).take n))
          | some u => if u = (T.drop p).take n then fit (ar ν) ps ((T.drop (p + n)).take (E - (p + n))) σ else none) := by
        rw [← hu, ← hd, htl]
        rw [hs]
        show (if 23 ≤ x then (match σ (x - 23).toNat with
          | none => _
          | some u => _) else _) = _
        rw [if_pos h23, hk]
        rfl
      rw [hfit]
      rcases hσ k hk3 with ⟨s1, s2⟩ | ⟨a0, b0, s1, s2, s3, s4, s5⟩
      · -- it stands for nothing yet
        rw [s1, s2, if_pos (by decide), gk (lnC 161) 3 rfl (by omega) (by omega), gk (lnC 162) 3 rfl (by omega) (by omega)]
        have hf : Fr μ (up (up μ 161 k (p : Int)) 162 k ((p : Int) + (n : Int))) nS := (Fr.up (Or.inl rfl)).trans (Fr.up (Or.inr rfl))
        have hF2 := hF.kept hf ht
        have hS2 := hS.kept hf hsh.1 hsh.2.1
        have g1 : up (up μ 161 k (p : Int)) 162 k ((p : Int) + (n : Int)) 161 k = (p : Int) := by rw [up_cell (show 161 ≠ 162 by omega), up_same]
        have g2 : up (up μ 161 k (p : Int)) 162 k ((p : Int) + (n : Int)) 162 k = (p : Int) + (n : Int) := up_same _ _ _ _
        have g3 : ∀ j, j ≠ k → up (up μ 161 k (p : Int)) 162 k ((p : Int) + (n : Int)) 161 j = μ 161 j := fun j hj => by rw [up_cell (show 161 ≠ 162 by omega), up_slot hj]
        have g4 : ∀ j, j ≠ k → up (up μ 161 k (p : Int)) 162 k ((p : Int) + (n : Int)) 162 j = μ 162 j := fun j hj => by rw [up_slot hj, up_cell (show 162 ≠ 161 by omega)]
        generalize up (up μ 161 k (p : Int)) 162 k ((p : Int) + (n : Int)) = μ2 at *
        rw [q_X6_fits_134, gk (lnC 162) 3 rfl (by omega) (by omega), gk (lnC 161) 3 rfl (by omega) (by omega), show ((k : Int)).toNat = k by omega, g1, g2, if_pos rfl, q_X6_fits_161, if_neg ten, gk (lnC 161) 3 rfl (by omega) (by omega), hF2.1, show ((t : Int)).toNat = t by omega, show ((k : Int)).toNat = k by omega, g1, s_samePart hF2.2.1 hF2.2.1 (by omega) (by omega) (by omega) (by omega) (by omega), cI_t, if_pos rfl, if_neg ten, wr_eq (by omega) (by omega), show (p : Int) + (n : Int) = ((p + n : Nat) : Int) by omega, show (i : Int) + 1 = ((i + 1 : Nat) : Int) by omega]
        have hσ2 : SG μ2 T (bnd σ k ((T.drop p).take n)) := by
          intro j hj
          by_cases hjk : j = k
          · subst hjk
            refine Or.inr ⟨p, p + n, by omega, by omega, g1, by rw [g2]; omega, ?_⟩
            show (if j = j then some ((T.drop p).take n) else σ j) = _
            rw [if_pos rfl, show p + n - p = n by omega]
          · have eb : bnd σ k ((T.drop p).take n) j = σ j := if_neg hjk
            rw [g3 j hjk, g4 j hjk, eb]
            exact hσ j hj
        obtain ⟨μ', r1, r2, r3⟩ := s_fits26 ht hsh hLT hP hE hEP ps (i + 1) (p + n) m (some (vI (k : Int))) (some (vI ((p + n : Nat) : Int))) (some (vI 1)) (some (vI 1)) μ2 (bnd σ k ((T.drop p).take n)) hi2 (by omega) (by omega) hm3' hsp.2 hF2 hS2 hσ2
        exact ⟨μ', r1, hf.trans r2, r3⟩
      · -- it must be the same TERM again
        rw [s5, s3, if_neg (by omega), q_X6_fits_134, gk (lnC 162) 3 rfl (by omega) (by omega), gk (lnC 161) 3 rfl (by omega) (by omega), show ((k : Int)).toNat = k by omega, s3, s4, wr_eq (by omega) (by omega), wr_eq (by omega) (by omega)]
        have hl1 : ((T.drop a0).take (b0 - a0)).length = b0 - a0 := seg_len s2
        have hl2 : ((T.drop p).take n).length = n := by rw [List.length_take, List.length_drop]; omega
        by_cases hlen : (b0 : Int) - (a0 : Int) = (p : Int) + (n : Int) - (p : Int)
        · rw [if_pos hlen, q_X6_fits_161, if_neg ten, gk (lnC 161) 3 rfl (by omega) (by omega), hF1, show ((t : Int)).toNat = t by omega, show ((k : Int)).toNat = k by omega, s3, s_samePart hF.2.1 hF.2.1 (by omega) (by omega) (by omega) (by omega) (by omega), cI_t]
          have e1 : ((p : Int) + (n : Int) - (p : Int)).toNat = n := by omega
          have e2 : b0 - a0 = n := by omega
          rw [e1, e2, show ((p : Int)).toNat = p by omega, show ((a0 : Int)).toNat = a0 by omega]
          by_cases hue : (T.drop p).take n = (T.drop a0).take n
          · rw [if_pos hue, if_neg ten, wr_eq (by omega) (by omega), show (p : Int) + (n : Int) = ((p + n : Nat) : Int) by omega, show (i : Int) + 1 = ((i + 1 : Nat) : Int) by omega]
            show ∃ μ', _ = some (some (vI (if (if _ = _ then _ else none).isSome = true then 1 else 0)), μ') ∧ _
            rw [if_pos hue.symm]
            obtain ⟨μ', r1, r2, r3⟩ := s_fits26 ht hsh hLT hP hE hEP ps (i + 1) (p + n) m (some (vI (k : Int))) (some (vI ((p + n : Nat) : Int))) (some (vI 1)) (some (vI 1)) μ σ hi2 (by omega) (by omega) hm3' hsp.2 hF hS hσ
            exact ⟨μ', r1, r2, fun σ' hq => r3 σ' (by simpa [hue] using hq)⟩
          · rw [if_neg hue, if_pos rfl, gz_0]
            refine ⟨μ, ?_, Fr.rf, fun σ' hq => ?_⟩
            · simp [show ¬ (T.drop a0).take n = (T.drop p).take n from fun q => hue q.symm]
            · simp [show ¬ (T.drop a0).take n = (T.drop p).take n from fun q => hue q.symm] at hq
        · rw [if_neg hlen, q_X6_fits_161, if_pos rfl, gz_0]
          have hne : ¬ (T.drop a0).take (b0 - a0) = (T.drop p).take n := fun q => by
            have := congrArg List.length q
            rw [hl1, hl2] at this
            omega
          refine ⟨μ, ?_, Fr.rf, fun σ' hq => ?_⟩
          · simp [hne]
          · simp [hne] at hq
theorem s_fits2 {sh : Nat} {P : Int} {ν : Mem} {t : Nat} {T : List Int} : ∀ (j i : Nat) (o4 o5 o6 o7 o8 : Option AV) (μ : Mem), i + j = 3 → (∀ k, k < i → μ 161 k = -4) → ∃ μ', e_X6_fits_2 sh P i o4 o5 o6 o7 o8 μ = e_X6_fits_26 sh P P 0 o5 o6 o7 o8 μ' ∧ Fr μ μ' nS ∧ ∀ k, k < 3 → μ' 161 k = -4
  | 0, i, o4, o5, o6, o7, o8, μ, hj, h => by
    rw [q_X6_fits_2, if_neg (by omega)]
    exact ⟨μ, rfl, Fr.rf, fun k hk => h k (by omega)⟩
  | j + 1, i, o4, o5, o6, o7, o8, μ, hj, h => by
    rw [q_X6_fits_2, if_pos (by omega), gk (lnC 161) 3 rfl (by omega) (by omega), wr_eq (by omega) (by omega), show ((i : Int)).toNat = i by omega, show (i : Int) + 1 = ((i + 1 : Nat) : Int) by omega]
    obtain ⟨μ', r1, r2, r3⟩ := s_fits2 (sh := sh) (P := P) (ν := ν) (t := t) (T := T) j (i + 1) o4 o5 o6 o7 o8 (up μ 161 i (-4)) (by omega) (fun k hk => by
      by_cases e : k = i
      · subst e; exact up_same _ _ _ _
      · rw [up_slot e]; exact h k (by omega))
    exact ⟨μ', r1, (Fr.up (Or.inl rfl)).trans r2, r3⟩
/-- does the TERM at a PLACE fit? -/
theorem s_fitsC {μ ν : Mem} {t sh P : Nat} {T pat : List Int} (ht : tOk t) (hsh : tOk sh) (hLT : LT pat) (hP : P < T.length) (hw : isT (ar ν) 1 T) (hwp : isT (ar ν) 1 pat) (hF : FC μ ν t T) (hS : TH μ sh pat) :
    ∃ μ', f_X6_fits [vR 6 157, vR 8 sh, vI P] μ = some (some (vI (if (fit (ar ν) pat ((T.drop P).take (tl (ar ν) 1 (T.drop P))) (fun _ => none)).isSome then 1 else 0)), μ') ∧ Fr μ μ' nS ∧ ∀ σ', fit (ar ν) pat ((T.drop P).take (tl (ar ν) 1 (T.drop P))) (fun _ => none) = some σ' → SG μ' T σ' := by
  obtain ⟨k, hk⟩ := isT_drop T 1 P hw hP
  have hsp := isT_split (T.drop P) 1 k (by rw [Nat.add_comm]; exact hk)
  have hle := tl_le (a := ar ν) (T.drop P) 1
  rw [List.length_drop] at hle
  obtain ⟨μ1, r1, r2, r3⟩ := s_fits2 (sh := sh) (P := (P : Int)) (ν := ν) (t := t) (T := T) 3 0 none none none none none μ (by omega) (fun k hk => by omega)
  rw [q_X6_fits]
  have r1' : e_X6_fits_2 sh (P : Int) 0 none none none none none μ = _ := r1
  rw [r1']
  have h := s_fits26 (ν := ν) (t := t) (sh := sh) (P := P) (E := P + tl (ar ν) 1 (T.drop P)) (T := T) (pat := pat) ht hsh hLT hP (by omega) rfl pat 0 P 1 none none none none μ1 (fun _ => none) rfl (by omega) (by omega) hwp (by rw [show P + tl (ar ν) 1 (T.drop P) - P = tl (ar ν) 1 (T.drop P) by omega]; exact hsp.1) (hF.kept r2 ht) (hS.kept r2 hsh.1 hsh.2.1) (fun k hk => Or.inl ⟨rfl, r3 k hk⟩)
  rw [show P + tl (ar ν) 1 (T.drop P) - P = tl (ar ν) 1 (T.drop P) by omega] at h
  obtain ⟨μ', q1, q2, q3⟩ := h
  exact ⟨μ', q1, r2.trans q2, q3⟩
