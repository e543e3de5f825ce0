/-! THE STEPPER of the class: becomes -/
theorem s_bec24 {μ ν : Mem} {t sh u P E : Nat} {T ins : List Int} {σ : Nat → Option (List Int)} (hLT : LT ins) (hF : FC μ ν t T) (hS : TH μ sh ins) (hσ : SG μ T σ) :
    ∀ (ps : List Int) (i c : Nat) (o7 : Option AV), ins.drop i = ps → i ≤ ins.length → c ≤ 20 + 20 * i →
      (sbs σ ps = none → e_X6_becomes_24 sh P u E c i o7 μ = some (some (vI (-23)), μ)) ∧ ∀ v, sbs σ ps = some v → ∃ o', e_X6_becomes_24 sh P u E c i o7 μ = e_X6_becomes_24 sh P u E ((c + v.length : Nat) : Int) ((ins.length : Nat) : Int) o' μ
  | [], i, c, o7, hi, hil, hc => by
    refine ⟨fun h => (by cases h), fun v hv => ?_⟩
    cases hv
    have hlen : ins.length ≤ i := by
      have := congrArg List.length hi
      simp at this
      omega
    obtain rfl : i = ins.length := by omega
    exact ⟨o7, rfl⟩
  | x :: ps, i, c, o7, hi, hil, hc => by
    have hilt : i < ins.length := by
      rcases Nat.lt_or_ge i ins.length with q | q
      · exact q
      · rw [List.drop_eq_nil_of_le q] at hi; cases hi
    have hx : ins[i] = x := by
      rw [List.drop_eq_getElem_cons hilt] at hi
      exact (List.cons.inj hi).1
    have hi2 : ins.drop (i + 1) = ps := by
      rw [List.drop_eq_getElem_cons hilt] at hi
      exact (List.cons.inj hi).2
    have hxr := hLT x (by rw [← hx]; exact List.getElem_mem hilt)
    have hpl : ins.length ≤ 424 := hS.le
    rw [q_X6_becomes_24, hS.1, if_pos (by omega), s_at hS, cI_t, atL_in (x := x) (by omega) (by rw [show ((i : Int)).toNat = i by omega, ← hx]; exact List.getElem?_eq_getElem hilt), wr_eq (x := x - 23) (by omega) (by omega), if_pos (show x - 23 < 3 by omega)]
    by_cases h23 : ¬ 23 ≤ x
    · have hsb : sbs σ (x :: ps) = (sbs σ ps).map (x :: ·) := by
        show (if 23 ≤ x then _ else (sbs σ ps).map (x :: ·)) = _
        rw [if_neg h23]
      rw [hsb, if_pos (show x - 23 < 0 by omega), if_pos (show x - 23 < 0 by omega), wr_eq (by omega) (by omega), wr_eq (by omega) (by omega), show (c : Int) + 1 = ((c + 1 : Nat) : Int) by omega, show (i : Int) + 1 = ((i + 1 : Nat) : Int) by omega]
      obtain ⟨r1, r2⟩ := s_bec24 (u := u) (P := P) (E := E) hLT hF hS hσ ps (i + 1) (c + 1) (some (vI (x - 23))) hi2 (by omega) (by omega)
      refine ⟨fun h => r1 ?_, fun v hv => ?_⟩
      · cases hq : sbs σ ps with
        | none => rfl
        | some w => rw [hq] at h; cases h
      · cases hq : sbs σ ps with
        | none => rw [hq] at hv; cases hv
        | some w =>
          rw [hq] at hv
          cases hv
          obtain ⟨o', r3⟩ := r2 w hq
          refine ⟨o', ?_⟩
          rw [r3, List.length_cons, show c + 1 + w.length = c + (w.length + 1) by omega]
    · replace h23 := Decidable.not_not.mp h23
      obtain ⟨k, hk⟩ : ∃ k : Nat, x - 23 = (k : Int) := ⟨(x - 23).toNat, by omega⟩
      have hk3 : k < 3 := by omega
      have hsb : sbs σ (x :: ps) = (match σ k with
          | none => none
          | some w => (sbs σ ps).map (w ++ ·)) := by
        show (if 23 ≤ x then (match σ (x - 23).toNat with
          | none => none
          | some w => (sbs σ ps).map (w ++ ·)) else _) = _
        rw [if_pos h23, hk]
        rfl
      rw [hsb, hk, if_neg (show ¬ (k : Int) < 0 by omega), show ((k : Int)).toNat = k by omega, gk (lnC 161) 3 rfl (by omega) (by omega)]
      rcases hσ k hk3 with ⟨s1, s2⟩ | ⟨a0, b0, s1, s2, s3, s4, s5⟩
      · rw [s1, s2, if_pos (by decide)]
        exact ⟨fun _ => rfl, fun v hv => by cases hv⟩
      · have h20 := hF.2.2.1
        rw [s5, s3, s4, if_neg (by omega), if_neg (by omega), gk (lnC 162) 3 rfl (by omega) (by omega), gk (lnC 161) 3 rfl (by omega) (by omega), wr_eq (x := (b0 : Int) - (a0 : Int)) (by omega) (by omega), wr_eq (by omega) (by omega), wr_eq (by omega) (by omega), show (c : Int) + ((b0 : Int) - (a0 : Int)) = ((c + (b0 - a0) : Nat) : Int) by omega, show (i : Int) + 1 = ((i + 1 : Nat) : Int) by omega]
        obtain ⟨r1, r2⟩ := s_bec24 (u := u) (P := P) (E := E) hLT hF hS hσ ps (i + 1) (c + (b0 - a0)) (some (vI (k : Int))) hi2 (by omega) (by omega)
        have hl1 : ((T.drop a0).take (b0 - a0)).length = b0 - a0 := seg_len s2
        refine ⟨fun h => r1 ?_, fun v hv => ?_⟩
        · cases hq : sbs σ ps with
          | none => rfl
          | some w => rw [hq] at h; cases h
        · cases hq : sbs σ ps with
          | none => rw [hq] at hv; cases hv
          | some w =>
            rw [hq] at hv
            cases hv
            obtain ⟨o', r3⟩ := r2 w hq
            refine ⟨o', ?_⟩
            rw [r3, List.length_append, hl1, show c + (b0 - a0) + w.length = c + (b0 - a0 + w.length) by omega]
/-- u is another TERM than the one that is looked at, and than the shape; it has room for twenty signs -/
def uOk (u t sh : Nat) : Prop := tOk u ∧ ¬ tS u t ∧ ¬ tS u (t + 1) ∧ ¬ tS u sh ∧ ¬ tS u (sh + 1) ∧ lnC (u + 1) = 20
theorem tS_fix {u : Nat} (h : tOk u) {c : Nat} (hc : c = 157 ∨ c = 160 ∨ c = 161 ∨ c = 162) : ¬ tS u c := by
  unfold tOk nS at h
  unfold tS
  omega
theorem FC.keptU {μ μ' ν : Mem} {t u sh : Nat} {T : List Int} (h : FC μ ν t T) (hf : Fr μ μ' (tS u)) (hu : uOk u t sh) : FC μ' ν t T := by
  obtain ⟨h1, h2, h3, h4⟩ := h
  refine ⟨by rw [hf 157 (tS_fix hu.1 (by omega))]; exact h1, h2.kept hf hu.2.1 hu.2.2.1, h3, by rw [hf 160 (tS_fix hu.1 (by omega))]; exact h4⟩
theorem SG.keptU {μ μ' : Mem} {u : Nat} {T : List Int} {σ : Nat → Option (List Int)} (h : SG μ T σ) (hf : Fr μ μ' (tS u)) (hu : tOk u) : SG μ' T σ := by
  intro k hk
  rw [hf 161 (tS_fix hu (by omega)), hf 162 (tS_fix hu (by omega))]
  exact h k hk
theorem s_bec132 {ν : Mem} {t sh u E : Nat} {T ins : List Int} {σ : Nat → Option (List Int)} (hLT : LT ins) (hTL : LT T) (hu : uOk u t sh) (hE : E ≤ T.length) :
    ∀ (ps : List Int) (i : Nat) (o2 o5 o7 : Option AV) (μ : Mem) (cur v : List Int), ins.drop i = ps → i ≤ ins.length → FC μ ν t T → TH μ sh ins → SG μ T σ → TH μ u cur → sbs σ ps = some v → cur.length + v.length + (T.length - E) ≤ 20 →
      ∃ μ', e_X6_becomes_132 sh o2 u E o5 i o7 μ = some (some (vI ((cur ++ v ++ T.drop E).length : Int)), μ') ∧ TH μ' u (cur ++ v ++ T.drop E) ∧ Fr μ μ' (tS u)
  | [], i, o2, o5, o7, μ, cur, v, hi, hil, hF, hS, hσ, hc, hv, hl => by
    have hlen : ins.length ≤ i := by
      have := congrArg List.length hi
      simp at this
      omega
    cases hv
    have h20 := hF.2.2.1
    rw [q_X6_becomes_132, hS.1, if_neg (by omega), hF.1, show ((t : Int)).toNat = t by omega, hF.2.1.1]
    obtain ⟨μ', r1, r2, r3⟩ := s_addPart (a := (E : Int)) (b := (T.length : Int)) hc hF.2.1 hTL.by hu.2.1 hu.2.2.1 (by omega) (by omega) (by omega) (by rw [hu.2.2.2.2.2]; simp at hl; omega)
    have e1 : (T.drop ((E : Int)).toNat).take ((T.length : Int) - (E : Int)).toNat = T.drop E := by
      rw [show ((E : Int)).toNat = E by omega, show ((T.length : Int) - (E : Int)).toNat = (T.drop E).length by rw [List.length_drop]; omega, List.take_length]
    rw [e1] at r2
    rw [r1, cI_t, r2.1]
    exact ⟨μ', by simp, by simpa using r2, r3⟩
  | x :: ps, i, o2, o5, o7, μ, cur, v, hi, hil, hF, hS, hσ, hc, hv, hl => by
    have hilt : i < ins.length := by
      rcases Nat.lt_or_ge i ins.length with q | q
      · exact q
      · rw [List.drop_eq_nil_of_le q] at hi; cases hi
    have hx : ins[i] = x := by
      rw [List.drop_eq_getElem_cons hilt] at hi
      exact (List.cons.inj hi).1
    have hi2 : ins.drop (i + 1) = ps := by
      rw [List.drop_eq_getElem_cons hilt] at hi
      exact (List.cons.inj hi).2
    have hxr := hLT x (by rw [← hx]; exact List.getElem_mem hilt)
    have hpl : ins.length ≤ 424 := hS.le
    have hat : atL ins (i : Int) = x := atL_in (x := x) (by omega) (by rw [show ((i : Int)).toNat = i by omega, ← hx]; exact List.getElem?_eq_getElem hilt)
    have h20 := hF.2.2.1
    rw [q_X6_becomes_132, hS.1, if_pos (by omega), s_at hS, cI_t, hat, wr_eq (x := x - 23) (by omega) (by omega)]
    by_cases h23 : ¬ 23 ≤ x
    · have hsb : sbs σ (x :: ps) = (sbs σ ps).map (x :: ·) := by
        show (if 23 ≤ x then _ else (sbs σ ps).map (x :: ·)) = _
        rw [if_neg h23]
      rw [hsb] at hv
      cases hq : sbs σ ps with
      | none => rw [hq] at hv; cases hv
      | some w =>
        rw [hq] at hv
        cases hv
        rw [List.length_cons] at hl
        rw [if_pos (show x - 23 < 0 by omega), s_at hS, cI_t, hat]
        obtain ⟨μ1, r1, r2, r3⟩ := s_add (x := x) hc (by rw [hu.2.2.2.2.2]; omega) (by omega)
        rw [r1, cI_t, wr_eq (by omega) (by omega), show (i : Int) + 1 = ((i + 1 : Nat) : Int) by omega]
        obtain ⟨μ', q1, q2, q3⟩ := s_bec132 hLT hTL hu hE ps (i + 1) o2 (kl o5) (some (vI (x - 23))) μ1 (cur ++ [x]) w hi2 (by omega) (hF.keptU r3 hu) (hS.kept r3 hu.2.2.2.1 hu.2.2.2.2.1) (hσ.keptU r3 hu.1) r2 hq (by rw [List.length_append]; simp; omega)
        refine ⟨μ', ?_, ?_, r3.trans q3⟩
        · rw [q1]; simp
        · simpa using q2
    · replace h23 := Decidable.not_not.mp h23
      obtain ⟨k, hk⟩ : ∃ k : Nat, x - 23 = (k : Int) := ⟨(x - 23).toNat, by omega⟩
      have hk3 : k < 3 := by omega
      have hsb : sbs σ (x :: ps) = (match σ k with
          | none => none
          | some w => (sbs σ ps).map (w ++ ·)) := by
        show (if 23 ≤ x then (match σ (x - 23).toNat with
          | none => none
          | some w => (sbs σ ps).map (w ++ ·)) else _) = _
        rw [if_pos h23, hk]
        rfl
      rw [hsb] at hv
      rw [hk, if_neg (show ¬ (k : Int) < 0 by omega), if_pos (show (k : Int) < 3 by omega), show ((k : Int)).toNat = k by omega, gk (lnC 161) 3 rfl (by omega) (by omega), gk (lnC 162) 3 rfl (by omega) (by omega)]
      rcases hσ k hk3 with ⟨s1, s2⟩ | ⟨a0, b0, s1, s2, s3, s4, s5⟩
      · rw [s1] at hv
        cases hv
      · rw [s5] at hv
        cases hq : sbs σ ps with
        | none => rw [hq] at hv; cases hv
        | some w =>
          rw [hq] at hv
          cases hv
          have hl1 : ((T.drop a0).take (b0 - a0)).length = b0 - a0 := seg_len s2
          rw [List.length_append, hl1] at hl
          rw [hF.1, show ((t : Int)).toNat = t by omega, s3, s4]
          obtain ⟨μ1, r1, r2, r3⟩ := s_addPart (a := (a0 : Int)) (b := (b0 : Int)) hc hF.2.1 hTL.by hu.2.1 hu.2.2.1 (by omega) (by omega) (by omega) (by rw [hu.2.2.2.2.2]; omega)
          rw [show ((a0 : Int)).toNat = a0 by omega, show ((b0 : Int) - (a0 : Int)).toNat = b0 - a0 by omega] at r2
          rw [r1, cI_t, wr_eq (by omega) (by omega), show (i : Int) + 1 = ((i + 1 : Nat) : Int) by omega]
          obtain ⟨μ', q1, q2, q3⟩ := s_bec132 hLT hTL hu hE ps (i + 1) o2 (kl o5) (some (vI (k : Int))) μ1 (cur ++ (T.drop a0).take (b0 - a0)) w hi2 (by omega) (hF.keptU r3 hu) (hS.kept r3 hu.2.2.2.1 hu.2.2.2.2.1) (hσ.keptU r3 hu.1) r2 hq (by rw [List.length_append, hl1]; omega)
          refine ⟨μ', ?_, ?_, r3.trans q3⟩
          · rw [q1]; simp
          · simpa using q2
/-- what the TERM becomes -/
theorem s_becomesC {μ ν : Mem} {t sh u P : Nat} {T ins : List Int} {σ : Nat → Option (List Int)} (hLT : LT ins) (hTL : LT T) (hu : uOk u t sh) (hP : P < T.length) (hF : FC μ ν t T) (hS : TH μ sh ins) (hσ : SG μ T σ) (hE : P + tl (ar ν) 1 (T.drop P) ≤ T.length) :
    ∃ r μ', f_X6_becomes [vR 6 157, vR 8 sh, vI P, vR 8 u] μ = some (some (vI r), μ') ∧ Fr μ μ' (tS u) ∧
      (match sbs σ ins with
      | none => r = -23
      | some v => if 20 < P + v.length + (T.length - (P + tl (ar ν) 1 (T.drop P))) then r = -24 else r = ((T.take P ++ v ++ T.drop (P + tl (ar ν) 1 (T.drop P))).length : Int) ∧ TH μ' u (T.take P ++ v ++ T.drop (P + tl (ar ν) 1 (T.drop P)))) := by
  have h20 := hF.2.2.1
  rw [q_X6_becomes, s_endAtC hF.1 hF.2.1 h20 hP, cI_t, hF.2.2.2 P hP, hF.1, show ((t : Int)).toNat = t by omega, hF.2.1.1]
  generalize hn : tl (ar ν) 1 (T.drop P) = n at *
  rw [wr_eq (x := (P : Int) + (n : Int) - (P : Int)) (by omega) (by omega), wr_eq (by omega) (by omega), show (T.length : Int) - ((P : Int) + (n : Int) - (P : Int)) = ((T.length - n : Nat) : Int) by omega, show (P : Int) + (n : Int) = ((P + n : Nat) : Int) by omega]
  obtain ⟨r1, r2⟩ := s_bec24 (u := u) (P := P) (E := P + n) hLT hF hS hσ ins 0 (T.length - n) none rfl (by omega) (by omega)
  have r1' : sbs σ ins = none → e_X6_becomes_24 sh (P : Int) u ((P + n : Nat) : Int) ((T.length - n : Nat) : Int) 0 none μ = _ := r1
  have r2' : ∀ v, sbs σ ins = some v → ∃ o', e_X6_becomes_24 sh (P : Int) u ((P + n : Nat) : Int) ((T.length - n : Nat) : Int) 0 none μ = _ := r2
  cases hv : sbs σ ins with
  | none =>
    rw [r1' hv]
    exact ⟨-23, μ, rfl, Fr.rf, rfl⟩
  | some v =>
    obtain ⟨o', e1⟩ := r2' v hv
    rw [e1, q_X6_becomes_24, hS.1, if_neg (by omega)]
    by_cases hb : 20 < P + v.length + (T.length - (P + n))
    · rw [if_neg (by omega)]
      exact ⟨-24, μ, rfl, Fr.rf, by simp only [if_pos hb]⟩
    · rw [if_pos (by omega)]
      have hf0 : Fr μ (up μ u 1 0) (tS u) := Fr.up (Or.inl rfl)
      have hF0 := hF.keptU hf0 hu
      rw [hF0.1, show ((t : Int)).toNat = t by omega]
      obtain ⟨μ1, q1, q2, q3⟩ := s_addPart (a := 0) (b := (P : Int)) (TH_nil (μ := μ) (t := u)) hF0.2.1 hTL.by hu.2.1 hu.2.2.1 (by omega) (by omega) (by omega) (by rw [hu.2.2.2.2.2]; simp; omega)
      have e2 : ([] : List Int) ++ (T.drop (0 : Int).toNat).take ((P : Int) - 0).toNat = T.take P := by
        rw [show ((P : Int) - 0).toNat = P by omega]
        simp
      rw [e2] at q2
      rw [q1, cI_t]
      have hf1 := hf0.trans q3
      obtain ⟨μ', p1, p2, p3⟩ := s_bec132 (ν := ν) (σ := σ) hLT hTL hu hE ins 0 (some (vI (P : Int))) (some (vI ((T.length - n + v.length : Nat) : Int))) o' μ1 (T.take P) v rfl (by omega) (hF.keptU hf1 hu) (hS.kept hf1 hu.2.2.2.1 hu.2.2.2.2.1) (hσ.keptU hf1 hu.1) q2 hv (by rw [List.length_take, Nat.min_eq_left (Nat.le_of_lt hP)]; omega)
      have p1' : e_X6_becomes_132 sh (some (vI (P : Int))) u ((P + n : Nat) : Int) (some (vI ((T.length - n + v.length : Nat) : Int))) 0 o' μ1 = _ := p1
      rw [p1']
      refine ⟨_, μ', rfl, hf1.trans p3, ?_⟩
      simp only [if_neg hb]
      exact ⟨trivial, p2⟩
