/-! THE REFERENCE: a STEP is the STEP -/
def FrS (ν ν' : Mem) : Prop := (∀ c, ¬ (21 ≤ c ∧ c ≤ 25) → c ≠ 0 → ν' c = ν c) ∧ ∀ k, k ≠ 38 → k ≠ 42 → k ≠ 44 → ν' 0 k = ν 0 k
theorem frS_rf {ν : Mem} : FrS ν ν := ⟨fun _ _ _ => rfl, fun _ _ _ _ => rfl⟩
theorem frS_trans {ν ν1 ν2 : Mem} (h : FrS ν ν1) (h2 : FrS ν1 ν2) : FrS ν ν2 := ⟨fun c h3 h4 => (h2.1 c h3 h4).trans (h.1 c h3 h4), fun k a b c => (h2.2 k a b c).trans (h.2 k a b c)⟩
theorem frS_G {c0 k0 : Nat} {ν ν' : Mem} (h : FrG c0 k0 ν ν') (hc : 21 ≤ c0 ∧ c0 ≤ 25) (hk : k0 = 38 ∨ k0 = 42 ∨ k0 = 44) : FrS ν ν' := ⟨fun c h1 h2 => h.1 c (by omega) h2, fun k _ _ _ => h.2 k (by omega)⟩
theorem frS_M {ν ν' : Mem} (h : FrS ν ν') : FrM ν ν' := ⟨fun c _ _ => h.1 c (by omega) (by omega), h.2 0 (by omega) (by omega) (by omega), h.2 5 (by omega) (by omega) (by omega), h.2 23 (by omega) (by omega) (by omega)⟩
theorem frS_R {ν ν' : Mem} (h : FrS ν ν') : FrR ν ν' := ⟨fun c h1 h2 => h.1 c (by unfold scrR at h1; omega) h2, fun k hk => h.2 k (by unfold scrK at hk; omega) (by unfold scrK at hk; omega) (by unfold scrK at hk; omega)⟩
theorem RT.keptS {ν ν' : Mem} {l : List Int} (h : RT ν 20 36 l) (hf : FrS ν ν') : RT ν' 20 36 l := ⟨h.1.kept (hf.1 20 (by omega) (by omega)), by rw [hf.2 36 (by omega) (by omega) (by omega)]; exact h.2⟩
theorem s_fpR {ν0 ν : Mem} {P : Nat} {T pat ins : List Int} (hp : LT pat) (hi : LT ins) (hP : P < T.length) (hw : isT (ar ν0) 1 T) (hwp : isT (ar ν0) 1 pat) (hR : RCa ν (ar ν0)) (hT : RT ν 20 36 T) (hPt : RT ν 24 42 pat) (hI : RT ν 25 44 ins) :
    ∃ r ν', cI (f_X12_fits [vR 12 0, vI P, vI ((P + tl (ar ν0) 1 (T.drop P) : Nat) : Int)] ν) (fun x μ => if x = 0 then some (some (vI (-22)), μ) else cI (f_X12_puts [vR 12 0, vI P, vI ((P + tl (ar ν0) 1 (T.drop P) : Nat) : Int)] μ) (fun y μ => some (some (vI y), μ))) = some (some (vI r), ν') ∧ FrS ν ν' ∧
      (match goP ν0 pat ins T P with
      | .inl e => r = e
      | .inr T' => r = 0 ∧ RT ν' 21 38 T') := by
  obtain ⟨ν1, a1, a2, a3⟩ := s_fitsR hp hP hw hwp hR hT.1 hPt.1 hPt.2
  have hle := tl_le (a := ar ν0) (T.drop P) 1
  rw [List.length_drop] at hle
  have hf1 : FrS ν ν1 := ⟨fun c h1 _ => a2 c (by omega) (by omega), fun k _ _ _ => by rw [a2 0 (by omega) (by omega)]⟩
  rw [a1, cI_t]
  cases hfit : fit (ar ν0) pat ((T.drop P).take (tl (ar ν0) 1 (T.drop P))) (fun _ => none) with
  | none =>
    refine ⟨-22, ν1, rfl, hf1, ?_⟩
    unfold goP
    rw [hfit]
  | some σ =>
    have hI1 : RT ν1 25 44 ins := ⟨hI.1.kept (a2 25 (by omega) (by omega)), by rw [a2 0 (by omega) (by omega)]; exact hI.2⟩
    obtain ⟨r, ν2, b1, b2, b3⟩ := s_putsR (P := P) (n := tl (ar ν0) 1 (T.drop P)) hi (by omega) (hT.keptS hf1) hI1 (a3 σ hfit)
    have e1 : (if (some σ).isSome = true then (1 : Int) else 0) = 1 := rfl
    rw [e1, if_neg ten, b1, cI_t]
    refine ⟨r, ν2, rfl, frS_trans hf1 ⟨fun c h1 h2 => b2.1 c (by omega) h2, fun k h1 _ _ => b2.2 k h1⟩, ?_⟩
    have hg : goP ν0 pat ins T P = (match sbs σ ins with
        | none => .inl (-23)
        | some v => if 20 < P + v.length + (T.length - (P + tl (ar ν0) 1 (T.drop P))) then .inl (-24) else .inr (T.take P ++ v ++ T.drop (P + tl (ar ν0) 1 (T.drop P)))) := by
      unfold goP
      rw [hfit]
      dsimp only
      cases sbs σ ins <;> rfl
    rw [hg]
    cases hsb : sbs σ ins with
    | none =>
      rw [hsb] at b3
      exact b3
    | some v =>
      rw [hsb] at b3
      by_cases hb : 20 < P + v.length + (T.length - (P + tl (ar ν0) 1 (T.drop P)))
      · simp only [if_pos hb] at b3 ⊢
        exact b3
      · simp only [if_neg hb] at b3 ⊢
        exact b3
/-- one STEP of the reference is the STEP -/
theorem s_stepsR {μ ν : Mem} {T : List Int} {kind which place : Int} (hW : RelW μ ν) (hS : RelS μ ν) (hw : isT (ar ν) 1 T) (hT : RT ν 20 36 T) (hk : 0 ≤ kind ∧ kind ≤ 3) :
    ∃ r ν', f_X12_steps [vR 12 0, vI kind, vI which, vI place] ν = some (some (vI r), ν') ∧ FrS ν ν' ∧
      (match stp ν kind which place T with
      | .inl e => r = e
      | .inr T' => r = 0 ∧ RT ν' 21 38 T') := by
  have hR := hW.RCa
  have h20 : T.length ≤ 20 := hT.1.1
  have h4 := hW.2.1
  have h24 := hS.2.1
  rw [q_X12_steps, hT.2, wr_eq (by omega) (by omega), s_in, cI_t]
  unfold stp
  by_cases hpl : place < 0 ∨ (T.length : Int) ≤ place
  · rw [if_pos hpl, if_neg (show ¬ (0 ≤ place ∧ place ≤ (T.length : Int) - 1) by omega), if_pos rfl]
    exact ⟨-20, ν, rfl, frS_rf, rfl⟩
  rw [if_neg hpl, if_pos (show 0 ≤ place ∧ place ≤ (T.length : Int) - 1 by omega), if_neg ten]
  obtain ⟨P, rfl⟩ : ∃ P : Nat, place = (P : Int) := ⟨place.toNat, by omega⟩
  have hPl : P < T.length := by omega
  rw [show ((P : Int)).toNat = P by omega, hT.2]
  obtain ⟨m, hm⟩ := isT_drop T 1 P hw hPl
  have hend := s_endAtR (ν := ν) (c := 20) (p := P) (E := T.length) (m := m) hR.2.1 hR.2.2 hT.1 (by decide) (Nat.le_refl _) (by omega) (by rw [List.take_of_length_le (by rw [List.length_drop]; omega)]; exact hm)
  rw [hend, cI_t, show (P : Int) + (tl (ar ν) 1 (T.drop P) : Int) = ((P + tl (ar ν) 1 (T.drop P) : Nat) : Int) by omega]
  have fin : ∀ (ν1 ν2 : Mem) (pat ins : List Int), FrS ν ν1 → FrS ν1 ν2 → LT pat → LT ins → isT (ar ν) 1 pat → RT ν2 24 42 pat → RT ν2 25 44 ins → ∃ r ν', cI (f_X12_fits [vR 12 0, vI P, vI ((P + tl (ar ν) 1 (T.drop P) : Nat) : Int)] ν2) (fun x μ => if x = 0 then some (some (vI (-22)), μ) else cI (f_X12_puts [vR 12 0, vI P, vI ((P + tl (ar ν) 1 (T.drop P) : Nat) : Int)] μ) (fun y μ => some (some (vI y), μ))) = some (some (vI r), ν') ∧ FrS ν ν' ∧
      (match goP ν pat ins T P with
      | .inl e => r = e
      | .inr T' => r = 0 ∧ RT ν' 21 38 T') := by
    intro ν1 ν2 pat ins f1 f2 q1 q2 q3 q4 q5
    have f := frS_trans f1 f2
    obtain ⟨r, ν', b1, b2, b3⟩ := s_fpR (ν0 := ν) q1 q2 hPl hw q3 (hR.kept (frS_M f)) (hT.keptS f) q4 q5
    exact ⟨r, ν', b1, frS_trans f b2, b3⟩
  by_cases k1 : kind ≤ 1
  · rw [if_pos k1, if_pos k1, s_isSaying which ν ⟨hS.1, h24⟩, cI_t]
    by_cases hr : 0 ≤ which ∧ which < ν 0 5
    · obtain ⟨e, rfl⟩ : ∃ e : Nat, which = (e : Int) := ⟨which.toNat, by omega⟩
      have hs := hS.2.2.2.2.2.2.2.2 e hr.2
      rw [if_pos hr, if_neg ten, gk (lnR 7) 24 rfl (by omega) (by omega), show ((e : Int)).toNat = e by omega]
      have go : (∃ r ν', e_X12_steps_69 kind e P ((P + tl (ar ν) 1 (T.drop P) : Nat) : Int) none ν = some (some (vI r), ν') ∧ FrS ν ν' ∧
          (match if kind = 0 then goP ν (sL ν e 0) (sL ν e 1) T P else goP ν (sL ν e 1) (sL ν e 0) T P with
          | .inl e => r = e
          | .inr T' => r = 0 ∧ RT ν' 21 38 T')) := by
        have n0 : 0 ≤ ν 6 (2 * e + 0) ∧ ν 6 (2 * e + 0) ≤ 20 := ⟨by have := hs.1.1; omega, hs.1.2.1⟩
        have n1 : 0 ≤ ν 6 (2 * e + 1) ∧ ν 6 (2 * e + 1) ≤ 20 := ⟨by have := hs.2.1.1; omega, hs.2.1.2.1⟩
        rw [q_X12_steps_69]
        by_cases k0 : kind = 0
        · rw [if_pos k0, if_pos k0, q_X12_steps_80]
          obtain ⟨ν1, a1, a2, a3⟩ := s_copiesSide1 (ν := ν) (e := e) (k := 0) (by omega) (by omega) n0
          have a1' : f_X12_copiesSide [vR 12 0, vI e, vI 0, vI 1] ν = _ := a1
          obtain ⟨ν2, b1, b2, b3⟩ := s_copiesSide0 (ν := ν1) (e := e) (k := 1) (by omega) (by omega) (by rw [a2.1 6 (by omega) (by omega)]; exact n1)
          have b1' : f_X12_copiesSide [vR 12 0, vI e, vI 1, vI 0] ν1 = _ := b1
          rw [a1', cV_t, if_pos k0, b1', cV_t]
          rw [frM_sL (frG_M a2 (by omega) (by omega))] at b3
          exact fin ν1 ν2 _ _ (frS_G a2 (by omega) (by omega)) (frS_G b2 (by omega) (by omega)) hs.1.2.2.1 hs.2.1.2.2.1 hs.1.2.2.2 (a3.keptG b2 (by omega) (by omega) (by omega)) b3
        · rw [if_neg k0, if_neg k0, q_X12_steps_80]
          obtain ⟨ν1, a1, a2, a3⟩ := s_copiesSide1 (ν := ν) (e := e) (k := 1) (by omega) (by omega) n1
          have a1' : f_X12_copiesSide [vR 12 0, vI e, vI 1, vI 1] ν = _ := a1
          obtain ⟨ν2, b1, b2, b3⟩ := s_copiesSide0 (ν := ν1) (e := e) (k := 0) (by omega) (by omega) (by rw [a2.1 6 (by omega) (by omega)]; exact n0)
          have b1' : f_X12_copiesSide [vR 12 0, vI e, vI 0, vI 0] ν1 = _ := b1
          rw [a1', cV_t, if_neg k0, b1', cV_t]
          rw [frM_sL (frG_M a2 (by omega) (by omega))] at b3
          exact fin ν1 ν2 _ _ (frS_G a2 (by omega) (by omega)) (frS_G b2 (by omega) (by omega)) hs.2.1.2.2.1 hs.1.2.2.1 hs.2.1.2.2.2 (a3.keptG b2 (by omega) (by omega) (by omega)) b3
      by_cases s0 : ν 7 e = 0
      · rw [if_pos s0, if_neg (show ¬ ((e : Int) < 0 ∨ ν 0 5 ≤ (e : Int) ∨ ¬ (ν 7 e = 0 ∨ ν 7 e = 2)) by omega)]
        exact go
      · rw [if_neg s0, gk (lnR 7) 24 rfl (by omega) (by omega)]
        by_cases s2 : ν 7 e = 2
        · rw [if_pos s2, if_neg (show ¬ ((e : Int) < 0 ∨ ν 0 5 ≤ (e : Int) ∨ ¬ (ν 7 e = 0 ∨ ν 7 e = 2)) by omega)]
          exact go
        · rw [if_neg s2, if_pos (show ((e : Int) < 0 ∨ ν 0 5 ≤ (e : Int) ∨ ¬ (ν 7 e = 0 ∨ ν 7 e = 2)) by omega)]
          exact ⟨-21, ν, rfl, frS_rf, rfl⟩
    · rw [if_neg hr, if_pos rfl, if_pos (show (which < 0 ∨ ν 0 5 ≤ which ∨ ¬ (ν 7 which.toNat = 0 ∨ ν 7 which.toNat = 2)) by omega)]
      exact ⟨-21, ν, rfl, frS_rf, rfl⟩
  rw [if_neg k1, if_neg k1]
  by_cases k2 : kind = 2
  · rw [if_pos k2, if_pos k2, gk (lnR 20) 20 rfl (by omega) (by omega), hT.1.get hPl, s_wordBy hR.2.1, cI_t]
    have hat : atL T (P : Int) = T[P] := atL_in (by omega) (by rw [show ((P : Int)).toNat = P by omega]; exact List.getElem?_eq_getElem hPl)
    rw [hat]
    have hr := wb_range hW T[P]
    generalize wb ν T[P] = w at *
    by_cases hw4 : w = -4
    · rw [if_pos hw4, if_pos hw4]
      exact ⟨-21, ν, rfl, frS_rf, rfl⟩
    · rw [if_neg hw4, if_neg hw4]
      obtain ⟨v, rfl⟩ : ∃ v : Nat, w = (v : Int) := ⟨w.toNat, by omega⟩
      have hv : (v : Int) < ν 0 0 := by omega
      obtain ⟨⟨o1, o2, o3, o4, o5, o6, o7, o8⟩, -⟩ := hW.2.2.2.2.1 v hv
      rw [show ((v : Int)).toNat = v by omega]
      obtain ⟨ν1, a1, a2, a3⟩ := s_copiesWord1 (ν := ν) (w := v) (by omega) o3
      obtain ⟨ν2, b1, b2, b3⟩ := s_copiesMeaning0 (ν := ν1) (w := v) (by omega) (by rw [a2.1 3 (by omega) (by omega)]; omega)
      rw [a1, cV_t, b1, cV_t]
      rw [frM_mL (frG_M a2 (by omega) (by omega))] at b3
      exact fin ν1 ν2 _ _ (frS_G a2 (by omega) (by omega)) (frS_G b2 (by omega) (by omega)) (fcL_LT hW hv) o6 (fcL_isT hW hv) (a3.keptG b2 (by omega) (by omega) (by omega)) b3
  rw [if_neg k2, if_neg k2, s_isWord which ν ⟨hW.1, h4⟩, cI_t]
  by_cases hr : 0 ≤ which ∧ which < ν 0 0
  · rw [if_pos hr, if_neg ten, if_neg (show ¬ (which < 0 ∨ ν 0 0 ≤ which) by omega)]
    obtain ⟨v, rfl⟩ : ∃ v : Nat, which = (v : Int) := ⟨which.toNat, by omega⟩
    have hv : (v : Int) < ν 0 0 := by omega
    obtain ⟨⟨o1, o2, o3, o4, o5, o6, o7, o8⟩, -⟩ := hW.2.2.2.2.1 v hv
    rw [show ((v : Int)).toNat = v by omega]
    obtain ⟨ν1, a1, a2, a3⟩ := s_copiesMeaning1 (ν := ν) (w := v) (by omega) (by omega)
    obtain ⟨ν2, b1, b2, b3⟩ := s_copiesWord0 (ν := ν1) (w := v) (by omega) (by rw [a2.1 2 (by omega) (by omega)]; exact o3)
    rw [a1, cV_t, b1, cV_t]
    rw [frM_fcL (frG_M a2 (by omega) (by omega))] at b3
    exact fin ν1 ν2 _ _ (frS_G a2 (by omega) (by omega)) (frS_G b2 (by omega) (by omega)) o6 (fcL_LT hW hv) o7 (a3.keptG b2 (by omega) (by omega) (by omega)) b3
  · rw [if_neg hr, if_pos rfl, if_pos (show (which < 0 ∨ ν 0 0 ≤ which) by omega)]
    exact ⟨-21, ν, rfl, frS_rf, rfl⟩
