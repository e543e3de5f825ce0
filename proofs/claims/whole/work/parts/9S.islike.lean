/-! isLike of the class -/
theorem bAnd1 {h : Int} (h0 : 0 ≤ h ∧ h ≤ 7) : bAnd h 1 = 0 ↔ ¬ (bRem h 2 = 1) := by
  have : h = 0 ∨ h = 1 ∨ h = 2 ∨ h = 3 ∨ h = 4 ∨ h = 5 ∨ h = 6 ∨ h = 7 := by omega
  rcases this with q | q | q | q | q | q | q | q <;> subst q <;> decide
theorem sgm_sgm (k : Nat) : sgm (sgm k) = k := by
  unfold sgm
  by_cases h2 : k = 2
  · subst h2; rfl
  · by_cases h3 : k = 3
    · subst h3; rfl
    · rw [if_neg h2, if_neg h3, if_neg h2, if_neg h3]
def SLk : Nat → Prop := fun c => 785 ≤ c ∧ c ≤ 795
theorem ne10 : ¬ (1 : Int) = 0 := by decide
theorem s_69 {ν : Mem} {A B K0 K1 : List Int} {how : Int} (h7 : 0 ≤ how ∧ how ≤ 7) (hA : okU (ar ν) A ∧ A.length ≤ 200) (hB : okU (ar ν) B ∧ B.length ≤ 200) : ∀ (j k : Nat) (μ : Mem) (o1 : Option AV), k + j = 6 → RelW μ ν → μ 780 10 = how → TH μ 781 A → TH μ 783 B → TH μ 785 K0 → TH μ 787 K1 → ∃ (r : Int) (μ' : Mem), e_X0_isLike_69 o1 ((3 * k : Nat) : Int) μ = some (some (vI r), μ') ∧ Fr μ μ' SLk ∧ (r = 0 ∨ r = 1) ∧ (r = 1 ↔ ∃ k', k ≤ k' ∧ k' < 6 ∧ LKo ν how (sgm k') A B K0 K1)
  | 0, k, μ, o1, hj, hW, hh, tA, tB, t0, t1 => by
    rw [q_X0_isLike_69, wr_eq (by omega) (by omega), show ((sLn 4 : Nat) : Int) = 18 from rfl, if_neg (by omega), gz_0]
    exact ⟨0, μ, rfl, Fr.rf, Or.inl rfl, fun h => by omega, fun ⟨k', h1, h2, _⟩ => by omega⟩
  | j + 1, k, μ, o1, hj, hW, hh, tA, tB, t0, t1 => by
    have hk : k < 6 := by omega
    obtain ⟨μ1, a1, a2, a3⟩ := s_rename (t := 781) (u := 789) hk hA.1.2 (show _ ≤ 200 from hA.2) (by omega) tA
    have tB1 := tB.kept a2 (by unfold tS; omega) (by unfold tS; omega)
    obtain ⟨μ2, b1, b2, b3⟩ := s_rename (t := 783) (u := 791) hk hB.1.2 (show _ ≤ 200 from hB.2) (by omega) tB1
    have a3' := a3.kept b2 (by unfold tS; omega) (by unfold tS; omega)
    have F2 : Fr μ μ2 SLk := (a2.mono (fun c hc => by unfold tS at hc; unfold SLk; omega)).trans (b2.mono (fun c hc => by unfold tS at hc; unfold SLk; omega))
    have wk : ∀ {μ' : Mem}, Fr μ μ' SLk → RelW μ' ν := fun f => hW.kept (fun c _ _ => f c (by unfold SLk; omega))
    have hk' : ∀ {μ' : Mem}, Fr μ μ' SLk → μ' 780 10 = how := fun f => by rw [f 780 (by unfold SLk; omega)]; exact hh
    have mA := map_ok (sgm_lt hk) hA.1.1 hA.1.2
    have mB := map_ok (sgm_lt hk) hB.1.1 hB.1.2
    obtain ⟨μ3, c1, c2, c3⟩ := s_sortMates (t := 789) (by omega) (wk F2) (hk' F2) h7 a3' mA.1 mA.2 (by rw [List.length_map]; exact hA.2)
    have F3 : Fr μ μ3 SLk := F2.trans (c2.mono (fun c hc => by unfold S95 tS at hc; unfold SLk; omega))
    have b3' := b3.kept c2 (by unfold S95 tS; omega) (by unfold S95 tS; omega)
    obtain ⟨μ4, d1, d2, d3⟩ := s_sortMates (t := 791) (by omega) (wk F3) (hk' F3) h7 b3' mB.1 mB.2 (by rw [List.length_map]; exact hB.2)
    have F4 : Fr μ μ4 SLk := F3.trans (d2.mono (fun c hc => by unfold S95 tS at hc; unfold SLk; omega))
    have c3' : TH μ4 789 (tdy ν (bAnd how 2 = 2) (sgm k) A) := c3.kept d2 (by unfold S95 tS; omega) (by unfold S95 tS; omega)
    have d3' : TH μ4 791 (tdy ν (bAnd how 2 = 2) (sgm k) B) := d3
    have G4 : ∀ {t : Nat} {L : List Int}, (781 ≤ t ∧ t ≤ 787 ∧ t % 2 = 1) → TH μ t L → TH μ4 t L := fun {t L} ht h => by
      have h1 := h.kept a2 (by unfold tS; omega) (by unfold tS; omega)
      have h2 := h1.kept b2 (by unfold tS; omega) (by unfold tS; omega)
      have h3 := h2.kept c2 (by unfold S95 tS; omega) (by unfold S95 tS; omega)
      exact h3.kept d2 (by unfold S95 tS; omega) (by unfold S95 tS; omega)
    have no : ∀ (p1 : Option AV), ¬ LKo ν how (sgm k) A B K0 K1 → ∃ (r : Int) (μ' : Mem), e_X0_isLike_69 p1 ((3 * (k + 1) : Nat) : Int) μ4 = some (some (vI r), μ') ∧ Fr μ μ' SLk ∧ (r = 0 ∨ r = 1) ∧ (r = 1 ↔ ∃ k', k ≤ k' ∧ k' < 6 ∧ LKo ν how (sgm k') A B K0 K1) := fun p1 h => by
      obtain ⟨r, μ', x1, x2, x3, x4⟩ := s_69 h7 hA hB j (k + 1) μ4 p1 (by omega) (wk F4) (hk' F4) (G4 (by omega) tA) (G4 (by omega) tB) (G4 (by omega) t0) (G4 (by omega) t1)
      refine ⟨r, μ', x1, F4.trans x2, x3, x4.trans ⟨fun ⟨o', h1, h2, h3⟩ => ⟨o', by omega, h2, h3⟩, fun ⟨o', h1, h2, h3⟩ => ⟨o', ?_, h2, h3⟩⟩⟩
      rcases Nat.lt_or_ge k o' with z | z
      · exact z
      · have : o' = k := by omega
        subst this; exact absurd h3 h
    have yes : LKo ν how (sgm k) A B K0 K1 → ∃ (r : Int) (μ' : Mem), (some (some (vI 1), μ4) : Option Rs) = some (some (vI r), μ') ∧ Fr μ μ' SLk ∧ (r = 0 ∨ r = 1) ∧ (r = 1 ↔ ∃ k', k ≤ k' ∧ k' < 6 ∧ LKo ν how (sgm k') A B K0 K1) := fun h => ⟨1, μ4, rfl, F4, Or.inr rfl, fun _ => ⟨k, Nat.le_refl _, hk, h⟩, fun _ => rfl⟩
    have sec : ∀ (p1 : Option AV), ¬ (tdy ν (bAnd how 2 = 2) (sgm k) A = K0 ∧ tdy ν (bAnd how 2 = 2) (sgm k) B = K1) → ∃ (r : Int) (μ' : Mem), e_X0_isLike_151 p1 ((3 * k : Nat) : Int) μ4 = some (some (vI r), μ') ∧ Fr μ μ' SLk ∧ (r = 0 ∨ r = 1) ∧ (r = 1 ↔ ∃ k', k ≤ k' ∧ k' < 6 ∧ LKo ν how (sgm k') A B K0 K1) := fun p1 h => by
      rw [q_X0_isLike_151, hk' F4, wr_eq (by omega) (by omega), show ((3 * k : Nat) : Int) + 3 = ((3 * (k + 1) : Nat) : Int) by omega]
      by_cases q : bAnd how 1 = 0
      · rw [if_pos q]
        exact no _ (fun w => w.elim h (fun w => (bAnd1 h7).mp q w.1))
      · have q' : bRem how 2 = 1 := by
          by_cases z : bRem how 2 = 1
          · exact z
          · exact absurd ((bAnd1 h7).mpr z) q
        rw [if_neg q, s_same c3' (G4 (by omega) t1), cI_t]
        by_cases z : tdy ν (bAnd how 2 = 2) (sgm k) A = K1
        · rw [if_pos z, if_neg ne10, s_same d3' (G4 (by omega) t0), cI_t]
          by_cases y : tdy ν (bAnd how 2 = 2) (sgm k) B = K0
          · rw [if_pos y, if_neg ne10, gz_1]; exact yes (Or.inr ⟨q', z, y⟩)
          · rw [if_neg y, if_pos rfl]; exact no _ (fun w => w.elim h (fun w => y w.2.2))
        · rw [if_neg z, if_pos rfl]; exact no _ (fun w => w.elim h (fun w => z w.2.1))
    rw [q_X0_isLike_69, wr_eq (by omega) (by omega), show ((sLn 4 : Nat) : Int) = 18 from rfl, if_pos (by omega), a1, cV_t, b1, cV_t, c1, cV_t, d1, cV_t, s_same c3' (G4 (by omega) t0), cI_t]
    by_cases z : tdy ν (bAnd how 2 = 2) (sgm k) A = K0
    · rw [if_pos z, if_neg ne10, s_same d3' (G4 (by omega) t1), cI_t]
      by_cases y : tdy ν (bAnd how 2 = 2) (sgm k) B = K1
      · rw [if_pos y, if_neg ne10, gz_1]; exact yes (Or.inl ⟨z, y⟩)
      · rw [if_neg y, if_pos rfl]; exact sec _ (fun w => y w.2)
    · rw [if_neg z, if_pos rfl]; exact sec _ (fun w => z w.1)
theorem s_isLike {μ ν : Mem} {A B : List Int} {how : Int} {e f : Nat} (hW : RelW μ ν) (hS : RelS μ ν) (h7 : 0 ≤ how ∧ how ≤ 7) (he : (e : Int) < ν 0 5) (hf : (f : Int) < ν 0 5) (hr : rdy ν how e = some (A, B)) (hh : μ 780 10 = how) (tA : TH μ 781 A) (tB : TH μ 783 B) : ∃ (r : Int) (μ' : Mem), f_X0_isLike [vR 0 780, vI f] μ = some (some (vI r), μ') ∧ Fr μ μ' SLk ∧ (r = 0 ∨ r = 1) ∧ (r = 1 ↔ LIKE ν how e f) := by
  obtain ⟨oA, oB⟩ := rdy_ok hW hS he hr
  obtain ⟨μ1, a1, a2, a3⟩ := s_makeReady (a := 785) (b := 787) hW hS hf hh h7 (by omega) (by omega) (by omega) rfl rfl
  have F1 : Fr μ μ1 SLk := a2.mono (fun c hc => by unfold SRd tS at hc; unfold SLk; omega)
  have wk : ∀ {μ' : Mem}, Fr μ μ' SLk → RelW μ' ν := fun f => hW.kept (fun c _ _ => f c (by unfold SLk; omega))
  have hk' : ∀ {μ' : Mem}, Fr μ μ' SLk → μ' 780 10 = how := fun f => by rw [f 780 (by unfold SLk; omega)]; exact hh
  rw [q_X0_isLike, a1, cI_t]
  cases hf2 : rdy ν how f with
  | none =>
    rw [if_neg (show ¬ (none : Option (List Int × List Int)).isSome = true by decide), if_pos rfl, gz_0]
    refine ⟨0, μ1, rfl, F1, Or.inl rfl, fun h => by omega, ?_⟩
    rintro ⟨A', B', C', D', _, h2, _⟩
    rw [hf2] at h2; cases h2
  | some CD =>
    obtain ⟨C, D⟩ := CD
    obtain ⟨tC, tD⟩ := a3 C D hf2
    obtain ⟨oC, oD⟩ := rdy_ok hW hS hf hf2
    have uniq : ∀ P : List Int → List Int → List Int → List Int → Prop, (∃ A' B' C' D', rdy ν how e = some (A', B') ∧ rdy ν how f = some (C', D') ∧ P A' B' C' D') ↔ P A B C D := fun P => by
      constructor
      · rintro ⟨A', B', C', D', h1, h2, h3⟩
        rw [hr] at h1
        rw [hf2] at h2
        injection h1 with h1
        injection h1 with x1 x2
        injection h2 with h2
        injection h2 with x3 x4
        subst x1; subst x2; subst x3; subst x4
        exact h3
      · exact fun h => ⟨A, B, C, D, hr, hf2, h⟩
    have hLK : LIKE ν how e f ↔ ∃ o, o < 6 ∧ LKo ν how o A B (tdy ν (bAnd how 2 = 2) 0 C) (tdy ν (bAnd how 2 = 2) 0 D) := uniq (fun A B C D => ∃ o, o < 6 ∧ LKo ν how o A B (tdy ν (bAnd how 2 = 2) 0 C) (tdy ν (bAnd how 2 = 2) 0 D))
    have tA1 := tA.kept a2 (by unfold SRd tS; omega) (by unfold SRd tS; omega)
    have tB1 := tB.kept a2 (by unfold SRd tS; omega) (by unfold SRd tS; omega)
    have lA := oA.2
    have lB := oB.1
    have lB2 := oB.2
    have lC := oC.2
    have lD := oD.2
    rw [if_pos (show (some (C, D)).isSome = true from rfl), if_neg ne10, tA1.1, tB1.1, tC.1, tD.1, wr_eq (x := (A.length : Int) + (B.length : Int)) (by omega) (by omega), wr_eq (x := (C.length : Int) + (D.length : Int)) (by omega) (by omega)]
    by_cases q : (A.length : Int) + (B.length : Int) = (C.length : Int) + (D.length : Int)
    · rw [if_pos q]
      obtain ⟨μ2, b1, b2, b3⟩ := s_sortMates (t := 785) (by omega) (wk F1) (hk' F1) h7 tC oC.1.1 oC.1.2 oC.2
      have F2 : Fr μ μ2 SLk := F1.trans (b2.mono (fun c hc => by unfold S95 tS at hc; unfold SLk; omega))
      have tD2 := tD.kept b2 (by unfold S95 tS; omega) (by unfold S95 tS; omega)
      obtain ⟨μ3, c1, c2, c3⟩ := s_sortMates (t := 787) (by omega) (wk F2) (hk' F2) h7 tD2 oD.1.1 oD.1.2 oD.2
      have F3 : Fr μ μ3 SLk := F2.trans (c2.mono (fun c hc => by unfold S95 tS at hc; unfold SLk; omega))
      have b3' := b3.kept c2 (by unfold S95 tS; omega) (by unfold S95 tS; omega)
      have eC : tdy ν (bAnd how 2 = 2) 0 C = if bAnd how 2 = 2 then srt (ar ν) C else C := by unfold tdy; rw [map_0 oC.1.2]
      have eD : tdy ν (bAnd how 2 = 2) 0 D = if bAnd how 2 = 2 then srt (ar ν) D else D := by unfold tdy; rw [map_0 oD.1.2]
      rw [← eC] at b3'
      rw [← eD] at c3
      have tA3 := (tA1.kept b2 (by unfold S95 tS; omega) (by unfold S95 tS; omega)).kept c2 (by unfold S95 tS; omega) (by unfold S95 tS; omega)
      have tB3 := (tB1.kept b2 (by unfold S95 tS; omega) (by unfold S95 tS; omega)).kept c2 (by unfold S95 tS; omega) (by unfold S95 tS; omega)
      obtain ⟨r, μ4, d1, d2, d3, d4⟩ := s_69 (how := how) h7 oA oB 6 0 μ3 (some (vI (f : Int))) (by omega) (wk F3) (hk' F3) tA3 tB3 b3' c3
      have d1' : e_X0_isLike_69 (some (vI (f : Int))) 0 μ3 = _ := d1
      rw [b1, cV_t, c1, cV_t, d1']
      refine ⟨r, μ4, rfl, F3.trans d2, d3, d4.trans (Iff.trans ?_ hLK.symm)⟩
      constructor
      · rintro ⟨k, _, h2, h3⟩
        exact ⟨sgm k, sgm_lt h2, h3⟩
      · rintro ⟨o, h2, h3⟩
        exact ⟨sgm o, Nat.zero_le _, sgm_lt h2, by rw [sgm_sgm]; exact h3⟩
    · rw [if_neg q, gz_0]
      refine ⟨0, μ1, rfl, F1, Or.inl rfl, fun h => by omega, fun h => ?_⟩
      obtain ⟨o, _, h⟩ := hLK.mp h
      exfalso
      apply q
      have len : ∀ (o : Nat) (X Y : List Int), tdy ν (bAnd how 2 = 2) o X = tdy ν (bAnd how 2 = 2) 0 Y → X.length = Y.length := fun o X Y h => by
        have := congrArg List.length h
        rw [tdy_len, tdy_len] at this
        exact this
      rcases h with ⟨h1, h2⟩ | ⟨_, h1, h2⟩
      · rw [len o A C h1, len o B D h2]
      · rw [len o A D h1, len o B C h2]; omega
