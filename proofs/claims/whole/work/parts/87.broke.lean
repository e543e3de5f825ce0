/-- e breaks -/
theorem INV.broke {μ0 ν0 μ ν μ' ν' : Mem} {w : Nat} {gone T : Int} {e i n t : Nat} (hL0 : RelL μ0 ν0) (h : INV μ0 ν0 w μ ν gone T) (he : (e : Int) < ν0 0 5) (h7 : ν 7 e = 2) (hT : ν0 13 e = T) (hu : ∀ f : Nat, (f : Int) < ν0 0 5 → ν 7 f = 2 → ν0 13 f = T → f = e) (hn : ν 11 e = (n : Int)) (hn0 : n ≠ 0) (ht : μ 23 7 = (t : Int))
    (r7 : ∀ f, ν' 7 f = if f = e then 3 else ν 7 f) (r12 : ∀ f, ν' 12 f = if f = e then (i : Int) else ν 12 f) (r17 : ∀ j, ν' 17 j = if j = 1000 * e + (ν 0 22).toNat then (3 : Int) + 1 else ν 17 j) (ro : ∀ c, c ≠ 0 → c ≠ 7 → c ≠ 12 → c ≠ 17 → ¬ (20 ≤ c ∧ c ≤ 25) → ν' c = ν c) (r0 : ∀ k, k ≠ 36 → k ≠ 38 → k ≠ 42 → k ≠ 44 → ν' 0 k = ν 0 k)
    (c2 : μ' (31 + 5 * e) 2 = 3) (c7 : μ' (31 + 5 * e) 7 = (i : Int)) (cs : ∀ k, k ≠ 2 → k ≠ 7 → k ≠ 10 → μ' (31 + 5 * e) k = μ (31 + 5 * e) k) (co : ∀ c, ¬ rwF 211 c → c ≠ 31 + 5 * e → c ≠ 23 → ¬ (28 ≤ c ∧ c ≤ 30) → μ' c = μ c) (c23 : ∀ k, k ≠ 7 → μ' 23 k = μ 23 k) (ct : μ' 23 7 = ((t + 1 : Nat) : Int)) (c28 : ∀ j, μ' 28 j = if j = t then ν 0 22 else μ 28 j) (c29 : ∀ j, μ' 29 j = if j = t then (e : Int) else μ 29 j) (c30 : ∀ j, μ' 30 j = if j = t then (3 : Int) else μ 30 j) :
    INV μ0 ν0 w μ' ν' (bOr gone (bShl 1 (e : Int))) (T + 1) := by
  obtain ⟨a, b, c, d, g, f, k, ii, j22, j45, j68⟩ := h
  obtain ⟨hTT, hH, hW, hS, hP, hI, hD, hG, hC⟩ := a
  have h5 := b.2.2.2.1
  have h24 : ν0 0 5 ≤ 24 := by rw [← h5]; exact hS.2.1
  have he24 : e < 24 := by omega
  have h07 : ν0 7 e = 2 := by
    rcases c e he with z | z
    · omega
    · omega
  obtain ⟨D, hDD⟩ : ∃ D : Nat, ν 0 22 = (D : Int) := ⟨(ν 0 22).toNat, by have := hH.2.2.1; omega⟩
  have hD9 : D < 1000 := by have := hH.2.2.2; omega
  have fq : FrQ ν ν' := ⟨fun c x y => ro c (by omega) (by omega) (by omega) (by omega) (by omega), r0 0 (by omega) (by omega) (by omega) (by omega), r0 5 (by omega) (by omega) (by omega) (by omega), r0 23 (by omega) (by omega) (by omega) (by omega)⟩
  have fc : FrC w ν ν' := ⟨fun c hc => ro c (by omega) (by omega) (by omega) (by omega) (by omega), fun v _ _ => by rw [frQ_mL fq], fq.2.1, fq.2.2.1, fq.2.2.2, r0 15 (by omega) (by omega) (by omega) (by omega), r0 16 (by omega) (by omega) (by omega) (by omega)⟩
  have s16 := fc.2.2.2.2.2.2
  have s15 := fc.2.2.2.2.2.1
  refine ⟨⟨?_, ?_, ?_, ?_, ?_, ?_, ?_, ?_, ?_⟩, frC_trans b fc, fun x hx => ?_, fun x hx => ?_, fun x hx h7' hlt => ?_, fun x hx h7' hge => ?_, ?_, fun x hx h7' => ?_, ?_, ?_, ?_⟩
  · exact (hTT.kept (by rw [co 151 (by unfold rwF; omega) (by omega) (by omega) (by omega)]) (by rw [co 151 (by unfold rwF; omega) (by omega) (by omega) (by omega)]) (co 152 (by unfold rwF; omega) (by omega) (by omega) (by omega))).keptR (r0 25 (by omega) (by omega) (by omega) (by omega)) (r0 30 (by omega) (by omega) (by omega) (by omega)) (ro 18 (by omega) (by omega) (by omega) (by omega) (by omega))
  · unfold RelH at *
    rw [co 0 (by unfold rwF; omega) (by omega) (by omega) (by omega), r0 21 (by omega) (by omega) (by omega) (by omega), r0 22 (by omega) (by omega) (by omega) (by omega)]
    exact hH
  · exact (hW.kept (fun c x y => co c (by unfold rwF; omega) (by omega) (by omega) (by omega))).keptQ fq
  · obtain ⟨s1, s2, s3, s4, s5, s6, s7, s8, s9⟩ := hS
    refine ⟨by rw [fq.2.2.1]; exact s1, by rw [fq.2.2.1]; exact s2, by rw [fq.2.2.1, c23 9 (by omega)]; exact s3, by rw [s16]; exact s4, by rw [s16]; exact s5, by rw [s16, c23 10 (by omega)]; exact s6, by rw [s15]; exact ⟨s7.1, by omega⟩, by rw [s15, c23 8 (by omega)]; exact s8, fun x hx => ?_⟩
    rw [fq.2.2.1] at hx
    obtain ⟨q1, q2, q3, q4, q5, q6, q7, q8, q9, q10, q11, q12, q13⟩ := s9 x hx
    unfold okS at q1 q2 ⊢
    rw [frQ_sL fq, frQ_ar fq, frQ_c fq (c := 6) (by omega), fc.1 8 (by omega), fc.1 9 (by omega), fc.1 10 (by omega), fc.1 11 (by omega), fc.1 13 (by omega), s16, r7, r12]
    refine ⟨q1, q2, ?_, ?_, ?_⟩
    · unfold TH at q3 ⊢
      rw [co (32 + 5 * x) (by unfold rwF; omega) (by omega) (by omega) (by omega), co (32 + 5 * x + 1) (by unfold rwF; omega) (by omega) (by omega) (by omega)]
      exact q3
    · unfold TH at q4 ⊢
      rw [co (34 + 5 * x) (by unfold rwF; omega) (by omega) (by omega) (by omega), co (34 + 5 * x + 1) (by unfold rwF; omega) (by omega) (by omega) (by omega)]
      exact q4
    · by_cases z : x = e
      · subst z
        rw [if_pos rfl, if_pos rfl, c2, c7, cs 3 (by omega) (by omega) (by omega), cs 4 (by omega) (by omega) (by omega), cs 5 (by omega) (by omega) (by omega), cs 6 (by omega) (by omega) (by omega), cs 8 (by omega) (by omega) (by omega)]
        exact ⟨rfl, by omega, by omega, q8, q9, fun y => by omega, fun _ => q11 (by omega), fun _ => rfl, fun y => by omega⟩
      · rw [if_neg z, if_neg z, co (31 + 5 * x) (by unfold rwF; omega) (by omega) (by omega) (by omega)]
        exact ⟨q5, q6, q7, q8, q9, q10, q11, q12, q13⟩
  · intro x hx
    rw [s16] at hx
    rw [fc.1 14 (by omega), fc.1 15 (by omega), fc.1 16 (by omega), fq.2.2.1, co 25 (by unfold rwF; omega) (by omega) (by omega) (by omega), co 26 (by unfold rwF; omega) (by omega) (by omega) (by omega), co 27 (by unfold rwF; omega) (by omega) (by omega) (by omega)]
    exact hP x hx
  · rcases hI with ⟨x1, x2, x3⟩ | ⟨x1, _⟩
    · refine Or.inl ⟨by rw [r0 45 (by omega) (by omega) (by omega) (by omega)]; exact x1, ?_, ?_⟩
      · rw [co 163 (by unfold rwF; omega) (by omega) (by omega) (by omega)]; exact x2
      · rw [co 163 (by unfold rwF; omega) (by omega) (by omega) (by omega)]; exact x3
    · omega
  · have r17' : ∀ j, ν' 17 j = if j = 1000 * e + D then (3 : Int) + 1 else ν 17 j := fun j => by rw [r17, hDD, show ((D : Int)).toNat = D by omega]
    have c28' : ∀ j, μ' 28 j = if j = t then (D : Int) else μ 28 j := fun j => by rw [c28, hDD]
    refine hD.turn (v := 3) (by omega) hS.2.1 hDD hD9 ht (by omega) (Or.inr rfl) r7 (fc.1 9 (by omega)) fq.2.2.1 (r0 22 (by omega) (by omega) (by omega) (by omega)) r17' ct c28' c29 c30 ?_
    have hb := hD.2.1
    rw [ht] at hb
    rw [ct, s16, fc.1 11 (by omega)]
    have e2 : cnt (fun x => decide (ν' 7 x = 2 ∧ ν 11 x = 0)) (ν 0 5).toNat = cnt (fun x => decide (ν 7 x = 2 ∧ ν 11 x = 0)) (ν 0 5).toNat := cnt_congr _ (fun x hx => by
      rw [r7]
      by_cases y : x = e
      · subst y
        rw [if_pos rfl, decide_eq_false (show ¬ ((3 : Int) = 2 ∧ ν 11 x = 0) by omega), decide_eq_false (show ¬ (ν 7 x = 2 ∧ ν 11 x = 0) by omega)]
      · rw [if_neg y])
    have e1 : cnt (fun x => decide (ν 7 x = 2 ∧ ν 11 x ≠ 0)) (ν 0 5).toNat = cnt (fun x => decide (ν' 7 x = 2 ∧ ν 11 x ≠ 0)) (ν 0 5).toNat + 1 := cnt_one (e := e) _ (by omega) (fun x hx y => by rw [r7, if_neg y]) (decide_eq_true ⟨h7, by omega⟩) (by rw [r7, if_pos rfl, decide_eq_false (show ¬ ((3 : Int) = 2 ∧ ν 11 e ≠ 0) by omega)])
    rw [e2]
    rw [e1] at hb
    omega
  · exact Or.inl (by rw [r0 68 (by omega) (by omega) (by omega) (by omega)]; exact j68)
  · exact (hC.kept (fun c x y => co c (by unfold rwF; omega) (by omega) (by omega) (by omega))).keptR (ro 51 (by omega) (by omega) (by omega) (by omega) (by omega)) (ro 52 (by omega) (by omega) (by omega) (by omega) (by omega)) (ro 53 (by omega) (by omega) (by omega) (by omega) (by omega))
  · rw [r7]
    by_cases z : x = e
    · subst z
      rw [if_pos rfl]
      exact Or.inr ⟨h07, rfl, by omega⟩
    · rw [if_neg z]
      rcases c x hx with y | y
      · exact Or.inl y
      · exact Or.inr ⟨y.1, y.2.1, by omega⟩
  · by_cases z : x = e
    · subst z
      rw [cs 9 (by omega) (by omega) (by omega)]
      exact d x hx
    · rw [co (31 + 5 * x) (by unfold rwF; omega) (by omega) (by omega) (by omega)]
      exact d x hx
  · rw [r7] at h7'
    by_cases z : x = e
    · rw [if_pos z] at h7'; omega
    · rw [if_neg z] at h7'
      have hne : ν0 13 x ≠ T := fun y => z (hu x hx h7' y)
      have hlt' : ν0 13 x < T := by omega
      have h0x : ν0 7 x = 2 := by
        rcases c x hx with y | y
        · omega
        · omega
      obtain ⟨p1, p2, p3, p4, p5⟩ := g x hx h7' hlt'
      have useNe : ∀ y : Nat, USE ν0 x y → y ≠ e := fun y hy q => by
        have := (hL0 x hx h0x).2.2.2.2.1 y hy
        subst q
        omega
      have hs2 := (hS.2.2.2.2.2.2.2.2 x (by rw [h5]; exact hx)).2.2.2.2.2.2.2.2.2.2.1 (by omega)
      have kk := run_kept2 fq (k := ν 14) (w := ν 15) (p := ν 16) (k' := ν' 14) (w' := ν' 15) (p' := ν' 16) (ν 11 x).toNat (ν 10 x).toNat (sL ν x 0) (sL ν x 1) (fun j ja jb => by
        rw [fc.1 14 (by omega), fc.1 15 (by omega), fc.1 16 (by omega)]
        refine ⟨rfl, rfl, rfl, fun k1 q => ?_⟩
        have pj := (hP j (by omega)).2.2.2.2.2.2.2 k1
        rw [r7, if_neg (useNe _ ⟨hx, h0x, j - (ν 10 x).toNat, ?_, ?_, ?_⟩)]
        · exact q
        · rw [← b.1 11 (by omega)]; omega
        · rw [← b.1 10 (by omega), ← b.1 14 (by omega), show (ν 10 x).toNat + (j - (ν 10 x).toNat) = j by omega]; exact k1
        · rw [← b.1 10 (by omega), ← b.1 15 (by omega), show (ν 10 x).toNat + (j - (ν 10 x).toNat) = j by omega]; omega) p1
      have x10 : μ' (31 + 5 * x) = μ (31 + 5 * x) := co (31 + 5 * x) (by unfold rwF; omega) (by omega) (by omega) (by omega)
      unfold PRF
      rw [fc.1 10 (by omega), fc.1 11 (by omega), frQ_sL fq, x10]
      refine ⟨kk.1, fun y hy => ?_, p3, p4, fun v hv => (p5 v hv).trans (kk.2 v).symm⟩
      rw [r7, if_neg (useNe y hy)]
      exact p2 y hy
  · rw [r7] at h7'
    by_cases z : x = e
    · rw [if_pos z] at h7'; omega
    · rw [if_neg z] at h7'
      rw [co (31 + 5 * x) (by unfold rwF; omega) (by omega) (by omega) (by omega)]
      exact f x hx h7' (by omega)
  · refine (k.or (MK.shl (f := e) he24)).congr (fun x => ⟨?_, ?_⟩)
    · rintro (⟨y1, y2, y3⟩ | y)
      · refine ⟨y1, y2, ?_⟩
        rw [r7]
        split
        · rfl
        · exact y3
      · subst y
        exact ⟨he, h07, by rw [r7, if_pos rfl]⟩
    · rintro ⟨y1, y2, y3⟩
      by_cases z : x = e
      · exact Or.inr z
      · rw [r7, if_neg z] at y3
        exact Or.inl ⟨y1, y2, y3⟩
  · rw [ro 29 (by omega) (by omega) (by omega) (by omega) (by omega)]; exact ii x hx h7'
  · rw [r0 22 (by omega) (by omega) (by omega) (by omega)]; exact j22
  · rw [r0 45 (by omega) (by omega) (by omega) (by omega)]; exact j45
  · rw [r0 68 (by omega) (by omega) (by omega) (by omega)]; exact j68
