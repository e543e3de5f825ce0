/-! text: the relation when all lines are told (or none) -/
theorem cnt_ext {P Q : Nat → Bool} {a b : Nat} (h : a ≤ b) (h1 : ∀ k, k < a → P k = Q k) (h2 : ∀ k, a ≤ k → k < b → P k = false) : cnt P b = cnt Q a := by
  obtain ⟨d, rfl⟩ : ∃ d, b = a + d := ⟨b - a, by omega⟩
  rw [cnt_add, cnt_congr a h1]
  have : ∀ n, n ≤ d → cnt (fun k => P (a + k)) n = 0 := fun n => by
    induction n with
    | zero => intro _; rfl
    | succ n ih =>
      intro hn
      unfold cnt
      rw [ih (by omega), h2 (a + n) (by omega) (by omega)]
      rfl
  rw [this d (Nat.le_refl _)]
  omega
theorem asC_none {μ : Mem} {e : Nat} {d st : Int} : ∀ t : Nat, (∀ i, i < t → μ 29 i ≠ (e : Int)) → asC μ e d st t = if st = 0 then 0 else 1
  | 0, _ => rfl
  | t + 1, h => by
    have u : asC μ e d st (t + 1) = if μ 29 t = (e : Int) ∧ μ 28 t ≤ d then μ 30 t else asC μ e d st t := rfl
    rw [u, if_neg (fun z => h t (by omega) z.1), asC_none t (fun i hi => h i (by omega))]
theorem asR_old {ν ν' : Mem} {e : Nat} : ∀ d, (∀ x, x ≤ d → ν' 17 (1000 * e + x) = ν 17 (1000 * e + x)) → asR ν' e d = asR ν e d
  | 0, h => by
    have := h 0 (by omega)
    rw [Nat.add_zero] at this
    unfold asR
    rw [this]
  | d + 1, h => by
    unfold asR
    rw [h (d + 1) (by omega), asR_old d (fun x hx => h x (by omega))]
theorem asR_one {ν : Mem} {e D : Nat} {v : Int} (hv : 0 ≤ v) (h : ∀ x, x < 1000 → ν 17 (1000 * e + x) = if x = D then v + 1 else 0) : ∀ d, d < 1000 → asR ν e d = if d < D then -4 else v
  | 0, hd => by
    have := h 0 (by omega)
    rw [Nat.add_zero] at this
    unfold asR
    rw [this]
    by_cases z : 0 = D
    · rw [if_pos z, if_neg (by omega), if_neg (by omega)]; omega
    · rw [if_neg z, if_pos rfl, if_pos (by omega)]
  | d + 1, hd => by
    unfold asR
    rw [h (d + 1) hd, asR_one hv h d (by omega)]
    by_cases z : d + 1 = D
    · rw [if_pos z, if_neg (by omega), if_neg (by omega)]; omega
    · rw [if_neg z, if_pos rfl]
      by_cases y : d < D
      · rw [if_pos y, if_pos (by omega)]
      · rw [if_neg y, if_neg (by omega)]
theorem fin_rel {μ0 ν0 μ' ν' : Mem} (h0 : Rel μ0 ν0) (hE : EXT ν0 ν') (hW' : RelW μ' ν') (oc : OLDC μ0 ν0 μ') (hT' : RelT μ' ν') (h21 : ν' 0 21 = ν0 0 21) (h22 : ν' 0 22 = ν0 0 22) (n24 : ν' 0 5 ≤ 24) (m9 : μ' 23 9 = ν' 0 5)
    (new : ∀ e : Nat, ν0 0 5 ≤ (e : Int) → (e : Int) < ν' 0 5 → okS ν' e 0 ∧ okS ν' e 1 ∧ TH μ' (32 + 5 * e) (sL ν' e 0) ∧ TH μ' (34 + 5 * e) (sL ν' e 1) ∧ μ' (31 + 5 * e) 2 = ν' 7 e ∧ (ν' 7 e = 0 ∨ ν' 7 e = 1) ∧ μ' (31 + 5 * e) 3 = ν' 8 e ∧ μ' (31 + 5 * e) 4 = ν' 9 e ∧ ν' 9 e = ν0 0 22 ∧ ν' 10 e = -4 ∧ μ' (31 + 5 * e) 6 = -4 ∧ ν' 11 e = 0)
    (h17 : ∀ e d : Nat, e < 24 → d < 1000 → ν' 17 (1000 * e + d) = if ν0 0 5 ≤ (e : Int) ∧ (e : Int) < ν' 0 5 ∧ (d : Int) = ν0 0 22 then ν' 7 e + 1 else ν0 17 (1000 * e + d))
    (k26 : ν' 26 = ν0 26) (k27 : ν' 27 = ν0 27) (k28 : ν' 28 = ν0 28) (h45 : ν' 0 45 = ν0 0 45) (h46 : ν' 0 46 = ν0 0 46) (k51 : ν' 51 = ν0 51) (k52 : ν' 52 = ν0 52) (k53 : ν' 53 = ν0 53) (hG' : RelG μ' ν') : Rel μ' ν' := by
  obtain ⟨hT, hH, hW, hS, hP, hI, hD, hL, hG, hC⟩ := h0
  obtain ⟨oc1, oc2, oc3, oc4, oc5⟩ := oc
  have h5 := hE.2.2.2.1
  have n0 := hS.1
  have x14 := hE.2.2.2.2.2.1
  have x15 := hE.2.2.2.2.2.2.1
  have x16 := hE.2.2.2.2.2.2.2.1
  have z15 := hE.2.2.2.2.2.2.2.2.1
  have z16 := hE.2.2.2.2.2.2.2.2.2
  have sc : ∀ e : Nat, (e : Int) < ν0 0 5 → μ' (31 + 5 * e) = μ0 (31 + 5 * e) := fun e he => by have := oc3 e he 0 (by omega); rw [Nat.add_zero] at this; exact this
  refine ⟨hT', ?_, hW', ?_, ?_, ?_, ?_, ?_, hG', ?_⟩
  · unfold RelH at *
    rw [oc1 0 (by omega), h21, h22]
    exact hH
  · obtain ⟨s1, s2, s3, s4, s5, s6, s7, s8, s9⟩ := hS
    refine ⟨by omega, n24, m9, by rw [z16]; exact s4, by rw [z16]; exact s5, by rw [z16, oc2 10 (by omega)]; exact s6, by rw [z15, oc2 7 (by omega)]; exact s7, by rw [z15, oc2 8 (by omega)]; exact s8, fun e he => ?_⟩
    by_cases old : (e : Int) < ν0 0 5
    · obtain ⟨q1, q2, q3, q4, q5, q6, q7, q8, q9, q10, q11, q12, q13⟩ := s9 e old
      obtain ⟨p1, p2, p3, p4, p5, p6, p7, p8⟩ := hE.2.2.2.2.1 e old
      unfold okS at q1 q2 ⊢
      rw [(p1 0 (by omega)).1, (p1 1 (by omega)).1, (p1 0 (by omega)).2, (p1 1 (by omega)).2, p2, p3, p4, p5, p6, p7, p8, z16, sc e old]
      refine ⟨⟨q1.1, q1.2.1, q1.2.2.1, ext_isT hW hE q1.2.2.2⟩, ⟨q2.1, q2.2.1, q2.2.2.1, ext_isT hW hE q2.2.2.2⟩, ?_, ?_, q5, q6, q7, q8, q9, q10, q11, q12, q13⟩
      · unfold TH at q3 ⊢
        have a := oc3 e old 1 (by omega)
        have b := oc3 e old 2 (by omega)
        rw [show 31 + 5 * e + 1 = 32 + 5 * e by omega] at a
        rw [show 31 + 5 * e + 2 = 32 + 5 * e + 1 by omega] at b
        rw [a, b]
        exact q3
      · unfold TH at q4 ⊢
        have a := oc3 e old 3 (by omega)
        have b := oc3 e old 4 (by omega)
        rw [show 31 + 5 * e + 3 = 34 + 5 * e by omega] at a
        rw [show 31 + 5 * e + 4 = 34 + 5 * e + 1 by omega] at b
        rw [a, b]
        exact q4
    · obtain ⟨q1, q2, q3, q4, q5, q6, q7, q8, q9, q10, q11, q12⟩ := new e (by omega) he
      exact ⟨q1, q2, q3, q4, q5, by omega, by omega, q7, q8, fun _ => ⟨q10, q11, q12⟩, fun z => by omega, fun z => by omega, fun z => by omega⟩
  · intro i hi
    rw [z16] at hi
    rw [x14, x15, x16, oc1 25 (by omega), oc1 26 (by omega), oc1 27 (by omega)]
    obtain ⟨q1, q2, q3, q4, q5, q6, q7, q8⟩ := hP i hi
    exact ⟨q1, q2, q3, q4, q5, q6, q7, fun z => by have := q8 z; omega⟩
  · refine RelI.kept (μ := μ0) ?_ (fun c a b => oc1 c (by omega))
    unfold RelI
    rw [h45, h46, k26, k27, k28]
    rcases hI with z | ⟨h1, h2, h3, h4, h5', h6, h7, Ts, h8, h9, h10⟩
    · exact Or.inl z
    · have he := hE.2.2.2.2.1 (ν0 0 45).toNat (by omega)
      have ok : ∀ i : Nat, (i : Int) ≤ ν0 0 46 → okT ν0 (Ts i) := fun i => by
        induction i with
        | zero => intro _; rw [h8]; exact okT_sL hS (by omega) (by omega)
        | succ i ih =>
          intro hi
          have q := h10 i (by omega)
          exact stp_inr hW hS (ih (by omega)) ⟨q.2.2.2.2.2.1, q.2.2.2.2.2.2.1⟩ q.1
      refine Or.inr ⟨h1, by omega, by rw [he.2.1]; exact h3, h4, h5', h6, h7, Ts, by rw [(he.1 0 (by omega)).1]; exact h8, h9, fun i hi => ?_⟩
      obtain ⟨q1, q2, q3, q4, q5, q6, q7, q8⟩ := h10 i hi
      have x := ext_stp hW hE (ok i (by omega)) q1
      exact ⟨x.1, q2, q3, q4, by rw [x.2]; exact q5, q6, q7, q8⟩
  · obtain ⟨d1, d2, d3, d4, d5⟩ := hD
    obtain ⟨D, hDD⟩ : ∃ D : Nat, ν0 0 22 = (D : Int) := ⟨(ν0 0 22).toNat, by have := hH.2.2.1; omega⟩
    have D9 : D < 1000 := by have := hH.2.2.2; omega
    have a23 := oc2 7 (by omega)
    have e1 : cnt (fun e => decide (ν' 7 e = 2 ∧ ν' 11 e ≠ 0)) (ν' 0 5).toNat = cnt (fun e => decide (ν0 7 e = 2 ∧ ν0 11 e ≠ 0)) (ν0 0 5).toNat := cnt_ext (by omega) (fun e he => by
      obtain ⟨_, p2, _, _, _, p6, _⟩ := hE.2.2.2.2.1 e (by omega)
      rw [p2, p6]) (fun e e1 e2 => decide_eq_false (fun z => by have := (new e (by omega) (by omega)).2.2.2.2.2.1; omega))
    have e2 : cnt (fun e => decide (ν' 7 e = 2 ∧ ν' 11 e = 0)) (ν' 0 5).toNat = cnt (fun e => decide (ν0 7 e = 2 ∧ ν0 11 e = 0)) (ν0 0 5).toNat := cnt_ext (by omega) (fun e he => by
      obtain ⟨_, p2, _, _, _, p6, _⟩ := hE.2.2.2.2.1 e (by omega)
      rw [p2, p6]) (fun e e1 e2 => decide_eq_false (fun z => by have := (new e (by omega) (by omega)).2.2.2.2.2.1; omega))
    refine ⟨by rw [a23]; exact d1, by rw [a23, e1, e2, z16]; exact d2, fun i hi => ?_, fun e d he hd => ?_, fun e he => ?_⟩
    · rw [a23] at hi
      rw [oc1 28 (by omega), oc1 29 (by omega), h22]
      have := d3 i hi
      exact ⟨this.1, this.2.1, this.2.2.1, by omega⟩
    · rw [h17 e d he hd, h22]
      have q := d4 e d he hd
      by_cases z : ν0 0 5 ≤ (e : Int) ∧ (e : Int) < ν' 0 5 ∧ (d : Int) = ν0 0 22
      · rw [if_pos z]
        have := (new e z.1 z.2.1).2.2.2.2.2.1
        exact ⟨by omega, fun y => by omega⟩
      · rw [if_neg z]
        exact ⟨q.1, fun y => q.2 (by omega)⟩
    · by_cases old : (e : Int) < ν0 0 5
      · obtain ⟨p1, p2, p3, p4, p5, p6, p7, p8⟩ := hE.2.2.2.2.1 e old
        obtain ⟨q1, q2, q3⟩ := d5 e old
        rw [p4, p2, h22, a23]
        refine ⟨q1, q2, fun d hd => ?_⟩
        rw [asC_congr (μ := μ0) (oc1 28 (by omega)) (oc1 29 (by omega)) (oc1 30 (by omega)), asR_old (ν := ν0) d (fun x hx => by rw [h17 e x (by omega) (by omega), if_neg (by omega)])]
        exact q3 d hd
      · obtain ⟨q1, q2, q3, q4, q5, q6, q7, q8, q9, q10, q11, q12⟩ := new e (by omega) he
        rw [q9, h22]
        refine ⟨by omega, Int.le_refl _, fun d hd => ?_⟩
        rw [asC_none _ (fun i hi => by
          rw [oc1 29 (by omega)]
          have := d3 i (by rw [a23] at hi; omega)
          omega), asR_one (D := D) (v := ν' 7 e) (by omega) (fun x hx => by
          rw [h17 e x (by omega) hx]
          by_cases z : x = D
          · rw [if_pos (by omega), if_pos z]
          · rw [if_neg (by omega), if_neg z]
            exact (d4 e x (by omega) hx).2 (by omega)) d hd, hDD]
        by_cases z : d < D
        · rw [if_pos (show (d : Int) < (D : Int) by omega), if_pos z]
        · rw [if_neg (show ¬ (d : Int) < (D : Int) by omega), if_neg z]
          rcases q6 with y | y
          · rw [y, if_pos rfl]
          · rw [y, if_neg (by decide)]
  · refine ext_RelL hW hS hP hL hE (fun e a b z => ?_) sc
    have := (new e a b).2.2.2.2.2.1
    omega
  · exact (hC.kept (fun c a b => oc1 c (by omega))).keptR k51 k52 k53
