/-! THE RELATION stands when both have told a PROOF -/
theorem tell_rel {μ μ' ν ν' : Mem} {e n m t : Nat} {k w p : Nat → Int} {Ts : Nat → List Int} {un pu z : Int} (h : Rel μ ν) (he : (e : Int) < ν 0 5) (ho : ν 7 e = 1 ∨ ν 7 e = 3) (hn : n ≤ 20) (hm : ν 0 16 = (m : Int)) (hmn : m + n ≤ 200) (ht : μ 23 7 = (t : Int))
    (h0 : Ts 0 = sL ν e 0) (hTn : Ts n = sL ν e 1) (hst : ∀ i, i < n → stp ν (k i) (w i) (p i) (Ts i) = .inr (Ts (i + 1)) ∧ 0 ≤ k i ∧ k i ≤ 3)
    (hun : MK un (fun f => (∃ i, i < n ∧ k i ≤ 1 ∧ w i = (f : Int)) ∨ ∃ g : Nat, (∃ i, i < n ∧ k i ≤ 1 ∧ w i = (g : Int)) ∧ Relation.TransGen (USE ν) g f))
    (hpu : MK pu (fun v => ∃ i, i < n ∧ ptw ν (k i) (w i) (p i) (Ts i) = (v : Int)))
    (hR : ν' = telR ν e m n k w p z) (hC : ∀ c, c < 163 ∨ 211 ≤ c → μ' c = telC μ e m n t k w p (ν 0 22) un pu c) (hI' : RelI μ' ν') : Rel μ' ν' := by
  obtain ⟨hT, hH, hW, hS, hP, hI, hD, hL, hG, hCC⟩ := h
  have h24 := hS.2.1
  have he24 : e < 24 := by omega
  obtain ⟨D, hDD⟩ : ∃ D : Nat, ν 0 22 = (D : Int) := ⟨(ν 0 22).toNat, by have := hH.2.2.1; omega⟩
  have hD9 : D < 1000 := by have := hH.2.2.2; omega
  have r14 : ∀ j, ν' 14 j = if m ≤ j ∧ j < m + n then k (j - m) else ν 14 j := fun j => by rw [hR]; simp [telR]
  have r15 : ∀ j, ν' 15 j = if m ≤ j ∧ j < m + n then w (j - m) else ν 15 j := fun j => by rw [hR]; simp [telR]
  have r16 : ∀ j, ν' 16 j = if m ≤ j ∧ j < m + n then p (j - m) else ν 16 j := fun j => by rw [hR]; simp [telR]
  have r10 : ∀ j, ν' 10 j = if j = e then (m : Int) else ν 10 j := fun j => by rw [hR]; simp [telR]
  have r11 : ∀ j, ν' 11 j = if j = e then (n : Int) else ν 11 j := fun j => by rw [hR]; simp [telR]
  have r12 : ∀ j, ν' 12 j = if j = e then -4 else ν 12 j := fun j => by rw [hR]; simp [telR]
  have r13 : ∀ j, ν' 13 j = if j = e then ν 0 15 else ν 13 j := fun j => by rw [hR]; simp [telR]
  have r7 : ∀ j, ν' 7 j = if j = e then 2 else ν 7 j := fun j => by rw [hR]; simp [telR]
  have r17 : ∀ j, ν' 17 j = if j = 1000 * e + D then (2 : Int) + 1 else ν 17 j := fun j => by rw [hR]; simp [telR, hDD]
  have z15 : ν' 0 15 = ν 0 15 + 1 := by rw [hR]; simp [telR]
  have z16 : ν' 0 16 = ((m + n : Nat) : Int) := by rw [hR]; simp [telR]
  have zo : ∀ j, j ≠ 15 → j ≠ 16 → j ≠ 45 → ν' 0 j = ν 0 j := fun j a b c => by rw [hR]; simp [telR, a, b, c]
  have ro : ∀ c, c ≠ 0 → c ≠ 7 → ¬ (10 ≤ c ∧ c ≤ 17) → ν' c = ν c := fun c a b d => by
    funext j
    rw [hR]
    unfold telR
    rw [if_neg (by omega), if_neg (by omega), if_neg (by omega), if_neg (by omega), if_neg (by omega), if_neg (by omega), if_neg (by omega), if_neg (by omega), if_neg (by omega), if_neg (by omega), if_neg (by omega), if_neg (by omega)]
  clear hR
  have fq : FrQ ν ν' := ⟨fun c a b => ro c (by omega) (by omega) (by omega), zo 0 (by omega) (by omega) (by omega), zo 5 (by omega) (by omega) (by omega), zo 23 (by omega) (by omega) (by omega)⟩
  have c25 : ∀ j, μ' 25 j = if m ≤ j ∧ j < m + n then k (j - m) else μ 25 j := fun j => by rw [hC 25 (by omega)]; simp [telC]; intros; omega
  have c26 : ∀ j, μ' 26 j = if m ≤ j ∧ j < m + n then w (j - m) else μ 26 j := fun j => by rw [hC 26 (by omega)]; simp [telC]; intros; omega
  have c27 : ∀ j, μ' 27 j = if m ≤ j ∧ j < m + n then p (j - m) else μ 27 j := fun j => by rw [hC 27 (by omega)]; simp [telC]; intros; omega
  have u1 : ∀ c, c < 31 → ¬ c = 31 + 5 * e := fun c _ => by omega
  have c28 : ∀ j, μ' 28 j = if j = t then (D : Int) else μ 28 j := fun j => by rw [hC 28 (by omega)]; simp [telC, hDD, u1]
  have c29 : ∀ j, μ' 29 j = if j = t then (e : Int) else μ 29 j := fun j => by rw [hC 29 (by omega)]; simp [telC, u1]
  have c30 : ∀ j, μ' 30 j = if j = t then (2 : Int) else μ 30 j := fun j => by rw [hC 30 (by omega)]; simp [telC, u1]
  have d7 : μ' 23 7 = ((t + 1 : Nat) : Int) := by rw [hC 23 (by omega)]; simp [telC, u1]
  have d8 : μ' 23 8 = μ 23 8 + 1 := by rw [hC 23 (by omega)]; simp [telC, u1]
  have d9 : μ' 23 9 = μ 23 9 := by rw [hC 23 (by omega)]; simp [telC, u1]
  have d10 : μ' 23 10 = ((m + n : Nat) : Int) := by rw [hC 23 (by omega)]; simp [telC, u1]
  have b2 : μ' (31 + 5 * e) 2 = 2 := by rw [hC _ (by omega)]; unfold telC; rw [if_neg (by omega), if_neg (by omega), if_neg (by omega), if_pos ⟨rfl, rfl⟩]
  have b5 : μ' (31 + 5 * e) 5 = (m : Int) := by rw [hC _ (by omega)]; unfold telC; rw [if_neg (by omega), if_neg (by omega), if_neg (by omega), if_neg (by omega), if_pos ⟨rfl, rfl⟩]
  have b6 : μ' (31 + 5 * e) 6 = (n : Int) := by rw [hC _ (by omega)]; unfold telC; rw [if_neg (by omega), if_neg (by omega), if_neg (by omega), if_neg (by omega), if_neg (by omega), if_pos ⟨rfl, rfl⟩]
  have b8 : μ' (31 + 5 * e) 8 = μ 23 8 := by rw [hC _ (by omega)]; unfold telC; rw [if_neg (by omega), if_neg (by omega), if_neg (by omega), if_neg (by omega), if_neg (by omega), if_neg (by omega), if_pos ⟨rfl, rfl⟩]
  have b9 : μ' (31 + 5 * e) 9 = un := by rw [hC _ (by omega)]; unfold telC; rw [if_neg (by omega), if_neg (by omega), if_neg (by omega), if_neg (by omega), if_neg (by omega), if_neg (by omega), if_neg (by omega), if_pos ⟨rfl, rfl⟩]
  have b10 : μ' (31 + 5 * e) 10 = pu := by rw [hC _ (by omega)]; unfold telC; rw [if_neg (by omega), if_neg (by omega), if_neg (by omega), if_neg (by omega), if_neg (by omega), if_neg (by omega), if_neg (by omega), if_neg (by omega), if_pos ⟨rfl, rfl⟩]
  have bo : ∀ j, j < 5 → j ≠ 2 → μ' (31 + 5 * e) j = μ (31 + 5 * e) j := fun j a b => by
    rw [hC _ (by omega)]
    unfold telC
    rw [if_neg (by omega), if_neg (by omega), if_neg (by omega), if_neg (by omega), if_neg (by omega), if_neg (by omega), if_neg (by omega), if_neg (by omega), if_neg (by omega), if_neg (by omega), if_neg (by omega), if_neg (by omega), if_neg (by omega), if_neg (by omega), if_neg (by omega)]
  have co : ∀ c, (c < 163 ∨ 211 ≤ c) → c ≠ 31 + 5 * e → c ≠ 23 → ¬ (25 ≤ c ∧ c ≤ 30) → μ' c = μ c := fun c a b d g => by
    funext j
    rw [hC c a]
    unfold telC
    rw [if_neg (by omega), if_neg (by omega), if_neg (by omega), if_neg (by omega), if_neg (by omega), if_neg (by omega), if_neg (by omega), if_neg (by omega), if_neg (by omega), if_neg (by omega), if_neg (by omega), if_neg (by omega), if_neg (by omega), if_neg (by omega), if_neg (by omega)]
  clear hC
  have mono7 : ∀ f : Nat, (ν 7 f = 0 ∨ ν 7 f = 2) → (ν' 7 f = 0 ∨ ν' 7 f = 2) := fun f q => by
    rw [r7]
    by_cases z : f = e
    · rw [if_pos z]; exact Or.inr rfl
    · rw [if_neg z]; exact q
  have hsS := hS.2.2.2.2.2.2.2.2
  have hold : ∀ f : Nat, (f : Int) < ν 0 5 → f ≠ e → ν 7 f = 2 → 0 ≤ ν 10 f ∧ 0 ≤ ν 11 f ∧ (ν 10 f).toNat + (ν 11 f).toNat ≤ m := fun f a b c => by
    have q := (hsS f a).2.2.2.2.2.2.2.2.2.2.1 (by omega)
    omega
  have hUse : ∀ f g, USE ν' f g ↔ (f = e ∧ (∃ i, i < n ∧ k i ≤ 1 ∧ w i = (g : Int))) ∨ (f ≠ e ∧ USE ν f g) := fun f g => by
    unfold USE
    rw [zo 5 (by omega) (by omega) (by omega), r7, r10, r11]
    by_cases q : f = e
    · subst q
      rw [if_pos rfl, if_pos rfl, if_pos rfl, show ((m : Int)).toNat = m by omega]
      constructor
      · rintro ⟨_, _, i, a, b, c⟩
        rw [r14, if_pos (by omega), show m + i - m = i by omega] at b
        rw [r15, if_pos (by omega), show m + i - m = i by omega] at c
        exact Or.inl ⟨rfl, i, by omega, b, c⟩
      · rintro (⟨_, i, a, b, c⟩ | ⟨a, _⟩)
        · refine ⟨he, rfl, i, by omega, ?_, ?_⟩
          · rw [r14, if_pos (by omega), show m + i - m = i by omega]; exact b
          · rw [r15, if_pos (by omega), show m + i - m = i by omega]; exact c
        · exact absurd rfl a
    · rw [if_neg q, if_neg q, if_neg q]
      constructor
      · rintro ⟨a, b, i, c, d, g1⟩
        have := hold f a q b
        rw [r14, if_neg (by omega)] at d
        rw [r15, if_neg (by omega)] at g1
        exact Or.inr ⟨q, a, b, i, c, d, g1⟩
      · rintro (⟨a, _⟩ | ⟨_, a, b, i, c, d, g1⟩)
        · exact absurd a q
        · have := hold f a q b
          refine ⟨a, b, i, c, ?_, ?_⟩
          · rw [r14, if_neg (by omega)]; exact d
          · rw [r15, if_neg (by omega)]; exact g1
  have hU7 : ∀ g : Nat, (∃ i, i < n ∧ k i ≤ 1 ∧ w i = (g : Int)) → (g : Int) < ν 0 5 ∧ (ν 7 g = 0 ∨ ν 7 g = 2) := fun g ⟨i, a, b, c⟩ => by
    have q := stp_which b (hst i a).1
    rw [c, show ((g : Int)).toNat = g by omega] at q
    exact q.2
  have hU : ¬ ∃ i, i < n ∧ k i ≤ 1 ∧ w i = (e : Int) := fun q => by
    have := hU7 e q
    omega
  have hTG := TG_tel hUse (fun f g q => by
    have q7 := q.2.1
    have := (hL f q.1 q.2.1).2.2.2.2.1 g q
    refine ⟨fun y => ?_, fun y => ?_⟩
    · subst y; omega
    · subst y; omega) hU
  have hch : ∀ v, _ := fun v => chain_run (ν := ν') (k := ν' 14) (w := ν' 15) (p := ν' 16) v n m Ts (fun j hj => by
    rw [r14, r15, r16, if_pos (by omega), if_pos (by omega), if_pos (by omega), show m + j - m = j by omega]
    exact frQ_stpR fq (hst j hj).1 (fun _ => mono7 _))
  refine ⟨?_, ?_, ?_, ?_, ?_, hI', ?_, ?_, ?_, ?_⟩
  · refine (hT.kept ?_ ?_ ?_).keptR (zo 25 (by omega) (by omega) (by omega)) (zo 30 (by omega) (by omega) (by omega)) (ro 18 (by omega) (by omega) (by omega))
    · rw [co 151 (by omega) (by omega) (by omega) (by omega)]
    · rw [co 151 (by omega) (by omega) (by omega) (by omega)]
    · rw [co 152 (by omega) (by omega) (by omega) (by omega)]
  · unfold RelH at *
    rw [co 0 (by omega) (by omega) (by omega) (by omega), zo 21 (by omega) (by omega) (by omega), zo 22 (by omega) (by omega) (by omega)]
    exact hH
  · exact (hW.kept (fun c a b => co c (by omega) (by omega) (by omega) (by omega))).keptQ fq
  · obtain ⟨s1, s2, s3, s4, s5, s6, s7, s8, s9⟩ := hS
    refine ⟨by rw [fq.2.2.1]; exact s1, by rw [fq.2.2.1]; exact s2, by rw [fq.2.2.1, d9]; exact s3, by omega, by omega, by omega, by omega, by omega, fun f hf => ?_⟩
    rw [fq.2.2.1] at hf
    obtain ⟨q1, q2, q3, q4, q5, q6, q7, q8, q9, q10, q11, q12, q13⟩ := s9 f hf
    have hf24 : f < 24 := by omega
    unfold okS at q1 q2 ⊢
    rw [frQ_sL fq, frQ_ar fq, frQ_c fq (c := 6) (by omega), ro 8 (by omega) (by omega) (by omega), ro 9 (by omega) (by omega) (by omega), r7, r10, r11, r12, r13]
    refine ⟨q1, q2, ?_, ?_, ?_⟩
    · unfold TH at q3 ⊢
      rw [co (32 + 5 * f) (by omega) (by omega) (by omega) (by omega), co (32 + 5 * f + 1) (by omega) (by omega) (by omega) (by omega)]
      exact q3
    · unfold TH at q4 ⊢
      rw [co (34 + 5 * f) (by omega) (by omega) (by omega) (by omega), co (34 + 5 * f + 1) (by omega) (by omega) (by omega) (by omega)]
      exact q4
    · by_cases q : f = e
      · subst q
        rw [if_pos rfl, if_pos rfl, if_pos rfl, if_pos rfl, if_pos rfl, b2, b5, b6, b8, bo 3 (by omega) (by omega), bo 4 (by omega) (by omega)]
        refine ⟨rfl, by omega, by omega, q8, q9, fun y => by omega, fun _ => by omega, fun y => by omega, fun _ => s8⟩
      · rw [if_neg q, if_neg q, if_neg q, if_neg q, if_neg q, co (31 + 5 * f) (by omega) (by omega) (by omega) (by omega)]
        exact ⟨q5, q6, q7, q8, q9, q10, fun y => by have := q11 y; omega, q12, q13⟩
  · intro i hi
    rw [z16] at hi
    rw [r14, r15, r16, c25, c26, c27, fq.2.2.1]
    by_cases q : m ≤ i ∧ i < m + n
    · rw [if_pos q, if_pos q, if_pos q, if_pos q, if_pos q, if_pos q]
      obtain ⟨a, b, c⟩ := hst (i - m) (by omega)
      have pl := stp_place a
      have ok : ∀ j, j ≤ n → okT ν (Ts j) := fun j => by
        induction j with
        | zero => intro _; rw [h0]; exact okT_sL ⟨hS.1, hS.2⟩ he (by omega)
        | succ j ih => intro hj; exact stp_inr hW ⟨hS.1, hS.2⟩ (ih (by omega)) (hst j (by omega)).2 (hst j (by omega)).1
      have l20 := (ok (i - m) (by omega)).2.2
      exact ⟨rfl, rfl, rfl, b, c, pl.1, by omega, fun y => by have := stp_which y a; omega⟩
    · rw [if_neg q, if_neg q, if_neg q, if_neg q, if_neg q, if_neg q]
      exact hP i (by omega)
  · refine hD.turn (v := 2) he h24 hDD hD9 ht (by omega) (Or.inl rfl) r7 (ro 9 (by omega) (by omega) (by omega)) fq.2.2.1 (zo 22 (by omega) (by omega) (by omega)) r17 d7 c28 c29 c30 ?_
    have b := hD.2.1
    rw [ht, hm] at b
    rw [d7, z16]
    by_cases q : n = 0
    · have e1 : cnt (fun f => decide (ν' 7 f = 2 ∧ ν' 11 f ≠ 0)) (ν 0 5).toNat = cnt (fun f => decide (ν 7 f = 2 ∧ ν 11 f ≠ 0)) (ν 0 5).toNat := cnt_congr _ (fun f hf => by
        rw [r7, r11]
        by_cases y : f = e
        · subst y
          rw [if_pos rfl, if_pos rfl, decide_eq_false (show ¬ ((2 : Int) = 2 ∧ (n : Int) ≠ 0) by omega), decide_eq_false (show ¬ (ν 7 f = 2 ∧ ν 11 f ≠ 0) by omega)]
        · rw [if_neg y, if_neg y])
      have e2 : cnt (fun f => decide (ν' 7 f = 2 ∧ ν' 11 f = 0)) (ν 0 5).toNat = cnt (fun f => decide (ν 7 f = 2 ∧ ν 11 f = 0)) (ν 0 5).toNat + 1 := cnt_one (e := e) _ (by omega) (fun f hf y => by
        rw [r7, r11, if_neg y, if_neg y]) (by
        rw [r7, r11, if_pos rfl, if_pos rfl, decide_eq_true (show (2 : Int) = 2 ∧ (n : Int) = 0 by omega)]) (by
        rw [decide_eq_false (show ¬ (ν 7 e = 2 ∧ ν 11 e = 0) by omega)])
      rw [e1, e2]
      omega
    · have e2 : cnt (fun f => decide (ν' 7 f = 2 ∧ ν' 11 f = 0)) (ν 0 5).toNat = cnt (fun f => decide (ν 7 f = 2 ∧ ν 11 f = 0)) (ν 0 5).toNat := cnt_congr _ (fun f hf => by
        rw [r7, r11]
        by_cases y : f = e
        · subst y
          rw [if_pos rfl, if_pos rfl, decide_eq_false (show ¬ ((2 : Int) = 2 ∧ (n : Int) = 0) by omega), decide_eq_false (show ¬ (ν 7 f = 2 ∧ ν 11 f = 0) by omega)]
        · rw [if_neg y, if_neg y])
      have e1 : cnt (fun f => decide (ν' 7 f = 2 ∧ ν' 11 f ≠ 0)) (ν 0 5).toNat = cnt (fun f => decide (ν 7 f = 2 ∧ ν 11 f ≠ 0)) (ν 0 5).toNat + 1 := cnt_one (e := e) _ (by omega) (fun f hf y => by
        rw [r7, r11, if_neg y, if_neg y]) (by
        rw [r7, r11, if_pos rfl, if_pos rfl, decide_eq_true (show (2 : Int) = 2 ∧ (n : Int) ≠ 0 by omega)]) (by
        rw [decide_eq_false (show ¬ (ν 7 e = 2 ∧ ν 11 e ≠ 0) by omega)])
      rw [e1, e2]
      omega
  · intro f hf h7
    rw [fq.2.2.1] at hf
    rw [r7] at h7
    rw [frQ_sL fq, fq.2.2.1, z15, r13, r10, r11]
    by_cases q : f = e
    · subst q
      rw [if_pos rfl, if_pos rfl, if_pos rfl, b9, b10, show ((m : Int)).toNat = m by omega, show ((n : Int)).toNat = n by omega, ← h0, ← hTn]
      refine ⟨(hch 0).1, hS.2.2.2.2.2.2.1.1, by omega, fun g hg g7 g13 => ?_, fun g hg => ?_, ?_, ?_⟩
      · by_cases y : g = f
        · exact y
        · rw [r7, if_neg y] at g7
          rw [r13, if_neg y] at g13
          have := (hL g hg g7).2.2.1
          omega
      · rcases (hUse f g).mp hg with ⟨_, y⟩ | ⟨y, _⟩
        · have y7 := hU7 g y
          have gne : g ≠ f := fun x => hU (by rw [← x]; exact y)
          rw [r7, r13, if_neg gne, if_neg gne]
          rcases y7.2 with y8 | y8
          · exact Or.inl y8
          · exact Or.inr ⟨y8, (hL g y7.1 y8).2.2.1⟩
        · exact absurd rfl y
      · have hlt : ∀ g : Nat, ((∃ i, i < n ∧ k i ≤ 1 ∧ w i = (g : Int)) ∨ ∃ g' : Nat, (∃ i, i < n ∧ k i ≤ 1 ∧ w i = (g' : Int)) ∧ Relation.TransGen (USE ν) g' g) → g < 24 := fun g y => by
          rcases y with y | ⟨g', _, y⟩
          · have := (hU7 g y).1; omega
          · have := TG_lt hS hP y; omega
        have hr := hun.rng hlt
        exact ⟨hr.1, hr.2, fun g hg => (hun.2 g (by omega)).trans (hTG.2 g).symm⟩
      · have hlt : ∀ v : Nat, 4 ≤ v → v < 32 → tb pu v = false := fun v y1 y2 => by
          cases q : tb pu v with
          | false => rfl
          | true =>
            obtain ⟨i, a, b⟩ := (hpu.2 v y2).mp q
            have w4 := hW.2.1
            have := ptw_rng hW (hst i a).1
            omega
        have hr := tb_lo hpu.1 (n := 4) (by omega) hlt
        refine ⟨hr.1, hr.2, fun v hv => (hpu.2 v (by have := hW.2.1; omega)).trans ?_⟩
        rw [(hch v).2]
        refine exists_congr (fun i => ⟨fun ⟨a, b⟩ => ⟨a, ?_⟩, fun ⟨a, b⟩ => ⟨a, ?_⟩⟩)
        · rw [r14, r15, r16, if_pos (by omega), if_pos (by omega), if_pos (by omega), show m + i - m = i by omega, frQ_ptw fq]; exact b
        · rw [r14, r15, r16, if_pos (by omega), if_pos (by omega), if_pos (by omega), show m + i - m = i by omega, frQ_ptw fq] at b; exact b
    · rw [if_neg q] at h7
      rw [if_neg q, if_neg q, if_neg q, co (31 + 5 * f) (by omega) (by omega) (by omega) (by omega)]
      obtain ⟨l1, l2, l3, l4, l5, l6, l7⟩ := hL f hf h7
      have ho := hold f hf q h7
      have hk := run_kept fq (k := ν 14) (w := ν 15) (p := ν 16) (k' := ν' 14) (w' := ν' 15) (p' := ν' 16) mono7 _ _ _ _ (fun j a b => by rw [r14, r15, r16, if_neg (by omega), if_neg (by omega), if_neg (by omega)]; exact ⟨rfl, rfl, rfl⟩) l1
      refine ⟨hk.1, l2, by omega, fun g hg g7 g13 => ?_, fun g hg => ?_, ⟨l6.1, l6.2.1, fun g hg => (l6.2.2 g hg).trans (hTG.1 f g q).symm⟩, l7.1, l7.2.1, fun v hv => (l7.2.2 v hv).trans (hk.2 v).symm⟩
      · by_cases y : g = e
        · subst y
          rw [r13, if_pos rfl] at g13
          omega
        · rw [r7, if_neg y] at g7
          rw [r13, if_neg y] at g13
          exact l4 g hg g7 g13
      · rcases (hUse f g).mp hg with ⟨y, _⟩ | ⟨_, y⟩
        · exact absurd y q
        · have y2 := l5 g y
          have gne : g ≠ e := fun x => by subst x; omega
          rw [r7, r13, if_neg gne, if_neg gne]
          exact y2
  · refine hG.keptQ fq (fun f hf => ?_) (zo 68 (by omega) (by omega) (by omega)) (ro 42 (by omega) (by omega) (by omega)) (ro 43 (by omega) (by omega) (by omega))
    rw [r7]
    by_cases q : f = e
    · subst q
      rw [if_pos rfl]
      omega
    · rw [if_neg q]
  · exact (hCC.kept (fun c a b => co c (by omega) (by omega) (by omega) (by omega))).keptR (ro 51 (by omega) (by omega) (by omega)) (ro 52 (by omega) (by omega) (by omega)) (ro 53 (by omega) (by omega) (by omega))
