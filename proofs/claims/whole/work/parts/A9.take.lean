/-! take: the reference writes the STEPS down; sim take -/
def tw3 (Y : Mem) (m i D : Nat) (k w p : Nat → Int) : Mem := fun c j => if c = 14 ∧ m + i ≤ j ∧ j < m + D then k (j - m) else if c = 15 ∧ m + i ≤ j ∧ j < m + D then w (j - m) else if c = 16 ∧ m + i ≤ j ∧ j < m + D then p (j - m) else Y c j
theorem tw3_o {Y : Mem} {m i D c : Nat} {k w p : Nat → Int} (h : ¬ (14 ≤ c ∧ c ≤ 16)) : tw3 Y m i D k w p c = Y c := by
  funext j
  unfold tw3
  rw [if_neg (by omega), if_neg (by omega), if_neg (by omega)]
theorem tw3_D {Y : Mem} {m D : Nat} {k w p : Nat → Int} : tw3 Y m D D k w p = Y := by
  funext c j
  unfold tw3
  rw [if_neg (by omega), if_neg (by omega), if_neg (by omega)]
theorem tw3_s {Y : Mem} {m i D : Nat} {k w p : Nat → Int} (hi : i < D) : up (up (up (tw3 Y m (i + 1) D k w p) 14 (m + i) (k i)) 15 (m + i) (w i)) 16 (m + i) (p i) = tw3 Y m i D k w p := by
  funext c j
  unfold up tw3
  by_cases q : j = m + i
  · subst q
    by_cases c1 : c = 14
    · subst c1; simp; omega
    · by_cases c2 : c = 15
      · subst c2; simp; omega
      · by_cases c3 : c = 16
        · subst c3; simp; omega
        · simp [c1, c2, c3]
  · have e1 : (m + (i + 1) ≤ j) = (m + i ≤ j) := propext (by omega)
    simp [q, e1]
theorem tw3_tr {Y : Mem} {m D : Nat} {k w p : Nat → Int} : up (tw3 Y m 0 D k w p) 0 16 ((m + D : Nat) : Int) = tr3 Y m D k w p := by
  funext c j
  unfold up tw3 tr3
  by_cases q : c = 0 ∧ j = 16
  · rw [if_pos q, if_neg (by omega), if_neg (by omega), if_neg (by omega), if_pos q]
  · rw [if_neg q]
    simp only [Nat.add_zero]
    rw [if_neg (c := c = 0 ∧ j = 16) q]
theorem r_140 {X : Mem} {e m D : Nat} {q : Nat → Nat} (hmD : m + D ≤ 200) (h16 : X 0 16 = (m : Int)) (hq : ∀ i, i < D → q i < 250 ∧ X 32 (q i) = (q (i + 1) : Int)) (Y : Mem) (hY : ∀ c, c ≠ 10 → c ≠ 11 → Y c = X c) {o2 o3 : Option AV} {v4 : Int} : ∀ (i j : Nat), i + j = D → e_X12_take_140 e o2 o3 v4 (q j) ((i : Int) - 1) (tw3 Y m i D (fun a => X 34 (q (D - 1 - a))) (fun a => X 35 (q (D - 1 - a))) (fun a => X 36 (q (D - 1 - a)))) = e_X12_take_140 e o2 o3 v4 (q D) (-1) (tw3 Y m 0 D (fun a => X 34 (q (D - 1 - a))) (fun a => X 35 (q (D - 1 - a))) (fun a => X 36 (q (D - 1 - a))))
  | 0, j, hj => by
    obtain rfl : j = D := by omega
    rfl
  | i + 1, j, hj => by
    obtain ⟨q1, q2⟩ := hq j (by omega)
    have ih := r_140 (e := e) hmD h16 hq Y hY (o2 := o2) (o3 := o3) (v4 := v4) i (j + 1) (by omega)
    rw [← ih, ← tw3_s (show i < D by omega)]
    have eD : D - 1 - i = j := by omega
    simp only [eD]
    have T : ∀ c, ¬ (14 ≤ c ∧ c ≤ 16) → c ≠ 10 → c ≠ 11 → tw3 Y m (i + 1) D (fun a => X 34 (q (D - 1 - a))) (fun a => X 35 (q (D - 1 - a))) (fun a => X 36 (q (D - 1 - a))) c = X c := fun c a b d => by rw [tw3_o a, hY c b d]
    generalize hZ : tw3 Y m (i + 1) D (fun a => X 34 (q (D - 1 - a))) (fun a => X 35 (q (D - 1 - a))) (fun a => X 36 (q (D - 1 - a))) = Z at T ⊢
    have u : ∀ (c c' : Nat) (x : Mem) (i : Nat) (v : Int), c' ≠ c → up x c i v c' = x c' := fun c c' x i v hc => up_cell hc
    have z0 : Z 0 16 = (m : Int) := by rw [T 0 (by omega) (by omega) (by omega)]; exact h16
    have z32 : Z 32 = X 32 := T 32 (by omega) (by omega) (by omega)
    have z34 : Z 34 = X 34 := T 34 (by omega) (by omega) (by omega)
    have z35 : Z 35 = X 35 := T 35 (by omega) (by omega) (by omega)
    have z36 : Z 36 = X 36 := T 36 (by omega) (by omega) (by omega)
    rw [show ((i + 1 : Nat) : Int) - 1 = (i : Int) by omega, q_X12_take_140, if_neg (by omega)]
    have u1 : ∀ (x : Mem) (i : Nat) (v : Int), up x 14 i v 0 = x 0 := fun x i v => up_cell (by omega)
    have u2 : ∀ (x : Mem) (i : Nat) (v : Int), up x 15 i v 0 = x 0 := fun x i v => up_cell (by omega)
    have u3 : ∀ (x : Mem) (i : Nat) (v : Int), up x 16 i v 0 = x 0 := fun x i v => up_cell (by omega)
    have u4 : ∀ (x : Mem) (i : Nat) (v : Int), up x 14 i v 35 = x 35 := fun x i v => up_cell (by omega)
    have u5 : ∀ (x : Mem) (i : Nat) (v : Int), up x 14 i v 36 = x 36 := fun x i v => up_cell (by omega)
    have u6 : ∀ (x : Mem) (i : Nat) (v : Int), up x 15 i v 36 = x 36 := fun x i v => up_cell (by omega)
    have u7 : ∀ (x : Mem) (i : Nat) (v : Int), up x 14 i v 32 = x 32 := fun x i v => up_cell (by omega)
    have u8 : ∀ (x : Mem) (i : Nat) (v : Int), up x 15 i v 32 = x 32 := fun x i v => up_cell (by omega)
    have u9 : ∀ (x : Mem) (i : Nat) (v : Int), up x 16 i v 32 = x 32 := fun x i v => up_cell (by omega)
    simp only [u1, u2, u3, u4, u5, u6, u7, u8, u9, z0, z32, z34, z35, z36, Int.toNat_natCast, q2]
    rw [wr_eq (x := (m : Int) + (i : Int)) (by omega) (by omega), show (m : Int) + (i : Int) = ((m + i : Nat) : Int) by omega, gk (lnR 34) 250 rfl (by omega) (by omega), gk (lnR 14) 200 rfl (by omega) (by omega), gk (lnR 35) 250 rfl (by omega) (by omega), gk (lnR 15) 200 rfl (by omega) (by omega), gk (lnR 36) 250 rfl (by omega) (by omega), gk (lnR 16) 200 rfl (by omega) (by omega), gk (lnR 32) 250 rfl (by omega) (by omega), show (((m + i : Nat) : Int)).toNat = m + i by omega, wr_eq (x := (i : Int) + (-1)) (by omega) (by omega), show (i : Int) + (-1) = (i : Int) - 1 by omega]
theorem RwK_0 {μ ν : Mem} {e : Nat} {Ts Ts' : Nat → List Int} (h : RwK μ ν 211 e 0 Ts) (h0 : Ts' 0 = Ts 0) : RwK μ ν 211 e 0 Ts' := by
  obtain ⟨a, b, c, d, f, g, k⟩ := h
  exact ⟨a, b, c, by rw [h0]; exact d, by rw [h0]; exact f, by rw [h0]; exact g, fun i hi => by omega⟩
theorem sim_take (μ ν : Mem) (x1 x2 x3 : Int) (_ : in32 x1) (_ : in32 x2) (_ : in32 x3) (h : Rel μ ν) : Sm Rel f_X11_take f_X12_take [vI x1, vI x2, vI x3] μ ν := by
  unfold Sm
  have hS := h.2.2.2.1
  have h24 := hS.2.1
  rw [q_X11_take, q_X12_take, q_X11_sought]
  by_cases hx : ¬ (0 ≤ x1 ∧ x1 < ν 0 5)
  · rw [get_f hS hx, cR_n, isS_f hS hx, cI_t, cI_t, if_pos rfl, if_pos (show (-1 : Int) < 0 by decide)]
    exact ⟨-1, μ, ν, rfl, rfl, h⟩
  replace hx := Decidable.not_not.mp hx
  obtain ⟨e, rfl⟩ : ∃ e : Nat, x1 = (e : Int) := ⟨x1.toNat, by omega⟩
  rw [get_t hS hx, cR_s, isS_t hS hx, cI_t, if_neg ten, s_in, cI_t, show ((e : Int)).toNat = e by omega]
  by_cases h2 : ¬ (0 ≤ x2 ∧ x2 ≤ 8)
  · rw [if_neg h2, if_pos rfl]
    refine ⟨-1, μ, ν, ?_, rfl, h⟩
    by_cases q : x2 < 0
    · rw [if_pos q, cI_t, if_pos (show (-1 : Int) < 0 by decide)]
    · rw [if_neg q, if_neg (show ¬ x2 ≤ 8 by omega), cI_t, if_pos (show (-1 : Int) < 0 by decide)]
  replace h2 := Decidable.not_not.mp h2
  obtain ⟨n, rfl⟩ : ∃ n : Nat, x2 = (n : Int) := ⟨x2.toNat, by omega⟩
  rw [if_pos h2, if_neg ten, s_in, cI_t, if_neg (show ¬ (n : Int) < 0 by omega), if_pos h2.2]
  by_cases h3 : ¬ (1 ≤ x3 ∧ x3 ≤ 20)
  · rw [if_neg h3, if_pos rfl]
    refine ⟨-1, μ, ν, ?_, rfl, h⟩
    by_cases q : x3 < 1
    · rw [if_pos q, cI_t, if_pos (show (-1 : Int) < 0 by decide)]
    · rw [if_neg q, if_neg (show ¬ x3 ≤ 20 by omega), cI_t, if_pos (show (-1 : Int) < 0 by decide)]
  replace h3 := Decidable.not_not.mp h3
  obtain ⟨s, rfl⟩ : ∃ s : Nat, x3 = (s : Int) := ⟨x3.toNat, by omega⟩
  rw [if_pos h3, if_neg ten, if_neg (show ¬ (s : Int) < 1 by omega), if_pos h3.2, s_isOpenC hS hx.2, cI_t, s_isOpenR (by omega), cI_t]
  by_cases ho : ν 7 e = 1 ∨ ν 7 e = 3
  · obtain ⟨μ', X, a1, a2, a3⟩ := sk_begin (n := n) (s := s) h hx.2 ho (by omega) (by omega)
    obtain ⟨b1, b2, b3, b4, _⟩ := so_rel h a3
    rw [if_pos ho, if_neg ten, if_neg ten, a1, cI_t, cI_t, a2, cV_t]
    unfold ans
    by_cases q : X 0 62 = 0
    · rw [if_pos q, if_pos q]
      obtain ⟨m0, Tm, hI, F, G⟩ := a3
      have hM := frR_M G
      have m250 := hI.1.2.1
      rcases hI.2.2.2.2.2.2.2.2 with z | ⟨k, z1, z2, z3⟩
      · rw [if_pos z, if_pos z, if_pos q, if_pos (show (-4 : Int) < 0 by decide)]
        exact ⟨_, _, _, rfl, rfl, b1⟩
      · have hk := hI.2.2.2.1 k z1
        obtain ⟨D, hD⟩ : ∃ D : Nat, X 33 k = (D : Int) := ⟨(X 33 k).toNat, by omega⟩
        have hD8 : D ≤ 8 := by omega
        obtain ⟨m, hm⟩ : ∃ m : Nat, X 0 16 = (m : Int) := ⟨(X 0 16).toNat, by have := b1.2.2.2.1.2.2.2.1; omega⟩
        have m200 := b1.2.2.2.1.2.2.2.2.1
        have v15 : μ' 259 15 = (k : Int) := by rw [hI.2.2.2.2.2.2.2.1]; exact z2
        have pspec := pq_spec hI z1 hD
        have ppos := fun i (hi : i < D) => pq_pos hI z1 hD hi
        have pl := pq_last hI z1 hD
        have pstep := fun i (hi : i < D) => pq_step hI z1 hD hi
        rw [if_neg (show ¬ X 0 61 = -4 by omega), if_neg (show ¬ X 0 61 = -4 by omega), z2, gk (lnR 33) 250 rfl (by omega) (by omega), show ((k : Int)).toNat = k by omega, hD, if_neg (show ¬ (D : Int) < 0 by omega), hm, wr_eq (x := (m : Int) + (D : Int)) (by omega) (by omega)]
        -- the class lays it out
        obtain ⟨μ2, p6, c1, c2, c3⟩ := c_lay8 (e := e) (X := X) (k := k) (D := D) (q := pq X k) (by omega) (fun i hi => ⟨ppos i hi, by have := (pspec i (by omega)).1; omega⟩) pl D 0 μ' none none (by omega) (fun i hi => (pstep i hi).2.1) (fun a ha => by omega)
        have c1' : e_X4_layOut_8 e 211 0 k none none μ' = _ := c1
        have F2 : Fr μ μ2 scr := F.trans (fun c hc => c2 c (fun y => hc (by unfold scr; omega)))
        have r2 := rel_scr h F2
        obtain ⟨μ3, d1, d2, d3⟩ := rwK_begin (v0 := 211) (e := e) (Or.inr rfl) r2.2.2.2.1 hx.2
        have F3 : Fr μ μ3 scr := F2.trans (d2.mono (fun c hc => by unfold rwF at hc; unfold scr; omega))
        have k3 : ∀ c, 259 ≤ c → μ3 c = μ2 c := fun c hc => d2 c (by unfold rwF; omega)
        obtain ⟨μ4, f1, f2, f3, f4⟩ := c_lay60 (X := X) (D := D) (q := pq X k) (Tm := Tm) h hx.2 ho (by omega) (fun i hi => by have := (pspec i (by omega)).1; omega) (fun i hi => ⟨(pstep i hi).2.2.2.2.2.1, (pstep i hi).2.2.2.2.2.2.1, (pstep i hi).2.2.2.2.2.2.2⟩) (o1 := some (vI (e : Int))) (o3 := some (vI (D : Int))) D 0 μ3 (some (vI 0)) p6 (by omega) F3 (fun i hi => by
          rw [k3 268 (by omega), k3 262 (by omega), k3 263 (by omega), k3 264 (by omega), c2 262 (by omega), c2 263 (by omega), c2 264 (by omega)]
          exact ⟨c3 i hi, (pstep i hi).2.2.1, (pstep i hi).2.2.2.1, (pstep i hi).2.2.2.2.1⟩) (RwK_0 d3 (by show Tm (pq X k (D - 0)) = sL ν e 0; rw [Nat.sub_zero, pl]; exact hI.2.2.1.2.1)) (fun a ha => by omega)
        rw [q_X4_layOut, v15, c1', d1, cV_t, f1, cV_t]
        -- it is told
        have hr4 : Rel μ4 X := rel_scrR (rel_scr h f2) G
        obtain ⟨g1, g2, g3, g4, g5, g6, g7⟩ := f3
        have hA := s_tell (v0 := 211) (n := D) (m := m) (e := e) (Ts := fun a => Tm (pq X k (D - a))) hr4 (Or.inr rfl) (by rw [hM.2.2.1]; exact hx.2) g1 g2 g3 hm (by rw [frM_c hM (by omega)]; exact ho) (by rw [frM_sL hM]; exact g4) (by show Tm (pq X k (D - D)) = _; rw [Nat.sub_self, frM_sL hM]; exact z3) (fun i hi => by rw [frM_stp hM, frM_ptw hM]; exact g7 i hi)
        by_cases hmn : m + D ≤ 200
        · rw [if_pos hmn] at hA
          obtain ⟨μ5, t1, t2⟩ := hA
          have d5 := b1.2.2.2.2.2.2.1
          have tl := turns_le d5 b1.2.2.2.1
          have s15 := b1.2.2.2.1.2.2.2.2.2.2.1
          have L := r_140 (e := e) (X := X) (m := m) (D := D) (q := pq X k) hmn hm (fun i hi => ⟨by have := (pspec i (by omega)).1; omega, (pstep i hi).1⟩) (up (up X 10 e (m : Int)) 11 e (D : Int)) (fun c x y => by rw [up_cell y, up_cell x]) (o2 := some (vI (n : Int))) (o3 := some (vI (s : Int))) (v4 := (D : Int)) D 0 (by omega)
          rw [tw3_D, pl] at L
          have L' : e_X12_take_140 e (some (vI (n : Int))) (some (vI (s : Int))) D k ((D : Int) - 1) (up (up X 10 e (m : Int)) 11 e (D : Int)) = _ := L
          have eR : e_X12_take_140 e (some (vI (n : Int))) (some (vI (s : Int))) D k ((D : Int) - 1) (up (up X 10 e (m : Int)) 11 e (D : Int)) = some (some (vI (D : Int)), telR X e m D (fun a => X 34 (pq X k (D - 1 - a))) (fun a => X 35 (pq X k (D - 1 - a))) (fun a => X 36 (pq X k (D - 1 - a))) (if X 0 45 = (e : Int) then -4 else X 0 45)) := by
            rw [L', q_X12_take_140, if_pos (by decide)]
            have y16 : tw3 (up (up X 10 e (m : Int)) 11 e (D : Int)) m 0 D (fun a => X 34 (pq X k (D - 1 - a))) (fun a => X 35 (pq X k (D - 1 - a))) (fun a => X 36 (pq X k (D - 1 - a))) 0 16 = (m : Int) := by rw [tw3_o (by omega), up_cell (by omega), up_cell (by omega)]; exact hm
            rw [y16, wr_eq (x := (m : Int) + (D : Int)) (by omega) (by omega), show (m : Int) + (D : Int) = ((m + D : Nat) : Int) by omega, tw3_tr, s_fin (ν := X) (m := m) (n := D) (by omega) (by omega) ⟨b1.2.1.2.2.1, b1.2.1.2.2.2⟩ rfl, telR_k45]
            by_cases w : X 0 45 = (e : Int)
            · rw [if_pos w, if_pos w, telR_45]
            · rw [if_neg w, if_neg w, telR_45]
          rw [t1, cI_t, if_pos (show (m : Int) + (D : Int) ≤ 200 by omega), gk (lnR 10) 24 rfl (by omega) (by omega), gk (lnR 11) 24 rfl (by omega) (by omega), up_cell (c := 11) (c' := 0) (by omega), up_cell (c := 10) (c' := 0) (by omega), z2, wr_eq (x := (D : Int) - 1) (by omega) (by omega), eR]
          have ee : telR X e m D (μ4 (211 + 1)) (μ4 (211 + 2)) (μ4 (211 + 3)) (if X 0 45 = (e : Int) then -4 else X 0 45) = telR X e m D (fun a => X 34 (pq X k (D - 1 - a))) (fun a => X 35 (pq X k (D - 1 - a))) (fun a => X 36 (pq X k (D - 1 - a))) (if X 0 45 = (e : Int) then -4 else X 0 45) := by
            funext c j
            unfold telR
            by_cases y : m ≤ j ∧ j < m + D
            · rw [(f4 (j - m) (by omega)).1, (f4 (j - m) (by omega)).2.1, (f4 (j - m) (by omega)).2.2]
            · rw [if_neg (show ¬ (c = 14 ∧ m ≤ j ∧ j < m + D) by omega), if_neg (show ¬ (c = 15 ∧ m ≤ j ∧ j < m + D) by omega), if_neg (show ¬ (c = 16 ∧ m ≤ j ∧ j < m + D) by omega), if_neg (show ¬ (c = 14 ∧ m ≤ j ∧ j < m + D) by omega), if_neg (show ¬ (c = 15 ∧ m ≤ j ∧ j < m + D) by omega), if_neg (show ¬ (c = 16 ∧ m ≤ j ∧ j < m + D) by omega)]
          rw [ee] at t2
          exact ⟨_, _, _, rfl, rfl, t2⟩
        · rw [if_neg hmn] at hA
          rw [hA, cI_t, if_neg (show ¬ ((m : Int) + (D : Int) ≤ 200) by omega)]
          exact ⟨_, _, _, rfl, rfl, hr4⟩
    · rw [if_neg q, if_neg q, if_neg q, if_pos (show (-6 : Int) < 0 by decide)]
      exact ⟨_, _, _, rfl, rfl, b1⟩
  · rw [if_neg ho, if_pos rfl, if_pos rfl, cI_t, if_pos (show (-2 : Int) < 0 by decide)]
    exact ⟨-2, μ, ν, rfl, rfl, h⟩
