/-- the told STEPS so far (the reference) -/
def tr3 (μ : Mem) (m n : Nat) (k w p : Nat → Int) : Mem := fun c j =>
  if c = 14 ∧ m ≤ j ∧ j < m + n then k (j - m) else if c = 15 ∧ m ≤ j ∧ j < m + n then w (j - m) else if c = 16 ∧ m ≤ j ∧ j < m + n then p (j - m) else if c = 0 ∧ j = 16 then ((m + n : Nat) : Int) else μ c j
theorem tr3_o {μ : Mem} {m n c : Nat} {k w p : Nat → Int} (h : c ≠ 0 ∧ ¬ (14 ≤ c ∧ c ≤ 16)) : tr3 μ m n k w p c = μ c := by
  funext j
  unfold tr3
  rw [if_neg (by omega), if_neg (by omega), if_neg (by omega), if_neg (by omega)]
theorem tr3_c {μ : Mem} {m n : Nat} {k w p : Nat → Int} : tr3 μ m n k w p 0 16 = ((m + n : Nat) : Int) := by
  unfold tr3
  rw [if_neg (by omega), if_neg (by omega), if_neg (by omega), if_pos ⟨rfl, rfl⟩]
theorem tr3_z {μ : Mem} {m n j : Nat} {k w p : Nat → Int} (h : j ≠ 16) : tr3 μ m n k w p 0 j = μ 0 j := by
  unfold tr3
  rw [if_neg (by omega), if_neg (by omega), if_neg (by omega), if_neg (by omega)]
theorem tr3_0 {μ : Mem} {m : Nat} {k w p : Nat → Int} (h : μ 0 16 = (m : Int)) : tr3 μ m 0 k w p = μ := by
  funext c j
  unfold tr3
  rw [if_neg (by omega), if_neg (by omega), if_neg (by omega)]
  by_cases q : c = 0 ∧ j = 16
  · rw [if_pos q, q.1, q.2, h]
    rfl
  · rw [if_neg q]
theorem tr3_s {μ : Mem} {m i : Nat} {k w p : Nat → Int} : up (up (up (up (tr3 μ m i k w p) 14 (m + i) (k i)) 15 (m + i) (w i)) 16 (m + i) (p i)) 0 16 ((m + (i + 1) : Nat) : Int) = tr3 μ m (i + 1) k w p := by
  funext c j
  have U : ∀ (μ : Mem) (c i c' i' : Nat) (v : Int), up μ c i v c' i' = if c' = c ∧ i' = i then v else μ c' i' := fun _ _ _ _ _ _ => rfl
  rw [U, U, U, U]
  unfold tr3
  by_cases h25 : c = 14
  · subst h25
    rw [if_neg (by omega), if_neg (by omega), if_neg (by omega)]
    by_cases hj : j = m + i
    · subst hj
      rw [if_pos ⟨rfl, rfl⟩, if_pos (by omega), show m + i - m = i by omega]
    · rw [if_neg (by omega), if_neg (show ¬ ((14 : Nat) = 15 ∧ _) by omega), if_neg (show ¬ ((14 : Nat) = 16 ∧ _) by omega), if_neg (show ¬ ((14 : Nat) = 0 ∧ _) by omega)]
      by_cases hq : m ≤ j ∧ j < m + i
      · rw [if_pos (by omega), if_pos (by omega)]
      · rw [if_neg (by omega), if_neg (by omega), if_neg (by omega), if_neg (by omega), if_neg (by omega)]
  by_cases h26 : c = 15
  · subst h26
    rw [if_neg (by omega), if_neg (by omega)]
    by_cases hj : j = m + i
    · subst hj
      rw [if_pos ⟨rfl, rfl⟩, if_neg (by omega), if_pos (by omega), show m + i - m = i by omega]
    · rw [if_neg (by omega), if_neg (by omega), if_neg (by omega)]
      by_cases hq : m ≤ j ∧ j < m + i
      · rw [if_pos (by omega), if_neg (by omega), if_pos (by omega)]
      · rw [if_neg (by omega), if_neg (by omega), if_neg (by omega), if_neg (by omega), if_neg (by omega), if_neg (by omega), if_neg (by omega)]
  by_cases h27 : c = 16
  · subst h27
    rw [if_neg (by omega)]
    by_cases hj : j = m + i
    · subst hj
      rw [if_pos ⟨rfl, rfl⟩, if_neg (by omega), if_neg (by omega), if_pos (by omega), show m + i - m = i by omega]
    · rw [if_neg (by omega), if_neg (by omega), if_neg (by omega), if_neg (by omega), if_neg (by omega)]
      by_cases hq : m ≤ j ∧ j < m + i
      · rw [if_pos (by omega), if_neg (by omega), if_neg (by omega), if_pos (by omega)]
      · rw [if_neg (by omega), if_neg (by omega), if_neg (by omega), if_neg (by omega), if_neg (by omega), if_neg (by omega)]
  by_cases h23 : c = 0 ∧ j = 16
  · rw [if_pos h23, if_neg (by omega), if_neg (by omega), if_neg (by omega), if_pos h23]
  · rw [if_neg h23, if_neg (by omega), if_neg (by omega), if_neg (by omega), if_neg (by omega), if_neg (by omega), if_neg (by omega), if_neg h23, if_neg (by omega), if_neg (by omega), if_neg (by omega), if_neg h23]
theorem telR_fin {ν : Mem} {e m n : Nat} {k w p : Nat → Int} : up (up (up (up (up (tr3 (up (up ν 10 e (m : Int)) 11 e (n : Int)) m n k w p) 13 e (ν 0 15)) 0 15 (ν 0 15 + 1)) 12 e (-4)) 7 e 2) 17 (1000 * e + (ν 0 22).toNat) 3 = telR ν e m n k w p (ν 0 45) := by
  funext c j
  have U : ∀ (μ : Mem) (c i c' i' : Nat) (v : Int), up μ c i v c' i' = if c' = c ∧ i' = i then v else μ c' i' := fun _ _ _ _ _ _ => rfl
  rw [U, U, U, U, U]
  unfold tr3 telR
  rw [U, U]
  by_cases c0 : c = 0
  · subst c0
    simp
    by_cases j15 : j = 15
    · subst j15; simp
    · simp [j15]
      by_cases j16 : j = 16
      · simp [j16]
      · simp [j16]
        intro q; rw [q]
  by_cases q14 : 14 ≤ c ∧ c ≤ 16
  · rw [if_neg (by omega), if_neg (by omega), if_neg (by omega), if_neg (by omega), if_neg (by omega)]
    by_cases a1 : c = 14 ∧ m ≤ j ∧ j < m + n
    · rw [if_pos a1, if_pos a1]
    rw [if_neg a1, if_neg a1]
    by_cases a2 : c = 15 ∧ m ≤ j ∧ j < m + n
    · rw [if_pos a2, if_pos a2]
    rw [if_neg a2, if_neg a2]
    by_cases a3 : c = 16 ∧ m ≤ j ∧ j < m + n
    · rw [if_pos a3, if_pos a3]
    rw [if_neg a3, if_neg a3, if_neg (by omega), if_neg (by omega), if_neg (by omega), if_neg (by omega), if_neg (by omega), if_neg (by omega), if_neg (by omega), if_neg (by omega), if_neg (by omega), if_neg (by omega), if_neg (by omega), if_neg (by omega)]
  rw [if_neg (show ¬ (c = 14 ∧ m ≤ j ∧ j < m + n) by omega), if_neg (show ¬ (c = 15 ∧ m ≤ j ∧ j < m + n) by omega), if_neg (show ¬ (c = 16 ∧ m ≤ j ∧ j < m + n) by omega), if_neg (show ¬ (c = 14 ∧ m ≤ j ∧ j < m + n) by omega), if_neg (show ¬ (c = 15 ∧ m ≤ j ∧ j < m + n) by omega), if_neg (show ¬ (c = 16 ∧ m ≤ j ∧ j < m + n) by omega), if_neg (show ¬ (c = 0 ∧ j = 16) by omega), if_neg (show ¬ (c = 0 ∧ j = 15) by omega), if_neg (show ¬ (c = 0 ∧ j = 15) by omega), if_neg (show ¬ (c = 0 ∧ j = 16) by omega), if_neg (show ¬ (c = 0 ∧ j = 45) by omega)]
  by_cases a10 : c = 10 ∧ j = e
  · rw [if_neg (by omega), if_neg (by omega), if_neg (by omega), if_neg (by omega), if_neg (by omega), if_pos a10, if_pos a10]
  by_cases a11 : c = 11 ∧ j = e
  · rw [if_neg (by omega), if_neg (by omega), if_neg (by omega), if_neg (by omega), if_pos a11, if_neg a10, if_pos a11]
  by_cases a12 : c = 12 ∧ j = e
  · rw [if_neg (by omega), if_neg (by omega), if_pos a12, if_neg a10, if_neg a11, if_pos a12]
  by_cases a13 : c = 13 ∧ j = e
  · rw [if_neg (by omega), if_neg (by omega), if_neg a12, if_pos a13, if_neg a10, if_neg a11, if_neg a12, if_pos a13]
  by_cases a7 : c = 7 ∧ j = e
  · rw [if_neg (by omega), if_pos a7, if_neg a10, if_neg a11, if_neg a12, if_neg a13, if_pos a7]
  rw [if_neg a7, if_neg a12, if_neg a13, if_neg a11, if_neg a10, if_neg a10, if_neg a11, if_neg a12, if_neg a13, if_neg a7]
theorem telR_45 {ν : Mem} {e m n : Nat} {k w p : Nat → Int} {z z' : Int} : up (telR ν e m n k w p z) 0 45 z' = telR ν e m n k w p z' := by
  funext c j
  have U : ∀ (μ : Mem) (c i c' i' : Nat) (v : Int), up μ c i v c' i' = if c' = c ∧ i' = i then v else μ c' i' := fun _ _ _ _ _ _ => rfl
  rw [U]
  by_cases q : c = 0 ∧ j = 45
  · rw [if_pos q]
    obtain ⟨rfl, rfl⟩ := q
    simp [telR]
  · rw [if_neg q]
    unfold telR
    rw [if_neg q, if_neg q]
theorem telR_k45 {ν : Mem} {e m n : Nat} {k w p : Nat → Int} {z : Int} : telR ν e m n k w p z 0 45 = z := by simp [telR]
/-- the reference's last writes -/
theorem s_fin {ν X : Mem} {e m n : Nat} {k w p : Nat → Int} (he : e < 24) (h15 : 0 ≤ ν 0 15 ∧ ν 0 15 ≤ 424) (hd : 0 ≤ ν 0 22 ∧ ν 0 22 ≤ 999) (hX : X = tr3 (up (up ν 10 e (m : Int)) 11 e (n : Int)) m n k w p) (F : Mem → Option Rs) : gi (e : Int) (lnR 13) (gi (e : Int) (lnR 12) (cV (f_X12_becomes [vR 12 0, vI e, vI 2] (up (up (up X 13 ((e : Int)).toNat (X 0 15)) 0 15 (wr (((up X 13 ((e : Int)).toNat (X 0 15)) 0 15) + 1))) 12 ((e : Int)).toNat (-4))) F)) = F (telR ν e m n k w p (ν 0 45)) := by
  have X15 : X 0 15 = ν 0 15 := by rw [hX, tr3_z (by omega), up_cell (by omega), up_cell (by omega)]
  have X22 : X 0 22 = ν 0 22 := by rw [hX, tr3_z (by omega), up_cell (by omega), up_cell (by omega)]
  rw [gk (lnR 13) 24 rfl (by omega) (by omega), gk (lnR 12) 24 rfl (by omega) (by omega), show ((e : Int)).toNat = e by omega, X15, up_cell (c := 13) (c' := 0) (by omega), X15, wr_eq (x := ν 0 15 + 1) (by omega) (by omega), q_X12_becomes, gk (lnR 7) 24 rfl (by omega) (by omega), show ((e : Int)).toNat = e by omega, up_cell (c := 7) (c' := 0) (by omega), up_cell (c := 12) (c' := 0) (by omega), up_slot (show (22 : Nat) ≠ 15 by omega), up_cell (c := 13) (c' := 0) (by omega), X22, wr_eq (x := 1000 * (e : Int)) (by omega) (by omega), wr_eq (x := 1000 * (e : Int) + ν 0 22) (by omega) (by omega), gk (lnR 17) 24000 rfl (by omega) (by omega), cV_t, show (1000 * (e : Int) + ν 0 22).toNat = 1000 * e + (ν 0 22).toNat by omega, show wr (2 + 1) = 3 by decide, hX, telR_fin]
/-- THE CLASS tells; when the reference has told the same, the relation stands -/
theorem s_tell {μ ν : Mem} {v0 n m e : Nat} {Ts : Nat → List Int} (h : Rel μ ν) (hv : rwV v0) (he : (e : Int) < ν 0 5) (h7 : μ v0 7 = (e : Int)) (h8 : μ v0 8 = (n : Int)) (hn : n ≤ 20) (hm : ν 0 16 = (m : Int)) (ho : ν 7 e = 1 ∨ ν 7 e = 3) (h0 : Ts 0 = sL ν e 0) (hTn : Ts n = sL ν e 1)
    (hst : ∀ i, i < n → stp ν (μ (v0 + 1) i) (μ (v0 + 2) i) (μ (v0 + 3) i) (Ts i) = .inr (Ts (i + 1)) ∧ 0 ≤ μ (v0 + 1) i ∧ μ (v0 + 1) i ≤ 3 ∧ μ (v0 + 4) i = ptw ν (μ (v0 + 1) i) (μ (v0 + 2) i) (μ (v0 + 3) i) (Ts i)) :
    if m + n ≤ 200 then ∃ μ', f_X11_tell [vR 11 0, vR 1 v0] μ = some (some (vI (n : Int)), μ') ∧ Rel μ' (telR ν e m n (μ (v0 + 1)) (μ (v0 + 2)) (μ (v0 + 3)) (if ν 0 45 = (e : Int) then -4 else ν 0 45))
    else f_X11_tell [vR 11 0, vR 1 v0] μ = some (some (vI (-3)), μ) := by
  obtain ⟨t, ht⟩ : ∃ t : Nat, μ 23 7 = (t : Int) := ⟨(μ 23 7).toNat, by have := h.2.2.2.2.2.2.1.1; omega⟩
  have h24 := h.2.2.2.1.2.1
  have hv2 : 163 ≤ v0 := by unfold rwV at hv; omega
  have hA := s_tellProof h hv he h7 h8 hn hm ht ho hst
  have h10 : μ 0 10 = ν 0 22 := h.2.1.2.1
  rw [q_X11_tell, h10]
  by_cases hmn : m + n ≤ 200
  · rw [if_pos hmn] at hA ⊢
    obtain ⟨un, pu, a1, a2, a3⟩ := hA
    rw [a1, cI_t, if_neg ten, h8]
    have tk : ∀ c, 151 ≤ c → telC μ e m n t (μ (v0 + 1)) (μ (v0 + 2)) (μ (v0 + 3)) (ν 0 22) un pu c = μ c := fun c hc => by
      funext j
      unfold telC
      rw [if_neg (by omega), if_neg (by omega), if_neg (by omega), if_neg (by omega), if_neg (by omega), if_neg (by omega), if_neg (by omega), if_neg (by omega), if_neg (by omega), if_neg (by omega), if_neg (by omega), if_neg (by omega), if_neg (by omega), if_neg (by omega), if_neg (by omega)]
    rw [tk 163 (by omega), tk v0 (by omega), h7]
    have hI := h.2.2.2.2.2.1
    by_cases q : ν 0 45 = (e : Int)
    · have h163 : μ 163 7 = (e : Int) := by
        rcases hI with ⟨x, _⟩ | ⟨_, _, _, x, _⟩
        · omega
        · omega
      rw [if_pos h163, q_X1_drop, cV_t]
      refine ⟨_, rfl, tell_rel h he ho hn hm hmn ht h0 hTn (fun i hi => ⟨(hst i hi).1, (hst i hi).2.1, (hst i hi).2.2.1⟩) a2 a3 rfl (fun c hc => by rw [up_cell (by omega), up_cell (by omega)]) (Or.inl ⟨?_, ?_, ?_⟩)⟩
      · rw [telR_k45, if_pos q]
      · rw [up_slot (by omega), up_same]
      · rw [up_same]
    · have h163 : ¬ μ 163 7 = (e : Int) := by
        rcases hI with ⟨_, x, _⟩ | ⟨_, _, _, x, _⟩
        · omega
        · omega
      rw [if_neg h163]
      refine ⟨_, rfl, tell_rel (z := if ν 0 45 = (e : Int) then -4 else ν 0 45) h he ho hn hm hmn ht h0 hTn (fun i hi => ⟨(hst i hi).1, (hst i hi).2.1, (hst i hi).2.2.1⟩) a2 a3 rfl (fun c hc => rfl) ?_⟩
      rw [if_neg q]
      generalize hν : telR ν e m n (μ (v0 + 1)) (μ (v0 + 2)) (μ (v0 + 3)) (ν 0 45) = ν'
      have zo : ∀ j, j ≠ 15 → j ≠ 16 → ν' 0 j = ν 0 j := fun j a b => by
        rw [← hν]
        by_cases c : j = 45
        · subst c; exact telR_k45
        · simp [telR, a, b, c]
      have ro : ∀ c, c ≠ 0 → c ≠ 7 → ¬ (10 ≤ c ∧ c ≤ 17) → ν' c = ν c := fun c a b d => by
        funext j
        rw [← hν]
        unfold telR
        rw [if_neg (by omega), if_neg (by omega), if_neg (by omega), if_neg (by omega), if_neg (by omega), if_neg (by omega), if_neg (by omega), if_neg (by omega), if_neg (by omega), if_neg (by omega), if_neg (by omega), if_neg (by omega)]
      have r7 : ∀ j, ν' 7 j = if j = e then 2 else ν 7 j := fun j => by rw [← hν]; simp [telR]
      have fq : FrQ ν ν' := ⟨fun c a b => ro c (by omega) (by omega) (by omega), zo 0 (by omega) (by omega), zo 5 (by omega) (by omega), zo 23 (by omega) (by omega)⟩
      refine RelI.kept (μ := μ) ?_ (fun c a b => tk c (by omega))
      rcases hI with ⟨a, b, c⟩ | ⟨h1, h2, h3, h4, h5, h6, h7', Ts', h8', h9, h10'⟩
      · exact Or.inl ⟨by rw [zo 45 (by omega) (by omega)]; exact a, b, c⟩
      · unfold RelI
        rw [zo 45 (by omega) (by omega), zo 46 (by omega) (by omega), fq.2.2.1, frQ_sL fq, ro 26 (by omega) (by omega) (by omega), ro 27 (by omega) (by omega) (by omega), ro 28 (by omega) (by omega) (by omega), r7, if_neg (by omega), frQ_ptw fq]
        refine Or.inr ⟨h1, h2, h3, h4, h5, h6, h7', Ts', h8', h9, fun i hi => ⟨frQ_stpR fq (h10' i hi).1 (fun _ y => ?_), (h10' i hi).2⟩⟩
        rw [r7]
        split
        · exact Or.inr rfl
        · exact y
  · rw [if_neg hmn] at hA ⊢
    rw [hA, cI_t, if_pos rfl]
/-! show -/
theorem s_shows22 {ν : Mem} {e n m : Nat} (hn46 : ν 0 46 = (n : Int)) (hn : n ≤ 20) (hm : m + n ≤ 200) : ∀ (j i : Nat), i + j = n → e_X12_shows_22 e i (tr3 ν m i (ν 26) (ν 27) (ν 28)) = e_X12_shows_22 e n (tr3 ν m n (ν 26) (ν 27) (ν 28))
  | 0, i, hj => by
    obtain rfl : i = n := by omega
    rfl
  | j + 1, i, hj => by
    have T : ∀ c, 17 ≤ c → tr3 ν m i (ν 26) (ν 27) (ν 28) c = ν c := fun c hc => tr3_o (by omega)
    rw [← s_shows22 (e := e) hn46 hn hm j (i + 1) (by omega), ← tr3_s]
    have T10 : tr3 ν m i (ν 26) (ν 27) (ν 28) 0 16 = ((m + i : Nat) : Int) := tr3_c
    have T46 : tr3 ν m i (ν 26) (ν 27) (ν 28) 0 46 = (n : Int) := by rw [tr3_z (by omega)]; exact hn46
    generalize hX : tr3 ν m i (ν 26) (ν 27) (ν 28) = X at T T10 T46 ⊢
    have u14 : ∀ (m : Mem) (i : Nat) (v : Int), up m 14 i v 0 = m 0 := fun m i v => up_cell (by omega)
    have u15 : ∀ (m : Mem) (i : Nat) (v : Int), up m 15 i v 0 = m 0 := fun m i v => up_cell (by omega)
    have u16 : ∀ (m : Mem) (i : Nat) (v : Int), up m 16 i v 0 = m 0 := fun m i v => up_cell (by omega)
    have w14 : ∀ (m : Mem) (i : Nat) (v : Int), up m 14 i v 27 = m 27 := fun m i v => up_cell (by omega)
    have w15 : ∀ (m : Mem) (i : Nat) (v : Int), up m 15 i v 28 = m 28 := fun m i v => up_cell (by omega)
    have w16 : ∀ (m : Mem) (i : Nat) (v : Int), up m 14 i v 28 = m 28 := fun m i v => up_cell (by omega)
    rw [q_X12_shows_22, T46, if_pos (by omega)]
    simp only [u14, u15, u16, w14, w15, w16, T10, T 26 (by omega), T 27 (by omega), T 28 (by omega), Int.toNat_natCast]
    rw [gk (lnR 26) 20 rfl (by omega) (by omega), gk (lnR 14) 200 rfl (by omega) (by omega), gk (lnR 27) 20 rfl (by omega) (by omega), gk (lnR 15) 200 rfl (by omega) (by omega), gk (lnR 28) 20 rfl (by omega) (by omega), gk (lnR 16) 200 rfl (by omega) (by omega), wr_eq (x := (i : Int) + 1) (by omega) (by omega), wr_eq (x := ((m + i : Nat) : Int) + 1) (by omega) (by omega), show (i : Int) + 1 = ((i + 1 : Nat) : Int) by omega, show ((m + i : Nat) : Int) + 1 = ((m + (i + 1) : Nat) : Int) by omega]
theorem sim_show (μ ν : Mem) (h : Rel μ ν) : Sm Rel f_X11_show f_X12_show [] μ ν := by
  unfold Sm
  have hS := h.2.2.2.1
  show ∃ r μ' ν', f_X11_show [vR 11 0] μ = some (some (vI r), μ') ∧ f_X12_show [vR 12 0] ν = some (some (vI r), ν') ∧ Rel μ' ν'
  rw [q_X11_show, q_X12_show, drop_t h, cI_t]
  by_cases h45 : ν 0 45 = -4
  · rw [if_pos h45, if_pos h45, if_neg ten]
    exact ⟨-2, μ, ν, rfl, rfl, h⟩
  obtain ⟨e, n, T, p1, p2, p3, p4, p5, p6, p7, p8, p9, ν', p10, p11, p12⟩ := inHand h h45
  have hM := frV_M p11
  have h24 := hS.2.1
  have hne : T ≠ [] := isT_ne p9.1
  have hr : Rel μ ν' := rel_scrR h (frV_R p11)
  have hs := hS.2.2.2.2.2.2.2.2 e p4
  have v45 : ν' 0 45 = (e : Int) := by rw [p11.2 45 (by omega) (by omega) (by omega) (by omega)]; exact p1
  have v46 : ν' 0 46 = (n : Int) := by rw [p11.2 46 (by omega) (by omega) (by omega) (by omega)]; exact p2
  rw [if_neg h45, if_neg h45, if_pos rfl, p10, cV_t, s_arrived (v0 := 163) (n := n) (Or.inl rfl) hS p4 p6 p7 p3 p8, cI_t, v45, s_isAtRight (e := e) (by omega) (by rw [frM_c hM (by omega)]; have := hs.2.1.1; omega) p12 hne, cI_t, frM_sL hM]
  by_cases q : T = sL ν e 1
  · rw [if_pos q, if_neg ten, if_neg ten]
    have hS' := hr.2.2.2.1
    obtain ⟨m, hm⟩ : ∃ m : Nat, ν' 0 16 = (m : Int) := ⟨(ν' 0 16).toNat, by have := hS'.2.2.2.1; omega⟩
    have m200 := hS'.2.2.2.2.1
    rcases hr.2.2.2.2.2.1 with ⟨a, b, c⟩ | ⟨h1, h2, h3, h4, h5, h6, h7, Ts, h8, h9, h10⟩
    · omega
    rw [v45] at h2 h3 h8
    rw [v46] at h9 h10
    rw [show ((e : Int)).toNat = e by omega] at h3 h8
    have hTn : Ts n = T := (h9 n (by omega)).inj (by rw [show 169 + 2 * n = 163 + 5 + 1 + 2 * n by omega]; exact p8)
    have e164 : ∀ i, i < n → μ (163 + 1) i = ν' 26 i ∧ μ (163 + 2) i = ν' 27 i ∧ μ (163 + 3) i = ν' 28 i := fun i hi => ⟨(h10 i (by omega)).2.1, (h10 i (by omega)).2.2.1, (h10 i (by omega)).2.2.2.1⟩
    have hA := s_tell (v0 := 163) (n := n) (m := m) (e := e) (Ts := Ts) hr (Or.inl rfl) h2 p6 p7 p3 hm h3 h8 (by rw [hTn, q, frM_sL hM]) (fun i hi => by
      obtain ⟨x1, x2, x3, x4, x5, x6, x7, x8⟩ := h10 i (by omega)
      have x2' : μ (163 + 1) i = ν' 26 i := x2
      have x3' : μ (163 + 2) i = ν' 27 i := x3
      have x4' : μ (163 + 3) i = ν' 28 i := x4
      rw [x2', x3', x4']
      exact ⟨x1, x6, x7, x5⟩)
    rw [v46, hm, wr_eq (x := (m : Int) + (n : Int)) (by omega) (by omega)]
    by_cases hmn : m + n ≤ 200
    · rw [if_pos hmn, v45, if_pos rfl] at hA
      obtain ⟨μ', a1, a2⟩ := hA
      have d5 := hr.2.2.2.2.2.2.1
      have tl := turns_le d5 hS'
      have s15 := hS'.2.2.2.2.2.2.1
      rw [a1, cI_t, if_pos (show (m : Int) + (n : Int) ≤ 200 by omega), v45, q_X12_shows, gk (lnR 10) 24 rfl (by omega) (by omega), gk (lnR 11) 24 rfl (by omega) (by omega), show ((e : Int)).toNat = e by omega, up_cell (c := 10) (c' := 0) (by omega), v46, hm]
      have L := s_shows22 (ν := up (up ν' 10 e (m : Int)) 11 e (n : Int)) (e := e) (n := n) (m := m) (by rw [up_cell (by omega), up_cell (by omega)]; exact v46) p3 hmn n 0 (by omega)
      rw [tr3_0 (by rw [up_cell (by omega), up_cell (by omega)]; exact hm)] at L
      have L' : e_X12_shows_22 e 0 (up (up ν' 10 e (m : Int)) 11 e (n : Int)) = _ := L
      rw [L', q_X12_shows_22, tr3_z (show (46 : Nat) ≠ 16 by omega), up_cell (c := 11) (c' := 0) (by omega), up_cell (c := 10) (c' := 0) (by omega), v46, if_neg (by omega), up_cell (c := 11) (c' := 26) (by omega), up_cell (c := 10) (c' := 26) (by omega), up_cell (c := 11) (c' := 27) (by omega), up_cell (c := 10) (c' := 27) (by omega), up_cell (c := 11) (c' := 28) (by omega), up_cell (c := 10) (c' := 28) (by omega), s_fin (ν := ν') (m := m) (n := n) (k := ν' 26) (w := ν' 27) (p := ν' 28) (by omega) (by omega) ⟨hr.2.1.2.2.1, hr.2.1.2.2.2⟩ rfl, cV_t, telR_45]
      have ee : telR ν' e m n (μ (163 + 1)) (μ (163 + 2)) (μ (163 + 3)) (-4) = telR ν' e m n (ν' 26) (ν' 27) (ν' 28) (-4) := by
        funext c j
        unfold telR
        by_cases y : m ≤ j ∧ j < m + n
        · rw [(e164 (j - m) (by omega)).1, (e164 (j - m) (by omega)).2.1, (e164 (j - m) (by omega)).2.2]
        · rw [if_neg (show ¬ (c = 14 ∧ m ≤ j ∧ j < m + n) by omega), if_neg (show ¬ (c = 15 ∧ m ≤ j ∧ j < m + n) by omega), if_neg (show ¬ (c = 16 ∧ m ≤ j ∧ j < m + n) by omega), if_neg (show ¬ (c = 14 ∧ m ≤ j ∧ j < m + n) by omega), if_neg (show ¬ (c = 15 ∧ m ≤ j ∧ j < m + n) by omega), if_neg (show ¬ (c = 16 ∧ m ≤ j ∧ j < m + n) by omega)]
      rw [ee] at a2
      refine ⟨_, _, _, rfl, ?_, a2⟩
      have z46 : telR ν' e m n (ν' 26) (ν' 27) (ν' 28) (-4) 0 46 = (n : Int) := by
        rw [← v46]
        simp [telR]
      rw [z46]
    · rw [if_neg hmn] at hA
      rw [hA, cI_t, if_neg (show ¬ ((m : Int) + (n : Int) ≤ 200) by omega)]
      exact ⟨_, _, _, rfl, rfl, hr⟩
  · rw [if_neg q, if_pos rfl, if_pos rfl]
    exact ⟨-2, μ, ν', rfl, rfl, hr⟩
