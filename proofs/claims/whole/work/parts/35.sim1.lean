/-! THE CALLS, the simple ones: both sides answer alike and the relation is kept -/
theorem gk (n m : Nat) {i : Int} {x : Option Rs} (hn : n = m) (h0 : 0 ≤ i) (h : i < (m : Int)) : gi i n x = x := by subst hn; exact gi_t h0 h
theorem up_o {μ : Mem} {c i c' : Nat} {v : Int} (h : c' ≠ c) : up μ c i v c' = μ c' := up_cell h
theorem frM_up0 {ν : Mem} {k : Nat} {v : Int} (h : k ≠ 0 ∧ k ≠ 5 ∧ k ≠ 23) : FrM ν (up ν 0 k v) := ⟨fun c h1 _ => up_cell (by omega), up_slot (by omega), up_slot (by omega), up_slot (by omega)⟩
theorem frM_up {ν : Mem} {c k : Nat} {v : Int} (h : 17 ≤ c) : FrM ν (up ν c k v) := ⟨fun c' h1 h2 => up_cell (by omega), up_ne (by omega), up_ne (by omega), up_ne (by omega)⟩
theorem sim_hand (μ ν : Mem) (x : Int) (_ : in32 x) (h : Rel μ ν) : Sm Rel f_X11_hand f_X12_hand [vI x] μ ν := by
  unfold Sm
  rw [q_X11_hand, q_X12_hand, s_in, cI_t]
  by_cases hx : 0 ≤ x ∧ x ≤ 9
  · rw [if_neg (show ¬ x < 0 by omega), if_pos hx.2, if_pos hx, if_neg (show ¬ (1 : Int) = 0 by decide)]
    obtain ⟨hT, hH, hW, hS, hP, hI, hD, hL, hG, hC⟩ := h
    refine ⟨μ 0 9, _, _, rfl, by rw [hH.1], ?_⟩
    have m : FrM ν (up ν 0 21 x) := frM_up0 (by omega)
    have h24 := hS.2.1
    refine ⟨(hT.kept (μ' := up μ 0 9 x) rfl rfl rfl).keptR rfl rfl rfl, ?_, (hW.kept (μ' := up μ 0 9 x) (fun c _ _ => up_cell (by omega))).keptR m, (hS.kept (μ' := up μ 0 9 x) rfl (fun c _ _ => up_cell (by omega))).keptR m rfl rfl, (hP.kept (μ' := up μ 0 9 x) rfl rfl rfl).keptR m rfl, (hI.kept (μ' := up μ 0 9 x) (fun c _ _ => up_cell (by omega))).keptR m rfl rfl rfl rfl rfl, (hD.kept (μ' := up μ 0 9 x) rfl rfl rfl rfl).keptR m rfl rfl rfl, (hL.kept (μ' := up μ 0 9 x) h24 (fun c _ _ => up_cell (by omega))).keptR m rfl, hG.keptR m rfl rfl rfl, (hC.kept (μ' := up μ 0 9 x) (fun c _ _ => up_cell (by omega))).keptR rfl rfl rfl⟩
    exact ⟨rfl, hH.2.1, hH.2.2.1, hH.2.2.2⟩
  · rw [if_neg hx, if_pos rfl]
    refine ⟨-1, μ, ν, ?_, rfl, h⟩
    split
    · rfl
    · rw [if_neg (by omega)]
theorem sim_fault (μ ν : Mem) (h : Rel μ ν) : Sm Rel f_X11_fault f_X12_fault [] μ ν := by
  unfold Sm
  rw [q_X11_fault, q_X12_fault]
  exact ⟨μ 151 9, μ, ν, rfl, by rw [h.1.2.2.2.1], h⟩
theorem sim_day (μ ν : Mem) (x : Int) (_ : in32 x) (h : Rel μ ν) : Sm Rel f_X11_day f_X12_day [vI x] μ ν := by
  unfold Sm
  rw [q_X11_day, q_X12_day, s_in, cI_t]
  obtain ⟨hT, hH, hW, hS, hP, hI, hD, hL, hG, hC⟩ := id h
  by_cases hx : ν 0 22 ≤ x ∧ x ≤ 999
  · rw [hH.2.1, if_neg (show ¬ x < ν 0 22 by omega), if_pos hx.2, if_pos hx, if_neg (show ¬ (1 : Int) = 0 by decide)]
    refine ⟨ν 0 22, _, _, rfl, rfl, ?_⟩
    have m : FrM ν (up ν 0 22 x) := frM_up0 (by omega)
    have h24 := hS.2.1
    refine ⟨(hT.kept (μ' := up μ 0 10 x) rfl rfl rfl).keptR rfl rfl rfl, ⟨hH.1, rfl, Int.le_trans hH.2.2.1 hx.1, hx.2⟩, (hW.kept (μ' := up μ 0 10 x) (fun c _ _ => up_cell (by omega))).keptR m, (hS.kept (μ' := up μ 0 10 x) rfl (fun c _ _ => up_cell (by omega))).keptR m rfl rfl, (hP.kept (μ' := up μ 0 10 x) rfl rfl rfl).keptR m rfl, (hI.kept (μ' := up μ 0 10 x) (fun c _ _ => up_cell (by omega))).keptR m rfl rfl rfl rfl rfl, ?_, (hL.kept (μ' := up μ 0 10 x) h24 (fun c _ _ => up_cell (by omega))).keptR m rfl, hG.keptR m rfl rfl rfl, (hC.kept (μ' := up μ 0 10 x) (fun c _ _ => up_cell (by omega))).keptR rfl rfl rfl⟩
    obtain ⟨a, b, c, d, e⟩ := hD.kept (μ' := up μ 0 10 x) rfl rfl rfl rfl
    refine ⟨a, b, fun i hi => ?_, fun e' d' h1 h2 => ⟨(d e' d' h1 h2).1, fun q => (d e' d' h1 h2).2 ?_⟩, fun e' he => ?_⟩
    · obtain ⟨c1, c2, c3, c4⟩ := c i hi
      exact ⟨c1, Int.le_trans c2 hx.1, c3, c4⟩
    · rcases q with q | q
      · exact Or.inl q
      · exact Or.inr (Int.lt_of_le_of_lt hx.1 q)
    · obtain ⟨e1, e2, e3⟩ := e e' he
      refine ⟨e1, Int.le_trans e2 hx.1, fun d' hd => ?_⟩
      rw [asR_congr (ν' := up ν 0 22 x) (ν := ν) rfl]
      exact e3 d' hd
  · rw [if_neg hx, if_pos rfl]
    refine ⟨-1, μ, ν, ?_, rfl, h⟩
    rw [hH.2.1]
    split
    · rfl
    · rw [if_neg (by omega)]
theorem sim_end (μ ν : Mem) (x : Int) (_ : in32 x) (h : Rel μ ν) : Sm Rel f_X11_end f_X12_end [vI x] μ ν := by
  unfold Sm
  rw [q_X11_end, q_X12_end, s_in, cI_t]
  obtain ⟨hT, hH, hW, hS, hP, hI, hD, hL, hG, hC⟩ := id h
  obtain ⟨t1, t2, t3, t4, t5⟩ := id hT
  by_cases hx : 0 ≤ x ∧ x ≤ ν 0 25
  · rw [t1, if_neg (show ¬ x < 0 by omega), if_pos hx.2, if_pos hx, if_neg (show ¬ (1 : Int) = 0 by decide)]
    refine ⟨ν 0 25, _, _, rfl, rfl, ?_⟩
    have m : FrM ν (up ν 0 25 x) := frM_up0 (by omega)
    have h24 := hS.2.1
    exact ⟨⟨rfl, hx.1, Int.le_trans hx.2 t3, t4, fun i hi => t5 i (Int.lt_of_lt_of_le hi hx.2)⟩, hH, (hW.kept (μ' := up μ 151 8 x) (fun c _ _ => up_cell (by omega))).keptR m, (hS.kept (μ' := up μ 151 8 x) rfl (fun c _ _ => up_cell (by omega))).keptR m rfl rfl, (hP.kept (μ' := up μ 151 8 x) rfl rfl rfl).keptR m rfl, (hI.kept (μ' := up μ 151 8 x) (fun c _ _ => up_cell (by omega))).keptR m rfl rfl rfl rfl rfl, (hD.kept (μ' := up μ 151 8 x) rfl rfl rfl rfl).keptR m rfl rfl rfl, (hL.kept (μ' := up μ 151 8 x) h24 (fun c _ _ => up_cell (by omega))).keptR m rfl, hG.keptR m rfl rfl rfl, (hC.kept (μ' := up μ 151 8 x) (fun c _ _ => up_cell (by omega))).keptR rfl rfl rfl⟩
  · rw [if_neg hx, if_pos rfl, t1]
    refine ⟨-1, μ, ν, ?_, rfl, h⟩
    split
    · rfl
    · rw [if_neg (by omega)]
/-- the class's get of a saying -/
theorem s_get {μ ν : Mem} (h : RelS μ ν) (e : Int) : f_X3_get [vR 3 23, vI e] μ = if 0 ≤ e ∧ e < ν 0 5 then some (some (vR 2 (31 + 5 * e.toNat)), μ) else some (some vN, μ) := by
  obtain ⟨h1, h2, h3, -⟩ := h
  rw [q_X3_get, h3]
  by_cases hx : 0 ≤ e ∧ e < ν 0 5
  · rw [if_pos hx, if_neg (show ¬ e < 0 by omega), if_pos hx.2, gk (lnC 24) 24 rfl hx.1 (by omega)]
  · rw [if_neg hx]
    split
    · rfl
    · rw [if_neg (by omega)]
/-- both sides refuse what is no saying -/
theorem isS_t {ν : Mem} {μ : Mem} (h : RelS μ ν) {e : Int} (he : 0 ≤ e ∧ e < ν 0 5) : f_X12_isSaying [vR 12 0, vI e] ν = some (some (vI 1), ν) := by rw [s_isSaying e ν ⟨h.1, h.2.1⟩, if_pos he]
theorem isS_f {ν : Mem} {μ : Mem} (h : RelS μ ν) {e : Int} (he : ¬ (0 ≤ e ∧ e < ν 0 5)) : f_X12_isSaying [vR 12 0, vI e] ν = some (some (vI 0), ν) := by rw [s_isSaying e ν ⟨h.1, h.2.1⟩, if_neg he]
theorem get_t {ν : Mem} {μ : Mem} (h : RelS μ ν) {e : Int} (he : 0 ≤ e ∧ e < ν 0 5) : f_X3_get [vR 3 23, vI e] μ = some (some (vR 2 (31 + 5 * e.toNat)), μ) := by rw [s_get h, if_pos he]
theorem get_f {ν : Mem} {μ : Mem} (h : RelS μ ν) {e : Int} (he : ¬ (0 ≤ e ∧ e < ν 0 5)) : f_X3_get [vR 3 23, vI e] μ = some (some vN, μ) := by rw [s_get h, if_neg he]
theorem ten : ¬ (1 : Int) = 0 := by decide
theorem sim_sign (μ ν : Mem) (x1 x2 x3 : Int) (hi1 : in32 x1) (hi2 : in32 x2) (hi3 : in32 x3) (h : Rel μ ν) : Sm Rel f_X11_sign f_X12_sign [vI x1, vI x2, vI x3] μ ν := by
  unfold Sm
  rw [q_X11_sign, q_X12_sign]
  obtain ⟨hT, hH, hW, hS, hP, hI, hD, hL, hG, hC⟩ := id h
  by_cases he : 0 ≤ x1 ∧ x1 < ν 0 5
  · rw [get_t hS he, isS_t hS he, cR_s, cI_t, if_neg ten, s_in, cI_t]
    by_cases hk : 0 ≤ x2 ∧ x2 ≤ 1
    · rw [if_neg (show ¬ x2 < 0 by omega), if_pos hk.2, if_pos hk, if_neg ten]
      by_cases h3 : x3 < 0
      · rw [if_pos h3, if_pos h3]
        exact ⟨-1, μ, ν, rfl, rfl, h⟩
      · rw [if_neg h3, if_neg h3]
        obtain ⟨n1, n2, -, -, -, -, -, -, hs9⟩ := hS
        have hs := hs9 x1.toNat (by omega)
        have w1 : wr (2 * x1) = 2 * x1 := wr_eq (by omega) (by omega)
        have w2 : wr (2 * x1 + x2) = 2 * x1 + x2 := wr_eq (by omega) (by omega)
        have w3 : wr (40 * x1) = 40 * x1 := wr_eq (by omega) (by omega)
        have w4 : wr (20 * x2) = 20 * x2 := wr_eq (by omega) (by omega)
        have w5 : wr (40 * x1 + 20 * x2) = 40 * x1 + 20 * x2 := wr_eq (by omega) (by omega)
        rw [w1, w2, w3, w4, w5, gk (lnR 6) 48 rfl (by omega) (by omega)]
        have key : ∀ (k : Nat), x2 = (k : Int) → okS ν x1.toNat k → (if x3 < ν 6 (2 * x1 + x2).toNat then gi (wr (40 * x1 + 20 * x2 + x3)) (lnR 5) (some (some (vI (ν 5 (wr (40 * x1 + 20 * x2 + x3)).toNat)), ν)) else some (some (vI (-4)), ν)) = some (some (vI (atL (sL ν x1.toNat k) x3)), ν) := by
          intro k hk2 hok
          have e6 : (2 * x1 + x2).toNat = 2 * x1.toNat + k := by omega
          rw [e6]
          have hl : (sL ν x1.toNat k).length = (ν 6 (2 * x1.toNat + k)).toNat := sg_len _ _ _ _
          obtain ⟨o1, o2, -, -⟩ := hok
          by_cases h4 : x3 < ν 6 (2 * x1.toNat + k)
          · rw [if_pos h4, wr_eq (by omega) (by omega), gk (lnR 5) 960 rfl (by omega) (by omega)]
            rw [atL_in (x := ν 5 (40 * x1 + 20 * x2 + x3).toNat) (by omega)]
            rw [show (40 * x1 + 20 * x2 + x3).toNat = 40 * x1.toNat + 20 * k + x3.toNat by omega]
            exact sg_get (by omega)
          · rw [if_neg h4, atL_out (by omega)]
        by_cases h0 : x2 = 0
        · rw [if_pos h0, show 31 + 5 * x1.toNat + 1 = 32 + 5 * x1.toNat by omega, s_at hs.2.2.1, cI_t]
          exact ⟨_, μ, ν, rfl, key 0 (by omega) hs.1, h⟩
        · rw [if_neg h0, show 31 + 5 * x1.toNat + 3 = 34 + 5 * x1.toNat by omega, s_at hs.2.2.2.1, cI_t]
          exact ⟨_, μ, ν, rfl, key 1 (by omega) hs.2.1, h⟩
    · rw [if_neg hk, if_pos rfl]
      refine ⟨-1, μ, ν, ?_, rfl, h⟩
      split
      · rfl
      · rw [if_neg (by omega)]
  · rw [get_f hS he, isS_f hS he, cR_n, cI_t, if_pos rfl]
    exact ⟨-1, μ, ν, rfl, rfl, h⟩
