/-! count -/
theorem s_inState4 {μ ν : Mem} (hS : RelS μ ν) {st : Int} {n : Nat} (hn : ν 0 5 = (n : Int)) : ∀ (j i : Nat), i + j = n → e_X12_inState_4 st (cnt (fun g => decide (ν 7 g = st)) i : Int) i ν = some (some (vI (cnt (fun g => decide (ν 7 g = st)) n : Int)), ν)
  | 0, i, hj => by
    obtain rfl : i = n := by omega
    rw [q_X12_inState_4, hn, if_neg (by omega)]
  | j + 1, i, hj => by
    have h24 := hS.2.1
    have hc := cnt_le (fun g => decide (ν 7 g = st)) i
    have hs : cnt (fun g => decide (ν 7 g = st)) (i + 1) = cnt (fun g => decide (ν 7 g = st)) i + (if decide (ν 7 i = st) then 1 else 0) := rfl
    have r := s_inState4 hS (st := st) hn j (i + 1) (by omega)
    rw [hs] at r
    rw [q_X12_inState_4, hn, if_pos (by omega), gk (lnR 7) 24 rfl (by omega) (by omega), show ((i : Int)).toNat = i by omega, wr_eq (x := (i : Int) + 1) (by omega) (by omega), show (i : Int) + 1 = ((i + 1 : Nat) : Int) by omega]
    by_cases hi : ν 7 i = st
    · rw [if_pos (decide_eq_true hi)] at r
      rw [if_pos hi, wr_eq (by omega) (by omega)]
      exact r
    · rw [if_neg (by simp [hi])] at r
      rw [if_neg hi, wr_eq (by omega) (by omega), Int.add_zero]
      exact r
theorem s_inState {μ ν : Mem} (hS : RelS μ ν) (st : Int) : f_X12_inState [vR 12 0, vI st] ν = some (some (vI (cnt (fun g => decide (ν 7 g = st)) (ν 0 5).toNat : Int)), ν) := by
  rw [q_X12_inState]
  have h0 := hS.1
  exact s_inState4 hS (st := st) (n := (ν 0 5).toNat) (by omega) (ν 0 5).toNat 0 (by omega)
theorem s_maskCount {μ ν : Mem} (hS : RelS μ ν) (st : Int) : ∃ m, f_X3_maskOf [vR 3 23, vI st] μ = some (some (vI m), μ) ∧ f_J6_bitCount_0f7a4 [vI m] μ = some (some (vI (cnt (fun g => decide (ν 7 g = st)) (ν 0 5).toNat : Int)), μ) := by
  have h24 := hS.2.1
  have h0 := hS.1
  obtain ⟨m, a1, a2⟩ := s_maskOf hS st
  refine ⟨m, a1, ?_⟩
  rw [s_pop24 (a2.rng (fun k q => by have := q.1; omega))]
  obtain ⟨d, hd⟩ : ∃ d, 24 = (ν 0 5).toNat + d := ⟨24 - (ν 0 5).toNat, by omega⟩
  have z : ∀ n, n ≤ 24 - (ν 0 5).toNat → cnt (fun k => tb m ((ν 0 5).toNat + k)) n = 0 := by
    intro n
    induction n with
    | zero => intro _; rfl
    | succ n ih =>
      intro hn
      have hf : ¬ tb m ((ν 0 5).toNat + n) = true := fun q => by
        have := ((a2.2 _ (by omega)).mp q).1
        omega
      show cnt (fun k => tb m ((ν 0 5).toNat + k)) n + (if tb m ((ν 0 5).toNat + n) then 1 else 0) = 0
      rw [ih (by omega), if_neg hf]
  have e : cnt (tb m) 24 = cnt (fun g => decide (ν 7 g = st)) (ν 0 5).toNat := by
    rw [hd, cnt_add, z d (by omega), Nat.add_zero]
    refine cnt_congr _ (fun k hk => ?_)
    have q := a2.2 k (by omega)
    by_cases w : ν 7 k = st
    · rw [q.mpr ⟨by omega, w⟩, decide_eq_true w]
    · have : ¬ tb m k = true := fun z => w (q.mp z).2
      simp [w, this]
  rw [e]
theorem sim_count (μ ν : Mem) (x : Int) (_ : in32 x) (h : Rel μ ν) : Sm Rel f_X11_count f_X12_count [vI x] μ ν := by
  unfold Sm
  have hS := h.2.2.2.1
  have hT := h.1
  have hH := h.2.1
  have hW := h.2.2.1
  have hC := h.2.2.2.2.2.2.2.2.2 0 (by omega)
  rw [q_X11_count, q_X12_count]
  by_cases d0 : x = 0
  · rw [if_pos d0, if_pos d0, hS.2.2.1]
    exact ⟨_, μ, ν, rfl, rfl, h⟩
  rw [if_neg d0, if_neg d0]
  by_cases d1 : x = 1
  · obtain ⟨m, a1, a2⟩ := s_maskCount hS 0
    rw [if_pos d1, if_pos d1, wr_eq (by omega) (by omega), show x - 1 = 0 by omega, s_inState hS, cI_t, a1, cI_t, a2, cI_t]
    exact ⟨_, μ, ν, rfl, rfl, h⟩
  rw [if_neg d1, if_neg d1]
  by_cases d2 : x = 2
  · obtain ⟨m, a1, a2⟩ := s_maskCount hS 1
    rw [if_pos d2, if_pos d2, wr_eq (by omega) (by omega), show x - 1 = 1 by omega, s_inState hS, cI_t, a1, cI_t, a2, cI_t]
    exact ⟨_, μ, ν, rfl, rfl, h⟩
  rw [if_neg d2, if_neg d2]
  by_cases d3 : x = 3
  · obtain ⟨m, a1, a2⟩ := s_maskCount hS 2
    rw [if_pos d3, if_pos d3, wr_eq (by omega) (by omega), show x - 1 = 2 by omega, s_inState hS, cI_t, a1, cI_t, a2, cI_t]
    exact ⟨_, μ, ν, rfl, rfl, h⟩
  rw [if_neg d3, if_neg d3]
  by_cases d4 : x = 4
  · obtain ⟨m, a1, a2⟩ := s_maskCount hS 3
    rw [if_pos d4, if_pos d4, wr_eq (by omega) (by omega), show x - 1 = 3 by omega, s_inState hS, cI_t, a1, cI_t, a2, cI_t]
    exact ⟨_, μ, ν, rfl, rfl, h⟩
  rw [if_neg d4, if_neg d4]
  by_cases d5 : x = 5
  · rw [if_pos d5, if_pos d5, hW.2.2.2.1]
    exact ⟨_, μ, ν, rfl, rfl, h⟩
  rw [if_neg d5, if_neg d5]
  by_cases d6 : x = 6
  · rw [if_pos d6, if_pos d6, hS.2.2.2.2.2.1]
    exact ⟨_, μ, ν, rfl, rfl, h⟩
  rw [if_neg d6, if_neg d6]
  by_cases d7 : x = 7
  · rw [if_pos d7, if_pos d7, hH.1]
    exact ⟨_, μ, ν, rfl, rfl, h⟩
  rw [if_neg d7, if_neg d7]
  by_cases d8 : x = 8
  · rw [if_pos d8, if_pos d8, hH.2.1]
    exact ⟨_, μ, ν, rfl, rfl, h⟩
  rw [if_neg d8, if_neg d8]
  by_cases d9 : x = 9
  · rw [if_pos d9, if_pos d9, hT.1]
    exact ⟨_, μ, ν, rfl, rfl, h⟩
  rw [if_neg d9, if_neg d9]
  by_cases d10 : x = 10
  · rw [if_pos d10, if_pos d10, q_X5_cellsOf, s_isSheetC, cI_t, if_pos (show (0 : Int) ≤ 0 ∧ (0 : Int) ≤ 3 by omega), if_neg ten, gk (lnC 803) 4 rfl (by omega) (by omega), gk (lnR 51) 4 rfl (by omega) (by omega), gk (lnR 52) 4 rfl (by omega) (by omega), show ((0 : Int)).toNat = 0 from rfl, cI_t]
    rcases hC with ⟨c1, c2⟩ | ⟨c1, c2, c3, c4, c5, c6, c7⟩
    · rw [if_pos c2, c1]
      exact ⟨_, μ, ν, rfl, rfl, h⟩
    · rw [if_neg (by omega), c1]
      exact ⟨_, μ, ν, rfl, rfl, h⟩
  rw [if_neg d10, if_neg d10]
  exact ⟨-1, μ, ν, rfl, rfl, h⟩
