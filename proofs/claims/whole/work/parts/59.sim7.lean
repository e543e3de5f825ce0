/-! count -/
theorem s_inState4 {μ ν : Mem} (hS : RelS μ ν) {st : Int} {n : Nat} (hn : ν 0 5 = (n : Int)) : ∀ (j i : Nat), i + j = n → e_X12_inState_4 st (cnt (fun g => decide (ν 7 g = st)) i : Int) i ν = some (some (vI (cnt (fun g => decide (ν 7 g = st)) n : Int)), ν)
  | 0, i, hj => by
    obtain rfl : i = n := by omega
    rw [q_X12_inState_4, hn, if_neg (by omega)]
  | j + 1, i, hj => by
    have h24 := hS.2.1
    have hc := cnt_le (fun g => decide (ν 7 g = st)) i
    have hs : cnt (fun g => decide (ν 7 g = st)) (i + 1) = cnt (fun g => decide (ν 7 g = st)) i + (if decide (ν 7 i = st) then 1 else 0) := rfl
    have r := s_inState4 hS (st := st) hn j (i + 1) (by omega)
    rw [hs] at r
    rw [q_X12_inState_4, hn, if_pos (by omega), gk (lnR 7) 24 rfl (by omega) (by omega), show ((i : Int)).toNat = i by omega, wr_eq (x := (i : Int) + 1) (by omega) (by omega), show (i : Int) + 1 = ((i + 1 : Nat) : Int) by omega]
    by_cases hi : ν 7 i = st
    · rw [if_pos (decide_eq_true hi)] at r
      rw [if_pos hi, wr_eq (by omega) (by omega)]
      exact r
    · rw [if_neg (by simp [hi])] at r
      rw [if_neg hi, wr_eq (by omega) (by omega), Int.add_zero]
      exact r
theorem s_inState {μ ν : Mem} (hS : RelS μ ν) (st : Int) : f_X12_inState [vR 12 0, vI st] ν = some (some (vI (cnt (fun g => decide (ν 7 g = st)) (ν 0 5).toNat : Int)), ν) := by
  rw [q_X12_inState]
  have h0 := hS.1
  exact s_inState4 hS (st := st) (n := (ν 0 5).toNat) (by omega) (ν 0 5).toNat 0 (by omega)
theorem s_maskCount {μ ν : Mem} (hS : RelS μ ν) (st : Int) : ∃ m, f_X3_maskOf [vR 3 23, vI st] μ = some (some (vI m), μ) ∧ f_J6_bitCount_0f7a4 [vI m] μ = some (some (vI (cnt (fun g => decide (ν 7 g = st)) (ν 0 5).toNat : Int)), μ) := by
  have h24 := hS.2.1
  have h0 := hS.1
  obtain ⟨m, a1, a2⟩ := s_maskOf hS st
  refine ⟨m, a1, ?_⟩
  rw [s_pop24 (a2.rng (fun k q => by have := q.1; omega))]
  obtain ⟨d, hd⟩ : ∃ d, 24 = (ν 0 5).toNat + d := ⟨24 - (ν 0 5).toNat, by omega⟩
  have z : ∀ n, n ≤ 24 - (ν 0 5).toNat → cnt (fun k => tb m ((ν 0 5).toNat + k)) n = 0 := by
    intro n
    induction n with
    | zero => intro _; rfl
    | succ n ih =>
      intro hn
      have hf : ¬ tb m ((ν 0 5).toNat + n) = true := fun q => by
        have := ((a2.2 _ (by omega)).mp q).1
        omega
      show cnt (fun k => tb m ((ν 0 5).toNat + k)) n + (if tb m ((ν 0 5).toNat + n) then 1 else 0) = 0
      rw [ih (by omega), if_neg hf]
  have e : cnt (tb m) 24 = cnt (fun g => decide (ν 7 g = st)) (ν 0 5).toNat := by
    rw [hd, cnt_add, z d (by omega), Nat.add_zero]
    refine cnt_congr _ (fun k hk => ?_)
    have q := a2.2 k (by omega)
    by_cases w : ν 7 k = st
    · rw [q.mpr ⟨by omega, w⟩, decide_eq_true w]
    · have : ¬ tb m k = true := fun z => w (q.mp z).2
      simp [w, this]
  rw [e]
