/-! word -/
theorem s_putsWord {μ ν ν1 : Mem} (hW : RelW μ ν) (hS : RelS μ ν) (hP : RelP μ ν) (hL : RelL μ ν) {e w : Nat} (he : (e : Int) < ν 0 5) (h7 : ν 7 e = 2) (hw : (w : Int) < ν 0 0) (hf : FrV ν ν1) : ∃ ν', f_X12_putsWord [vR 12 0, vI e, vI w] ν1 = some (some (vI (if tb (μ (31 + 5 * e) 10) w then 1 else 0)), ν') ∧ FrV ν ν' := by
  have h24 := hS.2.1
  have hs := hS.2.2.2.2.2.2.2.2 e he
  have h11 := hs.2.2.2.2.2.2.2.2.2.2.1 (by omega)
  obtain ⟨l1, l2, l3, l4, l5, l6, l7, l8, l9⟩ := hL e he h7
  obtain ⟨ν2, a1, a2, a3⟩ := s_begins (ν := ν1) (e := e) (by omega) (by rw [hf.1 6 (by omega) (by omega)]; exact ⟨by have := hs.1.1; rw [show 2 * e + 0 = 2 * e by omega] at this; omega, hs.1.2.1⟩)
  rw [frM_sL (frV_M hf)] at a3
  rw [q_X12_putsWord, a1, cV_t]
  obtain ⟨r, ν', b1, b2, b3, b4⟩ := s_pw hW hS hP he h7 hw (ν 11 e).toNat 0 0 none ν2 (sL ν e 0) (by omega) (Or.inl rfl) (frV_trans hf (frV_G a2)) a3 (okT_sL hS he (by omega)) (by rw [Nat.add_zero, l1]; rfl)
  rw [Nat.add_zero] at b4
  have b1' : e_X12_putsWord_10 e w 0 0 none ν2 = _ := b1
  rw [b1']
  refine ⟨ν', ?_, b2⟩
  have hq := l9 w hw
  by_cases z : tb (μ (31 + 5 * e) 10) w = true
  · rw [if_pos z, b4.mpr (Or.inr (hq.mp z))]
  · rw [if_neg z]
    rcases b3 with q | q
    · rw [q]
    · rcases b4.mp q with y | y
      · omega
      · exact absurd (hq.mpr y) z
def pwB (μ ν : Mem) (w : Nat) (g : Nat) : Bool := decide (ν 7 g = 2) && tb (μ (31 + 5 * g) 10) w
theorem s_shownP4 {μ ν : Mem} (hS : RelS μ ν) {w n : Nat} (hw : w < 4) (hn : ν 0 5 = (n : Int)) : ∀ (j i : Nat), i + j = n → e_X3_shownPutting_4 w (cnt (pwB μ ν w) i : Int) i μ = some (some (vI (cnt (pwB μ ν w) n : Int)), μ)
  | 0, i, hj => by
    obtain rfl : i = n := by omega
    rw [q_X3_shownPutting_4, hS.2.2.1, hn, if_neg (by omega)]
  | j + 1, i, hj => by
    have h24 := hS.2.1
    have hc := cnt_le (pwB μ ν w) i
    have hs : cnt (pwB μ ν w) (i + 1) = cnt (pwB μ ν w) i + (if pwB μ ν w i then 1 else 0) := rfl
    have hx := hS.2.2.2.2.2.2.2.2 i (by omega)
    have r := s_shownP4 hS hw hn j (i + 1) (by omega)
    rw [hs] at r
    rw [q_X3_shownPutting_4, hS.2.2.1, hn, if_pos (by omega), gk (lnC 24) 24 rfl (by omega) (by omega), show ((i : Int)).toNat = i by omega, hx.2.2.2.2.1, gk (lnC 24) 24 rfl (by omega) (by omega), bit_at (by omega), wr_eq (x := (i : Int) + 1) (by omega) (by omega), show (i : Int) + 1 = ((i + 1 : Nat) : Int) by omega, wr_eq (by omega) (by omega)]
    unfold pwB at r ⊢
    by_cases hi : ν 7 i = 2
    · rw [if_pos hi]
      by_cases z : tb (μ (31 + 5 * i) 10) w = true
      · rw [if_pos z, if_neg ten]
        rw [if_pos (by simp [hi, z])] at r
        exact r
      · rw [if_neg z, if_pos rfl]
        rw [if_neg (by simp [z])] at r
        exact r
    · rw [if_neg hi]
      rw [if_neg (by simp [hi])] at r
      exact r
theorem s_word51 {μ ν : Mem} (hW : RelW μ ν) (hS : RelS μ ν) (hP : RelP μ ν) (hL : RelL μ ν) {w n : Nat} (hw : (w : Int) < ν 0 0) (hn : ν 0 5 = (n : Int)) : ∀ (j i : Nat) (ν1 : Mem), i + j = n → FrV ν ν1 → ∃ o ν', e_X12_word_51 w 3 (cnt (pwB μ ν w) i : Int) i ν1 = e_X12_word_100 w 3 (cnt (pwB μ ν w) n : Int) o ν' ∧ FrV ν ν'
  | 0, i, ν1, hj, hf => by
    obtain rfl : i = n := by omega
    rw [q_X12_word_51, hf.2 5 (by omega) (by omega) (by omega) (by omega), hn, if_neg (by omega)]
    exact ⟨_, ν1, rfl, hf⟩
  | j + 1, i, ν1, hj, hf => by
    have h24 := hS.2.1
    have hc := cnt_le (pwB μ ν w) i
    have hs : cnt (pwB μ ν w) (i + 1) = cnt (pwB μ ν w) i + (if pwB μ ν w i then 1 else 0) := rfl
    rw [q_X12_word_51, hf.2 5 (by omega) (by omega) (by omega) (by omega), hn, if_pos (by omega), if_pos rfl, gk (lnR 7) 24 rfl (by omega) (by omega), show ((i : Int)).toNat = i by omega, hf.1 7 (by omega) (by omega), wr_eq (x := (i : Int) + 1) (by omega) (by omega), show (i : Int) + 1 = ((i + 1 : Nat) : Int) by omega, wr_eq (x := (cnt (pwB μ ν w) i : Int) + 0) (by omega) (by omega), wr_eq (x := (cnt (pwB μ ν w) i : Int) + 1) (by omega) (by omega)]
    by_cases hi : ν 7 i = 2
    · obtain ⟨ν2, a1, a2⟩ := s_putsWord hW hS hP hL (e := i) (w := w) (by omega) hi hw hf
      rw [if_pos hi, a1, cI_t]
      have r := s_word51 hW hS hP hL hw hn j (i + 1) ν2 (by omega) a2
      rw [hs] at r
      by_cases z : tb (μ (31 + 5 * i) 10) w = true
      · rw [if_pos z, if_neg ten]
        rw [if_pos (show pwB μ ν w i = true by unfold pwB; simp [hi, z])] at r
        exact r
      · rw [if_neg z, if_pos rfl]
        rw [if_neg (show ¬ pwB μ ν w i = true by unfold pwB; simp [z])] at r
        exact r
    · rw [if_neg hi]
      have r := s_word51 hW hS hP hL hw hn j (i + 1) ν1 (by omega) hf
      rw [hs, if_neg (show ¬ pwB μ ν w i = true by unfold pwB; simp [hi])] at r
      exact r
