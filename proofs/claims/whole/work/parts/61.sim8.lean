/-! word -/
theorem s_putsWord {μ ν ν1 : Mem} (hW : RelW μ ν) (hS : RelS μ ν) (hP : RelP μ ν) (hL : RelL μ ν) {e w : Nat} (he : (e : Int) < ν 0 5) (h7 : ν 7 e = 2) (hw : (w : Int) < ν 0 0) (hf : FrV ν ν1) : ∃ ν', f_X12_putsWord [vR 12 0, vI e, vI w] ν1 = some (some (vI (if tb (μ (31 + 5 * e) 10) w then 1 else 0)), ν') ∧ FrV ν ν' := by
  have h24 := hS.2.1
  have hs := hS.2.2.2.2.2.2.2.2 e he
  have h11 := hs.2.2.2.2.2.2.2.2.2.2.1 (by omega)
  obtain ⟨l1, l2, l3, l4, l5, l6, l7, l8, l9⟩ := hL e he h7
  obtain ⟨ν2, a1, a2, a3⟩ := s_begins (ν := ν1) (e := e) (by omega) (by rw [hf.1 6 (by omega) (by omega)]; exact ⟨by have := hs.1.1; rw [show 2 * e + 0 = 2 * e by omega] at this; omega, hs.1.2.1⟩)
  rw [frM_sL (frV_M hf)] at a3
  rw [q_X12_putsWord, a1, cV_t]
  obtain ⟨r, ν', b1, b2, b3, b4⟩ := s_pw hW hS hP he h7 hw (ν 11 e).toNat 0 0 none ν2 (sL ν e 0) (by omega) (Or.inl rfl) (frV_trans hf (frV_G a2)) a3 (okT_sL hS he (by omega)) (by rw [Nat.add_zero, l1]; rfl)
  rw [Nat.add_zero] at b4
  have b1' : e_X12_putsWord_10 e w 0 0 none ν2 = _ := b1
  rw [b1']
  refine ⟨ν', ?_, b2⟩
  have hq := l9 w (by have := hW.2.1; omega)
  by_cases z : tb (μ (31 + 5 * e) 10) w = true
  · rw [if_pos z, b4.mpr (Or.inr (hq.mp z))]
  · rw [if_neg z]
    rcases b3 with q | q
    · rw [q]
    · rcases b4.mp q with y | y
      · omega
      · exact absurd (hq.mpr y) z
def pwB (μ ν : Mem) (w : Nat) (g : Nat) : Bool := decide (ν 7 g = 2) && tb (μ (31 + 5 * g) 10) w
theorem s_shownP4 {μ ν : Mem} (hS : RelS μ ν) {w n : Nat} (hw : w < 4) (hn : ν 0 5 = (n : Int)) : ∀ (j i : Nat), i + j = n → e_X3_shownPutting_4 w (cnt (pwB μ ν w) i : Int) i μ = some (some (vI (cnt (pwB μ ν w) n : Int)), μ)
  | 0, i, hj => by
    obtain rfl : i = n := by omega
    rw [q_X3_shownPutting_4, hS.2.2.1, hn, if_neg (by omega)]
  | j + 1, i, hj => by
    have h24 := hS.2.1
    have hc := cnt_le (pwB μ ν w) i
    have hs : cnt (pwB μ ν w) (i + 1) = cnt (pwB μ ν w) i + (if pwB μ ν w i then 1 else 0) := rfl
    have hx := hS.2.2.2.2.2.2.2.2 i (by omega)
    have r := s_shownP4 hS hw hn j (i + 1) (by omega)
    rw [hs] at r
    rw [q_X3_shownPutting_4, hS.2.2.1, hn, if_pos (by omega), gk (lnC 24) 24 rfl (by omega) (by omega), show ((i : Int)).toNat = i by omega, hx.2.2.2.2.1, gk (lnC 24) 24 rfl (by omega) (by omega), bit_at (by omega), wr_eq (x := (i : Int) + 1) (by omega) (by omega), show (i : Int) + 1 = ((i + 1 : Nat) : Int) by omega, wr_eq (by omega) (by omega)]
    unfold pwB at r ⊢
    by_cases hi : ν 7 i = 2
    · rw [if_pos hi]
      by_cases z : tb (μ (31 + 5 * i) 10) w = true
      · rw [if_pos z, if_neg ten]
        rw [if_pos (by simp [hi, z])] at r
        exact r
      · rw [if_neg z, if_pos rfl]
        rw [if_neg (by simp [z])] at r
        exact r
    · rw [if_neg hi]
      rw [if_neg (by simp [hi])] at r
      exact r
theorem s_word51 {μ ν : Mem} (hW : RelW μ ν) (hS : RelS μ ν) (hP : RelP μ ν) (hL : RelL μ ν) {w n : Nat} (hw : (w : Int) < ν 0 0) (hn : ν 0 5 = (n : Int)) : ∀ (j i : Nat) (ν1 : Mem), i + j = n → FrV ν ν1 → ∃ o ν', e_X12_word_51 w 3 (cnt (pwB μ ν w) i : Int) i ν1 = e_X12_word_100 w 3 (cnt (pwB μ ν w) n : Int) o ν' ∧ FrV ν ν'
  | 0, i, ν1, hj, hf => by
    obtain rfl : i = n := by omega
    rw [q_X12_word_51, hf.2 5 (by omega) (by omega) (by omega) (by omega), hn, if_neg (by omega)]
    exact ⟨_, ν1, rfl, hf⟩
  | j + 1, i, ν1, hj, hf => by
    have h24 := hS.2.1
    have hc := cnt_le (pwB μ ν w) i
    have hs : cnt (pwB μ ν w) (i + 1) = cnt (pwB μ ν w) i + (if pwB μ ν w i then 1 else 0) := rfl
    rw [q_X12_word_51, hf.2 5 (by omega) (by omega) (by omega) (by omega), hn, if_pos (by omega), if_pos rfl, gk (lnR 7) 24 rfl (by omega) (by omega), show ((i : Int)).toNat = i by omega, hf.1 7 (by omega) (by omega), wr_eq (x := (i : Int) + 1) (by omega) (by omega), show (i : Int) + 1 = ((i + 1 : Nat) : Int) by omega, wr_eq (x := (cnt (pwB μ ν w) i : Int) + 0) (by omega) (by omega), wr_eq (x := (cnt (pwB μ ν w) i : Int) + 1) (by omega) (by omega)]
    by_cases hi : ν 7 i = 2
    · obtain ⟨ν2, a1, a2⟩ := s_putsWord hW hS hP hL (e := i) (w := w) (by omega) hi hw hf
      rw [if_pos hi, a1, cI_t]
      have r := s_word51 hW hS hP hL hw hn j (i + 1) ν2 (by omega) a2
      rw [hs] at r
      by_cases z : tb (μ (31 + 5 * i) 10) w = true
      · rw [if_pos z, if_neg ten]
        rw [if_pos (show pwB μ ν w i = true by unfold pwB; simp [hi, z])] at r
        exact r
      · rw [if_neg z, if_pos rfl]
        rw [if_neg (show ¬ pwB μ ν w i = true by unfold pwB; simp [z])] at r
        exact r
    · rw [if_neg hi]
      have r := s_word51 hW hS hP hL hw hn j (i + 1) ν1 (by omega) hf
      rw [hs, if_neg (show ¬ pwB μ ν w i = true by unfold pwB; simp [hi])] at r
      exact r
theorem sim_word (μ ν : Mem) (x1 x2 : Int) (_ : in32 x1) (h2 : in32 x2) (h : Rel μ ν) : Sm Rel f_X11_word f_X12_word [vI x1, vI x2] μ ν := by
  unfold Sm
  have hx2 : -2147483648 ≤ x2 ∧ x2 ≤ 2147483647 := h2
  have hS := h.2.2.2.1
  have hP := h.2.2.2.2.1
  have hL := h.2.2.2.2.2.2.2.1
  have hW := h.2.2.1
  have h4 := hW.2.1
  have h05 := hS.1
  rw [q_X11_word, q_X12_word, s_meaningOf hW, s_isWord x1 ν ⟨hW.1, h4⟩, cI_t]
  by_cases hx : ¬ (0 ≤ x1 ∧ x1 < ν 0 0)
  · rw [if_neg hx, if_neg hx, cR_n, if_pos rfl]
    exact ⟨-1, μ, ν, rfl, rfl, h⟩
  replace hx := Decidable.not_not.mp hx
  obtain ⟨w, rfl⟩ : ∃ w : Nat, x1 = (w : Int) := ⟨x1.toNat, by omega⟩
  obtain ⟨⟨o1, o2, o3, o4, o5, o6, o7, o8⟩, m1, m2, m3, m4⟩ := hW.2.2.2.2.1 w hx.2
  have hlen : ((mL ν w).length : Int) = ν 3 w := by unfold mL; rw [sg_len]; omega
  obtain ⟨n, hn⟩ : ∃ n : Nat, ν 0 5 = (n : Int) := ⟨(ν 0 5).toNat, by omega⟩
  rw [if_pos hx, if_pos hx, cR_s, if_neg ten, gk (lnR 3) 4 rfl (by omega) (by omega), show ((w : Int)).toNat = w by omega, wr_eq (x := 9 + ν 3 w) (by omega) (by omega), s_in, cI_t, q_X9_letterOf, q_X9_needOf, hW.2.2.2.1, if_neg (show ¬ (w : Int) < 0 by omega), if_pos hx.2, if_neg (show ¬ (w : Int) < 0 by omega), if_pos hx.2, gk (lnC 2) 4 rfl (by omega) (by omega), gk (lnC 3) 4 rfl (by omega) (by omega), cI_t, cI_t, show ((w : Int)).toNat = w by omega, m1, m2, m3.1, hlen]
  have far : ∀ y : Int, ¬ y = 3 → e_X12_word_51 w y 0 0 ν = e_X12_word_100 w y 0 (some (vI 0)) ν := fun y hy => by
    rw [q_X12_word_51, if_neg hy]
    exact ite_self _
  by_cases d3 : x2 = 3
  · subst d3
    obtain ⟨o, ν', r1, r2⟩ := s_word51 hW hS hP hL hx.2 hn n 0 ν (by omega) frV_rf
    have r1' : e_X12_word_51 w 3 0 0 ν = _ := r1
    have q1 := s_shownP4 hS (w := w) (by omega) hn n 0 (by omega)
    have q1' : e_X3_shownPutting_4 w 0 0 μ = _ := q1
    rw [if_neg (by decide), if_neg (by decide), if_neg (by decide), if_pos rfl, q_X3_shownPutting, q1', cI_t, if_neg (show ¬ ((10 : Int) ≤ 3 ∧ 3 ≤ 9 + ν 3 w) by omega), if_pos rfl, r1', q_X12_word_100, if_neg (by decide), if_neg (by decide), if_neg (by decide), if_pos rfl]
    exact ⟨_, _, _, rfl, rfl, rel_scrR h (frV_R r2)⟩
  rw [far x2 d3, q_X12_word_100, gk (lnR 1) 4 rfl (by omega) (by omega), gk (lnR 2) 4 rfl (by omega) (by omega), gk (lnR 3) 4 rfl (by omega) (by omega), show ((w : Int)).toNat = w by omega]
  by_cases d0 : x2 = 0
  · rw [if_pos d0, if_neg (show ¬ ((10 : Int) ≤ x2 ∧ x2 ≤ 9 + ν 3 w) by omega), if_pos rfl, if_pos d0]
    exact ⟨_, _, _, rfl, rfl, h⟩
  rw [if_neg d0, if_neg d0]
  by_cases d1 : x2 = 1
  · rw [if_pos d1, if_neg (show ¬ ((10 : Int) ≤ x2 ∧ x2 ≤ 9 + ν 3 w) by omega), if_pos rfl, if_pos d1]
    exact ⟨_, _, _, rfl, rfl, h⟩
  rw [if_neg d1, if_neg d1]
  by_cases d2 : x2 = 2
  · rw [if_pos d2, if_neg (show ¬ ((10 : Int) ≤ x2 ∧ x2 ≤ 9 + ν 3 w) by omega), if_pos rfl, if_pos d2]
    exact ⟨_, _, _, rfl, rfl, h⟩
  rw [if_neg d2, if_neg d2, if_neg d3, if_neg d3, q_X11_letterAt, m3.1, hlen]
  by_cases h10 : x2 < 10
  · rw [if_pos h10, cI_t, if_neg (show ¬ ((10 : Int) ≤ x2 ∧ x2 ≤ 9 + ν 3 w) by omega), if_pos rfl]
    exact ⟨_, _, _, rfl, rfl, h⟩
  rw [if_neg h10, wr_eq (x := x2 - 10) (by omega) (by omega)]
  by_cases hin : x2 - 10 < ν 3 w
  · obtain ⟨i, hi⟩ : ∃ i : Nat, x2 - 10 = (i : Int) := ⟨(x2 - 10).toNat, by omega⟩
    rw [if_pos hin, if_pos (show (10 : Int) ≤ x2 ∧ x2 ≤ 9 + ν 3 w by omega), if_neg ten, hi, s_at m3, cI_t, cI_t, wr_eq (x := 20 * (w : Int)) (by omega) (by omega), wr_eq (x := 20 * (w : Int) + x2) (by omega) (by omega), wr_eq (x := 20 * (w : Int) + x2 - 10) (by omega) (by omega), gk (lnR 4) 80 rfl (by omega) (by omega), show (20 * (w : Int) + x2 - 10).toNat = 20 * w + i by omega, atL_in (x := ν 4 (20 * w + i)) (by omega) (by rw [show ((i : Int)).toNat = i by omega]; exact sg_get (by omega))]
    exact ⟨_, _, _, rfl, rfl, h⟩
  · rw [if_neg hin, cI_t, if_neg (show ¬ ((10 : Int) ≤ x2 ∧ x2 ≤ 9 + ν 3 w) by omega), if_pos rfl]
    exact ⟨_, _, _, rfl, rfl, h⟩
