/-! text: the loop over the lines -/
section LL
variable {μ0 ν0 : Mem}
noncomputable def kpC (W0 S0 : Int) (μ : Mem) : Option Rs := cV (f_X9_keep [vR 9 1, vI W0] (up μ 151 8 0)) (fun μ3 => cV (f_X3_keep [vR 3 23, vI S0] μ3) (fun μ4 => some (some (vI (wr ((-10) - (μ4 151 6)))), μ4)))
theorem e33_bad {hd dy W0 S0 v5 v7 : Int} {μ : Mem} : e_X7_tellLines_33 hd dy W0 S0 v5 0 v7 μ = kpC W0 S0 μ := by
  rw [q_X7_tellLines_33]
  by_cases z : v7 < 240
  · rw [if_pos z, if_pos rfl, if_pos rfl]; rfl
  · rw [if_neg z, if_pos rfl]; rfl
theorem e32_bad {v : Int} {o : Option AV} {X : Mem} {f : Nat} {c : Int} (hc : 0 < c) (hf : f ≤ 240) (h30 : X 0 30 = c) (h31 : X 0 31 = (f : Int)) : e_X12_text_32 v o X = some (some (vI (-10 - (f : Int))), up (up X 0 25 0) 0 23 (X 0 0)) := by
  rw [q_X12_text_32, if_neg (by omega), up_slot (show (30 : Nat) ≠ 25 by omega), if_neg (by omega), up_slot (show (31 : Nat) ≠ 23 by omega), up_slot (show (31 : Nat) ≠ 25 by omega), h31, wr_eq (by omega) (by omega), up_slot (show (0 : Nat) ≠ 25 by omega)]
theorem lines_loop (h0 : Rel μ0 ν0) {W0 S0 : Int} : ∀ (j i : Nat) (μ ν : Mem) (f t p : Nat) (k : Int) (o : Option AV), i + j = 240 → TX μ0 ν0 μ ν → TK ν0 p f t k → (f : Int) ≤ ν0 0 25 → (t : Int) ≤ ν0 0 25 → μ 151 5 = k → μ 151 6 = (f : Int) → μ 151 7 = (t : Int) → μ 151 9 = 0 → tok1 k f t → TokR ν ν0 f t k → i ≤ f →
    (∃ (n : Nat) (μ' ν' : Mem), n ≤ 240 ∧ e_X7_tellLines_33 (ν0 0 21) (ν0 0 22) W0 S0 i 1 i μ = some (some (vI (n : Int)), up μ' 151 8 0) ∧ e_X12_text_32 i o ν = e_X12_text_191 (n : Int) (ν0 0 5) (up (up ν' 0 25 0) 0 0 (ν' 0 23)) ∧ TX μ0 ν0 μ' ν' ∧ μ' 151 9 = 0 ∧ ν' 0 30 = 0) ∨
    (∃ (f' : Nat) (c : Int) (μ' ν' : Mem), e_X7_tellLines_33 (ν0 0 21) (ν0 0 22) W0 S0 i 1 i μ = kpC W0 S0 μ' ∧ e_X12_text_32 i o ν = some (some (vI (-10 - (f' : Int))), up (up ν' 0 25 0) 0 23 (ν' 0 0)) ∧ TXB μ0 ν0 μ' ν' ∧ 0 < c ∧ (f' : Int) ≤ ν0 0 25 ∧ μ' 151 6 = (f' : Int) ∧ μ' 151 9 = c ∧ ν' 0 30 = c)
  | j, i, μ, ν, f, t, p, k, o, hj, h, hTK, hf, ht, m5, m6, m7, m9, h1, hT, hif => by
    have hT0 := h0.1
    have h4 : ν0 0 0 ≤ 4 := h0.2.2.1.2.1
    have h24 : ν0 0 5 ≤ 24 := h0.2.2.2.1.2.1
    have h25 : 0 ≤ ν0 0 25 ∧ ν0 0 25 ≤ 240 := ⟨hT0.2.1, hT0.2.2.1⟩
    obtain ⟨n30, n28⟩ : ν 0 30 = 0 ∧ ν 0 28 = (if k = 4 then 3 else k) := by
      rcases hT with ⟨_, q1, _, _, q4, _⟩ | ⟨q, _⟩
      · exact ⟨q1, q4⟩
      · exact absurd h1 q
    by_cases hk : k = 0
    · -- the end
      have s0 : ν 0 28 = 0 := by rw [n28, if_neg (by omega)]; exact hk
      refine Or.inl ⟨i, μ, ν, by omega, ?_, ?_, h, m9, n30⟩
      · rw [q_X7_tellLines_33, if_neg (show ¬ (1 : Int) = 0 by decide), m5, if_pos hk, if_neg (show ¬ (1 : Int) = 0 by decide)]
        exact ite_self _
      · have e5 : ν 0 5 = ν0 0 5 := h.2.1.2.1 5 (by omega) (by omega) (by omega) (by omega)
        rw [q_X12_text_32, if_pos n30, if_pos s0, up_slot (show (30 : Nat) ≠ 25 by omega), n30, if_pos (by decide), up_slot (show (23 : Nat) ≠ 25 by omega), up_slot (show (5 : Nat) ≠ 0 by omega), up_slot (show (5 : Nat) ≠ 25 by omega), e5]
    · have flt : (f : Int) < ν0 0 25 := by
        refine lk_lt (fun z => hk ?_)
        rw [hTK.2.1, z]
        rfl
      have hle := hTK.le
      obtain ⟨r, μ1, ν1, a1, a2, a3⟩ := line h0 h hf ht hle.2 (fun z => by have := hTK.2.2.1 (Or.inl z); rw [z] at this; exact this) hk m5 m6 m7 m9 h1 hT
      rw [q_X7_tellLines_33, if_pos (show (i : Int) < 240 by omega), if_neg ten, m5, if_neg hk, a1, cI_t, a2, wr_eq (x := (i : Int) + 1) (by omega) (by omega), show (i : Int) + 1 = ((i + 1 : Nat) : Int) by omega]
      rcases a3 with ⟨rfl, b1, b2, p', b3, b4, b5, b6⟩ | ⟨rfl, b1, f', c, b2, b3, b4, b5, b6, b7⟩
      · rw [if_neg ten]
        obtain ⟨f2, t2, k2, μ2, c1, c2, c3, c4, c5, c6⟩ := s_advance (b1.1.TC hT0) b4 b5
        obtain ⟨f3, t3, k3, d1, d2, d3, d4⟩ := b6
        obtain ⟨rfl, rfl, rfl⟩ := d1.uniq c1
        have TX2 : TX μ0 ν0 μ2 ν1 := b1.fr h24 h4 (frTx_T c4) frK_rf
        rcases c6 with ⟨e1, e2, e3, e4, e5, e6⟩ | ⟨e1, e2, e3⟩
        · rw [e2, cI_t, if_neg ten]
          have hf3 : i + 1 ≤ f3 := by
            have := c1.le
            -- the token of this line is not empty
            have hkr := cls_rng (lk ν0 f)
            rw [← hTK.2.1] at hkr
            have : f < t := by
              rcases hkr with q | q | q | q | q | q
              · exact absurd q hk
              · have hr := hTK.2.2.1 (by omega)
                rcases Nat.lt_or_ge f t with y | y
                · exact y
                · have : t = f := by have := hr.1; omega
                  rw [this] at hr
                  exact absurd hTK.2.1.symm hr.2.2
              · have hr := hTK.2.2.1 (by omega)
                rcases Nat.lt_or_ge f t with y | y
                · exact y
                · have : t = f := by have := hr.1; omega
                  rw [this] at hr
                  exact absurd hTK.2.1.symm hr.2.2
              · have := hTK.2.2.2.2 (by omega); omega
              · have := hTK.2.2.2.2 (by omega); omega
              · exact absurd q h1.1
            omega
          match j, hj with
          | 0, hj => omega
          | j + 1, hj => exact lines_loop h0 j (i + 1) μ2 ν1 f3 t3 p' k3 o (by omega) TX2 c1 d2 e6 e3 c5 e4 (by rw [e5]; exact b2) e1 d4 hf3
        · rw [e2, cI_t, if_pos rfl, e33_bad]
          obtain ⟨q1, q2⟩ : ν1 0 30 = 1 ∧ ν1 0 31 = (f3 : Int) := by
            rcases d4 with ⟨q, _⟩ | ⟨_, q1, q2, _⟩
            · exact absurd q e1
            · exact ⟨q1, q2⟩
          exact Or.inr ⟨f3, 1, μ2, ν1, rfl, e32_bad (c := 1) (by decide) (by omega) q1 q2, TX2.bad, by decide, d2, c5, e3, q1⟩
      · rw [if_pos rfl, e33_bad]
        exact Or.inr ⟨f', c, μ1, ν1, rfl, e32_bad b2 (by omega) b6 b7, b1, b2, b3, b4, b5, b6⟩
end LL
