/-! TOKENS of the tape -/
def lk (ν : Mem) (p : Nat) : Int := if (p : Int) < ν 0 25 then ν 18 p else -1
def cls (c : Int) : Int := if c < 0 then 0 else if 97 ≤ c ∧ c ≤ 122 then 1 else if 48 ≤ c ∧ c ≤ 57 then 2 else if c = 61 then 3 else if c = 59 then 4 else 5
def SK (ν : Mem) (p q : Nat) : Prop := p ≤ q ∧ (∀ i, p ≤ i → i < q → lk ν i = 32) ∧ lk ν q ≠ 32
def RN (ν : Mem) (k : Int) (p q : Nat) : Prop := p ≤ q ∧ (∀ i, p ≤ i → i < q → cls (lk ν i) = k) ∧ cls (lk ν q) ≠ k
theorem SK.uniq {ν : Mem} {p q q' : Nat} (h : SK ν p q) (h' : SK ν p q') : q = q' := by
  rcases Nat.lt_trichotomy q q' with z | z | z
  · exact absurd (h'.2.1 q h.1 z) h.2.2
  · exact z
  · exact absurd (h.2.1 q' h'.1 z) h'.2.2
theorem RN.uniq {ν : Mem} {k : Int} {p q q' : Nat} (h : RN ν k p q) (h' : RN ν k p q') : q = q' := by
  rcases Nat.lt_trichotomy q q' with z | z | z
  · exact absurd (h'.2.1 q h.1 z) h.2.2
  · exact z
  · exact absurd (h.2.1 q' h'.1 z) h'.2.2
/-- the token behind p: from f on, to t, of a kind -/
def TK (ν : Mem) (p f t : Nat) (k : Int) : Prop := SK ν p f ∧ k = cls (lk ν f) ∧ (k = 1 ∨ k = 2 → RN ν k f t) ∧ (k = 0 ∨ k = 5 → t = f) ∧ (k = 3 ∨ k = 4 → t = f + 1)
def tok1 (k : Int) (f t : Nat) : Prop := k ≠ 5 ∧ (k = 2 → t = f + 1)
theorem cls_rng (c : Int) : cls c = 0 ∨ cls c = 1 ∨ cls c = 2 ∨ cls c = 3 ∨ cls c = 4 ∨ cls c = 5 := by
  unfold cls
  split
  · omega
  · split
    · omega
    · split
      · omega
      · split
        · omega
        · split <;> omega
theorem TK.uniq {ν : Mem} {p f t f' t' : Nat} {k k' : Int} (h : TK ν p f t k) (h' : TK ν p f' t' k') : f = f' ∧ t = t' ∧ k = k' := by
  obtain rfl := h.1.uniq h'.1
  obtain rfl : k = k' := h.2.1.trans h'.2.1.symm
  refine ⟨rfl, ?_, rfl⟩
  have hk := cls_rng (lk ν f)
  rw [← h.2.1] at hk
  rcases hk with q | q | q | q | q | q
  · rw [h.2.2.2.1 (by omega), h'.2.2.2.1 (by omega)]
  · exact (h.2.2.1 (by omega)).uniq (h'.2.2.1 (by omega))
  · exact (h.2.2.1 (by omega)).uniq (h'.2.2.1 (by omega))
  · rw [h.2.2.2.2 (by omega), h'.2.2.2.2 (by omega)]
  · rw [h.2.2.2.2 (by omega), h'.2.2.2.2 (by omega)]
  · rw [h.2.2.2.1 (by omega), h'.2.2.2.1 (by omega)]
theorem lk_n {ν : Mem} {n : Nat} (h : ν 0 25 = (n : Int)) : lk ν n = -1 := by unfold lk; rw [if_neg (by omega)]
theorem lk_rng {μ ν : Mem} (h : RelT μ ν) (p : Nat) : (lk ν p = -1 ∧ ν 0 25 ≤ (p : Int)) ∨ ((p : Int) < ν 0 25 ∧ 0 ≤ lk ν p ∧ lk ν p ≤ 255 ∧ μ 152 p = wrB (lk ν p)) := by
  unfold lk
  by_cases q : (p : Int) < ν 0 25
  · rw [if_pos q]
    exact Or.inr ⟨q, h.2.2.2.2 p q⟩
  · rw [if_neg q]
    exact Or.inl ⟨rfl, by omega⟩
/-- the class's tape: what a memory must have of it -/
def TC (μ ν : Mem) : Prop := μ 151 8 = ν 0 25 ∧ 0 ≤ ν 0 25 ∧ ν 0 25 ≤ 240 ∧ ∀ i : Nat, (i : Int) < ν 0 25 → 0 ≤ ν 18 i ∧ ν 18 i ≤ 255 ∧ μ 152 i = wrB (ν 18 i)
theorem lk_C {μ ν : Mem} (h : TC μ ν) (p : Nat) : (lk ν p = -1 ∧ ν 0 25 ≤ (p : Int)) ∨ ((p : Int) < ν 0 25 ∧ 0 ≤ lk ν p ∧ lk ν p ≤ 255 ∧ μ 152 p = wrB (lk ν p)) := by
  unfold lk
  by_cases q : (p : Int) < ν 0 25
  · rw [if_pos q]
    exact Or.inr ⟨q, h.2.2.2 p q⟩
  · rw [if_neg q]
    exact Or.inl ⟨rfl, by omega⟩
theorem s_tkind {μ ν : Mem} (h : TC μ ν) (p : Nat) : f_X7_kindAt [vR 7 151, vI (p : Int)] μ = some (some (vI (cls (lk ν p))), μ) := by
  rw [q_X7_kindAt, if_neg (by omega), h.1]
  rcases lk_C h p with ⟨a, b⟩ | ⟨a, b, c, d⟩
  · rw [if_neg (by omega), a]
    rfl
  · have e := h.2.2.1
    rw [if_pos a, gk (lnC 152) 240 rfl (by omega) (by omega), show ((p : Int)).toNat = p by omega, d]
    generalize lk ν p = c0 at *
    have w : wrB c0 = if c0 < 128 then c0 else c0 - 256 := by unfold wrB; split <;> omega
    rw [w]
    unfold cls
    rw [if_neg (show ¬ c0 < 0 by omega)]
    by_cases k1 : 97 ≤ c0 ∧ c0 ≤ 122
    · rw [if_pos k1, if_pos (show c0 < 128 by omega), if_neg (show ¬ c0 < 97 by omega), if_pos k1.2]
    · rw [if_neg k1]
      by_cases k2 : 48 ≤ c0 ∧ c0 ≤ 57
      · rw [if_pos k2, if_pos (show c0 < 128 by omega), if_pos (show c0 < 97 by omega), if_neg (show ¬ c0 < 48 by omega), if_pos k2.2]
      · rw [if_neg k2]
        by_cases k3 : c0 = 61
        · subst k3; rfl
        · rw [if_neg k3]
          by_cases k4 : c0 = 59
          · subst k4; rfl
          · rw [if_neg k4]
            by_cases z : c0 < 128
            · rw [if_pos z]
              by_cases z1 : c0 < 97
              · rw [if_pos z1]
                by_cases z2 : c0 < 48
                · rw [if_pos z2, if_neg k3, if_neg k4]
                · rw [if_neg z2, if_neg (show ¬ c0 ≤ 57 by omega), if_neg k3, if_neg k4]
              · rw [if_neg z1, if_neg (show ¬ c0 ≤ 122 by omega), if_neg (show ¬ c0 < 48 by omega), if_neg (show ¬ c0 ≤ 57 by omega), if_neg k3, if_neg k4]
            · rw [if_neg z, if_pos (show c0 - 256 < 97 by omega), if_pos (show c0 - 256 < 48 by omega), if_neg (show ¬ c0 - 256 = 61 by omega), if_neg (show ¬ c0 - 256 = 59 by omega)]
theorem s_byteAt {μ ν : Mem} (h : TC μ ν) {p : Nat} (hp : (p : Int) < ν 0 25) : f_X7_byteAt [vR 7 151, vI (p : Int)] μ = some (some (vI (wrB (lk ν p))), μ) := by
  rcases lk_C h p with ⟨a, b⟩ | ⟨a, b, c, d⟩
  · omega
  · have e := h.2.2.1
    rw [q_X7_byteAt, if_neg (by omega), h.1, if_pos hp, gk (lnC 152) 240 rfl (by omega) (by omega), show ((p : Int)).toNat = p by omega, d]
/-- only these of the tape's numbers change -/
def FrTp (μ μ' : Mem) : Prop := (∀ c, c ≠ 151 → μ' c = μ c) ∧ ∀ k, k ≠ 5 → k ≠ 6 → k ≠ 7 → k ≠ 9 → μ' 151 k = μ 151 k
theorem frTp_rf {μ : Mem} : FrTp μ μ := ⟨fun _ _ => rfl, fun _ _ _ _ _ => rfl⟩
theorem frTp_trans {μ μ1 μ2 : Mem} (h : FrTp μ μ1) (h2 : FrTp μ1 μ2) : FrTp μ μ2 := ⟨fun c a => (h2.1 c a).trans (h.1 c a), fun k a b c d => (h2.2 k a b c d).trans (h.2 k a b c d)⟩
theorem frTp_up {μ : Mem} {k : Nat} {v : Int} (h : k = 5 ∨ k = 6 ∨ k = 7 ∨ k = 9) : FrTp μ (up μ 151 k v) := ⟨fun c a => up_cell a, fun j a b c d => up_slot (by omega)⟩
theorem TC.fr {μ μ' ν : Mem} (h : TC μ ν) (hf : FrTp μ μ') : TC μ' ν := by
  unfold TC at *
  rw [hf.2 8 (by omega) (by omega) (by omega) (by omega), hf.1 152 (by omega)]
  exact h
theorem s_adv8 {ν : Mem} {n : Nat} (hn : ν 0 25 = (n : Int)) : ∀ (j p : Nat) (μ : Mem), p + j = n → TC μ ν → μ 151 6 = (p : Int) → ∃ q, SK ν p q ∧ q ≤ n ∧ e_X7_advance_8 μ = e_X7_advance_45 (up μ 151 6 (q : Int))
  | 0, p, μ, hj, hT, h6 => by
    obtain rfl : p = n := by omega
    refine ⟨p, ⟨Nat.le_refl _, fun i a b => by omega, by rw [lk_n hn]; decide⟩, Nat.le_refl _, ?_⟩
    rw [q_X7_advance_8, h6, hT.1, hn, if_neg (by omega), ← h6, up_self]
  | j + 1, p, μ, hj, hT, h6 => by
    have hb := hT.2.2.1
    rcases lk_C hT p with ⟨a, b⟩ | ⟨a, b, c, d⟩
    · omega
    rw [q_X7_advance_8, h6, hT.1, if_pos a, s_byteAt hT a, cI_t, h6]
    have w : wrB (lk ν p) = 32 ↔ lk ν p = 32 := by unfold wrB; omega
    by_cases q : lk ν p = 32
    · rw [if_pos (w.mpr q), wr_eq (x := (p : Int) + 1) (by omega) (by omega), show (p : Int) + 1 = ((p + 1 : Nat) : Int) by omega]
      obtain ⟨r, b1, b2, b3⟩ := s_adv8 hn j (p + 1) (up μ 151 6 ((p + 1 : Nat) : Int)) (by omega) (hT.fr (frTp_up (by omega))) (up_same _ _ _ _)
      refine ⟨r, ⟨by have := b1.1; omega, fun i a b => ?_, b1.2.2⟩, b2, ?_⟩
      · by_cases z : i = p
        · rw [z]; exact q
        · exact b1.2.1 i (by omega) b
      · rw [b3]
        congr 1
        funext c k
        unfold up
        by_cases z : c = 151 ∧ k = 6
        · rw [if_pos z, if_pos z]
        · rw [if_neg z, if_neg z, if_neg z]
    · rw [if_neg (fun z => q (w.mp z))]
      refine ⟨p, ⟨Nat.le_refl _, fun i a b => by omega, q⟩, by omega, ?_⟩
      rw [← h6, up_self]
/-- what the class answers at a token's end -/
theorem s_adv114 {ν : Mem} {n f : Nat} (hn : ν 0 25 = (n : Int)) {k : Int} (hk : k = 1 ∨ k = 2) : ∀ (j p : Nat) (μ : Mem), p + j = n → TC μ ν → μ 151 7 = (p : Int) → μ 151 6 = (f : Int) → μ 151 5 = k → f ≤ p → ∃ q μ', RN ν k p q ∧ q ≤ n ∧ FrTp μ μ' ∧ e_X7_advance_114 μ = some (some (vI (if k = 2 ∧ q ≠ f + 1 then 0 else 1)), μ') ∧ μ' 151 6 = (f : Int) ∧ μ' 151 5 = k ∧ μ' 151 7 = (q : Int) ∧ μ' 151 9 = (if k = 2 ∧ q ≠ f + 1 then 1 else μ 151 9)
  | j, p, μ, hj, hT, h7, h6, h5, hfp => by
    have hb := hT.2.2.1
    have fin : ∀ (X : Option Rs), X = (if k = 2 then if (wr ((p : Int) - (f : Int))) = 1 then gz 1 (some (some (vI 1), μ)) else cI (f_X7_fails [vR 7 151, vI 1] μ) (fun x2 μ1 => if x2 = 0 then gz 0 (some (some (vI 0), μ1)) else gz 1 (some (some (vI 1), μ1))) else gz 1 (some (some (vI 1), μ))) → ∃ μ', FrTp μ μ' ∧ X = some (some (vI (if k = 2 ∧ p ≠ f + 1 then 0 else 1)), μ') ∧ μ' 151 6 = (f : Int) ∧ μ' 151 5 = k ∧ μ' 151 7 = (p : Int) ∧ μ' 151 9 = (if k = 2 ∧ p ≠ f + 1 then 1 else μ 151 9) := fun X hX => by
      rw [hX, gz_1, wr_eq (by omega) (by omega)]
      by_cases q : k = 2
      · rw [if_pos q]
        by_cases q1 : p = f + 1
        · rw [if_pos (by omega), if_neg (by omega)]
          exact ⟨μ, frTp_rf, rfl, h6, h5, h7, by rw [if_neg (by omega)]⟩
        · rw [if_neg (by omega), if_pos ⟨q, q1⟩, q_X7_fails, gz_0, cI_t, if_pos rfl, gz_0]
          exact ⟨_, frTp_up (by omega), rfl, by rw [up_slot (by omega)]; exact h6, by rw [up_slot (by omega)]; exact h5, by rw [up_slot (by omega)]; exact h7, by rw [up_same, if_pos ⟨q, q1⟩]⟩
      · rw [if_neg q, if_neg (fun z => q z.1)]
        exact ⟨μ, frTp_rf, rfl, h6, h5, h7, by rw [if_neg (fun z => q z.1)]⟩
    match j, hj with
    | 0, hj =>
      obtain rfl : p = n := by omega
      obtain ⟨μ', a1, a2, a3⟩ := fin (e_X7_advance_114 μ) (by rw [q_X7_advance_114, h7, hT.1, hn, if_neg (by omega), h5, h6])
      refine ⟨p, μ', ⟨Nat.le_refl _, fun i a b => by omega, ?_⟩, Nat.le_refl _, a1, a2, a3⟩
      rw [lk_n hn]
      show (0 : Int) ≠ k
      omega
    | j + 1, hj =>
      by_cases q : cls (lk ν p) = k
      · obtain ⟨r, μ', b1, b2, b3, b4, b5, b6, b7, b8⟩ := s_adv114 hn (f := f) hk j (p + 1) (up μ 151 7 ((p + 1 : Nat) : Int)) (by omega) (hT.fr (frTp_up (by omega))) (up_same _ _ _ _) (by rw [up_slot (by omega)]; exact h6) (by rw [up_slot (by omega)]; exact h5) (by omega)
        refine ⟨r, μ', ⟨by have := b1.1; omega, fun i a b => ?_, b1.2.2⟩, b2, frTp_trans (frTp_up (by omega)) b3, ?_, b5, b6, b7, by rw [b8, up_slot (by omega)]⟩
        · by_cases z : i = p
          · rw [z]; exact q
          · exact b1.2.1 i (by omega) b
        · rw [q_X7_advance_114, h7, hT.1, hn, if_pos (by omega), s_tkind hT, cI_t, h5, if_pos q, h7, wr_eq (x := (p : Int) + 1) (by omega) (by omega), show (p : Int) + 1 = ((p + 1 : Nat) : Int) by omega]
          exact b4
      · obtain ⟨μ', a1, a2, a3⟩ := fin (e_X7_advance_114 μ) (by rw [q_X7_advance_114, h7, hT.1, hn, if_pos (by omega), s_tkind hT, cI_t, h5, if_neg q, h7, h6])
        exact ⟨p, μ', ⟨Nat.le_refl _, fun i a b => by omega, q⟩, by omega, a1, a2, a3⟩
