/-! the class tells a PROOF -/
theorem s_putting4 {μ : Mem} {v0 n : Nat} (hv : rwV v0) (h8 : μ v0 8 = (n : Int)) (hn : n ≤ 20) (hq : ∀ i, i < n → μ (v0 + 4) i < 0 ∨ (0 ≤ μ (v0 + 4) i ∧ μ (v0 + 4) i < 4)) : ∀ (j i : Nat) (m : Int), i + j = n → MK m (fun v => ∃ q, q < i ∧ μ (v0 + 4) q = (v : Int)) → ∃ m', e_X1_putting_4 v0 m i μ = some (some (vI m'), μ) ∧ MK m' (fun v => ∃ q, q < n ∧ μ (v0 + 4) q = (v : Int))
  | 0, i, m, hj, hm => by
    obtain rfl : i = n := by omega
    rw [q_X1_putting_4, h8, if_neg (by omega)]
    exact ⟨m, rfl, hm⟩
  | j + 1, i, m, hj, hm => by
    obtain ⟨l1, l2, l3, l4, l5⟩ := rw_ln hv
    rw [q_X1_putting_4, h8, if_pos (by omega), gk (lnC (v0 + 4)) 20 l4 (by omega) (by omega), gk (lnC (v0 + 4)) 20 l4 (by omega) (by omega), show ((i : Int)).toNat = i by omega, wr_eq (x := (i : Int) + 1) (by omega) (by omega), show (i : Int) + 1 = ((i + 1 : Nat) : Int) by omega]
    have hi := hq i (by omega)
    by_cases h0 : μ (v0 + 4) i < 0
    · rw [if_pos h0]
      refine s_putting4 hv h8 hn hq j (i + 1) m (by omega) (hm.congr (fun v => ⟨fun ⟨q, a, b⟩ => ⟨q, by omega, b⟩, fun ⟨q, a, b⟩ => ⟨q, ?_, b⟩⟩))
      by_cases e : q = i
      · subst e; omega
      · omega
    · rw [if_neg h0]
      obtain ⟨f, hf⟩ : ∃ f : Nat, μ (v0 + 4) i = (f : Int) := ⟨(μ (v0 + 4) i).toNat, by omega⟩
      rw [hf]
      refine s_putting4 hv h8 hn hq j (i + 1) _ (by omega) ((hm.or (MK.shl (f := f) (by omega))).congr (fun v => ⟨?_, ?_⟩))
      · rintro (⟨q, a, b⟩ | q)
        · exact ⟨q, by omega, b⟩
        · exact ⟨i, by omega, by rw [hf, q]⟩
      · rintro ⟨q, a, b⟩
        by_cases e : q = i
        · subst e; exact Or.inr (by omega)
        · exact Or.inl ⟨q, by omega, b⟩
theorem s_putting {μ : Mem} {v0 n : Nat} (hv : rwV v0) (h8 : μ v0 8 = (n : Int)) (hn : n ≤ 20) (hq : ∀ i, i < n → μ (v0 + 4) i < 0 ∨ (0 ≤ μ (v0 + 4) i ∧ μ (v0 + 4) i < 4)) : ∃ m, f_X1_putting [vR 1 v0] μ = some (some (vI m), μ) ∧ MK m (fun v => ∃ q, q < n ∧ μ (v0 + 4) q = (v : Int)) := by
  rw [q_X1_putting]
  exact s_putting4 hv h8 hn hq n 0 0 (by omega) (MK.zero.congr (fun v => ⟨fun q => q.elim, fun ⟨q, a, _⟩ => by omega⟩))
theorem s_using4 {μ : Mem} {v0 n : Nat} (hv : rwV v0) (h8 : μ v0 8 = (n : Int)) (hn : n ≤ 20) (hq : ∀ i, i < n → 0 ≤ μ (v0 + 1) i ∧ (μ (v0 + 1) i ≤ 1 → 0 ≤ μ (v0 + 2) i ∧ μ (v0 + 2) i < 24)) : ∀ (j i : Nat) (m : Int), i + j = n → MK m (fun v => ∃ q, q < i ∧ μ (v0 + 1) q ≤ 1 ∧ μ (v0 + 2) q = (v : Int)) → ∃ m', e_X1_using_4 v0 m i μ = some (some (vI m'), μ) ∧ MK m' (fun v => ∃ q, q < n ∧ μ (v0 + 1) q ≤ 1 ∧ μ (v0 + 2) q = (v : Int))
  | 0, i, m, hj, hm => by
    obtain rfl : i = n := by omega
    rw [q_X1_using_4, h8, if_neg (by omega)]
    exact ⟨m, rfl, hm⟩
  | j + 1, i, m, hj, hm => by
    obtain ⟨l1, l2, l3, l4, l5⟩ := rw_ln hv
    rw [q_X1_using_4, h8, if_pos (by omega), gk (lnC (v0 + 1)) 20 l1 (by omega) (by omega), gk (lnC (v0 + 1)) 20 l1 (by omega) (by omega), gk (lnC (v0 + 2)) 20 l2 (by omega) (by omega), show ((i : Int)).toNat = i by omega, wr_eq (x := (i : Int) + 1) (by omega) (by omega), show (i : Int) + 1 = ((i + 1 : Nat) : Int) by omega]
    have hi := hq i (by omega)
    by_cases hk : μ (v0 + 1) i ≤ 1
    · obtain ⟨f, hf⟩ : ∃ f : Nat, μ (v0 + 2) i = (f : Int) := ⟨(μ (v0 + 2) i).toNat, by have := hi.2 hk; omega⟩
      have hfl : f < 24 := by have := hi.2 hk; omega
      have hrec : ∃ m', e_X1_using_4 v0 (bOr m (bShl 1 (μ (v0 + 2) i))) ((i + 1 : Nat) : Int) μ = some (some (vI m'), μ) ∧ MK m' (fun v => ∃ q, q < n ∧ μ (v0 + 1) q ≤ 1 ∧ μ (v0 + 2) q = (v : Int)) := by
        rw [hf]
        refine s_using4 hv h8 hn hq j (i + 1) _ (by omega) ((hm.or (MK.shl (f := f) hfl)).congr (fun v => ⟨?_, ?_⟩))
        · rintro (⟨q, a, b, c⟩ | q)
          · exact ⟨q, by omega, b, c⟩
          · exact ⟨i, by omega, hk, by rw [hf, q]⟩
        · rintro ⟨q, a, b, c⟩
          by_cases e : q = i
          · subst e; exact Or.inr (by omega)
          · exact Or.inl ⟨q, by omega, b, c⟩
      by_cases h0 : μ (v0 + 1) i = 0
      · rw [if_pos h0]
        exact hrec
      · rw [if_neg h0, if_pos (show μ (v0 + 1) i = 1 by omega)]
        exact hrec
    · rw [if_neg (show ¬ μ (v0 + 1) i = 0 by omega), if_neg (show ¬ μ (v0 + 1) i = 1 by omega)]
      refine s_using4 hv h8 hn hq j (i + 1) m (by omega) (hm.congr (fun v => ⟨fun ⟨q, a, b, c⟩ => ⟨q, by omega, b, c⟩, fun ⟨q, a, b, c⟩ => ⟨q, ?_, b, c⟩⟩))
      by_cases e : q = i
      · subst e; omega
      · omega
theorem s_using {μ : Mem} {v0 n : Nat} (hv : rwV v0) (h8 : μ v0 8 = (n : Int)) (hn : n ≤ 20) (hq : ∀ i, i < n → 0 ≤ μ (v0 + 1) i ∧ (μ (v0 + 1) i ≤ 1 → 0 ≤ μ (v0 + 2) i ∧ μ (v0 + 2) i < 24)) : ∃ m, f_X1_using [vR 1 v0] μ = some (some (vI m), μ) ∧ MK m (fun v => ∃ q, q < n ∧ μ (v0 + 1) q ≤ 1 ∧ μ (v0 + 2) q = (v : Int)) := by
  rw [q_X1_using]
  exact s_using4 hv h8 hn hq n 0 0 (by omega) (MK.zero.congr (fun v => ⟨fun q => q.elim, fun ⟨q, a, _⟩ => by omega⟩))
/-- what a saying leans on, read in a memory that has the same sayings so far -/
theorem s_underOfK {μ μ' ν : Mem} (hS : RelS μ ν) (hP : RelP μ ν) (hL : RelL μ ν) (h9 : μ' 23 9 = μ 23 9) (hk : ∀ f : Nat, f < 24 → μ' (31 + 5 * f) 2 = μ (31 + 5 * f) 2 ∧ μ' (31 + 5 * f) 9 = μ (31 + 5 * f) 9) {e : Nat} (he : (e : Int) < ν 0 5) : ∃ m, f_X3_underOf [vR 3 23, vI e] μ' = some (some (vI m), μ') ∧ MK m (fun k => Relation.TransGen (USE ν) e k) := by
  obtain ⟨m, a, b⟩ := s_underOf hS hP hL he
  refine ⟨m, ?_, b⟩
  have h24 := hS.2.1
  have hg : f_X3_get [vR 3 23, vI e] μ' = some (some (vR 2 (31 + 5 * e)), μ') := by
    rw [q_X3_get, h9, hS.2.2.1, if_neg (by omega), if_pos (by omega), gk (lnC 24) 24 rfl (by omega) (by omega), show ((e : Int)).toNat = e by omega]
  rw [q_X3_underOf, get_t hS ⟨by omega, he⟩, cR_s, show ((e : Int)).toNat = e by omega] at a
  rw [q_X3_underOf, hg, cR_s, (hk e (by omega)).1, (hk e (by omega)).2]
  split at a
  · rename_i q
    rw [if_pos q]
    injection a with a
    injection a with a1 a2
    rw [a1]
  · rename_i q
    rw [if_neg q]
    injection a with a
    injection a with a1 a2
    rw [a1]
theorem s_closed4 {μ μ' ν : Mem} (hS : RelS μ ν) (hP : RelP μ ν) (hL : RelL μ ν) (h9 : μ' 23 9 = μ 23 9) (hk : ∀ f : Nat, f < 24 → μ' (31 + 5 * f) 2 = μ (31 + 5 * f) 2 ∧ μ' (31 + 5 * f) 9 = μ (31 + 5 * f) 9) {n : Nat} (hn : ν 0 5 = (n : Int)) {m0 : Int} {U : Nat → Prop} (h0 : MK m0 U) : ∀ (j i : Nat) (m : Int), i + j = n → MK m (fun f => U f ∨ ∃ g, g < i ∧ U g ∧ Relation.TransGen (USE ν) g f) → ∃ m', e_X3_closed_4 m0 m i μ' = some (some (vI m'), μ') ∧ MK m' (fun f => U f ∨ ∃ g, g < n ∧ U g ∧ Relation.TransGen (USE ν) g f)
  | 0, i, m, hj, hm => by
    obtain rfl : i = n := by omega
    rw [q_X3_closed_4, h9, hS.2.2.1, hn, if_neg (by omega)]
    exact ⟨m, rfl, hm⟩
  | j + 1, i, m, hj, hm => by
    have h24 := hS.2.1
    rw [q_X3_closed_4, h9, hS.2.2.1, hn, if_pos (by omega), wr_eq (x := (i : Int) + 1) (by omega) (by omega), show (i : Int) + 1 = ((i + 1 : Nat) : Int) by omega]
    have hb := h0.bit (k := i) (by omega)
    by_cases hi : U i
    · obtain ⟨m2, a1, a2⟩ := s_underOfK hS hP hL h9 hk (e := i) (by omega)
      rw [hb.1 hi, if_neg ten, a1, cI_t]
      refine s_closed4 hS hP hL h9 hk hn h0 j (i + 1) _ (by omega) ((hm.or a2).congr (fun f => ⟨?_, ?_⟩))
      · rintro ((q | ⟨g, a, b, c⟩) | q)
        · exact Or.inl q
        · exact Or.inr ⟨g, by omega, b, c⟩
        · exact Or.inr ⟨i, by omega, hi, q⟩
      · rintro (q | ⟨g, a, b, c⟩)
        · exact Or.inl (Or.inl q)
        · by_cases e : g = i
          · subst e; exact Or.inr c
          · exact Or.inl (Or.inr ⟨g, by omega, b, c⟩)
    · rw [hb.2 hi, if_pos rfl]
      refine s_closed4 hS hP hL h9 hk hn h0 j (i + 1) _ (by omega) (hm.congr (fun f => ⟨?_, ?_⟩))
      · rintro (q | ⟨g, a, b, c⟩)
        · exact Or.inl q
        · exact Or.inr ⟨g, by omega, b, c⟩
      · rintro (q | ⟨g, a, b, c⟩)
        · exact Or.inl q
        · by_cases e : g = i
          · subst e; exact absurd b hi
          · exact Or.inr ⟨g, by omega, b, c⟩
theorem s_closed {μ μ' ν : Mem} (hS : RelS μ ν) (hP : RelP μ ν) (hL : RelL μ ν) (h9 : μ' 23 9 = μ 23 9) (hk : ∀ f : Nat, f < 24 → μ' (31 + 5 * f) 2 = μ (31 + 5 * f) 2 ∧ μ' (31 + 5 * f) 9 = μ (31 + 5 * f) 9) {m0 : Int} {U : Nat → Prop} (h0 : MK m0 U) (hU : ∀ g, U g → (g : Int) < ν 0 5) : ∃ m', f_X3_closed [vR 3 23, vI m0] μ' = some (some (vI m'), μ') ∧ MK m' (fun f => U f ∨ ∃ g, U g ∧ Relation.TransGen (USE ν) g f) := by
  rw [q_X3_closed]
  obtain ⟨n, hn⟩ : ∃ n : Nat, ν 0 5 = (n : Int) := ⟨(ν 0 5).toNat, by have := hS.1; omega⟩
  obtain ⟨m', a, b⟩ := s_closed4 hS hP hL h9 hk hn h0 n 0 m0 (by omega) (h0.congr (fun f => ⟨Or.inl, fun q => q.elim id (fun ⟨g, a, _⟩ => by omega)⟩))
  exact ⟨m', a, b.congr (fun f => or_congr Iff.rfl ⟨fun ⟨g, _, b, c⟩ => ⟨g, b, c⟩, fun ⟨g, b, c⟩ => ⟨g, by have := hU g b; omega, b, c⟩⟩)⟩
/-- the told STEPS so far -/
def tl3 (μ : Mem) (m n : Nat) (k w p : Nat → Int) : Mem := fun c j =>
  if c = 25 ∧ m ≤ j ∧ j < m + n then k (j - m) else if c = 26 ∧ m ≤ j ∧ j < m + n then w (j - m) else if c = 27 ∧ m ≤ j ∧ j < m + n then p (j - m) else if c = 23 ∧ j = 10 then ((m + n : Nat) : Int) else μ c j
theorem tl3_o {μ : Mem} {m n c : Nat} {k w p : Nat → Int} (h : c ≠ 23 ∧ ¬ (25 ≤ c ∧ c ≤ 27)) : tl3 μ m n k w p c = μ c := by
  funext j
  unfold tl3
  rw [if_neg (by omega), if_neg (by omega), if_neg (by omega), if_neg (by omega)]
theorem tl3_10 {μ : Mem} {m n : Nat} {k w p : Nat → Int} : tl3 μ m n k w p 23 10 = ((m + n : Nat) : Int) := by
  unfold tl3
  rw [if_neg (by omega), if_neg (by omega), if_neg (by omega), if_pos ⟨rfl, rfl⟩]
theorem tl3_23 {μ : Mem} {m n j : Nat} {k w p : Nat → Int} (h : j ≠ 10) : tl3 μ m n k w p 23 j = μ 23 j := by
  unfold tl3
  rw [if_neg (by omega), if_neg (by omega), if_neg (by omega), if_neg (by omega)]
theorem tl3_0 {μ : Mem} {m : Nat} {k w p : Nat → Int} (h : μ 23 10 = (m : Int)) : tl3 μ m 0 k w p = μ := by
  funext c j
  unfold tl3
  rw [if_neg (by omega), if_neg (by omega), if_neg (by omega)]
  by_cases q : c = 23 ∧ j = 10
  · rw [if_pos q, q.1, q.2, h]
    rfl
  · rw [if_neg q]
theorem tl3_s {μ : Mem} {m i : Nat} {k w p : Nat → Int} : up (up (up (up (tl3 μ m i k w p) 25 (m + i) (k i)) 26 (m + i) (w i)) 27 (m + i) (p i)) 23 10 ((m + (i + 1) : Nat) : Int) = tl3 μ m (i + 1) k w p := by
  funext c j
  have U : ∀ (μ : Mem) (c i c' i' : Nat) (v : Int), up μ c i v c' i' = if c' = c ∧ i' = i then v else μ c' i' := fun _ _ _ _ _ _ => rfl
  rw [U, U, U, U]
  unfold tl3
  by_cases h25 : c = 25
  · subst h25
    rw [if_neg (by omega), if_neg (by omega), if_neg (by omega)]
    by_cases hj : j = m + i
    · subst hj
      rw [if_pos ⟨rfl, rfl⟩, if_pos (by omega), show m + i - m = i by omega]
    · rw [if_neg (by omega), if_neg (show ¬ ((25 : Nat) = 26 ∧ _) by omega), if_neg (show ¬ ((25 : Nat) = 27 ∧ _) by omega), if_neg (show ¬ ((25 : Nat) = 23 ∧ _) by omega)]
      by_cases hq : m ≤ j ∧ j < m + i
      · rw [if_pos (by omega), if_pos (by omega)]
      · rw [if_neg (by omega), if_neg (by omega), if_neg (by omega), if_neg (by omega), if_neg (by omega)]
  by_cases h26 : c = 26
  · subst h26
    rw [if_neg (by omega), if_neg (by omega)]
    by_cases hj : j = m + i
    · subst hj
      rw [if_pos ⟨rfl, rfl⟩, if_neg (by omega), if_pos (by omega), show m + i - m = i by omega]
    · rw [if_neg (by omega), if_neg (by omega), if_neg (by omega)]
      by_cases hq : m ≤ j ∧ j < m + i
      · rw [if_pos (by omega), if_neg (by omega), if_pos (by omega)]
      · rw [if_neg (by omega), if_neg (by omega), if_neg (by omega), if_neg (by omega), if_neg (by omega), if_neg (by omega), if_neg (by omega)]
  by_cases h27 : c = 27
  · subst h27
    rw [if_neg (by omega)]
    by_cases hj : j = m + i
    · subst hj
      rw [if_pos ⟨rfl, rfl⟩, if_neg (by omega), if_neg (by omega), if_pos (by omega), show m + i - m = i by omega]
    · rw [if_neg (by omega), if_neg (by omega), if_neg (by omega), if_neg (by omega), if_neg (by omega)]
      by_cases hq : m ≤ j ∧ j < m + i
      · rw [if_pos (by omega), if_neg (by omega), if_neg (by omega), if_pos (by omega)]
      · rw [if_neg (by omega), if_neg (by omega), if_neg (by omega), if_neg (by omega), if_neg (by omega), if_neg (by omega)]
  by_cases h23 : c = 23 ∧ j = 10
  · rw [if_pos h23, if_neg (by omega), if_neg (by omega), if_neg (by omega), if_pos h23]
  · rw [if_neg h23, if_neg (by omega), if_neg (by omega), if_neg (by omega), if_neg (by omega), if_neg (by omega), if_neg (by omega), if_neg h23, if_neg (by omega), if_neg (by omega), if_neg (by omega), if_neg h23]
