/-! WORLDS: the values of TERMS -/
theorem bDiv_nat {x y : Nat} (hx : x < 2147483648) (hy : 0 < y) (hy2 : y < 2147483648) : bDiv (x : Int) (y : Int) = ((x / y : Nat) : Int) := by
  unfold bDiv
  rw [Int32.toInt_div, q32_t (x := (x : Int)) ⟨by omega, by omega⟩, q32_t (x := (y : Int)) ⟨by omega, by omega⟩]
  have h1 : (x : Int).tdiv (y : Int) = ((x / y : Nat) : Int) := rfl
  have h2 : x / y ≤ x := Nat.div_le_self x y
  rw [h1]
  generalize x / y = d at h2
  show Int.bmod _ 4294967296 = _
  rw [bm32, wr_eq (by omega) (by omega)]
theorem bRem_nat {x y : Nat} (hx : x < 2147483648) (hy : 0 < y) (hy2 : y < 2147483648) : bRem (x : Int) (y : Int) = ((x % y : Nat) : Int) := by
  have h := bDiv_nat hx hy hy2
  unfold bDiv at h
  have h2 : x / y * y ≤ x := Nat.div_mul_le_self x y
  have h3 : x % y = x - x / y * y := by have := Nat.div_add_mod' x y; omega
  have h4 : x / y ≤ x := Nat.div_le_self x y
  unfold bRem
  rw [Int32.toInt_sub, Int32.toInt_mul, h, q32_t (x := (x : Int)) ⟨by omega, by omega⟩, q32_t (x := (y : Int)) ⟨by omega, by omega⟩]
  have e1 : Int.bmod (((x / y : Nat) : Int) * (y : Int)) (2 ^ 32) = ((x / y * y : Nat) : Int) := by
    show Int.bmod _ 4294967296 = _
    rw [bm32, ← Int.natCast_mul, wr_eq (by omega) (by omega)]
  rw [e1]
  show Int.bmod _ 4294967296 = _
  rw [bm32, wr_eq (by omega) (by omega)]
  omega
/-- a stack (top first) in a row -/
def STK (μ : Mem) (c : Nat) (S : List Int) : Prop := ∀ q x, S.reverse[q]? = some x → μ c q = x
theorem STK.nil {μ : Mem} {c : Nat} : STK μ c [] := fun q x h => by simp at h
theorem STK.push {μ : Mem} {c : Nat} {S : List Int} {x : Int} (h : STK μ c S) : STK (up μ c S.length x) c (x :: S) := fun q y hq => by
  rw [List.reverse_cons] at hq
  rw [up_if]
  by_cases q1 : q < S.length
  · rw [List.getElem?_append_left (by rw [List.length_reverse]; exact q1)] at hq
    rw [if_neg (by omega)]
    exact h q y hq
  · rw [List.getElem?_append_right (by rw [List.length_reverse]; omega), List.length_reverse] at hq
    by_cases q2 : q = S.length
    · subst q2
      rw [Nat.sub_self] at hq
      rw [if_pos rfl]
      exact Option.some.inj hq
    · rw [List.getElem?_eq_none (by simp; omega)] at hq
      cases hq
theorem STK.tail {μ : Mem} {c : Nat} {S : List Int} {x : Int} (h : STK μ c (x :: S)) : STK μ c S := fun q y hq => h q y (by
  rw [List.reverse_cons, List.getElem?_append_left]
  · exact hq
  · rcases Nat.lt_or_ge q S.reverse.length with z | z
    · exact z
    · rw [List.getElem?_eq_none z] at hq; cases hq)
theorem STK.top {μ : Mem} {c : Nat} {S : List Int} {x : Int} (h : STK μ c (x :: S)) : μ c S.length = x := h S.length x (by
  rw [List.reverse_cons, List.getElem?_append_right (by rw [List.length_reverse]; exact Nat.le_refl _), List.length_reverse, Nat.sub_self]
  rfl)
theorem STK.kept {μ μ' : Mem} {c : Nat} {S : List Int} (h : STK μ c S) (hc : μ' c = μ c) : STK μ' c S := fun q x hq => by rw [hc]; exact h q x hq
theorem len0 {S : List Int} (h : S.length = 0) : S = [] := List.length_eq_zero_iff.mp h
theorem len1 {S : List Int} {m : Nat} (h : S.length = m + 1) : ∃ a s, S = a :: s ∧ s.length = m := by
  cases S with
  | nil => cases h
  | cons a s => exact ⟨a, s, rfl, Nat.succ.inj h⟩
section VS
variable {μ ν : Mem} {th no x y z : Int} {tb wt : Nat → Int}
theorem vS_12 (r : List Int) {a b : Int} {s : List Int} (h : vS ν th no tb wt x y z r = a :: b :: s) : vS ν th no tb wt x y z (12 :: r) = tb (th * a + b).toNat :: s := by
  unfold vS
  rw [h]
  rfl
theorem vS_0 {c : Int} (r : List Int) (hc : c = 14 ∨ 23 ≤ c) : vS ν th no tb wt x y z (c :: r) = (if c = 14 then no else if c = 23 then x else if c = 24 then y else z) :: vS ν th no tb wt x y z r := by
  obtain ⟨S, hS⟩ : ∃ S, vS ν th no tb wt x y z r = S := ⟨_, rfl⟩
  rw [hS]
  unfold vS
  dsimp only
  rw [if_neg (show ¬ c = 12 by omega), if_pos hc, hS]
theorem vS_2 {c : Int} (r : List Int) (h12 : c ≠ 12) (h0 : ¬ (c = 14 ∨ 23 ≤ c)) (h2 : ν 2 (wb ν c).toNat = 2) {a b : Int} {s : List Int} (h : vS ν th no tb wt x y z r = a :: b :: s) : vS ν th no tb wt x y z (c :: r) = wt (9 * (wb ν c) + 3 * a + b).toNat :: s := by
  unfold vS
  dsimp only
  rw [if_neg h12, if_neg h0, if_pos h2, h]
theorem vS_1 {c : Int} (r : List Int) (h12 : c ≠ 12) (h0 : ¬ (c = 14 ∨ 23 ≤ c)) (h2 : ¬ ν 2 (wb ν c).toNat = 2) {a : Int} {s : List Int} (h : vS ν th no tb wt x y z r = a :: s) : vS ν th no tb wt x y z (c :: r) = wt (9 * (wb ν c) + 3 * a).toNat :: s := by
  unfold vS
  dsimp only
  rw [if_neg h12, if_neg h0, if_neg h2, h]
/-- the kinds of signs of a TERM -/
theorem sgn {c : Int} (hW : RelW μ ν) (h : 0 ≤ ar ν c) : (c = 12 ∧ ar ν c = 2) ∨ ((c = 14 ∨ 23 ≤ c) ∧ c ≠ 12 ∧ ar ν c = 0) ∨ (c ≠ 12 ∧ ¬ (c = 14 ∨ 23 ≤ c) ∧ ∃ w : Nat, wb ν c = (w : Int) ∧ (w : Int) < ν 0 0 ∧ c = ν 1 w ∧ ((ν 2 w = 2 ∧ ar ν c = 2) ∨ (ν 2 w = 1 ∧ ar ν c = 1))) := by
  unfold ar at h ⊢
  by_cases h0 : 23 ≤ c ∨ c = 14
  · rw [if_pos h0]
    exact Or.inr (Or.inl ⟨by omega, by omega, rfl⟩)
  · rw [if_neg h0] at h ⊢
    by_cases h12 : c = 12
    · rw [if_pos h12]
      exact Or.inl ⟨h12, rfl⟩
    · rw [if_neg h12] at h ⊢
      by_cases hb : wb ν c = -4
      · rw [if_pos hb] at h
        omega
      · rw [if_neg hb] at h ⊢
        rcases wb_range hW c with q | ⟨q1, q2, q3⟩
        · exact absurd q hb
        · obtain ⟨w, hw⟩ : ∃ w : Nat, wb ν c = (w : Int) := ⟨(wb ν c).toNat, by omega⟩
          rw [hw] at q2 q3 h ⊢
          rw [show ((w : Int)).toNat = w by omega] at q3 h ⊢
          have ok := ((hW.2.2.2.2.1 w q2).1).2.2.1
          refine Or.inr (Or.inr ⟨h12, by omega, w, rfl, q2, q3.symm, ?_⟩)
          rcases ok with ok | ok
          · exact Or.inr ⟨ok, ok⟩
          · exact Or.inl ⟨ok, ok⟩
/-- the tables of the words of a row are as they must be -/
def okWt (ν : Mem) (th : Int) (wt : Nat → Int) (l : List Int) : Prop := ∀ w : Nat, (w : Int) < ν 0 0 → ν 1 w ∈ l → ∀ a b : Nat, (a : Int) < th → (b : Int) < th → (ν 2 w = 2 ∨ b = 0) → 0 ≤ wt (9 * w + 3 * a + b) ∧ wt (9 * w + 3 * a + b) < th
theorem vS_ok (hW : RelW μ ν) (htb : ∀ k, 0 ≤ tb k ∧ tb k < th) (hno : 0 ≤ no ∧ no < th) (hx : 0 ≤ x ∧ x < th) (hy : 0 ≤ y ∧ y < th) (hz : 0 ≤ z ∧ z < th) : ∀ (l : List Int) (m : Nat), isT (ar ν) m l → okWt ν th wt l → (vS ν th no tb wt x y z l).length = m ∧ ∀ u ∈ vS ν th no tb wt x y z l, 0 ≤ u ∧ u < th
  | [], 0, _, _ => ⟨rfl, fun u hu => by cases hu⟩
  | [], m + 1, h, _ => by cases h
  | c :: r, 0, h, _ => by cases h
  | c :: r, m + 1, h, ho => by
    obtain ⟨h1, h2⟩ := h
    have ih := vS_ok hW htb hno hx hy hz r _ h2 (fun w a b => ho w a (List.mem_cons_of_mem _ b))
    rcases sgn hW h1 with ⟨rfl, q⟩ | ⟨q0, q1, q⟩ | ⟨q0, q1, w, q2, q3, q4, q5⟩
    · rw [q] at ih
      obtain ⟨a, s1, e1, l1⟩ := len1 (m := m + 1) ih.1
      obtain ⟨b, s, rfl, l2⟩ := len1 l1
      rw [vS_12 r e1]
      rw [e1] at ih
      refine ⟨by rw [List.length_cons, l2], fun u hu => ?_⟩
      rcases List.mem_cons.mp hu with rfl | hu
      · exact htb _
      · exact ih.2 u (List.mem_cons_of_mem _ (List.mem_cons_of_mem _ hu))
    · rw [q] at ih
      rw [vS_0 r q0]
      refine ⟨by rw [List.length_cons, ih.1]; rfl, fun u hu => ?_⟩
      rcases List.mem_cons.mp hu with rfl | hu
      · split
        · exact hno
        · split
          · exact hx
          · split
            · exact hy
            · exact hz
      · exact ih.2 u hu
    · rcases q5 with ⟨q5, q⟩ | ⟨q5, q⟩
      · rw [q] at ih
        obtain ⟨a, s1, e1, l1⟩ := len1 (m := m + 1) ih.1
        obtain ⟨b, s, rfl, l2⟩ := len1 l1
        rw [vS_2 r q0 q1 (by rw [q2]; exact q5) e1, q2]
        rw [e1] at ih
        have ha := ih.2 a (List.mem_cons_self ..)
        have hb := ih.2 b (List.mem_cons_of_mem _ (List.mem_cons_self ..))
        refine ⟨by rw [List.length_cons, l2], fun u hu => ?_⟩
        rcases List.mem_cons.mp hu with rfl | hu
        · have := ho w q3 (by rw [← q4]; exact List.mem_cons_self ..) a.toNat b.toNat (by omega) (by omega) (Or.inl q5)
          rw [show (9 * (w : Int) + 3 * a + b).toNat = 9 * w + 3 * a.toNat + b.toNat by omega]
          exact this
        · exact ih.2 u (List.mem_cons_of_mem _ (List.mem_cons_of_mem _ hu))
      · rw [q] at ih
        obtain ⟨a, s, e1, l1⟩ := len1 (m := m) ih.1
        rw [vS_1 r q0 q1 (by rw [q2, show ((w : Int)).toNat = w by omega, q5]; decide) e1, q2]
        rw [e1] at ih
        have ha := ih.2 a (List.mem_cons_self ..)
        refine ⟨by rw [List.length_cons, l1], fun u hu => ?_⟩
        rcases List.mem_cons.mp hu with rfl | hu
        · have := ho w q3 (by rw [← q4]; exact List.mem_cons_self ..) a.toNat 0 (by omega) (by omega) (Or.inr rfl)
          rw [show (9 * (w : Int) + 3 * a).toNat = 9 * w + 3 * a.toNat + 0 by omega]
          exact this
        · exact ih.2 u (List.mem_cons_of_mem _ hu)
/-- only the names and the tables that a row has count -/
theorem vS_congr {x' y' z' : Int} {wt' : Nat → Int} (hW : RelW μ ν) (htb : ∀ k, 0 ≤ tb k ∧ tb k < th) (hno : 0 ≤ no ∧ no < th) (hx : 0 ≤ x ∧ x < th) (hy : 0 ≤ y ∧ y < th) (hz : 0 ≤ z ∧ z < th) : ∀ (l : List Int) (m : Nat), isT (ar ν) m l → okWt ν th wt l → (23 ∈ l → x' = x) → (24 ∈ l → y' = y) → ((∃ c ∈ l, 25 ≤ c) → z' = z) → (∀ w : Nat, (w : Int) < ν 0 0 → ν 1 w ∈ l → ∀ a b : Nat, (a : Int) < th → (b : Int) < th → (ν 2 w = 2 ∨ b = 0) → wt' (9 * w + 3 * a + b) = wt (9 * w + 3 * a + b)) → vS ν th no tb wt' x' y' z' l = vS ν th no tb wt x y z l
  | [], _, _, _, _, _, _, _ => rfl
  | c :: r, 0, h, _, _, _, _, _ => by cases h
  | c :: r, m + 1, h, ho, e1, e2, e3, e4 => by
    obtain ⟨h1, h2⟩ := h
    have ho' : okWt ν th wt r := fun w a b => ho w a (List.mem_cons_of_mem _ b)
    have ok := vS_ok (z := z) hW htb hno hx hy hz r _ h2 ho'
    have ih := vS_congr (x' := x') (y' := y') (z' := z') (wt' := wt') hW htb hno hx hy hz r _ h2 ho' (fun q => e1 (List.mem_cons_of_mem _ q)) (fun q => e2 (List.mem_cons_of_mem _ q)) (fun ⟨c, q, q'⟩ => e3 ⟨c, List.mem_cons_of_mem _ q, q'⟩) (fun w a b => e4 w a (List.mem_cons_of_mem _ b))
    rcases sgn hW h1 with ⟨rfl, q⟩ | ⟨q0, q1, q⟩ | ⟨q0, q1, w, q2, q3, q4, q5⟩
    · rw [q] at ok
      obtain ⟨a, s1, f1, l1⟩ := len1 (m := m + 1) ok.1
      obtain ⟨b, s, rfl, l2⟩ := len1 l1
      rw [vS_12 r f1, vS_12 r (ih.trans f1)]
    · rw [vS_0 r q0, vS_0 r q0, ih]
      congr 1
      split
      · rfl
      · rename_i n14
        split
        · rename_i n23
          subst n23
          exact e1 (List.mem_cons_self ..)
        · rename_i n23
          split
          · rename_i n24
            subst n24
            exact e2 (List.mem_cons_self ..)
          · rename_i n24
            exact e3 ⟨c, List.mem_cons_self .., by omega⟩
    · rcases q5 with ⟨q5, q⟩ | ⟨q5, q⟩
      · rw [q] at ok
        obtain ⟨a, s1, f1, l1⟩ := len1 (m := m + 1) ok.1
        obtain ⟨b, s, rfl, l2⟩ := len1 l1
        rw [vS_2 r q0 q1 (by rw [q2]; exact q5) f1, vS_2 r q0 q1 (by rw [q2]; exact q5) (ih.trans f1), q2]
        rw [f1] at ok
        have ha := ok.2 a (List.mem_cons_self ..)
        have hb := ok.2 b (List.mem_cons_of_mem _ (List.mem_cons_self ..))
        rw [show (9 * (w : Int) + 3 * a + b).toNat = 9 * w + 3 * a.toNat + b.toNat by omega, e4 w q3 (by rw [← q4]; exact List.mem_cons_self ..) a.toNat b.toNat (by omega) (by omega) (Or.inl q5)]
      · rw [q] at ok
        obtain ⟨a, s, f1, l1⟩ := len1 (m := m) ok.1
        have n2 : ¬ ν 2 (wb ν c).toNat = 2 := by rw [q2, show ((w : Int)).toNat = w by omega, q5]; decide
        rw [vS_1 r q0 q1 n2 f1, vS_1 r q0 q1 n2 (ih.trans f1), q2]
        rw [f1] at ok
        have ha := ok.2 a (List.mem_cons_self ..)
        rw [show (9 * (w : Int) + 3 * a).toNat = 9 * w + 3 * a.toNat + 0 by omega, e4 w q3 (by rw [← q4]; exact List.mem_cons_self ..) a.toNat 0 (by omega) (by omega) (Or.inr rfl)]
end VS
