/-! THE PURE LEVEL: rows for working with the methods' meanings -/
theorem wr_eq {x : Int} (h1 : -2147483648 ≤ x) (h2 : x ≤ 2147483647) : wr x = x := wr_id ⟨h1, h2⟩
theorem gi_t {i : Int} {n : Nat} {x : Option Rs} (h1 : 0 ≤ i) (h2 : i < (n : Int)) : gi i n x = x := if_pos ⟨h1, h2⟩
theorem gz_0 {x : Option Rs} : gz 0 x = x := rfl
theorem gz_1 {x : Option Rs} : gz 1 x = x := rfl
theorem gz_t {v : Int} {x : Option Rs} (h : v = 0 ∨ v = 1) : gz v x = x := if_pos h
theorem gz_ite {p : Prop} {h : Decidable p} {x : Option Rs} : gz (@ite _ p h 1 0) x = x := by
  unfold gz; split <;> simp
theorem gn_t {y : Int} {x : Option Rs} (h : ¬ y = 0) : gn y x = x := if_pos h
theorem cI_t {x : Int} {μ : Mem} {k : Int → Mem → Option Rs} : cI (some (some (vI x), μ)) k = k x μ := rfl
theorem cV_t {μ : Mem} {k : Mem → Option Rs} : cV (some (none, μ)) k = k μ := rfl
theorem cR_n {t : Nat} {μ : Mem} {k0 : Mem → Option Rs} {k1 : Nat → Mem → Option Rs} : cR t (some (some vN, μ)) k0 k1 = k0 μ := rfl
theorem cR_s {t c : Nat} {μ : Mem} {k0 : Mem → Option Rs} {k1 : Nat → Mem → Option Rs} : cR t (some (some (vR t c), μ)) k0 k1 = k1 c μ := if_pos rfl
theorem up_ne {μ : Mem} {c i c' i' : Nat} {v : Int} (h : ¬ (c' = c ∧ i' = i)) : up μ c i v c' i' = μ c' i' := if_neg h
theorem i10 {p : Prop} {h : Decidable p} : ((@ite Int p h 1 0) = 0) = ¬ p := by
  split <;> simp_all
/-- the reference's in -/
theorem s_in (v a b : Int) (μ : Mem) : f_X12_in [vL v, vL a, vL b] μ = some (some (vI (if a ≤ v ∧ v ≤ b then 1 else 0)), μ) := by
  rw [q_X12_in]
  simp only [gz_0, gz_1]
  by_cases h1 : v < a
  · have e : ¬ (a ≤ v ∧ v ≤ b) := by omega
    simp [h1, e]
  · by_cases h2 : v ≤ b
    · have e : a ≤ v ∧ v ≤ b := by omega
      rw [if_neg (by split <;> (try split) <;> omega), if_pos (by split <;> (try split) <;> omega), if_pos e]
    · have e : ¬ (a ≤ v ∧ v ≤ b) := by omega
      rw [if_neg (by split <;> (try split) <;> omega), if_neg (by split <;> (try split) <;> omega), if_neg e]
theorem s_isSaying (e : Int) (ν : Mem) (h : 0 ≤ ν 0 5 ∧ ν 0 5 ≤ 24) : f_X12_isSaying [vR 12 0, vI e] ν = some (some (vI (if 0 ≤ e ∧ e < ν 0 5 then 1 else 0)), ν) := by
  rw [q_X12_isSaying, s_in, cI_t, wr_eq (by omega) (by omega), gz_ite]
  simp only [show (0 ≤ e ∧ e ≤ ν 0 5 - 1) = (0 ≤ e ∧ e < ν 0 5) from propext (by omega)]
theorem s_isWord (e : Int) (ν : Mem) (h : 0 ≤ ν 0 0 ∧ ν 0 0 ≤ 4) : f_X12_isWord [vR 12 0, vI e] ν = some (some (vI (if 0 ≤ e ∧ e < ν 0 0 then 1 else 0)), ν) := by
  rw [q_X12_isWord, s_in, cI_t, wr_eq (by omega) (by omega), gz_ite]
  simp only [show (0 ≤ e ∧ e ≤ ν 0 0 - 1) = (0 ≤ e ∧ e < ν 0 0) from propext (by omega)]
theorem s_isSheet (k lane : Int) (ν : Mem) : f_X12_isSheet [vI k, vI lane] ν = some (some (vI (if (0 ≤ k ∧ k ≤ 3) ∧ 0 ≤ lane ∧ lane ≤ 2 then 1 else 0)), ν) := by
  rw [q_X12_isSheet, s_in, cI_t]
  by_cases h : 0 ≤ k ∧ k ≤ 3
  · rw [if_pos h, if_neg (by decide), s_in, cI_t]
    by_cases h2 : 0 ≤ lane ∧ lane ≤ 2
    · rw [if_pos h2, if_neg (by decide), if_pos ⟨h, h2⟩, gz_1]
    · rw [if_neg h2, if_pos rfl, if_neg (fun q => h2 q.2), gz_0]
  · rw [if_neg h, if_pos rfl, if_neg (fun q => h q.1), gz_0]
/-- a TERM of the class holds a row of letters -/
def TH (μ : Mem) (t : Nat) (l : List Int) : Prop := μ t 1 = (l.length : Int) ∧ l.length ≤ lnC (t + 1) ∧ ∀ i x, l[i]? = some x → μ (t + 1) i = x
def LT (l : List Int) : Prop := ∀ x ∈ l, 0 ≤ x ∧ x ≤ 25
def atL (l : List Int) (i : Int) : Int := if 0 ≤ i then (l[i.toNat]?).getD (-4) else -4
theorem lnC_le : ∀ c, lnC c ≤ 424 := by
  have h : ∀ c, c < 804 → lnC c ≤ 424 := by decide +kernel
  intro c
  by_cases hc : c < 804
  · exact h c hc
  · unfold lnC
    simp only [Nat.blt]
    have e : ∀ b, b ≤ 804 → Nat.ble (c + 1) b = false := by
      intro b hb
      cases hq : Nat.ble (c + 1) b with
      | false => rfl
      | true => have := Nat.le_of_ble_eq_true hq; omega
    rw [e 7 (by omega), e 23 (by omega), e 31 (by omega), e 151 (by omega), e 163 (by omega), e 169 (by omega), e 211 (by omega), e 217 (by omega), e 259 (by omega), e 271 (by omega), e 771 (by omega), e 780 (by omega), e 796 (by omega), e 804 (by omega)]
    exact Nat.zero_le _
theorem atL_in {l : List Int} {i : Int} {x : Int} (h0 : 0 ≤ i) (h : l[i.toNat]? = some x) : atL l i = x := by unfold atL; rw [if_pos h0, h]; rfl
theorem atL_out {l : List Int} {i : Int} (h : i < 0 ∨ (l.length : Int) ≤ i) : atL l i = -4 := by
  unfold atL
  by_cases h0 : 0 ≤ i
  · rw [if_pos h0, List.getElem?_eq_none (by omega)]; rfl
  · rw [if_neg h0]
theorem TH.le {μ : Mem} {t : Nat} {l : List Int} (h : TH μ t l) : l.length ≤ 424 := Nat.le_trans h.2.1 (lnC_le _)
theorem s_at {μ : Mem} {t : Nat} {l : List Int} (h : TH μ t l) (i : Int) : f_X8_at [vR 8 t, vI i] μ = some (some (vI (atL l i)), μ) := by
  obtain ⟨h1, h2, h3⟩ := h
  rw [q_X8_at]
  by_cases hi : i < 0
  · rw [if_pos hi, atL_out (Or.inl hi)]
  · rw [if_neg hi]
    by_cases hl : i < μ t 1
    · rw [if_pos hl, gi_t (by omega) (by omega)]
      have hlt : i.toNat < l.length := by omega
      rw [atL_in (by omega) (List.getElem?_eq_getElem hlt), h3 i.toNat l[i.toNat] (List.getElem?_eq_getElem hlt)]
    · rw [if_neg hl, atL_out (by omega)]
