/-! the reference enters a WORLD -/
def BR (ν1 : Mem) (n num : Nat) : Prop := ν1 0 63 = (n : Int) ∧ ν1 0 64 = ((num % n : Nat) : Int) ∧ ∀ k, k < n * n → ν1 39 k = tbW n num k
def TR (ν1 ν : Mem) (n num v : Nat) : Prop := ∀ a b : Nat, a < n → b < n → ν1 40 (9 * v + 3 * a + b) = wv ν n num v a b
theorem s_world19 {n num : Nat} (hn : 0 < n) (hn3 : n ≤ 3) (hnum : num < 2147483648) : ∀ (j i : Nat) (o o5 o6 : Option AV) (μ : Mem), i + j = n * n → (∀ k, k < i → μ 39 k = tbW n num k) → ∃ μ' o2 o3, e_X12_world_19 n o ((num / n / n ^ i : Nat) : Int) i o5 o6 μ = e_X12_world_50 n o2 o3 0 o5 o6 μ' ∧ (∀ c, c ≠ 39 → μ' c = μ c) ∧ ∀ k, k < n * n → μ' 39 k = tbW n num k
  | 0, i, o, o5, o6, μ, hj, h => by
    have h9 : n * n ≤ 9 := by
      have := Nat.mul_le_mul hn3 hn3
      omega
    rw [q_X12_world_19, ← Int.natCast_mul, wr_eq (x := ((n * n : Nat) : Int)) (by omega) (by omega), if_neg (by omega)]
    exact ⟨μ, _, _, rfl, fun _ _ => rfl, fun k hk => h k (by omega)⟩
  | j + 1, i, o, o5, o6, μ, hj, h => by
    obtain ⟨L41, L39, L40, L4, L5, L2, L3, L6⟩ := lnR_w
    have h9 : n * n ≤ 9 := by
      have := Nat.mul_le_mul hn3 hn3
      omega
    have hle : num / n / n ^ i ≤ num := Nat.le_trans (Nat.div_le_self _ _) (Nat.div_le_self _ _)
    rw [q_X12_world_19, ← Int.natCast_mul, wr_eq (x := ((n * n : Nat) : Int)) (by omega) (by omega), if_pos (by omega), gn_t (by omega), gk (lnR 39) 9 L39 (by omega) (by omega), gn_t (by omega), bDiv_nat (by omega) hn (by omega), bRem_nat (by omega) hn (by omega), dd, wr_eq (x := (i : Int) + 1) (by omega) (by omega), show (i : Int) + 1 = ((i + 1 : Nat) : Int) by omega, show ((i : Int)).toNat = i by omega]
    obtain ⟨μ', o2, o3, a1, a2, a3⟩ := s_world19 hn hn3 hnum j (i + 1) (kl o) o5 o6 (up μ 39 i ((num / n / n ^ i % n : Nat) : Int)) (by omega) (fun k hk => by
      rw [up_if]
      by_cases q : k = i
      · subst q
        rw [if_pos rfl]
        rfl
      · rw [if_neg q]
        exact h k (by omega))
    exact ⟨μ', o2, o3, a1, fun c hc => by rw [a2 c hc, up_cell hc], a3⟩
section WR
variable {μ ν ν0 : Mem} {n num v : Nat}
theorem mL_sg {ν ν1 : Mem} {v : Nat} (h : ν1 4 = ν 4) : ∀ i x, (mL ν v)[i]? = some x → ν1 4 (20 * v + i) = x := fun i x hx => by
  unfold mL at hx
  have hi : i < (ν 3 v).toNat := by
    rcases Nat.lt_or_ge i (ν 3 v).toNat with z | z
    · exact z
    · rw [List.getElem?_eq_none (by rw [sg_len]; exact z)] at hx; cases hx
  rw [sg_get hi] at hx
  rw [h]
  exact Option.some.inj hx
theorem s_world71 (hW : RelW μ ν) (hM : FrM ν ν0) (hn : 0 < n) (hn3 : n ≤ 3) (hv : (v : Int) < ν 0 0) (hB : BR ν0 n num) (hT : ∀ u, u < v → TR ν0 ν n num u) {xx : Nat} (hx : xx < n) {o2 o3 : Option AV} : ∀ (j i : Nat) (ν1 : Mem), i + j = n → (∀ c, c ≠ 40 → c ≠ 41 → ν1 c = ν0 c) → (∀ k, k < 9 * v → ν1 40 k = ν0 40 k) → (∀ a b : Nat, a < n → b < n → (a < xx ∨ (a = xx ∧ b < i)) → ν1 40 (9 * v + 3 * a + b) = wv ν n num v a b) →
    ∃ ν', e_X12_world_71 n o2 o3 v xx i ν1 = e_X12_world_62 n o2 o3 v ((xx + 1 : Nat) : Int) (some (vI n)) ν' ∧ (∀ c, c ≠ 40 → c ≠ 41 → ν' c = ν0 c) ∧ (∀ k, k < 9 * v → ν' 40 k = ν0 40 k) ∧ (∀ a b : Nat, a < n → b < n → a < xx + 1 → ν' 40 (9 * v + 3 * a + b) = wv ν n num v a b)
  | 0, i, ν1, hj, hf, h40, hE => by
    obtain rfl : i = n := by omega
    rw [q_X12_world_71, if_neg (by omega), wr_eq (x := (xx : Int) + 1) (by omega) (by omega), show (xx : Int) + 1 = ((xx + 1 : Nat) : Int) by omega]
    exact ⟨ν1, rfl, hf, h40, fun a b ha hb q => hE a b ha hb (by omega)⟩
  | j + 1, i, ν1, hj, hf, h40, hE => by
    obtain ⟨L41, L39, L40, L4, L5, L2, L3, L6⟩ := lnR_w
    have w4 := hW.2.1
    have hm := Nat.mod_lt num hn
    have okv := (hW.2.2.2.2.1 v hv).1
    unfold okW at okv
    have hlen : ((mL ν v).length : Int) = ν 3 v := by unfold mL; rw [sg_len]; omega
    have hM1 : FrM ν ν1 := ⟨fun c a b => by rw [hf c (by omega) (by omega)]; exact hM.1 c a b, by rw [hf 0 (by omega) (by omega)]; exact hM.2.1, by rw [hf 0 (by omega) (by omega)]; exact hM.2.2.1, by rw [hf 0 (by omega) (by omega)]; exact hM.2.2.2⟩
    obtain ⟨ν2, g1, g2⟩ := s_valueOfR (no := ((num % n : Nat) : Int)) (tb := tbW n num) (wt := wtW ν n num v) (x := (xx : Int)) (y := (i : Int)) (z := 0) (c0 := 4) (o := 20 * v) (l := mL ν v) hW hM1 (by omega) (Or.inl ⟨rfl, by omega⟩) (mL_sg (frM_c hM1 (by omega))) okv.2.2.2.2.2.1 (by omega) okv.2.2.2.2.2.2.1 ⟨by rw [hf 0 (by omega) (by omega)]; exact hB.1, by rw [hf 0 (by omega) (by omega)]; exact hB.2.1, by rw [hf 39 (by omega) (by omega)]; exact hB.2.2, fun u hu hmem a b ha hb _ => by
        have huv := mL_word hW hu hv hmem
        rw [h40 _ (by omega), wtW_at (by omega) (by omega) v huv]
        exact hT u huv a b ha hb⟩ (fun k => tbW_rng hn) (by omega) (by omega) (by omega) (by omega) (okWt_all hW hn hn3 (fun u hu hm => mL_word hW hu hv hm))
    rw [hlen] at g1
    rw [q_X12_world_71, if_pos (by omega), gk (lnR 3) 4 L3 (by omega) (by omega), wr_eq (x := 20 * (v : Int)) (by omega) (by omega), show ((v : Int)).toNat = v by omega, frM_c hM1 (c := 3) (by omega), show 20 * (v : Int) = ((20 * v : Nat) : Int) by omega, g1, cI_t, wr_eq (x := 9 * (v : Int)) (by omega) (by omega), wr_eq (x := 3 * (xx : Int)) (by omega) (by omega), wr_eq (x := 9 * (v : Int) + 3 * (xx : Int)) (by omega) (by omega), wr_eq (x := 9 * (v : Int) + 3 * (xx : Int) + (i : Int)) (by omega) (by omega), gk (lnR 40) 36 L40 (by omega) (by omega), wr_eq (x := (i : Int) + 1) (by omega) (by omega), show (i : Int) + 1 = ((i + 1 : Nat) : Int) by omega, show (9 * (v : Int) + 3 * (xx : Int) + (i : Int)).toNat = 9 * v + 3 * xx + i by omega]
    refine s_world71 hW hM hn hn3 hv hB hT hx j (i + 1) _ (by omega) (fun c a b => by rw [up_cell a, g2 c b]; exact hf c a b) (fun k hk => by rw [up_slot (by omega), g2 40 (by omega)]; exact h40 k hk) (fun a b ha hb q => ?_)
    rw [up_if, g2 40 (by omega)]
    by_cases z : a = xx ∧ b = i
    · obtain ⟨rfl, rfl⟩ := z
      rw [if_pos rfl]
      rfl
    · rw [if_neg (by omega)]
      exact hE a b ha hb (by omega)
theorem s_world62 (hW : RelW μ ν) (hM : FrM ν ν0) (hn : 0 < n) (hn3 : n ≤ 3) (hv : (v : Int) < ν 0 0) (hB : BR ν0 n num) (hT : ∀ u, u < v → TR ν0 ν n num u) {o2 o3 : Option AV} : ∀ (j i : Nat) (ν1 : Mem) (o6 : Option AV), i + j = n → (∀ c, c ≠ 40 → c ≠ 41 → ν1 c = ν0 c) → (∀ k, k < 9 * v → ν1 40 k = ν0 40 k) → (∀ a b : Nat, a < n → b < n → a < i → ν1 40 (9 * v + 3 * a + b) = wv ν n num v a b) →
    ∃ ν' o6', e_X12_world_62 n o2 o3 v i o6 ν1 = e_X12_world_50 n o2 (kl o3) ((v + 1 : Nat) : Int) (some (vI n)) o6' ν' ∧ (∀ c, c ≠ 40 → c ≠ 41 → ν' c = ν0 c) ∧ (∀ k, k < 9 * v → ν' 40 k = ν0 40 k) ∧ TR ν' ν n num v
  | 0, i, ν1, o6, hj, hf, h40, hE => by
    obtain rfl : i = n := by omega
    have w4 := hW.2.1
    rw [q_X12_world_62, if_neg (by omega), wr_eq (x := (v : Int) + 1) (by omega) (by omega), show (v : Int) + 1 = ((v + 1 : Nat) : Int) by omega]
    exact ⟨ν1, o6, rfl, hf, h40, fun a b ha hb => hE a b ha hb ha⟩
  | j + 1, i, ν1, o6, hj, hf, h40, hE => by
    obtain ⟨ν', a1, a2, a3, a4⟩ := s_world71 hW hM hn hn3 hv hB hT (xx := i) (by omega) (o2 := o2) (o3 := o3) n 0 ν1 (by omega) hf h40 (fun a b ha hb q => hE a b ha hb (by omega))
    have a1' : e_X12_world_71 n o2 o3 v i 0 ν1 = _ := a1
    rw [q_X12_world_62, if_pos (by omega), a1']
    exact s_world62 hW hM hn hn3 hv hB hT j (i + 1) ν' _ (by omega) a2 a3 a4
theorem s_world50 {W : Nat} (hW : RelW μ ν) (hWn : ν 0 0 = (W : Int)) (hn : 0 < n) (hn3 : n ≤ 3) : ∀ (j i : Nat) (ν1 : Mem) (o2 o3 o5 o6 : Option AV), i + j = W → FrM ν ν1 → BR ν1 n num → (∀ u, u < i → TR ν1 ν n num u) → ∃ ν', e_X12_world_50 n o2 o3 i o5 o6 ν1 = some (none, ν') ∧ (∀ c, c ≠ 40 → c ≠ 41 → ν' c = ν1 c) ∧ ∀ u, u < W → TR ν' ν n num u
  | 0, i, ν1, o2, o3, o5, o6, hj, hM, hB, hT => by
    obtain rfl : i = W := by omega
    rw [q_X12_world_50, hM.2.1, hWn, if_neg (by omega)]
    exact ⟨ν1, rfl, fun _ _ _ => rfl, hT⟩
  | j + 1, i, ν1, o2, o3, o5, o6, hj, hM, hB, hT => by
    have hi : (i : Int) < ν 0 0 := by omega
    obtain ⟨ν2, o6', a1, a2, a3, a4⟩ := s_world62 hW hM hn hn3 hi hB hT (o2 := o2) (o3 := o3) n 0 ν1 o6 (by omega) (fun _ _ _ => rfl) (fun _ _ => rfl) (fun a b _ _ q => by omega)
    have a1' : e_X12_world_62 n o2 o3 i 0 o6 ν1 = _ := a1
    rw [q_X12_world_50, hM.2.1, if_pos hi, a1']
    have hM2 : FrM ν ν2 := ⟨fun c a b => by rw [a2 c (by omega) (by omega)]; exact hM.1 c a b, by rw [a2 0 (by omega) (by omega)]; exact hM.2.1, by rw [a2 0 (by omega) (by omega)]; exact hM.2.2.1, by rw [a2 0 (by omega) (by omega)]; exact hM.2.2.2⟩
    obtain ⟨ν', b1, b2, b3⟩ := s_world50 hW hWn hn hn3 j (i + 1) ν2 o2 (kl o3) _ o6' (by omega) hM2 (by unfold BR at *; rw [a2 0 (by omega) (by omega), a2 39 (by omega) (by omega)]; exact hB) (fun u hu => by
      by_cases z : u = i
      · subst z; exact a4
      · intro a b ha hb
        rw [a3 _ (by omega)]
        exact hT u (by omega) a b ha hb)
    exact ⟨ν', b1, fun c p q => by rw [b2 c p q, a2 c p q], b3⟩
/-- the reference has entered a WORLD -/
def InR (ν1 ν : Mem) (n num : Nat) : Prop := BR ν1 n num ∧ ∀ u : Nat, (u : Int) < ν 0 0 → TR ν1 ν n num u
/-- what WORLDS use -/
def FrW (ν ν' : Mem) : Prop := (∀ c, ¬ (39 ≤ c ∧ c ≤ 41) → c ≠ 0 → ν' c = ν c) ∧ ∀ k, k ≠ 63 → k ≠ 64 → ν' 0 k = ν 0 k
theorem frW_rf {ν : Mem} : FrW ν ν := ⟨fun _ _ _ => rfl, fun _ _ _ => rfl⟩
theorem frW_trans {ν ν1 ν2 : Mem} (h : FrW ν ν1) (h2 : FrW ν1 ν2) : FrW ν ν2 := ⟨fun c a b => (h2.1 c a b).trans (h.1 c a b), fun k a b => (h2.2 k a b).trans (h.2 k a b)⟩
theorem frW_R {ν ν' : Mem} (h : FrW ν ν') : FrR ν ν' := ⟨fun c h1 h2 => h.1 c (by unfold scrR at h1; omega) h2, fun k hk => h.2 k (by unfold scrK at hk; omega) (by unfold scrK at hk; omega)⟩
theorem frW_M {ν ν' : Mem} (h : FrW ν ν') : FrM ν ν' := frR_M (frW_R h)
theorem s_world {ν1 : Mem} (hW : RelW μ ν) (hF : FrW ν ν1) (hn : 0 < n) (hn3 : n ≤ 3) (hnum : num < 2147483648) : ∃ ν', f_X12_world [vR 12 0, vI (n : Int), vI (num : Int)] ν1 = some (none, ν') ∧ FrW ν ν' ∧ InR ν' ν n num := by
  obtain ⟨W, hWn⟩ : ∃ W : Nat, ν 0 0 = (W : Int) := ⟨(ν 0 0).toNat, by have := hW.1; omega⟩
  obtain ⟨ν2, o2, o3, a1, a2, a3⟩ := s_world19 hn hn3 hnum (n * n) 0 (some (vI (num : Int))) none none (up (up ν1 0 63 (n : Int)) 0 64 ((num % n : Nat) : Int)) (by omega) (fun k hk => by omega)
  rw [Nat.pow_zero, Nat.div_one] at a1
  have a1' : e_X12_world_19 n (some (vI (num : Int))) ((num / n : Nat) : Int) 0 none none (up (up ν1 0 63 (n : Int)) 0 64 ((num % n : Nat) : Int)) = _ := a1
  have F1 : FrW ν ν2 := ⟨fun c p q => by rw [a2 c (by omega), up_cell q, up_cell q]; exact hF.1 c p q, fun k p q => by rw [a2 0 (by omega), up_slot q, up_slot p]; exact hF.2 k p q⟩
  obtain ⟨ν', b1, b2, b3⟩ := s_world50 hW hWn hn hn3 (num := num) W 0 ν2 o2 o3 none none (by omega) (frW_M F1) ⟨by rw [a2 0 (by omega), up_slot (by omega), up_same], by rw [a2 0 (by omega), up_same], a3⟩ (fun u hu => by omega)
  have b1' : e_X12_world_50 n o2 o3 0 none none ν2 = _ := b1
  refine ⟨ν', ?_, ⟨fun c p q => by rw [b2 c (by omega) (by omega)]; exact F1.1 c p q, fun k p q => by rw [b2 0 (by omega) (by omega)]; exact F1.2 k p q⟩, ⟨⟨?_, ?_, ?_⟩, fun u hu => b3 u (by omega)⟩⟩
  · rw [q_X12_world, gn_t (by omega), gn_t (by omega), bDiv_nat hnum hn (by omega), bRem_nat hnum hn (by omega), a1', b1']
  · rw [b2 0 (by omega) (by omega), a2 0 (by omega), up_slot (by omega), up_same]
  · rw [b2 0 (by omega) (by omega), a2 0 (by omega), up_same]
  · rw [b2 39 (by omega) (by omega)]; exact a3
end WR
