/-! the tables of a WORLD -/
theorem tbW_rng {n num k : Nat} (hn : 0 < n) : 0 ≤ tbW n num k ∧ tbW n num k < (n : Int) := by
  unfold tbW
  have := Nat.mod_lt (num / n / n ^ k) hn
  omega
def wv (ν : Mem) (n num u : Nat) (a b : Int) : Int := vT ν n ((num % n : Nat) : Int) (tbW n num) (wtW ν n num u) a b 0 (mL ν u)
theorem wtW_at {ν : Mem} {n num v a b : Nat} (ha : a < 3) (hb : b < 3) : ∀ w, v < w → wtW ν n num w (9 * v + 3 * a + b) = wv ν n num v a b
  | 0, h => by omega
  | w + 1, h => by
    unfold wtW
    by_cases q : v = w
    · subst q
      rw [if_pos (by omega), show (9 * v + 3 * a + b - 9 * v) / 3 = a by omega, show (9 * v + 3 * a + b - 9 * v) % 3 = b by omega]
      rfl
    · rw [if_neg (by omega)]
      exact wtW_at ha hb w (by omega)
theorem mL_word {μ ν : Mem} (hW : RelW μ ν) {u v : Nat} (hu : (u : Int) < ν 0 0) (hv : (v : Int) < ν 0 0) (h : ν 1 u ∈ mL ν v) : u < v := by
  have okv := (hW.2.2.2.2.1 v hv).1
  have oku := (hW.2.2.2.2.1 u hu).1
  have u0 := oku.1
  have u3 := oku.2.1
  rcases okv.2.2.2.2.2.2.2 _ h with q | q | q | ⟨v', q1, q2⟩
  · omega
  · omega
  · omega
  · have := hW.2.2.2.2.2.1 v' u (by omega) hu q2
    omega
theorem wv_ok {μ ν : Mem} (hW : RelW μ ν) {n num : Nat} (hn : 0 < n) (hn3 : n ≤ 3) : ∀ (N v : Nat), v < N → (v : Int) < ν 0 0 → ∀ a b : Nat, a < n → b < n → 0 ≤ wv ν n num v a b ∧ wv ν n num v a b < (n : Int)
  | 0, v, h, _ => by omega
  | N + 1, v, h, hv => by
    intro a b ha hb
    have okv := (hW.2.2.2.2.1 v hv).1
    have hm := Nat.mod_lt num hn
    have ok := vS_ok (x := (a : Int)) (y := (b : Int)) (z := 0) (no := ((num % n : Nat) : Int)) (wt := wtW ν n num v) hW (fun k => tbW_rng (num := num) (k := k) hn) (by omega) (by omega) (by omega) (by omega) (mL ν v) 1 okv.2.2.2.2.2.2.1 (fun u hu hm a b ha hb _ => by
      have huv := mL_word hW hu hv hm
      rw [wtW_at (by omega) (by omega) v huv]
      exact wv_ok hW hn hn3 N u (by omega) hu a b (by omega) (by omega))
    obtain ⟨r, s, e1, l1⟩ := len1 (m := 0) ok.1
    unfold wv vT
    rw [e1] at ok ⊢
    exact ok.2 r (List.mem_cons_self ..)
theorem okWt_all {μ ν : Mem} (hW : RelW μ ν) {n num W : Nat} (hn : 0 < n) (hn3 : n ≤ 3) {l : List Int} (h : ∀ u : Nat, (u : Int) < ν 0 0 → ν 1 u ∈ l → u < W) : okWt ν n (wtW ν n num W) l := fun u hu hm a b ha hb _ => by
  rw [wtW_at (by omega) (by omega) W (h u hu hm)]
  exact wv_ok hW hn hn3 (u + 1) u (by omega) hu a b (by omega) (by omega)
/-! the class enters a WORLD -/
theorem dd {n num i : Nat} : num / n / n ^ i / n = num / n / n ^ (i + 1) := by rw [Nat.div_div_eq_div_mul (num / n), Nat.pow_succ]
theorem s_enter30 {n num : Nat} (hn : 0 < n) (hn3 : n ≤ 3) (hnum : num < 2147483648) : ∀ (j i : Nat) (o : Option AV) (μ : Mem), i + j = n * n → (∀ k, k < i → μ 772 k = tbW n num k) → ∃ μ' o2 o3, e_X10_enter_30 n o ((num / n / n ^ i : Nat) : Int) i μ = e_X10_enter_61 (some (vI n)) o2 o3 0 μ' ∧ (∀ c, c ≠ 772 → μ' c = μ c) ∧ ∀ k, k < n * n → μ' 772 k = tbW n num k
  | 0, i, o, μ, hj, h => by
    have h9 : n * n ≤ 9 := by
      have := Nat.mul_le_mul hn3 hn3
      omega
    rw [q_X10_enter_30, ← Int.natCast_mul, wr_eq (x := ((n * n : Nat) : Int)) (by omega) (by omega), if_neg (by omega)]
    exact ⟨μ, _, _, rfl, fun _ _ => rfl, fun k hk => h k (by omega)⟩
  | j + 1, i, o, μ, hj, h => by
    have h9 : n * n ≤ 9 := by
      have := Nat.mul_le_mul hn3 hn3
      omega
    have hle : num / n / n ^ i ≤ num := Nat.le_trans (Nat.div_le_self _ _) (Nat.div_le_self _ _)
    rw [q_X10_enter_30, ← Int.natCast_mul, wr_eq (x := ((n * n : Nat) : Int)) (by omega) (by omega), if_pos (by omega), gn_t (by omega), gk (lnC 772) 9 rfl (by omega) (by omega), gn_t (by omega), bDiv_nat (by omega) hn (by omega), bRem_nat (by omega) hn (by omega), dd, wr_eq (x := (i : Int) + 1) (by omega) (by omega), show (i : Int) + 1 = ((i + 1 : Nat) : Int) by omega, show ((i : Int)).toNat = i by omega]
    obtain ⟨μ', o2, o3, a1, a2, a3⟩ := s_enter30 hn hn3 hnum j (i + 1) (kl o) (up μ 772 i ((num / n / n ^ i % n : Nat) : Int)) (by omega) (fun k hk => by
      rw [up_if]
      by_cases q : k = i
      · subst q
        rw [if_pos rfl]
        rfl
      · rw [if_neg q]
        exact h k (by omega))
    exact ⟨μ', o2, o3, a1, fun c hc => by rw [a2 c hc, up_cell hc], a3⟩
/-- word v's table -/
def TB (μ ν : Mem) (n num v : Nat) : Prop := ∀ a b : Nat, a < n → b < n → (ν 2 v = 2 ∨ b = 0) → μ (774 + v) (a * n + b) = wv ν n num v a b
def BA (μ : Mem) (n num : Nat) : Prop := μ 771 6 = (n : Int) ∧ μ 771 7 = ((num % n : Nat) : Int) ∧ ∀ k, k < n * n → μ 772 k = tbW n num k
theorem at_inj {n a b x y : Nat} (hn : n ≤ 3) (hb : b < n) (hy : y < n) (h : a * n + b = x * n + y) : a = x ∧ b = y := by
  rcases (show n = 1 ∨ n = 2 ∨ n = 3 by omega) with rfl | rfl | rfl <;> omega
section FILL
variable {μ0 ν : Mem} {n num v : Nat}
theorem lnC_t {v : Nat} (h : v < 4) : lnC (774 + v) = 9 := by
  rcases (show v = 0 ∨ v = 1 ∨ v = 2 ∨ v = 3 by omega) with rfl | rfl | rfl | rfl <;> rfl
theorem s_fill15 (hW : RelW μ0 ν) (hn : 0 < n) (hn3 : n ≤ 3) (hv : (v : Int) < ν 0 0) (hB : BA μ0 n num) (hT : ∀ u, u < v → TB μ0 ν n num u) {xx : Nat} (hx : xx < n) : ∀ (j i : Nat) (μ : Mem) (o : Option AV), i + j = n → (∀ c, c ≠ 778 → c ≠ 779 → c ≠ 774 + v → μ c = μ0 c) → (∀ a b : Nat, a < n → b < n → (ν 2 v = 2 ∨ b = 0) → (a < xx ∨ (a = xx ∧ b < i)) → μ (774 + v) (a * n + b) = wv ν n num v a b) →
    ∃ μ' o', e_X10_fillTable_15 (774 + v) (9 + 4 * v) (ν 2 v) xx i o μ = e_X10_fillTable_3 (774 + v) (9 + 4 * v) (ν 2 v) ((xx + 1 : Nat) : Int) (some (vI n)) o' μ' ∧ (∀ c, c ≠ 778 → c ≠ 779 → c ≠ 774 + v → μ' c = μ0 c) ∧ (∀ a b : Nat, a < n → b < n → (ν 2 v = 2 ∨ b = 0) → a < xx + 1 → μ' (774 + v) (a * n + b) = wv ν n num v a b)
  | 0, i, μ, o, hj, hf, hE => by
    obtain rfl : i = n := by omega
    have w4 := hW.2.1
    have m6 : μ 771 6 = (i : Int) := by rw [hf 771 (by omega) (by omega) (by omega)]; exact hB.1
    rw [q_X10_fillTable_15, m6, if_neg (by omega), wr_eq (x := (xx : Int) + 1) (by omega) (by omega), show (xx : Int) + 1 = ((xx + 1 : Nat) : Int) by omega]
    exact ⟨μ, o, rfl, hf, fun a b ha hb q q2 => hE a b ha hb q (by omega)⟩
  | j + 1, i, μ, o, hj, hf, hE => by
    have w4 := hW.2.1
    have hm := Nat.mod_lt num hn
    have m6 : μ 771 6 = (n : Int) := by rw [hf 771 (by omega) (by omega) (by omega)]; exact hB.1
    have okv := (hW.2.2.2.2.1 v hv)
    have hl := at_lt n xx i (by omega) hx (by omega)
    have hl0 := at_lt n xx 0 (by omega) hx (by omega)
    have h9 : n * n ≤ 9 := by
      have := Nat.mul_le_mul hn3 hn3
      omega
    have e1 : (xx : Int) * (n : Int) = ((xx * n : Nat) : Int) := by rw [Int.natCast_mul]
    have v3e := okv.1
    unfold okW at v3e
    have hlen : (mL ν v).length ≤ 20 := by unfold mL; rw [sg_len]; omega
    -- what a write of the right value gives
    have nxt : ∀ μ1 : Mem, (∀ c, c ≠ 778 → c ≠ 779 → c ≠ 774 + v → μ1 c = μ0 c) → μ1 (774 + v) = μ (774 + v) → ∀ u : Int, ((ν 2 v = 2 ∨ i = 0) → u = wv ν n num v xx i) → ∀ o1, ∃ μ' o', e_X10_fillTable_15 (774 + v) (9 + 4 * v) (ν 2 v) xx ((i + 1 : Nat) : Int) o1 (up μ1 (774 + v) (xx * n + i) u) = e_X10_fillTable_3 (774 + v) (9 + 4 * v) (ν 2 v) ((xx + 1 : Nat) : Int) (some (vI n)) o' μ' ∧ (∀ c, c ≠ 778 → c ≠ 779 → c ≠ 774 + v → μ' c = μ0 c) ∧ (∀ a b : Nat, a < n → b < n → (ν 2 v = 2 ∨ b = 0) → a < xx + 1 → μ' (774 + v) (a * n + b) = wv ν n num v a b) := fun μ1 g1 g2 u hu o1 => by
      refine s_fill15 hW hn hn3 hv hB hT hx j (i + 1) _ o1 (by omega) (fun c a b d => by rw [up_cell d]; exact g1 c a b d) (fun a b ha hb q q2 => ?_)
      rw [up_if, g2]
      by_cases z : a * n + b = xx * n + i
      · obtain ⟨rfl, rfl⟩ := at_inj hn3 hb (by omega) z
        rw [if_pos rfl]
        exact hu q
      · rw [if_neg z]
        refine hE a b ha hb q ?_
        by_cases a1 : a = xx
        · subst a1
          by_cases b1 : b = i
          · subst b1; exact absurd rfl z
          · omega
        · omega
    have U : ∀ c, c ≠ 778 → up (up μ 778 0 (xx : Int)) 778 1 (i : Int) c = μ c := fun c hc => by rw [up_cell hc, up_cell hc]
    have U6 : up (up μ 778 0 (xx : Int)) 778 1 (i : Int) 771 6 = (n : Int) := by rw [U 771 (by omega)]; exact m6
    rw [q_X10_fillTable_15, m6, if_pos (by omega), gk (lnC 778) 3 rfl (by omega) (by omega), gk (lnC 778) 3 rfl (by omega) (by omega), show ((0 : Int)).toNat = 0 from rfl, show ((1 : Int)).toNat = 1 from rfl, U6, e1, wr_eq (x := ((xx * n : Nat) : Int)) (by omega) (by omega), wr_eq (x := ((xx * n : Nat) : Int) + (i : Int)) (by omega) (by omega), lnC_t (show v < 4 by omega), if_pos (by omega), wr_eq (x := (i : Int) + 1) (by omega) (by omega), show (i : Int) + 1 = ((i + 1 : Nat) : Int) by omega, show (((xx * n : Nat) : Int) + (i : Int)).toNat = xx * n + i by omega]
    -- the value
    have hval : (ν 2 v = 2 ∨ i = 0) → ∃ μ1, f_X10_valueOf [vR 10 771, vR 8 (9 + 4 * v)] (up (up μ 778 0 (xx : Int)) 778 1 (i : Int)) = some (some (vI (wv ν n num v xx i)), μ1) ∧ ∀ c, c ≠ 779 → μ1 c = up (up μ 778 0 (xx : Int)) 778 1 (i : Int) c := fun hq => by
      have hWm : RelW (up (up μ 778 0 (xx : Int)) 778 1 (i : Int)) ν := hW.kept (fun c _ _ => by rw [U c (by omega), hf c (by omega) (by omega) (by omega)])
      have hTT : TH (up (up μ 778 0 (xx : Int)) 778 1 (i : Int)) (9 + 4 * v) (mL ν v) := okv.2.2.2.1.kept (S := fun c => 771 ≤ c) (fun c hc => by rw [U c (by omega), hf c (by omega) (by omega) (by omega)]) (by omega) (by omega)
      refine s_valueOfC (no := ((num % n : Nat) : Int)) (tb := tbW n num) (wt := wtW ν n num v) (x := (xx : Int)) (y := (i : Int)) (z := 0) hWm (by omega) hTT (by omega) v3e.2.2.2.2.2.1 hlen v3e.2.2.2.2.2.2.1 ⟨U6, ?_, ?_, fun u hu hmem a b ha hb q => ?_⟩ ⟨fun _ => ?_, fun _ => ?_, fun ⟨c, q1, q2⟩ => ?_⟩ (fun k => tbW_rng hn) (by omega) (by omega) (by omega) (by omega) (okWt_all hW hn hn3 (fun u hu hm => mL_word hW hu hv hm))
      · rw [U 771 (by omega), hf 771 (by omega) (by omega) (by omega)]; exact hB.2.1
      · intro k hk; rw [U 772 (by omega), hf 772 (by omega) (by omega) (by omega)]; exact hB.2.2 k hk
      · have huv := mL_word hW hu hv hmem
        rw [U (774 + u) (by omega), hf (774 + u) (by omega) (by omega) (by omega), wtW_at (by omega) (by omega) v huv]
        exact hT u huv a b ha hb q
      · rw [up_slot (by omega), up_same]
      · rw [up_same]
      · rcases v3e.2.2.2.2.2.2.2 c q1 with z | z | z | ⟨v', z1, z2⟩
        · omega
        · omega
        · omega
        · have := (hW.2.2.2.2.1 v' (by omega)).1
          unfold okW at this
          omega
    have done : (ν 2 v = 2 ∨ i = 0) → ∀ o1, ∃ μ' o', cI (f_X10_valueOf [vR 10 771, vR 8 (9 + 4 * v)] (up (up μ 778 0 (xx : Int)) 778 1 (i : Int))) (fun x2 μ1 => gi (((xx * n : Nat) : Int) + (i : Int)) 9 (e_X10_fillTable_15 (774 + v) (9 + 4 * v) (ν 2 v) xx ((i + 1 : Nat) : Int) o1 (up μ1 (774 + v) (xx * n + i) x2))) = e_X10_fillTable_3 (774 + v) (9 + 4 * v) (ν 2 v) ((xx + 1 : Nat) : Int) (some (vI n)) o' μ' ∧ (∀ c, c ≠ 778 → c ≠ 779 → c ≠ 774 + v → μ' c = μ0 c) ∧ (∀ a b : Nat, a < n → b < n → (ν 2 v = 2 ∨ b = 0) → a < xx + 1 → μ' (774 + v) (a * n + b) = wv ν n num v a b) := fun hq o1 => by
      obtain ⟨μ1, g1, g2⟩ := hval hq
      rw [g1, cI_t, gi_t (by omega) (by omega)]
      exact nxt μ1 (fun c a b d => by rw [g2 c b, U c a]; exact hf c a b d) (by rw [g2 _ (by omega), U _ (by omega)]) _ (fun _ => rfl) o1
    by_cases q2 : ν 2 v < 2
    · rw [if_pos q2]
      by_cases qi : i = 0
      · rw [if_pos (show (i : Int) ≤ 0 by omega)]
        exact done (Or.inr qi) _
      · rw [if_neg (show ¬ (i : Int) ≤ 0 by omega), gi_t (by omega) (by omega), gi_t (by omega) (by omega)]
        exact nxt _ (fun c a b d => by rw [U c a]; exact hf c a b d) (U _ (by omega)) _ (fun z => by omega) _
    · rw [if_neg q2]
      exact done (Or.inl (by omega)) _
theorem s_fill3 (hW : RelW μ0 ν) (hn : 0 < n) (hn3 : n ≤ 3) (hv : (v : Int) < ν 0 0) (hB : BA μ0 n num) (hT : ∀ u, u < v → TB μ0 ν n num u) : ∀ (j i : Nat) (μ : Mem) (o5 o6 : Option AV), i + j = n → (∀ c, c ≠ 778 → c ≠ 779 → c ≠ 774 + v → μ c = μ0 c) → (∀ a b : Nat, a < n → b < n → (ν 2 v = 2 ∨ b = 0) → a < i → μ (774 + v) (a * n + b) = wv ν n num v a b) →
    ∃ μ', e_X10_fillTable_3 (774 + v) (9 + 4 * v) (ν 2 v) i o5 o6 μ = some (none, μ') ∧ (∀ c, c ≠ 778 → c ≠ 779 → c ≠ 774 + v → μ' c = μ0 c) ∧ TB μ' ν n num v
  | 0, i, μ, o5, o6, hj, hf, hE => by
    obtain rfl : i = n := by omega
    have w4 := hW.2.1
    have m6 : μ 771 6 = (i : Int) := by rw [hf 771 (by omega) (by omega) (by omega)]; exact hB.1
    rw [q_X10_fillTable_3, m6, if_neg (by omega)]
    exact ⟨μ, rfl, hf, fun a b ha hb q => hE a b ha hb q ha⟩
  | j + 1, i, μ, o5, o6, hj, hf, hE => by
    have w4 := hW.2.1
    have m6 : μ 771 6 = (n : Int) := by rw [hf 771 (by omega) (by omega) (by omega)]; exact hB.1
    obtain ⟨μ', o', a1, a2, a3⟩ := s_fill15 hW hn hn3 hv hB hT (xx := i) (by omega) n 0 μ o6 (by omega) hf (fun a b ha hb q q2 => hE a b ha hb q (by omega))
    have a1' : e_X10_fillTable_15 (774 + v) (9 + 4 * v) (ν 2 v) i 0 o6 μ = _ := a1
    rw [q_X10_fillTable_3, m6, if_pos (by omega), a1']
    exact s_fill3 hW hn hn3 hv hB hT j (i + 1) μ' _ _ (by omega) a2 a3
theorem s_enter61 {W : Nat} (hWn : ν 0 0 = (W : Int)) (hn : 0 < n) (hn3 : n ≤ 3) : ∀ (j i : Nat) (μ : Mem) (o1 o2 o3 : Option AV), i + j = W → RelW μ ν → BA μ n num → (∀ u, u < i → TB μ ν n num u) → ∃ μ', e_X10_enter_61 o1 o2 o3 i μ = some (none, μ') ∧ (∀ c, ¬ (774 ≤ c ∧ c ≤ 779) → μ' c = μ c) ∧ ∀ u, u < W → TB μ' ν n num u
  | 0, i, μ, o1, o2, o3, hj, hW, hB, hT => by
    obtain rfl : i = W := by omega
    rw [q_X10_enter_61, hW.2.2.2.1, hWn, if_neg (by omega)]
    exact ⟨μ, rfl, fun _ _ => rfl, hT⟩
  | j + 1, i, μ, o1, o2, o3, hj, hW, hB, hT => by
    have w4 := hW.2.1
    have hi : (i : Int) < ν 0 0 := by omega
    have okv := (hW.2.2.2.2.1 i hi)
    obtain ⟨μ1, a1, a2, a3⟩ := s_fill3 (μ0 := μ) hW hn hn3 hi hB hT n 0 μ none none (by omega) (fun _ _ _ _ => rfl) (fun a b _ _ _ q => by omega)
    have a1' : e_X10_fillTable_3 (774 + i) (9 + 4 * i) (ν 2 i) 0 none none μ = _ := a1
    have hne : f_X9_needOf [vR 9 1, vI (i : Int)] μ = some (some (vI (ν 2 i)), μ) := by
      rw [q_X9_needOf, if_neg (by omega), hW.2.2.2.1, if_pos hi, gk (lnC 3) 4 rfl (by omega) (by omega), show ((i : Int)).toNat = i by omega, okv.2.2.1]
    rw [q_X10_enter_61, hW.2.2.2.1, if_pos hi, gk (lnC 773) 4 rfl (by omega) (by omega), s_meaningOf hW, if_pos ⟨by omega, hi⟩, cR_s, hne, cI_t, show ((i : Int)).toNat = i by omega, show 773 + 1 + i = 774 + i by omega, q_X10_fillTable, a1', cV_t, wr_eq (x := (i : Int) + 1) (by omega) (by omega), show (i : Int) + 1 = ((i + 1 : Nat) : Int) by omega]
    have hW1 : RelW μ1 ν := hW.kept (fun c _ _ => a2 c (by omega) (by omega) (by omega))
    obtain ⟨μ', b1, b2, b3⟩ := s_enter61 hWn hn hn3 j (i + 1) μ1 o1 o2 (kl o3) (by omega) hW1 (by unfold BA at *; rw [a2 771 (by omega) (by omega) (by omega), a2 772 (by omega) (by omega) (by omega)]; exact hB) (fun u hu => by
      by_cases z : u = i
      · subst z; exact a3
      · intro a b ha hb q
        rw [a2 (774 + u) (by omega) (by omega) (by omega)]
        exact hT u (by omega) a b ha hb q)
    exact ⟨μ', b1, fun c hc => by rw [b2 c hc, a2 c (by omega) (by omega) (by omega)], b3⟩
/-- the class has entered a WORLD -/
def InC (μ ν : Mem) (n num : Nat) : Prop := BA μ n num ∧ ∀ u : Nat, (u : Int) < ν 0 0 → TB μ ν n num u
theorem s_enter {μ : Mem} (hW : RelW μ ν) (hn : 0 < n) (hn3 : n ≤ 3) (hnum : num < 2147483648) : ∃ μ', f_X10_enter [vR 10 771, vI (n : Int), vI (num : Int)] μ = some (none, μ') ∧ Fr μ μ' (fun c => 771 ≤ c ∧ c ≤ 779) ∧ InC μ' ν n num := by
  obtain ⟨W, hWn⟩ : ∃ W : Nat, ν 0 0 = (W : Int) := ⟨(ν 0 0).toNat, by have := hW.1; omega⟩
  obtain ⟨μ1, o2, o3, a1, a2, a3⟩ := s_enter30 hn hn3 hnum (n * n) 0 (some (vI (num : Int))) (up (up μ 771 6 (n : Int)) 771 7 ((num % n : Nat) : Int)) (by omega) (fun k hk => by omega)
  rw [Nat.pow_zero, Nat.div_one] at a1
  have a1' : e_X10_enter_30 n (some (vI (num : Int))) ((num / n : Nat) : Int) 0 (up (up μ 771 6 (n : Int)) 771 7 ((num % n : Nat) : Int)) = _ := a1
  have F1 : ∀ c, c ≠ 771 → c ≠ 772 → μ1 c = μ c := fun c p q => by rw [a2 c q, up_cell p, up_cell p]
  obtain ⟨μ', b1, b2, b3⟩ := s_enter61 hWn hn hn3 (num := num) W 0 μ1 (some (vI n)) o2 o3 (by omega) (hW.kept (fun c _ _ => F1 c (by omega) (by omega))) ⟨by rw [a2 771 (by omega), up_slot (by omega), up_same], by rw [a2 771 (by omega), up_same], a3⟩ (fun u hu => by omega)
  have b1' : e_X10_enter_61 (some (vI n)) o2 o3 0 μ1 = _ := b1
  refine ⟨μ', ?_, fun c hc => by rw [b2 c (by omega), F1 c (by omega) (by omega)], ⟨⟨?_, ?_, ?_⟩, fun u hu => b3 u (by omega)⟩⟩
  · rw [q_X10_enter, if_neg (by omega), if_pos (by omega), gn_t (by omega), gn_t (by omega), bDiv_nat hnum hn (by omega), bRem_nat hnum hn (by omega), a1', b1']
  · rw [b2 771 (by omega), a2 771 (by omega), up_slot (by omega), up_same]
  · rw [b2 771 (by omega), a2 771 (by omega), up_same]
  · rw [b2 772 (by omega)]; exact a3
end FILL
