/-! holds, worlds, denied -/
theorem nnn {n : Nat} (h : n ≤ 3) : n * n * n ≤ 27 := by
  rcases (show n = 0 ∨ n = 1 ∨ n = 2 ∨ n = 3 by omega) with rfl | rfl | rfl | rfl <;> decide
theorem all3 {n : Nat} (hn : 0 < n) (hn3 : n ≤ 3) {P : Nat → Nat → Nat → Prop} : (∀ q, q < n * n * n → P (q % n) (q / n % n) (q / n / n)) ↔ ∀ x y z, x < n → y < n → z < n → P x y z := by
  constructor
  · intro h x y z hx hy hz
    have h1 := h (x + n * y + n * n * z)
    rcases (show n = 1 ∨ n = 2 ∨ n = 3 by omega) with rfl | rfl | rfl
    · obtain rfl : x = 0 := by omega
      obtain rfl : y = 0 := by omega
      obtain rfl : z = 0 := by omega
      exact h1 (by omega)
    · have e1 : (x + 2 * y + 2 * 2 * z) % 2 = x := by omega
      have e2 : (x + 2 * y + 2 * 2 * z) / 2 % 2 = y := by omega
      have e3 : (x + 2 * y + 2 * 2 * z) / 2 / 2 = z := by omega
      rw [e1, e2, e3] at h1
      exact h1 (by omega)
    · have e1 : (x + 3 * y + 3 * 3 * z) % 3 = x := by omega
      have e2 : (x + 3 * y + 3 * 3 * z) / 3 % 3 = y := by omega
      have e3 : (x + 3 * y + 3 * 3 * z) / 3 / 3 = z := by omega
      rw [e1, e2, e3] at h1
      exact h1 (by omega)
  · intro h q hq
    refine h _ _ _ (Nat.mod_lt _ hn) (Nat.mod_lt _ hn) ?_
    rcases (show n = 1 ∨ n = 2 ∨ n = 3 by omega) with rfl | rfl | rfl <;> omega
theorem sL_sg {ν ν1 : Mem} {e k : Nat} (h : ν1 5 = ν 5) : ∀ i x, (sL ν e k)[i]? = some x → ν1 5 (40 * e + 20 * k + i) = x := fun i x hx => by
  unfold sL at hx
  have hi : i < (ν 6 (2 * e + k)).toNat := by
    rcases Nat.lt_or_ge i (ν 6 (2 * e + k)).toNat with z | z
    · exact z
    · rw [List.getElem?_eq_none (by rw [sg_len]; exact z)] at hx; cases hx
  rw [sg_get hi] at hx
  rw [h]
  exact Option.some.inj hx
section HR
variable {μ ν : Mem} {n num e : Nat}
theorem s_sideR {ν0 : Mem} (hW : RelW μ ν) (hS : RelS μ ν) (hF : FrW ν ν0) (hn : 0 < n) (hn3 : n ≤ 3) (he : (e : Int) < ν 0 5) (hI : InR ν0 ν n num) {k : Nat} (hk : k ≤ 1) {x y z : Nat} (hx : x < n) (hy : y < n) (hz : z < n) : ∃ ν', f_X12_valueOf [vR 12 0, vR 20 5, vI ((40 * e + 20 * k : Nat) : Int), vI (ν 6 (2 * e + k)), vI (x : Int), vI (y : Int), vI (z : Int)] ν0 = some (some (vI (vT ν n ((num % n : Nat) : Int) (tbW n num) (wtW ν n num (ν 0 0).toNat) x y z (sL ν e k))), ν') ∧ (∀ c, c ≠ 41 → ν' c = ν0 c) := by
  have h24 := hS.2.1
  have hm := Nat.mod_lt num hn
  have hM := frW_M hF
  have ok := okT_sL hS he hk
  have hs := hS.2.2.2.2.2.2.2.2 e he
  have hpos : 0 ≤ ν 6 (2 * e + k) := by
    rcases (show k = 0 ∨ k = 1 by omega) with rfl | rfl
    · have := hs.1.1; omega
    · have := hs.2.1.1; omega
  have hlen : ((sL ν e k).length : Int) = ν 6 (2 * e + k) := by unfold sL; rw [sg_len]; omega
  have h := s_valueOfR (no := ((num % n : Nat) : Int)) (tb := tbW n num) (wt := wtW ν n num (ν 0 0).toNat) (x := (x : Int)) (y := (y : Int)) (z := (z : Int)) (c0 := 5) (o := 40 * e + 20 * k) (l := sL ν e k) hW hM (by omega) (Or.inr ⟨rfl, by have := ok.2.2; omega⟩) (sL_sg (frM_c hM (by omega))) ok.2.1 ok.2.2 ok.1 ⟨hI.1.1, hI.1.2.1, hI.1.2.2, fun u hu _ a b ha hb _ => by
    rw [wtW_at (by omega) (by omega) _ (show u < (ν 0 0).toNat by omega)]
    exact hI.2 u hu a b ha hb⟩ (fun k => tbW_rng hn) (by omega) (by omega) (by omega) (by omega) (okWt_W hW hn hn3 _)
  rw [hlen] at h
  exact h
theorem s_holdsNow4 (hW : RelW μ ν) (hS : RelS μ ν) (hn : 0 < n) (hn3 : n ≤ 3) (he : (e : Int) < ν 0 5) : ∀ (j q : Nat) (ν1 : Mem) (fl : Int) (o4 o5 o6 o7 : Option AV), q + j = n * n * n → FrW ν ν1 → InR ν1 ν n num → (fl = 0 ∨ fl = 1) → (fl = 1 ↔ ∀ p, p < q → EQ ν n num e (p % n) (p / n % n) (p / n / n)) →
    ∃ r ν', e_X12_holdsNow_4 e fl q o4 o5 o6 o7 ν1 = some (some (vI r), ν') ∧ FrW ν ν' ∧ InR ν' ν n num ∧ (r = 0 ∨ r = 1) ∧ (r = 1 ↔ hdW ν n num e)
  | 0, q, ν1, fl, o4, o5, o6, o7, hj, hF, hI, hfl, hE => by
    obtain rfl : q = n * n * n := by omega
    have h27 := nnn hn3
    have h9 : n * n ≤ 9 := Nat.mul_le_mul hn3 hn3
    rw [q_X12_holdsNow_4, hI.1.1, ← Int.natCast_mul, wr_eq (x := ((n * n : Nat) : Int)) (by omega) (by omega), ← Int.natCast_mul, wr_eq (x := ((n * n * n : Nat) : Int)) (by omega) (by omega), if_neg (by omega)]
    refine ⟨fl, ν1, ?_, hF, hI, hfl, hE.trans ((all3 hn hn3 (P := fun x y z => EQ ν n num e x y z)).trans hdW_iff.symm)⟩
    rcases hfl with rfl | rfl
    · exact gz_0
    · exact gz_1
  | j + 1, q, ν1, fl, o4, o5, o6, o7, hj, hF, hI, hfl, hE => by
    obtain ⟨L41, L39, L40, L4, L5, L2, L3, L6⟩ := lnR_w
    have h27 := nnn hn3
    have h24 := hS.2.1
    have h9 : n * n ≤ 9 := Nat.mul_le_mul hn3 hn3
    have hq1 : q / n ≤ q := Nat.div_le_self _ _
    have hM := frW_M hF
    rw [q_X12_holdsNow_4, hI.1.1, ← Int.natCast_mul, wr_eq (x := ((n * n : Nat) : Int)) (by omega) (by omega), ← Int.natCast_mul, wr_eq (x := ((n * n * n : Nat) : Int)) (by omega) (by omega), if_pos (by omega)]
    rcases hfl with rfl | rfl
    · rw [if_pos rfl, gz_0]
      refine ⟨0, ν1, rfl, hF, hI, Or.inl rfl, ⟨fun z => by omega, fun z => ?_⟩⟩
      have : ∀ p, p < q → EQ ν n num e (p % n) (p / n % n) (p / n / n) := fun p hp => ((all3 hn hn3 (P := fun x y z => EQ ν n num e x y z)).mpr (hdW_iff.mp z)) p (by omega)
      exact hE.mpr this
    · have hx : q % n < n := Nat.mod_lt _ hn
      have hy : q / n % n < n := Nat.mod_lt _ hn
      have hz : q / n / n < n := by
        rcases (show n = 1 ∨ n = 2 ∨ n = 3 by omega) with rfl | rfl | rfl <;> omega
      obtain ⟨ν2, a1, a2⟩ := s_sideR hW hS hF hn hn3 he hI (show 0 ≤ 1 by omega) hx hy hz
      have F2 : FrW ν ν2 := ⟨fun c a b => by rw [a2 c (by omega)]; exact hF.1 c a b, fun k a b => by rw [a2 0 (by omega)]; exact hF.2 k a b⟩
      have I2 : InR ν2 ν n num := by unfold InR BR TR at *; rw [a2 0 (by omega), a2 39 (by omega), a2 40 (by omega)]; exact hI
      obtain ⟨ν3, b1, b2⟩ := s_sideR hW hS F2 hn hn3 he I2 (show 1 ≤ 1 by omega) hx hy hz
      have F3 : FrW ν ν3 := ⟨fun c a b => by rw [b2 c (by omega)]; exact F2.1 c a b, fun k a b => by rw [b2 0 (by omega)]; exact F2.2 k a b⟩
      have I3 : InR ν3 ν n num := by unfold InR BR TR at *; rw [b2 0 (by omega), b2 39 (by omega), b2 40 (by omega)]; exact I2
      rw [if_neg ten, gn_t (by omega), gn_t (by omega), gn_t (by omega), gn_t (by omega), gn_t (by omega), bRem_nat (show q < 2147483648 by omega) hn (by omega), bDiv_nat (show q < 2147483648 by omega) hn (by omega), bRem_nat (show q / n < 2147483648 by omega) hn (by omega), bDiv_nat (show q / n < 2147483648 by omega) hn (by omega), wr_eq (x := 2 * (e : Int)) (by omega) (by omega), wr_eq (x := 40 * (e : Int)) (by omega) (by omega), wr_eq (x := 2 * (e : Int) + 1) (by omega) (by omega), wr_eq (x := 40 * (e : Int) + 20) (by omega) (by omega), gk (lnR 6) 48 L6 (by omega) (by omega), show (2 * (e : Int)).toNat = 2 * e + 0 by omega, frM_c hM (c := 6) (by omega), show 40 * (e : Int) = ((40 * e + 20 * 0 : Nat) : Int) by omega, a1, cI_t, gk (lnR 6) 48 L6 (by omega) (by omega), show (2 * (e : Int) + 1).toNat = 2 * e + 1 by omega, frM_c (frW_M F2) (c := 6) (by omega), show ((40 * e + 20 * 0 : Nat) : Int) + 20 = ((40 * e + 20 * 1 : Nat) : Int) by omega, b1, cI_t, wr_eq (x := (q : Int) + 1) (by omega) (by omega), show (q : Int) + 1 = ((q + 1 : Nat) : Int) by omega]
      by_cases eq : EQ ν n num e (q % n) (q / n % n) (q / n / n)
      · have eq' := eq
        unfold EQ at eq'
        rw [if_pos eq']
        refine s_holdsNow4 hW hS hn hn3 he j (q + 1) ν3 1 _ _ _ _ (by omega) F3 I3 (Or.inr rfl) ⟨fun _ p hp => ?_, fun _ => rfl⟩
        by_cases z : p = q
        · subst z; exact eq
        · exact hE.mp rfl p (by omega)
      · have eq' := eq
        unfold EQ at eq'
        rw [if_neg eq']
        exact s_holdsNow4 hW hS hn hn3 he j (q + 1) ν3 0 _ _ _ _ (by omega) F3 I3 (Or.inl rfl) ⟨fun z => by omega, fun z => absurd (z q (by omega)) eq⟩
theorem s_holdsNow {ν1 : Mem} (hW : RelW μ ν) (hS : RelS μ ν) (hn : 0 < n) (hn3 : n ≤ 3) (he : (e : Int) < ν 0 5) (hF : FrW ν ν1) (hI : InR ν1 ν n num) : ∃ r ν', f_X12_holdsNow [vR 12 0, vI (e : Int)] ν1 = some (some (vI r), ν') ∧ FrW ν ν' ∧ InR ν' ν n num ∧ (r = 0 ∨ r = 1) ∧ (r = 1 ↔ hdW ν n num e) := by
  rw [q_X12_holdsNow]
  exact s_holdsNow4 hW hS hn hn3 he (n * n * n) 0 ν1 1 none none none none (by omega) hF hI (Or.inr rfl) ⟨fun _ p hp => by omega, fun _ => rfl⟩
end HR
/-- how many WORLDS there are -/
def wN (n : Nat) : Nat := n * n ^ (n * n)
theorem s_howMany {n : Nat} (hn : 0 < n) (hn3 : n ≤ 3) (μ : Mem) : f_X10_howMany [vR 10 771, vI (n : Int)] μ = some (some (vI (wN n : Int)), μ) := by
  rw [q_X10_howMany, if_neg (by omega), if_pos (by omega)]
  rcases (show n = 1 ∨ n = 2 ∨ n = 3 by omega) with rfl | rfl | rfl <;> rfl
theorem s_worldsOf {n : Nat} (hn : 0 < n) (hn3 : n ≤ 3) (μ : Mem) : f_X12_worldsOf [vI (n : Int)] μ = some (some (vI (wN n : Int)), μ) := by
  have pw : ∀ (p : Nat) (v0 v1 v2 v3 : Int), v3 < v1 → e_X12_power_4 v0 v1 v2 v3 μ = e_X12_power_4 v0 v1 (wr (v2 * v0)) (wr (v3 + 1)) μ := fun _ v0 v1 v2 v3 h => by rw [q_X12_power_4, if_pos h]
  rcases (show n = 1 ∨ n = 2 ∨ n = 3 by omega) with rfl | rfl | rfl
  · rw [q_X12_worldsOf, q_X12_power, show wr (((1 : Nat) : Int) * ((1 : Nat) : Int)) = 1 by decide, pw 0 _ _ _ _ (by decide), show wr (0 + 1) = 1 by decide, q_X12_power_4, if_neg (by decide), cI_t]
    rfl
  · rw [q_X12_worldsOf, q_X12_power, show wr (((2 : Nat) : Int) * ((2 : Nat) : Int)) = 4 by decide, pw 0 _ _ _ _ (by decide), pw 0 _ _ _ _ (by decide), pw 0 _ _ _ _ (by decide), pw 0 _ _ _ _ (by decide), q_X12_power_4, if_neg (by decide), cI_t]
    rfl
  · rw [q_X12_worldsOf, q_X12_power, show wr (((3 : Nat) : Int) * ((3 : Nat) : Int)) = 9 by decide, pw 0 _ _ _ _ (by decide), pw 0 _ _ _ _ (by decide), pw 0 _ _ _ _ (by decide), pw 0 _ _ _ _ (by decide), pw 0 _ _ _ _ (by decide), pw 0 _ _ _ _ (by decide), pw 0 _ _ _ _ (by decide), pw 0 _ _ _ _ (by decide), pw 0 _ _ _ _ (by decide), q_X12_power_4, if_neg (by decide), cI_t]
    rfl
theorem wN_le {n : Nat} (hn3 : n ≤ 3) : wN n ≤ 59049 := by
  rcases (show n = 0 ∨ n = 1 ∨ n = 2 ∨ n = 3 by omega) with rfl | rfl | rfl | rfl <;> decide
theorem scr_W {μ μ' : Mem} (h : Fr μ μ' (fun c => 771 ≤ c ∧ c ≤ 779)) : Fr μ μ' scr := h.mono (fun c hc => by unfold scr; omega)
theorem sim_holds (μ ν : Mem) (x1 x2 x3 : Int) (_ : in32 x1) (h2 : in32 x2) (_ : in32 x3) (h : Rel μ ν) : Sm Rel f_X11_holds f_X12_holds [vI x1, vI x2, vI x3] μ ν := by
  unfold Sm
  have hS := h.2.2.2.1
  have hW := h.2.2.1
  rw [q_X11_holds, q_X12_holds]
  by_cases hx : ¬ (0 ≤ x1 ∧ x1 < ν 0 5)
  · rw [get_f hS hx, cR_n, isS_f hS hx, cI_t, if_pos rfl]
    exact ⟨-1, μ, ν, rfl, rfl, h⟩
  replace hx := Decidable.not_not.mp hx
  obtain ⟨e, rfl⟩ : ∃ e : Nat, x1 = (e : Int) := ⟨x1.toNat, by omega⟩
  rw [get_t hS hx, cR_s, isS_t hS hx, cI_t, if_neg ten, s_in, cI_t, show ((e : Int)).toNat = e by omega]
  by_cases hn : ¬ (1 ≤ x2 ∧ x2 ≤ 3)
  · rw [if_neg hn, if_pos rfl]
    refine ⟨-1, μ, ν, ?_, rfl, h⟩
    by_cases q : x3 < 0
    · rw [if_pos q]
    · rw [if_neg q]
      have : f_X10_howMany [vR 10 771, vI x2] μ = some (some (vI 0), μ) := by
        rw [q_X10_howMany]
        by_cases q1 : x2 < 1
        · rw [if_pos q1]
        · rw [if_neg q1, if_neg (by omega)]
      rw [this, cI_t, if_neg q]
  replace hn := Decidable.not_not.mp hn
  obtain ⟨n, rfl⟩ : ∃ n : Nat, x2 = (n : Int) := ⟨x2.toNat, by omega⟩
  have hw := wN_le (n := n) (by omega)
  rw [if_pos hn, if_neg ten, s_worldsOf (by omega) (by omega), cI_t, s_in, cI_t, s_howMany (by omega) (by omega), cI_t, wr_eq (x := (wN n : Int) - 1) (by omega) (by omega)]
  by_cases h0 : x3 < 0
  · rw [if_pos h0, if_neg (show ¬ (0 ≤ x3 ∧ x3 ≤ (wN n : Int) - 1) by omega), if_pos rfl]
    exact ⟨-1, μ, ν, rfl, rfl, h⟩
  rw [if_neg h0]
  by_cases h3 : x3 < (wN n : Int)
  · obtain ⟨num, rfl⟩ : ∃ num : Nat, x3 = (num : Int) := ⟨x3.toNat, by omega⟩
    rw [if_pos h3, if_pos (show 0 ≤ (num : Int) ∧ (num : Int) ≤ (wN n : Int) - 1 by omega), if_neg ten]
    obtain ⟨μ1, a1, a2, a3⟩ := s_enter (num := num) hW (show 0 < n by omega) (by omega) (by omega)
    obtain ⟨ν1, b1, b2, b3⟩ := s_world (num := num) hW (frW_rf (ν := ν)) (show 0 < n by omega) (by omega) (by omega)
    have h1 := rel_scr h (scr_W a2)
    obtain ⟨r, μ2, c1, c2, c3, c4⟩ := s_isTrue h1.2.2.1 h1.2.2.2.1 (by omega) (by omega) hx.2 a3
    obtain ⟨r', ν2, d1, d2, d3, d4, d5⟩ := s_holdsNow hW hS (by omega) (by omega) hx.2 b2 b3
    have hr : r = r' := by
      rcases c3 with rfl | rfl
      · rcases d4 with rfl | rfl
        · rfl
        · have := c4.mpr (d5.mp rfl); omega
      · have := d5.mpr (c4.mp rfl); omega
    subst hr
    rw [a1, cV_t, c1, cI_t, b1, cV_t, d1, cI_t]
    have hr : Rel μ2 ν2 := rel_scrR (rel_scr h1 (fun c hc => c2 c (by unfold scr at hc; omega) (by unfold scr at hc; omega))) (frW_R d2)
    rcases c3 with rfl | rfl
    · rw [if_pos rfl, if_pos rfl]
      exact ⟨0, μ2, ν2, rfl, rfl, hr⟩
    · rw [if_neg ten, if_neg ten]
      exact ⟨1, μ2, ν2, rfl, rfl, hr⟩
  · rw [if_neg h3, if_neg (show ¬ (0 ≤ x3 ∧ x3 ≤ (wN n : Int) - 1) by omega), if_pos rfl]
    exact ⟨-1, μ, ν, rfl, rfl, h⟩
