/-! of -/
theorem cnt_congr {P Q : Nat → Bool} : ∀ n, (∀ k, k < n → P k = Q k) → cnt P n = cnt Q n
  | 0, _ => rfl
  | n + 1, h => by
    have h1 := cnt_congr n (fun k hk => h k (by omega))
    unfold cnt
    rw [h1, h n (by omega)]
theorem cnt_add (P : Nat → Bool) (m : Nat) : ∀ n, cnt P (m + n) = cnt P m + cnt (fun k => P (m + k)) n
  | 0 => rfl
  | n + 1 => by
    have h1 := cnt_add P m n
    show cnt P (m + n) + (if P (m + n) then 1 else 0) = cnt P m + (cnt (fun k => P (m + k)) n + (if P (m + n) then 1 else 0))
    omega
theorem s_pop24 {m : Int} (hm : 0 ≤ m ∧ m < 16777216) (μ : Mem) : f_J6_bitCount_0f7a4 [vI m] μ = some (some (vI (cnt (tb m) 24 : Int)), μ) := by
  obtain ⟨x, rfl⟩ : ∃ x : Nat, m = (x : Int) := ⟨m.toNat, by omega⟩
  have hx : x = V3 (x / 65536) (x / 256 % 256) (x % 256) := by unfold V3; omega
  have ha : x % 256 < 256 := by omega
  have hb : x / 256 % 256 < 256 := by omega
  have hc : x / 65536 < 256 := by omega
  have h := bc_nat ha hb hc μ
  rw [← hx] at h
  rw [h]
  have ht : ∀ k, tb (x : Int) k = x.testBit k := fun k => by rw [tb_nat (by omega)]; rfl
  have e1 : x = 2 ^ 8 * (x / 256) + x % 256 := by omega
  have e2 : x / 256 = 2 ^ 8 * (x / 65536) + x / 256 % 256 := by omega
  have t1 : ∀ k, k < 8 → x.testBit k = (x % 256).testBit k := fun k hk => by
    conv => lhs; rw [e1]
    rw [Nat.testBit_two_pow_mul_add _ ha, if_pos hk]
  have t2 : ∀ k, x.testBit (8 + k) = (x / 256).testBit k := fun k => by
    conv => lhs; rw [e1]
    rw [Nat.testBit_two_pow_mul_add _ ha, if_neg (by omega), show 8 + k - 8 = k by omega]
  have t3 : ∀ k, k < 8 → (x / 256).testBit k = (x / 256 % 256).testBit k := fun k hk => by
    conv => lhs; rw [e2]
    rw [Nat.testBit_two_pow_mul_add _ hb, if_pos hk]
  have t4 : ∀ k, (x / 256).testBit (8 + k) = (x / 65536).testBit k := fun k => by
    conv => lhs; rw [e2]
    rw [Nat.testBit_two_pow_mul_add _ hb, if_neg (by omega), show 8 + k - 8 = k by omega]
  have c1 : cnt (tb (x : Int)) 24 = cnt (tb (x : Int)) 8 + cnt (fun k => tb (x : Int) (8 + k)) 16 := cnt_add _ 8 16
  have c2 : cnt (fun k => tb (x : Int) (8 + k)) 16 = cnt (fun k => tb (x : Int) (8 + k)) 8 + cnt (fun k => tb (x : Int) (8 + (8 + k))) 8 := cnt_add _ 8 8
  have d1 : cnt (tb (x : Int)) 8 = cnt (Nat.testBit (x % 256)) 8 := cnt_congr 8 (fun k hk => by rw [ht, t1 k hk])
  have d2 : cnt (fun k => tb (x : Int) (8 + k)) 8 = cnt (Nat.testBit (x / 256 % 256)) 8 := cnt_congr 8 (fun k hk => by rw [ht, t2, t3 k hk])
  have d3 : cnt (fun k => tb (x : Int) (8 + (8 + k))) 8 = cnt (Nat.testBit (x / 65536)) 8 := cnt_congr 8 (fun k hk => by rw [ht, t2, t4])
  rw [c1, c2, d1, d2, d3, Nat.add_assoc]
theorem s_bits4 {m : Int} {μ : Mem} : ∀ (j i : Nat), i + j = 24 → e_X12_bits_4 m (cnt (tb m) i : Int) i μ = some (some (vI (cnt (tb m) 24 : Int)), μ)
  | 0, i, hj => by
    obtain rfl : i = 24 := by omega
    rw [q_X12_bits_4, if_neg (by omega)]
  | j + 1, i, hj => by
    have hc := cnt_le (tb m) i
    have hs : cnt (tb m) (i + 1) = cnt (tb m) i + (if tb m i then 1 else 0) := rfl
    rw [q_X12_bits_4, if_pos (by omega), bit_at (by omega), wr_eq (x := (i : Int) + 1) (by omega) (by omega), show (i : Int) + 1 = ((i + 1 : Nat) : Int) by omega]
    have e : wr ((cnt (tb m) i : Int) + (if tb m i then 1 else 0)) = (cnt (tb m) (i + 1) : Int) := by
      rw [hs]
      split
      · rw [wr_eq (by omega) (by omega)]; omega
      · rw [wr_eq (by omega) (by omega)]; omega
    rw [e]
    exact s_bits4 j (i + 1) (by omega)
theorem s_bits (m : Int) (μ : Mem) : f_X12_bits [vI m] μ = some (some (vI (cnt (tb m) 24 : Int)), μ) := by
  rw [q_X12_bits]
  exact s_bits4 24 0 (by omega)
theorem MK.rng {m : Int} {P : Nat → Prop} (h : MK m P) (hP : ∀ k, P k → k < 24) : 0 ≤ m ∧ m < 16777216 := tb_lo h.1 (n := 24) (by omega) (fun k h1 h2 => by
  cases q : tb m k
  · rfl
  · have := hP k ((h.2 k h2).mp q)
    omega)
theorem sim_of (μ ν : Mem) (x1 x2 : Int) (_ : in32 x1) (_ : in32 x2) (h : Rel μ ν) : Sm Rel f_X11_of f_X12_of [vI x1, vI x2] μ ν := by
  unfold Sm
  have hS := h.2.2.2.1
  have hP := h.2.2.2.2.1
  have hL := h.2.2.2.2.2.2.2.1
  have h24 := hS.2.1
  rw [q_X11_of, q_X12_of]
  by_cases hx : ¬ (0 ≤ x1 ∧ x1 < ν 0 5)
  · rw [get_f hS hx, cR_n, isS_f hS hx, cI_t, if_pos rfl]
    exact ⟨-1, μ, ν, rfl, rfl, h⟩
  replace hx := Decidable.not_not.mp hx
  obtain ⟨e, rfl⟩ : ∃ e : Nat, x1 = (e : Int) := ⟨x1.toNat, by omega⟩
  have hs := hS.2.2.2.2.2.2.2.2 e hx.2
  obtain ⟨o1, o2, s1, s2, s3, s4, s5, s6, s7, s8, s9, s10, s11⟩ := hs
  have l0 := sL_len hS hx.2
  have l1 : ((sL ν e 1).length : Int) = ν 6 (2 * e + 1) := by
    have := o2.1
    unfold sL
    rw [sg_len]
    omega
  rw [get_t hS hx, cR_s, isS_t hS hx, cI_t, if_neg ten, s_in, cI_t, show ((e : Int)).toNat = e by omega, wr_eq (x := 2 * (e : Int)) (by omega) (by omega), wr_eq (x := 2 * (e : Int) + 1) (by omega) (by omega), show (2 * (e : Int)).toNat = 2 * e by omega, show (2 * (e : Int) + 1).toNat = 2 * e + 1 by omega]
  by_cases hr : ¬ (0 ≤ x2 ∧ x2 ≤ 8)
  · rw [if_neg hr, if_pos rfl, if_neg (show ¬ x2 = 0 by omega), if_neg (show ¬ x2 = 1 by omega), if_neg (show ¬ x2 = 2 by omega), if_neg (show ¬ x2 = 3 by omega), if_neg (show ¬ x2 = 4 by omega), if_neg (show ¬ x2 = 5 by omega), if_neg (show ¬ x2 = 6 by omega), if_neg (show ¬ x2 = 7 by omega), if_neg (show ¬ x2 = 8 by omega)]
    exact ⟨-1, μ, ν, rfl, rfl, h⟩
  replace hr := Decidable.not_not.mp hr
  rw [if_pos hr, if_neg ten]
  by_cases d0 : x2 = 0
  · rw [if_pos d0, if_pos d0, gk (lnR 7) 24 rfl (by omega) (by omega), s3]
    exact ⟨_, μ, ν, rfl, rfl, h⟩
  rw [if_neg d0, if_neg d0]
  by_cases d1 : x2 = 1
  · rw [if_pos d1, if_pos d1, gk (lnR 8) 24 rfl (by omega) (by omega), s6]
    exact ⟨_, μ, ν, rfl, rfl, h⟩
  rw [if_neg d1, if_neg d1]
  by_cases d2 : x2 = 2
  · rw [if_pos d2, if_pos d2, gk (lnR 9) 24 rfl (by omega) (by omega), s7]
    exact ⟨_, μ, ν, rfl, rfl, h⟩
  rw [if_neg d2, if_neg d2]
  by_cases d3 : x2 = 3
  · rw [if_pos d3, if_pos d3, gk (lnR 6) 48 rfl (by omega) (by omega), show 31 + 5 * e + 1 = 32 + 5 * e by omega, s1.1, l0]
    exact ⟨_, μ, ν, rfl, rfl, h⟩
  rw [if_neg d3, if_neg d3]
  by_cases d4 : x2 = 4
  · rw [if_pos d4, if_pos d4, gk (lnR 6) 48 rfl (by omega) (by omega), show 31 + 5 * e + 3 = 34 + 5 * e by omega, s2.1, l1]
    exact ⟨_, μ, ν, rfl, rfl, h⟩
  rw [if_neg d4, if_neg d4]
  by_cases d5 : x2 = 5
  · rw [if_pos d5, if_pos d5, gk (lnR 10) 24 rfl (by omega) (by omega), gk (lnR 11) 24 rfl (by omega) (by omega)]
    by_cases q : ν 7 e < 2
    · rw [if_pos (s8 q).1, (s8 q).2.1]
      exact ⟨_, μ, ν, rfl, rfl, h⟩
    · have w := s9 (by omega)
      rw [if_neg (by omega), w.2.2.2.2.2]
      exact ⟨_, μ, ν, rfl, rfl, h⟩
  rw [if_neg d5, if_neg d5]
  by_cases d6 : x2 = 6
  · rw [if_pos d6, if_pos d6, gk (lnR 7) 24 rfl (by omega) (by omega), gk (lnR 12) 24 rfl (by omega) (by omega), s3]
    by_cases q : ν 7 e = 3
    · rw [if_pos q, if_pos q, s10 q]
      exact ⟨_, μ, ν, rfl, rfl, h⟩
    · rw [if_neg q, if_neg q]
      exact ⟨_, μ, ν, rfl, rfl, h⟩
  rw [if_neg d6, if_neg d6]
  by_cases d7 : x2 = 7
  · obtain ⟨u, u1, u2⟩ := s_underOf hS hP hL hx.2
    obtain ⟨l, l1, l2⟩ := s_leansOf hS hP hx.2
    rw [if_pos d7, if_pos d7, u1, cI_t, l1, cI_t, s_bits, cI_t, s_pop24 (u2.rng (fun k q => by have := TG_lt hS hP q; omega)), cI_t, u2.eq l2]
    exact ⟨_, μ, ν, rfl, rfl, h⟩
  rw [if_neg d7, if_neg d7, if_pos (show x2 = 8 by omega)]
  obtain ⟨u, u1, u2⟩ := s_overOf hS hP hL hx.2
  obtain ⟨l, l1, l2⟩ := s_leaning hS hP hx.2
  rw [u1, cI_t, l1, cI_t, s_bits, cI_t, s_pop24 (u2.rng (fun k q => by have := (TG_7 q).1; omega)), cI_t, u2.eq l2]
  exact ⟨_, μ, ν, rfl, rfl, h⟩
