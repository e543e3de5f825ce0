/-! worlds, denied -/
section GR
variable {μ0 μ ν : Mem} {n num : Nat}
theorem s_ground2 (hW : RelW μ0 ν) (hS : RelS μ0 ν) (hn : 0 < n) (hn3 : n ≤ 3) (hI : InC μ0 ν n num) {N : Nat} (hN : ν 0 5 = (N : Int)) : ∀ (j i : Nat) (μ : Mem) (o : Option AV), i + j = N → (∀ c, c ≠ 778 → c ≠ 779 → μ c = μ0 c) → (∀ e : Nat, e < i → ν 7 e = 0 → hdW ν n num e) →
    ∃ r μ', e_X10_isGrounded_2 i o μ = some (some (vI r), μ') ∧ (∀ c, c ≠ 778 → c ≠ 779 → μ' c = μ0 c) ∧ (r = 0 ∨ r = 1) ∧ (r = 1 ↔ gdW ν n num)
  | 0, i, μ, o, hj, hf, hE => by
    obtain rfl : i = N := by omega
    have hSm : RelS μ ν := hS.kept (hf 23 (by omega) (by omega)) (fun c _ _ => hf c (by omega) (by omega))
    rw [q_X10_isGrounded_2, hSm.2.2.1, hN, if_neg (by omega), gz_1]
    exact ⟨1, μ, rfl, hf, Or.inr rfl, ⟨fun _ e he h0 => hE e (by omega) h0, fun _ => rfl⟩⟩
  | j + 1, i, μ, o, hj, hf, hE => by
    have h24 := hS.2.1
    have hSm : RelS μ ν := hS.kept (hf 23 (by omega) (by omega)) (fun c _ _ => hf c (by omega) (by omega))
    have hWm : RelW μ ν := hW.kept (fun c _ _ => hf c (by omega) (by omega))
    have hIm : InC μ ν n num := by
      refine ⟨by unfold BA at *; rw [hf 771 (by omega) (by omega), hf 772 (by omega) (by omega)]; exact hI.1, fun u hu a b ha hb q => ?_⟩
      have := hW.2.1
      rw [hf (774 + u) (by omega) (by omega)]
      exact hI.2 u hu a b ha hb q
    have hi : (i : Int) < ν 0 5 := by omega
    rw [q_X10_isGrounded_2, hSm.2.2.1, if_pos hi, get_t hSm ⟨by omega, hi⟩, cR_s, show ((i : Int)).toNat = i by omega, (hSm.2.2.2.2.2.2.2.2 i hi).2.2.2.2.1, wr_eq (x := (i : Int) + 1) (by omega) (by omega), show (i : Int) + 1 = ((i + 1 : Nat) : Int) by omega]
    by_cases q : ν 7 i = 0
    · obtain ⟨r, μ1, a1, a2, a3, a4⟩ := s_isTrue hWm hSm hn hn3 hi hIm
      have F1 : ∀ c, c ≠ 778 → c ≠ 779 → μ1 c = μ0 c := fun c p q => by rw [a2 c p q]; exact hf c p q
      rw [if_pos q, a1, cI_t, gz_0]
      rcases a3 with rfl | rfl
      · rw [if_pos rfl]
        exact ⟨0, μ1, rfl, F1, Or.inl rfl, ⟨fun z => by omega, fun z => by have := a4.mpr (z i hi q); omega⟩⟩
      · rw [if_neg ten]
        refine s_ground2 hW hS hn hn3 hI hN j (i + 1) μ1 _ (by omega) F1 (fun e he h0 => ?_)
        by_cases z : e = i
        · subst z; exact a4.mp rfl
        · exact hE e (by omega) h0
    · rw [if_neg q]
      refine s_ground2 hW hS hn hn3 hI hN j (i + 1) μ _ (by omega) hf (fun e he h0 => ?_)
      by_cases z : e = i
      · subst z; exact absurd h0 q
      · exact hE e (by omega) h0
theorem s_allHold11 (hW : RelW μ ν) (hS : RelS μ ν) (hn : 0 < n) (hn3 : n ≤ 3) {N : Nat} (hN : ν 0 5 = (N : Int)) : ∀ (j i : Nat) (ν1 : Mem) (fl : Int) (o1 o2 : Option AV), i + j = N → FrW ν ν1 → InR ν1 ν n num → (fl = 0 ∨ fl = 1) → (fl = 1 ↔ ∀ e : Nat, e < i → ν 7 e = 0 → hdW ν n num e) →
    ∃ r ν', e_X12_allHold_11 o1 o2 fl i ν1 = some (some (vI r), ν') ∧ FrW ν ν' ∧ (r = 0 ∨ r = 1) ∧ (r = 1 ↔ gdW ν n num)
  | 0, i, ν1, fl, o1, o2, hj, hF, hI, hfl, hE => by
    obtain rfl : i = N := by omega
    rw [q_X12_allHold_11, (frW_M hF).2.2.1, hN, if_neg (by omega)]
    refine ⟨fl, ν1, ?_, hF, hfl, hE.trans ⟨fun h e he h0 => h e (by omega) h0, fun h e he h0 => h e (by omega) h0⟩⟩
    rcases hfl with rfl | rfl
    · exact gz_0
    · exact gz_1
  | j + 1, i, ν1, fl, o1, o2, hj, hF, hI, hfl, hE => by
    have h24 := hS.2.1
    have hi : (i : Int) < ν 0 5 := by omega
    rw [q_X12_allHold_11, (frW_M hF).2.2.1, if_pos hi]
    rcases hfl with rfl | rfl
    · rw [if_pos rfl, gz_0]
      exact ⟨0, ν1, rfl, hF, Or.inl rfl, ⟨fun z => by omega, fun z => hE.mpr (fun e he h0 => z e (by omega) h0)⟩⟩
    · rw [if_neg ten, gk (lnR 7) 24 rfl (by omega) (by omega), show ((i : Int)).toNat = i by omega, frM_c (frW_M hF) (c := 7) (by omega), wr_eq (x := (i : Int) + 1) (by omega) (by omega), show (i : Int) + 1 = ((i + 1 : Nat) : Int) by omega]
      by_cases q : ν 7 i = 0
      · obtain ⟨r, ν2, a1, a2, a3, a4, a5⟩ := s_holdsNow hW hS hn hn3 hi hF hI
        rw [if_pos q, a1, cI_t]
        rcases a4 with rfl | rfl
        · rw [if_pos rfl]
          exact s_allHold11 hW hS hn hn3 hN j (i + 1) ν2 0 _ _ (by omega) a2 a3 (Or.inl rfl) ⟨fun z => by omega, fun z => by have := a5.mpr (z i (by omega) q); omega⟩
        · rw [if_neg ten]
          refine s_allHold11 hW hS hn hn3 hN j (i + 1) ν2 1 _ _ (by omega) a2 a3 (Or.inr rfl) ⟨fun _ e he h0 => ?_, fun _ => rfl⟩
          by_cases z : e = i
          · subst z; exact a5.mp rfl
          · exact hE.mp rfl e (by omega) h0
      · rw [if_neg q]
        refine s_allHold11 hW hS hn hn3 hN j (i + 1) ν1 1 _ _ (by omega) hF hI (Or.inr rfl) ⟨fun _ e he h0 => ?_, fun _ => rfl⟩
        by_cases z : e = i
        · subst z; exact absurd h0 q
        · exact hE.mp rfl e (by omega) h0
theorem s_allHold {ν1 : Mem} (hW : RelW μ ν) (hS : RelS μ ν) (hn : 0 < n) (hn3 : n ≤ 3) (hnum : num < 2147483648) (hF : FrW ν ν1) : ∃ r ν', f_X12_allHold [vR 12 0, vI (n : Int), vI (num : Int)] ν1 = some (some (vI r), ν') ∧ FrW ν ν' ∧ (r = 0 ∨ r = 1) ∧ (r = 1 ↔ gdW ν n num) := by
  obtain ⟨ν2, b1, b2, b3⟩ := s_world (num := num) hW hF hn hn3 hnum
  obtain ⟨N, hN⟩ : ∃ N : Nat, ν 0 5 = (N : Int) := ⟨(ν 0 5).toNat, by have := hS.1; omega⟩
  rw [q_X12_allHold, b1, cV_t]
  exact s_allHold11 hW hS hn hn3 hN N 0 ν2 1 _ _ (by omega) b2 b3 (Or.inr rfl) ⟨fun _ e he => by omega, fun _ => rfl⟩
theorem s_entG (hW : RelW μ ν) (hS : RelS μ ν) (hn : 0 < n) (hn3 : n ≤ 3) (hnum : num < 2147483648) : ∃ r μ1 μ', f_X10_enter [vR 10 771, vI (n : Int), vI (num : Int)] μ = some (none, μ1) ∧ f_X10_isGrounded [vR 10 771] μ1 = some (some (vI r), μ') ∧ Fr μ μ' (fun c => 771 ≤ c ∧ c ≤ 779) ∧ InC μ' ν n num ∧ (r = 0 ∨ r = 1) ∧ (r = 1 ↔ gdW ν n num) := by
  obtain ⟨μ1, a1, a2, a3⟩ := s_enter (num := num) hW hn hn3 hnum
  obtain ⟨N, hN⟩ : ∃ N : Nat, ν 0 5 = (N : Int) := ⟨(ν 0 5).toNat, by have := hS.1; omega⟩
  have hW1 : RelW μ1 ν := hW.kept (fun c _ _ => a2 c (by omega))
  have hS1 : RelS μ1 ν := hS.kept (a2 23 (by omega)) (fun c _ _ => a2 c (by omega))
  obtain ⟨r, μ', b1, b2, b3, b4⟩ := s_ground2 hW1 hS1 hn hn3 a3 hN N 0 μ1 none (by omega) (fun _ _ _ => rfl) (fun e he => by omega)
  refine ⟨r, μ1, μ', a1, by rw [q_X10_isGrounded]; exact b1, fun c hc => by rw [b2 c (by omega) (by omega), a2 c hc], ⟨by unfold BA; rw [b2 771 (by omega) (by omega), b2 772 (by omega) (by omega)]; exact a3.1, fun u hu a b ha hb q => ?_⟩, b3, b4⟩
  have := hW.2.1
  rw [b2 (774 + u) (by omega) (by omega)]
  exact a3.2 u hu a b ha hb q
end GR
/-- the reference has weighed the small WORLDS -/
theorem wZ_01 {r : Int} (h : r = 0 ∨ r = 1) : wZ r = r := by
  rcases h with rfl | rfl <;> decide
theorem s_weighs27 {μ ν : Mem} (hW : RelW μ ν) (hS : RelS μ ν) : ∀ (j i : Nat) (ν1 : Mem), i + j = 32 → FrM ν ν1 → ν1 0 15 = ν 0 15 → ν1 0 16 = ν 0 16 → (∀ k, k < i → (ν1 43 k = 1 ∨ ν1 43 k = 0) ∧ (ν1 43 k = 1 ↔ gdW ν 2 k)) → ∃ ν', e_X12_weighs_27 i ν1 = some (none, ν') ∧ (∀ c, ¬ (39 ≤ c ∧ c ≤ 41) → c ≠ 43 → c ≠ 0 → ν' c = ν1 c) ∧ (∀ k, k ≠ 63 → k ≠ 64 → ν' 0 k = ν1 0 k) ∧ ∀ k, k < 32 → (ν' 43 k = 1 ∨ ν' 43 k = 0) ∧ (ν' 43 k = 1 ↔ gdW ν 2 k)
  | 0, i, ν1, hj, hM, h15, h16, hE => by
    obtain rfl : i = 32 := by omega
    rw [q_X12_weighs_27, if_neg (by omega)]
    exact ⟨ν1, rfl, fun _ _ _ _ => rfl, fun _ _ _ => rfl, hE⟩
  | j + 1, i, ν1, hj, hM, h15, h16, hE => by
    obtain ⟨r, ν2, a1, a2, a3, a4⟩ := s_allHold (n := 2) (num := i) (hW.keptR hM) (hS.keptR hM h15 h16) (by omega) (by omega) (by omega) (frW_rf (ν := ν1))
    rw [frM_gdW hM] at a4
    have a1' : f_X12_allHold [vR 12 0, vI 2, vI (i : Int)] ν1 = _ := a1
    have hM2 : FrM ν1 ν2 := frW_M a2
    rw [q_X12_weighs_27, if_pos (by omega), a1', cI_t, gk (lnR 43) 32 rfl (by omega) (by omega), wZ_01 a3, show ((i : Int)).toNat = i by omega, wr_eq (x := (i : Int) + 1) (by omega) (by omega), show (i : Int) + 1 = ((i + 1 : Nat) : Int) by omega]
    obtain ⟨ν', b1, b2, b3, b4⟩ := s_weighs27 hW hS j (i + 1) (up ν2 43 i r) (by omega) ⟨fun c a b => by rw [up_cell (by omega), hM2.1 c a b, hM.1 c a b], by rw [up_cell (by omega), hM2.2.1, hM.2.1], by rw [up_cell (by omega), hM2.2.2.1, hM.2.2.1], by rw [up_cell (by omega), hM2.2.2.2, hM.2.2.2]⟩ (by rw [up_cell (by omega), a2.2 15 (by omega) (by omega), h15]) (by rw [up_cell (by omega), a2.2 16 (by omega) (by omega), h16]) (fun k hk => by
      rw [up_if]
      by_cases z : k = i
      · rw [if_pos z, z]
        exact ⟨by omega, a4⟩
      · rw [if_neg z, a2.1 43 (by omega) (by omega)]
        exact hE k (by omega))
    exact ⟨ν', b1, fun c p q w => by rw [b2 c p q w, up_cell q, a2.1 c p w], fun k p q => by rw [b3 k p q, up_cell (by omega), a2.2 k p q], b4⟩
theorem s_weighs {μ ν : Mem} (h : Rel μ ν) : ∃ ν', f_X12_weighs [vR 12 0] ν = some (none, ν') ∧ Rel μ ν' ∧ ν' 0 68 = 1 ∧ FrM ν ν' := by
  obtain ⟨hT, hH, hW, hS, hP, hI, hD, hL, hG, hC⟩ := id h
  rw [q_X12_weighs]
  by_cases q : ν 0 68 = 0
  · have M0 : FrM ν (up ν 0 68 1) := frM_up0 (by omega)
    obtain ⟨r, ν1, a1, a2, a3, a4⟩ := s_allHold (n := 1) (num := 0) (hW.keptR M0) (hS.keptR M0 rfl rfl) (by omega) (by omega) (by omega) (frW_rf (ν := up ν 0 68 1))
    rw [frM_gdW M0] at a4
    have a1' : f_X12_allHold [vR 12 0, vI 1, vI 0] (up ν 0 68 1) = _ := a1
    have M1 : FrM ν ν1 := ⟨fun c a b => by rw [(frW_M a2).1 c a b, M0.1 c a b], by rw [(frW_M a2).2.1, M0.2.1], by rw [(frW_M a2).2.2.1, M0.2.2.1], by rw [(frW_M a2).2.2.2, M0.2.2.2]⟩
    have z0 : ∀ k, k ≠ 63 → k ≠ 64 → k ≠ 68 → up ν1 42 0 r 0 k = ν 0 k := fun k p1 p2 p3 => by rw [up_cell (by omega), a2.2 k p1 p2, up_slot p3]
    obtain ⟨ν', b1, b2, b3, b4⟩ := s_weighs27 hW hS 32 0 (up ν1 42 0 r) (by omega) ⟨fun c a b => by rw [up_cell (by omega)]; exact M1.1 c a b, by rw [up_cell (by omega)]; exact M1.2.1, by rw [up_cell (by omega)]; exact M1.2.2.1, by rw [up_cell (by omega)]; exact M1.2.2.2⟩ (z0 15 (by omega) (by omega) (by omega)) (z0 16 (by omega) (by omega) (by omega)) (fun k hk => by omega)
    have b1' : e_X12_weighs_27 0 (up ν1 42 0 r) = _ := b1
    have cc : ∀ c, ¬ (39 ≤ c ∧ c ≤ 43) → c ≠ 0 → ν' c = ν c := fun c p1 p2 => by rw [b2 c (by omega) (by omega) p2, up_cell (by omega), a2.1 c (by omega) p2, up_cell p2]
    have k0 : ∀ k, k ≠ 63 → k ≠ 64 → k ≠ 68 → ν' 0 k = ν 0 k := fun k p1 p2 p3 => by rw [b3 k p1 p2]; exact z0 k p1 p2 p3
    have M : FrM ν ν' := ⟨fun c a b => cc c (by omega) (by omega), k0 0 (by omega) (by omega) (by omega), k0 5 (by omega) (by omega) (by omega), k0 23 (by omega) (by omega) (by omega)⟩
    have e68 : ν' 0 68 = 1 := by rw [b3 68 (by omega) (by omega), up_cell (by omega), a2.2 68 (by omega) (by omega), up_same]
    have e42 : ν' 42 0 = r := by rw [b2 42 (by omega) (by omega) (by omega), up_same]
    refine ⟨ν', ?_, ⟨hT.keptR (k0 25 (by omega) (by omega) (by omega)) (k0 30 (by omega) (by omega) (by omega)) (cc 18 (by omega) (by omega)), hH.keptR (k0 21 (by omega) (by omega) (by omega)) (k0 22 (by omega) (by omega) (by omega)), hW.keptR M, hS.keptR M (k0 15 (by omega) (by omega) (by omega)) (k0 16 (by omega) (by omega) (by omega)), hP.keptR M (k0 16 (by omega) (by omega) (by omega)), hI.keptR M (k0 45 (by omega) (by omega) (by omega)) (k0 46 (by omega) (by omega) (by omega)) (cc 26 (by omega) (by omega)) (cc 27 (by omega) (by omega)) (cc 28 (by omega) (by omega)), hD.keptR M (k0 16 (by omega) (by omega) (by omega)) (k0 22 (by omega) (by omega) (by omega)) (cc 17 (by omega) (by omega)), hL.keptR M (k0 15 (by omega) (by omega) (by omega)), Or.inr ⟨e68, ?_, ?_, ?_⟩, hC.keptR (cc 51 (by omega) (by omega)) (cc 52 (by omega) (by omega)) (cc 53 (by omega) (by omega))⟩, e68, M⟩
    · rw [if_pos q, gz_1, a1', cI_t, gk (lnR 42) 1 rfl (by omega) (by omega), wZ_01 a3, show ((0 : Int)).toNat = 0 from rfl, b1']
    · rw [e42]; omega
    · rw [e42, frM_gdW M]; exact a4
    · rw [frM_gdW M]; exact b4
  · rw [if_neg q]
    refine ⟨ν, rfl, h, ?_, ⟨fun _ _ _ => rfl, rfl, rfl, rfl⟩⟩
    rcases hG with z | ⟨z, _⟩
    · exact absurd z q
    · exact z
theorem s_isGood {μ ν : Mem} (h : Rel μ ν) (h68 : ν 0 68 = 1) {n k : Nat} (hn : n = 1 ∨ n = 2) (hk : k < wN n) : ∃ g, f_X12_isGood [vR 12 0, vI (n : Int), vI (k : Int)] ν = some (some (vI g), ν) ∧ (g = 0 ∨ g = 1) ∧ (g = 1 ↔ gdW ν n k) := by
  rcases h.2.2.2.2.2.2.2.2.1 with z | ⟨_, g1, g2, g3⟩
  · omega
  rw [q_X12_isGood]
  rcases hn with rfl | rfl
  · obtain rfl : k = 0 := by have : wN 1 = 1 := rfl; omega
    refine ⟨ν 42 0, ?_, by omega, g2⟩
    rw [if_pos (by decide), gk (lnR 42) 1 rfl (by omega) (by omega)]
    show gz (ν 42 0) (some (some (vI (ν 42 0)), ν)) = _
    rcases g1 with g1 | g1
    · rw [g1, gz_1]
    · rw [g1, gz_0]
  · have hk32 : k < 32 := hk
    obtain ⟨c1, c2⟩ := g3 k hk32
    refine ⟨ν 43 k, ?_, by omega, c2⟩
    rw [if_neg (by decide), gk (lnR 43) 32 rfl (by omega) (by omega), show ((k : Int)).toNat = k by omega]
    rcases c1 with c1 | c1
    · rw [c1, gz_1]
    · rw [c1, gz_0]
/-- the first one of the first N that has a property, or -4 -/
def fstI (P : Nat → Bool) : Nat → Int
  | 0 => -4
  | n + 1 => if fstI P n = -4 then (if P n then (n : Int) else -4) else fstI P n
theorem fstI_none {P : Nat → Bool} : ∀ n, (∀ k, k < n → P k = false) → fstI P n = -4
  | 0, _ => rfl
  | n + 1, h => by
    unfold fstI
    rw [fstI_none n (fun k hk => h k (by omega)), if_pos rfl, h n (by omega)]
    rfl
theorem fstI_at {P : Nat → Bool} {k : Nat} (hk : P k = true) (h : ∀ q, q < k → P q = false) : ∀ n, k < n → fstI P n = (k : Int)
  | 0, q => by omega
  | n + 1, q => by
    unfold fstI
    by_cases z : k = n
    · subst z
      rw [fstI_none k h, if_pos rfl, if_pos hk]
    · rw [fstI_at hk h n (by omega), if_neg (by omega)]
noncomputable def GB (ν : Mem) (n k : Nat) : Bool := @decide (gdW ν n k) (Classical.propDecidable _)
theorem GB_t {ν : Mem} {n k : Nat} {g : Int} (h0 : g = 0 ∨ g = 1) (h : g = 1 ↔ gdW ν n k) : (g = 0 → GB ν n k = false) ∧ (g = 1 → GB ν n k = true) := by
  unfold GB
  refine ⟨fun q => @decide_eq_false _ (Classical.propDecidable _) (fun z => ?_), fun q => @decide_eq_true _ (Classical.propDecidable _) (h.mp q)⟩
  have := h.mpr z
  omega
theorem s_count4 {μ0 ν : Mem} (h : Rel μ0 ν) {n : Nat} (hn : n = 1 ∨ n = 2) : ∀ (j k : Nat) (μ : Mem), k + j = wN n → Fr μ0 μ scr → ∃ μ', e_X10_countGrounded_4 n (cnt (GB ν n) k : Int) k μ = some (some (vI (cnt (GB ν n) (wN n) : Int)), μ') ∧ Fr μ0 μ' scr
  | 0, k, μ, hj, hF => by
    obtain rfl : k = wN n := by omega
    rw [q_X10_countGrounded_4, s_howMany (by omega) (by omega), cI_t, if_neg (by omega)]
    exact ⟨μ, rfl, hF⟩
  | j + 1, k, μ, hj, hF => by
    have hr := rel_scr h hF
    have hw := wN_le (n := n) (by omega)
    have hc := cnt_le (GB ν n) k
    obtain ⟨r, μ1, μ2, a1, a2, a3, a4, a5, a6⟩ := s_entG (num := k) hr.2.2.1 hr.2.2.2.1 (n := n) (by omega) (by omega) (by omega)
    obtain ⟨b1, b2⟩ := GB_t a5 a6
    have F2 : Fr μ0 μ2 scr := hF.trans (scr_W a3)
    rw [q_X10_countGrounded_4, s_howMany (by omega) (by omega), cI_t, if_pos (by omega), a1, cV_t, a2, cI_t, wr_eq (x := (k : Int) + 1) (by omega) (by omega), show (k : Int) + 1 = ((k + 1 : Nat) : Int) by omega]
    have key := s_count4 h hn j (k + 1) μ2 (by omega) F2
    have c1 : cnt (GB ν n) (k + 1) = cnt (GB ν n) k + (if GB ν n k then 1 else 0) := rfl
    rw [c1] at key
    rcases a5 with rfl | rfl
    · rw [b1 rfl] at key
      rw [if_pos rfl]
      exact key
    · rw [b2 rfl] at key
      rw [if_neg ten, wr_eq (x := (cnt (GB ν n) k : Int) + 1) (by omega) (by omega)]
      exact key
theorem s_least2 {μ0 ν : Mem} (h : Rel μ0 ν) {n : Nat} (hn : n = 1 ∨ n = 2) : ∀ (j k : Nat) (μ : Mem), k + j = wN n → Fr μ0 μ scr → (∀ q, q < k → GB ν n q = false) → ∃ μ', e_X10_leastGroundedN_2 n k μ = some (some (vI (fstI (GB ν n) (wN n))), μ') ∧ Fr μ0 μ' scr
  | 0, k, μ, hj, hF, hE => by
    obtain rfl : k = wN n := by omega
    rw [q_X10_leastGroundedN_2, s_howMany (by omega) (by omega), cI_t, if_neg (by omega), fstI_none _ hE]
    exact ⟨μ, rfl, hF⟩
  | j + 1, k, μ, hj, hF, hE => by
    have hr := rel_scr h hF
    have hw := wN_le (n := n) (by omega)
    obtain ⟨r, μ1, μ2, a1, a2, a3, a4, a5, a6⟩ := s_entG (num := k) hr.2.2.1 hr.2.2.2.1 (n := n) (by omega) (by omega) (by omega)
    obtain ⟨b1, b2⟩ := GB_t a5 a6
    have F2 : Fr μ0 μ2 scr := hF.trans (scr_W a3)
    rw [q_X10_leastGroundedN_2, s_howMany (by omega) (by omega), cI_t, if_pos (by omega), a1, cV_t, a2, cI_t, wr_eq (x := (k : Int) + 1) (by omega) (by omega), show (k : Int) + 1 = ((k + 1 : Nat) : Int) by omega]
    rcases a5 with rfl | rfl
    · rw [if_pos rfl]
      refine s_least2 h hn j (k + 1) μ2 (by omega) F2 (fun q hq => ?_)
      by_cases z : q = k
      · subst z; exact b1 rfl
      · exact hE q (by omega)
    · rw [if_neg ten, fstI_at (b2 rfl) hE _ (by omega)]
      exact ⟨μ2, rfl, F2⟩
theorem s_worlds37 {μ ν : Mem} (h : Rel μ ν) (h68 : ν 0 68 = 1) {n : Nat} (hn : n = 1 ∨ n = 2) (v2 : Int) : ∀ (j k : Nat), k + j = wN n → e_X12_worlds_37 n v2 (cnt (GB ν n) k : Int) (fstI (GB ν n) k) k ν = some (some (vI (if v2 = 0 then (cnt (GB ν n) (wN n) : Int) else fstI (GB ν n) (wN n))), ν)
  | 0, k, hj => by
    obtain rfl : k = wN n := by omega
    rw [q_X12_worlds_37, s_worldsOf (by omega) (by omega), cI_t, if_neg (by omega)]
    split <;> rfl
  | j + 1, k, hj => by
    have hw := wN_le (n := n) (by omega)
    have hc := cnt_le (GB ν n) k
    obtain ⟨g, a1, a2, a3⟩ := s_isGood h h68 hn (show k < wN n by omega)
    obtain ⟨b1, b2⟩ := GB_t a2 a3
    have key := s_worlds37 h h68 hn v2 j (k + 1) (by omega)
    rw [q_X12_worlds_37, s_worldsOf (by omega) (by omega), cI_t, if_pos (by omega), a1, cI_t, a1, cI_t, cI_t, wr_eq (x := (k : Int) + 1) (by omega) (by omega), show (k : Int) + 1 = ((k + 1 : Nat) : Int) by omega]
    have c1 : cnt (GB ν n) (k + 1) = cnt (GB ν n) k + (if GB ν n k then 1 else 0) := rfl
    have c2 : fstI (GB ν n) (k + 1) = if fstI (GB ν n) k = -4 then (if GB ν n k then (k : Int) else -4) else fstI (GB ν n) k := rfl
    rw [c1, c2] at key
    rcases a2 with rfl | rfl
    · rw [b1 rfl] at key
      rw [if_pos rfl, if_pos rfl, wr_eq (x := (cnt (GB ν n) k : Int) + 0) (by omega) (by omega)]
      have e1 : (if fstI (GB ν n) k = -4 then (if false = true then (k : Int) else -4) else fstI (GB ν n) k) = fstI (GB ν n) k := by
        split
        · rename_i z; rw [z]; rfl
        · rfl
      rw [e1] at key
      exact key
    · rw [b2 rfl] at key
      rw [if_neg ten, if_neg ten, wr_eq (x := (cnt (GB ν n) k : Int) + 1) (by omega) (by omega)]
      by_cases z : fstI (GB ν n) k = -4
      · rw [if_pos z] at key ⊢
        exact key
      · rw [if_neg z] at key ⊢
        exact key
theorem sim_worlds (μ ν : Mem) (x1 x2 : Int) (_ : in32 x1) (_ : in32 x2) (h : Rel μ ν) : Sm Rel f_X11_worlds f_X12_worlds [vI x1, vI x2] μ ν := by
  unfold Sm
  rw [q_X11_worlds, q_X12_worlds, s_in, cI_t]
  by_cases h1 : ¬ (1 ≤ x1 ∧ x1 ≤ 2)
  · rw [if_neg h1, if_pos rfl]
    refine ⟨-1, μ, ν, ?_, rfl, h⟩
    by_cases q : x1 < 1
    · rw [if_pos q]
    · rw [if_neg q, if_neg (show ¬ x1 ≤ 2 by omega)]
  replace h1 := Decidable.not_not.mp h1
  rw [if_pos h1, if_neg ten, if_neg (show ¬ x1 < 1 by omega), if_pos h1.2, s_in, cI_t]
  by_cases h2 : ¬ (0 ≤ x2 ∧ x2 ≤ 1)
  · rw [if_neg h2, if_pos rfl]
    refine ⟨-1, μ, ν, ?_, rfl, h⟩
    by_cases q : x2 < 0
    · rw [if_pos q]
    · rw [if_neg q, if_neg (show ¬ x2 ≤ 1 by omega)]
  replace h2 := Decidable.not_not.mp h2
  obtain ⟨n, rfl⟩ : ∃ n : Nat, x1 = (n : Int) := ⟨x1.toNat, by omega⟩
  have hn : n = 1 ∨ n = 2 := by omega
  obtain ⟨ν', a1, a2, a3, a4⟩ := s_weighs h
  have k37 := s_worlds37 a2 a3 hn x2 (wN n) 0 (by omega)
  have k37' : e_X12_worlds_37 n x2 0 (-4) 0 ν' = _ := k37
  rw [if_pos h2, if_neg ten, if_neg (show ¬ x2 < 0 by omega), if_pos h2.2, a1, cV_t, k37']
  by_cases q : x2 = 0
  · rw [if_pos q, if_pos q]
    obtain ⟨μ', b1, b2⟩ := s_count4 a2 hn (wN n) 0 μ (by omega) Fr.rf
    have b1' : e_X10_countGrounded_4 n 0 0 μ = _ := b1
    rw [q_X10_countGrounded, b1', cI_t]
    exact ⟨_, _, _, rfl, rfl, rel_scr a2 b2⟩
  · rw [if_neg q, if_neg q]
    obtain ⟨μ', b1, b2⟩ := s_least2 a2 hn (wN n) 0 μ (by omega) Fr.rf (fun q hq => by omega)
    have b1' : e_X10_leastGroundedN_2 n 0 μ = _ := b1
    rw [q_X10_leastGroundedN, b1', cI_t]
    exact ⟨_, _, _, rfl, rfl, rel_scr a2 b2⟩
theorem den_loop {μ0 ν : Mem} (h : Rel μ0 ν) (h68 : ν 0 68 = 1) {n e : Nat} (hn : n = 1 ∨ n = 2) (he : (e : Int) < ν 0 5) : ∀ (j k : Nat) (μ ν1 : Mem), k + j = wN n → Fr μ0 μ scr → FrW ν ν1 → ∃ r μ' ν', e_X10_leastGrounded_2 n (31 + 5 * e) k μ = some (some (vI r), μ') ∧ e_X12_denied_28 e n k ν1 = some (some (vI r), ν') ∧ Fr μ0 μ' scr ∧ FrW ν ν'
  | 0, k, μ, ν1, hj, hF, hV => by
    obtain rfl : k = wN n := by omega
    rw [q_X10_leastGrounded_2, s_howMany (by omega) (by omega), cI_t, if_neg (by omega), q_X12_denied_28, s_worldsOf (by omega) (by omega), cI_t, if_neg (by omega)]
    exact ⟨-4, μ, ν1, rfl, rfl, hF, hV⟩
  | j + 1, k, μ, ν1, hj, hF, hV => by
    have hr := rel_scr h hF
    have hr1 := rel_scrR hr (frW_R hV)
    have hM := frW_M hV
    have hw := wN_le (n := n) (by omega)
    obtain ⟨r, μ1, μ2, a1, a2, a3, a4, a5, a6⟩ := s_entG (num := k) hr.2.2.1 hr.2.2.2.1 (n := n) (by omega) (by omega) (by omega)
    have F2 : Fr μ0 μ2 scr := hF.trans (scr_W a3)
    have hr2 := rel_scr h F2
    obtain ⟨g, b1, b2, b3⟩ := s_isGood hr1 (by rw [hV.2 68 (by omega) (by omega)]; exact h68) hn (show k < wN n by omega)
    rw [frM_gdW hM] at b3
    rw [q_X10_leastGrounded_2, s_howMany (by omega) (by omega), cI_t, if_pos (show (k : Int) < (wN n : Int) by omega), a1, cV_t, a2, cI_t, q_X12_denied_28, s_worldsOf (by omega) (by omega), cI_t, if_pos (show (k : Int) < (wN n : Int) by omega), b1, cI_t, wr_eq (x := (k : Int) + 1) (by omega) (by omega), show (k : Int) + 1 = ((k + 1 : Nat) : Int) by omega]
    have hrg : r = g := by
      rcases a5 with rfl | rfl
      · rcases b2 with rfl | rfl
        · rfl
        · have := a6.mpr (b3.mp rfl); omega
      · have := b3.mpr (a6.mp rfl); omega
    subst hrg
    rcases a5 with rfl | rfl
    · rw [if_pos rfl, if_pos rfl]
      exact den_loop h h68 hn he j (k + 1) μ2 ν1 (by omega) F2 hV
    · rw [if_neg ten, if_neg ten]
      obtain ⟨s, μ3, c1, c2, c3, c4⟩ := s_isTrue hr2.2.2.1 hr2.2.2.2.1 (by omega) (by omega) he a4
      obtain ⟨ν2, d1, d2, d3⟩ := s_world (num := k) hr.2.2.1 hV (show 0 < n by omega) (by omega) (by omega)
      obtain ⟨s', ν3, f1, f2, f3, f4, f5⟩ := s_holdsNow hr.2.2.1 hr.2.2.2.1 (by omega) (by omega) he d2 d3
      have F3 : Fr μ0 μ3 scr := F2.trans (fun c hc => c2 c (by unfold scr at hc; omega) (by unfold scr at hc; omega))
      have hss : s = s' := by
        rcases c3 with rfl | rfl
        · rcases f4 with rfl | rfl
          · rfl
          · have := c4.mpr (f5.mp rfl); omega
        · have := f5.mpr (c4.mp rfl); omega
      subst hss
      rw [c1, cI_t, d1, cV_t, f1, cI_t]
      rcases c3 with rfl | rfl
      · rw [if_pos rfl, if_pos rfl]
        exact ⟨_, μ3, ν3, rfl, rfl, F3, f2⟩
      · rw [if_neg ten, if_neg ten]
        exact den_loop h h68 hn he j (k + 1) μ3 ν3 (by omega) F3 f2
theorem sim_denied (μ ν : Mem) (x1 x2 : Int) (_ : in32 x1) (_ : in32 x2) (h : Rel μ ν) : Sm Rel f_X11_denied f_X12_denied [vI x1, vI x2] μ ν := by
  unfold Sm
  have hS := h.2.2.2.1
  rw [q_X11_denied, q_X12_denied]
  by_cases hx : ¬ (0 ≤ x1 ∧ x1 < ν 0 5)
  · rw [get_f hS hx, cR_n, isS_f hS hx, cI_t, if_pos rfl]
    exact ⟨-1, μ, ν, rfl, rfl, h⟩
  replace hx := Decidable.not_not.mp hx
  obtain ⟨e, rfl⟩ : ∃ e : Nat, x1 = (e : Int) := ⟨x1.toNat, by omega⟩
  rw [get_t hS hx, cR_s, isS_t hS hx, cI_t, if_neg ten, s_in, cI_t, show ((e : Int)).toNat = e by omega]
  by_cases h1 : ¬ (1 ≤ x2 ∧ x2 ≤ 2)
  · rw [if_neg h1, if_pos rfl]
    refine ⟨-1, μ, ν, ?_, rfl, h⟩
    by_cases q : x2 < 1
    · rw [if_pos q]
    · rw [if_neg q, if_neg (show ¬ x2 ≤ 2 by omega)]
  replace h1 := Decidable.not_not.mp h1
  obtain ⟨n, rfl⟩ : ∃ n : Nat, x2 = (n : Int) := ⟨x2.toNat, by omega⟩
  obtain ⟨ν', a1, a2, a3, a4⟩ := s_weighs h
  obtain ⟨r, μ2, ν2, b1, b2, b3, b4⟩ := den_loop a2 a3 (n := n) (e := e) (by omega) (by rw [a4.2.2.1]; exact hx.2) (wN n) 0 μ ν' (by omega) Fr.rf frW_rf
  have b1' : e_X10_leastGrounded_2 n (31 + 5 * e) 0 μ = _ := b1
  have b2' : e_X12_denied_28 e n 0 ν' = _ := b2
  rw [if_pos h1, if_neg ten, if_neg (show ¬ (n : Int) < 1 by omega), if_pos h1.2, q_X10_leastGrounded, b1', cI_t, a1, cV_t, b2']
  exact ⟨_, _, _, rfl, rfl, rel_scrR (rel_scr a2 b3) (frW_R b4)⟩
