/-! THE REFERENCE: begins, goes, isAtRight, findTerm -/
def FrV (ν ν' : Mem) : Prop := (∀ c, ¬ (20 ≤ c ∧ c ≤ 25) → c ≠ 0 → ν' c = ν c) ∧ ∀ k, k ≠ 36 → k ≠ 38 → k ≠ 42 → k ≠ 44 → ν' 0 k = ν 0 k
theorem frV_rf {ν : Mem} : FrV ν ν := ⟨fun _ _ _ => rfl, fun _ _ _ _ _ => rfl⟩
theorem frV_trans {ν ν1 ν2 : Mem} (h : FrV ν ν1) (h2 : FrV ν1 ν2) : FrV ν ν2 := ⟨fun c h3 h4 => (h2.1 c h3 h4).trans (h.1 c h3 h4), fun k a b c d => (h2.2 k a b c d).trans (h.2 k a b c d)⟩
theorem frV_S {ν ν' : Mem} (h : FrS ν ν') : FrV ν ν' := ⟨fun c h1 h2 => h.1 c (by omega) h2, fun k _ a b c => h.2 k a b c⟩
theorem frV_G {ν ν' : Mem} (h : FrG 20 36 ν ν') : FrV ν ν' := ⟨fun c h1 h2 => h.1 c (by omega) h2, fun k a _ _ _ => h.2 k a⟩
theorem frV_R {ν ν' : Mem} (h : FrV ν ν') : FrR ν ν' := ⟨fun c h1 h2 => h.1 c (by unfold scrR at h1; omega) h2, fun k hk => h.2 k (by unfold scrK at hk; omega) (by unfold scrK at hk; omega) (by unfold scrK at hk; omega) (by unfold scrK at hk; omega)⟩
theorem frV_M {ν ν' : Mem} (h : FrV ν ν') : FrM ν ν' := frR_M (frV_R h)
theorem s_begins14 {e n : Nat} {l : List Int} (he : e < 24) (hn : n ≤ 20) (hl : l.length = n) : ∀ (j i : Nat) (ν : Mem), i + j = n → ν 0 36 = (n : Int) → l = sg ν 5 (40 * e) n → FL ν 20 l i → ∃ ν', e_X12_begins_14 e i ν = some (none, ν') ∧ FrG 20 36 ν ν' ∧ RT ν' 20 36 l
  | 0, i, ν, hj, h3, hs, hF => by
    obtain rfl : i = n := by omega
    rw [q_X12_begins_14, h3, if_neg (by omega)]
    refine ⟨ν, rfl, frG_rf, ?_, by rw [h3, hl]⟩
    subst hl
    exact FL.rt hF hn
  | j + 1, i, ν, hj, h3, hs, hF => by
    have hx : l[i]? = some (ν 5 (40 * e + i)) := by rw [hs]; exact sg_get (by omega)
    rw [q_X12_begins_14, h3, if_pos (by omega), wr_eq (x := 40 * (e : Int)) (by omega) (by omega), wr_eq (x := 40 * (e : Int) + (i : Int)) (by omega) (by omega), gk (lnR 5) 960 rfl (by omega) (by omega), gk (lnR 20) 20 rfl (by omega) (by omega), show (40 * (e : Int) + (i : Int)).toNat = 40 * e + i by omega, show ((i : Int)).toNat = i by omega, wr_eq (x := (i : Int) + 1) (by omega) (by omega), show (i : Int) + 1 = ((i + 1 : Nat) : Int) by omega]
    obtain ⟨ν', r1, r2, r3⟩ := s_begins14 he hn hl j (i + 1) (up ν 20 i (ν 5 (40 * e + i))) (by omega) (by rw [up_cell (by decide)]; exact h3) (by rw [sg_congr (up_cell (by decide))]; exact hs) (hF.up hx)
    exact ⟨ν', r1, frG_trans (frG_up (by decide)) r2, r3⟩
theorem s_begins {ν : Mem} {e : Nat} (he : e < 24) (hn : 0 ≤ ν 6 (2 * e) ∧ ν 6 (2 * e) ≤ 20) : ∃ ν', f_X12_begins [vR 12 0, vI e] ν = some (none, ν') ∧ FrG 20 36 ν ν' ∧ RT ν' 20 36 (sL ν e 0) := by
  rw [q_X12_begins, wr_eq (x := 2 * (e : Int)) (by omega) (by omega), gk (lnR 6) 48 rfl (by omega) (by omega), show (2 * (e : Int)).toNat = 2 * e by omega]
  obtain ⟨ν', r1, r2, r3⟩ := s_begins14 (e := e) (n := (ν 6 (2 * e)).toNat) (l := sL ν e 0) he (by omega) (by unfold sL; rw [sg_len]; rfl) (ν 6 (2 * e)).toNat 0 (up ν 0 36 (ν 6 (2 * e))) (by omega) (by rw [up_same]; omega) (by rw [sg_congr (up_cell (by decide))]; rfl) (fun j hj => by omega)
  exact ⟨ν', r1, frG_trans frG_up0 r2, r3⟩
theorem s_goes10 {T : List Int} : ∀ (j i : Nat) (ν : Mem), i + j = T.length → RT ν 21 38 T → ν 0 36 = (T.length : Int) → FL ν 20 T i → ∃ ν', e_X12_goes_10 i ν = some (none, ν') ∧ FrG 20 36 ν ν' ∧ RT ν' 20 36 T
  | 0, i, ν, hj, hT, h3, hF => by
    obtain rfl : i = T.length := by omega
    rw [q_X12_goes_10, hT.2, if_neg (by omega)]
    exact ⟨ν, rfl, frG_rf, FL.rt hF hT.1.1, h3⟩
  | j + 1, i, ν, hj, hT, h3, hF => by
    have h20 : T.length ≤ 20 := hT.1.1
    have hi : i < T.length := by omega
    rw [q_X12_goes_10, hT.2, if_pos (by omega), gk (lnR 21) 20 rfl (by omega) (by omega), gk (lnR 20) 20 rfl (by omega) (by omega), show ((i : Int)).toNat = i by omega, hT.1.get hi, wr_eq (x := (i : Int) + 1) (by omega) (by omega), show (i : Int) + 1 = ((i + 1 : Nat) : Int) by omega]
    obtain ⟨ν', r1, r2, r3⟩ := s_goes10 j (i + 1) (up ν 20 i T[i]) (by omega) ⟨hT.1.kept (up_cell (by decide)), by rw [up_cell (by decide)]; exact hT.2⟩ (by rw [up_cell (by decide)]; exact h3) (hF.up (List.getElem?_eq_getElem hi))
    exact ⟨ν', r1, frG_trans (frG_up (by decide)) r2, r3⟩
theorem s_goes {ν : Mem} {T : List Int} (hT : RT ν 21 38 T) : ∃ ν', f_X12_goes [vR 12 0] ν = some (none, ν') ∧ FrG 20 36 ν ν' ∧ RT ν' 20 36 T := by
  rw [q_X12_goes]
  obtain ⟨ν', r1, r2, r3⟩ := s_goes10 (T := T) T.length 0 (up ν 0 36 (ν 0 38)) (by omega) ⟨hT.1.kept (up_cell (by decide)), by rw [up_slot (by decide)]; exact hT.2⟩ (by rw [up_same]; exact hT.2) (fun j hj => by omega)
  exact ⟨ν', r1, frG_trans frG_up0 r2, r3⟩
theorem s_right25 {ν : Mem} {e : Nat} {T l : List Int} (he : e < 24) (hT : RT ν 20 36 T) (hs : l = sg ν 5 (40 * e + 20) T.length) : ∀ (j i : Nat), i + j = T.length → T.take i = l.take i → e_X12_isAtRight_25 e 1 i ν = some (some (vI (if T = l then 1 else 0)), ν)
  | 0, i, hj, hq => by
    obtain rfl : i = T.length := by omega
    have hl : l.length = T.length := by rw [hs, sg_len]
    rw [List.take_length, List.take_of_length_le (by omega)] at hq
    rw [q_X12_isAtRight_25, hT.2, if_neg (by omega), gz_1, if_pos hq]
  | j + 1, i, hj, hq => by
    have h20 : T.length ≤ 20 := hT.1.1
    have hi : i < T.length := by omega
    have hl : l.length = T.length := by rw [hs, sg_len]
    have hx : l[i]? = some (ν 5 (40 * e + 20 + i)) := by rw [hs]; exact sg_get (by omega)
    rw [q_X12_isAtRight_25, hT.2, if_pos (by omega), if_neg ten, gk (lnR 20) 20 rfl (by omega) (by omega), wr_eq (x := 40 * (e : Int)) (by omega) (by omega), wr_eq (x := 40 * (e : Int) + 20) (by omega) (by omega), wr_eq (x := 40 * (e : Int) + 20 + (i : Int)) (by omega) (by omega), gk (lnR 5) 960 rfl (by omega) (by omega), show (40 * (e : Int) + 20 + (i : Int)).toNat = 40 * e + 20 + i by omega, show ((i : Int)).toNat = i by omega, hT.1.get hi, wr_eq (x := (i : Int) + 1) (by omega) (by omega), show (i : Int) + 1 = ((i + 1 : Nat) : Int) by omega]
    by_cases hxe : T[i] = ν 5 (40 * e + 20 + i)
    · rw [if_pos hxe]
      exact s_right25 he hT hs j (i + 1) (by omega) (by rw [List.take_add_one, List.take_add_one, hq, hx, List.getElem?_eq_getElem hi, hxe])
    · rw [if_neg hxe]
      have hne : ¬ T = l := by
        intro q
        rw [← q, List.getElem?_eq_getElem hi] at hx
        exact hxe (Option.some.inj hx)
      rw [if_neg hne, q_X12_isAtRight_25, hT.2]
      by_cases hin : ((i + 1 : Nat) : Int) < (T.length : Int)
      · rw [if_pos hin, if_pos rfl, gz_0]
      · rw [if_neg hin, gz_0]
theorem s_isAtRight {ν : Mem} {e : Nat} {T : List Int} (he : e < 24) (hn : 0 ≤ ν 6 (2 * e + 1)) (hT : RT ν 20 36 T) (hT0 : T ≠ []) : f_X12_isAtRight [vR 12 0, vI e] ν = some (some (vI (if T = sL ν e 1 then 1 else 0)), ν) := by
  rw [q_X12_isAtRight, wr_eq (x := 2 * (e : Int)) (by omega) (by omega), wr_eq (x := 2 * (e : Int) + 1) (by omega) (by omega), gk (lnR 6) 48 rfl (by omega) (by omega), show (2 * (e : Int) + 1).toNat = 2 * e + 1 by omega, hT.2]
  by_cases hl : (T.length : Int) = ν 6 (2 * e + 1)
  · rw [if_pos hl]
    exact s_right25 he hT (by unfold sL; rw [← hl]; rfl) T.length 0 (by omega) rfl
  · rw [if_neg hl, q_X12_isAtRight_25, hT.2]
    have hne : ¬ T = sL ν e 1 := by
      intro q
      have := congrArg List.length q
      unfold sL at this
      rw [sg_len] at this
      omega
    rw [if_neg hne]
    have : 0 < T.length := List.length_pos_iff.mpr hT0
    rw [if_pos (by omega), if_pos rfl, gz_0]
/-- n STEPS of the reference from a place on -/
theorem s_find10 {μ ν : Mem} {n : Nat} {Ts : Nat → List Int} (hW : RelW μ ν) (hS : RelS μ ν) (hn : ν 0 46 = (n : Int)) (hn20 : n ≤ 20) (hTs : ∀ i, i < n → stp ν (ν 26 i) (ν 27 i) (ν 28 i) (Ts i) = .inr (Ts (i + 1)) ∧ 0 ≤ ν 26 i ∧ ν 26 i ≤ 3) : ∀ (j i : Nat) (ν1 : Mem), i + j = n → FrV ν ν1 → RT ν1 20 36 (Ts i) → okT ν (Ts i) → ∃ ν', e_X12_findTerm_10 i ν1 = some (none, ν') ∧ FrV ν ν' ∧ RT ν' 20 36 (Ts n) ∧ okT ν (Ts n)
  | 0, i, ν1, hj, hf, hT, hok => by
    obtain rfl : i = n := by omega
    rw [q_X12_findTerm_10, hf.2 46 (by omega) (by omega) (by omega) (by omega), hn, if_neg (by omega)]
    exact ⟨ν1, rfl, hf, hT, hok⟩
  | j + 1, i, ν1, hj, hf, hT, hok => by
    obtain ⟨t1, t2, t3⟩ := hTs i (by omega)
    rw [q_X12_findTerm_10, hf.2 46 (by omega) (by omega) (by omega) (by omega), hn, if_pos (by omega), gk (lnR 26) 20 rfl (by omega) (by omega), gk (lnR 27) 20 rfl (by omega) (by omega), gk (lnR 28) 20 rfl (by omega) (by omega), show ((i : Int)).toNat = i by omega, hf.1 26 (by omega) (by omega), hf.1 27 (by omega) (by omega), hf.1 28 (by omega) (by omega)]
    have hM := frV_M hf
    obtain ⟨r, ν2, a1, a2, a3⟩ := s_stepsR (kind := ν 26 i) (which := ν 27 i) (place := ν 28 i) (hW.keptR hM) (hS.keptR hM (hf.2 15 (by omega) (by omega) (by omega) (by omega)) (hf.2 16 (by omega) (by omega) (by omega) (by omega))) (by rw [frM_ar hM]; exact hok.1) hT ⟨t2, t3⟩
    rw [frM_stp hM, t1] at a3
    obtain ⟨ν3, b1, b2, b3⟩ := s_goes a3.2
    rw [a1, cI_t, b1, cV_t, wr_eq (x := (i : Int) + 1) (by omega) (by omega), show (i : Int) + 1 = ((i + 1 : Nat) : Int) by omega]
    exact s_find10 hW hS hn hn20 hTs j (i + 1) ν3 (by omega) (frV_trans hf (frV_trans (frV_S a2) (frV_G b2))) b3 (stp_inr hW hS hok ⟨t2, t3⟩ t1)
theorem s_findTerm {μ ν : Mem} {e n : Nat} {Ts : Nat → List Int} (hW : RelW μ ν) (hS : RelS μ ν) (he : (e : Int) < ν 0 5) (h45 : ν 0 45 = (e : Int)) (hn : ν 0 46 = (n : Int)) (hn20 : n ≤ 20) (h0 : Ts 0 = sL ν e 0) (hTs : ∀ i, i < n → stp ν (ν 26 i) (ν 27 i) (ν 28 i) (Ts i) = .inr (Ts (i + 1)) ∧ 0 ≤ ν 26 i ∧ ν 26 i ≤ 3) : ∃ ν', f_X12_findTerm [vR 12 0] ν = some (none, ν') ∧ FrV ν ν' ∧ RT ν' 20 36 (Ts n) ∧ okT ν (Ts n) := by
  have h24 := hS.2.1
  have hs := hS.2.2.2.2.2.2.2.2 e he
  obtain ⟨ν1, a1, a2, a3⟩ := s_begins (ν := ν) (e := e) (by omega) ⟨by have := hs.1.1; rw [show 2 * e + 0 = 2 * e by omega] at this; omega, hs.1.2.1⟩
  rw [q_X12_findTerm, h45, a1, cV_t]
  exact s_find10 hW hS hn hn20 hTs n 0 ν1 (by omega) (frV_G a2) (by rw [h0]; exact a3) (by rw [h0]; exact okT_sL hS he (by omega))
