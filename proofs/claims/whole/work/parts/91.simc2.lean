theorem r_keepsM12 {w len : Nat} {l : List Int} (hw : w < 4) (hl : l.length = len) (hl20 : len ≤ 20) : ∀ (j i : Nat) (ν : Mem), i + j = len → ν 0 33 = (len : Int) → RHL ν 19 l → (∀ q, q < i → ∀ x, l[q]? = some x → ν 4 (20 * w + q) = x) → ∃ ν', e_X12_keepsMeaning_12 w i ν = some (none, ν') ∧ (∀ c, c ≠ 4 → ν' c = ν c) ∧ (∀ q, q < len → ∀ x, l[q]? = some x → ν' 4 (20 * w + q) = x) ∧ ∀ k, ¬ (20 * w ≤ k ∧ k < 20 * w + 20) → ν' 4 k = ν 4 k
  | 0, i, ν, hj, h33, hR, hE => by
    obtain rfl : i = len := by omega
    rw [q_X12_keepsMeaning_12, h33, if_neg (by omega)]
    exact ⟨ν, rfl, fun _ _ => rfl, hE, fun _ _ => rfl⟩
  | j + 1, i, ν, hj, h33, hR, hE => by
    have hi : i < l.length := by omega
    rw [q_X12_keepsMeaning_12, h33, if_pos (by omega), gk (lnR 19) 20 rfl (by omega) (by omega), wr_eq (x := 20 * (w : Int)) (by omega) (by omega), wr_eq (x := 20 * (w : Int) + (i : Int)) (by omega) (by omega), gk (lnR 4) 80 rfl (by omega) (by omega), show (20 * (w : Int) + (i : Int)).toNat = 20 * w + i by omega, show ((i : Int)).toNat = i by omega, wr_eq (x := (i : Int) + 1) (by omega) (by omega), show (i : Int) + 1 = ((i + 1 : Nat) : Int) by omega, hR.get hi]
    obtain ⟨ν', a1, a2, a3, a4⟩ := r_keepsM12 hw hl hl20 j (i + 1) (up ν 4 (20 * w + i) l[i]) (by omega) (by rw [up_cell (by omega)]; exact h33) (hR.kept (up_cell (by omega))) (fun q hq x hx => by
      rw [up_if]
      by_cases z : 20 * w + q = 20 * w + i
      · rw [if_pos z]
        have : q = i := by omega
        subst this
        rw [List.getElem?_eq_getElem hi] at hx
        exact Option.some.inj hx
      · rw [if_neg z]
        exact hE q (by omega) x hx)
    exact ⟨ν', a1, fun c hc => by rw [a2 c hc, up_cell hc], a3, fun k hk => by rw [a4 k hk, up_slot (by omega)]⟩
theorem r_keepsM {ν : Mem} {w : Nat} {l : List Int} (hw : w < 4) (hl20 : l.length ≤ 20) (h33 : ν 0 33 = (l.length : Int)) (hR : RHL ν 19 l) : ∃ ν', f_X12_keepsMeaning [vR 12 0, vI (w : Int)] ν = some (none, ν') ∧ (∀ c, c ≠ 3 → c ≠ 4 → ν' c = ν c) ∧ (∀ j, ν' 3 j = if j = w then (l.length : Int) else ν 3 j) ∧ mL ν' w = l ∧ ∀ v, v ≠ w → v < 4 → (ν 3 v).toNat ≤ 20 → mL ν' v = mL ν v := by
  obtain ⟨ν', a1, a2, a3, a4⟩ := r_keepsM12 hw rfl hl20 l.length 0 (up ν 3 w (l.length : Int)) (by omega) (by rw [up_cell (by omega)]; exact h33) (hR.kept (up_cell (by omega))) (fun q hq => by omega)
  have a1' : e_X12_keepsMeaning_12 w 0 (up ν 3 w (l.length : Int)) = _ := a1
  have e3 : ∀ j, ν' 3 j = if j = w then (l.length : Int) else ν 3 j := fun j => by rw [a2 3 (by omega), up_if]
  refine ⟨ν', ?_, fun c p q => by rw [a2 c q, up_cell p], e3, ?_, fun v vw v4 v20 => ?_⟩
  · rw [q_X12_keepsMeaning, gk (lnR 3) 4 rfl (by omega) (by omega), show ((w : Int)).toNat = w by omega, h33, a1']
  · unfold mL
    rw [e3, if_pos rfl, show ((l.length : Int)).toNat = l.length by omega]
    refine List.ext_getElem? (fun q => ?_)
    by_cases z : q < l.length
    · rw [sg_get z, List.getElem?_eq_getElem z, a3 q z _ (List.getElem?_eq_getElem z)]
    · rw [List.getElem?_eq_none (by rw [sg_len]; omega), List.getElem?_eq_none (by omega)]
  · unfold mL
    rw [e3, if_neg vw]
    refine List.ext_getElem? (fun q => ?_)
    by_cases z : q < (ν 3 v).toNat
    · rw [sg_get z, sg_get z, a4 _ (by omega), up_cell (by omega)]
    · rw [List.getElem?_eq_none (by rw [sg_len]; omega), List.getElem?_eq_none (by rw [sg_len]; omega)]
theorem r_c88 {μ ν : Mem} (h : Rel μ ν) {w N : Nat} (hw : (w : Int) < ν 0 0) (hN : ν 0 5 = (N : Int)) {o3 o4 o5 : Option AV} : ∀ (j i : Nat) (ν1 : Mem), i + j = N → FrR ν ν1 → ν1 19 = ν 19 → ν1 0 33 = ν 0 33 → (∀ e : Nat, e < i → ν 7 e = 2 → ν1 29 e = (if tb (μ (31 + 5 * e) 10) w then 1 else 0)) → ∃ ν', e_X12_change_88 w i o3 o4 o5 ν1 = cV (f_X12_keepsMeaning [vR 12 0, vI (w : Int)] ν') (fun μ1 => gz 0 (e_X12_change_152 (some (vI (w : Int))) 0 0 o4 o5 (up (up μ1 0 68 0) 0 45 (-4)))) ∧ FrR ν ν' ∧ ν' 19 = ν 19 ∧ ν' 0 33 = ν 0 33 ∧ ∀ e : Nat, e < N → ν 7 e = 2 → ν' 29 e = (if tb (μ (31 + 5 * e) 10) w then 1 else 0)
  | 0, i, ν1, hj, hF, h19, h33, hE => by
    obtain rfl : i = N := by omega
    rw [q_X12_change_88, (frR_M hF).2.2.1, hN, if_neg (by omega)]
    exact ⟨ν1, rfl, hF, h19, h33, hE⟩
  | j + 1, i, ν1, hj, hF, h19, h33, hE => by
    have h24 := h.2.2.2.1.2.1
    have hM := frR_M hF
    have hr := rel_scrR h hF
    have go : ∀ (X : Mem) (v : Int), FrR ν X → X 19 = ν 19 → X 0 33 = ν 0 33 → X 29 = ν1 29 → (ν 7 i = 2 → v = (if tb (μ (31 + 5 * i) 10) w then 1 else 0)) → ∃ ν', e_X12_change_88 w ((i + 1 : Nat) : Int) o3 o4 o5 (up X 29 i v) = cV (f_X12_keepsMeaning [vR 12 0, vI (w : Int)] ν') (fun μ1 => gz 0 (e_X12_change_152 (some (vI (w : Int))) 0 0 o4 o5 (up (up μ1 0 68 0) 0 45 (-4)))) ∧ FrR ν ν' ∧ ν' 19 = ν 19 ∧ ν' 0 33 = ν 0 33 ∧ ∀ e : Nat, e < N → ν 7 e = 2 → ν' 29 e = (if tb (μ (31 + 5 * e) 10) w then 1 else 0) := fun X v x1 x2 x3 x4 x5 => by
      refine r_c88 h hw hN j (i + 1) _ (by omega) (frR_trans x1 (frR_up (by unfold scrR; omega))) (by rw [up_cell (by omega)]; exact x2) (by rw [up_cell (by omega)]; exact x3) (fun e he h7 => ?_)
      rw [up_if]
      by_cases z : e = i
      · subst z
        rw [if_pos rfl]
        exact x5 h7
      · rw [if_neg z, x4]
        exact hE e (by omega) h7
    rw [q_X12_change_88, hM.2.2.1, hN, if_pos (by omega), gk (lnR 7) 24 rfl (by omega) (by omega), show ((i : Int)).toNat = i by omega, frM_c hM (c := 7) (by omega), wr_eq (x := (i : Int) + 1) (by omega) (by omega), show (i : Int) + 1 = ((i + 1 : Nat) : Int) by omega, show wZ 0 = 0 by decide, show wZ 1 = 1 by decide]
    by_cases h7 : ν 7 i = 2
    · obtain ⟨ν2, a1, a2⟩ := s_putsWord (ν1 := ν1) hr.2.2.1 hr.2.2.2.1 hr.2.2.2.2.1 hr.2.2.2.2.2.2.2.1 (e := i) (w := w) (by rw [hM.2.2.1]; omega) (by rw [frM_c hM (by omega)]; exact h7) (by rw [hM.2.1]; exact hw) frV_rf
      have F2 : FrR ν ν2 := frR_trans hF (frV_R a2)
      rw [if_pos h7, a1, cI_t]
      by_cases z : tb (μ (31 + 5 * i) 10) w = true
      · rw [if_pos z, if_neg ten, gk (lnR 29) 24 rfl (by omega) (by omega)]
        exact go ν2 1 F2 (by rw [a2.1 19 (by omega) (by omega)]; exact h19) (by rw [a2.2 33 (by omega) (by omega) (by omega) (by omega)]; exact h33) (a2.1 29 (by omega) (by omega)) (fun _ => by rw [if_pos z])
      · rw [if_neg z, if_pos rfl, gk (lnR 29) 24 rfl (by omega) (by omega)]
        exact go ν2 0 F2 (by rw [a2.1 19 (by omega) (by omega)]; exact h19) (by rw [a2.2 33 (by omega) (by omega) (by omega) (by omega)]; exact h33) (a2.1 29 (by omega) (by omega)) (fun _ => by rw [if_neg z])
    · rw [if_neg h7, gk (lnR 29) 24 rfl (by omega) (by omega)]
      exact go ν1 0 hF h19 h33 rfl (fun z => absurd z h7)
/-- the tries begin -/
theorem INV.start {μ ν μ3 ν3 ν4 : Mem} {w : Nat} {l : List Int} (h : Rel μ ν) (hw : (w : Int) < ν 0 0) (hok : okRw ν (ν 2 w) w l) (hl : LT l) (hl20 : l.length ≤ 20) (hTH : TH μ3 (9 + 4 * w) l) (hF3 : Fr μ μ3 (tS (9 + 4 * w))) (hFR : FrR ν ν3) (h29 : ∀ e : Nat, (e : Int) < ν 0 5 → ν 7 e = 2 → ν3 29 e = (if tb (μ (31 + 5 * e) 10) w then 1 else 0)) (k3 : ∀ c, c ≠ 3 → c ≠ 4 → ν4 c = ν3 c) (e3 : ∀ j, ν4 3 j = if j = w then (l.length : Int) else ν3 3 j) (mw : mL ν4 w = l) (mo : ∀ v, v ≠ w → v < 4 → (ν3 3 v).toNat ≤ 20 → mL ν4 v = mL ν3 v) : INV μ ν w (up (up μ3 163 7 (-4)) 163 8 0) (up (up ν4 0 68 0) 0 45 (-4)) 0 0 := by
  obtain ⟨hT, hH, hW, hS, hP, hI, hD, hL, hG, hC⟩ := id h
  have w4 := hW.2.1
  have h24 := hS.2.1
  have hM := frR_M hFR
  have kc : ∀ c, c ≠ 163 → ¬ tS (9 + 4 * w) c → up (up μ3 163 7 (-4)) 163 8 0 c = μ c := fun c p q => by rw [up_cell p, up_cell p, hF3 c q]
  have m3 : ∀ c, (c < 9 ∨ 23 ≤ c) → ¬ tS (9 + 4 * w) c := fun c hc => by unfold tS; omega
  have z0 : ∀ k, k ≠ 68 → k ≠ 45 → up (up ν4 0 68 0) 0 45 (-4) 0 k = ν3 0 k := fun k p q => by rw [up_slot q, up_slot p, k3 0 (by omega) (by omega)]
  have zc : ∀ c, c ≠ 0 → c ≠ 3 → c ≠ 4 → up (up ν4 0 68 0) 0 45 (-4) c = ν3 c := fun c p q r => by rw [up_cell p, up_cell p, k3 c q r]
  have ml5 : ∀ v, mL (up (up ν4 0 68 0) 0 45 (-4)) v = mL ν4 v := fun v => by
    unfold mL
    rw [up_cell (show 3 ≠ 0 by omega), up_cell (show 3 ≠ 0 by omega)]
    exact sg_congr (by rw [up_cell (by omega), up_cell (by omega)])
  generalize hX : up (up ν4 0 68 0) 0 45 (-4) = X at z0 zc ml5
  have X3 : ∀ j, X 3 j = if j = w then (l.length : Int) else ν3 3 j := fun j => by rw [← hX, up_cell (by omega), up_cell (by omega)]; exact e3 j
  have x45 : X 0 45 = -4 := by rw [← hX, up_same]
  have x68 : X 0 68 = 0 := by rw [← hX, up_slot (by omega), up_same]
  clear hX
  have fc : FrC w ν X := ⟨fun c hc => by rw [zc c (by omega) (by omega) (by omega), frM_c hM (by omega)], fun v p q => by
      have := (hW.2.2.2.2.1 v q).1.2.2.2.2.1
      rw [ml5, mo v p (by omega) (by rw [frM_c hM (c := 3) (by omega)]; omega), frM_mL hM], by rw [z0 0 (by omega) (by omega), hM.2.1], by rw [z0 5 (by omega) (by omega), hM.2.2.1], by rw [z0 23 (by omega) (by omega), hM.2.2.2], by rw [z0 15 (by omega) (by omega)]; exact hFR.2 15 (by unfold scrK; omega), by rw [z0 16 (by omega) (by omega)]; exact hFR.2 16 (by unfold scrK; omega)⟩
  have h7 : X 7 = ν 7 := by rw [zc 7 (by omega) (by omega) (by omega), frM_c hM (by omega)]
  have h12 : X 12 = ν 12 := by rw [zc 12 (by omega) (by omega) (by omega), frM_c hM (by omega)]
  have zz : ∀ k, ¬ scrK k → k ≠ 68 → k ≠ 45 → X 0 k = ν 0 k := fun k a b c => by rw [z0 k b c]; exact hFR.2 k a
  have zzc : ∀ c, ¬ scrR c → c ≠ 0 → c ≠ 3 → c ≠ 4 → X c = ν c := fun c a b d e => by rw [zc c b d e]; exact hFR.1 c a b
  refine ⟨⟨?_, ?_, ?_, ?_, ?_, ?_, ?_, ?_, ?_⟩, fc, fun e _ => Or.inl (by rw [h7]), fun e he => by rw [kc _ (by omega) (m3 _ (by omega))], fun e he h7' hlt => ?_, fun e he _ _ => by rw [kc _ (by omega) (m3 _ (by omega))], ?_, fun e he h7' => ?_, ?_, x45, x68⟩
  · exact (hT.kept (by rw [kc 151 (by omega) (m3 _ (by omega))]) (by rw [kc 151 (by omega) (m3 _ (by omega))]) (kc 152 (by omega) (m3 _ (by omega)))).keptR (zz 25 (by unfold scrK; omega) (by omega) (by omega)) (zz 30 (by unfold scrK; omega) (by omega) (by omega)) (zzc 18 (by unfold scrR; omega) (by omega) (by omega) (by omega))
  · unfold RelH at *
    rw [kc 0 (by omega) (m3 _ (by omega)), zz 21 (by unfold scrK; omega) (by omega) (by omega), zz 22 (by unfold scrK; omega) (by omega) (by omega)]
    exact hH
  · obtain ⟨a1, a2, a3, a4, a5, a6, a7⟩ := hW
    unfold RelW
    rw [fc.2.2.1, fc.2.2.2.2.1, kc 1 (by omega) (m3 _ (by omega)), frC_fcL fc, frC_wb fc, fc.1 1 (by omega), fc.1 2 (by omega), kc 2 (by omega) (m3 _ (by omega)), kc 3 (by omega) (m3 _ (by omega)), kc 4 (by omega) (m3 _ (by omega))]
    refine ⟨a1, a2, a3, a4, fun v hv => ?_, a6, a7⟩
    obtain ⟨b1, b2, b3, b4, b5⟩ := a5 v hv
    have face : TH (up (up μ3 163 7 (-4)) 163 8 0) (7 + 4 * v) (fcL ν v) := by
      unfold TH at b5 ⊢
      rw [kc (7 + 4 * v) (by omega) (by unfold tS; omega), kc (7 + 4 * v + 1) (by omega) (by unfold tS; omega)]
      exact b5
    by_cases z : v = w
    · subst z
      refine ⟨?_, b2, b3, ?_, face⟩
      · unfold okW at b1 ⊢
        rw [fc.1 1 (by omega), fc.1 2 (by omega), frC_ar fc, X3, if_pos rfl, ml5, mw]
        have hne := isT_ne hok.2
        have hpos : 0 < l.length := List.length_pos_iff.mpr hne
        refine ⟨b1.1, b1.2.1, b1.2.2.1, by omega, by omega, hl, hok.2, fun x hx => ?_⟩
        rcases hok.1 x hx with y | y | y | ⟨y1, y2, y3⟩
        · exact Or.inl y
        · exact Or.inr (Or.inl y)
        · exact Or.inr (Or.inr (Or.inl y))
        · rcases wb_range h.2.2.1 x with q | ⟨q1, q2, q3⟩
          · exact absurd q y2
          · exact Or.inr (Or.inr (Or.inr ⟨(wb ν x).toNat, by omega, q3⟩))
      · rw [ml5, mw]
        unfold TH at hTH ⊢
        rw [up_cell (by omega), up_cell (by omega), up_cell (by omega), up_cell (by omega)]
        exact hTH
    · refine ⟨?_, b2, b3, ?_, face⟩
      · unfold okW at b1 ⊢
        rw [fc.1 1 (by omega), fc.1 2 (by omega), frC_ar fc, X3, if_neg z, fc.2.1 v z hv, frM_c hM (c := 3) (by omega)]
        exact b1
      · rw [fc.2.1 v z hv]
        unfold TH at b4 ⊢
        rw [kc (9 + 4 * v) (by omega) (by unfold tS; omega), kc (9 + 4 * v + 1) (by omega) (by unfold tS; omega)]
        exact b4
  · have hs := hS.kept (μ' := up (up μ3 163 7 (-4)) 163 8 0) (kc 23 (by omega) (m3 _ (by omega))) (fun c p q => kc c (by omega) (m3 _ (by omega)))
    unfold RelS okS at hs ⊢
    rw [fc.2.2.2.1, fc.2.2.2.2.2.1, fc.2.2.2.2.2.2, frC_sL fc, frC_ar fc, fc.1 6 (by omega), h7, fc.1 8 (by omega), fc.1 9 (by omega), fc.1 10 (by omega), fc.1 11 (by omega), h12, fc.1 13 (by omega)]
    exact hs
  · have hp := hP.kept (μ' := up (up μ3 163 7 (-4)) 163 8 0) (kc 25 (by omega) (m3 _ (by omega))) (kc 26 (by omega) (m3 _ (by omega))) (kc 27 (by omega) (m3 _ (by omega)))
    unfold RelP at hp ⊢
    rw [fc.2.2.2.1, fc.2.2.2.2.2.2, fc.1 14 (by omega), fc.1 15 (by omega), fc.1 16 (by omega)]
    exact hp
  · exact Or.inl ⟨x45, by rw [up_slot (by omega), up_same], up_same _ _ _ _⟩
  · have hd := hD.kept (μ' := up (up μ3 163 7 (-4)) 163 8 0) (kc 23 (by omega) (m3 _ (by omega))) (kc 28 (by omega) (m3 _ (by omega))) (kc 29 (by omega) (m3 _ (by omega))) (kc 30 (by omega) (m3 _ (by omega)))
    have h17 : X 17 = ν 17 := zzc 17 (by unfold scrR; omega) (by omega) (by omega) (by omega)
    unfold RelD at hd ⊢
    rw [fc.2.2.2.1, fc.2.2.2.2.2.2, h7, fc.1 9 (by omega), fc.1 11 (by omega), zz 22 (by unfold scrK; omega) (by omega) (by omega), h17]
    obtain ⟨q1, q2, q3, q4, q5⟩ := hd
    exact ⟨q1, q2, q3, q4, fun x hx => ⟨(q5 x hx).1, (q5 x hx).2.1, fun y hy => by rw [asR_congr h17]; exact (q5 x hx).2.2 y hy⟩⟩
  · exact Or.inl x68
  · exact (hC.kept (fun c p q => kc c (by omega) (m3 _ (by omega)))).keptR (zzc 51 (by unfold scrR; omega) (by omega) (by omega) (by omega)) (zzc 52 (by unfold scrR; omega) (by omega) (by omega) (by omega)) (zzc 53 (by unfold scrR; omega) (by omega) (by omega) (by omega))
  · rw [h7] at h7'
    have := (hL e he h7').2.1
    omega
  · refine MK.zero.congr (fun e => ⟨fun q => q.elim, fun ⟨_, q1, q2⟩ => ?_⟩)
    rw [h7] at q2
    omega
  · rw [zc 29 (by omega) (by omega) (by omega)]
    exact h29 e he h7'
  · exact zz 22 (by unfold scrK; omega) (by omega) (by omega)
theorem sim_change (μ ν : Mem) (x : Int) (_ : in32 x) (h : Rel μ ν) : Sm Rel f_X11_change f_X12_change [vI x] μ ν := by
  unfold Sm
  have hW := h.2.2.1
  have w4 := hW.2.1
  rw [q_X11_change, q_X12_change, s_meaningOf hW, s_isWord x ν ⟨hW.1, w4⟩, cI_t]
  by_cases hx : ¬ (0 ≤ x ∧ x < ν 0 0)
  · rw [if_neg hx, if_neg hx, cR_n, if_pos rfl]
    exact ⟨-1, μ, ν, rfl, rfl, h⟩
  replace hx := Decidable.not_not.mp hx
  obtain ⟨w, rfl⟩ : ∃ w : Nat, x = (w : Int) := ⟨x.toNat, by omega⟩
  rw [if_pos hx, if_pos hx, cR_s, if_neg ten]
  have hw4 : w < 4 := by omega
  rcases chg_parse h hx.2 with ⟨f, μ', ν', a1, a2, a3, a4⟩ | ⟨μ2, ν2, μ3, l, a1, a2, a3, a4, a5, a6, a7, a8, a9, a10, a11⟩
  · rw [a2, cI_t, if_pos (by omega), a3]
    exact ⟨_, _, _, rfl, rfl, a4⟩
  · have hw2 : (w : Int) < ν2 0 0 := by rw [a4.2.1]; exact hx.2
    obtain ⟨hT2, hH2, hW2, hS2, hP2, hI2, hD2, hL2, hG2, hC2⟩ := id a3
    obtain ⟨N, hN⟩ : ∃ N : Nat, ν2 0 5 = (N : Int) := ⟨(ν2 0 5).toNat, by have := hS2.1; omega⟩
    obtain ⟨M, hM⟩ : ∃ M : Nat, ν2 0 15 = (M : Int) := ⟨(ν2 0 15).toNat, by have := hS2.2.2.2.2.2.2.1; omega⟩
    obtain ⟨ν3, b1, b2, b3, b4, b5⟩ := r_c88 a3 hw2 hN (o3 := none) (o4 := none) (o5 := none) N 0 ν2 (by omega) frR_rf rfl rfl (fun e he => by omega)
    have b1' : e_X12_change_88 w 0 none none none ν2 = _ := b1
    obtain ⟨ν4, c1, c2, c3, c4, c5⟩ := r_keepsM (ν := ν3) (w := w) (l := l) hw4 a7 (by rw [b4]; exact a9) (a8.kept b3)
    have inv := INV.start a3 hw2 a5 a6 a7 a10 a11 b2 (fun e he h7 => b5 e (by omega) h7) c2 c3 c4 c5
    obtain ⟨x0, d1, d2⟩ := s_shownNext inv.1.2.2.2.1 (-4)
    have nx : NX (up (up ν4 0 68 0) 0 45 (-4)) ((0 : Nat) : Int) x0 := by
      have h13 := inv.2.1.1 13 (by omega)
      have h5 := inv.2.1.2.2.2.1
      have pos : ∀ e : Nat, (e : Int) < up (up ν4 0 68 0) 0 45 (-4) 0 5 → up (up ν4 0 68 0) 0 45 (-4) 7 e = 2 → 0 ≤ up (up ν4 0 68 0) 0 45 (-4) 13 e := fun e he h7 => by
        rw [h5] at he
        rw [h13]
        have : ν2 7 e = 2 := by
          rcases inv.2.2.1 e he with z | z
          · omega
          · omega
        exact (hL2 e he this).2.1
      rcases d2 with ⟨p1, p2⟩ | ⟨e, p1, p2, p3, p4, p5⟩
      · exact Or.inl ⟨p1, fun e he h7 => by have := p2 e he h7; have := pos e he h7; omega⟩
      · exact Or.inr ⟨e, p1, p2, p3, by have := pos e p2 p3; omega, fun f f1 f2 f3 => p5 f f1 f2 (by omega)⟩
    have c0 : cnt (ordB ν2 ((0 : Nat) : Int)) N = 0 := by
      have : cnt (ordB ν2 ((0 : Nat) : Int)) N = cnt (fun _ => false) N := cnt_congr N (fun e he => by
        unfold ordB
        refine decide_eq_false (fun z => ?_)
        have := (hL2 e (by omega) z.1).2.1
        omega)
      rw [this]
      clear this nx d1 d2 inv b1 b1' hN b5
      induction N with
      | zero => rfl
      | succ n ih => unfold cnt; rw [ih]; rfl
    obtain ⟨r, μ9, ν9, gone, r1, r2, r3⟩ := chg_loop a3 hw2 hN hM M 0 _ _ 0 x0 (some (vI (w : Int))) none none none none (by omega) inv nx
    rw [c0] at r1
    have r1' : e_X3_tryAgain_14 w 211 (ν2 0 22) 0 x0 0 none none (up (up μ3 163 7 (-4)) 163 8 0) = _ := r1
    have r2' : e_X12_change_152 (some (vI (w : Int))) 0 0 none none (up (up ν4 0 68 0) 0 45 (-4)) = _ := r2
    have day : up (up μ3 163 7 (-4)) 163 8 0 0 10 = ν2 0 22 := by
      rw [up_cell (by omega), up_cell (by omega), a11 0 (by unfold tS; omega)]
      exact hH2.2.1
    rw [a1, cI_t, if_neg (by decide), q_X1_drop, cV_t, day, q_X3_tryAgain, d1, cI_t, r1', cI_t, a2, b1', c1, cV_t, gz_0, r2']
    exact ⟨_, _, _, rfl, rfl, INV.done a3 hM r3⟩
