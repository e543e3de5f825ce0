/-! text: the good end -/
theorem r_191 {n : Int} {S D : Nat} {hd : Int} (hS : S ≤ 24) (hD : D < 1000) : ∀ (j i : Nat) (X : Mem), i + j = S → X 0 34 = (S : Int) → X 0 21 = hd → X 0 22 = (D : Int) → (∀ e : Nat, i ≤ e → e < S → 0 ≤ X 7 e ∧ X 7 e ≤ 1) → ∃ X', e_X12_text_191 n i X = some (some (vI n), up (up X' 0 5 (S : Int)) 0 68 0) ∧ (∀ c, ¬ (8 ≤ c ∧ c ≤ 12) → c ≠ 17 → X' c = X c) ∧ (∀ e, X' 8 e = if i ≤ e ∧ e < S then hd else X 8 e) ∧ (∀ e, X' 9 e = if i ≤ e ∧ e < S then (D : Int) else X 9 e) ∧ (∀ e, X' 10 e = if i ≤ e ∧ e < S then -4 else X 10 e) ∧ (∀ e, X' 11 e = if i ≤ e ∧ e < S then 0 else X 11 e) ∧ (∀ e, X' 12 e = if i ≤ e ∧ e < S then -4 else X 12 e) ∧ (∀ e d, d < 1000 → X' 17 (1000 * e + d) = if i ≤ e ∧ e < S ∧ d = D then X 7 e + 1 else X 17 (1000 * e + d))
  | 0, i, X, hj, h34, h21, h22, h7 => by
    obtain rfl : i = S := by omega
    rw [q_X12_text_191, h34, if_neg (by omega), gz_0]
    exact ⟨X, rfl, fun _ _ _ => rfl, fun e => by rw [if_neg (by omega)], fun e => by rw [if_neg (by omega)], fun e => by rw [if_neg (by omega)], fun e => by rw [if_neg (by omega)], fun e => by rw [if_neg (by omega)], fun e d _ => by rw [if_neg (by omega)]⟩
  | j + 1, i, X, hj, h34, h21, h22, h7 => by
    have h7i := h7 i (by omega) (by omega)
    obtain ⟨A, hA⟩ : ∃ A, A = up (up (up (up (up X 8 i hd) 9 i (D : Int)) 10 i (-4)) 11 i 0) 12 i (-4) := ⟨_, rfl⟩
    have A0 : A 0 = X 0 := by rw [hA, up_cell (by omega), up_cell (by omega), up_cell (by omega), up_cell (by omega), up_cell (by omega)]
    have A7 : A 7 = X 7 := by rw [hA, up_cell (by omega), up_cell (by omega), up_cell (by omega), up_cell (by omega), up_cell (by omega)]
    have A17 : A 17 = X 17 := by rw [hA, up_cell (by omega), up_cell (by omega), up_cell (by omega), up_cell (by omega), up_cell (by omega)]
    obtain ⟨X', a1, a2, a3, a4, a5, a6, a7, a8⟩ := r_191 (n := n) (hd := hd) hS hD j (i + 1) (up A 17 (1000 * i + D) (X 7 i + 1)) (by omega) (by rw [up_cell (by omega), A0]; exact h34) (by rw [up_cell (by omega), A0]; exact h21) (by rw [up_cell (by omega), A0]; exact h22) (fun e he he2 => by rw [up_cell (by omega), A7]; exact h7 e (by omega) he2)
    refine ⟨X', ?_, fun c p q => ?_, fun e => ?_, fun e => ?_, fun e => ?_, fun e => ?_, fun e => ?_, fun e d hd => ?_⟩
    · rw [q_X12_text_191, h34, if_pos (by omega), gk (lnR 8) 24 rfl (by omega) (by omega), gk (lnR 9) 24 rfl (by omega) (by omega), gk (lnR 10) 24 rfl (by omega) (by omega), gk (lnR 11) 24 rfl (by omega) (by omega), gk (lnR 12) 24 rfl (by omega) (by omega), gk (lnR 7) 24 rfl (by omega) (by omega), h21, up_cell (c := 8) (c' := 0) (by omega), h22, show ((i : Int)).toNat = i by omega, ← hA, A0, h22, A7, wr_eq (x := 1000 * (i : Int)) (by omega) (by omega), wr_eq (x := 1000 * (i : Int) + (D : Int)) (by omega) (by omega), gk (lnR 17) 24000 rfl (by omega) (by omega), wr_eq (x := X 7 i + 1) (by omega) (by omega), wr_eq (x := (i : Int) + 1) (by omega) (by omega), show (i : Int) + 1 = ((i + 1 : Nat) : Int) by omega, show (1000 * (i : Int) + (D : Int)).toNat = 1000 * i + D by omega]
      exact a1
    · rw [a2 c p q, up_cell q, hA, up_cell (by omega), up_cell (by omega), up_cell (by omega), up_cell (by omega), up_cell (by omega)]
    · rw [a3, up_cell (by omega), hA, up_cell (by omega), up_cell (by omega), up_cell (by omega), up_cell (by omega), up_if]
      by_cases z : e = i
      · rw [if_neg (by omega), if_pos z, if_pos (by omega)]
      · rw [if_neg z]
        by_cases y : i + 1 ≤ e ∧ e < S
        · rw [if_pos y, if_pos (by omega)]
        · rw [if_neg y, if_neg (by omega)]
    · rw [a4, up_cell (by omega), hA, up_cell (by omega), up_cell (by omega), up_cell (by omega), up_if, up_cell (by omega)]
      by_cases z : e = i
      · rw [if_neg (by omega), if_pos z, if_pos (by omega)]
      · rw [if_neg z]
        by_cases y : i + 1 ≤ e ∧ e < S
        · rw [if_pos y, if_pos (by omega)]
        · rw [if_neg y, if_neg (by omega)]
    · rw [a5, up_cell (by omega), hA, up_cell (by omega), up_cell (by omega), up_if, up_cell (by omega), up_cell (by omega)]
      by_cases z : e = i
      · rw [if_neg (by omega), if_pos z, if_pos (by omega)]
      · rw [if_neg z]
        by_cases y : i + 1 ≤ e ∧ e < S
        · rw [if_pos y, if_pos (by omega)]
        · rw [if_neg y, if_neg (by omega)]
    · rw [a6, up_cell (by omega), hA, up_cell (by omega), up_if, up_cell (by omega), up_cell (by omega), up_cell (by omega)]
      by_cases z : e = i
      · rw [if_neg (by omega), if_pos z, if_pos (by omega)]
      · rw [if_neg z]
        by_cases y : i + 1 ≤ e ∧ e < S
        · rw [if_pos y, if_pos (by omega)]
        · rw [if_neg y, if_neg (by omega)]
    · rw [a7, up_cell (by omega), hA, up_if, up_cell (by omega), up_cell (by omega), up_cell (by omega), up_cell (by omega)]
      by_cases z : e = i
      · rw [if_neg (by omega), if_pos z, if_pos (by omega)]
      · rw [if_neg z]
        by_cases y : i + 1 ≤ e ∧ e < S
        · rw [if_pos y, if_pos (by omega)]
        · rw [if_neg y, if_neg (by omega)]
    · rw [a8 e d hd, up_if, up_cell (c := 17) (c' := 7) (by omega), A7, A17]
      by_cases z : e = i ∧ d = D
      · rw [if_neg (by omega), if_pos (by omega), if_pos (by omega), z.1]
      · rw [if_neg (show ¬ 1000 * e + d = 1000 * i + D by omega)]
        by_cases y : i + 1 ≤ e ∧ e < S ∧ d = D
        · rw [if_pos y, if_pos (by omega)]
        · rw [if_neg y, if_neg (by omega)]
theorem okS_7 {μ ν : Mem} (hS : RelS μ ν) {e : Nat} (he : (e : Int) < ν 0 5) : 0 ≤ ν 7 e ∧ ν 7 e ≤ 3 := ⟨(hS.2.2.2.2.2.2.2.2 e he).2.2.2.2.2.1, (hS.2.2.2.2.2.2.2.2 e he).2.2.2.2.2.2.1⟩
/-- old rows of the reference, as lists -/
theorem OLDR.mL {ν0 ν : Mem} (h : OLDR ν0 ν) {w : Nat} (hw : (w : Int) < ν0 0 0) (h20 : (ν0 3 w).toNat ≤ 20) : _root_.Jvm.Pilot.CShownLibraryLaw_law_r3005_08f4c6.mL ν w = _root_.Jvm.Pilot.CShownLibraryLaw_law_r3005_08f4c6.mL ν0 w := by
  obtain ⟨a, b, c, d⟩ := h.2.2.1 w hw
  unfold _root_.Jvm.Pilot.CShownLibraryLaw_law_r3005_08f4c6.mL
  rw [c]
  refine List.ext_getElem? (fun q => ?_)
  by_cases z : q < (ν0 3 w).toNat
  · rw [sg_get z, sg_get z, d q (by omega)]
  · rw [List.getElem?_eq_none (by rw [sg_len]; omega), List.getElem?_eq_none (by rw [sg_len]; omega)]
theorem OLDR.sL {ν0 ν : Mem} (h : OLDR ν0 ν) {e k : Nat} (he : (e : Int) < ν0 0 5) (hk : k ≤ 1) (h20 : (ν0 6 (2 * e + k)).toNat ≤ 20) : _root_.Jvm.Pilot.CShownLibraryLaw_law_r3005_08f4c6.sL ν e k = _root_.Jvm.Pilot.CShownLibraryLaw_law_r3005_08f4c6.sL ν0 e k := by
  obtain ⟨a, b, c⟩ := h.2.2.2 e he
  unfold _root_.Jvm.Pilot.CShownLibraryLaw_law_r3005_08f4c6.sL
  rw [b k hk]
  refine List.ext_getElem? (fun q => ?_)
  by_cases z : q < (ν0 6 (2 * e + k)).toNat
  · rw [sg_get z, sg_get z, show 40 * e + 20 * k + q = 40 * e + (20 * k + q) by omega, c (20 * k + q) (by omega)]
  · rw [List.getElem?_eq_none (by rw [sg_len]; omega), List.getElem?_eq_none (by rw [sg_len]; omega)]
theorem good_end {μ0 ν0 μ ν : Mem} (h0 : Rel μ0 ν0) (h : TX μ0 ν0 μ ν) (m9 : μ 151 9 = 0) (n30 : ν 0 30 = 0) (n : Int) : ∃ ν', e_X12_text_191 n (ν0 0 5) (up (up ν 0 25 0) 0 0 (ν 0 23)) = some (some (vI n), ν') ∧ Rel (up μ 151 8 0) ν' := by
  obtain ⟨hT, hH, hW, hS, hP, hI, hD, hL, hG, hC⟩ := id h0
  obtain ⟨oc, orr, hRW, d, e, f, g, new⟩ := h
  have h24 := hS.2.1
  have h4 := hW.2.1
  obtain ⟨S0, hS0⟩ : ∃ S0 : Nat, ν0 0 5 = (S0 : Int) := ⟨(ν0 0 5).toNat, by have := hS.1; omega⟩
  obtain ⟨S, hSS⟩ : ∃ S : Nat, ν 0 34 = (S : Int) := ⟨(ν 0 34).toNat, by omega⟩
  obtain ⟨D, hDD⟩ : ∃ D : Nat, ν0 0 22 = (D : Int) := ⟨(ν0 0 22).toNat, by have := hH.2.2.1; omega⟩
  have D9 : D < 1000 := by have := hH.2.2.2; omega
  obtain ⟨X, hX⟩ : ∃ X, X = up (up ν 0 25 0) 0 0 (ν 0 23) := ⟨_, rfl⟩
  have Xc : ∀ c, c ≠ 0 → X c = ν c := fun c hc => by rw [hX, up_cell hc, up_cell hc]
  have X0 : ∀ k, k ≠ 0 → k ≠ 25 → X 0 k = ν 0 k := fun k p q => by rw [hX, up_slot p, up_slot q]
  have Xz : X 0 0 = ν 0 23 := by rw [hX, up_same]
  have X25 : X 0 25 = 0 := by rw [hX, up_slot (by omega), up_same]
  have z21 : ν 0 21 = ν0 0 21 := orr.2.1 21 (by omega) (by omega) (by omega) (by omega)
  have z22 : ν 0 22 = ν0 0 22 := orr.2.1 22 (by omega) (by omega) (by omega) (by omega)
  have newS : ∀ x : Nat, S0 ≤ x → x < S → 0 ≤ X 7 x ∧ X 7 x ≤ 1 := fun x x1 x2 => by
    have := (new x (by omega) (by omega)).2.2.2.2.2.1
    rw [Xc 7 (by omega)]
    omega
  obtain ⟨X', a1, a2, a3, a4, a5, a6, a7, a8⟩ := r_191 (n := n) (S := S) (D := D) (hd := ν0 0 21) (by omega) D9 (S - S0) S0 X (by omega) (by rw [X0 34 (by omega) (by omega)]; exact hSS) (by rw [X0 21 (by omega) (by omega)]; exact z21) (by rw [X0 22 (by omega) (by omega), z22]; exact hDD) newS
  refine ⟨_, by rw [← hX, hS0]; exact a1, ?_⟩
  obtain ⟨F, hF⟩ : ∃ F, F = up (up X' 0 5 (S : Int)) 0 68 0 := ⟨_, rfl⟩
  have Fc : ∀ c, c ≠ 0 → F c = X' c := fun c hc => by rw [hF, up_cell hc, up_cell hc]
  have F0 : ∀ k, k ≠ 5 → k ≠ 68 → F 0 k = X 0 k := fun k p q => by rw [hF, up_slot q, up_slot p, a2 0 (by omega) (by omega)]
  have F5 : F 0 5 = (S : Int) := by rw [hF, up_slot (by omega), up_same]
  have F68 : F 0 68 = 0 := by rw [hF, up_same]
  rw [← hF]
  clear hF hX
  have Fl : ∀ c, 1 ≤ c → c ≤ 7 → F c = ν c := fun c p q => by rw [Fc c (by omega), a2 c (by omega) (by omega), Xc c (by omega)]
  have Fh : ∀ c, 13 ≤ c → c ≠ 17 → F c = ν c := fun c p q => by rw [Fc c (by omega), a2 c (by omega) q, Xc c (by omega)]
  have FhO : ∀ c, 13 ≤ c → c ≠ 17 → c ≠ 19 → F c = ν0 c := fun c p q r => by rw [Fh c p q]; exact orr.1 c (by omega) r
  have Fz : F 0 0 = ν 0 23 := by rw [F0 0 (by omega) (by omega)]; exact Xz
  have F23 : F 0 23 = ν 0 23 := by rw [F0 23 (by omega) (by omega), X0 23 (by omega) (by omega)]
  have FO : ∀ k, k ≠ 0 → k ≠ 5 → k ≠ 23 → k ≠ 25 → ¬ (26 ≤ k ∧ k ≤ 31) → k ≠ 33 → k ≠ 34 → k ≠ 68 → F 0 k = ν0 0 k := fun k p0 p5 p23 p25 p26 p33 p34 p68 => by rw [F0 k p5 p68, X0 k p0 p25]; exact orr.2.1 k p23 p26 p33 p34
  have v0 : VW ν 0 0 = ν 0 23 := by unfold VW; rw [up_same]
  have vc : ∀ c, c ≠ 0 → VW ν c = ν c := fun c hc => by unfold VW; exact up_cell hc
  have v23 : VW ν 0 23 = ν 0 23 := by unfold VW; exact up_slot (by omega)
  have wbF' : wb F = wb ν := by funext x; unfold wb; rw [F23, Fl 1 (by omega) (by omega)]
  have arF : ar F = ar ν := by funext x; unfold ar; rw [wbF', Fl 2 (by omega) (by omega)]
  have mLF : _root_.Jvm.Pilot.CShownLibraryLaw_law_r3005_08f4c6.mL F = _root_.Jvm.Pilot.CShownLibraryLaw_law_r3005_08f4c6.mL ν := by
    funext w
    unfold _root_.Jvm.Pilot.CShownLibraryLaw_law_r3005_08f4c6.mL
    rw [Fl 3 (by omega) (by omega)]
    exact sg_congr (Fl 4 (by omega) (by omega))
  have sLF : _root_.Jvm.Pilot.CShownLibraryLaw_law_r3005_08f4c6.sL F = _root_.Jvm.Pilot.CShownLibraryLaw_law_r3005_08f4c6.sL ν := by
    funext a b
    unfold _root_.Jvm.Pilot.CShownLibraryLaw_law_r3005_08f4c6.sL
    rw [Fl 6 (by omega) (by omega)]
    exact sg_congr (Fl 5 (by omega) (by omega))
  have fcF : fcL F = fcL ν := by funext w; unfold fcL; rw [Fl 1 (by omega) (by omega), Fl 2 (by omega) (by omega)]
  have fcV : fcL (VW ν) = fcL ν := by funext w; unfold fcL; rw [vc 1 (by omega), vc 2 (by omega)]
  have RW : RelW μ F := by
    unfold RelW okW at hRW ⊢
    rw [Fz, F23, wbF', arF, mLF, fcF, Fl 1 (by omega) (by omega), Fl 2 (by omega) (by omega), Fl 3 (by omega) (by omega)]
    rw [v0, v23, VW_wb, VW_ar, VW_mL, fcV, vc 1 (by omega), vc 2 (by omega), vc 3 (by omega)] at hRW
    exact hRW
  have wbO : ∀ c, wb ν0 c ≠ -4 → wb F c = wb ν0 c := fun c hc => by
    rcases wb_range hW c with z | ⟨z1, z2, z3⟩
    · exact absurd z hc
    · have o1 := (orr.2.2.1 (wb ν0 c).toNat (by omega)).1
      have := wb_of RW (w := (wb ν0 c).toNat) (by rw [Fz]; omega)
      rw [Fl 1 (by omega) (by omega), o1, z3] at this
      omega
  have hE : EXT ν0 F := by
    refine ⟨fun w hw => ?_, wbO, by rw [Fz]; exact d, by rw [F5]; omega, fun x hx => ?_, FhO 14 (by omega) (by omega) (by omega), FhO 15 (by omega) (by omega) (by omega), FhO 16 (by omega) (by omega) (by omega), FO 15 (by omega) (by omega) (by omega) (by omega) (by omega) (by omega) (by omega) (by omega), FO 16 (by omega) (by omega) (by omega) (by omega) (by omega) (by omega) (by omega) (by omega)⟩
    · obtain ⟨q1, q2, q3, q4⟩ := orr.2.2.1 w hw
      have l20 := (hW.2.2.2.2.1 w hw).1.2.2.2.2.1
      rw [Fl 1 (by omega) (by omega), Fl 2 (by omega) (by omega), Fl 3 (by omega) (by omega), mLF]
      exact ⟨q1, q2, q3, orr.mL hw (by omega)⟩
    · obtain ⟨q1, q2, q3⟩ := orr.2.2.2 x hx
      have o8 : ∀ c, 8 ≤ c → c ≤ 12 → X c = ν0 c := fun c p q => by rw [Xc c (by omega)]; exact orr.1 c p (by omega)
      have nx : ¬ (S0 ≤ x ∧ x < S) := by omega
      have hs := hS.2.2.2.2.2.2.2.2 x hx
      refine ⟨fun k hk => ⟨?_, by rw [Fl 6 (by omega) (by omega)]; exact q2 k hk⟩, by rw [Fl 7 (by omega) (by omega)]; exact q1, by rw [Fc 8 (by omega), a3, if_neg nx, o8 8 (by omega) (by omega)], by rw [Fc 9 (by omega), a4, if_neg nx, o8 9 (by omega) (by omega)], by rw [Fc 10 (by omega), a5, if_neg nx, o8 10 (by omega) (by omega)], by rw [Fc 11 (by omega), a6, if_neg nx, o8 11 (by omega) (by omega)], by rw [Fc 12 (by omega), a7, if_neg nx, o8 12 (by omega) (by omega)], by rw [FhO 13 (by omega) (by omega) (by omega)]⟩
      rw [sLF]
      refine orr.sL hx hk ?_
      rcases (show k = 0 ∨ k = 1 by omega) with rfl | rfl
      · have := hs.1.2.1; omega
      · have := hs.2.1.2.1; omega
  -- the tape is empty now: what is old stands but for that number
  obtain ⟨b1, b2, b3, b4, b5⟩ := oc
  have U : ∀ c, c ≠ 151 → up μ 151 8 0 c = μ c := fun c hc => up_cell hc
  have oc' : OLDC (up μ0 151 8 0) ν0 (up μ 151 8 0) := ⟨fun x hx => by rw [U x (by omega), up_cell (by omega)]; exact b1 x hx, fun k hk => by rw [U 23 (by omega), up_cell (by omega)]; exact b2 k hk, fun x hx j hj => by rw [U _ (by omega), up_cell (by omega)]; exact b3 x hx j hj, fun k k1 k2 k3 k4 => by
    by_cases z : k = 8
    · rw [z, up_same, up_same]
    · rw [up_slot z, up_slot z]; exact b4 k k1 k2 k3 k4, fun w hw => by
    rw [U 2 (by omega), U 3 (by omega), up_cell (c := 151) (c' := 2) (by omega), up_cell (c := 151) (c' := 3) (by omega)]
    obtain ⟨c1, c2, c3⟩ := b5 w hw
    exact ⟨c1, c2, fun j hj => by rw [U _ (by omega), up_cell (by omega)]; exact c3 j hj⟩⟩
  -- the relation with an emptied tape on both sides
  have h0' : Rel (up μ0 151 8 0) (up ν0 0 25 0) := rel_T h0 (fun c p _ => up_cell p) (fun c p _ => up_cell p) (fun k p _ _ => up_slot p) ⟨by rw [up_same, up_same], by rw [up_same]; decide, by rw [up_same]; decide, by rw [up_slot (by omega), up_slot (by omega)]; exact hT.2.2.2.1, fun i hi => by rw [up_same] at hi; omega⟩
  have zz : ∀ k, k ≠ 25 → up ν0 0 25 0 0 k = ν0 0 k := fun k hk => up_slot hk
  have zc : ∀ c, c ≠ 0 → up ν0 0 25 0 c = ν0 c := fun c hc => up_cell hc
  have M25 : FrM ν0 (up ν0 0 25 0) := frM_up0 (by omega)
  have hE' : EXT (up ν0 0 25 0) F := by
    unfold EXT at hE ⊢
    rw [zz 0 (by omega), zz 5 (by omega), zz 15 (by omega), zz 16 (by omega), frM_mL M25, frM_wb M25, frM_sL M25, zc 1 (by omega), zc 2 (by omega), zc 3 (by omega), zc 6 (by omega), zc 7 (by omega), zc 8 (by omega), zc 9 (by omega), zc 10 (by omega), zc 11 (by omega), zc 12 (by omega), zc 13 (by omega), zc 14 (by omega), zc 15 (by omega), zc 16 (by omega)]
    exact hE
  have oc'' : OLDC (up μ0 151 8 0) (up ν0 0 25 0) (up μ 151 8 0) := by
    unfold OLDC at oc' ⊢
    rw [zz 5 (by omega), zz 0 (by omega)]
    exact oc'
  refine fin_rel h0' hE' (RW.kept (fun c _ _ => U c (by omega))) oc'' ⟨?_, ?_, ?_, ?_, fun i hi => ?_⟩ (by rw [zz 21 (by omega)]; exact FO 21 (by omega) (by omega) (by omega) (by omega) (by omega) (by omega) (by omega) (by omega)) (by rw [zz 22 (by omega)]; exact FO 22 (by omega) (by omega) (by omega) (by omega) (by omega) (by omega) (by omega) (by omega)) (by rw [F5]; omega) (by rw [U 23 (by omega), F5, g]; exact hSS) (fun x x1 x2 => ?_) (fun x y hx hy => ?_) (by rw [zc 26 (by omega)]; exact FhO 26 (by omega) (by omega) (by omega)) (by rw [zc 27 (by omega)]; exact FhO 27 (by omega) (by omega) (by omega)) (by rw [zc 28 (by omega)]; exact FhO 28 (by omega) (by omega) (by omega)) (by rw [zz 45 (by omega)]; exact FO 45 (by omega) (by omega) (by omega) (by omega) (by omega) (by omega) (by omega) (by omega)) (by rw [zz 46 (by omega)]; exact FO 46 (by omega) (by omega) (by omega) (by omega) (by omega) (by omega) (by omega) (by omega)) (by rw [zc 51 (by omega)]; exact FhO 51 (by omega) (by omega) (by omega)) (by rw [zc 52 (by omega)]; exact FhO 52 (by omega) (by omega) (by omega)) (by rw [zc 53 (by omega)]; exact FhO 53 (by omega) (by omega) (by omega)) (Or.inl F68)
  · rw [up_same, F0 25 (by omega) (by omega), X25]
  · rw [F0 25 (by omega) (by omega), X25]; decide
  · rw [F0 25 (by omega) (by omega), X25]; decide
  · rw [up_slot (by omega), m9, F0 30 (by omega) (by omega), X0 30 (by omega) (by omega), n30]
  · rw [F0 25 (by omega) (by omega), X25] at hi; omega
  · rw [zz 5 (by omega)] at x1
    rw [F5] at x2
    obtain ⟨q1, q2, q3, q4, q5, q6, q7, q8, q9⟩ := new x x1 (by omega)
    have yx : S0 ≤ x ∧ x < S := by omega
    unfold okS at q1 q2 ⊢
    unfold TH at q3 q4 ⊢
    rw [sLF, arF, Fl 6 (by omega) (by omega), Fl 7 (by omega) (by omega), U (31 + 5 * x) (by omega), U (32 + 5 * x) (by omega), U (32 + 5 * x + 1) (by omega), U (34 + 5 * x) (by omega), U (34 + 5 * x + 1) (by omega), Fc 8 (by omega), a3, if_pos yx, Fc 9 (by omega), a4, if_pos yx, Fc 10 (by omega), a5, if_pos yx, Fc 11 (by omega), a6, if_pos yx, zz 22 (by omega), hDD]
    rw [hDD] at q8
    exact ⟨q1, q2, q3, q4, q5, q6, q7, q8, rfl, rfl, q9, rfl⟩
  · rw [Fc 17 (by omega), a8 x y hy, zz 5 (by omega), zz 22 (by omega), F5, zc 17 (by omega), Fl 7 (by omega) (by omega), Xc 7 (by omega), Xc 17 (by omega), orr.1 17 (by omega) (by omega)]
    by_cases z : S0 ≤ x ∧ x < S ∧ y = D
    · rw [if_pos z, if_pos (by omega)]
    · rw [if_neg z, if_neg (by omega)]
