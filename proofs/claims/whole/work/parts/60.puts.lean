/-! which words a PROOF puts in or out (the reference) -/
theorem stp_place {ν : Mem} {T T' : List Int} {kind which place : Int} (h : stp ν kind which place T = .inr T') : 0 ≤ place ∧ place < (T.length : Int) := by
  unfold stp at h
  split at h
  · cases h
  · omega
theorem wb_iff {μ ν : Mem} (hW : RelW μ ν) {w : Nat} (hw : (w : Int) < ν 0 0) (x : Int) : wb ν x = (w : Int) ↔ x = ν 1 w := by
  constructor
  · intro q
    rcases wb_range hW x with z | ⟨_, _, z⟩
    · omega
    · rw [q, show ((w : Int)).toNat = w by omega] at z
      exact z.symm
  · intro q
    rw [q]
    exact wb_of hW hw
theorem s_pw {μ ν : Mem} (hW : RelW μ ν) (hS : RelS μ ν) (hP : RelP μ ν) {e w : Nat} (he : (e : Int) < ν 0 5) (h7 : ν 7 e = 2) (hw : (w : Int) < ν 0 0) : ∀ (j i : Nat) (fl : Int) (o5 : Option AV) (ν1 : Mem) (T : List Int), ν 11 e = ((i + j : Nat) : Int) → (fl = 0 ∨ fl = 1) → FrV ν ν1 → RT ν1 20 36 T → okT ν T → (rnS ν (ν 14) (ν 15) (ν 16) ((ν 10 e).toNat + i) j T).isSome → ∃ r ν', e_X12_putsWord_10 e w fl i o5 ν1 = some (some (vI r), ν') ∧ FrV ν ν' ∧ (r = 0 ∨ r = 1) ∧ (r = 1 ↔ (fl = 1 ∨ ptsS ν (ν 14) (ν 15) (ν 16) w ((ν 10 e).toNat + i) j T))
  | 0, i, fl, o5, ν1, T, hj, hfl, hf, hT, hok, hr => by
    have h24 := hS.2.1
    rw [q_X12_putsWord_10, gk (lnR 11) 24 rfl (by omega) (by omega), show ((e : Int)).toNat = e by omega, hf.1 11 (by omega) (by omega), hj, if_neg (by omega), gz_t hfl]
    exact ⟨fl, ν1, rfl, hf, hfl, ⟨Or.inl, fun q => q.elim id False.elim⟩⟩
  | j + 1, i, fl, o5, ν1, T, hj, hfl, hf, hT, hok, hr => by
    have h24 := hS.2.1
    have h4 := hW.2.1
    have hs := (hS.2.2.2.2.2.2.2.2 e he).2.2.2.2.2.2.2.2.2.2.1 (by omega)
    have h16 := hS.2.2.2.2.1
    have h20 := hok.2.2
    obtain ⟨p1, p2, p3, p4, p5, p6, p7, p8⟩ := hP ((ν 10 e).toNat + i) (by omega)
    generalize hq : (ν 10 e).toNat + i = q at *
    have hM := frV_M hf
    cases hst : stp ν (ν 14 q) (ν 15 q) (ν 16 q) T with
    | inl er =>
      have : rnS ν (ν 14) (ν 15) (ν 16) q (j + 1) T = none := by
        show (match stp ν (ν 14 q) (ν 15 q) (ν 16 q) T with
          | .inl _ => none
          | .inr T' => rnS ν (ν 14) (ν 15) (ν 16) (q + 1) j T') = none
        rw [hst]
      rw [this] at hr
      cases hr
    | inr T' =>
      have hrn : rnS ν (ν 14) (ν 15) (ν 16) q (j + 1) T = rnS ν (ν 14) (ν 15) (ν 16) (q + 1) j T' := by
        show (match stp ν (ν 14 q) (ν 15 q) (ν 16 q) T with
          | .inl _ => none
          | .inr T' => rnS ν (ν 14) (ν 15) (ν 16) (q + 1) j T') = _
        rw [hst]
      have hpt : ptsS ν (ν 14) (ν 15) (ν 16) w q (j + 1) T ↔ (ptw ν (ν 14 q) (ν 15 q) (ν 16 q) T = (w : Int) ∨ ptsS ν (ν 14) (ν 15) (ν 16) w (q + 1) j T') := by
        show (ptw ν (ν 14 q) (ν 15 q) (ν 16 q) T = (w : Int) ∨ match stp ν (ν 14 q) (ν 15 q) (ν 16 q) T with
          | .inl _ => False
          | .inr T' => ptsS ν (ν 14) (ν 15) (ν 16) w (q + 1) j T') ↔ _
        rw [hst]
      rw [hrn] at hr
      have hpl := stp_place hst
      obtain ⟨r, ν2, a1, a2, a3⟩ := s_stepsR (kind := ν 14 q) (which := ν 15 q) (place := ν 16 q) (hW.keptR hM) (hS.keptR hM (hf.2 15 (by omega) (by omega) (by omega) (by omega)) (hf.2 16 (by omega) (by omega) (by omega) (by omega))) (by rw [frM_ar hM]; exact hok.1) hT ⟨p4, p5⟩
      rw [frM_stp hM, hst] at a3
      obtain ⟨ν3, b1, b2, b3⟩ := s_goes a3.2
      have nx : ∀ fl2 : Int, (fl2 = 0 ∨ fl2 = 1) → ∀ o5, ∃ r ν', e_X12_putsWord_10 e w fl2 ((i + 1 : Nat) : Int) o5 ν3 = some (some (vI r), ν') ∧ FrV ν ν' ∧ (r = 0 ∨ r = 1) ∧ (r = 1 ↔ (fl2 = 1 ∨ ptsS ν (ν 14) (ν 15) (ν 16) w (q + 1) j T')) := fun fl2 hfl2 o5 => by
        have := s_pw hW hS hP he h7 hw j (i + 1) fl2 o5 ν3 T' (by omega) hfl2 (frV_trans hf (frV_trans (frV_S a2) (frV_G b2))) b3 (stp_inr hW hS hok ⟨p4, p5⟩ hst) (by rw [show (ν 10 e).toNat + (i + 1) = q + 1 by omega]; exact hr)
        rw [show (ν 10 e).toNat + (i + 1) = q + 1 by omega] at this
        exact this
      have g90 : ∀ o3, e_X12_putsWord_90 e w o3 i (q : Int) ν1 = e_X12_putsWord_10 e w 1 ((i + 1 : Nat) : Int) (some (vI (q : Int))) ν3 := fun o3 => by
        rw [q_X12_putsWord_90, gk (lnR 14) 200 rfl (by omega) (by omega), gk (lnR 15) 200 rfl (by omega) (by omega), gk (lnR 16) 200 rfl (by omega) (by omega), show ((q : Int)).toNat = q by omega, hf.1 14 (by omega) (by omega), hf.1 15 (by omega) (by omega), hf.1 16 (by omega) (by omega), a1, cI_t, b1, cV_t, wr_eq (x := (i : Int) + 1) (by omega) (by omega), show (i : Int) + 1 = ((i + 1 : Nat) : Int) by omega]
      have g94 : ∀ o3, e_X12_putsWord_94 e w o3 i (q : Int) ν1 = e_X12_putsWord_10 e w 0 ((i + 1 : Nat) : Int) (some (vI (q : Int))) ν3 := fun o3 => by
        rw [q_X12_putsWord_94, gk (lnR 14) 200 rfl (by omega) (by omega), gk (lnR 15) 200 rfl (by omega) (by omega), gk (lnR 16) 200 rfl (by omega) (by omega), show ((q : Int)).toNat = q by omega, hf.1 14 (by omega) (by omega), hf.1 15 (by omega) (by omega), hf.1 16 (by omega) (by omega), a1, cI_t, b1, cV_t, wr_eq (x := (i : Int) + 1) (by omega) (by omega), show (i : Int) + 1 = ((i + 1 : Nat) : Int) by omega]
      have fin1 : Unit → ptw ν (ν 14 q) (ν 15 q) (ν 16 q) T = (w : Int) → ∃ r ν', e_X12_putsWord_10 e w 1 ((i + 1 : Nat) : Int) (some (vI (q : Int))) ν3 = some (some (vI r), ν') ∧ FrV ν ν' ∧ (r = 0 ∨ r = 1) ∧ (r = 1 ↔ ((0 : Int) = 1 ∨ ptsS ν (ν 14) (ν 15) (ν 16) w q (j + 1) T)) := fun _ hp => by
        obtain ⟨r, ν', c1, c2, c3, c4⟩ := nx 1 (Or.inr rfl) (some (vI (q : Int)))
        exact ⟨r, ν', c1, c2, c3, ⟨fun _ => Or.inr (hpt.mpr (Or.inl hp)), fun _ => c4.mpr (Or.inl rfl)⟩⟩
      have fin0 : Unit → ¬ ptw ν (ν 14 q) (ν 15 q) (ν 16 q) T = (w : Int) → ∃ r ν', e_X12_putsWord_10 e w 0 ((i + 1 : Nat) : Int) (some (vI (q : Int))) ν3 = some (some (vI r), ν') ∧ FrV ν ν' ∧ (r = 0 ∨ r = 1) ∧ (r = 1 ↔ ((0 : Int) = 1 ∨ ptsS ν (ν 14) (ν 15) (ν 16) w q (j + 1) T)) := fun _ hp => by
        obtain ⟨r, ν', c1, c2, c3, c4⟩ := nx 0 (Or.inl rfl) (some (vI (q : Int)))
        refine ⟨r, ν', c1, c2, c3, c4.trans ⟨fun z => z.elim Or.inl (fun z => Or.inr (hpt.mpr (Or.inr z))), fun z => z.elim Or.inl (fun z => (hpt.mp z).elim (fun y => absurd y hp) Or.inr)⟩⟩
      rw [q_X12_putsWord_10, gk (lnR 11) 24 rfl (by omega) (by omega), show ((e : Int)).toNat = e by omega, hf.1 11 (by omega) (by omega), hj, if_pos (by omega), gk (lnR 10) 24 rfl (by omega) (by omega), hf.1 10 (by omega) (by omega), wr_eq (x := ν 10 e + (i : Int)) (by omega) (by omega), show ν 10 e + (i : Int) = (q : Int) by omega]
      rcases hfl with rfl | rfl
      · rw [if_pos rfl, gk (lnR 14) 200 rfl (by omega) (by omega), show ((q : Int)).toNat = q by omega, hf.1 14 (by omega) (by omega), gk (lnR 15) 200 rfl (by omega) (by omega), hf.1 15 (by omega) (by omega), g90, q_X12_putsWord_58, gk (lnR 14) 200 rfl (by omega) (by omega), show ((q : Int)).toNat = q by omega, hf.1 14 (by omega) (by omega), g94]
        by_cases k3 : ν 14 q = 3
        · have hp3 : ptw ν (ν 14 q) (ν 15 q) (ν 16 q) T = ν 15 q := by
            unfold ptw
            rw [if_neg (by omega), if_pos k3]
          rw [if_pos k3]
          by_cases w3 : ν 15 q = (w : Int)
          · rw [if_pos w3]
            exact fin1 () (by rw [hp3]; exact w3)
          · rw [if_neg w3, if_neg (by omega)]
            exact fin0 () (by rw [hp3]; exact w3)
        · rw [if_neg k3]
          by_cases k2 : ν 14 q = 2
          · obtain ⟨P, hPp⟩ : ∃ P : Nat, ν 16 q = (P : Int) := ⟨(ν 16 q).toNat, by omega⟩
            have hPl : P < T.length := by omega
            have hat : atL T (P : Int) = T[P] := atL_in (by omega) (by rw [show ((P : Int)).toNat = P by omega]; exact List.getElem?_eq_getElem hPl)
            have hp2 : ptw ν (ν 14 q) (ν 15 q) (ν 16 q) T = wb ν T[P] := by
              unfold ptw
              rw [if_pos k2, hPp, hat]
            rw [if_pos k2, gk (lnR 16) 200 rfl (by omega) (by omega), hf.1 16 (by omega) (by omega), hPp, gk (lnR 20) 20 rfl (by omega) (by omega), gk (lnR 1) 4 rfl (by omega) (by omega), show ((P : Int)).toNat = P by omega, show ((w : Int)).toNat = w by omega, hT.1.get hPl, hf.1 1 (by omega) (by omega), g90]
            by_cases w2 : T[P] = ν 1 w
            · rw [if_pos w2]
              exact fin1 () (by rw [hp2]; exact (wb_iff hW hw _).mpr w2)
            · rw [if_neg w2]
              exact fin0 () (by rw [hp2]; exact fun z => w2 ((wb_iff hW hw _).mp z))
          · rw [if_neg k2]
            refine fin0 () ?_
            unfold ptw
            rw [if_neg k2, if_neg k3]
            omega
      · rw [if_neg ten, g90]
        obtain ⟨r, ν', c1, c2, c3, c4⟩ := nx 1 (Or.inr rfl) (some (vI (q : Int)))
        exact ⟨r, ν', c1, c2, c3, ⟨fun _ => Or.inl rfl, fun _ => c4.mpr (Or.inl rfl)⟩⟩
