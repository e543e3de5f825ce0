/-! seek: one PLACE, on both sides -/
section SK
variable {μ0 ν : Mem} {e n s fr : Nat} {T : List Int}
theorem sk_meet {μ X : Mem} {m : Nat} {Tm : Nat → List Int} {S : List Int} {kind which which' : Int} {place : Nat} (h : Rel μ0 ν) (he : (e : Int) < ν 0 5) (hn : n ≤ 8) (hI : SI μ X ν e n s m Tm) (F : Fr μ0 μ scr) (G : FrR ν X) (hfr : fr < m) (hdp : X 33 fr < (n : Int)) (hFC : FC μ ν (271 + 2 * fr) (Tm fr)) (hRT : RT X 20 36 (Tm fr)) (hk : 0 ≤ kind ∧ kind ≤ 3) (hw : kind = 2 → which = -4) (hw' : kind ≠ 2 → which' = which) (hst : stp ν kind which place (Tm fr) = .inr S) (hS : TH μ 269 S) (hS2 : RT X 21 38 S) (h61 : X 0 61 = -4) (h62 : X 0 62 = 0) :
    ∃ μ' X' o7', f_X4_meet [vR 4 259, vR 8 (34 + 5 * e), vI fr, vI kind, vI which, vI place] μ = some (none, μ') ∧ ST μ0 ν e n s fr (Tm fr) μ' X' ∧
      cI (f_X12_hashOf [vR 12 0, vR 20 21, vI (X 0 38)] X) (fun x4 μ3 => cI (f_X12_isMet [vR 12 0, vI x4] μ3) (fun x6 μ5 => if x6 = 0 then if (μ5 0 60) = 250 then e_X12_seeks_88 e fr s kind which' place x4 1 μ5 else e_X12_seeks_88 e fr s kind which' place x4 0 μ5 else e_X12_seeks_3 e fr s kind which' (wr ((place : Int) + 1)) (some (vI x4)) μ5)) = e_X12_seeks_3 e fr s kind which' (wr ((place : Int) + 1)) o7' X' := by
  have hr := rel_scr h F
  have hW := hr.2.2.1
  have hSy := hr.2.2.2.1
  have h24 := hSy.2.1
  have hM := frR_M G
  have hCK := hI.1
  have hRK := hI.2.1
  have hok := hI.2.2.2.1
  obtain ⟨o0, o1, t0, t1, _⟩ := hSy.2.2.2.2.2.2.2.2 e he
  have hokS : okT ν S := stp_inr hW hSy (hok fr hfr).1 hk hst
  have hb := hC_b S
  obtain ⟨hc, ehc⟩ : ∃ hc : Nat, hC S = (hc : Int) := ⟨(hC S).toNat, by omega⟩
  have g := hCK.2.2.2.1 hc (by omega)
  rw [← ehc] at g
  have eM : f_X4_meet [vR 4 259, vR 8 (34 + 5 * e), vI fr, vI kind, vI which, vI place] μ = e_X4_meet_25 (34 + 5 * e) fr kind which place (hC S) (μ 266 hc) 0 μ := by
    rw [q_X4_meet, s_markH hS, cI_t]
    show gi (hC S) (lnC 266) (e_X4_meet_25 (34 + 5 * e) fr kind which place (hC S) (μ 266 (hC S).toNat) 0 μ) = _
    rw [gk (lnC 266) 256 rfl (by omega) (by omega), ehc, show ((hc : Int)).toNat = hc by omega]
  obtain ⟨r, b1, b2, b3⟩ := r_isMet hRK hS2
  rw [hS2.2, r_hash hS2, cI_t, b1, cI_t]
  rcases s_meet25 (rc := 34 + 5 * e) (f := fr) (k := kind) (w := which) (p := place) hCK hS m m 0 _ (Nat.le_refl _) (Nat.le_refl _) (by omega) g with ⟨x1, x2⟩ | ⟨x1, o7, o8, x2⟩
  · have x2' : e_X4_meet_25 (34 + 5 * e) fr kind which place (hC S) (μ 266 hc) 0 μ = _ := x2
    rw [if_neg (show ¬ r = 0 by have := b3.mpr x1; omega)]
    exact ⟨μ, X, _, eM.trans x2', ⟨m, Tm, hI, F, G, hfr, rfl, hFC, hRT, hdp⟩, rfl⟩
  · have x2' : e_X4_meet_25 (34 + 5 * e) fr kind which place (hC S) (μ 266 hc) 0 μ = _ := x2
    have r0 : r = 0 := by
      rcases b2 with q | q
      · exact q
      · exact absurd (b3.mp q) x1
    have c17 := hCK.1
    have m250 := hCK.2.1
    rw [if_pos r0, hRK.1]
    by_cases q : m = 250
    · have F1 : Fr μ (up μ 259 16 1) (fun c => c = 259) := Fr.up rfl
      refine ⟨up μ 259 16 1, up X 0 62 1, some (vI (hR S)), ?_, ⟨m, Tm, ?_, F.trans (F1.mono (fun c hc => scr_of (by omega))), frR_trans G (frR_up0 (by unfold scrK; omega)), hfr, rfl, hFC.keptT (by rw [up_cell (by omega)]) (up_cell (by omega)) (up_cell (by omega)) (up_cell (by omega)), ⟨hRT.1.kept (up_cell (by omega)), by rw [up_slot (by omega)]; exact hRT.2⟩, by rw [up_cell (by omega)]; exact hdp⟩, ?_⟩
      · rw [eM, x2', q_X4_meet_80, c17, if_neg (by omega), gz_1]
      · obtain ⟨a, b, c, d, p, qq, ⟨u1, u2⟩, v⟩ := hI
        refine ⟨a.kept (fun c hc => up_cell (by omega)) (up_slot (by omega)), b.kept (fun c _ _ => up_cell (by omega)) (up_slot (by omega)), by rw [up_cell (by omega)]; exact c, by rw [up_cell (by omega), up_cell (by omega)]; exact d, ?_, by rw [up_slot (by omega), up_slot (by omega)]; exact qq, ⟨by rw [up_same, up_same], by rw [up_same]; exact Or.inr rfl⟩, by rw [up_slot (by omega), up_slot (by omega)]; exact v⟩
        rw [up_cell (by omega), up_cell (by omega), up_cell (by omega), up_cell (by omega), up_cell (by omega), up_cell (by omega), up_cell (by omega), up_cell (by omega), up_cell (by omega)]
        exact p
      · rw [if_pos (by omega), q_X12_seeks_88, up_same, if_neg (by decide), gz_1]
    · have hfd := hok fr hfr
      have R1 : TH μ (34 + 5 * e) (sL ν e 1) := t1
      obtain ⟨μ', y1, y2, y3, y4, y5, y6, y7, y8, y9⟩ := s_meet80 (k := kind) (w := which) (p := place) (f := fr) (o7 := o7) (o8 := o8) hCK (by omega) hS hokS.2.1 hokS.2.2 R1 (by omega) (Or.inr (by omega)) (fun _ => by rw [show ((fr : Int)).toNat = fr by omega]; omega)
      obtain ⟨X', z1, z2, z3, z4, z5, z6, z7, z8⟩ := r_meets (k := kind) (w := which) (p := place) (f := fr) hRK (by omega) hS2 (Or.inr (by omega)) (fun _ => by rw [show ((fr : Int)).toNat = fr by omega]; omega)
      rw [if_neg (show ¬ (fr : Int) = -4 by omega), show ((fr : Int)).toNat = fr by omega] at y8 z5
      have hS3 : RT X' 21 38 S := ⟨⟨hS2.1.1, fun i x hx => by rw [z2 21 i (by omega) (by omega) (by omega) (by omega)]; exact hS2.1.2 i x hx⟩, by rw [z2 0 38 (by omega) (by omega) (by omega) (by omega)]; exact hS2.2⟩
      have sl1 : (sL ν e 1).length = (ν 6 (2 * e + 1)).toNat := sg_len ..
      have p1 := o1.1
      have tr := r_thenR (X := X') (e := e) (S := S) (R := sL ν e 1) (by omega) hS3 (by rw [z2 6 _ (by omega) (by omega) (by omega) (by omega), frM_c hM (by omega)]; omega) (isT_ne hokS.1) (fun i x hx => by
        have hi : i < (ν 6 (2 * e + 1)).toNat := by
          by_cases y : i < (sL ν e 1).length
          · omega
          · rw [List.getElem?_eq_none (by omega)] at hx; cases hx
        have hx' : (sL ν e 1)[i]? = some (ν 5 (40 * e + 20 * 1 + i)) := sg_get hi
        rw [hx'] at hx
        rw [z2 5 _ (by omega) (by omega) (by omega) (by omega), frM_c hM (by omega)]
        exact Option.some.inj hx)
      have x61 : X' 0 61 = X 0 61 := z2 0 61 (by omega) (by omega) (by omega) (by omega)
      have x60 : X' 0 60 = ((m + 1 : Nat) : Int) := z3.1
      have ref : e_X12_seeks_88 e fr s kind which' place (hR S) 0 X = e_X12_seeks_3 e fr s kind which' (wr ((place : Int) + 1)) (some (vI (hR S))) (up X' 0 61 (if S = sL ν e 1 then (m : Int) else X 0 61)) := by
        rw [q_X12_seeks_88, up_same, if_pos rfl, gz_0, up_id h62]
        have fin : ∀ Y : Int, Y = which → cV (f_X12_meets [vR 12 0, vI (hR S), vI fr, vI kind, vI Y, vI place] X) (fun μ4 => cI (f_X12_isThenRight [vR 12 0, vI e] μ4) (fun x6 μ5 => if x6 = 0 then e_X12_seeks_3 e fr s kind which' (wr ((place : Int) + 1)) (some (vI (hR S))) (up μ5 0 61 (μ5 0 61)) else e_X12_seeks_3 e fr s kind which' (wr ((place : Int) + 1)) (some (vI (hR S))) (up μ5 0 61 (wr ((μ5 0 60) - 1))))) = e_X12_seeks_3 e fr s kind which' (wr ((place : Int) + 1)) (some (vI (hR S))) (up X' 0 61 (if S = sL ν e 1 then (m : Int) else X 0 61)) := fun Y hY => by
          rw [hY, z1, cV_t, tr, cI_t]
          by_cases w : S = sL ν e 1
          · rw [if_pos w, if_pos w, if_neg (by decide), x60, wr_eq (x := ((m + 1 : Nat) : Int) - 1) (by omega) (by omega), show ((m + 1 : Nat) : Int) - 1 = (m : Int) by omega]
          · rw [if_neg w, if_neg w, if_pos rfl, x61]
        by_cases w : kind = 2
        · rw [if_pos w]; exact fin (-4) (hw w).symm
        · rw [if_neg w]; exact fin which' (hw' w)
      obtain ⟨X2, eX2⟩ : ∃ X2, X2 = up X' 0 61 (if S = sL ν e 1 then (m : Int) else X 0 61) := ⟨_, rfl⟩
      rw [← eX2] at ref
      have k2 : ∀ c i, ¬ (c = 0 ∧ i = 61) → X2 c i = X' c i := fun c i hh => by rw [eX2, up_ne hh]
      have kc : ∀ c, c ≠ 0 → X2 c = X' c := fun c hh => by rw [eX2, up_cell hh]
      refine ⟨μ', X2, some (vI (hR S)), ?_, ⟨m + 1, exN Tm m S, ?_, ?_, ?_, by omega, exN_o hfr, ?_, ?_, ?_⟩, ?_⟩
      · rw [eM, x2', y1]
      · refine SI_add (hc := (hC S).toNat) (hr := (hR S).toNat) (k := kind) (w := which) (p := place) hI hfr hdp hk hw hst hokS y3 (z3.kept (fun c _ _ => kc c (by omega)) (k2 0 60 (by omega))) y2 (fun c i q1 q2 q3 q4 => ?_) y4 y5 y6 y7 y8 y9 (by rw [kc 32 (by omega)]; exact z4) (by rw [kc 33 (by omega)]; exact z5) (by rw [kc 34 (by omega)]; exact z6) (by rw [kc 35 (by omega)]; exact z7) (by rw [kc 36 (by omega)]; exact z8) (by rw [eX2, up_same])
        rw [k2 c i (by omega), z2 c i q1 q2 q3 (by omega)]
      · refine F.trans (fun c hcc => ?_)
        unfold scr at hcc
        funext i
        exact y2 c i (by omega) (by omega) (by omega) (by omega) (by omega)
      · refine frR_trans G ⟨fun c q1 q2 => ?_, fun q hq => ?_⟩
        · unfold scrR at q1
          funext i
          rw [k2 c i (by omega), z2 c i (by omega) (by omega) (by omega) (by omega)]
        · unfold scrK at hq
          rw [k2 0 q (by omega), z2 0 q (by omega) (by omega) (by omega) (by omega)]
      · exact hFC.keptT (y2 157 2 (by omega) (by omega) (by omega) (by omega) (by omega)) (funext fun i => y2 160 i (by omega) (by omega) (by omega) (by omega) (by omega)) (funext fun i => y2 _ i (by omega) (by omega) (by omega) (by omega) (by omega)) (funext fun i => y2 _ i (by omega) (by omega) (by omega) (by omega) (by omega))
      · exact ⟨hRT.1.kept (funext fun i => by rw [k2 20 i (by omega), z2 20 i (by omega) (by omega) (by omega) (by omega)]), by rw [k2 0 36 (by omega), z2 0 36 (by omega) (by omega) (by omega) (by omega)]; exact hRT.2⟩
      · rw [k2 33 fr (by omega), z2 33 fr (by omega) (by omega) (by omega) (by omega)]; exact hdp
      · rw [if_neg (by omega), ref]
end SK
