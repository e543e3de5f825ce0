/-! seek: all PLACES, all STEPS, on both sides -/
theorem s_over {μ : Mem} {a b : Int} (h16 : μ 259 16 = a) (h15 : μ 259 15 = b) (ha : a = 0 ∨ a = 1) (hb : b = -4 ∨ 0 ≤ b) : f_X4_isOver [vR 4 259] μ = some (some (vI (if a = 0 ∧ b = -4 then 0 else 1)), μ) := by
  rw [q_X4_isOver, h16, h15, gz_0, gz_1]
  rcases ha with q | q
  · rw [if_pos q]
    rcases hb with z | z
    · rw [if_pos (by omega), if_pos ⟨q, z⟩]
    · rw [if_neg (by omega), if_neg (by omega)]
  · rw [if_neg (by omega), if_neg (by omega)]
section SK
variable {μ0 ν : Mem} {e n s fr : Nat} {T : List Int}
theorem ST_flags {μ X : Mem} (h : ST μ0 ν e n s fr T μ X) : (μ 259 16 = X 0 62 ∧ (X 0 62 = 0 ∨ X 0 62 = 1)) ∧ μ 259 15 = X 0 61 ∧ (X 0 61 = -4 ∨ 0 ≤ X 0 61) := by
  obtain ⟨m, Tm, hI, _⟩ := h
  refine ⟨hI.2.2.2.2.2.2.1, hI.2.2.2.2.2.2.2.1, ?_⟩
  rcases hI.2.2.2.2.2.2.2.2 with q | ⟨k, _, q, _⟩
  · exact Or.inl q
  · exact Or.inr (by omega)
theorem sk_one {μ X : Mem} {kind which which' : Int} {place : Nat} (h : Rel μ0 ν) (he : (e : Int) < ν 0 5) (hop : ν 7 e = 1 ∨ ν 7 e = 3) (hn : n ≤ 8) (hs : s ≤ 20) (hk : 0 ≤ kind ∧ kind ≤ 3) (hw : kind = 2 → which = -4) (hw' : kind ≠ 2 → which' = which) (hp : place < T.length) (hst : ST μ0 ν e n s fr T μ X) (h61 : X 0 61 = -4) (h62 : X 0 62 = 0) (o6 o7 : Option AV) :
    ∃ μ' X' o6' o7', ST μ0 ν e n s fr T μ' X' ∧ e_X4_tryPlaces_3 fr kind which (34 + 5 * e) place o6 μ = e_X4_tryPlaces_3 fr kind which (34 + 5 * e) ((place + 1 : Nat) : Int) o6' μ' ∧ e_X12_seeks_3 e fr s kind which' place o7 X = e_X12_seeks_3 e fr s kind which' ((place + 1 : Nat) : Int) o7' X' := by
  have fl := ST_flags hst
  obtain ⟨m, Tm, hI, F, G, hfr, hT, hFC, hRT, hdp⟩ := hst
  subst hT
  have hr := rel_scr h F
  have hW := hr.2.2.1
  have hSy := hr.2.2.2.1
  have hrX := rel_scrR hr G
  have hM := frR_M G
  have hok := (hI.2.2.2.1 fr hfr).1
  have m250 := hI.1.2.1
  obtain ⟨g13, g14⟩ := hI.2.2.2.2.2.1
  obtain ⟨r, μ1, a1, a2, a3, a4⟩ := s_goC (kind := kind) (which := which) (place := place) (wish := (e : Int)) (t := 271 + 2 * fr) (u := 269) hW hSy (by unfold tuOk; refine ⟨by omega, by omega, by omega, by omega, by omega, spare_ln⟩) hok.2.1 hok.1 hFC hk (fun _ q => by
    rw [q, show ((e : Int)).toNat = e by omega]
    omega)
  obtain ⟨r2, X1, b1, b2, b3⟩ := s_stepsR (kind := kind) (which := which') (place := place) hrX.2.2.1 hrX.2.2.2.1 (T := Tm fr) (by rw [frM_ar hM]; exact hok.1) hRT hk
  have est : stp X kind which' place (Tm fr) = stp ν kind which place (Tm fr) := by
    rw [frM_stp hM]
    by_cases q : kind = 2
    · exact ((stp_k2 (which := which') (w := which) (by rw [if_pos q, hw q])).1).symm
    · rw [hw' q]
  rw [est] at b3
  have ov : f_X4_isOver [vR 4 259] μ = some (some (vI 0), μ) := by
    rw [s_over fl.1.1 fl.2.1 fl.1.2 fl.2.2, if_pos ⟨h62, h61⟩]
  have l20 : (Tm fr).length ≤ 20 := hok.2.2
  have F1 : Fr μ0 μ1 scr := F.trans (a2.mono (fun c hc => by unfold goS at hc; exact scr_of (by omega)))
  have G1 : FrR ν X1 := frR_trans G (frS_R b2)
  have hI1 : SI μ1 X1 ν e n s m Tm := hI.kept (fun c hc => a2 c (by unfold goS; omega)) (fun c _ _ => b2.1 c (by omega) (by omega)) (fun k _ _ => b2.2 k (by omega) (by omega) (by omega))
  have hFC1 : FC μ1 ν (271 + 2 * fr) (Tm fr) := hFC.keptT a3 (a2 160 (by unfold goS; omega)) (a2 _ (by unfold goS; omega)) (a2 _ (by unfold goS; omega))
  have hRT1 : RT X1 20 36 (Tm fr) := hRT.keptS b2
  have hdp1 : X1 33 fr < (n : Int) := by rw [b2.1 33 (by omega) (by omega)]; exact hdp
  have st1 : ST μ0 ν e n s fr (Tm fr) μ1 X1 := ⟨m, Tm, hI1, F1, G1, hfr, rfl, hFC1, hRT1, hdp1⟩
  have eC : e_X4_tryPlaces_3 fr kind which (34 + 5 * e) place o6 μ = if r < 0 then e_X4_tryPlaces_3 fr kind which (34 + 5 * e) ((place + 1 : Nat) : Int) (some (vI r)) μ1 else if r ≤ (s : Int) then cV (f_X4_meet [vR 4 259, vR 8 (34 + 5 * e), vI fr, vI kind, vI which, vI place] μ1) (fun μ5 => e_X4_tryPlaces_3 fr kind which (34 + 5 * e) ((place + 1 : Nat) : Int) (some (vI r)) μ5) else e_X4_tryPlaces_3 fr kind which (34 + 5 * e) ((place + 1 : Nat) : Int) (some (vI r)) μ1 := by
    rw [q_X4_tryPlaces_3, gk (lnC 260) 250 rfl (by omega) (by omega), show ((fr : Int)).toNat = fr by omega, hFC.2.1.1, if_pos (by omega), ov, cI_t, if_pos rfl, g13, a1, cI_t, w20c (by omega), hI1.2.2.2.2.2.1.2]
  have eR : e_X12_seeks_3 e fr s kind which' place o7 X = if r2 = 0 then if (X1 0 38) ≤ (s : Int) then cI (f_X12_hashOf [vR 12 0, vR 20 21, vI (X1 0 38)] X1) (fun x4 μ3 => cI (f_X12_isMet [vR 12 0, vI x4] μ3) (fun x6 μ5 => if x6 = 0 then if (μ5 0 60) = 250 then e_X12_seeks_88 e fr s kind which' place x4 1 μ5 else e_X12_seeks_88 e fr s kind which' place x4 0 μ5 else e_X12_seeks_3 e fr s kind which' (wr ((place : Int) + 1)) (some (vI x4)) μ5)) else e_X12_seeks_3 e fr s kind which' ((place + 1 : Nat) : Int) o7 X1 else e_X12_seeks_3 e fr s kind which' ((place + 1 : Nat) : Int) o7 X1 := by
    rw [q_X12_seeks_3, hRT.2, if_pos (by omega), if_pos h61, if_pos h62, b1, cI_t]
    simp only [w20c (show place < 10000 by omega)]
  rw [eC, eR]
  cases hs2 : stp ν kind which place (Tm fr) with
  | inl er =>
    rw [hs2] at a4 b3
    have ern := stp_inl hs2
    have a4' : r = er := a4
    have b3' : r2 = er := b3
    rw [if_pos (by omega), if_neg (by omega)]
    exact ⟨μ1, X1, _, _, st1, rfl, rfl⟩
  | inr S =>
    rw [hs2] at a4 b3
    obtain ⟨a5, a6, _⟩ := a4
    obtain ⟨b5, b6⟩ := b3
    rw [if_neg (by omega), if_pos b5, b6.2, a5]
    by_cases q : (S.length : Int) ≤ (s : Int)
    · rw [if_pos q, if_pos q]
      obtain ⟨μ2, X2, o7', c1, c2, c3⟩ := sk_meet (kind := kind) (which := which) (which' := which') (place := place) h he hn hI1 F1 G1 hfr hdp1 hFC1 hRT1 hk hw hw' hs2 a6 b6 (by rw [b2.2 61 (by omega) (by omega) (by omega)]; exact h61) (by rw [b2.2 62 (by omega) (by omega) (by omega)]; exact h62)
      rw [b6.2] at c3
      rw [c1, cV_t, c3, w20c (show place < 10000 by omega)]
      exact ⟨μ2, X2, _, _, c2, rfl, rfl⟩
    · rw [if_neg q, if_neg q]
      exact ⟨μ1, X1, _, _, st1, rfl, rfl⟩
theorem sk_places {kind which which' : Int} (h : Rel μ0 ν) (he : (e : Int) < ν 0 5) (hop : ν 7 e = 1 ∨ ν 7 e = 3) (hn : n ≤ 8) (hs : s ≤ 20) (hk : 0 ≤ kind ∧ kind ≤ 3) (hw : kind = 2 → which = -4) (hw' : kind ≠ 2 → which' = which) : ∀ (j p : Nat) (μ X : Mem) (o6 o7 : Option AV), p + j = T.length → ST μ0 ν e n s fr T μ X → ∃ μ' X', e_X4_tryPlaces_3 fr kind which (34 + 5 * e) p o6 μ = some (none, μ') ∧ e_X12_seeks_3 e fr s kind which' p o7 X = some (none, X') ∧ ST μ0 ν e n s fr T μ' X'
  | 0, p, μ, X, o6, o7, hj, hst => by
    have hst' := hst
    obtain ⟨m, Tm, hI, F, G, hfr, hT, hFC, hRT, hdp⟩ := hst
    have m250 := hI.1.2.1
    refine ⟨μ, X, ?_, ?_, hst'⟩
    · rw [q_X4_tryPlaces_3, gk (lnC 260) 250 rfl (by omega) (by omega), show ((fr : Int)).toNat = fr by omega, hFC.2.1.1, if_neg (by omega)]
    · rw [q_X12_seeks_3, hRT.2, if_neg (by omega)]
  | j + 1, p, μ, X, o6, o7, hj, hst => by
    have fl := ST_flags hst
    by_cases q : X 0 62 = 0 ∧ X 0 61 = -4
    · obtain ⟨μ1, X1, p6, p7, a1, a2, a3⟩ := sk_one (place := p) h he hop hn hs hk hw hw' (by omega) hst q.2 q.1 o6 o7
      rw [a2, a3]
      exact sk_places h he hop hn hs hk hw hw' j (p + 1) μ1 X1 p6 p7 (by omega) a1
    · have hst' := hst
      obtain ⟨m, Tm, hI, F, G, hfr, hT, hFC, hRT, hdp⟩ := hst
      have m250 := hI.1.2.1
      refine ⟨μ, X, ?_, ?_, hst'⟩
      · rw [q_X4_tryPlaces_3, gk (lnC 260) 250 rfl (by omega) (by omega), show ((fr : Int)).toNat = fr by omega, hFC.2.1.1, if_pos (by omega), s_over fl.1.1 fl.2.1 fl.1.2 fl.2.2, cI_t, if_neg q, if_neg (by decide)]
      · rw [q_X12_seeks_3, hRT.2, if_pos (by omega)]
        by_cases z : X 0 61 = -4
        · rw [if_pos z, if_neg (fun y => q ⟨y, z⟩)]
        · rw [if_neg z]
theorem sk_kind {kind which which' : Int} {μ X : Mem} (h : Rel μ0 ν) (he : (e : Int) < ν 0 5) (hop : ν 7 e = 1 ∨ ν 7 e = 3) (hn : n ≤ 8) (hs : s ≤ 20) (hk : 0 ≤ kind ∧ kind ≤ 3) (hw : kind = 2 → which = -4) (hw' : kind ≠ 2 → which' = which) (hst : ST μ0 ν e n s fr T μ X) : ∃ μ' X', f_X4_tryPlaces [vR 4 259, vI fr, vI kind, vI which, vR 8 (34 + 5 * e)] μ = some (none, μ') ∧ f_X12_seeks [vR 12 0, vI e, vI fr, vI s, vI kind, vI which'] X = some (none, X') ∧ ST μ0 ν e n s fr T μ' X' := by
  obtain ⟨μ', X', a1, a2, a3⟩ := sk_places (T := T) h he hop hn hs hk hw hw' T.length 0 μ X none none (by omega) hst
  have a1' : e_X4_tryPlaces_3 fr kind which (34 + 5 * e) 0 none μ = _ := a1
  have a2' : e_X12_seeks_3 e fr s kind which' 0 none X = _ := a2
  rw [q_X4_tryPlaces, q_X12_seeks, a1', a2']
  exact ⟨μ', X', rfl, rfl, a3⟩
theorem ST_n {μ X : Mem} (h : Rel μ0 ν) (hst : ST μ0 ν e n s fr T μ X) : μ 23 9 = ν 0 5 ∧ X 0 5 = ν 0 5 ∧ μ 1 5 = ν 0 0 ∧ X 0 0 = ν 0 0 := by
  obtain ⟨m, Tm, hI, F, G, _⟩ := hst
  have hr := rel_scr h F
  have hM := frR_M G
  exact ⟨hr.2.2.2.1.2.2.1, hM.2.2.1, hr.2.2.1.2.2.2.1, hM.2.1⟩
theorem sk_uses (h : Rel μ0 ν) (he : (e : Int) < ν 0 5) (hop : ν 7 e = 1 ∨ ν 7 e = 3) (hn : n ≤ 8) (hs : s ≤ 20) {N : Nat} (hN : ν 0 5 = (N : Int)) {v2 : Int} : ∀ (j f : Nat) (μ X : Mem), f + j = N → ST μ0 ν e n s fr T μ X → ∃ μ' X', e_X4_goOn_15 fr (34 + 5 * e) f μ = e_X4_goOn_15 fr (34 + 5 * e) N μ' ∧ e_X12_findWay_220 e v2 s fr f X = e_X12_findWay_220 e v2 s fr N X' ∧ ST μ0 ν e n s fr T μ' X'
  | 0, f, μ, X, hj, hst => by
    obtain rfl : f = N := by omega
    exact ⟨μ, X, rfl, rfl, hst⟩
  | j + 1, f, μ, X, hj, hst => by
    have h24 := h.2.2.2.1.2.1
    obtain ⟨n1, n2, _, _⟩ := ST_n h hst
    obtain ⟨μ1, X1, a1, a2, a3⟩ := sk_kind (kind := 0) (which := f) (which' := f) h he hop hn hs (by omega) (by omega) (fun _ => rfl) hst
    obtain ⟨μ2, X2, b1, b2, b3⟩ := sk_kind (kind := 1) (which := f) (which' := f) h he hop hn hs (by omega) (by omega) (fun _ => rfl) a3
    obtain ⟨μ3, X3, c1, c2, c3⟩ := sk_uses h he hop hn hs hN (v2 := v2) j (f + 1) μ2 X2 (by omega) b3
    refine ⟨μ3, X3, ?_, ?_, c3⟩
    · rw [q_X4_goOn_15, n1, hN, if_pos (by omega), a1, cV_t, b1, cV_t, w20c (by omega), c1]
    · rw [q_X12_findWay_220, n2, hN, if_pos (by omega), a2, cV_t, b2, cV_t, w20c (by omega), c2]
theorem sk_outs (h : Rel μ0 ν) (he : (e : Int) < ν 0 5) (hop : ν 7 e = 1 ∨ ν 7 e = 3) (hn : n ≤ 8) (hs : s ≤ 20) {N : Nat} (hN : ν 0 0 = (N : Int)) {v2 : Int} : ∀ (j w : Nat) (μ X : Mem), w + j = N → ST μ0 ν e n s fr T μ X → ∃ μ' X', e_X4_goOn_59 fr (34 + 5 * e) w μ = some (none, μ') ∧ e_X12_findWay_270 e v2 s fr w X = e_X12_findWay_132 e v2 s (wr ((fr : Int) + 1)) (some (vI (N : Int))) X' ∧ ST μ0 ν e n s fr T μ' X'
  | 0, w, μ, X, hj, hst => by
    obtain rfl : w = N := by omega
    obtain ⟨_, _, n3, n4⟩ := ST_n h hst
    refine ⟨μ, X, ?_, ?_, hst⟩
    · rw [q_X4_goOn_59, n3, hN, if_neg (by omega)]
    · rw [q_X12_findWay_270, n4, hN, if_neg (by omega)]
  | j + 1, w, μ, X, hj, hst => by
    have h4 := h.2.2.1.2.1
    obtain ⟨_, _, n3, n4⟩ := ST_n h hst
    obtain ⟨μ1, X1, a1, a2, a3⟩ := sk_kind (kind := 3) (which := w) (which' := w) h he hop hn hs (by omega) (by omega) (fun _ => rfl) hst
    obtain ⟨μ3, X3, c1, c2, c3⟩ := sk_outs h he hop hn hs hN (v2 := v2) j (w + 1) μ1 X1 (by omega) a3
    refine ⟨μ3, X3, ?_, ?_, c3⟩
    · rw [q_X4_goOn_59, n3, hN, if_pos (by omega), a1, cV_t, w20c (by omega), c1]
    · rw [q_X12_findWay_270, n4, hN, if_pos (by omega), a2, cV_t, w20c (by omega), c2]
/-- all STEPS from one TERM on -/
theorem sk_goOn {μ X : Mem} {v2 : Int} (h : Rel μ0 ν) (he : (e : Int) < ν 0 5) (hop : ν 7 e = 1 ∨ ν 7 e = 3) (hn : n ≤ 8) (hs : s ≤ 20) (hst : ST μ0 ν e n s fr T μ X) : ∃ μ' X' o5, e_X4_goOn_15 fr (34 + 5 * e) 0 μ = some (none, μ') ∧ e_X12_findWay_220 e v2 s fr 0 X = e_X12_findWay_132 e v2 s (wr ((fr : Int) + 1)) o5 X' ∧ ST μ0 ν e n s fr T μ' X' := by
  have h0 := h.2.2.2.1.1
  have h4 := h.2.2.1.1
  obtain ⟨N, hN⟩ : ∃ N : Nat, ν 0 5 = (N : Int) := ⟨(ν 0 5).toNat, by omega⟩
  obtain ⟨W, hW⟩ : ∃ W : Nat, ν 0 0 = (W : Int) := ⟨(ν 0 0).toNat, by omega⟩
  obtain ⟨μ1, X1, a1, a2, a3⟩ := sk_uses h he hop hn hs hN (v2 := v2) N 0 μ X (by omega) hst
  have a1' : e_X4_goOn_15 fr (34 + 5 * e) 0 μ = _ := a1
  have a2' : e_X12_findWay_220 e v2 s fr 0 X = _ := a2
  obtain ⟨n1, n2, _, _⟩ := ST_n h a3
  obtain ⟨μ2, X2, b1, b2, b3⟩ := sk_kind (kind := 2) (which := -4) (which' := 0) h he hop hn hs (by omega) (fun _ => rfl) (fun q => absurd rfl q) a3
  obtain ⟨μ3, X3, c1, c2, c3⟩ := sk_outs h he hop hn hs hW (v2 := v2) W 0 μ2 X2 (by omega) b3
  have c1' : e_X4_goOn_59 fr (34 + 5 * e) 0 μ2 = _ := c1
  have c2' : e_X12_findWay_270 e v2 s fr 0 X2 = _ := c2
  refine ⟨μ3, X3, some (vI (W : Int)), ?_, ?_, c3⟩
  · rw [a1', q_X4_goOn_15, n1, hN, if_neg (by omega), b1, cV_t, c1']
  · rw [a2', q_X12_findWay_220, n2, hN, if_neg (by omega), b2, cV_t, c2']
end SK
