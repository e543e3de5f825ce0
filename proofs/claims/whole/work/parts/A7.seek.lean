/-! seek: how it begins; sim seek -/
theorem sk_begin {μ ν : Mem} {e n s : Nat} (h : Rel μ ν) (he : (e : Int) < ν 0 5) (hop : ν 7 e = 1 ∨ ν 7 e = 3) (hn : n ≤ 8) (hs : s ≤ 20) : ∃ μ' X', f_X4_run [vR 4 259, vI e, vI n, vI s] μ = some (some (vI (ans X')), μ') ∧ f_X12_findWay [vR 12 0, vI e, vI n, vI s] ν = some (none, X') ∧ SO μ ν e n s μ' X' := by
  have hSy := h.2.2.2.1
  have h24 := hSy.2.1
  obtain ⟨o0, o1, t0, t1, _⟩ := hSy.2.2.2.2.2.2.2.2 e he
  have hokS : okT ν (sL ν e 0) := okT_sL hSy he (by omega)
  have sl0 : (sL ν e 0).length = (ν 6 (2 * e + 0)).toNat := sg_len ..
  have sl1 : (sL ν e 1).length = (ν 6 (2 * e + 1)).toNat := sg_len ..
  have p0 := o0.1
  have p1 := o1.1
  obtain ⟨S, eS⟩ : ∃ S, S = sL ν e 0 := ⟨_, rfl⟩
  rw [← eS] at t0 sl0 hokS
  -- the class
  obtain ⟨μ1, a1, a2, a3⟩ := c_run20 (v1 := e) (v2 := n) (v3 := s) (v4 := 31 + 5 * e) 256 0 μ (by omega) (fun h hl => by omega)
  have a1' : e_X4_run_20 e n s (31 + 5 * e) 0 μ = _ := a1
  obtain ⟨μ2, e2⟩ : ∃ μ2, μ2 = up (up (up (up (up μ1 259 17 0) 259 15 (-4)) 259 16 0) 259 13 (e : Int)) 259 14 (s : Int) := ⟨_, rfl⟩
  have k2 : ∀ c, c ≠ 259 → μ2 c = μ1 c := fun c hc => by rw [e2, up_cell hc, up_cell hc, up_cell hc, up_cell hc, up_cell hc]
  have b2 : ∀ c, c ≠ 259 → c ≠ 266 → μ2 c = μ c := fun c x y => by rw [k2 c x, a2 c y]
  have t02 : TH μ2 (32 + 5 * e) S := t0.kept (S := fun c => c = 259 ∨ c = 266) (fun c hc => b2 c (by omega) (by omega)) (by omega) (by omega)
  obtain ⟨μ3, c1, c2, c3⟩ := s_copy (t := 269) t02 hokS.2.1.by (by unfold tS; omega) (by unfold tS; omega) (by rw [spare_ln]; exact hokS.2.2)
  have k3 : ∀ c, c ≠ 269 → c ≠ 270 → μ3 c = μ2 c := fun c x y => c3 c (by unfold tS; omega)
  have v17 : μ3 259 17 = 0 := by rw [k3 259 (by omega) (by omega), e2, up_slot (by omega), up_slot (by omega), up_slot (by omega), up_slot (by omega), up_same]
  have v15 : μ3 259 15 = -4 := by rw [k3 259 (by omega) (by omega), e2, up_slot (by omega), up_slot (by omega), up_slot (by omega), up_same]
  have v16 : μ3 259 16 = 0 := by rw [k3 259 (by omega) (by omega), e2, up_slot (by omega), up_slot (by omega), up_same]
  have v13 : μ3 259 13 = (e : Int) := by rw [k3 259 (by omega) (by omega), e2, up_slot (by omega), up_same]
  have v14 : μ3 259 14 = (s : Int) := by rw [k3 259 (by omega) (by omega), e2, up_same]
  have h66 : ∀ g, g < 256 → μ3 266 g = -4 := fun g hg => by rw [k3 266 (by omega) (by omega), k2 266 (by omega)]; exact a3 g hg
  have K0 : CK μ3 0 (fun _ => []) := ⟨v17, by omega, fun i hi => by omega, fun g hg => GR_none (by rw [h66 g hg]; decide), fun i hi => by omega⟩
  have tR : TH μ3 (34 + 5 * e) (sL ν e 1) := by
    have : TH μ2 (34 + 5 * e) (sL ν e 1) := t1.kept (S := fun c => c = 259 ∨ c = 266) (fun c hc => b2 c (by omega) (by omega)) (by omega) (by omega)
    exact this.kept c3 (by unfold tS; omega) (by unfold tS; omega)
  have hb := hC_b S
  obtain ⟨hc, ehc⟩ : ∃ hc : Nat, hC S = (hc : Int) := ⟨(hC S).toNat, by omega⟩
  obtain ⟨μ4, d1, d2, d3, d4, d5, d6, d7, d8, d9⟩ : ∃ μ', f_X4_meet [vR 4 259, vR 8 (34 + 5 * e), vI (-4), vI (-4), vI (-4), vI (-4)] μ3 = some (none, μ') ∧ FrCn 0 (hC S).toNat μ3 μ' ∧ CK μ' (0 + 1) (exN (fun _ => []) 0 S) ∧ μ' 261 0 = -4 ∧ μ' 262 0 = -4 ∧ μ' 263 0 = -4 ∧ μ' 264 0 = -4 ∧ μ' 265 0 = 0 ∧ μ' 259 15 = (if S = sL ν e 1 then ((0 : Nat) : Int) else μ3 259 15) := by
    have eM : f_X4_meet [vR 4 259, vR 8 (34 + 5 * e), vI (-4), vI (-4), vI (-4), vI (-4)] μ3 = e_X4_meet_25 (34 + 5 * e) (-4) (-4) (-4) (-4) (hC S) (μ3 266 hc) 0 μ3 := by
      rw [q_X4_meet, s_markH c2, cI_t]
      show gi (hC S) (lnC 266) (e_X4_meet_25 (34 + 5 * e) (-4) (-4) (-4) (-4) (hC S) (μ3 266 (hC S).toNat) 0 μ3) = _
      rw [gk (lnC 266) 256 rfl (by omega) (by omega), ehc, show ((hc : Int)).toNat = hc by omega]
    rcases s_meet25 (rc := 34 + 5 * e) (f := -4) (k := -4) (w := -4) (p := -4) K0 c2 0 0 0 (μ3 266 hc) (by omega) (by omega) (by omega) (GR_none (by rw [h66 hc (by omega)]; decide)) with ⟨⟨i, x1, _⟩, _⟩ | ⟨_, o7, o8, x2⟩
    · omega
    · have x2' : e_X4_meet_25 (34 + 5 * e) (-4) (-4) (-4) (-4) (hC S) (μ3 266 hc) 0 μ3 = _ := x2
      obtain ⟨μ', y1, y2⟩ := s_meet80 (k := -4) (w := -4) (p := -4) (f := -4) (o7 := o7) (o8 := o8) K0 (by omega) c2 hokS.2.1 hokS.2.2 tR (by omega) (Or.inl rfl) (fun z => absurd rfl z)
      exact ⟨μ', by rw [eM, x2', y1], y2⟩
  have eC : f_X4_run [vR 4 259, vI e, vI n, vI s] μ = e_X4_run_101 (some (vI (e : Int))) n (some (vI (s : Int))) (31 + 5 * e) 0 μ4 := by
    rw [q_X4_run, get_t hSy ⟨by omega, he⟩, cR_s, show ((e : Int)).toNat = e by omega, a1', q_X4_run_20, if_neg (by decide), gz_0, ← e2, show 31 + 5 * e + 1 = 32 + 5 * e by omega, show 31 + 5 * e + 3 = 34 + 5 * e by omega, c1, cV_t, d1, cV_t]
  -- the reference
  obtain ⟨X1, r1, r2, r3⟩ := r_fw3 (v1 := e) (v2 := n) (v3 := s) (o5 := none) 4096 0 ν (by omega) (fun h hl => by omega)
  have r1' : e_X12_findWay_3 e n s 0 none ν = _ := r1
  obtain ⟨X2, f2⟩ : ∃ X2, X2 = up (up (up (up X1 0 60 0) 0 61 (-4)) 0 62 0) 0 38 (S.length : Int) := ⟨_, rfl⟩
  have m2 : ∀ c, c ≠ 0 → X2 c = X1 c := fun c hc => by rw [f2, up_cell hc, up_cell hc, up_cell hc, up_cell hc]
  have n2 : ∀ c, c ≠ 0 → c ≠ 38 → X2 c = ν c := fun c x y => by rw [m2 c x, r2 c y]
  have q38 : X2 0 38 = (S.length : Int) := by rw [f2, up_same]
  obtain ⟨X3, s1, s2, s3⟩ := r_fw56 (e := e) (S := S) (v2 := n) (v3 := s) (o5 := none) (by omega) hokS.2.2 S.length 0 X2 (by omega) q38 (fun q x hx => by
    have hq : q < (ν 6 (2 * e + 0)).toNat := by
      by_cases y : q < S.length
      · omega
      · rw [List.getElem?_eq_none (by omega)] at hx; cases hx
    have hx' : (sL ν e 0)[q]? = some (ν 5 (40 * e + 20 * 0 + q)) := sg_get hq
    rw [eS, hx'] at hx
    rw [n2 5 (by omega) (by omega)]
    exact Option.some.inj hx) (fun q hq => by omega)
  have s1' : e_X12_findWay_56 e n s 0 none X2 = _ := s1
  have w60 : X3 0 60 = 0 := by rw [s2 0 (by omega), f2, up_slot (by omega), up_slot (by omega), up_slot (by omega), up_same]
  have w61 : X3 0 61 = -4 := by rw [s2 0 (by omega), f2, up_slot (by omega), up_slot (by omega), up_same]
  have w62 : X3 0 62 = 0 := by rw [s2 0 (by omega), f2, up_slot (by omega), up_same]
  have w38 : ∀ g, g < 4096 → X3 38 g = -1 := fun g hg => by rw [s2 38 (by omega), m2 38 (by omega)]; exact r3 g hg
  have R0 : RK X3 0 (fun _ => []) := ⟨w60, by omega, fun i hi => by omega, fun g hg => GR_none (by rw [w38 g hg]; decide), fun i hi => by omega⟩
  obtain ⟨X4, z1, z2, z3, z4, z5, z6, z7, z8⟩ := r_meets (k := 0) (w := 0) (p := 0) (f := -4) R0 (by omega) s3 (Or.inl rfl) (fun z => absurd rfl z)
  rw [if_pos rfl] at z5
  have oc : ∀ c, c < 20 → c ≠ 0 → X4 c = ν c := fun c x y => by
    funext i
    rw [z2 c i (by omega) (by omega) (by omega) (by omega), s2 c (by omega), n2 c y (by omega)]
  have hS3 : RT X4 21 38 S := ⟨⟨s3.1.1, fun i x hx => by rw [z2 21 i (by omega) (by omega) (by omega) (by omega)]; exact s3.1.2 i x hx⟩, by rw [z2 0 38 (by omega) (by omega) (by omega) (by omega)]; exact s3.2⟩
  have tr := r_thenR (X := X4) (e := e) (S := S) (R := sL ν e 1) (by omega) hS3 (by rw [oc 6 (by omega) (by omega)]; omega) (isT_ne hokS.1) (fun i x hx => by
    have hi : i < (ν 6 (2 * e + 1)).toNat := by
      by_cases y : i < (sL ν e 1).length
      · omega
      · rw [List.getElem?_eq_none (by omega)] at hx; cases hx
    have hx' : (sL ν e 1)[i]? = some (ν 5 (40 * e + 20 * 1 + i)) := sg_get hi
    rw [hx'] at hx
    rw [oc 5 (by omega) (by omega)]
    exact Option.some.inj hx)
  obtain ⟨X5, f5⟩ : ∃ X5, X5 = up X4 0 61 (if S = sL ν e 1 then 0 else -4) := ⟨_, rfl⟩
  have eR : f_X12_findWay [vR 12 0, vI e, vI n, vI s] ν = e_X12_findWay_132 e n s 0 none X5 := by
    have x16 : X1 6 (2 * e) = (S.length : Int) := by rw [r2 6 (by omega)]; show ν 6 (2 * e + 0) = _; omega
    rw [q_X12_findWay, r1', q_X12_findWay_3, if_neg (by decide), gz_0, wr_eq (x := 2 * (e : Int)) (by omega) (by omega), gk (lnR 6) 48 rfl (by omega) (by omega), show (2 * (e : Int)).toNat = 2 * e by omega, up_cell (c := 0) (c' := 6) (by omega), up_cell (c := 0) (c' := 6) (by omega), up_cell (c := 0) (c' := 6) (by omega), x16, ← f2, s1', q_X12_findWay_56, s3.2, if_neg (by omega), r_hash s3, cI_t, z1, cV_t, tr, cI_t, f5]
    by_cases w : S = sL ν e 1
    · rw [if_pos w, if_pos w, if_neg (by decide)]
    · rw [if_neg w, if_neg w, if_pos rfl]
  have kX : ∀ c i, ¬ (c = 0 ∧ i = 61) → X5 c i = X4 c i := fun c i hh => by rw [f5, up_ne hh]
  have kc : ∀ c, c ≠ 0 → X5 c = X4 c := fun c hh => by rw [f5, up_cell hh]
  have so : SO μ ν e n s μ4 X5 := by
    refine ⟨1, exN (fun _ => []) 0 S, ⟨d3, z3.kept (fun c _ _ => kc c (by omega)) (kX 0 60 (by omega)), ⟨by omega, by rw [exN_n]; exact eS, by rw [kc 33 (by omega)]; exact z5⟩, fun i hi => ?_, fun i h1 h2 => by omega, ⟨?_, ?_⟩, ⟨?_, ?_⟩, ?_, ?_⟩, ?_, ?_⟩
    · obtain rfl : i = 0 := by omega
      rw [exN_n, kc 33 (by omega), z5, d8]
      exact ⟨hokS, rfl, by omega, by omega⟩
    · rw [d2 259 13 (by omega) (by omega) (by omega) (by omega) (by omega)]; exact v13
    · rw [d2 259 14 (by omega) (by omega) (by omega) (by omega) (by omega)]; exact v14
    · rw [d2 259 16 (by omega) (by omega) (by omega) (by omega) (by omega), v16, kX 0 62 (by omega), z2 0 62 (by omega) (by omega) (by omega) (by omega), w62]
    · rw [kX 0 62 (by omega), z2 0 62 (by omega) (by omega) (by omega) (by omega), w62]; exact Or.inl rfl
    · rw [d9, v15, f5, up_same]; rfl
    · rw [f5, up_same]
      by_cases w : S = sL ν e 1
      · rw [if_pos w]; exact Or.inr ⟨0, by omega, rfl, by rw [exN_n]; exact w⟩
      · rw [if_neg w]; exact Or.inl rfl
    · intro c hc
      unfold scr at hc
      funext i
      rw [d2 c i (by omega) (by omega) (by omega) (by omega) (by omega), k3 c (by omega) (by omega), b2 c (by omega) (by omega)]
    · refine ⟨fun c q1 q2 => ?_, fun q hq => ?_⟩
      · unfold scrR at q1
        funext i
        rw [kX c i (by omega), z2 c i (by omega) (by omega) (by omega) (by omega), s2 c (by omega), n2 c (by omega) (by omega)]
      · unfold scrK at hq
        rw [kX 0 q (by omega), z2 0 q (by omega) (by omega) (by omega) (by omega), s2 0 (by omega), f2, up_slot (by omega), up_slot (by omega), up_slot (by omega), up_slot (by omega), r2 0 (by omega)]
  obtain ⟨μ5, X6, g1, g2, g3⟩ := sk_run h he hop hn hs (o1 := some (vI (e : Int))) (o3 := some (vI (s : Int))) 250 0 μ4 X5 none (by omega) so
  have g1' : e_X4_run_101 (some (vI (e : Int))) n (some (vI (s : Int))) (31 + 5 * e) 0 μ4 = _ := g1
  have g2' : e_X12_findWay_132 e n s 0 none X5 = _ := g2
  exact ⟨μ5, X6, by rw [eC, g1'], by rw [eR, g2'], g3⟩
theorem so_rel {μ0 ν : Mem} {e n s : Nat} {μ X : Mem} (h : Rel μ0 ν) (hs : SO μ0 ν e n s μ X) : Rel μ X ∧ μ 259 17 = X 0 60 ∧ 0 ≤ X 0 60 ∧ (X 0 62 = 0 ∨ X 0 62 = 1) ∧ (X 0 61 = -4 ∨ ∃ k : Nat, k < 250 ∧ X 0 61 = (k : Int) ∧ 0 ≤ X 33 k ∧ X 33 k ≤ (n : Int)) := by
  obtain ⟨m, Tm, hI, F, G⟩ := hs
  have m250 := hI.1.2.1
  refine ⟨rel_scrR (rel_scr h F) G, by rw [hI.1.1, hI.2.1.1], by rw [hI.2.1.1]; omega, hI.2.2.2.2.2.2.1.2, ?_⟩
  rcases hI.2.2.2.2.2.2.2.2 with q | ⟨k, q1, q2, q3⟩
  · exact Or.inl q
  · have := hI.2.2.2.1 k q1
    exact Or.inr ⟨k, by omega, q2, this.2.2.1, this.2.2.2⟩
theorem sim_seek (μ ν : Mem) (x1 x2 x3 x4 : Int) (_ : in32 x1) (_ : in32 x2) (_ : in32 x3) (_ : in32 x4) (h : Rel μ ν) : Sm Rel f_X11_seek f_X12_seek [vI x1, vI x2, vI x3, vI x4] μ ν := by
  unfold Sm
  have hS := h.2.2.2.1
  have h24 := hS.2.1
  rw [q_X11_seek, q_X12_seek, q_X11_sought]
  by_cases hx : ¬ (0 ≤ x1 ∧ x1 < ν 0 5)
  · rw [get_f hS hx, cR_n, isS_f hS hx, cI_t, cI_t, if_pos rfl, if_pos (show (-1 : Int) < 0 by decide), if_neg (show ¬ (-1 : Int) = -4 by decide), ite_self, ite_self, ite_self]
    exact ⟨-1, μ, ν, rfl, rfl, h⟩
  replace hx := Decidable.not_not.mp hx
  obtain ⟨e, rfl⟩ : ∃ e : Nat, x1 = (e : Int) := ⟨x1.toNat, by omega⟩
  rw [get_t hS hx, cR_s, isS_t hS hx, cI_t, if_neg ten, s_in, cI_t, show ((e : Int)).toNat = e by omega]
  have bad : ∀ {Y : Option Rs}, Y = some (some (vI (-1)), μ) → (if x4 < 0 then some (some (vI (-1)), μ) else if x4 ≤ 1 then cI Y (fun x2 μ1 => if x4 = 1 then if x2 < 0 then if x2 = (-4) then some (some (vI (μ1 259 17)), μ1) else some (some (vI x2), μ1) else some (some (vI (μ1 259 17)), μ1) else some (some (vI x2), μ1)) else some (some (vI (-1)), μ)) = some (some (vI (-1)), μ) := fun {Y} hY => by
    rw [hY, cI_t, if_pos (show (-1 : Int) < 0 by decide), if_neg (show ¬ (-1 : Int) = -4 by decide), ite_self, ite_self, ite_self]
  by_cases h2 : ¬ (0 ≤ x2 ∧ x2 ≤ 8)
  · rw [if_neg h2, if_pos rfl]
    refine ⟨-1, μ, ν, bad ?_, rfl, h⟩
    by_cases q : x2 < 0
    · rw [if_pos q]
    · rw [if_neg q, if_neg (show ¬ x2 ≤ 8 by omega)]
  replace h2 := Decidable.not_not.mp h2
  obtain ⟨n, rfl⟩ : ∃ n : Nat, x2 = (n : Int) := ⟨x2.toNat, by omega⟩
  rw [if_pos h2, if_neg ten, s_in, cI_t, if_neg (show ¬ (n : Int) < 0 by omega), if_pos h2.2]
  by_cases h3 : ¬ (1 ≤ x3 ∧ x3 ≤ 20)
  · rw [if_neg h3, if_pos rfl]
    refine ⟨-1, μ, ν, bad ?_, rfl, h⟩
    by_cases q : x3 < 1
    · rw [if_pos q]
    · rw [if_neg q, if_neg (show ¬ x3 ≤ 20 by omega)]
  replace h3 := Decidable.not_not.mp h3
  obtain ⟨s, rfl⟩ : ∃ s : Nat, x3 = (s : Int) := ⟨x3.toNat, by omega⟩
  rw [if_pos h3, if_neg ten, s_in, cI_t, if_neg (show ¬ (s : Int) < 1 by omega), if_pos h3.2]
  by_cases h4 : ¬ (0 ≤ x4 ∧ x4 ≤ 1)
  · rw [if_neg h4, if_pos rfl]
    refine ⟨-1, μ, ν, ?_, rfl, h⟩
    by_cases q : x4 < 0
    · rw [if_pos q]
    · rw [if_neg q, if_neg (show ¬ x4 ≤ 1 by omega)]
  replace h4 := Decidable.not_not.mp h4
  rw [if_pos h4, if_neg ten, if_neg (show ¬ x4 < 0 by omega), if_pos h4.2, s_isOpenC hS hx.2, cI_t, s_isOpenR (by omega), cI_t]
  by_cases ho : ν 7 e = 1 ∨ ν 7 e = 3
  · obtain ⟨μ', X', a1, a2, a3⟩ := sk_begin (n := n) (s := s) h hx.2 ho (by omega) (by omega)
    obtain ⟨b1, b2, b3, b4, b5⟩ := so_rel h a3
    rw [if_pos ho, if_neg ten, if_neg ten, a1, cI_t, cI_t, a2, cV_t, b2]
    unfold ans
    by_cases q : X' 0 62 = 0
    · rw [if_pos q, if_pos q]
      rcases b5 with z | ⟨k, z1, z2, z3, z4⟩
      · rw [if_pos z, if_pos z, if_pos (show (-4 : Int) < 0 by decide), if_pos rfl]
        by_cases w : x4 = 1
        · rw [if_pos w, if_pos w]; exact ⟨_, _, _, rfl, rfl, b1⟩
        · rw [if_neg w, if_neg w]; exact ⟨_, _, _, rfl, rfl, b1⟩
      · rw [if_neg (show ¬ X' 0 61 = -4 by omega), if_neg (show ¬ X' 0 61 = -4 by omega), gk (lnR 33) 250 rfl (by omega) (by omega), z2, show ((k : Int)).toNat = k by omega, if_neg (show ¬ X' 33 k < 0 by omega)]
        by_cases w : x4 = 1
        · rw [if_pos w, if_pos w]; exact ⟨_, _, _, rfl, rfl, b1⟩
        · rw [if_neg w, if_neg w]; exact ⟨_, _, _, rfl, rfl, b1⟩
    · rw [if_neg q, if_neg q, if_pos (show (-6 : Int) < 0 by decide), if_neg (show ¬ (-6 : Int) = -4 by decide), ite_self]
      exact ⟨_, _, _, rfl, rfl, b1⟩
  · rw [if_neg ho, if_pos rfl, if_pos rfl, cI_t, if_pos (show (-2 : Int) < 0 by decide), if_neg (show ¬ (-2 : Int) = -4 by decide), ite_self]
    exact ⟨-2, μ, ν, rfl, rfl, h⟩
