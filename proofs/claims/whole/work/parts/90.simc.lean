/-! change -/
theorem rel_tape {μ μ' ν ν' : Mem} (h : Rel μ ν) (kc : ∀ c, c ≠ 151 → c ≠ 152 → ¬ scr c → μ' c = μ c) (kr : ∀ c, c ≠ 0 → c ≠ 18 → ¬ scrR c → ν' c = ν c) (k0 : ∀ k, ¬ scrK k → k ≠ 25 → k ≠ 30 → ν' 0 k = ν 0 k) (hT' : RelT μ' ν') : Rel μ' ν' := by
  have h1 : Rel (fun c => if c = 151 ∨ c = 152 then μ c else μ' c) ν := rel_scr h (fun c hc => by
    show (if c = 151 ∨ c = 152 then μ c else μ' c) = μ c
    by_cases z : c = 151 ∨ c = 152
    · rw [if_pos z]
    · rw [if_neg z]; exact kc c (by omega) (by omega) hc)
  have h2 : Rel (fun c => if c = 151 ∨ c = 152 then μ c else μ' c) (fun c k => if c = 18 ∨ (c = 0 ∧ (k = 25 ∨ k = 30)) then ν c k else ν' c k) := rel_scrR h1 ⟨fun c hc c0 => by
    funext k
    show (if c = 18 ∨ (c = 0 ∧ (k = 25 ∨ k = 30)) then ν c k else ν' c k) = ν c k
    by_cases z : c = 18
    · rw [if_pos (Or.inl z)]
    · rw [if_neg (by omega), kr c c0 z hc], fun k hk => by
    show (if (0 : Nat) = 18 ∨ ((0 : Nat) = 0 ∧ (k = 25 ∨ k = 30)) then ν 0 k else ν' 0 k) = ν 0 k
    by_cases z : k = 25 ∨ k = 30
    · rw [if_pos (Or.inr ⟨rfl, z⟩)]
    · rw [if_neg (by omega), k0 k hk (by omega) (by omega)]⟩
  refine rel_T h2 (fun c a b => ?_) (fun c a b => ?_) (fun k a b _ => ?_) hT'
  · show μ' c = (if c = 151 ∨ c = 152 then μ c else μ' c)
    rw [if_neg (by omega)]
  · funext k
    show ν' c k = (if c = 18 ∨ (c = 0 ∧ (k = 25 ∨ k = 30)) then ν c k else ν' c k)
    rw [if_neg (by omega)]
  · show ν' 0 k = (if (0 : Nat) = 18 ∨ ((0 : Nat) = 0 ∧ (k = 25 ∨ k = 30)) then ν 0 k else ν' 0 k)
    rw [if_neg (by omega)]
theorem c42_bad {X : Mem} {w : Int} {f : Nat} {c : Int} {o2 o3 o4 o5 : Option AV} (hc : 0 < c) (hf : f ≤ 240) (h30 : X 0 30 = c) (h31 : X 0 31 = (f : Int)) : e_X12_change_42 w o2 o3 o4 o5 X = some (some (vI (-10 - (f : Int))), up X 0 25 0) := by
  rw [q_X12_change_42, h30, if_neg (by omega), up_slot (show (30 : Nat) ≠ 25 by omega), h30, if_neg (by omega), up_slot (show (31 : Nat) ≠ 25 by omega), h31, wr_eq (x := -10 - (f : Int)) (by omega) (by omega)]
/-- the new MEANING is read: both refuse alike, or both have it -/
theorem chg_parse {μ ν : Mem} {w : Nat} (h : Rel μ ν) (hw : (w : Int) < ν 0 0) :
    (∃ (f : Nat) (μ' ν' : Mem), f ≤ 240 ∧ f_X7_tellMeaning [vR 7 151, vI (w : Int)] μ = some (some (vI (-10 - (f : Int))), μ') ∧ cV (f_X12_next [vR 12 0] (up (up ν 0 30 0) 0 26 0)) (fun μ3 => if (μ3 0 30) = 0 then gi (w : Int) (lnR 2) (cV (f_X12_readTerm [vR 12 0, vI (μ3 2 ((w : Int)).toNat), vI (w : Int)] μ3) (fun μ4 => e_X12_change_42 w none none none none μ4)) else e_X12_change_42 w none none none none μ3) = some (some (vI (-10 - (f : Int))), ν') ∧ Rel μ' ν') ∨
    (∃ (μ2 ν2 μ3 : Mem) (l : List Int), f_X7_tellMeaning [vR 7 151, vI (w : Int)] μ = some (some (vI 0), μ3) ∧ cV (f_X12_next [vR 12 0] (up (up ν 0 30 0) 0 26 0)) (fun μ3 => if (μ3 0 30) = 0 then gi (w : Int) (lnR 2) (cV (f_X12_readTerm [vR 12 0, vI (μ3 2 ((w : Int)).toNat), vI (w : Int)] μ3) (fun μ4 => e_X12_change_42 w none none none none μ4)) else e_X12_change_42 w none none none none μ3) = e_X12_change_88 w 0 none none none ν2 ∧ Rel μ2 ν2 ∧ FrM ν ν2 ∧ okRw ν2 (ν2 2 w) w l ∧ LT l ∧ l.length ≤ 20 ∧ RHL ν2 19 l ∧ ν2 0 33 = (l.length : Int) ∧ TH μ3 (9 + 4 * w) l ∧ Fr μ2 μ3 (tS (9 + 4 * w))) := by
  obtain ⟨hT, hH, hW, hS, hP, hI, hD, hL, hG, hC⟩ := id h
  have w4 := hW.2.1
  have okw := hW.2.2.2.2.1 w hw
  have need : 0 ≤ ν 2 w ∧ ν 2 w ≤ 3 := by have := okw.1.2.2.1; omega
  have h25 : 0 ≤ ν 0 25 ∧ ν 0 25 ≤ 240 := ⟨hT.2.1, hT.2.2.1⟩
  have hb : ∀ i : Nat, (i : Int) < ν 0 25 → 0 ≤ ν 18 i := fun i hi => (hT.2.2.2.2 i hi).1
  have TC0 : TC μ ν := ⟨hT.1, hT.2.1, hT.2.2.1, hT.2.2.2.2⟩
  have Fb : FrTp μ (up (up (up μ 151 7 0) 151 6 0) 151 9 0) := frTp_trans (frTp_trans (frTp_up (by omega)) (frTp_up (by omega))) (frTp_up (by omega))
  have FN : FrN ν (up (up ν 0 30 0) 0 26 0) := frN_trans (frN_up (by omega)) (frN_up (by omega))
  have n30 : up (up ν 0 30 0) 0 26 0 0 30 = 0 := by rw [up_slot (by omega), up_same]
  obtain ⟨f, t, k, ν1, a1, a2, a3, a4, a5, a6⟩ := r_next (p := 0) h25 hb FN (by omega) (up_same _ _ _ _) n30
  have hWb : RelW (up (up (up μ 151 7 0) 151 6 0) 151 9 0) ν := hW.kept (fun c _ _ => Fb.1 c (by omega))
  obtain ⟨f', t', k', μ1, r, b1, b2, b3, b4, b5, b6⟩ := s_wantTerm (t0 := 153) (p := 0) (names := ν 2 w) (ahead := (w : Int)) (Or.inl rfl) hWb need (TC0.fr Fb) (by omega) (by rw [up_slot (by omega), up_slot (by omega), up_same]; rfl)
  obtain ⟨rfl, rfl, rfl⟩ := b1.uniq a1
  have hf240 : f' ≤ 240 := by omega
  have kz : FrK ν ν1 := frK_N a5
  have hmean : f_X9_meaningOf [vR 9 1, vI (w : Int)] μ = some (some (vR 8 (9 + 4 * w)), μ) := by rw [s_meaningOf hW, if_pos ⟨by omega, hw⟩, show ((w : Int)).toNat = w by omega]
  have hneed : f_X9_needOf [vR 9 1, vI (w : Int)] (up (up (up μ 151 7 0) 151 6 0) 151 9 0) = some (some (vI (ν 2 w)), up (up (up μ 151 7 0) 151 6 0) 151 9 0) := by
    rw [q_X9_needOf, if_neg (by omega), hWb.2.2.2.1, if_pos hw, gk (lnC 3) 4 rfl (by omega) (by omega), show ((w : Int)).toNat = w by omega, (hWb.2.2.2.2.1 w hw).2.2.1]
  -- the relation when the tape is emptied
  have RT0 : ∀ (μa νa : Mem), FrTt 153 μ μa → FrK ν νa → μa 151 9 = νa 0 30 → Rel (up μa 151 8 0) (up νa 0 25 0) := fun μa νa p1 p2 p3 => by
    refine rel_tape h (fun c c1 c2 c3 => ?_) (fun c c1 c2 c3 => ?_) (fun j j1 j2 j3 => ?_) ⟨?_, ?_, ?_, ?_, fun i hi => ?_⟩
    · rw [up_cell c1]; exact p1.1 c c1 (by unfold scr at c3; omega) (by unfold scr at c3; omega)
    · rw [up_cell c1]; exact p2.1 c c1 (by unfold scrR at c3; omega)
    · rw [up_slot j2]; exact p2.2 j (by unfold scrK at j1; omega) (by unfold scrK at j1; omega)
    · rw [up_same, up_same]
    · rw [up_same]; decide
    · rw [up_same]; decide
    · rw [up_slot (by omega), up_slot (by omega)]; exact p3
    · rw [up_same] at hi; omega
  have FT : FrTt 153 μ μ1 := frTt_trans (frTt_T Fb) b3
  have cls : f_X7_tellMeaning [vR 7 151, vI (w : Int)] μ = if r = 0 then some (some (vI (-10 - (f' : Int))), up μ1 151 8 0) else cI (f_X7_want [vR 7 151, vI 0] μ1) (fun x16 μ15 => if x16 = 0 then some (some (vI (wr ((-10) - ((up μ15 151 8 0) 151 6)))), up μ15 151 8 0) else cV (f_X8_copy [vR 8 (9 + 4 * w), vR 8 153] (up μ15 151 8 0)) (fun μ17 => some (some (vI 0), μ17))) := by
    rw [q_X7_tellMeaning, hmean, cR_s, q_X7_begin, cV_t, hneed, cI_t, b5, cI_t, up_slot (show (6 : Nat) ≠ 8 by omega), b4, wr_eq (x := -10 - (f' : Int)) (by omega) (by omega)]
  have h2c : ν1 2 = ν 2 := kz.1 2 (by omega) (by omega)
  rcases b6 with ⟨rfl, c1, c2, c3, c4, c5, c6, c7, c8⟩ | ⟨rfl, c1⟩
  · subst c2
    have hr1 := a1.2.2.1 (Or.inl rfl)
    obtain ⟨ν2, d1, d2, d3⟩ := r_readTerm (νw := ν) (names := ν 2 w) (ahead := (w : Int)) hW rfl rfl need h25 hb (by have := hW.2.2.1; have := hW.1; omega) kz (fun _ => hr1) c8 c1 a6
    have n1 : ν1 0 30 = 0 := by
      rcases a6 with ⟨_, z, _⟩ | ⟨z, _⟩
      · exact z
      · exact absurd c1 z
    have ref : cV (f_X12_next [vR 12 0] (up (up ν 0 30 0) 0 26 0)) (fun μ3 => if (μ3 0 30) = 0 then gi (w : Int) (lnR 2) (cV (f_X12_readTerm [vR 12 0, vI (μ3 2 ((w : Int)).toNat), vI (w : Int)] μ3) (fun μ4 => e_X12_change_42 w none none none none μ4)) else e_X12_change_42 w none none none none μ3) = e_X12_change_42 w none none none none ν2 := by
      rw [a4, cV_t, n1, if_pos rfl, gk (lnR 2) 4 rfl (by omega) (by omega), show ((w : Int)).toNat = w by omega, h2c, d1, cV_t]
    rw [ref]
    rcases d3 with ⟨_, e1, e2, e3, e4, f2, t2, k2, e5, e6, e7, e8⟩ | ⟨_, z, _⟩ | ⟨z, _⟩
    · -- the TERM stands: the end
      have TC1 : TC μ1 ν := by
        unfold TC at *
        rw [FT.2 8 (by omega) (by omega) (by omega) (by omega), FT.1 152 (by omega) (by omega) (by omega)]
        exact TC0
      obtain ⟨f3, t3, k3, μ4, g1, g2, g3, g4, g5⟩ := s_want TC1 c8 c6 0
      obtain ⟨rfl, rfl, rfl⟩ := g1.uniq e5
      have F4 : FrTt 153 μ μ4 := frTt_trans FT (frTt_T g3)
      rcases g5 with ⟨i1, i2, i3, i4, i5, i6, i7⟩ | ⟨i1, i2, i3, i4⟩ | ⟨i1, i2, i3⟩
      · -- both have it
        subst i2
        have m9 : μ1 151 9 = 0 := by rw [c7, up_same]
        have z30 : ν2 0 30 = 0 := by
          rcases e8 with ⟨_, z, _⟩ | ⟨z, _⟩
          · exact z
          · exact absurd i1 z
        have z28 : ν2 0 28 = 0 := by
          rcases e8 with ⟨_, _, _, _, z, _⟩ | ⟨z, _⟩
          · exact z
          · exact absurd i1 z
        have hl20 : (rowL ν f' t').length ≤ 20 := by rw [rowL_len]; exact c4
        have hm := rowL_mem hr1
        have TH4 : TH (up μ4 151 8 0) 153 (rowL ν f' t') := c5.kept (S := fun c => c = 151) (fun c hc => by rw [up_cell hc, g3.1 c hc]) (by omega) (by omega)
        obtain ⟨μ5, j1, j2, j3⟩ := s_copy (t := 9 + 4 * w) TH4 (fun c hc => by have := hm c hc; omega) (by unfold tS; omega) (by unfold tS; omega) (by
          have : lnC (9 + 4 * w + 1) = 20 := by
            rcases (show w = 0 ∨ w = 1 ∨ w = 2 ∨ w = 3 by omega) with rfl | rfl | rfl | rfl <;> rfl
          rw [this]; exact hl20)
        have M2 : FrM ν (up ν2 0 25 0) := ⟨fun c x y => by rw [up_cell (by omega)]; exact d2.1 c (by omega) (by omega), by rw [up_slot (by omega)]; exact d2.2 0 (by omega) (by omega), by rw [up_slot (by omega)]; exact d2.2 5 (by omega) (by omega), by rw [up_slot (by omega)]; exact d2.2 23 (by omega) (by omega)⟩
        refine Or.inr ⟨up μ4 151 8 0, up ν2 0 25 0, μ5, rowL ν f' t', ?_, ?_, RT0 μ4 ν2 F4 d2 (by rw [i6, m9, z30]), M2, ?_, fun c hc => hm c hc, hl20, e3.kept (up_cell (by omega)), by rw [up_slot (by omega), rowL_len]; exact e4, j2, j3⟩
        · rw [cls, if_neg ten, i3, cI_t, if_neg ten, j1, cV_t]
        · rw [q_X12_change_42, z30, if_pos rfl, z28, if_pos rfl, q_X12_wants, if_neg ten, cV_t, up_slot (show (30 : Nat) ≠ 25 by omega), z30, if_pos (by decide)]
        · unfold okRw mS at e1 ⊢
          rw [frM_wb M2, frM_ar M2, frM_c M2 (c := 2) (by omega)]
          exact e1
      · have z30 : ν2 0 30 = 0 := by
          rcases e8 with ⟨_, z, _⟩ | ⟨z, _⟩
          · exact z
          · exact absurd i1 z
        have z28 : ν2 0 28 = (if k3 = 4 then 3 else k3) := by
          rcases e8 with ⟨_, _, _, _, z, _⟩ | ⟨z, _⟩
          · exact z
          · exact absurd i1 z
        have z27 : ν2 0 27 = (f3 : Int) := by
          rcases e8 with ⟨_, _, _, z, _⟩ | ⟨z, _⟩
          · exact z
          · exact absurd i1 z
        have nz : ¬ ν2 0 28 = 0 := by rw [z28]; split <;> omega
        refine Or.inl ⟨f3, _, _, by omega, ?_, ?_, RT0 μ4 (up (up ν2 0 30 2) 0 31 (f3 : Int)) F4 (frK_trans d2 (frK_trans (frK_N (frN_up (by omega))) (frK_N (frN_up (by omega))))) (by rw [i4, up_slot (by omega), up_same])⟩
        · rw [cls, if_neg ten, i3, cI_t, if_pos rfl, up_slot (show (6 : Nat) ≠ 8 by omega), g4, wr_eq (x := -10 - (f3 : Int)) (by omega) (by omega)]
        · rw [q_X12_change_42, z30, if_pos rfl, if_neg nz, q_X12_wants, if_pos rfl, if_pos z30, cV_t, up_slot (show (27 : Nat) ≠ 30 by omega), z27, up_slot (show (30 : Nat) ≠ 25 by omega), up_slot (show (30 : Nat) ≠ 31 by omega), up_same, if_neg (by decide), up_slot (show (31 : Nat) ≠ 25 by omega), up_same, wr_eq (x := -10 - (f3 : Int)) (by omega) (by omega)]
      · have z30 : ν2 0 30 = 1 ∧ ν2 0 31 = (f3 : Int) := by
          rcases e8 with ⟨z, _⟩ | ⟨_, z⟩
          · exact absurd z i1
          · exact ⟨z.1, z.2.1⟩
        refine Or.inl ⟨f3, _, _, by omega, ?_, c42_bad (c := 1) (by decide) (by omega) z30.1 z30.2, RT0 μ4 ν2 F4 d2 (by rw [i3, z30.1])⟩
        rw [cls, if_neg ten, i2, cI_t, if_pos rfl, up_slot (show (6 : Nat) ≠ 8 by omega), g4, wr_eq (x := -10 - (f3 : Int)) (by omega) (by omega)]
    · exact absurd ⟨c3, c4⟩ z
    · exact absurd rfl z
  · rw [if_pos rfl] at cls
    rcases c1 with ⟨c1, c2, c3, c4⟩ | ⟨c1, c2, c3⟩ | ⟨c1, c2⟩
    · have hr1 := fun z => a1.2.2.1 (Or.inl z)
      obtain ⟨ν2, d1, d2, d3⟩ := r_readTerm (νw := ν) (names := ν 2 w) (ahead := (w : Int)) hW rfl rfl need h25 hb (by have := hW.2.2.1; have := hW.1; omega) kz (fun z => by have := hr1 z; rw [z] at this; exact this) (a3 c1) c1 a6
      have n1 : ν1 0 30 = 0 := by
        rcases a6 with ⟨_, z, _⟩ | ⟨z, _⟩
        · exact z
        · exact absurd c1 z
      rcases d3 with ⟨_, e1, e2, _⟩ | ⟨_, _, e1, e2⟩ | ⟨z, _⟩
      · exact absurd ⟨e1, e2⟩ c3
      · refine Or.inl ⟨f', _, _, hf240, cls, ?_, RT0 μ1 ν2 FT d2 (by rw [c4, e1])⟩
        rw [a4, cV_t, n1, if_pos rfl, gk (lnR 2) 4 rfl (by omega) (by omega), show ((w : Int)).toNat = w by omega, h2c, d1, cV_t]
        exact c42_bad (c := 5) (by decide) hf240 e1 e2
      · exact absurd c2 z
    · obtain ⟨ν2, d1, d2, d3⟩ := r_readTerm (νw := ν) (names := ν 2 w) (ahead := (w : Int)) hW rfl rfl need h25 hb (by have := hW.2.2.1; have := hW.1; omega) kz (fun z => absurd z c2) (a3 c1) c1 a6
      have n1 : ν1 0 30 = 0 := by
        rcases a6 with ⟨_, z, _⟩ | ⟨z, _⟩
        · exact z
        · exact absurd c1 z
      rcases d3 with ⟨z, _⟩ | ⟨z, _⟩ | ⟨_, e1, e2⟩
      · exact absurd z c2
      · exact absurd z c2
      · refine Or.inl ⟨f', _, _, hf240, cls, ?_, RT0 μ1 ν2 FT d2 (by rw [c3, e1])⟩
        rw [a4, cV_t, n1, if_pos rfl, gk (lnR 2) 4 rfl (by omega) (by omega), show ((w : Int)).toNat = w by omega, h2c, d1, cV_t]
        exact c42_bad (c := 2) (by decide) hf240 e1 e2
    · have n1 : ν1 0 30 = 1 ∧ ν1 0 31 = (f' : Int) := by
        rcases a6 with ⟨z, _⟩ | ⟨_, z⟩
        · exact absurd z c1
        · exact ⟨z.1, z.2.1⟩
      refine Or.inl ⟨f', _, _, hf240, cls, ?_, RT0 μ1 ν1 FT kz (by rw [c2, n1.1])⟩
      rw [a4, cV_t, n1.1, if_neg (by decide)]
      exact c42_bad (c := 1) (by decide) hf240 n1.1 n1.2
