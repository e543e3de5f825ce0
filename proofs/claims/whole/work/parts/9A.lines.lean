/-! text: the lines -/
theorem st_rows : (sLn 0 = 4 ∧ sCt 0 0 = 119 ∧ sCt 0 1 = 111 ∧ sCt 0 2 = 114 ∧ sCt 0 3 = 100) ∧ (sLn 1 = 5 ∧ sCt 1 0 = 116 ∧ sCt 1 1 = 97 ∧ sCt 1 2 = 107 ∧ sCt 1 3 = 101 ∧ sCt 1 4 = 110) ∧ (sLn 2 = 4 ∧ sCt 2 0 = 119 ∧ sCt 2 1 = 105 ∧ sCt 2 2 = 115 ∧ sCt 2 3 = 104) := by decide
theorem s_row26 {μ ν0 : Mem} {v f t : Nat} (hTC : TC μ ν0) (h6 : μ 151 6 = (f : Int)) (hr : RN ν0 1 f t) (ht : (t : Int) ≤ ν0 0 25) (hl : t - f = sLn v) (hl5 : sLn v ≤ 5) : ∀ (j i : Nat), i + j = sLn v → (∀ q, q < i → lk ν0 (f + q) = sCt v q) → ∃ r, e_X7_isRow_26 v i μ = some (some (vI r), μ) ∧ (r = 0 ∨ r = 1) ∧ (r = 1 ↔ ∀ q, q < sLn v → lk ν0 (f + q) = sCt v q)
  | 0, i, hj, h => by
    obtain rfl : i = sLn v := by omega
    rw [q_X7_isRow_26, if_neg (by omega), gz_1]
    exact ⟨1, rfl, Or.inr rfl, ⟨fun _ => h, fun _ => rfl⟩⟩
  | j + 1, i, hj, h => by
    have hft := hr.1
    have hb := hTC.2.2.1
    have hlk := cls_1 (hr.2.1 (f + i) (by omega) (by omega))
    have wB : wrB (lk ν0 (f + i)) = lk ν0 (f + i) := by unfold wrB; omega
    rw [q_X7_isRow_26, if_pos (by omega), h6, wr_eq (x := (f : Int) + (i : Int)) (by omega) (by omega), show (f : Int) + (i : Int) = ((f + i : Nat) : Int) by omega, s_byteAt hTC (by omega), cI_t, wB, gi_t (by omega) (by omega), show ((i : Int)).toNat = i by omega, wr_eq (x := (i : Int) + 1) (by omega) (by omega), show (i : Int) + 1 = ((i + 1 : Nat) : Int) by omega, gz_0]
    by_cases q : lk ν0 (f + i) = sCt v i
    · rw [if_pos q]
      refine s_row26 hTC h6 hr ht hl hl5 j (i + 1) (by omega) (fun x hx => ?_)
      by_cases z : x = i
      · rw [z]; exact q
      · exact h x (by omega)
    · rw [if_neg q]
      exact ⟨0, rfl, Or.inl rfl, ⟨fun z => by omega, fun z => absurd (z i (by omega)) q⟩⟩
theorem s_isRow {μ ν0 : Mem} {v f t : Nat} {k : Int} (hTC : TC μ ν0) (h6 : μ 151 6 = (f : Int)) (h7 : μ 151 7 = (t : Int)) (h5 : μ 151 5 = k) (hr : k = 1 → RN ν0 1 f t) (hft : f ≤ t) (ht : (t : Int) ≤ ν0 0 25) (hl5 : sLn v ≤ 5) : ∃ r, f_X7_isRow [vR 7 151, vR 31 v] μ = some (some (vI r), μ) ∧ (r = 0 ∨ r = 1) ∧ (r = 1 ↔ (k = 1 ∧ t - f = sLn v ∧ ∀ q, q < sLn v → lk ν0 (f + q) = sCt v q)) := by
  have hb := hTC.2.2.1
  rw [q_X7_isRow, h5, h6, h7, wr_eq (x := (t : Int) - (f : Int)) (by omega) (by omega), gz_0]
  by_cases q : k = 1
  · rw [if_pos q]
    by_cases q2 : t - f = sLn v
    · rw [if_pos (by omega)]
      obtain ⟨r, a1, a2, a3⟩ := s_row26 hTC h6 (hr q) ht q2 hl5 (sLn v) 0 (by omega) (fun x hx => by omega)
      exact ⟨r, a1, a2, a3.trans ⟨fun z => ⟨q, q2, z⟩, fun z => z.2.2⟩⟩
    · rw [if_neg (by omega)]
      exact ⟨0, rfl, Or.inl rfl, ⟨fun z => by omega, fun z => absurd z.2.1 q2⟩⟩
  · rw [if_neg q]
    exact ⟨0, rfl, Or.inl rfl, ⟨fun z => by omega, fun z => absurd z.1 q⟩⟩
theorem r_isRow {X ν0 : Mem} {f t n : Nat} {a b c d : Int} (ho : lk X = lk ν0) (h25 : 0 ≤ X 0 25 ∧ X 0 25 ≤ 240) (h26 : X 0 26 = (t : Int)) (h27 : X 0 27 = (f : Int)) (hft : f ≤ t) (ht : (t : Int) ≤ 240) : ∃ r, f_X12_isRow [vR 12 0, vI (n : Int), vI a, vI b, vI c, vI d] X = some (some (vI r), X) ∧ (r = 0 ∨ r = 1) ∧ (r = 1 ↔ (X 0 28 = 1 ∧ t - f = n ∧ lk ν0 f = a ∧ lk ν0 (f + 1) = b ∧ lk ν0 (f + 2) = c ∧ lk ν0 (f + 3) = d)) := by
  rw [q_X12_isRow, h26, h27, wr_eq (x := (t : Int) - (f : Int)) (by omega) (by omega), gz_0]
  by_cases q1 : X 0 28 = 1
  · rw [if_pos q1]
    by_cases q2 : t - f = n
    · rw [if_pos (by omega), s_look1 h25, cI_t, ho]
      by_cases q3 : lk ν0 f = a
      · rw [if_pos q3, h27, wr_eq (x := (f : Int) + 1) (by omega) (by omega), show (f : Int) + 1 = ((f + 1 : Nat) : Int) by omega, s_look1 h25, cI_t, ho]
        by_cases q4 : lk ν0 (f + 1) = b
        · rw [if_pos q4, h27, wr_eq (x := (f : Int) + 2) (by omega) (by omega), show (f : Int) + 2 = ((f + 2 : Nat) : Int) by omega, s_look1 h25, cI_t, ho]
          by_cases q5 : lk ν0 (f + 2) = c
          · rw [if_pos q5, h27, wr_eq (x := (f : Int) + 3) (by omega) (by omega), show (f : Int) + 3 = ((f + 3 : Nat) : Int) by omega, s_look1 h25, cI_t, ho, gz_1, gz_0]
            by_cases q6 : lk ν0 (f + 3) = d
            · rw [if_pos q6]; exact ⟨1, rfl, Or.inr rfl, ⟨fun _ => ⟨q1, q2, q3, q4, q5, q6⟩, fun _ => rfl⟩⟩
            · rw [if_neg q6]; exact ⟨0, rfl, Or.inl rfl, ⟨fun z => by omega, fun z => absurd z.2.2.2.2.2 q6⟩⟩
          · rw [if_neg q5, gz_0]; exact ⟨0, rfl, Or.inl rfl, ⟨fun z => by omega, fun z => absurd z.2.2.2.2.1 q5⟩⟩
        · rw [if_neg q4, gz_0]; exact ⟨0, rfl, Or.inl rfl, ⟨fun z => by omega, fun z => absurd z.2.2.2.1 q4⟩⟩
      · rw [if_neg q3, gz_0]; exact ⟨0, rfl, Or.inl rfl, ⟨fun z => by omega, fun z => absurd z.2.2.1 q3⟩⟩
    · rw [if_neg (by omega)]; exact ⟨0, rfl, Or.inl rfl, ⟨fun z => by omega, fun z => absurd z.2.1 q2⟩⟩
  · rw [if_neg q1]; exact ⟨0, rfl, Or.inl rfl, ⟨fun z => by omega, fun z => absurd z.1 q1⟩⟩
theorem four {P : Nat → Prop} : (∀ q, q < 4 → P q) ↔ P 0 ∧ P 1 ∧ P 2 ∧ P 3 := by
  constructor
  · intro h; exact ⟨h 0 (by omega), h 1 (by omega), h 2 (by omega), h 3 (by omega)⟩
  · rintro ⟨a, b, c, d⟩ q hq
    rcases (show q = 0 ∨ q = 1 ∨ q = 2 ∨ q = 3 by omega) with rfl | rfl | rfl | rfl <;> assumption
theorem five {P : Nat → Prop} : (∀ q, q < 5 → P q) ↔ P 0 ∧ P 1 ∧ P 2 ∧ P 3 ∧ P 4 := by
  constructor
  · intro h; exact ⟨h 0 (by omega), h 1 (by omega), h 2 (by omega), h 3 (by omega), h 4 (by omega)⟩
  · rintro ⟨a, b, c, d, e⟩ q hq
    rcases (show q = 0 ∨ q = 1 ∨ q = 2 ∨ q = 3 ∨ q = 4 by omega) with rfl | rfl | rfl | rfl | rfl <;> assumption
theorem eq01 {r r' : Int} (h : r = 0 ∨ r = 1) (h' : r' = 0 ∨ r' = 1) (i : r = 1 ↔ r' = 1) : r = r' := by
  rcases h with rfl | rfl
  · rcases h' with rfl | rfl
    · rfl
    · exact absurd (i.mpr rfl) (by decide)
  · exact (i.mp rfl).symm
section LN
variable {μ0 ν0 μ ν : Mem} {f t : Nat} {k : Int}
theorem line (h0 : Rel μ0 ν0) (h : TX μ0 ν0 μ ν) (hf : (f : Int) ≤ ν0 0 25) (ht : (t : Int) ≤ ν0 0 25) (hft : f ≤ t) (hr : k = 1 → RN ν0 1 f t) (hk0 : k ≠ 0) (m5 : μ 151 5 = k) (m6 : μ 151 6 = (f : Int)) (m7 : μ 151 7 = (t : Int)) (m9 : μ 151 9 = 0) (h1 : tok1 k f t) (hT : TokR ν ν0 f t k) : ∃ r μ' ν', f_X7_tellLine [vR 7 151, vI (ν0 0 21), vI (ν0 0 22)] μ = some (some (vI r), μ') ∧ (∀ (v : Int) (o : Option AV), e_X12_text_32 v o ν = e_X12_text_32 (wr (v + 1)) o ν') ∧ OUT μ0 ν0 t r μ' ν' := by
  have hT0 := h0.1
  have h4 : ν0 0 0 ≤ 4 := h0.2.2.1.2.1
  have h24 : ν0 0 5 ≤ 24 := h0.2.2.2.1.2.1
  have h25 : 0 ≤ ν0 0 25 ∧ ν0 0 25 ≤ 240 := ⟨hT0.2.1, hT0.2.2.1⟩
  have tc := h.1.TC hT0
  have b25 : 0 ≤ ν 0 25 ∧ ν 0 25 ≤ 240 := by rw [h.2.1.2.1 25 (by omega) (by omega) (by omega) (by omega)]; exact h25
  obtain ⟨n30, n26, n27, n28⟩ : ν 0 30 = 0 ∧ ν 0 26 = (t : Int) ∧ ν 0 27 = (f : Int) ∧ ν 0 28 = (if k = 4 then 3 else k) := by
    rcases hT with ⟨_, q1, q2, q3, q4, _⟩ | ⟨q, _⟩
    · exact ⟨q1, q2, q3, q4⟩
    · exact absurd h1 q
  have s0 : ¬ ν 0 28 = 0 := by rw [n28]; split <;> omega
  have s1 : ν 0 28 = 1 ↔ k = 1 := by rw [n28]; split <;> omega
  obtain ⟨⟨L0, x00, x01, x02, x03⟩, ⟨L1, x10, x11, x12, x13, x14⟩, L2, x20, x21, x22, x23⟩ := st_rows
  obtain ⟨rw, a1, a2, a3⟩ := s_isRow (v := 0) tc m6 m7 m5 hr hft ht (by rw [L0]; decide)
  obtain ⟨rt, b1, b2, b3⟩ := s_isRow (v := 1) tc m6 m7 m5 hr hft ht (by rw [L1]; decide)
  obtain ⟨rs, c1, c2, c3⟩ := s_isRow (v := 2) tc m6 m7 m5 hr hft ht (by rw [L2]; decide)
  rw [L0, four, x00, x01, x02, x03] at a3
  rw [L1, five, x10, x11, x12, x13, x14] at b3
  rw [L2, four, x20, x21, x22, x23] at c3
  obtain ⟨rw', d1, d2, d3⟩ := r_isRow (n := 4) (a := 119) (b := 111) (c := 114) (d := 100) h.2.1.lk b25 n26 n27 hft (by omega)
  obtain ⟨rt', e1, e2, e3⟩ := r_isRow (n := 5) (a := 116) (b := 97) (c := 107) (d := 101) h.2.1.lk b25 n26 n27 hft (by omega)
  obtain ⟨rs', f1, f2, f3⟩ := r_isRow (n := 4) (a := 119) (b := 105) (c := 115) (d := 104) h.2.1.lk b25 n26 n27 hft (by omega)
  have d1' : f_X12_isRow [vR 12 0, vI 4, vI 119, vI 111, vI 114, vI 100] ν = _ := d1
  have e1' : f_X12_isRow [vR 12 0, vI 5, vI 116, vI 97, vI 107, vI 101] ν = _ := e1
  have f1' : f_X12_isRow [vR 12 0, vI 4, vI 119, vI 105, vI 115, vI 104] ν = _ := f1
  rw [s1] at d3 e3 f3
  have ww : rw = rw' := eq01 a2 d2 (a3.trans d3.symm)
  have ss : rs = rs' := eq01 c2 f2 (c3.trans f3.symm)
  have tt : rt = 1 ↔ (rt' = 1 ∧ lk ν0 (f + 4) = 110) := by
    rw [b3, e3]
    constructor
    · rintro ⟨p1, p2, p3, p4, p5, p6, p7⟩; exact ⟨⟨p1, p2, p3, p4, p5, p6⟩, p7⟩
    · rintro ⟨⟨p1, p2, p3, p4, p5, p6⟩, p7⟩; exact ⟨p1, p2, p3, p4, p5, p6, p7⟩
  clear a3 b3 c3 d3 e3 f3
  subst ww
  subst ss
  have gzr : ∀ {r : Int} {X : Option Rs}, (r = 0 ∨ r = 1) → gz r X = X := fun hr => gz_t hr
  have out01 : ∀ {r : Int} {μ' ν' : Mem}, OUT μ0 ν0 t r μ' ν' → (r = 0 ∨ r = 1) := fun ho => by
    rcases ho with ⟨z, _⟩ | ⟨z, _⟩
    · exact Or.inr z
    · exact Or.inl z
  rw [q_X7_tellLine, a1, cI_t]
  have head : ∀ (v : Int) (o : Option AV), e_X12_text_32 v o ν = if rw = 0 then (if rt' = 0 then e_X12_text_108 v o ν else if lk ν0 (f + 4) = 110 then cV (f_X12_readSaying [vR 12 0, vI 0] ν) (fun μ7 => cV (f_X12_readSign [vR 12 0, vI 59] μ7) (fun μ8 => e_X12_text_32 (wr (v + 1)) o μ8)) else e_X12_text_108 v o ν) else cV (f_X12_readWord [vR 12 0] ν) (fun μ9 => cV (f_X12_readSign [vR 12 0, vI 59] μ9) (fun μ10 => e_X12_text_32 (wr (v + 1)) o μ10)) := fun v o => by
    rw [q_X12_text_32, n30, if_pos rfl, if_neg s0, d1', cI_t, e1', cI_t, n27, wr_eq (x := (f : Int) + 4) (by omega) (by omega), show (f : Int) + 4 = ((f + 4 : Nat) : Int) by omega, s_look1 b25, cI_t, h.2.1.lk]
  rcases a2 with rfl | rfl
  · rw [if_pos rfl, b1, cI_t]
    have h108 : ∀ (v : Int) (o : Option AV), e_X12_text_108 v o ν = cV (f_X12_wants [vR 12 0, vI rs, vI 2] ν) (fun μ3 => if (μ3 0 30) = 0 then cV (f_X12_readSaying [vR 12 0, vI 1] μ3) (fun μ5 => cV (f_X12_readSign [vR 12 0, vI 59] μ5) (fun μ6 => e_X12_text_32 (wr (v + 1)) o μ6)) else cV (f_X12_readSign [vR 12 0, vI 59] μ3) (fun μ4 => e_X12_text_32 (wr (v + 1)) o μ4)) := fun v o => by
      rw [q_X12_text_108, f1', cI_t]
    rcases b2 with rfl | rfl
    · -- not taken
      have nt : ∀ (v : Int) (o : Option AV), e_X12_text_32 v o ν = e_X12_text_108 v o ν := fun v o => by
        rw [head v o, if_pos rfl]
        rcases e2 with rfl | rfl
        · rw [if_pos rfl]
        · rw [if_neg ten, if_neg]
          intro z
          exact absurd (tt.mpr ⟨rfl, z⟩) (by decide)
      rw [if_pos rfl, c1, cI_t]
      rcases c2 with rfl | rfl
      · rw [if_pos rfl, q_X7_fails, gz_0, cI_t, gz_0]
        have e30 : up (up ν 0 30 2) 0 31 (f : Int) 0 30 = 2 := by rw [up_slot (by omega), up_same]
        refine ⟨0, _, up (up ν 0 30 2) 0 31 (f : Int), rfl, fun v o => ?_, Or.inr ⟨rfl, (h.bad).fr h24 h4 (frTx_T (frTp_up (by omega))) (frK_trans (frK_N (frN_up (by omega))) (frK_N (frN_up (by omega)))), f, 2, by decide, hf, by rw [up_slot (by omega)]; exact m6, up_same _ _ _ _, e30, up_same _ _ _ _⟩⟩
        rw [nt, h108, q_X12_wants, if_pos rfl, if_pos n30, cV_t, up_slot (show (27 : Nat) ≠ 30 by omega), n27, e30, if_neg (by decide), r_signF (by rw [e30]; decide), cV_t]
      · obtain ⟨r, μ', νa, ν', p1, p2, p3, p4⟩ := line_say (st := 1) h0 h (Or.inr rfl) ht m7 m6 hf m9 n26 n27 n30
        rw [if_neg ten, p1, cI_t, gzr (out01 p4)]
        refine ⟨r, μ', ν', rfl, fun v o => ?_, p4⟩
        rw [nt, h108, q_X12_wants, if_neg ten, cV_t, n30, if_pos rfl, p2, cV_t, p3, cV_t]
    · obtain ⟨r, μ', νa, ν', p1, p2, p3, p4⟩ := line_say (st := 0) h0 h (Or.inl rfl) ht m7 m6 hf m9 n26 n27 n30
      obtain ⟨q1, q2⟩ := tt.mp rfl
      rw [if_neg ten, p1, cI_t, gzr (out01 p4)]
      refine ⟨r, μ', ν', rfl, fun v o => ?_, p4⟩
      rw [head v o, if_pos rfl, q1, if_neg ten, if_pos q2, p2, cV_t, p3, cV_t]
  · obtain ⟨r, μ', νa, ν', p1, p2, p3, p4⟩ := line_word h0 h ht m7 m9 n26 n30
    rw [if_neg ten, p1, cI_t, gzr (out01 p4)]
    refine ⟨r, μ', ν', rfl, fun v o => ?_, p4⟩
    rw [head v o, if_neg ten, p2, cV_t, p3, cV_t]
end LN
