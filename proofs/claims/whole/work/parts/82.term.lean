/-! a TERM is read from the tape: the class -/
def mS (ν : Mem) (names ahead c : Int) : Prop := c = 12 ∨ c = 14 ∨ (23 ≤ c ∧ c < 23 + names) ∨ (c < 23 ∧ wb ν c ≠ -4 ∧ wb ν c < ahead)
def okRw (ν : Mem) (names ahead : Int) (l : List Int) : Prop := (∀ c ∈ l, mS ν names ahead c) ∧ isT (ar ν) 1 l
theorem mS_ar {μ ν : Mem} (hW : RelW μ ν) {names ahead c : Int} (h : mS ν names ahead c) : 0 ≤ ar ν c := by
  unfold ar
  rcases h with h | h | h | h
  · rw [if_neg (by omega), if_pos h]; decide
  · rw [if_pos (by omega)]; decide
  · rw [if_pos (by omega)]; decide
  · split
    · decide
    · split
      · decide
      · rw [if_neg h.2.1]
        rcases wb_range hW c with q | ⟨q1, q2, q3⟩
        · exact absurd q h.2.1
        · have := (hW.2.2.2.2.1 (wb ν c).toNat (by omega)).1.2.2.1
          omega
theorem s_mayStand {μ ν : Mem} (hW : RelW μ ν) {names ahead c : Int} (hn : 0 ≤ names ∧ names ≤ 3) (hc : -128 ≤ c ∧ c ≤ 127) : ∃ r, f_X9_mayStand [vR 9 1, vI c, vI names, vI ahead] μ = some (some (vI r), μ) ∧ (r = 0 ∨ r = 1) ∧ (r = 1 ↔ mS ν names ahead c) := by
  rw [q_X9_mayStand, gz_0, gz_1, s_numberOf hW, cI_t, gz_0, gz_1, wr_eq (x := c - 23) (by omega) (by omega)]
  unfold mS
  by_cases h23 : c < 23
  · rw [if_pos h23]
    by_cases h12 : c = 12
    · rw [if_pos h12]; exact ⟨1, rfl, Or.inr rfl, ⟨fun _ => Or.inl h12, fun _ => rfl⟩⟩
    · rw [if_neg h12]
      by_cases h14 : c = 14
      · rw [if_pos h14]; exact ⟨1, rfl, Or.inr rfl, ⟨fun _ => Or.inr (Or.inl h14), fun _ => rfl⟩⟩
      · rw [if_neg h14]
        have wr := wb_range hW c
        by_cases hb : wb ν c < 0
        · rw [if_pos hb]
          exact ⟨0, rfl, Or.inl rfl, ⟨fun z => by omega, fun z => by omega⟩⟩
        · rw [if_neg hb]
          by_cases ha : wb ν c < ahead
          · rw [if_pos ha]; exact ⟨1, rfl, Or.inr rfl, ⟨fun _ => Or.inr (Or.inr (Or.inr ⟨h23, by omega, ha⟩)), fun _ => rfl⟩⟩
          · rw [if_neg ha]; exact ⟨0, rfl, Or.inl rfl, ⟨fun z => by omega, fun z => by omega⟩⟩
  · rw [if_neg h23]
    by_cases h : c - 23 < names
    · rw [if_pos h]; exact ⟨1, rfl, Or.inr rfl, ⟨fun _ => by omega, fun _ => rfl⟩⟩
    · rw [if_neg h]; exact ⟨0, rfl, Or.inl rfl, ⟨fun z => by omega, fun z => by omega⟩⟩
theorem s_isTerm6 {μ ν : Mem} (hW : RelW μ ν) {t : Nat} {l : List Int} (hT : TH μ t l) (hl20 : l.length ≤ 20) {names ahead : Int} (hn : 0 ≤ names ∧ names ≤ 3) (hB : BY l) : ∀ (j i op : Nat), i + j = l.length → op ≤ 1 + i → ∃ r, e_X9_isTerm_6 t names ahead op i μ = some (some (vI r), μ) ∧ (r = 0 ∨ r = 1) ∧ (r = 1 ↔ (∀ c ∈ l.drop i, mS ν names ahead c) ∧ isT (ar ν) op (l.drop i))
  | 0, i, op, hj, ho => by
    obtain rfl : i = l.length := by omega
    rw [q_X9_isTerm_6, hT.1, if_neg (by omega), List.drop_length, gz_0, gz_1]
    cases op with
    | zero => rw [if_pos (by rfl)]; exact ⟨1, rfl, Or.inr rfl, ⟨fun _ => ⟨(fun c hc => by cases hc), trivial⟩, fun _ => rfl⟩⟩
    | succ m => rw [if_neg (by omega)]; exact ⟨0, rfl, Or.inl rfl, ⟨fun z => by omega, fun z => z.2.elim⟩⟩
  | j + 1, i, op, hj, ho => by
    have hil : i < l.length := by omega
    have hd : l.drop i = l[i] :: l.drop (i + 1) := List.drop_eq_getElem_cons hil
    have hat : atL l (i : Int) = l[i] := atL_in (by omega) (by rw [show ((i : Int)).toNat = i by omega]; exact List.getElem?_eq_getElem hil)
    have hcB := hB l[i] (List.getElem_mem hil)
    rw [q_X9_isTerm_6, hT.1, if_pos (by omega), hd, s_at hT, cI_t, hat]
    generalize l[i] = c at *
    cases op with
    | zero =>
      rw [if_pos (by rfl), gz_0]
      exact ⟨0, rfl, Or.inl rfl, ⟨fun z => by omega, fun z => z.2.elim⟩⟩
    | succ m =>
      obtain ⟨r, a1, a2, a3⟩ := s_mayStand hW (ahead := ahead) hn hcB
      rw [if_neg (by omega), a1, cI_t, s_at hT, cI_t, hat, s_behind hW, cI_t, gz_0]
      rcases a2 with rfl | rfl
      · rw [if_pos rfl]
        exact ⟨0, rfl, Or.inl rfl, ⟨fun z => by omega, fun z => by have := a3.mpr (z.1 c (List.mem_cons_self ..)); omega⟩⟩
      · have hm := a3.mp rfl
        have h0 := mS_ar hW hm
        have hv := ar_vals hW c
        have an : arN ν c = ar ν c := by unfold arN; rw [if_neg (by omega)]
        obtain ⟨a, ha⟩ : ∃ a : Nat, ar ν c = (a : Int) := ⟨(ar ν c).toNat, by omega⟩
        rw [if_neg ten, an, ha, wr_eq (x := (a : Int) - 1) (by omega) (by omega), wr_eq (x := ((m + 1 : Nat) : Int) + ((a : Int) - 1)) (by omega) (by omega), wr_eq (x := (i : Int) + 1) (by omega) (by omega), show (i : Int) + 1 = ((i + 1 : Nat) : Int) by omega, show ((m + 1 : Nat) : Int) + ((a : Int) - 1) = ((m + a : Nat) : Int) by omega]
        obtain ⟨r, b1, b2, b3⟩ := s_isTerm6 hW hT hl20 (ahead := ahead) hn hB j (i + 1) (m + a) (by omega) (by omega)
        refine ⟨r, b1, b2, b3.trans ⟨fun ⟨x, y⟩ => ⟨fun c' hc' => ?_, ⟨h0, ?_⟩⟩, fun ⟨x, y⟩ => ⟨fun c' hc' => x c' (List.mem_cons_of_mem _ hc'), ?_⟩⟩⟩
        · rcases List.mem_cons.mp hc' with rfl | z
          · exact hm
          · exact x c' z
        · rw [ha, show ((a : Int)).toNat = a by omega]; exact y
        · have := y.2
          rw [ha, show ((a : Int)).toNat = a by omega] at this
          exact this
/-- the letters of a token -/
def rowL (ν : Mem) (f t : Nat) : List Int := (List.range (t - f)).map (fun i => lk ν (f + i) - 97)
theorem rowL_len (ν : Mem) (f t : Nat) : (rowL ν f t).length = t - f := by simp [rowL]
theorem rowL_get {ν : Mem} {f t i : Nat} (h : i < t - f) : (rowL ν f t)[i]? = some (lk ν (f + i) - 97) := by simp [rowL, h]
theorem rowL_s {ν : Mem} {f t : Nat} (h : f ≤ t) : rowL ν f (t + 1) = rowL ν f t ++ [lk ν t - 97] := by
  unfold rowL
  rw [show t + 1 - f = (t - f) + 1 by omega, List.range_succ, List.map_append, List.map_singleton, show f + (t - f) = t by omega]
theorem rowL_mem {ν : Mem} {f t : Nat} (hr : RN ν 1 f t) : ∀ c ∈ rowL ν f t, 0 ≤ c ∧ c ≤ 25 := fun c hc => by
  unfold rowL at hc
  obtain ⟨i, hi, rfl⟩ := List.mem_map.mp hc
  have hi := List.mem_range.mp hi
  have := hr.2.1 (f + i) (by omega) (by omega)
  unfold cls at this
  split at this
  · omega
  · split at this
    · omega
    · split at this
      · omega
      · split at this
        · omega
        · split at this <;> omega
/-- what a TERM's reading may change in the class -/
def FrTt (t0 : Nat) (μ μ' : Mem) : Prop := (∀ c, c ≠ 151 → c ≠ t0 → c ≠ t0 + 1 → μ' c = μ c) ∧ ∀ k, k ≠ 5 → k ≠ 6 → k ≠ 7 → k ≠ 9 → μ' 151 k = μ 151 k
theorem frTt_trans {t0 : Nat} {μ μ1 μ2 : Mem} (h : FrTt t0 μ μ1) (h2 : FrTt t0 μ1 μ2) : FrTt t0 μ μ2 := ⟨fun c a b d => (h2.1 c a b d).trans (h.1 c a b d), fun k a b c d => (h2.2 k a b c d).trans (h.2 k a b c d)⟩
theorem frTt_T {t0 : Nat} {μ μ' : Mem} (h : FrTp μ μ') : FrTt t0 μ μ' := ⟨fun c a _ _ => h.1 c a, h.2⟩
theorem s_want {μ ν : Mem} {p : Nat} (hT : TC μ ν) (hp : (p : Int) ≤ ν 0 25) (h7 : μ 151 7 = (p : Int)) (w : Int) : ∃ f t k μ', TK ν p f t k ∧ (f : Int) ≤ ν 0 25 ∧ FrTp μ μ' ∧ μ' 151 6 = (f : Int) ∧ ((tok1 k f t ∧ k = w ∧ f_X7_want [vR 7 151, vI w] μ = some (some (vI 1), μ') ∧ μ' 151 5 = k ∧ μ' 151 7 = (t : Int) ∧ μ' 151 9 = μ 151 9 ∧ (t : Int) ≤ ν 0 25) ∨ (tok1 k f t ∧ k ≠ w ∧ f_X7_want [vR 7 151, vI w] μ = some (some (vI 0), μ') ∧ μ' 151 9 = 2) ∨ (¬ tok1 k f t ∧ f_X7_want [vR 7 151, vI w] μ = some (some (vI 0), μ') ∧ μ' 151 9 = 1)) := by
  obtain ⟨f, t, k, μ1, a1, a2, a3, a4, a5, a6⟩ := s_advance hT hp h7
  rw [q_X7_want]
  rcases a6 with ⟨b1, b2, b3, b4, b5, b6⟩ | ⟨b1, b2, b3⟩
  · rw [b2, cI_t, if_neg ten, b3, gz_1]
    by_cases q : k = w
    · rw [if_pos q]
      exact ⟨f, t, k, μ1, a1, a2, a4, a5, Or.inl ⟨b1, q, rfl, b3, b4, b5, b6⟩⟩
    · rw [if_neg q, q_X7_fails, gz_0, cI_t, if_pos rfl, gz_0]
      exact ⟨f, t, k, _, a1, a2, frTp_trans a4 (frTp_up (by omega)), by rw [up_slot (by omega)]; exact a5, Or.inr (Or.inl ⟨b1, q, rfl, up_same _ _ _ _⟩)⟩
  · rw [b2, cI_t, if_pos rfl, gz_0]
    exact ⟨f, t, k, μ1, a1, a2, a4, a5, Or.inr (Or.inr ⟨b1, rfl, b3⟩)⟩
theorem s_wantT21 {ν νw μ0 : Mem} {t0 f t : Nat} (ht0 : t0 = 153 ∨ t0 = 155) (hW : RelW μ0 νw) {names ahead : Int} (hn : 0 ≤ names ∧ names ≤ 3) (hT0 : TC μ0 ν) (ht : (t : Int) ≤ ν 0 25) (hr : RN ν 1 f t) (h7 : μ0 151 7 = (t : Int)) (h6 : μ0 151 6 = (f : Int)) : ∀ (j i : Nat) (μ : Mem), i + j = t → f ≤ i → FrTt t0 μ0 μ → TH μ t0 (rowL ν f i) → μ 151 7 = (t : Int) → μ 151 9 = μ0 151 9 →
    μ 151 6 = (f : Int) → ∃ r μ', e_X7_wantTerm_21 t0 names ahead i μ = some (some (vI r), μ') ∧ (r = 0 ∨ r = 1) ∧ FrTt t0 μ0 μ' ∧ μ' 151 6 = (f : Int) ∧ ((r = 1 ∧ okRw νw names ahead (rowL ν f t) ∧ t - f ≤ 20 ∧ TH μ' t0 (rowL ν f t) ∧ μ' 151 7 = (t : Int) ∧ μ' 151 9 = μ0 151 9) ∨ (r = 0 ∧ ¬ (okRw νw names ahead (rowL ν f t) ∧ t - f ≤ 20) ∧ μ' 151 9 = 5))
  | 0, i, μ, hj, hfi, hF, hTH, e7, e9, e6 => by
    obtain rfl : i = t := by omega
    have hl : (rowL ν f i).length ≤ 20 := by
      have := hTH.2.1
      rcases ht0 with rfl | rfl
      · exact this
      · exact this
    have hWm : RelW μ νw := hW.kept (fun c _ _ => hF.1 c (by omega) (by omega) (by omega))
    have hm := rowL_mem hr
    obtain ⟨r, a1, a2, a3⟩ := s_isTerm6 hWm hTH hl (ahead := ahead) hn (fun c hc => by have := hm c hc; omega) (rowL ν f i).length 0 1 (by omega) (by omega)
    rw [List.drop_zero] at a3
    have a1' : e_X9_isTerm_6 t0 names ahead 1 0 μ = _ := a1
    rw [q_X7_wantTerm_21, e7, if_neg (by omega), q_X9_isTerm, a1', cI_t]
    rw [rowL_len] at hl
    rcases a2 with rfl | rfl
    · rw [if_pos rfl, q_X7_fails, gz_0, cI_t, if_pos rfl, gz_0]
      refine ⟨0, _, rfl, Or.inl rfl, frTt_trans hF (frTt_T (frTp_up (by omega))), by rw [up_slot (by omega)]; exact e6, Or.inr ⟨rfl, fun z => ?_, up_same _ _ _ _⟩⟩
      have := a3.mpr z.1
      omega
    · rw [if_neg ten, gz_1]
      exact ⟨1, μ, rfl, Or.inr rfl, hF, e6, Or.inl ⟨rfl, a3.mp rfl, hl, hTH, e7, e9⟩⟩
  | j + 1, i, μ, hj, hfi, hF, hTH, e7, e9, e6 => by
    have hTm : TC μ ν := by
      unfold TC at *
      rw [hF.2 8 (by omega) (by omega) (by omega) (by omega), hF.1 152 (by omega) (by omega) (by omega)]
      exact hT0
    have hb := hT0.2.2.1
    have hci := hr.2.1 i (by omega) (by omega)
    have hlk : 97 ≤ lk ν i ∧ lk ν i ≤ 122 := by
      unfold cls at hci
      split at hci
      · omega
      · split at hci
        · assumption
        · split at hci
          · omega
          · split at hci
            · omega
            · split at hci <;> omega
    have wB : wrB (lk ν i) = lk ν i := by unfold wrB; omega
    rw [q_X7_wantTerm_21, e7, if_pos (by omega), s_byteAt hTm (by omega), cI_t, wB, wr_eq (x := lk ν i - 97) (by omega) (by omega)]
    have ln : lnC (t0 + 1) = 20 := by rcases ht0 with rfl | rfl <;> rfl
    by_cases q : (rowL ν f i).length < 20
    · obtain ⟨μ1, b1, b2, b3⟩ := s_add (x := lk ν i - 97) hTH (by rw [ln]; exact q) (by omega)
      have F1 : FrTt t0 μ μ1 := ⟨fun c a b d => b3 c (by unfold tS; omega), fun k _ _ _ _ => by rw [b3 151 (by unfold tS; omega)]⟩
      rw [b1, cI_t, if_neg ten, wr_eq (x := (i : Int) + 1) (by omega) (by omega), show (i : Int) + 1 = ((i + 1 : Nat) : Int) by omega]
      exact s_wantT21 ht0 hW hn hT0 ht hr h7 h6 j (i + 1) μ1 (by omega) (by omega) (frTt_trans hF F1) (by rw [rowL_s hfi]; exact b2) (by rw [b3 151 (by unfold tS; omega)]; exact e7) (by rw [b3 151 (by unfold tS; omega)]; exact e9) (by rw [b3 151 (by unfold tS; omega)]; exact e6)
    · have hle := hTH.2.1
      rw [s_addF hTH (by omega), cI_t, if_pos rfl, q_X7_fails, gz_0, cI_t, gz_0]
      rw [rowL_len] at q
      exact ⟨0, _, rfl, Or.inl rfl, frTt_trans hF (frTt_T (frTp_up (by omega))), by rw [up_slot (by omega)]; exact e6, Or.inr ⟨rfl, fun z => by omega, up_same _ _ _ _⟩⟩
/-- the class wants a TERM -/
theorem s_wantTerm {ν νw μ : Mem} {t0 p : Nat} (ht0 : t0 = 153 ∨ t0 = 155) (hW : RelW μ νw) {names ahead : Int} (hn : 0 ≤ names ∧ names ≤ 3) (hT : TC μ ν) (hp : (p : Int) ≤ ν 0 25) (h7 : μ 151 7 = (p : Int)) : ∃ f t k μ' r, TK ν p f t k ∧ (f : Int) ≤ ν 0 25 ∧ FrTt t0 μ μ' ∧ μ' 151 6 = (f : Int) ∧ f_X7_wantTerm [vR 7 151, vR 8 t0, vI names, vI ahead] μ = some (some (vI r), μ') ∧ ((r = 1 ∧ tok1 k f t ∧ k = 1 ∧ okRw νw names ahead (rowL ν f t) ∧ t - f ≤ 20 ∧ TH μ' t0 (rowL ν f t) ∧ μ' 151 7 = (t : Int) ∧ μ' 151 9 = μ 151 9 ∧ (t : Int) ≤ ν 0 25) ∨ (r = 0 ∧ ((tok1 k f t ∧ k = 1 ∧ ¬ (okRw νw names ahead (rowL ν f t) ∧ t - f ≤ 20) ∧ μ' 151 9 = 5) ∨ (tok1 k f t ∧ k ≠ 1 ∧ μ' 151 9 = 2) ∨ (¬ tok1 k f t ∧ μ' 151 9 = 1)))) := by
  obtain ⟨f, t, k, μ1, a1, a2, a3, a4, a5⟩ := s_want hT hp h7 1
  rw [q_X7_wantTerm]
  rcases a5 with ⟨b1, b2, b3, b4, b5, b6, b7⟩ | ⟨b1, b2, b3, b4⟩ | ⟨b1, b2, b3⟩
  · rw [b3, cI_t, if_neg ten]
    subst b2
    have hr := a1.2.2.1 (Or.inl rfl)
    have F1 : FrTt t0 μ1 (up μ1 t0 1 0) := ⟨fun c x y z => up_cell y, fun k' _ _ _ _ => by rw [up_cell (by omega)]⟩
    have hWm : RelW μ1 νw := hW.kept (fun c _ _ => a3.1 c (by omega))
    have ln : lnC (t0 + 1) = 20 := by rcases ht0 with rfl | rfl <;> rfl
    obtain ⟨r, μ', c1, c2, c3, c4, c5⟩ := s_wantT21 ht0 hWm (ahead := ahead) hn (hT.fr a3) b7 hr b5 a4 (t - f) f (up μ1 t0 1 0) (by have := hr.1; omega) (Nat.le_refl _) F1 (by
      unfold rowL
      rw [Nat.sub_self]
      exact ⟨by rw [up_same]; rfl, by rw [ln]; exact Nat.zero_le _, fun i x hx => by cases hx⟩) (by rw [up_cell (by omega)]; exact b5) (by rw [up_cell (by omega)]) (by rw [up_cell (by omega)]; exact a4)
    rw [up_cell (c := t0) (c' := 151) (by omega), a4, c1]
    refine ⟨f, t, 1, μ', r, a1, a2, frTt_trans (frTt_T a3) c3, c4, rfl, ?_⟩
    rcases c5 with ⟨d1, d2, d3, d4, d5, d6⟩ | ⟨d1, d2, d3⟩
    · exact Or.inl ⟨d1, b1, rfl, d2, d3, d4, d5, by rw [d6]; exact b6, b7⟩
    · exact Or.inr ⟨d1, Or.inl ⟨b1, rfl, d2, d3⟩⟩
  · rw [b3, cI_t, if_pos rfl, gz_0]
    exact ⟨f, t, k, μ1, 0, a1, a2, frTt_T a3, a4, rfl, Or.inr ⟨rfl, Or.inr (Or.inl ⟨b1, b2, b4⟩)⟩⟩
  · rw [b2, cI_t, if_pos rfl, gz_0]
    exact ⟨f, t, k, μ1, 0, a1, a2, frTt_T a3, a4, rfl, Or.inr ⟨rfl, Or.inr (Or.inr ⟨b1, b3⟩)⟩⟩
