/-! THE REFERENCE: puts -/
/-- a row of the reference and its length hold a list -/
def RT (ν : Mem) (c k : Nat) (l : List Int) : Prop := RHL ν c l ∧ ν 0 k = (l.length : Int)
def FrP (ν ν' : Mem) : Prop := (∀ c, c ≠ 21 → c ≠ 0 → ν' c = ν c) ∧ ∀ k, k ≠ 38 → ν' 0 k = ν 0 k
theorem frP_rf {ν : Mem} : FrP ν ν := ⟨fun _ _ _ => rfl, fun _ _ => rfl⟩
theorem frP_trans {ν ν1 ν2 : Mem} (h : FrP ν ν1) (h2 : FrP ν1 ν2) : FrP ν ν2 := ⟨fun c h3 h4 => (h2.1 c h3 h4).trans (h.1 c h3 h4), fun k hk => (h2.2 k hk).trans (h.2 k hk)⟩
theorem RT.keptP {ν ν' : Mem} {c k : Nat} {l : List Int} (h : RT ν c k l) (hf : FrP ν ν') (hc : c ≠ 21) (hc0 : c ≠ 0) (hk : k ≠ 38) : RT ν' c k l := ⟨h.1.kept (hf.1 c hc hc0), by rw [hf.2 k hk]; exact h.2⟩
theorem SGR.keptP {ν ν' : Mem} {T : List Int} {σ : Nat → Option (List Int)} (h : SGR ν T σ) (hf : FrP ν ν') : SGR ν' T σ := by
  intro k hk
  rw [hf.1 22 (by omega) (by omega), hf.1 23 (by omega) (by omega)]
  exact h k hk
def psh (ν : Mem) (x : Int) : Mem := up (up ν 21 (ν 0 38).toNat x) 0 38 (wr ((up ν 21 (ν 0 38).toNat x) 0 38 + 1))
theorem psh_fr {ν : Mem} {x : Int} : FrP ν (psh ν x) := ⟨fun c h1 h2 => by unfold psh; rw [up_cell h2, up_cell h1], fun k hk => by unfold psh; rw [up_slot hk, up_cell (by omega)]⟩
theorem psh_rt {ν : Mem} {x : Int} {l : List Int} (h : RT ν 21 38 l) (hl : l.length < 20) : RT (psh ν x) 21 38 (l ++ [x]) := by
  have e : ((l.length : Nat) : Int).toNat = l.length := by omega
  unfold psh
  rw [h.2, e]
  refine ⟨⟨?_, ?_⟩, ?_⟩
  · show (l ++ [x]).length ≤ 20
    simp
    omega
  · intro i y hy
    rw [up_cell (show 21 ≠ 0 by omega)]
    rcases Nat.lt_or_ge i l.length with q | q
    · rw [up_slot (show i ≠ l.length by omega)]
      rw [List.getElem?_append_left q] at hy
      exact h.1.2 i y hy
    · rw [List.getElem?_append_right q] at hy
      have hi : i - l.length = 0 := by
        rcases Nat.eq_zero_or_pos (i - l.length) with z | z
        · exact z
        · rw [List.getElem?_eq_none (by simp; omega)] at hy; cases hy
      rw [hi] at hy
      obtain rfl : i = l.length := by omega
      rw [up_same]
      exact Option.some.inj hy
  · rw [up_same, up_cell (show (0 : Nat) ≠ 21 by omega), h.2, wr_eq (by omega) (by omega)]
    simp
theorem s_puts95 {P E : Nat} {T : List Int} (hP : P ≤ T.length) : ∀ (j i : Nat) (o3 o5 o6 : Option AV) (ν : Mem), i + j = P → RT ν 20 36 T → RT ν 21 38 (T.take i) → ∃ o3' ν', e_X12_puts_95 P E o3 i o5 o6 ν = e_X12_puts_136 (some (vI P)) E o3' 0 o5 o6 ν' ∧ FrP ν ν' ∧ RT ν' 21 38 (T.take P)
  | 0, i, o3, o5, o6, ν, hj, hT, hc => by
    obtain rfl : i = P := by omega
    rw [q_X12_puts_95, if_neg (by omega)]
    exact ⟨_, ν, rfl, frP_rf, hc⟩
  | j + 1, i, o3, o5, o6, ν, hj, hT, hc => by
    have h20 : T.length ≤ 20 := hT.1.1
    have hi : i < T.length := by omega
    have hlen : (T.take i).length = i := by rw [List.length_take]; omega
    rw [q_X12_puts_95, if_pos (by omega), gk (lnR 20) 20 rfl (by omega) (by omega), gk (lnR 21) 20 rfl (by rw [hc.2, hlen]; omega) (by rw [hc.2, hlen]; omega), wr_eq (x := (i : Int) + 1) (by omega) (by omega), show ((i : Int)).toNat = i by omega, hT.1.get hi, show (i : Int) + 1 = ((i + 1 : Nat) : Int) by omega]
    have hp := psh_rt (x := T[i]) hc (by omega)
    rw [show T.take i ++ [T[i]] = T.take (i + 1) by rw [List.take_succ, List.getElem?_eq_getElem hi]; rfl] at hp
    obtain ⟨o3', ν', r1, r2, r3⟩ := s_puts95 hP j (i + 1) (kl o3) o5 o6 (psh ν T[i]) (by omega) (hT.keptP psh_fr (by omega) (by omega) (by omega)) hp
    exact ⟨o3', ν', r1, frP_trans psh_fr r2, r3⟩
theorem s_puts245 {T : List Int} {cur0 : List Int} : ∀ (j i : Nat) (o1 o2 o3 o5 o6 : Option AV) (ν : Mem) (cur : List Int), i + j = T.length → cur ++ T.drop i = cur0 → cur0.length ≤ 20 → RT ν 20 36 T → RT ν 21 38 cur → ∃ ν', e_X12_puts_245 o1 o2 o3 i o5 o6 ν = some (some (vI 0), ν') ∧ FrP ν ν' ∧ RT ν' 21 38 cur0
  | 0, i, o1, o2, o3, o5, o6, ν, cur, hj, he, hl, hT, hc => by
    rw [q_X12_puts_245, hT.2, if_neg (by omega)]
    rw [List.drop_eq_nil_of_le (by omega), List.append_nil] at he
    subst he
    exact ⟨ν, rfl, frP_rf, hc⟩
  | j + 1, i, o1, o2, o3, o5, o6, ν, cur, hj, he, hl, hT, hc => by
    have h20 : T.length ≤ 20 := hT.1.1
    have hi : i < T.length := by omega
    have he2 : (cur ++ [T[i]]) ++ T.drop (i + 1) = cur0 := by
      rw [← he, List.drop_eq_getElem_cons hi]
      simp
    have hlen : cur.length < 20 := by
      have := congrArg List.length he2
      simp at this
      omega
    rw [q_X12_puts_245, hT.2, if_pos (by omega), gk (lnR 20) 20 rfl (by omega) (by omega), gk (lnR 21) 20 rfl (by rw [hc.2]; omega) (by rw [hc.2]; omega), wr_eq (x := (i : Int) + 1) (by omega) (by omega), show ((i : Int)).toNat = i by omega, hT.1.get hi, show (i : Int) + 1 = ((i + 1 : Nat) : Int) by omega]
    obtain ⟨ν', r1, r2, r3⟩ := s_puts245 j (i + 1) o1 o2 (kl o3) o5 o6 (psh ν T[i]) (cur ++ [T[i]]) (by omega) he2 hl (hT.keptP psh_fr (by omega) (by omega) (by omega)) (psh_rt hc hlen)
    exact ⟨ν', r1, frP_trans psh_fr r2, r3⟩
/-- a sign that is no name -/
theorem s_puts160a {E i : Nat} {x : Int} {o1 o3 : Option AV} {ν : Mem} {ins cur : List Int} (hI : RT ν 25 44 ins) (hi : i < ins.length) (hx : ins[i] = x) (hxr : 0 ≤ x ∧ x < 23) (hc : RT ν 21 38 cur) (hl : cur.length < 20) :
    ∃ o3' o5' o6' ν', e_X12_puts_160 o1 E o3 i (x - 23) 0 ν = e_X12_puts_136 o1 E o3' ((i + 1 : Nat) : Int) o5' o6' ν' ∧ FrP ν ν' ∧ RT ν' 21 38 (cur ++ [x]) := by
  have h20 : ins.length ≤ 20 := hI.1.1
  rw [q_X12_puts_160, if_pos (by omega), q_X12_puts_178, if_pos (by omega), if_pos (by omega), gk (lnR 25) 20 rfl (by omega) (by omega), gk (lnR 21) 20 rfl (by rw [hc.2]; omega) (by rw [hc.2]; omega), show ((i : Int)).toNat = i by omega, hI.1.get hi, hx, wr_eq (x := 0 + 1) (by omega) (by omega), q_X12_puts_160, if_pos (by omega), q_X12_puts_178, if_neg (by omega), wr_eq (x := (i : Int) + 1) (by omega) (by omega), show (i : Int) + 1 = ((i + 1 : Nat) : Int) by omega]
  exact ⟨_, _, _, psh ν x, rfl, psh_fr, psh_rt hc hl⟩
/-- a name -/
theorem s_puts160b {E i k a0 b0 : Nat} {o1 o3 : Option AV} {T : List Int} (hi20 : i < 20) (hk : k < 3) (hab : a0 ≤ b0) (hb : b0 ≤ T.length) : ∀ (j q : Nat) (ν : Mem) (cur : List Int), q + j = b0 - a0 → RT ν 20 36 T → ν 22 k = (a0 : Int) → ν 23 k = (b0 : Int) - (a0 : Int) → RT ν 21 38 cur → cur.length + j ≤ 20 →
    ∃ o3' o5' o6' ν', e_X12_puts_160 o1 E o3 i (k : Int) q ν = e_X12_puts_136 o1 E o3' ((i + 1 : Nat) : Int) o5' o6' ν' ∧ FrP ν ν' ∧ RT ν' 21 38 (cur ++ (T.drop (a0 + q)).take j)
  | 0, q, ν, cur, hj, hT, h1, h2, hc, hl => by
    have h20 : T.length ≤ 20 := hT.1.1
    rw [q_X12_puts_160, if_neg (by omega), gk (lnR 23) 3 rfl (by omega) (by omega), show ((k : Int)).toNat = k by omega, h2, q_X12_puts_178, if_neg (by omega), wr_eq (x := (i : Int) + 1) (by omega) (by omega), show (i : Int) + 1 = ((i + 1 : Nat) : Int) by omega]
    exact ⟨_, _, _, ν, rfl, frP_rf, by rw [List.take_zero, List.append_nil]; exact hc⟩
  | j + 1, q, ν, cur, hj, hT, h1, h2, hc, hl => by
    have h20 : T.length ≤ 20 := hT.1.1
    have hq : a0 + q < T.length := by omega
    rw [q_X12_puts_160, if_neg (by omega), gk (lnR 23) 3 rfl (by omega) (by omega), show ((k : Int)).toNat = k by omega, h2, q_X12_puts_178, if_pos (by omega), if_neg (by omega), gk (lnR 22) 3 rfl (by omega) (by omega), show ((k : Int)).toNat = k by omega, h1, wr_eq (x := (a0 : Int) + (q : Int)) (by omega) (by omega), gk (lnR 20) 20 rfl (by omega) (by omega), gk (lnR 21) 20 rfl (by rw [hc.2]; omega) (by rw [hc.2]; omega), show ((a0 : Int) + (q : Int)).toNat = a0 + q by omega, hT.1.get hq, wr_eq (x := (q : Int) + 1) (by omega) (by omega), show (q : Int) + 1 = ((q + 1 : Nat) : Int) by omega]
    have f := psh_fr (ν := ν) (x := T[a0 + q])
    obtain ⟨o3', o5', o6', ν', r1, r2, r3⟩ := s_puts160b (E := E) (o1 := o1) (o3 := o3) hi20 hk hab hb j (q + 1) (psh ν T[a0 + q]) (cur ++ [T[a0 + q]]) (by omega) (hT.keptP f (by omega) (by omega) (by omega)) (by rw [f.1 22 (by omega) (by omega)]; exact h1) (by rw [f.1 23 (by omega) (by omega)]; exact h2) (psh_rt hc (by omega)) (by simp; omega)
    refine ⟨o3', o5', o6', ν', r1, frP_trans f r2, ?_⟩
    have e : cur ++ [T[a0 + q]] ++ (T.drop (a0 + (q + 1))).take j = cur ++ (T.drop (a0 + q)).take (j + 1) := by
      rw [List.drop_eq_getElem_cons hq, List.take_succ_cons]
      simp [Nat.add_assoc]
    rw [← e]
    exact r3
theorem s_puts136 {E : Nat} {T ins : List Int} {σ : Nat → Option (List Int)} (hLT : LT ins) (hE : E ≤ T.length) :
    ∀ (ps : List Int) (i : Nat) (o1 o3 o5 o6 : Option AV) (ν : Mem) (cur v : List Int), ins.drop i = ps → i ≤ ins.length → RT ν 20 36 T → RT ν 25 44 ins → SGR ν T σ → RT ν 21 38 cur → sbs σ ps = some v → cur.length + v.length + (T.length - E) ≤ 20 →
      ∃ ν', e_X12_puts_136 o1 E o3 i o5 o6 ν = some (some (vI 0), ν') ∧ FrP ν ν' ∧ RT ν' 21 38 (cur ++ v ++ T.drop E)
  | [], i, o1, o3, o5, o6, ν, cur, v, hi, hil, hT, hI, hσ, hc, hv, hl => by
    have hlen : ins.length ≤ i := by
      have := congrArg List.length hi
      simp at this
      omega
    cases hv
    rw [q_X12_puts_136, hI.2, if_neg (by omega), List.append_nil]
    exact s_puts245 (T.length - E) E o1 _ _ o5 o6 ν cur (by omega) rfl (by simp at hl ⊢; omega) hT hc
  | x :: ps, i, o1, o3, o5, o6, ν, cur, v, hi, hil, hT, hI, hσ, hc, hv, hl => by
    have hilt : i < ins.length := by
      rcases Nat.lt_or_ge i ins.length with q | q
      · exact q
      · rw [List.drop_eq_nil_of_le q] at hi; cases hi
    have hx : ins[i] = x := by
      rw [List.drop_eq_getElem_cons hilt] at hi
      exact (List.cons.inj hi).1
    have hi2 : ins.drop (i + 1) = ps := by
      rw [List.drop_eq_getElem_cons hilt] at hi
      exact (List.cons.inj hi).2
    have hxr := hLT x (by rw [← hx]; exact List.getElem_mem hilt)
    have h20 : ins.length ≤ 20 := hI.1.1
    rw [q_X12_puts_136, hI.2, if_pos (by omega), gk (lnR 25) 20 rfl (by omega) (by omega), show ((i : Int)).toNat = i by omega, hI.1.get hilt, hx, wr_eq (x := x - 23) (by omega) (by omega)]
    by_cases h23 : ¬ 23 ≤ x
    · have hsb : sbs σ (x :: ps) = (sbs σ ps).map (x :: ·) := by
        show (if 23 ≤ x then _ else (sbs σ ps).map (x :: ·)) = _
        rw [if_neg h23]
      rw [hsb] at hv
      cases hq : sbs σ ps with
      | none => rw [hq] at hv; cases hv
      | some w =>
        rw [hq] at hv
        cases hv
        rw [List.length_cons] at hl
        obtain ⟨o3', o5', o6', ν1, r1, r2, r3⟩ := s_puts160a (E := E) (o1 := o1) (o3 := o3) hI hilt hx (by omega) hc (by omega)
        rw [r1]
        obtain ⟨ν', s1, s2, s3⟩ := s_puts136 hLT hE ps (i + 1) o1 o3' o5' o6' ν1 (cur ++ [x]) w hi2 (by omega) (hT.keptP r2 (by omega) (by omega) (by omega)) (hI.keptP r2 (by omega) (by omega) (by omega)) (hσ.keptP r2) r3 hq (by simp; omega)
        exact ⟨ν', s1, frP_trans r2 s2, by simpa using s3⟩
    · replace h23 := Decidable.not_not.mp h23
      obtain ⟨k, hk⟩ : ∃ k : Nat, x - 23 = (k : Int) := ⟨(x - 23).toNat, by omega⟩
      have hk3 : k < 3 := by omega
      have hsb : sbs σ (x :: ps) = (match σ k with
          | none => none
          | some w => (sbs σ ps).map (w ++ ·)) := by
        show (if 23 ≤ x then (match σ (x - 23).toNat with
          | none => none
          | some w => (sbs σ ps).map (w ++ ·)) else _) = _
        rw [if_pos h23, hk]
        rfl
      rw [hsb] at hv
      rcases hσ k hk3 with ⟨s1, s2⟩ | ⟨a0, b0, s1, s2, s3, s4, s5⟩
      · rw [s1] at hv; cases hv
      · rw [s5] at hv
        cases hq : sbs σ ps with
        | none => rw [hq] at hv; cases hv
        | some w =>
          rw [hq] at hv
          cases hv
          have hl1 : ((T.drop a0).take (b0 - a0)).length = b0 - a0 := seg_len s2
          rw [List.length_append, hl1] at hl
          rw [hk]
          obtain ⟨o3', o5', o6', ν1, r1, r2, r3⟩ := s_puts160b (E := E) (o1 := o1) (o3 := o3) (i := i) (by omega) hk3 s1 s2 (b0 - a0) 0 ν cur (by omega) hT s3 s4 hc (by omega)
          have r1' : e_X12_puts_160 o1 E o3 i (k : Int) 0 ν = _ := r1
          rw [r1']
          have r3' : RT ν1 21 38 (cur ++ (T.drop a0).take (b0 - a0)) := r3
          obtain ⟨ν', t1, t2, t3⟩ := s_puts136 hLT hE ps (i + 1) o1 o3' o5' o6' ν1 (cur ++ (T.drop a0).take (b0 - a0)) w hi2 (by omega) (hT.keptP r2 (by omega) (by omega) (by omega)) (hI.keptP r2 (by omega) (by omega) (by omega)) (hσ.keptP r2) r3' hq (by rw [List.length_append, hl1]; omega)
          exact ⟨ν', t1, frP_trans r2 t2, by simpa using t3⟩
theorem s_puts12 {P E : Nat} {ν : Mem} {T ins : List Int} {σ : Nat → Option (List Int)} (hLT : LT ins) (hT : RT ν 20 36 T) (hI : RT ν 25 44 ins) (hσ : SGR ν T σ) :
    ∀ (ps : List Int) (i c : Nat) (o5 o6 : Option AV), ins.drop i = ps → i ≤ ins.length → c ≤ 20 + 20 * i →
      (sbs σ ps = none → e_X12_puts_12 P E c i o5 o6 ν = some (some (vI (-23)), ν)) ∧ ∀ v, sbs σ ps = some v → ∃ o', e_X12_puts_12 P E c i o5 o6 ν = e_X12_puts_12 P E ((c + v.length : Nat) : Int) ((ins.length : Nat) : Int) o' o6 ν
  | [], i, c, o5, o6, hi, hil, hc => by
    refine ⟨fun h => (by cases h), fun v hv => ?_⟩
    cases hv
    have hlen : ins.length ≤ i := by
      have := congrArg List.length hi
      simp at this
      omega
    obtain rfl : i = ins.length := by omega
    exact ⟨o5, rfl⟩
  | x :: ps, i, c, o5, o6, hi, hil, hc => by
    have hilt : i < ins.length := by
      rcases Nat.lt_or_ge i ins.length with q | q
      · exact q
      · rw [List.drop_eq_nil_of_le q] at hi; cases hi
    have hx : ins[i] = x := by
      rw [List.drop_eq_getElem_cons hilt] at hi
      exact (List.cons.inj hi).1
    have hi2 : ins.drop (i + 1) = ps := by
      rw [List.drop_eq_getElem_cons hilt] at hi
      exact (List.cons.inj hi).2
    have hxr := hLT x (by rw [← hx]; exact List.getElem_mem hilt)
    have h20 : ins.length ≤ 20 := hI.1.1
    rw [q_X12_puts_12, hI.2, if_pos (by omega), gk (lnR 25) 20 rfl (by omega) (by omega), show ((i : Int)).toNat = i by omega, hI.1.get hilt, hx, wr_eq (x := x - 23) (by omega) (by omega)]
    by_cases h23 : ¬ 23 ≤ x
    · have hsb : sbs σ (x :: ps) = (sbs σ ps).map (x :: ·) := by
        show (if 23 ≤ x then _ else (sbs σ ps).map (x :: ·)) = _
        rw [if_neg h23]
      rw [hsb, if_pos (show x - 23 < 0 by omega), if_pos (show x - 23 < 0 by omega), wr_eq (by omega) (by omega), wr_eq (by omega) (by omega), show (c : Int) + 1 = ((c + 1 : Nat) : Int) by omega, show (i : Int) + 1 = ((i + 1 : Nat) : Int) by omega]
      obtain ⟨r1, r2⟩ := s_puts12 (P := P) (E := E) hLT hT hI hσ ps (i + 1) (c + 1) (some (vI (x - 23))) o6 hi2 (by omega) (by omega)
      refine ⟨fun h => r1 ?_, fun v hv => ?_⟩
      · cases hq : sbs σ ps with
        | none => rfl
        | some w => rw [hq] at h; cases h
      · cases hq : sbs σ ps with
        | none => rw [hq] at hv; cases hv
        | some w =>
          rw [hq] at hv
          cases hv
          obtain ⟨o', r3⟩ := r2 w hq
          refine ⟨o', ?_⟩
          rw [r3, List.length_cons, show c + 1 + w.length = c + (w.length + 1) by omega]
    · replace h23 := Decidable.not_not.mp h23
      obtain ⟨k, hk⟩ : ∃ k : Nat, x - 23 = (k : Int) := ⟨(x - 23).toNat, by omega⟩
      have hk3 : k < 3 := by omega
      have hsb : sbs σ (x :: ps) = (match σ k with
          | none => none
          | some w => (sbs σ ps).map (w ++ ·)) := by
        show (if 23 ≤ x then (match σ (x - 23).toNat with
          | none => none
          | some w => (sbs σ ps).map (w ++ ·)) else _) = _
        rw [if_pos h23, hk]
        rfl
      rw [hsb, hk, if_neg (show ¬ (k : Int) < 0 by omega), show ((k : Int)).toNat = k by omega, gk (lnR 22) 3 rfl (by omega) (by omega)]
      rcases hσ k hk3 with ⟨s1, s2⟩ | ⟨a0, b0, s1, s2, s3, s4, s5⟩
      · rw [s1, s2, if_pos (by decide)]
        exact ⟨fun _ => rfl, fun v hv => by cases hv⟩
      · have hT20 : T.length ≤ 20 := hT.1.1
        rw [s5, s3, s4, if_neg (by omega), if_neg (by omega), gk (lnR 23) 3 rfl (by omega) (by omega), wr_eq (by omega) (by omega), wr_eq (by omega) (by omega), show (c : Int) + ((b0 : Int) - (a0 : Int)) = ((c + (b0 - a0) : Nat) : Int) by omega, show (i : Int) + 1 = ((i + 1 : Nat) : Int) by omega]
        obtain ⟨r1, r2⟩ := s_puts12 (P := P) (E := E) hLT hT hI hσ ps (i + 1) (c + (b0 - a0)) (some (vI (k : Int))) o6 hi2 (by omega) (by omega)
        have hl1 : ((T.drop a0).take (b0 - a0)).length = b0 - a0 := seg_len s2
        refine ⟨fun h => r1 ?_, fun v hv => ?_⟩
        · cases hq : sbs σ ps with
          | none => rfl
          | some w => rw [hq] at h; cases h
        · cases hq : sbs σ ps with
          | none => rw [hq] at hv; cases hv
          | some w =>
            rw [hq] at hv
            cases hv
            obtain ⟨o', r3⟩ := r2 w hq
            refine ⟨o', ?_⟩
            rw [r3, List.length_append, hl1, show c + (b0 - a0) + w.length = c + (b0 - a0 + w.length) by omega]
/-- what is put in, in the reference -/
theorem s_putsR {ν : Mem} {P n : Nat} {T ins : List Int} {σ : Nat → Option (List Int)} (hLT : LT ins) (hn : P + n ≤ T.length) (hT : RT ν 20 36 T) (hI : RT ν 25 44 ins) (hσ : SGR ν T σ) :
    ∃ r ν', f_X12_puts [vR 12 0, vI P, vI ((P + n : Nat) : Int)] ν = some (some (vI r), ν') ∧ FrP ν ν' ∧
      (match sbs σ ins with
      | none => r = -23
      | some u => if 20 < P + u.length + (T.length - (P + n)) then r = -24 else r = 0 ∧ RT ν' 21 38 (T.take P ++ u ++ T.drop (P + n))) := by
  have h20 : T.length ≤ 20 := hT.1.1
  rw [q_X12_puts, hT.2, wr_eq (x := ((P + n : Nat) : Int) - (P : Int)) (by omega) (by omega), wr_eq (by omega) (by omega), show (T.length : Int) - (((P + n : Nat) : Int) - (P : Int)) = ((T.length - n : Nat) : Int) by omega]
  obtain ⟨a1, a2⟩ := s_puts12 (P := P) (E := P + n) hLT hT hI hσ ins 0 (T.length - n) none none rfl (by omega) (by omega)
  cases hs : sbs σ ins with
  | none => exact ⟨-23, ν, a1 hs, frP_rf, rfl⟩
  | some u =>
    obtain ⟨o', b1⟩ := a2 u hs
    have b1' : e_X12_puts_12 P ((P + n : Nat) : Int) ((T.length - n : Nat) : Int) 0 none none ν = _ := b1
    rw [b1', q_X12_puts_12, hI.2, if_neg (by omega)]
    by_cases hb : 20 < P + u.length + (T.length - (P + n))
    · rw [if_neg (by omega)]
      exact ⟨-24, ν, rfl, frP_rf, by simp only [if_pos hb]⟩
    · rw [if_pos (by omega)]
      have f0 : FrP ν (up ν 0 38 0) := ⟨fun c _ h => up_cell h, fun k hk => up_slot hk⟩
      have hT0 := hT.keptP f0 (by omega) (by omega) (by omega)
      obtain ⟨o3', ν1, c1, c2, c3⟩ := s_puts95 (P := P) (E := P + n) (T := T) (by omega) P 0 (some (vI ((T.length - n + u.length : Nat) : Int))) o' none (up ν 0 38 0) (by omega) hT0 ⟨⟨by simp, fun i x hx => by simp at hx⟩, by rw [up_same]; simp⟩
      have c1' : e_X12_puts_95 P ((P + n : Nat) : Int) (some (vI ((T.length - n + u.length : Nat) : Int))) 0 o' none (up ν 0 38 0) = _ := c1
      rw [c1']
      obtain ⟨ν2, d1, d2, d3⟩ := s_puts136 (E := P + n) hLT hn ins 0 (some (vI P)) o3' o' none ν1 (T.take P) u rfl (by omega) (hT0.keptP c2 (by omega) (by omega) (by omega)) ((hI.keptP f0 (by omega) (by omega) (by omega)).keptP c2 (by omega) (by omega) (by omega)) ((hσ.keptP f0).keptP c2) c3 hs (by rw [List.length_take]; omega)
      refine ⟨0, ν2, d1, frP_trans f0 (frP_trans c2 d2), ?_⟩
      simp only [if_neg hb]
      exact ⟨trivial, d3⟩
