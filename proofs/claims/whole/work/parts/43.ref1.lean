/-! THE REFERENCE: words, arities, ends of TERMS -/
theorem s_wordBy5 {ν : Mem} {x : Int} (h4 : 0 ≤ ν 0 23 ∧ ν 0 23 ≤ 4) : ∀ (j i : Nat), (ν 0 23).toNat = i + j → e_X12_wordBy_5 x (wbF (ν 1) x i) i ν = some (some (vI (wb ν x)), ν)
  | 0, i, hj => by
    rw [q_X12_wordBy_5, if_neg (by omega)]
    unfold wb
    rw [hj]
    rfl
  | j + 1, i, hj => by
    rw [q_X12_wordBy_5, if_pos (by omega), gk (lnR 1) 4 rfl (by omega) (by omega), show ((i : Int)).toNat = i by omega, wr_eq (by omega) (by omega), show (i : Int) + 1 = ((i + 1 : Nat) : Int) by omega]
    have e1 : wbF (ν 1) x (i + 1) = if ν 1 i = x then (i : Int) else wbF (ν 1) x i := rfl
    by_cases h : ν 1 i = x
    · rw [if_pos h]
      rw [if_pos h] at e1
      rw [← e1]
      exact s_wordBy5 h4 j (i + 1) (by omega)
    · rw [if_neg h]
      rw [if_neg h] at e1
      rw [← e1]
      exact s_wordBy5 h4 j (i + 1) (by omega)
theorem s_wordBy {ν : Mem} (h4 : 0 ≤ ν 0 23 ∧ ν 0 23 ≤ 4) (x : Int) : f_X12_wordBy [vR 12 0, vI x] ν = some (some (vI (wb ν x)), ν) := by
  rw [q_X12_wordBy]
  exact s_wordBy5 h4 (ν 0 23).toNat 0 (by omega)
theorem wb_rng {ν : Mem} (h4 : 0 ≤ ν 0 23 ∧ ν 0 23 ≤ 4) (x : Int) : wb ν x = -4 ∨ (0 ≤ wb ν x ∧ wb ν x < 4) := by
  rcases wbF_range (ν 1) x (ν 0 23).toNat with h1 | ⟨h1, h2, h3⟩
  · exact Or.inl h1
  · refine Or.inr ⟨h1, ?_⟩
    show wbF (ν 1) x (ν 0 23).toNat < 4
    omega
theorem s_has {ν : Mem} (h4 : 0 ≤ ν 0 23 ∧ ν 0 23 ≤ 4) (x : Int) : f_X12_has [vR 12 0, vI x] ν = some (some (vI (ar ν x)), ν) := by
  rw [q_X12_has]
  unfold ar
  by_cases h23 : x < 23
  · rw [if_pos h23]
    by_cases h14 : x = 14
    · rw [if_pos h14, if_pos (Or.inr h14)]
    · rw [if_neg h14, if_neg (show ¬ (23 ≤ x ∨ x = 14) by omega)]
      by_cases h12 : x = 12
      · rw [if_pos h12, if_pos h12, if_pos h12]
      · rw [if_neg h12, if_neg h12, s_wordBy h4, cI_t, if_neg h12]
        by_cases hw : wb ν x = -4
        · rw [if_pos hw, if_pos hw]
        · rw [if_neg hw, if_neg hw]
          rcases wb_rng h4 x with q | q
          · exact absurd q hw
          · rw [gk (lnR 2) 4 rfl q.1 (by omega)]
  · rw [if_neg h23, if_pos (Or.inl (by omega))]
/-- a row of the reference holds a list from its first cell on -/
def RHL (ν : Mem) (c : Nat) (l : List Int) : Prop := l.length ≤ lnR c ∧ ∀ i x, l[i]? = some x → ν c i = x
theorem RHL.get {ν : Mem} {c : Nat} {l : List Int} (h : RHL ν c l) {i : Nat} (hi : i < l.length) : ν c i = l[i] := h.2 i l[i] (List.getElem?_eq_getElem hi)
theorem s_endAt6 {ν : Mem} (h4 : 0 ≤ ν 0 23 ∧ ν 0 23 ≤ 4) (hav : ∀ x, ar ν x = -4 ∨ ar ν x = 0 ∨ ar ν x = 1 ∨ ar ν x = 2) {c : Nat} {l : List Int} (hl : RHL ν c l) (hln : lnR c ≤ 960) : ∀ (r : List Int) (at_ n m : Nat) (o2 o6 : Option AV), l.drop at_ = r → at_ ≤ l.length → n ≤ 2 + at_ → isT (ar ν) (n + m) r → e_X12_endAt_6 c o2 (l.length : Int) n at_ o6 ν = some (some (vI ((at_ : Int) + (tl (ar ν) n r : Int))), ν)
  | r, at_, 0, m, o2, o6, _, _, _, _ => by
    rw [q_X12_endAt_6, if_pos (by omega), if_pos (by omega), tl_0]
    rfl
  | [], at_, n + 1, m, o2, o6, _, _, _, h => by
    rw [show n + 1 + m = (n + m) + 1 by omega] at h
    cases h
  | x :: r, at_, n + 1, m, o2, o6, hr, ha, hn, h => by
    rw [show n + 1 + m = (n + m) + 1 by omega] at h
    have hlt : at_ < l.length := by
      rcases Nat.lt_or_ge at_ l.length with q | q
      · exact q
      · rw [List.drop_eq_nil_of_le q] at hr; cases hr
    have hx : l[at_] = x := by
      rw [List.drop_eq_getElem_cons hlt] at hr
      exact (List.cons.inj hr).1
    have hr2 : l.drop (at_ + 1) = r := by
      rw [List.drop_eq_getElem_cons hlt] at hr
      exact (List.cons.inj hr).2
    have h1 := hl.1
    have hax := h.1
    have hv := hav x
    rw [q_X12_endAt_6, if_neg (by omega), if_pos (by omega), gi_t (by omega) (by omega), show ((at_ : Int)).toNat = at_ by omega, hl.get hlt, hx, s_has h4, cI_t, if_neg (by omega), wr_eq (x := ar ν x - 1) (by omega) (by omega), wr_eq (by omega) (by omega), wr_eq (by omega) (by omega)]
    have e1 : ((n + 1 : Nat) : Int) + (ar ν x - 1) = ((n + (ar ν x).toNat : Nat) : Int) := by omega
    rw [e1, show (at_ : Int) + 1 = ((at_ + 1 : Nat) : Int) by omega]
    rw [s_endAt6 h4 hav hl hln r (at_ + 1) (n + (ar ν x).toNat) m o2 (some (vI (ar ν x))) hr2 (by omega) (by omega) (by rw [show n + (ar ν x).toNat + m = n + m + (ar ν x).toNat by omega]; exact h.2)]
    have e2 : ((at_ + 1 : Nat) : Int) + (tl (ar ν) (n + (ar ν x).toNat) r : Int) = (at_ : Int) + ((1 + tl (ar ν) (n + (ar ν x).toNat) r : Nat) : Int) := by omega
    rw [e2]
    rfl
/-- where a TERM that begins at a place ends -/
theorem s_endAtR {ν : Mem} (h4 : 0 ≤ ν 0 23 ∧ ν 0 23 ≤ 4) (hav : ∀ x, ar ν x = -4 ∨ ar ν x = 0 ∨ ar ν x = 1 ∨ ar ν x = 2) {c p E : Nat} {T : List Int} (hl : RHL ν c T) (hln : lnR c ≤ 960) (hE : E ≤ T.length) (hp : p ≤ E) {m : Nat} (h : isT (ar ν) (m + 1) ((T.drop p).take (E - p))) : f_X12_endAt [vR 12 0, vR 20 c, vI p, vI E] ν = some (some (vI ((p : Int) + (tl (ar ν) 1 (T.drop p) : Int))), ν) := by
  have hl2 : RHL ν c (T.take E) := by
    refine ⟨by rw [List.length_take]; have := hl.1; omega, fun i x hx => hl.2 i x ?_⟩
    rw [List.getElem?_take] at hx
    split at hx
    · exact hx
    · cases hx
  have e0 : (T.take E).length = E := by rw [List.length_take]; omega
  have e1 : (T.take E).drop p = (T.drop p).take (E - p) := by rw [List.drop_take]
  rw [q_X12_endAt]
  have h6 := s_endAt6 h4 hav hl2 hln ((T.take E).drop p) p 1 m (some (vI (p : Int))) none rfl (by omega) (by omega) (by rw [e1, Nat.add_comm]; exact h)
  rw [e0] at h6
  have h6' : e_X12_endAt_6 c (some (vI (p : Int))) (E : Int) 1 (p : Int) none ν = _ := h6
  rw [h6', e1]
  have hsplit := drop_take_split (T := T) hE hp
  have htl : tl (ar ν) 1 (T.drop p) = tl (ar ν) 1 ((T.drop p).take (E - p)) := by
    rw [hsplit, tl_app _ _ 1 m (by rw [Nat.add_comm]; exact h), ← hsplit]
  rw [htl]
theorem s_alike6 {ν : Mem} {T : List Int} (hl : RHL ν 20 T) {a b n : Nat} (ha : a + n ≤ T.length) (hb : b + n ≤ T.length) : ∀ (j i : Nat), i + j = n → (T.drop a).take i = (T.drop b).take i → e_X12_alike_6 a b n 1 i ν = some (some (vI (if (T.drop a).take n = (T.drop b).take n then 1 else 0)), ν)
  | 0, i, hj, he => by
    obtain rfl : i = n := by omega
    rw [q_X12_alike_6, if_neg (by omega), gz_1, if_pos he]
  | j + 1, i, hj, he => by
    have h20 : T.length ≤ 20 := hl.1
    have l1 : a + i < T.length := by omega
    have l2 : b + i < T.length := by omega
    rw [q_X12_alike_6, if_pos (by omega), if_neg ten, wr_eq (x := (a : Int) + (i : Int)) (by omega) (by omega), wr_eq (x := (b : Int) + (i : Int)) (by omega) (by omega), gk (lnR 20) 20 rfl (by omega) (by omega), gk (lnR 20) 20 rfl (by omega) (by omega), show ((a : Int) + (i : Int)).toNat = a + i by omega, show ((b : Int) + (i : Int)).toNat = b + i by omega, hl.get l1, hl.get l2, wr_eq (by omega) (by omega), show (i : Int) + 1 = ((i + 1 : Nat) : Int) by omega]
    have t1 : (T.drop a).take (i + 1) = (T.drop a).take i ++ [T[a + i]] := by
      rw [List.take_add_one, List.getElem?_drop, List.getElem?_eq_getElem l1]
      rfl
    have t2 : (T.drop b).take (i + 1) = (T.drop b).take i ++ [T[b + i]] := by
      rw [List.take_add_one, List.getElem?_drop, List.getElem?_eq_getElem l2]
      rfl
    by_cases hx : T[a + i] = T[b + i]
    · rw [if_pos hx]
      exact s_alike6 hl ha hb j (i + 1) (by omega) (by rw [t1, t2, he, hx])
    · rw [if_neg hx]
      have hne : ¬ (T.drop a).take n = (T.drop b).take n := by
        intro q
        have q2 := congrArg (fun l => l[i]?) q
        simp only [List.getElem?_take, List.getElem?_drop, List.getElem?_eq_getElem l1, List.getElem?_eq_getElem l2] at q2
        rw [if_pos (by omega), if_pos (by omega)] at q2
        exact hx (Option.some.inj q2)
      rw [if_neg hne, q_X12_alike_6]
      by_cases hin : ((i + 1 : Nat) : Int) < (n : Int)
      · rw [if_pos hin, if_pos rfl, gz_0]
      · rw [if_neg hin, gz_0]
theorem s_alike {ν : Mem} {T : List Int} (hl : RHL ν 20 T) {a b n : Nat} (ha : a + n ≤ T.length) (hb : b + n ≤ T.length) : f_X12_alike [vR 12 0, vI a, vI b, vI n] ν = some (some (vI (if (T.drop a).take n = (T.drop b).take n then 1 else 0)), ν) := by
  rw [q_X12_alike]
  exact s_alike6 hl ha hb n 0 (by omega) rfl
