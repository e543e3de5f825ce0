/-! putsIn of the reference -/
theorem sb2_app (A B : List Int) : ∀ l r : List Int, sb2 A B (l ++ r) = sb2 A B l ++ sb2 A B r
  | [], r => rfl
  | c :: l, r => by
    have e1 : sb2 A B (c :: l ++ r) = (if c < 23 then [c] else if c = 23 then A else B) ++ sb2 A B (l ++ r) := rfl
    have e2 : sb2 A B (c :: l) = (if c < 23 then [c] else if c = 23 then A else B) ++ sb2 A B l := rfl
    rw [e1, e2, sb2_app A B l r, List.append_assoc]
theorem sb2_len {A B : List Int} (hA : A.length ≤ 200) (hB : B.length ≤ 200) : ∀ l : List Int, (sb2 A B l).length ≤ 200 * l.length
  | [] => Nat.le_refl _
  | c :: l => by
    have e2 : sb2 A B (c :: l) = (if c < 23 then [c] else if c = 23 then A else B) ++ sb2 A B l := rfl
    have := sb2_len hA hB l
    rw [e2, List.length_append, List.length_cons]
    split
    · simp; omega
    · split <;> omega
theorem sb2_ok {a : Int → Int} {A B : List Int} (ha : ∀ x, 23 ≤ x → a x = 0) (hA : okU a A) : ∀ (ps : List Int) (m : Nat), isT a m ps → LT ps → (∀ x ∈ ps, 23 < x → okU a B) → isT a m (sb2 A B ps) ∧ LT (sb2 A B ps)
  | [], m, h1, h2, _ => ⟨h1, h2⟩
  | p :: ps, 0, h1, h2, _ => by cases h1
  | p :: ps, m + 1, h1, h2, h3 => by
    have e2 : sb2 A B (p :: ps) = (if p < 23 then [p] else if p = 23 then A else B) ++ sb2 A B ps := rfl
    have hr := sb2_ok (B := B) ha hA ps _ h1.2 (fun y hy => h2 y (List.mem_cons_of_mem _ hy)) (fun y hy => h3 y (List.mem_cons_of_mem _ hy))
    rw [e2]
    by_cases q : p < 23
    · rw [if_pos q]
      exact ⟨⟨h1.1, hr.1⟩, LT_app (fun y hy => by rw [List.mem_singleton] at hy; subst hy; exact h2 _ (List.mem_cons_self ..)) hr.2⟩
    · rw [if_neg q]
      rw [ha p (by omega)] at hr
      have hx : ∀ u, okU a u → isT a (m + 1) (u ++ sb2 A B ps) ∧ LT (u ++ sb2 A B ps) := fun u hu => ⟨by have := isT_app u _ 1 m hu.1 hr.1; rw [Nat.add_comm] at this; exact this, LT_app hu.2 hr.2⟩
      by_cases q2 : p = 23
      · rw [if_pos q2]; exact hx _ hA
      · rw [if_neg q2]; exact hx _ (h3 p (List.mem_cons_self ..) (by omega))
/-- where the TERMS behind a WORD lie -/
theorem wi_geo {ν : Mem} {T : List Int} {P : Nat} (hT : isT (ar ν) 1 T) (hP : P < T.length) (ha : ar ν T[P] = 1 ∨ ar ν T[P] = 2) : P + 1 ≤ twoP ν T P ∧ twoP ν T P ≤ endP ν T P ∧ endP ν T P ≤ T.length ∧ (∃ m, isT (ar ν) (m + 1) (T.drop (P + 1))) ∧ isT (ar ν) 1 ((T.drop (P + 1)).take (twoP ν T P - (P + 1))) ∧ (ar ν T[P] = 1 → endP ν T P = twoP ν T P) ∧ (ar ν T[P] = 2 → (∃ m, isT (ar ν) (m + 1) (T.drop (twoP ν T P))) ∧ endP ν T P = twoP ν T P + tl (ar ν) 1 (T.drop (twoP ν T P)) ∧ isT (ar ν) 1 ((T.drop (twoP ν T P)).take (endP ν T P - twoP ν T P))) ∧ isT (ar ν) 1 ((T.drop P).take (endP ν T P - P)) := by
  obtain ⟨k, hk⟩ := isT_drop T 1 P hT hP
  have hsp0 := isT_split (T.drop P) 1 k (by rw [Nat.add_comm]; exact hk)
  have hd : T.drop P = T[P] :: T.drop (P + 1) := (List.drop_eq_getElem_cons hP)
  rw [hd] at hk
  have hk2 : isT (ar ν) (k + (ar ν T[P]).toNat) (T.drop (P + 1)) := hk.2
  have hst := tl_step (a := ar ν) hP
  have hle := tl_le (a := ar ν) (T.drop P) 1
  rw [List.length_drop] at hle
  have e1 : endP ν T P - P = tl (ar ν) 1 (T.drop P) := by unfold endP; omega
  have e0 : twoP ν T P - (P + 1) = tl (ar ν) 1 (T.drop (P + 1)) := by unfold twoP; omega
  have e3 : endP ν T P ≤ T.length := by unfold endP; omega
  rcases ha with q | q
  · rw [q] at hst hk2
    have hk3 : isT (ar ν) (k + 1) (T.drop (P + 1)) := hk2
    have hst' : tl (ar ν) 1 (T.drop P) = 1 + tl (ar ν) 1 (T.drop (P + 1)) := hst
    have e2 : endP ν T P = twoP ν T P := by unfold endP twoP; omega
    have hsp := isT_split (T.drop (P + 1)) 1 k (by rw [Nat.add_comm]; exact hk3)
    refine ⟨by unfold twoP; omega, by omega, e3, ⟨k, hk3⟩, by rw [e0]; exact hsp.1, fun _ => e2, fun z => by omega, by rw [e1]; exact hsp0.1⟩
  · rw [q] at hst hk2
    have hk3 : isT (ar ν) (k + 2) (T.drop (P + 1)) := hk2
    have hst' : tl (ar ν) 1 (T.drop P) = 1 + tl (ar ν) 2 (T.drop (P + 1)) := hst
    have hsp := isT_split (T.drop (P + 1)) 1 (k + 1) (by rw [show 1 + (k + 1) = k + 2 by omega]; exact hk3)
    have had := tl_add (T.drop (P + 1)) 1 (k + 1) (by rw [show 1 + (k + 1) = k + 2 by omega]; exact hk3) 1 (by omega)
    have had' : tl (ar ν) 2 (T.drop (P + 1)) = _ := had
    rw [List.drop_drop, show P + 1 + tl (ar ν) 1 (T.drop (P + 1)) = twoP ν T P from rfl] at had'
    have hs2 := hsp.2
    rw [List.drop_drop, show P + 1 + tl (ar ν) 1 (T.drop (P + 1)) = twoP ν T P from rfl] at hs2
    have e2 : endP ν T P = twoP ν T P + tl (ar ν) 1 (T.drop (twoP ν T P)) := by
      have : twoP ν T P = P + 1 + tl (ar ν) 1 (T.drop (P + 1)) := rfl
      unfold endP; omega
    have hsp2 := isT_split (T.drop (twoP ν T P)) 1 k (by rw [Nat.add_comm]; exact hs2)
    refine ⟨by unfold twoP; omega, by omega, e3, ⟨k + 1, hk3⟩, by rw [e0]; exact hsp.1, fun z => by omega, fun _ => ⟨⟨k, hs2⟩, e2, ?_⟩, by rw [e1]; exact hsp0.1⟩
    rw [show endP ν T P - twoP ν T P = tl (ar ν) 1 (T.drop (twoP ν T P)) by omega]
    exact hsp2.1
theorem wb_ar {μ ν : Mem} (hW : RelW μ ν) {x : Int} (h : wb ν x ≠ -4) : ar ν x = ν 2 (wb ν x).toNat ∧ (ar ν x = 1 ∨ ar ν x = 2) ∧ (0 ≤ wb ν x ∧ wb ν x < ν 0 0) ∧ okW ν (wb ν x).toNat ∧ 0 ≤ x ∧ x ≤ 3 := by
  have hx := wb_let hW h
  have hr : 0 ≤ wb ν x ∧ wb ν x < ν 0 0 := by
    rcases wb_range hW x with q | q
    · exact absurd q h
    · exact ⟨q.1, q.2.1⟩
  have hok := (hW.2.2.2.2.1 (wb ν x).toNat (by omega)).1
  have e : ar ν x = ν 2 (wb ν x).toNat := by unfold ar; rw [if_neg (by omega), if_neg (by omega), if_neg h]
  refine ⟨e, ?_, hr, hok, hx⟩
  rw [e]; exact hok.2.2.1
theorem wi_ok {μ ν : Mem} (hW : RelW μ ν) {T : List Int} {P : Nat} (hT : isT (ar ν) 1 T) (hL : LT T) (hP : P < T.length) (hw : wb ν T[P] ≠ -4) : isT (ar ν) 1 (wiT ν T P) ∧ LT (wiT ν T P) := by
  obtain ⟨q1, q2, q3, q4, q5⟩ := wb_ar hW hw
  obtain ⟨g1, g2, g3, g4, g5, g6, g7, g8⟩ := wi_geo hT hP q2
  have eP : atL T P = T[P] := atL_in (by omega) (by rw [show ((P : Int)).toNat = P by omega]; exact List.getElem?_eq_getElem hP)
  have hs : isT (ar ν) 1 (sb2 ((T.drop (P + 1)).take (twoP ν T P - (P + 1))) ((T.drop (twoP ν T P)).take (endP ν T P - twoP ν T P)) (mL ν (wb ν T[P]).toNat)) ∧ LT (sb2 ((T.drop (P + 1)).take (twoP ν T P - (P + 1))) ((T.drop (twoP ν T P)).take (endP ν T P - twoP ν T P)) (mL ν (wb ν T[P]).toNat)) := by
    refine sb2_ok (fun x hx => ar_name hx) ⟨g5, LT_take (LT_drop hL)⟩ _ 1 q4.2.2.2.2.2.2.1 q4.2.2.2.2.2.1 (fun x hx h23 => ?_)
    rcases q4.2.2.2.2.2.2.2 x hx with z | z | z | ⟨v, z1, z2⟩
    · omega
    · omega
    · exact ⟨(g7 (by omega)).2.2, LT_take (LT_drop hL)⟩
    · have := (hW.2.2.2.2.1 v (by omega)).1
      unfold okW at this
      omega
  have e1 : wiT ν T P = T.take P ++ (sb2 ((T.drop (P + 1)).take (twoP ν T P - (P + 1))) ((T.drop (twoP ν T P)).take (endP ν T P - twoP ν T P)) (mL ν (wb ν T[P]).toNat) ++ T.drop (endP ν T P)) := by unfold wiT; rw [eP, List.append_assoc]
  rw [e1]
  refine ⟨isT_swap g8 hs.1 (T.take P) 1 ?_, LT_app (LT_take hL) (LT_app hs.2 (LT_drop hL))⟩
  rw [← drop_take_split g3 (by omega), List.take_append_drop]
  exact hT
