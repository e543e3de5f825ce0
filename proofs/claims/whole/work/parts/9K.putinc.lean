/-! putIn and putAllIn of the class -/
theorem s_endOf5 {μ ν : Mem} (hW : RelW μ ν) {t : Nat} {T : List Int} (hT : TH μ t T) : ∀ (r : List Int) (p n m : Nat) (o2 : Option AV), T.drop p = r → p ≤ T.length → n ≤ 2 + p → isT (ar ν) (n + m) r → e_X9_endOf_5 t o2 n p μ = some (some (vI ((p : Int) + (tl (ar ν) n r : Int))), μ)
  | r, p, 0, m, o2, _, _, _, _ => by
    rw [q_X9_endOf_5, if_pos (show ((0 : Nat) : Int) ≤ 0 by omega), ite_self, tl_0]
    simp
  | [], p, n + 1, m, o2, _, _, _, h => by
    rw [show n + 1 + m = (n + m) + 1 by omega] at h
    cases h
  | x :: r, p, n + 1, m, o2, hr, hp, hn, h => by
    rw [show n + 1 + m = (n + m) + 1 by omega] at h
    have hlt : p < T.length := by
      rcases Nat.lt_or_ge p T.length with q | q
      · exact q
      · rw [List.drop_eq_nil_of_le q] at hr; cases hr
    have h424 := hT.le
    rw [List.drop_eq_getElem_cons hlt] at hr
    injection hr with e1 e2
    have eA : atL T p = x := by rw [← e1]; exact atL_in (by omega) (by rw [show ((p : Int)).toNat = p by omega]; exact List.getElem?_eq_getElem hlt)
    have hv := ar_vals hW x
    obtain ⟨h0, h1⟩ := h
    obtain ⟨b, hb⟩ : ∃ b : Nat, ar ν x = (b : Int) := ⟨(ar ν x).toNat, by omega⟩
    have e3 : tl (ar ν) (n + 1) (x :: r) = 1 + tl (ar ν) (n + (ar ν x).toNat) r := rfl
    rw [hb, show ((b : Int)).toNat = b by omega] at h1 e3
    rw [q_X9_endOf_5, hT.1, if_pos (by omega), if_neg (by omega), s_at hT, cI_t, eA, s_behind hW, cI_t, arN_of h0, hb, wr_eq (x := (b : Int) - 1) (by omega) (by omega), wr_eq (x := ((n + 1 : Nat) : Int) + ((b : Int) - 1)) (by omega) (by omega), w20c (by omega), show ((n + 1 : Nat) : Int) + ((b : Int) - 1) = ((n + b : Nat) : Int) by omega]
    rw [s_endOf5 hW hT r (p + 1) (n + b) m (kl o2) e2 (by omega) (by omega) (by rw [show n + b + m = n + m + b by omega]; exact h1), e3]
    rw [show ((p + 1 : Nat) : Int) + (tl (ar ν) (n + b) r : Int) = (p : Int) + ((1 + tl (ar ν) (n + b) r : Nat) : Int) by omega]
theorem s_endOf {μ ν : Mem} (hW : RelW μ ν) {t : Nat} {T : List Int} (hT : TH μ t T) {p m : Nat} (hp : p ≤ T.length) (h : isT (ar ν) (m + 1) (T.drop p)) : f_X9_endOf [vR 9 1, vR 8 t, vI p] μ = some (some (vI ((p : Int) + (tl (ar ν) 1 (T.drop p) : Int))), μ) := by
  rw [q_X9_endOf]
  exact s_endOf5 hW hT _ p 1 m _ rfl hp (by omega) (by rw [Nat.add_comm]; exact h)
theorem s_pi0 {t c : Nat} {a b s i : Int} {o3 o9 : Option AV} {μ : Mem} : e_X0_putIn_95 t a o3 c b s 0 i o9 μ = some (some (vI 0), μ) := by
  rw [q_X0_putIn_95, if_pos (rfl : (0 : Int) = 0), q_X0_putIn_185, if_pos rfl, gz_0, ite_self]
theorem s_pi95 {T M : List Int} {t c P m s : Nat} {o3 : Option AV} (hLT : LT T) (hLM : LT M) (h24 : ∀ x ∈ M, x ≤ 24) (h1 : P + 1 ≤ m) (h2 : m ≤ s) (h3 : s ≤ T.length) (ht : t ≠ 793 ∧ t ≠ 794 ∧ t ≠ 792) (hc : c ≠ 793 ∧ c ≠ 794 ∧ c ≠ 792) : ∀ (j i : Nat) (μ : Mem) (o9 : Option AV), i + j = M.length → TH μ t T → TH μ c M → TH μ 793 (T.take P ++ sb2 ((T.drop (P + 1)).take (m - (P + 1))) ((T.drop m).take (s - m)) (M.take i)) →
    (∃ μ' o9', e_X0_putIn_95 t P o3 c m s 1 i o9 μ = e_X0_putIn_185 t (some (vI P)) o3 (some (vR 8 c)) (some (vI m)) s 1 (some (vI (M.length : Int))) o9' μ' ∧ TH μ' 793 (T.take P ++ sb2 ((T.drop (P + 1)).take (m - (P + 1))) ((T.drop m).take (s - m)) M) ∧ Fr μ μ' (tS 793)) ∨
    (∃ μ', e_X0_putIn_95 t P o3 c m s 1 i o9 μ = some (some (vI 0), μ') ∧ Fr μ μ' (tS 793) ∧ 200 < (T.take P ++ sb2 ((T.drop (P + 1)).take (m - (P + 1))) ((T.drop m).take (s - m)) M).length)
  | 0, i, μ, o9, hj, hT, hM, hS => by
    obtain rfl : i = M.length := by omega
    rw [List.take_length] at hS
    rw [q_X0_putIn_95, hM.1, if_neg (by omega)]
    exact Or.inl ⟨μ, o9, rfl, hS, Fr.rf⟩
  | j + 1, i, μ, o9, hj, hT, hM, hS => by
    have hi : i < M.length := by omega
    obtain ⟨A, eA⟩ : ∃ A, A = (T.drop (P + 1)).take (m - (P + 1)) := ⟨_, rfl⟩
    obtain ⟨B, eB⟩ : ∃ B, B = (T.drop m).take (s - m) := ⟨_, rfl⟩
    have hM4 := hM.le
    have hT4 := hT.le
    have eM : atL M i = M[i] := atL_in (by omega) (by rw [show ((i : Int)).toNat = i by omega]; exact List.getElem?_eq_getElem hi)
    have eS : sb2 A B (M.take (i + 1)) = sb2 A B (M.take i) ++ (if M[i] < 23 then [M[i]] else if M[i] = 23 then A else B) := by
      rw [take_s hi, sb2_app]
      have : sb2 A B [M[i]] = (if M[i] < 23 then [M[i]] else if M[i] = 23 then A else B) ++ [] := rfl
      rw [this, List.append_nil]
    have eL : (T.take P ++ sb2 A B M).length = (T.take P ++ sb2 A B (M.take (i + 1))).length + (sb2 A B (M.drop (i + 1))).length := by
      rw [← List.length_append, List.append_assoc, ← sb2_app, List.take_append_drop]
    have n1 : ¬ tS 793 t := by unfold tS; omega
    have n2 : ¬ tS 793 (t + 1) := by unfold tS; omega
    have n3 : ¬ tS 793 c := by unfold tS; omega
    have n4 : ¬ tS 793 (c + 1) := by unfold tS; omega
    have nx : ∀ (μ1 : Mem) (p9 : Option AV), Fr μ μ1 (tS 793) → TH μ1 793 (T.take P ++ sb2 A B (M.take (i + 1))) → (∃ μ' o9', e_X0_putIn_95 t P o3 c m s 1 ((i + 1 : Nat) : Int) p9 μ1 = e_X0_putIn_185 t (some (vI P)) o3 (some (vR 8 c)) (some (vI m)) s 1 (some (vI (M.length : Int))) o9' μ' ∧ TH μ' 793 (T.take P ++ sb2 A B M) ∧ Fr μ μ' (tS 793)) ∨ (∃ μ', e_X0_putIn_95 t P o3 c m s 1 ((i + 1 : Nat) : Int) p9 μ1 = some (some (vI 0), μ') ∧ Fr μ μ' (tS 793) ∧ 200 < (T.take P ++ sb2 A B M).length) := fun μ1 p9 f1 b1 => by
      rw [eA, eB] at b1
      rcases s_pi95 (o3 := o3) hLT hLM h24 h1 h2 h3 ht hc j (i + 1) μ1 p9 (by omega) (hT.kept f1 n1 n2) (hM.kept f1 n3 n4) b1 with ⟨μ', o', c1, c2, c3⟩ | ⟨μ', c1, c2, c3⟩
      · rw [← eA, ← eB] at c2; exact Or.inl ⟨μ', o', c1, c2, f1.trans c3⟩
      · rw [← eA, ← eB] at c3; exact Or.inr ⟨μ', c1, f1.trans c2, c3⟩
    have hS1 := hS.2.1
    rw [← eA, ← eB] at hS hS1 ⊢
    have hS1' : (T.take P ++ sb2 A B (M.take i)).length ≤ 200 := hS1
    have hm := hLM _ (List.getElem_mem hi)
    have hm2 := h24 _ (List.getElem_mem hi)
    rw [q_X0_putIn_95, hM.1, if_pos (by omega), if_neg (by decide), s_at hM, cI_t, eM, w20c (i := i) (by omega), w20c (i := P) (by omega)]
    have part : ∀ (a b : Nat), a ≤ b → b ≤ T.length → sb2 A B (M.take (i + 1)) = sb2 A B (M.take i) ++ (T.drop a).take (b - a) → (∃ μ1, f_X8_addPart [vR 8 793, vR 8 t, vI a, vI b] μ = some (some (vI 1), μ1) ∧ Fr μ μ1 (tS 793) ∧ TH μ1 793 (T.take P ++ sb2 A B (M.take (i + 1)))) ∨ (f_X8_addPart [vR 8 793, vR 8 t, vI a, vI b] μ = some (some (vI 0), μ) ∧ 200 < (T.take P ++ sb2 A B M).length) := fun a b hab hb he => by
      have hl2 : ((T.drop a).take (b - a)).length = b - a := by rw [List.length_take, List.length_drop]; omega
      by_cases z : (T.take P ++ sb2 A B (M.take i)).length + (b - a) ≤ 200
      · obtain ⟨μ1, c1, c2, c3⟩ := s_addPart (a := (a : Int)) (b := (b : Int)) hS hT hLT.by n1 n2 (by omega) (by omega) (by omega) (show _ ≤ ((200 : Nat) : Int) by omega)
        refine Or.inl ⟨μ1, c1, c3, ?_⟩
        rw [he, ← List.append_assoc]
        rw [show ((a : Int)).toNat = a by omega, show ((b : Int) - (a : Int)).toNat = b - a by omega] at c2
        exact c2
      · refine Or.inr ⟨s_addPartF hS hT (by omega) (by omega) (by omega) (show ¬ (_ ≤ ((200 : Nat) : Int)) by omega), ?_⟩
        rw [eL, he, ← List.append_assoc, List.length_append, hl2]
        omega
    by_cases q : M[i] = 23
    · rw [if_pos q]
      rcases part (P + 1) m h1 (by omega) (by rw [eS, if_neg (by omega), if_pos q, eA]) with ⟨μ1, c1, c2, c3⟩ | ⟨c1, c2⟩
      · rw [c1, cI_t]; exact nx μ1 _ c2 c3
      · rw [c1, cI_t, s_pi0]; exact Or.inr ⟨μ, rfl, Fr.rf, c2⟩
    · rw [if_neg q]
      by_cases q2 : M[i] = 24
      · rw [if_pos q2]
        rcases part m s h2 h3 (by rw [eS, if_neg (by omega), if_neg q, eB]) with ⟨μ1, c1, c2, c3⟩ | ⟨c1, c2⟩
        · rw [c1, cI_t]; exact nx μ1 _ c2 c3
        · rw [c1, cI_t, s_pi0]; exact Or.inr ⟨μ, rfl, Fr.rf, c2⟩
      · rw [if_neg q2]
        have eS' : sb2 A B (M.take (i + 1)) = sb2 A B (M.take i) ++ [M[i]] := by rw [eS, if_pos (by omega)]
        by_cases z : (T.take P ++ sb2 A B (M.take i)).length < 200
        · obtain ⟨μ1, c1, c2, c3⟩ := s_add (x := M[i]) hS z (by omega)
          rw [c1, cI_t]
          refine nx μ1 _ c3 ?_
          rw [eS', ← List.append_assoc]; exact c2
        · rw [s_addF hS (show _ = 200 by omega), cI_t, s_pi0]
          refine Or.inr ⟨μ, rfl, Fr.rf, ?_⟩
          rw [eL, eS', ← List.append_assoc, List.length_append, List.length_cons]
          omega
def S93 (t : Nat) : Nat → Prop := fun c => tS t c ∨ tS 793 c
theorem s_putIn {μ ν : Mem} {T : List Int} {t P : Nat} (hW : RelW μ ν) (ht : 781 ≤ t ∧ t ≤ 791) (hcap : lnC (t + 1) = 200) (hH : TH μ t T) (hT : isT (ar ν) 1 T) (hL : LT T) (hP : P < T.length) (hw : wb ν T[P] ≠ -4) : (∃ μ', f_X0_putIn [vR 0 780, vR 8 t, vI P] μ = some (some (vI 1), μ') ∧ Fr μ μ' (S93 t) ∧ (wiT ν T P).length ≤ 200 ∧ TH μ' t (wiT ν T P)) ∨ (∃ μ', f_X0_putIn [vR 0 780, vR 8 t, vI P] μ = some (some (vI 0), μ') ∧ Fr μ μ' (S93 t) ∧ 200 < (wiT ν T P).length) := by
  obtain ⟨q1, q2, q3, q4, q5⟩ := wb_ar hW hw
  obtain ⟨g1, g2, g3, ⟨m1, g4⟩, g5, g6, g7, g8⟩ := wi_geo hT hP q2
  have hok := wi_ok hW hT hL hP hw
  have eP : atL T P = T[P] := atL_in (by omega) (by rw [show ((P : Int)).toNat = P by omega]; exact List.getElem?_eq_getElem hP)
  obtain ⟨w, ew⟩ : ∃ w : Nat, wb ν T[P] = (w : Int) := ⟨(wb ν T[P]).toNat, by omega⟩
  have h0 := hW.2.1
  rw [ew] at q1 q3 q4
  rw [show ((w : Int)).toNat = w by omega] at q1 q4
  obtain ⟨_, _, hn3, hTM, _⟩ := hW.2.2.2.2.1 w (by omega)
  have hl := hH.le
  have e1 : wiT ν T P = T.take P ++ sb2 ((T.drop (P + 1)).take (twoP ν T P - (P + 1))) ((T.drop (twoP ν T P)).take (endP ν T P - twoP ν T P)) (mL ν w) ++ T.drop (endP ν T P) := by unfold wiT; rw [eP, ew, show ((w : Int)).toNat = w by omega]
  have hM24 : ∀ x ∈ mL ν w, x ≤ 24 := fun x hx => by
    have h2 := q4.2.2.1
    rcases q4.2.2.2.2.2.2.2 x hx with z | z | z | ⟨v, z1, z2⟩
    · omega
    · omega
    · omega
    · have := (hW.2.2.2.2.1 v (by omega)).1.2.1; omega
  have w1 : f_X9_endOf [vR 9 1, vR 8 t, vI ((P + 1 : Nat) : Int)] μ = some (some (vI (twoP ν T P : Int)), μ) := by
    rw [s_endOf hW hH (by omega) g4]
    rw [show ((P + 1 : Nat) : Int) + (tl (ar ν) 1 (T.drop (P + 1)) : Int) = (twoP ν T P : Int) by unfold twoP; omega]
  have n1 : ¬ tS 793 t := by unfold tS; omega
  have n2 : ¬ tS 793 (t + 1) := by unfold tS; omega
  have core : ∀ e2 : Nat, e2 = endP ν T P → (∃ μ', cI (f_X8_addPart [vR 8 793, vR 8 t, vI 0, vI P] (up μ 793 1 0)) (fun x16 μ15 => e_X0_putIn_95 t P (some (vI w)) (9 + 4 * w) (twoP ν T P) e2 x16 0 none μ15) = some (some (vI 1), μ') ∧ Fr μ μ' (S93 t) ∧ (wiT ν T P).length ≤ 200 ∧ TH μ' t (wiT ν T P)) ∨ (∃ μ', cI (f_X8_addPart [vR 8 793, vR 8 t, vI 0, vI P] (up μ 793 1 0)) (fun x16 μ15 => e_X0_putIn_95 t P (some (vI w)) (9 + 4 * w) (twoP ν T P) e2 x16 0 none μ15) = some (some (vI 0), μ') ∧ Fr μ μ' (S93 t) ∧ 200 < (wiT ν T P).length) := fun e2 he2 => by
    subst he2
    have hl2 : T.length ≤ 200 := by have := hH.2.1; omega
    have f0 : Fr μ (up μ 793 1 0) (tS 793) := Fr.up (Or.inl rfl)
    obtain ⟨μ1, a1, a2, a3⟩ := s_addPart (a := 0) (b := (P : Int)) (TH_nil (μ := μ) (t := 793)) (hH.kept f0 n1 n2) hL.by n1 n2 (by omega) (by omega) (by omega) (show _ ≤ ((200 : Nat) : Int) by simp; omega)
    have f1 := f0.trans a3
    rw [show ((P : Int) - 0).toNat = P by omega, show ((0 : Int)).toNat = 0 by rfl, List.drop_zero, List.nil_append] at a2
    rw [a1, cI_t]
    have hz : ∀ x, Fr μ x (tS 793) → Fr μ x (S93 t) := fun x hx => hx.mono (fun c hc => Or.inr hc)
    have a2' : TH μ1 793 (T.take P ++ sb2 ((T.drop (P + 1)).take (twoP ν T P - (P + 1))) ((T.drop (twoP ν T P)).take (endP ν T P - twoP ν T P)) ((mL ν w).take 0)) := by
      rw [List.take_zero, show sb2 ((T.drop (P + 1)).take (twoP ν T P - (P + 1))) ((T.drop (twoP ν T P)).take (endP ν T P - twoP ν T P)) [] = [] from rfl, List.append_nil]
      exact a2
    rcases s_pi95 (o3 := some (vI (w : Int))) (c := 9 + 4 * w) (t := t) hL q4.2.2.2.2.2.1 hM24 g1 g2 g3 (by omega) (by omega) (mL ν w).length 0 μ1 none (by omega) (hH.kept f1 n1 n2) (hTM.kept f1 (by unfold tS; omega) (by unfold tS; omega)) a2' with ⟨μ2, o', b1, b2, b3⟩ | ⟨μ2, b1, b2, b3⟩
    · have b1' : e_X0_putIn_95 t P (some (vI (w : Int))) (9 + 4 * w) (twoP ν T P) (endP ν T P) 1 0 none μ1 = _ := b1
      have f2 := f1.trans b3
      have hH2 := hH.kept f2 n1 n2
      rw [b1', q_X0_putIn_185, if_neg (by decide), hH2.1]
      have hl3 : (T.drop (endP ν T P)).length = T.length - endP ν T P := List.length_drop
      by_cases z : (wiT ν T P).length ≤ 200
      · have zz := z
        rw [e1, List.length_append, hl3] at zz
        obtain ⟨μ3, c1, c2, c3⟩ := s_addPart (a := (endP ν T P : Int)) (b := (T.length : Int)) b2 hH2 hL.by n1 n2 (by omega) (by omega) (by omega) (show _ ≤ ((200 : Nat) : Int) by omega)
        rw [show ((endP ν T P : Int)).toNat = endP ν T P by omega, show ((T.length : Int) - (endP ν T P : Int)).toNat = T.length - endP ν T P by omega, dtk, ← e1] at c2
        obtain ⟨μ4, d1, d2, d3⟩ := s_copy (t := t) c2 hok.2.by (by unfold tS; omega) (by unfold tS; omega) (by rw [hcap]; exact z)
        rw [c1, cI_t, if_neg (by decide), d1, cV_t, gz_1]
        exact Or.inl ⟨μ4, rfl, (hz _ (f2.trans c3)).trans (d3.mono (fun c hc => Or.inl hc)), z, d2⟩
      · have zz := z
        rw [e1, List.length_append, hl3] at zz
        rw [s_addPartF (a := (endP ν T P : Int)) (b := (T.length : Int)) b2 hH2 (by omega) (by omega) (by omega) (show ¬ (_ ≤ ((200 : Nat) : Int)) by omega), cI_t, if_pos rfl, gz_0]
        exact Or.inr ⟨μ2, rfl, hz _ f2, by omega⟩
    · have b1' : e_X0_putIn_95 t P (some (vI (w : Int))) (9 + 4 * w) (twoP ν T P) (endP ν T P) 1 0 none μ1 = _ := b1
      rw [b1']
      refine Or.inr ⟨μ2, rfl, hz _ (f1.trans b2), ?_⟩
      rw [e1, List.length_append]
      omega
  rw [q_X0_putIn, s_at hH, cI_t, eP, s_numberOf hW, cI_t, ew, s_meaningOf hW, if_pos q3, cR_s, show ((w : Int)).toNat = w by omega, w20c (by omega), w1, cI_t, q_X9_needOf, if_neg (by omega), hW.2.2.2.1, if_pos q3.2, gk (lnC 3) 4 rfl (by omega) (by omega), show ((w : Int)).toNat = w by omega, cI_t, hn3]
  by_cases z : ν 2 w = 2
  · obtain ⟨⟨m2, z1⟩, z2, z3⟩ := g7 (by omega)
    rw [if_pos z, s_endOf hW hH (by omega) z1, cI_t, show (twoP ν T P : Int) + (tl (ar ν) 1 (T.drop (twoP ν T P)) : Int) = (endP ν T P : Int) by omega]
    exact core _ rfl
  · rw [if_neg z]
    exact core (twoP ν T P) (by rw [g6 (by omega)])
