/-! putAllIn and makeReady of the class -/
theorem wdn_ok {μ ν : Mem} (hW : RelW μ ν) : ∀ (n : Nat) (T L : List Int), isT (ar ν) 1 T → LT T → T.length ≤ 200 → wdn ν n T = some L → isT (ar ν) 1 L ∧ LT L ∧ L.length ≤ 200
  | 0, T, L, h1, h2, h3, h => by
    unfold wdn at h
    by_cases q : fwd ν T < T.length
    · rw [if_pos q] at h; cases h
    · rw [if_neg q] at h; rw [← Option.some.inj h]; exact ⟨h1, h2, h3⟩
  | n + 1, T, L, h1, h2, h3, h => by
    unfold wdn at h
    by_cases q : fwd ν T < T.length
    · rw [if_pos q] at h
      by_cases z : (wiT ν T (fwd ν T)).length ≤ 200
      · rw [if_pos z] at h
        have hx : T[fwd ν T]? = some T[fwd ν T] := List.getElem?_eq_getElem q
        have hok := wi_ok hW h1 h2 q (fwd_at T _ hx)
        exact wdn_ok hW n _ L hok.1 hok.2 z h
      · rw [if_neg z] at h; cases h
    · rw [if_neg q] at h; rw [← Option.some.inj h]; exact ⟨h1, h2, h3⟩
theorem fwd_ge {ν : Mem} {L : List Int} {p : Nat} (hp : p ≤ L.length) (h : ∀ i x, i < p → L[i]? = some x → wb ν x = -4) : p ≤ fwd ν L := by
  rcases Nat.lt_or_ge (fwd ν L) p with q | q
  · have hx : L[fwd ν L]? = some L[fwd ν L] := List.getElem?_eq_getElem (by omega)
    exact absurd (h _ _ q hx) (fwd_at L _ hx)
  · exact q
theorem fwd_wi {ν : Mem} {T : List Int} (q : fwd ν T < T.length) : fwd ν T ≤ fwd ν (wiT ν T (fwd ν T)) := by
  have e : wiT ν T (fwd ν T) = T.take (fwd ν T) ++ (sb2 ((T.drop (fwd ν T + 1)).take (twoP ν T (fwd ν T) - (fwd ν T + 1))) ((T.drop (twoP ν T (fwd ν T))).take (endP ν T (fwd ν T) - twoP ν T (fwd ν T))) (mL ν (wb ν (atL T (fwd ν T))).toNat) ++ T.drop (endP ν T (fwd ν T))) := by unfold wiT; rw [List.append_assoc]
  have hl : (T.take (fwd ν T)).length = fwd ν T := by rw [List.length_take]; omega
  refine fwd_ge (by rw [e, List.length_append]; omega) (fun i x hi hx => ?_)
  rw [e, List.getElem?_append_left (by omega), List.getElem?_take, if_pos hi] at hx
  exact fwd_lt T i x hi hx
def fv (ν : Mem) (T : List Int) : Int := if fwd ν T < T.length then (fwd ν T : Int) else -4
theorem s_fw2 {μ ν : Mem} (hW : RelW μ ν) {t : Nat} {T : List Int} (hT : TH μ t T) : ∀ (j i : Nat) (o2 : Option AV), i + j = fwd ν T → e_X0_firstWord_2 t o2 i μ = some (some (vI (fv ν T)), μ)
  | 0, i, o2, hj => by
    obtain rfl : i = fwd ν T := by omega
    rw [q_X0_firstWord_2, hT.1]
    unfold fv
    by_cases q : fwd ν T < T.length
    · have hx : T[fwd ν T]? = some T[fwd ν T] := List.getElem?_eq_getElem q
      have eA : atL T (fwd ν T) = T[fwd ν T] := atL_in (by omega) (by rw [show ((fwd ν T : Int)).toNat = fwd ν T by omega]; exact hx)
      have hw := fwd_at T _ hx
      have hr := wb_range hW T[fwd ν T]
      rw [if_pos (by omega), if_pos q, s_at hT, cI_t, eA, s_numberOf hW, cI_t, if_neg (by omega)]
    · rw [if_neg (by omega), if_neg q]
  | j + 1, i, o2, hj => by
    have hle := fwd_le ν T
    have q : i < T.length := by omega
    have h4 := hT.le
    have hx : T[i]? = some T[i] := List.getElem?_eq_getElem q
    have eA : atL T i = T[i] := atL_in (by omega) (by rw [show ((i : Int)).toNat = i by omega]; exact hx)
    have hw := fwd_lt (ν := ν) T i _ (by omega) hx
    rw [q_X0_firstWord_2, hT.1, if_pos (by omega), s_at hT, cI_t, eA, s_numberOf hW, cI_t, hw, if_pos (by omega), w20c (by omega)]
    exact s_fw2 hW hT j (i + 1) _ (by omega)
theorem s_fw {μ ν : Mem} (hW : RelW μ ν) {t b : Nat} {T : List Int} (hT : TH μ t T) (hb : b ≤ fwd ν T) : f_X0_firstWord [vR 0 780, vR 8 t, vI b] μ = some (some (vI (fv ν T)), μ) := by
  rw [q_X0_firstWord]
  exact s_fw2 hW hT (fwd ν T - b) b _ (by omega)
theorem W_93 {μ μ' ν : Mem} {t : Nat} (hW : RelW μ ν) (ht : 781 ≤ t) (hf : Fr μ μ' (S93 t)) : RelW μ' ν := hW.kept (fun c h1 h2 => hf c (by unfold S93 tS; omega))
theorem s_pai9 {ν : Mem} {t : Nat} (ht : 781 ≤ t ∧ t ≤ 791) (hcap : lnC (t + 1) = 200) : ∀ (n i : Nat) (μ : Mem) (T : List Int), i + n = 400 → RelW μ ν → TH μ t T → isT (ar ν) 1 T → LT T → ∃ μ', e_X0_putAllIn_9 t (fv ν T) i μ = some (some (vI (if (wdn ν n T).isSome then 1 else 0)), μ') ∧ Fr μ μ' (S93 t) ∧ ∀ L, wdn ν n T = some L → TH μ' t L
  | 0, i, μ, T, hi, hW, hH, hT, hL => by
    have e : wdn ν 0 T = if fwd ν T < T.length then none else some T := rfl
    rw [q_X0_putAllIn_9, if_neg (by omega), e]
    unfold fv
    by_cases q : fwd ν T < T.length
    · rw [if_pos q, if_pos q, if_neg (by omega), gz_0]
      exact ⟨μ, rfl, Fr.rf, fun L h => by cases h⟩
    · rw [if_neg q, if_neg q, if_pos (by omega), gz_1]
      exact ⟨μ, rfl, Fr.rf, fun L h => by rw [← Option.some.inj h]; exact hH⟩
  | n + 1, i, μ, T, hi, hW, hH, hT, hL => by
    have e : wdn ν (n + 1) T = if fwd ν T < T.length then (if (wiT ν T (fwd ν T)).length ≤ 200 then wdn ν n (wiT ν T (fwd ν T)) else none) else some T := rfl
    rw [q_X0_putAllIn_9, if_pos (by omega), e]
    by_cases q : fwd ν T < T.length
    · have hx : T[fwd ν T]? = some T[fwd ν T] := List.getElem?_eq_getElem q
      have hw := fwd_at T _ hx
      have hok := wi_ok hW hT hL q hw
      have efv : fv ν T = (fwd ν T : Int) := if_pos q
      rw [if_pos q, efv, if_neg (by omega)]
      rcases s_putIn hW ht hcap hH hT hL q hw with ⟨μ1, a1, a2, a3, a4⟩ | ⟨μ1, a1, a2, a3⟩
      · have hW1 := W_93 hW ht.1 a2
        rw [a1, cI_t, if_neg (by decide), s_fw hW1 a4 (fwd_wi q), cI_t, w20c (by omega), if_pos a3]
        obtain ⟨μ2, b1, b2, b3⟩ := s_pai9 ht hcap n (i + 1) μ1 _ (by omega) hW1 a4 hok.1 hok.2
        exact ⟨μ2, b1, a2.trans b2, b3⟩
      · rw [a1, cI_t, if_pos rfl, gz_0, if_neg (show ¬ (wiT ν T (fwd ν T)).length ≤ 200 by omega)]
        exact ⟨μ1, rfl, a2, fun L h => by cases h⟩
    · have efv : fv ν T = -4 := if_neg q
      rw [if_neg q, efv, if_pos (by omega), if_pos (by omega), gz_1]
      exact ⟨μ, rfl, Fr.rf, fun L h => by rw [← Option.some.inj h]; exact hH⟩
theorem s_putAllIn {μ ν : Mem} {t : Nat} {T : List Int} (ht : 781 ≤ t ∧ t ≤ 791) (hcap : lnC (t + 1) = 200) (hW : RelW μ ν) (hH : TH μ t T) (hT : isT (ar ν) 1 T) (hL : LT T) : ∃ μ', f_X0_putAllIn [vR 0 780, vR 8 t] μ = some (some (vI (if (wdn ν 400 T).isSome then 1 else 0)), μ') ∧ Fr μ μ' (S93 t) ∧ ∀ L, wdn ν 400 T = some L → TH μ' t L := by
  have h := s_fw hW hH (Nat.zero_le _)
  have h' : f_X0_firstWord [vR 0 780, vR 8 t, vI 0] μ = _ := h
  rw [q_X0_putAllIn, h', cI_t]
  exact s_pai9 ht hcap 400 0 μ T (by omega) hW hH hT hL
/-- the two sides of one, made ready -/
def rdy (ν : Mem) (how : Int) (e : Nat) : Option (List Int × List Int) := match wd ν (4 ≤ how) (sL ν e 0), wd ν (4 ≤ how) (sL ν e 1) with
  | some A, some B => some (A, B)
  | _, _ => none
theorem wd_ok {μ ν : Mem} (hW : RelW μ ν) {all : Prop} [Decidable all] {e k : Nat} {L : List Int} (h : okS ν e k) (h2 : wd ν all (sL ν e k) = some L) : isT (ar ν) 1 L ∧ LT L ∧ L.length ≤ 200 := by
  obtain ⟨s1, s2, s3, s4⟩ := h
  have hlen : (sL ν e k).length = (ν 6 (2 * e + k)).toNat := sg_len ..
  unfold wd at h2
  by_cases q : all
  · rw [if_pos q] at h2; exact wdn_ok hW 400 _ L s4 s3 (by omega) h2
  · rw [if_neg q] at h2; rw [← Option.some.inj h2]; exact ⟨s4, s3, by omega⟩
def SRd (a b : Nat) : Nat → Prop := fun c => tS a c ∨ tS b c ∨ tS 793 c
theorem bAnd4 {h : Int} (h0 : 0 ≤ h ∧ h ≤ 7) : bAnd h 4 = 0 ↔ ¬ (4 ≤ h) := by
  have : h = 0 ∨ h = 1 ∨ h = 2 ∨ h = 3 ∨ h = 4 ∨ h = 5 ∨ h = 6 ∨ h = 7 := by omega
  rcases this with q | q | q | q | q | q | q | q <;> subst q <;> decide
theorem s_makeReady {μ ν : Mem} {e a b : Nat} {how : Int} (hW : RelW μ ν) (hS : RelS μ ν) (he : (e : Int) < ν 0 5) (hh : μ 780 10 = how) (h7 : 0 ≤ how ∧ how ≤ 7) (ha : 781 ≤ a ∧ a ≤ 791) (hb : 781 ≤ b ∧ b ≤ 791) (hab : a + 2 ≤ b) (hca : lnC (a + 1) = 200) (hcb : lnC (b + 1) = 200) : ∃ μ', f_X0_makeReady [vR 0 780, vI e, vR 8 a, vR 8 b] μ = some (some (vI (if (rdy ν how e).isSome then 1 else 0)), μ') ∧ Fr μ μ' (SRd a b) ∧ ∀ A B, rdy ν how e = some (A, B) → TH μ' a A ∧ TH μ' b B := by
  have h24 := hS.2.1
  obtain ⟨o0, o1, t0, t1, _⟩ := hS.2.2.2.2.2.2.2.2 e he
  have l0 : (sL ν e 0).length = (ν 6 (2 * e + 0)).toNat := sg_len ..
  have l1 : (sL ν e 1).length = (ν 6 (2 * e + 1)).toNat := sg_len ..
  have k0 := o0.2.1
  have k1 := o1.2.1
  obtain ⟨μ1, a1, a2, a3⟩ := s_copy (t := a) (o := 32 + 5 * e) t0 o0.2.2.1.by (by unfold tS; omega) (by unfold tS; omega) (by rw [hca]; omega)
  have t1' := t1.kept a3 (by unfold tS; omega) (by unfold tS; omega)
  obtain ⟨μ2, b1, b2, b3⟩ := s_copy (t := b) (o := 34 + 5 * e) t1' o1.2.2.1.by (by unfold tS; omega) (by unfold tS; omega) (by rw [hcb]; omega)
  have a2' := a2.kept b3 (by unfold tS; omega) (by unfold tS; omega)
  have f2 : Fr μ μ2 (SRd a b) := (a3.mono (fun c hc => Or.inl hc)).trans (b3.mono (fun c hc => Or.inr (Or.inl hc)))
  have e10 : μ2 780 10 = how := by rw [f2 780 (by unfold SRd tS; omega)]; exact hh
  have hW2 : RelW μ2 ν := hW.kept (fun c _ _ => f2 c (by unfold SRd tS; omega))
  rw [q_X0_makeReady, get_t hS ⟨by omega, he⟩, cR_s, show ((e : Int)).toNat = e by omega, show 31 + 5 * e + 1 = 32 + 5 * e by omega, show 31 + 5 * e + 3 = 34 + 5 * e by omega, a1, cV_t, b1, cV_t, e10]
  unfold rdy wd
  by_cases q : bAnd how 4 = 0
  · have q' := (bAnd4 h7).mp q
    rw [if_pos q, gz_1, if_neg q', if_neg q']
    exact ⟨μ2, rfl, f2, fun A B h => by injection h with h; injection h with h1 h2; subst h1; subst h2; exact ⟨a2', b2⟩⟩
  · have q' : 4 ≤ how := by
      by_cases z : 4 ≤ how
      · exact z
      · exact absurd ((bAnd4 h7).mpr z) q
    rw [if_neg q, if_pos q', if_pos q']
    obtain ⟨μ3, c1, c2, c3⟩ := s_putAllIn ha hca hW2 a2' o0.2.2.2 o0.2.2.1
    have f3 : Fr μ μ3 (SRd a b) := f2.trans (c2.mono (fun c hc => by unfold SRd; rcases hc with z | z; exact Or.inl z; exact Or.inr (Or.inr z)))
    rw [c1, cI_t]
    cases hA : wdn ν 400 (sL ν e 0) with
    | none =>
      rw [if_neg (show ¬ (none : Option (List Int)).isSome = true by decide), if_pos rfl, gz_0]
      exact ⟨μ3, rfl, f3, fun A B h => by cases h⟩
    | some LA =>
      have b2' := b2.kept c2 (by unfold S93 tS; omega) (by unfold S93 tS; omega)
      obtain ⟨μ4, d1, d2, d3⟩ := s_putAllIn hb hcb (W_93 hW2 ha.1 c2) b2' o1.2.2.2 o1.2.2.1
      have f4 : Fr μ μ4 (SRd a b) := f3.trans (d2.mono (fun c hc => by unfold SRd; rcases hc with z | z; exact Or.inr (Or.inl z); exact Or.inr (Or.inr z)))
      rw [if_pos (show (some LA).isSome = true from rfl), if_neg (by decide), d1, cI_t]
      cases hB : wdn ν 400 (sL ν e 1) with
      | none =>
        rw [if_neg (show ¬ (none : Option (List Int)).isSome = true by decide), if_pos rfl, gz_0]
        exact ⟨μ4, rfl, f4, fun A B h => by cases h⟩
      | some LB =>
        rw [if_pos (show (some LB).isSome = true from rfl), if_neg (by decide), gz_1]
        refine ⟨μ4, rfl, f4, fun A B h => ?_⟩
        injection h with h
        injection h with h1 h2
        subst h1
        subst h2
        exact ⟨(c3 _ hA).kept d2 (by unfold S93 tS; omega) (by unfold S93 tS; omega), d3 _ hB⟩
