/-! like, find: WORDS are put in -/
def sb2 (A B : List Int) : List Int → List Int
  | [] => []
  | c :: r => (if c < 23 then [c] else if c = 23 then A else B) ++ sb2 A B r
def twoP (ν : Mem) (T : List Int) (P : Nat) : Nat := P + 1 + tl (ar ν) 1 (T.drop (P + 1))
def endP (ν : Mem) (T : List Int) (P : Nat) : Nat := P + tl (ar ν) 1 (T.drop P)
def wiT (ν : Mem) (T : List Int) (P : Nat) : List Int := T.take P ++ sb2 ((T.drop (P + 1)).take (twoP ν T P - (P + 1))) ((T.drop (twoP ν T P)).take (endP ν T P - twoP ν T P)) (mL ν (wb ν (atL T P)).toNat) ++ T.drop (endP ν T P)
/-- the place of the first WORD, or the length -/
def fwd (ν : Mem) : List Int → Nat
  | [] => 0
  | c :: r => if wb ν c = -4 then fwd ν r + 1 else 0
theorem fwd_le (ν : Mem) : ∀ T : List Int, fwd ν T ≤ T.length
  | [] => Nat.le_refl _
  | c :: r => by
    have := fwd_le ν r
    unfold fwd
    rw [List.length_cons]
    split <;> omega
theorem fwd_lt {ν : Mem} : ∀ (T : List Int) (i : Nat) (x : Int), i < fwd ν T → T[i]? = some x → wb ν x = -4
  | [], i, x, h, _ => by unfold fwd at h; omega
  | c :: r, i, x, h, hx => by
    unfold fwd at h
    by_cases q : wb ν c = -4
    · rw [if_pos q] at h
      cases i with
      | zero => rw [List.getElem?_cons_zero] at hx; rw [← Option.some.inj hx]; exact q
      | succ i => rw [List.getElem?_cons_succ] at hx; exact fwd_lt r i x (by omega) hx
    · rw [if_neg q] at h; omega
theorem fwd_at {ν : Mem} : ∀ (T : List Int) (x : Int), T[fwd ν T]? = some x → wb ν x ≠ -4
  | [], x, h => by cases h
  | c :: r, x, h => by
    unfold fwd at h
    by_cases q : wb ν c = -4
    · rw [if_pos q, List.getElem?_cons_succ] at h
      exact fwd_at r x h
    · rw [if_neg q, List.getElem?_cons_zero] at h
      rw [← Option.some.inj h]
      exact q
theorem fwd_uniq {ν : Mem} {T : List Int} {p : Nat} (hp : p ≤ T.length) (h1 : ∀ i x, i < p → T[i]? = some x → wb ν x = -4) (h2 : ∀ x, T[p]? = some x → wb ν x ≠ -4) : fwd ν T = p := by
  have hl := fwd_le ν T
  rcases Nat.lt_trichotomy (fwd ν T) p with q | q | q
  · have hx : T[fwd ν T]? = some T[fwd ν T] := List.getElem?_eq_getElem (by omega)
    exact absurd (h1 _ _ q hx) (fwd_at T _ hx)
  · exact q
  · have hx : T[p]? = some T[p] := List.getElem?_eq_getElem (by omega)
    exact absurd (fwd_lt T p _ q hx) (h2 _ hx)
/-! the reference builds a row -/
def BL (X : Mem) (L : List Int) : Prop := X 0 76 = (L.length : Int) ∧ ∀ i x, i < 200 → L[i]? = some x → X 47 i = x
def FrB (X X' : Mem) : Prop := (∀ c, c ≠ 47 → c ≠ 0 → X' c = X c) ∧ ∀ k, k ≠ 76 → X' 0 k = X 0 k
theorem frB_rf {X : Mem} : FrB X X := ⟨fun _ _ _ => rfl, fun _ _ => rfl⟩
theorem frB_trans {X X1 X2 : Mem} (h : FrB X X1) (h2 : FrB X1 X2) : FrB X X2 := ⟨fun c a b => (h2.1 c a b).trans (h.1 c a b), fun k a => (h2.2 k a).trans (h.2 k a)⟩
theorem r_builds {X : Mem} {L : List Int} (h : BL X L) (hl : L.length < 100000) (c : Int) : ∃ X', f_X12_builds [vR 12 0, vI c] X = some (none, X') ∧ FrB X X' ∧ BL X' (L ++ [c]) := by
  obtain ⟨h1, h2⟩ := h
  rw [q_X12_builds, h1]
  have app : ∀ i x, (L ++ [c])[i]? = some x → (i < L.length ∧ L[i]? = some x) ∨ (i = L.length ∧ x = c) := fun i x hx => by
    by_cases z : i < L.length
    · rw [List.getElem?_append_left z] at hx; exact Or.inl ⟨z, hx⟩
    · rw [List.getElem?_append_right (by omega)] at hx
      by_cases y : i = L.length
      · rw [y, Nat.sub_self, List.getElem?_cons_zero] at hx; exact Or.inr ⟨y, (Option.some.inj hx).symm⟩
      · rw [List.getElem?_eq_none (by simp; omega)] at hx; cases hx
  by_cases q : L.length < 200
  · rw [if_pos (by omega), gk (lnR 47) 200 rfl (by omega) (by omega), show ((L.length : Int)).toNat = L.length by omega, up_cell (c := 47) (c' := 0) (by omega), h1, wr_eq (by omega) (by omega)]
    refine ⟨_, rfl, ⟨fun x p r => by rw [up_cell r, up_cell p], fun k hk => by rw [up_slot hk, up_cell (by omega)]⟩, by rw [up_same, List.length_append]; simp, fun i x hi hx => ?_⟩
    rw [up_cell (by omega), up_if]
    rcases app i x hx with ⟨y1, y2⟩ | ⟨y1, y2⟩
    · rw [if_neg (by omega)]; exact h2 i x hi y2
    · rw [if_pos y1, y2]
  · rw [if_neg (by omega), wr_eq (by omega) (by omega)]
    refine ⟨_, rfl, ⟨fun x p r => by rw [up_cell r], fun k hk => by rw [up_slot hk]⟩, by rw [up_same, List.length_append]; simp, fun i x hi hx => ?_⟩
    rw [up_cell (by omega)]
    rcases app i x hx with ⟨y1, y2⟩ | ⟨y1, y2⟩
    · exact h2 i x hi y2
    · omega
theorem take_s {T : List Int} {i : Nat} (h : i < T.length) : T.take (i + 1) = T.take i ++ [T[i]] := by
  rw [List.take_succ, List.getElem?_eq_getElem h]; rfl
theorem seg_s {T : List Int} {a i : Nat} (ha : a ≤ i) (h : i < T.length) : (T.drop a).take (i + 1 - a) = (T.drop a).take (i - a) ++ [T[i]] := by
  rw [show i + 1 - a = (i - a) + 1 by omega, List.take_succ, List.getElem?_drop, show a + (i - a) = i by omega, List.getElem?_eq_getElem h]
  rfl
section PI
variable {T : List Int}
theorem p69 {P : Nat} {w one two en : Int} {o7 o8 : Option AV} (hP : P ≤ T.length) (hT : T.length ≤ 200) : ∀ (j i : Nat) (X : Mem), i + j = P → RHL X 46 T → BL X (T.take i) → ∃ X', e_X12_putsIn_69 P w one two en i o7 o8 X = e_X12_putsIn_95 (some (vI (P : Int))) w one two en 0 o7 o8 X' ∧ FrB X X' ∧ BL X' (T.take P)
  | 0, i, X, hj, hR, hB => by
    obtain rfl : i = P := by omega
    rw [q_X12_putsIn_69, if_neg (by omega)]
    exact ⟨X, rfl, frB_rf, hB⟩
  | j + 1, i, X, hj, hR, hB => by
    have hi : i < T.length := by omega
    obtain ⟨X1, a1, a2, a3⟩ := r_builds hB (by rw [List.length_take]; omega) T[i]
    rw [q_X12_putsIn_69, if_pos (by omega), gk (lnR 46) 200 rfl (by omega) (by omega), show ((i : Int)).toNat = i by omega, hR.get hi, a1, cV_t, wr_eq (by omega) (by omega), show (i : Int) + 1 = ((i + 1 : Nat) : Int) by omega]
    obtain ⟨X2, b1, b2, b3⟩ := p69 hP hT j (i + 1) X1 (by omega) (hR.kept (a2.1 46 (by omega) (by omega))) (by rw [take_s hi]; exact a3)
    exact ⟨X2, b1, frB_trans a2 b2, b3⟩
/-- one name of a MEANING -/
theorem p148 {o1 : Option AV} {w one two en v6 v7 : Int} {a b : Nat} (hb : b ≤ T.length) (hT : T.length ≤ 200) (h7 : 23 ≤ v7) (hend : (if v7 = 23 then two else en) = (b : Int)) : ∀ (j i : Nat) (X : Mem) (L : List Int), i + j = b → a ≤ i → L.length ≤ 9000 → RHL X 46 T → BL X (L ++ (T.drop a).take (i - a)) → ∃ X' o7 o8, e_X12_putsIn_148 o1 w one two en v6 v7 i X = e_X12_putsIn_95 o1 w one two en (wr (v6 + 1)) o7 o8 X' ∧ FrB X X' ∧ BL X' (L ++ (T.drop a).take (b - a))
  | 0, i, X, L, hj, ha, hL, hR, hB => by
    obtain rfl : i = b := by omega
    refine ⟨X, some (vI v7), some (vI (i : Int)), ?_, frB_rf, hB⟩
    rw [q_X12_putsIn_148, if_neg (by omega)]
    by_cases q : v7 = 23
    · rw [if_pos q] at hend
      rw [if_pos q, hend, if_neg (by omega)]
    · rw [if_neg q] at hend
      rw [if_neg q, hend, if_neg (by omega)]
  | j + 1, i, X, L, hj, ha, hL, hR, hB => by
    have hi : i < T.length := by omega
    obtain ⟨X1, a1, a2, a3⟩ := r_builds hB (by rw [List.length_append, List.length_take, List.length_drop]; omega) T[i]
    rw [List.append_assoc, ← seg_s ha hi] at a3
    have step : e_X12_putsIn_148 o1 w one two en v6 v7 i X = e_X12_putsIn_148 o1 w one two en v6 v7 ((i + 1 : Nat) : Int) X1 := by
      rw [q_X12_putsIn_148, if_neg (by omega), gk (lnR 46) 200 rfl (by omega) (by omega), show ((i : Int)).toNat = i by omega, hR.get hi, a1, cV_t, wr_eq (by omega) (by omega), show (i : Int) + 1 = ((i + 1 : Nat) : Int) by omega]
      by_cases q : v7 = 23
      · rw [if_pos q] at hend
        rw [if_pos q, hend, if_pos (by omega)]
      · rw [if_neg q] at hend
        rw [if_neg q, hend, if_pos (by omega)]
    obtain ⟨X2, o7, o8, b1, b2, b3⟩ := p148 hb hT h7 hend j (i + 1) X1 L (by omega) (by omega) hL (hR.kept (a2.1 46 (by omega) (by omega))) a3
    exact ⟨X2, o7, o8, step.trans b1, frB_trans a2 b2, b3⟩
theorem p201 {o1 o2 o3 o4 o7 o8 : Option AV} {a : Nat} (ha : a ≤ T.length) (hT : T.length ≤ 200) : ∀ (j i : Nat) (X : Mem) (L : List Int) (o5 : Option AV), i + j = T.length → a ≤ i → L.length ≤ 9000 → X 0 74 = (T.length : Int) → RHL X 46 T → BL X (L ++ (T.drop a).take (i - a)) → ∃ X' o5', e_X12_putsIn_201 o1 o2 o3 o4 o5 i o7 o8 X = e_X12_putsIn_238 o1 o2 o3 o4 o5' 0 o7 o8 (up X' 0 74 (X' 0 76)) ∧ FrB X X' ∧ BL X' (L ++ T.drop a)
  | 0, i, X, L, o5, hj, ha', hL, h74, hR, hB => by
    obtain rfl : i = T.length := by omega
    rw [q_X12_putsIn_201, h74, if_neg (by omega)]
    refine ⟨X, _, rfl, frB_rf, ?_⟩
    rw [List.take_of_length_le (by rw [List.length_drop]; exact Nat.le_refl _)] at hB
    exact hB
  | j + 1, i, X, L, o5, hj, ha', hL, h74, hR, hB => by
    have hi : i < T.length := by omega
    obtain ⟨X1, a1, a2, a3⟩ := r_builds hB (by rw [List.length_append, List.length_take, List.length_drop]; omega) T[i]
    rw [List.append_assoc, ← seg_s ha' hi] at a3
    rw [q_X12_putsIn_201, h74, if_pos (by omega), gk (lnR 46) 200 rfl (by omega) (by omega), show ((i : Int)).toNat = i by omega, hR.get hi, a1, cV_t, wr_eq (by omega) (by omega), show (i : Int) + 1 = ((i + 1 : Nat) : Int) by omega]
    obtain ⟨X2, o5', b1, b2, b3⟩ := p201 ha hT j (i + 1) X1 L (kl o5) (by omega) (by omega) hL (by rw [a2.2 74 (by omega)]; exact h74) (hR.kept (a2.1 46 (by omega) (by omega))) a3
    exact ⟨X2, o5', b1, frB_trans a2 b2, b3⟩
end PI
