/-! areLike of the reference -/
def KP (X : Mem) (w : Nat) (K : List Int) : Prop := X 45 (2 + w) = (K.length : Int) ∧ K.length ≤ 200 ∧ ∀ i x, K[i]? = some x → X 50 (200 * w + i) = x
theorem KP.kept {X X' : Mem} {w : Nat} {K : List Int} (h : KP X w K) (hf : FrT X X') : KP X' w K := by
  unfold KP at *
  rw [hf 45 (by omega) (by omega), hf 50 (by omega) (by omega)]
  exact h
theorem WD.keptT {X X' : Mem} {k : Nat} {o : Option (List Int)} (h : WD X k o) (hf : FrT X X') : WD X' k o := by
  unfold WD at *
  rw [hf 45 (by omega) (by omega), hf 44 (by omega) (by omega)]
  exact h
theorem tk_ne {A K : List Int} {i : Nat} (h : A.take i ≠ K.take i) : A ≠ K := fun e => h (by rw [e])
theorem r_kept5 {X : Mem} {A K : List Int} {k w : Nat} (hk : k < 4) (hw : w < 2) (hA : RHL X 48 A) (h45 : X 45 k = (A.length : Int)) (hl : A.length = K.length) (h200 : A.length ≤ 200) (hK : ∀ i x, K[i]? = some x → X 50 (200 * w + i) = x) : ∀ (j i : Nat), i + j = A.length → e_X12_isKept_5 k w (if A.take i = K.take i then 1 else 0) i X = some (some (vI (if A = K then 1 else 0)), X)
  | 0, i, hj => by
    obtain rfl : i = A.length := by omega
    rw [q_X12_isKept_5, gk (lnR 45) 4 rfl (by omega) (by omega), show ((k : Int)).toNat = k by omega, h45, if_neg (by omega), gz_ite, List.take_length, hl, List.take_length]
  | j + 1, i, hj => by
    have hi : i < A.length := by omega
    have hi2 : i < K.length := by omega
    rw [q_X12_isKept_5, gk (lnR 45) 4 rfl (by omega) (by omega), show ((k : Int)).toNat = k by omega, h45, if_pos (show (i : Int) < (A.length : Int) by omega)]
    by_cases q : A.take i = K.take i
    · rw [if_pos q, if_neg (by decide), gk (lnR 48) 200 rfl (by omega) (by omega), wr_eq (x := 200 * (w : Int)) (by omega) (by omega), wr_eq (x := 200 * (w : Int) + (i : Int)) (by omega) (by omega), gk (lnR 50) 400 rfl (by omega) (by omega), show ((i : Int)).toNat = i by omega, show (200 * (w : Int) + (i : Int)).toNat = 200 * w + i by omega, hA.get hi, hK i _ (List.getElem?_eq_getElem hi2), w20c (by omega)]
      have ih := r_kept5 hk hw hA h45 hl h200 hK j (i + 1) (by omega)
      by_cases z : A[i] = K[i]
      · rw [if_pos (show A.take (i + 1) = K.take (i + 1) by rw [take_s hi, take_s hi2, q, z])] at ih
        rw [if_pos z]; exact ih
      · rw [if_neg (show ¬ A.take (i + 1) = K.take (i + 1) from fun e => z (by
          rw [take_s hi, take_s hi2, q] at e
          have := List.append_cancel_left e
          injection this))] at ih
        rw [if_neg z]; exact ih
    · rw [if_neg q, if_pos rfl, gz_0, if_neg (tk_ne q)]
theorem r_isSide {μ ν X : Mem} {T K : List Int} {k o w : Nat} {v3 : Int} (hW : RelW μ ν) (hM : FrM ν X) (hk : k < 4) (ho : o < 6) (hw : w < 2) (hv : v3 = 0 ∨ v3 = 1) (hD : WD X k (some T)) (hT : isT (ar ν) 1 T) (hL : LT T) (hK : KP X w K) : ∃ X', f_X12_isSide [vR 12 0, vI k, vI o, vI v3, vI w] X = some (some (vI (if tdy ν (v3 = 1) o T = K then 1 else 0)), X') ∧ FrT X X' := by
  have hl := hD.1
  have h45 := hD.2.1
  obtain ⟨k1, k2, k3⟩ := hK
  rw [q_X12_isSide, gk (lnR 45) 4 rfl (by omega) (by omega), wr_eq (x := 2 + (w : Int)) (by omega) (by omega), gk (lnR 45) 4 rfl (by omega) (by omega), show ((k : Int)).toNat = k by omega, show (2 + (w : Int)).toNat = 2 + w by omega, h45, k1]
  by_cases q : (T.length : Int) = (K.length : Int)
  · obtain ⟨X1, a1, a2, a3⟩ := r_tidies hW hM hk ho hv hD hT hL
    have lt : (tdy ν (v3 = 1) o T).length = T.length := tdy_len
    have hp := r_kept5 (A := tdy ν (v3 = 1) o T) (K := K) hk hw a3 (by rw [a2 45 (by omega) (by omega), lt]; exact h45) (by omega) (by omega) (by rw [a2 50 (by omega) (by omega)]; exact k3) (tdy ν (v3 = 1) o T).length 0 (by omega)
    rw [if_pos (show (tdy ν (v3 = 1) o T).take 0 = K.take 0 from rfl)] at hp
    have hp' : e_X12_isKept_5 k w 1 0 X1 = _ := hp
    rw [if_pos q, a1, cV_t, q_X12_isKept, hp', cI_t, gz_ite]
    exact ⟨X1, rfl, a2⟩
  · rw [if_neg q, gz_0, if_neg (fun e => q (by rw [← e, tdy_len]))]
    exact ⟨X, rfl, frT_rf⟩
/-- one order of names makes two sayings one -/
def LKo (ν : Mem) (how : Int) (o : Nat) (A B K0 K1 : List Int) : Prop := (tdy ν (bAnd how 2 = 2) o A = K0 ∧ tdy ν (bAnd how 2 = 2) o B = K1) ∨ (bRem how 2 = 1 ∧ tdy ν (bAnd how 2 = 2) o A = K1 ∧ tdy ν (bAnd how 2 = 2) o B = K0)
def IL (ν X : Mem) (A B K0 K1 : List Int) : Prop := FrM ν X ∧ WD X 0 (some A) ∧ WD X 1 (some B) ∧ KP X 0 K0 ∧ KP X 1 K1
theorem IL.kept {ν X X' : Mem} {A B K0 K1 : List Int} (h : IL ν X A B K0 K1) (hf : FrT X X') : IL ν X' A B K0 K1 := ⟨frM_trans h.1 (frT_M hf), h.2.1.keptT hf, h.2.2.1.keptT hf, h.2.2.2.1.kept hf, h.2.2.2.2.kept hf⟩
theorem tdy_c {ν : Mem} {p q : Prop} [Decidable p] [Decidable q] (h : p ↔ q) (o : Nat) (T : List Int) : tdy ν p o T = tdy ν q o T := by
  unfold tdy
  by_cases z : p
  · rw [if_pos z, if_pos (h.mp z)]
  · rw [if_neg z, if_neg (fun y => z (h.mpr y))]
theorem r_al191 {μ ν : Mem} {A B K0 K1 : List Int} {how v5 : Int} (hW : RelW μ ν) (hv : v5 = 0 ∨ v5 = 1) (hm : v5 = 1 ↔ bAnd how 2 = 2) (hA : okU (ar ν) A) (hB : okU (ar ν) B) {o1 o2 o4 : Option AV} : ∀ (j o : Nat) (X : Mem) (o6 : Option AV), o + j = 6 → IL ν X A B K0 K1 → ∃ (r : Int) (X' : Mem), e_X12_areLike_191 o1 o2 how o4 v5 o6 0 o X = some (some (vI r), X') ∧ FrT X X' ∧ (r = 0 ∨ r = 1) ∧ (r = 1 ↔ ∃ o', o ≤ o' ∧ o' < 6 ∧ LKo ν how o' A B K0 K1)
  | 0, o, X, o6, hj, hI => by
    rw [q_X12_areLike_191, if_neg (by omega), gz_0]
    refine ⟨0, X, rfl, frT_rf, Or.inl rfl, fun h => by omega, fun ⟨o', h1, h2, _⟩ => by omega⟩
  | j + 1, o, X, o6, hj, hI => by
    have ho : o < 6 := by omega
    have one1 : ∀ (o6' : Option AV) (X1 : Mem), e_X12_areLike_191 o1 o2 how o4 v5 o6' 1 ((o + 1 : Nat) : Int) X1 = some (some (vI 1), X1) := fun o6' X1 => by
      rw [q_X12_areLike_191, if_neg (show ¬ (1 : Int) = 0 by decide), ite_self, gz_1]
    have yes : ∀ (o6' : Option AV) (X1 : Mem), FrT X X1 → LKo ν how o A B K0 K1 → ∃ (r : Int) (X' : Mem), e_X12_areLike_191 o1 o2 how o4 v5 o6' 1 ((o + 1 : Nat) : Int) X1 = some (some (vI r), X') ∧ FrT X X' ∧ (r = 0 ∨ r = 1) ∧ (r = 1 ↔ ∃ o', o ≤ o' ∧ o' < 6 ∧ LKo ν how o' A B K0 K1) := fun o6' X1 f h => ⟨1, X1, one1 o6' X1, f, Or.inr rfl, fun _ => ⟨o, Nat.le_refl _, ho, h⟩, fun _ => rfl⟩
    have no : ∀ (o6' : Option AV) (X1 : Mem), FrT X X1 → ¬ LKo ν how o A B K0 K1 → ∃ (r : Int) (X' : Mem), e_X12_areLike_191 o1 o2 how o4 v5 o6' 0 ((o + 1 : Nat) : Int) X1 = some (some (vI r), X') ∧ FrT X X' ∧ (r = 0 ∨ r = 1) ∧ (r = 1 ↔ ∃ o', o ≤ o' ∧ o' < 6 ∧ LKo ν how o' A B K0 K1) := fun o6' X1 f h => by
      obtain ⟨r, X', a1, a2, a3, a4⟩ := r_al191 hW hv hm hA hB (o1 := o1) (o2 := o2) (o4 := o4) j (o + 1) X1 o6' (by omega) (hI.kept f)
      refine ⟨r, X', a1, frT_trans f a2, a3, a4.trans ⟨fun ⟨o', h1, h2, h3⟩ => ⟨o', by omega, h2, h3⟩, fun ⟨o', h1, h2, h3⟩ => ⟨o', ?_, h2, h3⟩⟩⟩
      rcases Nat.lt_or_ge o o' with z | z
      · exact z
      · have : o' = o := by omega
        subst this; exact absurd h3 h
    have n2 : ¬ (2 : Int) = 0 := by decide
    have sec : ∀ (o6' o7' : Option AV) (X1 : Mem), FrT X X1 → ¬ (tdy ν (v5 = 1) o A = K0 ∧ tdy ν (v5 = 1) o B = K1) → ∃ (r : Int) (X' : Mem), e_X12_areLike_234 o1 o2 how o4 v5 o6' o7' o 0 X1 = some (some (vI r), X') ∧ FrT X X' ∧ (r = 0 ∨ r = 1) ∧ (r = 1 ↔ ∃ o', o ≤ o' ∧ o' < 6 ∧ LKo ν how o' A B K0 K1) := fun o6' o7' X1 f h => by
      have hI1 := hI.kept f
      rw [tdy_c hm, tdy_c hm] at h
      rw [q_X12_areLike_234, if_pos rfl, gn_t n2, w20c (by omega)]
      by_cases q : bRem how 2 = 1
      · rw [if_pos q]
        obtain ⟨X2, b1, b2⟩ := r_isSide hW hI1.1 (show 0 < 4 by omega) ho (show 1 < 2 by omega) hv hI1.2.1 hA.1 hA.2 hI1.2.2.2.2
        have b1' : f_X12_isSide [vR 12 0, vI 0, vI o, vI v5, vI 1] X1 = _ := b1
        rw [b1', cI_t, tdy_c hm]
        by_cases z : tdy ν (bAnd how 2 = 2) o A = K1
        · rw [if_pos z, if_neg (show ¬ (1 : Int) = 0 by decide)]
          have hI2 := hI1.kept b2
          obtain ⟨X3, c1, c2⟩ := r_isSide hW hI2.1 (show 1 < 4 by omega) ho (show 0 < 2 by omega) hv hI2.2.2.1 hB.1 hB.2 hI2.2.2.2.1
          have c1' : f_X12_isSide [vR 12 0, vI 1, vI o, vI v5, vI 0] X2 = _ := c1
          rw [c1', cI_t, tdy_c hm]
          by_cases y : tdy ν (bAnd how 2 = 2) o B = K0
          · rw [if_pos y, if_neg (show ¬ (1 : Int) = 0 by decide)]
            exact yes _ _ (frT_trans (frT_trans f b2) c2) (Or.inr ⟨q, z, y⟩)
          · rw [if_neg y, if_pos rfl]
            exact no _ _ (frT_trans (frT_trans f b2) c2) (fun w => w.elim h (fun w => y w.2.2))
        · rw [if_neg z, if_pos rfl]
          exact no _ _ (frT_trans f b2) (fun w => w.elim h (fun w => z w.2.1))
      · rw [if_neg q]
        exact no _ _ f (fun w => w.elim h (fun w => q w.1))
    rw [q_X12_areLike_191, if_pos (by omega), if_pos rfl]
    obtain ⟨X1, a1, a2⟩ := r_isSide hW hI.1 (show 0 < 4 by omega) ho (show 0 < 2 by omega) hv hI.2.1 hA.1 hA.2 hI.2.2.2.1
    have a1' : f_X12_isSide [vR 12 0, vI 0, vI o, vI v5, vI 0] X = _ := a1
    rw [a1', cI_t]
    by_cases z : tdy ν (v5 = 1) o A = K0
    · rw [if_pos z, if_neg (show ¬ (1 : Int) = 0 by decide)]
      have hI2 := hI.kept a2
      obtain ⟨X3, c1, c2⟩ := r_isSide hW hI2.1 (show 1 < 4 by omega) ho (show 1 < 2 by omega) hv hI2.2.2.1 hB.1 hB.2 hI2.2.2.2.2
      have c1' : f_X12_isSide [vR 12 0, vI 1, vI o, vI v5, vI 1] X1 = _ := c1
      rw [c1', cI_t]
      by_cases y : tdy ν (v5 = 1) o B = K1
      · rw [if_pos y, if_neg (show ¬ (1 : Int) = 0 by decide), q_X12_areLike_234, if_neg (show ¬ (1 : Int) = 0 by decide), w20c (by omega)]
        rw [tdy_c hm] at z y
        exact yes _ _ (frT_trans a2 c2) (Or.inl ⟨z, y⟩)
      · rw [if_neg y, if_pos rfl, q_X12_areLike_233]
        exact sec _ _ _ (frT_trans a2 c2) (fun w => y w.2)
    · rw [if_neg z, if_pos rfl, q_X12_areLike_233]
      exact sec _ _ _ a2 (fun w => z w.1)
theorem r_al138 {K : List Int} {k : Nat} (hk : k < 2) (h200 : K.length ≤ 200) {o1 o2 o4 o6 : Option AV} {v3 v5 : Int} : ∀ (j i : Nat) (X : Mem), i + j = K.length → X 45 (2 + k) = (K.length : Int) → RHL X 48 K → (∀ q x, q < i → K[q]? = some x → X 50 (200 * k + q) = x) → ∃ X' o8, e_X12_areLike_138 o1 o2 v3 o4 v5 o6 k i X = e_X12_areLike_118 o1 o2 v3 o4 v5 (kl o6) ((k + 1 : Nat) : Int) o8 X' ∧ (∀ c, c ≠ 50 → X' c = X c) ∧ (∀ q, (q < 200 * k ∨ 200 * k + 200 ≤ q) → X' 50 q = X 50 q) ∧ ∀ q x, K[q]? = some x → X' 50 (200 * k + q) = x
  | 0, i, X, hj, h45, hR, h => by
    obtain rfl : i = K.length := by omega
    rw [q_X12_areLike_138, wr_eq (x := 2 + (k : Int)) (by omega) (by omega), gk (lnR 45) 4 rfl (by omega) (by omega), show (2 + (k : Int)).toNat = 2 + k by omega, h45, if_neg (by omega), w20c (by omega)]
    refine ⟨X, _, rfl, fun _ _ => rfl, fun _ _ => rfl, fun q x hx => h q x ?_ hx⟩
    by_cases y : q < K.length
    · exact y
    · rw [List.getElem?_eq_none (by omega)] at hx; cases hx
  | j + 1, i, X, hj, h45, hR, h => by
    have hi : i < K.length := by omega
    rw [q_X12_areLike_138, wr_eq (x := 2 + (k : Int)) (by omega) (by omega), gk (lnR 45) 4 rfl (by omega) (by omega), show (2 + (k : Int)).toNat = 2 + k by omega, h45, if_pos (by omega), gk (lnR 48) 200 rfl (by omega) (by omega), wr_eq (x := 200 * (k : Int)) (by omega) (by omega), wr_eq (x := 200 * (k : Int) + (i : Int)) (by omega) (by omega), gk (lnR 50) 400 rfl (by omega) (by omega), show ((i : Int)).toNat = i by omega, show (200 * (k : Int) + (i : Int)).toNat = 200 * k + i by omega, hR.get hi, w20c (by omega)]
    obtain ⟨X', o8, a1, a2, a3, a4⟩ := r_al138 hk h200 (o1 := o1) (o2 := o2) (o4 := o4) (o6 := o6) (v3 := v3) (v5 := v5) j (i + 1) (up X 50 (200 * k + i) K[i]) (by omega) (by rw [up_cell (by omega)]; exact h45) (hR.kept (up_cell (by omega))) (fun q x hq hx => by
      rw [up_if]
      by_cases z : q = i
      · subst z; rw [if_pos rfl]; rw [List.getElem?_eq_getElem hi] at hx; exact Option.some.inj hx
      · rw [if_neg (by omega)]; exact h q x (by omega) hx)
    exact ⟨X', o8, a1, fun c hc => by rw [a2 c hc, up_cell hc], fun q hq => by rw [a3 q hq, up_slot (by omega)], a4⟩
theorem r_al71 {X : Mem} {o1 o2 o4 o8 : Option AV} {v3 v5 : Int} : ∀ (j i : Nat) (v6 : Int), i + j = 4 → (v6 = 0 ∨ v6 = 1) → (v6 = 1 ∧ (∀ q, i ≤ q → q < 4 → X 45 q ≤ 200) ∧ e_X12_areLike_71 o1 o2 v3 o4 v5 v6 i o8 X = e_X12_areLike_118 o1 o2 v3 o4 v5 (some (vI 1)) 0 o8 X) ∨ ((v6 = 0 ∨ ∃ q, i ≤ q ∧ q < 4 ∧ 200 < X 45 q) ∧ e_X12_areLike_71 o1 o2 v3 o4 v5 v6 i o8 X = some (some (vI 0), X))
  | 0, i, v6, hj, hv => by
    rw [q_X12_areLike_71, if_neg (by omega)]
    rcases hv with q | q
    · rw [if_pos q, gz_0]; exact Or.inr ⟨Or.inl q, rfl⟩
    · rw [if_neg (by omega), q]; exact Or.inl ⟨rfl, fun q h1 h2 => by omega, rfl⟩
  | j + 1, i, v6, hj, hv => by
    rw [q_X12_areLike_71, if_pos (by omega), w20c (by omega)]
    rcases hv with q | q
    · rw [if_pos q]
      rcases r_al71 (o1 := o1) (o2 := o2) (o4 := o4) (o8 := o8) (v3 := v3) (v5 := v5) j (i + 1) 0 (by omega) (Or.inl rfl) with ⟨h1, _⟩ | ⟨_, h2⟩
      · omega
      · exact Or.inr ⟨Or.inl q, h2⟩
    · rw [if_neg (by omega), gk (lnR 45) 4 rfl (by omega) (by omega), show ((i : Int)).toNat = i by omega]
      by_cases z : X 45 i ≤ 200
      · rw [if_pos z]
        rcases r_al71 (o1 := o1) (o2 := o2) (o4 := o4) (o8 := o8) (v3 := v3) (v5 := v5) j (i + 1) 1 (by omega) (Or.inr rfl) with ⟨_, h1, h2⟩ | ⟨h1, h2⟩
        · refine Or.inl ⟨q, fun y h3 h4 => ?_, h2⟩
          by_cases w : y = i
          · rw [w]; exact z
          · exact h1 y (by omega) h4
        · refine Or.inr ⟨Or.inr ?_, h2⟩
          rcases h1 with h1 | ⟨y, h3, h4, h5⟩
          · omega
          · exact ⟨y, by omega, h4, h5⟩
      · rw [if_neg z]
        rcases r_al71 (o1 := o1) (o2 := o2) (o4 := o4) (o8 := o8) (v3 := v3) (v5 := v5) j (i + 1) 0 (by omega) (Or.inl rfl) with ⟨h1, _⟩ | ⟨_, h2⟩
        · omega
        · exact Or.inr ⟨Or.inr ⟨i, Nat.le_refl _, by omega, by omega⟩, h2⟩
