/-! sortMates and rename of the class -/
theorem seg_c {U : List Int} {i m : Nat} (hi : i < m) (hm : m ≤ U.length) : (U.drop i).take (m - i) = U[i]'(by omega) :: (U.drop (i + 1)).take (m - (i + 1)) := by
  rw [List.drop_eq_getElem_cons (show i < U.length by omega), show m - i = (m - (i + 1)) + 1 by omega, List.take_succ_cons]
theorem seg_n {U : List Int} {i m : Nat} (h : m ≤ i) : (U.drop i).take (m - i) = [] := by
  rw [show m - i = 0 by omega, List.take_zero]
theorem atL_n {U : List Int} {i : Nat} (h : i < U.length) : atL U i = U[i] := atL_in (by omega) (by rw [show ((i : Int)).toNat = i by omega]; exact List.getElem?_eq_getElem h)
theorem cl_nr (l : List Int) : cl l [] = false := by cases l <;> rfl
theorem s_later {μ : Mem} {t f m s : Nat} {U : List Int} (hU : TH μ t U) (hm : m ≤ s) (hs : s ≤ U.length) {o0 : Option AV} : ∀ (j i : Nat) (o6 o7 : Option AV), f + i + j = m → e_X0_comesLater_3 o0 t f m s i o6 o7 μ = some (some (vI (if cl ((U.drop (f + i)).take (m - (f + i))) ((U.drop (m + i)).take (s - (m + i))) then 1 else 0)), μ)
  | 0, i, o6, o7, hj => by
    have h4 := hU.le
    rw [q_X0_comesLater_3, wr_eq (x := (f : Int) + (i : Int)) (by omega) (by omega), if_neg (by omega), gz_0, seg_n (U := U) (i := f + i) (m := m) (by omega)]
    rfl
  | j + 1, i, o6, o7, hj => by
    have h4 := hU.le
    rw [q_X0_comesLater_3, wr_eq (x := (f : Int) + (i : Int)) (by omega) (by omega), wr_eq (x := (m : Int) + (i : Int)) (by omega) (by omega), if_pos (by omega)]
    by_cases q : m + i < s
    · rw [if_pos (by omega), show (f : Int) + (i : Int) = ((f + i : Nat) : Int) by omega, show (m : Int) + (i : Int) = ((m + i : Nat) : Int) by omega, s_at hU, cI_t, s_at hU, cI_t, atL_n (show f + i < U.length by omega), atL_n (show m + i < U.length by omega), seg_c (U := U) (i := f + i) (m := m) (by omega) (by omega), seg_c (U := U) (i := m + i) (m := s) (by omega) (by omega), gz_0, gz_1, w20c (by omega)]
      unfold cl
      by_cases z : U[f + i] = U[m + i]
      · rw [if_pos z, if_pos z]
        have ih := s_later (f := f) hU hm hs (o0 := o0) j (i + 1) (some (vI U[f + i])) (some (vI U[m + i])) (by omega)
        exact ih
      · rw [if_neg z, if_neg z]
        by_cases y : U[f + i] ≤ U[m + i]
        · rw [if_pos y, if_neg (by simp; omega)]
        · rw [if_neg y, if_pos (by simp; omega)]
    · rw [if_neg (by omega), gz_0, seg_n (U := U) (i := m + i) (m := s) (by omega), cl_nr]
      rfl
theorem s_set {μ : Mem} {t i : Nat} {x : Int} {n : Nat} (h1 : μ t 1 = (n : Int)) (hi : i < n) (hn : n ≤ lnC (t + 1)) (hx : -128 ≤ x ∧ x ≤ 127) : f_X8_set [vR 8 t, vI i, vI x] μ = some (none, up μ (t + 1) i x) := by
  rw [q_X8_set, if_neg (by omega), h1, if_pos (by omega), gi_t (by omega) (by omega), show ((i : Int)).toNat = i by omega, wrB_eq hx.1 hx.2, wrB_eq hx.1 hx.2]
theorem s_cm34 {t f n : Nat} {W : List Int} {o3 o4 : Option AV} (hW : LT W) (hn : n ≤ lnC (t + 1)) (hf : f + W.length ≤ n) (h200 : n ≤ 424) (ht : t ≠ 793 ∧ t ≠ 794 ∧ t ≠ 792) : ∀ (j i : Nat) (μ : Mem) (o4 : Option AV), i + j = W.length → TH μ 793 W → μ t 1 = (n : Int) → ∃ μ', e_X0_changeMates_34 t f o3 o4 i μ = some (none, μ') ∧ (∀ c, c ≠ t + 1 → μ' c = μ c) ∧ (∀ q, (q < f + i ∨ f + W.length ≤ q) → μ' (t + 1) q = μ (t + 1) q) ∧ ∀ q x, i ≤ q → W[q]? = some x → μ' (t + 1) (f + q) = x
  | 0, i, μ, o4, hj, hS, h1 => by
    refine ⟨μ, ?_, fun _ _ => rfl, fun _ _ => rfl, fun q x hq hx => ?_⟩
    · rw [q_X0_changeMates_34, hS.1, if_neg (by omega)]
    · rw [List.getElem?_eq_none (by omega)] at hx; cases hx
  | j + 1, i, μ, o4, hj, hS, h1 => by
    have hi : i < W.length := by omega
    have hw := hW _ (List.getElem_mem hi)
    have f1 : ∀ c, c ≠ t + 1 → up μ (t + 1) (f + i) W[i] c = μ c := fun c hc => up_cell hc
    rw [q_X0_changeMates_34, hS.1, if_pos (by omega), s_at hS, cI_t, atL_n hi, wr_eq (x := (f : Int) + (i : Int)) (by omega) (by omega), show (f : Int) + (i : Int) = ((f + i : Nat) : Int) by omega, s_set h1 (by omega) hn (by omega), cV_t, w20c (by omega)]
    obtain ⟨μ', a1, a2, a3, a4⟩ := s_cm34 (o3 := o3) (o4 := o4) hW hn hf h200 ht j (i + 1) (up μ (t + 1) (f + i) W[i]) (kl o4) (by omega) (hS.kept (S := fun c => c = t + 1) (fun c hc => f1 c hc) (by omega) (by omega)) (by rw [f1 t (by omega)]; exact h1)
    refine ⟨μ', a1, fun c hc => by rw [a2 c hc, f1 c hc], fun q hq => by rw [a3 q (by omega), up_slot (by omega)], fun q x hq hx => ?_⟩
    by_cases z : q = i
    · subst z
      rw [List.getElem?_eq_getElem hi] at hx
      rw [a3 _ (by omega), up_same]
      exact Option.some.inj hx
    · exact a4 q x (by omega) hx
theorem s_change {μ : Mem} {t f m s : Nat} {U : List Int} (hU : TH μ t U) (hL : LT U) (hfm : f ≤ m) (hm : m ≤ s) (hs : s ≤ U.length) (h200 : U.length ≤ 200) (ht : t ≠ 793 ∧ t ≠ 794 ∧ t ≠ 792) : ∃ μ', f_X0_changeMates [vR 0 780, vR 8 t, vI f, vI m, vI s] μ = some (none, μ') ∧ Fr μ μ' (S93 t) ∧ TH μ' t (U.take f ++ (((U.drop m).take (s - m) ++ (U.drop f).take (m - f)) ++ U.drop s)) := by
  have n1 : ¬ tS 793 t := by unfold tS; omega
  have n2 : ¬ tS 793 (t + 1) := by unfold tS; omega
  have f0 : Fr μ (up μ 793 1 0) (tS 793) := Fr.up (Or.inl rfl)
  have hU0 := hU.kept f0 n1 n2
  obtain ⟨μ1, a1, a2, a3⟩ := s_addPart (a := (m : Int)) (b := (s : Int)) (TH_nil (μ := μ) (t := 793)) hU0 hL.by n1 n2 (by omega) (by omega) (by omega) (show _ ≤ ((200 : Nat) : Int) by simp; omega)
  rw [show ((m : Int)).toNat = m by omega, show ((s : Int) - (m : Int)).toNat = s - m by omega, List.nil_append] at a2
  have lB : ((U.drop m).take (s - m)).length = s - m := by rw [List.length_take, List.length_drop]; omega
  have lA : ((U.drop f).take (m - f)).length = m - f := by rw [List.length_take, List.length_drop]; omega
  have hU1 := hU0.kept a3 n1 n2
  obtain ⟨μ2, b1, b2, b3⟩ := s_addPart (a := (f : Int)) (b := (m : Int)) a2 hU1 hL.by n1 n2 (by omega) (by omega) (by omega) (show _ ≤ ((200 : Nat) : Int) by rw [lB]; omega)
  rw [show ((f : Int)).toNat = f by omega, show ((m : Int) - (f : Int)).toNat = m - f by omega] at b2
  have f2 := (f0.trans a3).trans b3
  have hU2 := hU.kept f2 n1 n2
  obtain ⟨W, eW⟩ : ∃ W, W = (U.drop m).take (s - m) ++ (U.drop f).take (m - f) := ⟨_, rfl⟩
  have lW : W.length = s - f := by rw [eW, List.length_append, lA, lB]; omega
  rw [← eW] at b2 ⊢
  have LW : LT W := by rw [eW]; exact LT_app (LT_take (LT_drop hL)) (LT_take (LT_drop hL))
  obtain ⟨μ3, c1, c2, c3, c4⟩ := s_cm34 (t := t) (f := f) (n := U.length) (W := W) (o3 := some (vI (m : Int))) (o4 := some (vI (s : Int))) LW hU.2.1 (by omega) (by omega) ht W.length 0 μ2 (some (vI (s : Int))) (by omega) b2 hU2.1
  have c1' : e_X0_changeMates_34 t f (some (vI (m : Int))) (some (vI (s : Int))) 0 μ2 = _ := c1
  refine ⟨μ3, by rw [q_X0_changeMates, a1, cI_t, b1, cI_t, c1'], fun c hc => ?_, ?_, ?_, ?_⟩
  · unfold S93 tS at hc
    rw [c2 c (by omega), f2 c (by unfold tS; omega)]
  · rw [c2 t (by omega), hU2.1, List.length_append, List.length_append, List.length_take, List.length_drop, lW]
    omega
  · rw [List.length_append, List.length_append, List.length_take, List.length_drop, lW]
    have := hU.2.1
    omega
  · intro i x hx
    rw [show s = f + W.length by omega] at hx
    rcases app3 (by omega) hx with ⟨z1, z2⟩ | ⟨z1, z2, z3⟩ | ⟨z1, z2⟩
    · rw [c3 i (by omega)]; exact hU2.2.2 i x z2
    · have := c4 (i - f) x (by omega) z3
      rw [show f + (i - f) = i by omega] at this
      exact this
    · rw [c3 i (by omega)]; exact hU2.2.2 i x z2
def S95 (t : Nat) : Nat → Prop := fun c => tS t c ∨ tS 793 c ∨ c = 795
/-- the ends that are known from a place on -/
def EN (μ : Mem) (a : Int → Int) (p : Nat) (S : List Int) : Prop := ∀ k, tl a k S < S.length → μ 795 (p + tl a k S) = ((p + tl a (k + 1) S : Nat) : Int)
theorem s_endX {μ : Mem} {t q n : Nat} {U : List Int} (hU : TH μ t U) (hq : q < U.length) (h200 : U.length ≤ 200) : f_X0_endAt [vR 0 780, vR 8 t, vI q] μ = some (some (vI (μ 795 q)), μ) := by
  rw [q_X0_endAt, if_neg (by omega), hU.1, if_pos (by omega), if_pos (by omega), gk (lnC 795) 200 rfl (by omega) (by omega), show ((q : Int)).toNat = q by omega]
theorem s_sort23 {ν : Mem} {t : Nat} {T : List Int} (ht : 781 ≤ t ∧ t ≤ 791) (hT : isT (ar ν) 1 T) (hL : LT T) (h200 : T.length ≤ 200) : ∀ (p : Nat) (μ : Mem) (o3 o4 o5 : Option AV), p ≤ T.length → RelW μ ν → TH μ t (T.take p ++ srt (ar ν) (T.drop p)) → EN μ (ar ν) p (srt (ar ν) (T.drop p)) → ∃ μ', e_X0_sortMates_23 t ((p : Int) - 1) o3 o4 o5 μ = some (none, μ') ∧ Fr μ μ' (S95 t) ∧ TH μ' t (srt (ar ν) T)
  | 0, μ, o3, o4, o5, hp, hW, hH, hE => by
    rw [List.take_zero, List.nil_append, List.drop_zero] at hH
    rw [q_X0_sortMates_23, if_pos (by omega)]
    exact ⟨μ, rfl, Fr.rf, hH⟩
  | p + 1, μ, o3, o4, o5, hp, hW, hH, hE => by
    have hp' : p < T.length := by omega
    obtain ⟨x, ex⟩ : ∃ x, x = T[p] := ⟨_, rfl⟩
    obtain ⟨S, eS⟩ : ∃ S, S = srt (ar ν) (T.drop (p + 1)) := ⟨_, rfl⟩
    obtain ⟨k, hk⟩ := isT_drop T 1 p hT hp'
    rw [List.drop_eq_getElem_cons hp', ← ex] at hk
    obtain ⟨hk0, hk1⟩ := hk
    have hv := ar_vals hW x
    obtain ⟨b, hb⟩ : ∃ b : Nat, ar ν x = (b : Int) := ⟨(ar ν x).toNat, by omega⟩
    have hbt : (ar ν x).toNat = b := by omega
    have hS0 := srt_isT (ar_12 ν) _ _ hk1
    rw [← eS, hbt] at hS0
    have lS : S.length = T.length - (p + 1) := by rw [eS, srt_len, List.length_drop]
    have LS : LT S := by rw [eS]; exact srt_LT (LT_drop hL)
    rw [← eS] at hH hE
    obtain ⟨U, eU⟩ : ∃ U, U = T.take (p + 1) ++ S := ⟨_, rfl⟩
    have lU : U.length = T.length := by rw [eU, List.length_append, List.length_take, lS]; omega
    have LU : LT U := by rw [eU]; exact LT_app (LT_take hL) LS
    have dU : ∀ q, U.drop (p + 1 + q) = S.drop q := fun q => by
      rw [eU, List.drop_append, List.length_take, List.drop_eq_nil_of_le (by rw [List.length_take]; omega), List.nil_append, show p + 1 + q - min (p + 1) T.length = q by omega]
    have tU : U.take (p + 1) = T.take p ++ [x] := by
      rw [eU, List.take_append_of_le_length (by rw [List.length_take]; omega), List.take_take, show min (p + 1) (p + 1) = p + 1 by omega, take_s hp', ← ex]
    have uX : U[p]? = some x := by
      rw [eU, List.getElem?_append_left (by rw [List.length_take]; omega), List.getElem?_take, if_pos (by omega), List.getElem?_eq_getElem hp', ex]
    have aX : atL U p = x := atL_in (by omega) (by rw [show ((p : Int)).toNat = p by omega]; exact uX)
    rw [← eU] at hH
    have hs : srt (ar ν) (T.drop p) = sw (ar ν) x S := by rw [List.drop_eq_getElem_cons hp', ← ex, eS]; rfl
    have ub := tl_le (a := ar ν) S b
    have u1 := tl_le (a := ar ν) S 1
    have mid : ∀ o3' o4' : Option AV, ∃ m : Nat, (b = 2 → m = p + 1 + tl (ar ν) 1 S) ∧ p + 1 ≤ m ∧ m ≤ p + 1 + tl (ar ν) b S ∧ e_X0_sortMates_23 t (((p + 1 : Nat) : Int) - 1) o3 o4 o5 μ = e_X0_sortMates_78 t p (some (vI (b : Int))) m o5 ((p + 1 + tl (ar ν) b S : Nat) : Int) μ := fun _ _ => by
      rw [show ((p + 1 : Nat) : Int) - 1 = (p : Int) by omega, q_X0_sortMates_23, if_neg (by omega), s_at hH, cI_t, aX, s_behind hW, cI_t, arN_of hk0, hb, w20c (by omega)]
      by_cases q : b = 0
      · subst q
        rw [if_pos (by omega), q_X0_sortMates_59, if_neg (by omega), tl_0]
        exact ⟨p + 1, by omega, by omega, by omega, rfl⟩
      · have e0 : tl (ar ν) 0 S < S.length := tl_ltn (m := k + b - 1) (by rw [show 0 + (k + b - 1 + 1) = k + b by omega]; exact hS0)
        have E0 : μ 795 (p + 1 + tl (ar ν) 0 S) = ((p + 1 + tl (ar ν) 1 S : Nat) : Int) := hE 0 e0
        rw [tl_0] at e0 E0
        rw [if_neg (by omega), s_endX (n := 0) hH (by omega) (by omega), cI_t, show p + 1 = p + 1 + 0 by omega, E0, q_X0_sortMates_59]
        by_cases q2 : b = 2
        · subst q2
          have e1 : tl (ar ν) 1 S < S.length := tl_ltn (m := k) (by rw [show 1 + (k + 1) = k + 2 by omega]; exact hS0)
          have E1 : μ 795 (p + 1 + tl (ar ν) 1 S) = ((p + 1 + tl (ar ν) 2 S : Nat) : Int) := hE 1 e1
          rw [if_pos (by omega), s_endX (n := 0) hH (by omega) (by omega), cI_t, E1]
          have : tl (ar ν) 1 S ≤ tl (ar ν) 2 S := by have := (geo2 hS0).2.2.2.1; omega
          exact ⟨p + 1 + tl (ar ν) 1 S, fun _ => rfl, by omega, by omega, rfl⟩
        · obtain rfl : b = 1 := by omega
          rw [if_neg (by omega)]
          exact ⟨p + 1 + tl (ar ν) 1 S, fun _ => rfl, by omega, by omega, rfl⟩
    obtain ⟨m, m1, m2, m3, m4⟩ := mid none none
    have f1 : Fr μ (up μ 795 p ((p + 1 + tl (ar ν) b S : Nat) : Int)) (S95 t) := Fr.up (Or.inr (Or.inr rfl))
    have hH1 : TH (up μ 795 p ((p + 1 + tl (ar ν) b S : Nat) : Int)) t U := hH.kept (S := fun c => c = 795) (fun c hc => up_cell hc) (by omega) (by omega)
    have hW1 : RelW (up μ 795 p ((p + 1 + tl (ar ν) b S : Nat) : Int)) ν := hW.kept (fun c _ _ => up_cell (by omega))
    have hE1 : ∀ μ1 : Mem, μ1 795 = up μ 795 p ((p + 1 + tl (ar ν) b S : Nat) : Int) 795 → EN μ1 (ar ν) p (srt (ar ν) (T.drop p)) := fun μ1 h1 => by
      rw [hs]
      intro j hj
      rw [sw_tl (ar_12 ν) (m := k) (by rw [hbt]; exact hS0)] at hj ⊢
      rw [sw_tl (ar_12 ν) (m := k) (by rw [hbt]; exact hS0), h1]
      cases j with
      | zero =>
        rw [tl_0, show p + 0 = p from rfl, up_same]
        have : tl (ar ν) (0 + 1) (x :: S) = 1 + tl (ar ν) (0 + (ar ν x).toNat) S := rfl
        rw [this, hbt, Nat.zero_add]
        omega
      | succ j =>
        have t1 : tl (ar ν) (j + 1) (x :: S) = 1 + tl (ar ν) (j + (ar ν x).toNat) S := rfl
        have t2 : tl (ar ν) (j + 1 + 1) (x :: S) = 1 + tl (ar ν) (j + 1 + (ar ν x).toNat) S := rfl
        have lsw : (sw (ar ν) x S).length = S.length + 1 := by rw [← hs, srt_len, List.length_drop, lS]; omega
        rw [t1, hbt, lsw] at hj
        have h2 := hE (j + b) (by omega)
        rw [t1, t2, hbt, up_slot (by omega), show p + (1 + tl (ar ν) (j + b) S) = p + 1 + tl (ar ν) (j + b) S by omega, h2, show j + 1 + b = j + b + 1 by omega]
        omega
    have nx : ∀ (μ1 : Mem) (q3 q4 q5 : Option AV), Fr μ μ1 (S95 t) → μ1 795 = up μ 795 p ((p + 1 + tl (ar ν) b S : Nat) : Int) 795 → TH μ1 t (T.take p ++ srt (ar ν) (T.drop p)) → ∃ μ', e_X0_sortMates_23 t ((p : Int) - 1) q3 q4 q5 μ1 = some (none, μ') ∧ Fr μ μ' (S95 t) ∧ TH μ' t (srt (ar ν) T) := fun μ1 q3 q4 q5 g1 g2 g3 => by
      obtain ⟨μ', a1, a2, a3⟩ := s_sort23 ht hT hL h200 p μ1 q3 q4 q5 (by omega) (hW.kept (fun c _ _ => g1 c (by unfold S95 tS; omega))) g3 (hE1 μ1 g2)
      exact ⟨μ', a1, g1.trans a2, a3⟩
    have keep : ¬ (x = 12 ∧ cmp (ar ν) S = true) → TH (up μ 795 p ((p + 1 + tl (ar ν) b S : Nat) : Int)) t (T.take p ++ srt (ar ν) (T.drop p)) := fun h => by
      rw [hs]
      unfold sw
      rw [if_neg h, show T.take p ++ x :: S = U by rw [eU, take_s hp', ← ex, List.append_assoc]; rfl]
      exact hH1
    rw [m4, q_X0_sortMates_78, gk (lnC 795) 200 rfl (by omega) (by omega), show ((p : Int)).toNat = p by omega, s_at hH1, cI_t, aX, wr_eq (x := (p : Int) + (-1)) (by omega) (by omega), show (p : Int) + (-1) = (p : Int) - 1 by omega]
    by_cases q : x = 12
    · have hb2 : b = 2 := by rw [q, ar_12] at hb; omega
      subst hb2
      have em := m1 rfl
      obtain ⟨g1, g2, g3, g4, g5⟩ := geo2 hS0
      have hl := s_later (f := p + 1) (m := m) (s := p + 1 + tl (ar ν) 2 S) hH1 (by omega) (by omega) (o0 := some (vR 0 780)) (m - (p + 1)) 0 none none (by omega)
      have hl' : e_X0_comesLater_3 (some (vR 0 780)) t ((p + 1 : Nat) : Int) m ((p + 1 + tl (ar ν) 2 S : Nat) : Int) 0 none none (up μ 795 p ((p + 1 + tl (ar ν) 2 S : Nat) : Int)) = _ := hl
      have eA : (U.drop (p + 1 + 0)).take (m - (p + 1 + 0)) = S.take (tl (ar ν) 1 S) := by rw [dU 0, List.drop_zero, em]; congr 1; omega
      have eB : (U.drop (m + 0)).take (p + 1 + tl (ar ν) 2 S - (m + 0)) = (S.drop (tl (ar ν) 1 S)).take (tl (ar ν) 1 (S.drop (tl (ar ν) 1 S))) := by
        show (U.drop m).take (p + 1 + tl (ar ν) 2 S - m) = _
        rw [em, dU]; congr 1; omega
      rw [if_pos q, w20c (by omega), q_X0_comesLater, hl', cI_t, eA, eB]
      have ec : cl (S.take (tl (ar ν) 1 S)) ((S.drop (tl (ar ν) 1 S)).take (tl (ar ν) 1 (S.drop (tl (ar ν) 1 S)))) = cmp (ar ν) S := rfl
      rw [ec]
      by_cases z : cmp (ar ν) S = true
      · rw [if_pos z, if_neg (by decide)]
        obtain ⟨μ2, c1, c2, c3⟩ := s_change (f := p + 1) (m := m) (s := p + 1 + tl (ar ν) 2 S) hH1 LU m2 m3 (by omega) (by omega) (by omega)
        rw [c1, cV_t]
        refine nx μ2 _ _ _ (f1.trans (c2.mono (fun c hc => by unfold S95; unfold S93 at hc; rcases hc with w | w; exact Or.inl w; exact Or.inr (Or.inl w)))) (c2 795 (by unfold S93 tS; omega)) ?_
        rw [hs]
        unfold sw swp
        rw [if_pos ⟨q, z⟩]
        have eA' : (U.drop (p + 1)).take (m - (p + 1)) = S.take (tl (ar ν) 1 S) := eA
        have eB' : (U.drop m).take (p + 1 + tl (ar ν) 2 S - m) = (S.drop (tl (ar ν) 1 S)).take (tl (ar ν) 1 (S.drop (tl (ar ν) 1 S))) := eB
        rw [eA', eB', tU, dU, ← g4] at c3
        rw [show ∀ l : List Int, T.take p ++ x :: l = (T.take p ++ [x]) ++ l from fun l => by rw [List.append_assoc]; rfl, ← List.append_assoc (List.take _ (List.drop _ S))]
        exact c3
      · rw [if_neg z, if_pos rfl]
        exact nx _ _ _ _ f1 rfl (keep (fun h => z h.2))
    · rw [if_neg q]
      exact nx _ _ _ _ f1 rfl (keep (fun h => q h.1))
theorem bAnd2 {h : Int} (h0 : 0 ≤ h ∧ h ≤ 7) : bAnd h 2 = 0 ↔ ¬ (bAnd h 2 = 2) := by
  have : h = 0 ∨ h = 1 ∨ h = 2 ∨ h = 3 ∨ h = 4 ∨ h = 5 ∨ h = 6 ∨ h = 7 := by omega
  rcases this with q | q | q | q | q | q | q | q <;> subst q <;> decide
theorem s_sortMates {μ ν : Mem} {t : Nat} {T : List Int} {how : Int} (ht : 781 ≤ t ∧ t ≤ 791) (hW : RelW μ ν) (hh : μ 780 10 = how) (h7 : 0 ≤ how ∧ how ≤ 7) (hH : TH μ t T) (hT : isT (ar ν) 1 T) (hL : LT T) (h200 : T.length ≤ 200) : ∃ μ', f_X0_sortMates [vR 0 780, vR 8 t] μ = some (none, μ') ∧ Fr μ μ' (S95 t) ∧ TH μ' t (if bAnd how 2 = 2 then srt (ar ν) T else T) := by
  rw [q_X0_sortMates, hh]
  by_cases q : bAnd how 2 = 2
  · have q0 : ¬ bAnd how 2 = 0 := fun z => (bAnd2 h7).mp z q
    have em : mMin (T.length : Int) 200 = (T.length : Int) := by unfold mMin; by_cases z : (200 : Int) < (T.length : Int); omega; rw [if_neg z]
    rw [if_neg q0, hH.1, em, wr_eq (by omega) (by omega), if_pos q]
    refine s_sort23 ht hT hL h200 T.length μ none none none (Nat.le_refl _) hW ?_ (fun k hk => ?_)
    · rw [List.take_length, List.drop_length, show srt (ar ν) [] = [] from rfl, List.append_nil]; exact hH
    · rw [List.drop_length, show srt (ar ν) [] = [] from rfl, List.length_nil] at hk; omega
  · rw [if_pos ((bAnd2 h7).mpr q), if_neg q]
    exact ⟨μ, rfl, Fr.rf, hH⟩
