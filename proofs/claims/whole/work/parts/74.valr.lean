/-! the reference's values -/
theorem lnR_w : lnR 41 = 20 ∧ lnR 39 = 9 ∧ lnR 40 = 36 ∧ lnR 4 = 80 ∧ lnR 5 = 960 ∧ lnR 2 = 4 ∧ lnR 3 = 4 ∧ lnR 6 = 48 := by decide
def RW (ν0 ν : Mem) (n : Nat) (no : Int) (tb wt : Nat → Int) (l : List Int) : Prop := ν0 0 63 = (n : Int) ∧ ν0 0 64 = no ∧ (∀ k, k < n * n → ν0 39 k = tb k) ∧ ∀ w : Nat, (w : Int) < ν 0 0 → ν 1 w ∈ l → ∀ a b : Nat, a < n → b < n → (ν 2 w = 2 ∨ b = 0) → ν0 40 (9 * w + 3 * a + b) = wt (9 * w + 3 * a + b)
section VR
variable {μ ν ν0 : Mem} {no x y z : Int} {tb wt : Nat → Int} {n : Nat}
theorem s_valR (hW : RelW μ ν) (hM : FrM ν ν0) (hn : n < 4) {c0 o : Nat} {l : List Int} (hc0 : (c0 = 4 ∧ o + l.length ≤ 80) ∨ (c0 = 5 ∧ o + l.length ≤ 960)) (hT : ∀ i x, l[i]? = some x → ν0 c0 (o + i) = x) (hL : LT l) (h20 : l.length ≤ 20) (hw : isT (ar ν) 1 l) (hC : RW ν0 ν n no tb wt l) (htb : ∀ k, 0 ≤ tb k ∧ tb k < (n : Int)) (hno : 0 ≤ no ∧ no < (n : Int)) (hx : 0 ≤ x ∧ x < (n : Int)) (hy : 0 ≤ y ∧ y < (n : Int)) (hz : 0 ≤ z ∧ z < (n : Int)) (hwt : okWt ν n wt l) : ∀ (i : Nat) (ν1 : Mem) (o3 o4 o5 o6 o7 : Option AV), i ≤ l.length → (∀ c, c ≠ 41 → ν1 c = ν0 c) → STK ν1 41 (vS ν n no tb wt x y z (l.drop i)) → ∃ ν', e_X12_valueOf_10 c0 (o : Int) o3 x y z ((vS ν n no tb wt x y z (l.drop i)).length : Nat) ((o : Int) + (i : Int) - 1) o4 o5 o6 o7 ν1 = some (some (vI (vT ν n no tb wt x y z l)), ν') ∧ ∀ c, c ≠ 41 → ν' c = ν0 c
  | 0, ν1, o3, o4, o5, o6, o7, hi, hf, hs => by
    obtain ⟨L41, L39, L40, L4, L5, L2, L3, L6⟩ := lnR_w
    rw [List.drop_zero] at hs ⊢
    have ok := vS_ok hW htb hno hx hy hz l 1 hw hwt
    obtain ⟨a, s, e1, l1⟩ := len1 (m := 0) ok.1
    obtain rfl := len0 l1
    rw [e1] at hs
    have := hs.top
    rw [q_X12_valueOf_10, if_pos (by omega), gk (lnR 41) 20 L41 (by omega) (by omega)]
    refine ⟨ν1, ?_, hf⟩
    unfold vT
    rw [e1]
    have e2 : ν1 41 ((0 : Int)).toNat = a := this
    rw [e2]
    rfl
  | i + 1, ν1, o3, o4, o5, o6, o7, hi, hf, hs => by
    obtain ⟨L41, L39, L40, L4, L5, L2, L3, L6⟩ := lnR_w
    have hil : i < l.length := by omega
    obtain ⟨c, hc⟩ : ∃ c, l[i]? = some c := ⟨l[i], List.getElem?_eq_getElem hil⟩
    have hd : l.drop i = c :: l.drop (i + 1) := by
      rw [List.drop_eq_getElem_cons hil]
      rw [List.getElem?_eq_getElem hil] at hc
      rw [Option.some.inj hc]
    have hcm : c ∈ l := List.mem_of_getElem? hc
    obtain ⟨k, hk⟩ := isT_dropE hw i
    have hkl := isT_le _ _ hk
    rw [hd] at hk
    have okr : okWt ν n wt (l.drop (i + 1)) := fun w a b => hwt w a (List.mem_of_mem_drop b)
    cases k with
    | zero => cases hk
    | succ m =>
    obtain ⟨h1, h2⟩ := hk
    have ok := vS_ok hW htb hno hx hy hz _ _ h2 okr
    have hk2 := isT_le _ _ h2
    rw [List.length_drop] at hk2
    have hm20 : m < 20 := by rw [List.length_drop] at hkl; omega
    have IH := fun ν2 => s_valR hW hM hn hc0 hT hL h20 hw hC htb hno hx hy hz hwt i ν2
    rw [hd] at IH
    obtain ⟨C6, C7, C72, Cw⟩ := hC
    have m6 : ν1 0 63 = (n : Int) := by rw [hf 0 (by omega)]; exact C6
    have m7 : ν1 0 64 = no := by rw [hf 0 (by omega)]; exact C7
    have m72 : ∀ k, k < n * n → ν1 39 k = tb k := by rw [hf 39 (by omega)]; exact C72
    have hLc := hL c hcm
    have atc : ν1 c0 ((o : Int) + ((i + 1 : Nat) : Int) - 1).toNat = c := by
      rw [hf c0 (by omega), show ((o : Int) + ((i + 1 : Nat) : Int) - 1).toNat = o + i by omega]
      exact hT i c hc
    have gk0 : ∀ (X : Option Rs), gi ((o : Int) + ((i + 1 : Nat) : Int) - 1) (lnR c0) X = X := fun X => by
      rcases hc0 with ⟨rfl, q⟩ | ⟨rfl, q⟩
      · exact gk (lnR 4) 80 L4 (by omega) (by omega)
      · exact gk (lnR 5) 960 L5 (by omega) (by omega)
    have i1 : wr ((o : Int) + ((i + 1 : Nat) : Int) - 1 + -1) = (o : Int) + (i : Int) - 1 := by rw [wr_eq (by omega) (by omega)]; omega
    have up41 : ∀ (j : Nat) (v : Int) (c : Nat), c ≠ 41 → up ν1 41 j v c = ν0 c := fun j v c q => by rw [up_cell q]; exact hf c q
    have wbE : wb ν1 = wb ν := by
      funext q
      have e : wb ν1 = wb ν0 := by
        funext q
        unfold wb
        rw [hf 1 (by omega), hf 0 (by omega)]
      rw [e, frM_wb hM]
    have v23 : ν1 0 23 = ν 0 23 := by rw [hf 0 (by omega)]; exact hM.2.2.2
    have v2e : ν1 2 = ν 2 := by rw [hf 2 (by omega), frM_c hM (by omega)]
    have w23 := hW.2.2.1
    have w4 := hW.2.1
    have w0 := hW.1
    rcases sgn hW h1 with ⟨rfl, q⟩ | ⟨q0, q1, q⟩ | ⟨q0, q1, w, q2, q3, q4, q5⟩
    · rw [q, show (2 : Int).toNat = 2 from rfl] at hk2
      rw [q] at ok
      obtain ⟨a, s1, f1, l1⟩ := len1 (m := m + 1) ok.1
      obtain ⟨b, s, rfl, l2⟩ := len1 l1
      have eS := vS_12 (l.drop (i + 1)) f1
      rw [f1] at hs ok
      have ha := ok.2 a (List.mem_cons_self ..)
      have hb := ok.2 b (List.mem_cons_of_mem _ (List.mem_cons_self ..))
      have t1 : ν1 41 (m + 1) = a := by have := hs.top; rw [List.length_cons, l2] at this; exact this
      have t2 : ν1 41 m = b := by have := hs.tail.top; rw [l2] at this; exact this
      have len : (a :: b :: s).length = m + 2 := by rw [List.length_cons, List.length_cons, l2]
      obtain ⟨a, rfl⟩ : ∃ a' : Nat, a = (a' : Int) := ⟨a.toNat, by omega⟩
      obtain ⟨b, rfl⟩ : ∃ b' : Nat, b = (b' : Int) := ⟨b.toNat, by omega⟩
      have hl := at_lt n a b hn (by omega) (by omega)
      have h9 : n * n ≤ 9 := by
        have := Nat.mul_le_mul (show n ≤ 3 by omega) (show n ≤ 3 by omega)
        omega
      have e1 : (n : Int) * (a : Int) = ((a * n : Nat) : Int) := by rw [Int.natCast_mul, Int.mul_comm]
      rw [f1, len, q_X12_valueOf_10, if_neg (by omega), gk0, atc, if_pos rfl, wr_eq (x := ((m + 2 : Nat) : Int) - 1) (by omega) (by omega), wr_eq (x := ((m + 2 : Nat) : Int) - 2) (by omega) (by omega), gk (lnR 41) 20 L41 (by omega) (by omega), gk (lnR 41) 20 L41 (by omega) (by omega), show (((m + 2 : Nat) : Int) - 1).toNat = m + 1 by omega, show (((m + 2 : Nat) : Int) - 2).toNat = m by omega, t1, t2, m6, e1, wr_eq (x := ((a * n : Nat) : Int)) (by omega) (by omega), wr_eq (x := ((a * n : Nat) : Int) + (b : Int)) (by omega) (by omega), gk (lnR 39) 9 L39 (by omega) (by omega), gk (lnR 41) 20 L41 (by omega) (by omega), show (((a * n : Nat) : Int) + (b : Int)).toNat = a * n + b by omega, m72 _ hl, i1, wr_eq (x := ((m + 2 : Nat) : Int) + -1) (by omega) (by omega), show ((m + 2 : Nat) : Int) + -1 = ((m + 1 : Nat) : Int) by omega]
      rw [show ((n : Int) * (a : Int) + (b : Int)).toNat = a * n + b by rw [e1]; omega] at eS
      have hp := hs.tail.tail.push (x := tb (a * n + b))
      rw [l2] at hp
      have := IH (up ν1 41 m (tb (a * n + b))) o3 (some (vI 12)) o5 o6 o7 (by omega) (up41 _ _) (by rw [eS]; exact hp)
      rw [eS, List.length_cons, l2] at this
      exact this
    · rw [q] at ok
      have eS := vS_0 (ν := ν) (th := (n : Int)) (no := no) (tb := tb) (wt := wt) (x := x) (y := y) (z := z) (c := c) (l.drop (i + 1)) q0
      have l2 : (vS ν n no tb wt x y z (l.drop (i + 1))).length = m := ok.1
      have hp := hs.push (x := if c = 14 then no else if c = 23 then x else if c = 24 then y else z)
      rw [l2] at hp
      have this := IH (up ν1 41 m (if c = 14 then no else if c = 23 then x else if c = 24 then y else z)) o3 (some (vI c)) o5 o6 o7 (by omega) (up41 _ _) (by rw [eS]; exact hp)
      rw [eS, List.length_cons, l2] at this
      rw [l2, q_X12_valueOf_10, if_neg (by omega), gk0, atc, if_neg q1, m7, i1, wr_eq (x := (m : Int) + 1) (by omega) (by omega), gk (lnR 41) 20 L41 (by omega) (by omega), gk (lnR 41) 20 L41 (by omega) (by omega), gk (lnR 41) 20 L41 (by omega) (by omega), gk (lnR 41) 20 L41 (by omega) (by omega), show ((m : Int)).toNat = m by omega, show (m : Int) + 1 = ((m + 1 : Nat) : Int) by omega]
      by_cases c14 : c = 14
      · rw [if_pos c14, if_pos c14]
        rw [if_pos c14] at this
        exact this
      · rw [if_neg c14] at this
        rw [if_neg c14, if_neg (show ¬ c < 23 by omega), if_neg c14]
        by_cases c23 : c = 23
        · rw [if_pos c23] at this
          rw [if_pos c23]
          exact this
        · rw [if_neg c23] at this
          rw [if_neg c23]
          by_cases c24 : c = 24
          · rw [if_pos c24] at this
            rw [if_pos c24]
            exact this
          · rw [if_neg c24] at this
            rw [if_neg c24]
            exact this
    · have h23 : c < 23 := by omega
      have W1 : f_X12_wordBy [vR 12 0, vI c] ν1 = some (some (vI (w : Int)), ν1) := by
        rw [s_wordBy (by omega), wbE, q2]
      rcases q5 with ⟨q5, q⟩ | ⟨q5, q⟩
      · rw [q, show (2 : Int).toNat = 2 from rfl] at hk2
        rw [q] at ok
        obtain ⟨a, s1, f1, l1⟩ := len1 (m := m + 1) ok.1
        obtain ⟨b, s, rfl, l2⟩ := len1 l1
        have eS := vS_2 (l.drop (i + 1)) q0 q1 (by rw [q2]; exact q5) f1
        rw [f1] at hs ok
        have ha := ok.2 a (List.mem_cons_self ..)
        have hb := ok.2 b (List.mem_cons_of_mem _ (List.mem_cons_self ..))
        have t1 : ν1 41 (m + 1) = a := by have := hs.top; rw [List.length_cons, l2] at this; exact this
        have t2 : ν1 41 m = b := by have := hs.tail.top; rw [l2] at this; exact this
        have len : (a :: b :: s).length = m + 2 := by rw [List.length_cons, List.length_cons, l2]
        obtain ⟨a, rfl⟩ : ∃ a' : Nat, a = (a' : Int) := ⟨a.toNat, by omega⟩
        obtain ⟨b, rfl⟩ : ∃ b' : Nat, b = (b' : Int) := ⟨b.toNat, by omega⟩
        have hv := Cw w q3 (by rw [← q4]; exact hcm) a b (by omega) (by omega) (Or.inl q5)
        rw [q2, show (9 * (w : Int) + 3 * (a : Int) + (b : Int)).toNat = 9 * w + 3 * a + b by omega] at eS
        rw [f1, len, q_X12_valueOf_10, if_neg (by omega), gk0, atc, if_neg q0, if_neg (show ¬ c = 14 by omega), if_pos h23, W1, cI_t, wr_eq (x := ((m + 2 : Nat) : Int) - 1) (by omega) (by omega), wr_eq (x := ((m + 2 : Nat) : Int) - 2) (by omega) (by omega), gk (lnR 41) 20 L41 (by omega) (by omega), gk (lnR 2) 4 L2 (by omega) (by omega), show ((w : Int)).toNat = w by omega, v2e, if_pos q5, gk (lnR 41) 20 L41 (by omega) (by omega), show (((m + 2 : Nat) : Int) - 1).toNat = m + 1 by omega, show (((m + 2 : Nat) : Int) - 2).toNat = m by omega, t1, t2, q_X12_valueOf_183, gk (lnR 2) 4 L2 (by omega) (by omega), show ((w : Int)).toNat = w by omega, v2e, q5, wr_eq (x := 9 * (w : Int)) (by omega) (by omega), wr_eq (x := 3 * (a : Int)) (by omega) (by omega), wr_eq (x := 9 * (w : Int) + 3 * (a : Int)) (by omega) (by omega), wr_eq (x := 9 * (w : Int) + 3 * (a : Int) + (b : Int)) (by omega) (by omega), gk (lnR 40) 36 L40 (by omega) (by omega), show wr (2 - 1) = 1 by decide, wr_eq (x := ((m + 2 : Nat) : Int) - 1) (by omega) (by omega), wr_eq (x := ((m + 2 : Nat) : Int) - 1 - 1) (by omega) (by omega), gk (lnR 41) 20 L41 (by omega) (by omega), i1, show (((m + 2 : Nat) : Int) - 1 - 1).toNat = m by omega, show (9 * (w : Int) + 3 * (a : Int) + (b : Int)).toNat = 9 * w + 3 * a + b by omega, hf 40 (by omega), hv, show ((m + 2 : Nat) : Int) - 1 = ((m + 1 : Nat) : Int) by omega]
        have hp := hs.tail.tail.push (x := wt (9 * w + 3 * a + b))
        rw [l2] at hp
        have := IH (up ν1 41 m (wt (9 * w + 3 * a + b))) o3 (some (vI c)) (some (vI w)) (some (vI a)) (some (vI b)) (by omega) (up41 _ _) (by rw [eS]; exact hp)
        rw [eS, List.length_cons, l2] at this
        exact this
      · rw [q] at ok
        rw [q, show (1 : Int).toNat = 1 from rfl] at hk2
        obtain ⟨a, s, f1, l2⟩ := len1 (m := m) ok.1
        have n2 : ¬ ν 2 (wb ν c).toNat = 2 := by rw [q2, show ((w : Int)).toNat = w by omega, q5]; decide
        have eS := vS_1 (l.drop (i + 1)) q0 q1 n2 f1
        rw [f1] at hs ok
        have ha := ok.2 a (List.mem_cons_self ..)
        have t1 : ν1 41 m = a := by have := hs.top; rw [l2] at this; exact this
        have len : (a :: s).length = m + 1 := by rw [List.length_cons, l2]
        obtain ⟨a, rfl⟩ : ∃ a' : Nat, a = (a' : Int) := ⟨a.toNat, by omega⟩
        have hv := Cw w q3 (by rw [← q4]; exact hcm) a 0 (by omega) (by omega) (Or.inr rfl)
        rw [Nat.add_zero] at hv
        rw [q2, show (9 * (w : Int) + 3 * (a : Int)).toNat = 9 * w + 3 * a by omega] at eS
        rw [f1, len, q_X12_valueOf_10, if_neg (by omega), gk0, atc, if_neg q0, if_neg (show ¬ c = 14 by omega), if_pos h23, W1, cI_t, wr_eq (x := ((m + 1 : Nat) : Int) - 1) (by omega) (by omega), gk (lnR 41) 20 L41 (by omega) (by omega), gk (lnR 2) 4 L2 (by omega) (by omega), show ((w : Int)).toNat = w by omega, v2e, if_neg (show ¬ ν 2 w = 2 by omega), show (((m + 1 : Nat) : Int) - 1).toNat = m by omega, t1, q_X12_valueOf_183, gk (lnR 2) 4 L2 (by omega) (by omega), show ((w : Int)).toNat = w by omega, v2e, q5, wr_eq (x := 9 * (w : Int)) (by omega) (by omega), wr_eq (x := 3 * (a : Int)) (by omega) (by omega), wr_eq (x := 9 * (w : Int) + 3 * (a : Int)) (by omega) (by omega), wr_eq (x := 9 * (w : Int) + 3 * (a : Int) + 0) (by omega) (by omega), gk (lnR 40) 36 L40 (by omega) (by omega), show wr (1 - 1) = 0 by decide, wr_eq (x := ((m + 1 : Nat) : Int) - 0) (by omega) (by omega), wr_eq (x := ((m + 1 : Nat) : Int) - 0 - 1) (by omega) (by omega), gk (lnR 41) 20 L41 (by omega) (by omega), i1, show (((m + 1 : Nat) : Int) - 0 - 1).toNat = m by omega, show (9 * (w : Int) + 3 * (a : Int) + 0).toNat = 9 * w + 3 * a by omega, hf 40 (by omega), hv, show ((m + 1 : Nat) : Int) - 0 = ((m + 1 : Nat) : Int) by omega]
        have hp := hs.tail.push (x := wt (9 * w + 3 * a))
        rw [l2] at hp
        have := IH (up ν1 41 m (wt (9 * w + 3 * a))) o3 (some (vI c)) (some (vI w)) (some (vI a)) (some (vI 0)) (by omega) (up41 _ _) (by rw [eS]; exact hp)
        rw [eS, List.length_cons, l2] at this
        exact this
theorem s_valueOfR (hW : RelW μ ν) (hM : FrM ν ν0) (hn : n < 4) {c0 o : Nat} {l : List Int} (hc0 : (c0 = 4 ∧ o + l.length ≤ 80) ∨ (c0 = 5 ∧ o + l.length ≤ 960)) (hT : ∀ i x, l[i]? = some x → ν0 c0 (o + i) = x) (hL : LT l) (h20 : l.length ≤ 20) (hw : isT (ar ν) 1 l) (hC : RW ν0 ν n no tb wt l) (htb : ∀ k, 0 ≤ tb k ∧ tb k < (n : Int)) (hno : 0 ≤ no ∧ no < (n : Int)) (hx : 0 ≤ x ∧ x < (n : Int)) (hy : 0 ≤ y ∧ y < (n : Int)) (hz : 0 ≤ z ∧ z < (n : Int)) (hwt : okWt ν n wt l) : ∃ ν', f_X12_valueOf [vR 12 0, vR 20 c0, vI (o : Int), vI (l.length : Int), vI x, vI y, vI z] ν0 = some (some (vI (vT ν n no tb wt x y z l)), ν') ∧ ∀ c, c ≠ 41 → ν' c = ν0 c := by
  have h := s_valR hW hM hn hc0 hT hL h20 hw hC htb hno hx hy hz hwt l.length ν0 (some (vI (l.length : Int))) none none none none (Nat.le_refl _) (fun _ _ => rfl) (by rw [List.drop_length]; exact STK.nil)
  rw [List.drop_length] at h
  have ho : o ≤ 960 := by omega
  rw [q_X12_valueOf, wr_eq (x := (o : Int) + (l.length : Int)) (by omega) (by omega), wr_eq (x := (o : Int) + (l.length : Int) - 1) (by omega) (by omega)]
  exact h
end VR
