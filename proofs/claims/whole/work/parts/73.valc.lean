/-! the class's values -/
theorem isT_le {a : Int → Int} : ∀ (l : List Int) (n : Nat), isT a n l → n ≤ l.length
  | [], 0, _ => Nat.le_refl _
  | [], _ + 1, h => by cases h
  | _ :: _, 0, h => by cases h
  | c :: r, n + 1, h => by
    have := isT_le r _ h.2
    rw [List.length_cons]
    omega
theorem isT_dropE {a : Int → Int} {l : List Int} {n : Nat} (h : isT a n l) (i : Nat) : ∃ k, isT a k (l.drop i) := by
  by_cases hi : i < l.length
  · obtain ⟨k, hk⟩ := isT_drop l n i h hi
    exact ⟨k + 1, hk⟩
  · rw [List.drop_eq_nil_of_le (by omega)]
    exact ⟨0, trivial⟩
def CW (μ ν : Mem) (n : Nat) (no : Int) (tb wt : Nat → Int) (l : List Int) : Prop := μ 771 6 = (n : Int) ∧ μ 771 7 = no ∧ (∀ k, k < n * n → μ 772 k = tb k) ∧ ∀ w : Nat, (w : Int) < ν 0 0 → ν 1 w ∈ l → ∀ a b : Nat, a < n → b < n → (ν 2 w = 2 ∨ b = 0) → μ (774 + w) (a * n + b) = wt (9 * w + 3 * a + b)
def CN (μ : Mem) (x y z : Int) (l : List Int) : Prop := (23 ∈ l → μ 778 0 = x) ∧ (24 ∈ l → μ 778 1 = y) ∧ ((∃ c ∈ l, 25 ≤ c) → μ 778 2 = z)
theorem at_lt : ∀ n a b : Nat, n < 4 → a < n → b < n → a * n + b < n * n := by
  intro n a b hn ha hb
  rcases (show n = 1 ∨ n = 2 ∨ n = 3 by omega) with rfl | rfl | rfl <;> omega
section VC
variable {μ0 ν : Mem} {no x y z : Int} {tb wt : Nat → Int} {n : Nat}
theorem s_valN {μ : Mem} {c : Int} {l : List Int} (hc : 23 ≤ c ∧ c ≤ 25) (hm : c ∈ l) (hN : CN μ x y z l) (u v : Int) : f_X10_valueAt [vR 10 771, vI c, vI u, vI v] μ = some (some (vI (if c = 14 then no else if c = 23 then x else if c = 24 then y else z)), μ) := by
  rw [q_X10_valueAt, wr_eq (x := c - 23) (by omega) (by omega), if_neg (show ¬ c - 23 < 0 by omega), if_pos (show c - 23 < 3 by omega), gk (lnC 778) 3 rfl (by omega) (by omega), if_neg (show ¬ c = 14 by omega)]
  obtain ⟨h1, h2, h3⟩ := hN
  by_cases e1 : c = 23
  · subst e1
    rw [if_pos rfl]
    have := h1 hm
    rw [show ((23 : Int) - 23).toNat = 0 by decide, this]
  · rw [if_neg e1]
    by_cases e2 : c = 24
    · subst e2
      rw [if_pos rfl, show ((24 : Int) - 23).toNat = 1 by decide, h2 hm]
    · rw [if_neg e2]
      obtain rfl : c = 25 := by omega
      rw [show ((25 : Int) - 23).toNat = 2 by decide, h3 ⟨25, hm, by omega⟩]
theorem s_valO {μ : Mem} (hW : RelW μ ν) (h6 : μ 771 6 = (n : Int)) (h7 : μ 771 7 = no) : f_X10_valueAt [vR 10 771, vI 14, vI 0, vI 0] μ = some (some (vI no), μ) := by
  have hb : wb ν 14 = -4 := by
    cases Decidable.em (wb ν 14 = -4) with
    | inl h => exact h
    | inr h => have := wb_let hW h; omega
  rw [q_X10_valueAt, show wr (14 - 23) = -9 by decide, if_pos (by decide), q_X10_valueAt_25, show (0 : Int) * μ 771 6 = 0 by omega, show wr (wr 0 + 0) = 0 by decide, if_neg (by decide), if_pos (by decide), if_neg (by decide), s_numberOf hW, cI_t, hb, if_pos (by decide), h7]
theorem s_valM {μ : Mem} (hn : n < 4) (h6 : μ 771 6 = (n : Int)) (h772 : ∀ k, k < n * n → μ 772 k = tb k) {a b : Int} (ha : 0 ≤ a ∧ a < (n : Int)) (hb : 0 ≤ b ∧ b < (n : Int)) : f_X10_valueAt [vR 10 771, vI 12, vI a, vI b] μ = some (some (vI (tb ((n : Int) * a + b).toNat)), μ) := by
  obtain ⟨a, rfl⟩ : ∃ a' : Nat, a = (a' : Int) := ⟨a.toNat, by omega⟩
  obtain ⟨b, rfl⟩ : ∃ b' : Nat, b = (b' : Int) := ⟨b.toNat, by omega⟩
  have hl := at_lt n a b hn (by omega) (by omega)
  have h9 : n * n ≤ 9 := by
    have := Nat.mul_le_mul (show n ≤ 3 by omega) (show n ≤ 3 by omega)
    omega
  have e1 : (a : Int) * μ 771 6 = ((a * n : Nat) : Int) := by rw [h6, Int.natCast_mul]
  have e2 : ((n : Int) * (a : Int) + (b : Int)).toNat = a * n + b := by rw [← Int.natCast_mul, Nat.mul_comm n a]; omega
  rw [q_X10_valueAt, show wr (12 - 23) = -11 by decide, if_pos (by decide), q_X10_valueAt_25, e1, wr_eq (x := ((a * n : Nat) : Int)) (by omega) (by omega), wr_eq (x := ((a * n : Nat) : Int) + (b : Int)) (by omega) (by omega), if_neg (by omega), if_pos (by omega), if_pos rfl, gk (lnC 772) 9 rfl (by omega) (by omega), show (((a * n : Nat) : Int) + (b : Int)).toNat = a * n + b by omega, h772 _ hl, e2]
theorem s_valW {μ : Mem} (hW : RelW μ ν) (hn : n < 4) (h6 : μ 771 6 = (n : Int)) {c : Int} {w : Nat} (h12 : c ≠ 12) (h23 : c < 23) (hb : wb ν c = (w : Int)) (hw : (w : Int) < ν 0 0) {a b : Int} (ha : 0 ≤ a ∧ a < (n : Int)) (hb2 : 0 ≤ b ∧ b < (n : Int)) (hc : μ (774 + w) (a.toNat * n + b.toNat) = wt (9 * w + 3 * a.toNat + b.toNat)) : f_X10_valueAt [vR 10 771, vI c, vI a, vI b] μ = some (some (vI (wt (9 * (wb ν c) + 3 * a + b).toNat)), μ) := by
  obtain ⟨a, rfl⟩ : ∃ a' : Nat, a = (a' : Int) := ⟨a.toNat, by omega⟩
  obtain ⟨b, rfl⟩ : ∃ b' : Nat, b = (b' : Int) := ⟨b.toNat, by omega⟩
  have hl := at_lt n a b hn (by omega) (by omega)
  have h9 : n * n ≤ 9 := by
    have := Nat.mul_le_mul (show n ≤ 3 by omega) (show n ≤ 3 by omega)
    omega
  have w4 := hW.2.1
  have hc03 := wb_let hW (x := c) (by omega)
  have hln : lnC (773 + 1 + w) = 9 := by
    rcases (show w = 0 ∨ w = 1 ∨ w = 2 ∨ w = 3 by omega) with rfl | rfl | rfl | rfl <;> rfl
  have e1 : (a : Int) * μ 771 6 = ((a * n : Nat) : Int) := by rw [h6, Int.natCast_mul]
  rw [show ((a : Int)).toNat = a by omega, show ((b : Int)).toNat = b by omega] at hc
  rw [q_X10_valueAt, wr_eq (x := c - 23) (by omega) (by omega), if_pos (show c - 23 < 0 by omega), q_X10_valueAt_25, e1, wr_eq (x := ((a * n : Nat) : Int)) (by omega) (by omega), wr_eq (x := ((a * n : Nat) : Int) + (b : Int)) (by omega) (by omega), if_neg (show ¬ ((a * n : Nat) : Int) + (b : Int) < 0 by omega), if_pos (show ((a * n : Nat) : Int) + (b : Int) < 9 by omega), if_neg h12, s_numberOf hW, cI_t, hb, if_neg (by omega), if_pos (by omega), gk (lnC 773) 4 rfl (by omega) (by omega), show ((w : Int)).toNat = w by omega, gk _ 9 hln (by omega) (by omega), show (((a * n : Nat) : Int) + (b : Int)).toNat = a * n + b by omega, show (9 * (w : Int) + 3 * (a : Int) + (b : Int)).toNat = 9 * w + 3 * a + b by omega, show 773 + 1 + w = 774 + w by omega, hc]
theorem s_valC (hW : RelW μ0 ν) (hn : n < 4) {t : Nat} {l : List Int} (hT : TH μ0 t l) (ht : t ≠ 779 ∧ t + 1 ≠ 779) (hL : LT l) (h20 : l.length ≤ 20) (hw : isT (ar ν) 1 l) (hC : CW μ0 ν n no tb wt l) (hN : CN μ0 x y z l) (htb : ∀ k, 0 ≤ tb k ∧ tb k < (n : Int)) (hno : 0 ≤ no ∧ no < (n : Int)) (hx : 0 ≤ x ∧ x < (n : Int)) (hy : 0 ≤ y ∧ y < (n : Int)) (hz : 0 ≤ z ∧ z < (n : Int)) (hwt : okWt ν n wt l) : ∀ (i : Nat) (μ : Mem) (o4 o5 o6 o7 : Option AV), i ≤ l.length → (∀ c, c ≠ 779 → μ c = μ0 c) → STK μ 779 (vS ν n no tb wt x y z (l.drop i)) → ∃ μ', e_X10_valueOf_9 t ((vS ν n no tb wt x y z (l.drop i)).length : Nat) ((i : Int) - 1) o4 o5 o6 o7 μ = some (some (vI (vT ν n no tb wt x y z l)), μ') ∧ ∀ c, c ≠ 779 → μ' c = μ0 c
  | 0, μ, o4, o5, o6, o7, hi, hf, hs => by
    rw [List.drop_zero] at hs ⊢
    have ok := vS_ok hW htb hno hx hy hz l 1 hw hwt
    obtain ⟨a, s, e1, l1⟩ := len1 (m := 0) ok.1
    obtain rfl := len0 l1
    rw [e1] at hs
    have := hs.top
    rw [q_X10_valueOf_9, if_pos (by omega), gk (lnC 779) 20 rfl (by omega) (by omega)]
    refine ⟨μ, ?_, hf⟩
    unfold vT
    rw [e1]
    have e2 : μ 779 ((0 : Int)).toNat = a := this
    rw [e2]
    rfl
  | i + 1, μ, o4, o5, o6, o7, hi, hf, hs => by
    have hil : i < l.length := by omega
    obtain ⟨c, hc⟩ : ∃ c, l[i]? = some c := ⟨l[i], List.getElem?_eq_getElem hil⟩
    have hd : l.drop i = c :: l.drop (i + 1) := by
      rw [List.drop_eq_getElem_cons hil]
      rw [List.getElem?_eq_getElem hil] at hc
      rw [Option.some.inj hc]
    have hcm : c ∈ l := List.mem_of_getElem? hc
    have hWm : RelW μ ν := hW.kept (fun c _ _ => hf c (by omega))
    have hTm : TH μ t l := hT.kept (S := fun c => c = 779) (fun c q => hf c q) ht.1 ht.2
    obtain ⟨k, hk⟩ := isT_dropE hw i
    have hkl := isT_le _ _ hk
    rw [hd] at hk
    have okr : okWt ν n wt (l.drop (i + 1)) := fun w a b => hwt w a (List.mem_of_mem_drop b)
    cases k with
    | zero => cases hk
    | succ m =>
    obtain ⟨h1, h2⟩ := hk
    have ok := vS_ok hW htb hno hx hy hz _ _ h2 okr
    have hk2 := isT_le _ _ h2
    rw [List.length_drop] at hk2
    have hm20 : m < 20 := by rw [List.length_drop] at hkl; omega
    have IH := fun μ1 => s_valC hW hn hT ht hL h20 hw hC hN htb hno hx hy hz hwt i μ1
    rw [hd] at IH
    obtain ⟨C6, C7, C72, Cw⟩ := hC
    have m6 : μ 771 6 = (n : Int) := by rw [hf 771 (by omega)]; exact C6
    have m7 : μ 771 7 = no := by rw [hf 771 (by omega)]; exact C7
    have m72 : ∀ k, k < n * n → μ 772 k = tb k := by rw [hf 772 (by omega)]; exact C72
    have hNm : CN μ x y z l := by unfold CN at *; rw [hf 778 (by omega)]; exact hN
    have hLc := hL c hcm
    have atc : atL l ((i + 1 : Nat) - 1 : Int) = c := atL_in (by omega) (by rw [show (((i + 1 : Nat) : Int) - 1).toNat = i by omega]; exact hc)
    have i1 : ((i + 1 : Nat) : Int) - 1 + -1 = (i : Int) - 1 := by omega
    have up779 : ∀ (j : Nat) (v : Int) (c : Nat), c ≠ 779 → up μ 779 j v c = μ0 c := fun j v c q => by rw [up_cell q]; exact hf c q
    rcases sgn hW h1 with ⟨rfl, q⟩ | ⟨q0, q1, q⟩ | ⟨q0, q1, w, q2, q3, q4, q5⟩
    · rw [q, show (2 : Int).toNat = 2 from rfl] at hk2
      rw [q] at ok
      obtain ⟨a, s1, f1, l1⟩ := len1 (m := m + 1) ok.1
      obtain ⟨b, s, rfl, l2⟩ := len1 l1
      have eS := vS_12 (l.drop (i + 1)) f1
      rw [f1] at hs ok
      have ha := ok.2 a (List.mem_cons_self ..)
      have hb := ok.2 b (List.mem_cons_of_mem _ (List.mem_cons_self ..))
      have t1 : μ 779 (m + 1) = a := by have := hs.top; rw [List.length_cons, l2] at this; exact this
      have t2 : μ 779 m = b := by have := hs.tail.top; rw [l2] at this; exact this
      have len : (a :: b :: s).length = m + 2 := by rw [List.length_cons, List.length_cons, l2]
      have an : arN ν 12 = 2 := by unfold arN; rw [q]; rfl
      rw [f1, len, q_X10_valueOf_9, if_neg (by omega), s_at hTm, cI_t, atc, s_behind hWm, cI_t, an, if_neg (by omega), if_neg (by omega), wr_eq (x := ((m + 2 : Nat) : Int) - 1) (by omega) (by omega), gk (lnC 779) 20 rfl (by omega) (by omega), show (((m + 2 : Nat) : Int) - 1).toNat = m + 1 by omega, t1, q_X10_valueOf_54, if_neg (by omega), if_pos rfl, wr_eq (x := ((m + 2 : Nat) : Int) - 2) (by omega) (by omega), gk (lnC 779) 20 rfl (by omega) (by omega), show (((m + 2 : Nat) : Int) - 2).toNat = m by omega, t2, q_X10_valueOf_79, wr_eq (x := ((m + 2 : Nat) : Int) - 2) (by omega) (by omega), show mMax (((m + 2 : Nat) : Int) - 2) 0 = (m : Int) by unfold mMax; split <;> omega, if_pos (by omega), s_valM hn m6 m72 ha hb, cI_t, gk (lnC 779) 20 rfl (by omega) (by omega), show ((m : Int)).toNat = m by omega, wr_eq (x := (m : Int) + 1) (by omega) (by omega), wr_eq (x := ((i + 1 : Nat) : Int) - 1 + -1) (by omega) (by omega), i1]
      have hp := hs.tail.tail.push (x := tb ((n : Int) * a + b).toNat)
      rw [l2] at hp
      have := IH (up μ 779 m (tb ((n : Int) * a + b).toNat)) (some (vI 12)) (some (vI 2)) (some (vI a)) (some (vI b)) (by omega) (up779 _ _) (by rw [eS]; exact hp)
      rw [eS, List.length_cons, l2] at this
      exact this
    · rw [q] at ok
      have eS := vS_0 (ν := ν) (th := (n : Int)) (no := no) (tb := tb) (wt := wt) (x := x) (y := y) (z := z) (c := c) (l.drop (i + 1)) q0
      have l2 : (vS ν n no tb wt x y z (l.drop (i + 1))).length = m := ok.1
      have an : arN ν c = 0 := by unfold arN; rw [q]; rfl
      have hval : f_X10_valueAt [vR 10 771, vI c, vI 0, vI 0] μ = some (some (vI (if c = 14 then no else if c = 23 then x else if c = 24 then y else z)), μ) := by
        rcases q0 with q0 | q0
        · subst q0
          rw [if_pos rfl]
          exact s_valO hWm m6 m7
        · exact s_valN ⟨q0, hLc.2⟩ hcm hNm 0 0
      rw [l2, q_X10_valueOf_9, if_neg (by omega), s_at hTm, cI_t, atc, s_behind hWm, cI_t, an, q_X10_valueOf_53, if_pos (show (0 : Int) < 1 by decide)]
      have e54 : e_X10_valueOf_54 t (m : Int) (((i + 1 : Nat) : Int) - 1) c 0 o6 o7 0 μ = e_X10_valueOf_79 t (m : Int) (((i + 1 : Nat) : Int) - 1) c 0 0 o7 0 μ := by
        rw [q_X10_valueOf_54, if_neg (show ¬ (0 : Int) = 2 by decide), q_X10_valueOf_78]
        exact ite_self _
      rw [e54, ite_self, q_X10_valueOf_79, show (m : Int) - 0 = (m : Int) by omega, wr_eq (x := (m : Int)) (by omega) (by omega), show mMax (m : Int) 0 = (m : Int) by unfold mMax; split <;> omega, if_pos (by omega), hval, cI_t, gk (lnC 779) 20 rfl (by omega) (by omega), show ((m : Int)).toNat = m by omega, wr_eq (x := (m : Int) + 1) (by omega) (by omega), wr_eq (x := ((i + 1 : Nat) : Int) - 1 + -1) (by omega) (by omega), i1]
      have hp := hs.push (x := if c = 14 then no else if c = 23 then x else if c = 24 then y else z)
      rw [l2] at hp
      have := IH (up μ 779 m (if c = 14 then no else if c = 23 then x else if c = 24 then y else z)) (some (vI c)) (some (vI 0)) (some (vI 0)) (some (vI 0)) (by omega) (up779 _ _) (by rw [eS]; exact hp)
      rw [eS, List.length_cons, l2] at this
      exact this
    · have h23 : c < 23 := by omega
      rcases q5 with ⟨q5, q⟩ | ⟨q5, q⟩
      · rw [q, show (2 : Int).toNat = 2 from rfl] at hk2
        rw [q] at ok
        obtain ⟨a, s1, f1, l1⟩ := len1 (m := m + 1) ok.1
        obtain ⟨b, s, rfl, l2⟩ := len1 l1
        have eS := vS_2 (l.drop (i + 1)) q0 q1 (by rw [q2]; exact q5) f1
        rw [f1] at hs ok
        have ha := ok.2 a (List.mem_cons_self ..)
        have hb := ok.2 b (List.mem_cons_of_mem _ (List.mem_cons_self ..))
        have t1 : μ 779 (m + 1) = a := by have := hs.top; rw [List.length_cons, l2] at this; exact this
        have t2 : μ 779 m = b := by have := hs.tail.top; rw [l2] at this; exact this
        have len : (a :: b :: s).length = m + 2 := by rw [List.length_cons, List.length_cons, l2]
        have an : arN ν c = 2 := by unfold arN; rw [q]; rfl
        have hval := s_valW (wt := wt) hWm hn m6 q0 h23 q2 q3 ha hb (by
          have := Cw w q3 (by rw [← q4]; exact hcm) a.toNat b.toNat (by omega) (by omega) (Or.inl q5)
          rw [hf (774 + w) (by have := hW.2.1; omega)]
          exact this)
        rw [f1, len, q_X10_valueOf_9, if_neg (by omega), s_at hTm, cI_t, atc, s_behind hWm, cI_t, an, if_neg (by omega), if_neg (by omega), wr_eq (x := ((m + 2 : Nat) : Int) - 1) (by omega) (by omega), gk (lnC 779) 20 rfl (by omega) (by omega), show (((m + 2 : Nat) : Int) - 1).toNat = m + 1 by omega, t1, q_X10_valueOf_54, if_neg (by omega), if_pos rfl, wr_eq (x := ((m + 2 : Nat) : Int) - 2) (by omega) (by omega), gk (lnC 779) 20 rfl (by omega) (by omega), show (((m + 2 : Nat) : Int) - 2).toNat = m by omega, t2, q_X10_valueOf_79, wr_eq (x := ((m + 2 : Nat) : Int) - 2) (by omega) (by omega), show mMax (((m + 2 : Nat) : Int) - 2) 0 = (m : Int) by unfold mMax; split <;> omega, if_pos (by omega), hval, cI_t, gk (lnC 779) 20 rfl (by omega) (by omega), show ((m : Int)).toNat = m by omega, wr_eq (x := (m : Int) + 1) (by omega) (by omega), wr_eq (x := ((i + 1 : Nat) : Int) - 1 + -1) (by omega) (by omega), i1]
        have hp := hs.tail.tail.push (x := wt (9 * (wb ν c) + 3 * a + b).toNat)
        rw [l2] at hp
        have := IH (up μ 779 m (wt (9 * (wb ν c) + 3 * a + b).toNat)) (some (vI c)) (some (vI 2)) (some (vI a)) (some (vI b)) (by omega) (up779 _ _) (by rw [eS]; exact hp)
        rw [eS, List.length_cons, l2] at this
        exact this
      · rw [q] at ok
        obtain ⟨a, s, f1, l2⟩ := len1 (m := m) ok.1
        have eS := vS_1 (l.drop (i + 1)) q0 q1 (by rw [q2, show ((w : Int)).toNat = w by omega, q5]; decide) f1
        rw [f1] at hs ok
        have ha := ok.2 a (List.mem_cons_self ..)
        have t1 : μ 779 m = a := by have := hs.top; rw [l2] at this; exact this
        have len : (a :: s).length = m + 1 := by rw [List.length_cons, l2]
        have an : arN ν c = 1 := by unfold arN; rw [q]; rfl
        have hval := s_valW (wt := wt) (b := 0) hWm hn m6 q0 h23 q2 q3 ha (by omega) (by
          have := Cw w q3 (by rw [← q4]; exact hcm) a.toNat 0 (by omega) (by omega) (Or.inr rfl)
          rw [hf (774 + w) (by have := hW.2.1; omega)]
          exact this)
        rw [Int.add_zero] at hval
        rw [f1, len, q_X10_valueOf_9, if_neg (by omega), s_at hTm, cI_t, atc, s_behind hWm, cI_t, an, if_neg (by omega), if_neg (by omega), wr_eq (x := ((m + 1 : Nat) : Int) - 1) (by omega) (by omega), gk (lnC 779) 20 rfl (by omega) (by omega), show (((m + 1 : Nat) : Int) - 1).toNat = m by omega, t1]
        have e54 : e_X10_valueOf_54 t ((m + 1 : Nat) : Int) (((i + 1 : Nat) : Int) - 1) c 1 o6 o7 a μ = e_X10_valueOf_79 t ((m + 1 : Nat) : Int) (((i + 1 : Nat) : Int) - 1) c 1 a o7 0 μ := by
          rw [q_X10_valueOf_54, if_neg (show ¬ (1 : Int) = 2 by decide), q_X10_valueOf_78]
          exact ite_self _
        rw [e54, q_X10_valueOf_79, wr_eq (x := ((m + 1 : Nat) : Int) - 1) (by omega) (by omega), show mMax (((m + 1 : Nat) : Int) - 1) 0 = (m : Int) by unfold mMax; split <;> omega, if_pos (by omega), hval, cI_t, gk (lnC 779) 20 rfl (by omega) (by omega), show ((m : Int)).toNat = m by omega, wr_eq (x := (m : Int) + 1) (by omega) (by omega), wr_eq (x := ((i + 1 : Nat) : Int) - 1 + -1) (by omega) (by omega), i1]
        have hp := hs.tail.push (x := wt (9 * (wb ν c) + 3 * a).toNat)
        rw [l2] at hp
        have := IH (up μ 779 m (wt (9 * (wb ν c) + 3 * a).toNat)) (some (vI c)) (some (vI 1)) (some (vI a)) (some (vI 0)) (by omega) (up779 _ _) (by rw [eS]; exact hp)
        rw [eS, List.length_cons, l2] at this
        exact this
/-- the value of a TERM, by the class -/
theorem s_valueOfC (hW : RelW μ0 ν) (hn : n < 4) {t : Nat} {l : List Int} (hT : TH μ0 t l) (ht : t ≠ 779 ∧ t + 1 ≠ 779) (hL : LT l) (h20 : l.length ≤ 20) (hw : isT (ar ν) 1 l) (hC : CW μ0 ν n no tb wt l) (hN : CN μ0 x y z l) (htb : ∀ k, 0 ≤ tb k ∧ tb k < (n : Int)) (hno : 0 ≤ no ∧ no < (n : Int)) (hx : 0 ≤ x ∧ x < (n : Int)) (hy : 0 ≤ y ∧ y < (n : Int)) (hz : 0 ≤ z ∧ z < (n : Int)) (hwt : okWt ν n wt l) : ∃ μ', f_X10_valueOf [vR 10 771, vR 8 t] μ0 = some (some (vI (vT ν n no tb wt x y z l)), μ') ∧ ∀ c, c ≠ 779 → μ' c = μ0 c := by
  have h := s_valC hW hn hT ht hL h20 hw hC hN htb hno hx hy hz hwt l.length μ0 none none none none (Nat.le_refl _) (fun _ _ => rfl) (by rw [List.drop_length]; exact STK.nil)
  rw [List.drop_length] at h
  rw [q_X10_valueOf, hT.1, wr_eq (by omega) (by omega)]
  exact h
end VC
