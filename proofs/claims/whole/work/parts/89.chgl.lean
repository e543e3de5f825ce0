/-! change: the loops -/
theorem c163_skip {ν : Mem} {o1 o5 : Option AV} {gone T : Int} {N : Nat} (hN : ν 0 5 = (N : Int)) (h24 : N ≤ 24) : ∀ (j i b : Nat), i + j = b → b ≤ N → (∀ f, i ≤ f → f < b → ¬ (ν 7 f = 2 ∧ ν 13 f = T)) → e_X12_change_163 o1 gone T i o5 ν = e_X12_change_163 o1 gone T b o5 ν
  | 0, i, b, hj, _, _ => by
    obtain rfl : i = b := by omega
    rfl
  | j + 1, i, b, hj, hb, h => by
    have hi := h i (by omega) (by omega)
    rw [← c163_skip (o1 := o1) (o5 := o5) (gone := gone) hN h24 j (i + 1) b (by omega) hb (fun f a c => h f (by omega) c), q_X12_change_163, hN, if_pos (show (i : Int) < (N : Int) by omega), gk (lnR 7) 24 rfl (by omega) (by omega), show ((i : Int)).toNat = i by omega, gk (lnR 13) 24 rfl (by omega) (by omega), wr_eq (x := (i : Int) + 1) (by omega) (by omega), show (i : Int) + 1 = ((i + 1 : Nat) : Int) by omega]
    by_cases q : ν 7 i = 2
    · rw [if_pos q, if_neg (fun z => hi ⟨q, z⟩)]
    · rw [if_neg q]
theorem c163_end {ν : Mem} {o1 o5 : Option AV} {gone T : Int} {N : Nat} (hN : ν 0 5 = (N : Int)) : e_X12_change_163 o1 gone T N o5 ν = e_X12_change_152 o1 gone (wr (T + 1)) (some (vI (N : Int))) o5 ν := by
  rw [q_X12_change_163, hN, if_neg (by omega)]
def ordB (ν0 : Mem) (T : Int) (e : Nat) : Bool := decide (ν0 7 e = 2 ∧ ν0 13 e < T)
theorem chg_loop {μ0 ν0 : Mem} {w N M : Nat} (h0 : Rel μ0 ν0) (hw : (w : Int) < ν0 0 0) (hN : ν0 0 5 = (N : Int)) (hM : ν0 0 15 = (M : Int)) : ∀ (j T : Nat) (μ ν : Mem) (gone x : Int) (o1 o4 o5 o7 o8 : Option AV), T + j = M → INV μ0 ν0 w μ ν gone (T : Int) → NX ν (T : Int) x → ∃ r μ' ν' gone', e_X3_tryAgain_14 w 211 (ν0 0 22) gone x (cnt (ordB ν0 (T : Int)) N : Int) o7 o8 μ = some (some (vI r), μ') ∧ e_X12_change_152 o1 gone (T : Int) o4 o5 ν = some (some (vI r), ν') ∧ INV μ0 ν0 w μ' ν' gone' (M : Int)
  | 0, T, μ, ν, gone, x, o1, o4, o5, o7, o8, hj, h, hx => by
    obtain rfl : T = M := by omega
    have hL0 := h0.2.2.2.2.2.2.2.1
    have h24 : ν0 0 5 ≤ 24 := h0.2.2.2.1.2.1
    have h5 := h.2.1.2.2.2.1
    have h13 := h.2.1.1 13 (by omega)
    have xm : x = -4 := by
      rcases hx with ⟨a, _⟩ | ⟨e, a, b, c, d, _⟩
      · exact a
      · rw [h5] at b
        rw [h13] at d
        have e7 : ν0 7 e = 2 := by
          rcases h.2.2.1 e b with z | z
          · omega
          · omega
        have := (hL0 e b e7).2.2.1
        omega
    have k := h.2.2.2.2.2.2.1
    have rg := k.rng (fun e he => by omega)
    have h15 : ν 0 15 = (T : Int) := by rw [h.2.1.2.2.2.2.2.1]; exact hM
    refine ⟨(cnt (tb gone) 24 : Int), μ, ν, gone, ?_, ?_, h⟩
    · rw [q_X3_tryAgain_14, xm, if_pos (show (-4 : Int) < 0 by decide), s_pop24 rg, cI_t]
      exact ite_self _
    · rw [q_X12_change_152, h15, if_neg (by omega), s_bits, cI_t]
  | j + 1, T, μ, ν, gone, x, o1, o4, o5, o7, o8, hj, h, hx => by
    have hL0 := h0.2.2.2.2.2.2.2.1
    have hS0 := h0.2.2.2.1
    have h24 : ν0 0 5 ≤ 24 := hS0.2.1
    have h5 := h.2.1.2.2.2.1
    have h13 := h.2.1.1 13 (by omega)
    have h15 : ν 0 15 = (M : Int) := by rw [h.2.1.2.2.2.2.2.1]; exact hM
    have hN' : ν 0 5 = (N : Int) := by rw [h5]; exact hN
    have M424 : M ≤ 424 := by
      have tl := turns_le h0.2.2.2.2.2.2.1 hS0
      have := hS0.2.2.2.2.2.2.1
      omega
    have s7 : ∀ e : Nat, (e : Int) < ν0 0 5 → ν 7 e = 2 → ν0 7 e = 2 := fun e he h7 => by
      rcases h.2.2.1 e he with z | z
      · omega
      · omega
    by_cases ex : ∃ e : Nat, (e : Int) < ν0 0 5 ∧ ν 7 e = 2 ∧ ν0 13 e = (T : Int)
    · obtain ⟨e, he, h7, hT⟩ := ex
      have uq : ∀ f : Nat, (f : Int) < ν0 0 5 → ν0 7 f = 2 → ν0 13 f = (T : Int) → f = e := fun f hf f7 fT => (hL0 e he (s7 e he h7)).2.2.2.1 f hf f7 (by omega)
      have xe : x = (e : Int) := by
        rcases hx with ⟨_, b⟩ | ⟨g, a, b, c, d, f⟩
        · have := b e (by omega) h7
          rw [h13] at this
          omega
        · have g1 := f e (by omega) h7 (by rw [h13]; omega)
          rw [h13] at g1 d
          have : g = e := uq g (by omega) (s7 g (by omega) c) (by omega)
          rw [a, this]
      have c1 : cnt (ordB ν0 ((T + 1 : Nat) : Int)) N = cnt (ordB ν0 (T : Int)) N + 1 := cnt_one (e := e) N (by omega) (fun f hf fe => by
        unfold ordB
        by_cases z : ν0 7 f = 2 ∧ ν0 13 f < (T : Int)
        · rw [decide_eq_true z, decide_eq_true ⟨z.1, by omega⟩]
        · rw [decide_eq_false z, decide_eq_false]
          intro y
          by_cases q : ν0 13 f = (T : Int)
          · exact fe (uq f (by omega) y.1 q)
          · exact z ⟨y.1, by omega⟩) (by unfold ordB; exact decide_eq_true ⟨s7 e he h7, by omega⟩) (by unfold ordB; exact decide_eq_false (fun y => by omega))
      have c2 := cnt_le (ordB ν0 ((T + 1 : Nat) : Int)) N
      obtain ⟨gone', μ', ν', x', o1', o5', o7', o8', p1, p2, p3, p4⟩ := proc h0 hw h he h7 hT (cntr := cnt (ordB ν0 (T : Int)) N) (by omega) (o1 := o1) (o5 := o5) (o7 := o7) (o8 := o8)
      rw [← c1] at p1
      have q5 := p3.2.1.2.2.2.1
      have q13 := p3.2.1.1 13 (by omega)
      obtain ⟨r, μ2, ν2, gone2, r1, r2, r3⟩ := chg_loop h0 hw hN hM j (T + 1) μ' ν' gone' x' o1' (some (vI (N : Int))) o5' o7' o8' (by omega) p3 p4
      refine ⟨r, μ2, ν2, gone2, ?_, ?_, r3⟩
      · rw [xe, p1]; exact r1
      · have sk1 := c163_skip (o1 := o1) (o5 := o5) (gone := gone) (T := (T : Int)) hN' (by omega) e 0 e (by omega) (by omega) (fun f _ fe z => by
          rw [h13] at z
          have := uq f (by omega) (s7 f (by omega) z.1) z.2
          omega)
        have sk1' : e_X12_change_163 o1 gone (T : Int) 0 o5 ν = _ := sk1
        have sk2 := c163_skip (o1 := o1') (o5 := o5') (gone := gone') (T := (T : Int)) (ν := ν') (N := N) (by rw [q5]; exact hN) (by omega) (N - (e + 1)) (e + 1) N (by omega) (Nat.le_refl _) (fun f fe fN z => by
          rw [q13] at z
          have : ν0 7 f = 2 := by
            rcases p3.2.2.1 f (by omega) with y | y
            · omega
            · omega
          have := uq f (by omega) this z.2
          omega)
        rw [q_X12_change_152, h15, if_pos (by omega), sk1', p2, sk2, c163_end (by rw [q5]; exact hN), wr_eq (x := (T : Int) + 1) (by omega) (by omega), show (T : Int) + 1 = ((T + 1 : Nat) : Int) by omega]
        exact r2
    · have no : ∀ e : Nat, (e : Int) < ν0 0 5 → ν 7 e = 2 → ν0 13 e ≠ (T : Int) := fun e he h7 z => ex ⟨e, he, h7, z⟩
      have c1 : cnt (ordB ν0 ((T + 1 : Nat) : Int)) N = cnt (ordB ν0 (T : Int)) N := cnt_congr N (fun f hf => by
        unfold ordB
        by_cases z : ν0 7 f = 2 ∧ ν0 13 f < (T : Int)
        · rw [decide_eq_true z, decide_eq_true ⟨z.1, by omega⟩]
        · rw [decide_eq_false z, decide_eq_false]
          intro y
          by_cases q : ν0 13 f = (T : Int)
          · rcases h.2.2.1 f (by omega) with p | p
            · exact no f (by omega) (by omega) q
            · omega
          · exact z ⟨y.1, by omega⟩)
      have hs := h.skip no
      rw [show (T : Int) + 1 = ((T + 1 : Nat) : Int) by omega] at hs
      have hx' : NX ν ((T + 1 : Nat) : Int) x := by
        rcases hx with ⟨a, b⟩ | ⟨e, a, b, c, d, f⟩
        · exact Or.inl ⟨a, fun e he h7 => by have := b e he h7; omega⟩
        · have := no e (by omega) c
          rw [h13] at d
          exact Or.inr ⟨e, a, b, c, by rw [h13]; omega, fun g g1 g2 g3 => f g g1 g2 (by omega)⟩
      obtain ⟨r, μ2, ν2, gone2, r1, r2, r3⟩ := chg_loop h0 hw hN hM j (T + 1) μ ν gone x o1 (some (vI (N : Int))) o5 o7 o8 (by omega) hs hx'
      rw [c1] at r1
      refine ⟨r, μ2, ν2, gone2, r1, ?_, r3⟩
      have sk := c163_skip (o1 := o1) (o5 := o5) (gone := gone) (T := (T : Int)) hN' (by omega) N 0 N (by omega) (Nat.le_refl _) (fun f _ fN z => by
        rw [h13] at z
        exact no f (by omega) z.1 z.2)
      have sk' : e_X12_change_163 o1 gone (T : Int) 0 o5 ν = _ := sk
      rw [q_X12_change_152, h15, if_pos (by omega), sk', c163_end hN', wr_eq (x := (T : Int) + 1) (by omega) (by omega), show (T : Int) + 1 = ((T + 1 : Nat) : Int) by omega]
      exact r2
/-- when all are tried, the relation stands -/
theorem INV.done {μ0 ν0 μ ν : Mem} {w : Nat} {gone : Int} {M : Nat} (h0 : Rel μ0 ν0) (hM : ν0 0 15 = (M : Int)) (h : INV μ0 ν0 w μ ν gone (M : Int)) : Rel μ ν := by
  obtain ⟨a, b, c, d, g, f, k, ii, j22, j45, j68⟩ := h
  obtain ⟨hTT, hH, hW, hS, hP, hI, hD, hG, hC⟩ := a
  have hL0 := h0.2.2.2.2.2.2.2.1
  have hS0 := h0.2.2.2.1
  have hP0 := h0.2.2.2.2.1
  have h5 := b.2.2.2.1
  have c10 := b.1 10 (by omega)
  have c11 := b.1 11 (by omega)
  have c14 := b.1 14 (by omega)
  have c15 := b.1 15 (by omega)
  have c13 := b.1 13 (by omega)
  have s7 : ∀ e : Nat, (e : Int) < ν0 0 5 → ν 7 e = 2 → ν0 7 e = 2 := fun e he h7 => by
    rcases c e he with z | z
    · omega
    · omega
  have prf : ∀ e : Nat, (e : Int) < ν0 0 5 → ν 7 e = 2 → PRF μ ν ν0 e := fun e he h7 => g e he h7 (by have := (hL0 e he (s7 e he h7)).2.2.1; omega)
  have hUSE : ∀ e x : Nat, ν 7 e = 2 → (USE ν e x ↔ USE ν0 e x) := fun e x h7 => by
    unfold USE
    rw [h5, c10, c11, c14, c15]
    constructor
    · rintro ⟨p1, p2, p3⟩
      exact ⟨p1, s7 e p1 p2, p3⟩
    · rintro ⟨p1, p2, p3⟩
      exact ⟨p1, h7, p3⟩
  refine ⟨hTT, hH, hW, hS, hP, hI, hD, fun e he h7 => ?_, hG, hC⟩
  rw [h5] at he
  obtain ⟨l1, l2, l3, l4, l5, l6, l7⟩ := hL0 e he (s7 e he h7)
  obtain ⟨p1, p2, p3, p4, p5⟩ := prf e he h7
  have tg : ∀ x, Relation.TransGen (USE ν) e x ↔ Relation.TransGen (USE ν0) e x := fun x => by
    constructor
    · intro q
      induction q with
      | single q => exact Relation.TransGen.single ((hUSE _ _ h7).mp q)
      | tail _ q ih => exact Relation.TransGen.tail ih ((hUSE _ _ q.2.1).mp q)
    · intro q
      have st : ∀ y, Relation.TransGen (USE ν0) e y → ν 7 y = 0 ∨ ν 7 y = 2 := fun y hy => by
        induction hy with
        | single q => exact p2 _ q
        | tail _ q ih =>
          rename_i b' c' _
          have b2 : ν 7 b' = 2 := by
            have q7 := q.2.1
            rcases ih with z | z
            · rcases c b' q.1 with y | y
              · omega
              · omega
            · exact z
          exact (prf b' q.1 b2).2.1 _ q
      induction q with
      | single q => exact Relation.TransGen.single ((hUSE _ _ h7).mpr q)
      | tail hab q ih =>
        rename_i b' c'
        have b2 : ν 7 b' = 2 := by
          have q7 := q.2.1
          rcases st b' hab with z | z
          · rcases c b' q.1 with y | y
            · omega
            · omega
          · exact z
        exact Relation.TransGen.tail ih ((hUSE _ _ b2).mpr q)
  rw [c13, h5, b.2.2.2.2.2.1, d e he]
  refine ⟨p1, l2, l3, fun x hx x7 x13 => l4 x hx (s7 x hx x7) x13, fun x ux => ?_, ⟨l6.1, l6.2.1, fun x hx => (l6.2.2 x hx).trans (tg x).symm⟩, p3, p4, p5⟩
  have u0 := (hUSE e x h7).mp ux
  have xlt := USE_lt hS0 hP0 u0
  have := p2 x u0
  have z := l5 x u0
  rcases c x xlt with y | y
  · omega
  · omega
