/-! teach -/
theorem tb_bXor (x y : Int) (k : Nat) : tb (bXor x y) k = (tb x k != tb y k) := by
  unfold tb bXor
  have : (q32 (q32 x ^^^ q32 y).toInt) = q32 x ^^^ q32 y := Int32.ofInt_toInt _
  rw [this]
  show ((q32 x).toBitVec ^^^ (q32 y).toBitVec).getLsbD k = _
  rw [BitVec.getLsbD_xor]
theorem tb_m1 : ∀ k : Nat, k < 32 → tb (-1) k = true := by decide +kernel
theorem MK.self (m : Int) (h : in32 m) : MK m (fun k => tb m k = true) := ⟨h, fun _ _ => Iff.rfl⟩
theorem MK.inv {m : Int} {P : Nat → Prop} (h : MK m P) : MK (bXor m (-1)) (fun k => ¬ P k) := ⟨in32_bXor _ _, fun k hk => by
  have q := h.2 k hk
  show _ ↔ ¬ P k
  rw [tb_bXor, tb_m1 k hk, ← q]
  cases tb m k <;> simp⟩
theorem MK.none {m : Int} {P : Nat → Prop} (h : MK m P) : m = 0 ↔ ∀ k, k < 32 → ¬ P k := by
  constructor
  · intro q k hk z
    subst q
    have := (h.2 k hk).mpr z
    rw [tb_0] at this
    cases this
  · intro q
    exact tb_ext h.1 (by unfold in32; omega) (fun k hk => by
      rw [tb_0]
      cases z : tb m k with
      | false => rfl
      | true => exact absurd ((h.2 k hk).mp z) (q k hk))
theorem shl1_b : ∀ n : Nat, n < 25 → 1 ≤ bShl 1 (n : Int) ∧ bShl 1 (n : Int) ≤ 16777216 := by decide +kernel
theorem TG_irr {μ ν : Mem} (hS : RelS μ ν) (hP : RelP μ ν) (hL : RelL μ ν) {e f : Nat} (h : Relation.TransGen (USE ν) e f) : ν 7 f = 0 ∨ (ν 7 f = 2 ∧ ν 13 f < ν 13 e) := by
  induction h with
  | single q => exact (hL e q.1 q.2.1).2.2.2.2.1 _ q
  | tail _ q ih =>
    have h2 := (hL _ q.1 q.2.1).2.2.2.2.1 _ q
    have q7 := q.2.1
    omega
/-- once one is found, the reference goes on to the end -/
theorem s_skip94 {ν : Mem} {o1 o2 : Option AV} {v3 left r v6 : Int} {n : Nat} (hn : ν 0 5 = (n : Int)) (h24 : n ≤ 24) (hr : r ≠ -4) : ∀ (j i : Nat), i + j = n → e_X12_teach_94 o1 o2 v3 left r v6 i ν = e_X12_teach_78 o1 o2 v3 (bAnd left (bXor (bShl 1 r) (-1))) r (wr (v6 + 1)) (some (vI n)) ν
  | 0, i, hj => by
    obtain rfl : i = n := by omega
    rw [q_X12_teach_94, hn, if_neg (show ¬ (i : Int) < (i : Int) by omega), if_neg hr]
  | j + 1, i, hj => by
    rw [q_X12_teach_94, hn, if_pos (show (i : Int) < (n : Int) by omega), if_neg hr, wr_eq (x := (i : Int) + 1) (by omega) (by omega), show (i : Int) + 1 = ((i + 1 : Nat) : Int) by omega]
    exact s_skip94 hn h24 hr j (i + 1) (by omega)
theorem s_next {μ ν : Mem} (hS : RelS μ ν) (hP : RelP μ ν) (hL : RelL μ ν) {left : Int} {P : Nat → Prop} (hm : MK left P) {n : Nat} (hn : ν 0 5 = (n : Int)) {o1 o2 : Option AV} {v3 : Int} : ∀ (j i : Nat), i + j = n → ∃ r : Int, e_X3_lessonNext_2 left i μ = some (some (vI r), μ) ∧ (r = -4 ∨ (0 ≤ r ∧ r < (n : Int))) ∧ ∀ v6, e_X12_teach_94 o1 o2 v3 left (-4) v6 i ν = if r = -4 then e_X12_teach_78 o1 o2 v3 left (-4) (wr (v6 + 1)) (some (vI n)) ν else e_X12_teach_78 o1 o2 v3 (bAnd left (bXor (bShl 1 r) (-1))) r (wr (v6 + 1)) (some (vI n)) ν
  | 0, i, hj => by
    obtain rfl : i = n := by omega
    have ll : bAnd left left = left := ((hm.and hm).congr (fun k => ⟨fun q => q.1, fun q => ⟨q, q⟩⟩)).eq hm
    refine ⟨-4, ?_, Or.inl rfl, fun v6 => ?_⟩
    · rw [q_X3_lessonNext_2, hS.2.2.1, hn, if_neg (show ¬ (i : Int) < (i : Int) by omega)]
    · rw [q_X12_teach_94, hn, if_neg (show ¬ (i : Int) < (i : Int) by omega), if_pos rfl, if_pos rfl, ll]
  | j + 1, i, hj => by
    have h24 := hS.2.1
    obtain ⟨r, a1, a2, a3⟩ := s_next hS hP hL hm hn (o1 := o1) (o2 := o2) (v3 := v3) j (i + 1) (by omega)
    have hb := hm.bit (k := i) (by omega)
    obtain ⟨mu, b1, b2⟩ := s_underOf hS hP hL (e := i) (by omega)
    obtain ⟨ml, c1, c2⟩ := s_leansOf hS hP (e := i) (by omega)
    have iff : (bAnd mu left = 0) ↔ (bAnd (bAnd ml left) (bXor (bShl 1 (i : Int)) (-1)) = 0) := by
      rw [(b2.and hm).none, ((c2.and hm).and (MK.not (f := i) (by omega))).none]
      constructor
      · intro q k hk z
        exact q k hk z.1
      · intro q k hk z
        refine q k hk ⟨z, fun y => ?_⟩
        subst y
        have h7 := (TG_7 z.1).2
        have := TG_irr hS hP hL z.1
        omega
    rw [q_X3_lessonNext_2, hS.2.2.1, hn, if_pos (show (i : Int) < (n : Int) by omega), wr_eq (x := (i : Int) + 1) (by omega) (by omega), show (i : Int) + 1 = ((i + 1 : Nat) : Int) by omega, b1, cI_t]
    have step : ∀ v6, e_X12_teach_94 o1 o2 v3 left (-4) v6 i ν = if (bAnd (bShr left (i : Int)) 1) = 1 then (if (bAnd (bAnd ml left) (bXor (bShl 1 (i : Int)) (-1))) = 0 then e_X12_teach_94 o1 o2 v3 left i v6 ((i + 1 : Nat) : Int) ν else e_X12_teach_94 o1 o2 v3 left (-4) v6 ((i + 1 : Nat) : Int) ν) else e_X12_teach_94 o1 o2 v3 left (-4) v6 ((i + 1 : Nat) : Int) ν := fun v6 => by
      rw [q_X12_teach_94, hn, if_pos (show (i : Int) < (n : Int) by omega), if_pos rfl, c1, cI_t, wr_eq (x := (i : Int) + 1) (by omega) (by omega), show (i : Int) + 1 = ((i + 1 : Nat) : Int) by omega]
    by_cases hi : P i
    · rw [hb.1 hi, if_neg ten]
      by_cases hz : bAnd mu left = 0
      · rw [if_pos hz]
        refine ⟨i, rfl, Or.inr (by omega), fun v6 => ?_⟩
        rw [step, hb.1 hi, if_pos rfl, if_pos (iff.mp hz), if_neg (by omega)]
        exact s_skip94 hn (by omega) (by omega) j (i + 1) (by omega)
      · rw [if_neg hz]
        refine ⟨r, a1, a2, fun v6 => ?_⟩
        rw [step, hb.1 hi, if_pos rfl, if_neg (fun q => hz (iff.mpr q))]
        exact a3 v6
    · rw [hb.2 hi, if_pos rfl]
      refine ⟨r, a1, a2, fun v6 => ?_⟩
      rw [step, hb.2 hi, if_neg (by decide)]
      exact a3 v6
theorem s_stuck {ν : Mem} {o1 o2 : Option AV} {v3 left : Int} {p n : Nat} (hp : v3 - 10 = (p : Int)) (hp24 : p < 24) (h : ∀ v6, e_X12_teach_94 o1 o2 v3 left (-4) v6 0 ν = e_X12_teach_78 o1 o2 v3 left (-4) (wr (v6 + 1)) (some (vI n)) ν) : ∀ (j i : Nat) (o7 : Option AV), i + j = p + 1 → e_X12_teach_78 o1 o2 v3 left (-4) i o7 ν = some (some (vI (-4)), ν)
  | 0, i, o7, hj => by rw [q_X12_teach_78, wr_eq (by omega) (by omega), if_neg (by omega)]
  | j + 1, i, o7, hj => by
    rw [q_X12_teach_78, wr_eq (by omega) (by omega), if_pos (by omega), h, wr_eq (x := (i : Int) + 1) (by omega) (by omega), show (i : Int) + 1 = ((i + 1 : Nat) : Int) by omega]
    exact s_stuck hp hp24 h j (i + 1) _ (by omega)
theorem s_lesson {μ ν : Mem} (hS : RelS μ ν) (hP : RelP μ ν) (hL : RelL μ ν) {o1 o2 o3 : Option AV} {v3 : Int} {p : Nat} (hp : v3 - 10 = (p : Int)) (hp24 : p < 24) : ∀ (j i : Nat) (left last : Int) (P : Nat → Prop) (o7 : Option AV), i + j = p + 1 → MK left P → ∃ r : Int, e_X3_lessonAt_9 o3 p left last i μ = some (some (vI r), μ) ∧ e_X12_teach_78 o1 o2 v3 left last i o7 ν = some (some (vI r), ν)
  | 0, i, left, last, P, o7, hj, hm => ⟨last, by rw [q_X3_lessonAt_9, if_neg (by omega)], by rw [q_X12_teach_78, wr_eq (by omega) (by omega), if_neg (by omega)]⟩
  | j + 1, i, left, last, P, o7, hj, hm => by
    obtain ⟨n, hn⟩ : ∃ n : Nat, ν 0 5 = (n : Int) := ⟨(ν 0 5).toNat, by have := hS.1; omega⟩
    have h24 := hS.2.1
    obtain ⟨r, a1, a2, a3⟩ := s_next hS hP hL hm hn (o1 := o1) (o2 := o2) (v3 := v3) n 0 (by omega)
    have a1' : e_X3_lessonNext_2 left 0 μ = _ := a1
    have a3' : ∀ v6, e_X12_teach_94 o1 o2 v3 left (-4) v6 0 ν = _ := a3
    rw [q_X3_lessonAt_9, if_pos (show (i : Int) ≤ (p : Int) by omega), if_pos (show (i : Int) < 24 by omega), q_X3_lessonNext, a1', cI_t, q_X12_teach_78, wr_eq (x := v3 - 10) (by omega) (by omega), if_pos (show (i : Int) ≤ v3 - 10 by omega), a3', wr_eq (x := (i : Int) + 1) (by omega) (by omega), show (i : Int) + 1 = ((i + 1 : Nat) : Int) by omega]
    rcases a2 with rfl | ⟨q1, q2⟩
    · rw [if_pos (by decide), if_pos rfl]
      refine ⟨-4, rfl, s_stuck (n := n) hp hp24 (fun v6 => ?_) j (i + 1) _ (by omega)⟩
      rw [a3', if_pos rfl]
    · rw [if_neg (show ¬ r < 0 by omega), if_neg (show ¬ r = -4 by omega)]
      obtain ⟨g, rfl⟩ : ∃ g : Nat, r = (g : Int) := ⟨r.toNat, by omega⟩
      exact s_lesson hS hP hL hp hp24 j (i + 1) _ _ _ _ (by omega) (hm.and (MK.not (f := g) (by omega)))
theorem sim_teach (μ ν : Mem) (x1 x2 x3 : Int) (_ : in32 x1) (h2 : in32 x2) (h3 : in32 x3) (h : Rel μ ν) : Sm Rel f_X11_teach f_X12_teach [vI x1, vI x2, vI x3] μ ν := by
  unfold Sm
  have hS := h.2.2.2.1
  have hP := h.2.2.2.2.1
  have hL := h.2.2.2.2.2.2.2.1
  have h24 := hS.2.1
  have h3' : -2147483648 ≤ x3 ∧ x3 ≤ 2147483647 := h3
  obtain ⟨n, hn⟩ : ∃ n : Nat, ν 0 5 = (n : Int) := ⟨(ν 0 5).toNat, by have := hS.1; omega⟩
  have sb := shl1_b n (by omega)
  have e0 : f_X11_teach [vR 11 0, vI x1, vI x2, vI x3] μ = e_X11_teach_28 x1 x2 x3 (wr (x3 - 10)) none none (if x3 = 0 ∨ (10 ≤ x3 ∧ x3 ≤ 33) then 1 else 0) μ := by
    rw [q_X11_teach, q_X11_teach_23, q_X11_teach_27]
    by_cases q0 : x3 = 0
    · rw [if_pos q0, if_pos (Or.inl q0)]
    · rw [if_neg q0]
      by_cases q1 : x3 < 10
      · rw [if_pos q1, if_neg (show ¬ (x3 = 0 ∨ (10 ≤ x3 ∧ x3 ≤ 33)) by omega)]
      · rw [if_neg q1, wr_eq (x := x3 - 10) (by omega) (by omega)]
        by_cases q2 : x3 ≤ 33
        · rw [if_pos (show x3 - 10 < 24 by omega), if_pos (show x3 = 0 ∨ (10 ≤ x3 ∧ x3 ≤ 33) by omega)]
        · rw [if_neg (show ¬ x3 - 10 < 24 by omega), if_neg (show ¬ (x3 = 0 ∨ (10 ≤ x3 ∧ x3 ≤ 33)) by omega)]
  rw [e0, q_X11_teach_28, q_X12_teach]
  by_cases hx : ¬ (0 ≤ x1 ∧ x1 < ν 0 5)
  · rw [get_f hS hx, cR_n, isS_f hS hx, cI_t, if_pos rfl]
    exact ⟨-1, μ, ν, rfl, rfl, h⟩
  replace hx := Decidable.not_not.mp hx
  obtain ⟨e, rfl⟩ : ∃ e : Nat, x1 = (e : Int) := ⟨x1.toNat, by omega⟩
  rw [get_t hS hx, cR_s, isS_t hS hx, cI_t, if_neg ten, s_in, cI_t, hS.2.2.1, hn, wr_eq (x := bShl 1 (n : Int) - 1) (by omega) (by omega)]
  by_cases h0 : x2 < 0
  · rw [if_pos h0, if_neg (show ¬ (0 ≤ x2 ∧ x2 ≤ bShl 1 (n : Int) - 1) by omega), if_pos rfl]
    exact ⟨-1, μ, ν, rfl, rfl, h⟩
  rw [if_neg h0]
  by_cases h1 : ¬ x2 < bShl 1 (n : Int)
  · rw [if_neg h1, if_neg (show ¬ (0 ≤ x2 ∧ x2 ≤ bShl 1 (n : Int) - 1) by omega), if_pos rfl]
    exact ⟨-1, μ, ν, rfl, rfl, h⟩
  replace h1 := Decidable.not_not.mp h1
  rw [if_pos h1, if_pos (show 0 ≤ x2 ∧ x2 ≤ bShl 1 (n : Int) - 1 by omega), if_neg ten]
  obtain ⟨mu, b1, b2⟩ := s_underOf hS hP hL hx.2
  obtain ⟨ml, c1, c2⟩ := s_leansOf hS hP hx.2
  have mk2 := ((MK.self x2 h2).inv)
  have mC := ((MK.shl (f := e) (by omega)).or b2).and mk2
  have mR := ((c2.or (MK.shl (f := e) (by omega)))).and mk2
  have eq : bAnd (bOr (bShl 1 (e : Int)) mu) (bXor x2 (-1)) = bAnd (bOr ml (bShl 1 (e : Int))) (bXor x2 (-1)) := mC.eq (mR.congr (fun k => and_congr Or.comm Iff.rfl))
  have rg := mC.rng (fun k q => by
    rcases q.1 with z | z
    · omega
    · have := TG_lt hS hP z; omega)
  have r46 : e_X12_teach_46 e x2 x3 none none none none ν = if x3 = 0 then some (some (vI (cnt (tb (bAnd (bOr ml (bShl 1 (e : Int))) (bXor x2 (-1)))) 24 : Int)), ν) else e_X12_teach_78 (some (vI e)) (some (vI x2)) x3 (bAnd (bOr ml (bShl 1 (e : Int))) (bXor x2 (-1))) (-4) 0 none ν := by
    rw [q_X12_teach_46, c1, cI_t, s_bits, cI_t]
  rw [b1, cI_t, r46, s_in, cI_t, eq]
  rw [eq] at rg mC
  by_cases q0 : x3 = 0
  · rw [if_pos (show x3 = 0 ∨ (10 ≤ x3 ∧ x3 ≤ 33) from Or.inl q0), if_neg ten, if_pos q0, if_pos q0, if_pos q0, s_pop24 rg, cI_t]
    exact ⟨_, _, _, rfl, rfl, h⟩
  · rw [if_neg q0, if_neg q0]
    by_cases q1 : 10 ≤ x3 ∧ x3 ≤ 33
    · rw [if_pos (show x3 = 0 ∨ (10 ≤ x3 ∧ x3 ≤ 33) from Or.inr q1), if_neg ten, if_pos q1, if_neg ten, wr_eq (x := x3 - 10) (by omega) (by omega)]
      obtain ⟨p, hp⟩ : ∃ p : Nat, x3 - 10 = (p : Int) := ⟨(x3 - 10).toNat, by omega⟩
      obtain ⟨r, d1, d2⟩ := s_lesson hS hP hL hp (by omega) (o1 := some (vI e)) (o2 := some (vI x2)) (o3 := some (vI (bAnd (bOr ml (bShl 1 (e : Int))) (bXor x2 (-1))))) (p + 1) 0 _ (-4) _ none (by omega) mC
      rw [hp, q_X3_lessonAt]
      have d1' : e_X3_lessonAt_9 (some (vI (bAnd (bOr ml (bShl 1 (e : Int))) (bXor x2 (-1))))) p (bAnd (bOr ml (bShl 1 (e : Int))) (bXor x2 (-1))) (-4) 0 μ = _ := d1
      have d2' : e_X12_teach_78 (some (vI e)) (some (vI x2)) x3 (bAnd (bOr ml (bShl 1 (e : Int))) (bXor x2 (-1))) (-4) 0 none ν = _ := d2
      rw [d1', cI_t, r46, if_neg q0, d2']
      exact ⟨_, _, _, rfl, rfl, h⟩
    · rw [if_neg (show ¬ (x3 = 0 ∨ (10 ≤ x3 ∧ x3 ≤ 33)) by omega), if_pos rfl, if_neg q1, if_pos rfl]
      exact ⟨_, _, _, rfl, rfl, h⟩
