/-! LIKE, on both sides -/
def LIKE (ν : Mem) (how : Int) (e f : Nat) : Prop := ∃ A B C D, rdy ν how e = some (A, B) ∧ rdy ν how f = some (C, D) ∧ ∃ o, o < 6 ∧ LKo ν how o A B (tdy ν (bAnd how 2 = 2) 0 C) (tdy ν (bAnd how 2 = 2) 0 D)
theorem wd_c {ν : Mem} {p q : Prop} [Decidable p] [Decidable q] (h : p ↔ q) (T : List Int) : wd ν p T = wd ν q T := by
  unfold wd
  by_cases z : p
  · rw [if_pos z, if_pos (h.mp z)]
  · rw [if_neg z, if_neg (fun y => z (h.mpr y))]
theorem frVd_R {k : Nat} {X X' : Mem} (h : FrVd k X X') : FrR X X' := ⟨fun c h1 h2 => by unfold scrR at h1; exact h.1 c (by omega) (by omega) (by omega) (by omega) h2, fun q hq => by unfold scrK at hq; exact h.2.1 q (by omega) (by omega)⟩
theorem frT_R {X X' : Mem} (h : FrT X X') : FrR X X' := ⟨fun c h1 h2 => by unfold scrR at h1; exact h c (by omega) (by omega), fun q hq => by rw [h 0 (by omega) (by omega)]⟩
theorem WD_n {X : Mem} {k : Nat} {o : Option (List Int)} (h : WD X k o) (h2 : X 45 k ≤ 200) : ∃ L, o = some L := by
  cases o with
  | none => have : 200 < X 45 k := h; omega
  | some L => exact ⟨L, rfl⟩
theorem WD_s {X : Mem} {k : Nat} {o : Option (List Int)} (h : WD X k o) (h2 : 200 < X 45 k) : o = none := by
  cases o with
  | none => rfl
  | some L => have := h.1; have := h.2.1; omega
theorem rdy_s {ν : Mem} {how : Int} {e : Nat} {A B : List Int} (h1 : wd ν (4 ≤ how) (sL ν e 0) = some A) (h2 : wd ν (4 ≤ how) (sL ν e 1) = some B) : rdy ν how e = some (A, B) := by
  unfold rdy
  rw [h1, h2]
theorem rdy_n {ν : Mem} {how : Int} {e : Nat} (h : wd ν (4 ≤ how) (sL ν e 0) = none ∨ wd ν (4 ≤ how) (sL ν e 1) = none) : rdy ν how e = none := by
  unfold rdy
  rcases h with h | h
  · rw [h]
  · rw [h]
    cases wd ν (4 ≤ how) (sL ν e 0) <;> rfl
theorem rdy_i {ν : Mem} {how : Int} {e : Nat} {A B : List Int} (h : rdy ν how e = some (A, B)) : wd ν (4 ≤ how) (sL ν e 0) = some A ∧ wd ν (4 ≤ how) (sL ν e 1) = some B := by
  unfold rdy at h
  cases h1 : wd ν (4 ≤ how) (sL ν e 0) with
  | none => rw [h1] at h; cases h
  | some a =>
    cases h2 : wd ν (4 ≤ how) (sL ν e 1) with
    | none => rw [h1, h2] at h; cases h
    | some b =>
      rw [h1, h2] at h
      injection h with h
      injection h with h3 h4
      rw [h3, h4]
      exact ⟨rfl, rfl⟩
theorem rdy_ok {μ ν : Mem} (hW : RelW μ ν) (hS : RelS μ ν) {how : Int} {e : Nat} {A B : List Int} (he : (e : Int) < ν 0 5) (h : rdy ν how e = some (A, B)) : (okU (ar ν) A ∧ A.length ≤ 200) ∧ okU (ar ν) B ∧ B.length ≤ 200 := by
  obtain ⟨o0, o1, _⟩ := hS.2.2.2.2.2.2.2.2 e he
  obtain ⟨h1, h2⟩ := rdy_i h
  have a := wd_ok hW o0 h1
  have b := wd_ok hW o1 h2
  exact ⟨⟨⟨a.1, a.2.1⟩, a.2.2⟩, ⟨b.1, b.2.1⟩, b.2.2⟩
theorem r_al29 {μ ν X : Mem} {e f : Nat} {how v4 v5 : Int} (hW : RelW μ ν) (hS : RelS μ ν) (hM : FrM ν X) (he : (e : Int) < ν 0 5) (hf : (f : Int) < ν 0 5) (h4 : v4 = 0 ∨ v4 = 1) (h5 : v5 = 0 ∨ v5 = 1) (m4 : v4 = 1 ↔ 4 ≤ how) (m5 : v5 = 1 ↔ bAnd how 2 = 2) : ∃ (r : Int) (X' : Mem), e_X12_areLike_29 e f how v4 v5 0 none none X = some (some (vI r), X') ∧ FrR X X' ∧ (r = 0 ∨ r = 1) ∧ (r = 1 ↔ LIKE ν how e f) := by
  have h24 := hS.2.1
  obtain ⟨e0, e1, _⟩ := hS.2.2.2.2.2.2.2.2 e he
  obtain ⟨f0, f1, _⟩ := hS.2.2.2.2.2.2.2.2 f hf
  obtain ⟨X1, a1, a2, a3⟩ := r_widens (X := X) (k := 0) (e := e) (w := 0) hW hM (by omega) (by omega) (by omega) e0 h4
  have M1 := frM_trans hM (frVd_M a2)
  obtain ⟨X2, b1, b2, b3⟩ := r_widens (X := X1) (k := 2) (e := f) (w := 0) hW M1 (by omega) (by omega) (by omega) f0 h4
  have M2 := frM_trans M1 (frVd_M b2)
  obtain ⟨X3, c1, c2, c3⟩ := r_widens (X := X2) (k := 1) (e := e) (w := 1) hW M2 (by omega) (by omega) (by omega) e1 h4
  have M3 := frM_trans M2 (frVd_M c2)
  obtain ⟨X4, d1, d2, d3⟩ := r_widens (X := X3) (k := 3) (e := f) (w := 1) hW M3 (by omega) (by omega) (by omega) f1 h4
  have M4 := frM_trans M3 (frVd_M d2)
  have a1' : f_X12_widens [vR 12 0, vI 0, vI e, vI 0, vI v4] X = _ := a1
  have b1' : f_X12_widens [vR 12 0, vI 2, vI f, vI 0, vI v4] X1 = _ := b1
  have c1' : f_X12_widens [vR 12 0, vI 1, vI e, vI 1, vI v4] X2 = _ := c1
  have d1' : f_X12_widens [vR 12 0, vI 3, vI f, vI 1, vI v4] X3 = _ := d1
  rw [wd_c m4] at a3 b3 c3 d3
  have W0 := ((a3.kept b2 (by omega)).kept c2 (by omega)).kept d2 (by omega)
  have W2 := (b3.kept c2 (by omega)).kept d2 (by omega)
  have W1 := c3.kept d2 (by omega)
  have F4 : FrR X X4 := frR_trans (frR_trans (frR_trans (frVd_R a2) (frVd_R b2)) (frVd_R c2)) (frVd_R d2)
  rw [q_X12_areLike_29, if_pos (by decide), a1', cV_t, show wr (2 + 0) = 2 from by decide, b1', cV_t, show wr (0 + 1) = 1 from by decide, q_X12_areLike_29, if_pos (by decide), c1', cV_t, show wr (2 + 1) = 3 from by decide, d1', cV_t, show wr (1 + 1) = 2 from by decide, q_X12_areLike_29, if_neg (by decide)]
  rcases r_al71 (X := X4) (o1 := some (vI (e : Int))) (o2 := some (vI (f : Int))) (o4 := some (vI v4)) (o8 := none) (v3 := how) (v5 := v5) 4 0 1 (by omega) (Or.inr rfl) with ⟨_, g1, g2⟩ | ⟨g1, g2⟩
  · have g2' : e_X12_areLike_71 (some (vI (e : Int))) (some (vI (f : Int))) how (some (vI v4)) v5 1 0 none X4 = _ := g2
    obtain ⟨A, eA⟩ := WD_n W0 (g1 0 (by omega) (by omega))
    obtain ⟨B, eB⟩ := WD_n W1 (g1 1 (by omega) (by omega))
    obtain ⟨C, eC⟩ := WD_n W2 (g1 2 (by omega) (by omega))
    obtain ⟨D, eD⟩ := WD_n d3 (g1 3 (by omega) (by omega))
    rw [eA] at W0
    rw [eB] at W1
    rw [eC] at W2
    rw [eD] at d3
    have oA := wd_ok hW e0 eA
    have oB := wd_ok hW e1 eB
    have oC := wd_ok hW f0 eC
    have oD := wd_ok hW f1 eD
    obtain ⟨X5, p1, p2, p3⟩ := r_tidies (k := 2) (o := 0) hW M4 (by omega) (by omega) h5 W2 oC.1 oC.2.1
    have p1' : f_X12_tidies [vR 12 0, vI 2, vI 0, vI v5] X4 = _ := p1
    have lC : (tdy ν (v5 = 1) 0 C).length = C.length := tdy_len
    have lD : (tdy ν (v5 = 1) 0 D).length = D.length := tdy_len
    obtain ⟨X6, o8, q1, q2, q3, q4⟩ := r_al138 (K := tdy ν (v5 = 1) 0 C) (k := 0) (by omega) (by rw [lC]; exact oC.2.2) (o1 := some (vI (e : Int))) (o2 := some (vI (f : Int))) (o4 := some (vI v4)) (o6 := some (vI 1)) (v3 := how) (v5 := v5) (tdy ν (v5 = 1) 0 C).length 0 X5 (by omega) (by rw [p2 45 (by omega) (by omega), lC]; exact W2.2.1) p3 (fun q x hq _ => by omega)
    have q1' : e_X12_areLike_138 (some (vI (e : Int))) (some (vI (f : Int))) how (some (vI v4)) v5 (some (vI 1)) 0 0 X5 = e_X12_areLike_118 (some (vI (e : Int))) (some (vI (f : Int))) how (some (vI v4)) v5 (kl (some (vI 1))) 1 o8 X6 := q1
    have k6 : ∀ c, c ≠ 48 → c ≠ 49 → c ≠ 50 → X6 c = X4 c := fun c x y z => by rw [q2 c z, p2 c x y]
    have M6 : FrM ν X6 := frM_trans M4 ⟨fun c _ _ => k6 c (by omega) (by omega) (by omega), by rw [k6 0 (by omega) (by omega) (by omega)], by rw [k6 0 (by omega) (by omega) (by omega)], by rw [k6 0 (by omega) (by omega) (by omega)]⟩
    have wk : ∀ {k : Nat} {L : List Int}, WD X4 k (some L) → WD X6 k (some L) := fun {k L} h => by
      obtain ⟨x, y, z⟩ := h
      exact ⟨x, by rw [k6 45 (by omega) (by omega) (by omega)]; exact y, by rw [k6 44 (by omega) (by omega) (by omega)]; exact z⟩
    obtain ⟨X7, s1, s2, s3⟩ := r_tidies (k := 3) (o := 0) hW M6 (by omega) (by omega) h5 (wk d3) oD.1 oD.2.1
    have s1' : f_X12_tidies [vR 12 0, vI 3, vI 0, vI v5] X6 = _ := s1
    obtain ⟨X8, o8', t1, t2, t3, t4⟩ := r_al138 (K := tdy ν (v5 = 1) 0 D) (k := 1) (by omega) (by rw [lD]; exact oD.2.2) (o1 := some (vI (e : Int))) (o2 := some (vI (f : Int))) (o4 := some (vI v4)) (o6 := kl (some (vI 1))) (v3 := how) (v5 := v5) (tdy ν (v5 = 1) 0 D).length 0 X7 (by omega) (by rw [s2 45 (by omega) (by omega), lD]; exact (wk d3).2.1) s3 (fun q x hq _ => by omega)
    have t1' : e_X12_areLike_138 (some (vI (e : Int))) (some (vI (f : Int))) how (some (vI v4)) v5 (kl (some (vI 1))) 1 0 X7 = e_X12_areLike_118 (some (vI (e : Int))) (some (vI (f : Int))) how (some (vI v4)) v5 (kl (kl (some (vI 1)))) 2 o8' X8 := t1
    have k8 : ∀ c, c ≠ 48 → c ≠ 49 → c ≠ 50 → X8 c = X4 c := fun c x y z => by rw [t2 c z, s2 c x y, k6 c x y z]
    have M8 : FrM ν X8 := frM_trans M4 ⟨fun c _ _ => k8 c (by omega) (by omega) (by omega), by rw [k8 0 (by omega) (by omega) (by omega)], by rw [k8 0 (by omega) (by omega) (by omega)], by rw [k8 0 (by omega) (by omega) (by omega)]⟩
    have wk8 : ∀ {k : Nat} {L : List Int}, WD X4 k (some L) → WD X8 k (some L) := fun {k L} h => by
      obtain ⟨x, y, z⟩ := h
      exact ⟨x, by rw [k8 45 (by omega) (by omega) (by omega)]; exact y, by rw [k8 44 (by omega) (by omega) (by omega)]; exact z⟩
    have F8 : FrR X X8 := frR_trans F4 ⟨fun c h1 h2 => by unfold scrR at h1; exact k8 c (by omega) (by omega) (by omega), fun q _ => by rw [k8 0 (by omega) (by omega) (by omega)]⟩
    have K0 : KP X8 0 (tdy ν (v5 = 1) 0 C) := ⟨by rw [k8 45 (by omega) (by omega) (by omega), lC]; exact W2.2.1, by rw [lC]; exact oC.2.2, fun i x hx => by
      have hi : i < 200 := by
        have := oC.2.2
        by_cases y : i < (tdy ν (v5 = 1) 0 C).length
        · omega
        · rw [List.getElem?_eq_none (by omega)] at hx; cases hx
      rw [t3 (200 * 0 + i) (by omega), s2 50 (by omega) (by omega)]; exact q4 i x hx⟩
    have K1 : KP X8 1 (tdy ν (v5 = 1) 0 D) := ⟨by rw [k8 45 (by omega) (by omega) (by omega), lD]; exact d3.2.1, by rw [lD]; exact oD.2.2, t4⟩
    obtain ⟨r, X9, u1, u2, u3, u4⟩ := r_al191 (how := how) hW h5 m5 ⟨oA.1, oA.2.1⟩ ⟨oB.1, oB.2.1⟩ (o1 := some (vI (e : Int))) (o2 := some (vI (f : Int))) (o4 := some (vI v4)) 6 0 X8 (kl (kl (kl (some (vI 1))))) (by omega) ⟨M8, wk8 W0, wk8 W1, K0, K1⟩
    have u1' : e_X12_areLike_191 (some (vI (e : Int))) (some (vI (f : Int))) how (some (vI v4)) v5 (kl (kl (kl (some (vI 1))))) 0 0 X8 = _ := u1
    rw [g2', q_X12_areLike_118, if_pos (by decide), show wr (2 + 0) = 2 from by decide, p1', cV_t, q1', q_X12_areLike_118, if_pos (by decide), show wr (2 + 1) = 3 from by decide, s1', cV_t, t1', q_X12_areLike_118, if_neg (by decide), u1']
    refine ⟨r, X9, rfl, frR_trans F8 (frT_R u2), u3, u4.trans ?_⟩
    rw [tdy_c m5, tdy_c m5]
    constructor
    · rintro ⟨o, _, h2, h3⟩
      exact ⟨A, B, C, D, rdy_s eA eB, rdy_s eC eD, o, h2, h3⟩
    · rintro ⟨A', B', C', D', h1, h2, o, h3, h4⟩
      rw [rdy_s eA eB] at h1
      rw [rdy_s eC eD] at h2
      injection h1 with h1
      injection h1 with x1 x2
      injection h2 with h2
      injection h2 with x3 x4
      subst x1; subst x2; subst x3; subst x4
      exact ⟨o, Nat.zero_le _, h3, h4⟩
  · have g2' : e_X12_areLike_71 (some (vI (e : Int))) (some (vI (f : Int))) how (some (vI v4)) v5 1 0 none X4 = _ := g2
    rw [g2']
    refine ⟨0, X4, rfl, F4, Or.inl rfl, fun h => by omega, ?_⟩
    rintro ⟨A', B', C', D', h1, h2, _⟩
    rcases g1 with g1 | ⟨q, z1, z2, z3⟩
    · omega
    · have : q = 0 ∨ q = 1 ∨ q = 2 ∨ q = 3 := by omega
      rcases this with y | y | y | y <;> subst y
      · rw [rdy_n (Or.inl (WD_s W0 z3))] at h1; cases h1
      · rw [rdy_n (Or.inr (WD_s W1 z3))] at h1; cases h1
      · rw [rdy_n (Or.inl (WD_s W2 z3))] at h2; cases h2
      · rw [rdy_n (Or.inr (WD_s d3 z3))] at h2; cases h2
theorem r_areLike {μ ν X : Mem} {e f : Nat} {how : Int} (hW : RelW μ ν) (hS : RelS μ ν) (hM : FrM ν X) (he : (e : Int) < ν 0 5) (hf : (f : Int) < ν 0 5) : ∃ (r : Int) (X' : Mem), f_X12_areLike [vR 12 0, vI e, vI f, vI how] X = some (some (vI r), X') ∧ FrR X X' ∧ (r = 0 ∨ r = 1) ∧ (r = 1 ↔ LIKE ν how e f) := by
  rw [q_X12_areLike]
  by_cases q : how ≤ 3
  · rw [if_pos q]
    by_cases z : bAnd how 2 = 2
    · rw [if_pos z]; exact r_al29 hW hS hM he hf (Or.inl rfl) (Or.inr rfl) (by omega) (by simp [z])
    · rw [if_neg z]; exact r_al29 hW hS hM he hf (Or.inl rfl) (Or.inl rfl) (by omega) (by simp [z])
  · rw [if_neg q]
    by_cases z : bAnd how 2 = 2
    · rw [if_pos z]; exact r_al29 hW hS hM he hf (Or.inr rfl) (Or.inr rfl) (by omega) (by simp [z])
    · rw [if_neg z]; exact r_al29 hW hS hM he hf (Or.inr rfl) (Or.inl rfl) (by omega) (by simp [z])
