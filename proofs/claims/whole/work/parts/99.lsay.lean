/-! a line that tells a SAYING -/
theorem r_term {μ ν0 X : Mem} {p f t : Nat} {k names ahead : Int} (hRW : RelW μ (VW X)) (ho : OLDR ν0 X) (hn : 0 ≤ names ∧ names ≤ 3) (h25 : 0 ≤ ν0 0 25 ∧ ν0 0 25 ≤ 240) (hb : ∀ i : Nat, (i : Int) < ν0 0 25 → 0 ≤ ν0 18 i) (hk : TK ν0 p f t k) (ht : (t : Int) ≤ ν0 0 25) (ok : tok1 k f t) (hT : TokR X ν0 f t k) : ∃ ν', f_X12_readTerm [vR 12 0, vI names, vI ahead] X = some (none, ν') ∧ FrK X ν' ∧ ((k = 1 ∧ okRw X names ahead (rowL ν0 f t) ∧ t - f ≤ 20 ∧ RHL ν' 19 (rowL ν0 f t) ∧ ν' 0 33 = ((t - f : Nat) : Int) ∧ HAND ν' ν0 t) ∨ (k = 1 ∧ ¬ (okRw X names ahead (rowL ν0 f t) ∧ t - f ≤ 20) ∧ ν' 0 30 = 5 ∧ ν' 0 31 = (f : Int)) ∨ (k ≠ 1 ∧ ν' 0 30 = 2 ∧ ν' 0 31 = (f : Int))) := by
  have e25 : X 0 25 = ν0 0 25 := ho.2.1 25 (by omega) (by omega) (by omega) (by omega)
  have e18 : X 18 = ν0 18 := ho.1 18 (by omega) (by omega)
  have rl := rowL_lk ho.lk f t
  have w0 := hRW.1
  have w4 := hRW.2.1
  unfold VW at w0 w4
  rw [up_same] at w0 w4
  obtain ⟨ν', x1, x2, x3⟩ := r_readTerm (ν := X) (ν1 := X) (νw := VW X) (names := names) (ahead := ahead) (k := k) (f := f) (t := t) hRW (VW_wb _) (VW_ar _) hn (by rw [e25]; exact h25) (by rw [e25, e18]; exact hb) ⟨w0, w4⟩ frK_rf (fun z => by
    have := hk.2.2.1 (Or.inl z)
    rw [z] at this
    unfold RN at this ⊢
    rw [ho.lk]
    exact this) (by rw [e25]; exact ht) ok (hT.congr (ν := X) (ν' := ν0) ho.lk.symm)
  rw [rl] at x3
  refine ⟨ν', x1, x2, ?_⟩
  rcases x3 with ⟨u1, u2, u3, u4, u5, f4, t4, k4, u6, u7, u8, u9⟩ | u | u
  · rw [e25] at u7 u8
    exact Or.inl ⟨u1, u2, u3, u4, u5, f4, t4, k4, u6.congr ho.lk, u7, u8, u9.congr ho.lk⟩
  · exact Or.inr (Or.inl u)
  · exact Or.inr (Or.inr u)
theorem okRw_4 {μ X : Mem} (hRW : RelW μ (VW X)) {names : Int} {l : List Int} : okRw X names 4 l ↔ okRw (VW X) names (X 0 23) l := by
  rw [okRw_VW]
  have w4 := hRW.2.1
  unfold VW at w4
  rw [up_same] at w4
  unfold okRw mS
  have wr := fun x => wb_range hRW x
  rw [VW_wb] at wr
  have v0 : VW X 0 0 = X 0 23 := by unfold VW; rw [up_same]
  rw [v0] at wr
  constructor
  · rintro ⟨a, b⟩
    refine ⟨fun c hc => ?_, b⟩
    have := wr c
    rcases a c hc with y | y | y | y
    · exact Or.inl y
    · exact Or.inr (Or.inl y)
    · exact Or.inr (Or.inr (Or.inl y))
    · exact Or.inr (Or.inr (Or.inr ⟨y.1, y.2.1, by have := y.2.1; omega⟩))
  · rintro ⟨a, b⟩
    refine ⟨fun c hc => ?_, b⟩
    rcases a c hc with y | y | y | y
    · exact Or.inl y
    · exact Or.inr (Or.inl y)
    · exact Or.inr (Or.inr (Or.inl y))
    · exact Or.inr (Or.inr (Or.inr ⟨y.1, y.2.1, by have := y.2.2; omega⟩))
theorem rs53Bad {X : Mem} {st : Int} (h30 : 0 < X 0 30) : e_X12_readSaying_53 st X = some (none, X) := by
  rw [q_X12_readSaying_53, r_signF h30, cV_t, if_neg (by omega), if_neg (by omega)]
theorem rs37Bad {X : Mem} {st : Int} (h30 : 0 < X 0 30) : e_X12_readSaying_37 st X = some (none, X) := by
  rw [q_X12_readSaying_37, if_neg (by omega), rs53Bad h30]
section LS
variable {μ0 ν0 μ ν : Mem} {p fL : Nat} {st : Int}
/-- one TERM on both sides: the class wants it, the reference has its token in hand -/
theorem two_term {μa νa : Mem} {t0 q f t : Nat} {k : Int} (h0 : Rel μ0 ν0) (h : TX μ0 ν0 μa νa) (ht0 : t0 = 153 ∨ t0 = 155) (hq : (q : Int) ≤ ν0 0 25) (m7 : μa 151 7 = (q : Int)) (hk : TK ν0 q f t k) (hf : (f : Int) ≤ ν0 0 25) (ht : tok1 k f t → (t : Int) ≤ ν0 0 25) (hT : TokR νa ν0 f t k) :
    ∃ r μb, f_X7_wantTerm [vR 7 151, vR 8 t0, vI 3, vI (μa 1 5)] μa = some (some (vI r), μb) ∧ FrTt t0 μa μb ∧ μb 151 6 = (f : Int) ∧
      ((r = 1 ∧ tok1 k f t ∧ νa 0 30 = 0 ∧ (∃ νb, f_X12_readTerm [vR 12 0, vI 3, vI 4] νa = some (none, νb) ∧ FrK νa νb ∧ HAND νb ν0 t ∧ RHL νb 19 (rowL ν0 f t) ∧ νb 0 33 = ((rowL ν0 f t).length : Int)) ∧ isT (ar νa) 1 (rowL ν0 f t) ∧ LT (rowL ν0 f t) ∧ (rowL ν0 f t).length ≤ 20 ∧ TH μb t0 (rowL ν0 f t) ∧ μb 151 7 = (t : Int) ∧ μb 151 9 = μa 151 9 ∧ (t : Int) ≤ ν0 0 25) ∨
       (r = 0 ∧ ∃ c νb, 0 < c ∧ μb 151 9 = c ∧ FrK νa νb ∧ νb 0 30 = c ∧ νb 0 31 = (f : Int) ∧ ((νa 0 30 = 0 ∧ f_X12_readTerm [vR 12 0, vI 3, vI 4] νa = some (none, νb)) ∨ (0 < νa 0 30 ∧ νb = νa)))) := by
  have hT0 := h0.1
  have h25 : 0 ≤ ν0 0 25 ∧ ν0 0 25 ≤ 240 := ⟨hT0.2.1, hT0.2.2.1⟩
  have hb : ∀ i : Nat, (i : Int) < ν0 0 25 → 0 ≤ ν0 18 i := fun i hi => (hT0.2.2.2.2 i hi).1
  have m15 : μa 1 5 = νa 0 23 := by
    have := h.2.2.1.2.2.2.1
    unfold VW at this
    rw [up_same] at this
    exact this
  obtain ⟨f3, t3, k3, μ3, r3, i1, i2, i3, i4, i5, i6⟩ := s_wantTerm (t0 := t0) (names := 3) (ahead := μa 1 5) ht0 h.2.2.1 (by omega) (h.1.TC hT0) hq m7
  obtain ⟨rfl, rfl, rfl⟩ := i1.uniq hk
  refine ⟨r3, μ3, i5, i3, i4, ?_⟩
  have good : tok1 k3 f3 t3 → νa 0 30 = 0 := fun ok => by
    rcases hT with ⟨_, q, _⟩ | ⟨q, _⟩
    · exact q
    · exact absurd ok q
  rcases i6 with ⟨rfl, l1, l2, l3, l4, l5, l6, l7, l8⟩ | ⟨rfl, l1⟩
  · rw [m15] at l3
    obtain ⟨νb, o1, o2, o3⟩ := r_term (ahead := 4) (names := 3) h.2.2.1 h.2.1 (by omega) h25 hb hk (ht l1) l1 hT
    have hm := rowL_mem (hk.2.2.1 (Or.inl l2) |> fun z => by rw [l2] at z; exact z)
    rcases o3 with ⟨_, u2, u3, u4, u5, hand⟩ | ⟨_, q, _⟩ | ⟨q, _⟩
    · exact Or.inl ⟨rfl, l1, good l1, ⟨νb, o1, o2, hand, u4, by rw [rowL_len]; exact u5⟩, u2.2, hm, by rw [rowL_len]; exact u3, l5, l6, l7, l8⟩
    · exact absurd ⟨(okRw_4 h.2.2.1).mpr l3, l4⟩ q
    · exact absurd l2 q
  · refine Or.inr ⟨rfl, ?_⟩
    rcases l1 with ⟨l1, l2, l3, l4⟩ | ⟨l1, l2, l3⟩ | ⟨l1, l2⟩
    · rw [m15] at l3
      obtain ⟨νb, o1, o2, o3⟩ := r_term (ahead := 4) (names := 3) h.2.2.1 h.2.1 (by omega) h25 hb hk (ht l1) l1 hT
      rcases o3 with ⟨_, u2, u3, _⟩ | ⟨_, _, u1, u2⟩ | ⟨q, _⟩
      · exact absurd ⟨(okRw_4 h.2.2.1).mp u2, u3⟩ l3
      · exact ⟨5, νb, by decide, l4, o2, u1, u2, Or.inl ⟨good l1, o1⟩⟩
      · exact absurd l2 q
    · obtain ⟨νb, o1, o2, o3⟩ := r_term (ahead := 4) (names := 3) h.2.2.1 h.2.1 (by omega) h25 hb hk (ht l1) l1 hT
      rcases o3 with ⟨q, _⟩ | ⟨q, _⟩ | ⟨_, u1, u2⟩
      · exact absurd q l2
      · exact absurd q l2
      · exact ⟨2, νb, by decide, l3, o2, u1, u2, Or.inl ⟨good l1, o1⟩⟩
    · rcases hT with ⟨q, _⟩ | ⟨_, q1, q2, _⟩
      · exact absurd q l1
      · exact ⟨1, νa, by decide, l2, frK_rf, q1, q2, Or.inr ⟨by omega, rfl⟩⟩
theorem line_say (h0 : Rel μ0 ν0) (h : TX μ0 ν0 μ ν) (hst : st = 0 ∨ st = 1) (hp : (p : Int) ≤ ν0 0 25) (m7 : μ 151 7 = (p : Int)) (m6 : μ 151 6 = (fL : Int)) (hfL : (fL : Int) ≤ ν0 0 25) (m9 : μ 151 9 = 0) (n26 : ν 0 26 = (p : Int)) (n27 : ν 0 27 = (fL : Int)) (n30 : ν 0 30 = 0) : ∃ r μ' νa ν', f_X7_tellSaying [vR 7 151, vI st, vI (ν0 0 21), vI (ν0 0 22)] μ = some (some (vI r), μ') ∧ f_X12_readSaying [vR 12 0, vI st] ν = some (none, νa) ∧ f_X12_readSign [vR 12 0, vI 59] νa = some (none, ν') ∧ OUT μ0 ν0 p r μ' ν' := by
  have hT0 := h0.1
  have h4 : ν0 0 0 ≤ 4 := h0.2.2.1.2.1
  have h24 : ν0 0 5 ≤ 24 := h0.2.2.2.1.2.1
  have h25 : 0 ≤ ν0 0 25 ∧ ν0 0 25 ≤ 240 := ⟨hT0.2.1, hT0.2.2.1⟩
  have hb : ∀ i : Nat, (i : Int) < ν0 0 25 → 0 ≤ ν0 18 i := fun i hi => (hT0.2.2.2.2 i hi).1
  obtain ⟨S, hS⟩ : ∃ S : Nat, ν 0 34 = (S : Int) := ⟨(ν 0 34).toNat, by have := h.2.2.2.2.1; have := h0.2.2.2.1.1; omega⟩
  have m239 : μ 23 9 = (S : Int) := by rw [h.2.2.2.2.2.2.1]; exact hS
  have S24 := h.2.2.2.2.2.1
  -- a bad end
  have BAD : ∀ (μ' ν' : Mem) (f : Nat) (c : Int), FrTx μ μ' → OLDR ν0 ν' → 0 < c → (f : Int) ≤ ν0 0 25 → μ' 151 6 = (f : Int) → μ' 151 9 = c → ν' 0 30 = c → ν' 0 31 = (f : Int) → OUT μ0 ν0 p 0 μ' ν' := fun μ' ν' f c p1 p2 p3 p4 p5 p6 p7 p8 => by
    obtain ⟨q1, _, q3, q4⟩ := (h.bad).fr h24 h4 p1 (frK_rf (ν := ν))
    exact Or.inr ⟨rfl, ⟨q1, p2, q3, q4⟩, f, c, p3, p4, p5, p6, p7, p8⟩
  by_cases full : ¬ S < 24
  · rw [q_X7_tellSaying, m239, if_neg (by omega), q_X7_fails, gz_0, cI_t, gz_0, q_X12_readSaying, hS, if_neg (by omega), q_X12_readSaying_15, q_X12_wants, if_pos rfl, if_pos n30, cV_t, up_slot (show (27 : Nat) ≠ 30 by omega), n27]
    have e30 : up (up ν 0 30 6) 0 31 (fL : Int) 0 30 = 6 := by rw [up_slot (by omega), up_same]
    rw [n0 (by rw [e30]; decide), cV_t, e30, if_neg (by decide), rs37Bad (by rw [e30]; decide)]
    exact ⟨0, _, _, _, rfl, rfl, r_signF (by rw [e30]; decide), BAD _ _ fL 6 (frTx_T (frTp_up (by omega))) (h.2.1.fr (frK_trans (frK_N (frN_up (by omega))) (frK_N (frN_up (by omega))))) (by decide) hfL (by rw [up_slot (by omega)]; exact m6) (up_same _ _ _ _) e30 (up_same _ _ _ _)⟩
  replace full := Decidable.not_not.mp full
  obtain ⟨ν1, b1, b2, f1, t1, k1, b3, b4, b5, b6⟩ := n1 h.2.1 h25 hb hp n26 n30
  have TX1 : TX μ0 ν0 μ ν1 := h.fr h24 h4 frTx_rf (frK_N b2)
  obtain ⟨r1, μ2, c1, c2, c3, c4⟩ := two_term h0 TX1 (Or.inl rfl) hp m7 b3 b4 b5 b6
  have F2 : FrTx μ μ2 := frTx_t (Or.inl rfl) c2
  rw [q_X7_tellSaying, m239, if_pos (show (S : Int) < 24 by omega), c1, cI_t, q_X12_readSaying, hS, if_pos (show (S : Int) < 24 by omega), q_X12_readSaying_15, q_X12_wants, if_neg ten, cV_t, b1, cV_t]
  rcases c4 with ⟨rfl, d1, d2, ⟨ν2, d3, d4, d5, d6, d7⟩, d8, d9, d10, d11, d12, d13, d14⟩ | ⟨rfl, c, ν2, d1, d2, d3, d4, d5, d6⟩
  · -- the first side stands
    rw [if_neg ten, d2, if_pos rfl, d3, cV_t]
    have TX2 : TX μ0 ν0 μ2 ν2 := TX1.fr h24 h4 F2 d4
    obtain ⟨f3, t3, k3, e1, e2, e3, e4⟩ := d5
    obtain ⟨f3', t3', k3', μ3, g1, g2, g3, g4, g5⟩ := s_want (TX2.1.TC hT0) d14 d12 3
    obtain ⟨rfl, rfl, rfl⟩ := g1.uniq e1
    have F3 : FrTx μ μ3 := frTx_trans F2 (frTx_T g3)
    by_cases tk : tok1 k3' f3' t3'
    · have p30 : ν2 0 30 = 0 := by
        rcases e4 with ⟨_, q, _⟩ | ⟨q, _⟩
        · exact q
        · exact absurd tk q
      have hS2 : ν2 0 34 = (S : Int) := by rw [d4.2 34 (by omega) (by omega), b2.2 34 (by omega)]; exact hS
      obtain ⟨ν3, i1, i2, i3, i4, i5⟩ := r_keepsS (ν := ν2) (e := S) (k := 0) (l := rowL ν0 f1 t1) full (by omega) d10 d7 d6
      have i1' : f_X12_keepsSide [vR 12 0, vI (S : Int), vI 0] ν2 = _ := i1
      have TX3 : TX μ0 ν0 μ3 ν3 := TX.side (k := 0) (TX2.fr h24 h4 (frTx_T g3) frK_rf) hS2 (by omega) i2 i3 i5
      have e4' : TokR ν3 ν0 f3' t3' k3' := by
        unfold TokR at e4 ⊢
        rw [i2 0 (by omega) (by omega)]
        exact e4
      have kr := cls_rng (lk ν0 f3')
      rw [← e1.2.1] at kr
      obtain ⟨ν4, j1, j2, j3⟩ := r_sign (v := 61) (Or.inr rfl) TX3.2.1 h25 hb e3 kr e4'
      rw [q_X12_readSaying_37, p30, if_pos rfl, hS2, i1', cV_t, q_X12_readSaying_53, j1, cV_t]
      have O4 : OLDR ν0 ν4 := TX3.2.1.fr (frK_N j2)
      rcases g5 with ⟨D1, D2, D3, D4, D5, D6, D7⟩ | ⟨D1, D2, D3, D4⟩ | ⟨D1, _⟩
      · rcases j3 with ⟨_, _, hd⟩ | ⟨_, q, _⟩ | ⟨q, _⟩
        · -- the second side
          rw [D3, cI_t, if_neg ten]
          obtain ⟨f5, t5, k5, w1, w2, w3, w4⟩ := hd
          have TX4 : TX μ0 ν0 μ3 ν4 := TX3.fr h24 h4 frTx_rf (frK_N j2)
          obtain ⟨r5, μ5, x1, x2, x3, x4⟩ := two_term h0 TX4 (Or.inr rfl) D7 D5 w1 w2 w3 w4
          have F5 : FrTx μ μ5 := frTx_trans F3 (frTx_t (Or.inr rfl) x2)
          rw [x1, cI_t]
          rcases x4 with ⟨rfl, y1, y2, ⟨ν5, y3, y4, y5, y6, y7⟩, y8, y9, y10, y11, y12, y13, y14⟩ | ⟨rfl, c, ν5, y1, y2, y3, y4, y5, y6⟩
          · rw [if_neg ten, y2, if_pos rfl, y3, cV_t]
            have TX5 : TX μ0 ν0 μ5 ν5 := TX4.fr h24 h4 (frTx_t (Or.inr rfl) x2) y4
            obtain ⟨f6, t6, k6, z1, z2, z3, z4⟩ := y5
            obtain ⟨f6', t6', k6', μ6, v1, v2, v3, v4, v5⟩ := s_want (TX5.1.TC hT0) y14 y12 4
            obtain ⟨rfl, rfl, rfl⟩ := v1.uniq z1
            have F6 : FrTx μ μ6 := frTx_trans F5 (frTx_T v3)
            by_cases tk6 : tok1 k6' f6' t6'
            · have q30 : ν5 0 30 = 0 := by
                rcases z4 with ⟨_, q, _⟩ | ⟨q, _⟩
                · exact q
                · exact absurd tk6 q
              have z34 : ν4 0 34 = (S : Int) := by rw [j2.2 34 (by omega), i2 0 (by omega) (by omega)]; exact hS2
              have hS5 : ν5 0 34 = (S : Int) := by rw [y4.2 34 (by omega) (by omega)]; exact z34
              obtain ⟨ν6, A1, A2, A3, A4, A5⟩ := r_keepsS (ν := ν5) (e := S) (k := 1) (l := rowL ν0 f5 t5) full (by omega) y10 y7 y6
              have A1' : f_X12_keepsSide [vR 12 0, vI (S : Int), vI 1] ν5 = _ := A1
              have TX6 : TX μ0 ν0 μ6 ν6 := TX.side (k := 1) (TX5.fr h24 h4 (frTx_T v3) frK_rf) hS5 (by omega) A2 A3 A5
              have hS6 : ν6 0 34 = (S : Int) := by rw [A2 0 (by omega) (by omega)]; exact hS5
              -- both sides in the reference
              have s50 : sL ν5 S 0 = rowL ν0 f1 t1 := by rw [frK_sL y4, frK_sL (frK_N j2)]; exact i4
              have l5 : (ν5 6 (2 * S + 0)).toNat ≤ 20 := by
                rw [y4.1 6 (by omega) (by omega), j2.1 6 (by omega), i3, if_pos rfl]
                omega
              have s60 : sL ν6 S 0 = rowL ν0 f1 t1 := by
                rw [sL_far (ν := ν5) (e := S) (k := 1) (g := S) (j := 0) l5 (by omega) (by omega) (by omega) (by rw [A3, if_neg (by omega)]) A5]
                exact s50
              have l60 : ν6 6 (2 * S + 0) = ((rowL ν0 f1 t1).length : Int) := by rw [A3, if_neg (by omega), y4.1 6 (by omega) (by omega), j2.1 6 (by omega), i3, if_pos rfl]
              have l61 : ν6 6 (2 * S + 1) = ((rowL ν0 f5 t5).length : Int) := by rw [A3, if_pos rfl]
              have ar6 : ar ν6 = ar ν4 := by
                have : ar ν6 = ar ν5 := by
                  funext x
                  unfold ar wb
                  rw [A2 0 (by omega) (by omega), A2 1 (by omega) (by omega), A2 2 (by omega) (by omega)]
                rw [this, frK_ar y4]
              have ar4 : ar ν4 = ar ν1 := by
                rw [frK_ar (frK_N j2)]
                have : ar ν3 = ar ν2 := by
                  funext x
                  unfold ar wb
                  rw [i2 0 (by omega) (by omega), i2 1 (by omega) (by omega), i2 2 (by omega) (by omega)]
                rw [this, frK_ar d4]
              have pos1 : 0 < (rowL ν0 f1 t1).length := List.length_pos_iff.mpr (isT_ne d8)
              have pos5 : 0 < (rowL ν0 f5 t5).length := List.length_pos_iff.mpr (isT_ne y8)
              have ok0 : okS ν6 S 0 := by
                unfold okS
                rw [s60, l60, ar6, ar4]
                exact ⟨by omega, by omega, d9, d8⟩
              have ok1 : okS ν6 S 1 := by
                unfold okS
                rw [A4, l61, ar6]
                exact ⟨by omega, by omega, y9, y8⟩
              -- the class
              have TH1 : TH μ6 153 (rowL ν0 f1 t1) := by
                refine d11.kept (S := fun c => c = 151 ∨ c = 155 ∨ c = 156) (fun c hc => ?_) (by omega) (by omega)
                rw [v3.1 c (by omega), x2.1 c (by omega) (by omega) (by omega), g3.1 c (by omega)]
              have TH2 : TH μ6 155 (rowL ν0 f5 t5) := y11.kept (S := fun c => c = 151) (fun c hc => v3.1 c hc) (by omega) (by omega)
              have m239' : μ6 23 9 = (S : Int) := by rw [TX6.2.2.2.2.2.2.1]; exact hS6
              obtain ⟨μ7, B1, B2, B3, B4, B5, B6, B7, B8, B9⟩ := s_addS (st := st) (hand := ν0 0 21) (day := ν0 0 22) full m239' TH1 TH2 d10 y10 (fun c hc => by have := d9 c hc; omega) (fun c hc => by have := y9 c hc; omega)
              have TX7 : TX μ0 ν0 μ7 (up (up ν6 7 S st) 0 34 ((S + 1 : Nat) : Int)) := TX.addS TX6 h4 h24 hS6 full ok0 ok1 hst B2 B3 (by rw [s60]; exact B4) (by rw [A4]; exact B5) B6 B7 B8 B9
              have refE : cV (f_X12_keepsSide [vR 12 0, vI (ν5 0 34), vI 1] ν5) (fun μ4 => gi (μ4 0 34) (lnR 7) (some (none, up (up μ4 7 (μ4 0 34).toNat st) 0 34 (wr (((up μ4 7 (μ4 0 34).toNat st) 0 34) + 1))))) = some (none, up (up ν6 7 S st) 0 34 ((S + 1 : Nat) : Int)) := by
                rw [hS5, A1', cV_t, hS6, gk (lnR 7) 24 rfl (by omega) (by omega), show ((S : Int)).toNat = S by omega, up_cell (c := 7) (c' := 0) (by omega), hS6, wr_eq (by omega) (by omega), show (S : Int) + 1 = ((S + 1 : Nat) : Int) by omega]
              have z4' : TokR (up (up ν6 7 S st) 0 34 ((S + 1 : Nat) : Int)) ν0 f6' t6' k6' := by
                unfold TokR at z4 ⊢
                have e : ∀ k, k ≠ 34 → up (up ν6 7 S st) 0 34 ((S + 1 : Nat) : Int) 0 k = ν5 0 k := fun k hk => by rw [up_slot hk, up_cell (by omega), A2 0 (by omega) (by omega)]
                rw [e 30 (by omega), e 26 (by omega), e 27 (by omega), e 28 (by omega), e 29 (by omega), e 31 (by omega)]
                exact z4
              have kr6 := cls_rng (lk ν0 f6')
              rw [← z1.2.1] at kr6
              obtain ⟨ν8, C1, C2, C3⟩ := r_sign (v := 59) (Or.inl rfl) TX7.2.1 h25 hb z3 kr6 z4'
              rw [q30, if_pos rfl, refE]
              rcases v5 with ⟨E1, E2, E3, E4, E5, E6, E7⟩ | ⟨E1, E2, E3, E4⟩ | ⟨E1, _⟩
              · rcases C3 with ⟨_, _, hd⟩ | ⟨_, q, _⟩ | ⟨q, _⟩
                · rw [E3, cI_t, if_neg ten, B1, cV_t, gz_1]
                  have q9 : μ7 151 9 = 0 := by rw [B2 151 (by omega) (by omega), E6, y13, D6, d13]; exact m9
                  have q7 : μ7 151 7 = (t6' : Int) := by rw [B2 151 (by omega) (by omega)]; exact E5
                  exact ⟨1, μ7, _, ν8, rfl, rfl, C1, Or.inl ⟨rfl, TX7.fr h24 h4 frTx_rf (frK_N C2), q9, t6', by have l1 := b3.le; have l2 := e1.le; have l3 := w1.le; have l4 := z1.le; omega, E7, q7, hd⟩⟩
                · exact absurd E2 q
                · exact absurd E1 q
              · rcases C3 with ⟨_, q, _⟩ | ⟨_, _, q1, q2⟩ | ⟨q, _⟩
                · exact absurd q E2
                · rw [E3, cI_t, if_pos rfl, gz_0]
                  exact ⟨0, μ6, _, ν8, rfl, rfl, C1, BAD μ6 ν8 f6' 2 F6 (TX7.2.1.fr (frK_N C2)) (by decide) z2 v4 E4 q1 q2⟩
                · exact absurd E1 q
              · exact absurd tk6 E1
            · have q30 : ν5 0 30 = 1 ∧ ν5 0 31 = (f6' : Int) := by
                rcases z4 with ⟨q, _⟩ | ⟨_, q1, q2, _⟩
                · exact absurd q tk6
                · exact ⟨q1, q2⟩
              rw [q30.1, if_neg (by decide)]
              rcases v5 with ⟨E1, _⟩ | ⟨E1, _⟩ | ⟨E1, E2, E3⟩
              · exact absurd E1 tk6
              · exact absurd E1 tk6
              · rw [E2, cI_t, if_pos rfl, gz_0]
                exact ⟨0, μ6, ν5, ν5, rfl, rfl, r_signF (by rw [q30.1]; decide), BAD μ6 ν5 f6' 1 F6 (O4.fr y4) (by decide) z2 v4 E3 q30.1 q30.2⟩
          · rw [if_pos rfl, gz_0]
            rcases y6 with ⟨q1, q2⟩ | ⟨q1, q2⟩
            · rw [q1, if_pos rfl, q2, cV_t, y4, if_neg (by omega)]
              exact ⟨0, μ5, ν5, ν5, rfl, rfl, r_signF (by rw [y4]; exact y1), BAD μ5 ν5 f5 c F5 (O4.fr y3) y1 w2 x3 y2 y4 y5⟩
            · rw [if_neg (by omega), if_neg (by omega)]
              subst q2
              exact ⟨0, μ5, ν5, ν5, rfl, rfl, r_signF q1, BAD μ5 ν5 f5 c F5 O4 y1 w2 x3 y2 y4 y5⟩
        · exact absurd D2 q
        · exact absurd D1 q
      · rcases j3 with ⟨_, q, _⟩ | ⟨_, _, q1, q2⟩ | ⟨q, _⟩
        · exact absurd q D2
        · rw [D3, cI_t, if_pos rfl, gz_0, q1, if_neg (by decide), if_neg (by decide)]
          exact ⟨0, μ3, ν4, ν4, rfl, rfl, r_signF (by rw [q1]; decide), BAD μ3 ν4 f3' 2 F3 O4 (by decide) e2 g4 D4 q1 q2⟩
        · exact absurd D1 q
      · exact absurd tk D1
    · have p30 : ν2 0 30 = 1 ∧ ν2 0 31 = (f3' : Int) := by
        rcases e4 with ⟨q, _⟩ | ⟨_, q1, q2, _⟩
        · exact absurd q tk
        · exact ⟨q1, q2⟩
      rw [rs37Bad (by rw [p30.1]; decide)]
      rcases g5 with ⟨E1, _⟩ | ⟨E1, _⟩ | ⟨E1, E2, E3⟩
      · exact absurd E1 tk
      · exact absurd E1 tk
      · rw [E2, cI_t, if_pos rfl, gz_0]
        exact ⟨0, μ3, ν2, ν2, rfl, rfl, r_signF (by rw [p30.1]; decide), BAD μ3 ν2 f3' 1 F3 TX2.2.1 (by decide) e2 g4 E3 p30.1 p30.2⟩
  · rw [if_pos rfl, gz_0]
    have O2 : OLDR ν0 ν2 := TX1.2.1.fr d3
    rcases d6 with ⟨q1, q2⟩ | ⟨q1, q2⟩
    · rw [q1, if_pos rfl, q2, cV_t, rs37Bad (by omega)]
      exact ⟨0, μ2, ν2, ν2, rfl, rfl, r_signF (by omega), BAD μ2 ν2 f1 c F2 O2 d1 b4 c3 d2 d4 d5⟩
    · subst q2
      rw [if_neg (by omega), rs37Bad q1]
      exact ⟨0, μ2, ν2, ν2, rfl, rfl, r_signF q1, BAD μ2 ν2 f1 c F2 O2 d1 b4 c3 d2 d4 d5⟩
end LS
