/-! a told PROOF is gone through once more, on both sides -/
theorem s_toldAt {μ ν : Mem} (hS : RelS μ ν) (hP : RelP μ ν) {i : Nat} (hi : (i : Int) < ν 0 16) : f_X3_toldAt [vR 3 23, vI (i : Int), vI 0] μ = some (some (vI (ν 14 i)), μ) ∧ f_X3_toldAt [vR 3 23, vI (i : Int), vI 1] μ = some (some (vI (ν 15 i)), μ) ∧ f_X3_toldAt [vR 3 23, vI (i : Int), vI 2] μ = some (some (vI (ν 16 i)), μ) := by
  have h200 := hS.2.2.2.2.1
  have h10 := hS.2.2.2.2.2.1
  obtain ⟨p1, p2, p3, -⟩ := hP i hi
  refine ⟨?_, ?_, ?_⟩
  · rw [q_X3_toldAt, if_neg (by omega), h10, if_pos hi, if_pos rfl, gk (lnC 25) 200 rfl (by omega) (by omega), show ((i : Int)).toNat = i by omega, p1]
  · rw [q_X3_toldAt, if_neg (by omega), h10, if_pos hi, if_neg (by decide), if_pos rfl, gk (lnC 26) 200 rfl (by omega) (by omega), show ((i : Int)).toNat = i by omega, p2]
  · rw [q_X3_toldAt, if_neg (by omega), h10, if_pos hi, if_neg (by decide), if_neg (by decide), gk (lnC 27) 200 rfl (by omega) (by omega), show ((i : Int)).toNat = i by omega, p3]
section AG
variable {μ ν : Mem} {e n m : Nat}
def ent (μ1 ν : Mem) (m i : Nat) : Prop := ∀ q, q < i → μ1 (211 + 1) q = ν 14 (m + q) ∧ μ1 (211 + 2) q = (if ν 14 (m + q) = 2 then -4 else ν 15 (m + q)) ∧ μ1 (211 + 3) q = ν 16 (m + q)
theorem again_loop (hW : RelW μ ν) (hS : RelS μ ν) (hP : RelP μ ν) (he : (e : Int) < ν 0 5) (h7 : ν 7 e = 2) (hn : ν 11 e = (n : Int)) (hm : ν 10 e = (m : Int)) (hne : ∀ i, i < n → ν 14 (m + i) ≤ 1 → ν 15 (m + i) ≠ (e : Int)) : ∀ (j i : Nat) (μ1 ν1 : Mem) (Ts : Nat → List Int) (o1 o5 : Option AV), i + j = n → Fr μ μ1 (rwF 211) → RwK μ1 ν 211 e i Ts → FrV ν ν1 → RT ν1 20 36 (Ts i) → ent μ1 ν m i →
    (∃ (q : Nat) (μ2 ν2 : Mem) (er : Int) (T : List Int), q < n ∧ e_X3_goesAgain_15 o1 211 (31 + 5 * e) i o5 μ1 = some (some (vI 0), up μ2 (31 + 5 * e) 7 (q : Int)) ∧ e_X12_goesThrough_7 e i ν1 = some (some (vI (q : Int)), ν2) ∧ Fr μ μ2 (rwF 211) ∧ FrV ν ν2 ∧ stp ν (ν 14 (m + q)) (ν 15 (m + q)) (ν 16 (m + q)) T = .inl er ∧ rnS ν (ν 14) (ν 15) (ν 16) (m + i) (q - i) (Ts i) = some T ∧ i ≤ q) ∨
    (∃ (μ2 ν2 : Mem) (Ts' : Nat → List Int) (o5' : Option AV), e_X3_goesAgain_15 o1 211 (31 + 5 * e) i o5 μ1 = e_X3_goesAgain_15 o1 211 (31 + 5 * e) n o5' μ2 ∧ e_X12_goesThrough_7 e i ν1 = some (some (vI (n : Int)), ν2) ∧ Fr μ μ2 (rwF 211) ∧ FrV ν ν2 ∧ RwK μ2 ν 211 e n Ts' ∧ RT ν2 20 36 (Ts' n) ∧ ent μ2 ν m n)
  | 0, i, μ1, ν1, Ts, o1, o5, hj, hF, hR, hV, hT, hE => by
    obtain rfl : i = n := by omega
    have h24 := hS.2.1
    refine Or.inr ⟨μ1, ν1, Ts, o5, rfl, ?_, hF, hV, hR, hT, hE⟩
    rw [q_X12_goesThrough_7, gk (lnR 11) 24 rfl (by omega) (by omega), show ((e : Int)).toNat = e by omega, frM_c (frV_M hV) (c := 11) (by omega), hn, if_neg (by omega)]
  | j + 1, i, μ1, ν1, Ts, o1, o5, hj, hF, hR, hV, hT, hE => by
    have h24 := hS.2.1
    have h200 := hS.2.2.2.2.1
    have hs := hS.2.2.2.2.2.2.2.2 e he
    have hs2 := hs.2.2.2.2.2.2.2.2.2.2.1 (by omega)
    have hWm : RelW μ1 ν := hW.kept (fun c _ _ => hF c (by unfold rwF; omega))
    have hSm : RelS μ1 ν := hS.kept (hF 23 (by unfold rwF; omega)) (fun c _ _ => hF c (by unfold rwF; omega))
    have hPm : RelP μ1 ν := hP.kept (hF 25 (by unfold rwF; omega)) (hF 26 (by unfold rwF; omega)) (hF 27 (by unfold rwF; omega))
    have c5 : μ1 (31 + 5 * e) 5 = (m : Int) := by rw [hF _ (by unfold rwF; omega)]; omega
    have c6 : μ1 (31 + 5 * e) 6 = (n : Int) := by rw [hF _ (by unfold rwF; omega)]; omega
    obtain ⟨t1, t2, t3⟩ := s_toldAt hSm hPm (i := m + i) (by omega)
    obtain ⟨p1, p2, p3, p4, p5, p6, p7, p8⟩ := hP (m + i) (by omega)
    have hM := frV_M hV
    rw [q_X3_goesAgain_15, c6, if_pos (show (i : Int) < (n : Int) by omega), c5, wr_eq (x := (m : Int) + (i : Int)) (by omega) (by omega), show (m : Int) + (i : Int) = ((m + i : Nat) : Int) by omega, t1, cI_t, t2, cI_t, t3, cI_t]
    rw [q_X12_goesThrough_7, gk (lnR 11) 24 rfl (by omega) (by omega), show ((e : Int)).toNat = e by omega, frM_c hM (c := 11) (by omega), hn, if_pos (show (i : Int) < (n : Int) by omega), gk (lnR 10) 24 rfl (by omega) (by omega), frM_c hM (c := 10) (by omega), hm, wr_eq (x := (m : Int) + (i : Int)) (by omega) (by omega), gk (lnR 14) 200 rfl (by omega) (by omega), gk (lnR 10) 24 rfl (by omega) (by omega), gk (lnR 15) 200 rfl (by omega) (by omega), gk (lnR 10) 24 rfl (by omega) (by omega), gk (lnR 16) 200 rfl (by omega) (by omega), show ((m : Int) + (i : Int)).toNat = m + i by omega, frM_c hM (c := 14) (by omega), frM_c hM (c := 15) (by omega), frM_c hM (c := 16) (by omega)]
    obtain ⟨r, μ2, r2, ν2, b1, b2, b3, b4, b5⟩ := lock (kind := ν 14 (m + i)) (which := ν 15 (m + i)) (place := ν 16 (m + i)) (Or.inr rfl) hWm hSm hR (by have := hR.2.2.1; omega) hV hT ⟨p4, p5⟩ (fun y z => absurd z (hne i (by omega) y))
    rw [b1, cI_t, b2, cI_t]
    rcases b5 with ⟨d1, d2, d3⟩ | ⟨T', d1, d2, d3, d4, d5, d6, d7, d8, d9⟩
    · rw [if_pos d1, gz_0, if_neg (show ¬ r2 = 0 by omega)]
      exact Or.inl ⟨i, μ2, ν2, r, Ts i, by omega, rfl, rfl, hF.trans b3, b4, d3, by rw [Nat.sub_self]; rfl, Nat.le_refl _⟩
    · obtain ⟨ν3, g1, g2, g3⟩ := s_goes d4
      rw [if_neg (show ¬ r < 0 by omega), if_pos d2, g1, cV_t, wr_eq (x := (i : Int) + 1) (by omega) (by omega), show (i : Int) + 1 = ((i + 1 : Nat) : Int) by omega]
      have IH := again_loop hW hS hP he h7 hn hm hne j (i + 1) μ2 ν3 _ o1 (some (vI ((m + i : Nat) : Int))) (by omega) (hF.trans b3) d5 (frV_trans b4 (frV_G g2)) (by unfold exT; rw [if_pos rfl]; exact g3) (fun q hq => by
        by_cases y : q = i
        · rw [y]
          exact ⟨d6, d7, d8⟩
        · obtain ⟨z1, z2, z3⟩ := d9 q (by omega)
          rw [z1, z2, z3]
          exact hE q (by omega))
      rcases IH with ⟨q, μ4, ν4, er, T, k1, k2, k3, k4, k5, k6, k7, k8⟩ | ⟨μ4, ν4, Ts', o5', k1, k2, k3, k4, k5, k6, k7⟩
      · refine Or.inl ⟨q, μ4, ν4, er, T, k1, k2, k3, k4, k5, k6, ?_, by omega⟩
        unfold exT at k7
        rw [if_pos rfl] at k7
        rw [show q - i = (q - (i + 1)) + 1 by omega]
        show (match stp ν (ν 14 (m + i)) (ν 15 (m + i)) (ν 16 (m + i)) (Ts i) with
          | .inl _ => none
          | .inr T1 => rnS ν (ν 14) (ν 15) (ν 16) (m + i + 1) (q - (i + 1)) T1) = some T
        rw [d3]
        exact k7
      · exact Or.inr ⟨μ4, ν4, Ts', o5', k1, k2, k3, k4, k5, k6, k7⟩
/-- a run that stops does not reach any end -/
theorem rnS_stop {ν : Mem} {k w p : Nat → Int} {er : Int} {T1 : List Int} : ∀ (q n i : Nat) (T : List Int), rnS ν k w p i q T = some T1 → stp ν (k (i + q)) (w (i + q)) (p (i + q)) T1 = .inl er → q < n → rnS ν k w p i n T = none
  | 0, 0, _, _, _, _, h => by omega
  | 0, n + 1, i, T, h1, h2, _ => by
    have : T = T1 := Option.some.inj h1
    subst this
    unfold rnS
    rw [Nat.add_zero] at h2
    rw [h2]
  | q + 1, 0, _, _, _, _, h => by omega
  | q + 1, n + 1, i, T, h1, h2, h3 => by
    unfold rnS at h1 ⊢
    cases hs : stp ν (k i) (w i) (p i) T with
    | inl x => rfl
    | inr T' =>
      rw [hs] at h1
      exact rnS_stop q n (i + 1) T' h1 (by rw [show i + 1 + q = i + (q + 1) by omega]; exact h2) (by omega)
/-- both sides go through e's PROOF once more -/
theorem s_again {ν1 : Mem} (hW : RelW μ ν) (hS : RelS μ ν) (hP : RelP μ ν) (he : (e : Int) < ν 0 5) (h7 : ν 7 e = 2) (hn : ν 11 e = (n : Int)) (hm : ν 10 e = (m : Int)) (hne : ∀ i, i < n → ν 14 (m + i) ≤ 1 → ν 15 (m + i) ≠ (e : Int)) (hV : FrV ν ν1) : ∃ (i : Nat) (r : Int) (μ' ν2 : Mem), f_X3_goesAgain [vR 3 23, vI (e : Int), vR 1 211] μ = some (some (vI r), μ') ∧ f_X12_goesThrough [vR 12 0, vI (e : Int)] ν1 = some (some (vI (i : Int)), ν2) ∧ FrV ν ν2 ∧ i ≤ n ∧ (r = 0 ∨ r = 1) ∧ (∀ c, ¬ rwF 211 c → c ≠ 31 + 5 * e → μ' c = μ c) ∧ (∀ k, k ≠ 7 → k ≠ 10 → μ' (31 + 5 * e) k = μ (31 + 5 * e) k) ∧ μ' (31 + 5 * e) 7 = (i : Int) ∧ (r = 1 ↔ rnS ν (ν 14) (ν 15) (ν 16) m n (sL ν e 0) = some (sL ν e 1)) ∧ (i < n → r = 0) ∧ (i = n → f_X12_isAtRight [vR 12 0, vI (e : Int)] ν2 = some (some (vI r), ν2)) ∧ (i = n → (0 ≤ μ' (31 + 5 * e) 10 ∧ μ' (31 + 5 * e) 10 < 16) ∧ ∀ v : Nat, v < 4 → (tb (μ' (31 + 5 * e) 10) v = true ↔ ptsS ν (ν 14) (ν 15) (ν 16) v m n (sL ν e 0))) ∧ (i = n → ∀ q, q < n → ν 14 (m + q) ≤ 1 → (ν 7 (ν 15 (m + q)).toNat = 0 ∨ ν 7 (ν 15 (m + q)).toNat = 2)) := by
  have h24 := hS.2.1
  have hs := hS.2.2.2.2.2.2.2.2 e he
  have hs2 := hs.2.2.2.2.2.2.2.2.2.2.1 (by omega)
  have w4 := hW.2.1
  obtain ⟨μ1, a1, a2, a3⟩ := rwK_begin (v0 := 211) (Or.inr rfl) hS he
  obtain ⟨ν3, b1, b2, b3⟩ := s_begins (ν := ν1) (e := e) (by omega) (by rw [hV.1 6 (by omega) (by omega)]; exact ⟨by have := hs.1.1; rw [show 2 * e + 0 = 2 * e by omega] at this; omega, hs.1.2.1⟩)
  rw [frM_sL (frV_M hV)] at b3
  have hp : ∀ q, q < n → 0 ≤ ν 14 (m + q) ∧ ν 14 (m + q) ≤ 3 := fun q hq => by
    have := hP (m + q) (by omega)
    exact ⟨this.2.2.2.1, this.2.2.2.2.1⟩
  rw [q_X3_goesAgain, gk (lnC 24) 24 rfl (by omega) (by omega), a1, cV_t, show ((e : Int)).toNat = e by omega, q_X12_goesThrough, b1, cV_t]
  have L := again_loop hW hS hP he h7 hn hm hne n 0 μ1 ν3 _ (some (vI (e : Int))) none (by omega) a2 a3 (frV_trans hV (frV_G b2)) b3 (fun q hq => by omega)
  rw [show ((0 : Nat) : Int) = 0 from rfl] at L
  rcases L with ⟨q, μ2, ν2, er, T, c1, c2, c3, c4, c5, c6, c7, _⟩ | ⟨μ2, ν2, Ts, o5', c1, c2, c3, c4, c5, c6, c7⟩
  · rw [Nat.add_zero, Nat.sub_zero] at c7
    have hno := rnS_stop q n m (sL ν e 0) c7 c6 c1
    refine ⟨q, 0, _, ν2, c2, c3, c5, by omega, Or.inl rfl, fun c p1 p2 => by rw [up_cell p2, c4 c p1], fun k p1 _ => by rw [up_slot p1, c4 _ (by unfold rwF; omega)], up_same _ _ _ _, ⟨fun z => by omega, fun z => by rw [hno] at z; cases z⟩, fun _ => rfl, fun z => by omega, fun z => by omega, fun z => by omega⟩
  · obtain ⟨d1, d2, d3, d4, d5, d6, d7⟩ := c5
    have cS : ∀ c, ¬ rwF 211 c → μ2 c = μ c := fun c hc => c3 c hc
    have e6 : μ2 (31 + 5 * e) 6 = (n : Int) := by rw [cS _ (by unfold rwF; omega)]; omega
    have Rup : ∀ (X : Mem) (c : Nat), c ≥ 151 → up X (31 + 5 * e) 7 (n : Int) c = X c := fun X c hc => up_cell (by omega)
    have stq : ∀ q, q < n → stp ν (ν 14 (m + q)) (ν 15 (m + q)) (ν 16 (m + q)) (Ts q) = .inr (Ts (q + 1)) ∧ μ2 (211 + 4) q = ptw ν (ν 14 (m + q)) (ν 15 (m + q)) (ν 16 (m + q)) (Ts q) := fun q hq => by
      obtain ⟨x1, x2, x3⟩ := c7 q hq
      obtain ⟨y1, y2, y3, y4⟩ := d7 q hq
      rw [x1, x2, x3] at y1 y4
      have k2 := stp_k2 (ν := ν) (kind := ν 14 (m + q)) (which := ν 15 (m + q)) (place := ν 16 (m + q)) (T := Ts q) rfl
      rw [k2.1] at y1
      rw [k2.2] at y4
      exact ⟨y1, y4⟩
    obtain ⟨pu, f1, f2⟩ := s_putting (μ := up μ2 (31 + 5 * e) 7 (n : Int)) (v0 := 211) (n := n) (Or.inr rfl) (by rw [Rup _ _ (by omega)]; exact d2) d3 (fun q hq => by
      rw [Rup _ _ (by omega), (stq q hq).2]
      have := ptw_rng hW (stq q hq).1
      omega)
    rw [Rup _ _ (by omega)] at f2
    have hS3 : RelS (up (up μ2 (31 + 5 * e) 7 (n : Int)) (31 + 5 * e) 10 pu) (up ν 12 e (n : Int)) := by
      obtain ⟨s1, s2, s3, s4, s5, s6, s7, s8, s9⟩ := hS
      have kk : ∀ c, c ≠ 31 + 5 * e → ¬ rwF 211 c → up (up μ2 (31 + 5 * e) 7 (n : Int)) (31 + 5 * e) 10 pu c = μ c := fun c p1 p2 => by rw [up_cell p1, up_cell p1, cS c p2]
      unfold RelS
      rw [kk 23 (by omega) (by unfold rwF; omega)]
      refine ⟨s1, s2, s3, s4, s5, s6, s7, s8, fun g hg => ?_⟩
      have hg' : (g : Int) < ν 0 5 := hg
      obtain ⟨q1, q2, q3, q4, q5, q6, q7, q8, q9, q10, q11, q12, q13⟩ := s9 g hg'
      have u12 : ∀ c, c ≠ 12 → up ν 12 e (n : Int) c = ν c := fun c hc => up_cell hc
      have M : FrQ ν (up ν 12 e (n : Int)) := ⟨fun c x y => u12 c (by omega), rfl, rfl, rfl⟩
      unfold okS at q1 q2 ⊢
      rw [frQ_sL M, frQ_ar M, u12 6 (by omega), u12 7 (by omega), u12 8 (by omega), u12 9 (by omega), u12 10 (by omega), u12 11 (by omega), u12 13 (by omega), u12 0 (by omega)]
      refine ⟨q1, q2, ?_, ?_, ?_⟩
      · unfold TH at q3 ⊢
        rw [kk (32 + 5 * g) (by omega) (by unfold rwF; omega), kk (32 + 5 * g + 1) (by omega) (by unfold rwF; omega)]
        exact q3
      · unfold TH at q4 ⊢
        rw [kk (34 + 5 * g) (by omega) (by unfold rwF; omega), kk (34 + 5 * g + 1) (by omega) (by unfold rwF; omega)]
        exact q4
      · by_cases z : g = e
        · subst z
          have ks : ∀ k, k ≠ 7 → k ≠ 10 → up (up μ2 (31 + 5 * g) 7 (n : Int)) (31 + 5 * g) 10 pu (31 + 5 * g) k = μ (31 + 5 * g) k := fun k p1 p2 => by rw [up_slot p2, up_slot p1, cS _ (by unfold rwF; omega)]
          rw [ks 2 (by omega) (by omega), ks 3 (by omega) (by omega), ks 4 (by omega) (by omega), ks 5 (by omega) (by omega), ks 6 (by omega) (by omega), ks 8 (by omega) (by omega)]
          exact ⟨q5, q6, q7, q8, q9, q10, q11, fun y => by omega, q13⟩
        · rw [kk (31 + 5 * g) (by omega) (by unfold rwF; omega), up_slot (c' := 12) z]
          exact ⟨q5, q6, q7, q8, q9, q10, q11, q12, q13⟩
    have M12 : FrQ ν (up ν 12 e (n : Int)) := ⟨fun c x y => up_cell (by omega), rfl, rfl, rfl⟩
    have ar : f_X1_arrived [vR 1 211] (up (up μ2 (31 + 5 * e) 7 (n : Int)) (31 + 5 * e) 10 pu) = some (some (vI (if Ts n = sL ν e 1 then 1 else 0)), up (up μ2 (31 + 5 * e) 7 (n : Int)) (31 + 5 * e) 10 pu) := by
      have := s_arrived (v0 := 211) (n := n) (e := e) (T := Ts n) (Or.inr rfl) hS3 he (by rw [up_cell (by omega), up_cell (by omega)]; exact d1) (by rw [up_cell (by omega), up_cell (by omega)]; exact d2) d3 (d5.kept (S := fun c => c = 31 + 5 * e) (fun c hc => by rw [up_cell hc, up_cell hc]) (by omega) (by omega))
      rw [frQ_sL M12] at this
      exact this
    have hr01 : (if Ts n = sL ν e 1 then (1 : Int) else 0) = 0 ∨ (if Ts n = sL ν e 1 then (1 : Int) else 0) = 1 := by split <;> simp
    have hch := chain_run (ν := ν) (k := ν 14) (w := ν 15) (p := ν 16) 0 n m Ts (fun j hj => (stq j hj).1)
    rw [d4] at hch
    have res : e_X3_goesAgain_15 (some (vI (e : Int))) 211 (31 + 5 * e) 0 none μ1 = some (some (vI (if Ts n = sL ν e 1 then 1 else 0)), up (up μ2 (31 + 5 * e) 7 (n : Int)) (31 + 5 * e) 10 pu) := by
      rw [c1, q_X3_goesAgain_15, e6, if_neg (by omega), f1, cI_t, ar, cI_t, gz_t hr01]
    refine ⟨n, _, _, ν2, res, c2, c4, Nat.le_refl _, hr01, fun c p1 p2 => by rw [up_cell p2, up_cell p2, cS c p1], fun k p1 p2 => by rw [up_slot p2, up_slot p1, cS _ (by unfold rwF; omega)], by rw [up_slot (by omega), up_same], ?_, fun z => by omega, fun _ => ?_, fun _ => ?_, fun _ q hq z => (stp_which z (stq q hq).1).2.2⟩
    · rw [hch.1]
      by_cases z : Ts n = sL ν e 1
      · rw [if_pos z, z]; simp
      · rw [if_neg z]
        exact ⟨fun y => by omega, fun y => absurd (Option.some.inj y) z⟩
    · rw [s_isAtRight (e := e) (by omega) (by rw [frM_c (frV_M c4) (by omega)]; have := hs.2.1.1; omega) c6 (isT_ne d6.1), frM_sL (frV_M c4)]
    · rw [up_same]
      have hlo := tb_lo f2.1 (n := 4) (by omega) (fun v y1 y2 => by
        cases z : tb pu v with
        | false => rfl
        | true =>
          obtain ⟨q, x1, x2⟩ := (f2.2 v y2).mp z
          rw [(stq q x1).2] at x2
          have := ptw_rng hW (stq q x1).1
          omega)
      refine ⟨hlo, fun v hv => (f2.2 v (by omega)).trans ?_⟩
      have hc2 := (chain_run (ν := ν) (k := ν 14) (w := ν 15) (p := ν 16) v n m Ts (fun j hj => (stq j hj).1)).2
      rw [d4] at hc2
      rw [hc2]
      exact exists_congr (fun q => and_congr_right (fun hq => by rw [(stq q hq).2]))
end AG
