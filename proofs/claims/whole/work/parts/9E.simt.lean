/-! text: the bad end, and text -/
theorem s_keep6 {ν μ0 : Mem} {W0 W : Nat} (hW : RelW μ0 ν) (hWn : ν 0 0 = (W : Int)) (h0 : W0 ≤ W) : ∀ (j i : Nat) (μ : Mem), i + j = W → W0 ≤ i → (∀ c, c ≠ 4 → μ c = μ0 c) → (∀ k : Nat, k < 4 → μ 4 k = if (W0 : Int) ≤ wb ν k ∧ wb ν k < (i : Int) then -4 else wb ν k) → ∃ μ', e_X9_keep_6 W0 i μ = some (none, μ') ∧ (∀ c, c ≠ 1 → c ≠ 4 → μ' c = μ0 c) ∧ (∀ k, μ' 1 k = if k = 5 then (W0 : Int) else μ0 1 k) ∧ ∀ k : Nat, k < 4 → μ' 4 k = if (W0 : Int) ≤ wb ν k then -4 else wb ν k
  | 0, i, μ, hj, hi, hf, hE => by
    obtain rfl : i = W := by omega
    have w4 := hW.2.1
    have m5 : μ 1 5 = (i : Int) := by rw [hf 1 (by omega), hW.2.2.2.1]; exact hWn
    rw [q_X9_keep_6, m5, if_neg (by omega), show mMin (i : Int) (mMax (W0 : Int) 0) = (W0 : Int) by unfold mMin mMax; split <;> split <;> omega]
    refine ⟨_, rfl, fun c p q => by rw [up_cell p]; exact hf c q, fun k => by rw [up_if, hf 1 (by omega)], fun k hk => ?_⟩
    rw [up_cell (by omega), hE k hk]
    have := wb_range hW (k : Int)
    by_cases z : (W0 : Int) ≤ wb ν k
    · rw [if_pos z, if_pos (by omega)]
    · rw [if_neg z, if_neg (by omega)]
  | j + 1, i, μ, hj, hi, hf, hE => by
    have w4 := hW.2.1
    have hiW : (i : Int) < ν 0 0 := by omega
    obtain ⟨ok, m2, _⟩ := hW.2.2.2.2.1 i hiW
    have c0 := ok.1
    have c3 := ok.2.1
    have m5 : μ 1 5 = (W : Int) := by rw [hf 1 (by omega), hW.2.2.2.1]; exact hWn
    have mi : μ 2 i = ν 1 i := by rw [hf 2 (by omega)]; exact m2
    have wbi := wb_of hW hiW
    rw [q_X9_keep_6, m5, if_pos (by omega), gk (lnC 2) 4 rfl (by omega) (by omega), show ((i : Int)).toNat = i by omega, mi, gk (lnC 4) 4 rfl (by omega) (by omega), wr_eq (x := (i : Int) + 1) (by omega) (by omega), show (i : Int) + 1 = ((i + 1 : Nat) : Int) by omega]
    refine s_keep6 hW hWn h0 j (i + 1) _ (by omega) (by omega) (fun c hc => by rw [up_cell hc]; exact hf c hc) (fun k hk => ?_)
    rw [up_if]
    by_cases z : k = (ν 1 i).toNat
    · have : (k : Int) = ν 1 i := by omega
      rw [if_pos z, this, wbi, if_pos (by omega)]
    · rw [if_neg z, hE k hk]
      have ne : wb ν k ≠ (i : Int) := fun y => by
        rcases wb_range hW (k : Int) with q | ⟨q1, q2, q3⟩
        · omega
        · rw [y, show ((i : Int)).toNat = i by omega] at q3
          omega
      by_cases y : (W0 : Int) ≤ wb ν k ∧ wb ν k < (i : Int)
      · rw [if_pos y, if_pos (by omega)]
      · rw [if_neg y, if_neg (by omega)]
theorem vS_nu {ν ν' : Mem} (hw : wb ν' = wb ν) {th no x y z : Int} {tb wt : Nat → Int} : ∀ l : List Int, (∀ c ∈ l, c = 12 ∨ (c = 14 ∨ 23 ≤ c) ∨ ν' 2 (wb ν c).toNat = ν 2 (wb ν c).toNat) → vS ν' th no tb wt x y z l = vS ν th no tb wt x y z l
  | [], _ => rfl
  | c :: r, h => by
    have ih := vS_nu hw (th := th) (no := no) (x := x) (y := y) (z := z) (tb := tb) (wt := wt) r (fun d hd => h d (List.mem_cons_of_mem _ hd))
    unfold vS
    rw [ih, hw]
    dsimp only
    rcases h c (List.mem_cons_self ..) with q | q | q
    · rw [if_pos q, if_pos q]
    · by_cases q2 : c = 12
      · rw [if_pos q2, if_pos q2]
      · rw [if_neg q2, if_neg q2, if_pos q, if_pos q]
    · rw [q]
theorem gd_old {μ ν ν' : Mem} (hW : RelW μ ν) (hS : RelS μ ν) (hw : wb ν' = wb ν) (h0 : ν' 0 0 = ν 0 0) (h5 : ν' 0 5 = ν 0 5) (h1 : ∀ w : Nat, (w : Int) < ν 0 0 → ν' 2 w = ν 2 w ∧ mL ν' w = mL ν w) (h2 : ∀ e : Nat, (e : Int) < ν 0 5 → ν' 7 e = ν 7 e ∧ ∀ k, k ≤ 1 → sL ν' e k = sL ν e k) (n num : Nat) : gdW ν' n num ↔ gdW ν n num := by
  have V : ∀ {th no x y z : Int} {tb wt : Nat → Int} (l : List Int), (∀ c ∈ l, 0 ≤ ar ν c) → vT ν' th no tb wt x y z l = vT ν th no tb wt x y z l := fun l hl => by
    unfold vT
    rw [vS_nu hw l (fun c hc => by
      rcases sgn hW (hl c hc) with ⟨q, _⟩ | ⟨q, _, _⟩ | ⟨_, _, w, q2, q3, _⟩
      · exact Or.inl q
      · exact Or.inr (Or.inl q)
      · refine Or.inr (Or.inr ?_)
        rw [q2, show ((w : Int)).toNat = w by omega]
        exact (h1 w q3).1)]
  have W : ∀ w : Nat, (w : Int) ≤ ν 0 0 → wtW ν' n num w = wtW ν n num w := fun w => by
    induction w with
    | zero => intro _; rfl
    | succ w ih =>
      intro hw'
      funext j
      have ok := (hW.2.2.2.2.1 w (by omega)).1.2.2.2.2.2.2.1
      unfold wtW
      rw [ih (by omega), (h1 w (by omega)).2, V _ (fun c hc => isT_ar _ _ ok c hc)]
  have hd : ∀ e : Nat, (e : Int) < ν 0 5 → (hdW ν' n num e ↔ hdW ν n num e) := fun e he => by
    have o0 := okT_sL hS he (show 0 ≤ 1 by omega)
    have o1 := okT_sL hS he (show 1 ≤ 1 by omega)
    unfold hdW
    rw [h0, W (ν 0 0).toNat (by have := hW.1; omega), (h2 e he).2 0 (by omega), (h2 e he).2 1 (by omega)]
    constructor
    · intro q x y z hx hy hz
      have := q x y z hx hy hz
      rw [V _ (fun c hc => isT_ar _ _ o0.1 c hc), V _ (fun c hc => isT_ar _ _ o1.1 c hc)] at this
      exact this
    · intro q x y z hx hy hz
      rw [V _ (fun c hc => isT_ar _ _ o0.1 c hc), V _ (fun c hc => isT_ar _ _ o1.1 c hc)]
      exact q x y z hx hy hz
  unfold gdW
  rw [h5]
  exact ⟨fun q e he h7 => (hd e he).mp (q e he (by rw [(h2 e he).1]; exact h7)), fun q e he h7 => (hd e he).mpr (q e he (by rw [← (h2 e he).1]; exact h7))⟩
theorem bad_end {μ0 ν0 μ ν : Mem} {f : Nat} {c : Int} (h0 : Rel μ0 ν0) (h : TXB μ0 ν0 μ ν) (hf : f ≤ 240) (m6 : μ 151 6 = (f : Int)) (m9 : μ 151 9 = c) (n30 : ν 0 30 = c) : ∃ μ', kpC (ν0 0 0) (ν0 0 5) μ = some (some (vI (-10 - (f : Int))), μ') ∧ Rel μ' (up (up ν 0 25 0) 0 23 (ν 0 0)) := by
  obtain ⟨hT, hH, hW, hS, hP, hI, hD, hL, hG, hC⟩ := id h0
  obtain ⟨oc, orr, ⟨νw, w1, w2, w3⟩, m239⟩ := h
  have h24 := hS.2.1
  have h4 := hW.2.1
  obtain ⟨W0, hW0⟩ : ∃ W0 : Nat, ν0 0 0 = (W0 : Int) := ⟨(ν0 0 0).toNat, by have := hW.1; omega⟩
  obtain ⟨W, hWW⟩ : ∃ W : Nat, νw 0 0 = (W : Int) := ⟨(νw 0 0).toNat, by have := w1.1; omega⟩
  obtain ⟨S0, hS0⟩ : ∃ S0 : Nat, ν0 0 5 = (S0 : Int) := ⟨(ν0 0 5).toNat, by have := hS.1; omega⟩
  have w1' : RelW (up μ 151 8 0) νw := w1.kept (fun x _ _ => up_cell (by omega))
  obtain ⟨μ1, a1, a2, a3, a4⟩ := s_keep6 w1' hWW (by omega) (W - W0) W0 (up μ 151 8 0) (by omega) (Nat.le_refl _) (fun _ _ => rfl) (fun k hk => by rw [w1'.2.2.2.2.2.2 k hk, if_neg (by omega)])
  have U1 : ∀ x, x ≠ 1 → x ≠ 4 → x ≠ 151 → μ1 x = μ x := fun x p q r => by rw [a2 x p q, up_cell r]
  have m239' : μ1 23 9 = μ 23 9 := by rw [U1 23 (by omega) (by omega) (by omega)]
  obtain ⟨F, hF⟩ : ∃ F, F = up (up ν 0 25 0) 0 23 (ν 0 0) := ⟨_, rfl⟩
  have z0 : ν 0 0 = ν0 0 0 := orr.2.1 0 (by omega) (by omega) (by omega) (by omega)
  have Fc : ∀ x, x ≠ 0 → F x = ν x := fun x hx => by rw [hF, up_cell hx, up_cell hx]
  have F0 : ∀ k, k ≠ 23 → k ≠ 25 → F 0 k = ν 0 k := fun k p q => by rw [hF, up_slot p, up_slot q]
  have F25 : F 0 25 = 0 := by rw [hF, up_slot (by omega), up_same]
  have F23 : F 0 23 = ν0 0 0 := by rw [hF, up_same]; exact z0
  have FO : ∀ k, k ≠ 23 → k ≠ 25 → ¬ (26 ≤ k ∧ k ≤ 31) → k ≠ 33 → k ≠ 34 → F 0 k = ν0 0 k := fun k p q r s t => by rw [F0 k p q]; exact orr.2.1 k p r s t
  have FcO : ∀ x, 8 ≤ x → x ≠ 19 → F x = ν0 x := fun x p q => by rw [Fc x (by omega)]; exact orr.1 x p q
  refine ⟨up μ1 23 9 (S0 : Int), ?_, ?_⟩
  · unfold kpC
    rw [hW0, hS0, q_X9_keep, show mMax (W0 : Int) 0 = (W0 : Int) by unfold mMax; split <;> omega, a1, cV_t, q_X3_keep, cV_t, m239', show mMin (μ 23 9) (mMax (S0 : Int) 0) = (S0 : Int) by unfold mMin mMax; split <;> split <;> omega, up_cell (c := 23) (c' := 151) (by omega), a2 151 (by omega) (by omega), up_slot (show (6 : Nat) ≠ 8 by omega), m6, wr_eq (by omega) (by omega)]
  rw [← hF]
  clear hF
  have wbF' : wb F = wb ν0 := by
    funext x
    unfold wb
    rw [F23, hW.2.2.1, Fc 1 (by omega)]
    exact wbF_congr _ (fun k hk => (orr.2.2.1 k (by omega)).1)
  have arF : ar F = ar ν0 := by
    funext x
    unfold ar
    rw [wbF', Fc 2 (by omega)]
    rcases wb_range hW x with z | ⟨z1, z2, z3⟩
    · rw [z, if_pos rfl, if_pos rfl]
    · rw [(orr.2.2.1 (wb ν0 x).toNat (by omega)).2.1]
  have mLF : ∀ w : Nat, (w : Int) < ν0 0 0 → mL F w = mL ν0 w := fun w hw => by
    have e : mL F w = mL ν w := by
      unfold mL
      rw [Fc 3 (by omega)]
      exact sg_congr (Fc 4 (by omega))
    have l20 := (hW.2.2.2.2.1 w hw).1.2.2.2.2.1
    rw [e]
    exact orr.mL hw (by omega)
  have sLF : ∀ e : Nat, (e : Int) < ν0 0 5 → ∀ k, k ≤ 1 → sL F e k = sL ν0 e k := fun e he k hk => by
    have q : sL F e k = sL ν e k := by
      unfold sL
      rw [Fc 6 (by omega)]
      exact sg_congr (Fc 5 (by omega))
    have hs := hS.2.2.2.2.2.2.2.2 e he
    rw [q]
    refine orr.sL he hk ?_
    rcases (show k = 0 ∨ k = 1 by omega) with rfl | rfl
    · have := hs.1.2.1; omega
    · have := hs.2.1.2.1; omega
  have hE : EXT ν0 F := by
    refine ⟨fun w hw => ?_, fun x _ => by rw [wbF'], by rw [FO 0 (by omega) (by omega) (by omega) (by omega) (by omega)]; exact Int.le_refl _, by rw [FO 5 (by omega) (by omega) (by omega) (by omega) (by omega)]; exact Int.le_refl _, fun e he => ?_, FcO 14 (by omega) (by omega), FcO 15 (by omega) (by omega), FcO 16 (by omega) (by omega), FO 15 (by omega) (by omega) (by omega) (by omega) (by omega), FO 16 (by omega) (by omega) (by omega) (by omega) (by omega)⟩
    · obtain ⟨q1, q2, q3, q4⟩ := orr.2.2.1 w hw
      rw [Fc 1 (by omega), Fc 2 (by omega), Fc 3 (by omega)]
      exact ⟨q1, q2, q3, mLF w hw⟩
    · obtain ⟨q1, q2, q3⟩ := orr.2.2.2 e he
      rw [Fc 7 (by omega), Fc 6 (by omega), FcO 8 (by omega) (by omega), FcO 9 (by omega) (by omega), FcO 10 (by omega) (by omega), FcO 11 (by omega) (by omega), FcO 12 (by omega) (by omega), FcO 13 (by omega) (by omega)]
      exact ⟨fun k hk => ⟨sLF e he k hk, q2 k hk⟩, q1, rfl, rfl, rfl, rfl, rfl, rfl⟩
  obtain ⟨b1, b2, b3, b4, b5⟩ := oc
  have V : ∀ x, x ≠ 1 → x ≠ 4 → x ≠ 23 → x ≠ 151 → up μ1 23 9 (S0 : Int) x = μ x := fun x p q r s => by rw [up_cell r, U1 x p q s]
  have V151 : ∀ k, up μ1 23 9 (S0 : Int) 151 k = if k = 8 then 0 else μ 151 k := fun k => by rw [up_cell (by omega), a2 151 (by omega) (by omega), up_if]
  have RW : RelW (up μ1 23 9 (S0 : Int)) F := by
    obtain ⟨q1, q2, q3, q4, q5, q6, q7⟩ := hW
    have F00 : F 0 0 = ν0 0 0 := FO 0 (by omega) (by omega) (by omega) (by omega) (by omega)
    refine ⟨by rw [F00]; exact q1, by rw [F00]; exact q2, by rw [F00, F23], by rw [F00, up_cell (by omega), a3, if_pos rfl, hW0], fun w hw => ?_, fun v w hv hw hvw => ?_, fun k hk => ?_⟩
    · rw [F00] at hw
      obtain ⟨p1, p2, p3, p4, p5⟩ := q5 w hw
      obtain ⟨r1, r2, r3, r4⟩ := orr.2.2.1 w hw
      obtain ⟨s1, s2, s3⟩ := b5 w hw
      unfold okW fcL at *
      rw [mLF w hw, arF, Fc 1 (by omega), Fc 2 (by omega), Fc 3 (by omega), r1, r2, r3, V 2 (by omega) (by omega) (by omega) (by omega), V 3 (by omega) (by omega) (by omega) (by omega), s1, s2]
      refine ⟨⟨p1.1, p1.2.1, p1.2.2.1, p1.2.2.2.1, p1.2.2.2.2.1, p1.2.2.2.2.2.1, p1.2.2.2.2.2.2.1, fun x hx => ?_⟩, p2, p3, ?_, ?_⟩
      · rcases p1.2.2.2.2.2.2.2 x hx with y | y | y | ⟨v, y1, y2⟩
        · exact Or.inl y
        · exact Or.inr (Or.inl y)
        · exact Or.inr (Or.inr (Or.inl y))
        · exact Or.inr (Or.inr (Or.inr ⟨v, y1, by rw [(orr.2.2.1 v (by omega)).1]; exact y2⟩))
      · unfold TH at p4 ⊢
        have e1 := s3 2 (by omega)
        have e2 := s3 3 (by omega)
        rw [show 7 + 4 * w + 2 = 9 + 4 * w by omega] at e1
        rw [show 7 + 4 * w + 3 = 9 + 4 * w + 1 by omega] at e2
        rw [V (9 + 4 * w) (by omega) (by omega) (by omega) (by omega), V (9 + 4 * w + 1) (by omega) (by omega) (by omega) (by omega), e1, e2]
        exact p4
      · unfold TH at p5 ⊢
        have e1 := s3 0 (by omega)
        have e2 := s3 1 (by omega)
        rw [Nat.add_zero] at e1
        rw [V (7 + 4 * w) (by omega) (by omega) (by omega) (by omega), V (7 + 4 * w + 1) (by omega) (by omega) (by omega) (by omega), e1, e2]
        exact p5
    · rw [F00] at hv hw
      rw [Fc 1 (by omega), (orr.2.2.1 v hv).1, (orr.2.2.1 w hw).1] at hvw
      exact q6 v w hv hw hvw
    · rw [up_cell (by omega), a4 k hk, wbF']
      have hWs : RelW μ0 ν0 := ⟨q1, q2, q3, q4, q5, q6, q7⟩
      rcases wb_range w1 (k : Int) with z | ⟨z1, z2, z3⟩
      · rw [z, if_neg (by omega)]
        rcases wb_range hWs (k : Int) with y | ⟨y1, y2, y3⟩
        · rw [y]
        · have := wb_of w1 (w := (wb ν0 k).toNat) (by omega)
          rw [w3 _ (by omega), y3, z] at this
          omega
      · by_cases y : (W0 : Int) ≤ wb νw k
        · rw [if_pos y]
          rcases wb_range hWs (k : Int) with x | ⟨x1, x2, x3⟩
          · rw [x]
          · have := wb_of w1 (w := (wb ν0 k).toNat) (by omega)
            rw [w3 _ (by omega), x3] at this
            omega
        · rw [if_neg y]
          have := wb_of hWs (w := (wb νw k).toNat) (by omega)
          rw [← w3 _ (by omega), z3] at this
          omega
  -- the tape is empty now
  have h0' : Rel (up μ0 151 8 0) (up ν0 0 25 0) := rel_T h0 (fun c p _ => up_cell p) (fun c p _ => up_cell p) (fun k p _ _ => up_slot p) ⟨by rw [up_same, up_same], by rw [up_same]; decide, by rw [up_same]; decide, by rw [up_slot (by omega), up_slot (by omega)]; exact hT.2.2.2.1, fun i hi => by rw [up_same] at hi; omega⟩
  have zz : ∀ k, k ≠ 25 → up ν0 0 25 0 0 k = ν0 0 k := fun k hk => up_slot hk
  have zc : ∀ c, c ≠ 0 → up ν0 0 25 0 c = ν0 c := fun c hc => up_cell hc
  have M25 : FrM ν0 (up ν0 0 25 0) := frM_up0 (by omega)
  have hE' : EXT (up ν0 0 25 0) F := by
    unfold EXT at hE ⊢
    rw [zz 0 (by omega), zz 5 (by omega), zz 15 (by omega), zz 16 (by omega), frM_mL M25, frM_wb M25, frM_sL M25, zc 1 (by omega), zc 2 (by omega), zc 3 (by omega), zc 6 (by omega), zc 7 (by omega), zc 8 (by omega), zc 9 (by omega), zc 10 (by omega), zc 11 (by omega), zc 12 (by omega), zc 13 (by omega), zc 14 (by omega), zc 15 (by omega), zc 16 (by omega)]
    exact hE
  have F5 : F 0 5 = ν0 0 5 := FO 5 (by omega) (by omega) (by omega) (by omega) (by omega)
  have oc'' : OLDC (up μ0 151 8 0) (up ν0 0 25 0) (up μ1 23 9 (S0 : Int)) := by
    unfold OLDC
    rw [zz 5 (by omega), zz 0 (by omega)]
    refine ⟨fun x hx => by rw [V x (by omega) (by omega) (by omega) (by omega), up_cell (by omega)]; exact b1 x hx, fun k hk => by rw [up_slot hk, U1 23 (by omega) (by omega) (by omega), up_cell (by omega)]; exact b2 k hk, fun x hx j hj => by rw [V _ (by omega) (by omega) (by omega) (by omega), up_cell (by omega)]; exact b3 x hx j hj, fun k k1 k2 k3 k4 => ?_, fun w hw => ?_⟩
    · rw [V151]
      by_cases z : k = 8
      · rw [if_pos z, z, up_same]
      · rw [if_neg z, up_slot z]; exact b4 k k1 k2 k3 k4
    · obtain ⟨c1, c2, c3⟩ := b5 w hw
      rw [V 2 (by omega) (by omega) (by omega) (by omega), V 3 (by omega) (by omega) (by omega) (by omega), up_cell (c := 151) (c' := 2) (by omega), up_cell (c := 151) (c' := 3) (by omega)]
      exact ⟨c1, c2, fun j hj => by rw [V _ (by omega) (by omega) (by omega) (by omega), up_cell (by omega)]; exact c3 j hj⟩
  refine fin_rel h0' hE' RW oc'' ⟨?_, ?_, ?_, ?_, fun i hi => ?_⟩ (by rw [zz 21 (by omega)]; exact FO 21 (by omega) (by omega) (by omega) (by omega) (by omega)) (by rw [zz 22 (by omega)]; exact FO 22 (by omega) (by omega) (by omega) (by omega) (by omega)) (by rw [F5]; omega) (by rw [up_same, F5, hS0]) (fun x x1 x2 => ?_) (fun x y hx hy => ?_) (by rw [zc 26 (by omega)]; exact FcO 26 (by omega) (by omega)) (by rw [zc 27 (by omega)]; exact FcO 27 (by omega) (by omega)) (by rw [zc 28 (by omega)]; exact FcO 28 (by omega) (by omega)) (by rw [zz 45 (by omega)]; exact FO 45 (by omega) (by omega) (by omega) (by omega) (by omega)) (by rw [zz 46 (by omega)]; exact FO 46 (by omega) (by omega) (by omega) (by omega) (by omega)) (by rw [zc 51 (by omega)]; exact FcO 51 (by omega) (by omega)) (by rw [zc 52 (by omega)]; exact FcO 52 (by omega) (by omega)) (by rw [zc 53 (by omega)]; exact FcO 53 (by omega) (by omega)) ?_
  · rw [V151, if_pos rfl, F25]
  · rw [F25]; decide
  · rw [F25]; decide
  · rw [V151, if_neg (by decide), m9, F0 30 (by omega) (by omega), n30]
  · rw [F25] at hi; omega
  · rw [zz 5 (by omega)] at x1
    rw [F5] at x2
    omega
  · rw [FcO 17 (by omega) (by omega), zz 5 (by omega), F5, zc 17 (by omega), if_neg (by omega)]
  · have gd : ∀ n k, gdW F n k ↔ gdW ν0 n k := gd_old hW hS wbF' (FO 0 (by omega) (by omega) (by omega) (by omega) (by omega)) F5 (fun w hw => ⟨by rw [Fc 2 (by omega)]; exact (orr.2.2.1 w hw).2.1, mLF w hw⟩) (fun e he => ⟨by rw [Fc 7 (by omega)]; exact (orr.2.2.2 e he).1, sLF e he⟩)
    unfold RelG at hG ⊢
    rw [FO 68 (by omega) (by omega) (by omega) (by omega) (by omega), FcO 42 (by omega) (by omega), FcO 43 (by omega) (by omega)]
    rcases hG with q | ⟨q1, q2, q3, q4⟩
    · exact Or.inl q
    · exact Or.inr ⟨q1, q2, q3.trans (gd 1 0).symm, fun k hk => ⟨(q4 k hk).1, (q4 k hk).2.trans (gd 2 k).symm⟩⟩
theorem sim_text (μ ν : Mem) (h : Rel μ ν) : Sm Rel f_X11_text f_X12_text [] μ ν := by
  unfold Sm
  show ∃ r μ' ν', f_X11_text [vR 11 0] μ = some (some (vI r), μ') ∧ f_X12_text [vR 12 0] ν = some (some (vI r), ν') ∧ Rel μ' ν'
  obtain ⟨hT, hH, hW, hS, hP, hI, hD, hL, hG, hC⟩ := id h
  have h4 := hW.2.1
  have h24 := hS.2.1
  have h25 : 0 ≤ ν 0 25 ∧ ν 0 25 ≤ 240 := ⟨hT.2.1, hT.2.2.1⟩
  have hb : ∀ i : Nat, (i : Int) < ν 0 25 → 0 ≤ ν 18 i := fun i hi => (hT.2.2.2.2 i hi).1
  obtain ⟨A, hA⟩ : ∃ A, A = up (up (up μ 151 7 0) 151 6 0) 151 9 0 := ⟨_, rfl⟩
  have FA : FrTp μ A := by rw [hA]; exact frTp_trans (frTp_trans (frTp_up (by omega)) (frTp_up (by omega))) (frTp_up (by omega))
  have A7 : A 151 7 = ((0 : Nat) : Int) := by rw [hA, up_slot (by omega), up_slot (by omega), up_same]; rfl
  have A9 : A 151 9 = 0 := by rw [hA, up_same]
  obtain ⟨X, hX⟩ : ∃ X, X = up (up (up (up ν 0 30 0) 0 26 0) 0 23 (ν 0 0)) 0 34 (ν 0 5) := ⟨_, rfl⟩
  have Xc : ∀ x, x ≠ 0 → X x = ν x := fun x hx => by rw [hX, up_cell hx, up_cell hx, up_cell hx, up_cell hx]
  have X0 : ∀ k, k ≠ 30 → k ≠ 26 → k ≠ 23 → k ≠ 34 → X 0 k = ν 0 k := fun k p q r s => by rw [hX, up_slot s, up_slot r, up_slot q, up_slot p]
  have X23 : X 0 23 = ν 0 0 := by rw [hX, up_slot (by omega), up_same]
  have X34 : X 0 34 = ν 0 5 := by rw [hX, up_same]
  have X26 : X 0 26 = ((0 : Nat) : Int) := by rw [hX, up_slot (by omega), up_slot (by omega), up_same]; rfl
  have X30 : X 0 30 = 0 := by rw [hX, up_slot (by omega), up_slot (by omega), up_slot (by omega), up_same]
  have OR : OLDR ν X := ⟨fun x p q => Xc x (by omega), fun k p q r s => X0 k (by omega) (by omega) p s, fun w hw => by rw [Xc 1 (by omega), Xc 2 (by omega), Xc 3 (by omega), Xc 4 (by omega)]; exact ⟨rfl, rfl, rfl, fun _ _ => rfl⟩, fun e he => by rw [Xc 5 (by omega), Xc 6 (by omega), Xc 7 (by omega)]; exact ⟨rfl, fun _ _ => rfl, fun _ _ => rfl⟩⟩
  have OC : OLDC μ ν A := by
    refine OLDC.fr (μ := μ) ⟨fun _ _ => rfl, fun _ _ => rfl, fun _ _ _ _ => rfl, fun _ _ _ _ _ => rfl, fun _ _ => ⟨rfl, rfl, fun _ _ => rfl⟩⟩ h24 h4 (frTx_T FA)
  have MV : FrM ν (VW X) := by
    unfold VW
    exact ⟨fun c a b => by rw [up_cell (by omega)]; exact Xc c (by omega), by rw [up_same]; exact X23, by rw [up_slot (by omega)]; exact X0 5 (by omega) (by omega) (by omega) (by omega), by rw [up_slot (by omega), X23]; exact hW.2.2.1.symm⟩
  have TX0 : TX μ ν A X := ⟨OC, OR, (hW.kept (fun c _ _ => FA.1 c (by omega))).keptR MV, by rw [X23]; exact Int.le_refl _, by rw [X34]; exact Int.le_refl _, by rw [X34]; exact h24, by rw [X34, FA.1 23 (by omega)]; exact hS.2.2.1, fun e p q => by rw [X34] at q; omega⟩
  have tc : TC A ν := OC.TC hT
  obtain ⟨f, t, k, μ1, a1, a2, a3, a4, a5, a6⟩ := s_advance tc (by omega) A7
  obtain ⟨ν1, b1, b2, f', t', k', b3, b4, b5, b6⟩ := n1 OR h25 hb (by omega) X26 X30
  obtain ⟨rfl, rfl, rfl⟩ := b3.uniq a1
  have TX1 : TX μ ν μ1 ν1 := TX0.fr h24 h4 (frTx_T a4) (frK_N b2)
  have h21 : μ 0 9 = ν 0 21 := hH.1
  have h22 : μ 0 10 = ν 0 22 := hH.2.1
  have ref : f_X12_text [vR 12 0] ν = e_X12_text_32 0 none ν1 := by
    rw [q_X12_text, up_slot (show (0 : Nat) ≠ 26 by omega), up_slot (show (0 : Nat) ≠ 30 by omega), up_slot (show (5 : Nat) ≠ 23 by omega), up_slot (show (5 : Nat) ≠ 26 by omega), up_slot (show (5 : Nat) ≠ 30 by omega), ← hX, b1, cV_t]
  have cls : ∀ r, f_X7_advance [vR 7 151] A = some (some (vI r), μ1) → f_X11_text [vR 11 0] μ = cI (e_X7_tellLines_33 (ν 0 21) (ν 0 22) (ν 0 0) (ν 0 5) 0 r 0 μ1) (fun x μ2 => some (some (vI x), μ2)) := fun r hr => by
    rw [q_X11_text, h21, h22, q_X7_tellLines, q_X7_begin, cV_t, ← hA, hr, cI_t, hW.2.2.2.1, hS.2.2.1]
  rw [ref]
  have bad : ∀ (fe : Nat) (c : Int) (μ' ν' : Mem), TXB μ ν μ' ν' → (fe : Int) ≤ ν 0 25 → μ' 151 6 = (fe : Int) → μ' 151 9 = c → ν' 0 30 = c → ∃ r μ'' ν'', cI (kpC (ν 0 0) (ν 0 5) μ') (fun x μ2 => some (some (vI x), μ2)) = some (some (vI r), μ'') ∧ some (some (vI (-10 - (fe : Int))), up (up ν' 0 25 0) 0 23 (ν' 0 0)) = some (some (vI r), ν'') ∧ Rel μ'' ν'' := fun fe c μ' ν' p1 p2 p3 p4 p5 => by
    obtain ⟨μ'', q1, q2⟩ := bad_end h p1 (by omega) p3 p4 p5
    rw [q1, cI_t]
    exact ⟨_, _, _, rfl, rfl, q2⟩
  rcases a6 with ⟨c1, c2, c3, c4, c5, c6⟩ | ⟨c1, c2, c3⟩
  · rw [cls 1 c2]
    have L := lines_loop h (W0 := ν 0 0) (S0 := ν 0 5) 240 0 μ1 ν1 f' t' 0 k' none (by omega) TX1 b3 b4 c6 c3 a5 c4 (by rw [c5]; exact A9) c1 b6 (Nat.zero_le _)
    rw [show ((0 : Nat) : Int) = 0 from rfl] at L
    rcases L with ⟨n, μ', ν', d1, d2, d3, d4, d5, d6⟩ | ⟨fe, c, μ', ν', d1, d2, d3, d4, d5, d6, d7, d8⟩
    · obtain ⟨ν'', e1, e2⟩ := good_end h d4 d5 d6 (n : Int)
      rw [d2, cI_t, d3, e1]
      exact ⟨_, _, _, rfl, rfl, e2⟩
    · rw [d1, d2]
      exact bad fe c μ' ν' d3 d5 d6 d7 d8
  · rw [cls 0 c2, e33_bad]
    obtain ⟨q1, q2⟩ : ν1 0 30 = 1 ∧ ν1 0 31 = (f' : Int) := by
      rcases b6 with ⟨q, _⟩ | ⟨_, q1, q2, _⟩
      · exact absurd q c1
      · exact ⟨q1, q2⟩
    rw [e32_bad (c := 1) (by decide) (by omega) q1 q2]
    exact bad f' 1 μ1 ν1 TX1.bad b4 a5 c3 q1
