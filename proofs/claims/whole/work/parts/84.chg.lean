/-! change: a WORD's MEANING is another one -/
/-- all but what leans on what -/
def RelX (μ ν : Mem) : Prop := RelT μ ν ∧ RelH μ ν ∧ RelW μ ν ∧ RelS μ ν ∧ RelP μ ν ∧ RelI μ ν ∧ RelD μ ν ∧ RelG μ ν ∧ RelC μ ν
theorem Rel.X {μ ν : Mem} (h : Rel μ ν) : RelX μ ν := ⟨h.1, h.2.1, h.2.2.1, h.2.2.2.1, h.2.2.2.2.1, h.2.2.2.2.2.1, h.2.2.2.2.2.2.1, h.2.2.2.2.2.2.2.2.1, h.2.2.2.2.2.2.2.2.2⟩
/-- ν' is ν but for the MEANING of w, and states, and what is scratch -/
def FrC (w : Nat) (ν ν' : Mem) : Prop := (∀ c, (c = 1 ∨ c = 2 ∨ c = 5 ∨ c = 6 ∨ (8 ≤ c ∧ c ≤ 11) ∨ (13 ≤ c ∧ c ≤ 16)) → ν' c = ν c) ∧ (∀ v : Nat, v ≠ w → (v : Int) < ν 0 0 → mL ν' v = mL ν v) ∧ ν' 0 0 = ν 0 0 ∧ ν' 0 5 = ν 0 5 ∧ ν' 0 23 = ν 0 23 ∧ ν' 0 15 = ν 0 15 ∧ ν' 0 16 = ν 0 16
section FRC
variable {w : Nat} {ν ν' : Mem}
theorem frC_wb (h : FrC w ν ν') : wb ν' = wb ν := by
  funext x
  unfold wb
  rw [h.1 1 (by omega), h.2.2.2.2.1]
theorem frC_ar (h : FrC w ν ν') : ar ν' = ar ν := by
  funext x
  unfold ar
  rw [frC_wb h, h.1 2 (by omega)]
theorem frC_sL (h : FrC w ν ν') : sL ν' = sL ν := by
  funext e k
  show sg ν' 5 (40 * e + 20 * k) (ν' 6 (2 * e + k)).toNat = sg ν 5 (40 * e + 20 * k) (ν 6 (2 * e + k)).toNat
  rw [h.1 6 (by omega), sg_congr (h.1 5 (by omega))]
theorem frC_fcL (h : FrC w ν ν') : fcL ν' = fcL ν := by
  funext v
  unfold fcL
  rw [h.1 1 (by omega), h.1 2 (by omega)]
theorem frC_goP (h : FrC w ν ν') : goP ν' = goP ν := by
  funext pat ins T P
  unfold goP
  rw [frC_ar h]
theorem frC_ptw (h : FrC w ν ν') : ptw ν' = ptw ν := by
  funext a b c d
  unfold ptw
  rw [frC_wb h]
/-- a STEP that does not put w in or out goes as it went -/
theorem frC_stp (hW : ∀ x, wb ν x = -4 ∨ (0 ≤ wb ν x ∧ wb ν x < ν 0 0)) (h : FrC w ν ν') (h0 : ν 0 0 ≤ 4) {kind which place : Int} {T T' : List Int} (hk : 0 ≤ kind ∧ kind ≤ 3) (hp : ptw ν kind which place T ≠ (w : Int)) (hs : stp ν kind which place T = .inr T') (h7 : kind ≤ 1 → (ν' 7 which.toNat = 0 ∨ ν' 7 which.toNat = 2)) : stp ν' kind which place T = .inr T' := by
  have hs0 := hs
  unfold stp at hs ⊢
  by_cases q : place < 0 ∨ (T.length : Int) ≤ place
  · rw [if_pos q] at hs; cases hs
  · rw [if_neg q] at hs ⊢
    by_cases k1 : kind ≤ 1
    · have hw := stp_which k1 hs0
      rw [if_pos k1, if_neg (by omega)] at hs
      rw [if_pos k1, h.2.2.2.1, if_neg (by have := h7 k1; omega), frC_goP h, frC_sL h]
      exact hs
    · rw [if_neg k1] at hs ⊢
      by_cases k2 : kind = 2
      · rw [if_pos k2] at hs ⊢
        unfold ptw at hp
        rw [if_pos k2] at hp
        rw [frC_wb h]
        by_cases b4 : wb ν (atL T place) = -4
        · rw [if_pos b4] at hs; cases hs
        · rw [if_neg b4] at hs ⊢
          have := hW (atL T place)
          rw [frC_goP h, frC_fcL h, h.2.1 _ (by omega) (by omega)]
          exact hs
      · rw [if_neg k2] at hs ⊢
        unfold ptw at hp
        rw [if_neg k2, if_pos (show kind = 3 by omega)] at hp
        rw [h.2.2.1]
        by_cases b4 : which < 0 ∨ ν 0 0 ≤ which
        · rw [if_pos b4] at hs; cases hs
        · rw [if_neg b4] at hs ⊢
          rw [frC_goP h, frC_fcL h, h.2.1 _ (by omega) (by omega)]
          exact hs
/-- a run that does not put w in or out goes as it went -/
theorem frC_run (hW : ∀ x, wb ν x = -4 ∨ (0 ≤ wb ν x ∧ wb ν x < ν 0 0)) (h : FrC w ν ν') (h0 : ν 0 0 ≤ 4) {k wh p : Nat → Int} : ∀ (n i : Nat) (T T' : List Int), (∀ j, i ≤ j → j < i + n → 0 ≤ k j ∧ k j ≤ 3 ∧ (k j ≤ 1 → ν' 7 (wh j).toNat = 0 ∨ ν' 7 (wh j).toNat = 2)) → rnS ν k wh p i n T = some T' → ¬ ptsS ν k wh p w i n T → rnS ν' k wh p i n T = some T' ∧ ∀ v, ptsS ν' k wh p v i n T ↔ ptsS ν k wh p v i n T
  | 0, i, T, T', _, h1, _ => ⟨h1, fun _ => Iff.rfl⟩
  | n + 1, i, T, T', hj, h1, h2 => by
    obtain ⟨a, b, c⟩ := hj i (by omega) (by omega)
    unfold rnS at h1
    unfold ptsS at h2
    have hnp : ptw ν (k i) (wh i) (p i) T ≠ (w : Int) := fun z => h2 (Or.inl z)
    unfold rnS ptsS
    rw [frC_ptw h]
    cases hs : stp ν (k i) (wh i) (p i) T with
    | inl x => rw [hs] at h1; cases h1
    | inr T1 =>
      rw [hs] at h1 h2
      rw [frC_stp hW h h0 ⟨a, b⟩ hnp hs c]
      obtain ⟨q1, q2⟩ := frC_run hW h h0 n (i + 1) T1 T' (fun j a b => hj j (by omega) (by omega)) h1 (fun z => h2 (Or.inr z))
      exact ⟨q1, fun v => or_congr Iff.rfl (q2 v)⟩
end FRC
/-- STEPS that only use what still stands -/
theorem run_kept2 {ν ν' : Mem} (hf : FrQ ν ν') {k w p k' w' p' : Nat → Int} : ∀ (n i : Nat) (T T' : List Int), (∀ j, i ≤ j → j < i + n → k' j = k j ∧ w' j = w j ∧ p' j = p j ∧ (k j ≤ 1 → (ν 7 (w j).toNat = 0 ∨ ν 7 (w j).toNat = 2) → (ν' 7 (w j).toNat = 0 ∨ ν' 7 (w j).toNat = 2))) → rnS ν k w p i n T = some T' → rnS ν' k' w' p' i n T = some T' ∧ ∀ v, ptsS ν' k' w' p' v i n T ↔ ptsS ν k w p v i n T
  | 0, i, T, T', _, h => ⟨h, fun _ => Iff.rfl⟩
  | n + 1, i, T, T', hj, h => by
    obtain ⟨a, b, c, d⟩ := hj i (by omega) (by omega)
    unfold rnS at h
    unfold rnS ptsS
    rw [a, b, c, frQ_ptw hf]
    cases hs : stp ν (k i) (w i) (p i) T with
    | inl x => rw [hs] at h; cases h
    | inr T1 =>
      rw [hs] at h
      rw [frQ_stpR hf hs d]
      obtain ⟨q1, q2⟩ := run_kept2 hf n (i + 1) T1 T' (fun j a b => hj j (by omega) (by omega)) h
      exact ⟨q1, fun v => or_congr Iff.rfl (q2 v)⟩
/-- the next one SHOWN -/
def NX (ν : Mem) (T x : Int) : Prop := (x = -4 ∧ ∀ e : Nat, (e : Int) < ν 0 5 → ν 7 e = 2 → ν 13 e < T) ∨ (∃ e : Nat, x = (e : Int) ∧ (e : Int) < ν 0 5 ∧ ν 7 e = 2 ∧ T ≤ ν 13 e ∧ ∀ f : Nat, (f : Int) < ν 0 5 → ν 7 f = 2 → T ≤ ν 13 f → ν 13 e ≤ ν 13 f)
theorem s_shownNext5 {μ ν : Mem} (hS : RelS μ ν) {o : Int} {N : Nat} (hN : ν 0 5 = (N : Int)) : ∀ (j i : Nat) (x : Int) (o4 : Option AV), i + j = N → ((x = -4 ∧ ∀ e : Nat, e < i → ν 7 e = 2 → ν 13 e < o + 1) ∨ (∃ e : Nat, x = (e : Int) ∧ e < i ∧ ν 7 e = 2 ∧ o + 1 ≤ ν 13 e ∧ ∀ f : Nat, f < i → ν 7 f = 2 → o + 1 ≤ ν 13 f → ν 13 e ≤ ν 13 f)) → ∃ x', e_X3_shownNext_5 o x i o4 μ = some (some (vI x'), μ) ∧ NX ν (o + 1) x'
  | 0, i, x, o4, hj, h => by
    obtain rfl : i = N := by omega
    rw [q_X3_shownNext_5, hS.2.2.1, hN, if_neg (by omega)]
    refine ⟨x, rfl, ?_⟩
    rcases h with ⟨a, b⟩ | ⟨e, a, b, c, d, f⟩
    · exact Or.inl ⟨a, fun e he => b e (by omega)⟩
    · exact Or.inr ⟨e, a, by omega, c, d, fun g hg => f g (by omega)⟩
  | j + 1, i, x, o4, hj, h => by
    have h24 := hS.2.1
    have hi : (i : Int) < ν 0 5 := by omega
    have hs := hS.2.2.2.2.2.2.2.2 i hi
    rw [q_X3_shownNext_5, hS.2.2.1, if_pos hi, gk (lnC 24) 24 rfl (by omega) (by omega), show ((i : Int)).toNat = i by omega, hs.2.2.2.2.1, wr_eq (x := (i : Int) + 1) (by omega) (by omega), show (i : Int) + 1 = ((i + 1 : Nat) : Int) by omega]
    by_cases h7 : ν 7 i = 2
    · rw [if_pos h7, gk (lnC 24) 24 rfl (by omega) (by omega), hs.2.2.2.2.2.2.2.2.2.2.2.2 h7]
      by_cases ho : ν 13 i ≤ o
      · rw [if_pos ho]
        refine s_shownNext5 hS hN j (i + 1) x _ (by omega) ?_
        rcases h with ⟨a, b⟩ | ⟨e, a, b, c, d, f⟩
        · refine Or.inl ⟨a, fun e he h7' => ?_⟩
          by_cases z : e = i
          · rw [z]; omega
          · exact b e (by omega) h7'
        · refine Or.inr ⟨e, a, by omega, c, d, fun g hg g7 g13 => ?_⟩
          by_cases z : g = i
          · rw [z] at g13; omega
          · exact f g (by omega) g7 g13
      · rw [if_neg ho]
        rcases h with ⟨a, b⟩ | ⟨e, a, b, c, d, f⟩
        · rw [if_pos (by omega)]
          refine s_shownNext5 hS hN j (i + 1) i _ (by omega) (Or.inr ⟨i, rfl, by omega, h7, by omega, fun g hg g7 g13 => ?_⟩)
          by_cases z : g = i
          · rw [z]; exact Int.le_refl _
          · have := b g (by omega) g7; omega
        · have he : (e : Int) < ν 0 5 := by omega
          rw [if_neg (by omega), gk (lnC 24) 24 rfl (by omega) (by omega), gk (lnC 24) 24 rfl (by omega) (by omega), a, show ((e : Int)).toNat = e by omega, (hS.2.2.2.2.2.2.2.2 e he).2.2.2.2.2.2.2.2.2.2.2.2 c]
          by_cases z : ν 13 i < ν 13 e
          · rw [if_pos z]
            refine s_shownNext5 hS hN j (i + 1) i _ (by omega) (Or.inr ⟨i, rfl, by omega, h7, by omega, fun g hg g7 g13 => ?_⟩)
            by_cases y : g = i
            · rw [y]; exact Int.le_refl _
            · have := f g (by omega) g7 g13; omega
          · rw [if_neg z]
            refine s_shownNext5 hS hN j (i + 1) e _ (by omega) (Or.inr ⟨e, rfl, by omega, c, d, fun g hg g7 g13 => ?_⟩)
            by_cases y : g = i
            · rw [y]; omega
            · exact f g (by omega) g7 g13
    · rw [if_neg h7]
      refine s_shownNext5 hS hN j (i + 1) x _ (by omega) ?_
      rcases h with ⟨a, b⟩ | ⟨e, a, b, c, d, f⟩
      · refine Or.inl ⟨a, fun e he h7' => ?_⟩
        by_cases z : e = i
        · rw [z] at h7'; exact absurd h7' h7
        · exact b e (by omega) h7'
      · refine Or.inr ⟨e, a, by omega, c, d, fun g hg g7 g13 => ?_⟩
        by_cases z : g = i
        · rw [z] at g7; exact absurd g7 h7
        · exact f g (by omega) g7 g13
theorem s_shownNext {μ ν : Mem} (hS : RelS μ ν) (o : Int) : ∃ x, f_X3_shownNext [vR 3 23, vI o] μ = some (some (vI x), μ) ∧ NX ν (o + 1) x := by
  obtain ⟨N, hN⟩ : ∃ N : Nat, ν 0 5 = (N : Int) := ⟨(ν 0 5).toNat, by have := hS.1; omega⟩
  rw [q_X3_shownNext]
  exact s_shownNext5 hS hN N 0 (-4) none (by omega) (Or.inl ⟨rfl, fun e he => by omega⟩)
