/-! THE STEPPER of the class: its words, and where each PLACE ends -/
theorem s_numberOf {μ ν : Mem} (h : RelW μ ν) (x : Int) : f_X9_numberOf [vR 9 1, vI x] μ = some (some (vI (wb ν x)), μ) := by
  rw [q_X9_numberOf]
  by_cases h0 : 0 ≤ x ∧ x ≤ 3
  · rw [if_neg (show ¬ x < 0 by omega), if_pos (show x < 4 by omega), gk (lnC 4) 4 rfl h0.1 (by omega), h.2.2.2.2.2.2 x.toNat (by omega), show ((x.toNat : Nat) : Int) = x by omega]
  · have e : wb ν x = -4 := by
      rcases Decidable.em (wb ν x = -4) with q | q
      · exact q
      · exact absurd (wb_let h q) h0
    rw [e]
    by_cases h1 : x < 0
    · rw [if_pos h1]
    · rw [if_neg h1, if_neg (show ¬ x < 4 by omega)]
def arN (ν : Mem) (x : Int) : Int := if ar ν x = -4 then 0 else ar ν x
theorem s_behind {μ ν : Mem} (h : RelW μ ν) (x : Int) : f_X9_behind [vR 9 1, vI x] μ = some (some (vI (arN ν x)), μ) := by
  rw [q_X9_behind]
  unfold arN ar
  by_cases h12 : x = 12
  · subst h12
    rfl
  rw [if_neg h12]
  by_cases h0 : 0 ≤ x ∧ x ≤ 3
  · rw [if_neg (show ¬ x < 0 by omega), if_pos (show x < 4 by omega), gk (lnC 4) 4 rfl h0.1 (by omega), h.2.2.2.2.2.2 x.toNat (by omega), show ((x.toNat : Nat) : Int) = x by omega]
    rw [if_neg (show ¬ (23 ≤ x ∨ x = 14) by omega), if_neg h12]
    rcases wb_range h x with q | ⟨q1, q2, q3⟩
    · rw [q]
      rfl
    · obtain ⟨o, o2, o3, -⟩ := h.2.2.2.2.1 (wb ν x).toNat (by omega)
      have hn := h.2.1
      rw [if_neg (show ¬ wb ν x < 0 by omega), h.2.2.2.1, if_pos q2, gk (lnC 3) 4 rfl q1 (by omega), o3, if_neg (show ¬ wb ν x = -4 by omega), if_neg (show ¬ ν 2 (wb ν x).toNat = -4 by have := o.2.2.1; omega)]
  · have e : wb ν x = -4 := by
      rcases Decidable.em (wb ν x = -4) with q | q
      · exact q
      · exact absurd (wb_let h q) h0
    rw [e]
    have e2 : (if (if 23 ≤ x ∨ x = 14 then (0 : Int) else if x = 12 then 2 else if (-4 : Int) = -4 then -4 else ν 2 (-4 : Int).toNat) = -4 then (0 : Int) else if 23 ≤ x ∨ x = 14 then 0 else if x = 12 then 2 else if (-4 : Int) = -4 then -4 else ν 2 (-4 : Int).toNat) = 0 := by
      by_cases h1 : 23 ≤ x ∨ x = 14
      · rw [if_pos h1]; rfl
      · rw [if_neg h1, if_neg h12]; rfl
    rw [e2]
    by_cases h1 : x < 0
    · rw [if_pos h1]
    · rw [if_neg h1, if_neg (show ¬ x < 4 by omega)]
theorem arN_of {ν : Mem} {x : Int} (h : 0 ≤ ar ν x) : arN ν x = ar ν x := by unfold arN; rw [if_neg (by omega)]
theorem s_endAtC {μ : Mem} {t : Nat} {T : List Int} (hs : μ 157 2 = (t : Int)) (hT : TH μ t T) (h20 : T.length ≤ 20) {q : Nat} (hq : q < T.length) : f_X6_endAt [vR 6 157, vI q] μ = some (some (vI (μ 160 q)), μ) := by
  rw [q_X6_endAt, hs, show ((t : Int)).toNat = t by omega, hT.1, if_neg (show ¬ (q : Int) < 0 by omega), if_pos (show (q : Int) < (T.length : Int) by omega), if_pos (show (q : Int) < 20 by omega), gk (lnC 160) 20 rfl (by omega) (by omega), show ((q : Int)).toNat = q by omega]
theorem s_look42 {μ ν : Mem} {t p n : Nat} {T : List Int} (hs : μ 157 2 = (t : Int)) (hT : TH μ t T) (h20 : T.length ≤ 20) (hp : p < T.length) (a : Nat) (ha2 : a ≤ 2) (hw : isT (ar ν) (n + a) (T.drop (p + 1))) (he : ∀ q, p < q → q < T.length → μ 160 q = (q : Int) + (tl (ar ν) 1 (T.drop q) : Int)) :
    ∀ (j i : Nat), i + j = a → e_X6_look_42 t p (a : Int) ((p : Int) + 1 + (tl (ar ν) i (T.drop (p + 1)) : Int)) i μ = e_X6_look_17 t (wr ((p : Int) + -1)) (some (vI (a : Int))) (some (vI ((p : Int) + 1 + (tl (ar ν) a (T.drop (p + 1)) : Int)))) (some (vI (a : Int))) (up μ 160 p ((p : Int) + 1 + (tl (ar ν) a (T.drop (p + 1)) : Int)))
  | 0, i, hj => by
    obtain rfl : i = a := by omega
    rw [q_X6_look_42, if_neg (by omega), gk (lnC 160) 20 rfl (by omega) (by omega), show ((p : Int)).toNat = p by omega]
  | j + 1, i, hj => by
    have hsp := isT_split (T.drop (p + 1)) i (n + a - i) (by rw [show i + (n + a - i) = n + a by omega]; exact hw)
    have hne : (T.drop (p + 1)).drop (tl (ar ν) i (T.drop (p + 1))) ≠ [] := isT_ne (n := n + a - i - 1) (by rw [show n + a - i - 1 + 1 = n + a - i by omega]; exact hsp.2)
    have hlt : p + 1 + tl (ar ν) i (T.drop (p + 1)) < T.length := by
      rcases Nat.lt_or_ge (p + 1 + tl (ar ν) i (T.drop (p + 1))) T.length with q | q
      · exact q
      · exfalso
        apply hne
        rw [List.drop_drop]
        exact List.drop_eq_nil_of_le q
    have hadd := tl_add (T.drop (p + 1)) i (n + a - i) (by rw [show i + (n + a - i) = n + a by omega]; exact hw) 1 (by omega)
    have e1 := he _ (show p < p + 1 + tl (ar ν) i (T.drop (p + 1)) by omega) hlt
    rw [q_X6_look_42, if_pos (by omega)]
    rw [show (p : Int) + 1 + (tl (ar ν) i (T.drop (p + 1)) : Int) = ((p + 1 + tl (ar ν) i (T.drop (p + 1)) : Nat) : Int) by omega, s_endAtC hs hT h20 hlt, cI_t, e1, wr_eq (by omega) (by omega)]
    have e2 : ((p + 1 + tl (ar ν) i (T.drop (p + 1)) : Nat) : Int) + (tl (ar ν) 1 (T.drop (p + 1 + tl (ar ν) i (T.drop (p + 1)))) : Int) = (p : Int) + 1 + (tl (ar ν) (i + 1) (T.drop (p + 1)) : Int) := by
      rw [hadd, List.drop_drop]
      omega
    rw [e2, show (i : Int) + 1 = ((i + 1 : Nat) : Int) by omega]
    exact s_look42 hs hT h20 hp a ha2 hw he j (i + 1) (by omega)
theorem tl_step {a : Int → Int} {l : List Int} {p : Nat} (hp : p < l.length) : tl a 1 (l.drop p) = 1 + tl a (a l[p]).toNat (l.drop (p + 1)) := by
  rw [List.drop_eq_getElem_cons hp]
  show 1 + tl a (0 + (a l[p]).toNat) _ = _
  rw [Nat.zero_add]
theorem s_look17 {ν : Mem} {t : Nat} {T : List Int} (h20 : T.length ≤ 20) (hw1 : isT (ar ν) 1 T) (ht : 157 ≠ t ∧ 160 ≠ t ∧ 160 ≠ t + 1) : ∀ (j : Nat) (o3 o4 o5 : Option AV) (μ : Mem), j ≤ T.length → RelW μ ν → μ 157 2 = (t : Int) → TH μ t T → (∀ q, j ≤ q → q < T.length → μ 160 q = (q : Int) + (tl (ar ν) 1 (T.drop q) : Int)) →
    ∃ μ', e_X6_look_17 t ((j : Int) - 1) o3 o4 o5 μ = some (none, μ') ∧ (∀ c, c ≠ 160 → μ' c = μ c) ∧ ∀ q, q < T.length → μ' 160 q = (q : Int) + (tl (ar ν) 1 (T.drop q) : Int)
  | 0, o3, o4, o5, μ, hj, hW, hs, hT, he => by
    rw [q_X6_look_17, if_pos (by omega)]
    exact ⟨μ, rfl, fun _ _ => rfl, fun q hq => he q (by omega) hq⟩
  | j + 1, o3, o4, o5, μ, hj, hW, hs, hT, he => by
    have hlt : j < T.length := by omega
    obtain ⟨k, hk⟩ := isT_drop T 1 j hw1 hlt
    have hk2 := hk
    rw [List.drop_eq_getElem_cons hlt] at hk2
    obtain ⟨ha, hk3⟩ := hk2
    have hav := ar_vals hW T[j]
    rw [q_X6_look_17, if_neg (by omega), show ((j + 1 : Nat) : Int) - 1 = (j : Int) by omega, s_at hT, cI_t, atL_in (x := T[j]) (by omega) (by rw [show ((j : Int)).toNat = j by omega]; exact List.getElem?_eq_getElem hlt), s_behind hW, cI_t, arN_of ha, wr_eq (x := (j : Int) + 1) (by omega) (by omega)]
    have h42 := s_look42 (ν := ν) (n := k) hs hT h20 hlt (ar ν T[j]).toNat (by omega) hk3 (fun q h1 h2 => he q (by omega) h2) (ar ν T[j]).toNat 0 (by omega)
    rw [tl_0, show (((ar ν T[j]).toNat : Nat) : Int) = ar ν T[j] by omega] at h42
    have e0 : (j : Int) + 1 + ((0 : Nat) : Int) = (j : Int) + 1 := by omega
    rw [e0] at h42
    have h42' : e_X6_look_42 t (j : Int) (ar ν T[j]) ((j : Int) + 1) 0 μ = _ := h42
    rw [h42', wr_eq (by omega) (by omega), show (j : Int) + -1 = (j : Int) - 1 by omega]
    have e1 : (j : Int) + 1 + (tl (ar ν) (ar ν T[j]).toNat (T.drop (j + 1)) : Int) = (j : Int) + (tl (ar ν) 1 (T.drop j) : Int) := by
      rw [tl_step hlt]
      omega
    rw [e1]
    have hf : ∀ c, c ≠ 160 → up μ 160 j ((j : Int) + (tl (ar ν) 1 (T.drop j) : Int)) c = μ c := fun c hc => up_cell hc
    obtain ⟨μ', r1, r2, r3⟩ := s_look17 h20 hw1 ht j _ _ _ (up μ 160 j ((j : Int) + (tl (ar ν) 1 (T.drop j) : Int))) (by omega) (hW.kept (fun c _ _ => hf c (by omega))) (by rw [hf 157 (by omega)]; exact hs) (hT.kept (S := fun c => c = 160) (fun c hc => hf c hc) (fun q => ht.2.1 q.symm) (fun q => ht.2.2 q.symm)) (fun q h1 h2 => by
      by_cases hq : q = j
      · subst hq
        exact up_same _ _ _ _
      · rw [up_slot hq]
        exact he q (by omega) h2)
    exact ⟨μ', r1, fun c hc => (r2 c hc).trans (hf c hc), r3⟩
/-- a TERM is looked at: where each PLACE ends -/
theorem s_look {μ ν : Mem} {t : Nat} {T : List Int} (hW : RelW μ ν) (hT : TH μ t T) (h20 : T.length ≤ 20) (hw1 : isT (ar ν) 1 T) (ht : 157 ≠ t ∧ 157 ≠ t + 1 ∧ 160 ≠ t ∧ 160 ≠ t + 1) :
    ∃ μ', f_X6_look [vR 6 157, vR 8 t] μ = some (none, μ') ∧ (∀ c, c ≠ 157 → c ≠ 160 → μ' c = μ c) ∧ μ' 157 2 = (t : Int) ∧ (∀ k, k ≠ 2 → μ' 157 k = μ 157 k) ∧ ∀ q, q < T.length → μ' 160 q = (q : Int) + (tl (ar ν) 1 (T.drop q) : Int) := by
  have hf : ∀ c, c ≠ 157 → up μ 157 2 (t : Int) c = μ c := fun c hc => up_cell hc
  have hT1 : TH (up μ 157 2 (t : Int)) t T := hT.kept (S := fun c => c = 157) (fun c hc => hf c hc) (fun q => ht.1 q.symm) (fun q => ht.2.1 q.symm)
  obtain ⟨μ', r1, r2, r3⟩ := s_look17 (ν := ν) h20 hw1 ⟨ht.1, ht.2.2.1, ht.2.2.2⟩ T.length none none none (up μ 157 2 (t : Int)) (Nat.le_refl _) (hW.kept (fun c _ _ => hf c (by omega))) (up_same _ _ _ _) hT1 (fun q h1 h2 => by omega)
  refine ⟨μ', ?_, fun c h1 h2 => (r2 c h2).trans (hf c h1), by rw [r2 157 (by omega)]; exact up_same _ _ _ _, fun k hk => by rw [r2 157 (by omega)]; exact up_slot hk, r3⟩
  rw [q_X6_look, hT1.1]
  have e : mMin (T.length : Int) 20 = (T.length : Int) := by unfold mMin; rw [if_neg (by omega)]
  rw [e, wr_eq (by omega) (by omega)]
  exact r1
