/-! what stands when only the sayings' states and STEPS have changed -/
def FrQ (ν ν' : Mem) : Prop := (∀ c, 1 ≤ c → c ≤ 6 → ν' c = ν c) ∧ ν' 0 0 = ν 0 0 ∧ ν' 0 5 = ν 0 5 ∧ ν' 0 23 = ν 0 23
theorem frQ_c {ν ν' : Mem} (hf : FrQ ν ν') {c : Nat} (h : 1 ≤ c ∧ c ≤ 6) : ν' c = ν c := hf.1 c h.1 h.2
section FRQ
variable {ν ν' : Mem}
theorem frQ_wb (hf : FrQ ν ν') : wb ν' = wb ν := by
  funext x
  show wbF (ν' 1) x (ν' 0 23).toNat = wbF (ν 1) x (ν 0 23).toNat
  rw [frQ_c hf (by omega), hf.2.2.2]
theorem frQ_ar (hf : FrQ ν ν') : ar ν' = ar ν := by
  funext x
  show (if 23 ≤ x ∨ x = 14 then 0 else if x = 12 then 2 else if wb ν' x = -4 then -4 else ν' 2 (wb ν' x).toNat) = _
  rw [frQ_wb hf, frQ_c hf (c := 2) (by omega)]
  rfl
theorem frQ_mL (hf : FrQ ν ν') : mL ν' = mL ν := by
  funext w
  show sg ν' 4 (20 * w) (ν' 3 w).toNat = sg ν 4 (20 * w) (ν 3 w).toNat
  rw [frQ_c hf (c := 3) (by omega), sg_congr (frQ_c hf (c := 4) (by omega))]
theorem frQ_sL (hf : FrQ ν ν') : sL ν' = sL ν := by
  funext e k
  show sg ν' 5 (40 * e + 20 * k) (ν' 6 (2 * e + k)).toNat = sg ν 5 (40 * e + 20 * k) (ν 6 (2 * e + k)).toNat
  rw [frQ_c hf (c := 6) (by omega), sg_congr (frQ_c hf (c := 5) (by omega))]
theorem frQ_fcL (hf : FrQ ν ν') : fcL ν' = fcL ν := by
  funext w
  show (if ν' 2 w = 1 then [ν' 1 w, 23] else [ν' 1 w, 23, 24]) = (if ν 2 w = 1 then [ν 1 w, 23] else [ν 1 w, 23, 24])
  rw [frQ_c hf (c := 1) (by omega), frQ_c hf (c := 2) (by omega)]
theorem frQ_goP (hf : FrQ ν ν') : goP ν' = goP ν := by
  funext pat ins T P
  unfold goP
  rw [frQ_ar hf]
theorem frQ_ptw (hf : FrQ ν ν') : ptw ν' = ptw ν := by
  funext a b c d
  unfold ptw
  rw [frQ_wb hf]
/-- a STEP that goes still goes, if what was taken or shown still is -/
theorem frQ_stp (hf : FrQ ν ν') {kind which place : Int} {T : List Int} (h7 : kind ≤ 1 → 0 ≤ which → which < ν 0 5 → ((ν 7 which.toNat = 0 ∨ ν 7 which.toNat = 2) ↔ (ν' 7 which.toNat = 0 ∨ ν' 7 which.toNat = 2))) : stp ν' kind which place T = stp ν kind which place T := by
  unfold stp
  rw [frQ_goP hf, frQ_wb hf, frQ_mL hf, frQ_sL hf, frQ_fcL hf, hf.2.2.1, hf.2.1]
  by_cases hk : kind ≤ 1
  · rw [if_pos hk, if_pos hk]
    by_cases hw : which < 0 ∨ ν 0 5 ≤ which
    · rw [if_pos (show which < 0 ∨ ν 0 5 ≤ which ∨ ¬ (ν' 7 which.toNat = 0 ∨ ν' 7 which.toNat = 2) by omega), if_pos (show which < 0 ∨ ν 0 5 ≤ which ∨ ¬ (ν 7 which.toNat = 0 ∨ ν 7 which.toNat = 2) by omega)]
    · have h8 := h7 hk (by omega) (by omega)
      by_cases hs : ν 7 which.toNat = 0 ∨ ν 7 which.toNat = 2
      · rw [if_neg (show ¬ (which < 0 ∨ ν 0 5 ≤ which ∨ ¬ (ν' 7 which.toNat = 0 ∨ ν' 7 which.toNat = 2)) by omega), if_neg (show ¬ (which < 0 ∨ ν 0 5 ≤ which ∨ ¬ (ν 7 which.toNat = 0 ∨ ν 7 which.toNat = 2)) by omega)]
      · rw [if_pos (show which < 0 ∨ ν 0 5 ≤ which ∨ ¬ (ν' 7 which.toNat = 0 ∨ ν' 7 which.toNat = 2) by omega), if_pos (show which < 0 ∨ ν 0 5 ≤ which ∨ ¬ (ν 7 which.toNat = 0 ∨ ν 7 which.toNat = 2) by omega)]
  · rw [if_neg hk, if_neg hk]
theorem stp_which {T T' : List Int} {kind which place : Int} (hk : kind ≤ 1) (h : stp ν kind which place T = .inr T') : 0 ≤ which ∧ which < ν 0 5 ∧ (ν 7 which.toNat = 0 ∨ ν 7 which.toNat = 2) := by
  unfold stp at h
  by_cases q : place < 0 ∨ (T.length : Int) ≤ place
  · rw [if_pos q] at h; cases h
  · rw [if_neg q, if_pos hk] at h
    by_cases q2 : which < 0 ∨ ν 0 5 ≤ which ∨ ¬ (ν 7 which.toNat = 0 ∨ ν 7 which.toNat = 2)
    · rw [if_pos q2] at h; cases h
    · omega
theorem stp_which3 {T T' : List Int} {which place : Int} (h : stp ν 3 which place T = .inr T') : 0 ≤ which ∧ which < ν 0 0 := by
  unfold stp at h
  by_cases q : place < 0 ∨ (T.length : Int) ≤ place
  · rw [if_pos q] at h; cases h
  · rw [if_neg q, if_neg (by decide), if_neg (by decide)] at h
    by_cases q2 : which < 0 ∨ ν 0 0 ≤ which
    · rw [if_pos q2] at h; cases h
    · omega
theorem ptw_rng {μ : Mem} (hW : RelW μ ν) {T T' : List Int} {kind which place : Int} (h : stp ν kind which place T = .inr T') : ptw ν kind which place T < 0 ∨ (0 ≤ ptw ν kind which place T ∧ ptw ν kind which place T < ν 0 0) := by
  unfold ptw
  by_cases k2 : kind = 2
  · rw [if_pos k2]
    have := wb_range hW (atL T place); omega
  · rw [if_neg k2]
    by_cases k3 : kind = 3
    · rw [if_pos k3]
      subst k3
      have := stp_which3 h
      omega
    · rw [if_neg k3]; omega
theorem frQ_stpR (hf : FrQ ν ν') {kind which place : Int} {T T' : List Int} (h : stp ν kind which place T = .inr T') (h7 : kind ≤ 1 → (ν 7 which.toNat = 0 ∨ ν 7 which.toNat = 2) → (ν' 7 which.toNat = 0 ∨ ν' 7 which.toNat = 2)) : stp ν' kind which place T = .inr T' := by
  rw [← h]
  refine frQ_stp hf (fun a b c => ?_)
  have hw := stp_which a h
  exact ⟨h7 a, fun _ => hw.2.2⟩
theorem frQ_vS (hf : FrQ ν ν') (th no : Int) (tb wt : Nat → Int) (x y z : Int) : ∀ l, vS ν' th no tb wt x y z l = vS ν th no tb wt x y z l
  | [] => rfl
  | c :: r => by
    unfold vS
    rw [frQ_vS hf th no tb wt x y z r, frQ_wb hf, frQ_c hf (c := 2) (by omega)]
theorem frQ_vT (hf : FrQ ν ν') : vT ν' = vT ν := by
  funext th no tb wt x y z l
  show (vS ν' th no tb wt x y z l).headD 0 = (vS ν th no tb wt x y z l).headD 0
  rw [frQ_vS hf]
theorem frQ_wtW (hf : FrQ ν ν') (n num : Nat) : ∀ w, wtW ν' n num w = wtW ν n num w
  | 0 => rfl
  | w + 1 => by
    funext j
    unfold wtW
    rw [frQ_wtW hf n num w, frQ_vT hf, frQ_mL hf]
theorem frQ_hdW (hf : FrQ ν ν') : hdW ν' = hdW ν := by
  funext n num e
  unfold hdW
  rw [frQ_vT hf, frQ_sL hf, hf.2.1, frQ_wtW hf]
theorem frQ_gdW (hf : FrQ ν ν') (h7 : ∀ e : Nat, (e : Int) < ν 0 5 → (ν' 7 e = 0 ↔ ν 7 e = 0)) (n num : Nat) : gdW ν' n num ↔ gdW ν n num := by
  unfold gdW
  rw [frQ_hdW hf, hf.2.2.1]
  exact ⟨fun h e he h0 => h e he ((h7 e he).mpr h0), fun h e he h0 => h e he ((h7 e he).mp h0)⟩
end FRQ
theorem RelW.keptQ {μ ν ν' : Mem} (h : RelW μ ν) (hf : FrQ ν ν') : RelW μ ν' := by
  unfold RelW okW at *
  rw [hf.2.1, hf.2.2.2, frQ_mL hf, frQ_ar hf, frQ_fcL hf, frQ_wb hf, frQ_c hf (c := 1) (by omega), frQ_c hf (c := 2) (by omega), frQ_c hf (c := 3) (by omega)]
  exact h
theorem RelG.keptQ {μ μ' ν ν' : Mem} (h : RelG μ ν) (hf : FrQ ν ν') (h7 : ∀ e : Nat, (e : Int) < ν 0 5 → (ν' 7 e = 0 ↔ ν 7 e = 0)) (h1 : ν' 0 68 = ν 0 68) (h2 : ν' 42 = ν 42) (h3 : ν' 43 = ν 43) : RelG μ' ν' := by
  unfold RelG at *
  rw [h1, h2, h3]
  rcases h with h | ⟨a, b, c, d⟩
  · exact Or.inl h
  · exact Or.inr ⟨a, b, c.trans (frQ_gdW hf h7 1 0).symm, fun k hk => ⟨(d k hk).1, (d k hk).2.trans (frQ_gdW hf h7 2 k).symm⟩⟩
