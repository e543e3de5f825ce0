/-! change: what stands while the PROOFS are tried again -/
theorem relX_scr {μ μ' ν : Mem} (h : RelX μ ν) (hf : Fr μ μ' scr) : RelX μ' ν := by
  obtain ⟨hT, hH, hW, hS, hP, hI, hD, hG, hC⟩ := h
  have k : ∀ c, (c < 153 ∨ (163 ≤ c ∧ c ≤ 210) ∨ 796 ≤ c) → μ' c = μ c := fun c hc => hf c (by unfold scr; omega)
  refine ⟨hT.kept (by rw [k 151 (by omega)]) (by rw [k 151 (by omega)]) (k 152 (by omega)), ?_, hW.kept (fun c _ _ => k c (by omega)), hS.kept (k 23 (by omega)) (fun c _ _ => k c (by omega)), hP.kept (k 25 (by omega)) (k 26 (by omega)) (k 27 (by omega)), hI.kept (fun c _ _ => k c (by omega)), hD.kept (k 23 (by omega)) (k 28 (by omega)) (k 29 (by omega)) (k 30 (by omega)), hG, hC.kept (fun c _ _ => k c (by omega))⟩
  unfold RelH at *
  rw [k 0 (by omega)]
  exact hH
theorem relX_scrR {μ ν ν' : Mem} (h : RelX μ ν) (hf : FrR ν ν') : RelX μ ν' := by
  obtain ⟨hT, hH, hW, hS, hP, hI, hD, hG, hC⟩ := h
  have k0 : ∀ k, (k = 0 ∨ k = 5 ∨ k = 15 ∨ k = 16 ∨ k = 21 ∨ k = 22 ∨ k = 23 ∨ k = 25 ∨ k = 30 ∨ k = 45 ∨ k = 46 ∨ k = 68) → ν' 0 k = ν 0 k := fun k hk => hf.2 k (by unfold scrK; omega)
  have m := frR_M hf
  have q : ∀ c, (c = 17 ∨ c = 18 ∨ (26 ≤ c ∧ c ≤ 28) ∨ (42 ≤ c ∧ c ≤ 43) ∨ 51 ≤ c) → ν' c = ν c := fun c hc => frR_c hf (by omega)
  exact ⟨hT.keptR (k0 25 (by omega)) (k0 30 (by omega)) (q 18 (by omega)), hH.keptR (k0 21 (by omega)) (k0 22 (by omega)), hW.keptR m, hS.keptR m (k0 15 (by omega)) (k0 16 (by omega)), hP.keptR m (k0 16 (by omega)), hI.keptR m (k0 45 (by omega)) (k0 46 (by omega)) (q 26 (by omega)) (q 27 (by omega)) (q 28 (by omega)), hD.keptR m (k0 16 (by omega)) (k0 22 (by omega)) (q 17 (by omega)), hG.keptR m (k0 68 (by omega)) (q 42 (by omega)) (q 43 (by omega)), hC.keptR (q 51 (by omega)) (q 52 (by omega)) (q 53 (by omega))⟩
theorem frC_trans {w : Nat} {ν ν1 ν2 : Mem} (h : FrC w ν ν1) (h2 : FrC w ν1 ν2) : FrC w ν ν2 := ⟨fun c a => (h2.1 c a).trans (h.1 c a), fun v a b => (h2.2.1 v a (by rw [h.2.2.1]; exact b)).trans (h.2.1 v a b), h2.2.2.1.trans h.2.2.1, h2.2.2.2.1.trans h.2.2.2.1, h2.2.2.2.2.1.trans h.2.2.2.2.1, h2.2.2.2.2.2.1.trans h.2.2.2.2.2.1, h2.2.2.2.2.2.2.trans h.2.2.2.2.2.2⟩
theorem frC_V {w : Nat} {ν ν' : Mem} (h : FrV ν ν') : FrC w ν ν' := ⟨fun c a => h.1 c (by omega) (by omega), fun v _ _ => by rw [frM_mL (frV_M h)], h.2 0 (by omega) (by omega) (by omega) (by omega), h.2 5 (by omega) (by omega) (by omega) (by omega), h.2 23 (by omega) (by omega) (by omega) (by omega), h.2 15 (by omega) (by omega) (by omega) (by omega), h.2 16 (by omega) (by omega) (by omega) (by omega)⟩
/-- e's PROOF stands in ν (what RelL wants but for what is leaned on) -/
def PRF (μ ν ν0 : Mem) (e : Nat) : Prop := rnS ν (ν 14) (ν 15) (ν 16) (ν 10 e).toNat (ν 11 e).toNat (sL ν e 0) = some (sL ν e 1) ∧ (∀ f : Nat, USE ν0 e f → ν 7 f = 0 ∨ ν 7 f = 2) ∧ 0 ≤ μ (31 + 5 * e) 10 ∧ μ (31 + 5 * e) 10 < 16 ∧ ∀ v : Nat, v < 4 → (tb (μ (31 + 5 * e) 10) v = true ↔ ptsS ν (ν 14) (ν 15) (ν 16) v (ν 10 e).toNat (ν 11 e).toNat (sL ν e 0))
def INV (μ0 ν0 : Mem) (w : Nat) (μ ν : Mem) (gone : Int) (T : Int) : Prop := RelX μ ν ∧ FrC w ν0 ν ∧
  (∀ e : Nat, (e : Int) < ν0 0 5 → ν 7 e = ν0 7 e ∨ (ν0 7 e = 2 ∧ ν 7 e = 3 ∧ ν0 13 e < T)) ∧
  (∀ e : Nat, (e : Int) < ν0 0 5 → μ (31 + 5 * e) 9 = μ0 (31 + 5 * e) 9) ∧
  (∀ e : Nat, (e : Int) < ν0 0 5 → ν 7 e = 2 → ν0 13 e < T → PRF μ ν ν0 e) ∧
  (∀ e : Nat, (e : Int) < ν0 0 5 → ν 7 e = 2 → T ≤ ν0 13 e → μ (31 + 5 * e) 10 = μ0 (31 + 5 * e) 10) ∧
  MK gone (fun e => (e : Int) < ν0 0 5 ∧ ν0 7 e = 2 ∧ ν 7 e = 3) ∧
  (∀ e : Nat, (e : Int) < ν0 0 5 → ν0 7 e = 2 → ν 29 e = (if tb (μ0 (31 + 5 * e) 10) w then 1 else 0)) ∧ ν 0 22 = ν0 0 22 ∧ ν 0 45 = -4 ∧ ν 0 68 = 0
section INVS
variable {μ0 ν0 μ ν : Mem} {w : Nat} {gone T : Int}
theorem INV.skip (h : INV μ0 ν0 w μ ν gone T) (hno : ∀ e : Nat, (e : Int) < ν0 0 5 → ν 7 e = 2 → ν0 13 e ≠ T) : INV μ0 ν0 w μ ν gone (T + 1) := by
  obtain ⟨a, b, c, d, e, f, g, i, j⟩ := h
  refine ⟨a, b, fun x hx => ?_, d, fun x hx h7 ht => ?_, fun x hx h7 ht => f x hx h7 (by omega), g, i, j⟩
  · rcases c x hx with z | z
    · exact Or.inl z
    · exact Or.inr ⟨z.1, z.2.1, by omega⟩
  · have := hno x hx h7
    exact e x hx h7 (by omega)
theorem PRF.kept {μ' ν' : Mem} {e : Nat} (h : PRF μ ν ν0 e) (hM : FrM ν ν') (h10 : μ' (31 + 5 * e) 10 = μ (31 + 5 * e) 10) : PRF μ' ν' ν0 e := by
  unfold PRF at *
  rw [frM_c hM (c := 14) (by omega), frM_c hM (c := 15) (by omega), frM_c hM (c := 16) (by omega), frM_c hM (c := 10) (by omega), frM_c hM (c := 11) (by omega), frM_c hM (c := 7) (by omega), frM_sL hM, h10, frM_rnS hM]
  obtain ⟨a, b, c, d, f⟩ := h
  exact ⟨a, b, c, d, fun v hv => by rw [frM_ptsS hM]; exact f v hv⟩
/-- e stands -/
theorem INV.keep {μ' ν' : Mem} {e : Nat} (h : INV μ0 ν0 w μ ν gone T) (he : (e : Int) < ν0 0 5) (h7 : ν 7 e = 2) (hT : ν0 13 e = T) (hu : ∀ f : Nat, (f : Int) < ν0 0 5 → ν 7 f = 2 → ν0 13 f = T → f = e) (hV : FrV ν ν') (hc : ∀ c, ¬ rwF 211 c → c ≠ 31 + 5 * e → μ' c = μ c) (hs : ∀ k, k ≠ 7 → k ≠ 10 → μ' (31 + 5 * e) k = μ (31 + 5 * e) k) (hp : PRF μ' ν' ν0 e) : INV μ0 ν0 w μ' ν' gone (T + 1) := by
  obtain ⟨a, b, c, d, g, f, k, i, j⟩ := h
  have hM := frV_M hV
  have h5 := b.2.2.2.1
  have h24 : ν0 0 5 ≤ 24 := by rw [← h5]; exact a.2.2.2.1.2.1
  have e7 : ν' 7 = ν 7 := frM_c hM (by omega)
  -- the class's saying e: only two numbers that do not count now
  have ax : RelX μ' ν' := by
    refine relX_scrR (relX_scr (μ := fun x k => if x = 31 + 5 * e then μ' x k else μ x k) ?_ (fun x hx => ?_)) (frV_R hV)
    · obtain ⟨hT', hH, hW, hS, hP, hI, hD, hG, hC⟩ := a
      have kc : ∀ x, x ≠ 31 + 5 * e → (fun x k => if x = 31 + 5 * e then μ' x k else μ x k : Mem) x = μ x := fun x hx => by funext k; exact if_neg hx
      have ke : (fun x k => if x = 31 + 5 * e then μ' x k else μ x k : Mem) (31 + 5 * e) = μ' (31 + 5 * e) := by funext k; exact if_pos rfl
      generalize (fun x k => if x = 31 + 5 * e then μ' x k else μ x k : Mem) = μm at *
      refine ⟨hT'.kept (by rw [kc 151 (by omega)]) (by rw [kc 151 (by omega)]) (kc 152 (by omega)), ?_, hW.kept (fun x _ _ => kc x (by omega)), ?_, hP.kept (kc 25 (by omega)) (kc 26 (by omega)) (kc 27 (by omega)), hI.kept (fun x _ _ => kc x (by omega)), hD.kept (kc 23 (by omega)) (kc 28 (by omega)) (kc 29 (by omega)) (kc 30 (by omega)), hG, hC.kept (fun x _ _ => kc x (by omega))⟩
      · unfold RelH at *
        rw [kc 0 (by omega)]
        exact hH
      · obtain ⟨s1, s2, s3, s4, s5, s6, s7, s8, s9⟩ := hS
        unfold RelS
        rw [kc 23 (by omega)]
        refine ⟨s1, s2, s3, s4, s5, s6, s7, s8, fun x hx => ?_⟩
        obtain ⟨q1, q2, q3, q4, q5, q6, q7, q8, q9, q10, q11, q12, q13⟩ := s9 x hx
        refine ⟨q1, q2, ?_, ?_, ?_⟩
        · unfold TH at q3 ⊢
          rw [kc (32 + 5 * x) (by omega), kc (32 + 5 * x + 1) (by omega)]
          exact q3
        · unfold TH at q4 ⊢
          rw [kc (34 + 5 * x) (by omega), kc (34 + 5 * x + 1) (by omega)]
          exact q4
        · by_cases z : x = e
          · subst z
            rw [ke, hs 2 (by omega) (by omega), hs 3 (by omega) (by omega), hs 4 (by omega) (by omega), hs 5 (by omega) (by omega), hs 6 (by omega) (by omega), hs 8 (by omega) (by omega)]
            exact ⟨q5, q6, q7, q8, q9, q10, q11, fun y => by omega, q13⟩
          · rw [kc (31 + 5 * x) (by omega)]
            exact ⟨q5, q6, q7, q8, q9, q10, q11, q12, q13⟩
    · show μ' x = (fun k => if x = 31 + 5 * e then μ' x k else μ x k)
      funext k
      by_cases z : x = 31 + 5 * e
      · rw [if_pos z]
      · rw [if_neg z, hc x (by unfold scr at hx; unfold rwF; omega) z]
  refine ⟨ax, frC_trans b (frC_V hV), fun x hx => ?_, fun x hx => ?_, fun x hx h7' ht => ?_, fun x hx h7' ht => ?_, ?_, fun x hx h7' => ?_, ?_⟩
  · rw [e7]
    rcases c x hx with z | z
    · exact Or.inl z
    · exact Or.inr ⟨z.1, z.2.1, by omega⟩
  · by_cases z : x = e
    · subst z
      rw [hs 9 (by omega) (by omega)]
      exact d x hx
    · rw [hc (31 + 5 * x) (by unfold rwF; omega) (by omega)]
      exact d x hx
  · rw [e7] at h7'
    by_cases z : x = e
    · subst z; exact hp
    · have : ν0 13 x ≠ T := fun y => z (hu x hx h7' y)
      exact (g x hx h7' (by omega)).kept hM (by rw [hc (31 + 5 * x) (by unfold rwF; omega) (by omega)])
  · rw [e7] at h7'
    by_cases z : x = e
    · subst z; omega
    · rw [hc (31 + 5 * x) (by unfold rwF; omega) (by omega)]
      exact f x hx h7' (by omega)
  · rw [e7]; exact k
  · rw [hV.1 29 (by omega) (by omega)]; exact i x hx h7'
  · rw [hV.2 22 (by omega) (by omega) (by omega) (by omega), hV.2 45 (by omega) (by omega) (by omega) (by omega), hV.2 68 (by omega) (by omega) (by omega) (by omega)]; exact j
end INVS
