/-! what a saying leans on (the reference): rounds until nothing is new -/
theorem cnt_le (P : Nat → Bool) : ∀ n, cnt P n ≤ n
  | 0 => Nat.le_refl _
  | n + 1 => by
    have := cnt_le P n
    unfold cnt
    split <;> omega
theorem cnt_full {P : Nat → Bool} : ∀ n, n ≤ cnt P n → ∀ k, k < n → P k = true
  | 0, _, k, hk => by omega
  | n + 1, h, k, hk => by
    have h1 := cnt_le P n
    unfold cnt at h
    by_cases hn : P n = true
    · rw [if_pos hn] at h
      by_cases e : k = n
      · rw [e]; exact hn
      · exact cnt_full n (by omega) k (by omega)
    · rw [if_neg hn] at h
      omega
theorem cnt_mono {P Q : Nat → Bool} : ∀ n, (∀ k, k < n → P k = true → Q k = true) → cnt P n ≤ cnt Q n
  | 0, _ => Nat.le_refl _
  | n + 1, h => by
    have h1 := cnt_mono n (fun k hk => h k (by omega))
    unfold cnt
    by_cases hn : P n = true
    · rw [if_pos hn, if_pos (h n (by omega) hn)]; omega
    · rw [if_neg hn]
      split <;> omega
theorem cnt_lt {P Q : Nat → Bool} {k : Nat} : ∀ n, (∀ k, k < n → P k = true → Q k = true) → k < n → Q k = true → ¬ P k = true → cnt P n + 1 ≤ cnt Q n
  | 0, _, hk, _, _ => by omega
  | n + 1, h, hk, hq, hp => by
    by_cases e : k = n
    · subst e
      have h1 := cnt_mono k (fun j hj => h j (by omega))
      unfold cnt
      rw [if_neg hp, if_pos hq]
      omega
    · have h1 := cnt_lt n (fun k hk => h k (by omega)) (by omega) hq hp
      unfold cnt
      by_cases hn : P n = true
      · rw [if_pos hn, if_pos (h n (by omega) hn)]; omega
      · rw [if_neg hn]
        split <;> omega
theorem s_leans19 {μ ν : Mem} (hS : RelS μ ν) (hP : RelP μ ν) {R M0 : Nat → Prop} (hR : ∀ g f, R g → USE ν g f → R f) {n : Nat} (hn : ν 0 5 = (n : Int)) (v3 : Int) : ∀ (j i : Nat) (m : Int) (o1 : Option AV) (P : Nat → Prop), i + j = n → MK m P → (∀ k, M0 k → P k) → (∀ k, P k → R k) → (∀ g f, g < i → M0 g → USE ν g f → P f) →
    ∃ m' o' P', e_X12_leansOf_19 o1 m v3 i ν = e_X12_leansOf_8 o' m' (wr (v3 + 1)) (some (vI (n : Int))) ν ∧ MK m' P' ∧ (∀ k, P k → P' k) ∧ (∀ k, P' k → R k) ∧ (∀ g f, g < n → M0 g → USE ν g f → P' f)
  | 0, i, m, o1, P, hj, hm, h1, h2, h3 => by
    obtain rfl : i = n := by omega
    rw [q_X12_leansOf_19, hn, if_neg (by omega)]
    exact ⟨m, o1, P, rfl, hm, fun _ q => q, h2, h3⟩
  | j + 1, i, m, o1, P, hj, hm, h1, h2, h3 => by
    have h24 := hS.2.1
    rw [q_X12_leansOf_19, hn, if_pos (by omega), wr_eq (x := (i : Int) + 1) (by omega) (by omega), show (i : Int) + 1 = ((i + 1 : Nat) : Int) by omega]
    have hb := hm.bit (k := i) (by omega)
    by_cases hi : P i
    · obtain ⟨m2, a1, a2⟩ := s_usesOf hS hP (e := i) (by omega)
      rw [hb.1 hi, if_pos rfl, a1, cI_t]
      obtain ⟨m', o', P', r1, r2, r3, r4, r5⟩ := s_leans19 hS hP (M0 := M0) hR hn v3 j (i + 1) (bOr m m2) (kl o1) _ (by omega) (hm.or a2) (fun k q => Or.inl (h1 k q)) (fun k q => q.elim (h2 k) (fun z => hR i k (h2 i hi) z)) (fun g f q1 q2 q3 => by
        by_cases e : g = i
        · subst e; exact Or.inr q3
        · exact Or.inl (h3 g f (by omega) q2 q3))
      exact ⟨m', o', P', r1, r2, fun k q => r3 k (Or.inl q), r4, r5⟩
    · rw [hb.2 hi, if_neg (by decide)]
      obtain ⟨m', o', P', r1, r2, r3, r4, r5⟩ := s_leans19 hS hP (M0 := M0) hR hn v3 j (i + 1) (bOr m 0) (kl o1) P (by omega) ((hm.or MK.zero).congr (fun k => ⟨fun q => q.elim id False.elim, Or.inl⟩)) h1 h2 (fun g f q1 q2 q3 => by
        by_cases e : g = i
        · subst e; exact absurd (h1 g q2) hi
        · exact h3 g f (by omega) q2 q3)
      exact ⟨m', o', P', r1, r2, r3, r4, r5⟩
def clU (ν : Mem) (P : Nat → Prop) : Prop := ∀ g f, P g → USE ν g f → P f
theorem s_leans8 {μ ν : Mem} (hS : RelS μ ν) (hP : RelP μ ν) {e n : Nat} (hn : ν 0 5 = (n : Int)) : ∀ (j r : Nat) (m : Int) (o1 o4 : Option AV) (P : Nat → Prop), r + j = n → MK m P → (∀ k, USE ν e k → P k) → (∀ k, P k → Relation.TransGen (USE ν) e k) → (clU ν P ∨ r ≤ cnt (tb m) n) →
    ∃ m', e_X12_leansOf_8 o1 m r o4 ν = some (some (vI m'), ν) ∧ MK m' (fun k => Relation.TransGen (USE ν) e k)
  | 0, r, m, o1, o4, P, hj, hm, h1, h2, h3 => by
    obtain rfl : r = n := by omega
    have h24 := hS.2.1
    rw [q_X12_leansOf_8, hn, if_neg (by omega)]
    have hc : clU ν P := by
      rcases h3 with h3 | h3
      · exact h3
      · intro g f _ q2
        have hl := USE_lt hS hP q2
        exact (hm.2 f (by omega)).mp (cnt_full r h3 f (by omega))
    refine ⟨m, rfl, hm.congr (fun k => ⟨h2 k, fun q => ?_⟩)⟩
    induction q with
    | single q => exact h1 _ q
    | tail _ q ih => exact hc _ _ ih q
  | j + 1, r, m, o1, o4, P, hj, hm, h1, h2, h3 => by
    have h24 := hS.2.1
    have hlt : ∀ k, Relation.TransGen (USE ν) e k → k < n := fun k q => by
      have : (k : Int) < ν 0 5 := by
        cases q with
        | single q => exact USE_lt hS hP q
        | tail _ q => exact USE_lt hS hP q
      omega
    rw [q_X12_leansOf_8, hn, if_pos (by omega)]
    have fin : ∀ (R : Nat → Prop), (∀ g f, R g → USE ν g f → R f) → (∀ k, P k → R k) → (∀ k, R k → Relation.TransGen (USE ν) e k) → ((∀ k, R k → P k) ∨ r ≤ cnt (tb m) n) → ∃ m', e_X12_leansOf_19 o1 m r 0 ν = some (some (vI m'), ν) ∧ MK m' (fun k => Relation.TransGen (USE ν) e k) := by
      intro R hR k1 k2 k3
      obtain ⟨m', o', P', r1, r2, r3, r4, r5⟩ := s_leans19 (M0 := P) hS hP hR hn (r : Int) n 0 m o1 P (by omega) hm (fun _ q => q) k1 (fun g f q => by omega)
      have r1' : e_X12_leansOf_19 o1 m r 0 ν = _ := r1
      rw [r1', wr_eq (x := (r : Int) + 1) (by omega) (by omega), show (r : Int) + 1 = ((r + 1 : Nat) : Int) by omega]
      refine s_leans8 hS hP hn j (r + 1) m' o' _ P' (by omega) r2 (fun k q => r3 k (h1 k q)) (fun k q => k2 k (r4 k q)) ?_
      by_cases hsub : ∀ k, P' k → P k
      · refine Or.inl (fun g f q1 q2 => r5 g f (hlt g (k2 g (r4 g q1))) (hsub g q1) q2)
      · have hsub' : ∃ k, P' k ∧ ¬ P k := Classical.byContradiction (fun q => hsub (fun k z => Classical.byContradiction (fun w => q ⟨k, z, w⟩)))
        obtain ⟨k, s1, s2⟩ := hsub'
        rcases k3 with k3 | k3
        · exact absurd (k3 k (r4 k s1)) s2
        · have hk := hlt k (k2 k (r4 k s1))
          have := cnt_lt (P := tb m) (Q := tb m') (k := k) n (fun i hi q => (r2.2 i (by omega)).mpr (r3 i ((hm.2 i (by omega)).mp q))) hk ((r2.2 k (by omega)).mpr s1) (fun q => s2 ((hm.2 k (by omega)).mp q))
          exact Or.inr (by omega)
    rcases h3 with h3 | h3
    · exact fin P h3 (fun _ q => q) h2 (Or.inl (fun _ q => q))
    · exact fin (fun k => Relation.TransGen (USE ν) e k) (fun g f q1 q2 => Relation.TransGen.tail q1 q2) h2 (fun _ q => q) (Or.inr h3)
/-- what a saying leans on -/
theorem s_leansOf {μ ν : Mem} (hS : RelS μ ν) (hP : RelP μ ν) {e : Nat} (he : (e : Int) < ν 0 5) : ∃ m, f_X12_leansOf [vR 12 0, vI e] ν = some (some (vI m), ν) ∧ MK m (fun k => Relation.TransGen (USE ν) e k) := by
  obtain ⟨m, a1, a2⟩ := s_usesOf hS hP he
  rw [q_X12_leansOf, a1, cI_t]
  obtain ⟨n, hn⟩ : ∃ n : Nat, ν 0 5 = (n : Int) := ⟨(ν 0 5).toNat, by omega⟩
  exact s_leans8 hS hP hn n 0 m _ none _ (by omega) a2 (fun _ q => q) (fun k q => Relation.TransGen.single q) (Or.inr (by omega))
