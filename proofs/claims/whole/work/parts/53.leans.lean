/-! MASKS: what a saying uses, what it leans on (the reference) -/
def MK (m : Int) (P : Nat → Prop) : Prop := in32 m ∧ ∀ k, k < 32 → (tb m k = true ↔ P k)
theorem tb_0 (k : Nat) : tb 0 k = false := by
  unfold tb
  rw [q32_0]
  show (0#32).getLsbD k = false
  simp
theorem MK.zero : MK 0 (fun _ => False) := ⟨by unfold in32; omega, fun k _ => by rw [tb_0]; simp⟩
theorem MK.or {m m2 : Int} {P Q : Nat → Prop} (h : MK m P) (h2 : MK m2 Q) : MK (bOr m m2) (fun k => P k ∨ Q k) := ⟨in32_bOr _ _, fun k hk => by rw [tb_bOr, Bool.or_eq_true, h.2 k hk, h2.2 k hk]⟩
theorem MK.and {m m2 : Int} {P Q : Nat → Prop} (h : MK m P) (h2 : MK m2 Q) : MK (bAnd m m2) (fun k => P k ∧ Q k) := ⟨in32_bAnd _ _, fun k hk => by rw [tb_bAnd, Bool.and_eq_true, h.2 k hk, h2.2 k hk]⟩
theorem MK.shl {f : Nat} (h : f < 24) : MK (bShl 1 (f : Int)) (fun k => k = f) := ⟨by have := shl1_rng f h; unfold in32; omega, fun k hk => by rw [tb_shl1 f h k hk]; simp⟩
theorem MK.congr {m : Int} {P Q : Nat → Prop} (h : MK m P) (hq : ∀ k, P k ↔ Q k) : MK m Q := ⟨h.1, fun k hk => (h.2 k hk).trans (hq k)⟩
theorem MK.eq {m m2 : Int} {P : Nat → Prop} (h : MK m P) (h2 : MK m2 P) : m = m2 := tb_ext h.1 h2.1 (fun k hk => by
  have a := h.2 k hk
  have b := h2.2 k hk
  cases q1 : tb m k <;> cases q2 : tb m2 k <;> simp [q1, q2] at a b ⊢ <;> first | exact a b | exact b a)
theorem MK.bit {m : Int} {P : Nat → Prop} (h : MK m P) {k : Nat} (hk : k < 32) : (P k → bAnd (bShr m (k : Int)) 1 = 1) ∧ (¬ P k → bAnd (bShr m (k : Int)) 1 = 0) := by
  rw [bit_at hk]
  refine ⟨fun q => ?_, fun q => ?_⟩
  · rw [if_pos ((h.2 k hk).mpr q)]
  · rw [if_neg (fun z => q ((h.2 k hk).mp z))]
theorem USE_lt {μ ν : Mem} (hS : RelS μ ν) (hP : RelP μ ν) {e f : Nat} (h : USE ν e f) : (f : Int) < ν 0 5 := by
  obtain ⟨he, h7, i, hi, hk, hf⟩ := h
  have hs := (hS.2.2.2.2.2.2.2.2 e he).2.2.2.2.2.2.2.2.2.2.1 (by omega)
  have hp := (hP ((ν 10 e).toNat + i) (by omega)).2.2.2.2.2.2.2 hk
  omega
theorem s_uses4 {μ ν : Mem} (hS : RelS μ ν) (hP : RelP μ ν) {e : Nat} (he : (e : Int) < ν 0 5) (h7 : ν 7 e = 2) : ∀ (j i : Nat) (m : Int), ν 11 e = ((i + j : Nat) : Int) → MK m (fun f => ∃ q : Nat, q < i ∧ ν 14 ((ν 10 e).toNat + q) ≤ 1 ∧ ν 15 ((ν 10 e).toNat + q) = (f : Int)) → ∃ m', e_X12_usesOf_4 e m i ν = some (some (vI m'), ν) ∧ MK m' (USE ν e)
  | 0, i, m, hj, hm => by
    have h24 := hS.2.1
    rw [q_X12_usesOf_4, gk (lnR 11) 24 rfl (by omega) (by omega), show ((e : Int)).toNat = e by omega, hj, if_neg (by omega)]
    refine ⟨m, rfl, hm.congr (fun f => ⟨fun ⟨q, q1, q2, q3⟩ => ⟨he, h7, q, by omega, q2, q3⟩, fun ⟨_, _, q, q1, q2, q3⟩ => ⟨q, by omega, q2, q3⟩⟩)⟩
  | j + 1, i, m, hj, hm => by
    have h24 := hS.2.1
    have hs := (hS.2.2.2.2.2.2.2.2 e he).2.2.2.2.2.2.2.2.2.2.1 (by omega)
    have h16 := hS.2.2.2.2.1
    have hp := hP ((ν 10 e).toNat + i) (by omega)
    rw [q_X12_usesOf_4, gk (lnR 11) 24 rfl (by omega) (by omega), show ((e : Int)).toNat = e by omega, hj, if_pos (by omega), gk (lnR 7) 24 rfl (by omega) (by omega), if_pos h7, gk (lnR 10) 24 rfl (by omega) (by omega), wr_eq (x := ν 10 e + (i : Int)) (by omega) (by omega), gk (lnR 14) 200 rfl (by omega) (by omega), show (ν 10 e + (i : Int)).toNat = (ν 10 e).toNat + i by omega, gk (lnR 10) 24 rfl (by omega) (by omega), gk (lnR 15) 200 rfl (by omega) (by omega), wr_eq (x := (i : Int) + 1) (by omega) (by omega), show (i : Int) + 1 = ((i + 1 : Nat) : Int) by omega]
    by_cases hk : ν 14 ((ν 10 e).toNat + i) ≤ 1
    · have hb := hp.2.2.2.2.2.2.2 hk
      obtain ⟨f, hf⟩ : ∃ f : Nat, ν 15 ((ν 10 e).toNat + i) = (f : Int) := ⟨(ν 15 ((ν 10 e).toNat + i)).toNat, by omega⟩
      rw [if_pos hk, hf]
      refine s_uses4 hS hP he h7 j (i + 1) _ (by omega) ((hm.or (MK.shl (f := f) (by omega))).congr (fun g => ⟨?_, ?_⟩))
      · rintro (⟨q, q1, q2, q3⟩ | q)
        · exact ⟨q, by omega, q2, q3⟩
        · exact ⟨i, by omega, hk, by rw [hf, q]⟩
      · rintro ⟨q, q1, q2, q3⟩
        by_cases qi : q = i
        · subst qi
          exact Or.inr (by omega)
        · exact Or.inl ⟨q, by omega, q2, q3⟩
    · rw [if_neg hk]
      refine s_uses4 hS hP he h7 j (i + 1) _ (by omega) ((hm.or MK.zero).congr (fun g => ⟨?_, ?_⟩))
      · rintro (⟨q, q1, q2, q3⟩ | q)
        · exact ⟨q, by omega, q2, q3⟩
        · exact q.elim
      · rintro ⟨q, q1, q2, q3⟩
        by_cases qi : q = i
        · subst qi
          exact absurd q2 hk
        · exact Or.inl ⟨q, by omega, q2, q3⟩
theorem s_usesOf {μ ν : Mem} (hS : RelS μ ν) (hP : RelP μ ν) {e : Nat} (he : (e : Int) < ν 0 5) : ∃ m, f_X12_usesOf [vR 12 0, vI e] ν = some (some (vI m), ν) ∧ MK m (USE ν e) := by
  rw [q_X12_usesOf]
  have h24 := hS.2.1
  have hs := hS.2.2.2.2.2.2.2.2 e he
  by_cases h7 : ν 7 e = 2
  · have h2 := hs.2.2.2.2.2.2.2.2.2.2.1 (by omega)
    exact s_uses4 hS hP he h7 (ν 11 e).toNat 0 0 (by omega) (MK.zero.congr (fun f => ⟨fun q => q.elim, fun ⟨q, q1, _⟩ => by omega⟩))
  · have hn : MK 0 (USE ν e) := MK.zero.congr (fun f => ⟨fun q => q.elim, fun q => h7 q.2.1⟩)
    refine ⟨0, ?_, hn⟩
    rw [q_X12_usesOf_4, gk (lnR 11) 24 rfl (by omega) (by omega), show ((e : Int)).toNat = e by omega, gk (lnR 7) 24 rfl (by omega) (by omega), if_neg h7]
    exact ite_self _
