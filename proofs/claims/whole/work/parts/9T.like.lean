/-! sims like and find -/
theorem frR_nM {ν X : Mem} (h : FrR ν X) : FrM ν X := frR_M h
theorem scr_Lk {μ μ' : Mem} (h : Fr μ μ' SLk) : Fr μ μ' scr := h.mono (fun c hc => by unfold SLk at hc; unfold scr; omega)
theorem s_begin {μ ν : Mem} {how : Int} {e : Nat} (hW : RelW μ ν) (hS : RelS μ ν) (h7 : 0 ≤ how ∧ how ≤ 7) (he : (e : Int) < ν 0 5) : ∃ μ', f_X0_begin [vR 0 780, vI e, vI how] μ = some (some (vI (if (rdy ν how e).isSome then 1 else 0)), μ') ∧ Fr μ μ' scr ∧ μ' 780 10 = how ∧ ∀ A B, rdy ν how e = some (A, B) → TH μ' 781 A ∧ TH μ' 783 B := by
  have f0 : ∀ c, c ≠ 780 → up μ 780 10 how c = μ c := fun c hc => up_cell hc
  have hW0 : RelW (up μ 780 10 how) ν := hW.kept (fun c _ _ => f0 c (by omega))
  have hS0 : RelS (up μ 780 10 how) ν := hS.kept (f0 23 (by omega)) (fun c _ _ => f0 c (by omega))
  obtain ⟨μ1, a1, a2, a3⟩ := s_makeReady (a := 781) (b := 783) hW0 hS0 he (by rw [up_same]) h7 (by omega) (by omega) (by omega) rfl rfl
  rw [q_X0_begin, a1, cI_t, gz_ite]
  refine ⟨μ1, rfl, fun c hc => ?_, by rw [a2 780 (by unfold SRd tS; omega), up_same], a3⟩
  unfold scr at hc
  rw [a2 c (by unfold SRd tS; omega), f0 c (by omega)]
theorem rel_WS {μ μ' ν : Mem} (h : Rel μ ν) (hf : Fr μ μ' scr) : RelW μ' ν ∧ RelS μ' ν := ⟨(rel_scr h hf).2.2.1, (rel_scr h hf).2.2.2.1⟩
theorem sim_like (μ ν : Mem) (x1 x2 x3 : Int) (_ : in32 x1) (_ : in32 x2) (_ : in32 x3) (h : Rel μ ν) : Sm Rel f_X11_like f_X12_like [vI x1, vI x2, vI x3] μ ν := by
  unfold Sm
  have hS := h.2.2.2.1
  have hW := h.2.2.1
  rw [q_X11_like, q_X12_like]
  by_cases hx : ¬ (0 ≤ x1 ∧ x1 < ν 0 5)
  · rw [get_f hS hx, cR_n, isS_f hS hx, cI_t, if_pos rfl]
    exact ⟨-1, μ, ν, rfl, rfl, h⟩
  replace hx := Decidable.not_not.mp hx
  obtain ⟨e, rfl⟩ : ∃ e : Nat, x1 = (e : Int) := ⟨x1.toNat, by omega⟩
  rw [get_t hS hx, cR_s, isS_t hS hx, cI_t, if_neg ten]
  by_cases hy : ¬ (0 ≤ x2 ∧ x2 < ν 0 5)
  · rw [get_f hS hy, cR_n, isS_f hS hy, cI_t, if_pos rfl]
    exact ⟨-1, μ, ν, rfl, rfl, h⟩
  replace hy := Decidable.not_not.mp hy
  obtain ⟨f, rfl⟩ : ∃ f : Nat, x2 = (f : Int) := ⟨x2.toNat, by omega⟩
  rw [get_t hS hy, cR_s, isS_t hS hy, cI_t, if_neg ten, s_in, cI_t]
  by_cases h7 : 0 ≤ x3 ∧ x3 ≤ 7
  · rw [if_neg (by omega), if_pos h7.2, if_pos h7, if_neg ten]
    obtain ⟨μ1, a1, a2, a3, a4⟩ := s_begin hW hS h7 hx.2
    obtain ⟨r, X', b1, b2, b3, b4⟩ := r_areLike (X := ν) (how := x3) hW hS ⟨fun _ _ _ => rfl, rfl, rfl, rfl⟩ hx.2 hy.2
    rw [a1, cI_t, b1, cI_t]
    cases hr : rdy ν x3 e with
    | none =>
      have r0 : r = 0 := by
        rcases b3 with q | q
        · exact q
        · obtain ⟨A, B, C, D, z, _⟩ := b4.mp q; rw [hr] at z; cases z
      rw [if_neg (show ¬ (none : Option (List Int × List Int)).isSome = true by decide), if_pos rfl, if_pos r0]
      exact ⟨0, μ1, X', rfl, rfl, rel_scrR (rel_scr h a2) b2⟩
    | some AB =>
      obtain ⟨A, B⟩ := AB
      obtain ⟨tA, tB⟩ := a4 A B hr
      obtain ⟨hW1, hS1⟩ := rel_WS h a2
      obtain ⟨s, μ2, c1, c2, c3, c4⟩ := s_isLike hW1 hS1 h7 hx.2 hy.2 hr a3 tA tB
      have e : s = r := by
        rcases c3 with q | q
        · rcases b3 with z | z
          · omega
          · have := c4.mpr (b4.mp z); omega
        · have := b4.mpr (c4.mp q); omega
      subst e
      have hR := rel_scrR (rel_scr h (a2.trans (scr_Lk c2))) b2
      rw [if_pos (show (some (A, B)).isSome = true from rfl), if_neg ten, c1, cI_t]
      by_cases z : s = 0
      · rw [if_pos z, if_pos z]; exact ⟨0, μ2, X', rfl, rfl, hR⟩
      · rw [if_neg z, if_neg z]; exact ⟨1, μ2, X', rfl, rfl, hR⟩
  · rw [if_neg h7, if_pos rfl]
    refine ⟨-1, μ, ν, ?_, rfl, h⟩
    by_cases q : x3 < 0
    · rw [if_pos q]
    · rw [if_neg q, if_neg (show ¬ x3 ≤ 7 by omega)]
