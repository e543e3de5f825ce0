/-! a line that tells a WORD -/
theorem TK.le {ν : Mem} {p f t : Nat} {k : Int} (h : TK ν p f t k) : p ≤ f ∧ f ≤ t := by
  refine ⟨h.1.1, ?_⟩
  have hk := cls_rng (lk ν f)
  rw [← h.2.1] at hk
  rcases hk with q | q | q | q | q | q
  · rw [h.2.2.2.1 (by omega)]; exact Nat.le_refl _
  · exact (h.2.2.1 (by omega)).1
  · exact (h.2.2.1 (by omega)).1
  · rw [h.2.2.2.2 (by omega)]; omega
  · rw [h.2.2.2.2 (by omega)]; omega
  · rw [h.2.2.2.1 (by omega)]; exact Nat.le_refl _
def OUT (μ0 ν0 : Mem) (p : Nat) (r : Int) (μ' ν' : Mem) : Prop := (r = 1 ∧ TX μ0 ν0 μ' ν' ∧ μ' 151 9 = 0 ∧ ∃ p' : Nat, p ≤ p' ∧ (p' : Int) ≤ ν0 0 25 ∧ μ' 151 7 = (p' : Int) ∧ HAND ν' ν0 p') ∨ (r = 0 ∧ TXB μ0 ν0 μ' ν' ∧ ∃ (f : Nat) (c : Int), 0 < c ∧ (f : Int) ≤ ν0 0 25 ∧ μ' 151 6 = (f : Int) ∧ μ' 151 9 = c ∧ ν' 0 30 = c ∧ ν' 0 31 = (f : Int))
theorem OLDC.TC {μ0 ν0 μ : Mem} (h : OLDC μ0 ν0 μ) (hT : RelT μ0 ν0) : TC μ ν0 := by
  unfold _root_.Jvm.Pilot.CShownLibraryLaw_law_r3005_08f4c6.TC
  rw [h.2.2.2.1 8 (by omega) (by omega) (by omega) (by omega), h.1 152 (by omega)]
  exact ⟨hT.1, hT.2.1, hT.2.2.1, hT.2.2.2.2⟩
theorem cls_1 {c : Int} (h : cls c = 1) : 97 ≤ c ∧ c ≤ 122 := by
  unfold cls at h
  split at h
  · omega
  · split at h
    · assumption
    · split at h
      · omega
      · split at h
        · omega
        · split at h <;> omega
theorem cls_2 {c : Int} (h : cls c = 2) : 48 ≤ c ∧ c ≤ 57 := by
  unfold cls at h
  split at h
  · omega
  · split at h
    · omega
    · split at h
      · assumption
      · split at h
        · omega
        · split at h <;> omega
theorem lk_lt {ν : Mem} {p : Nat} (h : lk ν p ≠ -1) : (p : Int) < ν 0 25 := by
  unfold lk at h
  by_cases z : (p : Int) < ν 0 25
  · exact z
  · rw [if_neg z] at h; exact absurd rfl h
theorem rw51_0 {X : Mem} {f : Nat} {o1 o2 o3 : Option AV} (h30 : X 0 30 = 0) (h27 : X 0 27 = (f : Int)) (h25 : 0 ≤ X 0 25 ∧ X 0 25 ≤ 240) : e_X12_readWord_51 o1 o2 o3 0 X = some (none, up (up X 0 30 2) 0 31 (f : Int)) := by
  have e30 : up (up X 0 30 2) 0 31 (f : Int) 0 30 = 2 := by rw [up_slot (by omega), up_same]
  have e27 : up (up X 0 30 2) 0 31 (f : Int) 0 27 = (f : Int) := by rw [up_slot (by omega), up_slot (by omega)]; exact h27
  have e25 : 0 ≤ up (up X 0 30 2) 0 31 (f : Int) 0 25 ∧ up (up X 0 30 2) 0 31 (f : Int) 0 25 ≤ 240 := by rw [up_slot (by omega), up_slot (by omega)]; exact h25
  rw [q_X12_readWord_51, q_X12_wants, if_pos rfl, if_pos h30, cV_t, up_slot (show (27 : Nat) ≠ 30 by omega), h27, e27, s_look1 e25, cI_t, e30, if_neg (by decide), rw97Bad (by rw [e30]; decide)]
theorem okRw_VW {ν : Mem} {n a : Int} {l : List Int} : okRw (VW ν) n a l ↔ okRw ν n a l := by
  unfold okRw mS
  rw [VW_wb, VW_ar]
theorem rowL_lk {ν ν' : Mem} (h : lk ν' = lk ν) (f t : Nat) : rowL ν' f t = rowL ν f t := by
  unfold rowL
  rw [h]
section LW
variable {μ0 ν0 μ ν : Mem} {p : Nat}
theorem line_word (h0 : Rel μ0 ν0) (h : TX μ0 ν0 μ ν) (hp : (p : Int) ≤ ν0 0 25) (m7 : μ 151 7 = (p : Int)) (m9 : μ 151 9 = 0) (n26 : ν 0 26 = (p : Int)) (n30 : ν 0 30 = 0) : ∃ r μ' νa ν', f_X7_tellWord [vR 7 151] μ = some (some (vI r), μ') ∧ f_X12_readWord [vR 12 0] ν = some (none, νa) ∧ f_X12_readSign [vR 12 0, vI 59] νa = some (none, ν') ∧ OUT μ0 ν0 p r μ' ν' := by
  have hT0 := h0.1
  have h4 : ν0 0 0 ≤ 4 := h0.2.2.1.2.1
  have h24 : ν0 0 5 ≤ 24 := h0.2.2.2.1.2.1
  have h25 : 0 ≤ ν0 0 25 ∧ ν0 0 25 ≤ 240 := ⟨hT0.2.1, hT0.2.2.1⟩
  have hb : ∀ i : Nat, (i : Int) < ν0 0 25 → 0 ≤ ν0 18 i := fun i hi => (hT0.2.2.2.2 i hi).1
  have tc : ∀ X : Mem, FrTx μ X → TC X ν0 := fun X hX => (h.1.fr h24 h4 hX).TC hT0
  have b25 : ∀ X : Mem, OLDR ν0 X → 0 ≤ X 0 25 ∧ X 0 25 ≤ 240 := fun X hX => by rw [hX.2.1 25 (by omega) (by omega) (by omega) (by omega)]; exact h25
  -- a bad end
  have BAD : ∀ (μ' ν' : Mem) (f : Nat) (c : Int), FrTx μ μ' → FrK ν ν' → 0 < c → (f : Int) ≤ ν0 0 25 → μ' 151 6 = (f : Int) → μ' 151 9 = c → ν' 0 30 = c → ν' 0 31 = (f : Int) → OUT μ0 ν0 p 0 μ' ν' := fun μ' ν' f c p1 p2 p3 p4 p5 p6 p7 p8 => Or.inr ⟨rfl, (h.bad).fr h24 h4 p1 p2, f, c, p3, p4, p5, p6, p7, p8⟩
  obtain ⟨f, t, k, μ1, a1, a2, a3, a4, a5⟩ := s_want (tc μ frTx_rf) hp m7 1
  obtain ⟨ν1, b1, b2, f', t', k', b3, b4, b5, b6⟩ := n1 h.2.1 h25 hb hp n26 n30
  obtain ⟨rfl, rfl, rfl⟩ := b3.uniq a1
  have O1 : OLDR ν0 ν1 := h.2.1.fr (frK_N b2)
  have F1 : FrTx μ μ1 := frTx_T a3
  rcases a5 with ⟨c1, c2, c3, c4, c5, c6, c7⟩ | ⟨c1, c2, c3, c4⟩ | ⟨c1, c2, c3⟩
  · -- a row
    subst c2
    obtain ⟨_, z30, z26, z27, z28, _⟩ : tok1 1 f' t' ∧ ν1 0 30 = 0 ∧ ν1 0 26 = (t' : Int) ∧ ν1 0 27 = (f' : Int) ∧ ν1 0 28 = (if (1 : Int) = 4 then 3 else 1) ∧ True := by
      rcases b6 with ⟨q1, q2, q3, q4, q5, _⟩ | ⟨q1, _⟩
      · exact ⟨q1, q2, q3, q4, q5, trivial⟩
      · exact absurd c1 q1
    have hr := b3.2.2.1 (Or.inl rfl)
    have hcl : cls (lk ν0 f') = 1 := b3.2.1.symm
    have hlk := cls_1 hcl
    have hft : f' < t' := by
      rcases Nat.lt_or_ge f' t' with y | y
      · exact y
      · have : t' = f' := by have := hr.1; omega
        rw [this] at hr
        exact absurd hcl hr.2.2
    have hlt := lk_lt (ν := ν0) (p := f') (by omega)
    have wB : wrB (lk ν0 f') = lk ν0 f' := by unfold wrB; omega
    have clsW : f_X7_tellWord [vR 7 151] μ = if (t' : Int) - (f' : Int) = 1 then if lk ν0 f' - 97 < 4 then cI (f_X9_numberOf [vR 9 1, vI (lk ν0 f' - 97)] μ1) (fun x8 μ7 => if x8 < 0 then cI (f_X7_want [vR 7 151, vI 2] μ7) (fun x10 μ9 => if x10 = 0 then gz 0 (some (some (vI 0), μ9)) else cI (f_X7_byteAt [vR 7 151, vI (μ9 151 6)] μ9) (fun x12 μ11 => if (wr (x12 - 48)) < 1 then cI (f_X7_fails [vR 7 151, vI 3] μ11) (fun x14 μ13 => gz x14 (some (some (vI x14), μ13))) else if (wr (x12 - 48)) ≤ 2 then cI (f_X7_wantTerm [vR 7 151, vR 8 153, vI (wr (x12 - 48)), vI (μ11 1 5)] μ11) (fun x16 μ15 => if x16 = 0 then gz 0 (some (some (vI 0), μ15)) else cI (f_X7_want [vR 7 151, vI 4] μ15) (fun x18 μ17 => if x18 = 0 then gz 0 (some (some (vI 0), μ17)) else cV (f_X9_add [vR 9 1, vI (lk ν0 f' - 97), vI (wr (x12 - 48)), vR 8 153] μ17) (fun μ19 => gz 1 (some (some (vI 1), μ19))))) else cI (f_X7_fails [vR 7 151, vI 3] μ11) (fun x21 μ20 => gz x21 (some (some (vI x21), μ20))))) else cI (f_X7_fails [vR 7 151, vI 4] μ7) (fun x23 μ22 => gz x23 (some (some (vI x23), μ22)))) else some (some (vI 0), up μ1 151 9 2) else some (some (vI 0), up μ1 151 9 2) := by
      rw [q_X7_tellWord, c3, cI_t, if_neg ten, a4, s_byteAt (tc μ1 F1) hlt, cI_t, wB, c5, a4, wr_eq (x := (t' : Int) - (f' : Int)) (by omega) (by omega), wr_eq (x := lk ν0 f' - 97) (by omega) (by omega), q_X7_fails, gz_0, cI_t, gz_0]
    have refW : f_X12_readWord [vR 12 0] ν = if (t' : Int) - (f' : Int) = 1 then (if lk ν0 f' ≤ 100 then e_X12_readWord_51 none none none 1 ν1 else e_X12_readWord_51 none none none 0 ν1) else e_X12_readWord_51 none none none 0 ν1 := by
      rw [q_X12_readWord, b1, cV_t, z28, if_neg (show ¬ (1 : Int) = 4 by decide), if_pos rfl, z26, z27, wr_eq (x := (t' : Int) - (f' : Int)) (by omega) (by omega), s_look1 (b25 ν1 O1), cI_t, s_in, cI_t, O1.lk, q_X12_readWord_50]
      by_cases y : (t' : Int) - (f' : Int) = 1
      · rw [if_pos y, if_pos y]
        by_cases y2 : lk ν0 f' ≤ 100
        · rw [if_pos (show 97 ≤ lk ν0 f' ∧ lk ν0 f' ≤ 100 by omega), if_neg ten, if_pos y2]
        · rw [if_neg (show ¬ (97 ≤ lk ν0 f' ∧ lk ν0 f' ≤ 100) by omega), if_pos rfl, if_neg y2]
      · rw [if_neg y, if_neg y]
    have bad2 : ∃ νa ν', e_X12_readWord_51 none none none 0 ν1 = some (none, νa) ∧ f_X12_readSign [vR 12 0, vI 59] νa = some (none, ν') ∧ OUT μ0 ν0 p 0 (up μ1 151 9 2) ν' := by
      have e30 : up (up ν1 0 30 2) 0 31 (f' : Int) 0 30 = 2 := by rw [up_slot (by omega), up_same]
      refine ⟨_, _, rw51_0 z30 z27 (b25 ν1 O1), r_signF (by rw [e30]; decide), BAD _ _ f' 2 (frTx_trans F1 (frTx_T (frTp_up (by omega)))) (frK_trans (frK_N b2) (frK_trans (frK_N (frN_up (by omega))) (frK_N (frN_up (by omega))))) (by decide) a2 (by rw [up_slot (by omega)]; exact a4) (up_same _ _ _ _) e30 (up_same _ _ _ _)⟩
    rw [clsW, refW]
    by_cases y : ¬ (t' : Int) - (f' : Int) = 1
    · rw [if_neg y, if_neg y]
      obtain ⟨νa, ν', q1, q2, q3⟩ := bad2
      exact ⟨0, _, νa, ν', rfl, q1, q2, q3⟩
    replace y := Decidable.not_not.mp y
    rw [if_pos y, if_pos y]
    by_cases y2 : ¬ lk ν0 f' ≤ 100
    · rw [if_neg y2, if_neg (show ¬ lk ν0 f' - 97 < 4 by omega)]
      obtain ⟨νa, ν', q1, q2, q3⟩ := bad2
      exact ⟨0, _, νa, ν', rfl, q1, q2, q3⟩
    replace y2 := Decidable.not_not.mp y2
    rw [if_pos y2, if_pos (show lk ν0 f' - 97 < 4 by omega)]
    have TX1 : TX μ0 ν0 μ1 ν1 := h.fr h24 h4 F1 (frK_N b2)
    have hW1 := TX1.2.2.1
    obtain ⟨W, hW⟩ : ∃ W : Nat, ν1 0 23 = (W : Int) := ⟨(ν1 0 23).toNat, by have := hW1.1; unfold VW at this; rw [up_same] at this; omega⟩
    have hV0 : VW ν1 0 0 = (W : Int) := by unfold VW; rw [up_same]; exact hW
    have h423 : 0 ≤ ν1 0 23 ∧ ν1 0 23 ≤ 4 := by have := hW1.1; have := hW1.2.1; omega
    rw [s_numberOf hW1, cI_t, VW_wb]
    have r51 : e_X12_readWord_51 none none none 1 ν1 = if wb ν1 (lk ν0 f' - 97) = -4 then e_X12_readWord_97 (some (vI 1)) (lk ν0 f' - 97) none ν1 else some (none, up (up ν1 0 30 4) 0 31 (f' : Int)) := by
      rw [q_X12_readWord_51, q_X12_wants, if_neg ten, cV_t, z27, s_look1 (b25 ν1 O1), cI_t, z30, if_pos rfl, O1.lk, wr_eq (x := lk ν0 f' - 97) (by omega) (by omega), s_wordBy h423, cI_t]
      by_cases z : wb ν1 (lk ν0 f' - 97) = -4
      · rw [if_pos z, if_pos z, q_X12_readWord_93, q_X12_wants, if_neg ten, cV_t]
      · rw [if_neg z, if_neg z, q_X12_readWord_93, q_X12_wants, if_pos rfl, if_pos z30, cV_t, up_slot (show (27 : Nat) ≠ 30 by omega), z27, rw97Bad (by rw [up_slot (by omega), up_same]; decide)]
    rw [r51]
    have wr := wb_range hW1 (lk ν0 f' - 97)
    rw [VW_wb] at wr
    by_cases y3 : ¬ wb ν1 (lk ν0 f' - 97) = -4
    · rw [if_neg (show ¬ wb ν1 (lk ν0 f' - 97) < 0 by omega), if_neg y3, q_X7_fails, gz_0, cI_t, gz_0]
      have e30 : up (up ν1 0 30 4) 0 31 (f' : Int) 0 30 = 4 := by rw [up_slot (by omega), up_same]
      exact ⟨0, _, _, _, rfl, rfl, r_signF (by rw [e30]; decide), BAD _ _ f' 4 (frTx_trans F1 (frTx_T (frTp_up (by omega)))) (frK_trans (frK_N b2) (frK_trans (frK_N (frN_up (by omega))) (frK_N (frN_up (by omega))))) (by decide) a2 (by rw [up_slot (by omega)]; exact a4) (up_same _ _ _ _) e30 (up_same _ _ _ _)⟩
    replace y3 := Decidable.not_not.mp y3
    rw [if_pos (show wb ν1 (lk ν0 f' - 97) < 0 by omega), if_pos y3]
    -- how many
    obtain ⟨f2, t2, k2, μ2, d1, d2, d3, d4, d5⟩ := s_want (tc μ1 F1) c7 c5 2
    obtain ⟨ν2, e1, e2, f2', t2', k2', e3, e4, e5, e6⟩ := n1 O1 h25 hb c7 z26 z30
    obtain ⟨rfl, rfl, rfl⟩ := e3.uniq d1
    have O2 : OLDR ν0 ν2 := O1.fr (frK_N e2)
    have F2 : FrTx μ μ2 := frTx_trans F1 (frTx_T d3)
    have K2 : FrK ν ν2 := frK_trans (frK_N b2) (frK_N e2)
    have r97 : e_X12_readWord_97 (some (vI 1)) (lk ν0 f' - 97) none ν1 = if ν2 0 30 = 0 then if ν2 0 28 = 2 then e_X12_readWord_126 (some (vI 1)) (lk ν0 f' - 97) none ν2 else cV (f_X12_wants [vR 12 0, vI 0, vI 2] ν2) (fun μ1 => e_X12_readWord_126 (some (vI 1)) (lk ν0 f' - 97) none μ1) else e_X12_readWord_126 (some (vI 1)) (lk ν0 f' - 97) none ν2 := by
      rw [q_X12_readWord_97, e1, cV_t, q_X12_readWord_122, q_X12_wants, if_neg ten, cV_t, q_X12_readWord_122]
    rw [r97]
    rcases d5 with ⟨g1, g2, g3, g4, g5, g6, g7⟩ | ⟨g1, g2, g3, g4⟩ | ⟨g1, g2, g3⟩
    · subst g2
      obtain ⟨_, y30, y26, y27, y28, y29⟩ : tok1 2 f2' t2' ∧ ν2 0 30 = 0 ∧ ν2 0 26 = (t2' : Int) ∧ ν2 0 27 = (f2' : Int) ∧ ν2 0 28 = (if (2 : Int) = 4 then 3 else 2) ∧ ν2 0 29 = lk ν0 f2' - 48 := by
        rcases e6 with ⟨q1, q2, q3, q4, q5, q6, _⟩ | ⟨q1, _⟩
        · exact ⟨q1, q2, q3, q4, q5, q6 rfl⟩
        · exact absurd g1 q1
      have hcl2 : cls (lk ν0 f2') = 2 := e3.2.1.symm
      have hlk2 := cls_2 hcl2
      have hlt2 := lk_lt (ν := ν0) (p := f2') (by omega)
      have wB2 : wrB (lk ν0 f2') = lk ν0 f2' := by unfold wrB; omega
      have r126 : e_X12_readWord_126 (some (vI 1)) (lk ν0 f' - 97) none ν2 = if 1 ≤ lk ν0 f2' - 48 ∧ lk ν0 f2' - 48 ≤ 2 then e_X12_readWord_150 (some (vI 1)) (lk ν0 f' - 97) none ν2 else some (none, up (up ν2 0 30 3) 0 31 (f2' : Int)) := by
        rw [q_X12_readWord_126, if_pos y30, s_in, cI_t, y29]
        by_cases z : 1 ≤ lk ν0 f2' - 48 ∧ lk ν0 f2' - 48 ≤ 2
        · rw [if_pos z, if_pos z, q_X12_wants, if_neg ten, cV_t]
        · rw [if_neg z, if_neg z, q_X12_wants, if_pos rfl, if_pos y30, cV_t, up_slot (show (27 : Nat) ≠ 30 by omega), y27, rw150Bad (by rw [up_slot (by omega), up_same]; decide)]
      rw [g3, cI_t, if_neg ten, d4, s_byteAt (tc μ2 F2) hlt2, cI_t, wB2, wr_eq (x := lk ν0 f2' - 48) (by omega) (by omega), if_pos y30, if_pos (show ν2 0 28 = 2 by rw [y28]; rfl), r126]
      by_cases y4 : ¬ (1 ≤ lk ν0 f2' - 48 ∧ lk ν0 f2' - 48 ≤ 2)
      · have e30 : up (up ν2 0 30 3) 0 31 (f2' : Int) 0 30 = 3 := by rw [up_slot (by omega), up_same]
        refine ⟨0, up μ2 151 9 3, _, _, ?_, by rw [if_neg y4], r_signF (by rw [e30]; decide), BAD _ _ f2' 3 (frTx_trans F2 (frTx_T (frTp_up (by omega)))) (frK_trans K2 (frK_trans (frK_N (frN_up (by omega))) (frK_N (frN_up (by omega))))) (by decide) d2 (by rw [up_slot (by omega)]; exact d4) (up_same _ _ _ _) e30 (up_same _ _ _ _)⟩
        rw [q_X7_fails, gz_0, cI_t, gz_0]
        by_cases w : lk ν0 f2' - 48 < 1
        · rw [if_pos w]
        · rw [if_neg w, if_neg (show ¬ lk ν0 f2' - 48 ≤ 2 by omega)]
      replace y4 := Decidable.not_not.mp y4
      generalize hnn : lk ν0 f2' - 48 = nn at *
      have hn12 : nn = 1 ∨ nn = 2 := by omega
      rw [if_pos y4, if_neg (show ¬ nn < 1 by omega), if_pos y4.2]
      -- the MEANING
      have TX2 : TX μ0 ν0 μ2 ν2 := h.fr h24 h4 F2 K2
      have hW2 := TX2.2.2.1
      have hW23 : ν2 0 23 = (W : Int) := by rw [e2.2 23 (by omega)]; exact hW
      have m15 : μ2 1 5 = (W : Int) := by
        have := hW2.2.2.2.1
        unfold VW at this
        rw [up_same] at this
        omega
      obtain ⟨f3, t3, k3, μ3, r3, i1, i2, i3, i4, i5, i6⟩ := s_wantTerm (t0 := 153) (names := nn) (ahead := (W : Int)) (Or.inl rfl) hW2 (by omega) (tc μ2 F2) g7 g5
      obtain ⟨ν3, j1, j2, f3', t3', k3', j3, j4, j5, j6⟩ := n1 O2 h25 hb g7 y26 y30
      obtain ⟨rfl, rfl, rfl⟩ := j3.uniq i1
      have O3 : OLDR ν0 ν3 := O2.fr (frK_N j2)
      have F3 : FrTx μ μ3 := frTx_trans F2 (frTx_t (Or.inl rfl) i3)
      have K3 : FrK ν ν3 := frK_trans K2 (frK_N j2)
      have hW3 : ν3 0 23 = (W : Int) := by rw [j2.2 23 (by omega)]; exact hW23
      rw [m15, i5, cI_t, q_X12_readWord_150, j1, cV_t, y29, hW3]
      have TX3 : TX μ0 ν0 μ3 ν3 := h.fr h24 h4 F3 K3
      have rT : tok1 k3' f3' t3' → ∃ ν', f_X12_readTerm [vR 12 0, vI nn, vI (W : Int)] ν3 = some (none, ν') ∧ FrK ν3 ν' ∧ ((k3' = 1 ∧ okRw ν3 nn W (rowL ν0 f3' t3') ∧ t3' - f3' ≤ 20 ∧ RHL ν' 19 (rowL ν0 f3' t3') ∧ ν' 0 33 = ((t3' - f3' : Nat) : Int) ∧ HAND ν' ν0 t3') ∨ (k3' = 1 ∧ ¬ (okRw ν3 nn W (rowL ν0 f3' t3') ∧ t3' - f3' ≤ 20) ∧ ν' 0 30 = 5 ∧ ν' 0 31 = (f3' : Int)) ∨ (k3' ≠ 1 ∧ ν' 0 30 = 2 ∧ ν' 0 31 = (f3' : Int))) := fun ok => by
        have e25 : ν3 0 25 = ν0 0 25 := O3.2.1 25 (by omega) (by omega) (by omega) (by omega)
        have e18 : ν3 18 = ν0 18 := O3.1 18 (by omega) (by omega)
        have rl := rowL_lk O3.lk f3' t3'
        obtain ⟨ν', x1, x2, x3⟩ := r_readTerm (ν := ν3) (ν1 := ν3) (νw := VW ν3) (names := nn) (ahead := (W : Int)) (k := k3') (f := f3') (t := t3') TX3.2.2.1 (VW_wb _) (VW_ar _) (by omega) (by rw [e25]; exact h25) (by rw [e25, e18]; exact hb) (by have := hW2.2.1; unfold VW at this; rw [up_same] at this; omega) frK_rf (fun z => by
          have := j3.2.2.1 (Or.inl z)
          rw [z] at this
          unfold RN at this ⊢
          rw [O3.lk]
          exact this) (by rw [e25]; exact j5 ok) ok (j6.congr (ν := ν3) (ν' := ν0) O3.lk.symm)
        rw [rl] at x3
        refine ⟨ν', x1, x2, ?_⟩
        rcases x3 with ⟨u1, u2, u3, u4, u5, f4, t4, k4, u6, u7, u8, u9⟩ | u | u
        · rw [e25] at u7 u8
          exact Or.inl ⟨u1, u2, u3, u4, u5, f4, t4, k4, u6.congr O3.lk, u7, u8, u9.congr O3.lk⟩
        · exact Or.inr (Or.inl u)
        · exact Or.inr (Or.inr u)
      rcases i6 with ⟨rfl, l1, l2, l3, l4, l5, l6, l7, l8⟩ | ⟨rfl, l1⟩
      · -- the MEANING is a TERM
        obtain ⟨ν4, o1, o2, o3⟩ := rT l1
        have x30 : ν3 0 30 = 0 := by
          rcases j6 with ⟨_, q, _⟩ | ⟨q, _⟩
          · exact q
          · exact absurd l1 q
        have hok := okRw_VW.mp l3
        have hokν3 : okRw ν3 nn W (rowL ν0 f3' t3') := by
          unfold okRw mS at hok ⊢
          rw [frK_wb (frK_N j2), frK_ar (frK_N j2)]
          exact hok
        rcases o3 with ⟨_, u2, u3, u4, u5, hand⟩ | ⟨_, q, _⟩ | ⟨q, _⟩
        · have K4 : FrK ν ν4 := frK_trans K3 o2
          have O4 : OLDR ν0 ν4 := O3.fr o2
          obtain ⟨f4, t4, k4, v1, v2, v3, v4⟩ := hand
          obtain ⟨f5, t5, k5, μ5, w1, w2, w3, w4, w5⟩ := s_want (tc μ3 F3) l8 l6 4
          obtain ⟨rfl, rfl, rfl⟩ := w1.uniq v1
          have F5 : FrTx μ μ5 := frTx_trans F3 (frTx_T w3)
          rw [if_neg ten, x30, if_pos rfl, o1, cV_t]
          by_cases tk : tok1 k5 f5 t5
          · -- the reference keeps the word
            have p30 : ν4 0 30 = 0 := by
              rcases v4 with ⟨_, q, _⟩ | ⟨q, _⟩
              · exact q
              · exact absurd tk q
            have hW4 : ν4 0 23 = (W : Int) := by rw [o2.2 23 (by omega) (by omega)]; exact hW3
            have TX5 : TX μ0 ν0 μ5 ν4 := h.fr h24 h4 F5 K4
            have wb4 : wb ν4 (lk ν0 f' - 97) = -4 := by rw [frK_wb o2, frK_wb (frK_N j2), frK_wb (frK_N e2)]; exact y3
            have Wlt : W < 4 := by
              have := room_W TX5.2.2.1 (c := lk ν0 f' - 97) (by omega) (by rw [VW_wb]; exact wb4)
              unfold VW at this
              rw [up_same] at this
              omega
            have hlen : (rowL ν0 f3' t3').length = t3' - f3' := rowL_len _ _ _
            have hmem := rowL_mem (j3.2.2.1 (Or.inl l2) |> fun z => by rw [l2] at z; exact z)
            obtain ⟨ν6, A1, A2, A3, A4, A5, A6, A7, A8⟩ := r_addW (o1 := some (vI 1)) (c := lk ν0 f' - 97) (n := nn) (l := rowL ν0 f3' t3') Wlt hW4 p30 (by rw [hlen]; exact u3) (by rw [hlen]; exact u5) u4
            have THw : TH μ5 153 (rowL ν0 f3' t3') := l5.kept (S := fun c => c = 151) (fun c hc => w3.1 c hc) (by omega) (by omega)
            have m5 : μ5 1 5 = (W : Int) := by
              have := TX5.2.2.1.2.2.2.1
              unfold VW at this
              rw [up_same] at this
              omega
            obtain ⟨μ6, B1, B2, B3, B4, B5, B6, B7, B8⟩ := s_addW (c := lk ν0 f' - 97) (n := nn) Wlt m5 (by omega) hn12 THw (by rw [hlen]; exact u3) (fun c hc => by have := hmem c hc; omega)
            have ok4 : okRw ν4 nn (W : Int) (rowL ν0 f3' t3') := by
              unfold okRw mS at u2 ⊢
              rw [frK_wb o2, frK_ar o2]
              exact u2
            have TX6 : TX μ0 ν0 μ6 ν6 := TX.addW TX5 h4 h24 hW4 Wlt (by omega) wb4 hn12 ok4 hmem (by rw [hlen]; exact u3) B2 B3 B4 B5 B6 B7 B8 A2 A3 A4 A5 A6 A7 A8
            have v6 : TokR ν6 ν0 f5 t5 k5 := by
              unfold TokR at v4 ⊢
              have A3' : ∀ k, k ≠ 23 → ν6 0 k = ν4 0 k := fun k hk => by rw [A3, if_neg hk]
              rw [A3' 30 (by omega), A3' 26 (by omega), A3' 27 (by omega), A3' 28 (by omega), A3' 29 (by omega), A3' 31 (by omega)]
              exact v4
            have kr := cls_rng (lk ν0 f5)
            rw [← v1.2.1] at kr
            obtain ⟨ν7, C1, C2, C3⟩ := r_sign (v := 59) (Or.inl rfl) TX6.2.1 h25 hb v3 kr v6
            rw [A1]
            rcases w5 with ⟨D1, D2, D3, D4, D5, D6, D7⟩ | ⟨D1, D2, D3, D4⟩ | ⟨D1, _⟩
            · rcases C3 with ⟨_, _, hd⟩ | ⟨_, q, _⟩ | ⟨q, _⟩
              · rw [D3, cI_t, if_neg ten, B1, cV_t, gz_1]
                have q9 : μ6 151 9 = 0 := by rw [B2 151 (by omega) (by omega) (by omega) (by omega) (by omega), D6, l7, g6, c6]; exact m9
                have q7 : μ6 151 7 = (t5 : Int) := by rw [B2 151 (by omega) (by omega) (by omega) (by omega) (by omega)]; exact D5
                exact ⟨1, μ6, ν6, ν7, rfl, rfl, C1, Or.inl ⟨rfl, TX6.fr h24 h4 frTx_rf (frK_N C2), q9, t5, by have e1 := a1.le; have e2 := d1.le; have e3 := i1.le; have e4 := w1.le; omega, D7, q7, hd⟩⟩
              · exact absurd D2 q
              · exact absurd D1 q
            · rcases C3 with ⟨_, q, _⟩ | ⟨_, _, q1, q2⟩ | ⟨q, _⟩
              · exact absurd q D2
              · rw [D3, cI_t, if_pos rfl, gz_0]
                refine ⟨0, μ5, ν6, ν7, rfl, rfl, C1, Or.inr ⟨rfl, ?_, f5, 2, by decide, v2, w4, D4, q1, q2⟩⟩
                obtain ⟨_, _, p3, p4⟩ := TX5.bad
                exact ⟨TX5.1, TX6.2.1.fr (frK_N C2), p3, p4⟩
              · exact absurd D1 q
            · exact absurd tk D1
          · have p30 : ν4 0 30 = 1 ∧ ν4 0 31 = (f5 : Int) := by
              rcases v4 with ⟨q, _⟩ | ⟨_, q1, q2, _⟩
              · exact absurd q tk
              · exact ⟨q1, q2⟩
            rw [q_X12_readWord_175, p30.1, if_neg (by decide)]
            rcases w5 with ⟨D1, _⟩ | ⟨D1, _⟩ | ⟨D1, D2, D3⟩
            · exact absurd D1 tk
            · exact absurd D1 tk
            · rw [D2, cI_t, if_pos rfl, gz_0]
              exact ⟨0, μ5, ν4, ν4, rfl, rfl, r_signF (by rw [p30.1]; decide), BAD μ5 ν4 f5 1 F5 K4 (by decide) v2 w4 D3 p30.1 p30.2⟩
        · exact absurd ⟨hokν3, l4⟩ q
        · exact absurd l2 q
      · rw [if_pos rfl, gz_0]
        rcases l1 with ⟨l1, l2, l3, l4⟩ | ⟨l1, l2, l3⟩ | ⟨l1, l2⟩
        · obtain ⟨ν4, o1, o2, o3⟩ := rT l1
          have x30 : ν3 0 30 = 0 := by
            rcases j6 with ⟨_, q, _⟩ | ⟨q, _⟩
            · exact q
            · exact absurd l1 q
          rcases o3 with ⟨_, u2, u3, _⟩ | ⟨_, _, u1, u2⟩ | ⟨q, _⟩
          · refine absurd ⟨okRw_VW.mpr ?_, u3⟩ l3
            unfold okRw mS at u2 ⊢
            rw [frK_wb (frK_N j2), frK_ar (frK_N j2)] at u2
            exact u2
          · rw [x30, if_pos rfl, o1, cV_t, q_X12_readWord_175, u1, if_neg (by decide)]
            exact ⟨0, μ3, ν4, ν4, rfl, rfl, r_signF (by rw [u1]; decide), BAD μ3 ν4 f3' 5 F3 (frK_trans K3 o2) (by decide) j4 i4 l4 u1 u2⟩
          · exact absurd l2 q
        · obtain ⟨ν4, o1, o2, o3⟩ := rT l1
          have x30 : ν3 0 30 = 0 := by
            rcases j6 with ⟨_, q, _⟩ | ⟨q, _⟩
            · exact q
            · exact absurd l1 q
          rcases o3 with ⟨q, _⟩ | ⟨q, _⟩ | ⟨_, u1, u2⟩
          · exact absurd q l2
          · exact absurd q l2
          · rw [x30, if_pos rfl, o1, cV_t, q_X12_readWord_175, u1, if_neg (by decide)]
            exact ⟨0, μ3, ν4, ν4, rfl, rfl, r_signF (by rw [u1]; decide), BAD μ3 ν4 f3' 2 F3 (frK_trans K3 o2) (by decide) j4 i4 l3 u1 u2⟩
        · have x30 : ν3 0 30 = 1 ∧ ν3 0 31 = (f3' : Int) := by
            rcases j6 with ⟨q, _⟩ | ⟨_, q1, q2, _⟩
            · exact absurd q l1
            · exact ⟨q1, q2⟩
          rw [x30.1, if_neg (by decide), q_X12_readWord_175, x30.1, if_neg (by decide)]
          exact ⟨0, μ3, ν3, ν3, rfl, rfl, r_signF (by rw [x30.1]; decide), BAD μ3 ν3 f3' 1 F3 K3 (by decide) j4 i4 l2 x30.1 x30.2⟩
    · obtain ⟨y30, y27, y28⟩ : ν2 0 30 = 0 ∧ ν2 0 27 = (f2' : Int) ∧ ν2 0 28 = (if k2' = 4 then 3 else k2') := by
        rcases e6 with ⟨q1, q2, q3, q4, q5, _⟩ | ⟨q1, _⟩
        · exact ⟨q2, q4, q5⟩
        · exact absurd g1 q1
      have n28 : ¬ ν2 0 28 = 2 := by rw [y28]; split <;> omega
      have e30 : up (up ν2 0 30 2) 0 31 (f2' : Int) 0 30 = 2 := by rw [up_slot (by omega), up_same]
      rw [g3, cI_t, if_pos rfl, gz_0, if_pos y30, if_neg n28, q_X12_wants, if_pos rfl, if_pos y30, cV_t, up_slot (show (27 : Nat) ≠ 30 by omega), y27, rw126Bad (by rw [e30]; decide)]
      exact ⟨0, μ2, _, _, rfl, rfl, r_signF (by rw [e30]; decide), BAD μ2 _ f2' 2 F2 (frK_trans K2 (frK_trans (frK_N (frN_up (by omega))) (frK_N (frN_up (by omega))))) (by decide) d2 d4 g4 e30 (up_same _ _ _ _)⟩
    · have y30 : ν2 0 30 = 1 ∧ ν2 0 31 = (f2' : Int) := by
        rcases e6 with ⟨q, _⟩ | ⟨_, q1, q2, _⟩
        · exact absurd q g1
        · exact ⟨q1, q2⟩
      rw [g2, cI_t, if_pos rfl, gz_0, y30.1, if_neg (by decide), rw126Bad (by rw [y30.1]; decide)]
      exact ⟨0, μ2, ν2, ν2, rfl, rfl, r_signF (by rw [y30.1]; decide), BAD μ2 ν2 f2' 1 F2 K2 (by decide) d2 d4 g3 y30.1 y30.2⟩
  · -- no row
    obtain ⟨z30, z27, z28⟩ : ν1 0 30 = 0 ∧ ν1 0 27 = (f' : Int) ∧ ν1 0 28 = (if k' = 4 then 3 else k') := by
      rcases b6 with ⟨q1, q2, q3, q4, q5, _⟩ | ⟨q1, _⟩
      · exact ⟨q2, q4, q5⟩
      · exact absurd c1 q1
    have n28 : ¬ ν1 0 28 = 1 := by rw [z28]; split <;> omega
    have e30 : up (up ν1 0 30 2) 0 31 (f' : Int) 0 30 = 2 := by rw [up_slot (by omega), up_same]
    refine ⟨0, μ1, up (up ν1 0 30 2) 0 31 (f' : Int), _, ?_, ?_, r_signF (by rw [e30]; decide), BAD μ1 _ f' 2 F1 (frK_trans (frK_N b2) (frK_trans (frK_N (frN_up (by omega))) (frK_N (frN_up (by omega))))) (by decide) a2 a4 c4 e30 (up_same _ _ _ _)⟩
    · rw [q_X7_tellWord, c3, cI_t, if_pos rfl, gz_0]
    · rw [q_X12_readWord, b1, cV_t, if_neg n28, q_X12_readWord_50, rw51_0 z30 z27 (b25 ν1 O1)]
  · -- no token
    obtain ⟨z30, z31, z27⟩ : ν1 0 30 = 1 ∧ ν1 0 31 = (f' : Int) ∧ ν1 0 27 = (f' : Int) := by
      rcases b6 with ⟨q, _⟩ | ⟨_, q1, q2, q3⟩
      · exact absurd q c1
      · exact ⟨q1, q2, q3⟩
    have bad := fun s0 => rwBad (X := ν1) (o1 := none) (o2 := none) (o3 := none) (s0 := s0) (by omega) (by omega) (b25 ν1 O1)
    refine ⟨0, μ1, ν1, ν1, ?_, ?_, r_signF (by omega), BAD μ1 ν1 f' 1 F1 (frK_N b2) (by decide) a2 a4 c3 z30 z31⟩
    · rw [q_X7_tellWord, c2, cI_t, if_pos rfl, gz_0]
    · rw [q_X12_readWord, b1, cV_t, q_X12_readWord_50, bad 0, z27, s_look1 (b25 ν1 O1), cI_t, s_in, cI_t]
      have b1' := bad 1
      by_cases q1 : ν1 0 28 = 1
      · rw [if_pos q1]
        by_cases q2 : wr (ν1 0 26 - (f' : Int)) = 1
        · rw [if_pos q2]
          by_cases q3 : (if 97 ≤ lk ν1 f' ∧ lk ν1 f' ≤ 100 then (1 : Int) else 0) = 0
          · rw [if_pos q3, q_X12_readWord_50, bad 0]
          · rw [if_neg q3, b1']
        · rw [if_neg q2]
      · rw [if_neg q1]
end LW
