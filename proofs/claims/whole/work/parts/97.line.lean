/-! text: the reference's tokens while lines are read -/
theorem OLDR.lk {ν0 ν : Mem} (h : OLDR ν0 ν) : lk ν = lk ν0 := by
  funext p
  unfold _root_.Jvm.Pilot.CShownLibraryLaw_law_r3005_08f4c6.lk
  rw [h.2.1 25 (by omega) (by omega) (by omega) (by omega), h.1 18 (by omega) (by omega)]
/-- the token behind p is in the reference's hand -/
def HAND (ν ν0 : Mem) (p : Nat) : Prop := ∃ f t k, TK ν0 p f t k ∧ (f : Int) ≤ ν0 0 25 ∧ (tok1 k f t → (t : Int) ≤ ν0 0 25) ∧ TokR ν ν0 f t k
section RN1
variable {ν0 X : Mem}
theorem n1 {p : Nat} (ho : OLDR ν0 X) (h25 : 0 ≤ ν0 0 25 ∧ ν0 0 25 ≤ 240) (hb : ∀ i : Nat, (i : Int) < ν0 0 25 → 0 ≤ ν0 18 i) (hp : (p : Int) ≤ ν0 0 25) (h26 : X 0 26 = (p : Int)) (h30 : X 0 30 = 0) : ∃ ν', f_X12_next [vR 12 0] X = some (none, ν') ∧ FrN X ν' ∧ HAND ν' ν0 p := by
  have e25 : X 0 25 = ν0 0 25 := ho.2.1 25 (by omega) (by omega) (by omega) (by omega)
  have e18 : X 18 = ν0 18 := ho.1 18 (by omega) (by omega)
  obtain ⟨f, t, k, ν', a1, a2, a3, a4, a5, a6⟩ := r_next (ν := X) (p := p) (by rw [e25]; exact h25) (by rw [e25, e18]; exact hb) frN_rf (by rw [e25]; exact hp) h26 h30
  rw [e25] at a2 a3
  exact ⟨ν', a4, a5, f, t, k, a1.congr ho.lk, a2, a3, a6.congr ho.lk⟩
theorem n0 (h30 : 0 < X 0 30) : f_X12_next [vR 12 0] X = some (none, X) := by rw [q_X12_next, if_neg (by omega)]
theorem r_signF {v : Int} (h30 : 0 < X 0 30) : f_X12_readSign [vR 12 0, vI v] X = some (none, X) := by rw [q_X12_readSign, if_neg (by omega), n0 h30, cV_t]
theorem r_sign {v : Int} {f t : Nat} {k : Int} (hv : v = 59 ∨ v = 61) (ho : OLDR ν0 X) (h25 : 0 ≤ ν0 0 25 ∧ ν0 0 25 ≤ 240) (hb : ∀ i : Nat, (i : Int) < ν0 0 25 → 0 ≤ ν0 18 i) (ht : tok1 k f t → (t : Int) ≤ ν0 0 25) (hk : k = 0 ∨ k = 1 ∨ k = 2 ∨ k = 3 ∨ k = 4 ∨ k = 5) (hT : TokR X ν0 f t k) : ∃ ν', f_X12_readSign [vR 12 0, vI v] X = some (none, ν') ∧ FrN X ν' ∧ ((tok1 k f t ∧ k = (if v = 61 then 3 else 4) ∧ HAND ν' ν0 t) ∨ (tok1 k f t ∧ k ≠ (if v = 61 then 3 else 4) ∧ ν' 0 30 = 2 ∧ ν' 0 31 = (f : Int)) ∨ (¬ tok1 k f t ∧ ν' 0 30 = 1 ∧ ν' 0 31 = (f : Int))) := by
  rcases hT with ⟨h1, t30, t26, t27, t28, t2, t3, t4⟩ | ⟨h1, t30, t31, _⟩
  · have bad : cV (f_X12_wants [vR 12 0, vI 0, vI 2] X) (fun μ2 => cV (f_X12_next [vR 12 0] μ2) (fun μ3 => some (none, μ3))) = some (none, up (up X 0 30 2) 0 31 (f : Int)) := by
      rw [q_X12_wants, if_pos rfl, if_pos t30, cV_t, up_slot (show (27 : Nat) ≠ 30 by omega), t27, n0 (by rw [up_slot (by omega), up_same]; decide), cV_t]
    have badF : FrN X (up (up X 0 30 2) 0 31 (f : Int)) := frN_trans (frN_up (by omega)) (frN_up (by omega))
    by_cases q : k = (if v = 61 then 3 else 4)
    · have s3 : X 0 28 = 3 := by
        rw [t28]
        rcases hv with rfl | rfl
        · have : k = 4 := q
          rw [if_pos this]
        · have : k = 3 := q
          rw [if_neg (by omega)]; exact this
      have s9 : X 0 29 = v := by
        rcases hv with rfl | rfl
        · exact t4 q
        · exact t3 q
      obtain ⟨ν', a1, a2, a3⟩ := n1 ho h25 hb (ht h1) t26 t30
      refine ⟨ν', ?_, a2, Or.inl ⟨h1, q, a3⟩⟩
      rw [q_X12_readSign, if_pos t30, if_pos s3, if_pos s9, q_X12_wants, if_neg ten, cV_t, a1, cV_t]
    · refine ⟨_, ?_, badF, Or.inr (Or.inl ⟨h1, q, by rw [up_slot (by omega), up_same], up_same _ _ _ _⟩)⟩
      rw [q_X12_readSign, if_pos t30]
      by_cases s3 : X 0 28 = 3
      · rw [if_pos s3]
        by_cases s9 : X 0 29 = v
        · exfalso
          rw [t28] at s3
          by_cases z : k = 4
          · have := t4 z
            rcases hv with rfl | rfl
            · exact q z
            · omega
          · rw [if_neg z] at s3
            have := t3 s3
            rcases hv with rfl | rfl
            · omega
            · exact q s3
        · rw [if_neg s9]; exact bad
      · rw [if_neg s3]; exact bad
  · exact ⟨X, r_signF (by omega), frN_rf, Or.inr (Or.inr ⟨h1, t30, t31⟩)⟩
/-- when a fault stands, the rest of a word's line is passed over -/
theorem rwBad {o1 o2 o3 : Option AV} {s0 : Int} (h30 : 0 < X 0 30) (h27 : 0 ≤ X 0 27) (h25 : 0 ≤ X 0 25 ∧ X 0 25 ≤ 240) : e_X12_readWord_51 o1 o2 o3 s0 X = some (none, X) := by
  have w : ∀ (s c : Int), f_X12_wants [vR 12 0, vI s, vI c] X = some (none, X) := fun s c => by
    rw [q_X12_wants]
    by_cases z : s = 0
    · rw [if_pos z, if_neg (by omega)]
    · rw [if_neg z]
  obtain ⟨p, hp⟩ : ∃ p : Nat, X 0 27 = (p : Int) := ⟨(X 0 27).toNat, by omega⟩
  rw [q_X12_readWord_51, w, cV_t, hp, s_look1 h25, cI_t, if_neg (by omega), q_X12_readWord_97, n0 h30, cV_t, if_neg (by omega), q_X12_readWord_126, if_neg (by omega), q_X12_readWord_150, n0 h30, cV_t, if_neg (by omega), q_X12_readWord_175, if_neg (by omega)]
theorem rw126Bad {o1 o3 : Option AV} {v2 : Int} (h30 : 0 < X 0 30) : e_X12_readWord_126 o1 v2 o3 X = some (none, X) := by
  rw [q_X12_readWord_126, if_neg (by omega), q_X12_readWord_150, n0 h30, cV_t, if_neg (by omega), q_X12_readWord_175, if_neg (by omega)]
theorem rw97Bad {o1 o3 : Option AV} {v2 : Int} (h30 : 0 < X 0 30) : e_X12_readWord_97 o1 v2 o3 X = some (none, X) := by
  rw [q_X12_readWord_97, n0 h30, cV_t, if_neg (by omega), rw126Bad h30]
theorem rw150Bad {o1 o3 : Option AV} {v2 : Int} (h30 : 0 < X 0 30) : e_X12_readWord_150 o1 v2 o3 X = some (none, X) := by
  rw [q_X12_readWord_150, n0 h30, cV_t, if_neg (by omega), q_X12_readWord_175, if_neg (by omega)]
end RN1
