/-! Math.max and Math.min: the kit's own rows -/
def i_mm (n : Nat) (f : Int → Int → Int) : Ins := fun ls st μ k => match st with
  | .inl y :: .inl x :: st => if Nat.ble st.length 4 = true then k n ls (.inl (f x y) :: st) μ else none
  | _ => none
theorem tri_mm (n : Nat) (f : Int → Int → Int) : Tri (i_mm n f) := by
  intro ls st μ
  rcases st with _ | ⟨x | x | _ | ⟨t1, c1⟩, _ | ⟨y | y | _ | ⟨t2, c2⟩, st⟩⟩
  all_goals first | exact t3_n | exact t3_ite _ (t3_k _ _ _ _) t3_n
def mMax (x y : Int) : Int := if x < y then y else x
def mMin (x y : Int) : Int := if y < x then y else x
section MM
variable {L : Lo} {G : Wp} {l : Launch} {own : String} {cc : ByteArray} {nL : Nat} {ret : Option FieldType} {R : Room} {pc idx : Nat}
theorem s_mmax (hd : decode cc pc = .ok (.invokestatic idx, 3)) (w1 : Cond.methodLink own idx Lib.Math.max.name ∈ gtb) (w2 : Cond.static Lib.Math.max.name ∈ gtb) (w3 : Cond.initialized "java/lang/Math" ∈ gtb) (w4 : Cond.code Lib.Math.max.name Lib.Math.max.code 2 (some .int) ∈ gtb) (hf : 1 ≤ R.frames) (hr : 21 ≤ R.locals) : Snd L G l own cc nL ret R pc (i_mm (pc + 3) mMax) := by
  intro p e s m args below meth c hC r k ls st μ H locs la hl hs hw hi hk
  obtain ⟨hx, hb, hml, hown, hts, hlk, hrt, hK, hZ, hN⟩ := hC
  rcases st with _ | ⟨y | y | _ | ⟨t1, c1⟩, _ | ⟨x | x | _ | ⟨t2, c2⟩, st⟩⟩
  all_goals first | exact nn hi | skip
  obtain ⟨h1, h2⟩ := stOk_cons.mp hs
  obtain ⟨h3, h4⟩ := stOk_cons.mp h2
  by_cases hb4 : Nat.ble st.length 4 = true
  · replace hi := (if_pos hb4).symm.trans hi
    have h4l := Nat.le_of_ble_eq_true hb4
    have hc := catsum (st.map (cv G))
    rw [List.length_map] at hc
    refine va_mmax hx hb (by rw [hml]; exact hl.1.symm) hown (hts _ w1) (hts _ w2) (hts _ w3) (hts _ w4) hf (by omega) (Nat.zero_le _) (Nat.zero_le _) hd ?_
    have e1 : (if q32 x < q32 y then q32 y else q32 x) = q32 (mMax x y) := by
      unfold mMax
      simp only [q32_lt h3 h1]
      split <;> rfl
    rw [e1]
    exact hk (pc + 3) ls (.inl (mMax x y) :: st) μ H locs la hl (stOk_cons.mpr ⟨(by show in32 _; unfold mMax; split <;> assumption), h4⟩) hw hi
  · exact nn ((if_neg hb4).symm.trans hi)
theorem s_mmin (hd : decode cc pc = .ok (.invokestatic idx, 3)) (w1 : Cond.methodLink own idx Lib.Math.min.name ∈ gtb) (w2 : Cond.static Lib.Math.min.name ∈ gtb) (w3 : Cond.initialized "java/lang/Math" ∈ gtb) (w4 : Cond.code Lib.Math.min.name Lib.Math.min.code 2 (some .int) ∈ gtb) (hf : 1 ≤ R.frames) (hr : 21 ≤ R.locals) : Snd L G l own cc nL ret R pc (i_mm (pc + 3) mMin) := by
  intro p e s m args below meth c hC r k ls st μ H locs la hl hs hw hi hk
  obtain ⟨hx, hb, hml, hown, hts, hlk, hrt, hK, hZ, hN⟩ := hC
  rcases st with _ | ⟨y | y | _ | ⟨t1, c1⟩, _ | ⟨x | x | _ | ⟨t2, c2⟩, st⟩⟩
  all_goals first | exact nn hi | skip
  obtain ⟨h1, h2⟩ := stOk_cons.mp hs
  obtain ⟨h3, h4⟩ := stOk_cons.mp h2
  by_cases hb4 : Nat.ble st.length 4 = true
  · replace hi := (if_pos hb4).symm.trans hi
    have h4l := Nat.le_of_ble_eq_true hb4
    have hc := catsum (st.map (cv G))
    rw [List.length_map] at hc
    refine va_mmin hx hb (by rw [hml]; exact hl.1.symm) hown (hts _ w1) (hts _ w2) (hts _ w3) (hts _ w4) hf (by omega) (Nat.zero_le _) (Nat.zero_le _) hd ?_
    have e1 : (if q32 y < q32 x then q32 y else q32 x) = q32 (mMin x y) := by
      unfold mMin
      simp only [q32_lt h1 h3]
      split <;> rfl
    rw [e1]
    exact hk (pc + 3) ls (.inl (mMin x y) :: st) μ H locs la hl (stOk_cons.mpr ⟨(by show in32 _; unfold mMin; split <;> assumption), h4⟩) hw hi
  · exact nn ((if_neg hb4).symm.trans hi)
end MM
