/-! THE STEPPER of the class: one STEP -/
/-- the TERM that is looked at, and the one that is written -/
def tuOk (t u : Nat) : Prop := 163 ≤ t ∧ 163 ≤ u ∧ u ≠ t ∧ u + 1 ≠ t ∧ u ≠ t + 1 ∧ lnC (u + 1) = 20
theorem tOk_lo {c : Nat} (h : c + 1 < 157) : tOk c := by unfold tOk nS; omega
theorem tOk_hi {c : Nat} (h : 163 ≤ c) : tOk c := by unfold tOk nS; omega
theorem uOk_of {t u sh : Nat} (h : tuOk t u) (hs : sh + 1 < 157) : uOk u t sh := by
  obtain ⟨h1, h2, h3, h4, h5, h6⟩ := h
  refine ⟨tOk_hi h2, ?_, ?_, ?_, ?_, h6⟩ <;> unfold tS <;> omega
def goS (u : Nat) : Nat → Prop := fun c => c = 157 ∨ c = 161 ∨ c = 162 ∨ c = u ∨ c = u + 1
theorem s_fb {μ ν : Mem} {t u sh1 sh2 P : Nat} {T pat ins : List Int} (hu : tuOk t u) (h1 : sh1 + 1 < 157) (h2 : sh2 + 1 < 157) (hp : LT pat) (hi : LT ins) (hTL : LT T) (hP : P < T.length) (hw : isT (ar ν) 1 T) (hwp : isT (ar ν) 1 pat) (hF : FC μ ν t T) (hS1 : TH μ sh1 pat) (hS2 : TH μ sh2 ins) :
    ∃ r μ', cI (f_X6_fits [vR 6 157, vR 8 sh1, vI (P : Int)] μ) (fun x μ => if x = 0 then some (some (vI (-22)), μ) else cI (f_X6_becomes [vR 6 157, vR 8 sh2, vI (P : Int), vR 8 u] μ) (fun y μ => some (some (vI y), μ))) = some (some (vI r), μ') ∧ Fr μ μ' (fun c => c = 161 ∨ c = 162 ∨ c = u ∨ c = u + 1) ∧
      (match goP ν pat ins T P with
      | .inl e => r = e
      | .inr T' => r = (T'.length : Int) ∧ TH μ' u T') := by
  obtain ⟨μ1, a1, a2, a3⟩ := s_fitsC (tOk_hi hu.1) (tOk_lo h1) hp hP hw hwp hF hS1
  have hle := tl_le (a := ar ν) (T.drop P) 1
  rw [List.length_drop] at hle
  have hf1 : Fr μ μ1 (fun c => c = 161 ∨ c = 162 ∨ c = u ∨ c = u + 1) := a2.mono (fun c hc => by unfold nS at hc; omega)
  rw [a1, cI_t]
  cases hfit : fit (ar ν) pat ((T.drop P).take (tl (ar ν) 1 (T.drop P))) (fun _ => none) with
  | none =>
    refine ⟨-22, μ1, rfl, hf1, ?_⟩
    unfold goP
    rw [hfit]
  | some σ =>
    have hs2 : TH μ1 sh2 ins := hS2.kept a2 (by unfold nS; omega) (by unfold nS; omega)
    obtain ⟨r, μ2, b1, b2, b3⟩ := s_becomesC (ν := ν) hi hTL (uOk_of hu h2) hP (hF.kept a2 (tOk_hi hu.1)) hs2 (a3 σ hfit) (by omega)
    have e1 : (if (some σ).isSome = true then (1 : Int) else 0) = 1 := rfl
    rw [e1, if_neg ten, b1, cI_t]
    refine ⟨r, μ2, rfl, hf1.trans (b2.mono (fun c hc => by unfold tS at hc; omega)), ?_⟩
    have hg : goP ν pat ins T P = (match sbs σ ins with
        | none => .inl (-23)
        | some v => if 20 < P + v.length + (T.length - (P + tl (ar ν) 1 (T.drop P))) then .inl (-24) else .inr (T.take P ++ v ++ T.drop (P + tl (ar ν) 1 (T.drop P)))) := by
      unfold goP
      rw [hfit]
      dsimp only
      cases sbs σ ins <;> rfl
    rw [hg]
    cases hsb : sbs σ ins with
    | none =>
      rw [hsb] at b3
      exact b3
    | some v =>
      rw [hsb] at b3
      by_cases hb : 20 < P + v.length + (T.length - (P + tl (ar ν) 1 (T.drop P)))
      · simp only [if_pos hb] at b3 ⊢
        exact b3
      · simp only [if_neg hb] at b3 ⊢
        exact b3
theorem s_usable {μ ν : Mem} (h : RelS μ ν) {e : Nat} (he : (e : Int) < ν 0 5) : f_X2_isUsable [vR 2 (31 + 5 * e)] μ = some (some (vI (if ν 7 e = 0 ∨ ν 7 e = 2 then 1 else 0)), μ) := by
  have hs := h.2.2.2.2.2.2.2.2 e he
  rw [q_X2_isUsable, hs.2.2.2.2.1, gz_1, gz_0]
  by_cases h0 : ν 7 e = 0
  · rw [if_pos h0, if_pos (Or.inl h0)]
  · rw [if_neg h0]
    by_cases h2 : ν 7 e = 2
    · rw [if_pos h2, if_pos (Or.inr h2)]
    · rw [if_neg h2, if_neg (by omega)]
theorem s_faceOf {μ ν : Mem} (h : RelW μ ν) (w : Int) : f_X9_faceOf [vR 9 1, vI w] μ = if 0 ≤ w ∧ w < ν 0 0 then some (some (vR 8 (7 + 4 * w.toNat)), μ) else some (some vN, μ) := by
  have h4 := h.2.1
  rw [q_X9_faceOf, h.2.2.2.1]
  by_cases hx : 0 ≤ w ∧ w < ν 0 0
  · rw [if_pos hx, if_neg (show ¬ w < 0 by omega), if_pos hx.2, gk (lnC 5) 4 rfl hx.1 (by omega)]
  · rw [if_neg hx]
    split
    · rfl
    · rw [if_neg (by omega)]
theorem s_meaningOf {μ ν : Mem} (h : RelW μ ν) (w : Int) : f_X9_meaningOf [vR 9 1, vI w] μ = if 0 ≤ w ∧ w < ν 0 0 then some (some (vR 8 (9 + 4 * w.toNat)), μ) else some (some vN, μ) := by
  have h4 := h.2.1
  rw [q_X9_meaningOf, h.2.2.2.1]
  by_cases hx : 0 ≤ w ∧ w < ν 0 0
  · rw [if_pos hx, if_neg (show ¬ w < 0 by omega), if_pos hx.2, gk (lnC 6) 4 rfl hx.1 (by omega)]
  · rw [if_neg hx]
    split
    · rfl
    · rw [if_neg (by omega)]
theorem fcL_LT {μ ν : Mem} (h : RelW μ ν) {w : Nat} (hw : (w : Int) < ν 0 0) : LT (fcL ν w) := by
  obtain ⟨⟨o1, o2, -⟩, -⟩ := h.2.2.2.2.1 w hw
  unfold fcL LT
  split <;> simp <;> omega
theorem fcL_isT {μ ν : Mem} (h : RelW μ ν) {w : Nat} (hw : (w : Int) < ν 0 0) : isT (ar ν) 1 (fcL ν w) := by
  obtain ⟨⟨o1, o2, o3, -⟩, -⟩ := h.2.2.2.2.1 w hw
  have hwb := wb_of h hw
  have ha : ar ν (ν 1 w) = ν 2 w := by
    unfold ar
    rw [if_neg (by omega), if_neg (by omega), hwb, if_neg (by omega), show ((w : Int)).toNat = w by omega]
  have h23 : ar ν 23 = 0 := ar_name (by omega)
  have h24 : ar ν 24 = 0 := ar_name (by omega)
  unfold fcL
  by_cases h1 : ν 2 w = 1
  · rw [if_pos h1]
    refine ⟨by omega, ?_⟩
    rw [ha, h1]
    exact ⟨by omega, by rw [h23]; trivial⟩
  · have h2 : ν 2 w = 2 := by omega
    rw [if_neg h1]
    refine ⟨by omega, ?_⟩
    rw [ha, h2]
    exact ⟨by omega, by rw [h23]; exact ⟨by omega, by rw [h24]; trivial⟩⟩
/-- one STEP of the class is the STEP -/
theorem s_goC {μ ν : Mem} {t u : Nat} {T : List Int} {kind which place wish : Int} (hW : RelW μ ν) (hS : RelS μ ν) (hu : tuOk t u) (hTL : LT T) (hw : isT (ar ν) 1 T) (hF : FC μ ν t T) (hk : 0 ≤ kind ∧ kind ≤ 3) (hwish : kind ≤ 1 → which = wish → ¬ (0 ≤ which ∧ which < ν 0 5 ∧ (ν 7 which.toNat = 0 ∨ ν 7 which.toNat = 2))) :
    ∃ r μ', f_X6_go [vR 6 157, vI kind, vI which, vI place, vI wish, vR 8 u] μ = some (some (vI r), μ') ∧ Fr μ μ' (goS u) ∧ μ' 157 2 = μ 157 2 ∧
      (match stp ν kind which place T with
      | .inl e => r = e
      | .inr T' => r = (T'.length : Int) ∧ TH μ' u T' ∧ μ' 157 6 = ptw ν kind which place T) := by
  have hFr1 : ∀ v, Fr μ (up μ 157 6 v) (goS u) := fun v => Fr.up (Or.inl rfl)
  have hKW : ∀ v, RelW (up μ 157 6 v) ν := fun v => hW.kept (fun c _ _ => up_cell (by omega))
  have hKS : ∀ v, RelS (up μ 157 6 v) ν := fun v => hS.kept (up_cell (by omega)) (fun c _ _ => up_cell (by omega))
  have hKF : ∀ v, FC (up μ 157 6 v) ν t T := fun v => by
    obtain ⟨f1, f2, f3, f4⟩ := hF
    exact ⟨by rw [up_slot (by omega)]; exact f1, f2.kept (S := fun c => c = 157) (fun c hc => up_cell hc) (by have := hu.1; omega) (by have := hu.1; omega), f3, by rw [up_cell (by omega)]; exact f4⟩
  have h572 : ∀ v, up μ 157 6 v 157 2 = μ 157 2 := fun v => up_slot (by omega)
  have fin : ∀ (v : Int) (sh1 sh2 P : Nat) (pat ins : List Int), sh1 + 1 < 157 → sh2 + 1 < 157 → LT pat → LT ins → P < T.length → isT (ar ν) 1 pat → TH (up μ 157 6 v) sh1 pat → TH (up μ 157 6 v) sh2 ins → ∃ r μ', cI (f_X6_fits [vR 6 157, vR 8 sh1, vI (P : Int)] (up μ 157 6 v)) (fun x μ => if x = 0 then some (some (vI (-22)), μ) else cI (f_X6_becomes [vR 6 157, vR 8 sh2, vI (P : Int), vR 8 u] μ) (fun y μ => some (some (vI y), μ))) = some (some (vI r), μ') ∧ Fr μ μ' (goS u) ∧ μ' 157 2 = μ 157 2 ∧
      (match goP ν pat ins T P with
      | .inl e => r = e
      | .inr T' => r = (T'.length : Int) ∧ TH μ' u T' ∧ μ' 157 6 = v) := by
    intro v sh1 sh2 P pat ins q1 q2 q3 q4 q5 q6 q7 q8
    obtain ⟨r, μ', a1, a2, a3⟩ := s_fb hu q1 q2 q3 q4 hTL q5 hw q6 (hKF v) q7 q8
    have e157 : μ' 157 = up μ 157 6 v 157 := a2 157 (by have := hu.2.1; omega)
    refine ⟨r, μ', a1, (hFr1 v).trans (a2.mono (fun c hc => by unfold goS; omega)), by rw [e157]; exact h572 v, ?_⟩
    cases hg : goP ν pat ins T P with
    | inl e => rw [hg] at a3; exact a3
    | inr T' => rw [hg] at a3; exact ⟨a3.1, a3.2, by rw [e157]; exact up_same _ _ _ _⟩
  rw [q_X6_go]
  have hF1 := (hKF (-4)).1
  have hT1 := (hKF (-4)).2.1
  unfold stp
  by_cases hpl : place < 0 ∨ (T.length : Int) ≤ place
  · rw [if_pos hpl]
    refine ⟨-20, up μ 157 6 (-4), ?_, hFr1 _, h572 _, rfl⟩
    by_cases hp0 : place < 0
    · rw [if_pos hp0]
    · rw [if_neg hp0, hF1, show ((t : Int)).toNat = t by omega, hT1.1, if_neg (by omega)]
  rw [if_neg hpl, if_neg (show ¬ place < 0 by omega), hF1, show ((t : Int)).toNat = t by omega, hT1.1, if_pos (show place < (T.length : Int) by omega)]
  obtain ⟨P, rfl⟩ : ∃ P : Nat, place = (P : Int) := ⟨place.toNat, by omega⟩
  have hPl : P < T.length := by omega
  rw [show ((P : Int)).toNat = P by omega]
  have sayings : kind ≤ 1 → ∀ (X Y : Option Rs) (K : Nat → Mem → Option Rs), (¬ (0 ≤ which ∧ which < ν 0 5 ∧ (ν 7 which.toNat = 0 ∨ ν 7 which.toNat = 2)) → (if which = wish then some (some (vI (-21)), up μ 157 6 (-4)) else cR 2 (f_X3_get [vR 3 23, vI which] (up μ 157 6 (-4))) (fun μ1 => some (some (vI (-21)), μ1)) (fun c2 μ1 => cI (f_X2_isUsable [vR 2 c2] μ1) (fun x4 μ3 => if x4 = 0 then some (some (vI (-21)), μ3) else K c2 μ3))) = some (some (vI (-21)), up μ 157 6 (-4))) ∧ ((0 ≤ which ∧ which < ν 0 5 ∧ (ν 7 which.toNat = 0 ∨ ν 7 which.toNat = 2)) → (if which = wish then some (some (vI (-21)), up μ 157 6 (-4)) else cR 2 (f_X3_get [vR 3 23, vI which] (up μ 157 6 (-4))) (fun μ1 => some (some (vI (-21)), μ1)) (fun c2 μ1 => cI (f_X2_isUsable [vR 2 c2] μ1) (fun x4 μ3 => if x4 = 0 then some (some (vI (-21)), μ3) else K c2 μ3))) = K (31 + 5 * which.toNat) (up μ 157 6 (-4))) := by
    intro hk1 X Y K
    constructor
    · intro hn
      by_cases hww : which = wish
      · rw [if_pos hww]
      rw [if_neg hww]
      by_cases hr : 0 ≤ which ∧ which < ν 0 5
      · rw [get_t (hKS _) hr, cR_s, s_usable (hKS _) (e := which.toNat) (by omega), cI_t, if_neg (show ¬ (ν 7 which.toNat = 0 ∨ ν 7 which.toNat = 2) from fun q => hn ⟨hr.1, hr.2, q⟩), if_pos rfl]
      · rw [get_f (hKS _) hr, cR_n]
    · intro hy
      rw [if_neg (fun q => hwish hk1 q hy), get_t (hKS _) ⟨hy.1, hy.2.1⟩, cR_s, s_usable (hKS _) (e := which.toNat) (by omega), cI_t, if_pos hy.2.2, if_neg ten]
  have cond : (which < 0 ∨ ν 0 5 ≤ which ∨ ¬ (ν 7 which.toNat = 0 ∨ ν 7 which.toNat = 2)) ↔ ¬ (0 ≤ which ∧ which < ν 0 5 ∧ (ν 7 which.toNat = 0 ∨ ν 7 which.toNat = 2)) := by omega
  by_cases k0 : kind = 0
  · subst k0
    rw [if_pos rfl, if_pos (show (0 : Int) ≤ 1 by omega)]
    obtain ⟨sA, sB⟩ := sayings (by omega) none none (fun c2 μ3 => if (0 : Int) = 0 then if (0 : Int) = 0 then cI (f_X6_fits [vR 6 157, vR 8 (c2 + 1), vI (P : Int)] μ3) (fun x18 μ17 => if x18 = 0 then some (some (vI (-22)), μ17) else cI (f_X6_becomes [vR 6 157, vR 8 (c2 + 3), vI (P : Int), vR 8 u] μ17) (fun x20 μ19 => some (some (vI x20), μ19))) else cI (f_X6_fits [vR 6 157, vR 8 (c2 + 1), vI (P : Int)] μ3) (fun x14 μ13 => if x14 = 0 then some (some (vI (-22)), μ13) else cI (f_X6_becomes [vR 6 157, vR 8 (c2 + 1), vI (P : Int), vR 8 u] μ13) (fun x16 μ15 => some (some (vI x16), μ15))) else if (0 : Int) = 0 then cI (f_X6_fits [vR 6 157, vR 8 (c2 + 3), vI (P : Int)] μ3) (fun x10 μ9 => if x10 = 0 then some (some (vI (-22)), μ9) else cI (f_X6_becomes [vR 6 157, vR 8 (c2 + 3), vI (P : Int), vR 8 u] μ9) (fun x12 μ11 => some (some (vI x12), μ11))) else cI (f_X6_fits [vR 6 157, vR 8 (c2 + 3), vI (P : Int)] μ3) (fun x6 μ5 => if x6 = 0 then some (some (vI (-22)), μ5) else cI (f_X6_becomes [vR 6 157, vR 8 (c2 + 1), vI (P : Int), vR 8 u] μ5) (fun x8 μ7 => some (some (vI x8), μ7))))
    by_cases hy : 0 ≤ which ∧ which < ν 0 5 ∧ (ν 7 which.toNat = 0 ∨ ν 7 which.toNat = 2)
    · rw [sB hy, if_neg (fun q => cond.mp q hy), if_pos rfl, if_pos rfl, if_pos rfl]
      have hs := (hKS (-4)).2.2.2.2.2.2.2.2 which.toNat (by omega)
      have h24 := hS.2.1
      have hr := fin (-4) (31 + 5 * which.toNat + 1) (31 + 5 * which.toNat + 3) P _ _ (by omega) (by omega) hs.1.2.2.1 hs.2.1.2.2.1 hPl hs.1.2.2.2 (by rw [show 31 + 5 * which.toNat + 1 = 32 + 5 * which.toNat by omega]; exact hs.2.2.1) (by rw [show 31 + 5 * which.toNat + 3 = 34 + 5 * which.toNat by omega]; exact hs.2.2.2.1)
      exact hr
    · rw [sA hy, if_pos (cond.mpr hy)]
      exact ⟨-21, _, rfl, hFr1 _, h572 _, rfl⟩
  rw [if_neg k0]
  by_cases k1 : kind = 1
  · subst k1
    rw [if_pos rfl, if_pos (show (1 : Int) ≤ 1 by omega)]
    obtain ⟨sA, sB⟩ := sayings (by omega) none none (fun c2 μ3 => if (1 : Int) = 0 then if (1 : Int) = 0 then cI (f_X6_fits [vR 6 157, vR 8 (c2 + 1), vI (P : Int)] μ3) (fun x18 μ17 => if x18 = 0 then some (some (vI (-22)), μ17) else cI (f_X6_becomes [vR 6 157, vR 8 (c2 + 3), vI (P : Int), vR 8 u] μ17) (fun x20 μ19 => some (some (vI x20), μ19))) else cI (f_X6_fits [vR 6 157, vR 8 (c2 + 1), vI (P : Int)] μ3) (fun x14 μ13 => if x14 = 0 then some (some (vI (-22)), μ13) else cI (f_X6_becomes [vR 6 157, vR 8 (c2 + 1), vI (P : Int), vR 8 u] μ13) (fun x16 μ15 => some (some (vI x16), μ15))) else if (1 : Int) = 0 then cI (f_X6_fits [vR 6 157, vR 8 (c2 + 3), vI (P : Int)] μ3) (fun x10 μ9 => if x10 = 0 then some (some (vI (-22)), μ9) else cI (f_X6_becomes [vR 6 157, vR 8 (c2 + 3), vI (P : Int), vR 8 u] μ9) (fun x12 μ11 => some (some (vI x12), μ11))) else cI (f_X6_fits [vR 6 157, vR 8 (c2 + 3), vI (P : Int)] μ3) (fun x6 μ5 => if x6 = 0 then some (some (vI (-22)), μ5) else cI (f_X6_becomes [vR 6 157, vR 8 (c2 + 1), vI (P : Int), vR 8 u] μ5) (fun x8 μ7 => some (some (vI x8), μ7))))
    by_cases hy : 0 ≤ which ∧ which < ν 0 5 ∧ (ν 7 which.toNat = 0 ∨ ν 7 which.toNat = 2)
    · rw [sB hy, if_neg (fun q => cond.mp q hy), if_neg ten, if_neg ten, if_neg ten]
      have hs := (hKS (-4)).2.2.2.2.2.2.2.2 which.toNat (by omega)
      have h24 := hS.2.1
      exact fin (-4) (31 + 5 * which.toNat + 3) (31 + 5 * which.toNat + 1) P _ _ (by omega) (by omega) hs.2.1.2.2.1 hs.1.2.2.1 hPl hs.2.1.2.2.2 (by rw [show 31 + 5 * which.toNat + 3 = 34 + 5 * which.toNat by omega]; exact hs.2.2.2.1) (by rw [show 31 + 5 * which.toNat + 1 = 32 + 5 * which.toNat by omega]; exact hs.2.2.1)
    · rw [sA hy, if_pos (cond.mpr hy)]
      exact ⟨-21, _, rfl, hFr1 _, h572 _, rfl⟩
  rw [if_neg k1, if_neg (show ¬ kind ≤ 1 by omega)]
  have upup : ∀ v, up (up μ 157 6 (-4)) 157 6 v = up μ 157 6 v := fun v => by
    funext c i
    unfold up
    split <;> rfl
  by_cases k2 : kind = 2
  · subst k2
    rw [if_pos rfl, if_pos rfl, s_at hT1, cI_t, s_numberOf (hKW _), cI_t, if_pos rfl, upup, up_same]
    generalize hwv : wb ν (atL T (P : Int)) = w
    rw [s_faceOf (hKW w)]
    have hr := wb_range hW (atL T (P : Int))
    rw [hwv] at hr
    have hptw : ptw ν 2 which (P : Int) T = w := by
      unfold ptw
      rw [if_pos rfl, hwv]
    by_cases hw4 : w = -4
    · rw [if_pos hw4, if_neg (show ¬ (0 ≤ w ∧ w < ν 0 0) by omega), cR_n, if_pos rfl, up_same, s_meaningOf (hKW w), if_neg (show ¬ (0 ≤ w ∧ w < ν 0 0) by omega), cR_n]
      exact ⟨-21, _, rfl, hFr1 _, h572 _, rfl⟩
    · have hrg : 0 ≤ w ∧ w < ν 0 0 := by omega
      rw [if_neg hw4, if_pos hrg, cR_s, if_pos rfl, up_same, s_meaningOf (hKW w), if_pos hrg, cR_s]
      have hs := (hKW w).2.2.2.2.1 w.toNat (by omega)
      have h4 := hW.2.1
      have hr := fin w (7 + 4 * w.toNat) (9 + 4 * w.toNat) P _ _ (by omega) (by omega) (fcL_LT hW (by omega)) hs.1.2.2.2.2.2.1 hPl (fcL_isT hW (by omega)) hs.2.2.2.2 hs.2.2.2.1
      rw [hptw]
      exact hr
  rw [if_neg k2, if_neg k2, if_neg k2]
  obtain rfl : kind = 3 := by omega
  rw [upup, up_same, s_meaningOf (hKW which)]
  have hptw : ptw ν 3 which (P : Int) T = which := by
    unfold ptw
    rw [if_neg (by decide), if_pos rfl]
  by_cases hrg : 0 ≤ which ∧ which < ν 0 0
  · rw [if_pos hrg, cR_s, if_neg (show ¬ (3 : Int) = 2 by decide), up_same, s_faceOf (hKW which), if_pos hrg, cR_s, if_neg (show ¬ (which < 0 ∨ ν 0 0 ≤ which) by omega)]
    have hs := (hKW which).2.2.2.2.1 which.toNat (by omega)
    have h4 := hW.2.1
    have hr := fin which (9 + 4 * which.toNat) (7 + 4 * which.toNat) P _ _ (by omega) (by omega) hs.1.2.2.2.2.2.1 (fcL_LT hW (by omega)) hPl hs.1.2.2.2.2.2.2.1 hs.2.2.2.1 hs.2.2.2.2
    rw [hptw]
    exact hr
  · rw [if_neg hrg, cR_n, if_neg (show ¬ (3 : Int) = 2 by decide), up_same, s_faceOf (hKW which), if_neg hrg, cR_n, if_pos (show which < 0 ∨ ν 0 0 ≤ which by omega)]
    exact ⟨-21, _, rfl, hFr1 _, h572 _, rfl⟩
