/-! a row of the class and the reference's TERM go side by side -/
def rwF (v0 : Nat) (c : Nat) : Prop := (157 ≤ c ∧ c ≤ 162) ∨ (v0 ≤ c ∧ c ≤ v0 + 47)
def RwK (μ ν : Mem) (v0 e n : Nat) (Ts : Nat → List Int) : Prop := μ v0 7 = (e : Int) ∧ μ v0 8 = (n : Int) ∧ n ≤ 20 ∧ Ts 0 = sL ν e 0 ∧ TH μ (v0 + 5 + 1 + 2 * n) (Ts n) ∧ okT ν (Ts n) ∧
  ∀ i, i < n → stp ν (μ (v0 + 1) i) (μ (v0 + 2) i) (μ (v0 + 3) i) (Ts i) = .inr (Ts (i + 1)) ∧ 0 ≤ μ (v0 + 1) i ∧ μ (v0 + 1) i ≤ 3 ∧ μ (v0 + 4) i = ptw ν (μ (v0 + 1) i) (μ (v0 + 2) i) (μ (v0 + 3) i) (Ts i)
def exT (Ts : Nat → List Int) (n : Nat) (T : List Int) : Nat → List Int := fun i => if i = n then T else Ts i
theorem rwK_begin {μ ν : Mem} {v0 e : Nat} (hv : rwV v0) (hS : RelS μ ν) (he : (e : Int) < ν 0 5) : ∃ μ', f_X1_begin [vR 1 v0, vI e] μ = some (none, μ') ∧ Fr μ μ' (rwF v0) ∧ RwK μ' ν v0 e 0 (fun _ => sL ν e 0) := by
  obtain ⟨μ', a1, a2, a3, a4, a5⟩ := s_rowBegin hv hS he
  exact ⟨μ', a1, a2.mono (fun c hc => by unfold rwF; omega), a3, a4, by omega, rfl, a5, okT_sL hS he (by omega), fun i hi => by omega⟩
theorem stp_k2 {ν : Mem} {kind which w place : Int} {T : List Int} (hw : (if kind = 2 then -4 else which) = w) : stp ν kind w place T = stp ν kind which place T ∧ ptw ν kind w place T = ptw ν kind which place T := by
  by_cases k2 : kind = 2
  · subst k2; exact ⟨rfl, rfl⟩
  · rw [if_neg k2] at hw; rw [hw]; exact ⟨rfl, rfl⟩
theorem rwK_go {μ ν : Mem} {v0 e n : Nat} {Ts : Nat → List Int} {kind which place : Int} (hv : rwV v0) (hW : RelW μ ν) (hS : RelS μ ν) (h : RwK μ ν v0 e n Ts) (hn : n < 20) (hk : 0 ≤ kind ∧ kind ≤ 3) (hwish : kind ≤ 1 → which = (e : Int) → ¬ (0 ≤ which ∧ which < ν 0 5 ∧ (ν 7 which.toNat = 0 ∨ ν 7 which.toNat = 2))) :
    ∃ r μ', f_X1_go [vR 1 v0, vI kind, vI which, vI place] μ = some (some (vI r), μ') ∧ Fr μ μ' (rwF v0) ∧ ((r < 0 ∧ stp ν kind which place (Ts n) = .inl r) ∨ (∃ T', 0 ≤ r ∧ stp ν kind which place (Ts n) = .inr T' ∧ RwK μ' ν v0 e (n + 1) (exT Ts (n + 1) T') ∧ μ' (v0 + 1) n = kind ∧ μ' (v0 + 2) n = (if kind = 2 then -4 else which) ∧ μ' (v0 + 3) n = place ∧ ∀ i, i < n → μ' (v0 + 1) i = μ (v0 + 1) i ∧ μ' (v0 + 2) i = μ (v0 + 2) i ∧ μ' (v0 + 3) i = μ (v0 + 3) i)) := by
  obtain ⟨h7, h8, h20, h0, hT, hok, hst⟩ := h
  have hv1 : 163 ≤ v0 ∧ v0 ≤ 211 := by rcases hv with q | q <;> omega
  obtain ⟨r, μ1, μ', a1, a2, a3⟩ := s_rowGo (kind := kind) (which := which) (place := place) hv hW hS h8 hn hT hok hk (by rw [h7]; exact hwish)
  have hF1 : Fr μ μ1 (rwF v0) := a2.mono (fun c hc => by unfold rwS at hc; unfold rwF; omega)
  refine ⟨r, μ', a1, ?_⟩
  cases hs : stp ν kind which place (Ts n) with
  | inl er =>
    rw [hs] at a3
    obtain ⟨rfl, rfl⟩ := a3
    exact ⟨hF1, Or.inl ⟨stp_inl hs, rfl⟩⟩
  | inr T' =>
    rw [hs] at a3
    obtain ⟨b1, b2, rfl⟩ := a3
    generalize hw : (if kind = 2 then -4 else which) = w
    have K : ∀ c, v0 ≤ c → c ≤ v0 + 4 → μ1 c = μ c := fun c q1 q2 => a2 c (by unfold rwS; omega)
    have hF2 : Fr μ1 (rowUp μ1 v0 n kind w place (ptw ν kind which place (Ts n))) (rwF v0) := fun c hc => rowUp_o (by unfold rwF at hc; omega)
    refine ⟨hF1.trans hF2, Or.inr ⟨T', by omega, rfl, ⟨?_, ?_, by omega, ?_, ?_, ?_, fun i hi => ?_⟩, ?_, ?_, ?_, fun i hi => ?_⟩⟩
    · rw [rowUp_0, if_neg (by omega), K v0 (by omega) (by omega)]; exact h7
    · rw [rowUp_0, if_pos rfl]
    · unfold exT; rw [if_neg (by omega)]; exact h0
    · unfold exT
      rw [if_pos rfl]
      exact b2.kept (S := fun c => v0 ≤ c ∧ c ≤ v0 + 4) (fun c hc => rowUp_o hc) (by omega) (by omega)
    · unfold exT
      rw [if_pos rfl]
      exact stp_inr hW hS hok hk hs
    · rw [rowUp_1, rowUp_2, rowUp_3, rowUp_4, K (v0 + 1) (by omega) (by omega), K (v0 + 2) (by omega) (by omega), K (v0 + 3) (by omega) (by omega), K (v0 + 4) (by omega) (by omega)]
      unfold exT
      by_cases q : i = n
      · subst q
        have e2 := stp_k2 (ν := ν) (kind := kind) (which := which) (place := place) (T := Ts i) hw
        rw [if_pos rfl, if_pos rfl, if_pos rfl, if_pos rfl, if_neg (show ¬ i = i + 1 by omega), if_pos rfl, e2.1, e2.2]
        exact ⟨hs, hk.1, hk.2, rfl⟩
      · rw [if_neg q, if_neg q, if_neg q, if_neg q, if_neg (show ¬ i = n + 1 by omega), if_neg (show ¬ i + 1 = n + 1 by omega)]
        exact hst i (by omega)
    · rw [rowUp_1, if_pos rfl]
    · rw [rowUp_2, if_pos rfl]
    · rw [rowUp_3, if_pos rfl]
    · rw [rowUp_1, rowUp_2, rowUp_3, if_neg (by omega), if_neg (by omega), if_neg (by omega), K (v0 + 1) (by omega) (by omega), K (v0 + 2) (by omega) (by omega), K (v0 + 3) (by omega) (by omega)]
      exact ⟨rfl, rfl, rfl⟩
theorem refGo {μ ν ν1 : Mem} {T : List Int} {kind which place : Int} (hW : RelW μ ν) (hS : RelS μ ν) (hok : okT ν T) (hf : FrV ν ν1) (hT : RT ν1 20 36 T) (hk : 0 ≤ kind ∧ kind ≤ 3) :
    ∃ r ν2, f_X12_steps [vR 12 0, vI kind, vI which, vI place] ν1 = some (some (vI r), ν2) ∧ FrV ν ν2 ∧ ((r < 0 ∧ stp ν kind which place T = .inl r) ∨ (∃ T', r = 0 ∧ stp ν kind which place T = .inr T' ∧ RT ν2 21 38 T')) := by
  have hM := frV_M hf
  obtain ⟨r, ν2, a1, a2, a3⟩ := s_stepsR (kind := kind) (which := which) (place := place) (hW.keptR hM) (hS.keptR hM (hf.2 15 (by omega) (by omega) (by omega) (by omega)) (hf.2 16 (by omega) (by omega) (by omega) (by omega))) (by rw [frM_ar hM]; exact hok.1) hT hk
  rw [frM_stp hM] at a3
  refine ⟨r, ν2, a1, frV_trans hf (frV_S a2), ?_⟩
  cases hs : stp ν kind which place T with
  | inl er =>
    rw [hs] at a3
    have a3' : r = er := a3
    subst a3'
    exact Or.inl ⟨stp_inl hs, rfl⟩
  | inr T' =>
    rw [hs] at a3
    exact Or.inr ⟨T', a3.1, rfl, a3.2⟩
/-- both take one STEP -/
theorem lock {μ ν ν1 : Mem} {v0 e n : Nat} {Ts : Nat → List Int} {kind which place : Int} (hv : rwV v0) (hW : RelW μ ν) (hS : RelS μ ν) (h : RwK μ ν v0 e n Ts) (hn : n < 20) (hf : FrV ν ν1) (hT : RT ν1 20 36 (Ts n)) (hk : 0 ≤ kind ∧ kind ≤ 3) (hwish : kind ≤ 1 → which = (e : Int) → ¬ (0 ≤ which ∧ which < ν 0 5 ∧ (ν 7 which.toNat = 0 ∨ ν 7 which.toNat = 2))) :
    ∃ r μ' r2 ν2, f_X1_go [vR 1 v0, vI kind, vI which, vI place] μ = some (some (vI r), μ') ∧ f_X12_steps [vR 12 0, vI kind, vI which, vI place] ν1 = some (some (vI r2), ν2) ∧ Fr μ μ' (rwF v0) ∧ FrV ν ν2 ∧ ((r < 0 ∧ r2 < 0 ∧ stp ν kind which place (Ts n) = .inl r) ∨ (∃ T', 0 ≤ r ∧ r2 = 0 ∧ stp ν kind which place (Ts n) = .inr T' ∧ RT ν2 21 38 T' ∧ RwK μ' ν v0 e (n + 1) (exT Ts (n + 1) T') ∧ μ' (v0 + 1) n = kind ∧ μ' (v0 + 2) n = (if kind = 2 then -4 else which) ∧ μ' (v0 + 3) n = place ∧ ∀ i, i < n → μ' (v0 + 1) i = μ (v0 + 1) i ∧ μ' (v0 + 2) i = μ (v0 + 2) i ∧ μ' (v0 + 3) i = μ (v0 + 3) i)) := by
  obtain ⟨r, μ', a1, a2, a3⟩ := rwK_go (kind := kind) (which := which) (place := place) hv hW hS h hn hk hwish
  obtain ⟨r2, ν2, b1, b2, b3⟩ := refGo (kind := kind) (which := which) (place := place) hW hS h.2.2.2.2.2.1 hf hT hk
  refine ⟨r, μ', r2, ν2, a1, b1, a2, b2, ?_⟩
  rcases a3 with ⟨a4, a5⟩ | ⟨T', a4, a5, a6⟩
  · rcases b3 with ⟨b4, b5⟩ | ⟨T2, b4, b5, b6⟩
    · exact Or.inl ⟨a4, b4, a5⟩
    · rw [a5] at b5; cases b5
  · rcases b3 with ⟨b4, b5⟩ | ⟨T2, b4, b5, b6⟩
    · rw [a5] at b5; cases b5
    · rw [a5] at b5
      cases b5
      exact Or.inr ⟨T', a4, b4, a5, b6, a6⟩
