/-! THE ROW of the class: a PROOF in hand, or one that is tried -/
def rwV (v0 : Nat) : Prop := v0 = 163 ∨ v0 = 211
theorem rw_ln {v0 : Nat} (h : rwV v0) : lnC (v0 + 1) = 20 ∧ lnC (v0 + 2) = 20 ∧ lnC (v0 + 3) = 20 ∧ lnC (v0 + 4) = 20 ∧ lnC (v0 + 5) = 21 := by
  rcases h with rfl | rfl <;> exact ⟨rfl, rfl, rfl, rfl, rfl⟩
theorem rw_lnA : ∀ n, n < 21 → lnC (163 + 5 + 1 + 2 * n + 1) = 20 := by decide
theorem rw_lnB : ∀ n, n < 21 → lnC (211 + 5 + 1 + 2 * n + 1) = 20 := by decide
theorem rw_lnT {v0 : Nat} (h : rwV v0) {n : Nat} (hn : n ≤ 20) : lnC (v0 + 5 + 1 + 2 * n + 1) = 20 := by
  rcases h with rfl | rfl
  · exact rw_lnA n (by omega)
  · exact rw_lnB n (by omega)
def rwS (v0 n : Nat) : Nat → Prop := fun c => c = 157 ∨ c = 160 ∨ c = 161 ∨ c = 162 ∨ c = v0 + 5 + 1 + 2 * (n + 1) ∨ c = v0 + 5 + 1 + 2 * (n + 1) + 1
def rowUp (μ : Mem) (v0 n : Nat) (k w p q : Int) : Mem := up (up (up (up (up μ (v0 + 1) n k) (v0 + 2) n w) (v0 + 3) n p) (v0 + 4) n q) v0 8 ((n + 1 : Nat) : Int)
theorem s_rowGo {μ ν : Mem} {v0 n : Nat} {T : List Int} {kind which place : Int} (hv : rwV v0) (hW : RelW μ ν) (hS : RelS μ ν) (h8 : μ v0 8 = (n : Int)) (hn : n < 20) (hT : TH μ (v0 + 5 + 1 + 2 * n) T) (hok : okT ν T) (hk : 0 ≤ kind ∧ kind ≤ 3) (hwish : kind ≤ 1 → which = μ v0 7 → ¬ (0 ≤ which ∧ which < ν 0 5 ∧ (ν 7 which.toNat = 0 ∨ ν 7 which.toNat = 2))) :
    ∃ r μ1 μ', f_X1_go [vR 1 v0, vI kind, vI which, vI place] μ = some (some (vI r), μ') ∧ Fr μ μ1 (rwS v0 n) ∧
      (match stp ν kind which place T with
      | .inl e => r = e ∧ μ' = μ1
      | .inr T' => r = (T'.length : Int) ∧ TH μ1 (v0 + 5 + 1 + 2 * (n + 1)) T' ∧ μ' = rowUp μ1 v0 n kind (if kind = 2 then -4 else which) place (ptw ν kind which place T)) := by
  obtain ⟨l1, l2, l3, l4, l5⟩ := rw_ln hv
  have hv1 : 163 ≤ v0 ∧ v0 ≤ 211 := by rcases hv with q | q <;> omega
  obtain ⟨μ1, a1, a2, a3, a4, a5⟩ := s_look (ν := ν) hW hT hok.2.2 hok.1 (by omega)
  have hFa : Fr μ μ1 (rwS v0 n) := fun c hc => a2 c (by unfold rwS at hc; omega) (by unfold rwS at hc; omega)
  have hW1 : RelW μ1 ν := hW.kept (fun c _ _ => a2 c (by omega) (by omega))
  have hS1 : RelS μ1 ν := hS.kept (a2 23 (by omega) (by omega)) (fun c _ _ => a2 c (by omega) (by omega))
  have hv0 : μ1 v0 = μ v0 := a2 v0 (by omega) (by omega)
  have hT1 : TH μ1 (v0 + 5 + 1 + 2 * n) T := hT.kept (S := fun c => c = 157 ∨ c = 160) (fun c hc => a2 c (by omega) (by omega)) (by omega) (by omega)
  have hFC : FC μ1 ν (v0 + 5 + 1 + 2 * n) T := ⟨a3, hT1, hok.2.2, a5⟩
  have hu : tuOk (v0 + 5 + 1 + 2 * n) (v0 + 5 + 1 + 2 * (n + 1)) := ⟨by omega, by omega, by omega, by omega, by omega, rw_lnT hv (by omega)⟩
  obtain ⟨r, μ2, b1, b2, b3, b4⟩ := s_goC (place := place) (wish := μ1 v0 7) hW1 hS1 hu hok.2.1 hok.1 hFC hk (by rw [hv0]; exact hwish)
  have hFb : Fr μ μ2 (rwS v0 n) := hFa.trans (b2.mono (fun c hc => by unfold goS at hc; unfold rwS; omega))
  have e8 : μ2 v0 8 = (n : Int) := by rw [hFb v0 (by unfold rwS; omega)]; exact h8
  rw [q_X1_go, h8, if_pos (by omega), gk (lnC (v0 + 5)) 21 l5 (by omega) (by omega), show ((n : Int)).toNat = n by omega, a1, cV_t, hv0, h8, wr_eq (x := (n : Int) + 1) (by omega) (by omega), gk (lnC (v0 + 5)) 21 l5 (by omega) (by omega), show ((n : Int) + 1).toNat = n + 1 by omega]
  rw [hv0] at b1
  rw [b1, cI_t]
  cases hs : stp ν kind which place T with
  | inl e =>
    rw [hs] at b4
    have he := stp_inl hs
    have b4' : r = e := b4
    rw [if_pos (show r < 0 by omega)]
    exact ⟨r, μ2, μ2, rfl, hFb, b4', rfl⟩
  | inr T' =>
    rw [hs] at b4
    obtain ⟨c1, c2, c3⟩ := b4
    rw [if_neg (show ¬ r < 0 by omega)]
    have u1 : ∀ (m : Mem) (i : Nat) (v : Int), up m (v0 + 1) i v v0 = m v0 := fun m i v => up_cell (by omega)
    have u2 : ∀ (m : Mem) (i : Nat) (v : Int), up m (v0 + 2) i v v0 = m v0 := fun m i v => up_cell (by omega)
    have u3 : ∀ (m : Mem) (i : Nat) (v : Int), up m (v0 + 3) i v v0 = m v0 := fun m i v => up_cell (by omega)
    have u4 : ∀ (m : Mem) (i : Nat) (v : Int), up m (v0 + 4) i v v0 = m v0 := fun m i v => up_cell (by omega)
    have w1 : ∀ (m : Mem) (i : Nat) (v : Int), up m (v0 + 1) i v 157 = m 157 := fun m i v => up_cell (by omega)
    have w2 : ∀ (m : Mem) (i : Nat) (v : Int), up m (v0 + 2) i v 157 = m 157 := fun m i v => up_cell (by omega)
    have w3 : ∀ (m : Mem) (i : Nat) (v : Int), up m (v0 + 3) i v 157 = m 157 := fun m i v => up_cell (by omega)
    simp only [u1, u2, u3, u4, w1, w2, w3, e8, c3, Int.toNat_natCast]
    rw [gk (lnC (v0 + 1)) 20 l1 (by omega) (by omega), gk (lnC (v0 + 2)) 20 l2 (by omega) (by omega), gk (lnC (v0 + 2)) 20 l2 (by omega) (by omega), gk (lnC (v0 + 3)) 20 l3 (by omega) (by omega), gk (lnC (v0 + 3)) 20 l3 (by omega) (by omega), gk (lnC (v0 + 4)) 20 l4 (by omega) (by omega), gk (lnC (v0 + 4)) 20 l4 (by omega) (by omega), wr_eq (x := (n : Int) + 1) (by omega) (by omega), show (n : Int) + 1 = ((n + 1 : Nat) : Int) by omega]
    by_cases k2 : kind = 2
    · rw [if_pos k2, if_pos k2]
      exact ⟨r, μ2, _, rfl, hFb, c1, c2, rfl⟩
    · rw [if_neg k2, if_neg k2]
      exact ⟨r, μ2, _, rfl, hFb, c1, c2, rfl⟩
theorem s_now {μ : Mem} {v0 n : Nat} (hv : rwV v0) (h8 : μ v0 8 = (n : Int)) (hn : n ≤ 20) : f_X1_now [vR 1 v0] μ = some (some (vR 8 (v0 + 5 + 1 + 2 * n)), μ) := by
  obtain ⟨l1, l2, l3, l4, l5⟩ := rw_ln hv
  rw [q_X1_now, h8, gk (lnC (v0 + 5)) 21 l5 (by omega) (by omega), show ((n : Int)).toNat = n by omega]
theorem s_arrived {μ ν : Mem} {v0 n e : Nat} {T : List Int} (hv : rwV v0) (hS : RelS μ ν) (he : (e : Int) < ν 0 5) (h7 : μ v0 7 = (e : Int)) (h8 : μ v0 8 = (n : Int)) (hn : n ≤ 20) (hT : TH μ (v0 + 5 + 1 + 2 * n) T) : f_X1_arrived [vR 1 v0] μ = some (some (vI (if T = sL ν e 1 then 1 else 0)), μ) := by
  have hs := hS.2.2.2.2.2.2.2.2 e he
  rw [q_X1_arrived, h7, get_t hS ⟨by omega, he⟩, cR_s, s_now hv h8 hn, cR_s, show ((e : Int)).toNat = e by omega, show 31 + 5 * e + 3 = 34 + 5 * e by omega, s_same hT hs.2.2.2.1, cI_t]
  by_cases q : T = sL ν e 1
  · rw [if_pos q, if_neg ten, gz_1]
  · rw [if_neg q, if_pos rfl, gz_0]
theorem s_rowBegin {μ ν : Mem} {v0 e : Nat} (hv : rwV v0) (hS : RelS μ ν) (he : (e : Int) < ν 0 5) : ∃ μ', f_X1_begin [vR 1 v0, vI e] μ = some (none, μ') ∧ Fr μ μ' (fun c => c = v0 ∨ c = v0 + 5 + 1 ∨ c = v0 + 5 + 1 + 1) ∧ μ' v0 7 = (e : Int) ∧ μ' v0 8 = 0 ∧ TH μ' (v0 + 5 + 1) (sL ν e 0) := by
  obtain ⟨l1, l2, l3, l4, l5⟩ := rw_ln hv
  have hv1 : 163 ≤ v0 ∧ v0 ≤ 211 := by rcases hv with q | q <;> omega
  have hs := hS.2.2.2.2.2.2.2.2 e he
  have h24 := hS.2.1
  have hf : ∀ c, c ≠ v0 → up (up μ v0 7 (e : Int)) v0 8 0 c = μ c := fun c hc => by rw [up_cell hc, up_cell hc]
  have hT : TH (up (up μ v0 7 (e : Int)) v0 8 0) (32 + 5 * e) (sL ν e 0) := hs.2.2.1.kept (S := fun c => c = v0) (fun c hc => hf c hc) (by omega) (by omega)
  have hl : lnC (v0 + 5 + 1 + 1) = 20 := rw_lnT hv (n := 0) (by omega)
  obtain ⟨μ', a1, a2, a3⟩ := s_copy (t := v0 + 5 + 1) hT hs.1.2.2.1.by (by unfold tS; omega) (by unfold tS; omega) (by rw [hl]; exact (okT_sL hS he (by omega)).2.2)
  refine ⟨μ', ?_, fun c hc => ?_, ?_, ?_, a2⟩
  · rw [q_X1_begin, get_t hS ⟨by omega, he⟩, cR_s, gk (lnC (v0 + 5)) 21 l5 (by omega) (by omega), show ((e : Int)).toNat = e by omega, show 31 + 5 * e + 1 = 32 + 5 * e by omega]
    show cV (f_X8_copy [vR 8 (v0 + 5 + 1), vR 8 (32 + 5 * e)] _) _ = _
    rw [a1, cV_t]
  · rw [a3 c (by unfold tS; omega), hf c (by omega)]
  · rw [a3 v0 (by unfold tS; omega), up_slot (by omega), up_same]
  · rw [a3 v0 (by unfold tS; omega), up_same]
